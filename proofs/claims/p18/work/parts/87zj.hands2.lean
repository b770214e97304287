/-! hands: what class and reference count -/
def clS (S : Int → Int) (i : Nat) : Int := 5 * S (1 + 2 * (i : Int)) + S (2 + 2 * (i : Int))
def SGt (S : Int → Int) (n : Int) : Prop := (0 ≤ n ∧ n ≤ 8) ∧ ∀ y, 0 ≤ y → y < n → (0 ≤ S (1 + 2 * y) ∧ S (1 + 2 * y) ≤ 5) ∧ 0 ≤ S (2 + 2 * y) ∧ S (2 + 2 * y) ≤ 4
def SV (A : Mem) (sa : Int) (S : Int → Int) (n : Int) : Prop := WT A ∧ SGA sa ∧ A.1 sa 0 = n ∧ (∀ y, 0 ≤ y → y < n → A.1 (sa + 1) y = S (1 + 2 * y) ∧ A.1 (sa + 2) y = S (2 + 2 * y)) ∧ SGt S n
section Hands2
variable {O P A B M N : Mem} {D L S E : Int → Int} {a l k q n sa : Int} {cl : Nat → Int} {cp : Int → Int → Int}
theorem clS_bd (h : SGt S n) {i : Nat} (p : (i : Int) < n) : 0 ≤ clS S i ∧ clS S i < 30 := by
  have := h.2 (i : Int) (by omega) p
  unfold clS
  omega
theorem clS_eq (h : SGt S n) {i j : Nat} (p : (i : Int) < n) (r : (j : Int) < n) : clS S i = clS S j ↔ (S (1 + 2 * (i : Int)) = S (1 + 2 * (j : Int)) ∧ S (2 + 2 * (i : Int)) = S (2 + 2 * (j : Int))) := by
  have a := h.2 (i : Int) (by omega) p
  have b := h.2 (j : Int) (by omega) r
  unfold clS
  constructor
  · intro e; omega
  · intro e; omega
theorem mN_le (c : Int) : ∀ k : Nat, mN cl k c ≤ k
  | 0 => Nat.le_refl _
  | k + 1 => by
    have := mN_le c k
    show mN cl k c + (if cl k = c then 1 else 0) ≤ k + 1
    split <;> omega
theorem SV.alike (v : SV A sa S n) {i lo hi : Nat} (i1 : (i : Int) < n) (l1 : lo ≤ hi) (h1 : (hi : Int) ≤ n) : PC (fX4_alike A sa (i : Int) (lo : Int) (hi : Int)) (fun r => r = (mN (clS S) hi (clS S i) : Int) - (mN (clS S) lo (clS S i) : Int)) := by
  obtain ⟨hT, ha, _, e, g⟩ := v
  have n8 := g.1
  unfold fX4_alike
  rw [gp1_ hT ha, gp2_ hT ha]
  refine PC.iter (fun s => ((lo : Int) ≤ s.2 ∧ s.2 ≤ (hi : Int)) ∧ s.1 = (mN (clS S) s.2.toNat (clS S i) : Int) - (mN (clS S) lo (clS S i) : Int)) ?_ _ _ ⟨⟨by (try dsimp only); omega, by (try dsimp only); omega⟩, by (try dsimp only); rw [show ((lo : Int)).toNat = lo by omega]; omega⟩
  rintro rec ⟨x, j⟩ ⟨⟨j0, j1⟩, hx⟩ hrec
  simp only at j0 j1 hx ⊢
  obtain ⟨ν, rfl⟩ : ∃ ν : Nat, j = (ν : Int) := ⟨j.toNat, by omega⟩
  rw [show ((ν : Int)).toNat = ν by omega] at hx
  have b1 := mN_le (cl := clS S) (clS S i) ν
  have b2 := mN_le (cl := clS S) (clS S i) lo
  rw [w32_of (x := (ν : Int) + 1) (by omega) (by omega), w32_of (x := x + 1) (by omega) (by omega)]
  refine PC.ite (fun cj => ?_) (fun cj => PC.ok (by rw [hx, show ν = hi by omega]))
  have ms : mN (clS S) (ν + 1) (clS S i) = mN (clS S) ν (clS S i) + if clS S ν = clS S i then 1 else 0 := rfl
  have et : ((ν : Int) + 1).toNat = ν + 1 := by omega
  have yes : clS S ν = clS S i → PC (rec (x + 1, (ν : Int) + 1)) (fun r => r = (mN (clS S) hi (clS S i) : Int) - (mN (clS S) lo (clS S i) : Int)) := fun z => hrec _ ⟨⟨by (try dsimp only); omega, by (try dsimp only); omega⟩, by (try dsimp only); rw [et, ms, if_pos z, hx]; omega⟩
  have no : ¬ clS S ν = clS S i → PC (rec (x, (ν : Int) + 1)) (fun r => r = (mN (clS S) hi (clS S i) : Int) - (mN (clS S) lo (clS S i) : Int)) := fun z => hrec _ ⟨⟨by (try dsimp only); omega, by (try dsimp only); omega⟩, by (try dsimp only); rw [et, ms, if_neg z, hx]; omega⟩
  have ce := clS_eq g (i := ν) (j := i) (by omega) i1
  have ev := e (ν : Int) (by omega) (by omega)
  have ei := e (i : Int) (by omega) i1
  rw [ev.1, ei.1, ev.2, ei.2]
  exact PC.guard (fun _ => PC.guard (fun _ => PC.guard (fun _ => PC.ite (fun z1 => PC.guard (fun _ => PC.guard (fun _ => PC.ite (fun z2 => yes (ce.mpr ⟨z1, z2⟩)) (fun z2 => no (fun z => z2 (ce.mp z).2))))) (fun z1 => no (fun z => z1 (ce.mp z).1)))))
theorem ch_all : ∀ m n : Fin 9, n.val ≤ m.val → fX4_choices M00 (m.val : Int) (n.val : Int) = some (bn m.val n.val) := by decide +kernel
theorem choices_V {m n : Nat} (h : n ≤ m) (m8 : m ≤ 8) : fX4_choices A (m : Int) (n : Int) = some (bn m n) := ch_all ⟨m, by omega⟩ ⟨n, by omega⟩ h
theorem w32_ex (c : Int) : ∃ x, w32 c = c + 4294967296 * x := ⟨-((c + 2147483648) / 4294967296), by unfold w32; omega⟩
theorem w32_am (a b c : Int) : w32 (w32 a + w32 (b * w32 c)) = w32 (a + b * c) := by
  obtain ⟨x, hx⟩ := w32_ex c
  have e : b * w32 c = b * c + 4294967296 * (b * x) := by rw [hx, Int.mul_add, Int.mul_left_comm]
  rw [e]
  generalize b * c = y
  generalize b * x = z
  unfold w32; omega
theorem w32_mm (a b : Int) : w32 (w32 a * w32 b) = w32 (a * b) := by
  obtain ⟨x, hx⟩ := w32_ex a
  have h0 := w32_am 0 (w32 a) b
  have e : w32 (w32 0 + w32 (w32 a * w32 b)) = w32 (w32 a * w32 b) := by
    rw [show w32 0 = 0 from rfl, Int.zero_add]
    exact w32_id (w32_r _)
  rw [← e, h0, Int.zero_add, hx, Int.add_mul, Int.mul_assoc]
  generalize a * b = y
  generalize x * b = z
  unfold w32; omega
theorem sn_tail {f : Nat → Int} {i : Nat} : ∀ b : Nat, i ≤ b → (∀ j, i ≤ j → j < b → f j = 0) → sn f b = sn f i
  | 0, h, _ => by rw [show i = 0 by omega]
  | b + 1, h, z => by
    by_cases e : i = b + 1
    · rw [e]
    · show sn f b + f b = sn f i
      rw [z b (by omega) (by omega), sn_tail b (by omega) (fun j p r => z j p (by omega)), Int.add_zero]
theorem waysOf_V (hT : WT A) {c : Int} (c0 : 0 ≤ c) (c1 : c < 30) : ∀ (fu j m : Nat), j ≤ 4 → j < fu → m ≤ 8 → PC (fX4_waysOf fu A 68 c (4 - (j : Int)) (m : Int)) (fun r => r = w32 (Wy (fun t => A.1 72 (30 * t + c)) j m))
  | 0, j, m, _, h, _ => by exfalso; omega
  | fu + 1, 0, m, _, _, _ => by
    unfold fX4_waysOf
    refine PC.neg (by omega) ?_
    show PC (if (m : Int) = 0 then some 1 else some 0) (fun r => r = w32 (if m = 0 then 1 else 0))
    by_cases z : m = 0
    · rw [if_pos z, if_pos (by omega)]; exact PC.ok rfl
    · rw [if_neg z, if_neg (by omega)]; exact PC.ok rfl
  | fu + 1, j + 1, m, j4, hf, m8 => by
    unfold fX4_waysOf
    rw [show (4 - ((j + 1 : Nat) : Int)) = 3 - (j : Int) by omega, wp68_5 hT, w32_of (x := 30 * (3 - (j : Int))) (by omega) (by omega), w32_of (x := 30 * (3 - (j : Int)) + c) (by omega) (by omega), show w32 (3 - (j : Int) + 1) = 4 - (j : Int) by rw [w32_of (by omega) (by omega)]; omega]
    refine PC.pos (by omega) (PC.guard (fun _ => PC.guard (fun _ => ?_)))
    show PC _ (fun r => r = w32 (sn (fun n => if (n : Int) ≤ A.1 72 (30 * (3 - (j : Int)) + c) then bn m n * Wy (fun t => A.1 72 (30 * t + c)) j (m - n) else 0) (m + 1)))
    generalize A.1 72 (30 * (3 - (j : Int)) + c) = g
    refine PC.iter (fun s => (0 ≤ s.2 ∧ s.2 ≤ (m : Int) + 1) ∧ s.1 = w32 (sn (fun n => if (n : Int) ≤ g then bn m n * Wy (fun t => A.1 72 (30 * t + c)) j (m - n) else 0) s.2.toNat)) ?_ _ _ ⟨⟨by (try dsimp only); omega, by (try dsimp only); omega⟩, rfl⟩
    rintro rec ⟨x, i⟩ ⟨⟨i0, i1⟩, hx⟩ hrec
    simp only at i0 i1 hx ⊢
    obtain ⟨ν, rfl⟩ : ∃ ν : Nat, i = (ν : Int) := ⟨i.toNat, by omega⟩
    rw [show ((ν : Int)).toNat = ν by omega] at hx
    refine PC.ite (fun z => PC.ok ?_) (fun z => ?_)
    · rw [hx, sn_tail (i := ν) (m + 1) (by omega) (fun y p r => if_neg (by unfold imin at z; split at z <;> omega))]
    have z1 : (ν : Int) ≤ m ∧ (ν : Int) ≤ g := by unfold imin at z; split at z <;> omega
    rw [choices_V (show ν ≤ m by omega) m8, show w32 ((m : Int) - (ν : Int)) = ((m - ν : Nat) : Int) by rw [w32_of (by omega) (by omega)]; omega, w32_of (x := (ν : Int) + 1) (by omega) (by omega)]
    refine PC.bindE rfl (PC.bind (waysOf_V hT c0 c1 fu j (m - ν) (by omega) (by omega) (by omega)) (fun r hr => hrec _ ⟨⟨by (try dsimp only); omega, by (try dsimp only); omega⟩, ?_⟩))
    (try dsimp only)
    rw [hr, hx, w32_am, show ((ν : Int) + 1).toNat = ν + 1 by omega]
    show _ = w32 (sn _ ν + (if (ν : Int) ≤ g then bn m ν * Wy (fun t => A.1 72 (30 * t + c)) j (m - ν) else 0))
    rw [if_pos z1.2]
def FA (cl : Nat → Int) (cp : Int → Int → Int) (s i c : Nat) : Int := if 0 < mN cl i (c : Int) then W4 (fun t => cp (c : Int) t) (mN cl s (c : Int)) else 1
theorem mN_s (cl : Nat → Int) (i : Nat) (c : Int) : mN cl (i + 1) c = mN cl i c + if cl i = c then 1 else 0 := rfl
theorem FA_old {s i : Nat} (h : mN cl i (cl i) ≠ 0) : pm (FA cl cp s (i + 1)) 30 = pm (FA cl cp s i) 30 := by
  refine pm_cong _ (fun c _ => ?_)
  unfold FA
  rw [mN_s]
  by_cases e : cl i = (c : Int)
  · rw [e] at h
    rw [if_pos e, if_pos (by omega), if_pos (by omega)]
  · rw [if_neg e, Nat.add_zero]
theorem FA_new {s i : Nat} (h : mN cl i (cl i) = 0) (h0 : 0 ≤ cl i) (h1 : cl i < 30) : pm (FA cl cp s (i + 1)) 30 = pm (FA cl cp s i) 30 * W4 (fun t => cp (cl i) t) (mN cl s (cl i)) := by
  have ec : (((cl i).toNat : Nat) : Int) = cl i := by omega
  rw [pm_split (f := FA cl cp s (i + 1)) (c := (cl i).toNat) 30 (by omega), pm_split (f := FA cl cp s i) (c := (cl i).toNat) 30 (by omega)]
  have e1 : FA cl cp s (i + 1) (cl i).toNat = W4 (fun t => cp (cl i) t) (mN cl s (cl i)) := by
    unfold FA
    rw [ec, mN_s, if_pos rfl, if_pos (by omega)]
  have e2 : FA cl cp s i (cl i).toNat = 1 := by
    unfold FA
    rw [ec, h, if_neg (by omega)]
  rw [e1, e2, Int.mul_one]
  congr 1
  refine pm_cong _ (fun c _ => ?_)
  by_cases e : c = (cl i).toNat
  · rw [if_pos e, if_pos e]
  · rw [if_neg e, if_neg e]
    unfold FA
    rw [mN_s, if_neg (show ¬ cl i = (c : Int) by omega), Nat.add_zero]
theorem FA_end {s : Nat} (h : ∀ c t : Int, 0 ≤ c → c < 30 → 0 ≤ t → t < 4 → 0 ≤ cp c t) : pm (FA cl cp s s) 30 = Pr cl cp s (fun _ _ => 0) := by
  unfold Pr
  refine pm_cong _ (fun c p => ?_)
  have e : (fun t => cp (c : Int) t - (fun _ _ => 0 : Int → Int → Int) (c : Int) t) = (fun t => cp (c : Int) t) := funext fun t => Int.sub_zero _
  rw [e]
  unfold FA
  by_cases z : 0 < mN cl s (c : Int)
  · rw [if_pos z]
  · rw [if_neg z, show mN cl s (c : Int) = 0 by omega, W4_0, if_pos ⟨h _ _ (by omega) (by omega) (by decide) (by decide), h _ _ (by omega) (by omega) (by decide) (by decide), h _ _ (by omega) (by omega) (by decide) (by decide), h _ _ (by omega) (by omega) (by decide) (by decide)⟩]
/-- what the class holds of gifts given -/
def cpA (A : Mem) (c t : Int) : Int := A.1 72 (30 * t + c)
theorem SV.ways (v : SV A sa S n) (gv : ∀ y, 0 ≤ y → y < 120 → 0 ≤ A.1 72 y) : PC (fX4_ways A sa 68) (fun r => r = w32 (Pr (clS S) (cpA A) n.toNat (fun _ _ => 0))) := by
  have v' := v
  obtain ⟨hT, ha, e0, e, g⟩ := v
  have n8 := g.1
  unfold fX4_ways
  rw [e0, gp1_ hT ha, gp2_ hT ha]
  obtain ⟨s, rfl⟩ : ∃ s : Nat, n = (s : Int) := ⟨n.toNat, by omega⟩
  rw [show ((s : Int)).toNat = s by omega]
  refine PC.iter (fun u => (0 ≤ u.2 ∧ u.2 ≤ (s : Int)) ∧ u.1 = w32 (pm (FA (clS S) (cpA A) s u.2.toNat) 30)) ?_ _ _ ⟨⟨by (try dsimp only); omega, by (try dsimp only); omega⟩, by
    show (1 : Int) = w32 (pm (FA (clS S) (cpA A) s 0) 30)
    have z : pm (FA (clS S) (cpA A) s 0) 30 = 1 := pm_one 30 (fun i _ => rfl)
    rw [z]; rfl⟩
  rintro rec ⟨x, i⟩ ⟨⟨i0, i1⟩, hx⟩ hrec
  simp only at i0 i1 hx ⊢
  obtain ⟨ν, rfl⟩ : ∃ ν : Nat, i = (ν : Int) := ⟨i.toNat, by omega⟩
  rw [show ((ν : Int)).toNat = ν by omega] at hx
  refine PC.guard (fun _ => PC.ite (fun ci => ?_) (fun ci => PC.ok ?_))
  rotate_left
  · rw [hx, show ν = s by omega, FA_end (cp := cpA A) (fun c t c0 c1 t0 t1 => gv _ (by omega) (by omega))]
  have cb := clS_bd g (i := ν) (by omega)
  have gb := g.2 (ν : Int) (by omega) (by omega)
  have ev := e (ν : Int) (by omega) (by omega)
  rw [w32_of (x := (ν : Int) + 1) (by omega) (by omega)]
  have hz := v'.alike (i := ν) (lo := 0) (hi := ν) (by omega) (Nat.zero_le _) (by omega)
  refine PC.bind (P := fun r => r = (mN (clS S) ν (clS S ν) : Int)) (hz.mono (fun r q => by rw [q]; show _ - ((0 : Nat) : Int) = _; omega)) (fun r5 h5 => PC.ite (fun z => PC.guard (fun _ => PC.guard (fun _ => ?_))) (fun z => hrec _ ⟨⟨by (try dsimp only); omega, by (try dsimp only); omega⟩, ?_⟩))
  rotate_left
  · (try dsimp only)
    rw [show ((ν : Int) + 1).toNat = ν + 1 by omega, FA_old (by omega)]; exact hx
  have m0 : mN (clS S) ν (clS S ν) = 0 := by omega
  rw [ev.1, ev.2, cellV gb.1.1 (by omega) gb.2.1 (by omega)]
  refine PC.bindE rfl (PC.bind (v'.alike (i := ν) (lo := ν) (hi := s) (by omega) (by omega) (by omega)) (fun r12 h12 => ?_))
  have h12 : r12 = ((mN (clS S) s (clS S ν) : Nat) : Int) := by rw [h12, m0]; show _ - ((0 : Nat) : Int) = _; omega
  rw [h12]
  have ml := mN_le (cl := clS S) (clS S ν) s
  have wv := waysOf_V hT (c := clS S ν) cb.1 cb.2 20 4 (mN (clS S) s (clS S ν)) (by decide) (by decide) (by omega)
  rw [show (4 - ((4 : Nat) : Int)) = 0 from rfl] at wv
  refine PC.bind wv (fun r14 h14 => hrec _ ⟨⟨by (try dsimp only); omega, by (try dsimp only); omega⟩, ?_⟩)
  (try dsimp only)
  rw [show ((ν : Int) + 1).toNat = ν + 1 by omega, FA_new m0 cb.1 cb.2, hx, h14, w32_mm]
  rfl
/-- bits of those who gave -/
def btF (f : Int → Int) : Nat → Int
  | 0 => 0
  | t + 1 => bOr (btF f t) (if 0 < f (t : Int) then bShl 1 (t : Int) else 0)
theorem btF_bd (f : Int → Int) : ∀ t : Nat, t ≤ 4 → 0 ≤ btF f t ∧ btF f t ≤ 15
  | 0, _ => by unfold btF; decide
  | t + 1, h => by
    have ih := btF_bd f t (by omega)
    have b := bor_V (x := btF f t) (t := (t : Int)) ih.1 ih.2 (by omega) (by omega)
    show 0 ≤ bOr (btF f t) (if 0 < f (t : Int) then bShl 1 (t : Int) else 0) ∧ bOr (btF f t) (if 0 < f (t : Int) then bShl 1 (t : Int) else 0) ≤ 15
    split
    · exact b.2
    · rw [b.1]; exact ih
theorem btF_ext {f : Int → Int} {d : Nat} (hz : ∀ t : Int, (d : Int) ≤ t → t < 4 → f t = 0) : ∀ t : Nat, d ≤ t → t ≤ 4 → btF f t = btF f d
  | 0, h, _ => by rw [show d = 0 by omega]
  | t + 1, h, h4 => by
    by_cases e : d = t + 1
    · rw [e]
    · have ih := btF_ext hz t (by omega) (by omega)
      have b := btF_bd f t (by omega)
      show bOr (btF f t) (if 0 < f (t : Int) then bShl 1 (t : Int) else 0) = btF f d
      rw [hz (t : Int) (by omega) (by omega), if_neg (by omega), (bor_V (t := 0) b.1 b.2 (by decide) (by decide)).1, ih]
theorem btF_s (f : Int → Int) (t : Nat) : btF f (t + 1) = bOr (btF f t) (if 0 < f (t : Int) then bShl 1 (t : Int) else 0) := rfl
theorem SV.mayBe (v : SV A sa S n) (gv : ∀ y, 0 ≤ y → y < 120 → 0 ≤ A.1 72 y) {i : Nat} (i1 : (i : Int) < n) : PC (fX4_mayBe A sa 68 (i : Int)) (fun r => r = if w32 (Pr (clS S) (cpA A) n.toNat (fun _ _ => 0)) = 0 then 0 else btF (fun t => cpA A (clS S i) t) 4) := by
  have v' := v
  obtain ⟨hT, ha, e0, e, g⟩ := v
  have n8 := g.1
  have gb := g.2 (i : Int) (by omega) i1
  have ei := e (i : Int) (by omega) i1
  unfold fX4_mayBe
  refine PC.guard (fun _ => PC.bind (v'.ways gv) (fun r1 h1 => ?_))
  rw [h1, gp1_ hT ha, gp2_ hT ha, wp68_5 hT, ei.1, ei.2]
  refine PC.ite (fun z => PC.ok (by rw [if_pos z])) (fun z => ?_)
  rw [if_neg z]
  refine PC.iter (fun u => (0 ≤ u.2 ∧ u.2 ≤ 4) ∧ u.1 = btF (fun t => cpA A (clS S i) t) u.2.toNat) ?_ _ _ ⟨⟨by decide, by decide⟩, rfl⟩
  rintro rec ⟨x, t⟩ ⟨⟨t0, t4⟩, hx⟩ hrec
  simp only at t0 t4 hx ⊢
  obtain ⟨ν, rfl⟩ : ∃ ν : Nat, t = (ν : Int) := ⟨t.toNat, by omega⟩
  rw [show ((ν : Int)).toNat = ν by omega] at hx
  rw [w32_of (x := (ν : Int) + 1) (by omega) (by omega)]
  refine PC.ite (fun ct => PC.guard (fun _ => PC.guard (fun _ => PC.guard (fun _ => ?_)))) (fun ct => PC.ok (by rw [hx, show ν = 4 by omega]))
  rw [c3V (by omega) ct gb.1.1 (by omega) gb.2.1 (by omega)]
  have ec : A.1 72 (30 * (ν : Int) + 5 * S (1 + 2 * (i : Int)) + S (2 + 2 * (i : Int))) = cpA A (clS S i) (ν : Int) := by
    unfold cpA clS
    rw [show 30 * (ν : Int) + (5 * S (1 + 2 * (i : Int)) + S (2 + 2 * (i : Int))) = 30 * (ν : Int) + 5 * S (1 + 2 * (i : Int)) + S (2 + 2 * (i : Int)) by omega]
  have et : ((ν : Int) + 1).toNat = ν + 1 := by omega
  refine PC.bindE rfl (PC.guard (fun _ => ?_))
  rw [ec]
  refine PC.ite (fun y => hrec _ ⟨⟨by (try dsimp only); omega, by (try dsimp only); omega⟩, ?_⟩) (fun y => hrec _ ⟨⟨by (try dsimp only); omega, by (try dsimp only); omega⟩, ?_⟩)
  · (try dsimp only)
    rw [et, btF_s, if_pos y, hx]
  · (try dsimp only)
    rw [et, btF_s, if_neg y, hx]
/-! the reference -/
theorem bvq (X : Int32) (hX : 2 * X.toBitVec.toNat < 4294967296) (m : Nat) (e : ((Int32.ofInt (2 * (m : Int)) &&& 31).toBitVec.smod 32).toNat = 2 * m) : ((X >>> (Int32.ofInt (2 * (m : Int)) &&& 31)) &&& Int32.ofInt 3).toInt = ((X.toBitVec.toNat / 4 ^ m % 4 : Nat) : Int) := by
  have h1 : (X >>> (Int32.ofInt (2 * (m : Int)) &&& 31)).toBitVec = X.toBitVec >>> (2 * m) := by
    show X.toBitVec.sshiftRight ((Int32.ofInt (2 * (m : Int)) &&& 31).toBitVec.smod 32).toNat = _
    rw [e, BitVec.sshiftRight_eq_of_msb_false (by rw [BitVec.msb_eq_false_iff_two_mul_lt]; exact hX)]
  have h2 : ((X >>> (Int32.ofInt (2 * (m : Int)) &&& 31)) &&& Int32.ofInt 3).toInt = ((X.toBitVec >>> (2 * m)) &&& 3#32).toInt := by
    show ((X >>> (Int32.ofInt (2 * (m : Int)) &&& 31)).toBitVec &&& (Int32.ofInt 3).toBitVec).toInt = _
    rw [h1]; rfl
  have h3 : ((X.toBitVec >>> (2 * m)) &&& 3#32).toNat = X.toBitVec.toNat / 4 ^ m % 4 := by
    rw [BitVec.toNat_and, BitVec.toNat_ushiftRight, Nat.shiftRight_eq_div_pow, Nat.pow_mul]
    show X.toBitVec.toNat / 4 ^ m &&& (2 ^ 2 - 1) = _
    rw [Nat.and_two_pow_sub_one_eq_mod]
  rw [h2, BitVec.toInt_eq_toNat_of_lt (by rw [h3]; omega), h3]
theorem hd_V {x i : Nat} (hx : x < 65536) (hi : i < 8) : fX11_handOf B (x : Int) (i : Int) = some ((hd x i : Nat) : Int) := by
  have tX : (Int32.ofInt (x : Int)).toBitVec.toNat = x := by
    show (BitVec.ofInt 32 (x : Int)).toNat = x
    rw [BitVec.toNat_ofInt]; omega
  unfold fX11_handOf bAnd bShr hd
  rw [w32_of (x := 2 * (i : Int)) (by omega) (by omega), Int32.ofInt_toInt, bvq _ (by rw [tX]; omega) i, tX]
  rcases (show i = 0 ∨ i = 1 ∨ i = 2 ∨ i = 3 ∨ i = 4 ∨ i = 5 ∨ i = 6 ∨ i = 7 by omega) with e | e | e | e | e | e | e | e <;> subst e <;> decide
theorem ctf_bd (row lo : Nat) (c t : Int) : ∀ s : Nat, 0 ≤ ctf cl row lo s c t ∧ ctf cl row lo s c t ≤ (s : Int)
  | 0 => ⟨Int.le_refl _, Int.le_refl _⟩
  | s + 1 => by
    have := ctf_bd row lo c t s
    show 0 ≤ ctf cl row lo s c t + (if lo ≤ s ∧ cl s = c ∧ (hd row s : Int) = t then 1 else 0) ∧ ctf cl row lo s c t + (if lo ≤ s ∧ cl s = c ∧ (hd row s : Int) = t then 1 else 0) ≤ ((s + 1 : Nat) : Int)
    split <;> omega
theorem ctf_pos {row i : Nat} : ∀ s : Nat, i < s → 1 ≤ ctf cl row 0 s (cl i) (hd row i : Int)
  | 0, h => absurd h (by omega)
  | s + 1, h => by
    have b := ctf_bd (cl := cl) row 0 (cl i) (hd row i : Int) s
    show 1 ≤ ctf cl row 0 s (cl i) (hd row i : Int) + (if 0 ≤ s ∧ cl s = cl i ∧ (hd row s : Int) = (hd row i : Int) then 1 else 0)
    by_cases e : i = s
    · subst e
      rw [if_pos ⟨Nat.zero_le _, rfl, rfl⟩]; omega
    · have := ctf_pos (row := row) (i := i) s (by omega)
      split <;> omega
theorem ctf_ex {row : Nat} {c t : Int} : ∀ s : Nat, ctf cl row 0 s c t ≠ 0 → ∃ i, i < s ∧ cl i = c ∧ (hd row i : Int) = t
  | 0, h => absurd rfl h
  | s + 1, h => by
    by_cases e : cl s = c ∧ (hd row s : Int) = t
    · exact ⟨s, by omega, e⟩
    · have h' : ctf cl row 0 s c t ≠ 0 := fun z => h (by
        show ctf cl row 0 s c t + (if 0 ≤ s ∧ cl s = c ∧ (hd row s : Int) = t then 1 else 0) = 0
        rw [z, if_neg (fun y => e y.2)]; rfl)
      obtain ⟨i, p, r⟩ := ctf_ex s h'
      exact ⟨i, by omega, r⟩
/-- a gift of a row may be so -/
def GO (cl : Nat → Int) (cp : Int → Int → Int) (d : Int) (s row i : Nat) : Prop := (hd row i : Int) < d ∧ ctf cl row 0 s (cl i) (hd row i : Int) ≤ cp (cl i) (hd row i : Int)
theorem hd_4 (row i : Nat) : hd row i < 4 := Nat.mod_lt _ (by decide)
theorem okB_iff {d : Int} {s row : Nat} (hc : ∀ i, i < s → 0 ≤ cl i ∧ cl i < 30) (h0 : ∀ c t : Int, 0 ≤ c → c < 30 → 0 ≤ t → t < 4 → 0 ≤ cp c t) (hz : ∀ c t : Int, 0 ≤ c → c < 30 → d ≤ t → t < 4 → cp c t = 0) : okB cl cp s row ↔ ∀ i, i < s → GO cl cp d s row i := by
  constructor
  · intro h i p
    have cb := hc i p
    have h4 := hd_4 row i
    have ec : (((cl i).toNat : Nat) : Int) = cl i := by omega
    have q := h (cl i).toNat (hd row i) (by omega) h4
    rw [ec] at q
    have ps := ctf_pos (cl := cl) (row := row) s p
    refine ⟨?_, q⟩
    by_cases c : (hd row i : Int) < d
    · exact c
    · have := hz (cl i) (hd row i : Int) cb.1 cb.2 (by omega) (by omega)
      omega
  · intro h c t c1 t1
    by_cases e : ctf cl row 0 s (c : Int) (t : Int) = 0
    · rw [e]; exact h0 _ _ (by omega) (by omega) (by omega) (by omega)
    · obtain ⟨i, p, r1, r2⟩ := ctf_ex s e
      have q := (h i p).2
      rw [r1, r2] at q
      exact q
theorem ok1_y {s row : Nat} (h : okB cl cp s row) : ok1 cl cp s row = 1 := by unfold ok1; exact if_pos h
theorem ok1_n {s row : Nat} (h : ¬ okB cl cp s row) : ok1 cl cp s row = 0 := by unfold ok1; exact if_neg h
theorem ok1_bd {s row : Nat} : 0 ≤ ok1 cl cp s row ∧ ok1 cl cp s row ≤ 1 := by unfold ok1; split <;> decide
/-- the reference holds sight k, which is told as S -/
def RV (B : Mem) (k : Int) (S : Int → Int) (n : Int) : Prop := WT B ∧ (k = 0 ∨ k = 1) ∧ B.1 85 48 = k ∧ (∀ y, 0 ≤ y → y < 47 → B.1 94 (47 * k + y) = S y) ∧ S 0 = n ∧ SGt S n
theorem RV.gifts (v : RV B k S n) : fX11_gifts B 85 = some n := by
  obtain ⟨hT, hk, e, h, h0, _⟩ := v
  rw [gifts_V hT hk e, show 47 * k = 47 * k + 0 by omega, h 0 (by decide) (by decide), h0]
theorem RV.gift0 (v : RV B k S n) {i : Nat} (p : (i : Int) < n) : fX11_giftOf B 85 (i : Int) 0 = some (S (1 + 2 * (i : Int))) := by
  obtain ⟨hT, hk, e, h, h0, g⟩ := v
  have n8 := g.1
  rw [giftOf_V hT hk e (by omega) (by omega) (by decide) (by decide), Int.add_zero, h _ (by omega) (by omega)]
theorem RV.gift1 (v : RV B k S n) {i : Nat} (p : (i : Int) < n) : fX11_giftOf B 85 (i : Int) 1 = some (S (2 + 2 * (i : Int))) := by
  obtain ⟨hT, hk, e, h, h0, g⟩ := v
  have n8 := g.1
  rw [giftOf_V hT hk e (by omega) (by omega) (by decide) (by decide), h _ (by omega) (by omega), show 1 + 2 * (i : Int) + 1 = 2 + 2 * (i : Int) by omega]
def cpB (B : Mem) (c t : Int) : Int := B.1 100 (30 * t + c)
theorem RV.canBe (v : RV B k S n) {d : Int} (hd26 : B.1 85 26 = d) (h0 : ∀ c t : Int, 0 ≤ c → c < 30 → 0 ≤ t → t < 4 → 0 ≤ cpB B c t) (hz : ∀ c t : Int, 0 ≤ c → c < 30 → d ≤ t → t < 4 → cpB B c t = 0) {row : Nat} (hr : row < 65536) : PC (fX11_canBe B 85 (row : Int)) (fun r => r = ok1 (clS S) (cpB B) n.toNat row) := by
  have hT := v.1
  have g := v.2.2.2.2.2
  have n8 := g.1
  obtain ⟨s, rfl⟩ : ∃ s : Nat, n = (s : Int) := ⟨n.toNat, by omega⟩
  rw [show ((s : Int)).toNat = s by omega]
  have iff := okB_iff (d := d) (s := s) (row := row) (fun i p => clS_bd g (i := i) (by omega)) h0 hz
  unfold fX11_canBe
  rw [v.gifts, hd26, wp85_32 hT]
  refine PC.iter (fun u => (0 ≤ u ∧ u ≤ (s : Int)) ∧ ∀ i : Nat, (i : Int) < u → GO (clS S) (cpB B) d s row i) ?_ _ _ ⟨⟨by decide, by omega⟩, fun i p => by omega⟩
  rintro rec u ⟨⟨u0, u1⟩, hu⟩ hrec
  obtain ⟨ν, rfl⟩ : ∃ ν : Nat, u = (ν : Int) := ⟨u.toNat, by omega⟩
  refine PC.guard (fun _ => PC.bindE rfl (PC.ite (fun c => ?_) (fun c => PC.ok ?_)))
  rotate_left
  · exact (ok1_y (iff.mpr (fun i p => hu i (by omega)))).symm
  have gν := g.2 (ν : Int) (by omega) c
  rw [hd_V hr (by omega)]
  refine PC.bindE rfl (PC.iter (fun t => (0 ≤ t.2 ∧ t.2 ≤ (s : Int)) ∧ t.1 = ctf (clS S) row 0 t.2.toNat (clS S ν) (hd row ν : Int)) ?_ _ _ ⟨⟨by (try dsimp only); omega, by (try dsimp only); omega⟩, rfl⟩)
  rintro rec9 ⟨x, i⟩ ⟨⟨i0, i1⟩, hx⟩ hrec9
  simp only at i0 i1 hx ⊢
  obtain ⟨ι, rfl⟩ : ∃ ι : Nat, i = (ι : Int) := ⟨i.toNat, by omega⟩
  rw [show ((ι : Int)).toNat = ι by omega] at hx
  have cb := ctf_bd (cl := clS S) row 0 (clS S ν) (hd row ν : Int) ι
  have h4 := hd_4 row ν
  refine PC.bindE rfl (PC.ite (fun ci => ?_) (fun ci => ?_))
  · have et : ((ι : Int) + 1).toNat = ι + 1 := by omega
    have st : ctf (clS S) row 0 (ι + 1) (clS S ν) (hd row ν : Int) = ctf (clS S) row 0 ι (clS S ν) (hd row ν : Int) + if 0 ≤ ι ∧ clS S ι = clS S ν ∧ (hd row ι : Int) = (hd row ν : Int) then 1 else 0 := rfl
    have ce := clS_eq g (i := ι) (j := ν) (by omega) c
    rw [v.gift0 (by omega), v.gift0 c, v.gift1 (by omega), v.gift1 c, hd_V hr (by omega), w32_of (x := (ι : Int) + 1) (by omega) (by omega), w32_of (x := x + 0) (by omega) (by omega), w32_of (x := x + 1) (by omega) (by omega)]
    have no : ¬(clS S ι = clS S ν ∧ (hd row ι : Int) = (hd row ν : Int)) → PC (rec9 (x + 0, (ι : Int) + 1)) (fun r => r = ok1 (clS S) (cpB B) s row) := fun z => hrec9 _ ⟨⟨by (try dsimp only); omega, by (try dsimp only); omega⟩, by (try dsimp only); rw [et, st, if_neg (fun y => z y.2), hx]⟩
    have yes : (clS S ι = clS S ν ∧ (hd row ι : Int) = (hd row ν : Int)) → PC (rec9 (x + 1, (ι : Int) + 1)) (fun r => r = ok1 (clS S) (cpB B) s row) := fun z => hrec9 _ ⟨⟨by (try dsimp only); omega, by (try dsimp only); omega⟩, by (try dsimp only); rw [et, st, if_pos ⟨Nat.zero_le _, z⟩, hx]⟩
    refine PC.bindE rfl (PC.bindE rfl (PC.jI (PC.jI (PC.ite (fun z1 => PC.bindE rfl (PC.bindE rfl (PC.ite (fun z2 => ?_) (fun z2 => ?_)))) (fun z1 => ?_)))))
    · exact PC.neg n10 (PC.bindE rfl (PC.ite (fun z3 => yes ⟨ce.mpr ⟨z1, z2⟩, z3⟩) (fun z3 => no (fun y => z3 y.2))))
    · exact PC.pos rfl (no (fun y => z2 (ce.mp y.1).2))
    · exact PC.pos rfl (no (fun y => z1 (ce.mp y.1).1))
  · have es : ι = s := by omega
    subst es
    have bad : ¬ GO (clS S) (cpB B) d ι row ν → (0 : Int) = ok1 (clS S) (cpB B) ι row := fun z => (ok1_n (fun y => z (iff.mp y ν (by omega)))).symm
    refine PC.ite (fun cd => ?_) (fun cd => PC.ok (bad (fun z => cd z.1)))
    rw [v.gift0 c, v.gift1 c, w32_of (x := (ν : Int) + 1) (by omega) (by omega)]
    refine PC.bindE rfl (PC.bindE rfl ?_)
    rw [plV (by omega) (by omega) gν.1.1 (by omega) gν.2.1 (by omega)]
    have ec : B.1 100 (30 * (hd row ν : Int) + 5 * S (1 + 2 * (ν : Int)) + S (2 + 2 * (ν : Int))) = cpB B (clS S ν) (hd row ν : Int) := by
      unfold cpB clS
      rw [show 30 * (hd row ν : Int) + (5 * S (1 + 2 * (ν : Int)) + S (2 + 2 * (ν : Int))) = 30 * (hd row ν : Int) + 5 * S (1 + 2 * (ν : Int)) + S (2 + 2 * (ν : Int)) by omega]
    refine PC.bindE rfl (PC.guard (fun _ => ?_))
    rw [ec, hx]
    refine PC.ite (fun z => PC.ok (bad (fun y => by have := y.2; omega))) (fun z => hrec _ ⟨⟨by omega, by omega⟩, fun i p => ?_⟩)
    by_cases e : i = ν
    · rw [e]; exact ⟨cd, by omega⟩
    · exact hu i (by omega)
theorem shl4 : ∀ n : Fin 9, bShl 1 (2 * (n.val : Int)) = ((4 ^ n.val : Nat) : Int) ∧ 4 ^ n.val ≤ 65536 := by decide +kernel
end Hands2
