/-! numbers: the machine's ints as integers -/
def w32 (x : Int) : Int := (x + 2147483648) % 4294967296 - 2147483648
def w64 (x : Int) : Int := (x + 9223372036854775808) % 18446744073709551616 - 9223372036854775808
def w8 (x : Int) : Int := (x + 128) % 256 - 128
def r32 (x : Int) : Prop := -2147483648 ≤ x ∧ x < 2147483648
def r64 (x : Int) : Prop := -9223372036854775808 ≤ x ∧ x < 9223372036854775808
theorem w32_r (x : Int) : r32 (w32 x) := by unfold r32 w32; omega
theorem w64_r (x : Int) : r64 (w64 x) := by unfold r64 w64; omega
theorem w32_id {x : Int} (h : r32 x) : w32 x = x := by unfold r32 at h; unfold w32; omega
theorem w64_id {x : Int} (h : r64 x) : w64 x = x := by unfold r64 at h; unfold w64; omega
theorem w8_id {x : Int} (h : -128 ≤ x) (h2 : x ≤ 127) : w8 x = x := by unfold w8; omega
theorem w8_r (x : Int) : -128 ≤ w8 x ∧ w8 x ≤ 127 := by unfold w8; omega
theorem w32_bmod (x : Int) : x.bmod 4294967296 = w32 x := by
  unfold w32
  rw [Int.bmod_def]
  have e1 : ((4294967296 : Nat) : Int) = 4294967296 := rfl
  simp only [e1]
  split <;> omega
theorem w64_bmod (x : Int) : x.bmod 18446744073709551616 = w64 x := by
  unfold w64
  rw [Int.bmod_def]
  have e1 : ((18446744073709551616 : Nat) : Int) = 18446744073709551616 := rfl
  simp only [e1]
  split <;> omega
theorem w8_bmod (x : Int) : x.bmod 256 = w8 x := by
  unfold w8
  rw [Int.bmod_def]
  have e1 : ((256 : Nat) : Int) = 256 := rfl
  simp only [e1]
  split <;> omega
theorem q_toInt (x : Int) : (Int32.ofInt x).toInt = w32 x := by rw [Int32.toInt_ofInt]; exact w32_bmod x
theorem q_toIntL (x : Int) : (Int64.ofInt x).toInt = w64 x := by rw [Int64.toInt_ofInt]; exact w64_bmod x
theorem q_in {x : Int} (h : r32 x) : (Int32.ofInt x).toInt = x := by rw [q_toInt, w32_id h]
theorem q_inL {x : Int} (h : r64 x) : (Int64.ofInt x).toInt = x := by rw [q_toIntL, w64_id h]
theorem q_of (x : Int) : Int32.ofInt (w32 x) = Int32.ofInt x := by
  apply Int32.toInt_inj.mp
  rw [q_in (w32_r x), q_toInt]
theorem q_lt {x y : Int} (hx : r32 x) (hy : r32 y) : Int32.ofInt x < Int32.ofInt y ↔ x < y := by rw [Int32.lt_iff_toInt_lt, q_in hx, q_in hy]
theorem q_le {x y : Int} (hx : r32 x) (hy : r32 y) : Int32.ofInt x ≤ Int32.ofInt y ↔ x ≤ y := by rw [Int32.le_iff_toInt_le, q_in hx, q_in hy]
theorem q_eq {x y : Int} (hx : r32 x) (hy : r32 y) : Int32.ofInt x = Int32.ofInt y ↔ x = y := by rw [← Int32.toInt_inj, q_in hx, q_in hy]
theorem q_eqL {x y : Int} (hx : r64 x) (hy : r64 y) : Int64.ofInt x = Int64.ofInt y ↔ x = y := by rw [← Int64.toInt_inj, q_inL hx, q_inL hy]
theorem q_ltL {x y : Int} (hx : r64 x) (hy : r64 y) : Int64.ofInt x < Int64.ofInt y ↔ x < y := by rw [Int64.lt_iff_toInt_lt, q_inL hx, q_inL hy]
theorem r32_0 : r32 0 := by unfold r32; omega
theorem q_0 : Int32.ofInt 0 = 0 := rfl
theorem q_add (x y : Int) : Int32.ofInt x + Int32.ofInt y = Int32.ofInt (w32 (x + y)) := by rw [q_of, Int32.ofInt_add]
theorem q_sub (x y : Int) : Int32.ofInt x - Int32.ofInt y = Int32.ofInt (w32 (x - y)) := by rw [q_of, Int32.ofInt_sub]
theorem q_mul (x y : Int) : Int32.ofInt x * Int32.ofInt y = Int32.ofInt (w32 (x * y)) := by rw [q_of, Int32.ofInt_mul]
theorem q_neg (x : Int) : -Int32.ofInt x = Int32.ofInt (w32 (-x)) := by rw [q_of, Int32.ofInt_neg]
theorem q_div {x y : Int} (hx : r32 x) (hy : r32 y) : Int32.ofInt x / Int32.ofInt y = Int32.ofInt (w32 (x.tdiv y)) := by
  apply Int32.toInt_inj.mp
  rw [Int32.toInt_div, q_in hx, q_in hy, q_in (w32_r _)]
  exact w32_bmod _
theorem tmod_r {x y : Int} (hx : r32 x) : r32 (x.tmod y) := by
  unfold r32 at *
  rcases Int.le_total 0 x with h | h
  · have h1 := Int.tmod_nonneg y h
    have h2 : (x.tmod y).natAbs ≤ x.natAbs := by rw [Int.natAbs_tmod]; exact Nat.mod_le _ _
    omega
  · have h2 : (x.tmod y).natAbs ≤ x.natAbs := by rw [Int.natAbs_tmod]; exact Nat.mod_le _ _
    have h3 : (-x).tmod y = -(x.tmod y) := Int.neg_tmod x y
    have h1 := Int.tmod_nonneg y (show 0 ≤ -x by omega)
    omega
theorem q_rem {x y : Int} (hx : r32 x) (hy : r32 y) : Int32.ofInt x - Int32.ofInt x / Int32.ofInt y * Int32.ofInt y = Int32.ofInt (x.tmod y) := by
  rw [q_div hx hy, q_of, ← Int32.ofInt_mul, ← Int32.ofInt_sub]
  congr 1
  have := Int.mul_tdiv_add_tmod x y
  rw [Int.mul_comm] at this
  omega
theorem q_bl {x : Int32} : r32 x.toInt := ⟨x.le_toInt, x.toInt_lt⟩
theorem q_blL {x : Int64} : r64 x.toInt := ⟨x.le_toInt, x.toInt_lt⟩
def bAnd (x y : Int) : Int := (Int32.ofInt x &&& Int32.ofInt y).toInt
def bOr (x y : Int) : Int := (Int32.ofInt x ||| Int32.ofInt y).toInt
def bShl (x y : Int) : Int := (Int32.ofInt x <<< (Int32.ofInt y &&& 31)).toInt
def bShr (x y : Int) : Int := (Int32.ofInt x >>> (Int32.ofInt y &&& 31)).toInt
def bUshr (x y : Int) : Int := ((Int32.ofInt x).toUInt32 >>> ((Int32.ofInt y).toUInt32 &&& Int32.toUInt32 31)).toInt32.toInt
def lShl (x y : Int) : Int := (Int64.ofInt x <<< ((Int32.ofInt y).toInt64 &&& 63)).toInt
def lOr (x y : Int) : Int := (Int64.ofInt x ||| Int64.ofInt y).toInt
theorem q_i2l {x : Int} (h : r32 x) : (Int32.ofInt x).toInt64 = Int64.ofInt x := by
  apply Int64.toInt_inj.mp
  rw [Int32.toInt_toInt64, q_in h, q_inL (by unfold r32 at h; unfold r64; omega)]
theorem q_i2b (x : Int) : (Int32.ofInt x).toInt8.toInt32 = Int32.ofInt (w8 x) := by
  apply Int32.toInt_inj.mp
  rw [Int8.toInt_toInt32, Int32.toInt_toInt8, q_toInt, q_in (by have := w8_r x; unfold r32; omega)]
  have := w8_bmod (w32 x)
  rw [show (2 : Nat) ^ 8 = 256 from rfl, this]
  unfold w8 w32
  omega
theorem q_clamp {x : Int} (h : r32 x) (h0 : 0 ≤ x) : (Int32.ofInt x).toNatClampNeg = x.toNat := by
  rw [← Int32.toNat_toInt, q_in h]
theorem q_vp {x : Int} {n : Nat} (h : r32 x) (h0 : 0 ≤ x) (hn : x.toNat < n) : vp_in (Int32.ofInt x) n := by
  unfold vp_in
  rintro (q | q)
  · have := (q_lt h r32_0).mp (by rw [q_0]; exact q)
    omega
  · rw [q_clamp h h0] at q
    omega
/-! values and memory -/
abbrev PV : Type := Int ⊕ Int ⊕ Int
abbrev pI (x : Int) : PV := .inl x
abbrev pL (x : Int) : PV := .inr (.inl x)
abbrev pA (x : Int) : PV := .inr (.inr x)
def eR (b : Nat) (cs : Nat → Nat) (a : Int) : Value := if a = -1 then .null else if 0 ≤ a then .ref (b + a.toNat) else .ref (cs (-a - 2).toNat)
def eV (b : Nat) (cs : Nat → Nat) : PV → Value
  | .inl x => .int (Int32.ofInt x)
  | .inr (.inl x) => .long (Int64.ofInt x)
  | .inr (.inr a) => eR b cs a
def okV : PV → Prop
  | .inl x => r32 x
  | .inr (.inl x) => r64 x
  | .inr (.inr _) => True
abbrev Mem : Type := (Int → Int → Int) × (Int → Int) × (Int → Int) × Nat
def up1 (f : Int → Int) (k v : Int) : Int → Int := fun j => if j = k then v else f j
def up2 (f : Int → Int → Int) (a i v : Int) : Int → Int → Int := fun x y => if x = a ∧ y = i then v else f x y
def mst (M : Mem) (a i v : Int) : Mem := (up2 M.1 a i v, M.2)
def fty : Nat → Nat → FieldType := fun c => match c with
  | 0 => tyX0
  | 1 => tyX1
  | 2 => tyX2
  | 3 => tyX3
  | 4 => tyX4
  | 5 => tyX5
  | 6 => tyX6
  | 7 => tyX7
  | 8 => tyX9
  | 9 => tyX10
  | _ => tyX11
def nfl : Nat → Nat := fun c => match c with
  | 0 => 3
  | 1 => 5
  | 2 => 5
  | 3 => 16
  | 4 => 4
  | 5 => 2
  | 6 => 9
  | 7 => 10
  | 8 => 17
  | 9 => 6
  | _ => 51
def tOf (k : Int) (i : Nat) : FieldType := if k = 11 then .byte else if k = 12 then .int else if k = 13 then .boolean else if 14 ≤ k then .object "" else fty k.toNat i
def okT : FieldType → Int → Prop
  | .long, x => r64 x
  | .object _, x => -1 ≤ x
  | .array _, x => -1 ≤ x
  | .boolean, x => x = 0 ∨ x = 1
  | .byte, x => -128 ≤ x ∧ x ≤ 127
  | _, x => r32 x
def eO (b : Nat) (x : Int) : Option Nat := if x < 0 then none else some (b + x.toNat)
def eT (b : Nat) : FieldType → Int → Value
  | .long, x => .long (Int64.ofInt x)
  | .object _, x => va_rf (eO b x)
  | .array _, x => va_rf (eO b x)
  | _, x => .int (Int32.ofInt x)
def tagT : FieldType → Int → PV
  | .long, x => pL x
  | .object _, x => pA x
  | .array _, x => pA x
  | _, x => pI x
theorem eO_rf {b : Nat} {cs : Nat → Nat} {x : Int} (h : -1 ≤ x) : va_rf (eO b x) = eR b cs x := by
  unfold eO eR
  by_cases h1 : x = -1
  · subst h1; rfl
  · rw [if_neg (by omega), if_neg h1, if_pos (by omega)]; rfl
theorem eV_tag {b : Nat} {cs : Nat → Nat} {t : FieldType} {x : Int} (h : okT t x) : eT b t x = eV b cs (tagT t x) := by
  cases t <;> first | rfl | exact eO_rf h
theorem okV_tag {t : FieldType} {x : Int} (h : okT t x) : okV (tagT t x) := by
  cases t <;> first | exact h | trivial | (rcases h with h | h <;> subst h <;> (unfold tagT okV r32; simp; done)) | (obtain ⟨h1, h2⟩ := h; unfold tagT okV r32; simp only []; omega)
def cE (cA : Nat → ClassId) (b : Nat) (M : Mem) (a : Nat) : va_E :=
  if M.2.1 a = 11 ∨ M.2.1 a = 12 ∨ M.2.1 a = 13 then .inl (cA (M.2.1 a).toNat, (M.2.2.1 a).toNat, .inl fun j => Int32.ofInt (M.1 a j))
  else if 14 ≤ M.2.1 a then .inl (cA (M.2.1 a).toNat, (M.2.2.1 a).toNat, .inr (.inr (.inr (.inr fun j => eO b (M.1 a j)))))
  else .inr ((M.2.1 a).toNat, (List.range (nfl (M.2.1 a).toNat)).map fun j => eT b (fty (M.2.1 a).toNat j) (M.1 a j))
def wsM (cA : Nat → ClassId) (b : Nat) (M : Mem) : va_W := (List.range M.2.2.2).map fun a => (b + a, cE cA b M a)
def MemOK (M : Mem) : Prop := (∀ a : Int, M.2.1 a ≠ -1 → 0 ≤ a ∧ a < M.2.2.2) ∧ (∀ a : Int, -1 ≤ M.2.1 a ∧ M.2.1 a ≤ 18) ∧ (∀ a : Int, 0 ≤ M.2.2.1 a ∧ M.2.2.1 a < 2147483648) ∧ ∀ (a : Int) (i : Nat), M.2.1 a ≠ -1 → okT (tOf (M.2.1 a) i) (M.1 a i)
theorem wsM_at {cA : Nat → ClassId} {b : Nat} {M : Mem} {a : Nat} (h : a < M.2.2.2) : (wsM cA b M)[a]? = some (b + a, cE cA b M a) := by
  unfold wsM
  rw [List.getElem?_map, List.getElem?_range h]
  rfl
theorem wsM_D {cA : Nat → ClassId} {b : Nat} {M : Mem} : va_D (fun q => b ≤ q) (wsM cA b M) := by
  have key : ∀ (i : Nat) (p : Nat × va_E), (wsM cA b M)[i]? = some p → p.1 = b + i := by
    intro i p h
    unfold wsM at h
    rw [List.getElem?_map] at h
    cases hr : (List.range M.2.2.2)[i]? with
    | none => rw [hr] at h; cases h
    | some j =>
      rw [hr] at h
      obtain ⟨hj, e⟩ := List.getElem?_eq_some_iff.mp hr
      rw [List.getElem_range] at e
      cases h
      show b + j = b + i
      rw [← e]
  refine ⟨fun i j p q hp hq e => ?_, fun k q hk => ?_⟩
  · rw [key i p hp, key j q hq] at e
    omega
  · rw [key k q hk]
    exact Nat.le_add_right _ _
theorem cE_arr {cA : Nat → ClassId} {b : Nat} {M : Mem} {a : Nat} {k : Int} (hk : M.2.1 a = k) (h : k = 11 ∨ k = 12 ∨ k = 13) : cE cA b M a = .inl (cA k.toNat, (M.2.2.1 a).toNat, .inl fun j => Int32.ofInt (M.1 a j)) := by
  unfold cE; rw [hk, if_pos h]
theorem cE_ref {cA : Nat → ClassId} {b : Nat} {M : Mem} {a : Nat} {k : Int} (hk : M.2.1 a = k) (h : 14 ≤ k) : cE cA b M a = .inl (cA k.toNat, (M.2.2.1 a).toNat, .inr (.inr (.inr (.inr fun j => eO b (M.1 a j))))) := by
  unfold cE; rw [hk, if_neg (by omega), if_pos h]
theorem cE_obj {cA : Nat → ClassId} {b : Nat} {M : Mem} {a : Nat} {k : Int} (hk : M.2.1 a = k) (h : k ≤ 10) : cE cA b M a = .inr (k.toNat, (List.range (nfl k.toNat)).map fun j => eT b (fty k.toNat j) (M.1 a j)) := by
  unfold cE; rw [hk, if_neg (by omega), if_neg (by omega)]
/-- one cell's contents change: the world's list changes at its place alone -/
theorem wsM_set {cA : Nat → ClassId} {b : Nat} {M : Mem} {a : Nat} {i v : Int} (h : a < M.2.2.2) : (wsM cA b M).set a (b + a, cE cA b (mst M a i v) a) = wsM cA b (mst M a i v) := by
  apply List.ext_getElem?
  intro j
  rw [List.getElem?_set]
  by_cases hj : a = j
  · subst hj
    have hl : a < (wsM cA b M).length := by unfold wsM; rw [List.length_map, List.length_range]; exact h
    rw [if_pos rfl, if_pos hl, wsM_at (M := mst M a i v) (show a < (mst M a i v).2.2.2 from h)]
  · rw [if_neg hj]
    unfold wsM
    rw [List.getElem?_map, List.getElem?_map]
    show Option.map _ _ = Option.map _ (List.range M.2.2.2)[j]?
    cases hr : (List.range M.2.2.2)[j]? with
    | none => rfl
    | some j' =>
      obtain ⟨hjl, e⟩ := List.getElem?_eq_some_iff.mp hr
      rw [List.getElem_range] at e
      subst e
      show some (b + j, cE cA b M j) = some (b + j, cE cA b (mst M a i v) j)
      have hr : ∀ y, (mst M a i v).1 (j : Int) y = M.1 (j : Int) y := fun y => by
        show (if (j : Int) = (a : Int) ∧ y = i then v else M.1 j y) = _
        rw [if_neg]
        rintro ⟨q, -⟩
        exact hj (by omega)
      congr 2
      unfold cE
      simp only [hr]
      rfl
