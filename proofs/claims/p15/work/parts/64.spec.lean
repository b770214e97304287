/-! the text: tokens, as both readers have them -/
section Spec
def isB (c : Int) : Bool := decide (c = 10) || decide (c = 32)
def isL (c : Int) : Bool := decide (97 ≤ c) && decide (c ≤ 122)
def isD (c : Int) : Bool := decide (48 ≤ c) && decide (c ≤ 57)
def scan (p : Int → Bool) (T : Int → Int) (n : Int) : Nat → Int → Int
  | 0, i => i
  | k + 1, i => if i < n ∧ p (T i) = true then scan p T n k (i + 1) else i
def scE (p : Int → Bool) (T : Int → Int) (n i : Int) : Int := scan p T n (n - i).toNat i
variable {p : Int → Bool} {T T' : Int → Int} {n i : Int}
theorem scE_step : scE p T n i = if i < n ∧ p (T i) = true then scE p T n (i + 1) else i := by
  unfold scE
  by_cases h : i < n
  · have e : (n - i).toNat = (n - (i + 1)).toNat + 1 := by omega
    rw [e]; rfl
  · have e : (n - i).toNat = 0 := by omega
    rw [e, if_neg (fun q => h q.1)]; rfl
theorem scE_go (h : i < n) (hp : p (T i) = true) : scE p T n i = scE p T n (i + 1) := by rw [scE_step, if_pos ⟨h, hp⟩]
theorem scE_end (h : ¬(i < n ∧ p (T i) = true)) : scE p T n i = i := by rw [scE_step, if_neg h]
theorem scan_le (p : Int → Bool) (T : Int → Int) (n : Int) : ∀ (k : Nat) (i : Int), i ≤ scan p T n k i
  | 0, i => Int.le_refl _
  | k + 1, i => by
    unfold scan
    by_cases h : i < n ∧ p (T i) = true
    · rw [if_pos h]; have := scan_le p T n k (i + 1); omega
    · rw [if_neg h]; exact Int.le_refl _
theorem scE_le : i ≤ scE p T n i := scan_le p T n _ i
theorem scan_n (p : Int → Bool) (T : Int → Int) (n : Int) : ∀ (k : Nat) (i : Int), i ≤ n → scan p T n k i ≤ n
  | 0, i, h => h
  | k + 1, i, h => by
    unfold scan
    by_cases q : i < n ∧ p (T i) = true
    · rw [if_pos q]; exact scan_n p T n k (i + 1) (by omega)
    · rw [if_neg q]; exact h
theorem scE_n (h : i ≤ n) : scE p T n i ≤ n := scan_n p T n _ i h
theorem scan_congr (p : Int → Bool) (n : Int) (h : ∀ j, 0 ≤ j → j < n → T j = T' j) : ∀ (k : Nat) (i : Int), 0 ≤ i → scan p T n k i = scan p T' n k i
  | 0, _, _ => rfl
  | k + 1, i, hi => by
    unfold scan
    by_cases q : i < n
    · rw [h i hi q, scan_congr p n h k (i + 1) (by omega)]
    · rw [if_neg (fun z => q z.1), if_neg (fun z => q z.1)]
theorem scE_congr (h : ∀ j, 0 ≤ j → j < n → T j = T' j) (hi : 0 ≤ i) : scE p T n i = scE p T' n i := scan_congr p n h _ i hi
/-- where the scan stops -/
theorem scan_stop (p : Int → Bool) (T : Int → Int) (n : Int) : ∀ (k : Nat) (i : Int), n - i ≤ k → ¬(scan p T n k i < n ∧ p (T (scan p T n k i)) = true)
  | 0, i, h => fun q => by
    have : scan p T n 0 i = i := rfl
    rw [this] at q; omega
  | k + 1, i, h => by
    unfold scan
    by_cases q : i < n ∧ p (T i) = true
    · rw [if_pos q]; exact scan_stop p T n k (i + 1) (by omega)
    · rw [if_neg q]; exact q
theorem scE_stop : ¬(scE p T n i < n ∧ p (T (scE p T n i)) = true) := scan_stop p T n _ i (by omega)
theorem scan_all (p : Int → Bool) (T : Int → Int) (n : Int) : ∀ (k : Nat) (i j : Int), i ≤ j → j < scan p T n k i → j < n ∧ p (T j) = true
  | 0, i, j, a, b => by
    have : scan p T n 0 i = i := rfl
    omega
  | k + 1, i, j, a, b => by
    unfold scan at b
    by_cases q : i < n ∧ p (T i) = true
    · rw [if_pos q] at b
      by_cases e : j = i
      · rw [e]; exact q
      · exact scan_all p T n k (i + 1) j (by omega) b
    · rw [if_neg q] at b; omega
theorem scE_all {j : Int} (a : i ≤ j) (b : j < scE p T n i) : j < n ∧ p (T j) = true := scan_all p T n _ i j a b
/-- start, kind, end and value of the token behind i -/
def tS (T : Int → Int) (n i : Int) : Int := scE isB T n i
def tE (T : Int → Int) (n i : Int) : Int := if n ≤ tS T n i then tS T n i else if isL (T (tS T n i)) = true then scE isL T n (tS T n i) else if isD (T (tS T n i)) = true then scE isD T n (tS T n i) else tS T n i + 1
def tK (T : Int → Int) (n i : Int) : Int := if n ≤ tS T n i then 0 else if isL (T (tS T n i)) = true then 1 else if isD (T (tS T n i)) = true then (if scE isD T n (tS T n i) - tS T n i ≤ 2 then 2 else 4) else if T (tS T n i) = 59 then 3 else 4
def tV (T : Int → Int) (n i : Int) : Int := if tE T n i - tS T n i = 1 then T (tS T n i) - 48 else 10 * (T (tS T n i) - 48) + (T (tS T n i + 1) - 48)
theorem tS_go (h : i < n) (hb : isB (T i) = true) : tS T n i = tS T n (i + 1) := scE_go h hb
theorem tS_end (h : ¬(i < n ∧ isB (T i) = true)) : tS T n i = i := scE_end h
theorem tS_le : i ≤ tS T n i := scE_le
theorem tS_n (h : i ≤ n) : tS T n i ≤ n := scE_n h
theorem tK_r : 0 ≤ tK T n i ∧ tK T n i ≤ 4 := by
  unfold tK
  split
  · omega
  · split
    · omega
    · split
      · split <;> omega
      · split <;> omega
theorem tE_gt (h : tK T n i ≠ 0) : tS T n i < tE T n i := by
  unfold tK at h
  unfold tE
  by_cases c : n ≤ tS T n i
  · rw [if_pos c] at h; exact absurd rfl h
  · rw [if_neg c]
    by_cases l : isL (T (tS T n i)) = true
    · rw [if_pos l, scE_go (by omega) l]
      have := @scE_le isL T n (tS T n i + 1)
      omega
    · rw [if_neg l]
      by_cases d : isD (T (tS T n i)) = true
      · rw [if_pos d, scE_go (by omega) d]
        have := @scE_le isD T n (tS T n i + 1)
        omega
      · rw [if_neg d]; omega
theorem tE_n (h : i ≤ n) : tE T n i ≤ n := by
  have hs := @tS_n T n i h
  unfold tE
  split
  · exact hs
  · split
    · exact scE_n hs
    · split
      · exact scE_n hs
      · omega
theorem tS_congr (h : ∀ j, 0 ≤ j → j < n → T j = T' j) (hi : 0 ≤ i) : tS T n i = tS T' n i := scE_congr h hi
theorem tE_congr (h : ∀ j, 0 ≤ j → j < n → T j = T' j) (hi : 0 ≤ i) : tE T n i = tE T' n i := by
  have e := tS_congr h hi
  have hs := @tS_le T n i
  unfold tE
  rw [← e]
  by_cases c : n ≤ tS T n i
  · rw [if_pos c, if_pos c]
  · rw [if_neg c, if_neg c, h (tS T n i) (by omega) (by omega), @scE_congr isL T T' n (tS T n i) h (by omega), @scE_congr isD T T' n (tS T n i) h (by omega)]
theorem tK_congr (h : ∀ j, 0 ≤ j → j < n → T j = T' j) (hi : 0 ≤ i) : tK T n i = tK T' n i := by
  have e := tS_congr h hi
  have hs := @tS_le T n i
  unfold tK
  rw [← e]
  by_cases c : n ≤ tS T n i
  · rw [if_pos c, if_pos c]
  · rw [if_neg c, if_neg c, h (tS T n i) (by omega) (by omega), @scE_congr isD T T' n (tS T n i) h (by omega)]
/-- of a number: one digit or two -/
theorem tV_num (h : tK T n i = 2) : (tE T n i - tS T n i = 1 ∨ tE T n i - tS T n i = 2) ∧ tE T n i = scE isD T n (tS T n i) ∧ tS T n i < n ∧ (48 ≤ T (tS T n i) ∧ T (tS T n i) ≤ 57) ∧ (tE T n i - tS T n i = 2 → tS T n i + 1 < n ∧ 48 ≤ T (tS T n i + 1) ∧ T (tS T n i + 1) ≤ 57) := by
  have g := @tE_gt T n i (by rw [h]; decide)
  unfold tK at h
  by_cases c : n ≤ tS T n i
  · rw [if_pos c] at h; omega
  · rw [if_neg c] at h
    by_cases l : isL (T (tS T n i)) = true
    · rw [if_pos l] at h; omega
    · rw [if_neg l] at h
      by_cases d : isD (T (tS T n i)) = true
      · rw [if_pos d] at h
        have eE : tE T n i = scE isD T n (tS T n i) := by unfold tE; rw [if_neg c, if_neg l, if_pos d]
        by_cases z : scE isD T n (tS T n i) - tS T n i ≤ 2
        · have dd := d
          unfold isD at dd
          simp only [Bool.and_eq_true, decide_eq_true_eq] at dd
          refine ⟨by omega, eE, by omega, dd, fun e => ?_⟩
          have a := @scE_all isD T n (tS T n i) (tS T n i + 1) (by omega) (by omega)
          have a2 := a.2
          unfold isD at a2
          simp only [Bool.and_eq_true, decide_eq_true_eq] at a2
          exact ⟨a.1, a2⟩
        · rw [if_neg z] at h; omega
      · rw [if_neg d] at h
        by_cases s : T (tS T n i) = 59
        · rw [if_pos s] at h; omega
        · rw [if_neg s] at h; omega
theorem tV_r (h : tK T n i = 2) : 0 ≤ tV T n i ∧ tV T n i ≤ 99 := by
  obtain ⟨a, _, _, b, c⟩ := tV_num h
  unfold tV
  by_cases e : tE T n i - tS T n i = 1
  · rw [if_pos e]; omega
  · rw [if_neg e]
    have := c (by omega)
    omega
theorem tV_congr (h : ∀ j, 0 ≤ j → j < n → T j = T' j) (hi : 0 ≤ i) (hk : tK T n i = 2) : tV T n i = tV T' n i := by
  have e := tS_congr h hi
  have e2 := tE_congr h hi
  have hs := @tS_le T n i
  obtain ⟨a, _, b, _, c⟩ := tV_num hk
  unfold tV
  rw [← e, ← e2, h (tS T n i) (by omega) b]
  by_cases z : tE T n i - tS T n i = 1
  · rw [if_pos z, if_pos z]
  · rw [if_neg z, if_neg z, h (tS T n i + 1) (by omega) (c (by omega)).1]
end Spec
