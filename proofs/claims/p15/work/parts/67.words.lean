/-! words: letters as one number; which line a word begins -/
section Words
variable {M : Mem} {T : Int → Int} {n i : Int}
def WCL : List Int := [114827921155443, 6840691, 474147546227, 512736125800, 123563851081075, 131277443786868, 512970880104, 7565166, 499967944038, 1918989413, 426836779880, 110429873532005, 1952541541, 1734964837, 7562612, 474214787188, 444150998382, 1818584692]
theorem WC_ok : ((List.range 18).all fun l => decide (encL (fun k => sC l k) 0 (sLen.getD l 0) = WCL.getD l 0) && decide (sLen.getD l 0 ≤ 6) && decide (1 ≤ sLen.getD l 0) && (List.range (sLen.getD l 0)).all fun k => decide (97 ≤ sC l k) && decide (sC l k ≤ 122)) = true := by decide +kernel
theorem WC_at {l : Nat} (h : l < 18) : encL (fun k => sC l k) 0 (sLen.getD l 0) = WCL.getD l 0 ∧ sLen.getD l 0 ≤ 6 ∧ 1 ≤ sLen.getD l 0 ∧ ∀ k : Nat, k < sLen.getD l 0 → 97 ≤ sC l k ∧ sC l k ≤ 122 := by
  have g := List.all_eq_true.mp WC_ok l (List.mem_range.mpr h)
  simp only [Bool.and_eq_true, decide_eq_true_eq, List.all_eq_true, List.mem_range] at g
  exact ⟨g.1.1.1, g.1.1.2, g.1.2, g.2⟩
def wmB (T : Int → Int) (j m : Int) (l : Nat) : Bool := decide (m = ((sLen.getD l 0 : Nat) : Int)) && (List.range (sLen.getD l 0)).all fun k => decide (T (j + k) = sC l k)
theorem wmB_iff {j m : Int} {l : Nat} : wmB T j m l = true ↔ m = ((sLen.getD l 0 : Nat) : Int) ∧ ∀ k : Nat, k < sLen.getD l 0 → T (j + k) = sC l k := by
  unfold wmB
  simp only [Bool.and_eq_true, decide_eq_true_eq, List.all_eq_true, List.mem_range]
theorem encL_0 {T : Int → Int} {j : Int} : ∀ k : Nat, (∀ a : Nat, a < k → 1 ≤ T (j + a) ∧ T (j + a) ≤ 255) → 0 ≤ encL T j k
  | 0, _ => Int.le_refl _
  | k + 1, h => by
    have := encL_0 k (fun a ha => h a (by omega))
    have := h k (by omega)
    unfold encL; omega
theorem encL_inj {T T' : Int → Int} {j j' : Int} : ∀ k k' : Nat, (∀ a : Nat, a < k → 1 ≤ T (j + a) ∧ T (j + a) ≤ 255) → (∀ a : Nat, a < k' → 1 ≤ T' (j' + a) ∧ T' (j' + a) ≤ 255) → encL T j k = encL T' j' k' → k = k' ∧ ∀ a : Nat, a < k → T (j + a) = T' (j' + a)
  | 0, 0, _, _, _ => ⟨rfl, fun a h => absurd h (Nat.not_lt_zero _)⟩
  | 0, k' + 1, _, h', e => by
    exfalso
    have := encL_0 k' (fun a ha => h' a (by omega))
    have := h' k' (by omega)
    unfold encL at e; omega
  | k + 1, 0, h, _, e => by
    exfalso
    have := encL_0 k (fun a ha => h a (by omega))
    have := h k (by omega)
    unfold encL at e; omega
  | k + 1, k' + 1, h, h', e => by
    have c := h k (by omega)
    have c' := h' k' (by omega)
    unfold encL at e
    have i := encL_inj k k' (fun a ha => h a (by omega)) (fun a ha => h' a (by omega)) (by omega)
    obtain ⟨ik, ia⟩ := i
    subst ik
    refine ⟨rfl, fun a ha => ?_⟩
    by_cases q : a = k
    · rw [q]; omega
    · exact ia a (by omega)
theorem encL_eq {T T' : Int → Int} {j j' : Int} : ∀ k : Nat, (∀ a : Nat, a < k → T (j + a) = T' (j' + a)) → encL T j k = encL T' j' k
  | 0, _ => rfl
  | k + 1, h => by
    unfold encL
    rw [encL_eq k (fun a ha => h a (by omega)), h k (by omega)]
theorem tK_word (h : tK T n i = 1) : tS T n i < n ∧ tE T n i = scE isL T n (tS T n i) ∧ ∀ a : Nat, tS T n i + a < tE T n i → 97 ≤ T (tS T n i + a) ∧ T (tS T n i + a) ≤ 122 := by
  unfold tK at h
  by_cases c : n ≤ tS T n i
  · rw [if_pos c] at h; omega
  · rw [if_neg c] at h
    by_cases l : isL (T (tS T n i)) = true
    · have eE : tE T n i = scE isL T n (tS T n i) := by unfold tE; rw [if_neg c, if_pos l]
      refine ⟨by omega, eE, fun a ha => ?_⟩
      rw [eE] at ha
      have := (@scE_all isL T n (tS T n i) (tS T n i + a) (by omega) ha).2
      unfold isL at this
      simp only [Bool.and_eq_true, decide_eq_true_eq] at this
      exact this
    · rw [if_neg l] at h
      by_cases d : isD (T (tS T n i)) = true
      · rw [if_pos d] at h
        split at h <;> omega
      · rw [if_neg d] at h
        split at h <;> omega
theorem tW_iff (h : tK T n i = 1) {l : Nat} (hl : l < 18) : tW T n i = WCL.getD l 0 ↔ wmB T (tS T n i) (tE T n i - tS T n i) l = true := by
  obtain ⟨w1, w2, w3, w4⟩ := WC_at hl
  obtain ⟨k1, k2, k3⟩ := tK_word h
  have hge := @scE_le isL T n (tS T n i)
  rw [wmB_iff]
  have pos : 0 < WCL.getD l 0 := by
    rw [← w1]
    obtain ⟨m, hm⟩ : ∃ m, sLen.getD l 0 = m + 1 := ⟨sLen.getD l 0 - 1, by omega⟩
    rw [hm]
    have a := encL_0 (T := fun k => sC l k) (j := 0) m (fun a ha => by have := w4 a (by omega); rw [Int.zero_add]; omega)
    have b := w4 m (by omega)
    show 0 < 256 * encL (fun k => sC l k) 0 m + sC l (0 + m)
    rw [Int.zero_add]; omega
  unfold tW
  by_cases c : 8 < tE T n i - tS T n i
  · rw [if_pos c]
    constructor
    · intro e; omega
    · intro e; have := e.1; omega
  · rw [if_neg c, ← w1]
    constructor
    · intro e
      have r := encL_inj _ _ (fun a ha => by have := k3 a (by omega); omega) (fun a ha => by have := w4 a ha; rw [Int.zero_add]; omega) e
      refine ⟨by omega, fun k hk => ?_⟩
      have := r.2 k (by omega)
      rw [Int.zero_add] at this; exact this
    · rintro ⟨e1, e2⟩
      rw [show (tE T n i - tS T n i).toNat = sLen.getD l 0 by omega]
      exact encL_eq _ (fun a ha => by rw [Int.zero_add]; exact e2 a ha)
/-- the line that a word begins, among those from l on, ahead of v -/
def lnF (T : Int → Int) (j m : Int) : Nat → Int → Int → Int
  | 0, _, _ => -1
  | k + 1, l, v => if l < v then (if wmB T j m l.toNat = true then l else lnF T j m k (l + 1) v) else -1
def lnIx (T : Int → Int) (n i s : Int) : Int := lnF T (tS T n i) (tE T n i - tS T n i) 18 ((sTab 0).getD s.toNat 0) ((sTab 0).getD (s + 1).toNat 0)
theorem lnF_sp {j m : Int} : ∀ (k : Nat) (l v : Int), v - l ≤ k → 0 ≤ l → (lnF T j m k l v = -1 ∧ ∀ x, l ≤ x → x < v → ¬ wmB T j m x.toNat = true) ∨ (l ≤ lnF T j m k l v ∧ lnF T j m k l v < v ∧ wmB T j m (lnF T j m k l v).toNat = true)
  | 0, l, v, h, _ => Or.inl ⟨rfl, fun x a b => by omega⟩
  | k + 1, l, v, h, l0 => by
    unfold lnF
    by_cases c : l < v
    · rw [if_pos c]
      by_cases w : wmB T j m l.toNat = true
      · rw [if_pos w]; exact Or.inr ⟨by omega, c, w⟩
      · rw [if_neg w]
        rcases lnF_sp k (l + 1) v (by omega) (by omega) with ⟨e, f⟩ | ⟨a, b, d⟩
        · refine Or.inl ⟨e, fun x x1 x2 => ?_⟩
          by_cases z : x = l
          · rw [z]; exact w
          · exact f x (by omega) x2
        · exact Or.inr ⟨by omega, b, d⟩
    · rw [if_neg c]; exact Or.inl ⟨rfl, fun x a b => by omega⟩
def FL_ (s : Int) : Int := (sTab 0).getD s.toNat 0
theorem FL_b {s : Int} (s0 : 0 ≤ s) (s4 : s < 4) : 0 ≤ FL_ s ∧ FL_ s < FL_ (s + 1) ∧ FL_ (s + 1) ≤ 18 ∧ FL_ (s + 1) - FL_ s ≤ 18 := by
  rcases (show s = 0 ∨ s = 1 ∨ s = 2 ∨ s = 3 by omega) with e | e | e | e <;> subst e <;> decide
theorem lnIx_sp {s : Int} (s0 : 0 ≤ s) (s4 : s < 4) : (lnIx T n i s = -1 ∧ ∀ x, FL_ s ≤ x → x < FL_ (s + 1) → ¬ wmB T (tS T n i) (tE T n i - tS T n i) x.toNat = true) ∨ (FL_ s ≤ lnIx T n i s ∧ lnIx T n i s < FL_ (s + 1) ∧ wmB T (tS T n i) (tE T n i - tS T n i) (lnIx T n i s).toNat = true) := by
  have b := FL_b s0 s4
  exact lnF_sp 18 (FL_ s) (FL_ (s + 1)) (by omega) b.1
/-! the class finds that line -/
theorem isWord_v (hT : WT M) (hs : RS M) (hx : TokX (M.1 2) (M.1 47 7) i M) (hk : tK (M.1 2) (M.1 47 7) i = 1) (hi : 0 ≤ i) {l : Nat} (hl : l < 19) : fX3_isWord M 47 (-6 - (l : Int)) = some (if wmB (M.1 2) (tS (M.1 2) (M.1 47 7) i) (tE (M.1 2) (M.1 47 7) i - tS (M.1 2) (M.1 47 7) i) l = true then 1 else 0) := by
  have ha : -24 ≤ -6 - (l : Int) ∧ -6 - (l : Int) ≤ -6 := by omega
  have el : fS_len (-6 - (l : Int)) = some ((sLen.getD l 0 : Nat) : Int) := by
    unfold fS_len
    rw [if_pos ha, show (-6 - (-6 - (l : Int))).toNat = l by omega]
  obtain ⟨x1, x2, x3, x4⟩ := hx
  have e8 := x3 (by rw [hk]; decide)
  obtain ⟨k1, k2, k3⟩ := tK_word hk
  have hS := @tS_le (M.1 2) (M.1 47 7) i
  have hE := @tE_gt (M.1 2) (M.1 47 7) i (by rw [hk]; decide)
  have hN : tE (M.1 2) (M.1 47 7) i ≤ M.1 47 7 := by rw [← e8]; exact hs.2.2.2
  have h6 := hs.2.1.1
  have key : TT (fX3_isWord M 47 (-6 - (l : Int))) (fun r => r = if wmB (M.1 2) (tS (M.1 2) (M.1 47 7) i) (tE (M.1 2) (M.1 47 7) i - tS (M.1 2) (M.1 47 7) i) l = true then 1 else 0) := by
    unfold fX3_isWord
    rw [el, e8, x1]
    generalize hT1 : tS (M.1 2) (M.1 47 7) i = j at *
    generalize hE1 : tE (M.1 2) (M.1 47 7) i = e at *
    rw [w32_of (x := e - j) (by omega) (by omega)]
    refine TT.guard (wk47 hT) (TT.bindE rfl (TT.ite (fun c => ?_) (fun c => TT.ok ?_)))
    · refine TT.iter (fun s : Int => (0 ≤ s ∧ s ≤ e - j) ∧ ∀ k : Nat, (k : Int) < s → M.1 2 (j + k) = sC l k) (fun s => (e - j - s).toNat) ?_ BIG 0 ⟨by omega, fun k hk => by omega⟩ (by unfold BIG; omega)
      rintro rec s ⟨⟨s0, s1⟩, hs2⟩ hr
      refine TT.bindE rfl (TT.ite (fun cs => ?_) (fun cs => TT.ok ?_))
      · have ec : fS_chr (-6 - (l : Int)) s = some (sC l s) := by
          unfold fS_chr
          rw [show (-6 - (-6 - (l : Int))).toNat = l by omega, if_pos ⟨ha, s0, cs⟩]
        have hb := byteAt_v hT hs.1 h6 (i := j + s) (by omega)
        rw [if_pos (by omega)] at hb
        rw [w32_of (x := j + s) (by omega) (by omega)]
        refine TT.bindE hb (TT.bindE ec (TT.ite (fun q => hr _ ⟨?_, fun k hk => ?_⟩ ?_) (fun q => TT.ok ?_)))
        · rw [w32_of (by omega) (by omega)]; omega
        · rw [w32_of (by omega) (by omega)] at hk
          by_cases z : (k : Int) = s
          · rw [z]; exact q
          · exact hs2 k (by omega)
        · rw [w32_of (by omega) (by omega)]; omega
        · rw [if_neg]
          intro w
          have w2 := (wmB_iff.mp w).2 s.toNat (by omega)
          rw [show ((s.toNat : Nat) : Int) = s by omega] at w2
          exact q w2
      · rw [if_pos]
        exact wmB_iff.mpr ⟨c, fun k hk => hs2 k (by omega)⟩
    · rw [if_neg]
      intro w
      exact c (wmB_iff.mp w).1
  obtain ⟨r, e1, e2⟩ := key
  rw [e1, e2]
theorem wordOf_v {l : Int} (h0 : 0 ≤ l) (h1 : l < 18) : fX3_wordOf M l = some (-6 - l) := by
  rcases (show l = 0 ∨ l = 1 ∨ l = 2 ∨ l = 3 ∨ l = 4 ∨ l = 5 ∨ l = 6 ∨ l = 7 ∨ l = 8 ∨ l = 9 ∨ l = 10 ∨ l = 11 ∨ l = 12 ∨ l = 13 ∨ l = 14 ∨ l = 15 ∨ l = 16 ∨ l = 17 by omega) with e | e | e | e | e | e | e | e | e | e | e | e | e | e | e | e | e | e <;> subst e <;> rfl
theorem lineOf_V (hT : WT M) (hs : RS M) (hx : TokX (M.1 2) (M.1 47 7) i M) (hk : tK (M.1 2) (M.1 47 7) i = 1) (hi : 0 ≤ i) {s : Int} (s0 : 0 ≤ s) (s4 : s < 4) : TT (fX3_lineOf M 47 s) (fun r => r = lnIx (M.1 2) (M.1 47 7) i s) := by
  unfold fX3_lineOf lnIx
  refine TT.neg (by omega) (TT.pos s4 (TT.guard (by omega) ?_))
  have e : w32 (s + 1) = s + 1 := w32_of (by omega) (by omega)
  rw [e]
  have b := FL_b s0 s4
  unfold FL_ at b
  generalize (sTab 0).getD s.toNat 0 = u at *
  generalize (sTab 0).getD (s + 1).toNat 0 = v at *
  refine TT.iter (fun x : Int => (u ≤ x ∧ x ≤ v) ∧ ∃ k : Nat, (k : Int) = 18 - (x - u) ∧ lnF (M.1 2) (tS (M.1 2) (M.1 47 7) i) (tE (M.1 2) (M.1 47 7) i - tS (M.1 2) (M.1 47 7) i) k x v = lnF (M.1 2) (tS (M.1 2) (M.1 47 7) i) (tE (M.1 2) (M.1 47 7) i - tS (M.1 2) (M.1 47 7) i) 18 u v) (fun x => (18 - x).toNat) ?_ BIG u ⟨by omega, 18, by omega, rfl⟩ (by unfold BIG; omega)
  rintro rec x ⟨⟨x0, x1⟩, k, hk1, hk2⟩ hr
  refine TT.guard (by omega) (TT.ite (fun c => ?_) (fun c => TT.ok ?_))
  · obtain ⟨k', rfl⟩ : ∃ k', k = k' + 1 := ⟨k - 1, by omega⟩
    have iw := isWord_v hT hs hx hk hi (l := x.toNat) (by omega)
    rw [show -6 - ((x.toNat : Nat) : Int) = -6 - x by omega] at iw
    refine TT.bindE (wordOf_v (by omega) (by omega)) (TT.guard (wk47 hT) (TT.bindE iw ?_))
    unfold lnF at hk2
    rw [if_pos c] at hk2
    by_cases w : wmB (M.1 2) (tS (M.1 2) (M.1 47 7) i) (tE (M.1 2) (M.1 47 7) i - tS (M.1 2) (M.1 47 7) i) x.toNat = true
    · rw [if_pos w]
      rw [if_pos w] at hk2
      exact TT.neg (by decide) (TT.ok hk2)
    · rw [if_neg w]
      rw [if_neg w] at hk2
      refine TT.pos rfl (hr _ ⟨?_, k', ?_, ?_⟩ ?_)
      · rw [w32_of (by omega) (by omega)]; omega
      · rw [w32_of (by omega) (by omega)]; omega
      · rw [w32_of (by omega) (by omega)]; exact hk2
      · rw [w32_of (by omega) (by omega)]; omega
  · rw [← hk2]
    cases k with
    | zero => rfl
    | succ k => unfold lnF; rw [if_neg c]
end Words
