/-! told cells: their ranges; what a computing call leaves alone -/
abbrev L5 : Type := List (Int × Int × Int × Int × Int)
def RGL : L5 := [(1, 1, 1, 0, 600), (3, 0, 3, 0, 2), (8, 0, 0, 1, 6), (8, 1, 1, 0, 4), (9, 0, 29, 0, 9), (10, 0, 29, 0, 9), (11, 0, 5, 0, 9), (12, 0, 5, 0, 5), (13, 0, 4, 1, 9), (14, 0, 4, 0, 9), (15, 0, 3, 0, 9), (16, 0, 3, (-1), 3), (27, 0, 0, 1, 6), (27, 1, 1, 0, 4), (28, 0, 29, 0, 9), (29, 0, 29, 0, 9), (30, 0, 5, 0, 9), (31, 0, 5, 0, 5), (32, 0, 4, 1, 9), (33, 0, 4, 0, 9), (34, 0, 3, 0, 9), (35, 0, 3, (-1), 3), (17, 0, 0, 2, 5), (17, 1, 1, 1, 99), (36, 0, 0, 2, 5), (36, 1, 1, 1, 99), (18, 0, 0, 0, 40), (37, 0, 0, 0, 40), (23, 0, 0, 0, 8), (24, 0, 7, 0, 5), (25, 0, 7, 0, 4), (26, 0, 29, (-1), 18), (42, 0, 0, 0, 8), (43, 0, 7, 0, 5), (44, 0, 7, 0, 4), (45, 0, 29, (-1), 18), (87, 0, 3, 0, 600), (90, 0, 15, 0, 2), (91, 0, 0, 0, 6), (91, 1, 1, 0, 4), (91, 2, 61, 0, 9), (91, 62, 67, 0, 9), (91, 68, 73, 0, 5), (91, 74, 78, 0, 9), (91, 79, 83, 0, 9), (91, 84, 87, 0, 9), (91, 88, 91, (-1), 3), (93, 0, 0, 0, 40), (94, 0, 0, 0, 8), (94, 1, 1, 0, 5), (94, 2, 2, 0, 4), (94, 3, 3, 0, 5), (94, 4, 4, 0, 4), (94, 5, 5, 0, 5), (94, 6, 6, 0, 4), (94, 7, 7, 0, 5), (94, 8, 8, 0, 4), (94, 9, 9, 0, 5), (94, 10, 10, 0, 4), (94, 11, 11, 0, 5), (94, 12, 12, 0, 4), (94, 13, 13, 0, 5), (94, 14, 14, 0, 4), (94, 15, 15, 0, 5), (94, 16, 16, 0, 4), (91, 92, 92, 0, 6), (91, 93, 93, 0, 4), (91, 94, 153, 0, 9), (91, 154, 159, 0, 9), (91, 160, 165, 0, 5), (91, 166, 170, 0, 9), (91, 171, 175, 0, 9), (91, 176, 179, 0, 9), (91, 180, 183, (-1), 3), (93, 161, 161, 0, 40), (94, 47, 47, 0, 8), (94, 48, 48, 0, 5), (94, 49, 49, 0, 4), (94, 50, 50, 0, 5), (94, 51, 51, 0, 4), (94, 52, 52, 0, 5), (94, 53, 53, 0, 4), (94, 54, 54, 0, 5), (94, 55, 55, 0, 4), (94, 56, 56, 0, 5), (94, 57, 57, 0, 4), (94, 58, 58, 0, 5), (94, 59, 59, 0, 4), (94, 60, 60, 0, 5), (94, 61, 61, 0, 4), (94, 62, 62, 0, 5), (94, 63, 63, 0, 4), (91, 184, 184, 0, 6), (91, 185, 185, 0, 4), (91, 186, 245, 0, 9), (91, 246, 251, 0, 9), (91, 252, 257, 0, 5), (91, 258, 262, 0, 9), (91, 263, 267, 0, 9), (91, 268, 271, 0, 9), (91, 272, 275, (-1), 3), (93, 322, 322, 0, 40), (94, 94, 94, 0, 8), (94, 95, 95, 0, 5), (94, 96, 96, 0, 4), (94, 97, 97, 0, 5), (94, 98, 98, 0, 4), (94, 99, 99, 0, 5), (94, 100, 100, 0, 4), (94, 101, 101, 0, 5), (94, 102, 102, 0, 4), (94, 103, 103, 0, 5), (94, 104, 104, 0, 4), (94, 105, 105, 0, 5), (94, 106, 106, 0, 4), (94, 107, 107, 0, 5), (94, 108, 108, 0, 4), (94, 109, 109, 0, 5), (94, 110, 110, 0, 4), (91, 276, 276, 0, 6), (91, 277, 277, 0, 4), (91, 278, 337, 0, 9), (91, 338, 343, 0, 9), (91, 344, 349, 0, 5), (91, 350, 354, 0, 9), (91, 355, 359, 0, 9), (91, 360, 363, 0, 9), (91, 364, 367, (-1), 3), (93, 483, 483, 0, 40), (94, 141, 141, 0, 8), (94, 142, 142, 0, 5), (94, 143, 143, 0, 4), (94, 144, 144, 0, 5), (94, 145, 145, 0, 4), (94, 146, 146, 0, 5), (94, 147, 147, 0, 4), (94, 148, 148, 0, 5), (94, 149, 149, 0, 4), (94, 150, 150, 0, 5), (94, 151, 151, 0, 4), (94, 152, 152, 0, 5), (94, 153, 153, 0, 4), (94, 154, 154, 0, 5), (94, 155, 155, 0, 4), (94, 156, 156, 0, 5), (94, 157, 157, 0, 4), (91, 368, 368, 0, 6), (91, 369, 369, 0, 4), (91, 370, 429, 0, 9), (91, 430, 435, 0, 9), (91, 436, 441, 0, 5), (91, 442, 446, 0, 9), (91, 447, 451, 0, 9), (91, 452, 455, 0, 9), (91, 456, 459, (-1), 3), (93, 644, 644, 0, 40), (94, 188, 188, 0, 8), (94, 189, 189, 0, 5), (94, 190, 190, 0, 4), (94, 191, 191, 0, 5), (94, 192, 192, 0, 4), (94, 193, 193, 0, 5), (94, 194, 194, 0, 4), (94, 195, 195, 0, 5), (94, 196, 196, 0, 4), (94, 197, 197, 0, 5), (94, 198, 198, 0, 4), (94, 199, 199, 0, 5), (94, 200, 200, 0, 4), (94, 201, 201, 0, 5), (94, 202, 202, 0, 4), (94, 203, 203, 0, 5), (94, 204, 204, 0, 4), (91, 460, 460, 0, 6), (91, 461, 461, 0, 4), (91, 462, 521, 0, 9), (91, 522, 527, 0, 9), (91, 528, 533, 0, 5), (91, 534, 538, 0, 9), (91, 539, 543, 0, 9), (91, 544, 547, 0, 9), (91, 548, 551, (-1), 3), (93, 805, 805, 0, 40), (94, 235, 235, 0, 8), (94, 236, 236, 0, 5), (94, 237, 237, 0, 4), (94, 238, 238, 0, 5), (94, 239, 239, 0, 4), (94, 240, 240, 0, 5), (94, 241, 241, 0, 4), (94, 242, 242, 0, 5), (94, 243, 243, 0, 4), (94, 244, 244, 0, 5), (94, 245, 245, 0, 4), (94, 246, 246, 0, 5), (94, 247, 247, 0, 4), (94, 248, 248, 0, 5), (94, 249, 249, 0, 4), (94, 250, 250, 0, 5), (94, 251, 251, 0, 4), (91, 552, 552, 0, 6), (91, 553, 553, 0, 4), (91, 554, 613, 0, 9), (91, 614, 619, 0, 9), (91, 620, 625, 0, 5), (91, 626, 630, 0, 9), (91, 631, 635, 0, 9), (91, 636, 639, 0, 9), (91, 640, 643, (-1), 3), (93, 966, 966, 0, 40), (94, 282, 282, 0, 8), (94, 283, 283, 0, 5), (94, 284, 284, 0, 4), (94, 285, 285, 0, 5), (94, 286, 286, 0, 4), (94, 287, 287, 0, 5), (94, 288, 288, 0, 4), (94, 289, 289, 0, 5), (94, 290, 290, 0, 4), (94, 291, 291, 0, 5), (94, 292, 292, 0, 4), (94, 293, 293, 0, 5), (94, 294, 294, 0, 4), (94, 295, 295, 0, 5), (94, 296, 296, 0, 4), (94, 297, 297, 0, 5), (94, 298, 298, 0, 4), (91, 644, 644, 0, 6), (91, 645, 645, 0, 4), (91, 646, 705, 0, 9), (91, 706, 711, 0, 9), (91, 712, 717, 0, 5), (91, 718, 722, 0, 9), (91, 723, 727, 0, 9), (91, 728, 731, 0, 9), (91, 732, 735, (-1), 3), (93, 1127, 1127, 0, 40), (94, 329, 329, 0, 8), (94, 330, 330, 0, 5), (94, 331, 331, 0, 4), (94, 332, 332, 0, 5), (94, 333, 333, 0, 4), (94, 334, 334, 0, 5), (94, 335, 335, 0, 4), (94, 336, 336, 0, 5), (94, 337, 337, 0, 4), (94, 338, 338, 0, 5), (94, 339, 339, 0, 4), (94, 340, 340, 0, 5), (94, 341, 341, 0, 4), (94, 342, 342, 0, 5), (94, 343, 343, 0, 4), (94, 344, 344, 0, 5), (94, 345, 345, 0, 4)]
def rows (M : Mem) (l : L5) : Prop := ∀ p ∈ l, ∀ i, p.2.1 ≤ i → i ≤ p.2.2.1 → p.2.2.2.1 ≤ M.1 p.1 i ∧ M.1 p.1 i ≤ p.2.2.2.2
def rdc (x y : Int) : Bool := (decide (x = 47) && (decide (y ≤ 1) || (decide (6 ≤ y) && decide (y ≤ 11)) || decide (13 ≤ y))) || (decide (x = 48) && decide (y ≤ 1)) || (decide (49 ≤ x) && decide (x ≤ 57)) || (decide (x = 58) && decide (y ≤ 0)) || (decide (59 ≤ x) && decide (x ≤ 62)) || (decide (x = 63) && decide (y ≤ 0)) || (decide (66 ≤ x) && decide (x ≤ 67))
def scr (x y : Int) : Bool := (decide (x = 68) && (decide (y ≤ 1) || decide (12 ≤ y))) || (decide (69 ≤ x) && decide (x ≤ 78)) || decide (x = 80) || decide (x = 81) || (decide (x = 82) && (decide (y = 1) || decide (y = 3) || decide (y = 4))) || decide (x = 83) || decide (x = 84) || (decide (x = 85) && (decide (y ≤ 0) || (decide (10 ≤ y) && decide (y ≤ 18)) || (decide (21 ≤ y) && decide (y ≤ 28)) || (decide (40 ≤ y) && decide (y ≤ 42)) || decide (y = 44) || decide (y = 45) || decide (y = 48) || decide (y = 49))) || (decide (95 ≤ x) && decide (x ≤ 110)) || rdc x y
def Keep (M N : Mem) : Prop := N.2 = M.2 ∧ ∀ x y, scr x y = false → N.1 x y = M.1 x y
theorem Keep.self {M : Mem} : Keep M M := ⟨Eq.refl _, fun _ _ _ => Eq.refl _⟩
theorem Keep.trans {M N O : Mem} (h : Keep M N) (g : Keep N O) : Keep M O := ⟨g.1.trans h.1, fun x y q => (g.2 x y q).trans (h.2 x y q)⟩
theorem Keep.st {M N : Mem} (h : Keep M N) {a i v : Int} (hs : scr a i = true) : Keep M (mst N a i v) := ⟨h.1, fun x y q => by
  rw [mst_r, if_neg, h.2 x y q]
  rintro ⟨e1, e2⟩
  rw [e1, e2, hs] at q
  cases q⟩
/-- the arrays of the reference that hold something only where it is told -/
def CF (M : Mem) : Prop := (∀ l k, 0 ≤ l → l < 4 → 0 ≤ k → k < 2 → (k < M.1 90 (4 * l) → 1 ≤ M.1 91 (184 * l + 92 * k)) ∧ (k < M.1 90 (4 * l + 1) → 2 ≤ M.1 92 (6 * l + 3 * k) ∧ M.1 92 (6 * l + 3 * k) ≤ 5)) ∧
  ∀ q j, 0 ≤ q → q < 8 → 0 ≤ j → j < 40 → (M.1 93 (161 * q + 1 + 4 * j) = 0 ∨ M.1 93 (161 * q + 1 + 4 * j) = 1) → 0 ≤ M.1 93 (161 * q + 4 + 4 * j) ∧ M.1 93 (161 * q + 4 + 4 * j) ≤ 4
def WT (M : Mem) : Prop := Shp M ∧ rows M RGL ∧ CF M
theorem RGL_keep : (RGL.all fun p => decide (p.1 ≠ 68) && decide (p.1 < 47 ∨ 86 ≤ p.1) && decide (p.1 < 95 ∨ 111 ≤ p.1)) = true := by decide +kernel
theorem PL_keep : (PL.all fun p => !scr p.1 p.2.1) = true := by decide +kernel
theorem scr_lo {x : Int} (y : Int) (h1 : x ≠ 68) (h2 : x < 47 ∨ 86 ≤ x) (h3 : x < 95 ∨ 111 ≤ x) : scr x y = false := by
  unfold scr
  have e1 : decide (x = 68) = false := decide_eq_false h1
  have e2 : (decide (69 ≤ x) && decide (x ≤ 78)) = false := by rw [Bool.and_eq_false_iff, decide_eq_false_iff_not, decide_eq_false_iff_not]; omega
  have f80 : decide (x = 80) = false := decide_eq_false (by omega)
  have f81 : decide (x = 81) = false := decide_eq_false (by omega)
  have e3 : decide (x = 82) = false := decide_eq_false (by omega)
  have e4 : decide (x = 83) = false := decide_eq_false (by omega)
  have e5 : decide (x = 84) = false := decide_eq_false (by omega)
  have e6 : decide (x = 85) = false := decide_eq_false (by omega)
  have e7 : (decide (95 ≤ x) && decide (x ≤ 110)) = false := by rw [Bool.and_eq_false_iff, decide_eq_false_iff_not, decide_eq_false_iff_not]; omega
  have e8 : rdc x y = false := by
    unfold rdc; simp only [Bool.or_eq_false_iff, Bool.and_eq_false_iff, decide_eq_false_iff_not]; omega
  rw [e1, e2, f80, f81, e3, e4, e5, e6, e7, e8]; rfl
theorem WT.keep {M N : Mem} (h : WT M) (k : Keep M N) : WT N := by
  obtain ⟨⟨h1, h2⟩, h3, h4, h5⟩ := h
  refine ⟨⟨?_, ?_⟩, ?_, ?_, ?_⟩
  · unfold kinds at *; rw [k.1]; exact h1
  · unfold hold at *
    rw [List.all_eq_true] at *
    intro p hp
    have g1 := h2 p hp
    have g2 := List.all_eq_true.mp PL_keep p hp
    simp only [decide_eq_true_eq] at g1 ⊢
    rw [k.2 _ _ (by simpa using g2), g1]
  · intro p hp i hi hj
    have g := List.all_eq_true.mp RGL_keep p hp
    simp only [Bool.and_eq_true, decide_eq_true_eq] at g
    rw [k.2 _ _ (scr_lo _ g.1.1 g.1.2 g.2)]
    exact h3 p hp i hi hj
  · intro l m l0 l4 m0 m2
    rw [k.2 90 _ (scr_lo _ (by decide) (by decide) (by decide)), k.2 90 _ (scr_lo _ (by decide) (by decide) (by decide)), k.2 91 _ (scr_lo _ (by decide) (by decide) (by decide)), k.2 92 _ (scr_lo _ (by decide) (by decide) (by decide))]
    exact h4 l m l0 l4 m0 m2
  · intro q j q0 q8 j0 j4
    rw [k.2 93 _ (scr_lo _ (by decide) (by decide) (by decide)), k.2 93 _ (scr_lo _ (by decide) (by decide) (by decide))]
    exact h5 q j q0 q8 j0 j4
theorem rows_at {M : Mem} {l : L5} (h : rows M l) {p : Int × Int × Int × Int × Int} (n : Nat) (hn : l[n]? = some p) {i : Int} (h1 : p.2.1 ≤ i) (h2 : i ≤ p.2.2.1) : p.2.2.2.1 ≤ M.1 p.1 i ∧ M.1 p.1 i ≤ p.2.2.2.2 := h p (List.mem_of_getElem? hn) i h1 h2
section WTAt
variable {M : Mem}
theorem wk0 (h : WT M) : M.2.1 0 = 9 := sk0 h.1
theorem wk1 (h : WT M) : M.2.1 1 = 6 := sk1 h.1
theorem wk2 (h : WT M) : M.2.1 2 = 11 := sk2 h.1
theorem wl2 (h : WT M) : M.2.2.1 2 = 600 := sl2 h.1
theorem wk3 (h : WT M) : M.2.1 3 = 12 := sk3 h.1
theorem wl3 (h : WT M) : M.2.2.1 3 = 4 := sl3 h.1
theorem wk4 (h : WT M) : M.2.1 4 = 18 := sk4 h.1
theorem wl4 (h : WT M) : M.2.2.1 4 = 2 := sl4 h.1
theorem wk5 (h : WT M) : M.2.1 5 = 14 := sk5 h.1
theorem wl5 (h : WT M) : M.2.2.1 5 = 2 := sl5 h.1
theorem wk6 (h : WT M) : M.2.1 6 = 15 := sk6 h.1
theorem wl6 (h : WT M) : M.2.2.1 6 = 2 := sl6 h.1
theorem wk7 (h : WT M) : M.2.1 7 = 16 := sk7 h.1
theorem wl7 (h : WT M) : M.2.2.1 7 = 2 := sl7 h.1
theorem wk8 (h : WT M) : M.2.1 8 = 7 := sk8 h.1
theorem wk9 (h : WT M) : M.2.1 9 = 12 := sk9 h.1
theorem wl9 (h : WT M) : M.2.2.1 9 = 30 := sl9 h.1
theorem wk10 (h : WT M) : M.2.1 10 = 12 := sk10 h.1
theorem wl10 (h : WT M) : M.2.2.1 10 = 30 := sl10 h.1
theorem wk11 (h : WT M) : M.2.1 11 = 12 := sk11 h.1
theorem wl11 (h : WT M) : M.2.2.1 11 = 6 := sl11 h.1
theorem wk12 (h : WT M) : M.2.1 12 = 12 := sk12 h.1
theorem wl12 (h : WT M) : M.2.2.1 12 = 6 := sl12 h.1
theorem wk13 (h : WT M) : M.2.1 13 = 12 := sk13 h.1
theorem wl13 (h : WT M) : M.2.2.1 13 = 5 := sl13 h.1
theorem wk14 (h : WT M) : M.2.1 14 = 12 := sk14 h.1
theorem wl14 (h : WT M) : M.2.2.1 14 = 5 := sl14 h.1
theorem wk15 (h : WT M) : M.2.1 15 = 12 := sk15 h.1
theorem wl15 (h : WT M) : M.2.2.1 15 = 4 := sl15 h.1
theorem wk16 (h : WT M) : M.2.1 16 = 12 := sk16 h.1
theorem wl16 (h : WT M) : M.2.2.1 16 = 4 := sl16 h.1
theorem wk17 (h : WT M) : M.2.1 17 = 0 := sk17 h.1
theorem wk18 (h : WT M) : M.2.1 18 = 1 := sk18 h.1
theorem wk19 (h : WT M) : M.2.1 19 = 12 := sk19 h.1
theorem wl19 (h : WT M) : M.2.2.1 19 = 40 := sl19 h.1
theorem wk20 (h : WT M) : M.2.1 20 = 12 := sk20 h.1
theorem wl20 (h : WT M) : M.2.2.1 20 = 40 := sl20 h.1
theorem wk21 (h : WT M) : M.2.1 21 = 12 := sk21 h.1
theorem wl21 (h : WT M) : M.2.2.1 21 = 40 := sl21 h.1
theorem wk22 (h : WT M) : M.2.1 22 = 12 := sk22 h.1
theorem wl22 (h : WT M) : M.2.2.1 22 = 40 := sl22 h.1
theorem wk23 (h : WT M) : M.2.1 23 = 4 := sk23 h.1
theorem wk24 (h : WT M) : M.2.1 24 = 12 := sk24 h.1
theorem wl24 (h : WT M) : M.2.2.1 24 = 8 := sl24 h.1
theorem wk25 (h : WT M) : M.2.1 25 = 12 := sk25 h.1
theorem wl25 (h : WT M) : M.2.2.1 25 = 8 := sl25 h.1
theorem wk26 (h : WT M) : M.2.1 26 = 12 := sk26 h.1
theorem wl26 (h : WT M) : M.2.2.1 26 = 30 := sl26 h.1
theorem wk27 (h : WT M) : M.2.1 27 = 7 := sk27 h.1
theorem wk28 (h : WT M) : M.2.1 28 = 12 := sk28 h.1
theorem wl28 (h : WT M) : M.2.2.1 28 = 30 := sl28 h.1
theorem wk29 (h : WT M) : M.2.1 29 = 12 := sk29 h.1
theorem wl29 (h : WT M) : M.2.2.1 29 = 30 := sl29 h.1
theorem wk30 (h : WT M) : M.2.1 30 = 12 := sk30 h.1
theorem wl30 (h : WT M) : M.2.2.1 30 = 6 := sl30 h.1
theorem wk31 (h : WT M) : M.2.1 31 = 12 := sk31 h.1
theorem wl31 (h : WT M) : M.2.2.1 31 = 6 := sl31 h.1
theorem wk32 (h : WT M) : M.2.1 32 = 12 := sk32 h.1
theorem wl32 (h : WT M) : M.2.2.1 32 = 5 := sl32 h.1
theorem wk33 (h : WT M) : M.2.1 33 = 12 := sk33 h.1
theorem wl33 (h : WT M) : M.2.2.1 33 = 5 := sl33 h.1
theorem wk34 (h : WT M) : M.2.1 34 = 12 := sk34 h.1
theorem wl34 (h : WT M) : M.2.2.1 34 = 4 := sl34 h.1
theorem wk35 (h : WT M) : M.2.1 35 = 12 := sk35 h.1
theorem wl35 (h : WT M) : M.2.2.1 35 = 4 := sl35 h.1
theorem wk36 (h : WT M) : M.2.1 36 = 0 := sk36 h.1
theorem wk37 (h : WT M) : M.2.1 37 = 1 := sk37 h.1
theorem wk38 (h : WT M) : M.2.1 38 = 12 := sk38 h.1
theorem wl38 (h : WT M) : M.2.2.1 38 = 40 := sl38 h.1
theorem wk39 (h : WT M) : M.2.1 39 = 12 := sk39 h.1
theorem wl39 (h : WT M) : M.2.2.1 39 = 40 := sl39 h.1
theorem wk40 (h : WT M) : M.2.1 40 = 12 := sk40 h.1
theorem wl40 (h : WT M) : M.2.2.1 40 = 40 := sl40 h.1
theorem wk41 (h : WT M) : M.2.1 41 = 12 := sk41 h.1
theorem wl41 (h : WT M) : M.2.2.1 41 = 40 := sl41 h.1
theorem wk42 (h : WT M) : M.2.1 42 = 4 := sk42 h.1
theorem wk43 (h : WT M) : M.2.1 43 = 12 := sk43 h.1
theorem wl43 (h : WT M) : M.2.2.1 43 = 8 := sl43 h.1
theorem wk44 (h : WT M) : M.2.1 44 = 12 := sk44 h.1
theorem wl44 (h : WT M) : M.2.2.1 44 = 8 := sl44 h.1
theorem wk45 (h : WT M) : M.2.1 45 = 12 := sk45 h.1
theorem wl45 (h : WT M) : M.2.2.1 45 = 30 := sl45 h.1
theorem wk46 (h : WT M) : M.2.1 46 = 17 := sk46 h.1
theorem wl46 (h : WT M) : M.2.2.1 46 = 3 := sl46 h.1
theorem wk47 (h : WT M) : M.2.1 47 = 3 := sk47 h.1
theorem wk48 (h : WT M) : M.2.1 48 = 7 := sk48 h.1
theorem wk49 (h : WT M) : M.2.1 49 = 12 := sk49 h.1
theorem wl49 (h : WT M) : M.2.2.1 49 = 30 := sl49 h.1
theorem wk50 (h : WT M) : M.2.1 50 = 12 := sk50 h.1
theorem wl50 (h : WT M) : M.2.2.1 50 = 30 := sl50 h.1
theorem wk51 (h : WT M) : M.2.1 51 = 12 := sk51 h.1
theorem wl51 (h : WT M) : M.2.2.1 51 = 6 := sl51 h.1
theorem wk52 (h : WT M) : M.2.1 52 = 12 := sk52 h.1
theorem wl52 (h : WT M) : M.2.2.1 52 = 6 := sl52 h.1
theorem wk53 (h : WT M) : M.2.1 53 = 12 := sk53 h.1
theorem wl53 (h : WT M) : M.2.2.1 53 = 5 := sl53 h.1
theorem wk54 (h : WT M) : M.2.1 54 = 12 := sk54 h.1
theorem wl54 (h : WT M) : M.2.2.1 54 = 5 := sl54 h.1
theorem wk55 (h : WT M) : M.2.1 55 = 12 := sk55 h.1
theorem wl55 (h : WT M) : M.2.2.1 55 = 4 := sl55 h.1
theorem wk56 (h : WT M) : M.2.1 56 = 12 := sk56 h.1
theorem wl56 (h : WT M) : M.2.2.1 56 = 4 := sl56 h.1
theorem wk57 (h : WT M) : M.2.1 57 = 0 := sk57 h.1
theorem wk58 (h : WT M) : M.2.1 58 = 1 := sk58 h.1
theorem wk59 (h : WT M) : M.2.1 59 = 12 := sk59 h.1
theorem wl59 (h : WT M) : M.2.2.1 59 = 40 := sl59 h.1
theorem wk60 (h : WT M) : M.2.1 60 = 12 := sk60 h.1
theorem wl60 (h : WT M) : M.2.2.1 60 = 40 := sl60 h.1
theorem wk61 (h : WT M) : M.2.1 61 = 12 := sk61 h.1
theorem wl61 (h : WT M) : M.2.2.1 61 = 40 := sl61 h.1
theorem wk62 (h : WT M) : M.2.1 62 = 12 := sk62 h.1
theorem wl62 (h : WT M) : M.2.2.1 62 = 40 := sl62 h.1
theorem wk63 (h : WT M) : M.2.1 63 = 4 := sk63 h.1
theorem wk64 (h : WT M) : M.2.1 64 = 12 := sk64 h.1
theorem wl64 (h : WT M) : M.2.2.1 64 = 8 := sl64 h.1
theorem wk65 (h : WT M) : M.2.1 65 = 12 := sk65 h.1
theorem wl65 (h : WT M) : M.2.2.1 65 = 8 := sl65 h.1
theorem wk66 (h : WT M) : M.2.1 66 = 12 := sk66 h.1
theorem wl66 (h : WT M) : M.2.2.1 66 = 30 := sl66 h.1
theorem wk67 (h : WT M) : M.2.1 67 = 12 := sk67 h.1
theorem wl67 (h : WT M) : M.2.2.1 67 = 3 := sl67 h.1
theorem wk68 (h : WT M) : M.2.1 68 = 8 := sk68 h.1
theorem wk69 (h : WT M) : M.2.1 69 = 12 := sk69 h.1
theorem wl69 (h : WT M) : M.2.2.1 69 = 30 := sl69 h.1
theorem wk70 (h : WT M) : M.2.1 70 = 12 := sk70 h.1
theorem wl70 (h : WT M) : M.2.2.1 70 = 20 := sl70 h.1
theorem wk71 (h : WT M) : M.2.1 71 = 12 := sk71 h.1
theorem wl71 (h : WT M) : M.2.2.1 71 = 120 := sl71 h.1
theorem wk72 (h : WT M) : M.2.1 72 = 12 := sk72 h.1
theorem wl72 (h : WT M) : M.2.2.1 72 = 120 := sl72 h.1
theorem wk73 (h : WT M) : M.2.1 73 = 12 := sk73 h.1
theorem wl73 (h : WT M) : M.2.2.1 73 = 4 := sl73 h.1
theorem wk74 (h : WT M) : M.2.1 74 = 12 := sk74 h.1
theorem wl74 (h : WT M) : M.2.2.1 74 = 4 := sl74 h.1
theorem wk75 (h : WT M) : M.2.1 75 = 12 := sk75 h.1
theorem wl75 (h : WT M) : M.2.2.1 75 = 4 := sl75 h.1
theorem wk76 (h : WT M) : M.2.1 76 = 12 := sk76 h.1
theorem wl76 (h : WT M) : M.2.2.1 76 = 4 := sl76 h.1
theorem wk77 (h : WT M) : M.2.1 77 = 12 := sk77 h.1
theorem wl77 (h : WT M) : M.2.2.1 77 = 4 := sl77 h.1
theorem wk78 (h : WT M) : M.2.1 78 = 12 := sk78 h.1
theorem wl78 (h : WT M) : M.2.2.1 78 = 4 := sl78 h.1
theorem wk79 (h : WT M) : M.2.1 79 = 5 := sk79 h.1
theorem wk80 (h : WT M) : M.2.1 80 = 12 := sk80 h.1
theorem wl80 (h : WT M) : M.2.2.1 80 = 109 := sl80 h.1
theorem wk81 (h : WT M) : M.2.1 81 = 12 := sk81 h.1
theorem wl81 (h : WT M) : M.2.2.1 81 = 109 := sl81 h.1
theorem wk82 (h : WT M) : M.2.1 82 = 2 := sk82 h.1
theorem wk83 (h : WT M) : M.2.1 83 = 12 := sk83 h.1
theorem wl83 (h : WT M) : M.2.2.1 83 = 5 := sl83 h.1
theorem wk84 (h : WT M) : M.2.1 84 = 12 := sk84 h.1
theorem wl84 (h : WT M) : M.2.2.1 84 = 5 := sl84 h.1
theorem wk85 (h : WT M) : M.2.1 85 = 10 := sk85 h.1
theorem wk86 (h : WT M) : M.2.1 86 = 11 := sk86 h.1
theorem wl86 (h : WT M) : M.2.2.1 86 = 2400 := sl86 h.1
theorem wk87 (h : WT M) : M.2.1 87 = 12 := sk87 h.1
theorem wl87 (h : WT M) : M.2.2.1 87 = 4 := sl87 h.1
theorem wk88 (h : WT M) : M.2.1 88 = 12 := sk88 h.1
theorem wl88 (h : WT M) : M.2.2.1 88 = 4 := sl88 h.1
theorem wk89 (h : WT M) : M.2.1 89 = 12 := sk89 h.1
theorem wl89 (h : WT M) : M.2.2.1 89 = 4 := sl89 h.1
theorem wk90 (h : WT M) : M.2.1 90 = 12 := sk90 h.1
theorem wl90 (h : WT M) : M.2.2.1 90 = 16 := sl90 h.1
theorem wk91 (h : WT M) : M.2.1 91 = 12 := sk91 h.1
theorem wl91 (h : WT M) : M.2.2.1 91 = 736 := sl91 h.1
theorem wk92 (h : WT M) : M.2.1 92 = 12 := sk92 h.1
theorem wl92 (h : WT M) : M.2.2.1 92 = 24 := sl92 h.1
theorem wk93 (h : WT M) : M.2.1 93 = 12 := sk93 h.1
theorem wl93 (h : WT M) : M.2.2.1 93 = 1288 := sl93 h.1
theorem wk94 (h : WT M) : M.2.1 94 = 12 := sk94 h.1
theorem wl94 (h : WT M) : M.2.2.1 94 = 376 := sl94 h.1
theorem wk95 (h : WT M) : M.2.1 95 = 12 := sk95 h.1
theorem wl95 (h : WT M) : M.2.2.1 95 = 161 := sl95 h.1
theorem wk96 (h : WT M) : M.2.1 96 = 12 := sk96 h.1
theorem wl96 (h : WT M) : M.2.2.1 96 = 4 := sl96 h.1
theorem wk97 (h : WT M) : M.2.1 97 = 12 := sk97 h.1
theorem wl97 (h : WT M) : M.2.2.1 97 = 30 := sl97 h.1
theorem wk98 (h : WT M) : M.2.1 98 = 12 := sk98 h.1
theorem wl98 (h : WT M) : M.2.2.1 98 = 20 := sl98 h.1
theorem wk99 (h : WT M) : M.2.1 99 = 12 := sk99 h.1
theorem wl99 (h : WT M) : M.2.2.1 99 = 120 := sl99 h.1
theorem wk100 (h : WT M) : M.2.1 100 = 12 := sk100 h.1
theorem wl100 (h : WT M) : M.2.2.1 100 = 120 := sl100 h.1
theorem wk101 (h : WT M) : M.2.1 101 = 12 := sk101 h.1
theorem wl101 (h : WT M) : M.2.2.1 101 = 4 := sl101 h.1
theorem wk102 (h : WT M) : M.2.1 102 = 12 := sk102 h.1
theorem wl102 (h : WT M) : M.2.2.1 102 = 4 := sl102 h.1
theorem wk103 (h : WT M) : M.2.1 103 = 12 := sk103 h.1
theorem wl103 (h : WT M) : M.2.2.1 103 = 4 := sl103 h.1
theorem wk104 (h : WT M) : M.2.1 104 = 12 := sk104 h.1
theorem wl104 (h : WT M) : M.2.2.1 104 = 4 := sl104 h.1
theorem wk105 (h : WT M) : M.2.1 105 = 12 := sk105 h.1
theorem wl105 (h : WT M) : M.2.2.1 105 = 4 := sl105 h.1
theorem wk106 (h : WT M) : M.2.1 106 = 12 := sk106 h.1
theorem wl106 (h : WT M) : M.2.2.1 106 = 4 := sl106 h.1
theorem wk107 (h : WT M) : M.2.1 107 = 12 := sk107 h.1
theorem wl107 (h : WT M) : M.2.2.1 107 = 6 := sl107 h.1
theorem wk108 (h : WT M) : M.2.1 108 = 12 := sk108 h.1
theorem wl108 (h : WT M) : M.2.2.1 108 = 30 := sl108 h.1
theorem wk109 (h : WT M) : M.2.1 109 = 12 := sk109 h.1
theorem wl109 (h : WT M) : M.2.2.1 109 = 109 := sl109 h.1
theorem wk110 (h : WT M) : M.2.1 110 = 12 := sk110 h.1
theorem wl110 (h : WT M) : M.2.2.1 110 = 109 := sl110 h.1
theorem wk111 (h : WT M) : M.2.1 111 = 13 := sk111 h.1
theorem wl111 (h : WT M) : M.2.2.1 111 = 3 := sl111 h.1
theorem wp0_0 (h : WT M) : M.1 0 0 = 1 := sp0_0 h.1
theorem wp1_0 (h : WT M) : M.1 1 0 = 2 := sp1_0 h.1
theorem wp1_4 (h : WT M) : M.1 1 4 = 3 := sp1_4 h.1
theorem wp1_5 (h : WT M) : M.1 1 5 = 4 := sp1_5 h.1
theorem wp1_6 (h : WT M) : M.1 1 6 = 5 := sp1_6 h.1
theorem wp1_7 (h : WT M) : M.1 1 7 = 6 := sp1_7 h.1
theorem wp1_8 (h : WT M) : M.1 1 8 = 7 := sp1_8 h.1
theorem wp8_2 (h : WT M) : M.1 8 2 = 9 := sp8_2 h.1
theorem wp8_3 (h : WT M) : M.1 8 3 = 10 := sp8_3 h.1
theorem wp8_4 (h : WT M) : M.1 8 4 = 11 := sp8_4 h.1
theorem wp8_5 (h : WT M) : M.1 8 5 = 12 := sp8_5 h.1
theorem wp8_6 (h : WT M) : M.1 8 6 = 13 := sp8_6 h.1
theorem wp8_7 (h : WT M) : M.1 8 7 = 14 := sp8_7 h.1
theorem wp8_8 (h : WT M) : M.1 8 8 = 15 := sp8_8 h.1
theorem wp8_9 (h : WT M) : M.1 8 9 = 16 := sp8_9 h.1
theorem wp4_0 (h : WT M) : M.1 4 0 = 8 := sp4_0 h.1
theorem wp5_0 (h : WT M) : M.1 5 0 = 17 := sp5_0 h.1
theorem wp18_1 (h : WT M) : M.1 18 1 = 19 := sp18_1 h.1
theorem wp18_2 (h : WT M) : M.1 18 2 = 20 := sp18_2 h.1
theorem wp18_3 (h : WT M) : M.1 18 3 = 21 := sp18_3 h.1
theorem wp18_4 (h : WT M) : M.1 18 4 = 22 := sp18_4 h.1
theorem wp6_0 (h : WT M) : M.1 6 0 = 18 := sp6_0 h.1
theorem wp23_1 (h : WT M) : M.1 23 1 = 24 := sp23_1 h.1
theorem wp23_2 (h : WT M) : M.1 23 2 = 25 := sp23_2 h.1
theorem wp23_3 (h : WT M) : M.1 23 3 = 26 := sp23_3 h.1
theorem wp7_0 (h : WT M) : M.1 7 0 = 23 := sp7_0 h.1
theorem wp27_2 (h : WT M) : M.1 27 2 = 28 := sp27_2 h.1
theorem wp27_3 (h : WT M) : M.1 27 3 = 29 := sp27_3 h.1
theorem wp27_4 (h : WT M) : M.1 27 4 = 30 := sp27_4 h.1
theorem wp27_5 (h : WT M) : M.1 27 5 = 31 := sp27_5 h.1
theorem wp27_6 (h : WT M) : M.1 27 6 = 32 := sp27_6 h.1
theorem wp27_7 (h : WT M) : M.1 27 7 = 33 := sp27_7 h.1
theorem wp27_8 (h : WT M) : M.1 27 8 = 34 := sp27_8 h.1
theorem wp27_9 (h : WT M) : M.1 27 9 = 35 := sp27_9 h.1
theorem wp4_1 (h : WT M) : M.1 4 1 = 27 := sp4_1 h.1
theorem wp5_1 (h : WT M) : M.1 5 1 = 36 := sp5_1 h.1
theorem wp37_1 (h : WT M) : M.1 37 1 = 38 := sp37_1 h.1
theorem wp37_2 (h : WT M) : M.1 37 2 = 39 := sp37_2 h.1
theorem wp37_3 (h : WT M) : M.1 37 3 = 40 := sp37_3 h.1
theorem wp37_4 (h : WT M) : M.1 37 4 = 41 := sp37_4 h.1
theorem wp6_1 (h : WT M) : M.1 6 1 = 37 := sp6_1 h.1
theorem wp42_1 (h : WT M) : M.1 42 1 = 43 := sp42_1 h.1
theorem wp42_2 (h : WT M) : M.1 42 2 = 44 := sp42_2 h.1
theorem wp42_3 (h : WT M) : M.1 42 3 = 45 := sp42_3 h.1
theorem wp7_1 (h : WT M) : M.1 7 1 = 42 := sp7_1 h.1
theorem wp0_1 (h : WT M) : M.1 0 1 = 46 := sp0_1 h.1
theorem wp0_2 (h : WT M) : M.1 0 2 = 47 := sp0_2 h.1
theorem wp48_2 (h : WT M) : M.1 48 2 = 49 := sp48_2 h.1
theorem wp48_3 (h : WT M) : M.1 48 3 = 50 := sp48_3 h.1
theorem wp48_4 (h : WT M) : M.1 48 4 = 51 := sp48_4 h.1
theorem wp48_5 (h : WT M) : M.1 48 5 = 52 := sp48_5 h.1
theorem wp48_6 (h : WT M) : M.1 48 6 = 53 := sp48_6 h.1
theorem wp48_7 (h : WT M) : M.1 48 7 = 54 := sp48_7 h.1
theorem wp48_8 (h : WT M) : M.1 48 8 = 55 := sp48_8 h.1
theorem wp48_9 (h : WT M) : M.1 48 9 = 56 := sp48_9 h.1
theorem wp47_2 (h : WT M) : M.1 47 2 = 48 := sp47_2 h.1
theorem wp47_3 (h : WT M) : M.1 47 3 = 57 := sp47_3 h.1
theorem wp58_1 (h : WT M) : M.1 58 1 = 59 := sp58_1 h.1
theorem wp58_2 (h : WT M) : M.1 58 2 = 60 := sp58_2 h.1
theorem wp58_3 (h : WT M) : M.1 58 3 = 61 := sp58_3 h.1
theorem wp58_4 (h : WT M) : M.1 58 4 = 62 := sp58_4 h.1
theorem wp47_4 (h : WT M) : M.1 47 4 = 58 := sp47_4 h.1
theorem wp63_1 (h : WT M) : M.1 63 1 = 64 := sp63_1 h.1
theorem wp63_2 (h : WT M) : M.1 63 2 = 65 := sp63_2 h.1
theorem wp63_3 (h : WT M) : M.1 63 3 = 66 := sp63_3 h.1
theorem wp47_5 (h : WT M) : M.1 47 5 = 63 := sp47_5 h.1
theorem wp47_12 (h : WT M) : M.1 47 12 = 67 := sp47_12 h.1
theorem wp0_3 (h : WT M) : M.1 0 3 = 68 := sp0_3 h.1
theorem wp68_2 (h : WT M) : M.1 68 2 = 69 := sp68_2 h.1
theorem wp68_3 (h : WT M) : M.1 68 3 = 70 := sp68_3 h.1
theorem wp68_4 (h : WT M) : M.1 68 4 = 71 := sp68_4 h.1
theorem wp68_5 (h : WT M) : M.1 68 5 = 72 := sp68_5 h.1
theorem wp68_6 (h : WT M) : M.1 68 6 = 73 := sp68_6 h.1
theorem wp68_7 (h : WT M) : M.1 68 7 = 74 := sp68_7 h.1
theorem wp68_8 (h : WT M) : M.1 68 8 = 75 := sp68_8 h.1
theorem wp68_9 (h : WT M) : M.1 68 9 = 76 := sp68_9 h.1
theorem wp68_10 (h : WT M) : M.1 68 10 = 77 := sp68_10 h.1
theorem wp68_11 (h : WT M) : M.1 68 11 = 78 := sp68_11 h.1
theorem wp0_4 (h : WT M) : M.1 0 4 = 79 := sp0_4 h.1
theorem wp0_5 (h : WT M) : M.1 0 5 = 82 := sp0_5 h.1
theorem wp82_0 (h : WT M) : M.1 82 0 = 83 := sp82_0 h.1
theorem wp82_2 (h : WT M) : M.1 82 2 = 84 := sp82_2 h.1
theorem wp85_1 (h : WT M) : M.1 85 1 = 86 := sp85_1 h.1
theorem wp85_2 (h : WT M) : M.1 85 2 = 87 := sp85_2 h.1
theorem wp85_3 (h : WT M) : M.1 85 3 = 88 := sp85_3 h.1
theorem wp85_4 (h : WT M) : M.1 85 4 = 89 := sp85_4 h.1
theorem wp85_5 (h : WT M) : M.1 85 5 = 90 := sp85_5 h.1
theorem wp85_6 (h : WT M) : M.1 85 6 = 91 := sp85_6 h.1
theorem wp85_7 (h : WT M) : M.1 85 7 = 92 := sp85_7 h.1
theorem wp85_8 (h : WT M) : M.1 85 8 = 93 := sp85_8 h.1
theorem wp85_9 (h : WT M) : M.1 85 9 = 94 := sp85_9 h.1
theorem wp85_19 (h : WT M) : M.1 85 19 = 95 := sp85_19 h.1
theorem wp85_20 (h : WT M) : M.1 85 20 = 96 := sp85_20 h.1
theorem wp85_29 (h : WT M) : M.1 85 29 = 97 := sp85_29 h.1
theorem wp85_30 (h : WT M) : M.1 85 30 = 98 := sp85_30 h.1
theorem wp85_31 (h : WT M) : M.1 85 31 = 99 := sp85_31 h.1
theorem wp85_32 (h : WT M) : M.1 85 32 = 100 := sp85_32 h.1
theorem wp85_33 (h : WT M) : M.1 85 33 = 101 := sp85_33 h.1
theorem wp85_34 (h : WT M) : M.1 85 34 = 102 := sp85_34 h.1
theorem wp85_35 (h : WT M) : M.1 85 35 = 103 := sp85_35 h.1
theorem wp85_36 (h : WT M) : M.1 85 36 = 104 := sp85_36 h.1
theorem wp85_37 (h : WT M) : M.1 85 37 = 105 := sp85_37 h.1
theorem wp85_38 (h : WT M) : M.1 85 38 = 106 := sp85_38 h.1
theorem wp85_39 (h : WT M) : M.1 85 39 = 107 := sp85_39 h.1
theorem wp85_43 (h : WT M) : M.1 85 43 = 108 := sp85_43 h.1
theorem wp85_46 (h : WT M) : M.1 85 46 = 109 := sp85_46 h.1
theorem wp85_47 (h : WT M) : M.1 85 47 = 110 := sp85_47 h.1
theorem wp85_50 (h : WT M) : M.1 85 50 = 111 := sp85_50 h.1
end WTAt
def TA (a : Int) : Prop := a = 8 ∨ a = 27
def LWA (a : Int) : Prop := a = 17 ∨ a = 36
def NTA (a : Int) : Prop := a = 18 ∨ a = 37
def SGA (a : Int) : Prop := a = 23 ∨ a = 42
def B01 (x : Int) : Prop := x = 0 ∨ x = 1
def PB (r : Int) (P : Prop) : Prop := B01 r ∧ (r ≠ 0 → P)
theorem PB.use {r : Int} {P : Prop} (h : PB r P) (c : ¬ r = 0) : P := h.2 c
theorem PB.no {P : Prop} : PB 0 P := ⟨Or.inl rfl, fun h => absurd rfl h⟩
theorem PB.yes {P : Prop} (h : P) : PB 1 P := ⟨Or.inr rfl, fun _ => h⟩
section WTAt
variable {M : Mem}
theorem tk (h : WT M) {a : Int} (ha : TA a) : M.2.1 a = 7 := by rcases ha with rfl | rfl <;> first | exact wk8 h | exact wk27 h
theorem tp2_ (h : WT M) {a : Int} (ha : TA a) : M.1 a 2 = a + 1 := by rcases ha with rfl | rfl <;> first | exact wp8_2 h | exact wp27_2 h
theorem tk2_ (h : WT M) {a : Int} (ha : TA a) : M.2.1 (a + 1) = 12 := by rcases ha with rfl | rfl <;> first | exact wk9 h | exact wk28 h
theorem tl2_ (h : WT M) {a : Int} (ha : TA a) : M.2.2.1 (a + 1) = 30 := by rcases ha with rfl | rfl <;> first | exact wl9 h | exact wl28 h
theorem tp3_ (h : WT M) {a : Int} (ha : TA a) : M.1 a 3 = a + 2 := by rcases ha with rfl | rfl <;> first | exact wp8_3 h | exact wp27_3 h
theorem tk3_ (h : WT M) {a : Int} (ha : TA a) : M.2.1 (a + 2) = 12 := by rcases ha with rfl | rfl <;> first | exact wk10 h | exact wk29 h
theorem tl3_ (h : WT M) {a : Int} (ha : TA a) : M.2.2.1 (a + 2) = 30 := by rcases ha with rfl | rfl <;> first | exact wl10 h | exact wl29 h
theorem tp4_ (h : WT M) {a : Int} (ha : TA a) : M.1 a 4 = a + 3 := by rcases ha with rfl | rfl <;> first | exact wp8_4 h | exact wp27_4 h
theorem tk4_ (h : WT M) {a : Int} (ha : TA a) : M.2.1 (a + 3) = 12 := by rcases ha with rfl | rfl <;> first | exact wk11 h | exact wk30 h
theorem tl4_ (h : WT M) {a : Int} (ha : TA a) : M.2.2.1 (a + 3) = 6 := by rcases ha with rfl | rfl <;> first | exact wl11 h | exact wl30 h
theorem tp5_ (h : WT M) {a : Int} (ha : TA a) : M.1 a 5 = a + 4 := by rcases ha with rfl | rfl <;> first | exact wp8_5 h | exact wp27_5 h
theorem tk5_ (h : WT M) {a : Int} (ha : TA a) : M.2.1 (a + 4) = 12 := by rcases ha with rfl | rfl <;> first | exact wk12 h | exact wk31 h
theorem tl5_ (h : WT M) {a : Int} (ha : TA a) : M.2.2.1 (a + 4) = 6 := by rcases ha with rfl | rfl <;> first | exact wl12 h | exact wl31 h
theorem tp6_ (h : WT M) {a : Int} (ha : TA a) : M.1 a 6 = a + 5 := by rcases ha with rfl | rfl <;> first | exact wp8_6 h | exact wp27_6 h
theorem tk6_ (h : WT M) {a : Int} (ha : TA a) : M.2.1 (a + 5) = 12 := by rcases ha with rfl | rfl <;> first | exact wk13 h | exact wk32 h
theorem tl6_ (h : WT M) {a : Int} (ha : TA a) : M.2.2.1 (a + 5) = 5 := by rcases ha with rfl | rfl <;> first | exact wl13 h | exact wl32 h
theorem tp7_ (h : WT M) {a : Int} (ha : TA a) : M.1 a 7 = a + 6 := by rcases ha with rfl | rfl <;> first | exact wp8_7 h | exact wp27_7 h
theorem tk7_ (h : WT M) {a : Int} (ha : TA a) : M.2.1 (a + 6) = 12 := by rcases ha with rfl | rfl <;> first | exact wk14 h | exact wk33 h
theorem tl7_ (h : WT M) {a : Int} (ha : TA a) : M.2.2.1 (a + 6) = 5 := by rcases ha with rfl | rfl <;> first | exact wl14 h | exact wl33 h
theorem tp8_ (h : WT M) {a : Int} (ha : TA a) : M.1 a 8 = a + 7 := by rcases ha with rfl | rfl <;> first | exact wp8_8 h | exact wp27_8 h
theorem tk8_ (h : WT M) {a : Int} (ha : TA a) : M.2.1 (a + 7) = 12 := by rcases ha with rfl | rfl <;> first | exact wk15 h | exact wk34 h
theorem tl8_ (h : WT M) {a : Int} (ha : TA a) : M.2.2.1 (a + 7) = 4 := by rcases ha with rfl | rfl <;> first | exact wl15 h | exact wl34 h
theorem tp9_ (h : WT M) {a : Int} (ha : TA a) : M.1 a 9 = a + 8 := by rcases ha with rfl | rfl <;> first | exact wp8_9 h | exact wp27_9 h
theorem tk9_ (h : WT M) {a : Int} (ha : TA a) : M.2.1 (a + 8) = 12 := by rcases ha with rfl | rfl <;> first | exact wk16 h | exact wk35 h
theorem tl9_ (h : WT M) {a : Int} (ha : TA a) : M.2.2.1 (a + 8) = 4 := by rcases ha with rfl | rfl <;> first | exact wl16 h | exact wl35 h
theorem td0_ (h : WT M) {a : Int} (ha : TA a) : 1 ≤ M.1 a 0 ∧ M.1 a 0 ≤ 6 := by
  rcases ha with rfl | rfl
  · exact rows_at (p := (8, 0, 0, 1, 6)) h.2.1 2 rfl (i := 0) (by decide) (by decide)
  · exact rows_at (p := (27, 0, 0, 1, 6)) h.2.1 12 rfl (i := 0) (by decide) (by decide)
theorem td1_ (h : WT M) {a : Int} (ha : TA a) : 0 ≤ M.1 a 1 ∧ M.1 a 1 ≤ 4 := by
  rcases ha with rfl | rfl
  · exact rows_at (p := (8, 1, 1, 0, 4)) h.2.1 3 rfl (i := 1) (by decide) (by decide)
  · exact rows_at (p := (27, 1, 1, 0, 4)) h.2.1 13 rfl (i := 1) (by decide) (by decide)
theorem td2_ (h : WT M) {a : Int} (ha : TA a) {i : Int} (h1 : 0 ≤ i) (h2 : i < 30) : 0 ≤ M.1 (a + 1) i ∧ M.1 (a + 1) i ≤ 9 := by
  rcases ha with rfl | rfl
  · exact rows_at (p := (9, 0, 29, 0, 9)) h.2.1 4 rfl h1 (by show i ≤ 29; omega)
  · exact rows_at (p := (28, 0, 29, 0, 9)) h.2.1 14 rfl h1 (by show i ≤ 29; omega)
theorem td3_ (h : WT M) {a : Int} (ha : TA a) {i : Int} (h1 : 0 ≤ i) (h2 : i < 30) : 0 ≤ M.1 (a + 2) i ∧ M.1 (a + 2) i ≤ 9 := by
  rcases ha with rfl | rfl
  · exact rows_at (p := (10, 0, 29, 0, 9)) h.2.1 5 rfl h1 (by show i ≤ 29; omega)
  · exact rows_at (p := (29, 0, 29, 0, 9)) h.2.1 15 rfl h1 (by show i ≤ 29; omega)
theorem td4_ (h : WT M) {a : Int} (ha : TA a) {i : Int} (h1 : 0 ≤ i) (h2 : i < 6) : 0 ≤ M.1 (a + 3) i ∧ M.1 (a + 3) i ≤ 9 := by
  rcases ha with rfl | rfl
  · exact rows_at (p := (11, 0, 5, 0, 9)) h.2.1 6 rfl h1 (by show i ≤ 5; omega)
  · exact rows_at (p := (30, 0, 5, 0, 9)) h.2.1 16 rfl h1 (by show i ≤ 5; omega)
theorem td5_ (h : WT M) {a : Int} (ha : TA a) {i : Int} (h1 : 0 ≤ i) (h2 : i < 6) : 0 ≤ M.1 (a + 4) i ∧ M.1 (a + 4) i ≤ 5 := by
  rcases ha with rfl | rfl
  · exact rows_at (p := (12, 0, 5, 0, 5)) h.2.1 7 rfl h1 (by show i ≤ 5; omega)
  · exact rows_at (p := (31, 0, 5, 0, 5)) h.2.1 17 rfl h1 (by show i ≤ 5; omega)
theorem td6_ (h : WT M) {a : Int} (ha : TA a) {i : Int} (h1 : 0 ≤ i) (h2 : i < 5) : 1 ≤ M.1 (a + 5) i ∧ M.1 (a + 5) i ≤ 9 := by
  rcases ha with rfl | rfl
  · exact rows_at (p := (13, 0, 4, 1, 9)) h.2.1 8 rfl h1 (by show i ≤ 4; omega)
  · exact rows_at (p := (32, 0, 4, 1, 9)) h.2.1 18 rfl h1 (by show i ≤ 4; omega)
theorem td7_ (h : WT M) {a : Int} (ha : TA a) {i : Int} (h1 : 0 ≤ i) (h2 : i < 5) : 0 ≤ M.1 (a + 6) i ∧ M.1 (a + 6) i ≤ 9 := by
  rcases ha with rfl | rfl
  · exact rows_at (p := (14, 0, 4, 0, 9)) h.2.1 9 rfl h1 (by show i ≤ 4; omega)
  · exact rows_at (p := (33, 0, 4, 0, 9)) h.2.1 19 rfl h1 (by show i ≤ 4; omega)
theorem td8_ (h : WT M) {a : Int} (ha : TA a) {i : Int} (h1 : 0 ≤ i) (h2 : i < 4) : 0 ≤ M.1 (a + 7) i ∧ M.1 (a + 7) i ≤ 9 := by
  rcases ha with rfl | rfl
  · exact rows_at (p := (15, 0, 3, 0, 9)) h.2.1 10 rfl h1 (by show i ≤ 3; omega)
  · exact rows_at (p := (34, 0, 3, 0, 9)) h.2.1 20 rfl h1 (by show i ≤ 3; omega)
theorem td9_ (h : WT M) {a : Int} (ha : TA a) {i : Int} (h1 : 0 ≤ i) (h2 : i < 4) : (-1) ≤ M.1 (a + 8) i ∧ M.1 (a + 8) i ≤ 3 := by
  rcases ha with rfl | rfl
  · exact rows_at (p := (16, 0, 3, (-1), 3)) h.2.1 11 rfl h1 (by show i ≤ 3; omega)
  · exact rows_at (p := (35, 0, 3, (-1), 3)) h.2.1 21 rfl h1 (by show i ≤ 3; omega)
end WTAt
