/-! THE CLAIM OUT OF ONE WALK OF THE LAW'S BODY. Your part is whole_start (and what it stands on); all else here is the same for every law, but numbers. -/
def R_law : String := "OneBackLaw"
def lw_P (b : Addr) (xs : List Int32) (args : Array Value) (s : State) : Prop := args = #[.ref b] ∧ s.IntsAt b xs ∧ xs.length ≤ 4096 ∧ (Jvm.Cond.and given_1 narrow_1).before args s = true
def lw_Q (_ : Array Value) (s : State) (o : Outcome) (t : State) : Prop := o = .returned (some (.int 1)) ∧ Framed s o t [] 600000 7302249
def lw_Z (below : List Frame) (a : Array Value) (s : State) : State → Prop := fun t => ∃ o, t.status = .running ∧ Ended t below o ∧ lw_Q a s o t
/-- the law's own end, with 1 on the stack, nothing written that was there before, its room as the claim has it -/
theorem lw_ret {p : Program} {l : Launch} {e : Env} {s : State} {m : MethodId} {below : List Frame} {meth : Method} {c : Code} {b : Nat} (hx : p.tables.exec = Jvm.exec) (hb : c.code = code) (hr : meth.sig.returnType = ret) (hlocks : meth.locks = false) {pc : Nat} {H : Heap} {ls : Array Slot} (hdg : decode code pc = .ok (.ireturn, 1)) : W p l e room_1 s m #[Value.ref b] below meth c H [] 600000 7302249 (lw_Z below #[Value.ref b] s) (F0 m pc ls [.int 1]) := by
  intro T hT X
  obtain ⟨fs, hret, hrun, hended, hW, hframe⟩ := X.leave (v := some (.int 1)) (hlocks := hlocks) (fun h => by rw [hr] at h; cases h)
  have hmeth' : T.vm.method? m = some meth := X.method'
  refine ⟨T.setFrames fs, ?_, .returned (some (.int 1)), hrun, hended, rfl, ⟨_, rfl⟩, hW, hframe⟩
  jvm_step X.here [X.here.top, hx, hb, hdg, hmeth', hr, ret, narrow_b1]
  (try refine ⟨rfl, ?_⟩); (try refine ⟨rfl, ?_⟩)
  first | (intro acts; rw [hret _ acts rfl rfl rfl]) | rw [hret _ _ rfl rfl rfl]
  exact Steps.refl _
/-- what holds at the law's entry: the machine, the code, the tables' words (any of lw_tbl by 'hts w (by decide +kernel)'), the script of L ints xs at the cell b, what the Statement gives of the start (any of its parts by flat_of_before) -/
def lw_At (p : Program) (s : State) (m : MethodId) (meth : Method) (c : Code) (b L : Nat) (xs : Nat → Int32) : Prop :=
  p.tables.exec = Jvm.exec ∧ c.code = code ∧ meth.sig.returnType = ret ∧ c.maxLocals = 4 ∧ s.vm.findClass R_law = some m.cls ∧ (∀ w ∈ lw_tbl, w.before #[Value.ref b] s = true) ∧ va_X b L xs s s.heap ∧ b < s.heap.size ∧ meth.locks = false ∧ (Jvm.Cond.and given_1 narrow_1).before #[Value.ref b] s = true
/-! the law's entry: the ambient facts out of the Statement's premises -/
def M00 : Mem := (fun _ _ => 0, fun _ => -1, fun _ => 0, 0)
theorem M00_ok : MemOK M00 := ⟨fun a h => absurd rfl h, fun a => ⟨Int.le_refl _, by show (-1 : Int) ≤ 18; decide⟩, fun a => ⟨Int.le_refl _, by show (0 : Int) < 2147483648; decide⟩, fun a i h => absurd rfl h⟩
theorem NW_in : NW.all (fun q => decide (Cond.methodLinkNest q.1 q.2.1 q.2.2.1 q.2.2.2 ∈ tables_1)) = true := by
  have h : (List.range NW.length).all (fun k => decide (tables_1[([51, 123, 144, 184, 242, 249, 251, 386, 620, 650, 665, 670, 704, 742, 743, 763, 764, 765, 843, 900, 921, 953, 966, 1102, 1127, 1135, 1136, 1182] : List Nat).getD k 0]? = (NW[k]?).map (fun q => Cond.methodLinkNest q.1 q.2.1 q.2.2.1 q.2.2.2))) = true := by decide +kernel
  rw [List.all_eq_true]
  intro q hq
  obtain ⟨k, hk, e⟩ := List.mem_iff_getElem.mp hq
  have g := of_decide_eq_true (List.all_eq_true.mp h k (List.mem_range.mpr hk))
  rw [List.getElem?_eq_getElem hk, e] at g
  exact decide_eq_true (List.mem_of_getElem? g)
def prem : List Cond := flatC (Jvm.Cond.and given_1 narrow_1)
theorem pr_of {n : Nat} {f : Nat → Cond} (l : List Nat) (h : (List.range n).all (fun i => decide (prem[l.getD i 0]? = some (f i))) = true) : ∀ i, i < n → f i ∈ prem := fun i hi => List.mem_of_getElem? (of_decide_eq_true (List.all_eq_true.mp h i (List.mem_range.mpr hi)))
theorem pr_of2 {n : Nat} {m : Nat → Nat} {f : Nat → Nat → Cond} (l : List (List Nat)) (h : (List.range n).all (fun i => (List.range (m i)).all (fun j => decide (prem[(l.getD i []).getD j 0]? = some (f i j)))) = true) : ∀ i, i < n → ∀ j, j < m i → f i j ∈ prem := fun i hi j hj => List.mem_of_getElem? (of_decide_eq_true (List.all_eq_true.mp (List.all_eq_true.mp h i (List.mem_range.mpr hi)) j (List.mem_range.mpr hj)))
theorem tb_of {n : Nat} {f : Nat → Cond} (l : List Nat) (h : (List.range n).all (fun i => decide (tables_1[l.getD i 0]? = some (f i))) = true) : ∀ i, i < n → f i ∈ tables_1 := fun i hi => List.mem_of_getElem? (of_decide_eq_true (List.all_eq_true.mp h i (List.mem_range.mpr hi)))
theorem pr_arr : ∀ k, k < 4 → Cond.arrayOf (.static RX3 (sNm k) "[I") .int ∈ prem := pr_of [5, 18, 39, 96] (by decide +kernel)
theorem pr_len : ∀ k, k < 4 → Cond.eq (.length (.static RX3 (sNm k) "[I")) (.int (Int32.ofNat (sTab k).length)) ∈ prem := pr_of [6, 19, 40, 97] (by decide +kernel)
theorem pr_el2 : ∀ k, k < 4 → ∀ j, j < (sTab k).length → Cond.eq (.elem (.static RX3 (sNm k) "[I") (.int (Int32.ofNat j))) (.int (Int32.ofInt ((sTab k).getD j 0))) ∈ prem := pr_of2 [[7, 8, 9, 10, 11], [20, 21, 22, 23, 24, 25, 26, 27, 28, 29, 30, 31, 32, 33, 34, 35, 36, 37], [41, 42, 43, 44, 45, 46, 47, 48, 49, 50, 51, 52, 53, 54, 55, 56, 57, 58, 59, 60, 61, 62, 63, 64, 65, 66, 67, 68, 69, 70, 71, 72, 73, 74, 75, 76, 77, 78, 79, 80, 81, 82, 83, 84, 85, 86, 87, 88, 89, 90, 91, 92, 93, 94], [98, 99, 100, 101, 102, 103, 104, 105, 106, 107, 108, 109, 110, 111, 112, 113, 114, 115, 116, 117, 118, 119, 120, 121, 122, 123, 124, 125, 126, 127, 128, 129, 130, 131, 132, 133, 134, 135, 136, 137, 138, 139, 140, 141, 142, 143, 144, 145, 146, 147, 148, 149, 150, 151]] (by decide +kernel)
theorem pr_el : ((List.range 4).all fun k => (List.range (sTab k).length).all fun j => decide (Cond.eq (.elem (.static RX3 (sNm k) "[I") (.int (Int32.ofNat j))) (.int (Int32.ofInt ((sTab k).getD j 0))) ∈ prem)) = true := List.all_eq_true.mpr fun k hk => List.all_eq_true.mpr fun j hj => decide_eq_true (pr_el2 k (List.mem_range.mp hk) j (List.mem_range.mp hj))
theorem pr_cs : Cond.eq (.static RJ0 "COMPACT_STRINGS" "Z") (.int 1) ∈ prem := List.mem_of_getElem? (i := 12) (by decide +kernel)
theorem pr_fm : Cond.isRef (.static RJ3 "SIOOBE_FORMATTER" "Ljava/util/function/BiFunction;") ∈ prem := List.mem_of_getElem? (i := 13) (by decide +kernel)
def tmS (i : Nat) : Term := .string RX3 (sIx.getD i 0)
theorem pr_s1 : ∀ i, i < 19 → Cond.exactly (tmS i) "java/lang/String" ∈ prem := pr_of [207, 217, 225, 236, 248, 262, 277, 292, 306, 323, 340, 359, 380, 400, 421, 442, 466, 491, 516] (by decide +kernel)
theorem pr_s2 : ∀ i, i < 19 → Cond.eq (.field (tmS i) "java/lang/String" "coder" "B") (.int 0) ∈ prem := pr_of [208, 218, 226, 237, 249, 263, 278, 293, 307, 324, 341, 360, 381, 401, 422, 443, 467, 492, 517] (by decide +kernel)
theorem pr_s3 : ∀ i, i < 19 → Cond.arrayOf (.field (tmS i) "java/lang/String" "value" "[B") .byte ∈ prem := pr_of [209, 219, 227, 238, 250, 264, 279, 294, 308, 325, 342, 361, 382, 402, 423, 444, 468, 493, 518] (by decide +kernel)
theorem pr_s4 : ∀ i, i < 19 → Cond.eq (.length (.field (tmS i) "java/lang/String" "value" "[B")) (.int (Int32.ofNat (sLen.getD i 0))) ∈ prem := pr_of [210, 220, 228, 239, 251, 265, 280, 295, 309, 326, 343, 362, 383, 403, 424, 445, 469, 494, 519] (by decide +kernel)
theorem pr_s5 : ∀ i, i < 19 → ∀ j, j < sLen.getD i 0 → Cond.eq (.elem (.field (tmS i) "java/lang/String" "value" "[B") (.int (Int32.ofNat j))) (.int ((sByt.getD i []).getD j 0)) ∈ prem := pr_of2 [[211, 212, 213, 214, 215, 216], [221, 222, 223], [229, 230, 231, 232, 233], [240, 241, 242, 243, 244], [252, 253, 254, 255, 256, 257], [266, 267, 268, 269, 270, 271], [281, 282, 283, 284, 285], [296, 297, 298], [310, 311, 312, 313, 314], [327, 328, 329, 330], [344, 345, 346, 347, 348], [363, 364, 365, 366, 367, 368], [384, 385, 386, 387], [404, 405, 406, 407], [425, 426, 427], [446, 447, 448, 449, 450], [470, 471, 472, 473, 474], [495, 496, 497, 498], []] (by decide +kernel)
theorem pr_s6l : ∀ i, i < 19 → ∀ j, j < i → Cond.not (Cond.eq (tmS j) (tmS i)) ∈ prem := pr_of2 (m := fun i => i) [[], [224], [234, 235], [245, 246, 247], [258, 259, 260, 261], [272, 273, 274, 275, 276], [286, 287, 288, 289, 290, 291], [299, 300, 301, 302, 303, 304, 305], [315, 316, 317, 318, 319, 320, 321, 322], [331, 332, 333, 334, 335, 336, 337, 338, 339], [349, 350, 351, 352, 353, 354, 355, 356, 357, 358], [369, 370, 371, 372, 373, 374, 375, 376, 377, 378, 379], [388, 389, 390, 391, 392, 393, 394, 395, 396, 397, 398, 399], [408, 409, 410, 411, 412, 413, 414, 415, 416, 417, 418, 419, 420], [428, 429, 430, 431, 432, 433, 434, 435, 436, 437, 438, 439, 440, 441], [451, 452, 453, 454, 455, 456, 457, 458, 459, 460, 461, 462, 463, 464, 465], [475, 476, 477, 478, 479, 480, 481, 482, 483, 484, 485, 486, 487, 488, 489, 490], [499, 500, 501, 502, 503, 504, 505, 506, 507, 508, 509, 510, 511, 512, 513, 514, 515], [520, 521, 522, 523, 524, 525, 526, 527, 528, 529, 530, 531, 532, 533, 534, 535, 536, 537]] (by decide +kernel)
theorem pr_s6 : ∀ i, i < 19 → ∀ j, j < 19 → i ≠ j → Cond.not (Cond.eq (tmS i) (tmS j)) ∈ prem ∨ Cond.not (Cond.eq (tmS j) (tmS i)) ∈ prem := by
  intro i hi j hj hij
  rcases Nat.lt_or_gt_of_ne hij with h | h
  · exact Or.inl (pr_s6l j hj i h)
  · exact Or.inr (pr_s6l i hi j h)
theorem tb_s : ∀ i, i < 19 → Cond.stringRef RX3 (sIx.getD i 0) (sTx.getD i "") ∈ tables_1 := tb_of [519, 520, 521, 522, 523, 524, 525, 526, 527, 528, 529, 530, 531, 532, 533, 534, 535, 536, 537] (by decide +kernel)
theorem tb_z : ∀ k, k < 4 → Cond.laysStatic RX3 (sNm k) "[I" ∈ tables_1 := tb_of [515, 603, 609, 611] (by decide +kernel)
theorem tb_c : Cond.laysStatic RJ0 "COMPACT_STRINGS" "Z" ∈ tables_1 ∧ Cond.laysStatic RJ3 "SIOOBE_FORMATTER" "Ljava/util/function/BiFunction;" ∈ tables_1 := ⟨List.mem_of_getElem? (i := 551) (by decide +kernel), List.mem_of_getElem? (i := 567) (by decide +kernel)⟩
theorem tb_a : ∀ C ∈ [RX0, RX1, RX4, RX6, RX7], Cond.arrayOver (.object C) ∈ tables_1 := by decide +kernel
theorem arr_of {args : Array Value} {s : State} {t : FieldType} (hr : ∀ C, t ≠ .object C) (h : (Cond.arrayClass t).before args s = true) : ∃ c : ClassId, ArrOfT s c t ∧ va_RA s c t := by
  obtain ⟨c, k, comp, h1, h2, h3⟩ := Cond.arrayClass_spec h
  refine ⟨c, fun n z => ⟨fun k h => (by cases h), k, h2, comp, h3⟩, ?_⟩
  cases t with
  | object C => exact absurd rfl (hr C)
  | _ => exact h1
theorem arr_ofR {args : Array Value} {s : State} {C : String} (h : (Cond.arrayOver (.object C)).before args s = true) : ∃ c : ClassId, ArrOfT s c (.object C) ∧ va_RA s c (.object C) := by
  obtain ⟨comp, c, k, h1, -, h3, h4, h5⟩ := Cond.arrayOver_spec h
  exact ⟨c, fun n z => ⟨fun k h => (by cases h), k, h3, comp, h4⟩, k, comp, h3, h4, h1, h5⟩
set_option maxHeartbeats 4000000 in
set_option maxRecDepth 100000 in
theorem amb_start {s : State} {args : Array Value} {sb : Nat} (hts : ∀ w ∈ lw_tbl, w.before args s = true) (hgv : (Jvm.Cond.and given_1 narrow_1).before args s = true) : ∃ G : GG, Amb G s.heap.size s ∧ G.2.2.2.1 50 = sb := by
  have hp : ∀ c ∈ prem, c.before args s = true := flat_of_before _ hgv
  have ht : ∀ w ∈ tables_1, w.before args s = true := fun w h => hts w (List.mem_append_right _ h)
  have hg : ∀ w ∈ GT, w.before args s = true := fun w h => hts w (GT_lw h)
  have hA : ∀ a : Nat, a < s.heap.size → ¬ AA s.heap.size a := fun a h => Nat.not_le.mpr h
  obtain ⟨c0, i0, k0⟩ := u_known (C := RX0) (T := TX0) (N := 3) (n := 3) hg inX0 (hg _ tw122)
  obtain ⟨c1, i1, k1⟩ := u_known (C := RX1) (T := TX1) (N := 5) (n := 5) hg inX1 (hg _ tw143)
  obtain ⟨c2, i2, k2⟩ := u_known (C := RX2) (T := TX2) (N := 5) (n := 5) hg inX2 (hg _ tw398)
  obtain ⟨c3, i3, k3⟩ := u_known (C := RX3) (T := TX3) (N := 16) (n := 16) hg inX3 (hg _ tw241)
  obtain ⟨c4, i4, k4⟩ := u_known (C := RX4) (T := TX4) (N := 4) (n := 4) hg inX4 (hg _ tw175)
  obtain ⟨c5, i5, k5⟩ := u_known (C := RX5) (T := TX5) (N := 2) (n := 2) hg inX5 (hg _ tw385)
  obtain ⟨c6, i6, k6⟩ := u_known (C := RX6) (T := TX6) (N := 9) (n := 9) hg inX6 (hg _ tw29)
  obtain ⟨c7, i7, k7⟩ := u_known (C := RX7) (T := TX7) (N := 10) (n := 10) hg inX7 (hg _ tw42)
  obtain ⟨c8, i8, k8⟩ := u_known (C := RX9) (T := TX9) (N := 17) (n := 17) hg inX9 (hg _ tw310)
  obtain ⟨c9, i9, k9⟩ := u_known (C := RX10) (T := TX10) (N := 6) (n := 6) hg inX10 (hg _ tw21)
  obtain ⟨cm, im, km⟩ := u_known (C := RX11) (T := TX11) (N := 51) (n := 51) hg inX11 (hg _ tw1188)
  obtain ⟨r11, r11a⟩ := arr_of (fun C h => by cases h) (hg _ tw120)
  obtain ⟨r12, r12a⟩ := arr_of (fun C h => by cases h) (hg _ tw121)
  obtain ⟨r13, r13a⟩ := arr_of (fun C h => by cases h) (hg _ tw1347)
  obtain ⟨r14, r14a⟩ := arr_ofR (ht _ (tb_a RX0 (by simp)))
  obtain ⟨r15, r15a⟩ := arr_ofR (ht _ (tb_a RX1 (by simp)))
  obtain ⟨r16, r16a⟩ := arr_ofR (ht _ (tb_a RX4 (by simp)))
  obtain ⟨r17, r17a⟩ := arr_ofR (ht _ (tb_a RX6 (by simp)))
  obtain ⟨r18, r18a⟩ := arr_ofR (ht _ (tb_a RX7 (by simp)))
  have hst : ∀ k : Nat, ∃ t : Nat, k < 4 → (Term.static RX3 (sNm k) "[I").eval args s none [] s = some (.ref t) ∧ va_T .int t (sTab k).length (fun j => .int (Int32.ofInt ((sTab k).getD j 0))) (AA s.heap.size) s s.heap := by
    intro k
    by_cases hk : k < 4
    · have hN : (sTab k).length < 2 ^ 31 := by
        rcases (show k = 0 ∨ k = 1 ∨ k = 2 ∨ k = 3 by omega) with rfl | rfl | rfl | rfl <;> decide
      obtain ⟨t, h1, h2⟩ := va_Tof (f := fun j => .int (Int32.ofInt ((sTab k).getD j 0))) (A := AA s.heap.size) hN (hp _ (pr_arr k hk)) (va_eqt (hp _ (pr_len k hk))) (fun j hj => va_eqt (hp _ (by
        have h := List.all_eq_true.mp (List.all_eq_true.mp pr_el k (List.mem_range.mpr hk)) j (List.mem_range.mpr hj)
        simpa using h))) hA
      exact ⟨t, fun _ => ⟨h1, h2⟩⟩
    · exact ⟨0, fun h => absurd h hk⟩
  obtain ⟨tS, htS⟩ := Classical.axiomOfChoice hst
  obtain ⟨adK, adV, hS1, hS2⟩ := vk_Sof (args := args) (s := s) (N := 19) (tm := tmS) (len := sLen) (byt := sByt) (A := AA s.heap.size) (fun i hi => by have := sLen_in i hi; omega) (fun i hi => hp _ (pr_s1 i hi)) (fun i hi => hp _ (pr_s2 i hi)) (fun i hi => hp _ (pr_s3 i hi)) (fun i hi => hp _ (pr_s4 i hi))
    (fun i hi j hj => hp _ (pr_s5 i hi j hj))
    (fun i j hi hj hij => (pr_s6 i hi j hj hij).elim (fun h => Or.inl (hp _ h)) (fun h => Or.inr (hp _ h))) hA
  refine ⟨(fun k => match k with | 0 => c0 | 1 => c1 | 2 => c2 | 3 => c3 | 4 => c4 | 5 => c5 | 6 => c6 | 7 => c7 | 8 => c8 | 9 => c9 | _ => cm,
    fun k => match k with | 0 => i0 | 1 => i1 | 2 => i2 | 3 => i3 | 4 => i4 | 5 => i5 | 6 => i6 | 7 => i7 | 8 => i8 | 9 => i9 | _ => im,
    fun k => match k with | 11 => r11 | 12 => r12 | 13 => r13 | 14 => r14 | 15 => r15 | 16 => r16 | 17 => r17 | _ => r18,
    fun k => if k < 4 then tS k else if k < 23 then adK (k - 4) else if k < 42 then adV (k - 23) else sb, fun _ => 0), ⟨⟨?_, ?_⟩, ?_, ?_, ?_, ?_, ?_, ?_, ?_⟩, rfl⟩
  · intro k q hq
    match k, hq with
    | 0, hq => cases hq; exact k0
    | 1, hq => cases hq; exact k1
    | 2, hq => cases hq; exact k2
    | 3, hq => cases hq; exact k3
    | 4, hq => cases hq; exact k4
    | 5, hq => cases hq; exact k5
    | 6, hq => cases hq; exact k6
    | 7, hq => cases hq; exact k7
    | 8, hq => cases hq; exact k8
    | 9, hq => cases hq; exact k9
    | 10, hq => cases hq; exact km
    | k + 11, hq => simp [vwCl] at hq
  · intro k q hq
    match k, hq with
    | 0, hq => cases hq; exact r11a
    | 1, hq => cases hq; exact r12a
    | 2, hq => cases hq; exact r13a
    | 3, hq => cases hq; exact r14a
    | 4, hq => cases hq; exact r15a
    | 5, hq => cases hq; exact r16a
    | 6, hq => cases hq; exact r17a
    | 7, hq => cases hq; exact r18a
    | k + 8, hq => simp [tysG] at hq
  · intro q hq
    have h := List.all_eq_true.mp NW_in q hq
    exact va_Nw.of rfl (ht _ (by simpa using h))
  · intro k hk
    have h := htS k hk
    show va_Z _ _ _ (.ref (if k < 4 then tS k else _)) _ _ _ ∧ va_T _ (if k < 4 then tS k else _) _ _ _ _ _
    rw [if_pos hk]
    exact ⟨va_Zof (ht _ (tb_z k hk)) (hg _ tw7) h.1 hA, h.2⟩
  · exact va_Zof (ht _ tb_c.1) (hg _ tw13) (va_eqt (hp _ pr_cs)) hA
  · exact va_Zqof (ht _ tb_c.2) (hg _ tw15) (hp _ pr_fm) hA
  · show vk_S 19 sLen sByt (fun i => if 4 + i < 4 then tS (4 + i) else if 4 + i < 23 then adK (4 + i - 4) else if 4 + i < 42 then adV (4 + i - 23) else sb) (fun i => if 23 + i < 4 then tS (23 + i) else if 23 + i < 23 then adK (23 + i - 4) else if 23 + i < 42 then adV (23 + i - 23) else sb) _ _ _
    obtain ⟨g1, g2⟩ := hS1
    have e1 : ∀ i, i < 19 → (if 4 + i < 4 then tS (4 + i) else if 4 + i < 23 then adK (4 + i - 4) else if 4 + i < 42 then adV (4 + i - 23) else sb) = adK i := fun i hi => by
      rw [if_neg (by omega), if_pos (by omega), show 4 + i - 4 = i by omega]
    have e2 : ∀ i, i < 19 → (if 23 + i < 4 then tS (23 + i) else if 23 + i < 23 then adK (23 + i - 4) else if 23 + i < 42 then adV (23 + i - 23) else sb) = adV i := fun i hi => by
      rw [if_neg (by omega), if_neg (by omega), if_pos (by omega), show 23 + i - 23 = i by omega]
    refine ⟨fun i hi => ?_, fun i j hi hj h => g2 i j hi hj (by simp only [e1 i hi, e1 j hj] at h; exact h)⟩
    simp only [e1 i hi, e2 i hi]
    exact g1 i hi
  · intro i hi
    show vk_R _ _ _ (if 4 + i < 4 then tS (4 + i) else if 4 + i < 23 then adK (4 + i - 4) else _) _
    rw [if_neg (by omega), if_pos (by omega), show 4 + i - 4 = i by omega]
    exact vk_R.of (ht _ (tb_s i hi)) (hS2 i hi)
  · exact fun C hC => va_AO.of (ht _ (tb_a C hC))
theorem W_room {p : Program} {l : Launch} {e : Env} {s : State} {m : MethodId} {args : Array Value} {below : List Frame} {meth : Method} {c : Code} {H : Heap} {locs : List Loc} {cells slots : Nat} {Q Q' : State → Prop} {g : JFrame} {R R' : Room} (h1 : R'.frames ≤ R.frames) (h2 : R'.locals ≤ R.locals) (h3 : R'.cells ≤ R.cells) (h4 : R'.slots ≤ R.slots) (hQ : ∀ t, Q' t → Q t) (k : W p l e R' s m args below meth c H locs cells slots Q' g) : W p l e R s m args below meth c H locs cells slots Q g := by
  intro T hT X
  have hr := X.room
  have : s.hasRoom e.platform R' = true := by
    simp only [State.hasRoom, Bool.and_eq_true, decide_eq_true_eq] at hr ⊢
    obtain ⟨⟨⟨⟨a1, a2, a3, a4, a5, a6⟩, a7⟩, a8⟩, a9⟩ := hr
    exact ⟨⟨⟨⟨by omega, by omega, by omega, by omega, by omega, a6⟩, by omega⟩, by omega⟩, a9⟩
  obtain ⟨t, h5, h6⟩ := k T hT { X with room := this }
  exact ⟨t, h5, hQ t h6⟩
theorem frame_forget {s : State} {o : Outcome} {t : State} {L : List Loc} {k n : Nat} (h : FrameEnd s o t L k n) (hL : ∀ q ∈ L, s.heap.size ≤ q.base) : Framed s o t [] k n := by
  obtain ⟨h1, h2, h3⟩ := h
  exact ⟨h1, h2, h3.weaken (fun y hy hlt => absurd hlt (Nat.not_lt.mpr (hL y hy))) (Nat.le_refl _) (Nat.le_refl _)⟩
/-- THE CLAIM IS ONE OF THE FUNCTION fL_law ALONE -/
theorem whole_start_of (hmath : ∀ (L : Int) (xs : Int → Int), 0 ≤ L ∧ L ≤ 4096 → (∀ j, r32 (xs j)) → ∃ M', fL_law L xs M00 = some (1, M')) {p : Program} {e : Env} {s : State} {m : MethodId} {below : List Frame} {meth : Method} {c : Code} (l : Launch) {b L : Nat} {xs : Nat → Int32} (hL : L ≤ 4096) (C0 : lw_At p s m meth c b L xs) : W p l e room_1 s m #[Value.ref b] below meth c s.heap [] 0 0 (lw_Z below #[Value.ref b] s) (entryFrame m ([Value.ref b] : List Value).toArray 4) := by
  obtain ⟨hx, hb, hr, hml, hown, hts, hX, hbl, hlocks, hgv⟩ := C0
  obtain ⟨G, hA, hsb⟩ := amb_start (sb := b) hts hgv
  have hLi : 0 ≤ (L : Int) ∧ (L : Int) ≤ 4096 := by omega
  have hxs : ∀ j : Int, r32 ((xs j.toNat).toInt) := fun j => q_bl
  obtain ⟨M', hM'⟩ := hmath L (fun j => (xs j.toNat).toInt) hLi hxs
  have hV := vL_law 1312 (by decide) L (fun j => (xs j.toNat).toInt) ⟨hLi.1, by omega⟩ hxs M00
  obtain ⟨-, hW⟩ := hV _ hM' M00_ok (by
    intro k v hv
    match k, hv with
    | 0, hv => cases hv; trivial
    | 1, hv => cases hv
    | 2, hv => cases hv
    | 3, hv => cases hv
    | k + 4, hv => simp at hv) (fun v hv => by cases hv)
  obtain ⟨scr, h1, h2, h3, h4, h5⟩ := hX
  have hl := lv_entry ([.ref b]) (n := 4) (Nat.le_of_ble_eq_true rfl)
  rw [lg_entry_eq]
  refine W_room (R' := rmD 1312 600000 7302249) (by decide) (by decide) (by decide) (by decide) ?_ (hW G s.heap.size p l e s m #[Value.ref b] below meth c ⟨hx, hb, hr, hml, hown, fun w hw => hts w (GT_lw hw), hlocks, ?_, hA, Nat.le_refl _, ?_⟩ s.heap [] 0 0 _ ⟨rfl, fun k q hq => by simp [wsM, M00] at hq, va_S.rf, ⟨hl.1, hl.2.1, fun q hq => hl.2.2 q ?_⟩, by omega, by omega⟩)
  · rintro t ⟨o, g1, g2, ⟨g3, -⟩, L', g4, g5⟩
    exact ⟨o, g1, g2, g3, frame_forget g4 g5⟩
  · intro h; exact absurd h (by show ¬ ("law" : String) = "<init>"; decide)
  · show va_T .int (G.2.2.2.1 50) _ _ _ _ _
    rw [hsb]
    refine ⟨scr, h1, h2, h3, by rw [h4]; simp, by rw [h4]; simp, fun j hj => ?_, Nat.not_le.mpr hbl⟩
    rw [h5 j (by simpa using hj)]
    show some (Value.int (xs j)) = some (Value.int (Int32.ofInt ((xs ((j : Int).toNat)).toInt)))
    rw [Int.toNat_natCast, Int32.ofInt_toInt]
  · have : lsL s.heap.size G.2.2.2.1 0 [some (pA (-52)), none, none, none] = [(0, eR s.heap.size G.2.2.2.1 (-52))] := rfl
    rw [this, eR_k 50 (by decide), hsb] at hq
    exact hq
