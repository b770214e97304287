/-! THE CLAIM OUT OF ONE WALK OF THE LAW'S BODY. Your part is whole_start (and what it stands on); all else here is the same for every law, but numbers. -/
def R_law : String := "OneBackLaw"
def lw_P (b : Addr) (xs : List Int32) (args : Array Value) (s : State) : Prop := args = #[.ref b] ∧ s.IntsAt b xs ∧ xs.length ≤ 4096 ∧ (Jvm.Cond.and given_1 narrow_1).before args s = true
def lw_Q (_ : Array Value) (s : State) (o : Outcome) (t : State) : Prop := o = .returned (some (.int 1)) ∧ Framed s o t [] 600000 7302249
def lw_Z (below : List Frame) (a : Array Value) (s : State) : State → Prop := fun t => ∃ o, t.status = .running ∧ Ended t below o ∧ lw_Q a s o t
/-- the law's own end, with 1 on the stack, nothing written that was there before, its room as the claim has it -/
theorem lw_ret {p : Program} {l : Launch} {e : Env} {s : State} {m : MethodId} {below : List Frame} {meth : Method} {c : Code} {b : Nat} (hx : p.tables.exec = Jvm.exec) (hb : c.code = code) (hr : meth.sig.returnType = ret) (hlocks : meth.locks = false) {pc : Nat} {H : Heap} {ls : Array Slot} (hdg : decode code pc = .ok (.ireturn, 1)) : W p l e room_1 s m #[Value.ref b] below meth c H [] 600000 7302249 (lw_Z below #[Value.ref b] s) (F0 m pc ls [.int 1]) := by
  intro T hT X
  obtain ⟨fs, hret, hrun, hended, hW, hframe⟩ := X.leave (v := some (.int 1)) (hlocks := hlocks) (fun h => by rw [hr] at h; cases h)
  have hmeth' : T.vm.method? m = some meth := X.method'
  refine ⟨T.setFrames fs, ?_, .returned (some (.int 1)), hrun, hended, rfl, ⟨_, rfl⟩, hW, hframe⟩
  jvm_step X.here [X.here.top, hx, hb, hdg, hmeth', hr, ret, narrow_b1]
  (try refine ⟨rfl, ?_⟩); (try refine ⟨rfl, ?_⟩)
  first | (intro acts; rw [hret _ acts rfl rfl rfl]) | rw [hret _ _ rfl rfl rfl]
  exact Steps.refl _
/-- what holds at the law's entry: the machine, the code, the tables' words (any of lw_tbl by 'hts w (by decide +kernel)'), the script of L ints xs at the cell b, what the Statement gives of the start (any of its parts by flat_of_before) -/
def lw_At (p : Program) (s : State) (m : MethodId) (meth : Method) (c : Code) (b L : Nat) (xs : Nat → Int32) : Prop :=
  p.tables.exec = Jvm.exec ∧ c.code = code ∧ meth.sig.returnType = ret ∧ c.maxLocals = 4 ∧ s.vm.findClass R_law = some m.cls ∧ (∀ w ∈ lw_tbl, w.before #[Value.ref b] s = true) ∧ va_X b L xs s s.heap ∧ b < s.heap.size ∧ meth.locks = false ∧ (Jvm.Cond.and given_1 narrow_1).before #[Value.ref b] s = true
/-! the law's entry: the ambient facts out of the Statement's premises -/
def M00 : Mem := (fun _ _ => 0, fun _ => -1, fun _ => 0, 0)
theorem M00_ok : MemOK M00 := ⟨fun a h => absurd rfl h, fun a => ⟨Int.le_refl _, by show (-1 : Int) ≤ 18; decide⟩, fun a => ⟨Int.le_refl _, by show (0 : Int) < 2147483648; decide⟩, fun a i h => absurd rfl h⟩
theorem NW_in : NW.all (fun q => decide (Cond.methodLinkNest q.1 q.2.1 q.2.2.1 q.2.2.2 ∈ tables_1)) = true := by decide +kernel
def prem : List Cond := flatC (Jvm.Cond.and given_1 narrow_1)
theorem pr_arr : ∀ k, k < 4 → Cond.arrayOf (.static RX3 (sNm k) "[I") .int ∈ prem := by decide +kernel
theorem pr_len : ∀ k, k < 4 → Cond.eq (.length (.static RX3 (sNm k) "[I")) (.int (Int32.ofNat (sTab k).length)) ∈ prem := by decide +kernel
theorem pr_el : ((List.range 4).all fun k => (List.range (sTab k).length).all fun j => decide (Cond.eq (.elem (.static RX3 (sNm k) "[I") (.int (Int32.ofNat j))) (.int (Int32.ofInt ((sTab k).getD j 0))) ∈ prem)) = true := by decide +kernel
theorem pr_cs : Cond.eq (.static RJ0 "COMPACT_STRINGS" "Z") (.int 1) ∈ prem := by decide +kernel
theorem pr_fm : Cond.isRef (.static RJ3 "SIOOBE_FORMATTER" "Ljava/util/function/BiFunction;") ∈ prem := by decide +kernel
def tmS (i : Nat) : Term := .string RX3 (sIx.getD i 0)
theorem pr_s1 : ∀ i, i < 19 → Cond.exactly (tmS i) "java/lang/String" ∈ prem := by decide +kernel
theorem pr_s2 : ∀ i, i < 19 → Cond.eq (.field (tmS i) "java/lang/String" "coder" "B") (.int 0) ∈ prem := by decide +kernel
theorem pr_s3 : ∀ i, i < 19 → Cond.arrayOf (.field (tmS i) "java/lang/String" "value" "[B") .byte ∈ prem := by decide +kernel
theorem pr_s4 : ∀ i, i < 19 → Cond.eq (.length (.field (tmS i) "java/lang/String" "value" "[B")) (.int (Int32.ofNat (sLen.getD i 0))) ∈ prem := by decide +kernel
theorem pr_s5_0 : ∀ j, j < sLen.getD 0 0 → Cond.eq (.elem (.field (tmS 0) "java/lang/String" "value" "[B") (.int (Int32.ofNat j))) (.int ((sByt.getD 0 []).getD j 0)) ∈ prem := by
  intro j hj
  rw [show sLen.getD 0 0 = 6 by decide +kernel] at hj
  match j, hj with
  | 0, _ => exact List.mem_of_getElem? (i := 211) (by decide +kernel)
  | 1, _ => exact List.mem_of_getElem? (i := 212) (by decide +kernel)
  | 2, _ => exact List.mem_of_getElem? (i := 213) (by decide +kernel)
  | 3, _ => exact List.mem_of_getElem? (i := 214) (by decide +kernel)
  | 4, _ => exact List.mem_of_getElem? (i := 215) (by decide +kernel)
  | 5, _ => exact List.mem_of_getElem? (i := 216) (by decide +kernel)
  | k + 6, h => exact absurd h (by omega)
theorem pr_s5_1 : ∀ j, j < sLen.getD 1 0 → Cond.eq (.elem (.field (tmS 1) "java/lang/String" "value" "[B") (.int (Int32.ofNat j))) (.int ((sByt.getD 1 []).getD j 0)) ∈ prem := by
  intro j hj
  rw [show sLen.getD 1 0 = 3 by decide +kernel] at hj
  match j, hj with
  | 0, _ => exact List.mem_of_getElem? (i := 221) (by decide +kernel)
  | 1, _ => exact List.mem_of_getElem? (i := 222) (by decide +kernel)
  | 2, _ => exact List.mem_of_getElem? (i := 223) (by decide +kernel)
  | k + 3, h => exact absurd h (by omega)
theorem pr_s5_2 : ∀ j, j < sLen.getD 2 0 → Cond.eq (.elem (.field (tmS 2) "java/lang/String" "value" "[B") (.int (Int32.ofNat j))) (.int ((sByt.getD 2 []).getD j 0)) ∈ prem := by
  intro j hj
  rw [show sLen.getD 2 0 = 5 by decide +kernel] at hj
  match j, hj with
  | 0, _ => exact List.mem_of_getElem? (i := 229) (by decide +kernel)
  | 1, _ => exact List.mem_of_getElem? (i := 230) (by decide +kernel)
  | 2, _ => exact List.mem_of_getElem? (i := 231) (by decide +kernel)
  | 3, _ => exact List.mem_of_getElem? (i := 232) (by decide +kernel)
  | 4, _ => exact List.mem_of_getElem? (i := 233) (by decide +kernel)
  | k + 5, h => exact absurd h (by omega)
theorem pr_s5_3 : ∀ j, j < sLen.getD 3 0 → Cond.eq (.elem (.field (tmS 3) "java/lang/String" "value" "[B") (.int (Int32.ofNat j))) (.int ((sByt.getD 3 []).getD j 0)) ∈ prem := by
  intro j hj
  rw [show sLen.getD 3 0 = 5 by decide +kernel] at hj
  match j, hj with
  | 0, _ => exact List.mem_of_getElem? (i := 240) (by decide +kernel)
  | 1, _ => exact List.mem_of_getElem? (i := 241) (by decide +kernel)
  | 2, _ => exact List.mem_of_getElem? (i := 242) (by decide +kernel)
  | 3, _ => exact List.mem_of_getElem? (i := 243) (by decide +kernel)
  | 4, _ => exact List.mem_of_getElem? (i := 244) (by decide +kernel)
  | k + 5, h => exact absurd h (by omega)
theorem pr_s5_4 : ∀ j, j < sLen.getD 4 0 → Cond.eq (.elem (.field (tmS 4) "java/lang/String" "value" "[B") (.int (Int32.ofNat j))) (.int ((sByt.getD 4 []).getD j 0)) ∈ prem := by
  intro j hj
  rw [show sLen.getD 4 0 = 6 by decide +kernel] at hj
  match j, hj with
  | 0, _ => exact List.mem_of_getElem? (i := 252) (by decide +kernel)
  | 1, _ => exact List.mem_of_getElem? (i := 253) (by decide +kernel)
  | 2, _ => exact List.mem_of_getElem? (i := 254) (by decide +kernel)
  | 3, _ => exact List.mem_of_getElem? (i := 255) (by decide +kernel)
  | 4, _ => exact List.mem_of_getElem? (i := 256) (by decide +kernel)
  | 5, _ => exact List.mem_of_getElem? (i := 257) (by decide +kernel)
  | k + 6, h => exact absurd h (by omega)
theorem pr_s5_5 : ∀ j, j < sLen.getD 5 0 → Cond.eq (.elem (.field (tmS 5) "java/lang/String" "value" "[B") (.int (Int32.ofNat j))) (.int ((sByt.getD 5 []).getD j 0)) ∈ prem := by
  intro j hj
  rw [show sLen.getD 5 0 = 6 by decide +kernel] at hj
  match j, hj with
  | 0, _ => exact List.mem_of_getElem? (i := 266) (by decide +kernel)
  | 1, _ => exact List.mem_of_getElem? (i := 267) (by decide +kernel)
  | 2, _ => exact List.mem_of_getElem? (i := 268) (by decide +kernel)
  | 3, _ => exact List.mem_of_getElem? (i := 269) (by decide +kernel)
  | 4, _ => exact List.mem_of_getElem? (i := 270) (by decide +kernel)
  | 5, _ => exact List.mem_of_getElem? (i := 271) (by decide +kernel)
  | k + 6, h => exact absurd h (by omega)
theorem pr_s5_6 : ∀ j, j < sLen.getD 6 0 → Cond.eq (.elem (.field (tmS 6) "java/lang/String" "value" "[B") (.int (Int32.ofNat j))) (.int ((sByt.getD 6 []).getD j 0)) ∈ prem := by
  intro j hj
  rw [show sLen.getD 6 0 = 5 by decide +kernel] at hj
  match j, hj with
  | 0, _ => exact List.mem_of_getElem? (i := 281) (by decide +kernel)
  | 1, _ => exact List.mem_of_getElem? (i := 282) (by decide +kernel)
  | 2, _ => exact List.mem_of_getElem? (i := 283) (by decide +kernel)
  | 3, _ => exact List.mem_of_getElem? (i := 284) (by decide +kernel)
  | 4, _ => exact List.mem_of_getElem? (i := 285) (by decide +kernel)
  | k + 5, h => exact absurd h (by omega)
theorem pr_s5_7 : ∀ j, j < sLen.getD 7 0 → Cond.eq (.elem (.field (tmS 7) "java/lang/String" "value" "[B") (.int (Int32.ofNat j))) (.int ((sByt.getD 7 []).getD j 0)) ∈ prem := by
  intro j hj
  rw [show sLen.getD 7 0 = 3 by decide +kernel] at hj
  match j, hj with
  | 0, _ => exact List.mem_of_getElem? (i := 296) (by decide +kernel)
  | 1, _ => exact List.mem_of_getElem? (i := 297) (by decide +kernel)
  | 2, _ => exact List.mem_of_getElem? (i := 298) (by decide +kernel)
  | k + 3, h => exact absurd h (by omega)
theorem pr_s5_8 : ∀ j, j < sLen.getD 8 0 → Cond.eq (.elem (.field (tmS 8) "java/lang/String" "value" "[B") (.int (Int32.ofNat j))) (.int ((sByt.getD 8 []).getD j 0)) ∈ prem := by
  intro j hj
  rw [show sLen.getD 8 0 = 5 by decide +kernel] at hj
  match j, hj with
  | 0, _ => exact List.mem_of_getElem? (i := 310) (by decide +kernel)
  | 1, _ => exact List.mem_of_getElem? (i := 311) (by decide +kernel)
  | 2, _ => exact List.mem_of_getElem? (i := 312) (by decide +kernel)
  | 3, _ => exact List.mem_of_getElem? (i := 313) (by decide +kernel)
  | 4, _ => exact List.mem_of_getElem? (i := 314) (by decide +kernel)
  | k + 5, h => exact absurd h (by omega)
theorem pr_s5_9 : ∀ j, j < sLen.getD 9 0 → Cond.eq (.elem (.field (tmS 9) "java/lang/String" "value" "[B") (.int (Int32.ofNat j))) (.int ((sByt.getD 9 []).getD j 0)) ∈ prem := by
  intro j hj
  rw [show sLen.getD 9 0 = 4 by decide +kernel] at hj
  match j, hj with
  | 0, _ => exact List.mem_of_getElem? (i := 327) (by decide +kernel)
  | 1, _ => exact List.mem_of_getElem? (i := 328) (by decide +kernel)
  | 2, _ => exact List.mem_of_getElem? (i := 329) (by decide +kernel)
  | 3, _ => exact List.mem_of_getElem? (i := 330) (by decide +kernel)
  | k + 4, h => exact absurd h (by omega)
theorem pr_s5_10 : ∀ j, j < sLen.getD 10 0 → Cond.eq (.elem (.field (tmS 10) "java/lang/String" "value" "[B") (.int (Int32.ofNat j))) (.int ((sByt.getD 10 []).getD j 0)) ∈ prem := by
  intro j hj
  rw [show sLen.getD 10 0 = 5 by decide +kernel] at hj
  match j, hj with
  | 0, _ => exact List.mem_of_getElem? (i := 344) (by decide +kernel)
  | 1, _ => exact List.mem_of_getElem? (i := 345) (by decide +kernel)
  | 2, _ => exact List.mem_of_getElem? (i := 346) (by decide +kernel)
  | 3, _ => exact List.mem_of_getElem? (i := 347) (by decide +kernel)
  | 4, _ => exact List.mem_of_getElem? (i := 348) (by decide +kernel)
  | k + 5, h => exact absurd h (by omega)
theorem pr_s5_11 : ∀ j, j < sLen.getD 11 0 → Cond.eq (.elem (.field (tmS 11) "java/lang/String" "value" "[B") (.int (Int32.ofNat j))) (.int ((sByt.getD 11 []).getD j 0)) ∈ prem := by
  intro j hj
  rw [show sLen.getD 11 0 = 6 by decide +kernel] at hj
  match j, hj with
  | 0, _ => exact List.mem_of_getElem? (i := 363) (by decide +kernel)
  | 1, _ => exact List.mem_of_getElem? (i := 364) (by decide +kernel)
  | 2, _ => exact List.mem_of_getElem? (i := 365) (by decide +kernel)
  | 3, _ => exact List.mem_of_getElem? (i := 366) (by decide +kernel)
  | 4, _ => exact List.mem_of_getElem? (i := 367) (by decide +kernel)
  | 5, _ => exact List.mem_of_getElem? (i := 368) (by decide +kernel)
  | k + 6, h => exact absurd h (by omega)
theorem pr_s5_12 : ∀ j, j < sLen.getD 12 0 → Cond.eq (.elem (.field (tmS 12) "java/lang/String" "value" "[B") (.int (Int32.ofNat j))) (.int ((sByt.getD 12 []).getD j 0)) ∈ prem := by
  intro j hj
  rw [show sLen.getD 12 0 = 4 by decide +kernel] at hj
  match j, hj with
  | 0, _ => exact List.mem_of_getElem? (i := 384) (by decide +kernel)
  | 1, _ => exact List.mem_of_getElem? (i := 385) (by decide +kernel)
  | 2, _ => exact List.mem_of_getElem? (i := 386) (by decide +kernel)
  | 3, _ => exact List.mem_of_getElem? (i := 387) (by decide +kernel)
  | k + 4, h => exact absurd h (by omega)
theorem pr_s5_13 : ∀ j, j < sLen.getD 13 0 → Cond.eq (.elem (.field (tmS 13) "java/lang/String" "value" "[B") (.int (Int32.ofNat j))) (.int ((sByt.getD 13 []).getD j 0)) ∈ prem := by
  intro j hj
  rw [show sLen.getD 13 0 = 4 by decide +kernel] at hj
  match j, hj with
  | 0, _ => exact List.mem_of_getElem? (i := 404) (by decide +kernel)
  | 1, _ => exact List.mem_of_getElem? (i := 405) (by decide +kernel)
  | 2, _ => exact List.mem_of_getElem? (i := 406) (by decide +kernel)
  | 3, _ => exact List.mem_of_getElem? (i := 407) (by decide +kernel)
  | k + 4, h => exact absurd h (by omega)
theorem pr_s5_14 : ∀ j, j < sLen.getD 14 0 → Cond.eq (.elem (.field (tmS 14) "java/lang/String" "value" "[B") (.int (Int32.ofNat j))) (.int ((sByt.getD 14 []).getD j 0)) ∈ prem := by
  intro j hj
  rw [show sLen.getD 14 0 = 3 by decide +kernel] at hj
  match j, hj with
  | 0, _ => exact List.mem_of_getElem? (i := 425) (by decide +kernel)
  | 1, _ => exact List.mem_of_getElem? (i := 426) (by decide +kernel)
  | 2, _ => exact List.mem_of_getElem? (i := 427) (by decide +kernel)
  | k + 3, h => exact absurd h (by omega)
theorem pr_s5_15 : ∀ j, j < sLen.getD 15 0 → Cond.eq (.elem (.field (tmS 15) "java/lang/String" "value" "[B") (.int (Int32.ofNat j))) (.int ((sByt.getD 15 []).getD j 0)) ∈ prem := by
  intro j hj
  rw [show sLen.getD 15 0 = 5 by decide +kernel] at hj
  match j, hj with
  | 0, _ => exact List.mem_of_getElem? (i := 446) (by decide +kernel)
  | 1, _ => exact List.mem_of_getElem? (i := 447) (by decide +kernel)
  | 2, _ => exact List.mem_of_getElem? (i := 448) (by decide +kernel)
  | 3, _ => exact List.mem_of_getElem? (i := 449) (by decide +kernel)
  | 4, _ => exact List.mem_of_getElem? (i := 450) (by decide +kernel)
  | k + 5, h => exact absurd h (by omega)
theorem pr_s5_16 : ∀ j, j < sLen.getD 16 0 → Cond.eq (.elem (.field (tmS 16) "java/lang/String" "value" "[B") (.int (Int32.ofNat j))) (.int ((sByt.getD 16 []).getD j 0)) ∈ prem := by
  intro j hj
  rw [show sLen.getD 16 0 = 5 by decide +kernel] at hj
  match j, hj with
  | 0, _ => exact List.mem_of_getElem? (i := 470) (by decide +kernel)
  | 1, _ => exact List.mem_of_getElem? (i := 471) (by decide +kernel)
  | 2, _ => exact List.mem_of_getElem? (i := 472) (by decide +kernel)
  | 3, _ => exact List.mem_of_getElem? (i := 473) (by decide +kernel)
  | 4, _ => exact List.mem_of_getElem? (i := 474) (by decide +kernel)
  | k + 5, h => exact absurd h (by omega)
theorem pr_s5_17 : ∀ j, j < sLen.getD 17 0 → Cond.eq (.elem (.field (tmS 17) "java/lang/String" "value" "[B") (.int (Int32.ofNat j))) (.int ((sByt.getD 17 []).getD j 0)) ∈ prem := by
  intro j hj
  rw [show sLen.getD 17 0 = 4 by decide +kernel] at hj
  match j, hj with
  | 0, _ => exact List.mem_of_getElem? (i := 495) (by decide +kernel)
  | 1, _ => exact List.mem_of_getElem? (i := 496) (by decide +kernel)
  | 2, _ => exact List.mem_of_getElem? (i := 497) (by decide +kernel)
  | 3, _ => exact List.mem_of_getElem? (i := 498) (by decide +kernel)
  | k + 4, h => exact absurd h (by omega)
theorem pr_s5_18 : ∀ j, j < sLen.getD 18 0 → Cond.eq (.elem (.field (tmS 18) "java/lang/String" "value" "[B") (.int (Int32.ofNat j))) (.int ((sByt.getD 18 []).getD j 0)) ∈ prem := by
  intro j hj
  rw [show sLen.getD 18 0 = 0 by decide +kernel] at hj
  exact absurd hj (Nat.not_lt_zero _)
theorem pr_s5 : ∀ i, i < 19 → ∀ j, j < sLen.getD i 0 → Cond.eq (.elem (.field (tmS i) "java/lang/String" "value" "[B") (.int (Int32.ofNat j))) (.int ((sByt.getD i []).getD j 0)) ∈ prem := by
  intro i hi
  match i, hi with
  | 0, _ => exact pr_s5_0
  | 1, _ => exact pr_s5_1
  | 2, _ => exact pr_s5_2
  | 3, _ => exact pr_s5_3
  | 4, _ => exact pr_s5_4
  | 5, _ => exact pr_s5_5
  | 6, _ => exact pr_s5_6
  | 7, _ => exact pr_s5_7
  | 8, _ => exact pr_s5_8
  | 9, _ => exact pr_s5_9
  | 10, _ => exact pr_s5_10
  | 11, _ => exact pr_s5_11
  | 12, _ => exact pr_s5_12
  | 13, _ => exact pr_s5_13
  | 14, _ => exact pr_s5_14
  | 15, _ => exact pr_s5_15
  | 16, _ => exact pr_s5_16
  | 17, _ => exact pr_s5_17
  | 18, _ => exact pr_s5_18
  | k + 19, h => exact absurd h (by omega)
theorem pr_s6_0 : ∀ j, j < 19 → 0 ≠ j → Cond.not (Cond.eq (tmS 0) (tmS j)) ∈ prem ∨ Cond.not (Cond.eq (tmS j) (tmS 0)) ∈ prem := by
  intro j hj hij
  match j, hj, hij with
  | 0, _, h => exact absurd rfl h
  | 1, _, _ => exact Or.inl (List.mem_of_getElem? (i := 224) (by decide +kernel))
  | 2, _, _ => exact Or.inl (List.mem_of_getElem? (i := 234) (by decide +kernel))
  | 3, _, _ => exact Or.inl (List.mem_of_getElem? (i := 245) (by decide +kernel))
  | 4, _, _ => exact Or.inl (List.mem_of_getElem? (i := 258) (by decide +kernel))
  | 5, _, _ => exact Or.inl (List.mem_of_getElem? (i := 272) (by decide +kernel))
  | 6, _, _ => exact Or.inl (List.mem_of_getElem? (i := 286) (by decide +kernel))
  | 7, _, _ => exact Or.inl (List.mem_of_getElem? (i := 299) (by decide +kernel))
  | 8, _, _ => exact Or.inl (List.mem_of_getElem? (i := 315) (by decide +kernel))
  | 9, _, _ => exact Or.inl (List.mem_of_getElem? (i := 331) (by decide +kernel))
  | 10, _, _ => exact Or.inl (List.mem_of_getElem? (i := 349) (by decide +kernel))
  | 11, _, _ => exact Or.inl (List.mem_of_getElem? (i := 369) (by decide +kernel))
  | 12, _, _ => exact Or.inl (List.mem_of_getElem? (i := 388) (by decide +kernel))
  | 13, _, _ => exact Or.inl (List.mem_of_getElem? (i := 408) (by decide +kernel))
  | 14, _, _ => exact Or.inl (List.mem_of_getElem? (i := 428) (by decide +kernel))
  | 15, _, _ => exact Or.inl (List.mem_of_getElem? (i := 451) (by decide +kernel))
  | 16, _, _ => exact Or.inl (List.mem_of_getElem? (i := 475) (by decide +kernel))
  | 17, _, _ => exact Or.inl (List.mem_of_getElem? (i := 499) (by decide +kernel))
  | 18, _, _ => exact Or.inl (List.mem_of_getElem? (i := 520) (by decide +kernel))
  | k + 19, h, _ => exact absurd h (by omega)
theorem pr_s6_1 : ∀ j, j < 19 → 1 ≠ j → Cond.not (Cond.eq (tmS 1) (tmS j)) ∈ prem ∨ Cond.not (Cond.eq (tmS j) (tmS 1)) ∈ prem := by
  intro j hj hij
  match j, hj, hij with
  | 0, _, _ => exact Or.inr (List.mem_of_getElem? (i := 224) (by decide +kernel))
  | 1, _, h => exact absurd rfl h
  | 2, _, _ => exact Or.inl (List.mem_of_getElem? (i := 235) (by decide +kernel))
  | 3, _, _ => exact Or.inl (List.mem_of_getElem? (i := 246) (by decide +kernel))
  | 4, _, _ => exact Or.inl (List.mem_of_getElem? (i := 259) (by decide +kernel))
  | 5, _, _ => exact Or.inl (List.mem_of_getElem? (i := 273) (by decide +kernel))
  | 6, _, _ => exact Or.inl (List.mem_of_getElem? (i := 287) (by decide +kernel))
  | 7, _, _ => exact Or.inl (List.mem_of_getElem? (i := 300) (by decide +kernel))
  | 8, _, _ => exact Or.inl (List.mem_of_getElem? (i := 316) (by decide +kernel))
  | 9, _, _ => exact Or.inl (List.mem_of_getElem? (i := 332) (by decide +kernel))
  | 10, _, _ => exact Or.inl (List.mem_of_getElem? (i := 350) (by decide +kernel))
  | 11, _, _ => exact Or.inl (List.mem_of_getElem? (i := 370) (by decide +kernel))
  | 12, _, _ => exact Or.inl (List.mem_of_getElem? (i := 389) (by decide +kernel))
  | 13, _, _ => exact Or.inl (List.mem_of_getElem? (i := 409) (by decide +kernel))
  | 14, _, _ => exact Or.inl (List.mem_of_getElem? (i := 429) (by decide +kernel))
  | 15, _, _ => exact Or.inl (List.mem_of_getElem? (i := 452) (by decide +kernel))
  | 16, _, _ => exact Or.inl (List.mem_of_getElem? (i := 476) (by decide +kernel))
  | 17, _, _ => exact Or.inl (List.mem_of_getElem? (i := 500) (by decide +kernel))
  | 18, _, _ => exact Or.inl (List.mem_of_getElem? (i := 521) (by decide +kernel))
  | k + 19, h, _ => exact absurd h (by omega)
theorem pr_s6_2 : ∀ j, j < 19 → 2 ≠ j → Cond.not (Cond.eq (tmS 2) (tmS j)) ∈ prem ∨ Cond.not (Cond.eq (tmS j) (tmS 2)) ∈ prem := by
  intro j hj hij
  match j, hj, hij with
  | 0, _, _ => exact Or.inr (List.mem_of_getElem? (i := 234) (by decide +kernel))
  | 1, _, _ => exact Or.inr (List.mem_of_getElem? (i := 235) (by decide +kernel))
  | 2, _, h => exact absurd rfl h
  | 3, _, _ => exact Or.inl (List.mem_of_getElem? (i := 247) (by decide +kernel))
  | 4, _, _ => exact Or.inl (List.mem_of_getElem? (i := 260) (by decide +kernel))
  | 5, _, _ => exact Or.inl (List.mem_of_getElem? (i := 274) (by decide +kernel))
  | 6, _, _ => exact Or.inl (List.mem_of_getElem? (i := 288) (by decide +kernel))
  | 7, _, _ => exact Or.inl (List.mem_of_getElem? (i := 301) (by decide +kernel))
  | 8, _, _ => exact Or.inl (List.mem_of_getElem? (i := 317) (by decide +kernel))
  | 9, _, _ => exact Or.inl (List.mem_of_getElem? (i := 333) (by decide +kernel))
  | 10, _, _ => exact Or.inl (List.mem_of_getElem? (i := 351) (by decide +kernel))
  | 11, _, _ => exact Or.inl (List.mem_of_getElem? (i := 371) (by decide +kernel))
  | 12, _, _ => exact Or.inl (List.mem_of_getElem? (i := 390) (by decide +kernel))
  | 13, _, _ => exact Or.inl (List.mem_of_getElem? (i := 410) (by decide +kernel))
  | 14, _, _ => exact Or.inl (List.mem_of_getElem? (i := 430) (by decide +kernel))
  | 15, _, _ => exact Or.inl (List.mem_of_getElem? (i := 453) (by decide +kernel))
  | 16, _, _ => exact Or.inl (List.mem_of_getElem? (i := 477) (by decide +kernel))
  | 17, _, _ => exact Or.inl (List.mem_of_getElem? (i := 501) (by decide +kernel))
  | 18, _, _ => exact Or.inl (List.mem_of_getElem? (i := 522) (by decide +kernel))
  | k + 19, h, _ => exact absurd h (by omega)
theorem pr_s6_3 : ∀ j, j < 19 → 3 ≠ j → Cond.not (Cond.eq (tmS 3) (tmS j)) ∈ prem ∨ Cond.not (Cond.eq (tmS j) (tmS 3)) ∈ prem := by
  intro j hj hij
  match j, hj, hij with
  | 0, _, _ => exact Or.inr (List.mem_of_getElem? (i := 245) (by decide +kernel))
  | 1, _, _ => exact Or.inr (List.mem_of_getElem? (i := 246) (by decide +kernel))
  | 2, _, _ => exact Or.inr (List.mem_of_getElem? (i := 247) (by decide +kernel))
  | 3, _, h => exact absurd rfl h
  | 4, _, _ => exact Or.inl (List.mem_of_getElem? (i := 261) (by decide +kernel))
  | 5, _, _ => exact Or.inl (List.mem_of_getElem? (i := 275) (by decide +kernel))
  | 6, _, _ => exact Or.inl (List.mem_of_getElem? (i := 289) (by decide +kernel))
  | 7, _, _ => exact Or.inl (List.mem_of_getElem? (i := 302) (by decide +kernel))
  | 8, _, _ => exact Or.inl (List.mem_of_getElem? (i := 318) (by decide +kernel))
  | 9, _, _ => exact Or.inl (List.mem_of_getElem? (i := 334) (by decide +kernel))
  | 10, _, _ => exact Or.inl (List.mem_of_getElem? (i := 352) (by decide +kernel))
  | 11, _, _ => exact Or.inl (List.mem_of_getElem? (i := 372) (by decide +kernel))
  | 12, _, _ => exact Or.inl (List.mem_of_getElem? (i := 391) (by decide +kernel))
  | 13, _, _ => exact Or.inl (List.mem_of_getElem? (i := 411) (by decide +kernel))
  | 14, _, _ => exact Or.inl (List.mem_of_getElem? (i := 431) (by decide +kernel))
  | 15, _, _ => exact Or.inl (List.mem_of_getElem? (i := 454) (by decide +kernel))
  | 16, _, _ => exact Or.inl (List.mem_of_getElem? (i := 478) (by decide +kernel))
  | 17, _, _ => exact Or.inl (List.mem_of_getElem? (i := 502) (by decide +kernel))
  | 18, _, _ => exact Or.inl (List.mem_of_getElem? (i := 523) (by decide +kernel))
  | k + 19, h, _ => exact absurd h (by omega)
theorem pr_s6_4 : ∀ j, j < 19 → 4 ≠ j → Cond.not (Cond.eq (tmS 4) (tmS j)) ∈ prem ∨ Cond.not (Cond.eq (tmS j) (tmS 4)) ∈ prem := by
  intro j hj hij
  match j, hj, hij with
  | 0, _, _ => exact Or.inr (List.mem_of_getElem? (i := 258) (by decide +kernel))
  | 1, _, _ => exact Or.inr (List.mem_of_getElem? (i := 259) (by decide +kernel))
  | 2, _, _ => exact Or.inr (List.mem_of_getElem? (i := 260) (by decide +kernel))
  | 3, _, _ => exact Or.inr (List.mem_of_getElem? (i := 261) (by decide +kernel))
  | 4, _, h => exact absurd rfl h
  | 5, _, _ => exact Or.inl (List.mem_of_getElem? (i := 276) (by decide +kernel))
  | 6, _, _ => exact Or.inl (List.mem_of_getElem? (i := 290) (by decide +kernel))
  | 7, _, _ => exact Or.inl (List.mem_of_getElem? (i := 303) (by decide +kernel))
  | 8, _, _ => exact Or.inl (List.mem_of_getElem? (i := 319) (by decide +kernel))
  | 9, _, _ => exact Or.inl (List.mem_of_getElem? (i := 335) (by decide +kernel))
  | 10, _, _ => exact Or.inl (List.mem_of_getElem? (i := 353) (by decide +kernel))
  | 11, _, _ => exact Or.inl (List.mem_of_getElem? (i := 373) (by decide +kernel))
  | 12, _, _ => exact Or.inl (List.mem_of_getElem? (i := 392) (by decide +kernel))
  | 13, _, _ => exact Or.inl (List.mem_of_getElem? (i := 412) (by decide +kernel))
  | 14, _, _ => exact Or.inl (List.mem_of_getElem? (i := 432) (by decide +kernel))
  | 15, _, _ => exact Or.inl (List.mem_of_getElem? (i := 455) (by decide +kernel))
  | 16, _, _ => exact Or.inl (List.mem_of_getElem? (i := 479) (by decide +kernel))
  | 17, _, _ => exact Or.inl (List.mem_of_getElem? (i := 503) (by decide +kernel))
  | 18, _, _ => exact Or.inl (List.mem_of_getElem? (i := 524) (by decide +kernel))
  | k + 19, h, _ => exact absurd h (by omega)
theorem pr_s6_5 : ∀ j, j < 19 → 5 ≠ j → Cond.not (Cond.eq (tmS 5) (tmS j)) ∈ prem ∨ Cond.not (Cond.eq (tmS j) (tmS 5)) ∈ prem := by
  intro j hj hij
  match j, hj, hij with
  | 0, _, _ => exact Or.inr (List.mem_of_getElem? (i := 272) (by decide +kernel))
  | 1, _, _ => exact Or.inr (List.mem_of_getElem? (i := 273) (by decide +kernel))
  | 2, _, _ => exact Or.inr (List.mem_of_getElem? (i := 274) (by decide +kernel))
  | 3, _, _ => exact Or.inr (List.mem_of_getElem? (i := 275) (by decide +kernel))
  | 4, _, _ => exact Or.inr (List.mem_of_getElem? (i := 276) (by decide +kernel))
  | 5, _, h => exact absurd rfl h
  | 6, _, _ => exact Or.inl (List.mem_of_getElem? (i := 291) (by decide +kernel))
  | 7, _, _ => exact Or.inl (List.mem_of_getElem? (i := 304) (by decide +kernel))
  | 8, _, _ => exact Or.inl (List.mem_of_getElem? (i := 320) (by decide +kernel))
  | 9, _, _ => exact Or.inl (List.mem_of_getElem? (i := 336) (by decide +kernel))
  | 10, _, _ => exact Or.inl (List.mem_of_getElem? (i := 354) (by decide +kernel))
  | 11, _, _ => exact Or.inl (List.mem_of_getElem? (i := 374) (by decide +kernel))
  | 12, _, _ => exact Or.inl (List.mem_of_getElem? (i := 393) (by decide +kernel))
  | 13, _, _ => exact Or.inl (List.mem_of_getElem? (i := 413) (by decide +kernel))
  | 14, _, _ => exact Or.inl (List.mem_of_getElem? (i := 433) (by decide +kernel))
  | 15, _, _ => exact Or.inl (List.mem_of_getElem? (i := 456) (by decide +kernel))
  | 16, _, _ => exact Or.inl (List.mem_of_getElem? (i := 480) (by decide +kernel))
  | 17, _, _ => exact Or.inl (List.mem_of_getElem? (i := 504) (by decide +kernel))
  | 18, _, _ => exact Or.inl (List.mem_of_getElem? (i := 525) (by decide +kernel))
  | k + 19, h, _ => exact absurd h (by omega)
theorem pr_s6_6 : ∀ j, j < 19 → 6 ≠ j → Cond.not (Cond.eq (tmS 6) (tmS j)) ∈ prem ∨ Cond.not (Cond.eq (tmS j) (tmS 6)) ∈ prem := by
  intro j hj hij
  match j, hj, hij with
  | 0, _, _ => exact Or.inr (List.mem_of_getElem? (i := 286) (by decide +kernel))
  | 1, _, _ => exact Or.inr (List.mem_of_getElem? (i := 287) (by decide +kernel))
  | 2, _, _ => exact Or.inr (List.mem_of_getElem? (i := 288) (by decide +kernel))
  | 3, _, _ => exact Or.inr (List.mem_of_getElem? (i := 289) (by decide +kernel))
  | 4, _, _ => exact Or.inr (List.mem_of_getElem? (i := 290) (by decide +kernel))
  | 5, _, _ => exact Or.inr (List.mem_of_getElem? (i := 291) (by decide +kernel))
  | 6, _, h => exact absurd rfl h
  | 7, _, _ => exact Or.inl (List.mem_of_getElem? (i := 305) (by decide +kernel))
  | 8, _, _ => exact Or.inl (List.mem_of_getElem? (i := 321) (by decide +kernel))
  | 9, _, _ => exact Or.inl (List.mem_of_getElem? (i := 337) (by decide +kernel))
  | 10, _, _ => exact Or.inl (List.mem_of_getElem? (i := 355) (by decide +kernel))
  | 11, _, _ => exact Or.inl (List.mem_of_getElem? (i := 375) (by decide +kernel))
  | 12, _, _ => exact Or.inl (List.mem_of_getElem? (i := 394) (by decide +kernel))
  | 13, _, _ => exact Or.inl (List.mem_of_getElem? (i := 414) (by decide +kernel))
  | 14, _, _ => exact Or.inl (List.mem_of_getElem? (i := 434) (by decide +kernel))
  | 15, _, _ => exact Or.inl (List.mem_of_getElem? (i := 457) (by decide +kernel))
  | 16, _, _ => exact Or.inl (List.mem_of_getElem? (i := 481) (by decide +kernel))
  | 17, _, _ => exact Or.inl (List.mem_of_getElem? (i := 505) (by decide +kernel))
  | 18, _, _ => exact Or.inl (List.mem_of_getElem? (i := 526) (by decide +kernel))
  | k + 19, h, _ => exact absurd h (by omega)
theorem pr_s6_7 : ∀ j, j < 19 → 7 ≠ j → Cond.not (Cond.eq (tmS 7) (tmS j)) ∈ prem ∨ Cond.not (Cond.eq (tmS j) (tmS 7)) ∈ prem := by
  intro j hj hij
  match j, hj, hij with
  | 0, _, _ => exact Or.inr (List.mem_of_getElem? (i := 299) (by decide +kernel))
  | 1, _, _ => exact Or.inr (List.mem_of_getElem? (i := 300) (by decide +kernel))
  | 2, _, _ => exact Or.inr (List.mem_of_getElem? (i := 301) (by decide +kernel))
  | 3, _, _ => exact Or.inr (List.mem_of_getElem? (i := 302) (by decide +kernel))
  | 4, _, _ => exact Or.inr (List.mem_of_getElem? (i := 303) (by decide +kernel))
  | 5, _, _ => exact Or.inr (List.mem_of_getElem? (i := 304) (by decide +kernel))
  | 6, _, _ => exact Or.inr (List.mem_of_getElem? (i := 305) (by decide +kernel))
  | 7, _, h => exact absurd rfl h
  | 8, _, _ => exact Or.inl (List.mem_of_getElem? (i := 322) (by decide +kernel))
  | 9, _, _ => exact Or.inl (List.mem_of_getElem? (i := 338) (by decide +kernel))
  | 10, _, _ => exact Or.inl (List.mem_of_getElem? (i := 356) (by decide +kernel))
  | 11, _, _ => exact Or.inl (List.mem_of_getElem? (i := 376) (by decide +kernel))
  | 12, _, _ => exact Or.inl (List.mem_of_getElem? (i := 395) (by decide +kernel))
  | 13, _, _ => exact Or.inl (List.mem_of_getElem? (i := 415) (by decide +kernel))
  | 14, _, _ => exact Or.inl (List.mem_of_getElem? (i := 435) (by decide +kernel))
  | 15, _, _ => exact Or.inl (List.mem_of_getElem? (i := 458) (by decide +kernel))
  | 16, _, _ => exact Or.inl (List.mem_of_getElem? (i := 482) (by decide +kernel))
  | 17, _, _ => exact Or.inl (List.mem_of_getElem? (i := 506) (by decide +kernel))
  | 18, _, _ => exact Or.inl (List.mem_of_getElem? (i := 527) (by decide +kernel))
  | k + 19, h, _ => exact absurd h (by omega)
theorem pr_s6_8 : ∀ j, j < 19 → 8 ≠ j → Cond.not (Cond.eq (tmS 8) (tmS j)) ∈ prem ∨ Cond.not (Cond.eq (tmS j) (tmS 8)) ∈ prem := by
  intro j hj hij
  match j, hj, hij with
  | 0, _, _ => exact Or.inr (List.mem_of_getElem? (i := 315) (by decide +kernel))
  | 1, _, _ => exact Or.inr (List.mem_of_getElem? (i := 316) (by decide +kernel))
  | 2, _, _ => exact Or.inr (List.mem_of_getElem? (i := 317) (by decide +kernel))
  | 3, _, _ => exact Or.inr (List.mem_of_getElem? (i := 318) (by decide +kernel))
  | 4, _, _ => exact Or.inr (List.mem_of_getElem? (i := 319) (by decide +kernel))
  | 5, _, _ => exact Or.inr (List.mem_of_getElem? (i := 320) (by decide +kernel))
  | 6, _, _ => exact Or.inr (List.mem_of_getElem? (i := 321) (by decide +kernel))
  | 7, _, _ => exact Or.inr (List.mem_of_getElem? (i := 322) (by decide +kernel))
  | 8, _, h => exact absurd rfl h
  | 9, _, _ => exact Or.inl (List.mem_of_getElem? (i := 339) (by decide +kernel))
  | 10, _, _ => exact Or.inl (List.mem_of_getElem? (i := 357) (by decide +kernel))
  | 11, _, _ => exact Or.inl (List.mem_of_getElem? (i := 377) (by decide +kernel))
  | 12, _, _ => exact Or.inl (List.mem_of_getElem? (i := 396) (by decide +kernel))
  | 13, _, _ => exact Or.inl (List.mem_of_getElem? (i := 416) (by decide +kernel))
  | 14, _, _ => exact Or.inl (List.mem_of_getElem? (i := 436) (by decide +kernel))
  | 15, _, _ => exact Or.inl (List.mem_of_getElem? (i := 459) (by decide +kernel))
  | 16, _, _ => exact Or.inl (List.mem_of_getElem? (i := 483) (by decide +kernel))
  | 17, _, _ => exact Or.inl (List.mem_of_getElem? (i := 507) (by decide +kernel))
  | 18, _, _ => exact Or.inl (List.mem_of_getElem? (i := 528) (by decide +kernel))
  | k + 19, h, _ => exact absurd h (by omega)
theorem pr_s6_9 : ∀ j, j < 19 → 9 ≠ j → Cond.not (Cond.eq (tmS 9) (tmS j)) ∈ prem ∨ Cond.not (Cond.eq (tmS j) (tmS 9)) ∈ prem := by
  intro j hj hij
  match j, hj, hij with
  | 0, _, _ => exact Or.inr (List.mem_of_getElem? (i := 331) (by decide +kernel))
  | 1, _, _ => exact Or.inr (List.mem_of_getElem? (i := 332) (by decide +kernel))
  | 2, _, _ => exact Or.inr (List.mem_of_getElem? (i := 333) (by decide +kernel))
  | 3, _, _ => exact Or.inr (List.mem_of_getElem? (i := 334) (by decide +kernel))
  | 4, _, _ => exact Or.inr (List.mem_of_getElem? (i := 335) (by decide +kernel))
  | 5, _, _ => exact Or.inr (List.mem_of_getElem? (i := 336) (by decide +kernel))
  | 6, _, _ => exact Or.inr (List.mem_of_getElem? (i := 337) (by decide +kernel))
  | 7, _, _ => exact Or.inr (List.mem_of_getElem? (i := 338) (by decide +kernel))
  | 8, _, _ => exact Or.inr (List.mem_of_getElem? (i := 339) (by decide +kernel))
  | 9, _, h => exact absurd rfl h
  | 10, _, _ => exact Or.inl (List.mem_of_getElem? (i := 358) (by decide +kernel))
  | 11, _, _ => exact Or.inl (List.mem_of_getElem? (i := 378) (by decide +kernel))
  | 12, _, _ => exact Or.inl (List.mem_of_getElem? (i := 397) (by decide +kernel))
  | 13, _, _ => exact Or.inl (List.mem_of_getElem? (i := 417) (by decide +kernel))
  | 14, _, _ => exact Or.inl (List.mem_of_getElem? (i := 437) (by decide +kernel))
  | 15, _, _ => exact Or.inl (List.mem_of_getElem? (i := 460) (by decide +kernel))
  | 16, _, _ => exact Or.inl (List.mem_of_getElem? (i := 484) (by decide +kernel))
  | 17, _, _ => exact Or.inl (List.mem_of_getElem? (i := 508) (by decide +kernel))
  | 18, _, _ => exact Or.inl (List.mem_of_getElem? (i := 529) (by decide +kernel))
  | k + 19, h, _ => exact absurd h (by omega)
theorem pr_s6_10 : ∀ j, j < 19 → 10 ≠ j → Cond.not (Cond.eq (tmS 10) (tmS j)) ∈ prem ∨ Cond.not (Cond.eq (tmS j) (tmS 10)) ∈ prem := by
  intro j hj hij
  match j, hj, hij with
  | 0, _, _ => exact Or.inr (List.mem_of_getElem? (i := 349) (by decide +kernel))
  | 1, _, _ => exact Or.inr (List.mem_of_getElem? (i := 350) (by decide +kernel))
  | 2, _, _ => exact Or.inr (List.mem_of_getElem? (i := 351) (by decide +kernel))
  | 3, _, _ => exact Or.inr (List.mem_of_getElem? (i := 352) (by decide +kernel))
  | 4, _, _ => exact Or.inr (List.mem_of_getElem? (i := 353) (by decide +kernel))
  | 5, _, _ => exact Or.inr (List.mem_of_getElem? (i := 354) (by decide +kernel))
  | 6, _, _ => exact Or.inr (List.mem_of_getElem? (i := 355) (by decide +kernel))
  | 7, _, _ => exact Or.inr (List.mem_of_getElem? (i := 356) (by decide +kernel))
  | 8, _, _ => exact Or.inr (List.mem_of_getElem? (i := 357) (by decide +kernel))
  | 9, _, _ => exact Or.inr (List.mem_of_getElem? (i := 358) (by decide +kernel))
  | 10, _, h => exact absurd rfl h
  | 11, _, _ => exact Or.inl (List.mem_of_getElem? (i := 379) (by decide +kernel))
  | 12, _, _ => exact Or.inl (List.mem_of_getElem? (i := 398) (by decide +kernel))
  | 13, _, _ => exact Or.inl (List.mem_of_getElem? (i := 418) (by decide +kernel))
  | 14, _, _ => exact Or.inl (List.mem_of_getElem? (i := 438) (by decide +kernel))
  | 15, _, _ => exact Or.inl (List.mem_of_getElem? (i := 461) (by decide +kernel))
  | 16, _, _ => exact Or.inl (List.mem_of_getElem? (i := 485) (by decide +kernel))
  | 17, _, _ => exact Or.inl (List.mem_of_getElem? (i := 509) (by decide +kernel))
  | 18, _, _ => exact Or.inl (List.mem_of_getElem? (i := 530) (by decide +kernel))
  | k + 19, h, _ => exact absurd h (by omega)
theorem pr_s6_11 : ∀ j, j < 19 → 11 ≠ j → Cond.not (Cond.eq (tmS 11) (tmS j)) ∈ prem ∨ Cond.not (Cond.eq (tmS j) (tmS 11)) ∈ prem := by
  intro j hj hij
  match j, hj, hij with
  | 0, _, _ => exact Or.inr (List.mem_of_getElem? (i := 369) (by decide +kernel))
  | 1, _, _ => exact Or.inr (List.mem_of_getElem? (i := 370) (by decide +kernel))
  | 2, _, _ => exact Or.inr (List.mem_of_getElem? (i := 371) (by decide +kernel))
  | 3, _, _ => exact Or.inr (List.mem_of_getElem? (i := 372) (by decide +kernel))
  | 4, _, _ => exact Or.inr (List.mem_of_getElem? (i := 373) (by decide +kernel))
  | 5, _, _ => exact Or.inr (List.mem_of_getElem? (i := 374) (by decide +kernel))
  | 6, _, _ => exact Or.inr (List.mem_of_getElem? (i := 375) (by decide +kernel))
  | 7, _, _ => exact Or.inr (List.mem_of_getElem? (i := 376) (by decide +kernel))
  | 8, _, _ => exact Or.inr (List.mem_of_getElem? (i := 377) (by decide +kernel))
  | 9, _, _ => exact Or.inr (List.mem_of_getElem? (i := 378) (by decide +kernel))
  | 10, _, _ => exact Or.inr (List.mem_of_getElem? (i := 379) (by decide +kernel))
  | 11, _, h => exact absurd rfl h
  | 12, _, _ => exact Or.inl (List.mem_of_getElem? (i := 399) (by decide +kernel))
  | 13, _, _ => exact Or.inl (List.mem_of_getElem? (i := 419) (by decide +kernel))
  | 14, _, _ => exact Or.inl (List.mem_of_getElem? (i := 439) (by decide +kernel))
  | 15, _, _ => exact Or.inl (List.mem_of_getElem? (i := 462) (by decide +kernel))
  | 16, _, _ => exact Or.inl (List.mem_of_getElem? (i := 486) (by decide +kernel))
  | 17, _, _ => exact Or.inl (List.mem_of_getElem? (i := 510) (by decide +kernel))
  | 18, _, _ => exact Or.inl (List.mem_of_getElem? (i := 531) (by decide +kernel))
  | k + 19, h, _ => exact absurd h (by omega)
theorem pr_s6_12 : ∀ j, j < 19 → 12 ≠ j → Cond.not (Cond.eq (tmS 12) (tmS j)) ∈ prem ∨ Cond.not (Cond.eq (tmS j) (tmS 12)) ∈ prem := by
  intro j hj hij
  match j, hj, hij with
  | 0, _, _ => exact Or.inr (List.mem_of_getElem? (i := 388) (by decide +kernel))
  | 1, _, _ => exact Or.inr (List.mem_of_getElem? (i := 389) (by decide +kernel))
  | 2, _, _ => exact Or.inr (List.mem_of_getElem? (i := 390) (by decide +kernel))
  | 3, _, _ => exact Or.inr (List.mem_of_getElem? (i := 391) (by decide +kernel))
  | 4, _, _ => exact Or.inr (List.mem_of_getElem? (i := 392) (by decide +kernel))
  | 5, _, _ => exact Or.inr (List.mem_of_getElem? (i := 393) (by decide +kernel))
  | 6, _, _ => exact Or.inr (List.mem_of_getElem? (i := 394) (by decide +kernel))
  | 7, _, _ => exact Or.inr (List.mem_of_getElem? (i := 395) (by decide +kernel))
  | 8, _, _ => exact Or.inr (List.mem_of_getElem? (i := 396) (by decide +kernel))
  | 9, _, _ => exact Or.inr (List.mem_of_getElem? (i := 397) (by decide +kernel))
  | 10, _, _ => exact Or.inr (List.mem_of_getElem? (i := 398) (by decide +kernel))
  | 11, _, _ => exact Or.inr (List.mem_of_getElem? (i := 399) (by decide +kernel))
  | 12, _, h => exact absurd rfl h
  | 13, _, _ => exact Or.inl (List.mem_of_getElem? (i := 420) (by decide +kernel))
  | 14, _, _ => exact Or.inl (List.mem_of_getElem? (i := 440) (by decide +kernel))
  | 15, _, _ => exact Or.inl (List.mem_of_getElem? (i := 463) (by decide +kernel))
  | 16, _, _ => exact Or.inl (List.mem_of_getElem? (i := 487) (by decide +kernel))
  | 17, _, _ => exact Or.inl (List.mem_of_getElem? (i := 511) (by decide +kernel))
  | 18, _, _ => exact Or.inl (List.mem_of_getElem? (i := 532) (by decide +kernel))
  | k + 19, h, _ => exact absurd h (by omega)
theorem pr_s6_13 : ∀ j, j < 19 → 13 ≠ j → Cond.not (Cond.eq (tmS 13) (tmS j)) ∈ prem ∨ Cond.not (Cond.eq (tmS j) (tmS 13)) ∈ prem := by
  intro j hj hij
  match j, hj, hij with
  | 0, _, _ => exact Or.inr (List.mem_of_getElem? (i := 408) (by decide +kernel))
  | 1, _, _ => exact Or.inr (List.mem_of_getElem? (i := 409) (by decide +kernel))
  | 2, _, _ => exact Or.inr (List.mem_of_getElem? (i := 410) (by decide +kernel))
  | 3, _, _ => exact Or.inr (List.mem_of_getElem? (i := 411) (by decide +kernel))
  | 4, _, _ => exact Or.inr (List.mem_of_getElem? (i := 412) (by decide +kernel))
  | 5, _, _ => exact Or.inr (List.mem_of_getElem? (i := 413) (by decide +kernel))
  | 6, _, _ => exact Or.inr (List.mem_of_getElem? (i := 414) (by decide +kernel))
  | 7, _, _ => exact Or.inr (List.mem_of_getElem? (i := 415) (by decide +kernel))
  | 8, _, _ => exact Or.inr (List.mem_of_getElem? (i := 416) (by decide +kernel))
  | 9, _, _ => exact Or.inr (List.mem_of_getElem? (i := 417) (by decide +kernel))
  | 10, _, _ => exact Or.inr (List.mem_of_getElem? (i := 418) (by decide +kernel))
  | 11, _, _ => exact Or.inr (List.mem_of_getElem? (i := 419) (by decide +kernel))
  | 12, _, _ => exact Or.inr (List.mem_of_getElem? (i := 420) (by decide +kernel))
  | 13, _, h => exact absurd rfl h
  | 14, _, _ => exact Or.inl (List.mem_of_getElem? (i := 441) (by decide +kernel))
  | 15, _, _ => exact Or.inl (List.mem_of_getElem? (i := 464) (by decide +kernel))
  | 16, _, _ => exact Or.inl (List.mem_of_getElem? (i := 488) (by decide +kernel))
  | 17, _, _ => exact Or.inl (List.mem_of_getElem? (i := 512) (by decide +kernel))
  | 18, _, _ => exact Or.inl (List.mem_of_getElem? (i := 533) (by decide +kernel))
  | k + 19, h, _ => exact absurd h (by omega)
theorem pr_s6_14 : ∀ j, j < 19 → 14 ≠ j → Cond.not (Cond.eq (tmS 14) (tmS j)) ∈ prem ∨ Cond.not (Cond.eq (tmS j) (tmS 14)) ∈ prem := by
  intro j hj hij
  match j, hj, hij with
  | 0, _, _ => exact Or.inr (List.mem_of_getElem? (i := 428) (by decide +kernel))
  | 1, _, _ => exact Or.inr (List.mem_of_getElem? (i := 429) (by decide +kernel))
  | 2, _, _ => exact Or.inr (List.mem_of_getElem? (i := 430) (by decide +kernel))
  | 3, _, _ => exact Or.inr (List.mem_of_getElem? (i := 431) (by decide +kernel))
  | 4, _, _ => exact Or.inr (List.mem_of_getElem? (i := 432) (by decide +kernel))
  | 5, _, _ => exact Or.inr (List.mem_of_getElem? (i := 433) (by decide +kernel))
  | 6, _, _ => exact Or.inr (List.mem_of_getElem? (i := 434) (by decide +kernel))
  | 7, _, _ => exact Or.inr (List.mem_of_getElem? (i := 435) (by decide +kernel))
  | 8, _, _ => exact Or.inr (List.mem_of_getElem? (i := 436) (by decide +kernel))
  | 9, _, _ => exact Or.inr (List.mem_of_getElem? (i := 437) (by decide +kernel))
  | 10, _, _ => exact Or.inr (List.mem_of_getElem? (i := 438) (by decide +kernel))
  | 11, _, _ => exact Or.inr (List.mem_of_getElem? (i := 439) (by decide +kernel))
  | 12, _, _ => exact Or.inr (List.mem_of_getElem? (i := 440) (by decide +kernel))
  | 13, _, _ => exact Or.inr (List.mem_of_getElem? (i := 441) (by decide +kernel))
  | 14, _, h => exact absurd rfl h
  | 15, _, _ => exact Or.inl (List.mem_of_getElem? (i := 465) (by decide +kernel))
  | 16, _, _ => exact Or.inl (List.mem_of_getElem? (i := 489) (by decide +kernel))
  | 17, _, _ => exact Or.inl (List.mem_of_getElem? (i := 513) (by decide +kernel))
  | 18, _, _ => exact Or.inl (List.mem_of_getElem? (i := 534) (by decide +kernel))
  | k + 19, h, _ => exact absurd h (by omega)
theorem pr_s6_15 : ∀ j, j < 19 → 15 ≠ j → Cond.not (Cond.eq (tmS 15) (tmS j)) ∈ prem ∨ Cond.not (Cond.eq (tmS j) (tmS 15)) ∈ prem := by
  intro j hj hij
  match j, hj, hij with
  | 0, _, _ => exact Or.inr (List.mem_of_getElem? (i := 451) (by decide +kernel))
  | 1, _, _ => exact Or.inr (List.mem_of_getElem? (i := 452) (by decide +kernel))
  | 2, _, _ => exact Or.inr (List.mem_of_getElem? (i := 453) (by decide +kernel))
  | 3, _, _ => exact Or.inr (List.mem_of_getElem? (i := 454) (by decide +kernel))
  | 4, _, _ => exact Or.inr (List.mem_of_getElem? (i := 455) (by decide +kernel))
  | 5, _, _ => exact Or.inr (List.mem_of_getElem? (i := 456) (by decide +kernel))
  | 6, _, _ => exact Or.inr (List.mem_of_getElem? (i := 457) (by decide +kernel))
  | 7, _, _ => exact Or.inr (List.mem_of_getElem? (i := 458) (by decide +kernel))
  | 8, _, _ => exact Or.inr (List.mem_of_getElem? (i := 459) (by decide +kernel))
  | 9, _, _ => exact Or.inr (List.mem_of_getElem? (i := 460) (by decide +kernel))
  | 10, _, _ => exact Or.inr (List.mem_of_getElem? (i := 461) (by decide +kernel))
  | 11, _, _ => exact Or.inr (List.mem_of_getElem? (i := 462) (by decide +kernel))
  | 12, _, _ => exact Or.inr (List.mem_of_getElem? (i := 463) (by decide +kernel))
  | 13, _, _ => exact Or.inr (List.mem_of_getElem? (i := 464) (by decide +kernel))
  | 14, _, _ => exact Or.inr (List.mem_of_getElem? (i := 465) (by decide +kernel))
  | 15, _, h => exact absurd rfl h
  | 16, _, _ => exact Or.inl (List.mem_of_getElem? (i := 490) (by decide +kernel))
  | 17, _, _ => exact Or.inl (List.mem_of_getElem? (i := 514) (by decide +kernel))
  | 18, _, _ => exact Or.inl (List.mem_of_getElem? (i := 535) (by decide +kernel))
  | k + 19, h, _ => exact absurd h (by omega)
theorem pr_s6_16 : ∀ j, j < 19 → 16 ≠ j → Cond.not (Cond.eq (tmS 16) (tmS j)) ∈ prem ∨ Cond.not (Cond.eq (tmS j) (tmS 16)) ∈ prem := by
  intro j hj hij
  match j, hj, hij with
  | 0, _, _ => exact Or.inr (List.mem_of_getElem? (i := 475) (by decide +kernel))
  | 1, _, _ => exact Or.inr (List.mem_of_getElem? (i := 476) (by decide +kernel))
  | 2, _, _ => exact Or.inr (List.mem_of_getElem? (i := 477) (by decide +kernel))
  | 3, _, _ => exact Or.inr (List.mem_of_getElem? (i := 478) (by decide +kernel))
  | 4, _, _ => exact Or.inr (List.mem_of_getElem? (i := 479) (by decide +kernel))
  | 5, _, _ => exact Or.inr (List.mem_of_getElem? (i := 480) (by decide +kernel))
  | 6, _, _ => exact Or.inr (List.mem_of_getElem? (i := 481) (by decide +kernel))
  | 7, _, _ => exact Or.inr (List.mem_of_getElem? (i := 482) (by decide +kernel))
  | 8, _, _ => exact Or.inr (List.mem_of_getElem? (i := 483) (by decide +kernel))
  | 9, _, _ => exact Or.inr (List.mem_of_getElem? (i := 484) (by decide +kernel))
  | 10, _, _ => exact Or.inr (List.mem_of_getElem? (i := 485) (by decide +kernel))
  | 11, _, _ => exact Or.inr (List.mem_of_getElem? (i := 486) (by decide +kernel))
  | 12, _, _ => exact Or.inr (List.mem_of_getElem? (i := 487) (by decide +kernel))
  | 13, _, _ => exact Or.inr (List.mem_of_getElem? (i := 488) (by decide +kernel))
  | 14, _, _ => exact Or.inr (List.mem_of_getElem? (i := 489) (by decide +kernel))
  | 15, _, _ => exact Or.inr (List.mem_of_getElem? (i := 490) (by decide +kernel))
  | 16, _, h => exact absurd rfl h
  | 17, _, _ => exact Or.inl (List.mem_of_getElem? (i := 515) (by decide +kernel))
  | 18, _, _ => exact Or.inl (List.mem_of_getElem? (i := 536) (by decide +kernel))
  | k + 19, h, _ => exact absurd h (by omega)
theorem pr_s6_17 : ∀ j, j < 19 → 17 ≠ j → Cond.not (Cond.eq (tmS 17) (tmS j)) ∈ prem ∨ Cond.not (Cond.eq (tmS j) (tmS 17)) ∈ prem := by
  intro j hj hij
  match j, hj, hij with
  | 0, _, _ => exact Or.inr (List.mem_of_getElem? (i := 499) (by decide +kernel))
  | 1, _, _ => exact Or.inr (List.mem_of_getElem? (i := 500) (by decide +kernel))
  | 2, _, _ => exact Or.inr (List.mem_of_getElem? (i := 501) (by decide +kernel))
  | 3, _, _ => exact Or.inr (List.mem_of_getElem? (i := 502) (by decide +kernel))
  | 4, _, _ => exact Or.inr (List.mem_of_getElem? (i := 503) (by decide +kernel))
  | 5, _, _ => exact Or.inr (List.mem_of_getElem? (i := 504) (by decide +kernel))
  | 6, _, _ => exact Or.inr (List.mem_of_getElem? (i := 505) (by decide +kernel))
  | 7, _, _ => exact Or.inr (List.mem_of_getElem? (i := 506) (by decide +kernel))
  | 8, _, _ => exact Or.inr (List.mem_of_getElem? (i := 507) (by decide +kernel))
  | 9, _, _ => exact Or.inr (List.mem_of_getElem? (i := 508) (by decide +kernel))
  | 10, _, _ => exact Or.inr (List.mem_of_getElem? (i := 509) (by decide +kernel))
  | 11, _, _ => exact Or.inr (List.mem_of_getElem? (i := 510) (by decide +kernel))
  | 12, _, _ => exact Or.inr (List.mem_of_getElem? (i := 511) (by decide +kernel))
  | 13, _, _ => exact Or.inr (List.mem_of_getElem? (i := 512) (by decide +kernel))
  | 14, _, _ => exact Or.inr (List.mem_of_getElem? (i := 513) (by decide +kernel))
  | 15, _, _ => exact Or.inr (List.mem_of_getElem? (i := 514) (by decide +kernel))
  | 16, _, _ => exact Or.inr (List.mem_of_getElem? (i := 515) (by decide +kernel))
  | 17, _, h => exact absurd rfl h
  | 18, _, _ => exact Or.inl (List.mem_of_getElem? (i := 537) (by decide +kernel))
  | k + 19, h, _ => exact absurd h (by omega)
theorem pr_s6_18 : ∀ j, j < 19 → 18 ≠ j → Cond.not (Cond.eq (tmS 18) (tmS j)) ∈ prem ∨ Cond.not (Cond.eq (tmS j) (tmS 18)) ∈ prem := by
  intro j hj hij
  match j, hj, hij with
  | 0, _, _ => exact Or.inr (List.mem_of_getElem? (i := 520) (by decide +kernel))
  | 1, _, _ => exact Or.inr (List.mem_of_getElem? (i := 521) (by decide +kernel))
  | 2, _, _ => exact Or.inr (List.mem_of_getElem? (i := 522) (by decide +kernel))
  | 3, _, _ => exact Or.inr (List.mem_of_getElem? (i := 523) (by decide +kernel))
  | 4, _, _ => exact Or.inr (List.mem_of_getElem? (i := 524) (by decide +kernel))
  | 5, _, _ => exact Or.inr (List.mem_of_getElem? (i := 525) (by decide +kernel))
  | 6, _, _ => exact Or.inr (List.mem_of_getElem? (i := 526) (by decide +kernel))
  | 7, _, _ => exact Or.inr (List.mem_of_getElem? (i := 527) (by decide +kernel))
  | 8, _, _ => exact Or.inr (List.mem_of_getElem? (i := 528) (by decide +kernel))
  | 9, _, _ => exact Or.inr (List.mem_of_getElem? (i := 529) (by decide +kernel))
  | 10, _, _ => exact Or.inr (List.mem_of_getElem? (i := 530) (by decide +kernel))
  | 11, _, _ => exact Or.inr (List.mem_of_getElem? (i := 531) (by decide +kernel))
  | 12, _, _ => exact Or.inr (List.mem_of_getElem? (i := 532) (by decide +kernel))
  | 13, _, _ => exact Or.inr (List.mem_of_getElem? (i := 533) (by decide +kernel))
  | 14, _, _ => exact Or.inr (List.mem_of_getElem? (i := 534) (by decide +kernel))
  | 15, _, _ => exact Or.inr (List.mem_of_getElem? (i := 535) (by decide +kernel))
  | 16, _, _ => exact Or.inr (List.mem_of_getElem? (i := 536) (by decide +kernel))
  | 17, _, _ => exact Or.inr (List.mem_of_getElem? (i := 537) (by decide +kernel))
  | 18, _, h => exact absurd rfl h
  | k + 19, h, _ => exact absurd h (by omega)
theorem pr_s6 : ∀ i, i < 19 → ∀ j, j < 19 → i ≠ j → Cond.not (Cond.eq (tmS i) (tmS j)) ∈ prem ∨ Cond.not (Cond.eq (tmS j) (tmS i)) ∈ prem := by
  intro i hi
  match i, hi with
  | 0, _ => exact pr_s6_0
  | 1, _ => exact pr_s6_1
  | 2, _ => exact pr_s6_2
  | 3, _ => exact pr_s6_3
  | 4, _ => exact pr_s6_4
  | 5, _ => exact pr_s6_5
  | 6, _ => exact pr_s6_6
  | 7, _ => exact pr_s6_7
  | 8, _ => exact pr_s6_8
  | 9, _ => exact pr_s6_9
  | 10, _ => exact pr_s6_10
  | 11, _ => exact pr_s6_11
  | 12, _ => exact pr_s6_12
  | 13, _ => exact pr_s6_13
  | 14, _ => exact pr_s6_14
  | 15, _ => exact pr_s6_15
  | 16, _ => exact pr_s6_16
  | 17, _ => exact pr_s6_17
  | 18, _ => exact pr_s6_18
  | k + 19, h => exact absurd h (by omega)
theorem tb_s : ∀ i, i < 19 → Cond.stringRef RX3 (sIx.getD i 0) (sTx.getD i "") ∈ tables_1 := by decide +kernel
theorem tb_z : ∀ k, k < 4 → Cond.laysStatic RX3 (sNm k) "[I" ∈ tables_1 := by decide +kernel
theorem tb_c : Cond.laysStatic RJ0 "COMPACT_STRINGS" "Z" ∈ tables_1 ∧ Cond.laysStatic RJ3 "SIOOBE_FORMATTER" "Ljava/util/function/BiFunction;" ∈ tables_1 := by decide +kernel
theorem tb_a : ∀ C ∈ [RX0, RX1, RX4, RX6, RX7], Cond.arrayOver (.object C) ∈ tables_1 := by decide +kernel
theorem arr_of {args : Array Value} {s : State} {t : FieldType} (hr : ∀ C, t ≠ .object C) (h : (Cond.arrayClass t).before args s = true) : ∃ c : ClassId, ArrOfT s c t ∧ va_RA s c t := by
  obtain ⟨c, k, comp, h1, h2, h3⟩ := Cond.arrayClass_spec h
  refine ⟨c, fun n z => ⟨fun k h => (by cases h), k, h2, comp, h3⟩, ?_⟩
  cases t with
  | object C => exact absurd rfl (hr C)
  | _ => exact h1
theorem arr_ofR {args : Array Value} {s : State} {C : String} (h : (Cond.arrayOver (.object C)).before args s = true) : ∃ c : ClassId, ArrOfT s c (.object C) ∧ va_RA s c (.object C) := by
  obtain ⟨comp, c, k, h1, -, h3, h4, h5⟩ := Cond.arrayOver_spec h
  exact ⟨c, fun n z => ⟨fun k h => (by cases h), k, h3, comp, h4⟩, k, comp, h3, h4, h1, h5⟩
set_option maxHeartbeats 4000000 in
set_option maxRecDepth 100000 in
theorem amb_start {s : State} {args : Array Value} {sb : Nat} (hts : ∀ w ∈ lw_tbl, w.before args s = true) (hgv : (Jvm.Cond.and given_1 narrow_1).before args s = true) : ∃ G : GG, Amb G s.heap.size s ∧ G.2.2.2.1 50 = sb := by
  have hp : ∀ c ∈ prem, c.before args s = true := flat_of_before _ hgv
  have ht : ∀ w ∈ tables_1, w.before args s = true := fun w h => hts w (List.mem_append_right _ h)
  have hg : ∀ w ∈ GT, w.before args s = true := fun w h => hts w (GT_lw h)
  have hA : ∀ a : Nat, a < s.heap.size → ¬ AA s.heap.size a := fun a h => Nat.not_le.mpr h
  obtain ⟨c0, i0, k0⟩ := u_known (C := RX0) (T := TX0) (N := 3) (n := 3) hg inX0 (hg _ tw122)
  obtain ⟨c1, i1, k1⟩ := u_known (C := RX1) (T := TX1) (N := 5) (n := 5) hg inX1 (hg _ tw143)
  obtain ⟨c2, i2, k2⟩ := u_known (C := RX2) (T := TX2) (N := 5) (n := 5) hg inX2 (hg _ tw398)
  obtain ⟨c3, i3, k3⟩ := u_known (C := RX3) (T := TX3) (N := 16) (n := 16) hg inX3 (hg _ tw241)
  obtain ⟨c4, i4, k4⟩ := u_known (C := RX4) (T := TX4) (N := 4) (n := 4) hg inX4 (hg _ tw175)
  obtain ⟨c5, i5, k5⟩ := u_known (C := RX5) (T := TX5) (N := 2) (n := 2) hg inX5 (hg _ tw385)
  obtain ⟨c6, i6, k6⟩ := u_known (C := RX6) (T := TX6) (N := 9) (n := 9) hg inX6 (hg _ tw29)
  obtain ⟨c7, i7, k7⟩ := u_known (C := RX7) (T := TX7) (N := 10) (n := 10) hg inX7 (hg _ tw42)
  obtain ⟨c8, i8, k8⟩ := u_known (C := RX9) (T := TX9) (N := 17) (n := 17) hg inX9 (hg _ tw310)
  obtain ⟨c9, i9, k9⟩ := u_known (C := RX10) (T := TX10) (N := 6) (n := 6) hg inX10 (hg _ tw21)
  obtain ⟨cm, im, km⟩ := u_known (C := RX11) (T := TX11) (N := 51) (n := 51) hg inX11 (hg _ tw1188)
  obtain ⟨r11, r11a⟩ := arr_of (fun C h => by cases h) (hg _ tw120)
  obtain ⟨r12, r12a⟩ := arr_of (fun C h => by cases h) (hg _ tw121)
  obtain ⟨r13, r13a⟩ := arr_of (fun C h => by cases h) (hg _ tw1347)
  obtain ⟨r14, r14a⟩ := arr_ofR (ht _ (tb_a RX0 (by simp)))
  obtain ⟨r15, r15a⟩ := arr_ofR (ht _ (tb_a RX1 (by simp)))
  obtain ⟨r16, r16a⟩ := arr_ofR (ht _ (tb_a RX4 (by simp)))
  obtain ⟨r17, r17a⟩ := arr_ofR (ht _ (tb_a RX6 (by simp)))
  obtain ⟨r18, r18a⟩ := arr_ofR (ht _ (tb_a RX7 (by simp)))
  have hst : ∀ k : Nat, ∃ t : Nat, k < 4 → (Term.static RX3 (sNm k) "[I").eval args s none [] s = some (.ref t) ∧ va_T .int t (sTab k).length (fun j => .int (Int32.ofInt ((sTab k).getD j 0))) (AA s.heap.size) s s.heap := by
    intro k
    by_cases hk : k < 4
    · have hN : (sTab k).length < 2 ^ 31 := by
        rcases (show k = 0 ∨ k = 1 ∨ k = 2 ∨ k = 3 by omega) with rfl | rfl | rfl | rfl <;> decide
      obtain ⟨t, h1, h2⟩ := va_Tof (f := fun j => .int (Int32.ofInt ((sTab k).getD j 0))) (A := AA s.heap.size) hN (hp _ (pr_arr k hk)) (va_eqt (hp _ (pr_len k hk))) (fun j hj => va_eqt (hp _ (by
        have h := List.all_eq_true.mp (List.all_eq_true.mp pr_el k (List.mem_range.mpr hk)) j (List.mem_range.mpr hj)
        simpa using h))) hA
      exact ⟨t, fun _ => ⟨h1, h2⟩⟩
    · exact ⟨0, fun h => absurd h hk⟩
  obtain ⟨tS, htS⟩ := Classical.axiomOfChoice hst
  obtain ⟨adK, adV, hS1, hS2⟩ := vk_Sof (args := args) (s := s) (N := 19) (tm := tmS) (len := sLen) (byt := sByt) (A := AA s.heap.size) (fun i hi => by have := sLen_in i hi; omega) (fun i hi => hp _ (pr_s1 i hi)) (fun i hi => hp _ (pr_s2 i hi)) (fun i hi => hp _ (pr_s3 i hi)) (fun i hi => hp _ (pr_s4 i hi))
    (fun i hi j hj => hp _ (pr_s5 i hi j hj))
    (fun i j hi hj hij => (pr_s6 i hi j hj hij).elim (fun h => Or.inl (hp _ h)) (fun h => Or.inr (hp _ h))) hA
  refine ⟨(fun k => match k with | 0 => c0 | 1 => c1 | 2 => c2 | 3 => c3 | 4 => c4 | 5 => c5 | 6 => c6 | 7 => c7 | 8 => c8 | 9 => c9 | _ => cm,
    fun k => match k with | 0 => i0 | 1 => i1 | 2 => i2 | 3 => i3 | 4 => i4 | 5 => i5 | 6 => i6 | 7 => i7 | 8 => i8 | 9 => i9 | _ => im,
    fun k => match k with | 11 => r11 | 12 => r12 | 13 => r13 | 14 => r14 | 15 => r15 | 16 => r16 | 17 => r17 | _ => r18,
    fun k => if k < 4 then tS k else if k < 23 then adK (k - 4) else if k < 42 then adV (k - 23) else sb, fun _ => 0), ⟨⟨?_, ?_⟩, ?_, ?_, ?_, ?_, ?_, ?_, ?_⟩, rfl⟩
  · intro k q hq
    match k, hq with
    | 0, hq => cases hq; exact k0
    | 1, hq => cases hq; exact k1
    | 2, hq => cases hq; exact k2
    | 3, hq => cases hq; exact k3
    | 4, hq => cases hq; exact k4
    | 5, hq => cases hq; exact k5
    | 6, hq => cases hq; exact k6
    | 7, hq => cases hq; exact k7
    | 8, hq => cases hq; exact k8
    | 9, hq => cases hq; exact k9
    | 10, hq => cases hq; exact km
    | k + 11, hq => simp [vwCl] at hq
  · intro k q hq
    match k, hq with
    | 0, hq => cases hq; exact r11a
    | 1, hq => cases hq; exact r12a
    | 2, hq => cases hq; exact r13a
    | 3, hq => cases hq; exact r14a
    | 4, hq => cases hq; exact r15a
    | 5, hq => cases hq; exact r16a
    | 6, hq => cases hq; exact r17a
    | 7, hq => cases hq; exact r18a
    | k + 8, hq => simp [tysG] at hq
  · intro q hq
    have h := List.all_eq_true.mp NW_in q hq
    exact va_Nw.of rfl (ht _ (by simpa using h))
  · intro k hk
    have h := htS k hk
    show va_Z _ _ _ (.ref (if k < 4 then tS k else _)) _ _ _ ∧ va_T _ (if k < 4 then tS k else _) _ _ _ _ _
    rw [if_pos hk]
    exact ⟨va_Zof (ht _ (tb_z k hk)) (hg _ tw7) h.1 hA, h.2⟩
  · exact va_Zof (ht _ tb_c.1) (hg _ tw13) (va_eqt (hp _ pr_cs)) hA
  · exact va_Zqof (ht _ tb_c.2) (hg _ tw15) (hp _ pr_fm) hA
  · show vk_S 19 sLen sByt (fun i => if 4 + i < 4 then tS (4 + i) else if 4 + i < 23 then adK (4 + i - 4) else if 4 + i < 42 then adV (4 + i - 23) else sb) (fun i => if 23 + i < 4 then tS (23 + i) else if 23 + i < 23 then adK (23 + i - 4) else if 23 + i < 42 then adV (23 + i - 23) else sb) _ _ _
    obtain ⟨g1, g2⟩ := hS1
    have e1 : ∀ i, i < 19 → (if 4 + i < 4 then tS (4 + i) else if 4 + i < 23 then adK (4 + i - 4) else if 4 + i < 42 then adV (4 + i - 23) else sb) = adK i := fun i hi => by
      rw [if_neg (by omega), if_pos (by omega), show 4 + i - 4 = i by omega]
    have e2 : ∀ i, i < 19 → (if 23 + i < 4 then tS (23 + i) else if 23 + i < 23 then adK (23 + i - 4) else if 23 + i < 42 then adV (23 + i - 23) else sb) = adV i := fun i hi => by
      rw [if_neg (by omega), if_neg (by omega), if_pos (by omega), show 23 + i - 23 = i by omega]
    refine ⟨fun i hi => ?_, fun i j hi hj h => g2 i j hi hj (by simp only [e1 i hi, e1 j hj] at h; exact h)⟩
    simp only [e1 i hi, e2 i hi]
    exact g1 i hi
  · intro i hi
    show vk_R _ _ _ (if 4 + i < 4 then tS (4 + i) else if 4 + i < 23 then adK (4 + i - 4) else _) _
    rw [if_neg (by omega), if_pos (by omega), show 4 + i - 4 = i by omega]
    exact vk_R.of (ht _ (tb_s i hi)) (hS2 i hi)
  · exact fun C hC => va_AO.of (ht _ (tb_a C hC))
theorem W_room {p : Program} {l : Launch} {e : Env} {s : State} {m : MethodId} {args : Array Value} {below : List Frame} {meth : Method} {c : Code} {H : Heap} {locs : List Loc} {cells slots : Nat} {Q Q' : State → Prop} {g : JFrame} {R R' : Room} (h1 : R'.frames ≤ R.frames) (h2 : R'.locals ≤ R.locals) (h3 : R'.cells ≤ R.cells) (h4 : R'.slots ≤ R.slots) (hQ : ∀ t, Q' t → Q t) (k : W p l e R' s m args below meth c H locs cells slots Q' g) : W p l e R s m args below meth c H locs cells slots Q g := by
  intro T hT X
  have hr := X.room
  have : s.hasRoom e.platform R' = true := by
    simp only [State.hasRoom, Bool.and_eq_true, decide_eq_true_eq] at hr ⊢
    obtain ⟨⟨⟨⟨a1, a2, a3, a4, a5, a6⟩, a7⟩, a8⟩, a9⟩ := hr
    exact ⟨⟨⟨⟨by omega, by omega, by omega, by omega, by omega, a6⟩, by omega⟩, by omega⟩, a9⟩
  obtain ⟨t, h5, h6⟩ := k T hT { X with room := this }
  exact ⟨t, h5, hQ t h6⟩
theorem frame_forget {s : State} {o : Outcome} {t : State} {L : List Loc} {k n : Nat} (h : FrameEnd s o t L k n) (hL : ∀ q ∈ L, s.heap.size ≤ q.base) : Framed s o t [] k n := by
  obtain ⟨h1, h2, h3⟩ := h
  exact ⟨h1, h2, h3.weaken (fun y hy hlt => absurd hlt (Nat.not_lt.mpr (hL y hy))) (Nat.le_refl _) (Nat.le_refl _)⟩
/-- THE CLAIM IS ONE OF THE FUNCTION fL_law ALONE -/
theorem whole_start_of (hmath : ∀ (L : Int) (xs : Int → Int), 0 ≤ L ∧ L ≤ 4096 → (∀ j, r32 (xs j)) → ∃ M', fL_law L xs M00 = some (1, M')) {p : Program} {e : Env} {s : State} {m : MethodId} {below : List Frame} {meth : Method} {c : Code} (l : Launch) {b L : Nat} {xs : Nat → Int32} (hL : L ≤ 4096) (C0 : lw_At p s m meth c b L xs) : W p l e room_1 s m #[Value.ref b] below meth c s.heap [] 0 0 (lw_Z below #[Value.ref b] s) (entryFrame m ([Value.ref b] : List Value).toArray 4) := by
  obtain ⟨hx, hb, hr, hml, hown, hts, hX, hbl, hlocks, hgv⟩ := C0
  obtain ⟨G, hA, hsb⟩ := amb_start (sb := b) hts hgv
  have hLi : 0 ≤ (L : Int) ∧ (L : Int) ≤ 4096 := by omega
  have hxs : ∀ j : Int, r32 ((xs j.toNat).toInt) := fun j => q_bl
  obtain ⟨M', hM'⟩ := hmath L (fun j => (xs j.toNat).toInt) hLi hxs
  have hV := vL_law 1312 (by decide) L (fun j => (xs j.toNat).toInt) ⟨hLi.1, by omega⟩ hxs M00
  obtain ⟨-, hW⟩ := hV _ hM' M00_ok (by
    intro k v hv
    match k, hv with
    | 0, hv => cases hv; trivial
    | 1, hv => cases hv
    | 2, hv => cases hv
    | 3, hv => cases hv
    | k + 4, hv => simp at hv) (fun v hv => by cases hv)
  obtain ⟨scr, h1, h2, h3, h4, h5⟩ := hX
  have hl := lv_entry ([.ref b]) (n := 4) (Nat.le_of_ble_eq_true rfl)
  rw [lg_entry_eq]
  refine W_room (R' := rmD 1312 600000 7302249) (by decide) (by decide) (by decide) (by decide) ?_ (hW G s.heap.size p l e s m #[Value.ref b] below meth c ⟨hx, hb, hr, hml, hown, fun w hw => hts w (GT_lw hw), hlocks, ?_, hA, Nat.le_refl _, ?_⟩ s.heap [] 0 0 _ ⟨rfl, fun k q hq => by simp [wsM, M00] at hq, va_S.rf, ⟨hl.1, hl.2.1, fun q hq => hl.2.2 q ?_⟩, by omega, by omega⟩)
  · rintro t ⟨o, g1, g2, ⟨g3, -⟩, L', g4, g5⟩
    exact ⟨o, g1, g2, g3, frame_forget g4 g5⟩
  · intro h; exact absurd h (by show ¬ ("law" : String) = "<init>"; decide)
  · show va_T .int (G.2.2.2.1 50) _ _ _ _ _
    rw [hsb]
    refine ⟨scr, h1, h2, h3, by rw [h4]; simp, by rw [h4]; simp, fun j hj => ?_, Nat.not_le.mpr hbl⟩
    rw [h5 j (by simpa using hj)]
    show some (Value.int (xs j)) = some (Value.int (Int32.ofInt ((xs ((j : Int).toNat)).toInt)))
    rw [Int.toNat_natCast, Int32.ofInt_toInt]
  · have : lsL s.heap.size G.2.2.2.1 0 [some (pA (-52)), none, none, none] = [(0, eR s.heap.size G.2.2.2.1 (-52))] := rfl
    rw [this, eR_k 50 (by decide), hsb] at hq
    exact hq
