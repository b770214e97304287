/-! the ambient facts: classes, arrays' classes, nest links, the constants that nobody writes -/
abbrev GG : Type := (Nat → ClassId) × (Nat → Nat → Nat) × (Nat → ClassId) × (Nat → Nat) × (Nat → Nat)
abbrev MI : Type := MethodName × ByteArray × Nat × Option FieldType × (GG → Nat → State → Prop)
/-- a method that asks for nothing more -/
def noE : GG → Nat → State → Prop := fun _ _ _ => True
abbrev AA (b : Nat) : Nat → Prop := fun q => b ≤ q
def tysG (cA : Nat → ClassId) : List (ClassId × FieldType) := [(cA 11, .byte), (cA 12, .int), (cA 13, .boolean), (cA 14, .object RX0), (cA 15, .object RX1), (cA 16, .object RX4), (cA 17, .object RX6), (cA 18, .object RX7)]
def sTab : Nat → List Int := fun k => match k with
  | 0 => [0, 9, 12, 16, 18]
  | 1 => [1, 3, 3, 2, 2, 2, 2, 2, 1, 1, 1, 1, 3, 3, 3, 0, 2, 3]
  | 2 => [1, 0, 0, 0, 0, 0, 0, 0, 0, 0, 0, 0, 0, 0, 0, 0, 1, 0, 0, 0, 0, 0, 0, 0, 1, 0, 0, 2, 0, 0, 1, 0, 0, 0, 0, 0, 0, 0, 0, 0, 0, 0, 0, 0, 1, 0, 0, 0, 0, 0, 0, 0, 0, 0]
  | _ => [6, 0, 0, 5, 4, 9, 5, 4, 9, 5, 9, 0, 5, 5, 0, 4, 9, 0, 4, 9, 0, 3, 3, 0, 9, 0, 0, 5, 0, 0, 99, 0, 0, 19, 0, 0, 3, 5, 4, 3, 5, 4, 3, 3, 9, 0, 0, 0, 5, 4, 0, 5, 4, 18]
def sNm : Nat → String := fun k => match k with
  | 0 => "FIRST_LINE"
  | 1 => "NUMBERS"
  | 2 => "LEAST"
  | _ => "MOST"
def sTx : List String := ["houses", "has", "needs", "watch", "passes", "weight", "worth", "son", "thief", "rate", "catch", "double", "take", "give", "set", "night", "given", "left", ""]
def sIx : List Nat := [153, 154, 156, 158, 160, 162, 164, 166, 168, 170, 172, 174, 176, 178, 180, 182, 184, 186, 188]
def sLen : List Nat := sTx.map fun t => t.length
def sByt : List (List Int32) := sTx.map fun t => t.toList.map fun c => Int32.ofNat c.toNat
def NW : List (String × Nat × MethodName × String) := [("OneBack$Town", 46, ⟨"OneBack", "fillRow", "([II)V"⟩, "OneBack"), ("OneBack$Told", 54, ⟨"OneBack$Law", "<init>", "()V"⟩, "OneBack"), ("OneBack$Told", 55, ⟨"OneBack$Nights", "<init>", "()V"⟩, "OneBack"), ("OneBack$Sight", 28, ⟨"OneBack", "fillRow", "([II)V"⟩, "OneBack"), ("OneBack", 22, ⟨"OneBack$Reader", "<init>", "()V"⟩, "OneBack"), ("OneBack$Reader", 27, ⟨"OneBack$Law", "<init>", "()V"⟩, "OneBack"), ("OneBack$Reader", 34, ⟨"OneBack$Nights", "<init>", "()V"⟩, "OneBack"), ("OneBack", 46, ⟨"OneBack$Supply", "<init>", "()V"⟩, "OneBack"), ("OneBack$Reader", 216, ⟨"OneBack", "cell", "(II)I"⟩, "OneBack"), ("OneBack$Town", 50, ⟨"OneBack", "copyRow", "([I[I)V"⟩, "OneBack"), ("OneBack$Nights", 28, ⟨"OneBack", "copyRow", "([I[I)V"⟩, "OneBack"), ("OneBack$Sight", 32, ⟨"OneBack", "copyRow", "([I[I)V"⟩, "OneBack"), ("OneBack$Town", 54, ⟨"OneBack", "cell", "(II)I"⟩, "OneBack"), ("OneBack$Walk", 69, ⟨"OneBack", "copyRow", "([I[I)V"⟩, "OneBack"), ("OneBack$Walk", 73, ⟨"OneBack", "fillRow", "([II)V"⟩, "OneBack"), ("OneBack$Walk", 145, ⟨"OneBack", "isGood", "(I)Z"⟩, "OneBack"), ("OneBack$Walk", 130, ⟨"OneBack", "cell", "(II)I"⟩, "OneBack"), ("OneBack$Walk", 136, ⟨"OneBack", "cell", "(III)I"⟩, "OneBack"), ("OneBack$Views", 75, ⟨"OneBack", "cell", "(III)I"⟩, "OneBack"), ("OneBack$Supply", 69, ⟨"OneBack", "fillRow", "([II)V"⟩, "OneBack"), ("OneBack$Town", 88, ⟨"OneBack", "commonDivisor", "(II)I"⟩, "OneBack"), ("OneBack$Sight", 40, ⟨"OneBack", "cell", "(II)I"⟩, "OneBack"), ("OneBack$Sight", 65, ⟨"OneBack", "cell", "(III)I"⟩, "OneBack"), ("OneBack$Views", 165, ⟨"OneBack", "leastTerms", "(IIZ)I"⟩, "OneBack"), ("OneBack$Porter", 29, ⟨"OneBack", "fillRow", "([II)V"⟩, "OneBack"), ("OneBack$Porter", 61, ⟨"OneBack", "copyRow", "([I[I)V"⟩, "OneBack"), ("OneBack$Porter", 46, ⟨"OneBack", "cell", "(II)I"⟩, "OneBack"), ("OneBack$Told", 103, ⟨"OneBack", "copyRow", "([I[I)V"⟩, "OneBack")]
def Amb (G : GG) (b : Nat) (U : State) : Prop :=
  va_K (G.1, G.2.1) vwCl (tysG G.2.2.1) U ∧ (∀ q ∈ NW, va_Nw (.methodLinkNest q.1 q.2.1 q.2.2.1 q.2.2.2) U) ∧
  (∀ k, k < 4 → va_Z RX3 (sNm k) "[I" (.ref (G.2.2.2.1 k)) (AA b) U U.heap ∧ va_T .int (G.2.2.2.1 k) (sTab k).length (fun j => .int (Int32.ofInt ((sTab k).getD j 0))) (AA b) U U.heap) ∧
  va_Z RJ0 "COMPACT_STRINGS" "Z" (.int 1) (AA b) U U.heap ∧ va_Zq RJ3 "SIOOBE_FORMATTER" "Ljava/util/function/BiFunction;" (AA b) U U.heap ∧
  vk_S 19 sLen sByt (fun i => G.2.2.2.1 (4 + i)) (fun i => G.2.2.2.1 (23 + i)) (AA b) U U.heap ∧ (∀ i, i < 19 → vk_R RX3 (sIx.getD i 0) (sTx.getD i "") (G.2.2.2.1 (4 + i)) U) ∧
  (∀ C ∈ [RX0, RX1, RX4, RX6, RX7], va_AO C U)
theorem Amb.move {G : GG} {b : Nat} {s U : State} (h : Amb G b s) (hW : s.WarmedH U.vm) (hq : ∀ a : Nat, a < s.heap.size → ¬ AA b a → U.heap[a]? = s.heap[a]?) : Amb G b U := by
  obtain ⟨h1, h2, h3, h4, h5, h6, h7, h8⟩ := h
  refine ⟨h1.moved hW.alike, fun q hm => (h2 q hm).warmM hW, fun k hk => ⟨((h3 k hk).1.moved hW.alike).kept hq, ((h3 k hk).2.moved hW.alike).kept hq⟩, (h4.moved hW.alike).kept hq, (h5.moved hW.alike).kept hq, (h6.moved hW.alike).kept hq, fun i hi => (h7 i hi).warm hW, fun C hC => (h8 C hC).moved hW.alike⟩
/-! the judgements -/
def rmD (d b0 b1 : Nat) : Room := { frames := d, cells := b0, slots := b1, locals := 64 * d }
def lsL (b : Nat) (cs : Nat → Nat) : Nat → List (Option PV) → List (Nat × Value)
  | _, [] => []
  | i, none :: r => lsL b cs (i + 1) r
  | i, some v :: r => (i, eV b cs v) :: lsL b cs (i + 1) r
theorem lsL_mem {b : Nat} {cs : Nat → Nat} {q : Nat × Value} : ∀ {ls : List (Option PV)} {i : Nat}, q ∈ lsL b cs i ls ↔ ∃ (k : Nat) (v : PV), ls[k]? = some (some v) ∧ q = (i + k, eV b cs v)
  | [], i => by simp [lsL]
  | none :: r, i => by
    rw [lsL, lsL_mem]
    constructor
    · rintro ⟨k, v, h1, h2⟩
      exact ⟨k + 1, v, by simpa using h1, by rw [h2]; congr 1; omega⟩
    · rintro ⟨k, v, h1, h2⟩
      cases k with
      | zero => simp at h1
      | succ k => exact ⟨k, v, by simpa using h1, by rw [h2]; congr 1; omega⟩
  | some w :: r, i => by
    rw [lsL, List.mem_cons, lsL_mem]
    constructor
    · rintro (h | ⟨k, v, h1, h2⟩)
      · exact ⟨0, w, by simp, h⟩
      · exact ⟨k + 1, v, by simpa using h1, by rw [h2]; congr 1; omega⟩
    · rintro ⟨k, v, h1, h2⟩
      cases k with
      | zero => simp at h1; subst h1; exact Or.inl h2
      | succ k => exact Or.inr ⟨k, v, by simpa using h1, by rw [h2]; congr 1; omega⟩
def okL (ls : List (Option PV)) : Prop := ∀ (i : Nat) (v : PV), ls[i]? = some (some v) → okV v
def okS (st : List PV) : Prop := ∀ v ∈ st, okV v
def okR (r : Option PV × Mem) : Prop := MemOK r.2 ∧ ∀ v, r.1 = some v → okV v
def QcR (G : GG) (b : Nat) (r : Option PV × Mem) : Array Value → State → Outcome → State → Prop := fun _ st o t =>
  o = .returned (r.1.map (eV b G.2.2.2.1)) ∧ t.heap.size = b + r.2.2.2.2 ∧ va_P (G.1, G.2.1) vwCl (wsM G.2.2.1 b r.2) t.heap ∧ st.heap.size ≤ t.heap.size ∧ ∀ q : Nat, q < st.heap.size → ¬ AA b q → t.heap[q]? = st.heap[q]?
def PcR (G : GG) (b : Nat) (args : List PV) (M : Mem) : Array Value → State → Prop := fun a U =>
  a = (args.map (eV b G.2.2.2.1)).toArray ∧ U.heap.size = b + M.2.2.2 ∧ va_P (G.1, G.2.1) vwCl (wsM G.2.2.1 b M) U.heap ∧ Amb G b U
def Cx (mi : MI) (G : GG) (b : Nat) (p : Program) (s : State) (m : MethodId) (args : Array Value) (meth : Method) (c : Code) : Prop :=
  p.tables.exec = Jvm.exec ∧ c.code = mi.2.1 ∧ meth.sig.returnType = mi.2.2.2.1 ∧ c.maxLocals = mi.2.2.1 ∧ s.vm.findClass mi.1.cls = some m.cls ∧ (∀ w ∈ GT, w.before args s = true) ∧ meth.locks = false ∧ (mi.1.name = "<init>" → meth.name = "<init>") ∧ Amb G b s ∧ b ≤ s.heap.size ∧ mi.2.2.2.2 G b s
def Dy (mi : MI) (G : GG) (b b0 b1 bc bs : Nat) (s : State) (M : Mem) (ls : List (Option PV)) (H : Heap) (locs : List Loc) (cells slots : Nat) (lsA : Array Slot) : Prop :=
  H.size = b + M.2.2.2 ∧ va_P (G.1, G.2.1) vwCl (wsM G.2.2.1 b M) H ∧ va_S (AA b) s.heap H locs ∧ lv_has lsA mi.2.2.1 (lsL b G.2.2.2.1 0 ls) ∧ cells + bc ≤ b0 ∧ slots + bs ≤ b1
def VW (mi : MI) (d b0 b1 bc bs pc : Nat) (ls : List (Option PV)) (st : List PV) (M : Mem) (r : Option PV × Mem) : Prop :=
  ∀ (G : GG) (b : Nat) (p : Program) (l : Launch) (e : Env) (s : State) (m : MethodId) (args : Array Value) (below : List Frame) (meth : Method) (c : Code), Cx mi G b p s m args meth c →
    ∀ (H : Heap) (locs : List Loc) (cells slots : Nat) (lsA : Array Slot), Dy mi G b b0 b1 bc bs s M ls H locs cells slots lsA →
      W p l e (rmD d b0 b1) s m args below meth c H locs cells slots (MQ below (QcR G b r) args s b0 b1 (AA b)) (F0 m pc lsA (st.map (eV b G.2.2.2.1)))
/-- from this point of the method's body: if X is some r, the method returns with r -/
def V {ρ : Type} (mi : MI) (d b0 b1 bc bs pc : Nat) (ls : List (Option PV)) (st : List PV) (M : Mem) (dec : ρ → Option PV × Mem) (X : Option ρ) : Prop :=
  ∀ r, X = some r → MemOK M → okL ls → okS st → okR (dec r) ∧ VW mi d b0 b1 bc bs pc ls st M (dec r)
/-- a method's contract at these arguments and this memory: if X is some r, it returns with r -/
def Ct {ρ : Type} (mi : MI) (d b0 b1 : Nat) (args : List PV) (M : Mem) (dec : ρ → Option PV × Mem) (X : Option ρ) : Prop :=
  ∀ r, X = some r → MemOK M → okS args → okR (dec r) ∧ ∀ (G : GG) (b : Nat) (l : Launch), Met l mi.1 (.code mi.1 mi.2.1 mi.2.2.1 mi.2.2.2.1 :: GT) (rmD d b0 b1) (PcR G b args M) (QcR G b (dec r)) b0 b1 (AA b)
def entL : List PV → List (Option PV)
  | [] => []
  | .inr (.inl x) :: r => some (.inr (.inl x)) :: none :: entL r
  | v :: r => some v :: entL r
theorem eR_cat (b : Nat) (cs : Nat → Nat) (a : Int) : (eR b cs a).category = 1 := by
  unfold eR; split
  · rfl
  · split <;> rfl
theorem entL_args {b : Nat} {cs : Nat → Nat} {k : Nat} : ∀ (args : List PV) (i : Nat), lsL b cs i (entL args ++ List.replicate k none) = lv_args i (args.map (eV b cs))
  | [], i => by
    show lsL b cs i (List.replicate k none) = []
    induction k generalizing i with
    | zero => rfl
    | succ k ih => rw [List.replicate_succ]; exact ih (i + 1)
  | .inl x :: r, i => by
    show (i, eV b cs (.inl x)) :: lsL b cs (i + 1) (entL r ++ List.replicate k none) = (i, eV b cs (.inl x)) :: lv_args (i + 1) (r.map (eV b cs))
    rw [entL_args r (i + 1)]
  | .inr (.inl x) :: r, i => by
    show (i, eV b cs (.inr (.inl x))) :: lsL b cs (i + 1 + 1) (entL r ++ List.replicate k none) = (i, eV b cs (.inr (.inl x))) :: lv_args (i + 2) (r.map (eV b cs))
    rw [entL_args r (i + 1 + 1)]
  | .inr (.inr x) :: r, i => by
    show (i, eV b cs (.inr (.inr x))) :: lsL b cs (i + 1) (entL r ++ List.replicate k none) = (i, eV b cs (.inr (.inr x))) :: lv_args (if (eR b cs x).category = 2 then i + 2 else i + 1) (r.map (eV b cs))
    rw [eR_cat, if_neg (by decide), entL_args r (i + 1)]
theorem entL_len {b : Nat} {cs : Nat → Nat} : ∀ (args : List PV), (lg_sl (args.map (eV b cs))).length = (entL args).length
  | [] => rfl
  | .inl x :: r => by
    have := entL_len (b := b) (cs := cs) r
    simp only [lg_sl, List.map_cons, List.flatMap_cons, List.length_append, entL, List.length_cons] at this ⊢
    simp only [eV, Value.category] at this ⊢
    simp at this ⊢
    omega
  | .inr (.inl x) :: r => by
    have := entL_len (b := b) (cs := cs) r
    simp only [lg_sl, List.map_cons, List.flatMap_cons, List.length_append, entL, List.length_cons] at this ⊢
    simp only [eV, Value.category] at this ⊢
    simp at this ⊢
    omega
  | .inr (.inr x) :: r => by
    have := entL_len (b := b) (cs := cs) r
    simp only [lg_sl, List.map_cons, List.flatMap_cons, List.length_append, entL, List.length_cons] at this ⊢
    rw [show (eV b cs (.inr (.inr x))).category = 1 from eR_cat b cs x]
    simp at this ⊢
    omega
theorem okL_ent : ∀ {args : List PV}, okS args → okL (entL args)
  | [], _ => by intro i v h; simp [entL] at h
  | .inl x :: r, h => by
    intro i v hv
    cases i with
    | zero => simp [entL] at hv; subst hv; exact h _ List.mem_cons_self
    | succ i => exact okL_ent (fun v hm => h v (List.mem_cons_of_mem _ hm)) i v (by simpa [entL] using hv)
  | .inr (.inl x) :: r, h => by
    intro i v hv
    match i, hv with
    | 0, hv => simp [entL] at hv; subst hv; exact h _ List.mem_cons_self
    | 1, hv => simp [entL] at hv
    | i + 2, hv => exact okL_ent (fun v hm => h v (List.mem_cons_of_mem _ hm)) i v (by simpa [entL] using hv)
  | .inr (.inr x) :: r, h => by
    intro i v hv
    cases i with
    | zero => simp [entL] at hv; subst hv; exact h _ List.mem_cons_self
    | succ i => exact okL_ent (fun v hm => h v (List.mem_cons_of_mem _ hm)) i v (by simpa [entL] using hv)
/-- a contract out of its body -/
theorem Ct.of {ρ : Type} {mi : MI} {d b0 b1 : Nat} {args : List PV} {M : Mem} {dec : ρ → Option PV × Mem} {X : Option ρ} (k : Nat) (hE : ∀ G b s, mi.2.2.2.2 G b s) (hy : plainName mi.1.cls = true) (hn : (entL args).length + k = mi.2.2.1)
    (h : V mi d b0 b1 b0 b1 0 (entL args ++ List.replicate k none) [] M dec X) : Ct mi d b0 b1 args M dec X := by
  intro r hr hM ha
  have hL : okL (entL args ++ List.replicate k none) := by
    intro i v hv
    by_cases hi : i < (entL args).length
    · rw [List.getElem?_append_left hi] at hv
      exact okL_ent ha i v hv
    · rw [List.getElem?_append_right (by omega)] at hv
      obtain ⟨_, e⟩ := List.getElem?_eq_some_iff.mp hv
      rw [List.getElem_replicate] at e
      cases e
  obtain ⟨h1, h2⟩ := h r hr hM hL (fun v hv => by cases hv)
  refine ⟨h1, fun G b l => ?_⟩
  refine Met.ofW (cc := mi.2.1) (maxL := mi.2.2.1) (ret := mi.2.2.2.1) hy rfl ?_
  intro p e s m args' below meth c s₁ B hml hv
  obtain ⟨rfl, hsz, hP, hA⟩ := hv
  have hts := atoms_spec (ws := .code mi.1 mi.2.1 mi.2.2.1 mi.2.2.2.1 :: GT) B.pre
  have hown : s.vm.findClass mi.1.cls = some m.cls := findClass_of_methodNamed B.named
  rw [lg_entry_eq]
  have hl := lv_entry (args.map (eV b G.2.2.2.1)) (n := mi.2.2.1) (by rw [entL_len]; omega)
  have := h2 G b p l e s m (args.map (eV b G.2.2.2.1)).toArray below meth c ⟨B.exec, B.bytes, B.returns, hml, hown, fun w hw => hts w (List.mem_cons_of_mem _ hw), B.notSynchronized, fun h => (name_of_methodNamed B.named B.method).1.trans h, hA, by rw [hsz]; exact Nat.le_add_right _ _, hE _ _ _⟩
    s.heap [] 0 0 _ ⟨hsz, hP, va_S.rf, by rw [entL_args]; exact hl, by omega, by omega⟩
  exact this
section Rules
variable {ρ : Type} {mi : MI} {d b0 b1 bc bs bc' bs' pc pc' : Nat} {ls ls' : List (Option PV)} {st st' : List PV} {M M' : Mem} {dec : ρ → Option PV × Mem} {X : Option ρ}
/-- the general step -/
theorem v_step (k : V mi d b0 b1 bc' bs' pc' ls' st' M' dec X) (hok : MemOK M → okL ls → okS st → MemOK M' ∧ okL ls' ∧ okS st')
    (hw : MemOK M → okL ls → okS st → ∀ (G : GG) (b : Nat) (p : Program) (l : Launch) (e : Env) (s : State) (m : MethodId) (args : Array Value) (below : List Frame) (meth : Method) (c : Code) (Q : State → Prop), Cx mi G b p s m args meth c →
      ∀ (H : Heap) (locs : List Loc) (cells slots : Nat) (lsA : Array Slot), Dy mi G b b0 b1 bc bs s M ls H locs cells slots lsA →
        (∀ (H' : Heap) (locs' : List Loc) (cells' slots' : Nat) (lsA' : Array Slot), Dy mi G b b0 b1 bc' bs' s M' ls' H' locs' cells' slots' lsA' → W p l e (rmD d b0 b1) s m args below meth c H' locs' cells' slots' Q (F0 m pc' lsA' (st'.map (eV b G.2.2.2.1)))) →
        W p l e (rmD d b0 b1) s m args below meth c H locs cells slots Q (F0 m pc lsA (st.map (eV b G.2.2.2.1)))) : V mi d b0 b1 bc bs pc ls st M dec X := by
  intro r hr hM hL hS
  obtain ⟨h1, h2, h3⟩ := hok hM hL hS
  obtain ⟨g1, g2⟩ := k r hr h1 h2 h3
  refine ⟨g1, fun G b p l e s m args below meth c C H locs cells slots lsA D => ?_⟩
  exact hw hM hL hS G b p l e s m args below meth c _ C H locs cells slots lsA D (fun H' locs' cells' slots' lsA' D' => g2 G b p l e s m args below meth c C H' locs' cells' slots' lsA' D')
/-- a step of the stack alone -/
theorem v_op (k : V mi d b0 b1 bc bs pc' ls st' M dec X) (hok : okL ls → okS st → okS st')
    (hw : okL ls → okS st → ∀ (G : GG) (b : Nat) (p : Program) (l : Launch) (e : Env) (s : State) (m : MethodId) (args : Array Value) (below : List Frame) (meth : Method) (c : Code) (Q : State → Prop), Cx mi G b p s m args meth c →
      ∀ (H : Heap) (locs : List Loc) (cells slots : Nat) (lsA : Array Slot), lv_has lsA mi.2.2.1 (lsL b G.2.2.2.1 0 ls) →
        W p l e (rmD d b0 b1) s m args below meth c H locs cells slots Q (F0 m pc' lsA (st'.map (eV b G.2.2.2.1))) →
        W p l e (rmD d b0 b1) s m args below meth c H locs cells slots Q (F0 m pc lsA (st.map (eV b G.2.2.2.1)))) : V mi d b0 b1 bc bs pc ls st M dec X :=
  v_step k (fun hM hL hS => ⟨hM, hL, hok hL hS⟩) (fun hM hL hS G b p l e s m args below meth c Q C H locs cells slots lsA D kk => hw hL hS G b p l e s m args below meth c Q C H locs cells slots lsA D.2.2.2.1 (kk H locs cells slots lsA D))
/-- fewer locals -/
def lsle : List (Option PV) → List (Option PV) → Prop
  | [], _ => True
  | none :: a, _ :: b => lsle a b
  | some v :: a, w :: b => w = some v ∧ lsle a b
  | _, _ => False
theorem lsle_at : ∀ {a b : List (Option PV)} {i : Nat} {v : PV}, lsle a b → a[i]? = some (some v) → b[i]? = some (some v)
  | [], _, i, v, _, h => by simp at h
  | none :: a, [], i, v, h, _ => by simp [lsle] at h
  | none :: a, w :: b, i, v, h, hi => by
    cases i with
    | zero => simp at hi
    | succ i => simpa using lsle_at (a := a) (b := b) h (by simpa using hi)
  | some x :: a, [], i, v, h, _ => by simp [lsle] at h
  | some x :: a, w :: b, i, v, h, hi => by
    obtain ⟨rfl, h⟩ := h
    cases i with
    | zero => simpa using hi
    | succ i => simpa using lsle_at (a := a) (b := b) h (by simpa using hi)
theorem v_drop (ls' : List (Option PV)) (hl : lsle ls' ls) (k : V mi d b0 b1 bc bs pc ls' st M dec X) : V mi d b0 b1 bc bs pc ls st M dec X :=
  v_step k (fun hM hL hS => ⟨hM, fun i v h => hL i v (lsle_at hl h), hS⟩) (fun hM hL hS G b p l e s m args below meth c Q C H locs cells slots lsA D kk => kk H locs cells slots lsA ⟨D.1, D.2.1, D.2.2.1, ⟨D.2.2.2.1.1, D.2.2.2.1.2.1, fun q hq => by
    obtain ⟨k, v, h1, h2⟩ := lsL_mem.mp hq
    exact D.2.2.2.1.2.2 q (lsL_mem.mpr ⟨k, v, lsle_at hl h1, h2⟩)⟩, D.2.2.2.2⟩)
theorem v_eq {X' : Option ρ} (h : X = X') (k : V mi d b0 b1 bc bs pc ls st M dec X') : V mi d b0 b1 bc bs pc ls st M dec X := h ▸ k
theorem v_none : V mi d b0 b1 bc bs pc ls st M dec (none : Option ρ) := fun r h => by cases h
/-- what isn't so by the memory's own order needn't be looked at -/
theorem v_pure {P : Prop} (h : MemOK M → okL ls → okS st → P) (k : P → V mi d b0 b1 bc bs pc ls st M dec X) : V mi d b0 b1 bc bs pc ls st M dec X := fun r hr hM hL hS => k (h hM hL hS) r hr hM hL hS
theorem v_if {P : Prop} [Decidable P] {A : Option ρ} (k : P → V mi d b0 b1 bc bs pc ls st M dec A) : V mi d b0 b1 bc bs pc ls st M dec (if P then A else none) := by
  intro r hr hM hL hS
  by_cases h : P
  · rw [if_pos h] at hr; exact k h r hr hM hL hS
  · rw [if_neg h] at hr; cases hr
end Rules
