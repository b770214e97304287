/-! decode rows out of single bytes -/
section Q
variable {c : ByteArray} {pc : Nat} {b x y : UInt8} {i : Instr} {B : Nat → Decoder Instr}
theorem q_bind {α β : Type} {r : Decoder α} {f : α → Decoder β} {p q : Nat} {a : α} (h : r c p = .ok (a, q)) : (r >>= f) c p = f a c q := by
  change Except.bind (r c p) (fun z => f z.1 c z.2) = _
  rw [h]; rfl
theorem q_map {α β : Type} {r : Decoder α} {f : α → β} {p q : Nat} {a : α} (h : r c p = .ok (a, q)) : (f <$> r) c p = .ok (f a, q) := by
  change Except.bind (r c p) (fun z => .ok (f z.1, z.2)) = _
  rw [h]; rfl
theorem q_u1 {p : Nat} (h : c.data[p]? = some b) : (Reader.u1 : Decoder Nat) c p = .ok (b.toNat, p + 1) := by
  obtain ⟨hp, hb⟩ := Array.getElem?_eq_some_iff.mp h
  have hp' : p < c.size := hp
  have e : (Reader.u1 : Decoder Nat) c p = (if h : p < c.size then (do set (p + 1); pure (c[p]'h).toNat : Decoder Nat) else throw (HasTruncated.truncated p)) c p := rfl
  rw [e, dif_pos hp']
  show Except.ok ((c[p]'hp').toNat, p + 1) = _
  have z : c[p]'hp' = b := hb
  rw [z]
theorem q_u2 {p : Nat} (h : c.data[p]? = some x) (h' : c.data[p + 1]? = some y) : (Reader.u2 : Decoder Nat) c p = .ok (x.toNat * 256 + y.toNat, p + 1 + 1) := by
  unfold Reader.u2
  rw [q_bind (q_u1 h), q_bind (q_u1 h')]; rfl
theorem q_s1 {p : Nat} (h : c.data[p]? = some x) : (Reader.s1 : Decoder Int) c p = .ok (Reader.signed 8 x.toNat, p + 1) := q_map (q_u1 h)
theorem q_s2 {p : Nat} (h : c.data[p]? = some x) (h' : c.data[p + 1]? = some y) : (Reader.s2 : Decoder Int) c p = .ok (Reader.signed 16 (x.toNat * 256 + y.toNat), p + 1 + 1) := q_map (q_u2 h h')
theorem q_end {n : Nat} (e : Decoder.instr pc c pc = .ok (i, pc + n)) : decode c pc = .ok (i, n) := by
  change Except.bind (Decoder.instr pc c pc) (fun z => .ok (z.1, z.2 - pc)) = _
  rw [e]
  show Except.ok (i, pc + n - pc) = _
  rw [Nat.add_sub_cancel_left]
theorem dq_0 (hB : Decoder.instr pc = Reader.u1 >>= B) (h : c.data[pc]? = some b) (hi : B b.toNat = (Pure.pure i : Decoder Instr)) : decode c pc = .ok (i, 1) :=
  q_end (by rw [hB, q_bind (q_u1 h), hi]; rfl)
theorem dq_u1 {F : Nat → Instr} (hB : Decoder.instr pc = Reader.u1 >>= B) (hi : B b.toNat = (Reader.u1 >>= fun v => Pure.pure (F v))) (h : c.data[pc]? = some b) (h1 : c.data[pc + 1]? = some x) (hv : F x.toNat = i) : decode c pc = .ok (i, 2) :=
  q_end (by rw [hB, q_bind (q_u1 h), hi, q_bind (q_u1 h1), hv]; rfl)
theorem dq_s1 {F : Int → Instr} (hB : Decoder.instr pc = Reader.u1 >>= B) (hi : B b.toNat = (Reader.s1 >>= fun v => Pure.pure (F v))) (h : c.data[pc]? = some b) (h1 : c.data[pc + 1]? = some x) (hv : F (Reader.signed 8 x.toNat) = i) : decode c pc = .ok (i, 2) :=
  q_end (by rw [hB, q_bind (q_u1 h), hi, q_bind (q_s1 h1), hv]; rfl)
theorem dq_u2 {F : Nat → Instr} (hB : Decoder.instr pc = Reader.u1 >>= B) (hi : B b.toNat = (Reader.u2 >>= fun v => Pure.pure (F v))) (h : c.data[pc]? = some b) (h1 : c.data[pc + 1]? = some x) (h2 : c.data[pc + 2]? = some y) (hv : F (x.toNat * 256 + y.toNat) = i) : decode c pc = .ok (i, 3) :=
  q_end (by rw [hB, q_bind (q_u1 h), hi, q_bind (q_u2 h1 h2), hv]; rfl)
theorem dq_s2 {F : Int → Instr} {v : Int} (hB : Decoder.instr pc = Reader.u1 >>= B) (hi : B b.toNat = (Reader.s2 >>= fun v => Pure.pure (F v))) (h : c.data[pc]? = some b) (h1 : c.data[pc + 1]? = some x) (h2 : c.data[pc + 2]? = some y) (hv : Reader.signed 16 (x.toNat * 256 + y.toNat) = v) : decode c pc = .ok (F v, 3) :=
  q_end (by rw [hB, q_bind (q_u1 h), hi, q_bind (q_s2 h1 h2), hv]; rfl)
theorem dq_us {F : Nat → Int → Instr} (hB : Decoder.instr pc = Reader.u1 >>= B) (hi : B b.toNat = (Reader.u1 >>= fun v => Reader.s1 >>= fun w => Pure.pure (F v w))) (h : c.data[pc]? = some b) (h1 : c.data[pc + 1]? = some x) (h2 : c.data[pc + 2]? = some y) (hv : F x.toNat (Reader.signed 8 y.toNat) = i) : decode c pc = .ok (i, 3) :=
  q_end (by rw [hB, q_bind (q_u1 h), hi, q_bind (q_u1 h1), q_bind (q_s1 h2), hv]; rfl)
theorem byt {k n : Nat} {l : List UInt8} (h : (c.data.toList.drop k).take n = l) (j : Nat) (hj : l[j]? = some b) : c.data[k + j]? = some b := by
  rw [← h, List.getElem?_take] at hj
  split at hj
  · rw [List.getElem?_drop] at hj
    rw [← Array.getElem?_toList]; exact hj
  · cases hj
end Q
section OQ
variable {c : ByteArray} {pc : Nat} {x y : UInt8} {i : Instr}
theorem oq_1 (h : c.data[pc]? = some 1) : decode c pc = .ok (.aconst_null, 1) := dq_0 rfl h rfl
theorem oq_2 (h : c.data[pc]? = some 2) : decode c pc = .ok (.iconst (-1), 1) := dq_0 rfl h rfl
theorem oq_3 (h : c.data[pc]? = some 3) : decode c pc = .ok (.iconst 0, 1) := dq_0 rfl h rfl
theorem oq_4 (h : c.data[pc]? = some 4) : decode c pc = .ok (.iconst 1, 1) := dq_0 rfl h rfl
theorem oq_5 (h : c.data[pc]? = some 5) : decode c pc = .ok (.iconst 2, 1) := dq_0 rfl h rfl
theorem oq_6 (h : c.data[pc]? = some 6) : decode c pc = .ok (.iconst 3, 1) := dq_0 rfl h rfl
theorem oq_7 (h : c.data[pc]? = some 7) : decode c pc = .ok (.iconst 4, 1) := dq_0 rfl h rfl
theorem oq_8 (h : c.data[pc]? = some 8) : decode c pc = .ok (.iconst 5, 1) := dq_0 rfl h rfl
theorem oq_9 (h : c.data[pc]? = some 9) : decode c pc = .ok (.lconst 0, 1) := dq_0 rfl h rfl
theorem oq_16 (h : c.data[pc]? = some 16) (h1 : c.data[pc + 1]? = some x) (hv : ((fun v => .bipush v) : Int → Instr) (Reader.signed 8 x.toNat) = i) : decode c pc = .ok (i, 2) := dq_s1 (F := (fun v => .bipush v)) rfl rfl h h1 hv
theorem oq_17 {v : Int} (h : c.data[pc]? = some 17) (h1 : c.data[pc + 1]? = some x) (h2 : c.data[pc + 2]? = some y) (hv : Reader.signed 16 (x.toNat * 256 + y.toNat) = v) : decode c pc = .ok (.sipush v, 3) := dq_s2 (F := fun v => .sipush v) rfl rfl h h1 h2 hv
theorem oq_18 (h : c.data[pc]? = some 18) (h1 : c.data[pc + 1]? = some x) (hv : ((fun v => .ldc v) : Nat → Instr) x.toNat = i) : decode c pc = .ok (i, 2) := dq_u1 (F := (fun v => .ldc v)) rfl rfl h h1 hv
theorem oq_19 (h : c.data[pc]? = some 19) (h1 : c.data[pc + 1]? = some x) (h2 : c.data[pc + 2]? = some y) (hv : ((fun v => .ldc_w v) : Nat → Instr) (x.toNat * 256 + y.toNat) = i) : decode c pc = .ok (i, 3) := dq_u2 (F := (fun v => .ldc_w v)) rfl rfl h h1 h2 hv
theorem oq_20 (h : c.data[pc]? = some 20) (h1 : c.data[pc + 1]? = some x) (h2 : c.data[pc + 2]? = some y) (hv : ((fun v => .ldc2_w v) : Nat → Instr) (x.toNat * 256 + y.toNat) = i) : decode c pc = .ok (i, 3) := dq_u2 (F := (fun v => .ldc2_w v)) rfl rfl h h1 h2 hv
theorem oq_21 (h : c.data[pc]? = some 21) (h1 : c.data[pc + 1]? = some x) (hv : ((fun v => .iload v) : Nat → Instr) x.toNat = i) : decode c pc = .ok (i, 2) := dq_u1 (F := (fun v => .iload v)) rfl rfl h h1 hv
theorem oq_25 (h : c.data[pc]? = some 25) (h1 : c.data[pc + 1]? = some x) (hv : ((fun v => .aload v) : Nat → Instr) x.toNat = i) : decode c pc = .ok (i, 2) := dq_u1 (F := (fun v => .aload v)) rfl rfl h h1 hv
theorem oq_26 (h : c.data[pc]? = some 26) : decode c pc = .ok (.iload_n 0, 1) := dq_0 rfl h rfl
theorem oq_27 (h : c.data[pc]? = some 27) : decode c pc = .ok (.iload_n 1, 1) := dq_0 rfl h rfl
theorem oq_28 (h : c.data[pc]? = some 28) : decode c pc = .ok (.iload_n 2, 1) := dq_0 rfl h rfl
theorem oq_29 (h : c.data[pc]? = some 29) : decode c pc = .ok (.iload_n 3, 1) := dq_0 rfl h rfl
theorem oq_31 (h : c.data[pc]? = some 31) : decode c pc = .ok (.lload_n 1, 1) := dq_0 rfl h rfl
theorem oq_32 (h : c.data[pc]? = some 32) : decode c pc = .ok (.lload_n 2, 1) := dq_0 rfl h rfl
theorem oq_42 (h : c.data[pc]? = some 42) : decode c pc = .ok (.aload_n 0, 1) := dq_0 rfl h rfl
theorem oq_43 (h : c.data[pc]? = some 43) : decode c pc = .ok (.aload_n 1, 1) := dq_0 rfl h rfl
theorem oq_44 (h : c.data[pc]? = some 44) : decode c pc = .ok (.aload_n 2, 1) := dq_0 rfl h rfl
theorem oq_45 (h : c.data[pc]? = some 45) : decode c pc = .ok (.aload_n 3, 1) := dq_0 rfl h rfl
theorem oq_46 (h : c.data[pc]? = some 46) : decode c pc = .ok (.iaload, 1) := dq_0 rfl h rfl
theorem oq_50 (h : c.data[pc]? = some 50) : decode c pc = .ok (.aaload, 1) := dq_0 rfl h rfl
theorem oq_51 (h : c.data[pc]? = some 51) : decode c pc = .ok (.baload, 1) := dq_0 rfl h rfl
theorem oq_54 (h : c.data[pc]? = some 54) (h1 : c.data[pc + 1]? = some x) (hv : ((fun v => .istore v) : Nat → Instr) x.toNat = i) : decode c pc = .ok (i, 2) := dq_u1 (F := (fun v => .istore v)) rfl rfl h h1 hv
theorem oq_58 (h : c.data[pc]? = some 58) (h1 : c.data[pc + 1]? = some x) (hv : ((fun v => .astore v) : Nat → Instr) x.toNat = i) : decode c pc = .ok (i, 2) := dq_u1 (F := (fun v => .astore v)) rfl rfl h h1 hv
theorem oq_59 (h : c.data[pc]? = some 59) : decode c pc = .ok (.istore_n 0, 1) := dq_0 rfl h rfl
theorem oq_60 (h : c.data[pc]? = some 60) : decode c pc = .ok (.istore_n 1, 1) := dq_0 rfl h rfl
theorem oq_61 (h : c.data[pc]? = some 61) : decode c pc = .ok (.istore_n 2, 1) := dq_0 rfl h rfl
theorem oq_62 (h : c.data[pc]? = some 62) : decode c pc = .ok (.istore_n 3, 1) := dq_0 rfl h rfl
theorem oq_76 (h : c.data[pc]? = some 76) : decode c pc = .ok (.astore_n 1, 1) := dq_0 rfl h rfl
theorem oq_77 (h : c.data[pc]? = some 77) : decode c pc = .ok (.astore_n 2, 1) := dq_0 rfl h rfl
theorem oq_78 (h : c.data[pc]? = some 78) : decode c pc = .ok (.astore_n 3, 1) := dq_0 rfl h rfl
theorem oq_79 (h : c.data[pc]? = some 79) : decode c pc = .ok (.iastore, 1) := dq_0 rfl h rfl
theorem oq_83 (h : c.data[pc]? = some 83) : decode c pc = .ok (.aastore, 1) := dq_0 rfl h rfl
theorem oq_84 (h : c.data[pc]? = some 84) : decode c pc = .ok (.bastore, 1) := dq_0 rfl h rfl
theorem oq_87 (h : c.data[pc]? = some 87) : decode c pc = .ok (.pop, 1) := dq_0 rfl h rfl
theorem oq_89 (h : c.data[pc]? = some 89) : decode c pc = .ok (.dup, 1) := dq_0 rfl h rfl
theorem oq_92 (h : c.data[pc]? = some 92) : decode c pc = .ok (.dup2, 1) := dq_0 rfl h rfl
theorem oq_96 (h : c.data[pc]? = some 96) : decode c pc = .ok (.iadd, 1) := dq_0 rfl h rfl
theorem oq_100 (h : c.data[pc]? = some 100) : decode c pc = .ok (.isub, 1) := dq_0 rfl h rfl
theorem oq_104 (h : c.data[pc]? = some 104) : decode c pc = .ok (.imul, 1) := dq_0 rfl h rfl
theorem oq_108 (h : c.data[pc]? = some 108) : decode c pc = .ok (.idiv, 1) := dq_0 rfl h rfl
theorem oq_112 (h : c.data[pc]? = some 112) : decode c pc = .ok (.irem, 1) := dq_0 rfl h rfl
theorem oq_116 (h : c.data[pc]? = some 116) : decode c pc = .ok (.ineg, 1) := dq_0 rfl h rfl
theorem oq_120 (h : c.data[pc]? = some 120) : decode c pc = .ok (.ishl, 1) := dq_0 rfl h rfl
theorem oq_121 (h : c.data[pc]? = some 121) : decode c pc = .ok (.lshl, 1) := dq_0 rfl h rfl
theorem oq_122 (h : c.data[pc]? = some 122) : decode c pc = .ok (.ishr, 1) := dq_0 rfl h rfl
theorem oq_124 (h : c.data[pc]? = some 124) : decode c pc = .ok (.iushr, 1) := dq_0 rfl h rfl
theorem oq_126 (h : c.data[pc]? = some 126) : decode c pc = .ok (.iand, 1) := dq_0 rfl h rfl
theorem oq_128 (h : c.data[pc]? = some 128) : decode c pc = .ok (.ior, 1) := dq_0 rfl h rfl
theorem oq_129 (h : c.data[pc]? = some 129) : decode c pc = .ok (.lor, 1) := dq_0 rfl h rfl
theorem oq_132 (h : c.data[pc]? = some 132) (h1 : c.data[pc + 1]? = some x) (h2 : c.data[pc + 2]? = some y) (hv : ((fun v w => .iinc v w) : Nat → Int → Instr) x.toNat (Reader.signed 8 y.toNat) = i) : decode c pc = .ok (i, 3) := dq_us (F := (fun v w => .iinc v w)) rfl rfl h h1 h2 hv
theorem oq_133 (h : c.data[pc]? = some 133) : decode c pc = .ok (.i2l, 1) := dq_0 rfl h rfl
theorem oq_145 (h : c.data[pc]? = some 145) : decode c pc = .ok (.i2b, 1) := dq_0 rfl h rfl
theorem oq_146 (h : c.data[pc]? = some 146) : decode c pc = .ok (.i2c, 1) := dq_0 rfl h rfl
theorem oq_148 (h : c.data[pc]? = some 148) : decode c pc = .ok (.lcmp, 1) := dq_0 rfl h rfl
theorem oq_153 {v : Int} (h : c.data[pc]? = some 153) (h1 : c.data[pc + 1]? = some x) (h2 : c.data[pc + 2]? = some y) (hv : Reader.signed 16 (x.toNat * 256 + y.toNat) = v) : decode c pc = .ok (.ifCond .eq v, 3) := dq_s2 (F := fun v => .ifCond .eq v) rfl rfl h h1 h2 hv
theorem oq_154 {v : Int} (h : c.data[pc]? = some 154) (h1 : c.data[pc + 1]? = some x) (h2 : c.data[pc + 2]? = some y) (hv : Reader.signed 16 (x.toNat * 256 + y.toNat) = v) : decode c pc = .ok (.ifCond .ne v, 3) := dq_s2 (F := fun v => .ifCond .ne v) rfl rfl h h1 h2 hv
theorem oq_155 {v : Int} (h : c.data[pc]? = some 155) (h1 : c.data[pc + 1]? = some x) (h2 : c.data[pc + 2]? = some y) (hv : Reader.signed 16 (x.toNat * 256 + y.toNat) = v) : decode c pc = .ok (.ifCond .lt v, 3) := dq_s2 (F := fun v => .ifCond .lt v) rfl rfl h h1 h2 hv
theorem oq_156 {v : Int} (h : c.data[pc]? = some 156) (h1 : c.data[pc + 1]? = some x) (h2 : c.data[pc + 2]? = some y) (hv : Reader.signed 16 (x.toNat * 256 + y.toNat) = v) : decode c pc = .ok (.ifCond .ge v, 3) := dq_s2 (F := fun v => .ifCond .ge v) rfl rfl h h1 h2 hv
theorem oq_157 {v : Int} (h : c.data[pc]? = some 157) (h1 : c.data[pc + 1]? = some x) (h2 : c.data[pc + 2]? = some y) (hv : Reader.signed 16 (x.toNat * 256 + y.toNat) = v) : decode c pc = .ok (.ifCond .gt v, 3) := dq_s2 (F := fun v => .ifCond .gt v) rfl rfl h h1 h2 hv
theorem oq_158 {v : Int} (h : c.data[pc]? = some 158) (h1 : c.data[pc + 1]? = some x) (h2 : c.data[pc + 2]? = some y) (hv : Reader.signed 16 (x.toNat * 256 + y.toNat) = v) : decode c pc = .ok (.ifCond .le v, 3) := dq_s2 (F := fun v => .ifCond .le v) rfl rfl h h1 h2 hv
theorem oq_159 {v : Int} (h : c.data[pc]? = some 159) (h1 : c.data[pc + 1]? = some x) (h2 : c.data[pc + 2]? = some y) (hv : Reader.signed 16 (x.toNat * 256 + y.toNat) = v) : decode c pc = .ok (.if_icmp .eq v, 3) := dq_s2 (F := fun v => .if_icmp .eq v) rfl rfl h h1 h2 hv
theorem oq_160 {v : Int} (h : c.data[pc]? = some 160) (h1 : c.data[pc + 1]? = some x) (h2 : c.data[pc + 2]? = some y) (hv : Reader.signed 16 (x.toNat * 256 + y.toNat) = v) : decode c pc = .ok (.if_icmp .ne v, 3) := dq_s2 (F := fun v => .if_icmp .ne v) rfl rfl h h1 h2 hv
theorem oq_161 {v : Int} (h : c.data[pc]? = some 161) (h1 : c.data[pc + 1]? = some x) (h2 : c.data[pc + 2]? = some y) (hv : Reader.signed 16 (x.toNat * 256 + y.toNat) = v) : decode c pc = .ok (.if_icmp .lt v, 3) := dq_s2 (F := fun v => .if_icmp .lt v) rfl rfl h h1 h2 hv
theorem oq_162 {v : Int} (h : c.data[pc]? = some 162) (h1 : c.data[pc + 1]? = some x) (h2 : c.data[pc + 2]? = some y) (hv : Reader.signed 16 (x.toNat * 256 + y.toNat) = v) : decode c pc = .ok (.if_icmp .ge v, 3) := dq_s2 (F := fun v => .if_icmp .ge v) rfl rfl h h1 h2 hv
theorem oq_163 {v : Int} (h : c.data[pc]? = some 163) (h1 : c.data[pc + 1]? = some x) (h2 : c.data[pc + 2]? = some y) (hv : Reader.signed 16 (x.toNat * 256 + y.toNat) = v) : decode c pc = .ok (.if_icmp .gt v, 3) := dq_s2 (F := fun v => .if_icmp .gt v) rfl rfl h h1 h2 hv
theorem oq_164 {v : Int} (h : c.data[pc]? = some 164) (h1 : c.data[pc + 1]? = some x) (h2 : c.data[pc + 2]? = some y) (hv : Reader.signed 16 (x.toNat * 256 + y.toNat) = v) : decode c pc = .ok (.if_icmp .le v, 3) := dq_s2 (F := fun v => .if_icmp .le v) rfl rfl h h1 h2 hv
theorem oq_167 {v : Int} (h : c.data[pc]? = some 167) (h1 : c.data[pc + 1]? = some x) (h2 : c.data[pc + 2]? = some y) (hv : Reader.signed 16 (x.toNat * 256 + y.toNat) = v) : decode c pc = .ok (.goto v, 3) := dq_s2 (F := fun v => .goto v) rfl rfl h h1 h2 hv
theorem oq_172 (h : c.data[pc]? = some 172) : decode c pc = .ok (.ireturn, 1) := dq_0 rfl h rfl
theorem oq_176 (h : c.data[pc]? = some 176) : decode c pc = .ok (.areturn, 1) := dq_0 rfl h rfl
theorem oq_177 (h : c.data[pc]? = some 177) : decode c pc = .ok (.return_, 1) := dq_0 rfl h rfl
theorem oq_178 (h : c.data[pc]? = some 178) (h1 : c.data[pc + 1]? = some x) (h2 : c.data[pc + 2]? = some y) (hv : ((fun v => .getstatic v) : Nat → Instr) (x.toNat * 256 + y.toNat) = i) : decode c pc = .ok (i, 3) := dq_u2 (F := (fun v => .getstatic v)) rfl rfl h h1 h2 hv
theorem oq_180 (h : c.data[pc]? = some 180) (h1 : c.data[pc + 1]? = some x) (h2 : c.data[pc + 2]? = some y) (hv : ((fun v => .getfield v) : Nat → Instr) (x.toNat * 256 + y.toNat) = i) : decode c pc = .ok (i, 3) := dq_u2 (F := (fun v => .getfield v)) rfl rfl h h1 h2 hv
theorem oq_181 (h : c.data[pc]? = some 181) (h1 : c.data[pc + 1]? = some x) (h2 : c.data[pc + 2]? = some y) (hv : ((fun v => .putfield v) : Nat → Instr) (x.toNat * 256 + y.toNat) = i) : decode c pc = .ok (i, 3) := dq_u2 (F := (fun v => .putfield v)) rfl rfl h h1 h2 hv
theorem oq_182 (h : c.data[pc]? = some 182) (h1 : c.data[pc + 1]? = some x) (h2 : c.data[pc + 2]? = some y) (hv : ((fun v => .invokevirtual v) : Nat → Instr) (x.toNat * 256 + y.toNat) = i) : decode c pc = .ok (i, 3) := dq_u2 (F := (fun v => .invokevirtual v)) rfl rfl h h1 h2 hv
theorem oq_183 (h : c.data[pc]? = some 183) (h1 : c.data[pc + 1]? = some x) (h2 : c.data[pc + 2]? = some y) (hv : ((fun v => .invokespecial v) : Nat → Instr) (x.toNat * 256 + y.toNat) = i) : decode c pc = .ok (i, 3) := dq_u2 (F := (fun v => .invokespecial v)) rfl rfl h h1 h2 hv
theorem oq_184 (h : c.data[pc]? = some 184) (h1 : c.data[pc + 1]? = some x) (h2 : c.data[pc + 2]? = some y) (hv : ((fun v => .invokestatic v) : Nat → Instr) (x.toNat * 256 + y.toNat) = i) : decode c pc = .ok (i, 3) := dq_u2 (F := (fun v => .invokestatic v)) rfl rfl h h1 h2 hv
theorem oq_187 (h : c.data[pc]? = some 187) (h1 : c.data[pc + 1]? = some x) (h2 : c.data[pc + 2]? = some y) (hv : ((fun v => .new v) : Nat → Instr) (x.toNat * 256 + y.toNat) = i) : decode c pc = .ok (i, 3) := dq_u2 (F := (fun v => .new v)) rfl rfl h h1 h2 hv
theorem oq_189 (h : c.data[pc]? = some 189) (h1 : c.data[pc + 1]? = some x) (h2 : c.data[pc + 2]? = some y) (hv : ((fun v => .anewarray v) : Nat → Instr) (x.toNat * 256 + y.toNat) = i) : decode c pc = .ok (i, 3) := dq_u2 (F := (fun v => .anewarray v)) rfl rfl h h1 h2 hv
theorem oq_190 (h : c.data[pc]? = some 190) : decode c pc = .ok (.arraylength, 1) := dq_0 rfl h rfl
theorem oq_191 (h : c.data[pc]? = some 191) : decode c pc = .ok (.athrow, 1) := dq_0 rfl h rfl
theorem oq_198 {v : Int} (h : c.data[pc]? = some 198) (h1 : c.data[pc + 1]? = some x) (h2 : c.data[pc + 2]? = some y) (hv : Reader.signed 16 (x.toNat * 256 + y.toNat) = v) : decode c pc = .ok (.ifnull v, 3) := dq_s2 (F := fun v => .ifnull v) rfl rfl h h1 h2 hv
theorem oq_199 {v : Int} (h : c.data[pc]? = some 199) (h1 : c.data[pc + 1]? = some x) (h2 : c.data[pc + 2]? = some y) (hv : Reader.signed 16 (x.toNat * 256 + y.toNat) = v) : decode c pc = .ok (.ifnonnull v, 3) := dq_s2 (F := fun v => .ifnonnull v) rfl rfl h h1 h2 hv
end OQ
