theorem dX1_init_0 : decode cX1_init 0 = .ok (.aload_n 0, 1) := by decide +kernel
theorem dX1_init_1 : decode cX1_init 1 = .ok (.invokespecial 3, 3) := by decide +kernel
theorem dX1_init_4 : decode cX1_init 4 = .ok (.aload_n 0, 1) := by decide +kernel
theorem dX1_init_5 : decode cX1_init 5 = .ok (.iconst 0, 1) := by decide +kernel
theorem dX1_init_6 : decode cX1_init 6 = .ok (.putfield 9, 3) := by decide +kernel
theorem dX1_init_9 : decode cX1_init 9 = .ok (.aload_n 0, 1) := by decide +kernel
theorem dX1_init_10 : decode cX1_init 10 = .ok (.bipush 40, 2) := by decide +kernel
theorem dX1_init_12 : decode cX1_init 12 = .ok (.newarray .int, 2) := by decide +kernel
theorem dX1_init_14 : decode cX1_init 14 = .ok (.putfield 15, 3) := by decide +kernel
theorem dX1_init_17 : decode cX1_init 17 = .ok (.aload_n 0, 1) := by decide +kernel
theorem dX1_init_18 : decode cX1_init 18 = .ok (.bipush 40, 2) := by decide +kernel
theorem dX1_init_20 : decode cX1_init 20 = .ok (.newarray .int, 2) := by decide +kernel
theorem dX1_init_22 : decode cX1_init 22 = .ok (.putfield 19, 3) := by decide +kernel
theorem dX1_init_25 : decode cX1_init 25 = .ok (.aload_n 0, 1) := by decide +kernel
theorem dX1_init_26 : decode cX1_init 26 = .ok (.bipush 40, 2) := by decide +kernel
theorem dX1_init_28 : decode cX1_init 28 = .ok (.newarray .int, 2) := by decide +kernel
theorem dX1_init_30 : decode cX1_init 30 = .ok (.putfield 22, 3) := by decide +kernel
theorem dX1_init_33 : decode cX1_init 33 = .ok (.aload_n 0, 1) := by decide +kernel
theorem dX1_init_34 : decode cX1_init 34 = .ok (.bipush 40, 2) := by decide +kernel
theorem dX1_init_36 : decode cX1_init 36 = .ok (.newarray .int, 2) := by decide +kernel
theorem dX1_init_38 : decode cX1_init 38 = .ok (.putfield 25, 3) := by decide +kernel
theorem dX1_init_41 : decode cX1_init 41 = .ok (.return_, 1) := by decide +kernel
abbrev mX1_init : MI := (yX1_init, cX1_init, 1, none)
theorem okX1_init : cok mX1_init 0 := ⟨tw146, tw5, by decide, by decide, by decide, by decide +kernel⟩
def fX1_init (M : Mem) (a0 : Int) : Option Mem :=
  if 0 ≤ a0 then if M.2.1 a0 = 1 then bM (mst M a0 0 0) fun M3 => bM (mnew M3 12 40) fun M5 => if M5.2.1 a0 = 1 then if -1 ≤ (M3.2.2.2 : Int) then bM (mst M5 a0 1 (M3.2.2.2 : Int)) fun M9 => bM (mnew M9 12 40) fun M11 => if M11.2.1 a0 = 1 then if -1 ≤ (M9.2.2.2 : Int) then bM (mst M11 a0 2 (M9.2.2.2 : Int)) fun M15 => bM (mnew M15 12 40) fun M17 => if M17.2.1 a0 = 1 then if -1 ≤ (M15.2.2.2 : Int) then bM (mst M17 a0 3 (M15.2.2.2 : Int)) fun M21 => bM (mnew M21 12 40) fun M23 => if M23.2.1 a0 = 1 then if -1 ≤ (M21.2.2.2 : Int) then bM (mst M23 a0 4 (M21.2.2.2 : Int)) fun M27 => some M27 else none else none else none else none else none else none else none else none else none else none
set_option maxRecDepth 100000 in
set_option maxHeartbeats 4000000 in
theorem kX1_init (d : Nat) (hd : 1 ≤ d) (M : Mem) (a0 : Int) : Ct mX1_init d 4 160 [pA a0] M dV (fX1_init M a0) := by
  obtain ⟨d, rfl⟩ : ∃ k, d = k + 1 := ⟨d - 1, by omega⟩
  refine Ct.of 0 (by decide +kernel) rfl ?_
  unfold fX1_init
  refine v_aload_n dX1_init_0 rfl ?_
  refine v_if (fun h1 => ?_)
  refine v_objInit (mi := mX1_init) h1 tw147 tw26 tw27 (Nat.le_of_ble_eq_true rfl) dX1_init_1 ?_
  refine v_aload_n dX1_init_4 rfl ?_
  refine v_iconst dX1_init_5 (by decide) ?_
  refine v_if (fun h2 => ?_)
  refine v_put (x := 0) 1 0 rfl inX1 (by decide) tw148 (Or.inl rfl) rfl dX1_init_6 h2 rfl id ?_
  refine v_bM (fun M3 e4 => ?_)
  refine v_aload_n dX1_init_9 rfl ?_
  refine v_bipush dX1_init_10 (by decide) ?_
  refine v_newarray (t := .int) (n := 40) 12 (by decide) (by decide) tw121 dX1_init_12 ?_
  refine v_bM (fun M5 e6 => ?_)
  refine v_if (fun h7 => ?_)
  refine v_if (fun h8 => ?_)
  refine v_put (x := (M3.2.2.2 : Int)) 1 1 rfl inX1 (by decide) tw152 (Or.inr ⟨rfl, rfl, rfl⟩) rfl dX1_init_14 h7 rfl (fun _ => h8) ?_
  refine v_bM (fun M9 e10 => ?_)
  refine v_aload_n dX1_init_17 rfl ?_
  refine v_bipush dX1_init_18 (by decide) ?_
  refine v_newarray (t := .int) (n := 40) 12 (by decide) (by decide) tw121 dX1_init_20 ?_
  refine v_bM (fun M11 e12 => ?_)
  refine v_if (fun h13 => ?_)
  refine v_if (fun h14 => ?_)
  refine v_put (x := (M9.2.2.2 : Int)) 1 2 rfl inX1 (by decide) tw155 (Or.inr ⟨rfl, rfl, rfl⟩) rfl dX1_init_22 h13 rfl (fun _ => h14) ?_
  refine v_bM (fun M15 e16 => ?_)
  refine v_aload_n dX1_init_25 rfl ?_
  refine v_bipush dX1_init_26 (by decide) ?_
  refine v_newarray (t := .int) (n := 40) 12 (by decide) (by decide) tw121 dX1_init_28 ?_
  refine v_bM (fun M17 e18 => ?_)
  refine v_if (fun h19 => ?_)
  refine v_if (fun h20 => ?_)
  refine v_put (x := (M15.2.2.2 : Int)) 1 3 rfl inX1 (by decide) tw158 (Or.inr ⟨rfl, rfl, rfl⟩) rfl dX1_init_30 h19 rfl (fun _ => h20) ?_
  refine v_bM (fun M21 e22 => ?_)
  refine v_aload_n dX1_init_33 rfl ?_
  refine v_bipush dX1_init_34 (by decide) ?_
  refine v_newarray (t := .int) (n := 40) 12 (by decide) (by decide) tw121 dX1_init_36 ?_
  refine v_bM (fun M23 e24 => ?_)
  refine v_if (fun h25 => ?_)
  refine v_if (fun h26 => ?_)
  refine v_put (x := (M21.2.2.2 : Int)) 1 4 rfl inX1 (by decide) tw161 (Or.inr ⟨rfl, rfl, rfl⟩) rfl dX1_init_38 h25 rfl (fun _ => h26) ?_
  refine v_bM (fun M27 e28 => ?_)
  exact v_return dX1_init_41 rfl rfl
theorem dX1_clear_0 : decode cX1_clear 0 = .ok (.aload_n 0, 1) := by decide +kernel
theorem dX1_clear_1 : decode cX1_clear 1 = .ok (.iconst 0, 1) := by decide +kernel
theorem dX1_clear_2 : decode cX1_clear 2 = .ok (.putfield 9, 3) := by decide +kernel
theorem dX1_clear_5 : decode cX1_clear 5 = .ok (.return_, 1) := by decide +kernel
abbrev mX1_clear : MI := (yX1_clear, cX1_clear, 1, none)
theorem okX1_clear : cok mX1_clear 0 := ⟨tw483, tw5, by decide, by decide, by decide, by decide +kernel⟩
def fX1_clear (M : Mem) (a0 : Int) : Option Mem :=
  if M.2.1 a0 = 1 then bM (mst M a0 0 0) fun M2 => some M2 else none
set_option maxRecDepth 100000 in
set_option maxHeartbeats 4000000 in
theorem kX1_clear (d : Nat) (hd : 0 ≤ d) (M : Mem) (a0 : Int) : Ct mX1_clear d 0 0 [pA a0] M dV (fX1_clear M a0) := by
  refine Ct.of 0 (by decide +kernel) rfl ?_
  unfold fX1_clear
  refine v_aload_n dX1_clear_0 rfl ?_
  refine v_iconst dX1_clear_1 (by decide) ?_
  refine v_if (fun h1 => ?_)
  refine v_put (x := 0) 1 0 rfl inX1 (by decide) tw148 (Or.inl rfl) rfl dX1_clear_2 h1 rfl id ?_
  refine v_bM (fun M2 e3 => ?_)
  exact v_return dX1_clear_5 rfl rfl
theorem dX1_add_0 : decode cX1_add 0 = .ok (.aload_n 0, 1) := by decide +kernel
theorem dX1_add_1 : decode cX1_add 1 = .ok (.getfield 9, 3) := by decide +kernel
theorem dX1_add_4 : decode cX1_add 4 = .ok (.bipush 40, 2) := by decide +kernel
theorem dX1_add_6 : decode cX1_add 6 = .ok (.if_icmp .ge 54, 3) := by decide +kernel
theorem dX1_add_9 : decode cX1_add 9 = .ok (.aload_n 0, 1) := by decide +kernel
theorem dX1_add_10 : decode cX1_add 10 = .ok (.getfield 15, 3) := by decide +kernel
theorem dX1_add_13 : decode cX1_add 13 = .ok (.aload_n 0, 1) := by decide +kernel
theorem dX1_add_14 : decode cX1_add 14 = .ok (.getfield 9, 3) := by decide +kernel
theorem dX1_add_17 : decode cX1_add 17 = .ok (.iload_n 1, 1) := by decide +kernel
theorem dX1_add_18 : decode cX1_add 18 = .ok (.iastore, 1) := by decide +kernel
theorem dX1_add_19 : decode cX1_add 19 = .ok (.aload_n 0, 1) := by decide +kernel
theorem dX1_add_20 : decode cX1_add 20 = .ok (.getfield 19, 3) := by decide +kernel
theorem dX1_add_23 : decode cX1_add 23 = .ok (.aload_n 0, 1) := by decide +kernel
theorem dX1_add_24 : decode cX1_add 24 = .ok (.getfield 9, 3) := by decide +kernel
theorem dX1_add_27 : decode cX1_add 27 = .ok (.iload_n 2, 1) := by decide +kernel
theorem dX1_add_28 : decode cX1_add 28 = .ok (.iastore, 1) := by decide +kernel
theorem dX1_add_29 : decode cX1_add 29 = .ok (.aload_n 0, 1) := by decide +kernel
theorem dX1_add_30 : decode cX1_add 30 = .ok (.getfield 22, 3) := by decide +kernel
theorem dX1_add_33 : decode cX1_add 33 = .ok (.aload_n 0, 1) := by decide +kernel
theorem dX1_add_34 : decode cX1_add 34 = .ok (.getfield 9, 3) := by decide +kernel
theorem dX1_add_37 : decode cX1_add 37 = .ok (.iload_n 3, 1) := by decide +kernel
theorem dX1_add_38 : decode cX1_add 38 = .ok (.iastore, 1) := by decide +kernel
theorem dX1_add_39 : decode cX1_add 39 = .ok (.aload_n 0, 1) := by decide +kernel
theorem dX1_add_40 : decode cX1_add 40 = .ok (.getfield 25, 3) := by decide +kernel
theorem dX1_add_43 : decode cX1_add 43 = .ok (.aload_n 0, 1) := by decide +kernel
theorem dX1_add_44 : decode cX1_add 44 = .ok (.getfield 9, 3) := by decide +kernel
theorem dX1_add_47 : decode cX1_add 47 = .ok (.iload 4, 2) := by decide +kernel
theorem dX1_add_49 : decode cX1_add 49 = .ok (.iastore, 1) := by decide +kernel
theorem dX1_add_50 : decode cX1_add 50 = .ok (.aload_n 0, 1) := by decide +kernel
theorem dX1_add_51 : decode cX1_add 51 = .ok (.dup, 1) := by decide +kernel
theorem dX1_add_52 : decode cX1_add 52 = .ok (.getfield 9, 3) := by decide +kernel
theorem dX1_add_55 : decode cX1_add 55 = .ok (.iconst 1, 1) := by decide +kernel
theorem dX1_add_56 : decode cX1_add 56 = .ok (.iadd, 1) := by decide +kernel
theorem dX1_add_57 : decode cX1_add 57 = .ok (.putfield 9, 3) := by decide +kernel
theorem dX1_add_60 : decode cX1_add 60 = .ok (.return_, 1) := by decide +kernel
abbrev mX1_add : MI := (yX1_add, cX1_add, 5, none)
theorem okX1_add : cok mX1_add 4 := ⟨tw637, tw5, by decide, by decide, by decide, by decide +kernel⟩
def fX1_add (M : Mem) (a0 a1 a2 a3 a4 : Int) : Option Mem :=
  if M.2.1 a0 = 1 then if M.1 a0 0 < 40 then (if M.2.1 (M.1 a0 1) = 12 ∧ 0 ≤ (M.1 a0 0) ∧ (M.1 a0 0) < M.2.2.1 (M.1 a0 1) then bM (mst M (M.1 a0 1) (M.1 a0 0) a1) fun M4 => if M4.2.1 (M4.1 a0 2) = 12 ∧ 0 ≤ (M4.1 a0 0) ∧ (M4.1 a0 0) < M4.2.2.1 (M4.1 a0 2) then bM (mst M4 (M4.1 a0 2) (M4.1 a0 0) a2) fun M7 => if M7.2.1 (M7.1 a0 3) = 12 ∧ 0 ≤ (M7.1 a0 0) ∧ (M7.1 a0 0) < M7.2.2.1 (M7.1 a0 3) then bM (mst M7 (M7.1 a0 3) (M7.1 a0 0) a3) fun M10 => if M10.2.1 (M10.1 a0 4) = 12 ∧ 0 ≤ (M10.1 a0 0) ∧ (M10.1 a0 0) < M10.2.2.1 (M10.1 a0 4) then bM (mst M10 (M10.1 a0 4) (M10.1 a0 0) a4) fun M13 => bM (mst M13 a0 0 (w32 ((M13.1 a0 0) + 1))) fun M15 => some M15 else none else none else none else none) else (some M) else none
set_option maxRecDepth 100000 in
set_option maxHeartbeats 4000000 in
theorem kX1_add (d : Nat) (hd : 0 ≤ d) (M : Mem) (a0 a1 a2 a3 a4 : Int) : Ct mX1_add d 0 0 [pA a0, pI a1, pI a2, pI a3, pI a4] M dV (fX1_add M a0 a1 a2 a3 a4) := by
  refine Ct.of 0 (by decide +kernel) rfl ?_
  unfold fX1_add
  refine v_aload_n dX1_add_0 rfl ?_
  refine v_if (fun h1 => ?_)
  refine v_get (v := pI (M.1 a0 0)) 1 0 rfl inX1 (by decide) tw148 dX1_add_1 h1 rfl ?_
  refine v_bipush dX1_add_4 (by decide) ?_
  refine v_icmp_ge (tgt := 60) dX1_add_6 (by decide) (fun c2 => ?_) (fun c2 => ?_)
  · refine v_aload_n dX1_add_9 rfl ?_
    refine v_get (v := pA (M.1 a0 1)) 1 1 rfl inX1 (by decide) tw152 dX1_add_10 h1 rfl ?_
    refine v_aload_n dX1_add_13 rfl ?_
    refine v_get (v := pI (M.1 a0 0)) 1 0 rfl inX1 (by decide) tw148 dX1_add_14 h1 rfl ?_
    refine v_iload_n dX1_add_17 rfl ?_
    refine v_if (fun h3 => ?_)
    refine v_iastore h3 dX1_add_18 ?_
    refine v_bM (fun M4 e5 => ?_)
    refine v_aload_n dX1_add_19 rfl ?_
    refine v_get (v := pA (M4.1 a0 2)) 1 2 rfl inX1 (by decide) tw155 dX1_add_20 (by rw [e5]; exact h1) rfl ?_
    refine v_aload_n dX1_add_23 rfl ?_
    refine v_get (v := pI (M4.1 a0 0)) 1 0 rfl inX1 (by decide) tw148 dX1_add_24 (by rw [e5]; exact h1) rfl ?_
    refine v_iload_n dX1_add_27 rfl ?_
    refine v_if (fun h6 => ?_)
    refine v_iastore h6 dX1_add_28 ?_
    refine v_bM (fun M7 e8 => ?_)
    refine v_aload_n dX1_add_29 rfl ?_
    refine v_get (v := pA (M7.1 a0 3)) 1 3 rfl inX1 (by decide) tw158 dX1_add_30 (by rw [e8, e5]; exact h1) rfl ?_
    refine v_aload_n dX1_add_33 rfl ?_
    refine v_get (v := pI (M7.1 a0 0)) 1 0 rfl inX1 (by decide) tw148 dX1_add_34 (by rw [e8, e5]; exact h1) rfl ?_
    refine v_iload_n dX1_add_37 rfl ?_
    refine v_if (fun h9 => ?_)
    refine v_iastore h9 dX1_add_38 ?_
    refine v_bM (fun M10 e11 => ?_)
    refine v_aload_n dX1_add_39 rfl ?_
    refine v_get (v := pA (M10.1 a0 4)) 1 4 rfl inX1 (by decide) tw161 dX1_add_40 (by rw [e11, e8, e5]; exact h1) rfl ?_
    refine v_aload_n dX1_add_43 rfl ?_
    refine v_get (v := pI (M10.1 a0 0)) 1 0 rfl inX1 (by decide) tw148 dX1_add_44 (by rw [e11, e8, e5]; exact h1) rfl ?_
    refine v_iload dX1_add_47 rfl ?_
    refine v_if (fun h12 => ?_)
    refine v_iastore h12 dX1_add_49 ?_
    refine v_bM (fun M13 e14 => ?_)
    refine v_aload_n dX1_add_50 rfl ?_
    refine v_dup dX1_add_51 (by intro z hz; cases hz) ?_
    refine v_get (v := pI (M13.1 a0 0)) 1 0 rfl inX1 (by decide) tw148 dX1_add_52 (by rw [e14, e11, e8, e5]; exact h1) rfl ?_
    refine v_iconst dX1_add_55 (by decide) ?_
    refine v_iadd dX1_add_56 ?_
    refine v_put (x := w32 ((M13.1 a0 0) + 1)) 1 0 rfl inX1 (by decide) tw148 (Or.inl rfl) rfl dX1_add_57 (by rw [e14, e11, e8, e5]; exact h1) rfl id ?_
    refine v_bM (fun M15 e16 => ?_)
    exact v_return dX1_add_60 rfl rfl
  · exact v_return dX1_add_60 rfl rfl
theorem dX10_copyRow_0 : decode cX10_copyRow 0 = .ok (.aload_n 0, 1) := by decide +kernel
theorem dX10_copyRow_1 : decode cX10_copyRow 1 = .ok (.iconst 0, 1) := by decide +kernel
theorem dX10_copyRow_2 : decode cX10_copyRow 2 = .ok (.aload_n 1, 1) := by decide +kernel
theorem dX10_copyRow_3 : decode cX10_copyRow 3 = .ok (.iconst 0, 1) := by decide +kernel
theorem dX10_copyRow_4 : decode cX10_copyRow 4 = .ok (.aload_n 0, 1) := by decide +kernel
theorem dX10_copyRow_5 : decode cX10_copyRow 5 = .ok (.arraylength, 1) := by decide +kernel
theorem dX10_copyRow_6 : decode cX10_copyRow 6 = .ok (.aload_n 1, 1) := by decide +kernel
theorem dX10_copyRow_7 : decode cX10_copyRow 7 = .ok (.arraylength, 1) := by decide +kernel
theorem dX10_copyRow_8 : decode cX10_copyRow 8 = .ok (.invokestatic 344, 3) := by decide +kernel
theorem dX10_copyRow_11 : decode cX10_copyRow 11 = .ok (.invokestatic 349, 3) := by decide +kernel
theorem dX10_copyRow_14 : decode cX10_copyRow 14 = .ok (.return_, 1) := by decide +kernel
abbrev mX10_copyRow : MI := (yX10_copyRow, cX10_copyRow, 2, none)
theorem okX10_copyRow : cok mX10_copyRow 2 := ⟨tw652, tw1, by decide, by decide, by decide, by decide +kernel⟩
def fX10_copyRow (M : Mem) (a0 a1 : Int) : Option Mem :=
  if 11 ≤ M.2.1 a0 then if 11 ≤ M.2.1 a1 then if (M.2.1 a0 = 11 ∨ M.2.1 a0 = 12) ∧ M.2.1 a1 = M.2.1 a0 ∧ 0 ≤ (imin (M.2.2.1 a0) (M.2.2.1 a1)) ∧ (imin (M.2.2.1 a0) (M.2.2.1 a1)) ≤ M.2.2.1 a0 ∧ (imin (M.2.2.1 a0) (M.2.2.1 a1)) ≤ M.2.2.1 a1 then bM (mcp M a0 a1 (imin (M.2.2.1 a0) (M.2.2.1 a1))) fun M4 => some M4 else none else none else none
set_option maxRecDepth 100000 in
set_option maxHeartbeats 4000000 in
theorem kX10_copyRow (d : Nat) (hd : 1 ≤ d) (M : Mem) (a0 a1 : Int) : Ct mX10_copyRow d 0 0 [pA a0, pA a1] M dV (fX10_copyRow M a0 a1) := by
  obtain ⟨d, rfl⟩ : ∃ k, d = k + 1 := ⟨d - 1, by omega⟩
  refine Ct.of 0 (by decide +kernel) rfl ?_
  unfold fX10_copyRow
  refine v_aload_n dX10_copyRow_0 rfl ?_
  refine v_iconst dX10_copyRow_1 (by decide) ?_
  refine v_aload_n dX10_copyRow_2 rfl ?_
  refine v_iconst dX10_copyRow_3 (by decide) ?_
  refine v_aload_n dX10_copyRow_4 rfl ?_
  refine v_if (fun h1 => ?_)
  refine v_alen h1 dX10_copyRow_5 ?_
  refine v_aload_n dX10_copyRow_6 rfl ?_
  refine v_if (fun h2 => ?_)
  refine v_alen h2 dX10_copyRow_7 ?_
  refine v_mmin (mi := mX10_copyRow) tw653 tw469 tw12 tw470 (Nat.le_of_ble_eq_true rfl) dX10_copyRow_8 ?_
  refine v_if (fun h3 => ?_)
  refine v_acopy (mi := mX10_copyRow) h3 tw654 tw655 tw656 tw17 (Nat.le_of_ble_eq_true rfl) dX10_copyRow_11 ?_
  refine v_bM (fun M4 e5 => ?_)
  exact v_return dX10_copyRow_14 rfl rfl
theorem dX1_copy_0 : decode cX1_copy 0 = .ok (.aload_n 0, 1) := by decide +kernel
theorem dX1_copy_1 : decode cX1_copy 1 = .ok (.aload_n 1, 1) := by decide +kernel
theorem dX1_copy_2 : decode cX1_copy 2 = .ok (.getfield 9, 3) := by decide +kernel
theorem dX1_copy_5 : decode cX1_copy 5 = .ok (.putfield 9, 3) := by decide +kernel
theorem dX1_copy_8 : decode cX1_copy 8 = .ok (.aload_n 1, 1) := by decide +kernel
theorem dX1_copy_9 : decode cX1_copy 9 = .ok (.getfield 15, 3) := by decide +kernel
theorem dX1_copy_12 : decode cX1_copy 12 = .ok (.aload_n 0, 1) := by decide +kernel
theorem dX1_copy_13 : decode cX1_copy 13 = .ok (.getfield 15, 3) := by decide +kernel
theorem dX1_copy_16 : decode cX1_copy 16 = .ok (.invokestatic 28, 3) := by decide +kernel
theorem dX1_copy_19 : decode cX1_copy 19 = .ok (.aload_n 1, 1) := by decide +kernel
theorem dX1_copy_20 : decode cX1_copy 20 = .ok (.getfield 19, 3) := by decide +kernel
theorem dX1_copy_23 : decode cX1_copy 23 = .ok (.aload_n 0, 1) := by decide +kernel
theorem dX1_copy_24 : decode cX1_copy 24 = .ok (.getfield 19, 3) := by decide +kernel
theorem dX1_copy_27 : decode cX1_copy 27 = .ok (.invokestatic 28, 3) := by decide +kernel
theorem dX1_copy_30 : decode cX1_copy 30 = .ok (.aload_n 1, 1) := by decide +kernel
theorem dX1_copy_31 : decode cX1_copy 31 = .ok (.getfield 22, 3) := by decide +kernel
theorem dX1_copy_34 : decode cX1_copy 34 = .ok (.aload_n 0, 1) := by decide +kernel
theorem dX1_copy_35 : decode cX1_copy 35 = .ok (.getfield 22, 3) := by decide +kernel
theorem dX1_copy_38 : decode cX1_copy 38 = .ok (.invokestatic 28, 3) := by decide +kernel
theorem dX1_copy_41 : decode cX1_copy 41 = .ok (.aload_n 1, 1) := by decide +kernel
theorem dX1_copy_42 : decode cX1_copy 42 = .ok (.getfield 25, 3) := by decide +kernel
theorem dX1_copy_45 : decode cX1_copy 45 = .ok (.aload_n 0, 1) := by decide +kernel
theorem dX1_copy_46 : decode cX1_copy 46 = .ok (.getfield 25, 3) := by decide +kernel
theorem dX1_copy_49 : decode cX1_copy 49 = .ok (.invokestatic 28, 3) := by decide +kernel
theorem dX1_copy_52 : decode cX1_copy 52 = .ok (.return_, 1) := by decide +kernel
abbrev mX1_copy : MI := (yX1_copy, cX1_copy, 2, none)
theorem okX1_copy : cok mX1_copy 1 := ⟨tw664, tw5, by decide, by decide, by decide, by decide +kernel⟩
def fX1_copy (M : Mem) (a0 a1 : Int) : Option Mem :=
  if M.2.1 a1 = 1 then if M.2.1 a0 = 1 then bM (mst M a0 0 (M.1 a1 0)) fun M3 => (fX10_copyRow M3 (M3.1 a1 1) (M3.1 a0 1)).bind fun r5 => if r5.2.1 a1 = 1 then if r5.2.1 a0 = 1 then (fX10_copyRow r5 (r5.1 a1 2) (r5.1 a0 2)).bind fun r9 => if r9.2.1 a1 = 1 then if r9.2.1 a0 = 1 then (fX10_copyRow r9 (r9.1 a1 3) (r9.1 a0 3)).bind fun r13 => if r13.2.1 a1 = 1 then if r13.2.1 a0 = 1 then (fX10_copyRow r13 (r13.1 a1 4) (r13.1 a0 4)).bind fun r17 => some r17 else none else none else none else none else none else none else none else none
set_option maxRecDepth 100000 in
set_option maxHeartbeats 4000000 in
theorem kX1_copy (d : Nat) (hd : 2 ≤ d) (M : Mem) (a0 a1 : Int) : Ct mX1_copy d 0 0 [pA a0, pA a1] M dV (fX1_copy M a0 a1) := by
  obtain ⟨d, rfl⟩ : ∃ k, d = k + 1 := ⟨d - 1, by omega⟩
  refine Ct.of 0 (by decide +kernel) rfl ?_
  unfold fX1_copy
  refine v_aload_n dX1_copy_0 rfl ?_
  refine v_aload_n dX1_copy_1 rfl ?_
  refine v_if (fun h1 => ?_)
  refine v_get (v := pI (M.1 a1 0)) 1 0 rfl inX1 (by decide) tw148 dX1_copy_2 h1 rfl ?_
  refine v_if (fun h2 => ?_)
  refine v_put (x := M.1 a1 0) 1 0 rfl inX1 (by decide) tw148 (Or.inl rfl) rfl dX1_copy_5 h2 rfl id ?_
  refine v_bM (fun M3 e4 => ?_)
  refine v_aload_n dX1_copy_8 rfl ?_
  refine v_get (v := pA (M3.1 a1 1)) 1 1 rfl inX1 (by decide) tw152 dX1_copy_9 (by rw [e4]; exact h1) rfl ?_
  refine v_aload_n dX1_copy_12 rfl ?_
  refine v_get (v := pA (M3.1 a0 1)) 1 1 rfl inX1 (by decide) tw152 dX1_copy_13 (by rw [e4]; exact h2) rfl ?_
  refine v_cS (mi := mX1_copy) (As := [pA (M3.1 a1 1), pA (M3.1 a0 1)]) (st := []) (kX10_copyRow d (by omega) _ _ _) okX10_copyRow (Or.inr nw10) tw651 rfl (Nat.le_of_ble_eq_true rfl) dX1_copy_16 (fun r5 => []) (fun r5 => r5) (fun _ => rfl) (fun _ => rfl) (fun r5 h6 => ?_) rfl
  refine v_aload_n dX1_copy_19 rfl ?_
  refine v_if (fun h7 => ?_)
  refine v_get (v := pA (r5.1 a1 2)) 1 2 rfl inX1 (by decide) tw155 dX1_copy_20 h7 rfl ?_
  refine v_aload_n dX1_copy_23 rfl ?_
  refine v_if (fun h8 => ?_)
  refine v_get (v := pA (r5.1 a0 2)) 1 2 rfl inX1 (by decide) tw155 dX1_copy_24 h8 rfl ?_
  refine v_cS (mi := mX1_copy) (As := [pA (r5.1 a1 2), pA (r5.1 a0 2)]) (st := []) (kX10_copyRow d (by omega) _ _ _) okX10_copyRow (Or.inr nw10) tw651 rfl (Nat.le_of_ble_eq_true rfl) dX1_copy_27 (fun r9 => []) (fun r9 => r9) (fun _ => rfl) (fun _ => rfl) (fun r9 h10 => ?_) rfl
  refine v_aload_n dX1_copy_30 rfl ?_
  refine v_if (fun h11 => ?_)
  refine v_get (v := pA (r9.1 a1 3)) 1 3 rfl inX1 (by decide) tw158 dX1_copy_31 h11 rfl ?_
  refine v_aload_n dX1_copy_34 rfl ?_
  refine v_if (fun h12 => ?_)
  refine v_get (v := pA (r9.1 a0 3)) 1 3 rfl inX1 (by decide) tw158 dX1_copy_35 h12 rfl ?_
  refine v_cS (mi := mX1_copy) (As := [pA (r9.1 a1 3), pA (r9.1 a0 3)]) (st := []) (kX10_copyRow d (by omega) _ _ _) okX10_copyRow (Or.inr nw10) tw651 rfl (Nat.le_of_ble_eq_true rfl) dX1_copy_38 (fun r13 => []) (fun r13 => r13) (fun _ => rfl) (fun _ => rfl) (fun r13 h14 => ?_) rfl
  refine v_aload_n dX1_copy_41 rfl ?_
  refine v_if (fun h15 => ?_)
  refine v_get (v := pA (r13.1 a1 4)) 1 4 rfl inX1 (by decide) tw161 dX1_copy_42 h15 rfl ?_
  refine v_aload_n dX1_copy_45 rfl ?_
  refine v_if (fun h16 => ?_)
  refine v_get (v := pA (r13.1 a0 4)) 1 4 rfl inX1 (by decide) tw161 dX1_copy_46 h16 rfl ?_
  refine v_cS (mi := mX1_copy) (As := [pA (r13.1 a1 4), pA (r13.1 a0 4)]) (st := []) (kX10_copyRow d (by omega) _ _ _) okX10_copyRow (Or.inr nw10) tw651 rfl (Nat.le_of_ble_eq_true rfl) dX1_copy_49 (fun r17 => []) (fun r17 => r17) (fun _ => rfl) (fun _ => rfl) (fun r17 h18 => ?_) rfl
  exact v_return dX1_copy_52 rfl rfl
theorem dX10_fillRow_0 : decode cX10_fillRow 0 = .ok (.iconst 0, 1) := by decide +kernel
theorem dX10_fillRow_1 : decode cX10_fillRow 1 = .ok (.istore_n 2, 1) := by decide +kernel
theorem dX10_fillRow_2 : decode cX10_fillRow 2 = .ok (.iload_n 2, 1) := by decide +kernel
theorem dX10_fillRow_3 : decode cX10_fillRow 3 = .ok (.aload_n 0, 1) := by decide +kernel
theorem dX10_fillRow_4 : decode cX10_fillRow 4 = .ok (.arraylength, 1) := by decide +kernel
theorem dX10_fillRow_5 : decode cX10_fillRow 5 = .ok (.if_icmp .ge 13, 3) := by decide +kernel
theorem dX10_fillRow_8 : decode cX10_fillRow 8 = .ok (.aload_n 0, 1) := by decide +kernel
theorem dX10_fillRow_9 : decode cX10_fillRow 9 = .ok (.iload_n 2, 1) := by decide +kernel
theorem dX10_fillRow_10 : decode cX10_fillRow 10 = .ok (.iload_n 1, 1) := by decide +kernel
theorem dX10_fillRow_11 : decode cX10_fillRow 11 = .ok (.iastore, 1) := by decide +kernel
theorem dX10_fillRow_12 : decode cX10_fillRow 12 = .ok (.iinc 2 1, 3) := by decide +kernel
theorem dX10_fillRow_15 : decode cX10_fillRow 15 = .ok (.goto (-13), 3) := by decide +kernel
theorem dX10_fillRow_18 : decode cX10_fillRow 18 = .ok (.return_, 1) := by decide +kernel
abbrev mX10_fillRow : MI := (yX10_fillRow, cX10_fillRow, 3, none)
theorem okX10_fillRow : cok mX10_fillRow 2 := ⟨tw53, tw1, by decide, by decide, by decide, by decide +kernel⟩
def fX10_fillRow (M : Mem) (a0 a1 : Int) : Option Mem :=
  iterC (fun (rec1 : (Int × Mem) → Option Mem) (s2 : Int × Mem) => if 11 ≤ s2.2.2.1 a0 then if s2.1 < s2.2.2.2.1 a0 then (if s2.2.2.1 a0 = 12 ∧ 0 ≤ s2.1 ∧ s2.1 < s2.2.2.2.1 a0 then bM (mst s2.2 a0 s2.1 a1) fun M6 => rec1 (w32 (s2.1 + 1), M6) else none) else (some s2.2) else none) BIG (0, M)
set_option maxRecDepth 100000 in
set_option maxHeartbeats 4000000 in
theorem kX10_fillRow (d : Nat) (hd : 0 ≤ d) (M : Mem) (a0 a1 : Int) : Ct mX10_fillRow d 0 0 [pA a0, pI a1] M dV (fX10_fillRow M a0 a1) := by
  refine Ct.of 1 (by decide +kernel) rfl ?_
  unfold fX10_fillRow
  refine v_iconst dX10_fillRow_0 (by decide) ?_
  refine v_istore_n (ls' := [some (pA a0), some (pI a1), some (pI 0)]) dX10_fillRow_1 (by decide) rfl ?_
  refine v_loop (fun (s2 : Int × Mem) => [some (pA a0), some (pI a1), some (pI s2.1)]) (fun (s2 : Int × Mem) => s2.2) (s0 := (0, M)) ?_
  intro rec1 hrec1 s2
  refine v_iload_n dX10_fillRow_2 rfl ?_
  refine v_aload_n dX10_fillRow_3 rfl ?_
  refine v_if (fun h3 => ?_)
  refine v_alen h3 dX10_fillRow_4 ?_
  refine v_icmp_ge (tgt := 18) dX10_fillRow_5 (by decide) (fun c4 => ?_) (fun c4 => ?_)
  · refine v_aload_n dX10_fillRow_8 rfl ?_
    refine v_iload_n dX10_fillRow_9 rfl ?_
    refine v_iload_n dX10_fillRow_10 rfl ?_
    refine v_if (fun h5 => ?_)
    refine v_iastore h5 dX10_fillRow_11 ?_
    refine v_bM (fun M6 e7 => ?_)
    refine v_iinc (ls' := [some (pA a0), some (pI a1), some (pI (w32 (s2.1 + 1)))]) dX10_fillRow_12 (by decide) rfl rfl ?_
    refine v_goto (tgt := 2) dX10_fillRow_15 (by decide) ?_
    exact hrec1 (w32 (s2.1 + 1), M6)
  · exact v_return dX10_fillRow_18 rfl rfl
theorem dX4_clear_0 : decode cX4_clear 0 = .ok (.aload_n 0, 1) := by decide +kernel
theorem dX4_clear_1 : decode cX4_clear 1 = .ok (.iconst 0, 1) := by decide +kernel
theorem dX4_clear_2 : decode cX4_clear 2 = .ok (.putfield 9, 3) := by decide +kernel
theorem dX4_clear_5 : decode cX4_clear 5 = .ok (.aload_n 0, 1) := by decide +kernel
theorem dX4_clear_6 : decode cX4_clear 6 = .ok (.getfield 22, 3) := by decide +kernel
theorem dX4_clear_9 : decode cX4_clear 9 = .ok (.iconst (-1), 1) := by decide +kernel
theorem dX4_clear_10 : decode cX4_clear 10 = .ok (.invokestatic 28, 3) := by decide +kernel
theorem dX4_clear_13 : decode cX4_clear 13 = .ok (.return_, 1) := by decide +kernel
abbrev mX4_clear : MI := (yX4_clear, cX4_clear, 1, none)
theorem okX4_clear : cok mX4_clear 0 := ⟨tw183, tw6, by decide, by decide, by decide, by decide +kernel⟩
def fX4_clear (M : Mem) (a0 : Int) : Option Mem :=
  if M.2.1 a0 = 4 then bM (mst M a0 0 0) fun M2 => (fX10_fillRow M2 (M2.1 a0 3) (-1)).bind fun r4 => some r4 else none
set_option maxRecDepth 100000 in
set_option maxHeartbeats 4000000 in
theorem kX4_clear (d : Nat) (hd : 1 ≤ d) (M : Mem) (a0 : Int) : Ct mX4_clear d 0 0 [pA a0] M dV (fX4_clear M a0) := by
  obtain ⟨d, rfl⟩ : ∃ k, d = k + 1 := ⟨d - 1, by omega⟩
  refine Ct.of 0 (by decide +kernel) rfl ?_
  unfold fX4_clear
  refine v_aload_n dX4_clear_0 rfl ?_
  refine v_iconst dX4_clear_1 (by decide) ?_
  refine v_if (fun h1 => ?_)
  refine v_put (x := 0) 4 0 rfl inX4 (by decide) tw185 (Or.inl rfl) rfl dX4_clear_2 h1 rfl id ?_
  refine v_bM (fun M2 e3 => ?_)
  refine v_aload_n dX4_clear_5 rfl ?_
  refine v_get (v := pA (M2.1 a0 3)) 4 3 rfl inX4 (by decide) tw192 dX4_clear_6 (by rw [e3]; exact h1) rfl ?_
  refine v_iconst dX4_clear_9 (by decide) ?_
  refine v_cS (mi := mX4_clear) (As := [pA (M2.1 a0 3), pI (-1)]) (st := []) (kX10_fillRow d (by omega) _ _ _) okX10_fillRow (Or.inr nw3) tw52 rfl (Nat.le_of_ble_eq_true rfl) dX4_clear_10 (fun r4 => []) (fun r4 => r4) (fun _ => rfl) (fun _ => rfl) (fun r4 h5 => ?_) rfl
  exact v_return dX4_clear_13 rfl rfl
theorem dX4_init_0 : decode cX4_init 0 = .ok (.aload_n 0, 1) := by decide +kernel
theorem dX4_init_1 : decode cX4_init 1 = .ok (.invokespecial 3, 3) := by decide +kernel
theorem dX4_init_4 : decode cX4_init 4 = .ok (.aload_n 0, 1) := by decide +kernel
theorem dX4_init_5 : decode cX4_init 5 = .ok (.iconst 0, 1) := by decide +kernel
theorem dX4_init_6 : decode cX4_init 6 = .ok (.putfield 9, 3) := by decide +kernel
theorem dX4_init_9 : decode cX4_init 9 = .ok (.aload_n 0, 1) := by decide +kernel
theorem dX4_init_10 : decode cX4_init 10 = .ok (.bipush 8, 2) := by decide +kernel
theorem dX4_init_12 : decode cX4_init 12 = .ok (.newarray .int, 2) := by decide +kernel
theorem dX4_init_14 : decode cX4_init 14 = .ok (.putfield 15, 3) := by decide +kernel
theorem dX4_init_17 : decode cX4_init 17 = .ok (.aload_n 0, 1) := by decide +kernel
theorem dX4_init_18 : decode cX4_init 18 = .ok (.bipush 8, 2) := by decide +kernel
theorem dX4_init_20 : decode cX4_init 20 = .ok (.newarray .int, 2) := by decide +kernel
theorem dX4_init_22 : decode cX4_init 22 = .ok (.putfield 19, 3) := by decide +kernel
theorem dX4_init_25 : decode cX4_init 25 = .ok (.aload_n 0, 1) := by decide +kernel
theorem dX4_init_26 : decode cX4_init 26 = .ok (.bipush 30, 2) := by decide +kernel
theorem dX4_init_28 : decode cX4_init 28 = .ok (.newarray .int, 2) := by decide +kernel
theorem dX4_init_30 : decode cX4_init 30 = .ok (.putfield 22, 3) := by decide +kernel
theorem dX4_init_33 : decode cX4_init 33 = .ok (.aload_n 0, 1) := by decide +kernel
theorem dX4_init_34 : decode cX4_init 34 = .ok (.invokevirtual 25, 3) := by decide +kernel
theorem dX4_init_37 : decode cX4_init 37 = .ok (.return_, 1) := by decide +kernel
abbrev mX4_init : MI := (yX4_init, cX4_init, 1, none)
theorem okX4_init : cok mX4_init 0 := ⟨tw178, tw6, by decide, by decide, by decide, by decide +kernel⟩
def fX4_init (M : Mem) (a0 : Int) : Option Mem :=
  if 0 ≤ a0 then if M.2.1 a0 = 4 then bM (mst M a0 0 0) fun M3 => bM (mnew M3 12 8) fun M5 => if M5.2.1 a0 = 4 then if -1 ≤ (M3.2.2.2 : Int) then bM (mst M5 a0 1 (M3.2.2.2 : Int)) fun M9 => bM (mnew M9 12 8) fun M11 => if M11.2.1 a0 = 4 then if -1 ≤ (M9.2.2.2 : Int) then bM (mst M11 a0 2 (M9.2.2.2 : Int)) fun M15 => bM (mnew M15 12 30) fun M17 => if M17.2.1 a0 = 4 then if -1 ≤ (M15.2.2.2 : Int) then bM (mst M17 a0 3 (M15.2.2.2 : Int)) fun M21 => (fX4_clear M21 a0).bind fun r23 => some r23 else none else none else none else none else none else none else none else none
set_option maxRecDepth 100000 in
set_option maxHeartbeats 4000000 in
theorem kX4_init (d : Nat) (hd : 2 ≤ d) (M : Mem) (a0 : Int) : Ct mX4_init d 3 46 [pA a0] M dV (fX4_init M a0) := by
  obtain ⟨d, rfl⟩ : ∃ k, d = k + 1 := ⟨d - 1, by omega⟩
  refine Ct.of 0 (by decide +kernel) rfl ?_
  unfold fX4_init
  refine v_aload_n dX4_init_0 rfl ?_
  refine v_if (fun h1 => ?_)
  refine v_objInit (mi := mX4_init) h1 tw179 tw26 tw27 (Nat.le_of_ble_eq_true rfl) dX4_init_1 ?_
  refine v_aload_n dX4_init_4 rfl ?_
  refine v_iconst dX4_init_5 (by decide) ?_
  refine v_if (fun h2 => ?_)
  refine v_put (x := 0) 4 0 rfl inX4 (by decide) tw185 (Or.inl rfl) rfl dX4_init_6 h2 rfl id ?_
  refine v_bM (fun M3 e4 => ?_)
  refine v_aload_n dX4_init_9 rfl ?_
  refine v_bipush dX4_init_10 (by decide) ?_
  refine v_newarray (t := .int) (n := 8) 12 (by decide) (by decide) tw121 dX4_init_12 ?_
  refine v_bM (fun M5 e6 => ?_)
  refine v_if (fun h7 => ?_)
  refine v_if (fun h8 => ?_)
  refine v_put (x := (M3.2.2.2 : Int)) 4 1 rfl inX4 (by decide) tw188 (Or.inr ⟨rfl, rfl, rfl⟩) rfl dX4_init_14 h7 rfl (fun _ => h8) ?_
  refine v_bM (fun M9 e10 => ?_)
  refine v_aload_n dX4_init_17 rfl ?_
  refine v_bipush dX4_init_18 (by decide) ?_
  refine v_newarray (t := .int) (n := 8) 12 (by decide) (by decide) tw121 dX4_init_20 ?_
  refine v_bM (fun M11 e12 => ?_)
  refine v_if (fun h13 => ?_)
  refine v_if (fun h14 => ?_)
  refine v_put (x := (M9.2.2.2 : Int)) 4 2 rfl inX4 (by decide) tw190 (Or.inr ⟨rfl, rfl, rfl⟩) rfl dX4_init_22 h13 rfl (fun _ => h14) ?_
  refine v_bM (fun M15 e16 => ?_)
  refine v_aload_n dX4_init_25 rfl ?_
  refine v_bipush dX4_init_26 (by decide) ?_
  refine v_newarray (t := .int) (n := 30) 12 (by decide) (by decide) tw121 dX4_init_28 ?_
  refine v_bM (fun M17 e18 => ?_)
  refine v_if (fun h19 => ?_)
  refine v_if (fun h20 => ?_)
  refine v_put (x := (M15.2.2.2 : Int)) 4 3 rfl inX4 (by decide) tw192 (Or.inr ⟨rfl, rfl, rfl⟩) rfl dX4_init_30 h19 rfl (fun _ => h20) ?_
  refine v_bM (fun M21 e22 => ?_)
  refine v_aload_n dX4_init_33 rfl ?_
  refine v_cV (mi := mX4_init) (As := []) (st := []) (kX4_clear d (by omega) _ _) rfl (by rw [e22]; exact h19) rfl okX4_clear (Or.inl tw180) tw181 tw182 rfl (Nat.le_of_ble_eq_true rfl) dX4_init_34 (fun r23 => []) (fun r23 => r23) (fun _ => rfl) (fun _ => rfl) (fun r23 h24 => ?_) rfl
  exact v_return dX4_init_37 rfl rfl
theorem dX4_add_0 : decode cX4_add 0 = .ok (.aload_n 0, 1) := by decide +kernel
theorem dX4_add_1 : decode cX4_add 1 = .ok (.getfield 9, 3) := by decide +kernel
theorem dX4_add_4 : decode cX4_add 4 = .ok (.bipush 8, 2) := by decide +kernel
theorem dX4_add_6 : decode cX4_add 6 = .ok (.if_icmp .ge 33, 3) := by decide +kernel
theorem dX4_add_9 : decode cX4_add 9 = .ok (.aload_n 0, 1) := by decide +kernel
theorem dX4_add_10 : decode cX4_add 10 = .ok (.getfield 15, 3) := by decide +kernel
theorem dX4_add_13 : decode cX4_add 13 = .ok (.aload_n 0, 1) := by decide +kernel
theorem dX4_add_14 : decode cX4_add 14 = .ok (.getfield 9, 3) := by decide +kernel
theorem dX4_add_17 : decode cX4_add 17 = .ok (.iload_n 1, 1) := by decide +kernel
theorem dX4_add_18 : decode cX4_add 18 = .ok (.iastore, 1) := by decide +kernel
theorem dX4_add_19 : decode cX4_add 19 = .ok (.aload_n 0, 1) := by decide +kernel
theorem dX4_add_20 : decode cX4_add 20 = .ok (.getfield 19, 3) := by decide +kernel
theorem dX4_add_23 : decode cX4_add 23 = .ok (.aload_n 0, 1) := by decide +kernel
theorem dX4_add_24 : decode cX4_add 24 = .ok (.getfield 9, 3) := by decide +kernel
theorem dX4_add_27 : decode cX4_add 27 = .ok (.iload_n 2, 1) := by decide +kernel
theorem dX4_add_28 : decode cX4_add 28 = .ok (.iastore, 1) := by decide +kernel
theorem dX4_add_29 : decode cX4_add 29 = .ok (.aload_n 0, 1) := by decide +kernel
theorem dX4_add_30 : decode cX4_add 30 = .ok (.dup, 1) := by decide +kernel
theorem dX4_add_31 : decode cX4_add 31 = .ok (.getfield 9, 3) := by decide +kernel
theorem dX4_add_34 : decode cX4_add 34 = .ok (.iconst 1, 1) := by decide +kernel
theorem dX4_add_35 : decode cX4_add 35 = .ok (.iadd, 1) := by decide +kernel
theorem dX4_add_36 : decode cX4_add 36 = .ok (.putfield 9, 3) := by decide +kernel
theorem dX4_add_39 : decode cX4_add 39 = .ok (.return_, 1) := by decide +kernel
abbrev mX4_add : MI := (yX4_add, cX4_add, 3, none)
theorem okX4_add : cok mX4_add 2 := ⟨tw641, tw6, by decide, by decide, by decide, by decide +kernel⟩
def fX4_add (M : Mem) (a0 a1 a2 : Int) : Option Mem :=
  if M.2.1 a0 = 4 then if M.1 a0 0 < 8 then (if M.2.1 (M.1 a0 1) = 12 ∧ 0 ≤ (M.1 a0 0) ∧ (M.1 a0 0) < M.2.2.1 (M.1 a0 1) then bM (mst M (M.1 a0 1) (M.1 a0 0) a1) fun M4 => if M4.2.1 (M4.1 a0 2) = 12 ∧ 0 ≤ (M4.1 a0 0) ∧ (M4.1 a0 0) < M4.2.2.1 (M4.1 a0 2) then bM (mst M4 (M4.1 a0 2) (M4.1 a0 0) a2) fun M7 => bM (mst M7 a0 0 (w32 ((M7.1 a0 0) + 1))) fun M9 => some M9 else none else none) else (some M) else none
set_option maxRecDepth 100000 in
set_option maxHeartbeats 4000000 in
theorem kX4_add (d : Nat) (hd : 0 ≤ d) (M : Mem) (a0 a1 a2 : Int) : Ct mX4_add d 0 0 [pA a0, pI a1, pI a2] M dV (fX4_add M a0 a1 a2) := by
  refine Ct.of 0 (by decide +kernel) rfl ?_
  unfold fX4_add
  refine v_aload_n dX4_add_0 rfl ?_
  refine v_if (fun h1 => ?_)
  refine v_get (v := pI (M.1 a0 0)) 4 0 rfl inX4 (by decide) tw185 dX4_add_1 h1 rfl ?_
  refine v_bipush dX4_add_4 (by decide) ?_
  refine v_icmp_ge (tgt := 39) dX4_add_6 (by decide) (fun c2 => ?_) (fun c2 => ?_)
  · refine v_aload_n dX4_add_9 rfl ?_
    refine v_get (v := pA (M.1 a0 1)) 4 1 rfl inX4 (by decide) tw188 dX4_add_10 h1 rfl ?_
    refine v_aload_n dX4_add_13 rfl ?_
    refine v_get (v := pI (M.1 a0 0)) 4 0 rfl inX4 (by decide) tw185 dX4_add_14 h1 rfl ?_
    refine v_iload_n dX4_add_17 rfl ?_
    refine v_if (fun h3 => ?_)
    refine v_iastore h3 dX4_add_18 ?_
    refine v_bM (fun M4 e5 => ?_)
    refine v_aload_n dX4_add_19 rfl ?_
    refine v_get (v := pA (M4.1 a0 2)) 4 2 rfl inX4 (by decide) tw190 dX4_add_20 (by rw [e5]; exact h1) rfl ?_
    refine v_aload_n dX4_add_23 rfl ?_
    refine v_get (v := pI (M4.1 a0 0)) 4 0 rfl inX4 (by decide) tw185 dX4_add_24 (by rw [e5]; exact h1) rfl ?_
    refine v_iload_n dX4_add_27 rfl ?_
    refine v_if (fun h6 => ?_)
    refine v_iastore h6 dX4_add_28 ?_
    refine v_bM (fun M7 e8 => ?_)
    refine v_aload_n dX4_add_29 rfl ?_
    refine v_dup dX4_add_30 (by intro z hz; cases hz) ?_
    refine v_get (v := pI (M7.1 a0 0)) 4 0 rfl inX4 (by decide) tw185 dX4_add_31 (by rw [e8, e5]; exact h1) rfl ?_
    refine v_iconst dX4_add_34 (by decide) ?_
    refine v_iadd dX4_add_35 ?_
    refine v_put (x := w32 ((M7.1 a0 0) + 1)) 4 0 rfl inX4 (by decide) tw185 (Or.inl rfl) rfl dX4_add_36 (by rw [e8, e5]; exact h1) rfl id ?_
    refine v_bM (fun M9 e10 => ?_)
    exact v_return dX4_add_39 rfl rfl
  · exact v_return dX4_add_39 rfl rfl
theorem dX4_copy_0 : decode cX4_copy 0 = .ok (.aload_n 0, 1) := by decide +kernel
theorem dX4_copy_1 : decode cX4_copy 1 = .ok (.aload_n 1, 1) := by decide +kernel
theorem dX4_copy_2 : decode cX4_copy 2 = .ok (.getfield 9, 3) := by decide +kernel
theorem dX4_copy_5 : decode cX4_copy 5 = .ok (.putfield 9, 3) := by decide +kernel
theorem dX4_copy_8 : decode cX4_copy 8 = .ok (.aload_n 1, 1) := by decide +kernel
theorem dX4_copy_9 : decode cX4_copy 9 = .ok (.getfield 15, 3) := by decide +kernel
theorem dX4_copy_12 : decode cX4_copy 12 = .ok (.aload_n 0, 1) := by decide +kernel
theorem dX4_copy_13 : decode cX4_copy 13 = .ok (.getfield 15, 3) := by decide +kernel
theorem dX4_copy_16 : decode cX4_copy 16 = .ok (.invokestatic 32, 3) := by decide +kernel
theorem dX4_copy_19 : decode cX4_copy 19 = .ok (.aload_n 1, 1) := by decide +kernel
theorem dX4_copy_20 : decode cX4_copy 20 = .ok (.getfield 19, 3) := by decide +kernel
theorem dX4_copy_23 : decode cX4_copy 23 = .ok (.aload_n 0, 1) := by decide +kernel
theorem dX4_copy_24 : decode cX4_copy 24 = .ok (.getfield 19, 3) := by decide +kernel
theorem dX4_copy_27 : decode cX4_copy 27 = .ok (.invokestatic 32, 3) := by decide +kernel
theorem dX4_copy_30 : decode cX4_copy 30 = .ok (.aload_n 1, 1) := by decide +kernel
theorem dX4_copy_31 : decode cX4_copy 31 = .ok (.getfield 22, 3) := by decide +kernel
theorem dX4_copy_34 : decode cX4_copy 34 = .ok (.aload_n 0, 1) := by decide +kernel
theorem dX4_copy_35 : decode cX4_copy 35 = .ok (.getfield 22, 3) := by decide +kernel
theorem dX4_copy_38 : decode cX4_copy 38 = .ok (.invokestatic 32, 3) := by decide +kernel
theorem dX4_copy_41 : decode cX4_copy 41 = .ok (.return_, 1) := by decide +kernel
abbrev mX4_copy : MI := (yX4_copy, cX4_copy, 2, none)
theorem okX4_copy : cok mX4_copy 1 := ⟨tw669, tw6, by decide, by decide, by decide, by decide +kernel⟩
def fX4_copy (M : Mem) (a0 a1 : Int) : Option Mem :=
  if M.2.1 a1 = 4 then if M.2.1 a0 = 4 then bM (mst M a0 0 (M.1 a1 0)) fun M3 => (fX10_copyRow M3 (M3.1 a1 1) (M3.1 a0 1)).bind fun r5 => if r5.2.1 a1 = 4 then if r5.2.1 a0 = 4 then (fX10_copyRow r5 (r5.1 a1 2) (r5.1 a0 2)).bind fun r9 => if r9.2.1 a1 = 4 then if r9.2.1 a0 = 4 then (fX10_copyRow r9 (r9.1 a1 3) (r9.1 a0 3)).bind fun r13 => some r13 else none else none else none else none else none else none
set_option maxRecDepth 100000 in
set_option maxHeartbeats 4000000 in
theorem kX4_copy (d : Nat) (hd : 2 ≤ d) (M : Mem) (a0 a1 : Int) : Ct mX4_copy d 0 0 [pA a0, pA a1] M dV (fX4_copy M a0 a1) := by
  obtain ⟨d, rfl⟩ : ∃ k, d = k + 1 := ⟨d - 1, by omega⟩
  refine Ct.of 0 (by decide +kernel) rfl ?_
  unfold fX4_copy
  refine v_aload_n dX4_copy_0 rfl ?_
  refine v_aload_n dX4_copy_1 rfl ?_
  refine v_if (fun h1 => ?_)
  refine v_get (v := pI (M.1 a1 0)) 4 0 rfl inX4 (by decide) tw185 dX4_copy_2 h1 rfl ?_
  refine v_if (fun h2 => ?_)
  refine v_put (x := M.1 a1 0) 4 0 rfl inX4 (by decide) tw185 (Or.inl rfl) rfl dX4_copy_5 h2 rfl id ?_
  refine v_bM (fun M3 e4 => ?_)
  refine v_aload_n dX4_copy_8 rfl ?_
  refine v_get (v := pA (M3.1 a1 1)) 4 1 rfl inX4 (by decide) tw188 dX4_copy_9 (by rw [e4]; exact h1) rfl ?_
  refine v_aload_n dX4_copy_12 rfl ?_
  refine v_get (v := pA (M3.1 a0 1)) 4 1 rfl inX4 (by decide) tw188 dX4_copy_13 (by rw [e4]; exact h2) rfl ?_
  refine v_cS (mi := mX4_copy) (As := [pA (M3.1 a1 1), pA (M3.1 a0 1)]) (st := []) (kX10_copyRow d (by omega) _ _ _) okX10_copyRow (Or.inr nw11) tw651 rfl (Nat.le_of_ble_eq_true rfl) dX4_copy_16 (fun r5 => []) (fun r5 => r5) (fun _ => rfl) (fun _ => rfl) (fun r5 h6 => ?_) rfl
  refine v_aload_n dX4_copy_19 rfl ?_
  refine v_if (fun h7 => ?_)
  refine v_get (v := pA (r5.1 a1 2)) 4 2 rfl inX4 (by decide) tw190 dX4_copy_20 h7 rfl ?_
  refine v_aload_n dX4_copy_23 rfl ?_
  refine v_if (fun h8 => ?_)
  refine v_get (v := pA (r5.1 a0 2)) 4 2 rfl inX4 (by decide) tw190 dX4_copy_24 h8 rfl ?_
  refine v_cS (mi := mX4_copy) (As := [pA (r5.1 a1 2), pA (r5.1 a0 2)]) (st := []) (kX10_copyRow d (by omega) _ _ _) okX10_copyRow (Or.inr nw11) tw651 rfl (Nat.le_of_ble_eq_true rfl) dX4_copy_27 (fun r9 => []) (fun r9 => r9) (fun _ => rfl) (fun _ => rfl) (fun r9 h10 => ?_) rfl
  refine v_aload_n dX4_copy_30 rfl ?_
  refine v_if (fun h11 => ?_)
  refine v_get (v := pA (r9.1 a1 3)) 4 3 rfl inX4 (by decide) tw192 dX4_copy_31 h11 rfl ?_
  refine v_aload_n dX4_copy_34 rfl ?_
  refine v_if (fun h12 => ?_)
  refine v_get (v := pA (r9.1 a0 3)) 4 3 rfl inX4 (by decide) tw192 dX4_copy_35 h12 rfl ?_
  refine v_cS (mi := mX4_copy) (As := [pA (r9.1 a1 3), pA (r9.1 a0 3)]) (st := []) (kX10_copyRow d (by omega) _ _ _) okX10_copyRow (Or.inr nw11) tw651 rfl (Nat.le_of_ble_eq_true rfl) dX4_copy_38 (fun r13 => []) (fun r13 => r13) (fun _ => rfl) (fun _ => rfl) (fun r13 h14 => ?_) rfl
  exact v_return dX4_copy_41 rfl rfl
theorem dX4_alike_0 : decode cX4_alike 0 = .ok (.iconst 0, 1) := by decide +kernel
theorem dX4_alike_1 : decode cX4_alike 1 = .ok (.istore 4, 2) := by decide +kernel
theorem dX4_alike_3 : decode cX4_alike 3 = .ok (.iload_n 2, 1) := by decide +kernel
theorem dX4_alike_4 : decode cX4_alike 4 = .ok (.istore 5, 2) := by decide +kernel
theorem dX4_alike_6 : decode cX4_alike 6 = .ok (.iload 5, 2) := by decide +kernel
theorem dX4_alike_8 : decode cX4_alike 8 = .ok (.iload_n 3, 1) := by decide +kernel
theorem dX4_alike_9 : decode cX4_alike 9 = .ok (.if_icmp .ge 44, 3) := by decide +kernel
theorem dX4_alike_12 : decode cX4_alike 12 = .ok (.aload_n 0, 1) := by decide +kernel
theorem dX4_alike_13 : decode cX4_alike 13 = .ok (.getfield 15, 3) := by decide +kernel
theorem dX4_alike_16 : decode cX4_alike 16 = .ok (.iload 5, 2) := by decide +kernel
theorem dX4_alike_18 : decode cX4_alike 18 = .ok (.iaload, 1) := by decide +kernel
theorem dX4_alike_19 : decode cX4_alike 19 = .ok (.aload_n 0, 1) := by decide +kernel
theorem dX4_alike_20 : decode cX4_alike 20 = .ok (.getfield 15, 3) := by decide +kernel
theorem dX4_alike_23 : decode cX4_alike 23 = .ok (.iload_n 1, 1) := by decide +kernel
theorem dX4_alike_24 : decode cX4_alike 24 = .ok (.iaload, 1) := by decide +kernel
theorem dX4_alike_25 : decode cX4_alike 25 = .ok (.if_icmp .ne 22, 3) := by decide +kernel
theorem dX4_alike_28 : decode cX4_alike 28 = .ok (.aload_n 0, 1) := by decide +kernel
theorem dX4_alike_29 : decode cX4_alike 29 = .ok (.getfield 19, 3) := by decide +kernel
theorem dX4_alike_32 : decode cX4_alike 32 = .ok (.iload 5, 2) := by decide +kernel
theorem dX4_alike_34 : decode cX4_alike 34 = .ok (.iaload, 1) := by decide +kernel
theorem dX4_alike_35 : decode cX4_alike 35 = .ok (.aload_n 0, 1) := by decide +kernel
theorem dX4_alike_36 : decode cX4_alike 36 = .ok (.getfield 19, 3) := by decide +kernel
theorem dX4_alike_39 : decode cX4_alike 39 = .ok (.iload_n 1, 1) := by decide +kernel
theorem dX4_alike_40 : decode cX4_alike 40 = .ok (.iaload, 1) := by decide +kernel
theorem dX4_alike_41 : decode cX4_alike 41 = .ok (.if_icmp .ne 6, 3) := by decide +kernel
theorem dX4_alike_44 : decode cX4_alike 44 = .ok (.iinc 4 1, 3) := by decide +kernel
theorem dX4_alike_47 : decode cX4_alike 47 = .ok (.iinc 5 1, 3) := by decide +kernel
theorem dX4_alike_50 : decode cX4_alike 50 = .ok (.goto (-44), 3) := by decide +kernel
theorem dX4_alike_53 : decode cX4_alike 53 = .ok (.iload 4, 2) := by decide +kernel
theorem dX4_alike_55 : decode cX4_alike 55 = .ok (.ireturn, 1) := by decide +kernel
abbrev mX4_alike : MI := (yX4_alike, cX4_alike, 6, (some .int))
theorem okX4_alike : cok mX4_alike 3 := ⟨tw952, tw6, by decide, by decide, by decide, by decide +kernel⟩
def fX4_alike (M : Mem) (a0 a1 a2 a3 : Int) : Option Int :=
  iterC (fun (rec1 : (Int × Int) → Option Int) (s2 : Int × Int) => if s2.2 < a3 then (if M.2.1 a0 = 4 then if M.2.1 (M.1 a0 1) = 12 ∧ 0 ≤ s2.2 ∧ s2.2 < M.2.2.1 (M.1 a0 1) then if M.2.1 (M.1 a0 1) = 12 ∧ 0 ≤ a1 ∧ a1 < M.2.2.1 (M.1 a0 1) then if M.1 (M.1 a0 1) s2.2 = M.1 (M.1 a0 1) a1 then (if M.2.1 (M.1 a0 2) = 12 ∧ 0 ≤ s2.2 ∧ s2.2 < M.2.2.1 (M.1 a0 2) then if M.2.1 (M.1 a0 2) = 12 ∧ 0 ≤ a1 ∧ a1 < M.2.2.1 (M.1 a0 2) then if M.1 (M.1 a0 2) s2.2 = M.1 (M.1 a0 2) a1 then (rec1 (w32 (s2.1 + 1), w32 (s2.2 + 1))) else (rec1 (s2.1, w32 (s2.2 + 1))) else none else none) else (rec1 (s2.1, w32 (s2.2 + 1))) else none else none else none) else (some s2.1)) BIG (0, a2)
set_option maxRecDepth 100000 in
set_option maxHeartbeats 4000000 in
theorem kX4_alike (d : Nat) (hd : 0 ≤ d) (M : Mem) (a0 a1 a2 a3 : Int) : Ct mX4_alike d 0 0 [pA a0, pI a1, pI a2, pI a3] M (dI M) (fX4_alike M a0 a1 a2 a3) := by
  refine Ct.of 2 (by decide +kernel) rfl ?_
  unfold fX4_alike
  refine v_iconst dX4_alike_0 (by decide) ?_
  refine v_istore (ls' := [some (pA a0), some (pI a1), some (pI a2), some (pI a3), some (pI 0), none]) dX4_alike_1 (by decide) rfl ?_
  refine v_iload_n dX4_alike_3 rfl ?_
  refine v_istore (ls' := [some (pA a0), some (pI a1), some (pI a2), some (pI a3), some (pI 0), some (pI a2)]) dX4_alike_4 (by decide) rfl ?_
  refine v_drop [some (pA a0), some (pI a1), none, some (pI a3), some (pI 0), some (pI a2)] (ls_s (ls_s (ls_n (ls_s (ls_s (ls_s ls_e)))))) ?_
  refine v_loop (fun (s2 : Int × Int) => [some (pA a0), some (pI a1), none, some (pI a3), some (pI s2.1), some (pI s2.2)]) (fun (s2 : Int × Int) => M) (s0 := (0, a2)) ?_
  intro rec1 hrec1 s2
  refine v_iload dX4_alike_6 rfl ?_
  refine v_iload_n dX4_alike_8 rfl ?_
  refine v_icmp_ge (tgt := 53) dX4_alike_9 (by decide) (fun c3 => ?_) (fun c3 => ?_)
  · refine v_aload_n dX4_alike_12 rfl ?_
    refine v_if (fun h4 => ?_)
    refine v_get (v := pA (M.1 a0 1)) 4 1 rfl inX4 (by decide) tw188 dX4_alike_13 h4 rfl ?_
    refine v_iload dX4_alike_16 rfl ?_
    refine v_if (fun h5 => ?_)
    refine v_iaload h5 dX4_alike_18 ?_
    refine v_aload_n dX4_alike_19 rfl ?_
    refine v_get (v := pA (M.1 a0 1)) 4 1 rfl inX4 (by decide) tw188 dX4_alike_20 h4 rfl ?_
    refine v_iload_n dX4_alike_23 rfl ?_
    refine v_if (fun h6 => ?_)
    refine v_iaload h6 dX4_alike_24 ?_
    refine v_icmp_ne (tgt := 47) dX4_alike_25 (by decide) (fun c7 => ?_) (fun c7 => ?_)
    · refine v_aload_n dX4_alike_28 rfl ?_
      refine v_get (v := pA (M.1 a0 2)) 4 2 rfl inX4 (by decide) tw190 dX4_alike_29 h4 rfl ?_
      refine v_iload dX4_alike_32 rfl ?_
      refine v_if (fun h8 => ?_)
      refine v_iaload h8 dX4_alike_34 ?_
      refine v_aload_n dX4_alike_35 rfl ?_
      refine v_get (v := pA (M.1 a0 2)) 4 2 rfl inX4 (by decide) tw190 dX4_alike_36 h4 rfl ?_
      refine v_iload_n dX4_alike_39 rfl ?_
      refine v_if (fun h9 => ?_)
      refine v_iaload h9 dX4_alike_40 ?_
      refine v_icmp_ne (tgt := 47) dX4_alike_41 (by decide) (fun c10 => ?_) (fun c10 => ?_)
      · refine v_iinc (ls' := [some (pA a0), some (pI a1), none, some (pI a3), some (pI (w32 (s2.1 + 1))), some (pI s2.2)]) dX4_alike_44 (by decide) rfl rfl ?_
        refine v_iinc (ls' := [some (pA a0), some (pI a1), none, some (pI a3), some (pI (w32 (s2.1 + 1))), some (pI (w32 (s2.2 + 1)))]) dX4_alike_47 (by decide) rfl rfl ?_
        refine v_goto (tgt := 6) dX4_alike_50 (by decide) ?_
        exact hrec1 (w32 (s2.1 + 1), w32 (s2.2 + 1))
      · refine v_iinc (ls' := [some (pA a0), some (pI a1), none, some (pI a3), some (pI s2.1), some (pI (w32 (s2.2 + 1)))]) dX4_alike_47 (by decide) rfl rfl ?_
        refine v_goto (tgt := 6) dX4_alike_50 (by decide) ?_
        exact hrec1 (s2.1, w32 (s2.2 + 1))
    · refine v_iinc (ls' := [some (pA a0), some (pI a1), none, some (pI a3), some (pI s2.1), some (pI (w32 (s2.2 + 1)))]) dX4_alike_47 (by decide) rfl rfl ?_
      refine v_goto (tgt := 6) dX4_alike_50 (by decide) ?_
      exact hrec1 (s2.1, w32 (s2.2 + 1))
  · refine v_iload dX4_alike_53 rfl ?_
    exact v_ireturn dX4_alike_55 rfl rfl
theorem dX10_cell__0 : decode cX10_cell_ 0 = .ok (.bipush 30, 2) := by decide +kernel
theorem dX10_cell__2 : decode cX10_cell_ 2 = .ok (.iload_n 0, 1) := by decide +kernel
theorem dX10_cell__3 : decode cX10_cell_ 3 = .ok (.imul, 1) := by decide +kernel
theorem dX10_cell__4 : decode cX10_cell_ 4 = .ok (.iconst 5, 1) := by decide +kernel
theorem dX10_cell__5 : decode cX10_cell_ 5 = .ok (.iload_n 1, 1) := by decide +kernel
theorem dX10_cell__6 : decode cX10_cell_ 6 = .ok (.imul, 1) := by decide +kernel
theorem dX10_cell__7 : decode cX10_cell_ 7 = .ok (.iadd, 1) := by decide +kernel
theorem dX10_cell__8 : decode cX10_cell_ 8 = .ok (.iload_n 2, 1) := by decide +kernel
theorem dX10_cell__9 : decode cX10_cell_ 9 = .ok (.iadd, 1) := by decide +kernel
theorem dX10_cell__10 : decode cX10_cell_ 10 = .ok (.ireturn, 1) := by decide +kernel
abbrev mX10_cell_ : MI := (yX10_cell_, cX10_cell_, 3, (some .int))
theorem okX10_cell_ : cok mX10_cell_ 3 := ⟨tw767, tw1, by decide, by decide, by decide, by decide +kernel⟩
def fX10_cell_ (M : Mem) (a0 a1 a2 : Int) : Option Int :=
  some (w32 ((w32 ((w32 (30 * a0)) + (w32 (5 * a1)))) + a2))
set_option maxRecDepth 100000 in
set_option maxHeartbeats 4000000 in
theorem kX10_cell_ (d : Nat) (hd : 0 ≤ d) (M : Mem) (a0 a1 a2 : Int) : Ct mX10_cell_ d 0 0 [pI a0, pI a1, pI a2] M (dI M) (fX10_cell_ M a0 a1 a2) := by
  refine Ct.of 0 (by decide +kernel) rfl ?_
  unfold fX10_cell_
  refine v_bipush dX10_cell__0 (by decide) ?_
  refine v_iload_n dX10_cell__2 rfl ?_
  refine v_imul dX10_cell__3 ?_
  refine v_iconst dX10_cell__4 (by decide) ?_
  refine v_iload_n dX10_cell__5 rfl ?_
  refine v_imul dX10_cell__6 ?_
  refine v_iadd dX10_cell__7 ?_
  refine v_iload_n dX10_cell__8 rfl ?_
  refine v_iadd dX10_cell__9 ?_
  exact v_ireturn dX10_cell__10 rfl rfl
theorem dX4_choices_0 : decode cX4_choices 0 = .ok (.iconst 1, 1) := by decide +kernel
theorem dX4_choices_1 : decode cX4_choices 1 = .ok (.istore_n 2, 1) := by decide +kernel
theorem dX4_choices_2 : decode cX4_choices 2 = .ok (.iconst 1, 1) := by decide +kernel
theorem dX4_choices_3 : decode cX4_choices 3 = .ok (.istore_n 3, 1) := by decide +kernel
theorem dX4_choices_4 : decode cX4_choices 4 = .ok (.iload_n 3, 1) := by decide +kernel
theorem dX4_choices_5 : decode cX4_choices 5 = .ok (.iload_n 1, 1) := by decide +kernel
theorem dX4_choices_6 : decode cX4_choices 6 = .ok (.if_icmp .gt 19, 3) := by decide +kernel
theorem dX4_choices_9 : decode cX4_choices 9 = .ok (.iload_n 2, 1) := by decide +kernel
theorem dX4_choices_10 : decode cX4_choices 10 = .ok (.iload_n 0, 1) := by decide +kernel
theorem dX4_choices_11 : decode cX4_choices 11 = .ok (.iload_n 1, 1) := by decide +kernel
theorem dX4_choices_12 : decode cX4_choices 12 = .ok (.isub, 1) := by decide +kernel
theorem dX4_choices_13 : decode cX4_choices 13 = .ok (.iload_n 3, 1) := by decide +kernel
theorem dX4_choices_14 : decode cX4_choices 14 = .ok (.iadd, 1) := by decide +kernel
theorem dX4_choices_15 : decode cX4_choices 15 = .ok (.imul, 1) := by decide +kernel
theorem dX4_choices_16 : decode cX4_choices 16 = .ok (.iload_n 3, 1) := by decide +kernel
theorem dX4_choices_17 : decode cX4_choices 17 = .ok (.idiv, 1) := by decide +kernel
theorem dX4_choices_18 : decode cX4_choices 18 = .ok (.istore_n 2, 1) := by decide +kernel
theorem dX4_choices_19 : decode cX4_choices 19 = .ok (.iinc 3 1, 3) := by decide +kernel
theorem dX4_choices_22 : decode cX4_choices 22 = .ok (.goto (-18), 3) := by decide +kernel
theorem dX4_choices_25 : decode cX4_choices 25 = .ok (.iload_n 2, 1) := by decide +kernel
theorem dX4_choices_26 : decode cX4_choices 26 = .ok (.ireturn, 1) := by decide +kernel
abbrev mX4_choices : MI := (yX4_choices, cX4_choices, 4, (some .int))
theorem okX4_choices : cok mX4_choices 2 := ⟨tw961, tw6, by decide, by decide, by decide, by decide +kernel⟩
def fX4_choices (M : Mem) (a0 a1 : Int) : Option Int :=
  iterC (fun (rec1 : (Int × Int) → Option Int) (s2 : Int × Int) => if a1 < s2.2 then (some s2.1) else (if s2.2 ≠ 0 then rec1 (w32 ((w32 (s2.1 * (w32 ((w32 (a0 - a1)) + s2.2)))).tdiv s2.2), w32 (s2.2 + 1)) else none)) BIG (1, 1)
set_option maxRecDepth 100000 in
set_option maxHeartbeats 4000000 in
theorem kX4_choices (d : Nat) (hd : 0 ≤ d) (M : Mem) (a0 a1 : Int) : Ct mX4_choices d 0 0 [pI a0, pI a1] M (dI M) (fX4_choices M a0 a1) := by
  refine Ct.of 2 (by decide +kernel) rfl ?_
  unfold fX4_choices
  refine v_iconst dX4_choices_0 (by decide) ?_
  refine v_istore_n (ls' := [some (pI a0), some (pI a1), some (pI 1), none]) dX4_choices_1 (by decide) rfl ?_
  refine v_iconst dX4_choices_2 (by decide) ?_
  refine v_istore_n (ls' := [some (pI a0), some (pI a1), some (pI 1), some (pI 1)]) dX4_choices_3 (by decide) rfl ?_
  refine v_loop (fun (s2 : Int × Int) => [some (pI a0), some (pI a1), some (pI s2.1), some (pI s2.2)]) (fun (s2 : Int × Int) => M) (s0 := (1, 1)) ?_
  intro rec1 hrec1 s2
  refine v_iload_n dX4_choices_4 rfl ?_
  refine v_iload_n dX4_choices_5 rfl ?_
  refine v_icmp_gt (tgt := 25) dX4_choices_6 (by decide) (fun c3 => ?_) (fun c3 => ?_)
  · refine v_iload_n dX4_choices_25 rfl ?_
    exact v_ireturn dX4_choices_26 rfl rfl
  · refine v_iload_n dX4_choices_9 rfl ?_
    refine v_iload_n dX4_choices_10 rfl ?_
    refine v_iload_n dX4_choices_11 rfl ?_
    refine v_isub dX4_choices_12 ?_
    refine v_iload_n dX4_choices_13 rfl ?_
    refine v_iadd dX4_choices_14 ?_
    refine v_imul dX4_choices_15 ?_
    refine v_iload_n dX4_choices_16 rfl ?_
    refine v_if (fun h4 => ?_)
    refine v_idiv h4 dX4_choices_17 ?_
    refine v_istore_n (ls' := [some (pI a0), some (pI a1), some (pI (w32 ((w32 (s2.1 * (w32 ((w32 (a0 - a1)) + s2.2)))).tdiv s2.2))), some (pI s2.2)]) dX4_choices_18 (by decide) rfl ?_
    refine v_iinc (ls' := [some (pI a0), some (pI a1), some (pI (w32 ((w32 (s2.1 * (w32 ((w32 (a0 - a1)) + s2.2)))).tdiv s2.2))), some (pI (w32 (s2.2 + 1)))]) dX4_choices_19 (by decide) rfl rfl ?_
    refine v_goto (tgt := 4) dX4_choices_22 (by decide) ?_
    exact hrec1 (w32 ((w32 (s2.1 * (w32 ((w32 (a0 - a1)) + s2.2)))).tdiv s2.2), w32 (s2.2 + 1))
