/-! the walks begin, and go on deed by deed -/
section Play
variable {O P A B M N : Mem} {D L : Int → Int} {a l k q : Int}
def ZX (A : Mem) (D : Int → Int) : Prop := (∀ y, 0 ≤ y → y < 30 → A.1 69 y = D (2 + y)) ∧ (∀ y, 0 ≤ y → y < 20 → A.1 70 y = 0) ∧ (∀ y, 0 ≤ y → y < 120 → A.1 71 y = 0 ∧ A.1 72 y = 0) ∧ (∀ y, 0 ≤ y → y < 4 → A.1 73 y = 0 ∧ A.1 74 y = 0 ∧ A.1 75 y = 0 ∧ A.1 76 y = 0 ∧ A.1 77 y = 0) ∧ A.1 68 13 = 0 ∧ A.1 68 14 = 0 ∧ A.1 68 15 = 0
set_option maxHeartbeats 2000000 in
theorem begin_V (d : TD M a D) (dl : LD M l L) : PC (fX9_begin M 68 a l) (fun r => ZX r D) := by
  have hT := d.1
  have ha := d.2.1
  unfold fX9_begin
  refine PC.guard (fun _ => PC.guard (fun _ => PC.sM (PC.guard (fun _ => PC.sM ?_))))
  have hK : Keep M (mst (mst M 68 0 a) 68 1 l) := (Keep.self.st rfl).st rfl
  have d6 := d.keep hK
  generalize mst (mst M 68 0 a) 68 1 l = M6 at *
  have hT6 := d6.1
  refine PC.guard (fun _ => ?_)
  rw [tp2_ hT6 ha, wp68_2 hT6]
  refine PC.bind (PC.of (cpRow_T (n := 30) (tk2_ hT6 ha) (tl2_ hT6 ha) (wk69 hT6) (wl69 hT6) (by decide))) (fun r0 q0 => PC.guard (fun _ => ?_))
  have k0 : r0.2 = M6.2 := q0.1
  have f0 : ∀ y, r0.1 68 y = M6.1 68 y := fun y => q0.2.1 68 y (by decide)
  rw [show r0.1 68 3 = 70 from by rw [f0]; exact wp68_3 hT6]
  refine PC.bind (PC.of (fillRow_T (n := 20) 0 (show r0.2.1 70 = 12 by rw [k0]; exact wk70 hT6) (show r0.2.2.1 70 = 20 by rw [k0]; exact wl70 hT6) (by decide) (by decide))) (fun r1 q1 => PC.guard (fun _ => ?_))
  have k1 : r1.2 = M6.2 := q1.1.trans k0
  have f1 : ∀ y, r1.1 68 y = M6.1 68 y := fun y => (q1.2.1 68 y (by decide)).trans (f0 y)
  rw [show r1.1 68 4 = 71 from by rw [f1]; exact wp68_4 hT6]
  refine PC.bind (PC.of (fillRow_T (n := 120) 0 (show r1.2.1 71 = 12 by rw [k1]; exact wk71 hT6) (show r1.2.2.1 71 = 120 by rw [k1]; exact wl71 hT6) (by decide) (by decide))) (fun r2 q2 => PC.guard (fun _ => ?_))
  have k2 : r2.2 = M6.2 := q2.1.trans k1
  have f2 : ∀ y, r2.1 68 y = M6.1 68 y := fun y => (q2.2.1 68 y (by decide)).trans (f1 y)
  rw [show r2.1 68 5 = 72 from by rw [f2]; exact wp68_5 hT6]
  refine PC.bind (PC.of (fillRow_T (n := 120) 0 (show r2.2.1 72 = 12 by rw [k2]; exact wk72 hT6) (show r2.2.2.1 72 = 120 by rw [k2]; exact wl72 hT6) (by decide) (by decide))) (fun r3 q3 => PC.guard (fun _ => ?_))
  have k3 : r3.2 = M6.2 := q3.1.trans k2
  have f3 : ∀ y, r3.1 68 y = M6.1 68 y := fun y => (q3.2.1 68 y (by decide)).trans (f2 y)
  rw [show r3.1 68 6 = 73 from by rw [f3]; exact wp68_6 hT6]
  refine PC.bind (PC.of (fillRow_T (n := 4) 0 (show r3.2.1 73 = 12 by rw [k3]; exact wk73 hT6) (show r3.2.2.1 73 = 4 by rw [k3]; exact wl73 hT6) (by decide) (by decide))) (fun r4 q4 => PC.guard (fun _ => ?_))
  have k4 : r4.2 = M6.2 := q4.1.trans k3
  have f4 : ∀ y, r4.1 68 y = M6.1 68 y := fun y => (q4.2.1 68 y (by decide)).trans (f3 y)
  rw [show r4.1 68 7 = 74 from by rw [f4]; exact wp68_7 hT6]
  refine PC.bind (PC.of (fillRow_T (n := 4) 0 (show r4.2.1 74 = 12 by rw [k4]; exact wk74 hT6) (show r4.2.2.1 74 = 4 by rw [k4]; exact wl74 hT6) (by decide) (by decide))) (fun r5 q5 => PC.guard (fun _ => ?_))
  have k5 : r5.2 = M6.2 := q5.1.trans k4
  have f5 : ∀ y, r5.1 68 y = M6.1 68 y := fun y => (q5.2.1 68 y (by decide)).trans (f4 y)
  rw [show r5.1 68 8 = 75 from by rw [f5]; exact wp68_8 hT6]
  refine PC.bind (PC.of (fillRow_T (n := 4) 0 (show r5.2.1 75 = 12 by rw [k5]; exact wk75 hT6) (show r5.2.2.1 75 = 4 by rw [k5]; exact wl75 hT6) (by decide) (by decide))) (fun r6 q6 => PC.guard (fun _ => ?_))
  have k6 : r6.2 = M6.2 := q6.1.trans k5
  have f6 : ∀ y, r6.1 68 y = M6.1 68 y := fun y => (q6.2.1 68 y (by decide)).trans (f5 y)
  rw [show r6.1 68 9 = 76 from by rw [f6]; exact wp68_9 hT6]
  refine PC.bind (PC.of (fillRow_T (n := 4) 0 (show r6.2.1 76 = 12 by rw [k6]; exact wk76 hT6) (show r6.2.2.1 76 = 4 by rw [k6]; exact wl76 hT6) (by decide) (by decide))) (fun r7 q7 => PC.guard (fun _ => ?_))
  have k7 : r7.2 = M6.2 := q7.1.trans k6
  have f7 : ∀ y, r7.1 68 y = M6.1 68 y := fun y => (q7.2.1 68 y (by decide)).trans (f6 y)
  rw [show r7.1 68 10 = 77 from by rw [f7]; exact wp68_10 hT6]
  refine PC.bind (PC.of (fillRow_T (n := 4) 0 (show r7.2.1 77 = 12 by rw [k7]; exact wk77 hT6) (show r7.2.2.1 77 = 4 by rw [k7]; exact wl77 hT6) (by decide) (by decide))) (fun r8 q8 => PC.guard (fun _ => ?_))
  have k8 : r8.2 = M6.2 := q8.1.trans k7
  have f8 : ∀ y, r8.1 68 y = M6.1 68 y := fun y => (q8.2.1 68 y (by decide)).trans (f7 y)
  rw [show r8.1 68 11 = 78 from by rw [f8]; exact wp68_11 hT6]
  refine PC.bind (PC.of (fillRow_T (n := 4) (-1) (show r8.2.1 78 = 12 by rw [k8]; exact wk78 hT6) (show r8.2.2.1 78 = 4 by rw [k8]; exact wl78 hT6) (by decide) (by decide))) (fun r9 q9 => PC.guard (fun _ => ?_))
  have k9 : r9.2 = M6.2 := q9.1.trans k8
  have f9 : ∀ y, r9.1 68 y = M6.1 68 y := fun y => (q9.2.1 68 y (by decide)).trans (f8 y)
  refine PC.sM (PC.sM (PC.sM (PC.sM (PC.ok ⟨fun y y0 y1 => ?_, fun y y0 y1 => ?_, fun y y0 y1 => ⟨?_, ?_⟩, fun y y0 y1 => ⟨?_, ?_, ?_, ?_, ?_⟩, rfl, rfl, rfl⟩))))
  · show r9.1 69 y = _
    rw [q9.2.1 69 y (by decide), q8.2.1 69 y (by decide), q7.2.1 69 y (by decide), q6.2.1 69 y (by decide), q5.2.1 69 y (by decide), q4.2.1 69 y (by decide), q3.2.1 69 y (by decide), q2.2.1 69 y (by decide), q1.2.1 69 y (by decide), q0.2.2 y, if_pos ⟨y0, y1⟩]; exact (d6.2.2.2.1 y y0 y1).1
  · show r9.1 70 y = _
    rw [q9.2.1 70 y (by decide), q8.2.1 70 y (by decide), q7.2.1 70 y (by decide), q6.2.1 70 y (by decide), q5.2.1 70 y (by decide), q4.2.1 70 y (by decide), q3.2.1 70 y (by decide), q2.2.1 70 y (by decide), q1.2.2 y, if_pos ⟨y0, y1⟩]
  · show r9.1 71 y = _
    rw [q9.2.1 71 y (by decide), q8.2.1 71 y (by decide), q7.2.1 71 y (by decide), q6.2.1 71 y (by decide), q5.2.1 71 y (by decide), q4.2.1 71 y (by decide), q3.2.1 71 y (by decide), q2.2.2 y, if_pos ⟨y0, y1⟩]
  · show r9.1 72 y = _
    rw [q9.2.1 72 y (by decide), q8.2.1 72 y (by decide), q7.2.1 72 y (by decide), q6.2.1 72 y (by decide), q5.2.1 72 y (by decide), q4.2.1 72 y (by decide), q3.2.2 y, if_pos ⟨y0, y1⟩]
  · show r9.1 73 y = _
    rw [q9.2.1 73 y (by decide), q8.2.1 73 y (by decide), q7.2.1 73 y (by decide), q6.2.1 73 y (by decide), q5.2.1 73 y (by decide), q4.2.2 y, if_pos ⟨y0, y1⟩]
  · show r9.1 74 y = _
    rw [q9.2.1 74 y (by decide), q8.2.1 74 y (by decide), q7.2.1 74 y (by decide), q6.2.1 74 y (by decide), q5.2.2 y, if_pos ⟨y0, y1⟩]
  · show r9.1 75 y = _
    rw [q9.2.1 75 y (by decide), q8.2.1 75 y (by decide), q7.2.1 75 y (by decide), q6.2.2 y, if_pos ⟨y0, y1⟩]
  · show r9.1 76 y = _
    rw [q9.2.1 76 y (by decide), q8.2.1 76 y (by decide), q7.2.2 y, if_pos ⟨y0, y1⟩]
  · show r9.1 77 y = _
    rw [q9.2.1 77 y (by decide), q8.2.2 y, if_pos ⟨y0, y1⟩]
def ZY (B : Mem) (D : Int → Int) : Prop := (∀ y, 0 ≤ y → y < 30 → B.1 97 y = D (2 + y)) ∧ (∀ y, 0 ≤ y → y < 20 → B.1 98 y = 0) ∧ (∀ y, 0 ≤ y → y < 120 → B.1 99 y = 0 ∧ B.1 100 y = 0) ∧ (∀ y, 0 ≤ y → y < 4 → B.1 103 y = 0 ∧ B.1 104 y = 0 ∧ B.1 105 y = 0 ∧ B.1 101 y = 0 ∧ B.1 102 y = 0) ∧ (∀ y, 0 ≤ y → y < 6 → B.1 107 y = 0) ∧ B.1 85 41 = 0 ∧ B.1 85 40 = 0
theorem RW'.keep (c : RW' P A k q D L) (kp : Keep A B) (e : ∀ y, 24 ≤ y → y ≤ 28 → B.1 85 y = A.1 85 y) (e48 : B.1 85 48 = A.1 85 48) : RW' P B k q D L := ⟨c.1.keep kp (fun y a b => e y a (by omega)), c.2.1.keep kp (e 27 (by decide) (by decide)), c.2.2.1.trans kp, by rw [e 28 (by decide) (by decide)]; exact c.2.2.2.1, by rw [e48]; exact c.2.2.2.2⟩
set_option maxHeartbeats 2000000 in
theorem beginR_V (c : RW' P N k q D L) : PC (fX11_begin N 85) (fun r => (RW' P r k q D L ∧ ∀ y, y = 28 ∨ y = 48 → r.1 85 y = N.1 85 y) ∧ ZY r D) := by
  unfold fX11_begin
  refine PC.iter (fun s => (0 ≤ s.1 ∧ s.1 ≤ 30) ∧ (RW' P s.2 k q D L ∧ ∀ y, y = 28 ∨ y = 48 → s.2.1 85 y = N.1 85 y) ∧ (∀ y, 0 ≤ y → y < s.1 → s.2.1 97 y = D (2 + y))) ?_ _ _ ⟨⟨by (try dsimp only); omega, by (try dsimp only); omega⟩, ⟨c, fun _ _ => rfl⟩, fun y _ z => by (try dsimp only at z); omega⟩
  rintro rec ⟨i, A⟩ ⟨⟨i0, i1⟩, ⟨cA, g⟩, z97⟩ hrec
  simp only at i0 i1 cA g z97 ⊢
  have wi : w32 (i + 1) = i + 1 := w32_of (by omega) (by omega)
  refine PC.ite (fun z => PC.guard (fun _ => ?_)) (fun z => ?_)
  · rw [w32_of (x := 2 + i) (by omega) (by omega), cA.1.of (by omega) (by omega), wp85_29 cA.1.1]
    refine PC.bindE rfl (PC.guard (fun _ => PC.sM (hrec _ ⟨⟨by (try dsimp only); omega, by (try dsimp only); omega⟩, ⟨cA.st (by decide), fun y hy => by rw [← g y hy]; exact mst_ne _ _ _ _ _ _ (by decide)⟩, fun y y0 y1 => ?_⟩)))
    have y1 : y < w32 (i + 1) := y1
    show (mst A 97 i (D (2 + i))).1 97 y = D (2 + y)
    by_cases e : y = i
    · rw [e, mst_at]
    · rw [mst_nf _ _ _ _ _ _ e]; exact z97 y y0 (by omega)
  have h30 : i = 30 := by omega
  subst h30
  clear hrec rec wi
  refine PC.iter (fun s => (0 ≤ s.1 ∧ s.1 ≤ 20) ∧ (RW' P s.2 k q D L ∧ ∀ y, y = 28 ∨ y = 48 → s.2.1 85 y = N.1 85 y) ∧ (∀ y, 0 ≤ y → y < 30 → s.2.1 97 y = D (2 + y)) ∧ (∀ y, 0 ≤ y → y < s.1 → s.2.1 98 y = 0)) ?_ _ _ ⟨⟨by (try dsimp only); omega, by (try dsimp only); omega⟩, ⟨cA, g⟩, z97, fun y _ z => by (try dsimp only at z); omega⟩
  clear cA g z97 z i0 i1 A
  rintro rec ⟨i, A⟩ ⟨⟨i0, i1⟩, ⟨cA, g⟩, z97, z98⟩ hrec
  simp only at i0 i1 cA g z97 z98 ⊢
  have wi : w32 (i + 1) = i + 1 := w32_of (by omega) (by omega)
  refine PC.ite (fun z => PC.guard (fun _ => ?_)) (fun z => ?_)
  · rw [wp85_30 cA.1.1]
    refine PC.guard (fun _ => PC.sM (hrec _ ⟨⟨by (try dsimp only); omega, by (try dsimp only); omega⟩, ⟨cA.st (by decide), fun y hy => by rw [← g y hy]; exact mst_ne _ _ _ _ _ _ (by decide)⟩, fun y y0 y1 => by rw [← z97 y y0 y1]; exact mst_ne _ _ _ _ _ _ (by decide), fun y y0 y1 => ?_⟩))
    have y1 : y < w32 (i + 1) := y1
    show (mst A 98 i 0).1 98 y = 0
    by_cases e : y = i
    · rw [e, mst_at]
    · rw [mst_nf _ _ _ _ _ _ e]; exact z98 y y0 (by omega)
  have h20 : i = 20 := by omega
  subst h20
  clear hrec rec wi
  refine PC.iter (fun s => (0 ≤ s.1 ∧ s.1 ≤ 120) ∧ (RW' P s.2 k q D L ∧ ∀ y, y = 28 ∨ y = 48 → s.2.1 85 y = N.1 85 y) ∧ (∀ y, 0 ≤ y → y < 30 → s.2.1 97 y = D (2 + y)) ∧ (∀ y, 0 ≤ y → y < 20 → s.2.1 98 y = 0) ∧ (∀ y, 0 ≤ y → y < s.1 → s.2.1 99 y = 0 ∧ s.2.1 100 y = 0)) ?_ _ _ ⟨⟨by (try dsimp only); omega, by (try dsimp only); omega⟩, ⟨cA, g⟩, z97, z98, fun y _ z => by (try dsimp only at z); omega⟩
  clear cA g z97 z98 z i0 i1 A
  rintro rec ⟨i, A⟩ ⟨⟨i0, i1⟩, ⟨cA, g⟩, z97, z98, z99⟩ hrec
  simp only at i0 i1 cA g z97 z98 z99 ⊢
  have wi : w32 (i + 1) = i + 1 := w32_of (by omega) (by omega)
  refine PC.ite (fun z => PC.guard (fun _ => ?_)) (fun z => ?_)
  · rw [wp85_31 cA.1.1]
    refine PC.guard (fun _ => PC.sM ?_)
    have c1 : RW' P (mst A 99 i 0) k q D L := cA.st (by decide)
    rw [wp85_32 c1.1.1]
    refine PC.guard (fun _ => PC.sM (hrec _ ⟨⟨by (try dsimp only); omega, by (try dsimp only); omega⟩, ⟨c1.st (by decide), fun y hy => by rw [← g y hy]; rfl⟩, fun y y0 y1 => by rw [← z97 y y0 y1]; rfl, fun y y0 y1 => by rw [← z98 y y0 y1]; rfl, fun y y0 y1 => ?_⟩))
    have y1 : y < w32 (i + 1) := y1
    show (mst (mst A 99 i 0) 100 i 0).1 99 y = 0 ∧ (mst (mst A 99 i 0) 100 i 0).1 100 y = 0
    rw [mst_ne _ _ _ _ _ _ (show (99 : Int) ≠ 100 by decide)]
    by_cases e : y = i
    · rw [e, mst_at, mst_at]; exact ⟨rfl, rfl⟩
    · rw [mst_nf _ _ _ _ _ _ e, mst_nf _ _ _ _ _ _ e, mst_ne _ _ _ _ _ _ (by decide)]; exact z99 y y0 (by omega)
  have h120 : i = 120 := by omega
  subst h120
  clear hrec rec wi
  refine PC.iter (fun s => (0 ≤ s.1 ∧ s.1 ≤ 4) ∧ (RW' P s.2 k q D L ∧ ∀ y, y = 28 ∨ y = 48 → s.2.1 85 y = N.1 85 y) ∧ (∀ y, 0 ≤ y → y < 30 → s.2.1 97 y = D (2 + y)) ∧ (∀ y, 0 ≤ y → y < 20 → s.2.1 98 y = 0) ∧ (∀ y, 0 ≤ y → y < 120 → s.2.1 99 y = 0 ∧ s.2.1 100 y = 0) ∧ (∀ y, 0 ≤ y → y < s.1 → s.2.1 103 y = 0 ∧ s.2.1 104 y = 0 ∧ s.2.1 105 y = 0 ∧ s.2.1 101 y = 0 ∧ s.2.1 102 y = 0)) ?_ _ _ ⟨⟨by (try dsimp only); omega, by (try dsimp only); omega⟩, ⟨cA, g⟩, z97, z98, z99, fun y _ z => by (try dsimp only at z); omega⟩
  clear cA g z97 z98 z99 z i0 i1 A
  rintro rec ⟨i, A⟩ ⟨⟨i0, i1⟩, ⟨cA, g⟩, z97, z98, z99, z4⟩ hrec
  simp only at i0 i1 cA g z97 z98 z99 z4 ⊢
  have wi : w32 (i + 1) = i + 1 := w32_of (by omega) (by omega)
  refine PC.ite (fun z => PC.guard (fun _ => ?_)) (fun z => ?_)
  · have hR := cA.1.1
    have v33 := wp85_33 hR
    have v34 := wp85_34 hR
    have v35 := wp85_35 hR
    have v36 := wp85_36 hR
    have v37 := wp85_37 hR
    have v38 := wp85_38 hR
    rw [v33]
    refine PC.guard (fun _ => PC.sM ?_)
    simp only [rr_101, v34]
    refine PC.guard (fun _ => PC.sM ?_)
    simp only [rr_101, rr_102, v35]
    refine PC.guard (fun _ => PC.sM ?_)
    simp only [rr_101, rr_102, rr_103, v36]
    refine PC.guard (fun _ => PC.sM ?_)
    simp only [rr_101, rr_102, rr_103, rr_104, v37]
    refine PC.guard (fun _ => PC.sM ?_)
    simp only [rr_101, rr_102, rr_103, rr_104, rr_105, v38]
    refine PC.guard (fun _ => PC.sM (hrec _ ⟨⟨by (try dsimp only); omega, by (try dsimp only); omega⟩, ⟨(((((cA.st (by decide)).st (by decide)).st (by decide)).st (by decide)).st (by decide)).st (by decide), fun y hy => by rw [← g y hy]; rfl⟩, fun y y0 y1 => by rw [← z97 y y0 y1]; rfl, fun y y0 y1 => by rw [← z98 y y0 y1]; rfl, fun y y0 y1 => ⟨by rw [← (z99 y y0 y1).1]; rfl, by rw [← (z99 y y0 y1).2]; rfl⟩, fun y y0 y1 => ?_⟩))
    have y1 : y < w32 (i + 1) := y1
    by_cases e : y = i
    · subst e
      refine ⟨?_, ?_, ?_, ?_, ?_⟩
      · show (mst (mst (mst (mst (mst (mst A 101 y 0) 102 y 0) 103 y 0) 104 y 0) 105 y 0) 106 y (-1)).1 103 y = 0
        rw [mst_ne _ _ _ _ _ _ (by decide), mst_ne _ _ _ _ _ _ (by decide), mst_ne _ _ _ _ _ _ (by decide), mst_at]
      · show (mst (mst (mst (mst (mst (mst A 101 y 0) 102 y 0) 103 y 0) 104 y 0) 105 y 0) 106 y (-1)).1 104 y = 0
        rw [mst_ne _ _ _ _ _ _ (by decide), mst_ne _ _ _ _ _ _ (by decide), mst_at]
      · show (mst (mst (mst (mst (mst (mst A 101 y 0) 102 y 0) 103 y 0) 104 y 0) 105 y 0) 106 y (-1)).1 105 y = 0
        rw [mst_ne _ _ _ _ _ _ (by decide), mst_at]
      · show (mst (mst (mst (mst (mst (mst A 101 y 0) 102 y 0) 103 y 0) 104 y 0) 105 y 0) 106 y (-1)).1 101 y = 0
        rw [mst_ne _ _ _ _ _ _ (by decide), mst_ne _ _ _ _ _ _ (by decide), mst_ne _ _ _ _ _ _ (by decide), mst_ne _ _ _ _ _ _ (by decide), mst_ne _ _ _ _ _ _ (by decide), mst_at]
      · show (mst (mst (mst (mst (mst (mst A 101 y 0) 102 y 0) 103 y 0) 104 y 0) 105 y 0) 106 y (-1)).1 102 y = 0
        rw [mst_ne _ _ _ _ _ _ (by decide), mst_ne _ _ _ _ _ _ (by decide), mst_ne _ _ _ _ _ _ (by decide), mst_ne _ _ _ _ _ _ (by decide), mst_at]
    · have z5 := z4 y y0 (by omega)
      have nf : ∀ x, (mst (mst (mst (mst (mst (mst A 101 i 0) 102 i 0) 103 i 0) 104 i 0) 105 i 0) 106 i (-1)).1 x y = A.1 x y := fun x => by rw [mst_nf _ _ _ _ _ _ e, mst_nf _ _ _ _ _ _ e, mst_nf _ _ _ _ _ _ e, mst_nf _ _ _ _ _ _ e, mst_nf _ _ _ _ _ _ e, mst_nf _ _ _ _ _ _ e]
      exact ⟨(nf 103).trans z5.1, (nf 104).trans z5.2.1, (nf 105).trans z5.2.2.1, (nf 101).trans z5.2.2.2.1, (nf 102).trans z5.2.2.2.2⟩
  have h4 : i = 4 := by omega
  subst h4
  clear hrec rec wi
  refine PC.iter (fun s => (0 ≤ s.1 ∧ s.1 ≤ 6) ∧ (RW' P s.2 k q D L ∧ ∀ y, y = 28 ∨ y = 48 → s.2.1 85 y = N.1 85 y) ∧ (∀ y, 0 ≤ y → y < 30 → s.2.1 97 y = D (2 + y)) ∧ (∀ y, 0 ≤ y → y < 20 → s.2.1 98 y = 0) ∧ (∀ y, 0 ≤ y → y < 120 → s.2.1 99 y = 0 ∧ s.2.1 100 y = 0) ∧ (∀ y, 0 ≤ y → y < 4 → s.2.1 103 y = 0 ∧ s.2.1 104 y = 0 ∧ s.2.1 105 y = 0 ∧ s.2.1 101 y = 0 ∧ s.2.1 102 y = 0) ∧ (∀ y, 0 ≤ y → y < s.1 → s.2.1 107 y = 0)) ?_ _ _ ⟨⟨by (try dsimp only); omega, by (try dsimp only); omega⟩, ⟨cA, g⟩, z97, z98, z99, z4, fun y _ z => by (try dsimp only at z); omega⟩
  clear cA g z97 z98 z99 z4 z i0 i1 A
  rintro rec ⟨i, A⟩ ⟨⟨i0, i1⟩, ⟨cA, g⟩, z97, z98, z99, z4, z6⟩ hrec
  simp only at i0 i1 cA g z97 z98 z99 z4 z6 ⊢
  have wi : w32 (i + 1) = i + 1 := w32_of (by omega) (by omega)
  refine PC.ite (fun z => PC.guard (fun _ => ?_)) (fun z => ?_)
  · rw [wp85_39 cA.1.1]
    refine PC.guard (fun _ => PC.sM (hrec _ ⟨⟨by (try dsimp only); omega, by (try dsimp only); omega⟩, ⟨cA.st (by decide), fun y hy => by rw [← g y hy]; rfl⟩, fun y y0 y1 => by rw [← z97 y y0 y1]; rfl, fun y y0 y1 => by rw [← z98 y y0 y1]; rfl, fun y y0 y1 => by have := z99 y y0 y1; exact this, fun y y0 y1 => by have := z4 y y0 y1; exact this, fun y y0 y1 => ?_⟩))
    have y1 : y < w32 (i + 1) := y1
    show (mst A 107 i 0).1 107 y = 0
    by_cases e : y = i
    · rw [e, mst_at]
    · rw [mst_nf _ _ _ _ _ _ e]; exact z6 y y0 (by omega)
  have h6 : i = 6 := by omega
  subst h6
  refine PC.guard (fun _ => PC.sM (PC.sM (PC.sM (PC.ok ⟨⟨((cA.stF rfl (by decide)).stF rfl (by decide)).stF rfl (by decide), fun y hy => ?_⟩, z97, z98, z99, z4, z6, ?_, ?_⟩))))
  · rw [← g y hy, mst_nf _ _ _ _ _ _ (by omega), mst_nf _ _ _ _ _ _ (by omega), mst_nf _ _ _ _ _ _ (by omega)]
  · rw [mst_nf _ _ _ _ _ _ (by decide), mst_at]
  · rw [mst_nf _ _ _ _ _ _ (by decide), mst_nf _ _ _ _ _ _ (by decide), mst_at]
theorem WB.start (c : CW O A a l D L) (e : RW' P B k q D L) (bd : DBd D) (lb : LBd L) (x : ZX A D) (y : ZY B D) : WB O P a l k q D L A B := by
  obtain ⟨x1, x2, x3, x4, x5, x6, x7⟩ := x
  obtain ⟨y1, y2, y3, y4, y5, y6, y7⟩ := y
  refine ⟨c, e, ⟨bd, lb⟩, fun i p r => by rw [x1 i p r, y1 i p r], fun i p r => by rw [x2 i p r, y2 i p r], fun i p r => by rw [(x3 i p r).1, (y3 i p r).1], fun i p r => by rw [(x3 i p r).2, (y3 i p r).2], fun i p r => by rw [(x4 i p r).1, (y4 i p r).1], fun i p r => by rw [(x4 i p r).2.1, (y4 i p r).2.1], fun i p r => by rw [(x4 i p r).2.2.1, (y4 i p r).2.2.1], fun i p r => by rw [(x4 i p r).2.2.2.1, (y4 i p r).2.2.2.1], fun i p r => by rw [(x4 i p r).2.2.2.2, (y4 i p r).2.2.2.2], ⟨by rw [x5, y6], by rw [x5]; decide⟩, by rw [x6, y7], fun i p r => by rw [x1 i p r]; exact bd.has i p r⟩
/-- the nights as told, on both sides -/
def ND (A B : Mem) (n k : Int) (E : Int → Int) : Prop := (NTA n ∧ A.1 n 0 = E 0 ∧ (0 ≤ E 0 ∧ E 0 ≤ 40) ∧ ∀ y, 0 ≤ y → y < E 0 → A.1 (n + 1) y = E (1 + 4 * y) ∧ A.1 (n + 2) y = E (2 + 4 * y) ∧ A.1 (n + 3) y = E (3 + 4 * y) ∧ A.1 (n + 4) y = E (4 + 4 * y)) ∧ ((k = 0 ∨ k = 1) ∧ B.1 85 28 = k ∧ ∀ y, 0 ≤ y → y < 161 → B.1 93 (161 * k + y) = E y) ∧ (∀ y, 0 ≤ y → y < E 0 → (E (1 + 4 * y) = 0 ∨ E (1 + 4 * y) = 1) → 0 ≤ E (4 + 4 * y) ∧ E (4 + 4 * y) ≤ 4) ∧ ∀ y, 0 ≤ y → y < E 0 → E (1 + 4 * y) = 2 → 1 ≤ E (4 + 4 * y)
end Play
