/-! where the cells lie behind both constructors -/
def MZ : Mem := (fun _ _ => 0, fun _ => -1, fun _ => 0, 0)
abbrev L3 : Type := List (Int × Int × Int)
def KL : L3 := [(0, 9, 6), (1, 6, 9), (2, 11, 600), (3, 12, 4), (4, 18, 2), (5, 14, 2), (6, 15, 2), (7, 16, 2), (8, 7, 10), (9, 12, 30), (10, 12, 30), (11, 12, 6), (12, 12, 6), (13, 12, 5), (14, 12, 5), (15, 12, 4), (16, 12, 4), (17, 0, 3), (18, 1, 5), (19, 12, 40), (20, 12, 40), (21, 12, 40), (22, 12, 40), (23, 4, 4), (24, 12, 8), (25, 12, 8), (26, 12, 30), (27, 7, 10), (28, 12, 30), (29, 12, 30), (30, 12, 6), (31, 12, 6), (32, 12, 5), (33, 12, 5), (34, 12, 4), (35, 12, 4), (36, 0, 3), (37, 1, 5), (38, 12, 40), (39, 12, 40), (40, 12, 40), (41, 12, 40), (42, 4, 4), (43, 12, 8), (44, 12, 8), (45, 12, 30), (46, 17, 3), (47, 3, 16), (48, 7, 10), (49, 12, 30), (50, 12, 30), (51, 12, 6), (52, 12, 6), (53, 12, 5), (54, 12, 5), (55, 12, 4), (56, 12, 4), (57, 0, 3), (58, 1, 5), (59, 12, 40), (60, 12, 40), (61, 12, 40), (62, 12, 40), (63, 4, 4), (64, 12, 8), (65, 12, 8), (66, 12, 30), (67, 12, 3), (68, 8, 17), (69, 12, 30), (70, 12, 20), (71, 12, 120), (72, 12, 120), (73, 12, 4), (74, 12, 4), (75, 12, 4), (76, 12, 4), (77, 12, 4), (78, 12, 4), (79, 5, 2), (80, 12, 109), (81, 12, 109), (82, 2, 5), (83, 12, 5), (84, 12, 5), (85, 10, 51), (86, 11, 2400), (87, 12, 4), (88, 12, 4), (89, 12, 4), (90, 12, 16), (91, 12, 736), (92, 12, 24), (93, 12, 1288), (94, 12, 376), (95, 12, 161), (96, 12, 4), (97, 12, 30), (98, 12, 20), (99, 12, 120), (100, 12, 120), (101, 12, 4), (102, 12, 4), (103, 12, 4), (104, 12, 4), (105, 12, 4), (106, 12, 4), (107, 12, 6), (108, 12, 30), (109, 12, 109), (110, 12, 109), (111, 13, 3)]
def PL : L3 := [(0, 0, 1), (1, 0, 2), (1, 4, 3), (1, 5, 4), (1, 6, 5), (1, 7, 6), (1, 8, 7), (8, 2, 9), (8, 3, 10), (8, 4, 11), (8, 5, 12), (8, 6, 13), (8, 7, 14), (8, 8, 15), (8, 9, 16), (4, 0, 8), (5, 0, 17), (18, 1, 19), (18, 2, 20), (18, 3, 21), (18, 4, 22), (6, 0, 18), (23, 1, 24), (23, 2, 25), (23, 3, 26), (7, 0, 23), (27, 2, 28), (27, 3, 29), (27, 4, 30), (27, 5, 31), (27, 6, 32), (27, 7, 33), (27, 8, 34), (27, 9, 35), (4, 1, 27), (5, 1, 36), (37, 1, 38), (37, 2, 39), (37, 3, 40), (37, 4, 41), (6, 1, 37), (42, 1, 43), (42, 2, 44), (42, 3, 45), (7, 1, 42), (0, 1, 46), (0, 2, 47), (48, 2, 49), (48, 3, 50), (48, 4, 51), (48, 5, 52), (48, 6, 53), (48, 7, 54), (48, 8, 55), (48, 9, 56), (47, 2, 48), (47, 3, 57), (58, 1, 59), (58, 2, 60), (58, 3, 61), (58, 4, 62), (47, 4, 58), (63, 1, 64), (63, 2, 65), (63, 3, 66), (47, 5, 63), (47, 12, 67), (0, 3, 68), (68, 2, 69), (68, 3, 70), (68, 4, 71), (68, 5, 72), (68, 6, 73), (68, 7, 74), (68, 8, 75), (68, 9, 76), (68, 10, 77), (68, 11, 78), (0, 4, 79), (0, 5, 82), (82, 0, 83), (82, 2, 84), (85, 1, 86), (85, 2, 87), (85, 3, 88), (85, 4, 89), (85, 5, 90), (85, 6, 91), (85, 7, 92), (85, 8, 93), (85, 9, 94), (85, 19, 95), (85, 20, 96), (85, 29, 97), (85, 30, 98), (85, 31, 99), (85, 32, 100), (85, 33, 101), (85, 34, 102), (85, 35, 103), (85, 36, 104), (85, 37, 105), (85, 38, 106), (85, 39, 107), (85, 43, 108), (85, 46, 109), (85, 47, 110), (85, 50, 111)]
def FL0 : L3 := [(1, 1, 0), (1, 2, 0), (1, 3, (-1)), (3, 0, 0), (3, 1, 0), (3, 2, 0), (3, 3, 0), (46, 0, (-1)), (46, 1, (-1)), (46, 2, (-1)), (87, 0, 0), (88, 0, 0), (89, 0, (-1)), (90, 0, 0), (90, 1, 0), (90, 2, 0), (90, 3, 0), (111, 0, 0), (111, 1, 0), (111, 2, 0), (79, 0, 80), (79, 1, 81)]
def hold (M : Mem) (l : L3) : Bool := l.all fun p => decide (M.1 p.1 p.2.1 = p.2.2)
def kinds (M : Mem) (l : L3) : Bool := l.all fun p => decide (M.2.1 p.1 = p.2.1) && decide (M.2.2.1 p.1 = p.2.2)
def Shp (M : Mem) : Prop := kinds M KL = true ∧ hold M PL = true
def Frs (M : Mem) : Prop := hold M FL0 = true
theorem hold_at {M : Mem} {l : L3} (h : hold M l = true) {p : Int × Int × Int} (i : Nat) (hi : l[i]? = some p) : M.1 p.1 p.2.1 = p.2.2 := by
  have := List.all_eq_true.mp h p (List.mem_of_getElem? hi)
  simpa using this
theorem kinds_at {M : Mem} {l : L3} (h : kinds M l = true) {p : Int × Int × Int} (i : Nat) (hi : l[i]? = some p) : M.2.1 p.1 = p.2.1 ∧ M.2.2.1 p.1 = p.2.2 := by
  have := List.all_eq_true.mp h p (List.mem_of_getElem? hi)
  simpa using this
def freeOf (l : L3) (a i : Int) : Bool := l.all fun p => !(decide (p.1 = a) && decide (p.2.1 = i))
theorem hold_mst {M : Mem} {l : L3} (h : hold M l = true) {a i : Int} (v : Int) (hf : freeOf l a i = true) : hold (mst M a i v) l = true := by
  unfold hold at *
  rw [List.all_eq_true] at *
  intro p hp
  have h1 := h p hp
  have h2 := List.all_eq_true.mp hf p hp
  simp only [decide_eq_true_eq] at h1 ⊢
  rw [mst_r, if_neg, h1]
  rintro ⟨e1, e2⟩
  simp [e1, e2] at h2
theorem Shp.mst {M : Mem} (h : Shp M) {a i : Int} (v : Int) (hf : freeOf PL a i = true) : Shp (mst M a i v) := ⟨h.1, hold_mst h.2 v hf⟩
theorem Frs.mst {M : Mem} (h : Frs M) {a i : Int} (v : Int) (hf : freeOf FL0 a i = true) : Frs (mst M a i v) := hold_mst h v hf
section ShpAt
variable {M : Mem}
theorem sk0 (h : Shp M) : M.2.1 0 = 9 := (kinds_at (p := (0, 9, 6)) h.1 0 rfl).1
theorem sl0 (h : Shp M) : M.2.2.1 0 = 6 := (kinds_at (p := (0, 9, 6)) h.1 0 rfl).2
theorem sk1 (h : Shp M) : M.2.1 1 = 6 := (kinds_at (p := (1, 6, 9)) h.1 1 rfl).1
theorem sl1 (h : Shp M) : M.2.2.1 1 = 9 := (kinds_at (p := (1, 6, 9)) h.1 1 rfl).2
theorem sk2 (h : Shp M) : M.2.1 2 = 11 := (kinds_at (p := (2, 11, 600)) h.1 2 rfl).1
theorem sl2 (h : Shp M) : M.2.2.1 2 = 600 := (kinds_at (p := (2, 11, 600)) h.1 2 rfl).2
theorem sk3 (h : Shp M) : M.2.1 3 = 12 := (kinds_at (p := (3, 12, 4)) h.1 3 rfl).1
theorem sl3 (h : Shp M) : M.2.2.1 3 = 4 := (kinds_at (p := (3, 12, 4)) h.1 3 rfl).2
theorem sk4 (h : Shp M) : M.2.1 4 = 18 := (kinds_at (p := (4, 18, 2)) h.1 4 rfl).1
theorem sl4 (h : Shp M) : M.2.2.1 4 = 2 := (kinds_at (p := (4, 18, 2)) h.1 4 rfl).2
theorem sk5 (h : Shp M) : M.2.1 5 = 14 := (kinds_at (p := (5, 14, 2)) h.1 5 rfl).1
theorem sl5 (h : Shp M) : M.2.2.1 5 = 2 := (kinds_at (p := (5, 14, 2)) h.1 5 rfl).2
theorem sk6 (h : Shp M) : M.2.1 6 = 15 := (kinds_at (p := (6, 15, 2)) h.1 6 rfl).1
theorem sl6 (h : Shp M) : M.2.2.1 6 = 2 := (kinds_at (p := (6, 15, 2)) h.1 6 rfl).2
theorem sk7 (h : Shp M) : M.2.1 7 = 16 := (kinds_at (p := (7, 16, 2)) h.1 7 rfl).1
theorem sl7 (h : Shp M) : M.2.2.1 7 = 2 := (kinds_at (p := (7, 16, 2)) h.1 7 rfl).2
theorem sk8 (h : Shp M) : M.2.1 8 = 7 := (kinds_at (p := (8, 7, 10)) h.1 8 rfl).1
theorem sl8 (h : Shp M) : M.2.2.1 8 = 10 := (kinds_at (p := (8, 7, 10)) h.1 8 rfl).2
theorem sk9 (h : Shp M) : M.2.1 9 = 12 := (kinds_at (p := (9, 12, 30)) h.1 9 rfl).1
theorem sl9 (h : Shp M) : M.2.2.1 9 = 30 := (kinds_at (p := (9, 12, 30)) h.1 9 rfl).2
theorem sk10 (h : Shp M) : M.2.1 10 = 12 := (kinds_at (p := (10, 12, 30)) h.1 10 rfl).1
theorem sl10 (h : Shp M) : M.2.2.1 10 = 30 := (kinds_at (p := (10, 12, 30)) h.1 10 rfl).2
theorem sk11 (h : Shp M) : M.2.1 11 = 12 := (kinds_at (p := (11, 12, 6)) h.1 11 rfl).1
theorem sl11 (h : Shp M) : M.2.2.1 11 = 6 := (kinds_at (p := (11, 12, 6)) h.1 11 rfl).2
theorem sk12 (h : Shp M) : M.2.1 12 = 12 := (kinds_at (p := (12, 12, 6)) h.1 12 rfl).1
theorem sl12 (h : Shp M) : M.2.2.1 12 = 6 := (kinds_at (p := (12, 12, 6)) h.1 12 rfl).2
theorem sk13 (h : Shp M) : M.2.1 13 = 12 := (kinds_at (p := (13, 12, 5)) h.1 13 rfl).1
theorem sl13 (h : Shp M) : M.2.2.1 13 = 5 := (kinds_at (p := (13, 12, 5)) h.1 13 rfl).2
theorem sk14 (h : Shp M) : M.2.1 14 = 12 := (kinds_at (p := (14, 12, 5)) h.1 14 rfl).1
theorem sl14 (h : Shp M) : M.2.2.1 14 = 5 := (kinds_at (p := (14, 12, 5)) h.1 14 rfl).2
theorem sk15 (h : Shp M) : M.2.1 15 = 12 := (kinds_at (p := (15, 12, 4)) h.1 15 rfl).1
theorem sl15 (h : Shp M) : M.2.2.1 15 = 4 := (kinds_at (p := (15, 12, 4)) h.1 15 rfl).2
theorem sk16 (h : Shp M) : M.2.1 16 = 12 := (kinds_at (p := (16, 12, 4)) h.1 16 rfl).1
theorem sl16 (h : Shp M) : M.2.2.1 16 = 4 := (kinds_at (p := (16, 12, 4)) h.1 16 rfl).2
theorem sk17 (h : Shp M) : M.2.1 17 = 0 := (kinds_at (p := (17, 0, 3)) h.1 17 rfl).1
theorem sl17 (h : Shp M) : M.2.2.1 17 = 3 := (kinds_at (p := (17, 0, 3)) h.1 17 rfl).2
theorem sk18 (h : Shp M) : M.2.1 18 = 1 := (kinds_at (p := (18, 1, 5)) h.1 18 rfl).1
theorem sl18 (h : Shp M) : M.2.2.1 18 = 5 := (kinds_at (p := (18, 1, 5)) h.1 18 rfl).2
theorem sk19 (h : Shp M) : M.2.1 19 = 12 := (kinds_at (p := (19, 12, 40)) h.1 19 rfl).1
theorem sl19 (h : Shp M) : M.2.2.1 19 = 40 := (kinds_at (p := (19, 12, 40)) h.1 19 rfl).2
theorem sk20 (h : Shp M) : M.2.1 20 = 12 := (kinds_at (p := (20, 12, 40)) h.1 20 rfl).1
theorem sl20 (h : Shp M) : M.2.2.1 20 = 40 := (kinds_at (p := (20, 12, 40)) h.1 20 rfl).2
theorem sk21 (h : Shp M) : M.2.1 21 = 12 := (kinds_at (p := (21, 12, 40)) h.1 21 rfl).1
theorem sl21 (h : Shp M) : M.2.2.1 21 = 40 := (kinds_at (p := (21, 12, 40)) h.1 21 rfl).2
theorem sk22 (h : Shp M) : M.2.1 22 = 12 := (kinds_at (p := (22, 12, 40)) h.1 22 rfl).1
theorem sl22 (h : Shp M) : M.2.2.1 22 = 40 := (kinds_at (p := (22, 12, 40)) h.1 22 rfl).2
theorem sk23 (h : Shp M) : M.2.1 23 = 4 := (kinds_at (p := (23, 4, 4)) h.1 23 rfl).1
theorem sl23 (h : Shp M) : M.2.2.1 23 = 4 := (kinds_at (p := (23, 4, 4)) h.1 23 rfl).2
theorem sk24 (h : Shp M) : M.2.1 24 = 12 := (kinds_at (p := (24, 12, 8)) h.1 24 rfl).1
theorem sl24 (h : Shp M) : M.2.2.1 24 = 8 := (kinds_at (p := (24, 12, 8)) h.1 24 rfl).2
theorem sk25 (h : Shp M) : M.2.1 25 = 12 := (kinds_at (p := (25, 12, 8)) h.1 25 rfl).1
theorem sl25 (h : Shp M) : M.2.2.1 25 = 8 := (kinds_at (p := (25, 12, 8)) h.1 25 rfl).2
theorem sk26 (h : Shp M) : M.2.1 26 = 12 := (kinds_at (p := (26, 12, 30)) h.1 26 rfl).1
theorem sl26 (h : Shp M) : M.2.2.1 26 = 30 := (kinds_at (p := (26, 12, 30)) h.1 26 rfl).2
theorem sk27 (h : Shp M) : M.2.1 27 = 7 := (kinds_at (p := (27, 7, 10)) h.1 27 rfl).1
theorem sl27 (h : Shp M) : M.2.2.1 27 = 10 := (kinds_at (p := (27, 7, 10)) h.1 27 rfl).2
theorem sk28 (h : Shp M) : M.2.1 28 = 12 := (kinds_at (p := (28, 12, 30)) h.1 28 rfl).1
theorem sl28 (h : Shp M) : M.2.2.1 28 = 30 := (kinds_at (p := (28, 12, 30)) h.1 28 rfl).2
theorem sk29 (h : Shp M) : M.2.1 29 = 12 := (kinds_at (p := (29, 12, 30)) h.1 29 rfl).1
theorem sl29 (h : Shp M) : M.2.2.1 29 = 30 := (kinds_at (p := (29, 12, 30)) h.1 29 rfl).2
theorem sk30 (h : Shp M) : M.2.1 30 = 12 := (kinds_at (p := (30, 12, 6)) h.1 30 rfl).1
theorem sl30 (h : Shp M) : M.2.2.1 30 = 6 := (kinds_at (p := (30, 12, 6)) h.1 30 rfl).2
theorem sk31 (h : Shp M) : M.2.1 31 = 12 := (kinds_at (p := (31, 12, 6)) h.1 31 rfl).1
theorem sl31 (h : Shp M) : M.2.2.1 31 = 6 := (kinds_at (p := (31, 12, 6)) h.1 31 rfl).2
theorem sk32 (h : Shp M) : M.2.1 32 = 12 := (kinds_at (p := (32, 12, 5)) h.1 32 rfl).1
theorem sl32 (h : Shp M) : M.2.2.1 32 = 5 := (kinds_at (p := (32, 12, 5)) h.1 32 rfl).2
theorem sk33 (h : Shp M) : M.2.1 33 = 12 := (kinds_at (p := (33, 12, 5)) h.1 33 rfl).1
theorem sl33 (h : Shp M) : M.2.2.1 33 = 5 := (kinds_at (p := (33, 12, 5)) h.1 33 rfl).2
theorem sk34 (h : Shp M) : M.2.1 34 = 12 := (kinds_at (p := (34, 12, 4)) h.1 34 rfl).1
theorem sl34 (h : Shp M) : M.2.2.1 34 = 4 := (kinds_at (p := (34, 12, 4)) h.1 34 rfl).2
theorem sk35 (h : Shp M) : M.2.1 35 = 12 := (kinds_at (p := (35, 12, 4)) h.1 35 rfl).1
theorem sl35 (h : Shp M) : M.2.2.1 35 = 4 := (kinds_at (p := (35, 12, 4)) h.1 35 rfl).2
theorem sk36 (h : Shp M) : M.2.1 36 = 0 := (kinds_at (p := (36, 0, 3)) h.1 36 rfl).1
theorem sl36 (h : Shp M) : M.2.2.1 36 = 3 := (kinds_at (p := (36, 0, 3)) h.1 36 rfl).2
theorem sk37 (h : Shp M) : M.2.1 37 = 1 := (kinds_at (p := (37, 1, 5)) h.1 37 rfl).1
theorem sl37 (h : Shp M) : M.2.2.1 37 = 5 := (kinds_at (p := (37, 1, 5)) h.1 37 rfl).2
theorem sk38 (h : Shp M) : M.2.1 38 = 12 := (kinds_at (p := (38, 12, 40)) h.1 38 rfl).1
theorem sl38 (h : Shp M) : M.2.2.1 38 = 40 := (kinds_at (p := (38, 12, 40)) h.1 38 rfl).2
theorem sk39 (h : Shp M) : M.2.1 39 = 12 := (kinds_at (p := (39, 12, 40)) h.1 39 rfl).1
theorem sl39 (h : Shp M) : M.2.2.1 39 = 40 := (kinds_at (p := (39, 12, 40)) h.1 39 rfl).2
theorem sk40 (h : Shp M) : M.2.1 40 = 12 := (kinds_at (p := (40, 12, 40)) h.1 40 rfl).1
theorem sl40 (h : Shp M) : M.2.2.1 40 = 40 := (kinds_at (p := (40, 12, 40)) h.1 40 rfl).2
theorem sk41 (h : Shp M) : M.2.1 41 = 12 := (kinds_at (p := (41, 12, 40)) h.1 41 rfl).1
theorem sl41 (h : Shp M) : M.2.2.1 41 = 40 := (kinds_at (p := (41, 12, 40)) h.1 41 rfl).2
theorem sk42 (h : Shp M) : M.2.1 42 = 4 := (kinds_at (p := (42, 4, 4)) h.1 42 rfl).1
theorem sl42 (h : Shp M) : M.2.2.1 42 = 4 := (kinds_at (p := (42, 4, 4)) h.1 42 rfl).2
theorem sk43 (h : Shp M) : M.2.1 43 = 12 := (kinds_at (p := (43, 12, 8)) h.1 43 rfl).1
theorem sl43 (h : Shp M) : M.2.2.1 43 = 8 := (kinds_at (p := (43, 12, 8)) h.1 43 rfl).2
theorem sk44 (h : Shp M) : M.2.1 44 = 12 := (kinds_at (p := (44, 12, 8)) h.1 44 rfl).1
theorem sl44 (h : Shp M) : M.2.2.1 44 = 8 := (kinds_at (p := (44, 12, 8)) h.1 44 rfl).2
theorem sk45 (h : Shp M) : M.2.1 45 = 12 := (kinds_at (p := (45, 12, 30)) h.1 45 rfl).1
theorem sl45 (h : Shp M) : M.2.2.1 45 = 30 := (kinds_at (p := (45, 12, 30)) h.1 45 rfl).2
theorem sk46 (h : Shp M) : M.2.1 46 = 17 := (kinds_at (p := (46, 17, 3)) h.1 46 rfl).1
theorem sl46 (h : Shp M) : M.2.2.1 46 = 3 := (kinds_at (p := (46, 17, 3)) h.1 46 rfl).2
theorem sk47 (h : Shp M) : M.2.1 47 = 3 := (kinds_at (p := (47, 3, 16)) h.1 47 rfl).1
theorem sl47 (h : Shp M) : M.2.2.1 47 = 16 := (kinds_at (p := (47, 3, 16)) h.1 47 rfl).2
theorem sk48 (h : Shp M) : M.2.1 48 = 7 := (kinds_at (p := (48, 7, 10)) h.1 48 rfl).1
theorem sl48 (h : Shp M) : M.2.2.1 48 = 10 := (kinds_at (p := (48, 7, 10)) h.1 48 rfl).2
theorem sk49 (h : Shp M) : M.2.1 49 = 12 := (kinds_at (p := (49, 12, 30)) h.1 49 rfl).1
theorem sl49 (h : Shp M) : M.2.2.1 49 = 30 := (kinds_at (p := (49, 12, 30)) h.1 49 rfl).2
theorem sk50 (h : Shp M) : M.2.1 50 = 12 := (kinds_at (p := (50, 12, 30)) h.1 50 rfl).1
theorem sl50 (h : Shp M) : M.2.2.1 50 = 30 := (kinds_at (p := (50, 12, 30)) h.1 50 rfl).2
theorem sk51 (h : Shp M) : M.2.1 51 = 12 := (kinds_at (p := (51, 12, 6)) h.1 51 rfl).1
theorem sl51 (h : Shp M) : M.2.2.1 51 = 6 := (kinds_at (p := (51, 12, 6)) h.1 51 rfl).2
theorem sk52 (h : Shp M) : M.2.1 52 = 12 := (kinds_at (p := (52, 12, 6)) h.1 52 rfl).1
theorem sl52 (h : Shp M) : M.2.2.1 52 = 6 := (kinds_at (p := (52, 12, 6)) h.1 52 rfl).2
theorem sk53 (h : Shp M) : M.2.1 53 = 12 := (kinds_at (p := (53, 12, 5)) h.1 53 rfl).1
theorem sl53 (h : Shp M) : M.2.2.1 53 = 5 := (kinds_at (p := (53, 12, 5)) h.1 53 rfl).2
theorem sk54 (h : Shp M) : M.2.1 54 = 12 := (kinds_at (p := (54, 12, 5)) h.1 54 rfl).1
theorem sl54 (h : Shp M) : M.2.2.1 54 = 5 := (kinds_at (p := (54, 12, 5)) h.1 54 rfl).2
theorem sk55 (h : Shp M) : M.2.1 55 = 12 := (kinds_at (p := (55, 12, 4)) h.1 55 rfl).1
theorem sl55 (h : Shp M) : M.2.2.1 55 = 4 := (kinds_at (p := (55, 12, 4)) h.1 55 rfl).2
theorem sk56 (h : Shp M) : M.2.1 56 = 12 := (kinds_at (p := (56, 12, 4)) h.1 56 rfl).1
theorem sl56 (h : Shp M) : M.2.2.1 56 = 4 := (kinds_at (p := (56, 12, 4)) h.1 56 rfl).2
theorem sk57 (h : Shp M) : M.2.1 57 = 0 := (kinds_at (p := (57, 0, 3)) h.1 57 rfl).1
theorem sl57 (h : Shp M) : M.2.2.1 57 = 3 := (kinds_at (p := (57, 0, 3)) h.1 57 rfl).2
theorem sk58 (h : Shp M) : M.2.1 58 = 1 := (kinds_at (p := (58, 1, 5)) h.1 58 rfl).1
theorem sl58 (h : Shp M) : M.2.2.1 58 = 5 := (kinds_at (p := (58, 1, 5)) h.1 58 rfl).2
theorem sk59 (h : Shp M) : M.2.1 59 = 12 := (kinds_at (p := (59, 12, 40)) h.1 59 rfl).1
theorem sl59 (h : Shp M) : M.2.2.1 59 = 40 := (kinds_at (p := (59, 12, 40)) h.1 59 rfl).2
theorem sk60 (h : Shp M) : M.2.1 60 = 12 := (kinds_at (p := (60, 12, 40)) h.1 60 rfl).1
theorem sl60 (h : Shp M) : M.2.2.1 60 = 40 := (kinds_at (p := (60, 12, 40)) h.1 60 rfl).2
theorem sk61 (h : Shp M) : M.2.1 61 = 12 := (kinds_at (p := (61, 12, 40)) h.1 61 rfl).1
theorem sl61 (h : Shp M) : M.2.2.1 61 = 40 := (kinds_at (p := (61, 12, 40)) h.1 61 rfl).2
theorem sk62 (h : Shp M) : M.2.1 62 = 12 := (kinds_at (p := (62, 12, 40)) h.1 62 rfl).1
theorem sl62 (h : Shp M) : M.2.2.1 62 = 40 := (kinds_at (p := (62, 12, 40)) h.1 62 rfl).2
theorem sk63 (h : Shp M) : M.2.1 63 = 4 := (kinds_at (p := (63, 4, 4)) h.1 63 rfl).1
theorem sl63 (h : Shp M) : M.2.2.1 63 = 4 := (kinds_at (p := (63, 4, 4)) h.1 63 rfl).2
theorem sk64 (h : Shp M) : M.2.1 64 = 12 := (kinds_at (p := (64, 12, 8)) h.1 64 rfl).1
theorem sl64 (h : Shp M) : M.2.2.1 64 = 8 := (kinds_at (p := (64, 12, 8)) h.1 64 rfl).2
theorem sk65 (h : Shp M) : M.2.1 65 = 12 := (kinds_at (p := (65, 12, 8)) h.1 65 rfl).1
theorem sl65 (h : Shp M) : M.2.2.1 65 = 8 := (kinds_at (p := (65, 12, 8)) h.1 65 rfl).2
theorem sk66 (h : Shp M) : M.2.1 66 = 12 := (kinds_at (p := (66, 12, 30)) h.1 66 rfl).1
theorem sl66 (h : Shp M) : M.2.2.1 66 = 30 := (kinds_at (p := (66, 12, 30)) h.1 66 rfl).2
theorem sk67 (h : Shp M) : M.2.1 67 = 12 := (kinds_at (p := (67, 12, 3)) h.1 67 rfl).1
theorem sl67 (h : Shp M) : M.2.2.1 67 = 3 := (kinds_at (p := (67, 12, 3)) h.1 67 rfl).2
theorem sk68 (h : Shp M) : M.2.1 68 = 8 := (kinds_at (p := (68, 8, 17)) h.1 68 rfl).1
theorem sl68 (h : Shp M) : M.2.2.1 68 = 17 := (kinds_at (p := (68, 8, 17)) h.1 68 rfl).2
theorem sk69 (h : Shp M) : M.2.1 69 = 12 := (kinds_at (p := (69, 12, 30)) h.1 69 rfl).1
theorem sl69 (h : Shp M) : M.2.2.1 69 = 30 := (kinds_at (p := (69, 12, 30)) h.1 69 rfl).2
theorem sk70 (h : Shp M) : M.2.1 70 = 12 := (kinds_at (p := (70, 12, 20)) h.1 70 rfl).1
theorem sl70 (h : Shp M) : M.2.2.1 70 = 20 := (kinds_at (p := (70, 12, 20)) h.1 70 rfl).2
theorem sk71 (h : Shp M) : M.2.1 71 = 12 := (kinds_at (p := (71, 12, 120)) h.1 71 rfl).1
theorem sl71 (h : Shp M) : M.2.2.1 71 = 120 := (kinds_at (p := (71, 12, 120)) h.1 71 rfl).2
theorem sk72 (h : Shp M) : M.2.1 72 = 12 := (kinds_at (p := (72, 12, 120)) h.1 72 rfl).1
theorem sl72 (h : Shp M) : M.2.2.1 72 = 120 := (kinds_at (p := (72, 12, 120)) h.1 72 rfl).2
theorem sk73 (h : Shp M) : M.2.1 73 = 12 := (kinds_at (p := (73, 12, 4)) h.1 73 rfl).1
theorem sl73 (h : Shp M) : M.2.2.1 73 = 4 := (kinds_at (p := (73, 12, 4)) h.1 73 rfl).2
theorem sk74 (h : Shp M) : M.2.1 74 = 12 := (kinds_at (p := (74, 12, 4)) h.1 74 rfl).1
theorem sl74 (h : Shp M) : M.2.2.1 74 = 4 := (kinds_at (p := (74, 12, 4)) h.1 74 rfl).2
theorem sk75 (h : Shp M) : M.2.1 75 = 12 := (kinds_at (p := (75, 12, 4)) h.1 75 rfl).1
theorem sl75 (h : Shp M) : M.2.2.1 75 = 4 := (kinds_at (p := (75, 12, 4)) h.1 75 rfl).2
theorem sk76 (h : Shp M) : M.2.1 76 = 12 := (kinds_at (p := (76, 12, 4)) h.1 76 rfl).1
theorem sl76 (h : Shp M) : M.2.2.1 76 = 4 := (kinds_at (p := (76, 12, 4)) h.1 76 rfl).2
theorem sk77 (h : Shp M) : M.2.1 77 = 12 := (kinds_at (p := (77, 12, 4)) h.1 77 rfl).1
theorem sl77 (h : Shp M) : M.2.2.1 77 = 4 := (kinds_at (p := (77, 12, 4)) h.1 77 rfl).2
theorem sk78 (h : Shp M) : M.2.1 78 = 12 := (kinds_at (p := (78, 12, 4)) h.1 78 rfl).1
theorem sl78 (h : Shp M) : M.2.2.1 78 = 4 := (kinds_at (p := (78, 12, 4)) h.1 78 rfl).2
theorem sk79 (h : Shp M) : M.2.1 79 = 5 := (kinds_at (p := (79, 5, 2)) h.1 79 rfl).1
theorem sl79 (h : Shp M) : M.2.2.1 79 = 2 := (kinds_at (p := (79, 5, 2)) h.1 79 rfl).2
theorem sk80 (h : Shp M) : M.2.1 80 = 12 := (kinds_at (p := (80, 12, 109)) h.1 80 rfl).1
theorem sl80 (h : Shp M) : M.2.2.1 80 = 109 := (kinds_at (p := (80, 12, 109)) h.1 80 rfl).2
theorem sk81 (h : Shp M) : M.2.1 81 = 12 := (kinds_at (p := (81, 12, 109)) h.1 81 rfl).1
theorem sl81 (h : Shp M) : M.2.2.1 81 = 109 := (kinds_at (p := (81, 12, 109)) h.1 81 rfl).2
theorem sk82 (h : Shp M) : M.2.1 82 = 2 := (kinds_at (p := (82, 2, 5)) h.1 82 rfl).1
theorem sl82 (h : Shp M) : M.2.2.1 82 = 5 := (kinds_at (p := (82, 2, 5)) h.1 82 rfl).2
theorem sk83 (h : Shp M) : M.2.1 83 = 12 := (kinds_at (p := (83, 12, 5)) h.1 83 rfl).1
theorem sl83 (h : Shp M) : M.2.2.1 83 = 5 := (kinds_at (p := (83, 12, 5)) h.1 83 rfl).2
theorem sk84 (h : Shp M) : M.2.1 84 = 12 := (kinds_at (p := (84, 12, 5)) h.1 84 rfl).1
theorem sl84 (h : Shp M) : M.2.2.1 84 = 5 := (kinds_at (p := (84, 12, 5)) h.1 84 rfl).2
theorem sk85 (h : Shp M) : M.2.1 85 = 10 := (kinds_at (p := (85, 10, 51)) h.1 85 rfl).1
theorem sl85 (h : Shp M) : M.2.2.1 85 = 51 := (kinds_at (p := (85, 10, 51)) h.1 85 rfl).2
theorem sk86 (h : Shp M) : M.2.1 86 = 11 := (kinds_at (p := (86, 11, 2400)) h.1 86 rfl).1
theorem sl86 (h : Shp M) : M.2.2.1 86 = 2400 := (kinds_at (p := (86, 11, 2400)) h.1 86 rfl).2
theorem sk87 (h : Shp M) : M.2.1 87 = 12 := (kinds_at (p := (87, 12, 4)) h.1 87 rfl).1
theorem sl87 (h : Shp M) : M.2.2.1 87 = 4 := (kinds_at (p := (87, 12, 4)) h.1 87 rfl).2
theorem sk88 (h : Shp M) : M.2.1 88 = 12 := (kinds_at (p := (88, 12, 4)) h.1 88 rfl).1
theorem sl88 (h : Shp M) : M.2.2.1 88 = 4 := (kinds_at (p := (88, 12, 4)) h.1 88 rfl).2
theorem sk89 (h : Shp M) : M.2.1 89 = 12 := (kinds_at (p := (89, 12, 4)) h.1 89 rfl).1
theorem sl89 (h : Shp M) : M.2.2.1 89 = 4 := (kinds_at (p := (89, 12, 4)) h.1 89 rfl).2
theorem sk90 (h : Shp M) : M.2.1 90 = 12 := (kinds_at (p := (90, 12, 16)) h.1 90 rfl).1
theorem sl90 (h : Shp M) : M.2.2.1 90 = 16 := (kinds_at (p := (90, 12, 16)) h.1 90 rfl).2
theorem sk91 (h : Shp M) : M.2.1 91 = 12 := (kinds_at (p := (91, 12, 736)) h.1 91 rfl).1
theorem sl91 (h : Shp M) : M.2.2.1 91 = 736 := (kinds_at (p := (91, 12, 736)) h.1 91 rfl).2
theorem sk92 (h : Shp M) : M.2.1 92 = 12 := (kinds_at (p := (92, 12, 24)) h.1 92 rfl).1
theorem sl92 (h : Shp M) : M.2.2.1 92 = 24 := (kinds_at (p := (92, 12, 24)) h.1 92 rfl).2
theorem sk93 (h : Shp M) : M.2.1 93 = 12 := (kinds_at (p := (93, 12, 1288)) h.1 93 rfl).1
theorem sl93 (h : Shp M) : M.2.2.1 93 = 1288 := (kinds_at (p := (93, 12, 1288)) h.1 93 rfl).2
theorem sk94 (h : Shp M) : M.2.1 94 = 12 := (kinds_at (p := (94, 12, 376)) h.1 94 rfl).1
theorem sl94 (h : Shp M) : M.2.2.1 94 = 376 := (kinds_at (p := (94, 12, 376)) h.1 94 rfl).2
theorem sk95 (h : Shp M) : M.2.1 95 = 12 := (kinds_at (p := (95, 12, 161)) h.1 95 rfl).1
theorem sl95 (h : Shp M) : M.2.2.1 95 = 161 := (kinds_at (p := (95, 12, 161)) h.1 95 rfl).2
theorem sk96 (h : Shp M) : M.2.1 96 = 12 := (kinds_at (p := (96, 12, 4)) h.1 96 rfl).1
theorem sl96 (h : Shp M) : M.2.2.1 96 = 4 := (kinds_at (p := (96, 12, 4)) h.1 96 rfl).2
theorem sk97 (h : Shp M) : M.2.1 97 = 12 := (kinds_at (p := (97, 12, 30)) h.1 97 rfl).1
theorem sl97 (h : Shp M) : M.2.2.1 97 = 30 := (kinds_at (p := (97, 12, 30)) h.1 97 rfl).2
theorem sk98 (h : Shp M) : M.2.1 98 = 12 := (kinds_at (p := (98, 12, 20)) h.1 98 rfl).1
theorem sl98 (h : Shp M) : M.2.2.1 98 = 20 := (kinds_at (p := (98, 12, 20)) h.1 98 rfl).2
theorem sk99 (h : Shp M) : M.2.1 99 = 12 := (kinds_at (p := (99, 12, 120)) h.1 99 rfl).1
theorem sl99 (h : Shp M) : M.2.2.1 99 = 120 := (kinds_at (p := (99, 12, 120)) h.1 99 rfl).2
theorem sk100 (h : Shp M) : M.2.1 100 = 12 := (kinds_at (p := (100, 12, 120)) h.1 100 rfl).1
theorem sl100 (h : Shp M) : M.2.2.1 100 = 120 := (kinds_at (p := (100, 12, 120)) h.1 100 rfl).2
theorem sk101 (h : Shp M) : M.2.1 101 = 12 := (kinds_at (p := (101, 12, 4)) h.1 101 rfl).1
theorem sl101 (h : Shp M) : M.2.2.1 101 = 4 := (kinds_at (p := (101, 12, 4)) h.1 101 rfl).2
theorem sk102 (h : Shp M) : M.2.1 102 = 12 := (kinds_at (p := (102, 12, 4)) h.1 102 rfl).1
theorem sl102 (h : Shp M) : M.2.2.1 102 = 4 := (kinds_at (p := (102, 12, 4)) h.1 102 rfl).2
theorem sk103 (h : Shp M) : M.2.1 103 = 12 := (kinds_at (p := (103, 12, 4)) h.1 103 rfl).1
theorem sl103 (h : Shp M) : M.2.2.1 103 = 4 := (kinds_at (p := (103, 12, 4)) h.1 103 rfl).2
theorem sk104 (h : Shp M) : M.2.1 104 = 12 := (kinds_at (p := (104, 12, 4)) h.1 104 rfl).1
theorem sl104 (h : Shp M) : M.2.2.1 104 = 4 := (kinds_at (p := (104, 12, 4)) h.1 104 rfl).2
theorem sk105 (h : Shp M) : M.2.1 105 = 12 := (kinds_at (p := (105, 12, 4)) h.1 105 rfl).1
theorem sl105 (h : Shp M) : M.2.2.1 105 = 4 := (kinds_at (p := (105, 12, 4)) h.1 105 rfl).2
theorem sk106 (h : Shp M) : M.2.1 106 = 12 := (kinds_at (p := (106, 12, 4)) h.1 106 rfl).1
theorem sl106 (h : Shp M) : M.2.2.1 106 = 4 := (kinds_at (p := (106, 12, 4)) h.1 106 rfl).2
theorem sk107 (h : Shp M) : M.2.1 107 = 12 := (kinds_at (p := (107, 12, 6)) h.1 107 rfl).1
theorem sl107 (h : Shp M) : M.2.2.1 107 = 6 := (kinds_at (p := (107, 12, 6)) h.1 107 rfl).2
theorem sk108 (h : Shp M) : M.2.1 108 = 12 := (kinds_at (p := (108, 12, 30)) h.1 108 rfl).1
theorem sl108 (h : Shp M) : M.2.2.1 108 = 30 := (kinds_at (p := (108, 12, 30)) h.1 108 rfl).2
theorem sk109 (h : Shp M) : M.2.1 109 = 12 := (kinds_at (p := (109, 12, 109)) h.1 109 rfl).1
theorem sl109 (h : Shp M) : M.2.2.1 109 = 109 := (kinds_at (p := (109, 12, 109)) h.1 109 rfl).2
theorem sk110 (h : Shp M) : M.2.1 110 = 12 := (kinds_at (p := (110, 12, 109)) h.1 110 rfl).1
theorem sl110 (h : Shp M) : M.2.2.1 110 = 109 := (kinds_at (p := (110, 12, 109)) h.1 110 rfl).2
theorem sk111 (h : Shp M) : M.2.1 111 = 13 := (kinds_at (p := (111, 13, 3)) h.1 111 rfl).1
theorem sl111 (h : Shp M) : M.2.2.1 111 = 3 := (kinds_at (p := (111, 13, 3)) h.1 111 rfl).2
theorem sp0_0 (h : Shp M) : M.1 0 0 = 1 := hold_at (p := (0, 0, 1)) h.2 0 rfl
theorem sp1_0 (h : Shp M) : M.1 1 0 = 2 := hold_at (p := (1, 0, 2)) h.2 1 rfl
theorem sp1_4 (h : Shp M) : M.1 1 4 = 3 := hold_at (p := (1, 4, 3)) h.2 2 rfl
theorem sp1_5 (h : Shp M) : M.1 1 5 = 4 := hold_at (p := (1, 5, 4)) h.2 3 rfl
theorem sp1_6 (h : Shp M) : M.1 1 6 = 5 := hold_at (p := (1, 6, 5)) h.2 4 rfl
theorem sp1_7 (h : Shp M) : M.1 1 7 = 6 := hold_at (p := (1, 7, 6)) h.2 5 rfl
theorem sp1_8 (h : Shp M) : M.1 1 8 = 7 := hold_at (p := (1, 8, 7)) h.2 6 rfl
theorem sp8_2 (h : Shp M) : M.1 8 2 = 9 := hold_at (p := (8, 2, 9)) h.2 7 rfl
theorem sp8_3 (h : Shp M) : M.1 8 3 = 10 := hold_at (p := (8, 3, 10)) h.2 8 rfl
theorem sp8_4 (h : Shp M) : M.1 8 4 = 11 := hold_at (p := (8, 4, 11)) h.2 9 rfl
theorem sp8_5 (h : Shp M) : M.1 8 5 = 12 := hold_at (p := (8, 5, 12)) h.2 10 rfl
theorem sp8_6 (h : Shp M) : M.1 8 6 = 13 := hold_at (p := (8, 6, 13)) h.2 11 rfl
theorem sp8_7 (h : Shp M) : M.1 8 7 = 14 := hold_at (p := (8, 7, 14)) h.2 12 rfl
theorem sp8_8 (h : Shp M) : M.1 8 8 = 15 := hold_at (p := (8, 8, 15)) h.2 13 rfl
theorem sp8_9 (h : Shp M) : M.1 8 9 = 16 := hold_at (p := (8, 9, 16)) h.2 14 rfl
theorem sp4_0 (h : Shp M) : M.1 4 0 = 8 := hold_at (p := (4, 0, 8)) h.2 15 rfl
theorem sp5_0 (h : Shp M) : M.1 5 0 = 17 := hold_at (p := (5, 0, 17)) h.2 16 rfl
theorem sp18_1 (h : Shp M) : M.1 18 1 = 19 := hold_at (p := (18, 1, 19)) h.2 17 rfl
theorem sp18_2 (h : Shp M) : M.1 18 2 = 20 := hold_at (p := (18, 2, 20)) h.2 18 rfl
theorem sp18_3 (h : Shp M) : M.1 18 3 = 21 := hold_at (p := (18, 3, 21)) h.2 19 rfl
theorem sp18_4 (h : Shp M) : M.1 18 4 = 22 := hold_at (p := (18, 4, 22)) h.2 20 rfl
theorem sp6_0 (h : Shp M) : M.1 6 0 = 18 := hold_at (p := (6, 0, 18)) h.2 21 rfl
theorem sp23_1 (h : Shp M) : M.1 23 1 = 24 := hold_at (p := (23, 1, 24)) h.2 22 rfl
theorem sp23_2 (h : Shp M) : M.1 23 2 = 25 := hold_at (p := (23, 2, 25)) h.2 23 rfl
theorem sp23_3 (h : Shp M) : M.1 23 3 = 26 := hold_at (p := (23, 3, 26)) h.2 24 rfl
theorem sp7_0 (h : Shp M) : M.1 7 0 = 23 := hold_at (p := (7, 0, 23)) h.2 25 rfl
theorem sp27_2 (h : Shp M) : M.1 27 2 = 28 := hold_at (p := (27, 2, 28)) h.2 26 rfl
theorem sp27_3 (h : Shp M) : M.1 27 3 = 29 := hold_at (p := (27, 3, 29)) h.2 27 rfl
theorem sp27_4 (h : Shp M) : M.1 27 4 = 30 := hold_at (p := (27, 4, 30)) h.2 28 rfl
theorem sp27_5 (h : Shp M) : M.1 27 5 = 31 := hold_at (p := (27, 5, 31)) h.2 29 rfl
theorem sp27_6 (h : Shp M) : M.1 27 6 = 32 := hold_at (p := (27, 6, 32)) h.2 30 rfl
theorem sp27_7 (h : Shp M) : M.1 27 7 = 33 := hold_at (p := (27, 7, 33)) h.2 31 rfl
theorem sp27_8 (h : Shp M) : M.1 27 8 = 34 := hold_at (p := (27, 8, 34)) h.2 32 rfl
theorem sp27_9 (h : Shp M) : M.1 27 9 = 35 := hold_at (p := (27, 9, 35)) h.2 33 rfl
theorem sp4_1 (h : Shp M) : M.1 4 1 = 27 := hold_at (p := (4, 1, 27)) h.2 34 rfl
theorem sp5_1 (h : Shp M) : M.1 5 1 = 36 := hold_at (p := (5, 1, 36)) h.2 35 rfl
theorem sp37_1 (h : Shp M) : M.1 37 1 = 38 := hold_at (p := (37, 1, 38)) h.2 36 rfl
theorem sp37_2 (h : Shp M) : M.1 37 2 = 39 := hold_at (p := (37, 2, 39)) h.2 37 rfl
theorem sp37_3 (h : Shp M) : M.1 37 3 = 40 := hold_at (p := (37, 3, 40)) h.2 38 rfl
theorem sp37_4 (h : Shp M) : M.1 37 4 = 41 := hold_at (p := (37, 4, 41)) h.2 39 rfl
theorem sp6_1 (h : Shp M) : M.1 6 1 = 37 := hold_at (p := (6, 1, 37)) h.2 40 rfl
theorem sp42_1 (h : Shp M) : M.1 42 1 = 43 := hold_at (p := (42, 1, 43)) h.2 41 rfl
theorem sp42_2 (h : Shp M) : M.1 42 2 = 44 := hold_at (p := (42, 2, 44)) h.2 42 rfl
theorem sp42_3 (h : Shp M) : M.1 42 3 = 45 := hold_at (p := (42, 3, 45)) h.2 43 rfl
theorem sp7_1 (h : Shp M) : M.1 7 1 = 42 := hold_at (p := (7, 1, 42)) h.2 44 rfl
theorem sp0_1 (h : Shp M) : M.1 0 1 = 46 := hold_at (p := (0, 1, 46)) h.2 45 rfl
theorem sp0_2 (h : Shp M) : M.1 0 2 = 47 := hold_at (p := (0, 2, 47)) h.2 46 rfl
theorem sp48_2 (h : Shp M) : M.1 48 2 = 49 := hold_at (p := (48, 2, 49)) h.2 47 rfl
theorem sp48_3 (h : Shp M) : M.1 48 3 = 50 := hold_at (p := (48, 3, 50)) h.2 48 rfl
theorem sp48_4 (h : Shp M) : M.1 48 4 = 51 := hold_at (p := (48, 4, 51)) h.2 49 rfl
theorem sp48_5 (h : Shp M) : M.1 48 5 = 52 := hold_at (p := (48, 5, 52)) h.2 50 rfl
theorem sp48_6 (h : Shp M) : M.1 48 6 = 53 := hold_at (p := (48, 6, 53)) h.2 51 rfl
theorem sp48_7 (h : Shp M) : M.1 48 7 = 54 := hold_at (p := (48, 7, 54)) h.2 52 rfl
theorem sp48_8 (h : Shp M) : M.1 48 8 = 55 := hold_at (p := (48, 8, 55)) h.2 53 rfl
theorem sp48_9 (h : Shp M) : M.1 48 9 = 56 := hold_at (p := (48, 9, 56)) h.2 54 rfl
theorem sp47_2 (h : Shp M) : M.1 47 2 = 48 := hold_at (p := (47, 2, 48)) h.2 55 rfl
theorem sp47_3 (h : Shp M) : M.1 47 3 = 57 := hold_at (p := (47, 3, 57)) h.2 56 rfl
theorem sp58_1 (h : Shp M) : M.1 58 1 = 59 := hold_at (p := (58, 1, 59)) h.2 57 rfl
theorem sp58_2 (h : Shp M) : M.1 58 2 = 60 := hold_at (p := (58, 2, 60)) h.2 58 rfl
theorem sp58_3 (h : Shp M) : M.1 58 3 = 61 := hold_at (p := (58, 3, 61)) h.2 59 rfl
theorem sp58_4 (h : Shp M) : M.1 58 4 = 62 := hold_at (p := (58, 4, 62)) h.2 60 rfl
theorem sp47_4 (h : Shp M) : M.1 47 4 = 58 := hold_at (p := (47, 4, 58)) h.2 61 rfl
theorem sp63_1 (h : Shp M) : M.1 63 1 = 64 := hold_at (p := (63, 1, 64)) h.2 62 rfl
theorem sp63_2 (h : Shp M) : M.1 63 2 = 65 := hold_at (p := (63, 2, 65)) h.2 63 rfl
theorem sp63_3 (h : Shp M) : M.1 63 3 = 66 := hold_at (p := (63, 3, 66)) h.2 64 rfl
theorem sp47_5 (h : Shp M) : M.1 47 5 = 63 := hold_at (p := (47, 5, 63)) h.2 65 rfl
theorem sp47_12 (h : Shp M) : M.1 47 12 = 67 := hold_at (p := (47, 12, 67)) h.2 66 rfl
theorem sp0_3 (h : Shp M) : M.1 0 3 = 68 := hold_at (p := (0, 3, 68)) h.2 67 rfl
theorem sp68_2 (h : Shp M) : M.1 68 2 = 69 := hold_at (p := (68, 2, 69)) h.2 68 rfl
theorem sp68_3 (h : Shp M) : M.1 68 3 = 70 := hold_at (p := (68, 3, 70)) h.2 69 rfl
theorem sp68_4 (h : Shp M) : M.1 68 4 = 71 := hold_at (p := (68, 4, 71)) h.2 70 rfl
theorem sp68_5 (h : Shp M) : M.1 68 5 = 72 := hold_at (p := (68, 5, 72)) h.2 71 rfl
theorem sp68_6 (h : Shp M) : M.1 68 6 = 73 := hold_at (p := (68, 6, 73)) h.2 72 rfl
theorem sp68_7 (h : Shp M) : M.1 68 7 = 74 := hold_at (p := (68, 7, 74)) h.2 73 rfl
theorem sp68_8 (h : Shp M) : M.1 68 8 = 75 := hold_at (p := (68, 8, 75)) h.2 74 rfl
theorem sp68_9 (h : Shp M) : M.1 68 9 = 76 := hold_at (p := (68, 9, 76)) h.2 75 rfl
theorem sp68_10 (h : Shp M) : M.1 68 10 = 77 := hold_at (p := (68, 10, 77)) h.2 76 rfl
theorem sp68_11 (h : Shp M) : M.1 68 11 = 78 := hold_at (p := (68, 11, 78)) h.2 77 rfl
theorem sp0_4 (h : Shp M) : M.1 0 4 = 79 := hold_at (p := (0, 4, 79)) h.2 78 rfl
theorem sp0_5 (h : Shp M) : M.1 0 5 = 82 := hold_at (p := (0, 5, 82)) h.2 79 rfl
theorem sp82_0 (h : Shp M) : M.1 82 0 = 83 := hold_at (p := (82, 0, 83)) h.2 80 rfl
theorem sp82_2 (h : Shp M) : M.1 82 2 = 84 := hold_at (p := (82, 2, 84)) h.2 81 rfl
theorem sp85_1 (h : Shp M) : M.1 85 1 = 86 := hold_at (p := (85, 1, 86)) h.2 82 rfl
theorem sp85_2 (h : Shp M) : M.1 85 2 = 87 := hold_at (p := (85, 2, 87)) h.2 83 rfl
theorem sp85_3 (h : Shp M) : M.1 85 3 = 88 := hold_at (p := (85, 3, 88)) h.2 84 rfl
theorem sp85_4 (h : Shp M) : M.1 85 4 = 89 := hold_at (p := (85, 4, 89)) h.2 85 rfl
theorem sp85_5 (h : Shp M) : M.1 85 5 = 90 := hold_at (p := (85, 5, 90)) h.2 86 rfl
theorem sp85_6 (h : Shp M) : M.1 85 6 = 91 := hold_at (p := (85, 6, 91)) h.2 87 rfl
theorem sp85_7 (h : Shp M) : M.1 85 7 = 92 := hold_at (p := (85, 7, 92)) h.2 88 rfl
theorem sp85_8 (h : Shp M) : M.1 85 8 = 93 := hold_at (p := (85, 8, 93)) h.2 89 rfl
theorem sp85_9 (h : Shp M) : M.1 85 9 = 94 := hold_at (p := (85, 9, 94)) h.2 90 rfl
theorem sp85_19 (h : Shp M) : M.1 85 19 = 95 := hold_at (p := (85, 19, 95)) h.2 91 rfl
theorem sp85_20 (h : Shp M) : M.1 85 20 = 96 := hold_at (p := (85, 20, 96)) h.2 92 rfl
theorem sp85_29 (h : Shp M) : M.1 85 29 = 97 := hold_at (p := (85, 29, 97)) h.2 93 rfl
theorem sp85_30 (h : Shp M) : M.1 85 30 = 98 := hold_at (p := (85, 30, 98)) h.2 94 rfl
theorem sp85_31 (h : Shp M) : M.1 85 31 = 99 := hold_at (p := (85, 31, 99)) h.2 95 rfl
theorem sp85_32 (h : Shp M) : M.1 85 32 = 100 := hold_at (p := (85, 32, 100)) h.2 96 rfl
theorem sp85_33 (h : Shp M) : M.1 85 33 = 101 := hold_at (p := (85, 33, 101)) h.2 97 rfl
theorem sp85_34 (h : Shp M) : M.1 85 34 = 102 := hold_at (p := (85, 34, 102)) h.2 98 rfl
theorem sp85_35 (h : Shp M) : M.1 85 35 = 103 := hold_at (p := (85, 35, 103)) h.2 99 rfl
theorem sp85_36 (h : Shp M) : M.1 85 36 = 104 := hold_at (p := (85, 36, 104)) h.2 100 rfl
theorem sp85_37 (h : Shp M) : M.1 85 37 = 105 := hold_at (p := (85, 37, 105)) h.2 101 rfl
theorem sp85_38 (h : Shp M) : M.1 85 38 = 106 := hold_at (p := (85, 38, 106)) h.2 102 rfl
theorem sp85_39 (h : Shp M) : M.1 85 39 = 107 := hold_at (p := (85, 39, 107)) h.2 103 rfl
theorem sp85_43 (h : Shp M) : M.1 85 43 = 108 := hold_at (p := (85, 43, 108)) h.2 104 rfl
theorem sp85_46 (h : Shp M) : M.1 85 46 = 109 := hold_at (p := (85, 46, 109)) h.2 105 rfl
theorem sp85_47 (h : Shp M) : M.1 85 47 = 110 := hold_at (p := (85, 47, 110)) h.2 106 rfl
theorem sp85_50 (h : Shp M) : M.1 85 50 = 111 := hold_at (p := (85, 50, 111)) h.2 107 rfl
theorem fr1_1 (h : Frs M) : M.1 1 1 = 0 := hold_at (p := (1, 1, 0)) h 0 rfl
theorem fr1_2 (h : Frs M) : M.1 1 2 = 0 := hold_at (p := (1, 2, 0)) h 1 rfl
theorem fr1_3 (h : Frs M) : M.1 1 3 = (-1) := hold_at (p := (1, 3, (-1))) h 2 rfl
theorem fr3_0 (h : Frs M) : M.1 3 0 = 0 := hold_at (p := (3, 0, 0)) h 3 rfl
theorem fr3_1 (h : Frs M) : M.1 3 1 = 0 := hold_at (p := (3, 1, 0)) h 4 rfl
theorem fr3_2 (h : Frs M) : M.1 3 2 = 0 := hold_at (p := (3, 2, 0)) h 5 rfl
theorem fr3_3 (h : Frs M) : M.1 3 3 = 0 := hold_at (p := (3, 3, 0)) h 6 rfl
theorem fr46_0 (h : Frs M) : M.1 46 0 = (-1) := hold_at (p := (46, 0, (-1))) h 7 rfl
theorem fr46_1 (h : Frs M) : M.1 46 1 = (-1) := hold_at (p := (46, 1, (-1))) h 8 rfl
theorem fr46_2 (h : Frs M) : M.1 46 2 = (-1) := hold_at (p := (46, 2, (-1))) h 9 rfl
theorem fr87_0 (h : Frs M) : M.1 87 0 = 0 := hold_at (p := (87, 0, 0)) h 10 rfl
theorem fr88_0 (h : Frs M) : M.1 88 0 = 0 := hold_at (p := (88, 0, 0)) h 11 rfl
theorem fr89_0 (h : Frs M) : M.1 89 0 = (-1) := hold_at (p := (89, 0, (-1))) h 12 rfl
theorem fr90_0 (h : Frs M) : M.1 90 0 = 0 := hold_at (p := (90, 0, 0)) h 13 rfl
theorem fr90_1 (h : Frs M) : M.1 90 1 = 0 := hold_at (p := (90, 1, 0)) h 14 rfl
theorem fr90_2 (h : Frs M) : M.1 90 2 = 0 := hold_at (p := (90, 2, 0)) h 15 rfl
theorem fr90_3 (h : Frs M) : M.1 90 3 = 0 := hold_at (p := (90, 3, 0)) h 16 rfl
theorem fr111_0 (h : Frs M) : M.1 111 0 = 0 := hold_at (p := (111, 0, 0)) h 17 rfl
theorem fr111_1 (h : Frs M) : M.1 111 1 = 0 := hold_at (p := (111, 1, 0)) h 18 rfl
theorem fr111_2 (h : Frs M) : M.1 111 2 = 0 := hold_at (p := (111, 2, 0)) h 19 rfl
theorem fr79_0 (h : Frs M) : M.1 79 0 = 80 := hold_at (p := (79, 0, 80)) h 20 rfl
theorem fr79_1 (h : Frs M) : M.1 79 1 = 81 := hold_at (p := (79, 1, 81)) h 21 rfl
end ShpAt
def startB : Bool := match fX10_init (mnew MZ 9 6) 0 with
  | none => false
  | some r => decide (r.2.2.2 = 85) && match fX11_init (mnew r 10 51) 85 with
    | none => false
    | some M => kinds M KL && hold M PL && hold M FL0 && decide (M.2.2.2 = 112)
theorem startB_ok : startB = true := by decide +kernel
theorem start_ex : ∃ r4 r10 : Mem, fX10_init (mnew MZ 9 6) 0 = some r4 ∧ r4.2.2.2 = 85 ∧ fX11_init (mnew r4 10 51) 85 = some r10 ∧ Shp r10 ∧ Frs r10 ∧ r10.2.2.2 = 112 := by
  have h := startB_ok
  unfold startB at h
  split at h
  · cases h
  · rename_i r4 h4
    rw [Bool.and_eq_true, decide_eq_true_eq] at h
    obtain ⟨h5, h⟩ := h
    split at h
    · cases h
    · rename_i r10 h10
      simp only [Bool.and_eq_true, decide_eq_true_eq] at h
      exact ⟨r4, r10, h4, h5, h10, ⟨h.1.1.1, h.1.1.2⟩, h.1.2, h.2⟩
