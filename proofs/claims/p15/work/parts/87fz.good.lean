/-! what a told row keeps: passes stay in town; what is set off is 1 or more -/
section Good
variable {M N : Mem} {T : Int → Int} {n i : Int}
def GD (s : Int) (D : Int → Int) : Prop := (s = 0 → ∀ y, 0 ≤ y → y < 6 → y < D 0 → D (68 + y) < D 0) ∧ (s = 2 → ∀ j, 0 ≤ j → j < 40 → j < D 0 → D (1 + 4 * j) = 2 → 1 ≤ D (4 + 4 * j))
theorem GD.row {s : Int} {D D' : Int → Int} (h : GD s D) (e : ∀ y, 0 ≤ y → y < wd s → D' y = D y) : GD s D' := by
  refine ⟨fun z y y0 y6 yd => ?_, fun z j j0 j40 jd => ?_⟩
  · subst z
    have w : wd 0 = 92 := rfl
    rw [e 0 (by decide) (by decide)] at yd ⊢
    rw [e (68 + y) (by omega) (by omega)]
    exact h.1 rfl y y0 y6 yd
  · subst z
    have w : wd 2 = 161 := rfl
    rw [e 0 (by decide) (by decide)] at jd
    rw [e (1 + 4 * j) (by omega) (by omega), e (4 + 4 * j) (by omega) (by omega)]
    exact h.2 rfl j j0 j40 jd
theorem bad_bd {l k v v0 : Int} (h : badB l k v v0 = false) : lo3 l k ≤ v ∧ v ≤ hi3 l k := by
  unfold badB at h
  simp only [Bool.or_eq_false_iff, decide_eq_false_iff_not] at h
  omega
theorem nt_0 {q pl : Int} {fp : Int × Int} (hq : q ≠ 0) (h : (nt q pl fp).1 = 0) : False := by
  unfold nt at h
  by_cases c : fp.1 = 0
  · rw [if_pos c] at h; exact hq h
  · rw [if_neg c] at h; exact c h
theorem fpN_z {l : Int} {f0 : Int × Int} : ∀ k : Nat, (fpN T n l i f0 k).1 = 0 → f0.1 = 0 ∧ ∀ j : Nat, j < k → badB l j (tV T n (tP T n i (j + 1))) (tV T n (tP T n i 1)) = false
  | 0, h => ⟨h, fun j z => absurd z (by omega)⟩
  | k + 1, h => by
    unfold fpN at h
    cases b : badB l k (tV T n (tP T n i (k + 1))) (tV T n (tP T n i 1)) with
    | true => rw [if_pos b] at h; exact (nt_0 (by decide) h).elim
    | false =>
      rw [if_neg (by rw [b]; decide)] at h
      obtain ⟨a, c⟩ := fpN_z k h
      refine ⟨a, fun j z => ?_⟩
      by_cases e : j = k
      · rw [e]; exact b
      · exact c j (by omega)
theorem fpL_0 {s : Int} {σ : RSt} (h : (fpL T n s σ).1 = 0) : σ.2.1.1 = 0 ∧ ∀ j : Nat, (j : Int) < nmL (lnIx T n σ.1 s) → lo3 (lnIx T n σ.1 s) j ≤ vv T n σ.1 j ∧ vv T n σ.1 j ≤ hi3 (lnIx T n σ.1 s) j := by
  unfold fpL at h
  obtain ⟨a, b⟩ := fpN_z _ h
  refine ⟨?_, fun j z => bad_bd (b j (by omega))⟩
  unfold fp0 at a
  by_cases c : fullB (lnIx T n σ.1 s) σ.2.2.1 = true
  · rw [if_pos c] at a; exact (nt_0 (by decide) a).elim
  · rw [if_neg c] at a; exact a
def GS (s : Int) (σ : RSt) : Prop := σ.2.1.1 = 0 → (s = 0 → 0 ≤ σ.2.2.1 1 ∧ ∀ y, 0 ≤ y → y < 6 → σ.2.2.1 (68 + y) ≤ mx y σ.2.2.2.1) ∧ (s = 2 → 0 ≤ σ.2.2.1 0 ∧ ∀ j, 0 ≤ j → j < σ.2.2.1 0 → σ.2.2.1 (1 + 4 * j) = 2 → 1 ≤ σ.2.2.1 (4 + 4 * j))
theorem mx_l {a b : Int} : a ≤ mx a b := by unfold mx; split <;> omega
theorem mx_r' {a b : Int} : b ≤ mx a b := by unfold mx; split <;> omega
theorem mx_mono {a b c : Int} (h : b ≤ c) : mx a b ≤ mx a c := by unfold mx; split <;> split <;> omega
theorem GS.town {σ : RSt} {l v0 v1 v2 : Int} (g0 : 0 ≤ σ.2.2.1 1) (g : ∀ y, 0 ≤ y → y < 6 → σ.2.2.1 (68 + y) ≤ mx y σ.2.2.2.1) (l0 : 0 ≤ l) (l9 : l < 9) (b0 : lo3 l 0 ≤ v0 ∧ v0 ≤ hi3 l 0) (b1 : 1 < nmL l → lo3 l 1 ≤ v1 ∧ v1 ≤ hi3 l 1) : 0 ≤ updL l v0 v1 v2 σ.2.2.1 1 ∧ ∀ y, 0 ≤ y → y < 6 → updL l v0 v1 v2 σ.2.2.1 (68 + y) ≤ mx y (upH l v0 v1 σ.2.2.2.1) := by
  generalize σ.2.2.1 = D at *
  generalize σ.2.2.2.1 = th at *
  have th1 : ∀ y, 0 ≤ y → y < 6 → ∀ th', th ≤ th' → D (68 + y) ≤ mx y th' := fun y p q th' z => Int.le_trans (g y p q) (mx_mono z)
  rcases (show l = 0 ∨ l = 1 ∨ l = 2 ∨ l = 3 ∨ l = 4 ∨ l = 5 ∨ l = 6 ∨ l = 7 ∨ l = 8 by omega) with e | e | e | e | e | e | e | e | e <;> subst e
  · rw [show updL 0 v0 v1 v2 D = up D 0 v0 from rfl, show upH 0 v0 v1 th = th from rfl]
    exact ⟨by rw [up_ne (by decide)]; exact g0, fun y p q => by rw [up_ne (by omega)]; exact g y p q⟩
  · have c0 : (0 ≤ v0 ∧ v0 ≤ 5) := b0
    have c1 : (0 ≤ v1 ∧ v1 ≤ 4) := b1 (by decide)
    rw [show updL 1 v0 v1 v2 D = up D (2 + 5 * v0 + v1) v2 from rfl, show upH 1 v0 v1 th = mx th v0 from rfl]
    exact ⟨by rw [up_ne (by omega)]; exact g0, fun y p q => by rw [up_ne (by omega)]; exact th1 y p q _ mx_l⟩
  · have c0 : (0 ≤ v0 ∧ v0 ≤ 5) := b0
    have c1 : (0 ≤ v1 ∧ v1 ≤ 4) := b1 (by decide)
    rw [show updL 2 v0 v1 v2 D = up D (32 + 5 * v0 + v1) v2 from rfl, show upH 2 v0 v1 th = mx th v0 from rfl]
    exact ⟨by rw [up_ne (by omega)]; exact g0, fun y p q => by rw [up_ne (by omega)]; exact th1 y p q _ mx_l⟩
  · have c0 : (0 ≤ v0 ∧ v0 ≤ 5) := b0
    rw [show updL 3 v0 v1 v2 D = up D (62 + v0) v1 from rfl, show upH 3 v0 v1 th = mx th v0 from rfl]
    exact ⟨by rw [up_ne (by omega)]; exact g0, fun y p q => by rw [up_ne (by omega)]; exact th1 y p q _ mx_l⟩
  · have c0 : (0 ≤ v0 ∧ v0 ≤ 5) := b0
    rw [show updL 4 v0 v1 v2 D = up D (68 + v0) v1 from rfl, show upH 4 v0 v1 th = mx (mx th v1) v0 from rfl]
    refine ⟨by rw [up_ne (by omega)]; exact g0, fun y p q => ?_⟩
    by_cases c : y = v0
    · rw [c, up_at]
      exact Int.le_trans (Int.le_trans mx_r' mx_l) mx_r'
    · rw [up_ne (by omega)]; exact th1 y p q _ (Int.le_trans mx_l mx_l)
  · have c0 : (0 ≤ v0 ∧ v0 ≤ 4) := b0
    rw [show updL 5 v0 v1 v2 D = up D (74 + v0) v1 from rfl, show upH 5 v0 v1 th = th from rfl]
    exact ⟨by rw [up_ne (by omega)]; exact g0, fun y p q => by rw [up_ne (by omega)]; exact g y p q⟩
  · have c0 : (0 ≤ v0 ∧ v0 ≤ 4) := b0
    rw [show updL 6 v0 v1 v2 D = up D (79 + v0) v1 from rfl, show upH 6 v0 v1 th = th from rfl]
    exact ⟨by rw [up_ne (by omega)]; exact g0, fun y p q => by rw [up_ne (by omega)]; exact g y p q⟩
  · have c0 : (0 ≤ v0 ∧ v0 ≤ 3) := b0
    rw [show updL 7 v0 v1 v2 D = up D (88 + v0) v1 from rfl, show upH 7 v0 v1 th = th from rfl]
    exact ⟨by rw [up_ne (by omega)]; exact g0, fun y p q => by rw [up_ne (by omega)]; exact g y p q⟩
  · rw [show updL 8 v0 v1 v2 D = up (up D (84 + D 1) v0) 1 (D 1 + 1) from rfl, show upH 8 v0 v1 th = th from rfl]
    exact ⟨by rw [up_at]; omega, fun y p q => by rw [up_ne (by omega), up_ne (by omega)]; exact g y p q⟩
theorem GS.night {D : Int → Int} {l v0 v1 v2 : Int} (g0 : 0 ≤ D 0) (g : ∀ j, 0 ≤ j → j < D 0 → D (1 + 4 * j) = 2 → 1 ≤ D (4 + 4 * j)) (l0 : 12 ≤ l) (l9 : l < 16) (b2 : l = 14 → 1 ≤ v2) : 0 ≤ updL l v0 v1 v2 D 0 ∧ ∀ j, 0 ≤ j → j < updL l v0 v1 v2 D 0 → updL l v0 v1 v2 D (1 + 4 * j) = 2 → 1 ≤ updL l v0 v1 v2 D (4 + 4 * j) := by
  have key : ∀ a b c e : Int, (a = 2 → 1 ≤ e) → 0 ≤ (up (up (up (up (up D (1 + 4 * D 0) a) (2 + 4 * D 0) b) (3 + 4 * D 0) c) (4 + 4 * D 0) e) 0 (D 0 + 1)) 0 ∧ ∀ j, 0 ≤ j → j < (up (up (up (up (up D (1 + 4 * D 0) a) (2 + 4 * D 0) b) (3 + 4 * D 0) c) (4 + 4 * D 0) e) 0 (D 0 + 1)) 0 → (up (up (up (up (up D (1 + 4 * D 0) a) (2 + 4 * D 0) b) (3 + 4 * D 0) c) (4 + 4 * D 0) e) 0 (D 0 + 1)) (1 + 4 * j) = 2 → 1 ≤ (up (up (up (up (up D (1 + 4 * D 0) a) (2 + 4 * D 0) b) (3 + 4 * D 0) c) (4 + 4 * D 0) e) 0 (D 0 + 1)) (4 + 4 * j) := by
    intro a b c e he
    rw [up_at]
    refine ⟨by omega, fun j j0 j1 hj => ?_⟩
    have u1 : (up (up (up (up (up D (1 + 4 * D 0) a) (2 + 4 * D 0) b) (3 + 4 * D 0) c) (4 + 4 * D 0) e) 0 (D 0 + 1)) (1 + 4 * j) = if j = D 0 then a else D (1 + 4 * j) := by
      rw [up_ne (by omega), up_ne (by omega), up_ne (by omega), up_ne (by omega)]
      by_cases z : j = D 0
      · rw [if_pos z, z, up_at]
      · rw [if_neg z, up_ne (by omega)]
    have u4 : (up (up (up (up (up D (1 + 4 * D 0) a) (2 + 4 * D 0) b) (3 + 4 * D 0) c) (4 + 4 * D 0) e) 0 (D 0 + 1)) (4 + 4 * j) = if j = D 0 then e else D (4 + 4 * j) := by
      rw [up_ne (by omega)]
      by_cases z : j = D 0
      · rw [if_pos z, z, up_at]
      · rw [if_neg z, up_ne (by omega), up_ne (by omega), up_ne (by omega), up_ne (by omega)]
    rw [u1] at hj
    rw [u4]
    by_cases z : j = D 0
    · rw [if_pos z] at hj ⊢; exact he hj
    · rw [if_neg z] at hj ⊢; exact g j j0 (by omega) hj
  rcases (show l = 12 ∨ l = 13 ∨ l = 14 ∨ l = 15 by omega) with e | e | e | e <;> subst e
  · exact key 0 v0 v1 v2 (fun z => by cases z)
  · exact key 1 v0 v1 v2 (fun z => by cases z)
  · exact key 2 v0 v1 v2 (fun _ => b2 rfl)
  · exact key 3 (-1) (-1) (-1) (fun z => by cases z)
theorem GS.step {s : Int} {σ : RSt} (s0 : 0 ≤ s) (s4 : s < 4) (c : CL1 T n s σ) (g : GS s σ) : GS s (nxL T n s σ) := by
  intro hf
  have hf' : (fpL T n s σ).1 = 0 := hf
  obtain ⟨f0, hb⟩ := fpL_0 hf'
  obtain ⟨ga, gb⟩ := g f0
  have hl := (lnIx_sp (T := T) (n := n) (i := σ.1) s0 s4).resolve_left (fun z => c.2.1 z.1)
  unfold nxL
  simp only [if_pos hf']
  generalize lnIx T n σ.1 s = l at *
  refine ⟨fun z => ?_, fun z => ?_⟩
  · subst z
    have l0 : 0 ≤ l := hl.1
    have l9 : l < 9 := hl.2.1
    obtain ⟨g0, g1⟩ := ga rfl
    refine GS.town g0 g1 l0 l9 (hb 0 ?_) (fun q => hb 1 q)
    rcases (show l = 0 ∨ l = 1 ∨ l = 2 ∨ l = 3 ∨ l = 4 ∨ l = 5 ∨ l = 6 ∨ l = 7 ∨ l = 8 by omega) with e | e | e | e | e | e | e | e | e <;> subst e <;> decide
  · subst z
    have l0 : 12 ≤ l := hl.1
    have l9 : l < 16 := hl.2.1
    obtain ⟨g0, g1⟩ := gb rfl
    refine GS.night g0 g1 l0 l9 (fun e => ?_)
    subst e
    have := (hb 2 (by decide)).1
    exact this
theorem GS.run {s : Int} (s0 : 0 ≤ s) (s4 : s < 4) : ∀ k : Nat, (∀ j : Nat, j < k → CL1 T n s (sg T n s j)) → GS s (sg T n s k)
  | 0, _ => by
    intro _
    refine ⟨fun z => ?_, fun z => ?_⟩ <;> subst z
    · refine ⟨(show (0 : Int) ≤ blD 0 1 by decide), fun y y0 y6 => ?_⟩
      show blD 0 (68 + y) ≤ mx y (-1)
      rcases (show y = 0 ∨ y = 1 ∨ y = 2 ∨ y = 3 ∨ y = 4 ∨ y = 5 by omega) with e | e | e | e | e | e <;> subst e <;> decide
    · refine ⟨(show (0 : Int) ≤ blD 2 0 by decide), fun j j0 j1 => ?_⟩
      have : j < 0 := j1
      omega
  | k + 1, h => GS.step s0 s4 (h k (by omega)) (GS.run s0 s4 k (fun j q => h j (by omega)))
theorem EndsX.good {s pl : Int} {D : Int → Int} (s0 : 0 ≤ s) (s4 : s < 4) (h : EndsX T n s (0, pl) D) : GD s D := by
  obtain ⟨k, h1, h2⟩ := h
  have g := GS.run (T := T) (n := n) s0 s4 k (fun j q => (h1 j q).2)
  rcases h2 with ⟨_, h2, h3⟩ | ⟨_, h2, _⟩
  · unfold f4 at h2
    by_cases c : (sg T n s k).2.1.1 = 0 ∧ s = 0 ∧ ((sg T n s k).2.2.1 0 ≤ (sg T n s k).2.2.2.1 ∨ (sg T n s k).2.2.1 1 ≤ (sg T n s k).2.2.2.2)
    · rw [if_pos c] at h2
      have := congrArg Prod.fst h2
      cases this
    · rw [if_neg c] at h2
      have f0 : (sg T n s k).2.1.1 = 0 := (congrArg Prod.fst h2).symm
      obtain ⟨ga, gb⟩ := g f0
      rw [h3]
      refine ⟨fun z y y0 y6 yd => ?_, fun z j j0 _ jd => (gb z).2 j j0 jd⟩
      have := (ga z).2 y y0 y6
      have th : ¬ (sg T n s k).2.2.1 0 ≤ (sg T n s k).2.2.2.1 := fun q => c ⟨f0, z, Or.inl q⟩
      unfold mx at this
      split at this <;> omega
  · cases h2
def RG (M : Mem) : Prop := ∀ q s t, 0 ≤ q → q < 4 → 0 ≤ s → s < 4 → 0 ≤ t → t < M.1 90 (4 * q + s) → GD s (fun y => M.1 (91 + s) (wd s * (2 * q + t) + y))
def INV3 (M : Mem) : Prop := INV2 M ∧ RG M
theorem RG.same (h : RG M) (e : ∀ x y, 90 ≤ x → x ≤ 94 → N.1 x y = M.1 x y) : RG N := by
  intro q s t q0 q4 s0 s4 t0 t1
  rw [e 90 _ (by decide) (by decide)] at t1
  exact (h q s t q0 q4 s0 s4 t0 t1).row (fun y _ _ => e _ _ (by omega) (by omega))
theorem INV3.keep (h : INV3 M) (k : Keep M N) : INV3 N := ⟨h.1.keep k, h.2.same (fun x y a b => k.2 x y (scr_lo y (by omega) (by omega) (by omega)))⟩
theorem INV3.keepC (h : INV3 M) (k : KeepC M N) (s : SC N) : INV3 N := ⟨h.1.keepC k s, h.2.same (fun x y a b => k.2 x y (scr_lo y (by omega) (by omega) (by omega)) (by omega))⟩
theorem feed_R (h : INV3 M) (b0 b1 b2 b3 b4 : Int) : TT (fX10_feed M 0 b0 b1 b2 b3 b4) (fun r => WT r.2 ∧ TT (fX11_feed r.2 85 b0 b1 b2 b3 b4) (fun q => r.1 = q.1 ∧ INV3 q.2)) := by
  refine (TT.and (feed_Q h.1 b0 b1 b2 b3 b4) (feedX_T h.1.1.1 b0 b1 b2 b3 b4)).mono (fun r q => ⟨q.1.1, ?_⟩)
  obtain ⟨⟨wr, t⟩, _, c⟩ := q
  refine (TT.and t (feedY_T wr b0 b1 b2 b3 b4)).mono (fun u v => ⟨v.1.1, v.1.2, ?_⟩)
  obtain ⟨_, _, x⟩ := v
  exact h.2.same (fun a b p q => by rw [x.2.2 a b (by omega) (by omega), mst_ne _ _ _ _ _ _ (by omega)]; exact c.2.2 a b (by omega) (by omega))
theorem end_R (h : INV3 M) (n : Int) : TT (fX10_end M 0 n) (fun r => WT r.2 ∧ TT (fX11_end r.2 85 n) (fun q => r.1 = q.1 ∧ INV3 q.2)) := by
  refine (TT.and (end_Q h.1 n) (endX_T h.1.1.1 n)).mono (fun r q => ⟨q.1.1, ?_⟩)
  obtain ⟨⟨wr, t⟩, _, c⟩ := q
  refine (TT.and t (endY_T wr n)).mono (fun u v => ⟨v.1.1, v.1.2, ?_⟩)
  obtain ⟨_, _, x⟩ := v
  exact h.2.same (fun a b p q => by rw [x.2.2 a b (by omega) (by omega), mst_ne _ _ _ _ _ _ (by omega)]; exact c.2.2 a b (by omega) (by omega))
theorem RG.ly (h : RG M) (hT : WT M) {a b : Int} (a0 : 0 ≤ a) (a4 : a < 4) (l : LY M N a b) (o : ∀ c, c ≠ b → LY M N c c) : RG N := by
  have key : ∀ c d s t, 0 ≤ c → c < 4 → LY M N c d → 0 ≤ s → s < 4 → 0 ≤ t → t < N.1 90 (4 * d + s) → GD s (fun y => N.1 (91 + s) (wd s * (2 * d + t) + y)) := by
    intro c d s t c0 c4 ly s0 s4 t0 t1
    rw [ly.2.2.1 s s0 s4] at t1
    have t2 := (mn_ hT (i := 4 * c + s) (by omega) (by omega)).2
    exact (h c s t c0 c4 s0 s4 t0 t1).row (fun y p q => ly.2.2.2 s t y s0 s4 t0 (by omega) p q)
  intro q s t q0 q4 s0 s4 t0 t1
  by_cases z : q = b
  · rw [z] at t1 ⊢
    exact key a b s t a0 a4 l s0 s4 t0 t1
  · exact key q q s t q0 q4 (o q z) s0 s4 t0 t1
theorem again_R (h : INV3 M) (k : Int) : TT (fX10_again M 0 k) (fun r => WT r.2 ∧ TT (fX11_again r.2 85 k) (fun q => r.1 = q.1 ∧ INV3 q.2)) := by
  have hh := h.1.1
  obtain ⟨h1, h2, h3, h4, h5, h6⟩ := hh
  refine (TT.and (again_Q h.1 k) (againX_T h1 h3 k)).mono (fun r q => ⟨q.1.1, ?_⟩)
  obtain ⟨⟨wr, qP⟩, q⟩ := q
  have fr : ∀ x y, 46 ≤ x → r.2.1 x y = M.1 x y := by
    rcases q with ⟨_, q⟩ | ⟨_, _, q2⟩
    · intro x y _; rw [q]
    · intro x y z; rw [q2.2, if_neg (by omega)]
  refine (TT.and qP (againY_T wr k)).mono (fun u v => ⟨v.1.1, v.1.2, ?_⟩)
  rcases v.2 with ⟨_, w⟩ | ⟨hk, _, v2⟩
  · rw [w]
    exact h.2.same (fun x y a b => by show (mst r.2 85 0 0).1 x y = _; rw [mst_ne _ _ _ _ _ _ (by omega)]; exact fr x y (by omega))
  · have l0 : ∀ q : Int, LY M (mst r.2 85 0 0) q q := fun q => LY.of q (fun x y a b => by rw [mst_ne _ _ _ _ _ _ (by omega)]; exact fr x y (by omega))
    exact h.2.ly h1 (a := k + 1) (b := 0) (by omega) (by omega) ((l0 _).trans (LY.cpa v2)) (fun c hc => (l0 _).trans (LY.cpo v2 hc))
theorem image_R (h : INV3 M) (k : Int) : TT (fX10_image M 0 k) (fun r => WT r.2 ∧ TT (fX11_image r.2 85 k) (fun q => r.1 = q.1 ∧ INV3 q.2)) := by
  have hh := h.1.1
  obtain ⟨h1, h2, h3, h4, h5, h6⟩ := hh
  refine (TT.and (image_Q h.1 k) (imageX_T h1 h3 h5 k)).mono (fun r q => ⟨q.1.1, ?_⟩)
  obtain ⟨⟨wr, qP⟩, q⟩ := q
  have fr : ∀ x y, 86 ≤ x → x ≤ 94 → r.2.1 x y = M.1 x y := by
    rcases q with ⟨_, q⟩ | ⟨hk, _, A, b, hA, q2⟩
    · intro x y _ _; rw [q]
    · obtain ⟨i1, i2, i3, i4, i5, i6⟩ := image_inv h3 hk hA q2
      exact fun x y a b => i6 x y (by omega) (by omega)
  refine (TT.and qP (imageY_T wr k)).mono (fun u v => ⟨v.1.1, v.1.2, ?_⟩)
  rcases v.2 with ⟨_, w⟩ | ⟨hk, _, B, v2, v3⟩
  · rw [w]
    exact h.2.same (fun x y a b => by show (mst r.2 85 0 0).1 x y = _; rw [mst_ne _ _ _ _ _ _ (by omega)]; exact fr x y (by omega) b)
  · have l0 : ∀ q : Int, LY M (mst r.2 85 0 0) q q := fun q => LY.of q (fun x y a b => by rw [mst_ne _ _ _ _ _ _ (by omega)]; exact fr x y a b)
    have lu : ∀ q : Int, LY B u.2 q q := fun q => LY.of q (fun x y a b => by rw [v3, mst_ne _ _ _ _ _ _ (by omega)])
    exact h.2.ly h1 (a := 0) (b := k + 1) (by decide) (by decide) (((l0 _).trans (LY.cpa v2)).trans (lu _)) (fun c hc => ((l0 _).trans (LY.cpo v2 hc)).trans (lu _))
set_option maxHeartbeats 1000000 in
theorem text_R (h : INV3 M) (s a : Int) : TT (fX10_text M 0 s a) (fun r => WT r.2 ∧ TT (fX11_text r.2 85 s a) (fun q => r.1 = q.1 ∧ INV3 q.2)) := by
  have hh := h.1.1
  obtain ⟨h1, h2, h3, h4, h5, h6⟩ := hh
  obtain ⟨⟨⟨tl, tf, tp⟩, tb, tc, to⟩, ti⟩ := h.1.2
  refine (TT.and (text_Q h.1 s a) (textX_T h1 h4 s a)).mono (fun r q => ⟨q.1.1, ?_⟩)
  obtain ⟨⟨wr, qP⟩, _, cx, _, _⟩ := q
  have fr : ∀ x y, (45 < x ∧ x < 47) ∨ (86 ≤ x ∧ x ≤ 94) ∨ 112 ≤ x → r.2.1 x y = M.1 x y := fun x y z => cx.2 x y (scr_lo y (by omega) (by omega) (by omega)) (by omega) (by omega) (by omega)
  have r87 : r.2.1 87 0 = M.1 1 1 := by rw [fr 87 0 (by decide)]; exact tl.symm
  have hb : ∀ i, 0 ≤ i → i < r.2.1 87 0 → -128 ≤ r.2.1 86 i ∧ r.2.1 86 i ≤ 127 := fun i a b => by
    rw [r87] at b
    have := tb i a b
    rw [show 600 * 0 + i = i by omega] at this
    rw [fr 86 i (by decide), this.2]; exact this.1
  refine (TT.and qP (textY_V wr hb s a)).mono (fun u v => ⟨v.1.1, v.1.2, ?_⟩)
  obtain ⟨_, _, ty⟩ := v
  have hm := mn_ wr (i := s)
  rcases ty with ⟨_, _, w⟩ | ⟨hs, D, hE, w⟩
  · exact h.2.same (fun x y p q => by rw [w x y p q]; exact fr x y (by omega))
  rcases w with ⟨_, _, w⟩ | ⟨f0, _, w1, w2, w3⟩
  · exact h.2.same (fun x y p q => by rw [w x y p q]; exact fr x y (by omega))
  have sr : 0 ≤ s ∧ s < 4 := by
    unfold sl at hs
    by_cases c : 0 ≤ s ∧ s < 4
    · exact c
    · rw [if_neg c] at hs; exact absurd rfl hs
  obtain ⟨m0, m2⟩ := hm sr.1 (by omega)
  obtain ⟨_, c0, c2, c3⟩ := sl_b m0 m2 hs
  generalize sl (r.2.1 90 s) s a = c at *
  rw [f0] at hE
  have hD := hE.good sr.1 sr.2
  have e90 : r.2.1 90 s = M.1 90 s := fr 90 s (by decide)
  intro q s' t q0 q4 s0 s4 t0 t1
  have old : (t < M.1 90 (4 * q + s')) → (∀ y, 0 ≤ y → y < wd s' → ¬(91 + s' = 91 + s ∧ wd s * c ≤ wd s' * (2 * q + t) + y ∧ wd s' * (2 * q + t) + y < wd s * c + wd s)) → GD s' (fun y => u.2.1 (91 + s') (wd s' * (2 * q + t) + y)) := fun z1 z2 => (h.2 q s' t q0 q4 s0 s4 t0 z1).row (fun y y0 y1 => by rw [w3 _ _ (by omega) (by omega) (z2 y y0 y1)]; exact fr _ _ (by omega))
  rw [w1] at t1
  by_cases zs : s' = s
  rotate_left
  · rw [if_neg (by omega)] at t1
    refine old (by rw [← fr 90 _ (by decide)]; exact t1) (fun y _ _ z => by omega)
  subst zs
  by_cases zq : q = 0
  rotate_left
  · rw [if_neg (by omega)] at t1
    refine old (by rw [← fr 90 _ (by decide)]; exact t1) (fun y y0 y1 z => ?_)
    have f := wd_far (t := t) (y := y) s0 s4 (show 1 ≤ q by omega) t0 y0
    have w := wd_b s0 s4
    rcases (show c = 0 ∨ c = 1 by omega) with e | e <;> rw [e] at z <;> omega
  subst zq
  rw [if_pos (by omega)] at t1
  by_cases zt : t = c
  · subst zt
    exact hD.row (fun y y0 y1 => by rw [show wd s' * (2 * 0 + t) + y = wd s' * t + y by rw [show 2 * 0 + t = t by omega]]; exact w2 y y0 y1)
  · have tc : t < M.1 90 s' := by
      unfold imax at t1
      split at t1 <;> omega
    have w := wd_b s0 s4
    refine old (by rw [show 4 * 0 + s' = s' by omega]; exact tc) (fun y y0 y1 z => ?_)
    have m3 : M.1 90 s' ≤ 2 := by rw [← e90]; exact m2
    rcases (show t = 0 ∨ t = 1 by omega) with e | e <;> rcases (show c = 0 ∨ c = 1 by omega) with e' | e' <;> rw [e, e'] at z <;> omega
theorem start_rel3 {r4 r10 : Mem} (h4 : fX10_init (mnew MZ 9 6) 0 = some r4) (h10 : fX11_init (mnew r4 10 51) 85 = some r10) (hS : Shp r10) (hF : Frs r10) (hn : r10.2.2.2 = 112) : INV3 r10 := by
  have iv := start_rel h4 h10 hS hF hn
  have h := startI_ok
  unfold startI at h
  rw [h4] at h
  simp only at h
  rw [h10] at h
  simp only [Bool.and_eq_true] at h
  have g2 := rowsB_ok h.2
  have z90 : ∀ i, 0 ≤ i → i ≤ 15 → r10.1 90 i = 0 := fun i a b => by
    have := rows_at (p := (90, 0, 15, 0, 0)) g2 0 rfl a b
    dsimp only at this; omega
  refine ⟨iv, fun q s t q0 q4 s0 s4 t0 t1 => ?_⟩
  rw [z90 _ (by omega) (by omega)] at t1
  omega
end Good
