/-! text keeps the relation; the fresh object -/
section TextR
variable {M N : Mem}
theorem wd_far {s q t y : Int} (s0 : 0 ≤ s) (s4 : s < 4) (hq : 1 ≤ q) (t0 : 0 ≤ t) (y0 : 0 ≤ y) : wd s * 2 ≤ wd s * (2 * q + t) + y := by
  have := wd_b s0 s4
  have := Int.mul_le_mul_of_nonneg_left (show (2 : Int) ≤ 2 * q + t by omega) (show 0 ≤ wd s by omega)
  omega
theorem sl_eq {c c' s a : Int} (h : 0 ≤ s → s < 4 → c = c') : sl c s a = sl c' s a := by
  unfold sl
  by_cases p : 0 ≤ s ∧ s < 4
  · rw [h p.1 p.2]
  · rw [if_neg p, if_neg p]
set_option maxHeartbeats 1000000 in
theorem text_Q (h : INV2 M) (s a : Int) : TT (fX10_text M 0 s a) (fun r => WT r.2 ∧ TT (fX11_text r.2 85 s a) (fun q => r.1 = q.1 ∧ INV2 q.2)) := by
  have hh := h.1
  obtain ⟨h1, h2, h3, h4, h5, h6⟩ := hh
  obtain ⟨⟨⟨tl, tf, tp⟩, tb, tc, to⟩, ti⟩ := h.2
  refine (TT.and (text_P h.1 s a) (TT.and (textX_T h1 h4 s a) (textX_V h1 h4 s a))).mono (fun r q => ⟨q.1.1, ?_⟩)
  obtain ⟨⟨wr, qP⟩, ⟨_, cx, _, _⟩, tx⟩ := q
  have fr : ∀ x y, (45 < x ∧ x < 47) ∨ (86 ≤ x ∧ x ≤ 94) ∨ 112 ≤ x → r.2.1 x y = M.1 x y := fun x y z => cx.2 x y (scr_lo y (by omega) (by omega) (by omega)) (by omega) (by omega) (by omega)
  have tl' : M.1 87 0 = M.1 1 1 := tl.symm
  have r87 : r.2.1 87 0 = M.1 1 1 := by rw [fr 87 0 (by decide)]; exact tl'
  have tb' : ∀ i, 0 ≤ i → i < M.1 1 1 → (-128 ≤ M.1 2 i ∧ M.1 2 i ≤ 127) ∧ M.1 86 i = M.1 2 i := fun i a b => by
    have := tb i a b
    rw [show 600 * 0 + i = i by omega] at this; exact this
  have hb : ∀ i, 0 ≤ i → i < r.2.1 87 0 → -128 ≤ r.2.1 86 i ∧ r.2.1 86 i ≤ 127 := fun i a b => by
    rw [r87] at b
    rw [fr 86 i (by decide), (tb' i a b).2]; exact (tb' i a b).1
  have tc' : ∀ s, 0 ≤ s → s < 4 → M.1 3 s = M.1 90 s ∧ M.1 3 s ≤ 2 := fun s a b => by
    have := tc s a b
    rw [show 4 * 0 + s = s by omega] at this; exact this
  refine (TT.and qP (TT.and (textY_T wr s a) (textY_V wr hb s a))).mono (fun u v => ?_)
  obtain ⟨iv, ⟨_, rx, _⟩, ty⟩ := v
  have fu : ∀ x y, (1 ≤ x ∧ x ≤ 46) ∨ 112 ≤ x → u.2.1 x y = r.2.1 x y := fun x y z => rx.2 x y (scr_lo y (by omega) (by omega) (by omega)) (by omega)
  have esl : sl (r.2.1 90 s) s a = sl (M.1 3 s) s a := sl_eq (fun p q => by rw [fr 90 s (by decide)]; exact (tc' s p q).1.symm)
  obtain ⟨⟨_, x11⟩, tx⟩ := tx
  obtain ⟨⟨y87, yl, y86⟩, ty⟩ := ty
  rw [esl, r87] at ty
  -- the images' layers stay
  have img : (∀ y, 4 ≤ y → u.2.1 90 y = M.1 90 y) → (∀ s' q t y, 0 ≤ s' → s' < 4 → 1 ≤ q → 0 ≤ t → 0 ≤ y → u.2.1 (91 + s') (wd s' * (2 * q + t) + y) = M.1 (91 + s') (wd s' * (2 * q + t) + y)) → ∀ k, 0 ≤ k → k < 3 → u.2.1 46 k ≠ -1 → TR u.2 (u.2.1 46 k) (k + 1) := by
    intro g1 g2 k k0 k3 e
    have e46 : u.2.1 46 k = M.1 46 k := by rw [fu 46 k (by decide), fr 46 k (by decide)]
    rw [e46] at e ⊢
    have hb := ((h3.1 k k0 k3).resolve_left e).1.1
    have ob1 : ∀ x y, 112 ≤ x → u.2.1 x y = M.1 x y := fun x y z => by rw [fu x y (by omega), fr x y (by omega)]
    refine (ti k k0 k3 e).mv (by rw [(h6.2 k k0 k3).1 e]; exact (len_ h1 (by omega) (by omega)).2) (BK.of _ (fun x y z _ => ob1 x y (by omega))) ⟨?_, fun i _ _ => ?_, fun s' p q => ?_, fun s' t y p q t0 t2 y0 y1 => ?_⟩
    · obtain ⟨a1, a2, a3⟩ := yl (k + 1) (by omega)
      rw [a1, a2, a3, fr 87 _ (by decide), fr 88 _ (by decide), fr 89 _ (by decide)]; exact ⟨rfl, rfl, rfl⟩
    · rw [y86, fr 86 _ (by decide)]
    · exact g1 _ (by omega)
    · exact g2 s' (k + 1) t y p q (by omega) t0 y0
  have same : (∀ x y, 90 ≤ x → x ≤ 94 → u.2.1 x y = r.2.1 x y) → (∀ x y, 2 ≤ x → x ≤ 45 → r.2.1 x y = M.1 x y) → u.2.1 88 0 = r.2.1 1 2 → u.2.1 89 0 = r.2.1 1 3 → REL u.2 := by
    intro g1 g2 g3 g4
    have gu : ∀ x y, 90 ≤ x → x ≤ 94 → u.2.1 x y = M.1 x y := fun x y p q => by rw [g1 x y p q, fr x y (by omega)]
    have gm : ∀ x y, 2 ≤ x → x ≤ 45 → u.2.1 x y = M.1 x y := fun x y p q => by rw [fu x y (by omega)]; exact g2 x y p q
    refine ⟨⟨⟨by rw [fu 1 1 (by decide), x11, y87], by rw [fu 1 2 (by decide)]; exact g3.symm, by rw [fu 1 3 (by decide)]; exact g4.symm⟩, fun i i0 i1 => ?_, fun s' p q => ?_, fun s' t p q t0 t1 => ?_⟩, img (fun y _ => gu 90 y (by decide) (by decide)) (fun s' q t y p p' _ _ _ => gu _ _ (by omega) (by omega))⟩
    · rw [fu 1 1 (by decide), x11] at i1; omega
    · rw [gm (1 + 2) s' (by decide) (by decide), gu 90 _ (by decide) (by decide)]; exact tc s' p q
    · rw [gm (1 + 2) s' (by decide) (by decide)] at t1
      have t2 := (tc s' p q).2
      refine ((to s' t p q t0 t1).mv (fun k y dk => ?_)).row (fun y y0 y1 => gu _ _ (by omega) (by omega))
      have := dO_b dk
      exact gm _ y (by omega) (by omega)
  rcases tx with ⟨x1, ⟨x2, x3, x4⟩, x5⟩ | ⟨x1, D, x2, x3⟩
  · rcases ty with ⟨y1, ⟨y2, y3, y4⟩, y5⟩ | ⟨y1, _⟩
    · exact ⟨by rw [x2, y2], iv, same y5 x5 (by rw [y3, x3]) (by rw [y4, x4])⟩
    · exact absurd x1 y1
  rcases ty with ⟨y1, _⟩ | ⟨y1, D', y2, y3⟩
  · exact absurd y1 x1
  have hcs : 0 ≤ s ∧ s < 4 := by
    by_cases p : 0 ≤ s ∧ s < 4
    · exact p
    · exact absurd (by unfold sl; rw [if_neg p]) x1
  have hc := cn_ h1 (i := s) hcs.1 (by omega)
  have hsl := sl_b hc.1 hc.2 x1
  obtain ⟨⟨s0, s4⟩, t0, t2, ht⟩ := hsl
  have hl := tl_ h1
  have y2' : EndsX (M.1 2) (M.1 1 1) s (u.2.1 88 0, u.2.1 89 0) D' := y2.congr (fun j j0 j1 => by rw [fr 86 j (by decide)]; exact (tb' j j0 j1).2) hl.1 s0 s4
  obtain ⟨ef, eD⟩ := x2.uniq y2'
  have e1 : r.2.1 1 2 = u.2.1 88 0 := congrArg Prod.fst ef
  have e2 : r.2.1 1 3 = u.2.1 89 0 := congrArg Prod.snd ef
  rcases x3 with ⟨a1, a2, a3⟩ | ⟨a1, a2, a3, a4, a5⟩
  · rcases y3 with ⟨b1, b2, b3⟩ | ⟨b1, _⟩
    · exact ⟨by rw [a2, b2], iv, same b3 a3 e1.symm e2.symm⟩
    · exact absurd (e1.trans b1) a1
  rcases y3 with ⟨b1, _⟩ | ⟨b1, b2, b3, b4, b5⟩
  · exact absurd (e1.symm.trans a1) b1
  have eD := eD (by show r.2.1 1 2 ≠ 1; rw [a1]; decide)
  rw [← eD] at b4
  refine ⟨by rw [a2, b2], iv, ?_⟩
  rw [fr 90 s (by decide), ← (tc' s s0 s4).1] at b3
  generalize sl (M.1 3 s) s a = t at *
  have im2 : imax (M.1 3 s) (t + 1) ≤ 2 := by unfold imax; split <;> omega
  have im3 : ∀ t', t' < imax (M.1 3 s) (t + 1) → t' ≠ t → t' < M.1 3 s := fun t' => by unfold imax; split <;> omega
  refine ⟨⟨⟨by rw [fu 1 1 (by decide), x11, y87], by rw [fu 1 2 (by decide)]; exact e1, by rw [fu 1 3 (by decide)]; exact e2⟩, fun i i0 i1 => ?_, fun s' p q => ?_, fun s' t' p q t0' t1' => ?_⟩, img (fun y y4 => by rw [b3 y, if_neg (by omega), fr 90 y (by decide)]) (fun s' q t' y p p' q1 t0' y0 => ?_)⟩
  · rw [fu 1 1 (by decide), x11] at i1; omega
  · rw [fu (1 + 2) s' (by decide), show 4 * 0 + s' = s' by omega, b3 s', show (1 : Int) + 2 = 3 from rfl, a3 s']
    by_cases e : s' = s
    · rw [if_pos e, if_pos e]; exact ⟨rfl, im2⟩
    · rw [if_neg e, if_neg e, fr 90 s' (by decide)]; exact tc' s' p q
  · rw [fu (1 + 2) s' (by decide), show (1 : Int) + 2 = 3 from rfl, a3 s'] at t1'
    have cu : ∀ k y, dO s' k y → t' < 2 → u.2.1 (1 + ob s' + 19 * t' + k) y = r.2.1 (1 + ob s' + 19 * t' + k) y := fun k y dk tt => by
      have := dO_b dk
      exact fu _ y (by omega)
    by_cases e : s' = s ∧ t' = t
    · obtain ⟨es, et⟩ := e
      rw [es, et] at cu ⊢
      refine (a4.mv (fun k y dk => cu k y dk t2)).row (fun y y0 y1 => ?_)
      rw [show 2 * 0 + t = t by omega]
      exact b4 y y0 y1
    · have t3 : t' < M.1 3 s' := by
        by_cases es : s' = s
        · rw [if_pos es] at t1'
          rw [es]
          exact im3 t' t1' (fun z => e ⟨es, z⟩)
        · rw [if_neg es] at t1'; exact t1'
      have t4 := (tc' s' p q).2
      have t5 : t' < 2 := by omega
      refine ((to s' t' p q t0' t3).mv (fun k y dk => ?_)).row (fun y y0 y1 => ?_)
      · rw [cu k y dk t5]
        exact a5 s' t' k y p q t0' t5 e dk
      · rw [b5 _ _ (by omega) (by omega) ?_, fr _ _ (by omega)]
        rintro ⟨w1, w2, w3⟩
        have es : s' = s := by omega
        subst es
        have t6 : t' ≠ t := fun z => e ⟨rfl, z⟩
        rcases (show (t = 0 ∧ t' = 1) ∨ (t = 1 ∧ t' = 0) by omega) with ⟨z1, z2⟩ | ⟨z1, z2⟩
        · subst z1; subst z2; omega
        · subst z1; subst z2; omega
  · rw [b5 _ _ (by omega) (by omega) ?_, fr _ _ (by omega)]
    rintro ⟨w1, w2, w3⟩
    have es : s' = s := by omega
    subst es
    have wf := wd_far (t := t') (y := y) p p' q1 t0' y0
    have wb := wd_b p p'
    rcases (show t = 0 ∨ t = 1 by omega) with z | z
    · subst z; omega
    · subst z; omega
theorem start_rel {r4 r10 : Mem} (h4 : fX10_init (mnew MZ 9 6) 0 = some r4) (h10 : fX11_init (mnew r4 10 51) 85 = some r10) (hS : Shp r10) (hF : Frs r10) (hn : r10.2.2.2 = 112) : INV2 r10 := by
  have iv := start_inv h4 h10 hS hF hn
  have h := startI_ok
  unfold startI at h
  rw [h4] at h
  simp only at h
  rw [h10] at h
  simp only [Bool.and_eq_true] at h
  have g2 := rowsB_ok h.2
  have z90 : ∀ i, 0 ≤ i → i ≤ 15 → r10.1 90 i = 0 := fun i a b => by
    have := rows_at (p := (90, 0, 15, 0, 0)) g2 0 rfl a b
    dsimp only at this; omega
  have e46 : ∀ k, 0 ≤ k → k < 3 → r10.1 46 k = -1 := fun k a b => by
    rcases (show k = 0 ∨ k = 1 ∨ k = 2 by omega) with rfl | rfl | rfl
    · exact fr46_0 hF
    · exact fr46_1 hF
    · exact fr46_2 hF
  have z3 : ∀ i, 0 ≤ i → i < 4 → r10.1 3 i = 0 := fun i a b => by
    rcases (show i = 0 ∨ i = 1 ∨ i = 2 ∨ i = 3 by omega) with rfl | rfl | rfl | rfl
    · exact fr3_0 hF
    · exact fr3_1 hF
    · exact fr3_2 hF
    · exact fr3_3 hF
  refine ⟨iv, ⟨⟨by rw [fr1_1 hF, fr87_0 hF], by rw [fr1_2 hF, fr88_0 hF], by rw [fr1_3 hF, fr89_0 hF]⟩, fun i a b => ?_, fun s a b => ?_, fun s t a b c d => ?_⟩, fun k a b c => absurd (e46 k a b) c⟩
  · rw [fr1_1 hF] at b; omega
  · rw [show (1 : Int) + 2 = 3 from rfl, z3 s a b, z90 _ (by omega) (by omega)]; decide
  · rw [show (1 : Int) + 2 = 3 from rfl, z3 s a b] at d; omega
end TextR
