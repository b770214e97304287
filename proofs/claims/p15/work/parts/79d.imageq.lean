/-! image and again keep the relation -/
section ImageQ
variable {M N : Mem}
theorem again_Q (h : INV2 M) (k : Int) : TT (fX10_again M 0 k) (fun r => WT r.2 ∧ TT (fX11_again r.2 85 k) (fun q => r.1 = q.1 ∧ INV2 q.2)) := by
  have hh := h.1
  obtain ⟨h1, h2, h3, h4, h5, h6⟩ := hh
  refine (TT.and (again_P h.1 k) (againX_T h1 h3 k)).mono (fun r q => ⟨q.1.1, ?_⟩)
  obtain ⟨⟨wr, qP⟩, q⟩ := q
  refine (TT.and qP (againY_T wr k)).mono (fun u v => ⟨v.1.1, v.1.2, ?_⟩)
  have v := v.2
  rcases q with ⟨hk, q⟩ | ⟨⟨hk, hne⟩, q1, q2⟩
  · rw [q] at v
    rcases v with ⟨_, v⟩ | ⟨w, _⟩
    · rw [v]; exact (h.keep k85).2
    · exact absurd ⟨w.1, fun e => w.2 ((h6.2 k w.1.1 (by omega)).2.mp e)⟩ hk
  · obtain ⟨b1, b2, b3⟩ := (h3.1 k hk.1 (by omega)).resolve_left hne
    have fr : ∀ x y, (x < 1 ∨ 46 ≤ x) → r.2.1 x y = M.1 x y := fun x y z => by rw [q2.2, if_neg (by omega)]
    have e111 : M.1 111 k ≠ 0 := fun e => hne ((h6.2 k hk.1 (by omega)).2.mpr e)
    rw [fr 111 k (by decide)] at v
    rcases v with ⟨w, _⟩ | ⟨_, v1, v2⟩
    · exact absurd ⟨hk, e111⟩ w
    · have fu : ∀ x y, (x < 85 ∨ 95 ≤ x) → u.2.1 x y = r.2.1 x y := fun x y z => by
        rw [v2.2.1 x y (by omega)]; exact mst_ne _ _ _ _ _ _ (by omega)
      have l0 : ∀ q : Int, LY M (mst r.2 85 0 0) q q := fun q => LY.of q (fun x y a b => by rw [mst_ne _ _ _ _ _ _ (by omega)]; exact fr x y (by omega))
      have l6 : ∀ j, 0 ≤ j → j ≤ 3 → M.1 87 j ≤ 600 := fun j a b => (len_ h1 a b).2
      refine ⟨(h.2.2 k hk.1 (by omega) hne).mv (by rw [(h6.2 k hk.1 (by omega)).1 hne]; exact l6 _ (by omega) (by omega)) ((BK.cps q2).trans (BK.of 1 (fun x y a b => fu x y (by omega)))) ((l0 _).trans (LY.cpa v2)), fun l a c e => ?_⟩
      have e46 : u.2.1 46 l = M.1 46 l := by rw [fu 46 l (by decide), fr 46 l (by decide)]
      rw [e46] at e ⊢
      have hb := ((h3.1 l a c).resolve_left e).1.1
      exact (h.2.2 l a c e).mv (by rw [(h6.2 l a c).1 e]; exact l6 _ (by omega) (by omega)) (BK.of _ (fun x y z w => by rw [fu x y (by omega), fr x y (by omega)])) ((l0 _).trans (LY.cpo v2 (by omega)))
theorem image_Q (h : INV2 M) (k : Int) : TT (fX10_image M 0 k) (fun r => WT r.2 ∧ TT (fX11_image r.2 85 k) (fun q => r.1 = q.1 ∧ INV2 q.2)) := by
  have hh := h.1
  obtain ⟨h1, h2, h3, h4, h5, h6⟩ := hh
  refine (TT.and (image_P h.1 k) (imageX_T h1 h3 h5 k)).mono (fun r q => ⟨q.1.1, ?_⟩)
  obtain ⟨⟨wr, qP⟩, q⟩ := q
  refine (TT.and qP (imageY_T wr k)).mono (fun u v => ⟨v.1.1, v.1.2, ?_⟩)
  have v := v.2
  rcases q with ⟨hk, q⟩ | ⟨hk, q1, A, b, hA, q2⟩
  · rw [q] at v
    rcases v with ⟨_, v⟩ | ⟨w, _⟩
    · rw [v]; exact (h.keep k85).2
    · exact absurd w hk
  · obtain ⟨i1, i2, i3, i4, i5, i6⟩ := image_inv h3 hk hA q2
    rcases v with ⟨w, _⟩ | ⟨_, v1, B, v2, v3⟩
    · exact absurd hk w
    · have fu : ∀ x y, (x < 85 ∨ (95 ≤ x ∧ x ≠ 111)) → u.2.1 x y = r.2.1 x y := fun x y z => by
        rw [v3, mst_ne _ _ _ _ _ _ (by omega), v2.2.1 x y (by omega)]; exact mst_ne _ _ _ _ _ _ (by omega)
      have l0 : ∀ q : Int, LY M (mst r.2 85 0 0) q q := fun q => LY.of q (fun x y a b => by rw [mst_ne _ _ _ _ _ _ (by omega)]; exact i6 x y (by omega) (by omega))
      have lu : ∀ q : Int, LY B u.2 q q := fun q => LY.of q (fun x y a b => by rw [v3, mst_ne _ _ _ _ _ _ (by omega)])
      have l6 : ∀ j, 0 ≤ j → j ≤ 3 → M.1 87 j ≤ 600 := fun j a b => (len_ h1 a b).2
      have b112 := hA.2.2.1.1
      refine ⟨h.2.1.mv (tl_ h1).2 (BK.of 1 (fun x y a c => by rw [fu x y (by omega)]; exact i6 x y (by omega) (by omega))) (((l0 _).trans (LY.cpo v2 (by omega))).trans (lu _)), fun l a c e => ?_⟩
      by_cases z : l = k
      · rw [z]
        have e46 : u.2.1 46 k = b := by rw [fu 46 k (by decide)]; exact i3.1
        rw [e46]
        have a1 : BK M A 1 1 := by
          rcases hA.2.2.2.2 with w | w
          · rw [w.1]; exact BK.of 1 (fun _ _ _ _ => rfl)
          · exact BK.of 1 (fun x y p q => (w.2.2.2 x (by omega)).2.2 y (fun z => by omega))
        exact h.2.1.mv (tl_ h1).2 ((a1.trans (BK.cps q2)).trans (BK.of b (fun x y p q => fu x y (by omega)))) (((l0 _).trans (LY.cpa v2)).trans (lu _))
      · have e46 : u.2.1 46 l = M.1 46 l := by rw [fu 46 l (by decide)]; exact i3.2 l z
        rw [e46] at e ⊢
        have hm := (h3.1 l a c).resolve_left e
        have dis : M.1 46 l + 45 ≤ b ∨ b + 45 ≤ M.1 46 l := by
          rcases hA.2.2.2.2 with w | w
          · have e5 : M.1 46 k = b := by rw [← w.1]; exact hA.2.2.2.1
            have := h3.2 l k a c hk.1 (by omega) z e w.2
            rw [e5] at this; exact this
          · have := hm.1.2
            omega
        have hb := hm.1
        refine (h.2.2 l a c e).mv (by rw [(h6.2 l a c).1 e]; exact l6 _ (by omega) (by omega)) (BK.of _ (fun x y p q => ?_)) (((l0 _).trans (LY.cpo v2 (by omega))).trans (lu _))
        rw [fu x y (by omega), q2.2, if_neg (by omega)]
        rcases hA.2.2.2.2 with w | w
        · rw [w.1]
        · exact (w.2.2.2 x (by omega)).2.2 y (fun z => by omega)
end ImageQ
