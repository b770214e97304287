/-! deed by deed, night by night: stop, goods -/
section Nights
variable {O P A B M N : Mem} {D L E : Int → Int} {a l k q n kn : Int}
theorem PC.bindS {α β : Type} {X : Option α} {f : α → Option β} {Q : β → Prop} (hf : ∀ r, X = some r → PC (f r) Q) : PC (X.bind f) Q := by
  intro z e
  cases hX : X with
  | none => rw [hX] at e; cases e
  | some r => rw [hX] at e; exact hf r hX z e
theorem WB.self (h : WB O P a l k q D L A B) : WB A B a l k q D L A B := by
  obtain ⟨c, e, b, r⟩ := h
  exact ⟨⟨c.1, c.2.1, c.2.2.1, c.2.2.2.1, Keep.self, rfl⟩, ⟨e.1, e.2.1, Keep.self, rfl, rfl⟩, b, r⟩
theorem ND.keep {A' B' : Mem} (h : ND A B n kn E) (ka : Keep A A') (kb : Keep B B') (e : B'.1 85 28 = B.1 85 28) : ND A' B' n kn E := by
  obtain ⟨⟨hn, h0, hE, h1⟩, ⟨hk, h28, h93⟩, h2, h3⟩ := h
  have lo : ∀ x y, x < 47 → A'.1 x y = A.1 x y := fun x y z => keep_lo ka y (Or.inl z)
  have n47 : n + 4 < 47 := by rcases hn with z | z <;> omega
  refine ⟨⟨hn, by rw [lo _ _ (by omega)]; exact h0, hE, fun y p r => ?_⟩, ⟨hk, by rw [e]; exact h28, fun y p r => by rw [keep_lo kb _ (Or.inr (by decide))]; exact h93 y p r⟩, h2, h3⟩
  rw [lo _ _ (by omega), lo _ _ (by omega), lo _ _ (by omega), lo _ _ (by omega)]
  exact h1 y p r
theorem WB.clock (h : WB O P a l k q D L A B) (v : Int) : WB O P a l k q D L A (mst B 85 42 v) := by
  obtain ⟨c, e, b, r69, r70, r71, r72, r73, r74, r75, r76, r77, rc, rn, rs⟩ := h
  exact ⟨c, e.stF rfl (by decide), b, RWn.rt (by decide) r69, RWn.rt (by decide) r70, RWn.rt (by decide) r71, RWn.rt (by decide) r72, RWn.rt (by decide) r73, RWn.rt (by decide) r74, RWn.rt (by decide) r75, RWn.rt (by decide) r76, RWn.rt (by decide) r77, rc, rn, rs⟩
set_option maxHeartbeats 1000000 in
theorem WB.act (h : WB O P a l k q D L A B) (nd : ND O P n kn E) {j : Int} (j0 : 0 ≤ j) (j1 : j < E 0) : RR (fX9_act A 68 n j) (fX11_does B 85 j) (fun r u => r.1 = u.1 ∧ WB O P a l k q D L r.2 u.2) := by
  have h2 := h.clock j
  have nd' := nd.keep h.1.2.2.2.2.1 h2.2.1.2.2.1 h2.2.1.2.2.2.1
  obtain ⟨⟨hn, h0, hE, h1⟩, ⟨hk, h28, h93⟩, g2, g3⟩ := nd'
  have hT := h.1.1.1
  have hR := h2.2.1.1.1
  obtain ⟨a1, a2, a3, a4⟩ := h1 j j0 j1
  have dd : ∀ x, 0 ≤ x → x < 4 → fX11_deedOf (mst B 85 42 j) 85 j x = some (E (1 + 4 * j + x)) := fun x x0 x4 => by
    rw [deedOf_V hR hk h28 j0 (by omega) x0 x4, h93 _ (by omega) (by omega)]
  unfold fX9_act fX11_does
  rw [np1_ hT hn, np2_ hT hn, np3_ hT hn, np4_ hT hn, a1, a2, a3, a4]
  refine RR.gl (fun _ => RR.gl (fun _ => RR.gl (fun _ => RR.gl (fun _ => RR.gl (fun _ => RR.gr (fun _ => RR.mr ?_))))))
  rw [dd 1 (by decide) (by decide), dd 2 (by decide) (by decide), dd 3 (by decide) (by decide), dd 0 (by decide) (by decide)]
  show RR _ (if E (1 + 4 * j + 0) = 0 then ((fX11_takes (mst B 85 42 j) 85 (E (1 + 4 * j + 1)) (E (1 + 4 * j + 2)) (E (1 + 4 * j + 3))).bind fun r13 => if r13.1 = 0 ∨ r13.1 = 1 then some (r13.1, r13.2) else none) else if E (1 + 4 * j + 0) = 1 then ((fX11_gives (mst B 85 42 j) 85 (E (1 + 4 * j + 1)) (E (1 + 4 * j + 2)) (E (1 + 4 * j + 3))).bind fun r17 => if r17.1 = 0 ∨ r17.1 = 1 then some (r17.1, r17.2) else none) else if E (1 + 4 * j + 0) = 2 then ((fX11_sets (mst B 85 42 j) 85 (E (1 + 4 * j + 1)) (E (1 + 4 * j + 2)) (E (1 + 4 * j + 3))).bind fun r21 => if r21.1 = 0 ∨ r21.1 = 1 then some (r21.1, r21.2) else none) else (fX11_ends (mst B 85 42 j) 85).bind fun r24 => some (1, r24)) _
  rw [Int.add_zero, show 1 + 4 * j + 1 = 2 + 4 * j by omega, show 1 + 4 * j + 2 = 3 + 4 * j by omega, show 1 + 4 * j + 3 = 4 + 4 * j by omega]
  refine RR.ii Iff.rfl (fun z _ => RR.gl (fun _ => ?_)) (fun z0 _ => RR.ii Iff.rfl (fun z _ => RR.gl (fun _ => ?_)) (fun z1 _ => RR.ii Iff.rfl (fun z _ => RR.gl (fun _ => ?_)) (fun z2 _ => RR.gl (fun _ => ?_))))
  · have g := g2 j j0 j1 (Or.inl z)
    exact RR.bb (h2.take _ _ g.1 (by omega)) (fun r u p => RR.gl (fun _ => RR.gr (fun _ => RR.ok p)))
  · have g := g2 j j0 j1 (Or.inr z)
    exact RR.bb (h2.give _ _ g.1 (by omega)) (fun r u p => RR.gl (fun _ => RR.gr (fun _ => RR.ok p)))
  · exact RR.bb (h2.set _ _ (g3 j j0 j1 z)) (fun r u p => RR.gl (fun _ => RR.gr (fun _ => RR.ok p)))
  · exact RR.bb h2.ends (fun r u p => RR.ok ⟨rfl, p⟩)
theorem CW.st15 (c : CW O A a l D L) (v : Int) : CW (mst A 68 15 v) (mst A 68 15 v) a l D L := by
  have k : Keep A (mst A 68 15 v) := Keep.self.st rfl
  exact ⟨c.1.keep k, c.2.1.keep k, by rw [mst_nf _ _ _ _ _ _ (by decide)]; exact c.2.2.1, by rw [mst_nf _ _ _ _ _ _ (by decide)]; exact c.2.2.2.1, Keep.self, rfl⟩
/-- both walks have gone on alike -/
def PQ (a l k q n kn : Int) (D L E : Int → Int) (r : Mem) (u : Int × Mem) : Prop := r.1 68 15 = u.1 ∧ WB r u.2 a l k q D L r u.2 ∧ ND r u.2 n kn E
theorem fol_Q {m : Int} (h : WB A B a l k q D L A B) (nd : ND A B n kn E) (z : A.1 68 15 = 0) : RR (fX9_follow A 68 n m) (iterC (fun (rec4 : (Int × Mem) → Option (Int × Mem)) (s5 : Int × Mem) => if s5.1 < imin m (E 0) then (if s5.2.2.1 85 = 10 then (fX11_does s5.2 85 s5.1).bind fun r7 => if r7.1 = 0 then (some (s5.1, r7.2)) else (rec4 (w32 (s5.1 + 1), r7.2)) else none) else (some (s5.1, s5.2))) BIG (0, B)) (PQ a l k q n kn D L E) := by
  have e0 := nd.1.2.1
  unfold fX9_follow
  rw [e0]
  refine RR.gl (fun _ => RR.iter (fun s t => (0 ≤ t.1 ∧ t.1 ≤ 40) ∧ PQ a l k q n kn D L E s t) ?_ _ _ _ _ ⟨by (try dsimp only); omega, z, h, nd⟩)
  clear h nd z e0
  rintro rec rec' s ⟨j, B⟩ ⟨⟨j0, j1⟩, hj, h, nd⟩ hrec
  simp only at j0 j1 hj h nd ⊢
  rw [hj]
  refine RR.gl (fun _ => RR.ii Iff.rfl (fun c _ => RR.gr (fun _ => ?_)) (fun _ _ => RR.ok ⟨hj, h, nd⟩))
  have jE : j < E 0 := by unfold imin at c; split at c <;> omega
  have hE := nd.1.2.2.1
  refine RR.bb (h.act nd j0 jE) (fun r u p => ?_)
  obtain ⟨p1, p2⟩ := p
  have ka := p2.1.2.2.2.2.1
  have k15 := p2.1.2.2.2.2.2
  have kb := p2.2.1.2.2.1
  have k28 := p2.2.1.2.2.2.1
  have nd2 := nd.keep ka kb k28
  rw [← p1]
  refine RR.ii Iff.rfl (fun _ _ => RR.ok ⟨k15.trans hj, p2.self, nd2⟩) (fun _ _ => RR.gl (fun _ => RR.ml (hrec _ _ ⟨?_, ?_, ?_, ?_⟩)))
  · show 0 ≤ w32 (j + 1) ∧ w32 (j + 1) ≤ 40
    rw [w32_of (by omega) (by omega)]; omega
  · show (mst r.2 68 15 (w32 (r.2.1 68 15 + 1))).1 68 15 = w32 (j + 1)
    rw [mst_at, k15, hj]
  · obtain ⟨c, e, b, r69, r70, r71, r72, r73, r74, r75, r76, r77, rc, rn, rs⟩ := p2
    exact ⟨c.st15 _, ⟨e.1, e.2.1, Keep.self, rfl, rfl⟩, b, RWn.lf (by decide) r69, RWn.lf (by decide) r70, RWn.lf (by decide) r71, RWn.lf (by decide) r72, RWn.lf (by decide) r73, RWn.lf (by decide) r74, RWn.lf (by decide) r75, RWn.lf (by decide) r76, RWn.lf (by decide) r77, rc, rn, SBd'.lf (by decide) rs⟩
  · exact nd2.keep (Keep.self.st rfl) Keep.self rfl
/-- the nights as told -/
theorem nightsV_N (h : INV3 M) {k : Int} (k0 : 0 ≤ k) (k1 : k < M.1 3 2) {A B : Mem} (ka : Keep M A) (kb : Keep M B) (e : B.1 85 28 = k) : ND A B (18 + 19 * k) k (fun y => M.1 93 (161 * k + y)) := by
  have hT := h.1.1.1
  have hc := cn_ hT (i := 2) (by decide) (by decide)
  have hk : k = 0 ∨ k = 1 := by omega
  have e90 : M.1 90 2 = M.1 3 2 := cnt90 h.1 (by decide) (by decide)
  obtain ⟨⟨e0, l0⟩, e1⟩ := nightsV_D h.1 k0 k1
  have ha : NTA (18 + 19 * k) := NTA.of hk
  have n0 := (nd0_ hT ha).1
  have gd : GD 2 (fun y => M.1 93 (161 * k + y)) := (h.2 0 2 k (by decide) (by decide) (by decide) (by decide) k0 (by rw [show (4 * 0 + 2 : Int) = 2 from rfl, e90]; exact k1)).row (fun y _ _ => by
    show M.1 93 (161 * k + y) = M.1 (91 + 2) (wd 2 * (2 * 0 + k) + y)
    rw [show wd 2 * (2 * 0 + k) + y = 161 * k + y by show 161 * (2 * 0 + k) + y = _; omega]; rfl)
  have ez : M.1 93 (161 * k + 0) = M.1 93 (161 * k) := by rw [Int.add_zero]
  have nd : ND M (mst M 85 28 k) (18 + 19 * k) k (fun y => M.1 93 (161 * k + y)) := by
    refine ⟨⟨ha, by show _ = M.1 93 (161 * k + 0); rw [ez]; exact e0, by show 0 ≤ M.1 93 (161 * k + 0) ∧ M.1 93 (161 * k + 0) ≤ 40; rw [ez, ← e0]; rw [← e0] at l0; exact ⟨n0, l0⟩, fun y y0 y1 => ?_⟩, ⟨hk, mst_at _ _ _ _, fun y _ _ => mst_ne _ _ _ _ _ _ (by decide)⟩, fun y y0 y1 z => ?_, fun y y0 y1 z => ?_⟩
    · have y1 : y < M.1 93 (161 * k + 0) := y1
      rw [ez] at y1
      exact e1 y y0 y1
    · have y1 : y < M.1 93 (161 * k + 0) := y1
      rw [ez] at y1
      have z : M.1 93 (161 * k + (1 + 4 * y)) = 0 ∨ M.1 93 (161 * k + (1 + 4 * y)) = 1 := z
      have cf := hT.2.2.2 k y k0 (by omega) y0 (by omega)
      rw [show 161 * k + 1 + 4 * y = 161 * k + (1 + 4 * y) by omega, show 161 * k + 4 + 4 * y = 161 * k + (4 + 4 * y) by omega] at cf
      exact cf z
    · have y1 : y < M.1 93 (161 * k + 0) := y1
      exact gd.2 rfl y y0 (by rw [ez] at y1; omega) y1 z
  obtain ⟨b1, ⟨b2, _, b4⟩, b3⟩ := nd
  have nd' : ND M B (18 + 19 * k) k (fun y => M.1 93 (161 * k + y)) := ⟨b1, ⟨b2, e, fun y p r => keep_lo kb _ (Or.inr (by decide))⟩, b3⟩
  exact nd'.keep ka Keep.self rfl
end Nights
