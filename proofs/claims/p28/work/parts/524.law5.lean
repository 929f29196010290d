/-! saving, bringing back, taking back; the law -/
theorem zSame_t {m3 m2 m1 : zMem} {q a b : Nat} (h : zSame m3 q m2 a) (h2 : zSame m2 a m1 b) : zSame m3 q m1 b := by
  obtain ⟨a1, a2, a3, a4, a5, a6⟩ := h
  obtain ⟨b1, b2, b3, b4, b5, b6⟩ := h2
  refine ⟨a1.trans b1, a2.trans b2, a3.trans b3, fun j hj => (a4 j hj).trans (b4 j hj), fun d hd => ⟨fun k k1 k2 => ((a5 d hd).1 k k1 k2).trans ((b5 d hd).1 k k1 k2), fun j hj => ((a5 d hd).2 j hj).trans ((b5 d hd).2 j hj)⟩, fun i hi hp => ?_⟩
  have c1 := a6 i hi (by rw [b1]; exact hp)
  have c2 := b6 i hi hp
  exact ⟨fun k k1 k2 => (c1.1 k k1 k2).trans (c2.1 k k1 k2), fun j hj => (c1.2.1 j hj).trans (c2.2.1 j hj), fun j hj => (c1.2.2 j hj).trans (c2.2.2 j hj)⟩
theorem zSame_l {m m2 μ : zMem} {q a : Nat} (h : zSame m q μ a) (he : ∀ x, q ≤ x → x < q + 52 → m2 x = m x) : zSame m2 q μ a := by
  obtain ⟨a1, a2, a3, a4, a5, a6⟩ := h
  refine ⟨by rw [he q (by omega) (by omega)]; exact a1, by rw [he q (by omega) (by omega)]; exact a2, by rw [he q (by omega) (by omega)]; exact a3, fun j hj => by rw [he (q + 1) (by omega) (by omega)]; exact a4 j hj, fun d hd => ⟨fun k k1 k2 => by rw [he _ (by omega) (by omega)]; exact (a5 d hd).1 k k1 k2, fun j hj => by rw [he _ (by omega) (by omega)]; exact (a5 d hd).2 j hj⟩, fun i hi hp => ⟨fun k k1 k2 => by rw [he _ (by omega) (by omega)]; exact (a6 i hi hp).1 k k1 k2, fun j hj => by rw [he _ (by omega) (by omega)]; exact (a6 i hi hp).2.1 j hj, fun j hj => by rw [he _ (by omega) (by omega)]; exact (a6 i hi hp).2.2 j hj⟩⟩
theorem zSame_rf {μ : zMem} {a : Nat} : zSame μ a μ a :=
  ⟨rfl, rfl, rfl, fun _ _ => rfl, fun _ _ => ⟨fun _ _ _ => rfl, fun _ _ => rfl⟩, fun _ _ _ => ⟨fun _ _ _ => rfl, fun _ _ => rfl, fun _ _ => rfl⟩⟩
theorem zV_same {n P D c ee : Nat} {m μ : zMem} (hV : zV n P D c ee μ) (h : zSame m 1 μ 1) : zV n P D c ee m := by
  obtain ⟨⟨h1, h2, h3, h4, h5, h6, h7⟩, ⟨b1, b2, b3, b4⟩, h9, h10, h11⟩ := hV
  obtain ⟨a1, a2, a3, a4, a5, a6⟩ := h
  have per : ∀ i, i < P → (∀ k, 2 ≤ k → k ≤ 8 → m (5 + 3 * i) k = μ (5 + 3 * i) k) ∧ (∀ j, j < 5 → m (6 + 3 * i) j = μ (6 + 3 * i) j) ∧ ∀ j, j < 5 → m (7 + 3 * i) j = μ (7 + 3 * i) j := fun i hi => by
    have := a6 i (by omega) (by rw [h5]; exact (nI_ltI (by omega) (by omega)).mpr hi)
    rw [show 1 + 4 + 3 * i = 5 + 3 * i by omega, show 5 + 3 * i + 1 = 6 + 3 * i by omega, show 5 + 3 * i + 2 = 7 + 3 * i by omega] at this
    exact this
  have dis : ∀ d, d < 3 → (∀ k, 1 ≤ k → k ≤ 5 → m (47 + 2 * d) k = μ (47 + 2 * d) k) ∧ ∀ j, j < 5 → m (48 + 2 * d) j = μ (48 + 2 * d) j := fun d hd => by
    have := a5 d hd
    rw [show 1 + 46 + 2 * d = 47 + 2 * d by omega, show 47 + 2 * d + 1 = 48 + 2 * d by omega] at this
    exact this
  refine ⟨⟨h1, h2, h3, h4, by rw [a1]; exact h5, by rw [a2]; exact h6, by rw [a3]; exact h7⟩, ?_, fun i hi => ?_, fun d hd => ?_, ?_⟩
  · have e : ∀ j, j < 4 → m 2 j = μ 2 j := fun j hj => a4 j hj
    exact ⟨by rw [e 0 (by decide)]; exact b1, by rw [e 1 (by decide)]; exact b2, by rw [e 2 (by decide)]; exact b3, by rw [e 3 (by decide)]; exact b4⟩
  · obtain ⟨p1, p2, p3⟩ := per i hi
    obtain ⟨c1, c2, c3, c4, c5⟩ := h9 i hi
    exact ⟨by rw [p1 2 (by decide) (by decide)]; exact c1, by rw [p1 3 (by decide) (by decide), p1 5 (by decide) (by decide), p1 6 (by decide) (by decide)]; exact c2, by rw [p1 8 (by decide) (by decide)]; exact c3, fun a ha => by rw [p2 a ha]; exact c4 a ha, fun a ha => by rw [p3 a ha]; exact c5 a ha⟩
  · obtain ⟨p1, p2⟩ := dis d hd
    obtain ⟨c1, c2, c3⟩ := h10 d hd
    exact ⟨by rw [p1 1 (by decide) (by decide), p1 2 (by decide) (by decide)]; exact c1, by rw [p1 1 (by decide) (by decide), p1 2 (by decide) (by decide), p1 3 (by decide) (by decide), p1 4 (by decide) (by decide), p1 5 (by decide) (by decide)]; exact c2, fun w hw => by rw [p2 w hw]; exact c3 w hw⟩
  · rw [show m 47 4 = μ 47 4 from (dis 0 (by decide)).1 4 (by decide) (by decide), show m 49 4 = μ 49 4 from (dis 1 (by decide)).1 4 (by decide) (by decide), show m 51 4 = μ 51 4 from (dis 2 (by decide)).1 4 (by decide) (by decide), ← h11]
    exact zSum_cg (fun i hi => (per i hi).1 7 (by decide) (by decide))
/-- a canteen that looks as a good one can be copied -/
theorem zSame_can {n P D c ee q : Nat} {m μ : zMem} (hV : zV n P D c ee μ) (h : zSame m q μ 1) : zICan m q := by
  obtain ⟨⟨P2, k1, k2, k3⟩, ⟨D2, k4, k5⟩, k6⟩ := zV_can hV
  obtain ⟨a1, a2, a3, a4, a5, a6⟩ := h
  refine ⟨⟨P2, k1, by rw [a1]; exact k2, fun i hi => ?_⟩, ⟨D2, k4, by rw [a2]; exact k5⟩, by rw [a3]; exact k6⟩
  rw [(a6 i (by omega) (by rw [k2]; exact (nI_ltI (by omega) (by omega)).mpr hi)).1 8 (by decide) (by decide)]
  exact k3 i hi
theorem zx_save {n P D c ee q : Nat} {μ : zMem} {K : Int32 → zMem → Prop} (hV : zV n P D c ee μ) (h : ∀ m : zMem, (∀ a, a < 419 → m a = μ a) → zSame m 474 μ 1 → ¬ m 421 1 = 0 → K (nI P) m) : fX7_save q (1 : Int32) μ K := by
  unfold fX7_save fX6_store
  refine ⟨fun z => absurd z (by decide), fun _ => ⟨fun _ => ⟨by unfold vp_in; decide, fun q4 e4 => ?_⟩, fun z => absurd (by decide) z⟩⟩
  have e4' : q4 = 474 := by rw [e4]; rfl
  subst e4'
  refine zs_X0_become (by omega) (zV_can hV) (fun m6 hf hs => ⟨by unfold vp_in; decide, fun m8 e8 => ?_⟩)
  have e8' : m8 = z_up m6 421 1 (vp_nar .boolean (1 : Int32)) := e8
  have ne : ∀ a, a ≠ 421 → m8 a = m6 a := fun a ha => by rw [e8', zu_ne ha]
  have eP : m8 1 3 = nI P := by rw [ne 1 (by decide), hf 1 (by omega)]; exact hV.1.2.2.2.2.1
  rw [eP]
  refine h m8 (fun a ha => by rw [ne a (by omega), hf a (by omega)]) (zSame_l hs (fun x h1 h2 => ne x (by omega))) ?_
  rw [e8', zu_same, z_upd_same]
  decide
theorem zx_restore {n P D c n2 P2 D2 c2 q : Nat} {μs μ : zMem} {K : Int32 → zMem → Prop} (hT : zT n2 P2 D2 c2 μ) (hV : zV n P D c c μs) (hs : zSame μ 474 μs 1) (hu : ¬ μ 421 1 = 0)
    (h : ∀ (m : zMem) (N N2 M2 : Nat), N ≤ 6 → N2 ≤ 6 → M2 ≤ 6 → 1 ≤ M2 → N2 = (if N = 6 then 0 else N + 1) → m 53 1 = nI N2 → m 53 2 = nI M2 → zSame m (55 + 52 * N) μ 1 → zSame m 1 μs 1 → K (nI P) m) : fX7_restore q (1 : Int32) μ K := by
  obtain ⟨hVn, N, M, hN, hM, eN, eM⟩ := hT
  have hPs := hV.1.1
  unfold fX7_restore
  refine zs_note hN eN (zV_can hVn) (fun m2 hf2 hs2 => ?_)
  unfold fX6_fetch
  refine ⟨fun z => absurd z (by decide), fun _ => ⟨fun _ => ⟨by unfold vp_in; decide, fun x4 e4 => ?_⟩, fun z => absurd (by decide) z⟩⟩
  have e4' : x4 = μ 421 1 := by
    rw [e4]
    show m2 421 1 = _
    rw [hf2 421 (by omega)]
  rw [e4']
  refine ⟨fun _ => ⟨by unfold vp_in; decide, fun q7 e7 => ?_⟩, fun z => absurd z hu⟩
  have e7' : q7 = 474 := by rw [e7]; rfl
  subst e7'
  have hs4 : zSame m2 474 μs 1 := zSame_l hs (fun x h1 h2 => hf2 x (by omega))
  refine zs_X0_become (by omega) (zSame_can hV hs4) (fun m9 hf9 hs9 => ?_)
  have hs1 : zSame m9 1 μs 1 := zSame_t hs9 hs4
  have eP : m9 1 3 = nI P := by rw [hs1.1]; exact hV.1.2.2.2.2.1
  rw [eP]
  have e53 : m9 53 = μ 53 := by rw [hf9 53 (by omega), hf2 53 (by omega)]
  refine zx_keep0 hN hM (by rw [e53]; exact eN) (by rw [e53]; exact eM) (fun m5 N2 M2 k1 k2 k3 k4 k5 k6 => ?_)
  obtain ⟨k7, k8⟩ := k5 (nI_pos' (by omega))
  refine h m5 N N2 M2 hN k1 k2 k7 k8 k3 k4 (zSame_l hs2 (fun x h1 h2 => ?_)) (zSame_l hs1 (fun x h1 h2 => k6 x (by omega)))
  rw [k6 x (by omega), hf9 x (by omega)]
theorem zx_undo {n P D c N N2 M2 q : Nat} {μs μ : zMem} {K : Int32 → zMem → Prop} (hV : zV n P D c c μs) (hN : N ≤ 6) (hN2 : N2 ≤ 6) (hM : M2 ≤ 6) (hM1 : 1 ≤ M2) (eN : N2 = (if N = 6 then 0 else N + 1)) (e1 : μ 53 1 = nI N2) (e2 : μ 53 2 = nI M2) (hs : zSame μ (55 + 52 * N) μs 1)
    (h : ∀ m : zMem, zSame m 1 μs 1 → K (nI (M2 - 1)) m) : fX7_undo q μ K := by
  unfold fX7_undo fX2_takeBack
  have l29 : ∀ v : Int32, v = nI N → fX2_takeBack_29 (fun r1 m2 => K r1 m2) 53 1 v 53 μ := by
    intro v ev
    unfold fX2_takeBack_29
    intro m1 q1 x2 q2 m3 q3
    have f1 : m3 53 1 = nI N := by rw [q3, zu_same, z_upd_ne (by decide), q1, zu_same, z_upd_same, ev]
    have f2 : m3 53 2 = nI (M2 - 1) := by rw [q3, zu_same, z_upd_same, q2, q1, zu_same, z_upd_ne (by decide), e2, show (1 : Int32) = nI 1 from rfl, pk_sub hM1]
    have ne : ∀ a, a ≠ 53 → m3 a = μ a := fun a ha => by rw [q3, zu_ne ha, q1, zu_ne ha]
    rw [f1]
    refine ⟨vp_in_nI (by omega) (by decide), fun q5 e5 => ?_⟩
    rw [nI_clamp (by omega)] at e5
    have e5' : q5 = 55 + 52 * N := by omega
    subst e5'
    have hs3 : zSame m3 (55 + 52 * N) μs 1 := zSame_l hs (fun x h1 h2 => ne x (by omega))
    refine zs_X0_become (by omega) (zSame_can hV hs3) (fun m7 hf7 hs7 => ?_)
    have e7 : m7 53 2 = nI (M2 - 1) := by rw [hf7 53 (by omega)]; exact f2
    rw [e7]
    exact h m7 (zSame_t hs7 hs3)
  rw [e1, e2]
  refine ⟨fun _ => (pk_eq N2 0 (fun g => l29 6 ?_) (fun g x10 e10 => l29 x10 ?_)).symm, fun z => absurd z (nI_ne0 (by omega) (by omega))⟩
  · have : N = 6 := by
      by_cases c6 : N = 6
      · exact c6
      · rw [if_neg c6] at eN
        omega
    rw [this]
    rfl
  · have : N2 = N + 1 := by
      by_cases c6 : N = 6
      · rw [if_pos c6] at eN
        omega
      · rw [if_neg c6] at eN
        exact eN
    rw [e10, this]
    exact nI_pred N
theorem zM0_T : zT 0 0 0 0 zM0 := by
  refine ⟨⟨⟨by decide, by decide, by decide, by decide, rfl, rfl, rfl⟩, ⟨⟨1, by decide, rfl⟩, ⟨4, by decide, rfl⟩, ⟨3, by decide, by decide, rfl⟩, ⟨5, by decide, by decide, rfl⟩⟩, fun i hi => by omega, fun d hd => ?_, rfl⟩, ⟨0, 0, by decide, by decide, rfl, rfl⟩⟩
  have hw : ∀ w : Nat, w < 5 → z_p0 w = nI 1 := fun w hw => by
    rcases (show w = 0 ∨ w = 1 ∨ w = 2 ∨ w = 3 ∨ w = 4 by omega) with rfl | rfl | rfl | rfl | rfl <;> rfl
  rcases (show d = 0 ∨ d = 1 ∨ d = 2 by omega) with rfl | rfl | rfl
  · exact ⟨⟨0, 0, by decide, by decide, rfl, rfl, fun _ => rfl⟩, rfl, fun w h => ⟨1, by decide, by decide, hw w h⟩⟩
  · exact ⟨⟨0, 0, by decide, by decide, rfl, rfl, fun _ => rfl⟩, rfl, fun w h => ⟨1, by decide, by decide, hw w h⟩⟩
  · exact ⟨⟨0, 0, by decide, by decide, rfl, rfl, fun _ => rfl⟩, rfl, fun w h => ⟨1, by decide, by decide, hw w h⟩⟩
theorem zx_wasted0 {μ : zMem} {q : Nat} {K : Int32 → zMem → Prop} (hf : ∀ d, d < 3 → μ (47 + 2 * d) 5 = 0) (h : K (-6) μ) : fX7_wasted q μ K := by
  unfold fX7_wasted fX0_mostThrown
  have st : ∀ (m d : Nat), d < 3 → fX0_mostThrown_5 (fun r1 m2 => K r1 m2) 1 m (-6) (nI (d + 1)) μ → fX0_mostThrown_5 (fun r1 m2 => K r1 m2) 1 (m + 1) (-6) (nI d) μ := by
    intro m d hd g
    show fX0_mostThrown_5b (fX0_mostThrown_5 (fun r1 m2 => K r1 m2) 1 m) (fun r1 m2 => K r1 m2) 1 (-6) (nI d) μ
    unfold fX0_mostThrown_5b fX0_mostThrown_49
    refine pk_le 3 d (fun z => absurd z (by omega)) (fun _ => ⟨vp_in_nI hd (by decide), fun q4 e4 => ?_⟩)
    rw [zq_d hd e4, hf d hd]
    refine ⟨fun _ x1 e1 => ?_, fun z => absurd (Int32.le_refl _) z⟩
    rw [e1, nI_1]
    exact g
  have e : zFU = (zFU - 4) + 4 := by decide
  rw [e]
  refine st _ 0 (by decide) (st _ 1 (by decide) (st _ 2 (by decide) ?_))
  show fX0_mostThrown_5b (fX0_mostThrown_5 (fun r1 m2 => K r1 m2) 1 _) (fun r1 m2 => K r1 m2) 1 (-6) (nI 3) μ
  unfold fX0_mostThrown_5b
  exact ⟨fun _ => h, fun z => absurd (Int32.le_refl _) z⟩
theorem zl_end {L : Nat} {xs : Nat → Int32} {n P D c : Nat} {μ : zMem} (hT : zT n P D c μ) (hP2 : 2 ≤ P) : fL_law_134 L xs 1 μ := by
  have hV := hT.1
  have hP14 := hV.1.1
  unfold fL_law_134
  refine zx_cnt1 hV (zx_cnt7 hV ⟨fun z => absurd z (by decide), fun _ => zx_orders hT ⟨fun z => absurd z (by decide), fun _ => zx_people hT ⟨fun z => absurd z (by decide), fun _ => zx_save hV (fun m1 hf1 hs1 hu1 => ⟨fun z => absurd rfl z, fun _ => ?_⟩)⟩⟩⟩)
  have hT1 : zT n P D c m1 := by
    refine ⟨zV_cg hV (fun a _ h3 => hf1 a (by omega)), ?_⟩
    obtain ⟨N, M, k1, k2, k3, k4⟩ := hT.2
    exact ⟨N, M, k1, k2, by rw [hf1 53 (by omega)]; exact k3, by rw [hf1 53 (by omega)]; exact k4⟩
  obtain ⟨v, hv, ev⟩ := (hT1.1.2.2.1 0 (by omega)).1
  refine zx_vouchers (j := 0) (a := 30) hT1 (by omega) ⟨by decide, by decide⟩ hv ev (fun m2 hT2 e2 hf2 => ?_)
  rw [show min 30 (v + 30) = 30 by omega] at e2 ⊢
  refine ⟨fun z => absurd rfl z, fun _ => zx_set (w := 2) (x := 9) hT2 (by decide) (Or.inr (Or.inr (Or.inl ⟨rfl, by decide, by decide⟩))) (fun m3 hT3 e3 hf3 => ?_)⟩
  obtain ⟨a, ha1, ha9, ea⟩ := hT2.1.2.1.2.2.1
  rw [ea]
  refine pk_lt a 1 (fun z => absurd z (by omega)) (fun _ => ?_)
  have hs3 : zSame m3 474 μ 1 := zSame_l hs1 (fun x h1 h2 => by rw [hf3 x (by omega) (by omega), hf2 x (by omega)])
  have hu3 : ¬ m3 421 1 = 0 := by
    rw [hf3 421 (by omega) (by omega), hf2 421 (by omega)]
    exact hu1
  have e30 : m3 5 2 = nI 30 := by
    rw [hf3 5 (by omega) (by omega)]
    exact e2
  refine zx_restore hT3 hV hs3 hu3 (fun m4 N N2 M2 hN hN2 hM2 hM1 eN q1 q2 hs4 hs5 => ⟨fun z => absurd rfl z, fun _ => ?_⟩)
  have hV4 : zV n P D c c m4 := zV_same hV hs5
  refine zx_cnt7 hV4 ?_
  have e7 : zSum (fun i => m4 (5 + 3 * i) 2) P = zSum (fun i => μ (5 + 3 * i) 2) P := zSum_cg (fun i hi => by
    have := (hs5.2.2.2.2.2 i (by omega) (by rw [hV.1.2.2.2.2.1]; exact (nI_ltI (by omega) (by omega)).mpr hi)).1 2 (by decide) (by decide)
    rw [show 1 + 4 + 3 * i = 5 + 3 * i by omega] at this
    exact this)
  rw [e7]
  refine ⟨fun z => absurd rfl z, fun _ => ?_⟩
  unfold fL_law_223
  refine ⟨fun z => absurd z (by decide), fun _ => zx_undo hT3.1 hN hN2 hM2 hM1 eN q1 q2 hs4 (fun m5 hs6 => ⟨fun z => absurd z (nI_pos (by omega)), fun _ => ?_⟩)⟩
  have hV5 : zV n P D c c m5 := zV_same hT3.1 hs6
  refine zx_of0 (j := 0) hV5 (by omega) ?_
  have e5 : m5 (5 + 3 * 0) 2 = nI 30 := by
    have := (hs6.2.2.2.2.2 0 (by decide) (by rw [hT3.1.1.2.2.2.2.1]; exact (nI_ltI (a := 0) (by decide) (by omega)).mpr (by omega))).1 2 (by decide) (by decide)
    exact this.trans e30
  rw [e5]
  refine ⟨fun z => absurd rfl z, fun _ => zx_cnt8 hV5 (zx_bits hP14 rfl (fun s hs => ?_))⟩
  refine pk_lt P s (fun z => absurd z (by omega)) (fun _ => ?_)
  unfold fL_law_264
  rfl
theorem zl_loop {L : Nat} {xs : Nat → Int32} (hL : L ≤ 260) : ∀ (m k P D c : Nat) (μ : zMem), k ≤ 50 → 50 - k < m → 2 ≤ P → zT k P D c μ → fL_law_86 L xs m 1 (nI k) μ := by
  intro m
  induction m with
  | zero => intro k P D c μ g1 g2; omega
  | succ m ih =>
    intro k P D c μ g1 g2 hP2 hT
    show fL_law_86b L xs (fL_law_86 L xs m) 1 (nI k) μ
    unfold fL_law_86b
    refine pk_le 50 k (fun g => zl_end hT hP2) (fun g => ⟨fun z => absurd z (by decide), fun _ => ⟨fun z => ?_, fun x44 e44 => ?_⟩⟩)
    · have z2 : nI k < nI L := z
      exact vp_in_nI ((nI_ltI (by omega) (by omega)).mp z2) (by omega)
    · have ea : ∃ a : Nat, a < 2 ^ 31 ∧ x44 = nI a := by
        rw [e44]
        unfold zCell
        exact pk_andE _ 31 (by decide)
      obtain ⟨a, ha, ea⟩ := ea
      rw [ea]
      refine zx_acts hT hP2 (by omega) ha (fun P' D' c' m5 hP' hT5 => ⟨fun z => absurd z (by decide), fun _ x48 e48 => ?_⟩)
      have go : fL_law_122 L xs (fL_law_86 L xs m) (nI k) m5 := by
        unfold fL_law_122 fL_law_127
        intro x1 e1
        rw [e1, nI_1]
        exact ih (k + 1) P' D' c' m5 (by omega) (by omega) hP' hT5
      exact ⟨fun _ => go, fun _ => zx_orders hT5 ⟨fun z => absurd z (by decide), fun _ => go⟩⟩
theorem zlast {L : Nat} {xs : Nat → Int32} (hL : L ≤ 260) : fL_law_8 L xs zM0 := by
  unfold fL_law_8
  have hT0 := zM0_T
  unfold fX7_undo fX2_takeBack
  refine ⟨fun z => absurd rfl z, fun _ => ⟨fun z => absurd rfl z, fun _ => ?_⟩⟩
  unfold fX7_restore
  refine zx_note hT0.1 hT0.2 (fun m2 h2 => ?_)
  unfold fX6_fetch
  refine ⟨fun z => absurd z (by decide), fun _ => ⟨fun _ => ⟨by unfold vp_in; decide, fun x4 e4 => ?_⟩, fun z => absurd (by decide) z⟩⟩
  have e4' : x4 = 0 := by
    rw [e4]
    show m2 421 1 = _
    rw [h2 421 (by omega)]
    rfl
  refine ⟨fun z => absurd e4' z, fun _ => zx_keep hT0.2 (h2 53 (by omega)) (fun m5 h5 hH5 => ?_)⟩
  have hT5 := zT_no hT0 h2 h5 hH5
  refine ⟨fun z => absurd rfl z, fun _ => zx_unsure0 hT5.1 ⟨fun z => absurd rfl z, fun _ => zx_wasted0 (fun d hd => ?_) ⟨fun z => absurd rfl z, fun _ => ?_⟩⟩⟩
  · rw [h5 _ (by omega), h2 _ (by omega)]
    rcases (show d = 0 ∨ d = 1 ∨ d = 2 by omega) with rfl | rfl | rfl <;> rfl
  · refine zx_close hT5 (by decide) (fun _ m6 hT6 => ⟨fun z => absurd rfl z, fun _ => ?_⟩) (fun _ _ z => absurd rfl z)
    refine zx_person hT6 (fun m7 _ hT7 _ _ _ _ _ => ⟨fun z => absurd rfl z, fun _ => ?_⟩) (fun _ z => absurd z (by decide))
    refine zx_person hT7 (fun m8 _ hT8 f2 f4 f6 _ _ => ⟨fun z => absurd rfl z, fun _ => ?_⟩) (fun _ z => absurd z (by decide))
    refine zx_first (j := 1) hT8.1 (by decide) ?_
    have ew : zwy m8 0 1 0 0 = 0 := by
      obtain ⟨p, hp1, hp3, ep⟩ := zV_price (w := 0) hT8.1 (d := 0) (by decide) (by decide)
      have e5 : m8 1 5 = 0 := hT8.1.1.2.2.2.2.2.2
      have g2 : m8 8 2 = nI 5 := f2
      have g4 : m8 8 4 = 0 := f4
      have g6 : m8 9 0 = (-6 : Int32) := f6 0 (by decide)
      have gp : m8 48 0 = nI p := ep
      unfold zwy
      show (if (0 = 0 ∧ ¬ m8 1 5 = 0) then 1 else if ¬ m8 8 4 ≤ nI 0 then 2 else if ¬ m8 9 0 = (-6 : Int32) then 3 else if ¬ m8 48 0 ≤ m8 8 2 then 4 else 0) = 0
      rw [e5, g4, g6, g2, gp, if_neg (by decide), if_neg (by decide), if_neg (by decide), if_neg (fun z => z ((nI_leI (by omega) (by decide)).mpr (by omega)))]
    have ef : zfi m8 0 1 15 = nI 0 := by
      have := zfi_at m8 0 1 (k := 0) (d := 0) (by decide) (by decide)
      rw [if_pos ew] at this
      exact this
    rw [ef]
    refine ⟨fun z => absurd rfl z, fun _ => ?_⟩
    unfold fL_law_83
    exact zl_loop hL zFU 0 2 0 0 m8 (by decide) (by unfold zFU; omega) (by decide) hT8
theorem whole_start {p : Program} {e : Env} {s : State} {m : MethodId} {below : List Frame} {meth : Method} {c : Code} (l : Launch) (hflags : l.flags = flags0) {b L : Nat} {xs : Nat → Int32} (hL : L ≤ 260) (C0 : lw_At p s m meth c b L xs) : W p l e room_1 s m #[Value.ref b] below meth c s.heap [] 0 0 (lw_Z below #[Value.ref b] s) (entryFrame m ([Value.ref b] : List Value).toArray 5) := zstart l C0 (zlast hL)
