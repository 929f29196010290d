/-! one call on fresh objects: cooking, settings, prices, texts put -/
theorem zp_cook : ∃ r, zC (fX7_cook 0 zM1) r ∧ zR (fun m K => fX8_cook 529 m K) r := by
  refine ⟨nI 3, fun K hK => ?_, fun m K hm hK => ?_⟩
  · unfold fX7_cook
    refine zp_note (fun m hn => ?_)
    unfold fX0_cookToday
    refine ⟨fun _ => ?_, fun c => absurd (by rw [hn 1 (by omega)]; rfl) c⟩
    obtain ⟨K2, hK2⟩ : ∃ K2 : Int32 → zMem → Prop, K2 = (fun r3 m4 => fX2_keep 53 r3 m4 (fun r5 m6 => K r5 m6)) := ⟨_, rfl⟩
    rw [← hK2]
    have L : ∀ (n i : Nat) (m : zMem), i ≤ 3 → 3 - i < n → m 1 3 = nI 0 → m 2 0 = 1 → m 53 1 = nI 0 → (∀ j, i ≤ j → j < 3 → m (1 + 3 + 43 + 2 * j) 1 = 0) → zFr m → fX0_cookToday_14 K2 1 n (nI i) (nI i) m := by
      intro n
      induction n with
      | zero => intro i m h1 h2; omega
      | succ n ih =>
        intro i m h1 h2 a1 a2 a3 a4 a5
        show fX0_cookToday_14b (fX0_cookToday_14 K2 1 n) K2 1 (nI i) (nI i) m
        unfold fX0_cookToday_14b
        refine ⟨fun c m2 e2 => ?_, fun c => ?_⟩
        · have h3 : i = 3 := by
            have := (nI_leI (a := 3) (b := i) (by omega) (by omega)).mp c
            omega
          subst h3
          rw [hK2]
          exact zp_keep (by rw [e2, zu_ne (by decide)]; exact a3) (fun r hr => by rw [e2, zu_ne (by omega)]; exact a5 r hr) hK
        · have h3 : i < 3 := Nat.lt_of_not_le (fun g => c ((nI_leI (a := 3) (b := i) (by omega) (by omega)).mpr g))
          refine zn_cookC h3 a1 a2 (a4 i (Nat.le_refl _) h3) ⟨vp_in_nI h3 (by decide), fun q6 e6 => ?_⟩
          rw [nI_clamp (by omega)] at e6
          unfold fX1_fill
          intro m1 e1 x2 e2 m3 e3 x9 e9 x10 e10
          have g : ∀ r, r ≠ q6 → m3 r = m r := fun r hr => by rw [e3, zu_ne hr, e1, zu_ne hr]
          rw [e9, e10, show nI i + (1 : Int32) = nI (i + 1) from nI_1 i]
          refine ih (i + 1) m3 (by omega) (by omega) (by rw [g 1 (by omega)]; exact a1) (by rw [g 2 (by omega)]; exact a2) ?_ (fun j hj hj2 => by rw [g _ (by omega)]; exact a4 j (by omega) hj2) (fun r hr => by rw [g r (by omega)]; exact a5 r hr)
          rw [g 53 (by omega)]
          exact a3
    exact L zFU 0 m (by omega) (by unfold zFU; omega) (zNo_P hn) (by rw [hn 2 (by omega)]; rfl) (zNo_53 hn) (fun j _ hj => by rw [hn _ (by omega), zM1_d j hj]) (zNo_Fr hn)
  · show fX8_cook 529 m K
    unfold fX8_cook
    refine zp_hold hm (fun m2 hf h30 h8 => ?_)
    unfold fX8_cooks
    intro x20 e20
    have e20 : x20 = 0 := by rw [e20, h30]; rfl
    refine ⟨fun _ => ?_, fun c => absurd (e20.symm.trans c) (by decide)⟩
    obtain ⟨K2, hK2⟩ : ∃ K2 : Int32 → zMem → Prop, K2 = (fun r3 m4 => fX8_recorded 529 r3 m4 (fun r5 m6 => K r5 m6)) := ⟨_, rfl⟩
    rw [← hK2]
    have L : ∀ (n i : Nat) (m : zMem), i ≤ 3 → 3 - i < n → m 530 5 = nI 0 → m 530 0 = 1 → (∀ j, i ≤ j → j < 3 → m 530 (23 + 5 * j) = 0) → m 529 8 = nI 0 → fX8_cooks_18 K2 529 n (nI i) (nI i) m := by
      intro n
      induction n with
      | zero => intro i m h1 h2; omega
      | succ n ih =>
        intro i m h1 h2 a1 a2 a4 a5
        show fX8_cooks_18b (fX8_cooks_18 K2 529 n) K2 529 (nI i) (nI i) m
        unfold fX8_cooks_18b
        refine ⟨fun c m2 e2 => ?_, fun c => ?_⟩
        · have h3 : i = 3 := by
            have := (nI_leI (a := 3) (b := i) (by omega) (by omega)).mp c
            omega
          subst h3
          rw [hK2]
          exact zp_rec (by rw [e2, zu_ne (by decide)]; exact a5) hK
        · have h3 : i < 3 := Nat.lt_of_not_le (fun g => c ((nI_leI (a := 3) (b := i) (by omega) (by omega)).mpr g))
          refine zn_cookR h3 a1 a2 (a4 i (Nat.le_refl _) h3) (zd_val (fun x7 e7 => ?_))
          have e7 : x7 = nI (24 + 5 * i) := by rw [e7, show (1 : Int32) = nI 1 from rfl, nI_add]; congr 1; omega
          refine ⟨by rw [e7]; exact vp_in_nI (by omega) (by decide), fun m9 e9 => zd_val (fun x12 e12 => ?_)⟩
          have e12 : x12 = nI (25 + 5 * i) := by rw [e12, show (2 : Int32) = nI 2 from rfl, nI_add]; congr 1; omega
          have hi12 : vp_in x12 276 := by rw [e12]; exact vp_in_nI (by omega) (by decide)
          refine ⟨hi12, fun x14 e14 x15 e15 => ⟨hi12, fun m17 e17 x18 e18 x19 e19 => ?_⟩⟩
          rw [e7, nI_clamp (by omega)] at e9
          rw [e12, nI_clamp (by omega)] at e17
          have g : ∀ k, k ≠ 24 + 5 * i → k ≠ 25 + 5 * i → m17 530 k = m 530 k := fun k k1 k2 => by rw [e17, zu_same, z_upd_ne k2, e9, zu_same, z_upd_ne k1]
          rw [e18, e19, show nI i + (1 : Int32) = nI (i + 1) from nI_1 i]
          exact ih (i + 1) m17 (by omega) (by omega) (by rw [g 5 (by omega) (by omega)]; exact a1) (by rw [g 0 (by omega) (by omega)]; exact a2) (fun j hj hj2 => by rw [g _ (by omega) (by omega)]; exact a4 j (by omega) hj2) (by rw [e17, zu_ne (by decide), e9, zu_ne (by decide)]; exact a5)
    exact L zFU 0 m2 (by omega) (by unfold zFU; omega) (by rw [h30]; rfl) (by rw [h30]; rfl) (fun j _ hj => by rw [h30, zM1_530, zs1_0 _ (by omega) (by omega)]) h8
/-- a setting's number -/
theorem zi_4 (a : Int32) : a < 0 ∨ (¬ a < 0 ∧ ¬ a < 4) ∨ ∃ j, j < 4 ∧ a = nI j := by
  rcases pk_ix a (n := 4) (by decide) with c | c | c
  · exact Or.inl c
  · by_cases h : a < 0
    · exact Or.inl h
    · exact Or.inr (Or.inl ⟨h, Int32.not_lt.mpr c⟩)
  · exact Or.inr (Or.inr c)
theorem zs_setR {K : Int32 → zMem → Prop} {j : Nat} {b : Int32} {m : zMem} (hj : j < 4) (hm : zFr m) (h1 : (∀ m2, K (z_s0 j) m2)) : fX8_set_64 K 529 (nI j) b 1 m := by
  unfold fX8_set_64
  refine ⟨fun _ => zp_hold hm (fun m3 hf h30 h8 => ?_), fun c => absurd c (by decide)⟩
  have hin : vp_in (nI j) 276 := vp_in_nI (by omega) (by decide)
  refine ⟨hin, fun x5 e5 => ⟨hin, fun m7 e7 => ?_⟩⟩
  have e5 : x5 = z_s0 j := by
    rw [e5, nI_clamp (by omega), h30, zM1_530]
    unfold zs1
    rw [if_neg (by omega)]
  rw [e5]
  exact zp_rec (by rw [e7, zu_ne (by decide)]; exact h8) h1
theorem zs_setR0 {K : Int32 → zMem → Prop} {a b : Int32} {m : zMem} (h : K (-2) m) : fX8_set_64 K 529 a b 0 m := by
  unfold fX8_set_64
  exact ⟨fun c => absurd rfl c, fun _ => h⟩
theorem zp_set (a b : Int32) : ∃ r, zC (fX7_set 0 a b zM1) r ∧ zR (fun m K => fX8_set 529 a b m K) r := by
  rcases zi_4 a with c | ⟨c1, c2⟩ | ⟨j, hj, rfl⟩
  · refine ⟨-2, fun K hK => ?_, fun m K hm hK => ?_⟩
    · unfold fX7_set
      refine zp_note (fun m hn => ?_)
      unfold fX0_changeSetting fX0_changeSetting_9
      exact ⟨fun _ => zp_keep (zNo_53 hn) (zNo_Fr hn) hK, fun g => absurd c g⟩
    · show fX8_set 529 a b m K
      unfold fX8_set fX8_set_63
      refine ⟨fun _ => ⟨fun _ => ⟨fun _ => ⟨fun _ => zs_setR0 (hK m), fun g => ?_⟩, fun g => ?_⟩, fun g => ?_⟩, fun g => ?_⟩ <;> (rw [g] at c; exact absurd c (by decide))
  · refine ⟨-2, fun K hK => ?_, fun m K hm hK => ?_⟩
    · unfold fX7_set
      refine zp_note (fun m hn => ?_)
      unfold fX0_changeSetting fX0_changeSetting_9
      exact ⟨fun g => absurd g c1, fun _ => ⟨fun g => absurd g c2, fun _ => zp_keep (zNo_53 hn) (zNo_Fr hn) hK⟩⟩
    · show fX8_set 529 a b m K
      unfold fX8_set fX8_set_63
      refine ⟨fun _ => ⟨fun _ => ⟨fun _ => ⟨fun _ => zs_setR0 (hK m), fun g => ?_⟩, fun g => ?_⟩, fun g => ?_⟩, fun g => ?_⟩ <;> (rw [g] at c2; exact absurd (by decide) c2)
  · -- X7
    have C : ∀ (K : Int32 → zMem → Prop) (r : Int32), (∀ m, zFr m → K r m) → ((zLo j ≤ b ∧ b ≤ zHi j) → r = z_s0 j) → (¬ (zLo j ≤ b ∧ b ≤ zHi j) → r = -2) → fX7_set 0 (nI j) b zM1 K := by
      intro K r hK h1 h2
      unfold fX7_set
      refine zp_note (fun m hn => ?_)
      have hin : vp_in (nI j) 4 := vp_in_nI hj (by decide)
      have hcl : (nI j).toNatClampNeg = j := nI_clamp (by omega)
      unfold fX0_changeSetting fX0_changeSetting_30
      rw [hcl]
      refine ⟨fun g => absurd g (nI_pos (by omega)), fun _ => ⟨fun _ => ⟨hin, fun x4 e4 => ⟨fun g => ?_, fun g => ⟨hin, fun x7 e7 => ⟨fun g2 => ⟨hin, fun x10 e10 => ⟨hin, fun m12 e12 => ?_⟩⟩, fun g2 => ?_⟩⟩⟩⟩, fun g => absurd ((nI_ltI (b := 4) (by omega) (by decide)).mpr hj) g⟩⟩
      · have := h2 (fun g3 => Int32.not_lt.mpr g3.1 (by rw [← e4]; exact g))
        subst this
        exact zp_keep (zNo_53 hn) (zNo_Fr hn) hK
      · have := h1 ⟨by rw [← e4]; exact Int32.not_lt.mp g, by rw [← e7]; exact g2⟩
        have e10 : x10 = r := by rw [e10, this, hn (1 + 1) (by omega)]; rfl
        rw [e10]
        exact zp_keep (by rw [e12, zu_ne (by decide)]; exact zNo_53 hn) (fun r hr => by rw [e12, zu_ne (by omega)]; exact zNo_Fr hn r hr) hK
      · have := h2 (fun g3 => g2 (by rw [e7]; exact g3.2))
        subst this
        exact zp_keep (zNo_53 hn) (zNo_Fr hn) hK
    have D : ∀ (m : zMem) (K : Int32 → zMem → Prop) (r : Int32), zFr m → (∀ m2, K r m2) → ((zLo j ≤ b ∧ b ≤ zHi j) → r = z_s0 j) → (¬ (zLo j ≤ b ∧ b ≤ zHi j) → r = -2) → fX8_set 529 (nI j) b m K := by
      intro m K r hm hK h1 h2
      have step : fX8_in b (zLo j) (zHi j) m (fun r21 m22 => fX8_set_64 K 529 (nI j) b r21 m22) := by
        refine zs_in (fun g1 g2 => ?_) (fun g => ?_)
        · have := h1 ⟨g1, g2⟩
          exact zs_setR hj hm (by rw [← this]; exact hK)
        · have := h2 g
          exact zs_setR0 (by rw [← this]; exact hK m)
      unfold fX8_set fX8_set_63
      rcases (show j = 0 ∨ j = 1 ∨ j = 2 ∨ j = 3 by omega) with rfl | rfl | rfl | rfl
      · exact ⟨fun g => absurd rfl g, fun _ => step⟩
      · exact ⟨fun _ => ⟨fun g => absurd rfl g, fun _ => step⟩, fun g => absurd g (by decide)⟩
      · exact ⟨fun _ => ⟨fun _ => ⟨fun g => absurd rfl g, fun _ => step⟩, fun g => absurd g (by decide)⟩, fun g => absurd g (by decide)⟩
      · refine ⟨fun _ => ⟨fun _ => ⟨fun _ => ⟨fun g => absurd rfl g, fun _ => ?_⟩, fun g => absurd g (by decide)⟩, fun g => absurd g (by decide)⟩, fun g => absurd g (by decide)⟩
        refine zs_in (fun g1 g2 => ⟨fun g => absurd g (by decide), fun _ => ?_⟩) (fun g => ⟨fun _ => ?_, fun g => absurd rfl g⟩)
        · have := h1 ⟨g1, g2⟩
          exact zs_setR hj hm (by rw [← this]; exact hK)
        · have := h2 g
          exact zs_setR0 (by rw [← this]; exact hK m)
    by_cases h : zLo j ≤ b ∧ b ≤ zHi j
    · exact ⟨z_s0 j, fun K hK => C K _ hK (fun _ => rfl) (fun g => absurd h g), fun m K hm hK => D m K _ hm hK (fun _ => rfl) (fun g => absurd h g)⟩
    · exact ⟨-2, fun K hK => C K _ hK (fun g => absurd g h) (fun _ => rfl), fun m K hm hK => D m K _ hm hK (fun g => absurd g h) (fun _ => rfl)⟩
theorem zp_price (a b c : Int32) : ∃ r, zC (fX7_price 0 a b c zM1) r ∧ zR (fun m K => fX8_price 529 a b c m K) r := by
  rcases zn_day a with ⟨w, hw, rfl⟩ | ha
  · rcases zn_dish b with ⟨j, hj, rfl⟩ | hb
    · by_cases h : (1 : Int32) ≤ c ∧ c ≤ 3
      · refine ⟨1, fun K hK => ?_, fun m K hm hK => ?_⟩
        · unfold fX7_price
          refine zp_note (fun m hn => ?_)
          unfold fX0_changePrice
          refine ⟨fun g => absurd g (nI_pos (by omega)), fun _ => ⟨fun g => absurd g (nI_ge (b := 5) hw (by decide)), fun _ => ?_⟩⟩
          refine zs_hasDish (fun _ _ _ => ⟨fun _ => ?_, fun g => absurd g (by decide)⟩) (fun g => absurd rfl (g j hj))
          have h1 : vp_in (nI j) 3 := vp_in_nI hj (by decide)
          have h2 : vp_in (nI w) 5 := vp_in_nI hw (by decide)
          refine ⟨fun g => absurd g (Int32.not_lt.mpr h.1), fun _ => ⟨fun _ => ⟨h1, fun q9 e9 => ⟨h2, fun x11 e11 => ⟨h1, fun q13 e13 => ⟨h2, fun m15 e15 => ?_⟩⟩⟩⟩, fun g => absurd h.2 g⟩⟩
          rw [nI_clamp (by omega)] at e9 e13
          have e11 : x11 = 1 := by
            rw [e11, nI_clamp (by omega), hn _ (by omega), e9, zM1_pr j hj]
            rcases (show w = 0 ∨ w = 1 ∨ w = 2 ∨ w = 3 ∨ w = 4 by omega) with rfl | rfl | rfl | rfl | rfl <;> rfl
          rw [e11]
          exact zp_keep (by rw [e15, zu_ne (by omega)]; exact zNo_53 hn) (fun r hr => by rw [e15, zu_ne (by omega)]; exact zNo_Fr hn r hr) hK
        · show fX8_price 529 (nI w) (nI j) c m K
          unfold fX8_price
          refine zs_in (fun _ _ => ⟨fun g => absurd g (by decide), fun _ => ?_⟩) (fun g => absurd ((zi_rng (n := 5) (by decide)).mpr ⟨w, hw, rfl⟩) g)
          refine zs_isDish (fun _ _ _ => ⟨fun _ => ?_, fun g => absurd g (by decide)⟩) (fun g => absurd rfl (g j hj))
          refine zs_in (fun _ _ => ⟨fun _ => ?_, fun g => absurd g (by decide)⟩) (fun g => absurd h g)
          refine zp_hold hm (fun m3 hf h30 h8 => ?_)
          have ix : ∀ x y z : Int32, x = (3 : Int32) * nI w → y = (8 : Int32) + x → z = y + nI j → z = nI (8 + 3 * w + j) := by
            intro x y z e1 e2 e3
            rw [e3, e2, e1, show (3 : Int32) = nI 3 from rfl, pk_mul, show (8 : Int32) = nI 8 from rfl, nI_add, nI_add]
          intro x12 e12 x13 e13 x14 e14
          have e14 := ix _ _ _ e12 e13 e14
          refine ⟨by rw [e14]; exact vp_in_nI (by omega) (by decide), fun x16 e16 x17 e17 x18 e18 x19 e19 => ?_⟩
          have e19 := ix _ _ _ e17 e18 e19
          refine ⟨by rw [e19]; exact vp_in_nI (by omega) (by decide), fun m21 e21 => ?_⟩
          have e16 : x16 = 1 := by
            rw [e16, e14, nI_clamp (by omega), h30, zM1_530]
            unfold zs1
            rw [if_pos ⟨by omega, by omega⟩]
          rw [e16]
          exact zp_rec (by rw [e21, zu_ne (by decide)]; exact h8) hK
      · refine ⟨-2, fun K hK => ?_, fun m K hm hK => ?_⟩
        · unfold fX7_price
          refine zp_note (fun m hn => ?_)
          unfold fX0_changePrice fX0_changePrice_29
          refine ⟨fun g => absurd g (nI_pos (by omega)), fun _ => ⟨fun g => absurd g (nI_ge (b := 5) hw (by decide)), fun _ => ?_⟩⟩
          refine zs_hasDish (fun _ _ _ => ⟨fun _ => ?_, fun g => absurd g (by decide)⟩) (fun g => absurd rfl (g j hj))
          exact ⟨fun _ => zp_keep (zNo_53 hn) (zNo_Fr hn) hK, fun g1 => ⟨fun g2 => absurd ⟨Int32.not_lt.mp g1, g2⟩ h, fun _ => zp_keep (zNo_53 hn) (zNo_Fr hn) hK⟩⟩
        · show fX8_price 529 (nI w) (nI j) c m K
          unfold fX8_price
          refine zs_in (fun _ _ => ⟨fun g => absurd g (by decide), fun _ => ?_⟩) (fun g => absurd ((zi_rng (n := 5) (by decide)).mpr ⟨w, hw, rfl⟩) g)
          refine zs_isDish (fun _ _ _ => ⟨fun _ => ?_, fun g => absurd g (by decide)⟩) (fun g => absurd rfl (g j hj))
          exact zs_in (fun g1 g2 => absurd ⟨g1, g2⟩ h) (fun _ => ⟨fun g => absurd rfl g, fun _ => hK m⟩)
    · refine ⟨-1, fun K hK => ?_, fun m K hm hK => ?_⟩
      · unfold fX7_price
        refine zp_note (fun m hn => ?_)
        unfold fX0_changePrice fX0_changePrice_17
        refine ⟨fun g => absurd g (nI_pos (by omega)), fun _ => ⟨fun g => absurd g (nI_ge (b := 5) hw (by decide)), fun _ => ?_⟩⟩
        exact zs_hasDish (fun j hj e => absurd e (hb j hj)) (fun _ => ⟨fun g => absurd rfl g, fun _ => zp_keep (zNo_53 hn) (zNo_Fr hn) hK⟩)
      · show fX8_price 529 (nI w) b c m K
        unfold fX8_price fX8_price_16
        refine zs_in (fun _ _ => ⟨fun g => absurd g (by decide), fun _ => ?_⟩) (fun g => absurd ((zi_rng (n := 5) (by decide)).mpr ⟨w, hw, rfl⟩) g)
        exact zs_isDish (fun j hj e => absurd e (hb j hj)) (fun _ => ⟨fun g => absurd rfl g, fun _ => hK m⟩)
  · refine ⟨-1, fun K hK => ?_, fun m K hm hK => ?_⟩
    · unfold fX7_price
      refine zp_note (fun m hn => ?_)
      unfold fX0_changePrice fX0_changePrice_17
      refine ⟨fun _ => zp_keep (zNo_53 hn) (zNo_Fr hn) hK, fun g1 => ⟨fun _ => zp_keep (zNo_53 hn) (zNo_Fr hn) hK, fun g2 => ?_⟩⟩
      exfalso
      rcases pk_ix a (n := 5) (by omega) with g | g | ⟨k, hk, e⟩
      · exact g1 g
      · exact g2 g
      · exact ha k hk e
    · show fX8_price 529 a b c m K
      unfold fX8_price fX8_price_16
      refine zs_in (fun g1 g2 => ?_) (fun _ => ⟨fun _ => hK m, fun g => absurd rfl g⟩)
      obtain ⟨k, hk, e⟩ := (zi_rng (n := 5) (by decide)).mp ⟨g1, g2⟩
      exact absurd e (ha k hk)
