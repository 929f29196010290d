/-! the reference: buying, the end of a day -/
theorem zr_buys {a b : Int32} {m : zMem} (hI : zRI (m 530)) : zAct (fX8_buys 529 a b m) m := by
  intro K h
  have hI' := hI
  obtain ⟨P, D, dn, sp, kp, hb, hJ⟩ := hI
  have hm : ∀ r, K r m := fun r => h r m (zF0 m) hI'
  have hb2 := hb.2.1
  have hb1 := hb.1
  unfold fX8_buys fX8_buys_15
  refine zs_isPerson hJ.2.2.2.1 hb.1 (fun j hj e => ⟨fun g => absurd g (by decide), fun _ => ?_⟩) (fun _ => ⟨fun _ => hm _, fun g => absurd rfl g⟩)
  refine zs_isDish (fun d hd e2 => ⟨fun _ => ?_, fun g => absurd g (by decide)⟩) (fun _ => ⟨fun g => absurd rfl g, fun _ => hm _⟩)
  subst e
  subst e2
  have hj14 : j < 14 := by omega
  obtain ⟨o, c, w, t, o1, o2, o3, o4, o5, o6⟩ := hJ.2.2.2.2.2.2 j hj14
  obtain ⟨o0, ho, eo⟩ := o 0 (by decide)
  have eo : m 530 (39 + 17 * j) = nI o0 := eo
  rw [zr_p]
  intro x29 e29
  rw [e29, hJ.2.2.1]
  refine zr_priceOn (by omega) hd (fun y => ?_)
  have i1 : nI (38 + 17 * j) + (1 : Int32) = nI (39 + 17 * j) := by rw [zq1, nI_add]; congr 1; omega
  have i15 : nI (38 + 17 * j) + (15 : Int32) = nI (53 + 17 * j) := by rw [zq15, nI_add]; congr 1; omega
  have i0 : nI (38 + 17 * j) + (0 : Int32) = nI (38 + 17 * j) := by rw [zq0, nI_add, Nat.add_zero]
  have no : ∀ x : Int32, fX8_buys_88 K 529 (nI j) (nI d) (nI (38 + 17 * j)) x m := by
    intro x
    unfold fX8_buys_88 fX8_buys_89 fX8_buys_109
    exact ⟨fun _ => hm _, fun g => absurd rfl g⟩
  simp (disch := omega) only [forall_eq, i1, i15, i0, zvpT, nI_clamp, true_and, eo, o3]
  refine ⟨fun _ => no _, fun c1 => ⟨fun _ => no _, fun c2 => ⟨fun _ => no _, fun c3 => ⟨fun _ => no _, fun _ => ?_⟩⟩⟩⟩
  have hdn : dn = 1 := by
    rw [hJ.2.2.2.2.1] at c1
    exact (nI_eq (by omega) (by decide)).mp c1
  subst hdn
  have ht : t = 0 := (nI_eq (b := 0) (by omega) (by decide)).mp c3
  subst ht
  unfold fX8_buys_89 fX8_buys_109
  refine ⟨fun _ => hm _, fun _ => ?_⟩
  obtain ⟨a0, b0, c0, e0, t0, q0, q1, q2, q3, q4, q5, q6, q7⟩ := hJ.2.2.2.2.2.1 d hd
  refine zr_left hd q0 q1 (zr_awaited hJ.2.2.2.1 hb1 (fun n hn => ⟨fun g => ?_, fun _ => hm _⟩))
  have hab : 0 < a0 + b0 := by
    have := (nI_ltI (by omega) (by omega)).mp g
    omega
  simp (disch := omega) only [forall_eq, i0, i15, zvpT, nI_clamp, true_and]
  have J1 : ∀ v : Int32, zRJ P D 1 sp kp (upd (upd (m 530) (38 + 17 * j) v) (53 + 17 * j) 1) := by
    intro v
    obtain ⟨h0, h1, h2, h3, h4, h5, h6⟩ := hJ
    refine ⟨?_, ?_, ?_, ?_, ?_, fun d hd => zRD_c (h5 d hd) (fun k hk => by rw [z_upd_ne (by omega), z_upd_ne (by omega)]), fun i hi => ?_⟩
    · rw [z_upd_ne (by omega), z_upd_ne (by omega)]; exact h0
    · rw [z_upd_ne (by omega), z_upd_ne (by omega)]; exact h1
    · rw [z_upd_ne (by omega), z_upd_ne (by omega)]; exact h2
    · rw [z_upd_ne (by omega), z_upd_ne (by omega)]; exact h3
    · rw [z_upd_ne (by omega), z_upd_ne (by omega)]; exact h4
    · by_cases e : i = j
      · subst e
        refine ⟨fun k hk => ?_, c, w, 1, ?_, ?_, ?_, by decide, by omega, o6⟩
        · obtain ⟨o', ho', eo'⟩ := o k hk
          exact ⟨o', ho', by rw [z_upd_ne (by omega), z_upd_ne (by omega)]; exact eo'⟩
        · rw [z_upd_ne (by omega), z_upd_ne (by omega)]; exact o1
        · rw [z_upd_ne (by omega), z_upd_ne (by omega)]; exact o2
        · rw [z_upd_same]; rfl
      · exact zRP_c (h6 i hi) (fun k hk => by rw [z_upd_ne (by omega), z_upd_ne (by omega)])
  refine zr_eatsI (P := P) (D := D) (sp := sp) (kp := kp) (a := a0) (b := b0) hj14 hd hb2 (by rw [zu_same, zu_same]; exact J1 _) ?_ ?_ (by omega) hab (fun m2 f2 j2 => h _ _ (fun r hr => by rw [f2 r hr]; exact zF_up (zF_up (zF0 m)) r hr) ⟨P, D, 1, sp, kp, hb, j2⟩)
  · rw [zu_same, zu_same, z_upd_ne (by omega), z_upd_ne (by omega)]; exact q0
  · rw [zu_same, zu_same, z_upd_ne (by omega), z_upd_ne (by omega)]; exact q1
/-- a person's end of a day -/
theorem zr_endsFor {D i : Nat} {m : zMem} {K : Int32 → zMem → Prop} (hi : i < 14) (hD : D ≤ 9999) (hr : zRP D (m 530) i) (h : ∀ r m2, zF530 m2 m → (∀ j, ¬ (38 + 17 * i ≤ j ∧ j < 55 + 17 * i) → m2 530 j = m 530 j) → zRP (D + 1) (m2 530) i → K r m2) : fX8_endsFor 529 (nI i) m K := by
  obtain ⟨o, c, w, t, o1, o2, o3, o4, o5, o6⟩ := hr
  obtain ⟨o0, ho, eo⟩ := o 0 (by decide)
  have eo : m 530 (39 + 17 * i) = nI o0 := eo
  -- the shift
  have L : ∀ (v : Int32) (n k : Nat) (μ : zMem), k ≤ 4 → 4 - k < n → zF530 μ m → (∀ j, ¬ (38 + 17 * i ≤ j ∧ j < 55 + 17 * i) → μ 530 j = m 530 j) → (∀ k, k < 5 → ∃ o : Nat, o ≤ 3 ∧ μ 530 (39 + 17 * i + k) = nI o) → (∃ w2 : Nat, w2 ≤ D + 1 ∧ μ 530 (52 + 17 * i) = nI w2) → μ 530 (51 + 17 * i) = nI c → fX8_endsFor_115 K 529 n (nI (38 + 17 * i)) v (nI k) μ := by
    intro v n
    induction n with
    | zero => intro k μ g1 g2; omega
    | succ n ih =>
      intro k μ g1 g2 g3 g4 g5 g6 g7
      show fX8_endsFor_115b (fX8_endsFor_115 K 529 n) K 529 (nI (38 + 17 * i)) v (nI k) μ
      unfold fX8_endsFor_115b
      have e1 : 38 + 17 * i + 1 + 4 = 43 + 17 * i := by omega
      have e2 : 38 + 17 * i + 6 + 4 = 48 + 17 * i := by omega
      have e3 : 38 + 17 * i + 15 = 53 + 17 * i := by omega
      have e4 : 38 + 17 * i + 1 + k = 39 + 17 * i + k := by omega
      have e5 : 39 + 17 * i + k + 1 = 39 + 17 * i + (k + 1) := by omega
      have e6 : 38 + 17 * i + 6 + k = 44 + 17 * i + k := by omega
      refine ⟨fun cc => ?_, fun cc => ?_⟩
      · simp (disch := omega) only [forall_eq, zq0, zq1, zq4, zq6, zq15, nI_add, zvpT, nI_clamp, true_and, e1, e2, e3]
        refine h _ _ (zF_up (zF_up (zF_up g3))) (fun j hj => ?_) ?_
        · simp only [zu_same]
          rw [z_upd_ne (by omega), z_upd_ne (by omega), z_upd_ne (by omega)]
          exact g4 j hj
        · simp only [zu_same]
          obtain ⟨w2, hw2, ew2⟩ := g6
          refine ⟨fun k2 hk2 => ?_, c, w2, 0, ?_, ?_, ?_, by decide, by omega, by omega⟩
          · by_cases e : k2 = 4
            · subst e
              exact ⟨0, by decide, by rw [z_upd_ne (by omega), z_upd_ne (by omega), show 39 + 17 * i + 4 = 43 + 17 * i by omega, z_upd_same]⟩
            · obtain ⟨o', ho', eo'⟩ := g5 k2 hk2
              exact ⟨o', ho', by rw [z_upd_ne (by omega), z_upd_ne (by omega), z_upd_ne (by omega)]; exact eo'⟩
          · rw [z_upd_ne (by omega), z_upd_ne (by omega), z_upd_ne (by omega)]; exact g7
          · rw [z_upd_ne (by omega), z_upd_ne (by omega), z_upd_ne (by omega)]; exact ew2
          · rw [z_upd_same]
      · have hk : k < 4 := Nat.lt_of_not_le (fun g => cc ((nI_leI (a := 4) (b := k) (by decide) (by omega)).mpr g))
        simp (disch := omega) only [forall_eq, zq1, zq6, nI_add, zvpT, nI_clamp, true_and, e4, e5, e6]
        refine ih (k + 1) _ (by omega) (by omega) (zF_up (zF_up g3)) (fun j hj => ?_) (fun k2 hk2 => ?_) ?_ ?_
        · simp only [zu_same]
          rw [z_upd_ne (by omega), z_upd_ne (by omega)]
          exact g4 j hj
        · simp only [zu_same]
          by_cases e : k2 = k
          · subst e
            obtain ⟨o', ho', eo'⟩ := g5 (k2 + 1) (by omega)
            exact ⟨o', ho', by rw [z_upd_ne (by omega), z_upd_same]; exact eo'⟩
          · obtain ⟨o', ho', eo'⟩ := g5 k2 hk2
            exact ⟨o', ho', by rw [z_upd_ne (by omega), z_upd_ne (by omega)]; exact eo'⟩
        · simp only [zu_same]
          obtain ⟨w2, hw2, ew2⟩ := g6
          exact ⟨w2, hw2, by rw [z_upd_ne (by omega), z_upd_ne (by omega)]; exact ew2⟩
        · simp only [zu_same]
          rw [z_upd_ne (by omega), z_upd_ne (by omega)]
          exact g7
  have go : ∀ a : Nat, a ≤ 1 → fX8_endsFor_33 K 529 (nI (38 + 17 * i)) (nI a) m := by
    intro a ha
    unfold fX8_endsFor_33 fX8_endsFor_112
    have e1 : 38 + 17 * i + 14 = 52 + 17 * i := by omega
    have e2 : 38 + 17 * i + 11 = 49 + 17 * i := by omega
    have e3 : 38 + 17 * i + 12 = 50 + 17 * i := by omega
    simp (disch := omega) only [forall_eq, zq11, zq12, zq14, nI_add, zvpT, nI_clamp, true_and, e1, e2, e3]
    refine ⟨fun _ => ?_, fun _ => ?_⟩
    · refine L _ zFU 0 _ (by omega) (by unfold zFU; omega) (zF_up (zF_up (zF0 m))) (fun j hj => ?_) (fun k hk => ?_) ⟨w + a, by omega, ?_⟩ ?_
      · simp only [zu_same]
        rw [z_upd_ne (by omega), z_upd_ne (by omega)]
      · obtain ⟨o', ho', eo'⟩ := o k hk
        exact ⟨o', ho', by simp only [zu_same]; rw [z_upd_ne (by omega), z_upd_ne (by omega)]; exact eo'⟩
      · simp only [zu_same]
        rw [z_upd_ne (by omega), z_upd_same, o2, nI_add]
      · simp only [zu_same]
        rw [z_upd_ne (by omega), z_upd_ne (by omega)]
        exact o1
    · refine L _ zFU 0 _ (by omega) (by unfold zFU; omega) (zF_up (zF_up (zF_up (zF_up (zF0 m))))) (fun j hj => ?_) (fun k hk => ?_) ⟨w + a, by omega, ?_⟩ ?_
      · simp only [zu_same]
        rw [z_upd_ne (by omega), z_upd_ne (by omega), z_upd_ne (by omega), z_upd_ne (by omega)]
      · obtain ⟨o', ho', eo'⟩ := o k hk
        exact ⟨o', ho', by simp only [zu_same]; rw [z_upd_ne (by omega), z_upd_ne (by omega), z_upd_ne (by omega), z_upd_ne (by omega)]; exact eo'⟩
      · simp only [zu_same]
        rw [z_upd_ne (by omega), z_upd_ne (by omega), z_upd_ne (by omega), z_upd_same, o2, nI_add]
      · simp only [zu_same]
        rw [z_upd_ne (by omega), z_upd_ne (by omega), z_upd_ne (by omega), z_upd_ne (by omega)]
        exact o1
  unfold fX8_endsFor fX8_endsFor_32
  have i1 : nI (38 + 17 * i) + (1 : Int32) = nI (39 + 17 * i) := by rw [zq1, nI_add]; congr 1; omega
  have i15 : nI (38 + 17 * i) + (15 : Int32) = nI (53 + 17 * i) := by rw [zq15, nI_add]; congr 1; omega
  simp (disch := omega) only [forall_eq, zr_p, i1, i15, zvpT, nI_clamp, true_and, eo, o3]
  exact ⟨fun _ => go 0 (by decide), fun _ => ⟨fun _ => go 0 (by decide), fun _ => go 1 (by decide)⟩⟩
theorem zr_closes {m : zMem} (hI : zRI (m 530)) : zAct (fX8_closes 529 m) m := by
  intro K h
  have hI' := hI
  obtain ⟨P, D, dn, sp, kp, ⟨b1, b2, b3, b4, b5⟩, h0, h1, h2, h3, h4, h5, h6⟩ := hI
  unfold fX8_closes fX8_closes_22
  intro x47 e47
  refine ⟨fun _ => h _ m (zF0 m) hI', fun c1 x49 e49 => ⟨fun c2 => ?_, fun _ => h _ m (zF0 m) hI'⟩⟩
  have hdn : dn = 1 := by
    refine Nat.le_antisymm b3 (Nat.pos_of_ne_zero (fun g => c1 ?_))
    rw [e47, h4, g]
    rfl
  subst hdn
  have hD : D < 9999 := by
    refine Nat.lt_of_le_of_ne b2 (fun g => c2 ?_)
    rw [e49, h2, g]
    rfl
  -- the dishes
  have L2 : ∀ (v : Int32) (n d : Nat) (μ : zMem), d ≤ 3 → 3 - d < n → zF530 μ m → μ 530 0 = nI sp → μ 530 1 = nI kp → μ 530 4 = nI D → μ 530 5 = nI P → (∀ i, i < 14 → zRP (D + 1) (μ 530) i) → (∀ d2, d2 < d → zRD (D + 1) 0 (μ 530) d2) → (∀ d2, d ≤ d2 → d2 < 3 → zRD D 1 (μ 530) d2) → fX8_closes_55 K 529 n v (nI d) μ := by
    intro v n
    induction n with
    | zero => intro d μ g1 g2; omega
    | succ n ih =>
      intro d μ g1 g2 g3 k0 k1 k4 k5 g4 g5 g6
      show fX8_closes_55b (fX8_closes_55 K 529 n) K 529 v (nI d) μ
      unfold fX8_closes_55b
      refine ⟨fun cc => ?_, fun cc => ?_⟩
      · have hd : d = 3 := by
          have := (nI_leI (a := 3) (b := d) (by decide) (by omega)).mp cc
          omega
        subst hd
        simp only [forall_eq]
        refine h _ _ (zF_up (zF_up (zF_up g3))) ?_
        simp only [zu_same]
        refine ⟨P, D + 1, 0, sp, kp, ⟨b1, by omega, by decide, b4, b5⟩, ?_, ?_, ?_, ?_, z_upd_same, fun d hd => zRD_c (g5 d hd) (fun k hk => ?_), fun i hi => zRP_c (g4 i hi) (fun k hk => ?_)⟩
        · rw [z_upd_ne (by decide), z_upd_ne (by decide), z_upd_ne (by decide)]; exact k0
        · rw [z_upd_ne (by decide), z_upd_ne (by decide), z_upd_ne (by decide)]; exact k1
        · rw [z_upd_ne (by decide), z_upd_same, z_upd_ne (by decide), k4, zq1, nI_add]
        · rw [z_upd_ne (by decide), z_upd_ne (by decide), z_upd_ne (by decide)]; exact k5
        · rw [z_upd_ne (by omega), z_upd_ne (by omega), z_upd_ne (by omega)]
        · rw [z_upd_ne (by omega), z_upd_ne (by omega), z_upd_ne (by omega)]
      · have hd : d < 3 := Nat.lt_of_not_le (fun g => cc ((nI_leI (a := 3) (b := d) (by decide) (by omega)).mpr g))
        obtain ⟨a, b, c, e, t, q0, q1, q2, q3, q4, q5, q6, q7⟩ := g6 d (Nat.le_refl _) hd
        have e1 : 23 + 5 * d + 1 = 24 + 5 * d := by omega
        have e4 : 23 + 5 * d + 4 = 27 + 5 * d := by omega
        have go : ∀ x : Nat, x ≤ b → fX8_closes_99 (fX8_closes_55 K 529 n) K 529 v (nI d) (nI (23 + 5 * d)) (nI x) μ := by
          intro x hx
          unfold fX8_closes_99
          simp (disch := omega) only [forall_eq, zq0, zq1, zq4, nI_add, zvpT, nI_clamp, true_and, e1, e4, Nat.add_zero, q0, q1, q4, pk_sub]
          refine ih (d + 1) _ (by omega) (by omega) (zF_up (zF_up (zF_up g3))) ?_ ?_ ?_ ?_ (fun i hi => zRP_c (g4 i hi) (fun k hk => ?_)) (fun d2 hd2 => ?_) (fun d2 hd2 hd3 => ?_) <;> simp only [zu_same]
          · rw [z_upd_ne (by omega), z_upd_ne (by omega), z_upd_ne (by omega)]; exact k0
          · rw [z_upd_ne (by omega), z_upd_ne (by omega), z_upd_ne (by omega)]; exact k1
          · rw [z_upd_ne (by omega), z_upd_ne (by omega), z_upd_ne (by omega)]; exact k4
          · rw [z_upd_ne (by omega), z_upd_ne (by omega), z_upd_ne (by omega)]; exact k5
          · rw [z_upd_ne (by omega), z_upd_ne (by omega), z_upd_ne (by omega)]
          · by_cases e' : d2 = d
            · subst e'
              refine ⟨x, 0, c, e, t + (a + b - x), ?_, ?_, ?_, ?_, ?_, by omega, by omega, fun _ => rfl⟩
              · rw [z_upd_ne (by omega), z_upd_same]
              · rw [z_upd_same]
              · rw [z_upd_ne (by omega), z_upd_ne (by omega), z_upd_ne (by omega)]; exact q2
              · rw [z_upd_ne (by omega), z_upd_ne (by omega), z_upd_ne (by omega)]; exact q3
              · rw [z_upd_ne (by omega), z_upd_ne (by omega), z_upd_same]
            · exact zRD_c (g5 d2 (by omega)) (fun k hk => by rw [z_upd_ne (by omega), z_upd_ne (by omega), z_upd_ne (by omega)])
          · exact zRD_c (g6 d2 (by omega) hd3) (fun k hk => by rw [z_upd_ne (by omega), z_upd_ne (by omega), z_upd_ne (by omega)])
        have i1 : nI (23 + 5 * d) + (1 : Int32) = nI (24 + 5 * d) := by rw [zq1, nI_add, e1]
        simp (disch := omega) only [forall_eq, zr_d, i1, zvpT, nI_clamp, true_and, q1, k1]
        exact ⟨fun g => go kp ((nI_leI (by omega) (by omega)).mp g), fun _ => go b (Nat.le_refl _)⟩
  have L1 : ∀ (n i : Nat) (v : Int32) (μ : zMem), i ≤ P → P - i < n → zF530 μ m → (∀ j, j < 38 → μ 530 j = m 530 j) → (∀ i2, i2 < i → zRP (D + 1) (μ 530) i2) → (∀ i2, i ≤ i2 → i2 < 14 → zRP D (μ 530) i2) → fX8_closes_29 K 529 n v (nI i) μ := by
    intro n
    induction n with
    | zero => intro i v μ g1 g2; omega
    | succ n ih =>
      intro i v μ g1 g2 g3 g4 g5 g6
      show fX8_closes_29b (fX8_closes_29 K 529 n) K 529 v (nI i) μ
      unfold fX8_closes_29b
      intro x41 e41
      rw [g4 5 (by decide), h3] at e41
      subst e41
      refine ⟨fun cc => ?_, fun cc => ?_⟩
      · refine L2 v zFU 0 μ (by omega) (by unfold zFU; omega) g3 (by rw [g4 0 (by decide)]; exact h0) (by rw [g4 1 (by decide)]; exact h1) (by rw [g4 4 (by decide)]; exact h2) (by rw [g4 5 (by decide)]; exact h3) (fun i2 hi2 => ?_) (fun d2 hd2 => by omega) (fun d2 _ hd2 => zRD_c (h5 d2 hd2) (fun k hk => g4 _ (by omega)))
        by_cases e : i2 < i
        · exact g5 i2 e
        · exact zRP_mono (g6 i2 (by omega) hi2)
      · have hi : i < P := Nat.lt_of_not_le (fun g => cc ((nI_leI (by omega) (by omega)).mpr g))
        refine zr_endsFor (by omega) b2 (g6 i (Nat.le_refl _) (by omega)) (fun r m2 f2 k2 j2 => ?_)
        intro x45 e45 x46 e46
        rw [e46, show nI i + (1 : Int32) = nI (i + 1) from nI_1 i]
        refine ih (i + 1) _ m2 (by omega) (by omega) (fun r hr => by rw [f2 r hr]; exact g3 r hr) (fun j hj => by rw [k2 j (by omega)]; exact g4 j hj) (fun i2 hi2 => ?_) (fun i2 hi2 hi3 => zRP_c (g6 i2 (by omega) hi3) (fun k hk => k2 _ (by omega)))
        by_cases e : i2 = i
        · subst e
          exact j2
        · exact zRP_c (g5 i2 (by omega)) (fun k hk => k2 _ (by omega))
  exact L1 zFU 0 0 m (by omega) (by unfold zFU; omega) (zF0 m) (fun _ _ => rfl) (fun i2 hi2 => by omega) (fun i2 _ hi2 => h6 i2 hi2)
