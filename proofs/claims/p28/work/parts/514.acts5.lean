/-! the end of a day -/
def zms (μ : zMem) : Nat → Nat
  | 0 => 0
  | i + 1 => if ¬ μ (6 + 3 * i) 0 = (-6 : Int32) ∧ μ (5 + 3 * i) 8 = 0 then zms μ i + 1 else zms μ i
theorem zms_le (μ : zMem) (i : Nat) : zms μ i ≤ i := by
  induction i with
  | zero => exact Nat.le_refl _
  | succ i ih =>
    unfold zms
    split <;> omega
theorem zms_cg {m μ : zMem} (h : ∀ a, 5 ≤ a → a < 47 → m a = μ a) : ∀ i, i ≤ 14 → zms m i = zms μ i := by
  intro i
  induction i with
  | zero => exact fun _ => rfl
  | succ i ih =>
    intro hi
    unfold zms
    rw [ih (by omega), h (6 + 3 * i) (by omega) (by omega), h (5 + 3 * i) (by omega) (by omega)]
theorem zms_eq {n P D c ee : Nat} {μ : zMem} (hV : zV n P D c ee μ) : ∀ i, i ≤ P → zms μ i = zaw μ 0 i + zaw μ 1 i + zaw μ 2 i := by
  intro i
  induction i with
  | zero => exact fun _ => rfl
  | succ i ih =>
    intro hi
    have := ih (by omega)
    have hp := (hV.2.2.1 i (by omega)).2.2.2.1 0 (by decide)
    unfold zms zaw
    by_cases h8 : μ (5 + 3 * i) 8 = 0
    · rcases hp with e | ⟨d, hd, e⟩
      · have n0 : ¬ (-6 : Int32) = nI 0 := by decide
        have n1 : ¬ (-6 : Int32) = nI 1 := by decide
        have n2 : ¬ (-6 : Int32) = nI 2 := by decide
        rw [e, if_neg (fun z => z.1 rfl), if_neg (fun z => n0 z.1), if_neg (fun z => n1 z.1), if_neg (fun z => n2 z.1)]
        exact this
      · rw [e]
        rcases (show d = 0 ∨ d = 1 ∨ d = 2 by omega) with rfl | rfl | rfl
        · rw [if_pos ⟨zn_m6 (by decide), h8⟩, if_pos ⟨rfl, h8⟩, if_neg (fun z => absurd z.1 (by decide)), if_neg (fun z => absurd z.1 (by decide))]
          omega
        · rw [if_pos ⟨zn_m6 (by decide), h8⟩, if_neg (fun z => absurd z.1 (by decide)), if_pos ⟨rfl, h8⟩, if_neg (fun z => absurd z.1 (by decide))]
          omega
        · rw [if_pos ⟨zn_m6 (by decide), h8⟩, if_neg (fun z => absurd z.1 (by decide)), if_neg (fun z => absurd z.1 (by decide)), if_pos ⟨rfl, h8⟩]
          omega
    · rw [if_neg (fun z => h8 z.2), if_neg (fun z => h8 z.2), if_neg (fun z => h8 z.2), if_neg (fun z => h8 z.2)]
      exact this
theorem zx_missing {q : Nat} {μ : zMem} {K : Int32 → zMem → Prop} (h0 : ¬ (¬ μ (q + 1) 0 = (-6 : Int32) ∧ μ q 8 = 0) → K 0 μ) (h1 : (¬ μ (q + 1) 0 = (-6 : Int32) ∧ μ q 8 = 0) → K 1 μ) : fX5_isMissing q μ K := by
  unfold fX5_isMissing fX5_isMissing_19 fX5_isMissing_20
  exact zx_hasO (k := 0) (by decide) (fun g => ⟨fun _ => ⟨z_b0, h0 (fun z => z.1 g)⟩, fun z => absurd rfl z⟩) (fun g => ⟨fun z => absurd z (by decide), fun _ => ⟨fun g2 => ⟨z_b0, h0 (fun z => g2 z.2)⟩, fun g2 => ⟨z_b1, h1 ⟨g, g2⟩⟩⟩⟩)
theorem zx_close {n P D c q : Nat} {μ : zMem} {K : Int32 → zMem → Prop} (hT : zT n P D c μ) (hn : n + 1 ≤ 60)
    (hno : c = 0 → ∀ m5 : zMem, zT n P D c m5 → K (-5) m5)
    (h : ∀ (m5 : zMem) (kp : Nat), ¬ c = 0 → zT (n + 1) P (D + 1) 0 m5 → m5 2 1 = nI kp → kp ≤ 20 → (∀ d, d < 3 → m5 (47 + 2 * d) 2 = 0 ∧ ∃ k, k ≤ kp ∧ m5 (47 + 2 * d) 1 = nI k) → K (nI (zms μ P)) m5) : fX7_close q μ K := by
  have hP14 := hT.1.1.1
  unfold fX7_close
  refine zx_note hT.1 hT.2 (fun m2 h2 => ?_)
  have hV2 := zVof hT.1 h2
  have hc1 := hT.1.1.2.2.2.1
  have hDn := hT.1.1.2.1
  have no : c = 0 → fX2_keep 53 (-5) m2 (fun r5 m6 => K r5 m6) :=
    fun g => zx_keep hT.2 (h2 53 (by omega)) (fun m5 h5 hH5 => hno g m5 (zT_no hT h2 h5 hH5))
  unfold fX0_endDay fX0_endDay_17
  rw [hV2.1.2.2.2.2.2.2, hV2.1.2.2.2.2.2.1]
  refine pk_eq c 0 (fun hc => no hc) (fun hc => pk_lt D 9999 (fun _ => ?_) (fun g => absurd g (by omega)))
  obtain ⟨kp, hkp, ekp⟩ := hV2.2.1.2.1
  have L2 : ∀ (k i : Nat) (mA m : zMem), i ≤ 3 → 3 - i < k → (∀ a, a < 5 ∨ 47 ≤ a → mA a = m2 a) → (∀ x, x < P → zPe (n + 1) (mA (5 + 3 * x)) (mA (6 + 3 * x)) (mA (7 + 3 * x))) → (∀ x, x < 14 → mA (5 + 3 * x) 7 = m2 (5 + 3 * x) 7) →
      (∀ a, a ≠ 47 → a ≠ 49 → a ≠ 51 → m a = mA a) → (∀ d, d < i → zDi 0 (m (47 + 2 * d)) (m2 (48 + 2 * d)) ∧ m (47 + 2 * d) 4 = m2 (47 + 2 * d) 4 ∧ m (47 + 2 * d) 2 = 0 ∧ ∃ k, k ≤ kp ∧ m (47 + 2 * d) 1 = nI k) → (∀ d, i ≤ d → d < 3 → m (47 + 2 * d) = m2 (47 + 2 * d)) → fX0_endDay_101 (fun r3 m4 => fX2_keep 53 r3 m4 (fun r5 m6 => K r5 m6)) 1 k (nI (zms μ P)) (nI i) m := by
    intro k
    induction k with
    | zero => intro i mA m g1 g2; omega
    | succ k ih =>
      intro i mA m g1 g2 hA hB hC hD hE hF
      show fX0_endDay_101b (fX0_endDay_101 (fun r3 m4 => fX2_keep 53 r3 m4 (fun r5 m6 => K r5 m6)) 1 k) (fun r3 m4 => fX2_keep 53 r3 m4 (fun r5 m6 => K r5 m6)) 1 (nI (zms μ P)) (nI i) m
      unfold fX0_endDay_101b
      refine pk_le 3 i (fun g x15 e15 m16 e16 m17 e17 => ?_) (fun hi => ⟨vp_in_nI hi (by decide), fun q19 e19 x20 e20 => ?_⟩)
      · have ei : i = 3 := by omega
        subst ei
        have n1 : m 1 = m2 1 := by rw [hD 1 (by decide) (by decide) (by decide), hA 1 (by omega)]
        rw [n1, hV2.1.2.2.2.2.2.1, nI_1] at e15
        have ne : ∀ a, a ≠ 1 → m17 a = m a := fun a ha => by rw [e17, zu_ne ha, e16, zu_ne ha]
        have ne2 : ∀ a, a ≠ 1 → a ≠ 47 → a ≠ 49 → a ≠ 51 → m17 a = mA a := fun a h1 h3 h4 h5 => by rw [ne a h1]; exact hD a h3 h4 h5
        have ed : ∀ d, d < 3 → m17 (47 + 2 * d) = m (47 + 2 * d) := fun d hd => ne _ (by omega)
        have e2 : m17 2 = m2 2 := by rw [ne2 2 (by decide) (by decide) (by decide) (by decide), hA 2 (by omega)]
        refine zx_keep hT.2 (by rw [ne2 53 (by decide) (by decide) (by decide) (by decide), hA 53 (by omega), h2 53 (by omega)]) (fun m5 h5 hH5 => h m5 kp hc ⟨zVof5 ?_ h5, hH5⟩ (by rw [h5 2 (by decide), e2]; exact ekp) hkp (fun d hd => ?_))
        · obtain ⟨⟨a1, a2, a3, a4, a5, a6, a7⟩, b1, a9, a10, a11⟩ := hV2
          refine ⟨⟨a1, by omega, hn, by decide, ?_, ?_, ?_⟩, by rw [e2]; exact b1, fun x hx => ?_, fun d hd => ?_, ?_⟩
          · rw [e17, zu_same, z_upd_ne (by decide), e16, zu_same, z_upd_ne (by decide), n1]
            exact a5
          · rw [e17, zu_same, z_upd_ne (by decide), e16, zu_same, z_upd_same, e15]
          · rw [e17, zu_same, z_upd_same]
            rfl
          · rw [ne2 (5 + 3 * x) (by omega) (by omega) (by omega) (by omega), ne2 (6 + 3 * x) (by omega) (by omega) (by omega) (by omega), ne2 (7 + 3 * x) (by omega) (by omega) (by omega) (by omega)]
            exact hB x hx
          · rw [ed d hd, ne2 (48 + 2 * d) (by omega) (by omega) (by omega) (by omega), hA (48 + 2 * d) (by omega)]
            exact (hE d hd).1
          · rw [show m17 47 4 = m2 47 4 by rw [show m17 47 = m 47 from ed 0 (by decide)]; exact (hE 0 (by decide)).2.1, show m17 49 4 = m2 49 4 by rw [show m17 49 = m 49 from ed 1 (by decide)]; exact (hE 1 (by decide)).2.1, show m17 51 4 = m2 51 4 by rw [show m17 51 = m 51 from ed 2 (by decide)]; exact (hE 2 (by decide)).2.1, ← a11]
            refine zSum_cg (fun x hx => ?_)
            rw [ne2 (5 + 3 * x) (by omega) (by omega) (by omega) (by omega)]
            exact hC x (by omega)
        · rw [h5 _ (by omega), ed d hd]
          exact ⟨(hE d hd).2.2.1, (hE d hd).2.2.2⟩
      · have n2 : m (1 + 1) = m2 2 := by show m 2 = _; rw [hD 2 (by decide) (by decide) (by decide), hA 2 (by omega)]
        rw [n2, ekp] at e20
        rw [e20, zq_d hi e19]
        have ei : m (47 + 2 * i) = m2 (47 + 2 * i) := hF i (Nat.le_refl _) hi
        have hdi := hV2.2.2.2.1 i hi
        rw [← ei] at hdi
        refine zx_clear hdi hkp (fun m3 k1 k2 k3 k4 k5 => ?_)
        intro x23 e23
        rw [e23, nI_1]
        refine ih (i + 1) mA m3 (by omega) (by omega) hA hB hC (fun a h1 h3 h4 => by rw [k1 a (by omega)]; exact hD a h1 h3 h4) (fun d hd => ?_) (fun d hd hd3 => by rw [k1 _ (by omega)]; exact hF d (by omega) hd3)
        by_cases e : d = i
        · subst e
          exact ⟨k2, by rw [k3, ei], k4, k5⟩
        · rw [k1 _ (by omega)]
          exact hE d (by omega)
  have L1 : ∀ (k i : Nat) (m : zMem), i ≤ P → P - i < k → (∀ a, a < 5 ∨ 47 ≤ a → m a = m2 a) → (∀ x, x < i → zPe (n + 1) (m (5 + 3 * x)) (m (6 + 3 * x)) (m (7 + 3 * x))) → (∀ x, x < 14 → m (5 + 3 * x) 7 = m2 (5 + 3 * x) 7) → (∀ x, i ≤ x → x < 14 → m (5 + 3 * x) = m2 (5 + 3 * x) ∧ m (6 + 3 * x) = m2 (6 + 3 * x) ∧ m (7 + 3 * x) = m2 (7 + 3 * x)) → fX0_endDay_24 (fun r3 m4 => fX2_keep 53 r3 m4 (fun r5 m6 => K r5 m6)) 1 k (nI (zms m2 i)) (nI i) m := by
    intro k
    induction k with
    | zero => intro i m g1 g2; omega
    | succ k ih =>
      intro i m g1 g2 hA hC hE hB
      show fX0_endDay_24b (fX0_endDay_24 (fun r3 m4 => fX2_keep 53 r3 m4 (fun r5 m6 => K r5 m6)) 1 k) (fun r3 m4 => fX2_keep 53 r3 m4 (fun r5 m6 => K r5 m6)) 1 (nI (zms m2 i)) (nI i) m
      unfold fX0_endDay_24b
      rw [hA 1 (by omega), hV2.1.2.2.2.2.1]
      refine pk_le P i (fun g => ?_) (fun hi => ?_)
      · have ei : i = P := by omega
        subst ei
        rw [zms_cg (m := m2) (μ := μ) (fun a g3 g4 => h2 a (by omega)) i hP14]
        exact L2 zFU 0 m m (by omega) (by unfold zFU; omega) hA hC hE (fun _ _ _ _ => rfl) (fun d hd => by omega) (fun d _ hd => hA _ (by omega))
      · have hi14 : i < 14 := by omega
        obtain ⟨b5, b6, b7⟩ := hB i (Nat.le_refl _) hi14
        obtain ⟨⟨v, hv, ev⟩, ⟨s, t, cc, c1, c2, c3, c4, c5, c6⟩, c7, c8, c9⟩ := hV2.2.2.1 i hi
        have go : ∀ (m3 : zMem) (t0 s' t' : Nat), t0 = zms m2 (i + 1) → (∀ a, a ≠ 5 + 3 * i → m3 a = m a) → (∀ x, x ≠ 3 → x ≠ 6 → m3 (5 + 3 * i) x = m (5 + 3 * i) x) → m3 (5 + 3 * i) 3 = nI s' → m3 (5 + 3 * i) 6 = nI t' → s' ≤ t' → t' ≤ n + 1 → fX0_endDay_56 (fX0_endDay_24 (fun r3 m4 => fX2_keep 53 r3 m4 (fun r5 m6 => K r5 m6)) 1 k) (fun r3 m4 => fX2_keep 53 r3 m4 (fun r5 m6 => K r5 m6)) 1 (nI t0) (nI i) m3 := by
          intro m3 t0 s' t' ht0 f1 f2 f3 f4 f5 f6
          unfold fX0_endDay_56
          refine ⟨vp_in_nI hi14 (by decide), fun q2 e2 x3 _ x4 _ x5 _ x6 _ => ?_⟩
          rw [zq_p hi14 e2]
          refine zx_judge (fun m8 k1 k2 k3 => ⟨vp_in_nI hi14 (by decide), fun q10 e10 => ?_⟩)
          rw [zq_p hi14 e10]
          refine zx_startDay (fun m12 j1 j2 j3 j4 j5 => ?_)
          intro x13 e13
          rw [e13, nI_1, ht0]
          have fr : ∀ a, a ≠ 5 + 3 * i → a ≠ 6 + 3 * i → a ≠ 7 + 3 * i → m12 a = m a := fun a h5 h6 h7 => by rw [j1 a h5 (by omega) (by omega), k1 a h5, f1 a h5]
          have v7 : m12 (5 + 3 * i) 7 = m2 (5 + 3 * i) 7 := by rw [j2 7 (by decide), k2 7 (by decide) (by decide), f2 7 (by decide) (by decide), b5]
          refine ih (i + 1) m12 (by omega) (by omega) (fun a ha => by rw [fr a (by omega) (by omega) (by omega)]; exact hA a ha) (fun x hx => ?_) (fun x hx => ?_) (fun x hx hx14 => ?_)
          · by_cases e : x = i
            · subst e
              refine ⟨⟨v, hv, by rw [j2 2 (by decide), k2 2 (by decide) (by decide), f2 2 (by decide) (by decide), b5]; exact ev⟩, ?_, by rw [j3]; exact Or.inl rfl, fun a ha => ?_, fun a ha => ?_⟩
              · have w6 : m12 (5 + 3 * x) 6 = nI t' := by rw [j2 6 (by decide), k2 6 (by decide) (by decide)]; exact f4
                have w5 : m12 (5 + 3 * x) 5 = nI cc := by rw [j2 5 (by decide), k2 5 (by decide) (by decide), f2 5 (by decide) (by decide), b5]; exact c6
                have w3 : m12 (5 + 3 * x) 3 = m8 (5 + 3 * x) 3 := j2 3 (by decide)
                rcases k3 with e3 | e3
                · exact ⟨s', t', cc, f5, f6, by omega, by rw [w3, e3]; exact f3, w6, w5⟩
                · exact ⟨0, t', cc, by omega, f6, by omega, by rw [w3, e3]; rfl, w6, w5⟩
              · have j4' := j4 a ha
                rw [show 5 + 3 * x + 1 = 6 + 3 * x by omega] at j4'
                rcases j4' with e | ⟨y, hy, e⟩
                · exact Or.inl e
                · rw [e, k1 _ (by omega), f1 _ (by omega), b6]
                  exact c8 y hy
              · obtain ⟨y, hy, e⟩ := j5 a ha
                rw [show 5 + 3 * x + 2 = 7 + 3 * x by omega] at e
                rw [e, k1 _ (by omega), f1 _ (by omega), b7]
                exact c9 y hy
            · rw [fr _ (by omega) (by omega) (by omega), fr (6 + 3 * x) (by omega) (by omega) (by omega), fr (7 + 3 * x) (by omega) (by omega) (by omega)]
              exact hC x (by omega)
          · by_cases e : x = i
            · subst e
              exact v7
            · rw [fr _ (by omega) (by omega) (by omega)]
              exact hE x hx
          · rw [fr _ (by omega) (by omega) (by omega), fr (6 + 3 * x) (by omega) (by omega) (by omega), fr (7 + 3 * x) (by omega) (by omega) (by omega)]
            exact hB x (by omega) hx14
        refine ⟨vp_in_nI hi14 (by decide), fun q26 e26 => ?_⟩
        rw [zq_p hi14 e26]
        refine zx_missing (fun g => ⟨fun _ => ?_, fun z => absurd rfl z⟩) (fun g => ⟨fun z => absurd z (by decide), fun _ => ⟨vp_in_nI hi14 (by decide), fun q31 e31 => ?_⟩⟩)
        · rw [show 5 + 3 * i + 1 = 6 + 3 * i by omega, b5, b6] at g
          refine go m (zms m2 i) s t ?_ (fun _ _ => rfl) (fun _ _ _ => rfl) (by rw [b5]; exact c4) (by rw [b5]; exact c5) c1 (by omega)
          show zms m2 i = if _ then _ else _
          rw [if_neg g]
        · rw [show 5 + 3 * i + 1 = 6 + 3 * i by omega, b5, b6] at g
          rw [zq_p hi14 e31]
          refine zx_stay (fun m33 k1 k2 k3 k4 => ?_)
          intro x34 e34
          rw [e34, nI_1]
          refine go m33 (zms m2 i + 1) (s + 1) (t + 1) ?_ k1 k2 (by rw [k4, b5, c4, nI_1]) (by rw [k3, b5, c5, nI_1]) (by omega) (by omega)
          show zms m2 i + 1 = if _ then _ else _
          rw [if_pos g]
  exact L1 zFU 0 m2 (by omega) (by unfold zFU; omega) (fun _ _ => rfl) (fun x hx => by omega) (fun _ _ => rfl) (fun _ _ _ => ⟨rfl, rfl, rfl⟩)
