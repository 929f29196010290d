/-! a new person, orders -/
theorem zx_start {q : Nat} {μ : zMem} {K : zMem → Prop} (h : ∀ m, (∀ a, a ≠ q → a ≠ q + 1 → a ≠ q + 2 → m a = μ a) → m q 2 = 5 → (∀ k, 3 ≤ k → k ≤ 8 → m q k = 0) → (∀ a, a < 5 → m (q + 1) a = (-6 : Int32)) → (∀ a, a < 5 → m (q + 2) a = 0) → K m) : fX5_start q μ K := by
  unfold fX5_start
  have L : ∀ (n i : Nat) (m : zMem), i ≤ 5 → 5 - i < n → (∀ a, a ≠ q + 1 → a ≠ q + 2 → m a = μ a) → (∀ a, a < i → m (q + 1) a = (-6 : Int32)) → (∀ a, a < i → m (q + 2) a = 0) → fX5_start_2 K q n (nI i) m := by
    intro n
    induction n with
    | zero => intro i m g1 g2; omega
    | succ n ih =>
      intro i m g1 g2 hf hg hh
      show fX5_start_2b (fX5_start_2 K q n) K q (nI i) m
      unfold fX5_start_2b
      refine pk_le 5 i (fun c m2 e2 m3 e3 m4 e4 m5 e5 m6 e6 m7 e7 m8 e8 => ?_) (fun hi => ?_)
      · have e : i = 5 := by omega
        subst e
        have ne : ∀ a, a ≠ q → m8 a = m a := fun a ha => by rw [e8, zu_ne ha, e7, zu_ne ha, e6, zu_ne ha, e5, zu_ne ha, e4, zu_ne ha, e3, zu_ne ha, e2, zu_ne ha]
        refine h m8 (fun a h1 h2 h3 => by rw [ne a h1]; exact hf a h2 h3) ?_ (fun k k1 k2 => ?_) (fun a ha => by rw [ne _ (by omega)]; exact hg a ha) (fun a ha => by rw [ne _ (by omega)]; exact hh a ha)
        · rw [e8, zu_same, z_upd_ne (by decide), e7, zu_same, z_upd_ne (by decide), e6, zu_same, z_upd_ne (by decide), e5, zu_same, z_upd_ne (by decide), e4, zu_same, z_upd_ne (by decide), e3, zu_same, z_upd_ne (by decide), e2, zu_same, z_upd_same]
        · subst e2 e3 e4 e5 e6 e7 e8
          rcases (show k = 3 ∨ k = 4 ∨ k = 5 ∨ k = 6 ∨ k = 7 ∨ k = 8 by omega) with rfl | rfl | rfl | rfl | rfl | rfl <;> simp [zu_same, upd]
      · have ci : (nI i).toNatClampNeg = i := nI_clamp (by omega)
        refine ⟨vp_in_nI hi (by decide), fun m10 e10 => ⟨vp_in_nI hi (by decide), fun m12 e12 x13 e13 => ?_⟩⟩
        rw [ci] at e10 e12
        rw [e13, nI_1]
        refine ih (i + 1) m12 (by omega) (by omega) (fun a h1 h2 => by rw [e12, zu_ne h2, e10, zu_ne h1]; exact hf a h1 h2) (fun a ha => ?_) (fun a ha => ?_)
        · rw [e12, zu_ne (by omega), e10, zu_same]
          by_cases e : a = i
          · subst e
            exact z_upd_same
          · rw [z_upd_ne e]
            exact hg a (by omega)
        · rw [e12, zu_same]
          by_cases e : a = i
          · subst e
            exact z_upd_same
          · rw [z_upd_ne e, e10, zu_ne (by omega)]
            exact hh a (by omega)
  exact L zFU 0 μ (by omega) (by unfold zFU; omega) (fun _ _ _ => rfl) (fun a ha => by omega) (fun a ha => by omega)
theorem zx_person {n P D c q : Nat} {μ : zMem} {K : Int32 → zMem → Prop} (hT : zT n P D c μ)
    (h : ∀ m5 : zMem, P < 14 → zT n (P + 1) D c m5 → m5 (5 + 3 * P) 2 = nI 5 → m5 (5 + 3 * P) 4 = 0 → (∀ a, a < 5 → m5 (6 + 3 * P) a = (-6 : Int32)) → (∀ a, a ≠ 1 → a < 5 + 3 * P ∨ (8 + 3 * P ≤ a ∧ a < 53) ∨ 419 ≤ a → m5 a = μ a) → m5 1 5 = μ 1 5 → K (nI P) m5)
    (h14 : ∀ m5 : zMem, P = 14 → zT n P D c m5 → K (-4) m5) : fX7_person q μ K := by
  unfold fX7_person
  refine zx_note hT.1 hT.2 (fun m2 h2 => ?_)
  have hV2 := zVof hT.1 h2
  have hP14 := hT.1.1.1
  unfold fX0_addPerson
  rw [hV2.1.2.2.2.2.1]
  refine pk_lt P 14 (fun hP => ⟨vp_in_nI hP (by decide), fun q3 e3 => ?_⟩) (fun hP => ?_)
  · rw [zq_p hP e3]
    refine zx_start (fun m hf f2 f3 fg fh => ?_)
    intro x6 e6 m7 e7 x8 e8
    rw [hf 1 (by omega) (by omega) (by omega), hV2.1.2.2.2.2.1, nI_1] at e6
    have e8' : x8 = nI P := by rw [e8, e7, zu_same, z_upd_same, e6, show (1 : Int32) = nI 1 from rfl, pk_sub (by omega)]; congr 1
    rw [e8']
    have ne : ∀ a, a ≠ 1 → m7 a = m a := fun a ha => by rw [e7, zu_ne ha]
    have fo : ∀ a, a ≠ 1 → a ≠ 5 + 3 * P → a ≠ 6 + 3 * P → a ≠ 7 + 3 * P → m7 a = m2 a := fun a h1 h5 h6 h7 => by rw [ne a h1]; exact hf a h5 (by omega) (by omega)
    refine zx_keep hT.2 (by rw [fo 53 (by omega) (by omega) (by omega) (by omega), h2 53 (by omega)]) (fun m5 h5 hH5 => h m5 hP ⟨?_, hH5⟩ ?_ ?_ (fun a ha => ?_) (fun a h1 ha => ?_) ?_)
    · refine zVof5 ?_ h5
      obtain ⟨⟨a1, a2, a3, a4, a5, a6, a7⟩, b1, a9, a10, a11⟩ := hV2
      refine ⟨⟨by omega, a2, a3, a4, by rw [e7, zu_same, z_upd_same, e6], by rw [e7, zu_same, z_upd_ne (by decide), hf 1 (by omega) (by omega) (by omega)]; exact a6, by rw [e7, zu_same, z_upd_ne (by decide), hf 1 (by omega) (by omega) (by omega)]; exact a7⟩, by rw [fo 2 (by omega) (by omega) (by omega) (by omega)]; exact b1, fun i hi => ?_, fun d hd => ?_, ?_⟩
      · by_cases e : i = P
        · subst e
          rw [ne _ (by omega), ne (6 + 3 * i) (by omega), ne (7 + 3 * i) (by omega)]
          refine ⟨⟨5, by decide, f2⟩, ⟨0, 0, 0, by omega, by omega, by omega, f3 3 (by omega) (by omega), f3 6 (by omega) (by omega), f3 5 (by omega) (by omega)⟩, Or.inl (f3 8 (by omega) (by omega)), fun a ha => Or.inl ?_, fun a ha => ⟨0, by omega, ?_⟩⟩
          · have := fg a ha
            rw [show 5 + 3 * i + 1 = 6 + 3 * i by omega] at this
            exact this
          · have := fh a ha
            rw [show 5 + 3 * i + 2 = 7 + 3 * i by omega] at this
            exact this
        · rw [fo _ (by omega) (by omega) (by omega) (by omega), fo (6 + 3 * i) (by omega) (by omega) (by omega) (by omega), fo (7 + 3 * i) (by omega) (by omega) (by omega) (by omega)]
          exact a9 i (by omega)
      · rw [fo _ (by omega) (by omega) (by omega) (by omega), fo (48 + 2 * d) (by omega) (by omega) (by omega) (by omega)]
        exact a10 d hd
      · rw [fo 47 (by omega) (by omega) (by omega) (by omega), fo 49 (by omega) (by omega) (by omega) (by omega), fo 51 (by omega) (by omega) (by omega) (by omega), ← a11]
        show zSum (fun i => m7 (5 + 3 * i) 7) P + m7 (5 + 3 * P) 7 = _
        rw [ne _ (by omega), f3 7 (by omega) (by omega), Int32.add_zero]
        exact zSum_cg (fun i hi => by rw [fo _ (by omega) (by omega) (by omega) (by omega)])
    · rw [h5 _ (by omega), ne _ (by omega)]
      exact f2
    · rw [h5 _ (by omega), ne _ (by omega)]
      exact f3 4 (by omega) (by omega)
    · rw [h5 _ (by omega), ne _ (by omega)]
      have := fg a ha
      rw [show 5 + 3 * P + 1 = 6 + 3 * P by omega] at this
      exact this
    · rw [h5 a (by omega), fo a h1 (by omega) (by omega) (by omega), h2 a (by omega)]
    · rw [h5 1 (by omega), e7, zu_same, z_upd_ne (by decide), hf 1 (by omega) (by omega) (by omega), h2 1 (by omega)]
  · exact zx_keep hT.2 (h2 53 (by omega)) (fun m5 h5 hH5 => h14 m5 (by omega) (zT_no hT h2 h5 hH5))
theorem zx_order {n P D c j k d q : Nat} {μ : zMem} {K : Int32 → zMem → Prop} (hT : zT n P D c μ) (hj : j < P) (hk : k < 5) (hd : d < 3)
    (hno : ¬ zwy μ D j k d = 0 → ∀ m5 : zMem, zT n P D c m5 → K (-5) m5)
    (h : ∀ (v p : Nat) (m5 : zMem), zwy μ D j k d = 0 → v ≤ 30 → 1 ≤ p → p ≤ 3 → p ≤ v → μ (5 + 3 * j) 2 = nI v → zT n P D c m5 → m5 (6 + 3 * j) k = nI d → m5 (5 + 3 * j) 4 = μ (5 + 3 * j) 4 → K (nI (v - p)) m5) : fX7_order q (nI j) (nI k) (nI d) μ K := by
  have hj14 : j < 14 := by have := hT.1.1.1; omega
  unfold fX7_order
  refine zx_note hT.1 hT.2 (fun m2 h2 => ?_)
  have hV2 := zVof hT.1 h2
  have ez : zwy m2 D j k d = zwy μ D j k d := by
    unfold zwy
    rw [h2 1 (by omega), h2 (5 + 3 * j) (by omega), h2 (6 + 3 * j) (by omega), h2 (48 + 2 * d) (by omega)]
  unfold fX0_takeOrder
  refine zx_reason hV2 hj hk hd ?_
  rw [ez]
  have hz := zwy_le μ D j k d
  refine ⟨fun _ => pk_le (zwy μ D j k d) 0 (fun g => ?_) (fun g => ?_), fun g => absurd (nI_pos' (by omega)) g⟩
  · have g0 : zwy μ D j k d = 0 := by omega
    obtain ⟨p, hp1, hp3, ep⟩ := zV_price hV2 hd (Nat.mod_lt (D + k) (by decide : 0 < 5))
    obtain ⟨⟨v, hv, ev⟩, b2, b3, b4, b5⟩ := hV2.2.2.1 j hj
    have hpv : p ≤ v := by
      have g1 := g0
      rw [← ez] at g1
      unfold zwy at g1
      split at g1
      · cases g1
      · split at g1
        · cases g1
        · split at g1
          · cases g1
          · split at g1
            · cases g1
            · rename_i _ _ _ c4
              have c4 := Decidable.not_not.mp c4
              rw [ep, ev] at c4
              exact (nI_leI (by omega) (by omega)).mp c4
    refine ⟨vp_in_nI hj14 (by decide), fun q6 e6 => ?_⟩
    rw [zq_p hj14 e6]
    refine zx_priceOf hV2 hd hk ?_
    rw [ep]
    unfold fX5_pay
    have ck : (nI k).toNatClampNeg = k := nI_clamp (by omega)
    refine ⟨vp_in_nI hk (by decide), fun m3 e3 => ⟨vp_in_nI hk (by decide), fun m4 e4 x5 e5 m6 e6' => ?_⟩⟩
    rw [ck, show 5 + 3 * j + 1 = 6 + 3 * j by omega] at e3
    rw [ck, show 5 + 3 * j + 2 = 7 + 3 * j by omega] at e4
    have q2 : m4 (5 + 3 * j) 2 = nI v := by rw [e4, zu_ne (by omega), e3, zu_ne (by omega)]; exact ev
    rw [q2, pk_sub hpv] at e5
    have q5 : m6 (5 + 3 * j) 2 = nI (v - p) := by rw [e6', zu_same, z_upd_same, e5]
    rw [q5]
    have ne : zOp j m6 m2 := fun a h5 h6 h7 => by rw [e6', zu_ne h5, e4, zu_ne h7, e3, zu_ne h6]
    have q7 : ∀ x, x ≠ 2 → m6 (5 + 3 * j) x = m2 (5 + 3 * j) x := fun x hx => by rw [e6', zu_same, z_upd_ne hx, e4, zu_ne (by omega), e3, zu_ne (by omega)]
    refine zx_keep hT.2 (by rw [ne 53 (by omega) (by omega) (by omega), h2 53 (by omega)]) (fun m5 h5 hH5 => h v p m5 g0 hv hp1 hp3 hpv (by rw [← h2 (5 + 3 * j) (by omega)]; exact ev) ⟨?_, hH5⟩ ?_ ?_)
    · refine zVof5 (zV_per hV2 hj ne ⟨⟨v - p, by omega, q5⟩, ?_, ?_, fun a ha => ?_, fun a ha => ?_⟩ (q7 7 (by decide))) h5
      · rw [q7 3 (by decide), q7 5 (by decide), q7 6 (by decide)]
        exact b2
      · rw [q7 8 (by decide)]
        exact b3
      · rw [e6', zu_ne (by omega), e4, zu_ne (by omega), e3, zu_same]
        by_cases e : a = k
        · subst e
          exact Or.inr ⟨d, hd, z_upd_same⟩
        · rw [z_upd_ne e]
          exact b4 a ha
      · rw [e6', zu_ne (by omega), e4, zu_same]
        by_cases e : a = k
        · subst e
          exact ⟨p, hp3, z_upd_same⟩
        · rw [z_upd_ne e, e3, zu_ne (by omega)]
          exact b5 a ha
    · rw [h5 _ (by omega), e6', zu_ne (by omega), e4, zu_ne (by omega), e3, zu_same, z_upd_same]
    · rw [h5 _ (by omega), q7 4 (by decide), h2 _ (by omega)]
  · exact zx_keep hT.2 (h2 53 (by omega)) (fun m5 h5 hH5 => hno (by omega) m5 (zT_no hT h2 h5 hH5))
theorem zx_callOff {n P D c j k q : Nat} {μ : zMem} {K : Int32 → zMem → Prop} (hT : zT n P D c μ) (hj : j < P) (hk : k < 5) (hk1 : 1 ≤ k)
    (hno : μ (6 + 3 * j) k = (-6 : Int32) → ∀ m5 : zMem, zT n P D c m5 → K (-5) m5)
    (h : ∀ (v p : Nat) (m5 : zMem), ¬ μ (6 + 3 * j) k = (-6 : Int32) → v ≤ 30 → p ≤ 3 → μ (5 + 3 * j) 2 = nI v → zT n P D c m5 → m5 (6 + 3 * j) k = (-6 : Int32) → K (nI (min 30 (v + p))) m5) : fX7_callOff q (nI j) (nI k) μ K := by
  have hj14 : j < 14 := by have := hT.1.1.1; omega
  unfold fX7_callOff
  refine zx_note hT.1 hT.2 (fun m2 h2 => ?_)
  have hV2 := zVof hT.1 h2
  have ck : (nI k).toNatClampNeg = k := nI_clamp (by omega)
  unfold fX0_cancelOrder
  refine zx_hasP hV2 hj ⟨fun _ => ?_, fun g => absurd g (by decide)⟩
  refine pk_lt k 1 (fun g => absurd g (by omega)) (fun _ => zx_isA hk ⟨fun _ => ⟨vp_in_nI hj14 (by decide), fun q9 e9 => ?_⟩, fun g => absurd g (by decide)⟩)
  rw [zq_p hj14 e9]
  refine zx_hasO hk (fun g => ⟨fun z => absurd rfl z, fun _ => ?_⟩) (fun g => ⟨fun _ => ?_, fun z => absurd z (by decide)⟩)
  · rw [show 5 + 3 * j + 1 = 6 + 3 * j by omega, h2 _ (by omega)] at g
    exact zx_keep hT.2 (h2 53 (by omega)) (fun m5 h5 hH5 => hno g m5 (zT_no hT h2 h5 hH5))
  · rw [show 5 + 3 * j + 1 = 6 + 3 * j by omega, h2 _ (by omega)] at g
    obtain ⟨⟨v, hv, ev⟩, b2, b3, b4, b5⟩ := hV2.2.2.1 j hj
    obtain ⟨p, hp, ep⟩ := b5 k hk
    refine ⟨vp_in_nI hj14 (by decide), fun q14 e14 => ⟨vp_in_nI hk (by decide), fun m16 e16 => ⟨vp_in_nI hj14 (by decide), fun q18 e18 => ⟨vp_in_nI hj14 (by decide), fun q20 e20 => ⟨vp_in_nI hk (by decide), fun x22 e22 => ?_⟩⟩⟩⟩⟩
    rw [zq_p hj14 e14, ck, show 5 + 3 * j + 1 = 6 + 3 * j by omega] at e16
    rw [zq_p hj14 e20, ck, show 5 + 3 * j + 2 = 7 + 3 * j by omega] at e22
    have e22' : x22 = nI p := by rw [e22, e16, zu_ne (by omega)]; exact ep
    rw [zq_p hj14 e18, e22']
    refine zx_receive ?_
    have q2 : m16 (5 + 3 * j) 2 = nI v := by rw [e16, zu_ne (by omega)]; exact ev
    rw [q2, nI_add, show (30 : Int32) = nI 30 from rfl, zn_min (by decide) (by omega)]
    have ne : zOp j (z_up m16 (5 + 3 * j) 2 (nI (min 30 (v + p)))) m2 := fun a h5 h6 h7 => by rw [zu_ne h5, e16, zu_ne h6]
    have q7 : ∀ x, x ≠ 2 → z_up m16 (5 + 3 * j) 2 (nI (min 30 (v + p))) (5 + 3 * j) x = m2 (5 + 3 * j) x := fun x hx => by rw [zu_same, z_upd_ne hx, e16, zu_ne (by omega)]
    refine zx_keep hT.2 (by rw [ne 53 (by omega) (by omega) (by omega), h2 53 (by omega)]) (fun m5 h5 hH5 => h v p m5 g hv hp (by rw [← h2 (5 + 3 * j) (by omega)]; exact ev) ⟨?_, hH5⟩ ?_)
    · refine zVof5 (zV_per hV2 hj ne ⟨⟨_, Nat.min_le_left _ _, by rw [zu_same, z_upd_same]⟩, ?_, ?_, fun a ha => ?_, fun a ha => ?_⟩ (q7 7 (by decide))) h5
      · rw [q7 3 (by decide), q7 5 (by decide), q7 6 (by decide)]
        exact b2
      · rw [q7 8 (by decide)]
        exact b3
      · rw [zu_ne (by omega), e16, zu_same]
        by_cases e : a = k
        · subst e
          exact Or.inl z_upd_same
        · rw [z_upd_ne e]
          exact b4 a ha
      · rw [zu_ne (by omega), e16, zu_ne (by omega)]
        exact b5 a ha
    · rw [h5 _ (by omega), zu_ne (by omega), e16, zu_same, z_upd_same]
