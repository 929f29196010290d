/-! cooking, coming, buying -/
theorem zV_dish {n P D c ee d : Nat} {m μ : zMem} (hV : zV n P D c ee μ) (hd : d < 3) (he : ∀ a, a ≠ 47 + 2 * d → m a = μ a) (hdi : zDi ee (m (47 + 2 * d)) (μ (48 + 2 * d))) (h4d : m (47 + 2 * d) 4 = μ (47 + 2 * d) 4) : zV n P D c ee m := by
  obtain ⟨⟨h1, h2, h3, h4, h5, h6, h0⟩, h8, h9, h10, h11⟩ := hV
  refine ⟨⟨h1, h2, h3, h4, by rw [he 1 (by omega)]; exact h5, by rw [he 1 (by omega)]; exact h6, by rw [he 1 (by omega)]; exact h0⟩, by rw [he 2 (by omega)]; exact h8, fun i hi => ?_, fun x hx => ?_, ?_⟩
  · rw [he _ (by omega), he (6 + 3 * i) (by omega), he (7 + 3 * i) (by omega)]
    exact h9 i hi
  · rw [he (48 + 2 * x) (by omega)]
    by_cases e : x = d
    · subst e
      exact hdi
    · rw [he _ (by omega)]
      exact h10 x hx
  · have e4 : ∀ x, x < 3 → m (47 + 2 * x) 4 = μ (47 + 2 * x) 4 := fun x hx => by
      by_cases e : x = d
      · subst e
        exact h4d
      · rw [he _ (by omega)]
    rw [show m 47 4 = μ 47 4 from e4 0 (by decide), show m 49 4 = μ 49 4 from e4 1 (by decide), show m 51 4 = μ 51 4 from e4 2 (by decide), ← h11]
    exact zSum_cg (fun i hi => by rw [he _ (by omega)])
theorem zes_cg {m μ : zMem} {d : Nat} (h : ∀ a, 5 ≤ a → a < 47 → m a = μ a) : ∀ i, i ≤ 14 → zes m d i = zes μ d i := by
  intro i
  induction i with
  | zero => exact fun _ => rfl
  | succ i ih =>
    intro hi
    have e : zdb m i = zdb μ i := by unfold zdb; rw [h _ (by omega) (by omega)]
    unfold zes
    rw [ih (by omega), h (6 + 3 * i) (by omega) (by omega), e]
theorem zaw_cg {m μ : zMem} {d : Nat} (h : ∀ a, 5 ≤ a → a < 47 → m a = μ a) : ∀ i, i ≤ 14 → zaw m d i = zaw μ d i := by
  intro i
  induction i with
  | zero => exact fun _ => rfl
  | succ i ih =>
    intro hi
    unfold zaw
    rw [ih (by omega), h (6 + 3 * i) (by omega) (by omega), h (5 + 3 * i) (by omega) (by omega)]
def zps (P : Nat) (μ : zMem) : Nat → Nat
  | 0 => 0
  | d + 1 => zps P μ d + zpl P μ d
theorem zps_le {n P D c ee : Nat} {μ : zMem} (hV : zV n P D c ee μ) (d : Nat) : zps P μ d ≤ 23 * d := by
  induction d with
  | zero => exact Nat.le_refl _
  | succ d ih =>
    have := zpl_le (d := d) hV
    unfold zps
    omega
theorem zx_cook {n P D c q : Nat} {μ : zMem} {K : Int32 → zMem → Prop} (hT : zT n P D c μ)
    (hno : ¬ c = 0 → ∀ m5 : zMem, zT n P D c m5 → K (-5) m5)
    (h : c = 0 → ∀ m5 : zMem, zT n P D 1 m5 → K (nI (zps P μ 3)) m5) : fX7_cook q μ K := by
  unfold fX7_cook
  have hP14 := hT.1.1.1
  refine zx_note hT.1 hT.2 (fun m2 h2 => ?_)
  have hV2 := zVof hT.1 h2
  unfold fX0_cookToday
  rw [hV2.1.2.2.2.2.2.2]
  have hc1 := hT.1.1.2.2.2.1
  refine pk_eq c 0 (fun hc => ?_) (fun hc => zx_keep hT.2 (h2 53 (by omega)) (fun m5 h5 hH5 => hno hc m5 (zT_no hT h2 h5 hH5)))
  subst hc
  have epl : ∀ m : zMem, (∀ a, a ≠ 47 → a ≠ 49 → a ≠ 51 → m a = m2 a) → (∀ d, d < 3 → m (47 + 2 * d) 1 = m2 (47 + 2 * d) 1) → ∀ d, d < 3 → zpl P m d = zpl P μ d := by
    intro m hB hC d hd
    unfold zpl
    rw [zes_cg (m := m) (μ := μ) (fun a g1 g2 => by rw [hB a (by omega) (by omega) (by omega), h2 a (by omega)]) P hP14, hB 2 (by decide) (by decide) (by decide), hC d hd, h2 2 (by omega), h2 (47 + 2 * d) (by omega)]
  have L : ∀ (k i : Nat) (m : zMem), i ≤ 3 → 3 - i < k → zV n P D 0 1 m → (∀ a, a ≠ 47 → a ≠ 49 → a ≠ 51 → m a = m2 a) → (∀ d, d < 3 → m (47 + 2 * d) 1 = m2 (47 + 2 * d) 1) → (∀ d, i ≤ d → d < 3 → m (47 + 2 * d) 2 = 0) → fX0_cookToday_14 (fun r3 m4 => fX2_keep 53 r3 m4 (fun r5 m6 => K r5 m6)) 1 k (nI (zps P μ i)) (nI i) m := by
    intro k
    induction k with
    | zero => intro i m g1 g2; omega
    | succ k ih =>
      intro i m g1 g2 hA hB hC hD
      show fX0_cookToday_14b (fX0_cookToday_14 (fun r3 m4 => fX2_keep 53 r3 m4 (fun r5 m6 => K r5 m6)) 1 k) (fun r3 m4 => fX2_keep 53 r3 m4 (fun r5 m6 => K r5 m6)) 1 (nI (zps P μ i)) (nI i) m
      unfold fX0_cookToday_14b
      refine pk_le 3 i (fun g m3 e3 => ?_) (fun hi => zx_plates hA hi ?_)
      · have ei : i = 3 := by omega
        subst ei
        refine zx_keep hT.2 (by rw [e3, zu_ne (by decide), hB 53 (by decide) (by decide) (by decide), h2 53 (by omega)]) (fun m5 h5 hH5 => h rfl m5 ⟨zVof5 ?_ h5, hH5⟩)
        obtain ⟨⟨a1, a2, a3, a4, a5, a6, a7⟩, b1, a9, a10, a11⟩ := hA
        have ne : ∀ a, a ≠ 1 → m3 a = m a := fun a ha => by rw [e3, zu_ne ha]
        refine ⟨⟨a1, a2, a3, by decide, by rw [e3, zu_same, z_upd_ne (by decide)]; exact a5, by rw [e3, zu_same, z_upd_ne (by decide)]; exact a6, by rw [e3, zu_same, z_upd_same]; rfl⟩, by rw [ne 2 (by decide)]; exact b1, fun x hx => ?_, fun d hd => ?_, ?_⟩
        · rw [ne _ (by omega), ne (6 + 3 * x) (by omega), ne (7 + 3 * x) (by omega)]
          exact a9 x hx
        · rw [ne _ (by omega), ne (48 + 2 * d) (by omega)]
          exact a10 d hd
        · rw [ne 47 (by decide), ne 49 (by decide), ne 51 (by decide), ← a11]
          exact zSum_cg (fun x hx => by rw [ne _ (by omega)])
      · rw [epl m hB hC i hi]
        refine ⟨vp_in_nI hi (by decide), fun q6 e6 => ?_⟩
        rw [zq_d hi e6]
        unfold fX1_fill
        intro m3 e3 x4 e4 m5 e5 x9 e9 x10 e10
        rw [e10, nI_1, e9, nI_add]
        obtain ⟨⟨kk, r, b1, b2, b3, b4, -⟩, b6, b7⟩ := hA.2.2.2.1 i hi
        have hpl := zpl_le (d := i) hT.1
        have v2 : m5 (47 + 2 * i) 2 = nI (zpl P μ i) := by rw [e5, zu_same, z_upd_ne (by decide), e3, zu_same, z_upd_same]
        have v3 : m5 (47 + 2 * i) 3 = m (47 + 2 * i) 3 + nI (zpl P μ i) := by rw [e5, zu_same, z_upd_same, e4, e3, zu_same, z_upd_ne (by decide)]
        have vo : ∀ x, x ≠ 2 → x ≠ 3 → m5 (47 + 2 * i) x = m (47 + 2 * i) x := fun x hx hy => by rw [e5, zu_same, z_upd_ne hy, e3, zu_same, z_upd_ne hx]
        have ne : ∀ a, a ≠ 47 + 2 * i → m5 a = m a := fun a ha => by rw [e5, zu_ne ha, e3, zu_ne ha]
        refine ih (i + 1) m5 (by omega) (by omega) (zV_dish hA hi ne ⟨⟨kk, zpl P μ i, b1, by omega, by rw [vo 1 (by decide) (by decide)]; exact b3, v2, fun z => absurd z (by decide)⟩, ?_, b7⟩ (vo 4 (by decide) (by decide))) (fun a h1 h3 h5 => by rw [ne a (by omega)]; exact hB a h1 h3 h5) (fun d hd => ?_) (fun d hd hd3 => by rw [ne _ (by omega)]; exact hD d (by omega) hd3)
        · rw [vo 4 (by decide) (by decide), vo 5 (by decide) (by decide), vo 1 (by decide) (by decide), v2, v3, b6, hD i (by omega) hi, Int32.add_zero]
        · by_cases e : d = i
          · subst e
            rw [vo 1 (by decide) (by decide)]
            exact hC d hd
          · rw [ne _ (by omega)]
            exact hC d hd
  refine L zFU 0 m2 (by omega) (by unfold zFU; omega) ?_ (fun _ _ _ _ => rfl) (fun _ _ => rfl) (fun d _ hd => ?_)
  · obtain ⟨a, b1, a9, a10, a11⟩ := hV2
    refine ⟨a, b1, a9, fun d hd => ?_, a11⟩
    obtain ⟨⟨k, r, c1, c2, c3, c4, -⟩, c6⟩ := a10 d hd
    exact ⟨⟨k, r, c1, c2, c3, c4, fun z => absurd z (by decide)⟩, c6⟩
  · obtain ⟨⟨k, r, c1, c2, c3, c4, c5⟩, c6⟩ := hV2.2.2.2.1 d hd
    rw [c4, c5 rfl]
    rfl
theorem zV_up {n P D c ee : Nat} {μ : zMem} (h2 : n + 1 ≤ 60) (h : zV n P D c ee μ) : zV (n + 1) P D c ee μ := zV_mono (by omega) h2 h
theorem zx_comeT {n P D c j q : Nat} {μ : zMem} {K : Int32 → zMem → Prop} (hT : zT n P D c μ) (hn : n + 1 ≤ 60) (hj : j < P)
    (hno : c = 0 ∨ μ (6 + 3 * j) 0 = (-6 : Int32) ∨ ¬ μ (5 + 3 * j) 8 = 0 → ∀ m5 : zMem, zT n P D c m5 → K (-5) m5)
    (h0 : ∀ (d v v2 : Nat) (m5 : zMem), ¬ c = 0 → μ (5 + 3 * j) 8 = 0 → d < 3 → μ (6 + 3 * j) 0 = nI d → zT (n + 1) P D c m5 → m5 (5 + 3 * j) 5 = μ (5 + 3 * j) 5 + 1 → m5 (5 + 3 * j) 3 = 0 → m5 (5 + 3 * j) 8 = 1 → μ (47 + 2 * d) 1 + μ (47 + 2 * d) 2 = 0 → v ≤ v2 → v2 ≤ 30 → μ (5 + 3 * j) 2 = nI v → m5 (5 + 3 * j) 2 = nI v2 → K 3 m5)
    (h1 : ∀ (d : Nat) (m5 : zMem), ¬ c = 0 → μ (5 + 3 * j) 8 = 0 → d < 3 → μ (6 + 3 * j) 0 = nI d → zT (n + 1) P D c m5 → m5 (5 + 3 * j) 5 = μ (5 + 3 * j) 5 + 1 → m5 (5 + 3 * j) 3 = 0 → m5 (5 + 3 * j) 8 = 1 → ¬ μ (47 + 2 * d) 1 + μ (47 + 2 * d) 2 = 0 → K (nI d) m5) : fX7_come q (nI j) μ K := by
  have hj14 : j < 14 := by have := hT.1.1.1; omega
  unfold fX7_come
  refine zx_note hT.1 hT.2 (fun m2 h2 => ?_)
  have hV2 := zVof hT.1 h2
  have no : (c = 0 ∨ μ (6 + 3 * j) 0 = (-6 : Int32) ∨ ¬ μ (5 + 3 * j) 8 = 0) → fX0_serve_39 (fun r3 m4 => fX2_keep 53 r3 m4 (fun r5 m6 => K r5 m6)) 1 m2 := by
    intro g
    unfold fX0_serve_39
    exact zx_keep hT.2 (h2 53 (by omega)) (fun m5 h5 hH5 => hno g m5 (zT_no hT h2 h5 hH5))
  unfold fX0_serve
  refine zx_hasP hV2 hj ⟨fun _ => ⟨vp_in_nI hj14 (by decide), fun q8 e8 => ?_⟩, fun g => absurd g (by decide)⟩
  rw [zq_p hj14 e8, hV2.1.2.2.2.2.2.2]
  have hc1 := hT.1.1.2.2.2.1
  refine pk_eq c 0 (fun hc => no (Or.inl hc)) (fun hc => ?_)
  refine zx_hasO (k := 0) (by decide) (fun g => ⟨fun _ => no (Or.inr (Or.inl ?_)), fun z => absurd rfl z⟩) (fun g => ⟨fun z => absurd z (by decide), fun _ => ⟨fun g8 => ?_, fun g8 => no (Or.inr (Or.inr ?_))⟩⟩)
  · rw [show 5 + 3 * j + 1 = 6 + 3 * j by omega, h2 _ (by omega)] at g
    exact g
  · rw [show 5 + 3 * j + 1 = 6 + 3 * j by omega, h2 _ (by omega)] at g
    rw [h2 _ (by omega)] at g8
    obtain ⟨⟨v, hv, ev⟩, ⟨s, t, cc, b1, b2, b3, b4, b5, b6⟩, b7, b8, b9⟩ := hV2.2.2.1 j hj
    obtain ⟨d, hd, ed⟩ : ∃ d, d < 3 ∧ m2 (6 + 3 * j) 0 = nI d := by
      rcases b8 0 (by decide) with e | e
      · rw [h2 _ (by omega)] at e
        exact absurd e g
      · exact e
    have ed0 : μ (6 + 3 * j) 0 = nI d := by rw [← h2 (6 + 3 * j) (by omega)]; exact ed
    refine zx_come (fun m3 hf fo f3 f5 f8 => ?_)
    intro x16 e16
    rw [show 5 + 3 * j + 1 = 6 + 3 * j by omega, hf _ (by omega), ed] at e16
    rw [e16]
    refine zx_hasD hd ⟨fun z => absurd z (by decide), fun _ => ⟨vp_in_nI hd (by decide), fun q21 e21 => ?_⟩⟩
    rw [zq_d hd e21]
    unfold fX1_left
    intro x1 e1
    rw [hf _ (by omega)] at e1
    have hP3 : zPe (n + 1) (m3 (5 + 3 * j)) (m3 (6 + 3 * j)) (m3 (7 + 3 * j)) := by
      rw [hf (6 + 3 * j) (by omega), hf (7 + 3 * j) (by omega)]
      refine ⟨⟨v, hv, by rw [fo 2 (by decide) (by decide) (by decide)]; exact ev⟩, ⟨0, t, cc + 1, by omega, by omega, by omega, f3, by rw [fo 6 (by decide) (by decide) (by decide)]; exact b5, by rw [f5, b6, nI_1]⟩, by rw [f8]; exact Or.inr rfl, b8, b9⟩
    have hV3 : zV (n + 1) P D c c m3 := zV_per (zV_up hn hV2) hj (fun a h5 _ _ => hf a h5) hP3 (fo 7 (by decide) (by decide) (by decide))
    refine ⟨fun g0 => ⟨vp_in_nI hd (by decide), fun q26 e26 => ?_⟩, fun g0 => ?_⟩
    · rw [zq_d hd e26]
      have g0' : ¬ m3 (47 + 2 * d) 1 + m3 (47 + 2 * d) 2 = 0 := by rw [hf _ (by omega), ← e1]; exact g0
      refine zx_giveP (hV3.2.2.2.1 d hd) hc g0' (fun m4 k1 k2 k3 => ?_)
      intro x29 e29 m30 e30
      rw [k1 _ (by omega), fo 7 (by decide) (by decide) (by decide)] at e29
      have q7 : ∀ x, x ≠ 7 → m30 (5 + 3 * j) x = m3 (5 + 3 * j) x := fun x hx => by rw [e30, zu_same, z_upd_ne hx, k1 _ (by omega)]
      have ne : ∀ a, a ≠ 5 + 3 * j → a ≠ 47 + 2 * d → m30 a = m3 a := fun a g1 g2 => by rw [e30, zu_ne g1, k1 a g2]
      have n53 : m30 53 = μ 53 := by rw [ne 53 (by omega) (by omega), hf 53 (by omega), h2 53 (by omega)]
      refine zx_keep hT.2 n53 (fun m5 h5 hH5 => h1 d m5 hc g8 hd ed0 ⟨zVof5 ?_ h5, hH5⟩ ?_ ?_ ?_ ?_)
      · refine zV_meal hV3 hj hd (fun a h5 _ _ h47 => ne a h5 h47) ?_ ?_ ?_ ?_
        · obtain ⟨p1, p2, p3, p4⟩ := hP3
          rw [ne (6 + 3 * j) (by omega) (by omega), ne (7 + 3 * j) (by omega) (by omega)]
          exact ⟨by rw [q7 2 (by decide)]; exact p1, by rw [q7 3 (by decide), q7 5 (by decide), q7 6 (by decide)]; exact p2, by rw [q7 8 (by decide)]; exact p3, p4⟩
        · rw [e30, zu_same, z_upd_same, e29, fo 7 (by decide) (by decide) (by decide)]
        · have : m30 (47 + 2 * d) = m4 (47 + 2 * d) := by rw [e30, zu_ne (by omega)]
          rw [this]
          exact k2
        · have : m30 (47 + 2 * d) = m4 (47 + 2 * d) := by rw [e30, zu_ne (by omega)]
          rw [this]
          exact k3
      · rw [h5 _ (by omega), q7 5 (by decide), f5, h2 _ (by omega)]
      · rw [h5 _ (by omega), q7 3 (by decide), f3]
      · rw [h5 _ (by omega), q7 8 (by decide), f8]
      · rw [← h2 (47 + 2 * d) (by omega), ← e1]
        exact g0
    · unfold fX0_serve_73
      intro x2 e2
      obtain ⟨p, hp, ep⟩ := b9 0 (by decide)
      rw [show 5 + 3 * j + 2 = 7 + 3 * j by omega, hf _ (by omega), ep] at e2
      rw [e2]
      refine zx_receive ?_
      have q2 : m3 (5 + 3 * j) 2 = nI v := by rw [fo 2 (by decide) (by decide) (by decide)]; exact ev
      rw [q2, nI_add, show (30 : Int32) = nI 30 from rfl, zn_min (by decide) (by omega)]
      have q7 : ∀ x, x ≠ 2 → z_up m3 (5 + 3 * j) 2 (nI (min 30 (v + p))) (5 + 3 * j) x = m3 (5 + 3 * j) x := fun x hx => by rw [zu_same, z_upd_ne hx]
      have q2' : z_up m3 (5 + 3 * j) 2 (nI (min 30 (v + p))) (5 + 3 * j) 2 = nI (min 30 (v + p)) := by rw [zu_same, z_upd_same]
      have n53 : z_up m3 (5 + 3 * j) 2 (nI (min 30 (v + p))) 53 = μ 53 := by rw [zu_ne (by omega), hf 53 (by omega), h2 53 (by omega)]
      refine zx_keep hT.2 n53 (fun m5 h5 hH5 => h0 d v (min 30 (v + p)) m5 hc g8 hd ed0 ⟨zVof5 ?_ h5, hH5⟩ ?_ ?_ ?_ ?_ (by omega) (by omega) (by rw [← h2 (5 + 3 * j) (by omega)]; exact ev) ?_)
      · refine zV_per hV3 hj (fun a h5 _ _ => zu_ne h5) ?_ (q7 7 (by decide))
        obtain ⟨p1, p2, p3, p4⟩ := hP3
        rw [zu_ne (r := 6 + 3 * j) (by omega), zu_ne (r := 7 + 3 * j) (by omega)]
        exact ⟨⟨min 30 (v + p), by omega, q2'⟩, by rw [q7 3 (by decide), q7 5 (by decide), q7 6 (by decide)]; exact p2, by rw [q7 8 (by decide)]; exact p3, p4⟩
      · rw [h5 _ (by omega), q7 5 (by decide), f5, h2 _ (by omega)]
      · rw [h5 _ (by omega), q7 3 (by decide), f3]
      · rw [h5 _ (by omega), q7 8 (by decide), f8]
      · rw [← h2 (47 + 2 * d) (by omega), ← e1]
        exact g0
      · rw [h5 _ (by omega), q2']
  · rw [h2 _ (by omega)] at g8
    exact g8
theorem zx_buyT {n P D c j d v p k r q : Nat} {μ : zMem} {K : Int32 → zMem → Prop} (hT : zT n P D c μ) (hj : j < P) (hd : d < 3) (hv : v ≤ 30) (ev : μ (5 + 3 * j) 2 = nI v) (hp : p ≤ 3) (ep : μ (48 + 2 * d) (D % 5) = nI p) (hk : k ≤ 20) (ek : μ (47 + 2 * d) 1 = nI k) (hr : r ≤ 30) (er : μ (47 + 2 * d) 2 = nI r)
    (hno : c = 0 ∨ ¬ μ (6 + 3 * j) 0 = (-6 : Int32) ∨ ¬ μ (5 + 3 * j) 8 = 0 ∨ v < p + 1 ∨ k + r ≤ zaw μ d P → ∀ m5 : zMem, zT n P D c m5 → K (-5) m5)
    (h : ∀ m5 : zMem, ¬ c = 0 → μ (6 + 3 * j) 0 = (-6 : Int32) → μ (5 + 3 * j) 8 = 0 → p + 1 ≤ v → zaw μ d P < k + r → zT n P D c m5 → m5 (5 + 3 * j) 8 = 1 → K (nI (v - (p + 1))) m5) : fX7_buy q (nI j) (nI d) μ K := by
  have hP14 := hT.1.1.1
  have hj14 : j < 14 := by omega
  unfold fX7_buy
  refine zx_note hT.1 hT.2 (fun m2 h2 => ?_)
  have hV2 := zVof hT.1 h2
  have eaw : zaw m2 d P = zaw μ d P := zaw_cg (fun a _ g => h2 a (by omega)) P hP14
  have no : (c = 0 ∨ ¬ μ (6 + 3 * j) 0 = (-6 : Int32) ∨ ¬ μ (5 + 3 * j) 8 = 0 ∨ v < p + 1 ∨ k + r ≤ zaw μ d P) → fX2_keep 53 (-5) m2 (fun r5 m6 => K r5 m6) :=
    fun g => zx_keep hT.2 (h2 53 (by omega)) (fun m5 h5 hH5 => hno g m5 (zT_no hT h2 h5 hH5))
  unfold fX0_sell fX0_sell_47 fX0_sell_86
  refine zx_hasP hV2 hj ⟨fun g => absurd g (by decide), fun _ => zx_hasD hd ⟨fun _ => ⟨vp_in_nI hj14 (by decide), fun q8 e8 => ?_⟩, fun g => absurd g (by decide)⟩⟩
  rw [zq_p hj14 e8, hV2.1.2.2.2.2.2.2]
  have hc1 := hT.1.1.2.2.2.1
  refine pk_eq c 0 (fun hc => no (Or.inl hc)) (fun hc => ?_)
  refine zx_hasO (k := 0) (by decide) (fun g => ⟨fun z => absurd rfl z, fun _ => ⟨fun g8 => ?_, fun g8 => no (Or.inr (Or.inr (Or.inl ?_)))⟩⟩) (fun g => ⟨fun _ => no (Or.inr (Or.inl ?_)), fun z => absurd z (by decide)⟩)
  · rw [show 5 + 3 * j + 1 = 6 + 3 * j by omega, h2 _ (by omega)] at g
    rw [h2 _ (by omega)] at g8
    refine zx_priceOf (k := 0) hV2 hd (by decide) ?_
    rw [Nat.add_zero, h2 (48 + 2 * d) (by omega), ep]
    intro x16 e16
    rw [nI_1] at e16
    rw [e16, h2 (5 + 3 * j) (by omega), ev]
    refine pk_lt v (p + 1) (fun g1 => no (Or.inr (Or.inr (Or.inr (Or.inl g1))))) (fun g1 => ⟨vp_in_nI hd (by decide), fun q19 e19 => ?_⟩)
    rw [zq_d hd e19]
    unfold fX1_left
    intro x1 e1
    rw [h2 _ (by omega), ek, er, nI_add] at e1
    rw [e1]
    refine zx_awaited hV2 ?_
    rw [eaw]
    have haw := zaw_le μ d P
    refine pk_lt (zaw μ d P) (k + r) (fun g2 => ⟨vp_in_nI hd (by decide), fun q26 e26 => ?_⟩) (fun g2 => no (Or.inr (Or.inr (Or.inr (Or.inr g2)))))
    rw [zq_d hd e26]
    have hl : ¬ m2 (47 + 2 * d) 1 + m2 (47 + 2 * d) 2 = 0 := by
      rw [h2 _ (by omega), ek, er, nI_add]
      exact nI_ne0 (by omega) (by omega)
    refine zx_giveP (hV2.2.2.2.1 d hd) hc hl (fun m28 k1 k2 k3 => ?_)
    intro x29 e29 m30 e30 m31 e31 x32 e32 m33 e33
    have w2 : m31 (5 + 3 * j) 2 = nI v := by rw [e31, zu_same, z_upd_ne (by decide), e30, zu_same, z_upd_ne (by decide), k1 _ (by omega), h2 _ (by omega), ev]
    rw [w2, pk_sub g1] at e32
    have v2 : m33 (5 + 3 * j) 2 = nI (v - (p + 1)) := by rw [e33, zu_same, z_upd_same, e32]
    rw [v2]
    have q7 : ∀ x, x ≠ 2 → x ≠ 7 → x ≠ 8 → m33 (5 + 3 * j) x = m2 (5 + 3 * j) x := fun x g3 g4 g5 => by rw [e33, zu_same, z_upd_ne g3, e31, zu_same, z_upd_ne g5, e30, zu_same, z_upd_ne g4, k1 _ (by omega)]
    have v8 : m33 (5 + 3 * j) 8 = 1 := by rw [e33, zu_same, z_upd_ne (by decide), e31, zu_same, z_upd_same]
    have v7 : m33 (5 + 3 * j) 7 = m2 (5 + 3 * j) 7 + 1 := by rw [e33, zu_same, z_upd_ne (by decide), e31, zu_same, z_upd_ne (by decide), e30, zu_same, z_upd_same, e29, k1 _ (by omega)]
    have ne : ∀ a, a ≠ 5 + 3 * j → m33 a = m28 a := fun a g3 => by rw [e33, zu_ne g3, e31, zu_ne g3, e30, zu_ne g3]
    refine zx_keep hT.2 (by rw [ne 53 (by omega), k1 53 (by omega), h2 53 (by omega)]) (fun m5 h5 hH5 => h m5 hc g g8 g1 g2 ⟨zVof5 ?_ h5, hH5⟩ (by rw [h5 _ (by omega), v8]))
    obtain ⟨p1, p2, p3, p4⟩ := hV2.2.2.1 j hj
    refine zV_meal hV2 hj hd (fun a g5 _ _ g47 => by rw [ne a g5, k1 a g47]) ?_ v7 ?_ ?_
    · rw [ne (6 + 3 * j) (by omega), k1 (6 + 3 * j) (by omega), ne (7 + 3 * j) (by omega), k1 (7 + 3 * j) (by omega)]
      exact ⟨⟨_, by omega, v2⟩, by rw [q7 3 (by decide) (by decide) (by decide), q7 5 (by decide) (by decide) (by decide), q7 6 (by decide) (by decide) (by decide)]; exact p2, by rw [v8]; exact Or.inr rfl, p4⟩
    · rw [ne _ (by omega)]
      exact k2
    · rw [ne _ (by omega)]
      exact k3
  · rw [h2 _ (by omega)] at g8
    exact g8
  · rw [show 5 + 3 * j + 1 = 6 + 3 * j by omega, h2 _ (by omega)] at g
    exact g
