/-! X7: what its calls need of a canteen, and that they keep it -/
theorem zc_become {q a : Nat} {μ : zMem} {K : zMem → Prop} (hd : q + 52 ≤ a ∨ a + 52 ≤ q) (hI : zICan μ a) (hQ : ∀ i, i < 14 → z_b (μ (q + 4 + 3 * i) 8)) (hK : ∀ μ1 : zMem, (∀ r, ¬ (q ≤ r ∧ r < q + 52) → μ1 r = μ r) → zICan μ1 q → K μ1) : fX0_become q a μ K := by
  obtain ⟨⟨P, hP, hPe⟩, ⟨D, hD, hDe⟩, hc, hb⟩ := hI
  unfold fX0_become
  intro m1 e1
  have L2 : ∀ (n i : Nat) (m : zMem), i ≤ P → P - i < n → (∀ r, ¬ (q ≤ r ∧ r < q + 52) → m r = μ r) → (∀ i, i < 14 → z_b (m (q + 4 + 3 * i) 8)) → fX0_become_44 K q n a (nI i) m := by
    intro n
    induction n with
    | zero => intro i m h1 h2; omega
    | succ n ih =>
      intro i m h1 h2 hf hz
      unfold fX0_become_44
      rw [z_it_s]
      show fX0_become_44b _ K q a (nI i) m
      have ha : ∀ r, a ≤ r → r < a + 52 → m r = μ r := fun r g1 g2 => hf r (by omega)
      unfold fX0_become_44b
      rw [ha a (by omega) (by omega), hPe]
      refine ⟨fun c => ?_, fun c => ?_⟩
      · intro m2 e2 m3 e3
        have g2 : ∀ r, r ≠ q → m2 r = m r := fun r g => by rw [e2, zu_ne g]
        have g3 : ∀ r, r ≠ q → m3 r = m r := fun r g => by rw [e3, zu_ne g, g2 r g]
        have haq : a ≠ q := by omega
        rw [g3 a haq, ha a (by omega) (by omega)]
        refine ⟨hc, ?_⟩
        intro m4 e4
        have g4 : ∀ r, r ≠ q → m4 r = m r := fun r g => by rw [e4, zu_ne g, g3 r g]
        have gm : m2 a 4 = μ a 4 := by rw [g2 a haq, ha a (by omega) (by omega)]
        refine hK m4 (fun r g => by rw [g4 r (by omega), hf r g]) ⟨⟨P, hP, ?_⟩, ⟨D, hD, ?_⟩, ?_, fun i hi => by rw [g4 _ (by omega)]; exact hz i hi⟩
        · rw [e4, zu_same, z_upd_ne (by decide), e3, zu_same, z_upd_ne (by decide), e2, zu_same, z_upd_same]
        · rw [e4, zu_same, z_upd_ne (by decide), e3, zu_same, z_upd_same, gm, hDe]
        · rw [e4, zu_same, z_upd_same]
          exact hc
      · have hi : i < P := Nat.lt_of_not_le (fun g => c ((nI_leI (a := P) (b := i) (by omega) (by omega)).mpr g))
        have hcl : (nI i).toNatClampNeg = i := nI_clamp (by omega)
        refine ⟨vp_in_nI (by omega) (by decide), fun q7 e7 => ⟨vp_in_nI (by omega) (by decide), fun q9 e9 => ?_⟩⟩
        rw [hcl] at e7 e9
        have e7 : q7 = q + 4 + 3 * i := by omega
        have e9 : q9 = a + 4 + 3 * i := by omega
        subst e7 e9
        refine zs_X5_become (by omega) (by rw [ha _ (by omega) (by omega)]; exact hb i (by omega)) (fun m1' f1 f2 f3 f4 => ?_)
        intro x12 e12
        rw [e12, show nI i + (1 : Int32) = nI (i + 1) from nI_1 i]
        refine ih (i + 1) m1' (by omega) (by omega) (fun r g => by rw [f1 r (by omega) (by omega) (by omega), hf r g]) (fun x hx => ?_)
        by_cases hxi : x = i
        · subst hxi
          rw [f2 8 (by decide) (by decide), ha _ (by omega) (by omega)]
          exact hb x hx
        · rw [f1 _ (by omega) (by omega) (by omega)]
          exact hz x hx
  have L1 : ∀ (n i : Nat) (m : zMem), i ≤ 3 → 3 - i < n → (∀ r, ¬ (q ≤ r ∧ r < q + 52) → m r = μ r) → (∀ i, i < 14 → z_b (m (q + 4 + 3 * i) 8)) → fX0_become_16 K q n a (nI i) m := by
    intro n
    induction n with
    | zero => intro i m h1 h2; omega
    | succ n ih =>
      intro i m h1 h2 hf hz
      unfold fX0_become_16
      rw [z_it_s]
      show fX0_become_16b _ K q a (nI i) m
      unfold fX0_become_16b
      refine ⟨fun c => L2 zFU 0 m (by omega) (by unfold zFU; omega) hf hz, fun c => ?_⟩
      have hi : i < 3 := Nat.lt_of_not_le (fun g => c ((nI_leI (a := 3) (b := i) (by omega) (by omega)).mpr g))
      have hcl : (nI i).toNatClampNeg = i := nI_clamp (by omega)
      refine ⟨vp_in_nI (by omega) (by decide), fun q7 e7 => ⟨vp_in_nI (by omega) (by decide), fun q9 e9 => ?_⟩⟩
      rw [hcl] at e7 e9
      have e7 : q7 = q + 46 + 2 * i := by omega
      have e9 : q9 = a + 46 + 2 * i := by omega
      subst e7 e9
      refine zs_X1_become (by omega) (fun m1' f1 f2 f3 => ?_)
      intro x12 e12
      rw [e12, show nI i + (1 : Int32) = nI (i + 1) from nI_1 i]
      exact ih (i + 1) m1' (by omega) (by omega) (fun r g => by rw [f1 r (by omega) (by omega), hf r g]) (fun x hx => by rw [f1 _ (by omega) (by omega)]; exact hz x hx)
  exact L1 zFU 0 m1 (by omega) (by unfold zFU; omega) (fun r g => by rw [e1, zcp_ne (by omega)]) (fun i hi => by rw [e1, zcp_ne (by omega)]; exact hQ i hi)
/-- today's canteen has changed, and is still a canteen -/
def zY (m2 m : zMem) : Prop := (∀ a, ¬ (1 ≤ a ∧ a < 53) → m2 a = m a) ∧ zICan m2 1
theorem zY0 {m : zMem} (h : zICan m 1) : zY m m := ⟨fun _ _ => rfl, h⟩
def zPf (q : Nat) (m2 m : zMem) : Prop := (∀ a, ¬ (q ≤ a ∧ a < q + 3) → m2 a = m a) ∧ (z_b (m q 8) → z_b (m2 q 8))
theorem zPf0 {q : Nat} {m : zMem} : zPf q m m := ⟨fun _ _ => rfl, fun h => h⟩
theorem zPf_up {q a k : Nat} {x : Int32} {m2 m : zMem} (h : zPf q m2 m) (ha : q ≤ a ∧ a < q + 3) (hk : a ≠ q ∨ k ≠ 8) : zPf q (z_up m2 a k x) m := by
  refine ⟨fun r hr => by rw [zu_ne (by omega)]; exact h.1 r hr, fun g => ?_⟩
  by_cases e : a = q
  · subst e
    rw [zu_same, z_upd_ne (by omega)]
    exact h.2 g
  · rw [zu_ne (by omega)]
    exact h.2 g
theorem zPf_here {q : Nat} {x : Int32} {m2 m : zMem} (h : zPf q m2 m) (hx : z_b x) : zPf q (z_up m2 q 8 x) m :=
  ⟨fun r hr => by rw [zu_ne (by omega)]; exact h.1 r hr, fun _ => by rw [zu_same, z_upd_same]; exact hx⟩
theorem zPf_t {q : Nat} {m3 m2 m : zMem} (h : zPf q m3 m2) (h2 : zPf q m2 m) : zPf q m3 m :=
  ⟨fun a ha => by rw [h.1 a ha]; exact h2.1 a ha, fun g => h.2 (h2.2 g)⟩
theorem zY_P {i : Nat} {m3 m2 m : zMem} (h : zY m2 m) (hi : i < 14) (hp : zPf (5 + 3 * i) m3 m2) : zY m3 m := by
  obtain ⟨h0, ⟨P, hP, e1⟩, ⟨D, hD, e2⟩, hc, hb⟩ := h
  refine ⟨fun a ha => by rw [hp.1 a (by omega)]; exact h0 a ha, ⟨P, hP, by rw [hp.1 1 (by omega)]; exact e1⟩, ⟨D, hD, by rw [hp.1 1 (by omega)]; exact e2⟩, by rw [hp.1 1 (by omega)]; exact hc, fun x hx => ?_⟩
  by_cases e : x = i
  · subst e
    have := hp.2 (by have := hb x hx; rw [show 1 + 4 + 3 * x = 5 + 3 * x by omega] at this; exact this)
    rw [show 1 + 4 + 3 * x = 5 + 3 * x by omega]
    exact this
  · rw [hp.1 _ (by omega)]
    exact hb x hx
theorem zY_D {d : Nat} {m3 m2 m : zMem} (h : zY m2 m) (hd : d < 3) (hp : ∀ a, a ≠ 47 + 2 * d → a ≠ 48 + 2 * d → m3 a = m2 a) : zY m3 m := by
  obtain ⟨h0, ⟨P, hP, e1⟩, ⟨D, hD, e2⟩, hc, hb⟩ := h
  exact ⟨fun a ha => by rw [hp a (by omega) (by omega)]; exact h0 a ha, ⟨P, hP, by rw [hp 1 (by omega) (by omega)]; exact e1⟩, ⟨D, hD, by rw [hp 1 (by omega) (by omega)]; exact e2⟩, by rw [hp 1 (by omega) (by omega)]; exact hc, fun x hx => by rw [hp _ (by omega) (by omega)]; exact hb x hx⟩
theorem zY_2 {k : Nat} {x : Int32} {m2 m : zMem} (h : zY m2 m) : zY (z_up m2 2 k x) m := by
  obtain ⟨h0, ⟨P, hP, e1⟩, ⟨D, hD, e2⟩, hc, hb⟩ := h
  exact ⟨fun a ha => by rw [zu_ne (by omega)]; exact h0 a ha, ⟨P, hP, by rw [zu_ne (by omega)]; exact e1⟩, ⟨D, hD, by rw [zu_ne (by omega)]; exact e2⟩, by rw [zu_ne (by omega)]; exact hc, fun x hx => by rw [zu_ne (by omega)]; exact hb x hx⟩
theorem zY_3 {P : Nat} {x : Int32} {m2 m : zMem} (h : zY m2 m) (hP : P ≤ 14) (hx : x = nI P) : zY (z_up m2 1 3 x) m := by
  obtain ⟨h0, -, ⟨D, hD, e2⟩, hc, hb⟩ := h
  exact ⟨fun a ha => by rw [zu_ne (by omega)]; exact h0 a ha, ⟨P, hP, by rw [zu_same, z_upd_same]; exact hx⟩, ⟨D, hD, by rw [zu_same, z_upd_ne (by decide)]; exact e2⟩, by rw [zu_same, z_upd_ne (by decide)]; exact hc, fun x hx => by rw [zu_ne (by omega)]; exact hb x hx⟩
theorem zY_4 {D : Nat} {x : Int32} {m2 m : zMem} (h : zY m2 m) (hD : D ≤ 9999) (hx : x = nI D) : zY (z_up m2 1 4 x) m := by
  obtain ⟨h0, ⟨P, hP, e1⟩, -, hc, hb⟩ := h
  exact ⟨fun a ha => by rw [zu_ne (by omega)]; exact h0 a ha, ⟨P, hP, by rw [zu_same, z_upd_ne (by decide)]; exact e1⟩, ⟨D, hD, by rw [zu_same, z_upd_same]; exact hx⟩, by rw [zu_same, z_upd_ne (by decide)]; exact hc, fun x hx => by rw [zu_ne (by omega)]; exact hb x hx⟩
theorem zY_5 {x : Int32} {m2 m : zMem} (h : zY m2 m) (hx : z_b x) : zY (z_up m2 1 5 x) m := by
  obtain ⟨h0, ⟨P, hP, e1⟩, ⟨D, hD, e2⟩, hc, hb⟩ := h
  exact ⟨fun a ha => by rw [zu_ne (by omega)]; exact h0 a ha, ⟨P, hP, by rw [zu_same, z_upd_ne (by decide)]; exact e1⟩, ⟨D, hD, by rw [zu_same, z_upd_ne (by decide)]; exact e2⟩, by rw [zu_same, z_upd_same]; exact hx, fun x hx => by rw [zu_ne (by omega)]; exact hb x hx⟩
/-- what an act on today's canteen promises -/
def zCt (F : (Int32 → zMem → Prop) → Prop) (m : zMem) : Prop := ∀ K : Int32 → zMem → Prop, (∀ r m2, zY m2 m → K r m2) → F K
-- a person
theorem zc_start {q : Nat} {m : zMem} {K : zMem → Prop} (h : ∀ m2, zPf q m2 m → K m2) : fX5_start q m K := by
  unfold fX5_start
  have L : ∀ (n i : Nat) (μ : zMem), i ≤ 5 → 5 - i < n → zPf q μ m → fX5_start_2 K q n (nI i) μ := by
    intro n
    induction n with
    | zero => intro i μ g1 g2; omega
    | succ n ih =>
      intro i μ g1 g2 g3
      show fX5_start_2b (fX5_start_2 K q n) K q (nI i) μ
      unfold fX5_start_2b
      refine ⟨fun _ m2 e2 m3 e3 m4 e4 m5 e5 m6 e6 m7 e7 m8 e8 => ?_, fun c => ?_⟩
      · rw [e8]
        refine h _ (zPf_here ?_ (Or.inl rfl))
        rw [e7]
        refine zPf_up ?_ (by omega) (by omega)
        rw [e6]
        refine zPf_up ?_ (by omega) (by omega)
        rw [e5]
        refine zPf_up ?_ (by omega) (by omega)
        rw [e4]
        refine zPf_up ?_ (by omega) (by omega)
        rw [e3]
        refine zPf_up ?_ (by omega) (by omega)
        rw [e2]
        exact zPf_up g3 (by omega) (by omega)
      · have hi : i < 5 := Nat.lt_of_not_le (fun g => c ((nI_leI (a := 5) (b := i) (by decide) (by omega)).mpr g))
        refine ⟨vp_in_nI hi (by decide), fun m10 e10 => ⟨vp_in_nI hi (by decide), fun m12 e12 x13 e13 => ?_⟩⟩
        rw [e13, nI_1]
        refine ih (i + 1) m12 (by omega) (by omega) ?_
        rw [e12]
        refine zPf_up ?_ (by omega) (Or.inl (by omega))
        rw [e10]
        exact zPf_up g3 (by omega) (Or.inl (by omega))
  exact L zFU 0 m (by omega) (by unfold zFU; omega) zPf0
theorem zc_receive {q : Nat} {x : Int32} {m : zMem} {K : Int32 → zMem → Prop} (h : ∀ r m2, zPf q m2 m → K r m2) : fX5_receive q x m K := by
  unfold fX5_receive
  intro x1 _ x2 _ m3 e3
  refine h _ _ ?_
  rw [e3]
  exact zPf_up zPf0 (by omega) (by omega)
theorem zc_pay {q k : Nat} {b c : Int32} {m : zMem} {K : Int32 → zMem → Prop} (hk : k < 5) (h : ∀ r m2, zPf q m2 m → K r m2) : fX5_pay q (nI k) b c m K := by
  unfold fX5_pay
  refine ⟨vp_in_nI hk (by decide), fun m2 e2 => ⟨vp_in_nI hk (by decide), fun m4 e4 x5 _ m6 e6 => h _ _ ?_⟩⟩
  rw [e6]
  refine zPf_up ?_ (by omega) (by omega)
  rw [e4]
  refine zPf_up ?_ (by omega) (Or.inl (by omega))
  rw [e2]
  exact zPf_up zPf0 (by omega) (Or.inl (by omega))
theorem zc_hasOrder {q k : Nat} {m : zMem} {K : Int32 → zMem → Prop} (hk : k < 5) (h : ∀ r, K r m) : fX5_hasOrder q (nI k) m K := by
  unfold fX5_hasOrder fX5_hasOrder_16
  exact ⟨vp_in_nI hk (by decide), fun x2 _ => ⟨fun _ => ⟨Or.inl rfl, h _⟩, fun _ => ⟨Or.inr rfl, h _⟩⟩⟩
theorem zc_comeWith {q : Nat} {m : zMem} {K : zMem → Prop} (h : ∀ m2, zPf q m2 m → K m2) : fX5_comeWithOrder q m K := by
  unfold fX5_comeWithOrder
  intro m1 e1 x2 _ m3 e3 m4 e4
  refine h _ ?_
  rw [e4]
  refine zPf_up ?_ (by omega) (by omega)
  rw [e3]
  refine zPf_up ?_ (by omega) (by omega)
  rw [e1]
  exact zPf_here zPf0 (Or.inr rfl)
theorem zc_stayAway {q : Nat} {m : zMem} {K : zMem → Prop} (h : ∀ m2, zPf q m2 m → K m2) : fX5_stayAway q m K := by
  unfold fX5_stayAway
  intro x1 _ m2 e2 x3 _ m4 e4
  refine h _ ?_
  rw [e4]
  refine zPf_up ?_ (by omega) (by omega)
  rw [e2]
  exact zPf_up zPf0 (by omega) (by omega)
theorem zc_judge {q : Nat} {a b : Int32} {m : zMem} {K : zMem → Prop} (h : ∀ m2, zPf q m2 m → K m2) : fX5_judge q a b m K := by
  unfold fX5_judge fX5_judge_25
  refine ⟨fun _ => h _ zPf0, fun _ x2 _ m3 e3 m4 e4 => h _ ?_⟩
  rw [e4]
  refine zPf_up ?_ (by omega) (by omega)
  rw [e3]
  exact zPf_up zPf0 (by omega) (by omega)
theorem zc_startDay {q : Nat} {m : zMem} {K : zMem → Prop} (h : ∀ m2, zPf q m2 m → K m2) : fX5_startDay q m K := by
  unfold fX5_startDay
  have L : ∀ (n i : Nat) (μ : zMem), 1 ≤ i → i ≤ 5 → 5 - i < n → zPf q μ m → fX5_startDay_2 K q n (nI i) μ := by
    intro n
    induction n with
    | zero => intro i μ g0 g1 g2; omega
    | succ n ih =>
      intro i μ g0 g1 g2 g3
      show fX5_startDay_2b (fX5_startDay_2 K q n) K q (nI i) μ
      unfold fX5_startDay_2b
      refine ⟨fun _ m2 e2 m3 e3 => ?_, fun c => ?_⟩
      · rw [e3]
        refine h _ (zPf_here ?_ (Or.inl rfl))
        rw [e2]
        exact zPf_up g3 (by omega) (by omega)
      · have hi : i < 5 := Nat.lt_of_not_le (fun g => c ((nI_leI (a := 5) (b := i) (by decide) (by omega)).mpr g))
        intro x4 e4
        rw [zq1, pk_sub g0] at e4
        refine ⟨vp_in_nI hi (by decide), fun x6 e6 => ⟨by rw [e4]; exact vp_in_nI (by omega) (by decide), fun m8 e8 x9 e9 => ⟨vp_in_nI hi (by decide), fun x11 e11 => ?_⟩⟩⟩
        rw [zq1, pk_sub g0] at e9
        refine ⟨by rw [e9]; exact vp_in_nI (by omega) (by decide), fun m13 e13 x14 e14 => ?_⟩
        rw [e14, nI_1]
        refine ih (i + 1) m13 (by omega) (by omega) (by omega) ?_
        rw [e13]
        refine zPf_up ?_ (by omega) (Or.inl (by omega))
        rw [e8]
        exact zPf_up g3 (by omega) (Or.inl (by omega))
  exact L zFU 1 m (by omega) (by omega) (by unfold zFU; omega) zPf0
theorem zc_doubt {q : Nat} {m : zMem} {K : Int32 → zMem → Prop} (h : ∀ r, K r m) : fX5_doubt q m K := by
  unfold fX5_doubt fX5_timesOrdered fX5_doubt_22
  exact fun x1 _ => ⟨fun g x4 _ => ⟨g, fun x6 _ => h _⟩, fun _ => h _⟩
theorem zc_isMissing {q : Nat} {m : zMem} {K : Int32 → zMem → Prop} (h : ∀ r, K r m) : fX5_isMissing q m K := by
  unfold fX5_isMissing fX5_isMissing_19 fX5_isMissing_20
  exact zc_hasOrder (k := 0) (by decide) (fun r => ⟨fun _ => ⟨Or.inl rfl, h _⟩, fun _ => ⟨fun _ => ⟨Or.inl rfl, h _⟩, fun _ => ⟨Or.inr rfl, h _⟩⟩⟩)
theorem zc_priceOf {d k D : Nat} {m : zMem} {K : Int32 → zMem → Prop} (hd : d < 3) (hk : k < 5) (hD : D ≤ 9999) (e : m 1 4 = nI D) (h : ∀ r, K r m) : fX0_priceOf 1 (nI d) (nI k) m K := by
  unfold fX0_priceOf
  have e5 : (D + k) % 5 < 5 := Nat.mod_lt _ (by decide)
  refine ⟨vp_in_nI hd (by decide), fun q2 e2 x3 e3 x4 e4 => ?_⟩
  rw [e, nI_add] at e3
  rw [e3, zq5, pk_rem (by omega) (by decide) (by decide)] at e4
  exact ⟨by rw [e4]; exact vp_in_nI e5 (by decide), fun x6 _ => h _⟩
-- a dish
theorem zc_give {q : Nat} {m : zMem} {K : zMem → Prop} (h : ∀ m2, (∀ a, a ≠ q → m2 a = m a) → K m2) : fX1_give q m K := by
  unfold fX1_give fX1_give_30
  refine ⟨fun _ x4 _ m5 e5 x1 _ m2 e2 => h _ (fun a ha => ?_), fun _ x4 _ m5 e5 x1 _ m2 e2 => h _ (fun a ha => ?_)⟩
  · rw [e2, zu_ne ha, e5, zu_ne ha]
  · rw [e2, zu_ne ha, e5, zu_ne ha]
theorem zc_fill {q : Nat} {x : Int32} {m : zMem} {K : zMem → Prop} (h : ∀ m2, (∀ a, a ≠ q → m2 a = m a) → K m2) : fX1_fill q x m K := by
  unfold fX1_fill
  refine fun m1 e1 x2 _ m3 e3 => h _ (fun a ha => ?_)
  rw [e3, zu_ne ha, e1, zu_ne ha]
theorem zc_clearUp {q : Nat} {x : Int32} {m : zMem} {K : zMem → Prop} (h : ∀ m2, (∀ a, a ≠ q → m2 a = m a) → K m2) : fX1_clearUp q x m K := by
  unfold fX1_clearUp
  refine fun x1 _ x2 _ x3 _ x4 _ m5 e5 m6 e6 m7 e7 => h _ (fun a ha => ?_)
  rw [e7, zu_ne ha, e6, zu_ne ha, e5, zu_ne ha]
