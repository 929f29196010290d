/-! acts on today's canteen: parts -/
/-- only person j's rows differ -/
def zOp (j : Nat) (m μ : zMem) : Prop := ∀ a, a ≠ 5 + 3 * j → a ≠ 6 + 3 * j → a ≠ 7 + 3 * j → m a = μ a
theorem zOp0 {j : Nat} {μ : zMem} : zOp j μ μ := fun _ _ _ _ => rfl
theorem zOp_t {j : Nat} {m2 m μ : zMem} (h : zOp j m2 m) (h2 : zOp j m μ) : zOp j m2 μ := fun a h3 h4 h5 => (h a h3 h4 h5).trans (h2 a h3 h4 h5)
theorem zV_per {n P D c ee j : Nat} {m μ : zMem} (hV : zV n P D c ee μ) (hj : j < P) (he : zOp j m μ) (hp : zPe n (m (5 + 3 * j)) (m (6 + 3 * j)) (m (7 + 3 * j))) (h7 : m (5 + 3 * j) 7 = μ (5 + 3 * j) 7) : zV n P D c ee m := by
  obtain ⟨⟨h1, h2, h3, h4, h5, h6, h0⟩, h8, h9, h10, h11⟩ := hV
  refine ⟨⟨h1, h2, h3, h4, by rw [he 1 (by omega) (by omega) (by omega)]; exact h5, by rw [he 1 (by omega) (by omega) (by omega)]; exact h6, by rw [he 1 (by omega) (by omega) (by omega)]; exact h0⟩, by rw [he 2 (by omega) (by omega) (by omega)]; exact h8, fun i hi => ?_, fun d hd => ?_, ?_⟩
  · by_cases e : i = j
    · subst e
      exact hp
    · rw [he _ (by omega) (by omega) (by omega), he (6 + 3 * i) (by omega) (by omega) (by omega), he (7 + 3 * i) (by omega) (by omega) (by omega)]
      exact h9 i hi
  · rw [he _ (by omega) (by omega) (by omega), he (48 + 2 * d) (by omega) (by omega) (by omega)]
    exact h10 d hd
  · rw [he 47 (by omega) (by omega) (by omega), he 49 (by omega) (by omega) (by omega), he 51 (by omega) (by omega) (by omega), ← h11]
    refine zSum_cg (fun i hi => ?_)
    by_cases e : i = j
    · subst e
      exact h7
    · rw [he _ (by omega) (by omega) (by omega)]
/-- a plate is given to person j out of dish d -/
theorem zV_meal {n P D c ee j d : Nat} {m μ : zMem} (hV : zV n P D c ee μ) (hj : j < P) (hd : d < 3) (he : ∀ a, a ≠ 5 + 3 * j → a ≠ 6 + 3 * j → a ≠ 7 + 3 * j → a ≠ 47 + 2 * d → m a = μ a) (hp : zPe n (m (5 + 3 * j)) (m (6 + 3 * j)) (m (7 + 3 * j))) (h7 : m (5 + 3 * j) 7 = μ (5 + 3 * j) 7 + 1) (hdi : zDi ee (m (47 + 2 * d)) (μ (48 + 2 * d))) (h4d : m (47 + 2 * d) 4 = μ (47 + 2 * d) 4 + 1) : zV n P D c ee m := by
  obtain ⟨⟨h1, h2, h3, h4, h5, h6, h0⟩, h8, h9, h10, h11⟩ := hV
  refine ⟨⟨h1, h2, h3, h4, by rw [he 1 (by omega) (by omega) (by omega) (by omega)]; exact h5, by rw [he 1 (by omega) (by omega) (by omega) (by omega)]; exact h6, by rw [he 1 (by omega) (by omega) (by omega) (by omega)]; exact h0⟩, by rw [he 2 (by omega) (by omega) (by omega) (by omega)]; exact h8, fun i hi => ?_, fun x hx => ?_, ?_⟩
  · by_cases e : i = j
    · subst e
      exact hp
    · rw [he _ (by omega) (by omega) (by omega) (by omega), he (6 + 3 * i) (by omega) (by omega) (by omega) (by omega), he (7 + 3 * i) (by omega) (by omega) (by omega) (by omega)]
      exact h9 i hi
  · by_cases e : x = d
    · subst e
      rw [he (48 + 2 * x) (by omega) (by omega) (by omega) (by omega)]
      exact hdi
    · rw [he _ (by omega) (by omega) (by omega) (by omega), he (48 + 2 * x) (by omega) (by omega) (by omega) (by omega)]
      exact h10 x hx
  · have hs := zSum_up (f := fun i => μ (5 + 3 * i) 7) (g := fun i => m (5 + 3 * i) 7) (x := 1) hj (fun i hi hne => by show m (5 + 3 * i) 7 = μ (5 + 3 * i) 7; rw [he _ (by omega) (by omega) (by omega) (by omega)]) h7
    rw [hs, h11]
    rcases (show d = 0 ∨ d = 1 ∨ d = 2 by omega) with rfl | rfl | rfl
    · have g : m 47 4 = μ 47 4 + 1 := h4d
      rw [g, he 49 (by omega) (by omega) (by omega) (by omega), he 51 (by omega) (by omega) (by omega) (by omega)]
      grind
    · have g : m 49 4 = μ 49 4 + 1 := h4d
      rw [g, he 47 (by omega) (by omega) (by omega) (by omega), he 51 (by omega) (by omega) (by omega) (by omega)]
      grind
    · have g : m 51 4 = μ 51 4 + 1 := h4d
      rw [g, he 47 (by omega) (by omega) (by omega) (by omega), he 49 (by omega) (by omega) (by omega) (by omega)]
      grind
theorem zx_receive {q : Nat} {x : Int32} {μ : zMem} {K : Int32 → zMem → Prop} (h : K (z_min (30 : Int32) (μ q 2 + x)) (z_up μ q 2 (z_min (30 : Int32) (μ q 2 + x)))) : fX5_receive q x μ K := by
  unfold fX5_receive
  intro x1 e1 x2 e2 m3 e3
  rw [e3, zu_same, z_upd_same, e2, e1]
  exact h
theorem zx_stay {q : Nat} {μ : zMem} {K : zMem → Prop} (h : ∀ m, (∀ a, a ≠ q → m a = μ a) → (∀ k, k ≠ 3 → k ≠ 6 → m q k = μ q k) → m q 6 = μ q 6 + 1 → m q 3 = μ q 3 + 1 → K m) : fX5_stayAway q μ K := by
  unfold fX5_stayAway
  intro x1 e1 m2 e2 x3 e3 m4 e4
  refine h m4 (fun a ha => by rw [e4, zu_ne ha, e2, zu_ne ha]) (fun k h3 h6 => by rw [e4, zu_same, z_upd_ne h3, e2, zu_same, z_upd_ne h6]) ?_ ?_
  · rw [e4, zu_same, z_upd_ne (by decide), e2, zu_same, z_upd_same, e1]
  · rw [e4, zu_same, z_upd_same, e3, e2, zu_same, z_upd_ne (by decide)]
theorem zx_judge {q : Nat} {a b : Int32} {μ : zMem} {K : zMem → Prop} (h : ∀ m, (∀ a, a ≠ q → m a = μ a) → (∀ k, k ≠ 3 → k ≠ 4 → m q k = μ q k) → (m q 3 = μ q 3 ∨ m q 3 = 0) → K m) : fX5_judge q a b μ K := by
  unfold fX5_judge fX5_judge_25
  refine ⟨fun _ => h μ (fun _ _ => rfl) (fun _ _ _ => rfl) (Or.inl rfl), fun _ x2 _ m3 e3 m4 e4 => ?_⟩
  refine h m4 (fun a ha => by rw [e4, zu_ne ha, e3, zu_ne ha]) (fun k h3 h6 => by rw [e4, zu_same, z_upd_ne h3, e3, zu_same, z_upd_ne h6]) (Or.inr ?_)
  rw [e4, zu_same, z_upd_same]
theorem zx_startDay {q : Nat} {μ : zMem} {K : zMem → Prop} (h : ∀ m, (∀ a, a ≠ q → a ≠ q + 1 → a ≠ q + 2 → m a = μ a) → (∀ k, k ≠ 8 → m q k = μ q k) → m q 8 = 0 → (∀ a, a < 5 → m (q + 1) a = (-6 : Int32) ∨ ∃ b, b < 5 ∧ m (q + 1) a = μ (q + 1) b) → (∀ a, a < 5 → ∃ b, b < 5 ∧ m (q + 2) a = μ (q + 2) b) → K m) : fX5_startDay q μ K := by
  unfold fX5_startDay
  have L : ∀ (n i : Nat) (m : zMem), 1 ≤ i → i ≤ 5 → 5 - i < n → (∀ a, a ≠ q + 1 → a ≠ q + 2 → m a = μ a) → (∀ a, a < 5 → ∃ b, b < 5 ∧ m (q + 1) a = μ (q + 1) b) → (∀ a, a < 5 → ∃ b, b < 5 ∧ m (q + 2) a = μ (q + 2) b) → fX5_startDay_2 K q n (nI i) m := by
    intro n
    induction n with
    | zero => intro i m g0 g1 g2; omega
    | succ n ih =>
      intro i m g0 g1 g2 hf hg hh
      show fX5_startDay_2b (fX5_startDay_2 K q n) K q (nI i) m
      unfold fX5_startDay_2b
      refine pk_le 5 i (fun _ m2 e2 m3 e3 => ?_) (fun hi => ?_)
      · refine h m3 (fun a h1 h2 h3 => by rw [e3, zu_ne h1, e2, zu_ne h2]; exact hf a h2 h3) (fun k hk => ?_) (by rw [e3, zu_same, z_upd_same]) (fun a ha => ?_) (fun a ha => ?_)
        · rw [e3, zu_same, z_upd_ne hk, e2, zu_ne (by omega), hf q (by omega) (by omega)]
        · rw [e3, zu_ne (by omega), e2, zu_same]
          by_cases e : a = 4
          · subst e
            exact Or.inl z_upd_same
          · rw [z_upd_ne e]
            exact Or.inr (hg a ha)
        · rw [e3, zu_ne (by omega), e2, zu_ne (by omega)]
          exact hh a ha
      · intro x4 e4
        rw [show (1 : Int32) = nI 1 from rfl, pk_sub g0] at e4
        refine ⟨vp_in_nI hi (by decide), fun x6 e6 => ⟨by rw [e4]; exact vp_in_nI (by omega) (by decide), fun m8 e8 x9 e9 => ⟨vp_in_nI hi (by decide), fun x11 e11 => ?_⟩⟩⟩
        rw [show (1 : Int32) = nI 1 from rfl, pk_sub g0] at e9
        refine ⟨by rw [e9]; exact vp_in_nI (by omega) (by decide), fun m13 e13 x14 e14 => ?_⟩
        rw [e14, nI_1]
        rw [nI_clamp (by omega)] at e6 e11
        refine ih (i + 1) m13 (by omega) (by omega) (by omega) (fun a h1 h2 => by rw [e13, zu_ne h2, e8, zu_ne h1]; exact hf a h1 h2) (fun a ha => ?_) (fun a ha => ?_)
        · rw [e13, zu_ne (by omega), e8, zu_same]
          by_cases e : a = x4.toNatClampNeg
          · subst e
            rw [z_upd_same, e6]
            exact hg i hi
          · rw [z_upd_ne e]
            exact hg a ha
        · rw [e13, zu_same]
          by_cases e : a = x9.toNatClampNeg
          · subst e
            rw [z_upd_same, e11, e8, zu_ne (by omega)]
            exact hh i hi
          · rw [z_upd_ne e, e8, zu_ne (by omega)]
            exact hh a ha
  exact L zFU 1 μ (by omega) (by omega) (by unfold zFU; omega) (fun _ _ _ => rfl) (fun a ha => ⟨a, ha, rfl⟩) (fun a ha => ⟨a, ha, rfl⟩)
theorem zx_come {q : Nat} {μ : zMem} {K : zMem → Prop} (h : ∀ m, (∀ a, a ≠ q → m a = μ a) → (∀ k, k ≠ 3 → k ≠ 5 → k ≠ 8 → m q k = μ q k) → m q 3 = 0 → m q 5 = μ q 5 + 1 → m q 8 = 1 → K m) : fX5_comeWithOrder q μ K := by
  unfold fX5_comeWithOrder
  intro m1 e1 x2 e2 m3 e3 m4 e4
  refine h m4 (fun a ha => by rw [e4, zu_ne ha, e3, zu_ne ha, e1, zu_ne ha]) (fun k h3 h5 h8 => by rw [e4, zu_same, z_upd_ne h3, e3, zu_same, z_upd_ne h5, e1, zu_same, z_upd_ne h8]) ?_ ?_ ?_
  · rw [e4, zu_same, z_upd_same]
  · rw [e4, zu_same, z_upd_ne (by decide), e3, zu_same, z_upd_same, e2, e1, zu_same, z_upd_ne (by decide)]
  · rw [e4, zu_same, z_upd_ne (by decide), e3, zu_same, z_upd_ne (by decide), e1, zu_same, z_upd_same]
/-- a plate is given -/
theorem zx_giveP {c q : Nat} {g : Nat → Int32} {μ : zMem} {K : zMem → Prop} (hd : zDi c (μ q) g) (hc : ¬ c = 0) (hl : ¬ μ q 1 + μ q 2 = 0) (h : ∀ m, (∀ a, a ≠ q → m a = μ a) → zDi c (m q) g → m q 4 = μ q 4 + 1 → K m) : fX1_give q μ K := by
  obtain ⟨⟨k, r, hk, hr, e1, e2, e3⟩, e4, e5⟩ := hd
  unfold fX1_give fX1_give_30
  rw [e1]
  refine pk_le k 0 (fun g0 x4 e4' m5 e5' x1 e6 m2 e7 => ?_) (fun g0 x6 e6' m7 e7' x1 e6 m2 e7 => ?_)
  · have hk0 : k = 0 := by omega
    have hr0 : 0 < r := by
      refine Nat.pos_of_ne_zero (fun z => hl ?_)
      rw [e1, e2, hk0, z]
      rfl
    have v2 : m2 q 2 = nI (r - 1) := by
      rw [e7, zu_same, z_upd_ne (by decide), e5', zu_same, z_upd_same, e4', e2, show (1 : Int32) = nI 1 from rfl, pk_sub hr0]
    have v4 : m2 q 4 = μ q 4 + 1 := by
      rw [e7, zu_same, z_upd_same, e6, e5', zu_same, z_upd_ne (by decide)]
    have vo : ∀ j, j ≠ 2 → j ≠ 4 → m2 q j = μ q j := fun j h1 h2 => by rw [e7, zu_same, z_upd_ne h2, e5', zu_same, z_upd_ne h1]
    refine h m2 (fun a ha => by rw [e7, zu_ne ha, e5', zu_ne ha]) ⟨⟨k, r - 1, hk, by omega, by rw [vo 1 (by decide) (by decide)]; exact e1, v2, fun z => absurd z hc⟩, ?_, e5⟩ v4
    have e2' : μ q 2 = m2 q 2 + 1 := by rw [v2, e2, nI_1]; congr 1; omega
    rw [vo 3 (by decide) (by decide), vo 1 (by decide) (by decide), vo 5 (by decide) (by decide), v4, e4, e2']
    grind
  · have v1 : m2 q 1 = nI (k - 1) := by
      rw [e7, zu_same, z_upd_ne (by decide), e7', zu_same, z_upd_same, e6', show (1 : Int32) = nI 1 from rfl, pk_sub g0]
    have v4 : m2 q 4 = μ q 4 + 1 := by
      rw [e7, zu_same, z_upd_same, e6, e7', zu_same, z_upd_ne (by decide)]
    have vo : ∀ j, j ≠ 1 → j ≠ 4 → m2 q j = μ q j := fun j h1 h2 => by rw [e7, zu_same, z_upd_ne h2, e7', zu_same, z_upd_ne h1]
    refine h m2 (fun a ha => by rw [e7, zu_ne ha, e7', zu_ne ha]) ⟨⟨k - 1, r, by omega, hr, v1, by rw [vo 2 (by decide) (by decide)]; exact e2, fun z => absurd z hc⟩, ?_, e5⟩ v4
    have e1' : μ q 1 = m2 q 1 + 1 := by rw [v1, e1, nI_1]; congr 1; omega
    rw [vo 3 (by decide) (by decide), vo 2 (by decide) (by decide), vo 5 (by decide) (by decide), v4, e4, e1']
    grind
theorem zx_clear {c q : Nat} {kp : Nat} {g : Nat → Int32} {μ : zMem} {K : zMem → Prop} (hd : zDi c (μ q) g) (hkp : kp ≤ 20) (h : ∀ m, (∀ a, a ≠ q → m a = μ a) → zDi 0 (m q) g → m q 4 = μ q 4 → m q 2 = 0 → (∃ k, k ≤ kp ∧ m q 1 = nI k) → K m) : fX1_clearUp q (nI kp) μ K := by
  obtain ⟨⟨k, r, hk, hr, e1, e2, e3⟩, e4, e5⟩ := hd
  unfold fX1_clearUp
  intro x1 f1 x2 f2 x3 f3 x4 f4 m5 f5 m6 f6 m7 f7
  rw [e2, zn_min (by omega) (by omega)] at f1
  have v1 : m7 q 1 = nI (min r kp) := by rw [f7, zu_same, z_upd_ne (by decide), f6, zu_same, z_upd_same, f1]
  have v2 : m7 q 2 = 0 := by rw [f7, zu_same, z_upd_same]
  have v5 : m7 q 5 = μ q 5 + (μ q 1 + μ q 2 - m7 q 1) := by rw [v1, ← f1, f7, zu_same, z_upd_ne (by decide), f6, zu_same, z_upd_ne (by decide), f5, zu_same, z_upd_same, f4, f3, f2]
  have vo : ∀ j, j ≠ 1 → j ≠ 2 → j ≠ 5 → m7 q j = μ q j := fun j h1 h2 h5 => by rw [f7, zu_same, z_upd_ne h2, f6, zu_same, z_upd_ne h1, f5, zu_same, z_upd_ne h5]
  refine h m7 (fun a ha => by rw [f7, zu_ne ha, f6, zu_ne ha, f5, zu_ne ha]) ⟨⟨min r kp, 0, by omega, by omega, v1, v2, fun _ => rfl⟩, ?_, e5⟩ (vo 4 (by decide) (by decide) (by decide)) v2 ⟨min r kp, Nat.min_le_right _ _, v1⟩
  rw [vo 3 (by decide) (by decide) (by decide), vo 4 (by decide) (by decide) (by decide), v5, v2, e4]
  grind
