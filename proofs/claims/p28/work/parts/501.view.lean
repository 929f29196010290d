/-! what today's canteen keeps to, and what its questions answer -/
/-- a person: f the numbers, g the dishes that are ordered, h what was paid -/
def zPe (n : Nat) (f g h : Nat → Int32) : Prop :=
  (∃ v, v ≤ 30 ∧ f 2 = nI v) ∧ (∃ s t c, s ≤ t ∧ t ≤ n ∧ c ≤ n ∧ f 3 = nI s ∧ f 6 = nI t ∧ f 5 = nI c) ∧ z_b (f 8) ∧
  (∀ a, a < 5 → g a = (-6 : Int32) ∨ ∃ d, d < 3 ∧ g a = nI d) ∧ ∀ a, a < 5 → ∃ p, p ≤ 3 ∧ h a = nI p
/-- a dish: f the numbers, g the prices -/
def zDi (c : Nat) (f g : Nat → Int32) : Prop :=
  (∃ k r, k ≤ 20 ∧ r ≤ 30 ∧ f 1 = nI k ∧ f 2 = nI r ∧ (c = 0 → r = 0)) ∧ f 3 = f 4 + f 5 + f 1 + f 2 ∧ ∀ w, w < 5 → ∃ p, 1 ≤ p ∧ p ≤ 3 ∧ g w = nI p
def zSe (f : Nat → Int32) : Prop :=
  (∃ a, a ≤ 9 ∧ f 0 = nI a) ∧ (∃ a, a ≤ 20 ∧ f 1 = nI a) ∧ (∃ a, 1 ≤ a ∧ a ≤ 9 ∧ f 2 = nI a) ∧ ∃ a, 1 ≤ a ∧ a ≤ 20 ∧ f 3 = nI a
def zV (n P D c ee : Nat) (μ : zMem) : Prop :=
  (P ≤ 14 ∧ D ≤ n ∧ n ≤ 60 ∧ c ≤ 1 ∧ μ 1 3 = nI P ∧ μ 1 4 = nI D ∧ μ 1 5 = nI c) ∧ zSe (μ 2) ∧
  (∀ i, i < P → zPe n (μ (5 + 3 * i)) (μ (6 + 3 * i)) (μ (7 + 3 * i))) ∧
  (∀ d, d < 3 → zDi ee (μ (47 + 2 * d)) (μ (48 + 2 * d))) ∧
  zSum (fun i => μ (5 + 3 * i) 7) P = μ 47 4 + μ 49 4 + μ 51 4
theorem zV_cg {n P D c ee : Nat} {μ m : zMem} (h : zV n P D c ee μ) (he : ∀ a, 1 ≤ a → a < 53 → m a = μ a) : zV n P D c ee m := by
  obtain ⟨⟨h1, h2, h3, h4, h5, h6, h7⟩, h8, h9, h10, h11⟩ := h
  refine ⟨⟨h1, h2, h3, h4, by rw [he 1 (by omega) (by omega)]; exact h5, by rw [he 1 (by omega) (by omega)]; exact h6, by rw [he 1 (by omega) (by omega)]; exact h7⟩, by rw [he 2 (by omega) (by omega)]; exact h8, fun i hi => ?_, fun d hd => ?_, ?_⟩
  · rw [he _ (by omega) (by omega), he (6 + 3 * i) (by omega) (by omega), he (7 + 3 * i) (by omega) (by omega)]
    exact h9 i hi
  · rw [he _ (by omega) (by omega), he (48 + 2 * d) (by omega) (by omega)]
    exact h10 d hd
  · rw [he 47 (by omega) (by omega), he 49 (by omega) (by omega), he 51 (by omega) (by omega), ← h11]
    exact zSum_cg (fun i hi => by rw [he _ (by omega) (by omega)])
theorem zPe_mono {n n2 : Nat} {f g h : Nat → Int32} (hn : n ≤ n2) (H : zPe n f g h) : zPe n2 f g h := by
  obtain ⟨h1, ⟨s, t, c, h2, h3, h4, h5⟩, h6⟩ := H
  exact ⟨h1, ⟨s, t, c, h2, by omega, by omega, h5⟩, h6⟩
theorem zV_mono {n n2 P D c ee : Nat} {μ : zMem} (hn : n ≤ n2) (h2 : n2 ≤ 60) (h : zV n P D c ee μ) : zV n2 P D c ee μ := by
  obtain ⟨⟨a1, a2, a3, a4⟩, h8, h9, h10⟩ := h
  exact ⟨⟨a1, by omega, h2, a4⟩, h8, fun i hi => zPe_mono hn (h9 i hi), h10⟩
theorem zV_can {n P D c ee : Nat} {μ : zMem} (h : zV n P D c ee μ) : zICan μ 1 := by
  obtain ⟨⟨h1, h2, h3, h4, h5, h6, h7⟩, h8, h9, h10, h11⟩ := h
  refine ⟨⟨P, h1, h5, fun i hi => ?_⟩, ⟨D, by omega, h6⟩, ?_⟩
  · have := (h9 i hi).2.2.1
    rw [show 1 + 4 + 3 * i = 5 + 3 * i by omega]
    exact this
  · rw [h7]
    rcases (show c = 0 ∨ c = 1 by omega) with rfl | rfl
    · exact Or.inl rfl
    · exact Or.inr rfl
/-- the address of a person, of a dish -/
theorem zq_p {j q : Nat} (hj : j < 14) (e : q = (1 + 2) + 2 + 3 * (nI j).toNatClampNeg) : q = 5 + 3 * j := by
  rw [nI_clamp (by omega)] at e
  omega
theorem zq_d {j q : Nat} (hj : j < 3) (e : q = (1 + 3) + 43 + 2 * (nI j).toNatClampNeg) : q = 47 + 2 * j := by
  rw [nI_clamp (by omega)] at e
  omega
theorem zx_hasP {n P D c ee j : Nat} {μ : zMem} {K : Int32 → zMem → Prop} (hV : zV n P D c ee μ) (hj : j < P) (h : K 1 μ) : fX0_hasPerson 1 (nI j) μ K :=
  zs_hasPerson hV.1.2.2.2.2.1 hV.1.1 (fun _ _ _ => h) (fun g => absurd rfl (g j hj))
theorem zx_hasD {d : Nat} {μ : zMem} {K : Int32 → zMem → Prop} (hd : d < 3) (h : K 1 μ) : fX0_hasDish 1 (nI d) μ K :=
  zs_hasDish (fun _ _ _ => h) (fun g => absurd rfl (g d hd))
theorem zx_isA {k : Nat} {μ : zMem} {K : Int32 → zMem → Prop} (hk : k < 5) (h : K 1 μ) : fX0_isAhead 1 (nI k) μ K :=
  zs_isAhead (fun _ _ _ => h) (fun g => absurd rfl (g k hk))
theorem zx_hasO {q k : Nat} {μ : zMem} {K : Int32 → zMem → Prop} (hk : k < 5) (h0 : μ (q + 1) k = (-6 : Int32) → K 0 μ) (h1 : ¬ μ (q + 1) k = (-6 : Int32) → K 1 μ) : fX5_hasOrder q (nI k) μ K := by
  unfold fX5_hasOrder fX5_hasOrder_16
  refine ⟨vp_in_nI hk (by decide), fun x2 e2 => ?_⟩
  rw [nI_clamp (by omega)] at e2
  rw [e2]
  exact ⟨fun g => ⟨z_b0, h0 g⟩, fun g => ⟨z_b1, h1 g⟩⟩
theorem zx_priceOf {n P D c ee d k : Nat} {μ : zMem} {K : Int32 → zMem → Prop} (hV : zV n P D c ee μ) (hd : d < 3) (hk : k < 5) (h : K (μ (48 + 2 * d) ((D + k) % 5)) μ) : fX0_priceOf 1 (nI d) (nI k) μ K := by
  have e := hV.1.2.2.2.2.2.1
  have hD := hV.1.2.1
  have hn := hV.1.2.2.1
  unfold fX0_priceOf
  have e5 : (D + k) % 5 < 5 := Nat.mod_lt _ (by decide)
  refine ⟨vp_in_nI hd (by decide), fun q2 e2 x3 e3 x4 e4 => ?_⟩
  rw [e, nI_add] at e3
  rw [e3, show (5 : Int32) = nI 5 from rfl, pk_rem (by omega) (by decide) (by decide)] at e4
  rw [e4]
  refine ⟨vp_in_nI e5 (by decide), fun x6 e6 => ?_⟩
  rw [nI_clamp (by omega), zq_d hd e2, show 47 + 2 * d + 1 = 48 + 2 * d by omega] at e6
  rw [e6]
  exact h
theorem zV_price {n P D c ee d w : Nat} {μ : zMem} (hV : zV n P D c ee μ) (hd : d < 3) (hw : w < 5) : ∃ p, 1 ≤ p ∧ p ≤ 3 ∧ μ (48 + 2 * d) w = nI p := (hV.2.2.2.1 d hd).2.2 w hw
/-- the doubt, in hundredths -/
def zdb (μ : zMem) (i : Nat) : Nat := 100 * (μ (5 + 3 * i) 6).toNatClampNeg / ((μ (5 + 3 * i) 5).toNatClampNeg + (μ (5 + 3 * i) 6).toNatClampNeg)
def ztm (μ : zMem) (i : Nat) : Nat := (μ (5 + 3 * i) 5).toNatClampNeg + (μ (5 + 3 * i) 6).toNatClampNeg
theorem zdb_le {n P D c ee i : Nat} {μ : zMem} (hV : zV n P D c ee μ) (hi : i < P) : zdb μ i ≤ 100 := by
  unfold zdb
  by_cases h0 : (μ (5 + 3 * i) 5).toNatClampNeg + (μ (5 + 3 * i) 6).toNatClampNeg = 0
  · rw [h0, Nat.div_zero]
    omega
  · refine Nat.div_le_of_le_mul ?_
    have : 100 * (μ (5 + 3 * i) 6).toNatClampNeg ≤ 100 * ((μ (5 + 3 * i) 5).toNatClampNeg + (μ (5 + 3 * i) 6).toNatClampNeg) := by omega
    rw [Nat.mul_comm] at this ⊢
    rw [Nat.mul_comm _ 100]
    omega
theorem ztm_eq {n P D c ee i : Nat} {μ : zMem} (hV : zV n P D c ee μ) (hi : i < P) : ztm μ i ≤ 120 ∧ μ (5 + 3 * i) 5 + μ (5 + 3 * i) 6 = nI (ztm μ i) := by
  obtain ⟨s, t, k, h1, h2, h3, h4, h5, h6⟩ := (hV.2.2.1 i hi).2.1
  have hn := hV.1.2.2.1
  unfold ztm
  rw [h5, h6, nI_clamp (by omega), nI_clamp (by omega), nI_add]
  exact ⟨by omega, rfl⟩
/-- the doubt as the class and the law count it -/
theorem zdb_eq {n P D c ee i : Nat} {μ : zMem} (hV : zV n P D c ee μ) (hi : i < P) : (∀ x : Int32, ¬ nI (ztm μ i) = 0 → x = ((100 : Int32) * μ (5 + 3 * i) 6) / nI (ztm μ i) → x = nI (zdb μ i)) ∧ (nI (ztm μ i) = 0 → zdb μ i = 0) := by
  obtain ⟨s, t, k, h1, h2, h3, h4, h5, h6⟩ := (hV.2.2.1 i hi).2.1
  have hn := hV.1.2.2.1
  have e1 : ztm μ i = k + t := by unfold ztm; rw [h5, h6, nI_clamp (by omega), nI_clamp (by omega)]
  have e2 : zdb μ i = 100 * t / (k + t) := by unfold zdb; rw [h5, h6, nI_clamp (by omega), nI_clamp (by omega)]
  rw [e1, e2]
  refine ⟨fun x g e => ?_, fun g => ?_⟩
  · have h0 : 0 < k + t := Nat.pos_of_ne_zero (fun z => g (by rw [z]; rfl))
    rw [e, h5, show (100 : Int32) = nI 100 from rfl, pk_mul, pk_div (by omega) h0 (by omega)]
  · have h0 : k + t = 0 := zn_inj (by omega) (by decide) (g.trans rfl)
    rw [h0, Nat.div_zero]
theorem zx_doubt {n P D c ee i : Nat} {μ : zMem} {K : Int32 → zMem → Prop} (hV : zV n P D c ee μ) (hi : i < P) (h : K (nI (zdb μ i)) μ) : fX5_doubt (5 + 3 * i) μ K := by
  unfold fX5_doubt fX5_timesOrdered fX5_doubt_22
  intro x1 e1
  rw [(ztm_eq hV hi).2] at e1
  subst e1
  refine ⟨fun g x4 e4 => ⟨g, fun x6 e6 => ?_⟩, fun g => ?_⟩
  · rw [(zdb_eq hV hi).1 x6 g (by rw [e6, e4])]
    exact h
  · have := (zdb_eq hV hi).2 g
    rw [this] at h
    exact h
/-! a person's numbers -/
theorem zx_of {n P D c ee j q : Nat} {a : Int32} {μ : zMem} {K : Int32 → zMem → Prop} (hV : zV n P D c ee μ) (hj : j < P) (h : fX5_number (5 + 3 * j) a μ K) : fX7_of q (nI j) a μ K := by
  have h14 : j < 14 := by have := hV.1.1; omega
  unfold fX7_of fX0_aboutPerson
  refine zx_hasP hV hj ⟨fun _ => ⟨vp_in_nI h14 (by decide), fun q5 e5 => ?_⟩, fun g => absurd g (by decide)⟩
  rw [zq_p h14 e5]
  exact h
/-- the days with an order -/
def zdy (μ : zMem) (j : Nat) : Nat := zMk (fun a => decide (¬ μ (6 + 3 * j) a = (-6 : Int32))) 5
theorem zx_days {j : Nat} {μ : zMem} {K : Int32 → zMem → Prop} (h : K (nI (zdy μ j)) μ) : fX5_daysWithOrder (5 + 3 * j) μ K := by
  unfold fX5_daysWithOrder
  have L : ∀ (n i : Nat), i ≤ 5 → 5 - i < n → fX5_daysWithOrder_4 K (5 + 3 * j) n (nI (zMk (fun a => decide (¬ μ (6 + 3 * j) a = (-6 : Int32))) i)) (nI i) μ := by
    intro n
    induction n with
    | zero => intro i g1 g2; omega
    | succ n ih =>
      intro i g1 g2
      show fX5_daysWithOrder_4b (fX5_daysWithOrder_4 K (5 + 3 * j) n) K (5 + 3 * j) _ (nI i) μ
      unfold fX5_daysWithOrder_4b fX5_daysWithOrder_23
      refine pk_le 5 i (fun c => ?_) (fun hi => ?_)
      · have e : i = 5 := by omega
        subst e
        exact h
      · refine zx_hasO hi (fun g => ⟨fun _ x1 e => ?_, fun g => absurd rfl g⟩) (fun g => ⟨fun g => absurd g (by decide), fun _ x6 e6 x7 e7 x1 e => ?_⟩)
        · have := ih (i + 1) (by omega) (by omega)
          unfold zMk at this
          rw [if_neg (by simp [g, show 6 + 3 * j = 5 + 3 * j + 1 by omega])] at this
          rw [e, nI_1]
          exact this
        · have := ih (i + 1) (by omega) (by omega)
          unfold zMk at this
          rw [if_pos (by simp [g, show 6 + 3 * j = 5 + 3 * j + 1 by omega])] at this
          rw [e, nI_1, e7, e6, zn_shl (by omega), zn_or]
          exact this
  exact L zFU 0 (by omega) (by unfold zFU; omega)
theorem zx_of0 {n P D c ee j q : Nat} {μ : zMem} {K : Int32 → zMem → Prop} (hV : zV n P D c ee μ) (hj : j < P) (h : K (μ (5 + 3 * j) 2) μ) : fX7_of q (nI j) (0 : Int32) μ K := by
  refine zx_of hV hj ?_
  unfold fX5_number fX5_number_101
  exact ⟨fun _ => h, fun g => absurd rfl g⟩
theorem zx_of1 {n P D c ee j q : Nat} {μ : zMem} {K : Int32 → zMem → Prop} (hV : zV n P D c ee μ) (hj : j < P) (h : K (μ (6 + 3 * j) 0) μ) : fX7_of q (nI j) (1 : Int32) μ K := by
  refine zx_of hV hj ?_
  unfold fX5_number fX5_number_101
  exact ⟨fun g => absurd g (by decide), fun _ => ⟨fun _ x3 e3 => by rw [e3, show 5 + 3 * j + 1 = 6 + 3 * j by omega]; exact h, fun g => absurd rfl g⟩⟩
theorem zx_of2 {n P D c ee j q : Nat} {μ : zMem} {K : Int32 → zMem → Prop} (hV : zV n P D c ee μ) (hj : j < P) (h : K (nI (zdy μ j)) μ) : fX7_of q (nI j) (2 : Int32) μ K := by
  refine zx_of hV hj ?_
  unfold fX5_number fX5_number_101
  exact ⟨fun g => absurd g (by decide), fun _ => ⟨fun g => absurd g (by decide), fun _ => ⟨fun _ => zx_days h, fun g => absurd rfl g⟩⟩⟩
theorem zx_of3 {n P D c ee j q : Nat} {μ : zMem} {K : Int32 → zMem → Prop} (hV : zV n P D c ee μ) (hj : j < P) (h : K (μ (5 + 3 * j) 3) μ) : fX7_of q (nI j) (3 : Int32) μ K := by
  refine zx_of hV hj ?_
  unfold fX5_number fX5_number_101
  exact ⟨fun g => absurd g (by decide), fun _ => ⟨fun g => absurd g (by decide), fun _ => ⟨fun g => absurd g (by decide), fun _ => ⟨fun _ => h, fun g => absurd rfl g⟩⟩⟩⟩
theorem zx_of4 {n P D c ee j q : Nat} {μ : zMem} {K : Int32 → zMem → Prop} (hV : zV n P D c ee μ) (hj : j < P) (h : K (μ (5 + 3 * j) 4) μ) : fX7_of q (nI j) (4 : Int32) μ K := by
  refine zx_of hV hj ?_
  unfold fX5_number fX5_number_101
  exact ⟨fun g => absurd g (by decide), fun _ => ⟨fun g => absurd g (by decide), fun _ => ⟨fun g => absurd g (by decide), fun _ => ⟨fun g => absurd g (by decide), fun _ => ⟨fun _ => h, fun g => absurd rfl g⟩⟩⟩⟩⟩
theorem zx_of5 {n P D c ee j q : Nat} {μ : zMem} {K : Int32 → zMem → Prop} (hV : zV n P D c ee μ) (hj : j < P) (h : K (μ (5 + 3 * j) 5) μ) : fX7_of q (nI j) (5 : Int32) μ K := by
  refine zx_of hV hj ?_
  unfold fX5_number fX5_number_101
  exact ⟨fun g => absurd g (by decide), fun _ => ⟨fun g => absurd g (by decide), fun _ => ⟨fun g => absurd g (by decide), fun _ => ⟨fun g => absurd g (by decide), fun _ => ⟨fun g => absurd g (by decide), fun _ => ⟨fun _ => h, fun g => absurd rfl g⟩⟩⟩⟩⟩⟩
theorem zx_of6 {n P D c ee j q : Nat} {μ : zMem} {K : Int32 → zMem → Prop} (hV : zV n P D c ee μ) (hj : j < P) (h : K (μ (5 + 3 * j) 6) μ) : fX7_of q (nI j) (6 : Int32) μ K := by
  refine zx_of hV hj ?_
  unfold fX5_number fX5_number_101
  exact ⟨fun g => absurd g (by decide), fun _ => ⟨fun g => absurd g (by decide), fun _ => ⟨fun g => absurd g (by decide), fun _ => ⟨fun g => absurd g (by decide), fun _ => ⟨fun g => absurd g (by decide), fun _ => ⟨fun g => absurd g (by decide), fun _ => ⟨fun _ => h, fun g => absurd rfl g⟩⟩⟩⟩⟩⟩⟩
theorem zx_of7 {n P D c ee j q : Nat} {μ : zMem} {K : Int32 → zMem → Prop} (hV : zV n P D c ee μ) (hj : j < P) (h : K (μ (5 + 3 * j) 8) μ) : fX7_of q (nI j) (7 : Int32) μ K := by
  refine zx_of hV hj ?_
  unfold fX5_number fX5_number_101
  have hb1 : ¬ μ (5 + 3 * j) 8 = 0 → μ (5 + 3 * j) 8 = 1 := fun g => by
    rcases (hV.2.2.1 j hj).2.2.1 with e | e
    · exact absurd e g
    · exact e
  exact ⟨fun g => absurd g (by decide), fun _ => ⟨fun g => absurd g (by decide), fun _ => ⟨fun g => absurd g (by decide), fun _ => ⟨fun g => absurd g (by decide), fun _ => ⟨fun g => absurd g (by decide), fun _ => ⟨fun g => absurd g (by decide), fun _ => ⟨fun g => absurd g (by decide), fun _ => ⟨fun _ => ⟨fun g => by rw [g] at h; exact h, fun g => by rw [hb1 g] at h; exact h⟩, fun g => absurd rfl g⟩⟩⟩⟩⟩⟩⟩⟩
theorem zx_of8 {n P D c ee j q : Nat} {μ : zMem} {K : Int32 → zMem → Prop} (hV : zV n P D c ee μ) (hj : j < P) (h : K (μ (5 + 3 * j) 7) μ) : fX7_of q (nI j) (8 : Int32) μ K := by
  refine zx_of hV hj ?_
  unfold fX5_number fX5_number_101
  exact ⟨fun g => absurd g (by decide), fun _ => ⟨fun g => absurd g (by decide), fun _ => ⟨fun g => absurd g (by decide), fun _ => ⟨fun g => absurd g (by decide), fun _ => ⟨fun g => absurd g (by decide), fun _ => ⟨fun g => absurd g (by decide), fun _ => ⟨fun g => absurd g (by decide), fun _ => ⟨fun g => absurd g (by decide), fun _ => ⟨fun _ => h, fun g => absurd rfl g⟩⟩⟩⟩⟩⟩⟩⟩⟩
