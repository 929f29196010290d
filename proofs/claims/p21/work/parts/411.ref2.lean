/-! the reference's row: what is kept -/
def zF530 (m2 m : zMem) : Prop := ∀ r, r ≠ 530 → m2 r = m r
def zRD (D dn : Nat) (f : Nat → Int32) (d : Nat) : Prop := ∃ a b c e t : Nat, f (23 + 5 * d) = nI a ∧ f (24 + 5 * d) = nI b ∧ f (25 + 5 * d) = nI c ∧ f (26 + 5 * d) = nI e ∧ f (27 + 5 * d) = nI t ∧ a + b + e + t = c ∧ c ≤ 23 * (D + dn) ∧ (dn = 0 → b = 0)
def zRP (D : Nat) (f : Nat → Int32) (i : Nat) : Prop := (∀ k, k < 5 → ∃ o : Nat, o ≤ 3 ∧ f (39 + 17 * i + k) = nI o) ∧ ∃ c w t : Nat, f (51 + 17 * i) = nI c ∧ f (52 + 17 * i) = nI w ∧ f (53 + 17 * i) = nI t ∧ t ≤ 1 ∧ c ≤ D + t ∧ w ≤ D
def zRJ (P D dn sp kp : Nat) (f : Nat → Int32) : Prop := f 0 = nI sp ∧ f 1 = nI kp ∧ f 4 = nI D ∧ f 5 = nI P ∧ f 6 = nI dn ∧ (∀ d, d < 3 → zRD D dn f d) ∧ (∀ i, i < 14 → zRP D f i)
def zRI (f : Nat → Int32) : Prop := ∃ P D dn sp kp : Nat, (P ≤ 14 ∧ D ≤ 9999 ∧ dn ≤ 1 ∧ sp ≤ 9 ∧ kp ≤ 20) ∧ zRJ P D dn sp kp f
theorem zRD_c {D dn d : Nat} {f g : Nat → Int32} (h : zRD D dn f d) (e : ∀ k, k < 5 → g (23 + 5 * d + k) = f (23 + 5 * d + k)) : zRD D dn g d := by
  obtain ⟨a, b, c, x, t, h0, h1, h2, h3, h4, h5⟩ := h
  have e0 := e 0 (by decide)
  have e1 := e 1 (by decide)
  have e2 := e 2 (by decide)
  have e3 := e 3 (by decide)
  have e4 := e 4 (by decide)
  rw [show 23 + 5 * d + 0 = 23 + 5 * d by omega] at e0
  rw [show 23 + 5 * d + 1 = 24 + 5 * d by omega] at e1
  rw [show 23 + 5 * d + 2 = 25 + 5 * d by omega] at e2
  rw [show 23 + 5 * d + 3 = 26 + 5 * d by omega] at e3
  rw [show 23 + 5 * d + 4 = 27 + 5 * d by omega] at e4
  exact ⟨a, b, c, x, t, by rw [e0]; exact h0, by rw [e1]; exact h1, by rw [e2]; exact h2, by rw [e3]; exact h3, by rw [e4]; exact h4, h5⟩
theorem zRP_c {D i : Nat} {f g : Nat → Int32} (h : zRP D f i) (e : ∀ k, (1 ≤ k ∧ k ≤ 5 ∨ 13 ≤ k ∧ k ≤ 15) → g (38 + 17 * i + k) = f (38 + 17 * i + k)) : zRP D g i := by
  obtain ⟨h0, c, w, t, h1, h2, h3, h4⟩ := h
  have e1 := e 13 (by decide)
  have e2 := e 14 (by decide)
  have e3 := e 15 (by decide)
  rw [show 38 + 17 * i + 13 = 51 + 17 * i by omega] at e1
  rw [show 38 + 17 * i + 14 = 52 + 17 * i by omega] at e2
  rw [show 38 + 17 * i + 15 = 53 + 17 * i by omega] at e3
  refine ⟨fun k hk => ?_, c, w, t, by rw [e1]; exact h1, by rw [e2]; exact h2, by rw [e3]; exact h3, h4⟩
  obtain ⟨o, ho, e4⟩ := h0 k hk
  have e5 := e (k + 1) (by omega)
  rw [show 38 + 17 * i + (k + 1) = 39 + 17 * i + k by omega] at e5
  exact ⟨o, ho, by rw [e5]; exact e4⟩
theorem zRP_mono {D i : Nat} {f : Nat → Int32} (h : zRP D f i) : zRP (D + 1) f i := by
  obtain ⟨h0, c, w, t, h1, h2, h3, h4, h5, h6⟩ := h
  exact ⟨h0, c, w, t, h1, h2, h3, h4, by omega, by omega⟩
theorem zRJ_irr {P D dn sp kp : Nat} {f g : Nat → Int32} (h : zRJ P D dn sp kp f) (e0 : ∀ k, k < 7 → k ≠ 2 → k ≠ 3 → g k = f k) (e1 : ∀ k, 23 ≤ k → k < 38 → g k = f k) (e2 : ∀ i k, i < 14 → (1 ≤ k ∧ k ≤ 5 ∨ 13 ≤ k ∧ k ≤ 15) → g (38 + 17 * i + k) = f (38 + 17 * i + k)) : zRJ P D dn sp kp g := by
  obtain ⟨h0, h1, h2, h3, h4, h5, h6⟩ := h
  exact ⟨by rw [e0 0 (by decide) (by decide) (by decide)]; exact h0, by rw [e0 1 (by decide) (by decide) (by decide)]; exact h1, by rw [e0 4 (by decide) (by decide) (by decide)]; exact h2, by rw [e0 5 (by decide) (by decide) (by decide)]; exact h3, by rw [e0 6 (by decide) (by decide) (by decide)]; exact h4, fun d hd => zRD_c (h5 d hd) (fun k hk => e1 _ (by omega) (by omega)), fun i hi => zRP_c (h6 i hi) (fun k hk => e2 i k hi hk)⟩
/-- a cell of a person's row that nothing hangs on -/
theorem zRJ_row {P D dn sp kp j c : Nat} {f : Nat → Int32} {x : Int32} (h : zRJ P D dn sp kp f) (hc : c = 0 ∨ (6 ≤ c ∧ c ≤ 12) ∨ c = 16) : zRJ P D dn sp kp (upd f (38 + 17 * j + c) x) :=
  zRJ_irr h (fun k h1 _ _ => z_upd_ne (by omega)) (fun k h1 h2 => z_upd_ne (by omega)) (fun i k hi hk => z_upd_ne (by omega))
theorem zRP_w {D i : Nat} {f : Nat → Int32} (h : zRP D f i) : ∃ c w : Nat, f (51 + 17 * i) = nI c ∧ f (52 + 17 * i) = nI w ∧ c ≤ D + 1 ∧ w ≤ D := by
  obtain ⟨_, c, w, t, h1, h2, _, h4, h5, h6⟩ := h
  exact ⟨c, w, h1, h2, by omega, h6⟩
theorem zr_toCook {d P D sp a : Nat} {m : zMem} {K : Int32 → zMem → Prop} (hd : d < 3) (hP : m 530 5 = nI P) (hP2 : P ≤ 14) (hD : D ≤ 9999) (hr : ∀ i, i < 14 → zRP D (m 530) i) (hs : m 530 0 = nI sp) (hs2 : sp ≤ 9) (ha : m 530 (23 + 5 * d) = nI a) (ha2 : a ≤ 240000) (h : ∀ n, n ≤ 23 → K (nI n) m) : fX8_toCook 529 (nI d) m K := by
  unfold fX8_toCook
  have L : ∀ (n i s : Nat), i ≤ P → P - i < n → s ≤ 100 * i → fX8_toCook_4 K 529 n (nI d) (nI s) (nI i) m := by
    intro n
    induction n with
    | zero => intro i s h1 h2; omega
    | succ n ih =>
      intro i s h1 h2 h3
      show fX8_toCook_4b (fX8_toCook_4 K 529 n) K 529 (nI d) (nI s) (nI i) m
      unfold fX8_toCook_4b fX8_toCook_81
      have go : ∀ t, t ≤ 100 → i < P → fX8_toCook_37 (fX8_toCook_4 K 529 n) K 529 (nI d) (nI i) (nI t) (nI s) m := by
        intro t ht hi
        unfold fX8_toCook_37
        intro x1 e1 x2 e2
        rw [e1, e2, nI_add, show nI i + (1 : Int32) = nI (i + 1) from nI_1 i]
        exact ih (i + 1) (s + t) (by omega) (by omega) (by omega)
      intro x3 e3
      rw [hP] at e3
      subst e3
      refine ⟨fun c => ?_, fun c => ?_⟩
      · simp (disch := omega) only [forall_eq, zr_d, zq0, show (99 : Int32) = nI 99 from rfl, show (100 : Int32) = nI 100 from rfl, nI_add, pk_div, zvpT, nI_clamp, true_and, Nat.add_zero, hs, ha]
        refine ⟨fun _ => h 0 (by decide), fun g => ?_⟩
        have hlt : a < (s + 99) / 100 + sp := by
          refine Nat.lt_of_not_le (fun g2 => g ?_)
          have := pk_sub_toInt (a := (s + 99) / 100 + sp) (b := a) (by omega) (by omega)
          rw [Int32.le_iff_toInt_le, this]
          show _ ≤ (nI 0).toInt
          rw [nI_toInt (by decide)]
          omega
        rw [pk_sub (by omega)]
        exact h _ (by omega)
      · have hi : i < P := Nat.lt_of_not_le (fun g => c ((nI_leI (by omega) (by omega)).mpr g))
        refine zr_isFor (k := 0) (by omega) (by decide) (fun _ => ⟨fun g => absurd g (by decide), fun _ => ?_⟩) (fun _ => ⟨fun _ => go 0 (by decide) hi, fun g => absurd rfl g⟩)
        obtain ⟨c, w, h5, h6, h7, h8⟩ := zRP_w (hr i (by omega))
        refine zr_doubt (by omega) h5 h6 (by omega) (by omega) (fun x21 e21 => ?_)
        have hle : 100 * w / (c + w) ≤ 100 := by
          rcases Nat.eq_zero_or_pos (c + w) with g | g
          · rw [g, Nat.div_zero]; omega
          · exact Nat.div_le_of_le_mul (by rw [Nat.mul_comm]; exact Nat.mul_le_mul_right 100 (by omega))
        rw [e21, show (100 : Int32) = nI 100 from rfl, pk_sub hle]
        exact go _ (Nat.sub_le _ _) hi
  exact L zFU 0 0 (by omega) (by unfold zFU; omega) (by omega)
theorem zr_awaited {d P : Nat} {m : zMem} {K : Int32 → zMem → Prop} (hP : m 530 5 = nI P) (hP2 : P ≤ 14) (h : ∀ n, n ≤ 14 → K (nI n) m) : fX8_awaited 529 (nI d) m K := by
  unfold fX8_awaited
  have L : ∀ (n i s : Nat), i ≤ P → P - i < n → s ≤ i → fX8_awaited_4 K 529 n (nI d) (nI s) (nI i) m := by
    intro n
    induction n with
    | zero => intro i s h1 h2; omega
    | succ n ih =>
      intro i s h1 h2 h3
      show fX8_awaited_4b (fX8_awaited_4 K 529 n) K 529 (nI d) (nI s) (nI i) m
      unfold fX8_awaited_4b fX8_awaited_44
      have go : ∀ t, t ≤ 1 → i < P → fX8_awaited_45 (fX8_awaited_4 K 529 n) K 529 (nI d) (nI i) (nI t) (nI s) m := by
        intro t ht hi
        unfold fX8_awaited_45
        intro x1 e1 x2 e2
        rw [e1, e2, nI_add, show nI i + (1 : Int32) = nI (i + 1) from nI_1 i]
        exact ih (i + 1) (s + t) (by omega) (by omega) (by omega)
      intro x3 e3
      rw [hP] at e3
      subst e3
      refine ⟨fun c => h s (by omega), fun c => ?_⟩
      have hi : i < P := Nat.lt_of_not_le (fun g => c ((nI_leI (by omega) (by omega)).mpr g))
      refine zr_isFor (k := 0) (by omega) (by decide) (fun _ => ⟨fun g => absurd g (by decide), fun _ => ?_⟩) (fun _ => ⟨fun _ => go 0 (by decide) hi, fun g => absurd rfl g⟩)
      simp (disch := omega) only [forall_eq, zr_p, zq15, nI_add, zvpT, nI_clamp, true_and]
      exact ⟨fun _ => go 0 (by decide) hi, fun _ => go 1 (by decide) hi⟩
  exact L zFU 0 0 (by omega) (by unfold zFU; omega) (by omega)
/-- what an act on the row promises -/
def zAct (F : (Int32 → zMem → Prop) → Prop) (m : zMem) : Prop := ∀ K : Int32 → zMem → Prop, (∀ r m2, zF530 m2 m → zRI (m2 530) → K r m2) → F K
theorem zF0 (m : zMem) : zF530 m m := fun _ _ => rfl
theorem zF_up {m2 m : zMem} {k : Nat} {x : Int32} (h : zF530 m2 m) : zF530 (z_up m2 530 k x) m := fun r hr => by rw [zu_ne hr]; exact h r hr
theorem zr_comesHere {m : zMem} (hI : zRI (m 530)) : zAct (fX8_comesHere 529 m) m := by
  intro K h
  have hI' := hI
  obtain ⟨P, D, dn, sp, kp, ⟨b1, b2, b3, b4, b5⟩, h0, h1, h2, h3, h4, h5, h6⟩ := hI
  unfold fX8_comesHere
  intro x16 e16
  refine ⟨fun c x18 e18 => ?_, fun _ => h _ m (zF0 m) hI'⟩
  have hP : P < 14 := by
    refine Nat.lt_of_le_of_ne b1 (fun g => c ?_)
    rw [e16, h3, g]
    rfl
  rw [e18, h3]
  have L : ∀ (n k : Nat) (μ : zMem), k ≤ 17 → 17 - k < n → zF530 μ m → (∀ j, ¬ (38 + 17 * P ≤ j ∧ j < 55 + 17 * P) → μ 530 j = m 530 j) → (∀ j, j < k → μ 530 (38 + 17 * P + j) = 0) → fX8_comesHere_23 K 529 n (nI P) (nI k) μ := by
    intro n
    induction n with
    | zero => intro k μ g1 g2; omega
    | succ n ih =>
      intro k μ g1 g2 g3 g4 g5
      show fX8_comesHere_23b (fX8_comesHere_23 K 529 n) K 529 (nI P) (nI k) μ
      unfold fX8_comesHere_23b
      simp (disch := omega) only [forall_eq, zr_p, zq0, nI_add, zvpT, nI_clamp, true_and, Nat.add_zero]
      refine ⟨fun c => ?_, fun c => ?_⟩
      · have hk : k = 17 := by
          have := (nI_leI (a := 17) (b := k) (by decide) (by omega)).mp c
          omega
        subst hk
        refine h _ _ (zF_up (zF_up g3)) ?_
        rw [zu_same, zu_same, z_upd_ne (show 5 ≠ 38 + 17 * P by omega), g4 5 (by omega), h3, zq1, nI_add]
        refine ⟨P + 1, D, dn, sp, kp, ⟨by omega, b2, b3, b4, b5⟩, ?_, ?_, ?_, z_upd_same, ?_, fun d hd => zRD_c (h5 d hd) (fun k hk => ?_), fun i hi => ?_⟩
        · rw [z_upd_ne (by decide), z_upd_ne (by omega), g4 0 (by omega)]; exact h0
        · rw [z_upd_ne (by decide), z_upd_ne (by omega), g4 1 (by omega)]; exact h1
        · rw [z_upd_ne (by decide), z_upd_ne (by omega), g4 4 (by omega)]; exact h2
        · rw [z_upd_ne (by decide), z_upd_ne (by omega), g4 6 (by omega)]; exact h4
        · rw [z_upd_ne (by omega), z_upd_ne (by omega), g4 _ (by omega)]
        · by_cases e : i = P
          · subst e
            have z : ∀ k, 1 ≤ k → k < 17 → upd (upd (μ 530) (38 + 17 * i) (nI 5)) 5 (nI (i + 1)) (38 + 17 * i + k) = nI 0 := fun k k1 k2 => by
              rw [z_upd_ne (by omega), z_upd_ne (by omega), g5 k k2]
              rfl
            refine ⟨fun k hk => ⟨0, by decide, ?_⟩, 0, 0, 0, ?_, ?_, ?_, by decide, by omega, by omega⟩
            · have := z (k + 1) (by omega) (by omega)
              rw [show 38 + 17 * i + (k + 1) = 39 + 17 * i + k by omega] at this
              exact this
            · have := z 13 (by omega) (by omega)
              rw [show 38 + 17 * i + 13 = 51 + 17 * i by omega] at this
              exact this
            · have := z 14 (by omega) (by omega)
              rw [show 38 + 17 * i + 14 = 52 + 17 * i by omega] at this
              exact this
            · have := z 15 (by omega) (by omega)
              rw [show 38 + 17 * i + 15 = 53 + 17 * i by omega] at this
              exact this
          · exact zRP_c (h6 i hi) (fun k hk => by rw [z_upd_ne (by omega), z_upd_ne (by omega), g4 _ (by omega)])
      · have hk : k < 17 := Nat.lt_of_not_le (fun g => c ((nI_leI (a := 17) (b := k) (by decide) (by omega)).mpr g))
        rw [show nI k + (1 : Int32) = nI (k + 1) from nI_1 k]
        refine ⟨vp_in_nI (by omega) (by decide), ih (k + 1) (z_up μ 530 (38 + 17 * P + k) (nI 0)) (by omega) (by omega) (zF_up g3) (fun j hj => by rw [zu_same, z_upd_ne (by omega)]; exact g4 j hj) (fun j hj => ?_)⟩
        rw [zu_same]
        by_cases e : j = k
        · subst e
          exact z_upd_same
        · rw [z_upd_ne (by omega)]
          exact g5 j (by omega)
  exact L zFU 0 m (by omega) (by unfold zFU; omega) (zF0 m) (fun _ _ => rfl) (fun j hj => by omega)
theorem zr_gets {a b : Int32} {m : zMem} (hI : zRI (m 530)) : zAct (fX8_gets 529 a b m) m := by
  intro K h
  have hI' := hI
  obtain ⟨P, D, dn, sp, kp, hb, hJ⟩ := hI
  unfold fX8_gets
  refine zs_isPerson hJ.2.2.2.1 hb.1 (fun j hj e => ⟨fun _ => ?_, fun g => absurd g (by decide)⟩) (fun _ => ⟨fun g => absurd rfl g, fun _ => h _ m (zF0 m) hI'⟩)
  refine zs_in (fun _ _ => ⟨fun _ => ?_, fun g => absurd g (by decide)⟩) (fun _ => ⟨fun g => absurd rfl g, fun _ => h _ m (zF0 m) hI'⟩)
  rw [e]
  have hj14 : j < 14 := by omega
  refine zr_gives hj14 (fun y => ?_)
  simp (disch := omega) only [forall_eq, zr_p, zq0, nI_add, zvpT, nI_clamp, true_and, Nat.add_zero]
  refine h _ _ (zF_up (zF0 m)) ⟨P, D, dn, sp, kp, hb, ?_⟩
  rw [zu_same]
  exact zRJ_row (c := 0) hJ (Or.inl rfl)
theorem zr_reason {j k d D : Nat} {m : zMem} {K : Int32 → zMem → Prop} (hj : j < 14) (hk : k < 5) (hd : d < 3) (hD : m 530 4 = nI D) (hD2 : D ≤ 9999) (h : ∀ y, K y m) : fX8_reason 529 (nI j) (nI k) (nI d) m K := by
  unfold fX8_reason
  have go : fX8_reason_35 K 529 (nI k) (nI d) (nI (38 + 17 * j)) (nI (D + k)) m := by
    unfold fX8_reason_35 fX8_reason_96
    simp (disch := omega) only [forall_eq, zq12, zq1, zq0, nI_add, zvpT, nI_clamp, true_and, h, implies_true, and_true]
    exact fun _ _ => zr_priceOn (by omega) hd (fun y => ⟨fun _ => h _, fun _ => h _⟩)
  rw [zr_p]
  intro x18 e18 x19 e19
  rw [hD] at e18
  rw [e19, e18, nI_add]
  exact ⟨fun _ => go, fun _ x21 e21 => ⟨fun _ => go, fun _ => h _⟩⟩
theorem zr_ordersOf {a b c : Int32} {m : zMem} (hI : zRI (m 530)) : zAct (fX8_ordersOf 529 a b c m) m := by
  intro K h
  have hI' := hI
  obtain ⟨P, D, dn, sp, kp, hb, hJ⟩ := hI
  have hm : ∀ r, K r m := fun r => h r m (zF0 m) hI'
  unfold fX8_ordersOf fX8_ordersOf_15
  refine zs_isPerson hJ.2.2.2.1 hb.1 (fun j hj e => ⟨fun g => absurd g (by decide), fun _ => ?_⟩) (fun _ => ⟨fun _ => hm _, fun g => absurd rfl g⟩)
  refine zs_isDish (fun d hd e2 => ⟨fun _ => ?_, fun g => absurd g (by decide)⟩) (fun _ => ⟨fun g => absurd rfl g, fun _ => hm _⟩)
  refine zs_in (fun g1 g2 => ⟨fun _ => ?_, fun g => absurd g (by decide)⟩) (fun _ => ⟨fun g => absurd rfl g, fun _ => hm _⟩)
  obtain ⟨k, hk, e3⟩ := (zi_rng (n := 5) (by decide)).mp ⟨g1, g2⟩
  subst e
  subst e2
  subst e3
  have hj14 : j < 14 := by omega
  refine zr_reason hj14 hk hd hJ.2.2.1 hb.2.1 (fun y => ⟨fun _ x13 e13 x14 e14 => ?_, fun _ => hm _⟩)
  rw [hJ.2.2.1] at e13
  rw [e14, e13, nI_add]
  refine zr_priceOn (by omega) hd (fun y2 => ?_)
  simp (disch := omega) only [forall_eq, zr_p, zq0, zq1, zq6, nI_add, zvpT, nI_clamp, true_and, Nat.add_zero]
  refine h _ _ (zF_up (zF_up (zF_up (zF0 m)))) ⟨P, D, dn, sp, kp, hb, ?_⟩
  simp only [zu_same]
  have A : zRJ P D dn sp kp (upd (m 530) (38 + 17 * j + 1 + k) (nI (d + 1))) := by
    obtain ⟨h0, h1, h2, h3, h4, h5, h6⟩ := hJ
    refine ⟨by rw [z_upd_ne (by omega)]; exact h0, by rw [z_upd_ne (by omega)]; exact h1, by rw [z_upd_ne (by omega)]; exact h2, by rw [z_upd_ne (by omega)]; exact h3, by rw [z_upd_ne (by omega)]; exact h4, fun d hd => zRD_c (h5 d hd) (fun k hk => z_upd_ne (by omega)), fun i hi => ?_⟩
    obtain ⟨o, c, w, t, o1, o2, o3, o4⟩ := h6 i hi
    refine ⟨fun k2 hk2 => ?_, c, w, t, by rw [z_upd_ne (by omega)]; exact o1, by rw [z_upd_ne (by omega)]; exact o2, by rw [z_upd_ne (by omega)]; exact o3, o4⟩
    by_cases e : 39 + 17 * i + k2 = 38 + 17 * j + 1 + k
    · exact ⟨d + 1, by omega, by rw [e, z_upd_same]⟩
    · rw [z_upd_ne e]
      exact o k2 hk2
  rw [show 38 + 17 * j + 6 + k = 38 + 17 * j + (6 + k) by omega]
  exact zRJ_row (c := 0) (zRJ_row (c := 6 + k) A (by omega)) (Or.inl rfl)
