/-! one call on fresh objects: dishes, sums, a person -/
theorem zd_val {j : Nat} {μ : zMem} {K : Int32 → zMem → Prop} (h : K (nI (23 + 5 * j)) μ) : fX8_d (nI j) μ K := by
  unfold fX8_d
  intro x1 e1 x2 e2
  rw [e2, e1, show (5 : Int32) = nI 5 from rfl, pk_mul, show (23 : Int32) = nI 23 from rfl, nI_add]
  exact h
theorem zp_val {j : Nat} {μ : zMem} {K : Int32 → zMem → Prop} (h : K (nI (38 + 17 * j)) μ) : fX8_p (nI j) μ K := by
  unfold fX8_p
  intro x1 e1 x2 e2
  rw [e2, e1, show (17 : Int32) = nI 17 from rfl, pk_mul, show (38 : Int32) = nI 38 from rfl, nI_add]
  exact h
theorem zs1_0 : ∀ k, k < 276 → 23 ≤ k → zs1 15 k = 0 := by
  intro k _ h
  unfold zs1 z_s0 upd
  rw [if_neg (by omega), if_neg (by omega), if_neg (by omega), if_neg (by omega), if_neg (by omega)]
theorem zM1_530 : zM1 530 = zs1 15 := rfl
theorem zM1_d : ∀ j, j < 3 → zM1 (1 + 3 + 43 + 2 * j) = fun _ => 0 := by
  intro j hj
  rcases (show j = 0 ∨ j = 1 ∨ j = 2 by omega) with rfl | rfl | rfl <;> rfl
theorem zM1_pr : ∀ j, j < 3 → zM1 (1 + 3 + 43 + 2 * j + 1) = z_p0 := by
  intro j hj
  rcases (show j = 0 ∨ j = 1 ∨ j = 2 by omega) with rfl | rfl | rfl <;> rfl
theorem zp_wasted : ∃ r, zC (fX7_wasted 0 zM1) r ∧ zR (fun m K => fX8_wasted 529 m K) r := by
  refine ⟨-6, fun K hK => ?_, fun m K hm hK => ?_⟩
  · unfold fX7_wasted fX0_mostThrown
    have L : ∀ (n i : Nat), i ≤ 3 → 3 - i < n → fX0_mostThrown_5 K 1 n (-6) (nI i) zM1 := by
      intro n
      induction n with
      | zero => intro i h1 h2; omega
      | succ n ih =>
        intro i h1 h2
        show fX0_mostThrown_5b (fX0_mostThrown_5 K 1 n) K 1 (-6) (nI i) zM1
        unfold fX0_mostThrown_5b fX0_mostThrown_49
        refine ⟨fun _ => hK _ zFr0, fun c => ?_⟩
        have h3 : i < 3 := Nat.lt_of_not_le (fun g => c ((nI_leI (a := 3) (b := i) (by omega) (by omega)).mpr g))
        refine ⟨vp_in_nI h3 (by decide), fun q4 e4 => ?_⟩
        rw [nI_clamp (by omega)] at e4
        rw [e4, zM1_d i h3]
        refine ⟨fun _ x1 e1 => ?_, fun c => absurd (Int32.le_refl _) c⟩
        rw [e1, show nI i + (1 : Int32) = nI (i + 1) from nI_1 i]
        exact ih (i + 1) (by omega) (by omega)
    exact L zFU 0 (by omega) (by unfold zFU; omega)
  · show fX8_wasted 529 m K
    unfold fX8_wasted
    have L : ∀ (n i : Nat), i ≤ 3 → 3 - i < n → fX8_wasted_7 K 529 n (-6) (-1) (nI i) m := by
      intro n
      induction n with
      | zero => intro i h1 h2; omega
      | succ n ih =>
        intro i h1 h2
        show fX8_wasted_7b (fX8_wasted_7 K 529 n) K 529 (-6) (-1) (nI i) m
        unfold fX8_wasted_7b
        refine ⟨fun _ => hK m, fun c => ?_⟩
        have h3 : i < 3 := Nat.lt_of_not_le (fun g => c ((nI_leI (a := 3) (b := i) (by omega) (by omega)).mpr g))
        refine zd_val ?_
        intro x7 e7
        have e7 : x7 = nI (27 + 5 * i) := by rw [e7, show (4 : Int32) = nI 4 from rfl, nI_add, show 23 + 5 * i + 4 = 27 + 5 * i by omega]
        refine ⟨by rw [e7]; exact vp_in_nI (by omega) (by decide), fun x9 e9 => ?_⟩
        have e9 : x9 = 0 := by rw [e9, e7, nI_clamp (by omega), hm 530 (by omega), zM1_530, zs1_0 _ (by omega) (by omega)]
        refine ⟨fun g => absurd e9 g, fun _ => ?_⟩
        unfold fX8_wasted_51 fX8_wasted_64 fX8_wasted_77
        refine ⟨fun _ => ⟨fun _ x1 e1 => ?_, fun g => absurd (Int32.le_refl _) g⟩, fun g => absurd (Int32.le_refl _) g⟩
        rw [e1, show nI i + (1 : Int32) = nI (i + 1) from nI_1 i]
        exact ih (i + 1) (by omega) (by omega)
    exact L zFU 0 (by omega) (by unfold zFU; omega)
theorem zn_awaitedC {K : Int32 → zMem → Prop} {a : Int32} (h : K 0 zM1) : fX0_awaited 1 a zM1 K := by
  unfold fX0_awaited
  show fX0_awaited_4b (fX0_awaited_4 K 1 1999) K 1 a 0 0 zM1
  unfold fX0_awaited_4b
  exact ⟨fun _ => h, fun c => absurd (Int32.le_refl _) c⟩
theorem zn_awaitedR {K : Int32 → zMem → Prop} {a : Int32} {m : zMem} (hm : zFr m) (h : K 0 m) : fX8_awaited 529 a m K := by
  unfold fX8_awaited
  show fX8_awaited_4b (fX8_awaited_4 K 529 1999) K 529 a 0 0 m
  unfold fX8_awaited_4b
  intro x3 e3
  rw [zFr_P hm] at e3
  exact ⟨fun _ => h, fun c => absurd (by rw [e3]; decide) c⟩
/-- what would be cooked: one plate -/
theorem zn_cookC {K : Int32 → zMem → Prop} {j : Nat} {m : zMem} (hj : j < 3) (h3 : m 1 3 = nI 0) (h2 : m 2 0 = 1) (hk : m (1 + 3 + 43 + 2 * j) 1 = 0) (h : K 1 m) : fX0_platesToCook 1 (nI j) m K := by
  unfold fX0_platesToCook
  show fX0_platesToCook_4b (fX0_platesToCook_4 K 1 1999) K 1 (nI j) 0 0 m
  unfold fX0_platesToCook_4b
  rw [h3]
  refine ⟨fun _ => ?_, fun c => absurd (Int32.le_refl _) c⟩
  intro x3 e3 x4 e4 x5 e5 x6 e6
  refine ⟨vp_in_nI hj (by decide), fun q8 e8 x9 e9 x10 e10 => ?_⟩
  rw [nI_clamp (by omega)] at e8
  have e5 : x5 = 1 := e5.trans h2
  have e6 : x6 = 1 := by rw [e6, e4, e3, e5]; decide
  have e9 : x9 = 1 := by rw [e9, e6, e8, hk]; decide
  have e10 : x10 = 1 := by rw [e10, e9]; decide
  rw [e10]
  exact h
theorem zn_cookR {K : Int32 → zMem → Prop} {j : Nat} {m : zMem} (hj : j < 3) (h5 : m 530 5 = nI 0) (h0 : m 530 0 = 1) (hk : m 530 (23 + 5 * j) = 0) (h : K 1 m) : fX8_toCook 529 (nI j) m K := by
  unfold fX8_toCook
  show fX8_toCook_4b (fX8_toCook_4 K 529 1999) K 529 (nI j) 0 0 m
  unfold fX8_toCook_4b
  intro x3 e3
  rw [h5] at e3
  refine ⟨fun _ => ?_, fun c => absurd (by rw [e3]; decide) c⟩
  intro x5 e5 x6 e6 x7 e7 x8 e8
  refine zd_val ?_
  intro x11 e11
  have e11 : x11 = nI (23 + 5 * j) := by rw [e11, show (0 : Int32) = nI 0 from rfl, nI_add, Nat.add_zero]
  refine ⟨by rw [e11]; exact vp_in_nI (by omega) (by decide), fun x13 e13 x14 e14 => ?_⟩
  have e13 : x13 = 0 := by rw [e13, e11, nI_clamp (by omega), hk]
  have e14 : x14 = 1 := by rw [e14, e13, e8, e7, h0, e6, e5]; decide
  unfold fX8_toCook_81
  rw [e14]
  exact ⟨fun c => absurd c (by decide), fun _ => h⟩
theorem zn_dish (a : Int32) : (∃ j, j < 3 ∧ a = nI j) ∨ ∀ j, j < 3 → a ≠ nI j := by
  rcases Classical.em (∃ j, j < 3 ∧ a = nI j) with h | h
  · exact Or.inl h
  · exact Or.inr (fun j hj e => h ⟨j, hj, e⟩)
theorem zn_day (a : Int32) : (∃ j, j < 5 ∧ a = nI j) ∨ ∀ j, j < 5 → a ≠ nI j := by
  rcases Classical.em (∃ j, j < 5 ∧ a = nI j) with h | h
  · exact Or.inl h
  · exact Or.inr (fun j hj e => h ⟨j, hj, e⟩)
theorem zp_ordered (a b : Int32) : ∃ r, zC (fX7_ordered 0 a b zM1) r ∧ zR (fun m K => fX8_ordered 529 a b m K) r := by
  rcases zn_dish b with ⟨j, hj, rfl⟩ | hb
  · rcases zn_day a with ⟨k, hk, rfl⟩ | ha
    · refine ⟨0, fun K hK => ?_, fun m K hm hK => ?_⟩
      · unfold fX7_ordered fX0_peopleWithOrder
        refine zs_hasDish (fun _ _ _ => ⟨fun _ => zs_isAhead (fun _ _ _ => ⟨fun _ => ?_, fun g => absurd g (by decide)⟩) (fun g => absurd rfl (g k hk)), fun g => absurd g (by decide)⟩) (fun g => absurd rfl (g j hj))
        show fX0_peopleWithOrder_26b (fX0_peopleWithOrder_26 _ 1 1999) _ 1 (nI k) (nI j) 0 0 zM1
        unfold fX0_peopleWithOrder_26b
        exact ⟨fun _ => hK _ zFr0, fun c => absurd (Int32.le_refl _) c⟩
      · show fX8_ordered 529 (nI k) (nI j) m K
        unfold fX8_ordered
        refine zs_isDish (fun _ _ _ => ⟨fun _ => zs_in (fun _ _ => ⟨fun _ => ?_, fun g => absurd g (by decide)⟩) (fun g => absurd ((zi_rng (n := 5) (by decide)).mpr ⟨k, hk, rfl⟩) g), fun g => absurd g (by decide)⟩) (fun g => absurd rfl (g j hj))
        show fX8_ordered_26b (fX8_ordered_26 _ 529 1999) _ 529 (nI k) (nI j) 0 0 m
        unfold fX8_ordered_26b
        intro x3 e3
        rw [zFr_P hm] at e3
        exact ⟨fun _ => hK m, fun c => absurd (by rw [e3]; decide) c⟩
    · refine ⟨-2, fun K hK => ?_, fun m K hm hK => ?_⟩
      · unfold fX7_ordered fX0_peopleWithOrder
        exact zs_hasDish (fun _ _ _ => ⟨fun _ => zs_isAhead (fun k hk e => absurd e (ha k hk)) (fun _ => ⟨fun g => absurd rfl g, fun _ => hK _ zFr0⟩), fun g => absurd g (by decide)⟩) (fun g => absurd rfl (g j hj))
      · show fX8_ordered 529 a (nI j) m K
        unfold fX8_ordered
        refine zs_isDish (fun _ _ _ => ⟨fun _ => zs_in (fun g1 g2 => ?_) (fun _ => ⟨fun g => absurd rfl g, fun _ => hK m⟩), fun g => absurd g (by decide)⟩) (fun g => absurd rfl (g j hj))
        obtain ⟨k, hk, e⟩ := (zi_rng (n := 5) (by decide)).mp ⟨g1, g2⟩
        exact absurd e (ha k hk)
  · refine ⟨-1, fun K hK => ?_, fun m K hm hK => ?_⟩
    · unfold fX7_ordered fX0_peopleWithOrder
      exact zs_hasDish (fun j hj e => absurd e (hb j hj)) (fun _ => ⟨fun g => absurd rfl g, fun _ => hK _ zFr0⟩)
    · show fX8_ordered 529 a b m K
      unfold fX8_ordered
      exact zs_isDish (fun j hj e => absurd e (hb j hj)) (fun _ => ⟨fun g => absurd rfl g, fun _ => hK m⟩)
theorem zs_start {q : Nat} {μ : zMem} {K : zMem → Prop} (h : ∀ m : zMem, (∀ r, r ≠ q → r ≠ q + 1 → r ≠ q + 2 → m r = μ r) → K m) : fX5_start q μ K := by
  unfold fX5_start
  have L : ∀ (n i : Nat) (m : zMem), i ≤ 5 → 5 - i < n → (∀ r, r ≠ q → r ≠ q + 1 → r ≠ q + 2 → m r = μ r) → fX5_start_2 K q n (nI i) m := by
    intro n
    induction n with
    | zero => intro i m h1 h2; omega
    | succ n ih =>
      intro i m h1 h2 hf
      show fX5_start_2b (fX5_start_2 K q n) K q (nI i) m
      unfold fX5_start_2b
      refine ⟨fun _ m2 e2 m3 e3 m4 e4 m5 e5 m6 e6 m7 e7 m8 e8 => ?_, fun c => ?_⟩
      · exact h m8 (fun r g1 g2 g3 => by rw [e8, zu_ne g1, e7, zu_ne g1, e6, zu_ne g1, e5, zu_ne g1, e4, zu_ne g1, e3, zu_ne g1, e2, zu_ne g1, hf r g1 g2 g3])
      · have h3 : i < 5 := Nat.lt_of_not_le (fun g => c ((nI_leI (a := 5) (b := i) (by omega) (by omega)).mpr g))
        refine ⟨vp_in_nI h3 (by decide), fun m10 e10 => ⟨vp_in_nI h3 (by decide), fun m12 e12 x13 e13 => ?_⟩⟩
        rw [e13, show nI i + (1 : Int32) = nI (i + 1) from nI_1 i]
        exact ih (i + 1) m12 (by omega) (by omega) (fun r g1 g2 g3 => by rw [e12, zu_ne g3, e10, zu_ne g2, hf r g1 g2 g3])
  exact L zFU 0 μ (by omega) (by unfold zFU; omega) (fun _ _ _ _ => rfl)
theorem zp_person : ∃ r, zC (fX7_person 0 zM1) r ∧ zR (fun m K => fX8_person 529 m K) r := by
  refine ⟨0, fun K hK => ?_, fun m K hm hK => ?_⟩
  · unfold fX7_person
    refine zp_note (fun m hn => ?_)
    unfold fX0_addPerson
    rw [zNo_P hn]
    refine ⟨fun _ => ⟨vp_in_nI (by decide) (by decide), fun q3 e3 => ?_⟩, fun c => absurd (by decide) c⟩
    have e3 : q3 = 5 := e3
    subst e3
    refine zs_start (fun m5 hf x6 e6 m7 e7 x8 e8 => ?_)
    have e6 : x6 = 1 := by rw [e6, hf 1 (by decide) (by decide) (by decide), zNo_P hn]; rfl
    have e8 : x8 = 0 := by rw [e8, e7, zu_same, z_upd_same, e6]; rfl
    rw [e8]
    refine zp_keep (by rw [e7, zu_ne (by decide), hf 53 (by decide) (by decide) (by decide)]; exact zNo_53 hn) (fun r hr => by rw [e7, zu_ne (by omega), hf r (by omega) (by omega) (by omega)]; exact zNo_Fr hn r hr) hK
  · show fX8_person 529 m K
    unfold fX8_person
    refine zp_hold hm (fun m2 hf h30 h8 => ?_)
    unfold fX8_comesHere
    intro x16 e16
    have e16 : x16 = 0 := by rw [e16, h30]; rfl
    refine ⟨fun _ x18 e18 => ?_, fun c => absurd (c.symm.trans e16) (by decide)⟩
    have e18 : x18 = nI 0 := by rw [e18, h30]; rfl
    subst e18
    obtain ⟨K2, hK2⟩ : ∃ K2 : Int32 → zMem → Prop, K2 = (fun r m4 => fX8_recorded 529 r m4 (fun r5 m6 => K r5 m6)) := ⟨_, rfl⟩
    rw [← hK2]
    have L : ∀ (n i : Nat) (m3 : zMem), i ≤ 17 → 17 - i < n → m3 529 8 = nI 0 → fX8_comesHere_23 K2 529 n (nI 0) (nI i) m3 := by
      intro n
      induction n with
      | zero => intro i m3 h1 h2; omega
      | succ n ih =>
        intro i m3 h1 h2 h9
        show fX8_comesHere_23b (fX8_comesHere_23 K2 529 n) K2 529 (nI 0) (nI i) m3
        unfold fX8_comesHere_23b
        refine ⟨fun _ => zp_val ?_, fun c => ?_⟩
        · intro x4 e4
          have e4 : x4 = nI 38 := e4
          refine ⟨by rw [e4]; exact vp_in_nI (by omega) (by decide), fun m6 e6 x7 e7 x8 e8 m9 e9 => ?_⟩
          rw [hK2]
          exact zp_rec (by rw [e9, zu_ne (by decide), e6, zu_ne (by decide), h9]) hK
        · have h3 : i < 17 := Nat.lt_of_not_le (fun g => c ((nI_leI (a := 17) (b := i) (by omega) (by omega)).mpr g))
          refine zp_val ?_
          intro x12 e12
          have e12 : x12 = nI (38 + i) := by rw [e12, nI_add]
          refine ⟨by rw [e12]; exact vp_in_nI (by omega) (by decide), fun m14 e14 x15 e15 => ?_⟩
          rw [e15, show nI i + (1 : Int32) = nI (i + 1) from nI_1 i]
          exact ih (i + 1) m14 (by omega) (by omega) (by rw [e14, zu_ne (by decide), h9])
    exact L zFU 0 m2 (by omega) (by unfold zFU; omega) h8
