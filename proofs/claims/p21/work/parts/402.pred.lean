/-! the small questions, and what is held and recorded -/
theorem zi_lt0 {j : Nat} (h : j < 2 ^ 31) {a : Int32} (e : a = nI j) : ¬ a < 0 := by
  rw [e]
  exact nI_pos h
theorem zs_in {a lo hi : Int32} {μ : zMem} {K : Int32 → zMem → Prop} (h1 : lo ≤ a → a ≤ hi → K 1 μ) (h0 : ¬ (lo ≤ a ∧ a ≤ hi) → K 0 μ) : fX8_in a lo hi μ K := by
  unfold fX8_in fX8_in_14 fX8_in_15
  exact ⟨fun c => ⟨z_b0, h0 (fun g => Int32.not_lt.mpr g.1 c)⟩, fun c => ⟨fun c2 => ⟨z_b0, h0 (fun g => Int32.not_lt.mpr g.2 c2)⟩, fun c2 => ⟨z_b1, h1 (Int32.not_lt.mp c) (Int32.not_lt.mp c2)⟩⟩⟩
theorem zi_rng {a : Int32} {n : Nat} (hn : n < 2 ^ 30) : (0 ≤ a ∧ a ≤ nI n - 1) ↔ ∃ j, j < n ∧ a = nI j := by
  have e : (nI n - 1).toInt = (n : Int) - 1 := by
    rw [show (1 : Int32) = nI 1 from rfl, pk_sub_toInt hn (by decide)]
    rfl
  constructor
  · intro ⟨h1, h2⟩
    have h3 := Int32.le_iff_toInt_le.mp h2
    rw [e] at h3
    rcases pk_ix a (n := n) (by omega) with c | c | c
    · exact absurd c (Int32.not_lt.mpr h1)
    · have h4 := Int32.le_iff_toInt_le.mp c
      rw [nI_toInt (by omega)] at h4
      omega
    · exact c
  · rintro ⟨j, hj, rfl⟩
    refine ⟨nI_pos' (by omega), Int32.le_iff_toInt_le.mpr ?_⟩
    rw [e, nI_toInt (by omega)]
    omega
theorem zs_isPerson {a : Int32} {P : Nat} {μ : zMem} {K : Int32 → zMem → Prop} (hP : μ 530 5 = nI P) (hP2 : P ≤ 14) (h1 : ∀ j, j < P → a = nI j → K 1 μ) (h0 : (∀ j, j < P → a ≠ nI j) → K 0 μ) : fX8_isPerson 529 a μ K := by
  unfold fX8_isPerson
  intro x1 e1 x2 e2
  rw [e1, hP] at e2
  subst e2
  refine zs_in (fun g1 g2 => ?_) (fun g => ?_)
  · obtain ⟨j, hj, e⟩ := (zi_rng (by omega)).mp ⟨g1, g2⟩
    exact ⟨z_b1, h1 j hj e⟩
  · exact ⟨z_b0, h0 (fun j hj e => g ((zi_rng (by omega)).mpr ⟨j, hj, e⟩))⟩
theorem zs_isDish {a : Int32} {μ : zMem} {K : Int32 → zMem → Prop} (h1 : ∀ j, j < 3 → a = nI j → K 1 μ) (h0 : (∀ j, j < 3 → a ≠ nI j) → K 0 μ) : fX8_isDish a μ K := by
  unfold fX8_isDish
  refine zs_in (fun g1 g2 => ?_) (fun g => ?_)
  · obtain ⟨j, hj, e⟩ := (zi_rng (n := 3) (by decide)).mp ⟨g1, g2⟩
    exact ⟨z_b1, h1 j hj e⟩
  · exact ⟨z_b0, h0 (fun j hj e => g ((zi_rng (n := 3) (by decide)).mpr ⟨j, hj, e⟩))⟩
theorem zs_hasPerson {a : Int32} {q P : Nat} {μ : zMem} {K : Int32 → zMem → Prop} (hP : μ q 3 = nI P) (hP2 : P ≤ 14) (h1 : ∀ j, j < P → a = nI j → K 1 μ) (h0 : (∀ j, j < P → a ≠ nI j) → K 0 μ) : fX0_hasPerson q a μ K := by
  unfold fX0_hasPerson fX0_hasPerson_16 fX0_hasPerson_17
  rw [hP]
  refine ⟨fun c => ⟨z_b0, h0 (fun j hj e => zi_lt0 (by omega) e c)⟩, fun c => ⟨fun c2 => ⟨z_b0, h0 (fun j hj e => by rw [e] at c2; exact nI_ge hj (by omega) c2)⟩, fun c2 => ?_⟩⟩
  rcases pk_ix a (n := P) (by omega) with g | g | ⟨j, hj, e⟩
  · exact absurd g c
  · exact absurd g c2
  · exact ⟨z_b1, h1 j hj e⟩
theorem zs_hasDish {a : Int32} {q : Nat} {μ : zMem} {K : Int32 → zMem → Prop} (h1 : ∀ j, j < 3 → a = nI j → K 1 μ) (h0 : (∀ j, j < 3 → a ≠ nI j) → K 0 μ) : fX0_hasDish q a μ K := by
  unfold fX0_hasDish fX0_hasDish_13 fX0_hasDish_14
  refine ⟨fun c => ⟨z_b0, h0 (fun j hj e => zi_lt0 (by omega) e c)⟩, fun c => ⟨fun c2 => ⟨z_b0, h0 (fun j hj e => by rw [e] at c2; exact nI_ge (b := 3) hj (by omega) c2)⟩, fun c2 => ?_⟩⟩
  rcases pk_ix a (n := 3) (by omega) with g | g | ⟨j, hj, e⟩
  · exact absurd g c
  · exact absurd g c2
  · exact ⟨z_b1, h1 j hj e⟩
theorem zs_isAhead {a : Int32} {q : Nat} {μ : zMem} {K : Int32 → zMem → Prop} (h1 : ∀ j, j < 5 → a = nI j → K 1 μ) (h0 : (∀ j, j < 5 → a ≠ nI j) → K 0 μ) : fX0_isAhead q a μ K := by
  unfold fX0_isAhead fX0_isAhead_13 fX0_isAhead_14
  refine ⟨fun c => ⟨z_b0, h0 (fun j hj e => zi_lt0 (by omega) e c)⟩, fun c => ⟨fun c2 => ⟨z_b0, h0 (fun j hj e => by rw [e] at c2; exact nI_ge (b := 5) hj (by omega) c2)⟩, fun c2 => ?_⟩⟩
  rcases pk_ix a (n := 5) (by omega) with g | g | ⟨j, hj, e⟩
  · exact absurd g c
  · exact absurd g c2
  · exact ⟨z_b1, h1 j hj e⟩
theorem zs_hold {μ : zMem} {K : zMem → Prop} (hK : ∀ m : zMem, (∀ r, r ≠ 531 → m r = μ r) → (∀ j, j < 276 → m 531 j = μ 530 j) → K m) : fX8_hold 529 μ K := by
  unfold fX8_hold
  have L : ∀ (n i : Nat) (m : zMem), i ≤ 276 → 276 - i < n → (∀ r, r ≠ 531 → m r = μ r) → (∀ j, j < i → m 531 j = μ 530 j) → fX8_hold_2 K 529 n (nI i) m := by
    intro n
    induction n with
    | zero => intro i m h1 h2; omega
    | succ n ih =>
      intro i m h1 h2 hf hc
      show fX8_hold_2b (fX8_hold_2 K 529 n) K 529 (nI i) m
      unfold fX8_hold_2b
      refine ⟨fun c => ?_, fun c => ?_⟩
      · have h3 := (nI_leI (a := 276) (b := i) (by omega) (by omega)).mp c
        exact hK m hf (fun j hj => hc j (by omega))
      · have h3 : i < 276 := Nat.lt_of_not_le (fun g => c ((nI_leI (a := 276) (b := i) (by omega) (by omega)).mpr g))
        refine ⟨vp_in_nI h3 (by decide), fun x3 e3 => ⟨vp_in_nI h3 (by decide), fun m5 e5 x6 e6 => ?_⟩⟩
        rw [nI_clamp (by omega)] at e3 e5
        rw [e6, show nI i + (1 : Int32) = nI (i + 1) from nI_1 i]
        refine ih (i + 1) m5 (by omega) (by omega) (fun r hr => by rw [e5, zu_ne hr, hf r hr]) (fun j hj => ?_)
        by_cases hji : j = i
        · subst hji
          rw [e5, zu_same, z_upd_same, e3, hf 530 (by decide)]
        · rw [e5, zu_same, z_upd_ne hji]
          exact hc j (by omega)
  exact L zFU 0 μ (by omega) (by unfold zFU; omega) (fun _ _ => rfl) (fun j hj => by omega)
/-- recorded, as far as it doesn't matter what -/
theorem zs_recorded {μ : zMem} {S : Nat} {r : Int32} {K : Int32 → zMem → Prop} (hS : S ≤ 6) (h8 : μ 529 8 = nI S) (hK : ∀ (m : zMem) (S2 : Nat), S2 ≤ 6 → m 529 8 = nI S2 → (∀ k, k ≠ 8 → m 529 k = μ 529 k) → (∀ a, a ≠ 529 → a ≠ 532 → m a = μ a) → K r m) : fX8_recorded 529 r μ K := by
  -- the last copy
  have L2 : ∀ (T n i : Nat) (m : zMem), T ≤ 5 → i ≤ 276 → 276 - i < n → m 529 8 = nI T → (∀ k, k ≠ 8 → m 529 k = μ 529 k) → (∀ a, a ≠ 529 → a ≠ 532 → m a = μ a) → fX8_recorded_56 K 529 n r (nI i) m := by
    intro T n
    induction n with
    | zero => intro i m h0 h1 h2; omega
    | succ n ih =>
      intro i m h0 h1 h2 h8 hk hf
      show fX8_recorded_56b (fX8_recorded_56 K 529 n) K 529 r (nI i) m
      unfold fX8_recorded_56b
      refine ⟨fun c => ?_, fun c => ?_⟩
      · intro x2 e2 m3 e3
        unfold fX8_recorded_100
        refine hK m3 (T + 1) (by omega) (by rw [e3, zu_same, z_upd_same, e2, h8]; exact nI_1 T) (fun k hk2 => by rw [e3, zu_same, z_upd_ne hk2, hk k hk2]) (fun a ha hb => by rw [e3, zu_ne ha, hf a ha hb])
      · have h3 : i < 276 := Nat.lt_of_not_le (fun g => c ((nI_leI (a := 276) (b := i) (by omega) (by omega)).mpr g))
        intro x4 e4 x5 e5
        have e5 : x5 = nI (276 * T + i) := by
          rw [e5, e4, h8, show (276 : Int32) = nI 276 from rfl, pk_mul, nI_add]
        refine ⟨vp_in_nI h3 (by decide), fun x7 e7 => ⟨by rw [e5]; exact vp_in_nI (by omega) (by decide), fun m9 e9 x10 e10 => ?_⟩⟩
        rw [e10, show nI i + (1 : Int32) = nI (i + 1) from nI_1 i]
        refine ih (i + 1) m9 h0 (by omega) (by omega) (by rw [e9, zu_ne (by decide)]; exact h8) (fun k hk2 => by rw [e9, zu_ne (by decide)]; exact hk k hk2) (fun a ha hb => by rw [e9, zu_ne hb]; exact hf a ha hb)
  -- the shift
  have L1 : ∀ (n i : Nat) (m : zMem), i ≤ 1380 → 1380 - i < n → m 529 8 = nI 6 → (∀ k, k ≠ 8 → m 529 k = μ 529 k) → (∀ a, a ≠ 529 → a ≠ 532 → m a = μ a) → fX8_recorded_15 K 529 n r (nI i) m := by
    intro n
    induction n with
    | zero => intro i m h1 h2; omega
    | succ n ih =>
      intro i m h1 h2 h8 hk hf
      show fX8_recorded_15b (fX8_recorded_15 K 529 n) K 529 r (nI i) m
      unfold fX8_recorded_15b
      refine ⟨fun c => ?_, fun c => ?_⟩
      · intro x2 e2 m3 e3
        unfold fX8_recorded_54
        refine L2 5 zFU 0 m3 (by omega) (by omega) (by unfold zFU; omega) (by rw [e3, zu_same, z_upd_same, e2, h8]; rfl) (fun k hk2 => by rw [e3, zu_same, z_upd_ne hk2, hk k hk2]) (fun a ha hb => by rw [e3, zu_ne ha, hf a ha hb])
      · have h3 : i < 1380 := Nat.lt_of_not_le (fun g => c ((nI_leI (a := 1380) (b := i) (by omega) (by omega)).mpr g))
        intro x4 e4
        have e4 : x4 = nI (276 + i) := by rw [e4, show (276 : Int32) = nI 276 from rfl, nI_add]
        refine ⟨by rw [e4]; exact vp_in_nI (by omega) (by decide), fun x7 e7 => ⟨vp_in_nI (by omega) (by decide), fun m9 e9 x10 e10 => ?_⟩⟩
        rw [e10, show nI i + (1 : Int32) = nI (i + 1) from nI_1 i]
        refine ih (i + 1) m9 (by omega) (by omega) (by rw [e9, zu_ne (by decide)]; exact h8) (fun k hk2 => by rw [e9, zu_ne (by decide)]; exact hk k hk2) (fun a ha hb => by rw [e9, zu_ne hb]; exact hf a ha hb)
  unfold fX8_recorded
  refine ⟨fun _ => hK μ S hS h8 (fun _ _ => rfl) (fun _ _ _ => rfl), fun _ => ⟨fun c => ?_, fun c => ?_⟩⟩
  · unfold fX8_recorded_54
    have h6 : S ≠ 6 := fun e => c (by rw [h8, e]; rfl)
    exact L2 S zFU 0 μ (by omega) (by omega) (by unfold zFU; omega) h8 (fun _ _ => rfl) (fun _ _ _ => rfl)
  · exact L1 zFU 0 μ (by omega) (by unfold zFU; omega) (by rw [c]; rfl) (fun _ _ => rfl) (fun _ _ _ => rfl)
theorem zs_keep {μ : zMem} {N : Nat} {r : Int32} {K : Int32 → zMem → Prop} (hN : N ≤ 6) (h1 : μ 53 1 = nI N) (hK : ∀ (m : zMem) (N2 : Nat), N2 ≤ 6 → m 53 1 = nI N2 → (∀ a, a ≠ 53 → m a = μ a) → K r m) : fX2_keep 53 r μ K := by
  unfold fX2_keep fX2_keep_24 fX2_keep_42
  refine ⟨fun _ => hK μ N hN h1 (fun _ _ => rfl), fun _ => ⟨fun c x7 e7 m1 e1 x2 e2 x3 e3 m4 e4 => ?_, fun c m1 e1 x2 e2 x3 e3 m4 e4 => ?_⟩⟩
  · have h6 : N ≠ 6 := fun e => c (by rw [h1, e]; rfl)
    refine hK m4 (N + 1) (by omega) ?_ (fun a ha => by rw [e4, zu_ne ha, e1, zu_ne ha])
    rw [e4, zu_same, z_upd_ne (by decide), e1, zu_same, z_upd_same, e7, h1]
    exact nI_1 N
  · refine hK m4 0 (by omega) ?_ (fun a ha => by rw [e4, zu_ne ha, e1, zu_ne ha])
    rw [e4, zu_same, z_upd_ne (by decide), e1, zu_same, z_upd_same]
    rfl
theorem zs_note {μ : zMem} {N : Nat} {K : zMem → Prop} (hN : N ≤ 6) (h1 : μ 53 1 = nI N) (hI : zICan μ 1) (hK : ∀ m : zMem, (∀ r, ¬ (55 + 52 * N ≤ r ∧ r < 107 + 52 * N) → m r = μ r) → zSame m (55 + 52 * N) μ 1 → K m) : fX2_note 53 1 μ K := by
  unfold fX2_note
  rw [h1, nI_clamp (by omega)]
  refine ⟨vp_in_nI (by omega) (by decide), fun q2 e2 => ?_⟩
  have e2 : q2 = 55 + 52 * N := by omega
  subst e2
  exact zs_X0_become (by omega) hI (fun m hf hs => hK m (fun r hr => hf r (by omega)) hs)
