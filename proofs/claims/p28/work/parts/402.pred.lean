/-! the small questions, and what is recorded -/
theorem zi_lt0 {j : Nat} (h : j < 2 ^ 31) {a : Int32} (e : a = nI j) : ¬ a < 0 := by
  rw [e]
  exact nI_pos h
theorem zs_hasPerson {a : Int32} {q P : Nat} {μ : zMem} {K : Int32 → zMem → Prop} (hP : μ q 3 = nI P) (hP2 : P ≤ 14) (h1 : ∀ j, j < P → a = nI j → K 1 μ) (h0 : (∀ j, j < P → a ≠ nI j) → K 0 μ) : fX0_hasPerson q a μ K := by
  unfold fX0_hasPerson fX0_hasPerson_16 fX0_hasPerson_17
  rw [hP]
  refine ⟨fun c => ⟨z_b0, h0 (fun j hj e => zi_lt0 (by omega) e c)⟩, fun c => ⟨fun c2 => ⟨z_b0, h0 (fun j hj e => by rw [e] at c2; exact nI_ge hj (by omega) c2)⟩, fun c2 => ?_⟩⟩
  rcases pk_ix a (n := P) (by omega) with g | g | ⟨j, hj, e⟩
  · exact absurd g c
  · exact absurd g c2
  · exact ⟨z_b1, h1 j hj e⟩
theorem zs_hasDish {a : Int32} {q : Nat} {μ : zMem} {K : Int32 → zMem → Prop} (h1 : ∀ j, j < 3 → a = nI j → K 1 μ) (h0 : (∀ j, j < 3 → a ≠ nI j) → K 0 μ) : fX0_hasDish q a μ K := by
  unfold fX0_hasDish fX0_hasDish_13 fX0_hasDish_14
  refine ⟨fun c => ⟨z_b0, h0 (fun j hj e => zi_lt0 (by omega) e c)⟩, fun c => ⟨fun c2 => ⟨z_b0, h0 (fun j hj e => by rw [e] at c2; exact nI_ge (b := 3) hj (by omega) c2)⟩, fun c2 => ?_⟩⟩
  rcases pk_ix a (n := 3) (by omega) with g | g | ⟨j, hj, e⟩
  · exact absurd g c
  · exact absurd g c2
  · exact ⟨z_b1, h1 j hj e⟩
theorem zs_isAhead {a : Int32} {q : Nat} {μ : zMem} {K : Int32 → zMem → Prop} (h1 : ∀ j, j < 5 → a = nI j → K 1 μ) (h0 : (∀ j, j < 5 → a ≠ nI j) → K 0 μ) : fX0_isAhead q a μ K := by
  unfold fX0_isAhead fX0_isAhead_13 fX0_isAhead_14
  refine ⟨fun c => ⟨z_b0, h0 (fun j hj e => zi_lt0 (by omega) e c)⟩, fun c => ⟨fun c2 => ⟨z_b0, h0 (fun j hj e => by rw [e] at c2; exact nI_ge (b := 5) hj (by omega) c2)⟩, fun c2 => ?_⟩⟩
  rcases pk_ix a (n := 5) (by omega) with g | g | ⟨j, hj, e⟩
  · exact absurd g c
  · exact absurd g c2
  · exact ⟨z_b1, h1 j hj e⟩
theorem zs_keep {μ : zMem} {N : Nat} {r : Int32} {K : Int32 → zMem → Prop} (hN : N ≤ 6) (h1 : μ 53 1 = nI N) (hK : ∀ (m : zMem) (N2 : Nat), N2 ≤ 6 → m 53 1 = nI N2 → (∀ a, a ≠ 53 → m a = μ a) → K r m) : fX2_keep 53 r μ K := by
  unfold fX2_keep fX2_keep_24 fX2_keep_42
  refine ⟨fun _ => hK μ N hN h1 (fun _ _ => rfl), fun _ => ⟨fun c x7 e7 m1 e1 x2 e2 x3 e3 m4 e4 => ?_, fun c m1 e1 x2 e2 x3 e3 m4 e4 => ?_⟩⟩
  · have h6 : N ≠ 6 := fun e => c (by rw [h1, e]; rfl)
    refine hK m4 (N + 1) (by omega) ?_ (fun a ha => by rw [e4, zu_ne ha, e1, zu_ne ha])
    rw [e4, zu_same, z_upd_ne (by decide), e1, zu_same, z_upd_same, e7, h1]
    exact nI_1 N
  · refine hK m4 0 (by omega) ?_ (fun a ha => by rw [e4, zu_ne ha, e1, zu_ne ha])
    rw [e4, zu_same, z_upd_ne (by decide), e1, zu_same, z_upd_same]
    rfl
theorem zs_note {μ : zMem} {N : Nat} {K : zMem → Prop} (hN : N ≤ 6) (h1 : μ 53 1 = nI N) (hI : zICan μ 1) (hK : ∀ m : zMem, (∀ r, ¬ (55 + 52 * N ≤ r ∧ r < 107 + 52 * N) → m r = μ r) → zSame m (55 + 52 * N) μ 1 → K m) : fX2_note 53 1 μ K := by
  unfold fX2_note
  rw [h1, nI_clamp (by omega)]
  refine ⟨vp_in_nI (by omega) (by decide), fun q2 e2 => ?_⟩
  have e2 : q2 = 55 + 52 * N := by omega
  subst e2
  exact zs_X0_become (by omega) hI (fun m hf hs => hK m (fun r hr => hf r (by omega)) hs)
