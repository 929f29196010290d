/-! one call on fresh objects: what is told of a dish, counts -/
theorem zp_ofDish (a b : Int32) : ∃ r, zC (fX7_ofDish 0 a b zM1) r ∧ zR (fun m K => fX8_ofDish 529 a b m K) r := by
  rcases zn_dish a with ⟨j, hj, rfl⟩ | ha
  · -- the two sides for a given number of the question
    have hc : (nI j).toNatClampNeg = j := nI_clamp (by omega)
    have C : ∀ (K : Int32 → zMem → Prop) (r : Int32), (∀ m, zFr m → K r m) →
        ((b = 0 ∨ b = 1 ∨ b = 2 ∨ b = 3 ∨ b = 4 ∨ b = 5) → r = 0) → ((b = 6 ∨ b = 7) → r = 1) → ((b ≠ 0 ∧ b ≠ 1 ∧ b ≠ 2 ∧ b ≠ 3 ∧ b ≠ 4 ∧ b ≠ 5 ∧ b ≠ 6 ∧ b ≠ 7) → r = -2) → fX7_ofDish 0 (nI j) b zM1 K := by
      intro K r hK h0 h1 h2
      unfold fX7_ofDish fX0_aboutDish
      refine zs_hasDish (fun _ _ _ => ⟨fun _ => ?_, fun g => absurd g (by decide)⟩) (fun g => absurd rfl (g j hj))
      have hi : vp_in (nI j) 3 := vp_in_nI hj (by decide)
      have hz : ∀ q : Nat, q = 1 + 3 + 43 + 2 * (nI j).toNatClampNeg → zM1 q = fun _ => 0 := by
        intro q e
        rw [e, hc]
        exact zM1_d j hj
      refine ⟨fun g => ⟨hi, fun q e => ?_⟩, fun g0 => ⟨fun g => ⟨hi, fun q e => ?_⟩, fun g1 => ⟨fun g => ?_, fun g2 => ⟨fun g => ⟨hi, fun q e => ?_⟩, fun g3 => ⟨fun g => ⟨hi, fun q e => ?_⟩, fun g4 => ⟨fun g => ⟨hi, fun q e => ?_⟩, fun g5 => ⟨fun g => ?_, fun g6 => ⟨fun g => ?_, fun g7 => ?_⟩⟩⟩⟩⟩⟩⟩⟩
      · rw [hz q e]
        have := h0 (Or.inl g)
        subst this
        exact hK _ zFr0
      · rw [hz q e]
        have := h0 (Or.inr (Or.inl g))
        subst this
        exact hK _ zFr0
      · have := h0 (Or.inr (Or.inr (Or.inl g)))
        subst this
        exact zn_awaitedC (hK _ zFr0)
      · rw [hz q e]
        have := h0 (Or.inr (Or.inr (Or.inr (Or.inl g))))
        subst this
        exact hK _ zFr0
      · rw [hz q e]
        have := h0 (Or.inr (Or.inr (Or.inr (Or.inr (Or.inl g)))))
        subst this
        exact hK _ zFr0
      · rw [hz q e]
        have := h0 (Or.inr (Or.inr (Or.inr (Or.inr (Or.inr g)))))
        subst this
        exact hK _ zFr0
      · have := h1 (Or.inl g)
        subst this
        unfold fX0_priceOf
        refine ⟨hi, fun q e x3 e3 x4 e4 => ?_⟩
        have e4 : x4 = 0 := by rw [e4, e3]; rfl
        subst e4
        refine ⟨by unfold vp_in; decide, fun x6 e6 => ?_⟩
        have e6 : x6 = 1 := by rw [e6, e, hc, zM1_pr j hj]; rfl
        rw [e6]
        exact hK _ zFr0
      · have := h1 (Or.inr g)
        subst this
        refine ⟨fun _ => ?_, fun g => absurd rfl g⟩
        unfold fX0_aboutDish_135
        exact zn_cookC hj rfl rfl (by rw [zM1_d j hj]) (hK _ zFr0)
      · have := h2 ⟨g0, g1, g2, g3, g4, g5, g6, g7⟩
        subst this
        exact hK _ zFr0
    have D : ∀ (m : zMem) (K : Int32 → zMem → Prop) (r : Int32), zFr m → (∀ m2, K r m2) →
        ((b = 0 ∨ b = 1 ∨ b = 2 ∨ b = 3 ∨ b = 4 ∨ b = 5) → r = 0) → ((b = 6 ∨ b = 7) → r = 1) → ((b ≠ 0 ∧ b ≠ 1 ∧ b ≠ 2 ∧ b ≠ 3 ∧ b ≠ 4 ∧ b ≠ 5 ∧ b ≠ 6 ∧ b ≠ 7) → r = -2) → fX8_ofDish 529 (nI j) b m K := by
      intro m K r hm hK h0 h1 h2
      have hs : ∀ k, k < 5 → m 530 (23 + 5 * j + k) = 0 := fun k hk => by rw [hm 530 (by omega), zM1_530, zs1_0 _ (by omega) (by omega)]
      have s1 : ∀ (k : Nat) (x : Int32), k < 5 → x = nI (23 + 5 * j + k) → vp_in x 276 ∧ m 530 x.toNatClampNeg = 0 := by
        intro k x hk e
        rw [e, nI_clamp (by omega)]
        exact ⟨vp_in_nI (by omega) (by decide), hs k hk⟩
      unfold fX8_ofDish
      refine zs_isDish (fun _ _ _ => ⟨fun _ => ?_, fun g => absurd g (by decide)⟩) (fun g => absurd rfl (g j hj))
      refine ⟨fun g => zd_val (fun x e => ?_), fun g0 => ⟨fun g => zd_val (fun x e => ?_), fun g1 => ⟨fun g => ?_, fun g2 => ⟨fun g => zd_val (fun x e x2 e2 => ?_), fun g3 => ⟨fun g => zd_val (fun x e x2 e2 => ?_), fun g4 => ⟨fun g => zd_val (fun x e x2 e2 => ?_), fun g5 => ⟨fun g x e => ?_, fun g6 => ⟨fun g x e => ?_, fun g7 => ?_⟩⟩⟩⟩⟩⟩⟩⟩
      · obtain ⟨i1, i2⟩ := s1 0 x (by decide) (by rw [e, g, show (0 : Int32) = nI 0 from rfl, nI_add])
        refine ⟨i1, fun y ey => ?_⟩
        have := h0 (Or.inl g)
        rw [ey, i2, ← this]
        exact hK m
      · obtain ⟨i1, i2⟩ := s1 1 x (by decide) (by rw [e, g, show (1 : Int32) = nI 1 from rfl, nI_add])
        refine ⟨i1, fun y ey => ?_⟩
        have := h0 (Or.inr (Or.inl g))
        rw [ey, i2, ← this]
        exact hK m
      · have := h0 (Or.inr (Or.inr (Or.inl g)))
        subst this
        exact zn_awaitedR hm (hK m)
      · obtain ⟨i1, i2⟩ := s1 2 x2 (by decide) (by rw [e2, e, g, show (3 : Int32) = nI 3 from rfl, show (1 : Int32) = nI 1 from rfl, nI_add, pk_sub (by omega)]; rfl)
        refine ⟨i1, fun y ey => ?_⟩
        have := h0 (Or.inr (Or.inr (Or.inr (Or.inl g))))
        rw [ey, i2, ← this]
        exact hK m
      · obtain ⟨i1, i2⟩ := s1 3 x2 (by decide) (by rw [e2, e, g, show (4 : Int32) = nI 4 from rfl, show (1 : Int32) = nI 1 from rfl, nI_add, pk_sub (by omega)]; rfl)
        refine ⟨i1, fun y ey => ?_⟩
        have := h0 (Or.inr (Or.inr (Or.inr (Or.inr (Or.inl g)))))
        rw [ey, i2, ← this]
        exact hK m
      · obtain ⟨i1, i2⟩ := s1 4 x2 (by decide) (by rw [e2, e, g, show (5 : Int32) = nI 5 from rfl, show (1 : Int32) = nI 1 from rfl, nI_add, pk_sub (by omega)]; rfl)
        refine ⟨i1, fun y ey => ?_⟩
        have := h0 (Or.inr (Or.inr (Or.inr (Or.inr (Or.inr g)))))
        rw [ey, i2, ← this]
        exact hK m
      · have := h1 (Or.inl g)
        subst this
        unfold fX8_priceOn
        intro x1 e1 x2 e2 x3 e3 x4 e4
        have e4 : x4 = nI (8 + j) := by
          have : x3 = nI 8 := by rw [e3, e2, e1, e, hm 530 (by omega)]; rfl
          rw [e4, this, nI_add]
        refine ⟨by rw [e4]; exact vp_in_nI (by omega) (by decide), fun x6 e6 => ?_⟩
        have e6 : x6 = 1 := by
          rw [e6, e4, nI_clamp (by omega), hm 530 (by omega), zM1_530]
          unfold zs1
          rw [if_pos ⟨by omega, by omega⟩]
        rw [e6]
        exact hK m
      · have := h1 (Or.inr g)
        subst this
        have e : x = 0 := by rw [e, hm 530 (by omega)]; rfl
        refine ⟨fun _ => ?_, fun c => absurd (e.symm.trans c) (by decide)⟩
        unfold fX8_ofDish_120
        exact zn_cookR hj (zFr_P hm) (by rw [hm 530 (by omega)]; rfl) (hs 0 (by decide)) (hK m)
      · have := h2 ⟨g0, g1, g2, g3, g4, g5, g6, g7⟩
        subst this
        exact hK m
    rcases Classical.em (b = 0 ∨ b = 1 ∨ b = 2 ∨ b = 3 ∨ b = 4 ∨ b = 5) with h | h
    · have n6 : ¬ (b = 6 ∨ b = 7) := by
        rintro (e | e) <;> subst e <;> revert h <;> decide
      refine ⟨0, fun K hK => C K 0 hK (fun _ => rfl) (fun g => absurd g n6) (fun g => ?_), fun m K hm hK => D m K 0 hm hK (fun _ => rfl) (fun g => absurd g n6) (fun g => ?_)⟩ <;>
        exact absurd h (fun h => by rcases h with h | h | h | h | h | h <;> simp_all)
    · rcases Classical.em (b = 6 ∨ b = 7) with h6 | h6
      · refine ⟨1, fun K hK => C K 1 hK (fun g => absurd g h) (fun _ => rfl) (fun g => ?_), fun m K hm hK => D m K 1 hm hK (fun g => absurd g h) (fun _ => rfl) (fun g => ?_)⟩ <;>
          exact absurd h6 (fun h => by rcases h with h | h <;> simp_all)
      · exact ⟨-2, fun K hK => C K (-2) hK (fun g => absurd g h) (fun g => absurd g h6) (fun _ => rfl), fun m K hm hK => D m K (-2) hm hK (fun g => absurd g h) (fun g => absurd g h6) (fun _ => rfl)⟩
  · refine ⟨-1, fun K hK => ?_, fun m K hm hK => ?_⟩
    · unfold fX7_ofDish fX0_aboutDish
      exact zs_hasDish (fun j hj e => absurd e (ha j hj)) (fun _ => ⟨fun g => absurd rfl g, fun _ => hK _ zFr0⟩)
    · show fX8_ofDish 529 a b m K
      unfold fX8_ofDish
      exact zs_isDish (fun j hj e => absurd e (ha j hj)) (fun _ => ⟨fun g => absurd rfl g, fun _ => hK m⟩)
