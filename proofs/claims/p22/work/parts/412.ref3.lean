/-! the reference: cooking, coming, buying, the end of a day -/
theorem zr_cooks {m : zMem} (hI : zRI (m 530)) : zAct (fX8_cooks 529 m) m := by
  intro K h
  have hI' := hI
  obtain ⟨P, D, dn, sp, kp, ⟨b1, b2, b3, b4, b5⟩, h0, h1, h2, h3, h4, h5, h6⟩ := hI
  unfold fX8_cooks
  intro x20 e20
  refine ⟨fun c => ?_, fun _ => h _ m (zF0 m) hI'⟩
  have hdn : dn = 0 := by
    refine Nat.eq_zero_of_not_pos (fun g => c ?_)
    rw [e20, h4, show dn = 1 by omega]
    rfl
  subst hdn
  have L : ∀ (n i : Nat) (s : Int32) (μ : zMem), i ≤ 3 → 3 - i < n → zF530 μ m → (∀ j, ¬ (23 ≤ j ∧ j < 38) → μ 530 j = m 530 j) → (∀ d, d < i → zRD D 1 (μ 530) d) → (∀ d, i ≤ d → d < 3 → zRD D 0 (μ 530) d) → fX8_cooks_18 K 529 n s (nI i) μ := by
    intro n
    induction n with
    | zero => intro i s μ g1 g2; omega
    | succ n ih =>
      intro i s μ g1 g2 g3 g4 g5 g6
      show fX8_cooks_18b (fX8_cooks_18 K 529 n) K 529 s (nI i) μ
      unfold fX8_cooks_18b
      refine ⟨fun c2 m2 e2 => ?_, fun c2 => ?_⟩
      · have hi : i = 3 := by
          have := (nI_leI (a := 3) (b := i) (by decide) (by omega)).mp c2
          omega
        subst hi
        subst e2
        refine h _ _ (zF_up g3) ?_
        rw [zu_same]
        refine ⟨P, D, 1, sp, kp, ⟨b1, b2, by decide, b4, b5⟩, ?_, ?_, ?_, ?_, z_upd_same, fun d hd => zRD_c (g5 d hd) (fun k hk => z_upd_ne (by omega)), fun i hi => zRP_c (h6 i hi) (fun k hk => ?_)⟩
        · rw [z_upd_ne (by decide), g4 0 (by omega)]; exact h0
        · rw [z_upd_ne (by decide), g4 1 (by omega)]; exact h1
        · rw [z_upd_ne (by decide), g4 4 (by omega)]; exact h2
        · rw [z_upd_ne (by decide), g4 5 (by omega)]; exact h3
        · rw [z_upd_ne (by omega), g4 _ (by omega)]
      · have hi : i < 3 := Nat.lt_of_not_le (fun g => c2 ((nI_leI (a := 3) (b := i) (by decide) (by omega)).mpr g))
        obtain ⟨a, b, c, e, t, q0, q1, q2, q3, q4, q5, q6, q7⟩ := g6 i (Nat.le_refl _) hi
        refine zr_toCook (P := P) (D := D) (sp := sp) (a := a) hi (by rw [g4 5 (by omega)]; exact h3) b1 b2 (fun i hi => zRP_c (h6 i hi) (fun k hk => g4 _ (by omega))) (by rw [g4 0 (by omega)]; exact h0) b4 q0 (by omega) (fun n hn => ?_)
        have e1 : 23 + 5 * i + 1 = 24 + 5 * i := by omega
        have e2 : 23 + 5 * i + 2 = 25 + 5 * i := by omega
        simp (disch := omega) only [forall_eq, zr_d, zq1, zq2, nI_add, zvpT, nI_clamp, true_and, e1, e2]
        refine ih (i + 1) _ _ (by omega) (by omega) (zF_up (zF_up g3)) (fun j hj => ?_) (fun d hd => ?_) (fun d hd hd2 => ?_)
        · rw [zu_same, zu_same, z_upd_ne (by omega), z_upd_ne (by omega)]
          exact g4 j hj
        · by_cases e' : d = i
          · subst e'
            refine ⟨a, n, c + n, e, t, ?_, ?_, ?_, ?_, ?_, by have := q7 rfl; omega, by omega, by omega⟩
            · rw [zu_same, zu_same, z_upd_ne (by omega), z_upd_ne (by omega)]; exact q0
            · rw [zu_same, zu_same, z_upd_ne (by omega), z_upd_same]
            · rw [zu_same, zu_same, z_upd_same, z_upd_ne (by omega), q2, nI_add]
            · rw [zu_same, zu_same, z_upd_ne (by omega), z_upd_ne (by omega)]; exact q3
            · rw [zu_same, zu_same, z_upd_ne (by omega), z_upd_ne (by omega)]; exact q4
          · exact zRD_c (g5 d (by omega)) (fun k hk => by rw [zu_same, zu_same, z_upd_ne (by omega), z_upd_ne (by omega)])
        · exact zRD_c (g6 d (by omega) hd2) (fun k hk => by rw [zu_same, zu_same, z_upd_ne (by omega), z_upd_ne (by omega)])
  exact L zFU 0 0 m (by omega) (by unfold zFU; omega) (zF0 m) (fun _ _ => rfl) (fun d hd => by omega) (fun d _ hd => h5 d hd)
/-- a plate is eaten, where one is left -/
theorem zr_eatsI {P D sp kp j d a b : Nat} {m : zMem} {K : zMem → Prop} (hj : j < 14) (hd : d < 3) (hb : D ≤ 9999) (hJ : zRJ P D 1 sp kp (m 530)) (ha : m 530 (23 + 5 * d) = nI a) (hbb : m 530 (24 + 5 * d) = nI b) (ha2 : a + b < 2 ^ 30) (hab : 0 < a + b) (h : ∀ m2, zF530 m2 m → zRJ P D 1 sp kp (m2 530) → K m2) : fX8_eats 529 (nI j) (nI d) m K := by
  refine zr_eats hj hd (fun k hk hk1 m2 f2 g2 => h m2 f2 ?_)
  obtain ⟨h0, h1, h2, h3, h4, h5, h6⟩ := hJ
  obtain ⟨a', b', c, e, t, q0, q1, q2, q3, q4, q5, q6, q7⟩ := h5 d hd
  have ea : a' = a := (nI_eq (by omega) (by omega)).mp (q0.symm.trans ha)
  have eb : b' = b := (nI_eq (by omega) (by omega)).mp (q1.symm.trans hbb)
  subst ea
  subst eb
  have hk2 : k = 0 ↔ 0 < a' := by
    rw [hk, q0]
    constructor
    · intro g
      refine Nat.pos_of_ne_zero (fun g2 => g ?_)
      rw [g2]
      decide
    · intro g g2
      exact nI_nle g (by omega) g2
  have J : zRJ P D 1 sp kp (upd (upd (m 530) (23 + 5 * d + k) (m 530 (23 + 5 * d + k) - 1)) (26 + 5 * d) (m 530 (26 + 5 * d) + 1)) := by
    refine ⟨?_, ?_, ?_, ?_, ?_, fun d2 hd2 => ?_, fun i hi => zRP_c (h6 i hi) (fun k2 hk2 => by rw [z_upd_ne (by omega), z_upd_ne (by omega)])⟩
    · rw [z_upd_ne (by omega), z_upd_ne (by omega)]; exact h0
    · rw [z_upd_ne (by omega), z_upd_ne (by omega)]; exact h1
    · rw [z_upd_ne (by omega), z_upd_ne (by omega)]; exact h2
    · rw [z_upd_ne (by omega), z_upd_ne (by omega)]; exact h3
    · rw [z_upd_ne (by omega), z_upd_ne (by omega)]; exact h4
    · by_cases e' : d2 = d
      · subst e'
        rcases (show k = 0 ∨ k = 1 by omega) with rfl | rfl
        · have hp : 0 < a' := hk2.mp rfl
          obtain ⟨a2, rfl⟩ : ∃ a2, a' = a2 + 1 := ⟨a' - 1, by omega⟩
          refine ⟨a2, b', c, e + 1, t, ?_, ?_, ?_, ?_, ?_, by omega, q6, q7⟩
          · rw [z_upd_ne (by omega), show 23 + 5 * d2 + 0 = 23 + 5 * d2 by omega, z_upd_same, q0, nI_pred]
          · rw [z_upd_ne (by omega), z_upd_ne (by omega)]; exact q1
          · rw [z_upd_ne (by omega), z_upd_ne (by omega)]; exact q2
          · rw [z_upd_same, q3, zq1, nI_add]
          · rw [z_upd_ne (by omega), z_upd_ne (by omega)]; exact q4
        · have hp : a' = 0 := Nat.eq_zero_of_not_pos (fun g => absurd (hk2.mpr g) (by decide))
          obtain ⟨b2, rfl⟩ : ∃ b2, b' = b2 + 1 := ⟨b' - 1, by omega⟩
          refine ⟨a', b2, c, e + 1, t, ?_, ?_, ?_, ?_, ?_, by omega, q6, by omega⟩
          · rw [z_upd_ne (by omega), z_upd_ne (by omega)]; exact q0
          · rw [z_upd_ne (by omega), show 23 + 5 * d2 + 1 = 24 + 5 * d2 by omega, z_upd_same, q1, nI_pred]
          · rw [z_upd_ne (by omega), z_upd_ne (by omega)]; exact q2
          · rw [z_upd_same, q3, zq1, nI_add]
          · rw [z_upd_ne (by omega), z_upd_ne (by omega)]; exact q4
      · exact zRD_c (h5 d2 hd2) (fun k2 hk2 => by rw [z_upd_ne (by omega), z_upd_ne (by omega)])
  rw [g2, show 54 + 17 * j = 38 + 17 * j + 16 by omega]
  exact zRJ_row (c := 16) J (Or.inr (Or.inr rfl))
theorem zr_comes {a : Int32} {m : zMem} (hI : zRI (m 530)) : zAct (fX8_comes 529 a m) m := by
  intro K h
  have hI' := hI
  obtain ⟨P, D, dn, sp, kp, hb, hJ⟩ := hI
  have hm : ∀ r, K r m := fun r => h r m (zF0 m) hI'
  have hb2 := hb.2.1
  have hb1 := hb.1
  unfold fX8_comes fX8_comes_49
  refine zs_isPerson hJ.2.2.2.1 hb.1 (fun j hj e => ⟨fun _ => ?_, fun g => absurd g (by decide)⟩) (fun _ => ⟨fun g => absurd rfl g, fun _ => hm _⟩)
  subst e
  have hj14 : j < 14 := by omega
  obtain ⟨o, c, w, t, o1, o2, o3, o4, o5, o6⟩ := hJ.2.2.2.2.2.2 j hj14
  obtain ⟨o0, ho, eo⟩ := o 0 (by decide)
  have eo : m 530 (39 + 17 * j) = nI o0 := eo
  rw [zr_p]
  intro x27 e27
  refine ⟨fun _ => hm _, fun c1 => ?_⟩
  have hdn : dn = 1 := by
    refine Nat.le_antisymm hb.2.2.1 (Nat.pos_of_ne_zero (fun g => c1 ?_))
    rw [e27, hJ.2.2.2.2.1, g]
    rfl
  subst hdn
  have e39 : 38 + 17 * j + 1 = 39 + 17 * j := by omega
  have e53 : 38 + 17 * j + 15 = 53 + 17 * j := by omega
  have e51 : 38 + 17 * j + 13 = 51 + 17 * j := by omega
  have i1 : nI (38 + 17 * j) + (1 : Int32) = nI (39 + 17 * j) := by rw [zq1, nI_add, e39]
  have i15 : nI (38 + 17 * j) + (15 : Int32) = nI (53 + 17 * j) := by rw [zq15, nI_add, e53]
  simp (disch := omega) only [forall_eq, i1, i15, zvpT, nI_clamp, true_and, eo, o3]
  refine ⟨fun _ => hm _, fun c2 => ⟨fun c3 => ?_, fun _ => hm _⟩⟩
  have ho1 : 0 < o0 := Nat.pos_of_ne_zero (fun g => c2 (by rw [g]; rfl))
  have ht : t = 0 := Nat.eq_zero_of_not_pos (fun g => c3 (by rw [show t = 1 by omega]; rfl))
  subst ht
  obtain ⟨d, rfl⟩ : ∃ d, o0 = d + 1 := ⟨o0 - 1, by omega⟩
  have hd : d < 3 := by omega
  rw [nI_pred]
  obtain ⟨a0, b0, c0, e0, t0, q0, q1, q2, q3, q4, q5, q6, q7⟩ := hJ.2.2.2.2.2.1 d hd
  -- behind the marks on the row
  have J1 : zRJ P D 1 sp kp (upd (upd (upd (m 530) (53 + 17 * j) 1) (51 + 17 * j) (nI c + 1)) (49 + 17 * j) 0) := by
    obtain ⟨h0, h1, h2, h3, h4, h5, h6⟩ := hJ
    rw [show 49 + 17 * j = 38 + 17 * j + 11 by omega]
    refine zRJ_row (c := 11) ⟨?_, ?_, ?_, ?_, ?_, fun d hd => zRD_c (h5 d hd) (fun k hk => by rw [z_upd_ne (by omega), z_upd_ne (by omega)]), fun i hi => ?_⟩ (by omega)
    · rw [z_upd_ne (by omega), z_upd_ne (by omega)]; exact h0
    · rw [z_upd_ne (by omega), z_upd_ne (by omega)]; exact h1
    · rw [z_upd_ne (by omega), z_upd_ne (by omega)]; exact h2
    · rw [z_upd_ne (by omega), z_upd_ne (by omega)]; exact h3
    · rw [z_upd_ne (by omega), z_upd_ne (by omega)]; exact h4
    · by_cases e : i = j
      · subst e
        refine ⟨fun k hk => ?_, c + 1, w, 1, ?_, ?_, ?_, by decide, by omega, o6⟩
        · obtain ⟨o', ho', eo'⟩ := o k hk
          exact ⟨o', ho', by rw [z_upd_ne (by omega), z_upd_ne (by omega)]; exact eo'⟩
        · rw [z_upd_same, zq1, nI_add]
        · rw [z_upd_ne (by omega), z_upd_ne (by omega)]; exact o2
        · rw [z_upd_ne (by omega), z_upd_same]; rfl
      · exact zRP_c (h6 i hi) (fun k hk => by rw [z_upd_ne (by omega), z_upd_ne (by omega)])
  have fin : ∀ (m2 : zMem) (v x : Int32), zF530 m2 m → zRJ P D 1 sp kp (m2 530) → fX8_comes_139 K 529 v x m2 := by
    intro m2 v x f2 j2
    unfold fX8_comes_139 fX8_comes_149
    exact ⟨fun _ => h _ m2 f2 ⟨P, D, 1, sp, kp, hb, j2⟩, fun _ => h _ m2 f2 ⟨P, D, 1, sp, kp, hb, j2⟩⟩
  have go : ∀ v4 : Int32, (¬ v4 = 0 → 0 < a0 + b0) → fX8_comes_76 K 529 (nI j) (nI (38 + 17 * j)) (nI d) v4 m := by
    intro v4 hv
    unfold fX8_comes_76
    have i13 : nI (38 + 17 * j) + (13 : Int32) = nI (51 + 17 * j) := by rw [zq13, nI_add, e51]
    have i11 : nI (38 + 17 * j) + (11 : Int32) = nI (49 + 17 * j) := by rw [zq11, nI_add]; congr 1; omega
    have i6 : nI (38 + 17 * j) + (6 : Int32) = nI (44 + 17 * j) := by rw [zq6, nI_add]; congr 1; omega
    simp (disch := omega) only [forall_eq, i15, i13, i11, i6, zvpT, nI_clamp, true_and]
    have em : z_up (z_up (z_up m 530 (53 + 17 * j) 1) 530 (51 + 17 * j) (z_up m 530 (53 + 17 * j) 1 530 (51 + 17 * j) + 1)) 530 (49 + 17 * j) 0 530 = upd (upd (upd (m 530) (53 + 17 * j) 1) (51 + 17 * j) (nI c + 1)) (49 + 17 * j) 0 := by
      simp only [zu_same]
      rw [z_upd_ne (show 51 + 17 * j ≠ 53 + 17 * j by omega), o1]
    refine ⟨fun _ => ?_, fun g => ?_⟩
    · refine zr_gives hj14 (fun y => fin _ _ _ (zF_up (zF_up (zF_up (zF_up (zF0 m))))) ?_)
      rw [zu_same, em]
      exact zRJ_row (c := 0) J1 (Or.inl rfl)
    · refine zr_eatsI (P := P) (D := D) (sp := sp) (kp := kp) (a := a0) (b := b0) hj14 hd hb2 (by rw [em]; exact J1) ?_ ?_ (by omega) (hv g) (fun m2 f2 j2 => fin _ _ _ (fun r hr => by rw [f2 r hr]; exact zF_up (zF_up (zF_up (zF0 m))) r hr) j2)
      · rw [em, z_upd_ne (by omega), z_upd_ne (by omega), z_upd_ne (by omega)]; exact q0
      · rw [em, z_upd_ne (by omega), z_upd_ne (by omega), z_upd_ne (by omega)]; exact q1
  refine zr_left hd q0 q1 ⟨fun _ => go 0 (fun g => absurd rfl g), fun g => go 1 (fun _ => ?_)⟩
  exact Nat.pos_of_ne_zero (fun g2 => g (by rw [g2]; decide))
