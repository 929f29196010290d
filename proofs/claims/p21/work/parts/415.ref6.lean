/-! the reference: calls that only look -/
theorem zq10 : (10 : Int32) = nI 10 := rfl
theorem zro_daysOf {j : Nat} {m : zMem} {K : Int32 → zMem → Prop} (hj : j < 14) (h : ∀ r, K r m) : fX8_daysOf 529 (nI j) m K := by
  unfold fX8_daysOf
  have L : ∀ (n i : Nat) (s : Int32), i ≤ 5 → 5 - i < n → fX8_daysOf_4 K 529 n (nI j) s (nI i) m := by
    intro n
    induction n with
    | zero => intro i s g1 g2; omega
    | succ n ih =>
      intro i s g1 g2
      show fX8_daysOf_4b (fX8_daysOf_4 K 529 n) K 529 (nI j) s (nI i) m
      unfold fX8_daysOf_4b
      have go : ∀ t : Int32, i < 5 → fX8_daysOf_33 (fX8_daysOf_4 K 529 n) K 529 (nI j) (nI i) t s m := by
        intro t hi
        unfold fX8_daysOf_33
        intro x1 e1 x2 e2
        rw [e2, show nI i + (1 : Int32) = nI (i + 1) from nI_1 i]
        exact ih (i + 1) _ (by omega) (by omega)
      refine ⟨fun _ => h _, fun cc => ?_⟩
      have hi : i < 5 := Nat.lt_of_not_le (fun g => cc ((nI_leI (a := 5) (b := i) (by decide) (by omega)).mpr g))
      rw [zr_p]
      intro x6 e6 x7 e7
      have e7 : x7 = nI (39 + 17 * j + i) := by rw [e7, e6, zq1, nI_add, nI_add]; congr 1; omega
      refine ⟨by rw [e7]; exact vp_in_nI (by omega) (by decide), fun x9 e9 => ⟨fun _ => go _ hi, fun _ x11 e11 => go _ hi⟩⟩
  exact L zFU 0 0 (by omega) (by unfold zFU; omega)
theorem zro_of {a b : Int32} {m : zMem} {K : Int32 → zMem → Prop} (hM : zRM m) (h : ∀ r, K r m) : fX8_of 529 a b m K := by
  obtain ⟨P, D, dn, sp, kp, hb, hJ⟩ := hM.1
  have hb1 := hb.1
  unfold fX8_of fX8_of_103
  refine zs_isPerson hJ.2.2.2.1 hb1 (fun j hj e => ⟨fun _ => ?_, fun g => absurd g (by decide)⟩) (fun _ => ⟨fun g => absurd rfl g, fun _ => h _⟩)
  subst e
  have hj14 : j < 14 := by omega
  rw [zr_p]
  have cell : ∀ c : Nat, 3 ≤ c → c ≤ 8 → b = nI c → ∀ x23 : Int32, x23 = nI (38 + 17 * j) + (11 : Int32) → ∀ x24 : Int32, x24 = x23 + b → ∀ x25 : Int32, x25 = x24 - (3 : Int32) → vp_in x25 276 ∧ ∀ x27 : Int32, x27 = m 530 x25.toNatClampNeg → K x27 m := by
    intro c c1 c2 ec x e x2 e2 x3 e3
    rw [e3, e2, e, ec, zq11, zq3, nI_add, nI_add, pk_sub (by omega)]
    exact ⟨vp_in_nI (by omega) (by decide), fun _ _ => h _⟩
  have e1 : 38 + 17 * j + 1 = 39 + 17 * j := by omega
  refine ⟨fun _ => ?_, fun _ => ⟨fun _ => ?_, fun _ => ⟨fun _ => zro_daysOf hj14 h, fun _ => ⟨fun g => cell 3 (by decide) (by decide) g, fun _ => ⟨fun g => cell 4 (by decide) (by decide) g, fun _ => ⟨fun g => cell 5 (by decide) (by decide) g, fun _ => ⟨fun g => cell 6 (by decide) (by decide) g, fun _ => ⟨fun g => cell 7 (by decide) (by decide) g, fun _ => ⟨fun g => cell 8 (by decide) (by decide) g, fun _ => h _⟩⟩⟩⟩⟩⟩⟩⟩⟩
  · intro x e
    rw [e, zq0, nI_add]
    exact ⟨vp_in_nI (by omega) (by decide), fun _ _ => h _⟩
  · intro x e
    rw [e, zq1, nI_add]
    refine ⟨vp_in_nI (by omega) (by decide), fun x13 _ => ⟨fun _ x15 e15 => ?_, fun _ => h _⟩⟩
    rw [e15]
    exact ⟨vp_in_nI (by omega) (by decide), fun _ _ _ _ => h _⟩
theorem zro_ofDish {a b : Int32} {m : zMem} {K : Int32 → zMem → Prop} (hM : zRM m) (h : ∀ r, K r m) : fX8_ofDish 529 a b m K := by
  obtain ⟨P, D, dn, sp, kp, hb, hJ⟩ := hM.1
  have hb1 := hb.1
  have hb2 := hb.2.1
  unfold fX8_ofDish fX8_ofDish_120
  refine zs_isDish (fun d hd e => ⟨fun _ => ?_, fun g => absurd g (by decide)⟩) (fun _ => ⟨fun g => absurd rfl g, fun _ => h _⟩)
  subst e
  have cell : ∀ c : Nat, c ≤ 1 → b = nI c → ∀ x : Int32, x = nI (23 + 5 * d) + b → vp_in x 276 ∧ ∀ y : Int32, y = m 530 x.toNatClampNeg → K y m := by
    intro c c1 ec x e
    rw [e, ec, nI_add]
    exact ⟨vp_in_nI (by omega) (by decide), fun _ _ => h _⟩
  have cel2 : ∀ c : Nat, 3 ≤ c → c ≤ 5 → b = nI c → ∀ x : Int32, x = nI (23 + 5 * d) + b → ∀ x2 : Int32, x2 = x - (1 : Int32) → vp_in x2 276 ∧ ∀ y : Int32, y = m 530 x2.toNatClampNeg → K y m := by
    intro c c1 c2 ec x e x2 e2
    rw [e2, e, ec, zq1, nI_add, pk_sub (by omega)]
    exact ⟨vp_in_nI (by omega) (by decide), fun _ _ => h _⟩
  obtain ⟨a0, b0, c0, e0, t0, q0, q1, q2, q3, q4, q5, q6, q7⟩ := hJ.2.2.2.2.2.1 d hd
  have hb3 := hb.2.2.1
  simp only [zr_d]
  refine ⟨fun g => cell 0 (by decide) g, fun _ => ⟨fun g => cell 1 (by decide) g, fun _ => ⟨fun _ => zr_awaited hJ.2.2.2.1 hb1 (fun n _ => h _), fun _ => ⟨fun g => cel2 3 (by decide) (by decide) g, fun _ => ⟨fun g => cel2 4 (by decide) (by decide) g, fun _ => ⟨fun g => cel2 5 (by decide) (by decide) g, fun _ => ⟨fun _ x e => ?_, fun _ => ⟨fun _ x e => ⟨fun _ => ?_, fun _ => h _⟩, fun _ => h _⟩⟩⟩⟩⟩⟩⟩⟩
  · rw [e, hJ.2.2.1]
    exact zr_priceOn (by omega) hd (fun y => h y)
  · exact zr_toCook hd hJ.2.2.2.1 hb1 hb2 hJ.2.2.2.2.2.2 hJ.1 hb.2.2.2.1 q0 (by omega) (fun n _ => h _)
theorem zro_ordered {a b : Int32} {m : zMem} {K : Int32 → zMem → Prop} (hM : zRM m) (h : ∀ r, K r m) : fX8_ordered 529 a b m K := by
  obtain ⟨P, D, dn, sp, kp, hb, hJ⟩ := hM.1
  have hb1 := hb.1
  unfold fX8_ordered
  refine zs_isDish (fun d hd e => ⟨fun _ => ?_, fun g => absurd g (by decide)⟩) (fun _ => ⟨fun g => absurd rfl g, fun _ => h _⟩)
  refine zs_in (fun g1 g2 => ⟨fun _ => ?_, fun g => absurd g (by decide)⟩) (fun _ => ⟨fun g => absurd rfl g, fun _ => h _⟩)
  obtain ⟨k, hk, ek⟩ := (zi_rng (n := 5) (by decide)).mp ⟨g1, g2⟩
  subst e
  subst ek
  have L : ∀ (n i : Nat) (s : Int32), i ≤ P → P - i < n → fX8_ordered_26 K 529 n (nI k) (nI d) s (nI i) m := by
    intro n
    induction n with
    | zero => intro i s g1 g2; omega
    | succ n ih =>
      intro i s g1 g2
      show fX8_ordered_26b (fX8_ordered_26 K 529 n) K 529 (nI k) (nI d) s (nI i) m
      unfold fX8_ordered_26b
      have go : ∀ t : Int32, i < P → fX8_ordered_57 (fX8_ordered_26 K 529 n) K 529 (nI k) (nI d) (nI i) t s m := by
        intro t hi
        unfold fX8_ordered_57
        intro x1 e1 x2 e2
        rw [e2, show nI i + (1 : Int32) = nI (i + 1) from nI_1 i]
        exact ih (i + 1) _ (by omega) (by omega)
      intro x3 e3
      rw [hJ.2.2.2.1] at e3
      subst e3
      refine ⟨fun _ => h _, fun cc => ?_⟩
      have hi : i < P := Nat.lt_of_not_le (fun g => cc ((nI_leI (by omega) (by omega)).mpr g))
      exact zr_isFor (by omega) hk (fun _ => ⟨fun _ => go _ hi, fun _ x8 _ => go _ hi⟩) (fun _ => ⟨fun _ => go _ hi, fun _ x8 _ => go _ hi⟩)
  exact L zFU 0 0 (by omega) (by unfold zFU; omega)
theorem zro_ofDishes {v : Nat} {m : zMem} {K : Int32 → zMem → Prop} (hv : 3 ≤ v ∧ v ≤ 6) (hM : zRM m) (h : ∀ r, K r m) : fX8_ofDishes 529 (nI v) m K := by
  obtain ⟨P, D, dn, sp, kp, hb, hJ⟩ := hM.1
  unfold fX8_ofDishes
  have L : ∀ (n i : Nat) (s : Int32), i ≤ 3 → 3 - i < n → fX8_ofDishes_4 K 529 n (nI v) s (nI i) m := by
    intro n
    induction n with
    | zero => intro i s g1 g2; omega
    | succ n ih =>
      intro i s g1 g2
      show fX8_ofDishes_4b (fX8_ofDishes_4 K 529 n) K 529 (nI v) s (nI i) m
      unfold fX8_ofDishes_4b
      have go : ∀ t : Int32, i < 3 → fX8_ofDishes_37 (fX8_ofDishes_4 K 529 n) K 529 (nI v) (nI i) t s m := by
        intro t hi
        unfold fX8_ofDishes_37
        intro x1 e1 x2 e2
        rw [e2, show nI i + (1 : Int32) = nI (i + 1) from nI_1 i]
        exact ih (i + 1) _ (by omega) (by omega)
      refine ⟨fun _ => h _, fun cc => ?_⟩
      have hi : i < 3 := Nat.lt_of_not_le (fun g => cc ((nI_leI (a := 3) (b := i) (by decide) (by omega)).mpr g))
      refine ⟨fun _ => ?_, fun _ => ?_⟩
      · rw [zr_d]
        intro x7 e7 x8 e8
        rw [e8, e7, zq1, nI_add, pk_sub (by omega)]
        exact ⟨vp_in_nI (by omega) (by decide), fun _ _ => go _ hi⟩
      · obtain ⟨a0, b0, c0, e0, t0, q0, q1, _⟩ := hJ.2.2.2.2.2.1 i hi
        exact zr_left hi q0 q1 (go _ hi)
  exact L zFU 0 0 (by omega) (by unfold zFU; omega)
theorem zro_ofPeople {v : Int32} {m : zMem} {K : Int32 → zMem → Prop} (hM : zRM m) (h : ∀ r, K r m) : fX8_ofPeople 529 v m K := by
  obtain ⟨P, D, dn, sp, kp, hb, hJ⟩ := hM.1
  have hb1 := hb.1
  unfold fX8_ofPeople
  have L : ∀ (n i : Nat) (s t : Int32), i ≤ P → P - i < n → fX8_ofPeople_7 K 529 n v s t (nI i) m := by
    intro n
    induction n with
    | zero => intro i s t g1 g2; omega
    | succ n ih =>
      intro i s t g1 g2
      show fX8_ofPeople_7b (fX8_ofPeople_7 K 529 n) K 529 v s t (nI i) m
      unfold fX8_ofPeople_7b fX8_ofPeople_83
      have go : ∀ (a b : Int32), i < P → fX8_ofPeople_64 (fX8_ofPeople_7 K 529 n) K 529 v a (nI i) b t m := by
        intro a b hi
        unfold fX8_ofPeople_64
        intro x1 e1 x2 e2
        rw [e2, show nI i + (1 : Int32) = nI (i + 1) from nI_1 i]
        exact ih (i + 1) _ _ (by omega) (by omega)
      intro x3 e3
      rw [hJ.2.2.2.1] at e3
      subst e3
      refine ⟨fun _ => ⟨fun _ => h _, fun _ => h _⟩, fun cc => ?_⟩
      have hi : i < P := Nat.lt_of_not_le (fun g => cc ((nI_leI (by omega) (by omega)).mpr g))
      have hi14 : i < 14 := by omega
      rw [zr_p]
      intro x8 e8
      rw [e8, zq0, nI_add]
      refine ⟨vp_in_nI (by omega) (by decide), fun x10 e10 x11 e11 x12 e12 => ?_⟩
      rw [zr_p]
      intro x15 e15
      rw [e15, zq12, nI_add]
      exact ⟨vp_in_nI (by omega) (by decide), fun x17 _ => ⟨fun _ => go _ _ hi, fun _ x19 _ => go _ _ hi⟩⟩
  exact L zFU 0 0 0 (by omega) (by unfold zFU; omega)
theorem zro_count {a : Int32} {m : zMem} {K : Int32 → zMem → Prop} (hM : zRM m) (h : ∀ r, K r m) : fX8_count 529 a m K := by
  have c4 : ∀ c : Nat, c ≤ 2 → a = nI c → ∀ x : Int32, x = (4 : Int32) + a → vp_in x 276 ∧ ∀ y : Int32, y = m 530 x.toNatClampNeg → K y m := by
    intro c hc ec x e
    rw [e, ec, zq4, nI_add]
    exact ⟨vp_in_nI (by omega) (by decide), fun _ _ => h _⟩
  have c10 : ∀ c : Nat, 10 ≤ c → c ≤ 13 → a = nI c → ∀ x : Int32, x = a - (10 : Int32) → vp_in x 276 ∧ ∀ y : Int32, y = m 530 x.toNatClampNeg → K y m := by
    intro c hc hc2 ec x e
    rw [e, ec, zq10, pk_sub hc]
    exact ⟨vp_in_nI (by omega) (by decide), fun _ _ => h _⟩
  have cd : ∀ c : Nat, 3 ≤ c ∧ c ≤ 6 → a = nI c → fX8_ofDishes 529 a m (fun r14 m15 => K r14 m15) := by
    intro c hc ec
    rw [ec]
    exact zro_ofDishes hc hM h
  unfold fX8_count
  exact ⟨fun g => c4 0 (by decide) g, fun _ => ⟨fun g => c4 1 (by decide) g, fun _ => ⟨fun g => c4 2 (by decide) g, fun _ => ⟨fun g => cd 3 (by decide) g, fun _ => ⟨fun g => cd 4 (by decide) g, fun _ => ⟨fun g => cd 5 (by decide) g, fun _ => ⟨fun g => cd 6 (by decide) g, fun _ => ⟨fun _ => zro_ofPeople hM h, fun _ => ⟨fun _ => zro_ofPeople hM h, fun _ => ⟨fun _ x _ => h _, fun _ => ⟨fun g => c10 10 (by decide) (by decide) g, fun _ => ⟨fun g => c10 11 (by decide) (by decide) g, fun _ => ⟨fun g => c10 12 (by decide) (by decide) g, fun _ => ⟨fun g => c10 13 (by decide) (by decide) g, fun _ => ⟨fun _ => h _, fun _ => ⟨fun _ => h _, fun _ => h _⟩⟩⟩⟩⟩⟩⟩⟩⟩⟩⟩⟩⟩⟩⟩⟩
theorem zro_why {a b c : Int32} {m : zMem} {K : Int32 → zMem → Prop} (hM : zRM m) (h : ∀ r, K r m) : fX8_why 529 a b c m K := by
  obtain ⟨P, D, dn, sp, kp, hb, hJ⟩ := hM.1
  have hb1 := hb.1
  unfold fX8_why fX8_why_15 fX8_why_38
  refine zs_isPerson hJ.2.2.2.1 hb1 (fun j hj e => ⟨fun g => absurd g (by decide), fun _ => ?_⟩) (fun _ => ⟨fun _ => h _, fun g => absurd rfl g⟩)
  refine zs_isDish (fun d hd e2 => ⟨fun _ => ?_, fun g => absurd g (by decide)⟩) (fun _ => ⟨fun g => absurd rfl g, fun _ => h _⟩)
  refine zs_in (fun g1 g2 => ⟨fun g => absurd g (by decide), fun _ => ?_⟩) (fun _ => ⟨fun _ => h _, fun g => absurd rfl g⟩)
  obtain ⟨k, hk, e3⟩ := (zi_rng (n := 5) (by decide)).mp ⟨g1, g2⟩
  subst e
  subst e2
  subst e3
  exact zr_reason (by omega) hk hd hJ.2.2.1 hb.2.1 (fun y => h y)
theorem zro_doubt {j : Nat} {m : zMem} {K : Int32 → zMem → Prop} (hj : j < 14) (hM : zRM m) (h : ∀ r, K r m) : fX8_doubt 529 (nI j) m K := by
  obtain ⟨P, D, dn, sp, kp, hb, hJ⟩ := hM.1
  have hb2 := hb.2.1
  obtain ⟨c, w, h5, h6, h7, h8⟩ := zRP_w (hJ.2.2.2.2.2.2 j hj)
  exact zr_doubt hj h5 h6 (by omega) (by omega) (h _)
theorem zro_unsurest {a : Int32} {m : zMem} {K : Int32 → zMem → Prop} (hM : zRM m) (h : ∀ r, K r m) : fX8_unsurest 529 a m K := by
  have hM' := hM
  obtain ⟨P, D, dn, sp, kp, hb, hJ⟩ := hM.1
  have hb1 := hb.1
  unfold fX8_unsurest
  refine zs_in (fun _ _ => ⟨fun _ => ?_, fun g => absurd g (by decide)⟩) (fun _ => ⟨fun g => absurd rfl g, fun _ => h _⟩)
  have L : ∀ (n i : Nat) (s t : Int32), i ≤ P → P - i < n → (s = -6 ∨ ∃ j, j < P ∧ s = nI j) → fX8_unsurest_20 K 529 n a s t (nI i) m := by
    intro n
    induction n with
    | zero => intro i s t g1 g2; omega
    | succ n ih =>
      intro i s t g1 g2 g3
      show fX8_unsurest_20b (fX8_unsurest_20 K 529 n) K 529 a s t (nI i) m
      unfold fX8_unsurest_20b fX8_unsurest_129 fX8_unsurest_138
      have go : ∀ w : Int32, i < P → fX8_unsurest_85 (fX8_unsurest_20 K 529 n) K 529 a s t (nI i) w m := by
        intro w hi
        have e1 : nI i + (1 : Int32) = nI (i + 1) := nI_1 i
        have A : ∀ s2 t2 : Int32, (s2 = -6 ∨ ∃ j, j < P ∧ s2 = nI j) → fX8_unsurest_112 (fX8_unsurest_20 K 529 n) K 529 a s2 (nI i) t2 m := by
          intro s2 t2 g
          unfold fX8_unsurest_112
          intro x e
          rw [e, e1]
          exact ih (i + 1) _ _ (by omega) (by omega) g
        have B : ∀ s2 : Int32, (s2 = -6 ∨ ∃ j, j < P ∧ s2 = nI j) → fX8_unsurest_99 (fX8_unsurest_20 K 529 n) K 529 a t (nI i) w s2 m := by
          intro s2 g
          unfold fX8_unsurest_99
          exact ⟨fun _ => A _ _ g, fun _ => A _ _ g⟩
        unfold fX8_unsurest_85
        exact ⟨fun _ => B _ g3, fun _ => B _ (Or.inr ⟨i, hi, rfl⟩)⟩
      intro x4 e4
      rw [hJ.2.2.2.1] at e4
      subst e4
      refine ⟨fun _ => ⟨fun _ => h _, fun g => ⟨fun _ => ?_, fun _ => h _⟩⟩, fun cc => ?_⟩
      · rcases g3 with g3 | ⟨j, hj, ej⟩
        · exact absurd g3 g
        · rw [ej]
          exact zro_doubt (by omega) hM' (fun r => h r)
      · have hi : i < P := Nat.lt_of_not_le (fun g => cc ((nI_leI (by omega) (by omega)).mpr g))
        have hi14 : i < 14 := by omega
        rw [zr_p]
        intro x12 e12
        rw [e12, zq13, nI_add]
        refine ⟨vp_in_nI (by omega) (by decide), fun x14 e14 => ?_⟩
        rw [zr_p]
        intro x17 e17
        rw [e17, zq14, nI_add]
        refine ⟨vp_in_nI (by omega) (by decide), fun x19 e19 x20 e20 => ?_⟩
        exact zro_doubt hi14 hM' (fun r21 => ⟨fun _ => zro_doubt hi14 hM' (fun r24 x26 _ x27 _ => go _ hi), fun _ => go _ hi⟩)
  exact L zFU 0 _ _ (by omega) (by unfold zFU; omega) (Or.inl rfl)
theorem zro_firstOrder {a : Int32} {m : zMem} {K : Int32 → zMem → Prop} (hM : zRM m) (h : ∀ r, K r m) : fX8_firstOrder 529 a m K := by
  obtain ⟨P, D, dn, sp, kp, hb, hJ⟩ := hM.1
  have hb1 := hb.1
  unfold fX8_firstOrder
  refine zs_isPerson hJ.2.2.2.1 hb1 (fun j hj e => ⟨fun _ => ?_, fun g => absurd g (by decide)⟩) (fun _ => ⟨fun g => absurd rfl g, fun _ => h _⟩)
  subst e
  have L : ∀ (n i : Nat) (s : Int32), i ≤ 15 → i < n → fX8_firstOrder_16 K 529 n (nI j) s (nI i - 1) m := by
    intro n
    induction n with
    | zero => intro i s g1 g2; omega
    | succ n ih =>
      intro i s g1 g2
      show fX8_firstOrder_16b (fX8_firstOrder_16 K 529 n) K 529 (nI j) s (nI i - 1) m
      unfold fX8_firstOrder_16b
      refine ⟨fun _ => h _, fun c => ?_⟩
      rcases Nat.eq_zero_or_pos i with rfl | hi
      · exact absurd (by decide) c
      · obtain ⟨i, rfl⟩ : ∃ i', i = i' + 1 := ⟨i - 1, by omega⟩
        rw [nI_pred, zq3, pk_rem (by omega) (by decide) (by decide), pk_div (by omega) (by decide) (by decide)]
        intro x3 e3 x4 e4
        have go : ∀ s2 : Int32, fX8_firstOrder_39 (fX8_firstOrder_16 K 529 n) K 529 (nI j) (nI i) s2 m := by
          intro s2
          unfold fX8_firstOrder_39
          intro x1 e1
          rw [e1, show nI i + (-1 : Int32) = nI i - 1 from (Int32.sub_eq_add_neg _ _).symm]
          exact ih i _ (by omega) (by omega)
        rw [e3, e4]
        exact zr_reason (by omega) (by omega) (Nat.mod_lt _ (by decide)) hJ.2.2.1 hb.2.1 (fun y => ⟨fun _ => go _, fun _ => go _⟩)
  exact L zFU 15 _ (by omega) (by unfold zFU; omega)
theorem zro_wasted {m : zMem} {K : Int32 → zMem → Prop} (hM : zRM m) (h : ∀ r, K r m) : fX8_wasted 529 m K := by
  obtain ⟨P, D, dn, sp, kp, hb, hJ⟩ := hM.1
  have hb2 := hb.2.1
  have hb3 := hb.2.2.1
  unfold fX8_wasted
  have L : ∀ (n i : Nat) (s t : Int32), i ≤ 3 → 3 - i < n → fX8_wasted_7 K 529 n s t (nI i) m := by
    intro n
    induction n with
    | zero => intro i s t g1 g2; omega
    | succ n ih =>
      intro i s t g1 g2
      show fX8_wasted_7b (fX8_wasted_7 K 529 n) K 529 s t (nI i) m
      unfold fX8_wasted_7b
      have go : ∀ w : Int32, i < 3 → fX8_wasted_51 (fX8_wasted_7 K 529 n) K 529 s t (nI i) w m := by
        intro w hi
        unfold fX8_wasted_51 fX8_wasted_64 fX8_wasted_77
        have A : ∀ s2 t2 x : Int32, x = nI i + 1 → fX8_wasted_7 K 529 n s2 t2 x m := by
          intro s2 t2 x e
          rw [e, nI_1]
          exact ih (i + 1) _ _ (by omega) (by omega)
        exact ⟨fun _ => ⟨fun _ x e => A _ _ x e, fun _ x e => A _ _ x e⟩, fun _ => ⟨fun _ x e => A _ _ x e, fun _ x e => A _ _ x e⟩⟩
      refine ⟨fun _ => h _, fun cc => ?_⟩
      have hi : i < 3 := Nat.lt_of_not_le (fun g => cc ((nI_leI (a := 3) (b := i) (by decide) (by omega)).mpr g))
      obtain ⟨a0, b0, c0, e0, t0, q0, q1, q2, q3, q4, q5, q6, q7⟩ := hJ.2.2.2.2.2.1 i hi
      have k4 : 23 + 5 * i + 4 = 27 + 5 * i := by omega
      have k2 : 23 + 5 * i + 2 = 25 + 5 * i := by omega
      simp (disch := omega) only [forall_eq, zr_d, zq4, zq2, nI_add, zvpT, nI_clamp, true_and, k4, k2, q4, q2]
      refine ⟨fun c => ⟨fun g => c ?_, go _ hi⟩, fun _ => go _ hi⟩
      have : c0 = 0 := (nI_eq (b := 0) (by omega) (by decide)).mp g
      rw [show t0 = 0 by omega]
      rfl
  exact L zFU 0 _ _ (by omega) (by unfold zFU; omega)
