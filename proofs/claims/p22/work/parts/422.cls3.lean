/-! X7: calls that only look -/
theorem zc_daysWith {q : Nat} {m : zMem} {K : Int32 → zMem → Prop} (h : ∀ r, K r m) : fX5_daysWithOrder q m K := by
  unfold fX5_daysWithOrder
  have L : ∀ (n i : Nat) (s : Int32), i ≤ 5 → 5 - i < n → fX5_daysWithOrder_4 K q n s (nI i) m := by
    intro n
    induction n with
    | zero => intro i s g1 g2; omega
    | succ n ih =>
      intro i s g1 g2
      show fX5_daysWithOrder_4b (fX5_daysWithOrder_4 K q n) K q s (nI i) m
      unfold fX5_daysWithOrder_4b
      have go : ∀ t : Int32, i < 5 → fX5_daysWithOrder_23 (fX5_daysWithOrder_4 K q n) K q t (nI i) m := by
        intro t hi
        unfold fX5_daysWithOrder_23
        intro x1 e
        rw [e, nI_1]
        exact ih (i + 1) t (by omega) (by omega)
      refine ⟨fun _ => h _, fun c => ?_⟩
      have hi : i < 5 := Nat.lt_of_not_le (fun g => c ((nI_leI (a := 5) (b := i) (by decide) (by omega)).mpr g))
      exact zc_hasOrder hi (fun r => ⟨fun _ => go _ hi, fun _ x6 _ x7 _ => go _ hi⟩)
  exact L zFU 0 0 (by omega) (by unfold zFU; omega)
theorem zco_of {a b : Int32} {m : zMem} {K : Int32 → zMem → Prop} (hI : zICan m 1) (h : ∀ r, K r m) : fX0_aboutPerson 1 a b m K := by
  unfold fX0_aboutPerson
  refine zc_hasP hI (fun j hj ej => ⟨fun _ => ?_, fun g => absurd g (by decide)⟩) ⟨fun g => absurd rfl g, fun _ => h _⟩
  subst ej
  refine ⟨vp_in_nI hj (by decide), fun q5 _ => ?_⟩
  unfold fX5_number fX5_number_101
  exact ⟨fun _ => h _, fun _ => ⟨fun _ x3 _ => h _, fun _ => ⟨fun _ => zc_daysWith h, fun _ => ⟨fun _ => h _, fun _ => ⟨fun _ => h _, fun _ => ⟨fun _ => h _, fun _ => ⟨fun _ => h _, fun _ => ⟨fun _ => ⟨fun _ => h _, fun _ => h _⟩, fun _ => ⟨fun _ => h _, fun _ => h _⟩⟩⟩⟩⟩⟩⟩⟩⟩
theorem zco_ofDish {a b : Int32} {m : zMem} {K : Int32 → zMem → Prop} (hI : zICan m 1) (h : ∀ r, K r m) : fX0_aboutDish 1 a b m K := by
  obtain ⟨-, ⟨D, hD, e2⟩, -⟩ := id hI
  unfold fX0_aboutDish fX0_aboutDish_135
  refine zs_hasDish (fun d hd ed => ⟨fun _ => ?_, fun g => absurd g (by decide)⟩) (fun _ => ⟨fun g => absurd rfl g, fun _ => h _⟩)
  subst ed
  have hin : vp_in (nI d) 3 := vp_in_nI hd (by decide)
  exact ⟨fun _ => ⟨hin, fun q _ => h _⟩, fun _ => ⟨fun _ => ⟨hin, fun q _ => h _⟩, fun _ => ⟨fun _ => zc_awaited hI h, fun _ => ⟨fun _ => ⟨hin, fun q _ => h _⟩, fun _ => ⟨fun _ => ⟨hin, fun q _ => h _⟩, fun _ => ⟨fun _ => ⟨hin, fun q _ => h _⟩, fun _ => ⟨fun _ => zc_priceOf (k := 0) hd (by decide) hD e2 h, fun _ => ⟨fun _ => ⟨fun _ => zc_platesToCook hd hI h, fun _ => h _⟩, fun _ => h _⟩⟩⟩⟩⟩⟩⟩⟩
theorem zco_ordered {a b : Int32} {m : zMem} {K : Int32 → zMem → Prop} (hI : zICan m 1) (h : ∀ r, K r m) : fX0_peopleWithOrder 1 a b m K := by
  obtain ⟨⟨P, hP, e1⟩, _⟩ := id hI
  unfold fX0_peopleWithOrder
  refine zs_hasDish (fun d hd ed => ⟨fun _ => ?_, fun g => absurd g (by decide)⟩) (fun _ => ⟨fun g => absurd rfl g, fun _ => h _⟩)
  refine zs_isAhead (fun k hk ek => ⟨fun _ => ?_, fun g => absurd g (by decide)⟩) (fun _ => ⟨fun g => absurd rfl g, fun _ => h _⟩)
  subst ek
  have L : ∀ (n i : Nat) (s : Int32), i ≤ P → P - i < n → fX0_peopleWithOrder_26 K 1 n (nI k) b s (nI i) m := by
    intro n
    induction n with
    | zero => intro i s g1 g2; omega
    | succ n ih =>
      intro i s g1 g2
      show fX0_peopleWithOrder_26b (fX0_peopleWithOrder_26 K 1 n) K 1 (nI k) b s (nI i) m
      unfold fX0_peopleWithOrder_26b
      have go : ∀ t : Int32, i < P → fX0_peopleWithOrder_58 (fX0_peopleWithOrder_26 K 1 n) K 1 (nI k) b t (nI i) m := by
        intro t hi
        unfold fX0_peopleWithOrder_58
        intro x1 e
        rw [e, nI_1]
        exact ih (i + 1) t (by omega) (by omega)
      rw [e1]
      refine ⟨fun _ => h _, fun c => ?_⟩
      have hi : i < P := Nat.lt_of_not_le (fun g => c ((nI_leI (by omega) (by omega)).mpr g))
      exact ⟨vp_in_nI (by omega) (by decide), fun q4 _ => ⟨vp_in_nI hk (by decide), fun x6 _ => ⟨fun _ => go _ hi, fun _ x8 _ x9 _ => go _ hi⟩⟩⟩
  exact L zFU 0 0 (by omega) (by unfold zFU; omega)
theorem zco_banned {m : zMem} {K : Int32 → zMem → Prop} (hI : zICan m 1) (h : ∀ r, K r m) : fX0_bannedToday 1 m K := by
  obtain ⟨⟨P, hP, e1⟩, _⟩ := id hI
  unfold fX0_bannedToday
  have L : ∀ (n i : Nat) (s : Int32), i ≤ P → P - i < n → fX0_bannedToday_4 K 1 n s (nI i) m := by
    intro n
    induction n with
    | zero => intro i s g1 g2; omega
    | succ n ih =>
      intro i s g1 g2
      show fX0_bannedToday_4b (fX0_bannedToday_4 K 1 n) K 1 s (nI i) m
      unfold fX0_bannedToday_4b
      have go : ∀ t : Int32, i < P → fX0_bannedToday_34 (fX0_bannedToday_4 K 1 n) K 1 t (nI i) m := by
        intro t hi
        unfold fX0_bannedToday_34
        intro x1 e
        rw [e, nI_1]
        exact ih (i + 1) t (by omega) (by omega)
      rw [e1]
      refine ⟨fun _ => h _, fun c => ?_⟩
      have hi : i < P := Nat.lt_of_not_le (fun g => c ((nI_leI (by omega) (by omega)).mpr g))
      exact ⟨vp_in_nI (by omega) (by decide), fun q4 _ => ⟨fun _ => go _ hi, fun _ x6 _ x7 _ => go _ hi⟩⟩
  exact L zFU 0 0 (by omega) (by unfold zFU; omega)
theorem zco_sumDishes {a : Int32} {m : zMem} {K : Int32 → zMem → Prop} (hI : zICan m 1) (h : ∀ r, K r m) : fX0_sumOfDishes 1 a m K := by
  unfold fX0_sumOfDishes
  have L : ∀ (n i : Nat) (s : Int32), i ≤ 3 → 3 - i < n → fX0_sumOfDishes_4 K 1 n a s (nI i) m := by
    intro n
    induction n with
    | zero => intro i s g1 g2; omega
    | succ n ih =>
      intro i s g1 g2
      show fX0_sumOfDishes_4b (fX0_sumOfDishes_4 K 1 n) K 1 a s (nI i) m
      unfold fX0_sumOfDishes_4b
      have go : ∀ t : Int32, i < 3 → fX0_sumOfDishes_34 (fX0_sumOfDishes_4 K 1 n) K 1 a (nI i) t s m := by
        intro t hi
        unfold fX0_sumOfDishes_34
        intro x1 _ x2 e
        rw [e, nI_1]
        exact ih (i + 1) _ (by omega) (by omega)
      refine ⟨fun _ => h _, fun c => ?_⟩
      have hi : i < 3 := Nat.lt_of_not_le (fun g => c ((nI_leI (a := 3) (b := i) (by decide) (by omega)).mpr g))
      refine ⟨fun _ => zco_ofDish hI (fun r => go _ hi), fun _ => ⟨vp_in_nI hi (by decide), fun q8 _ => ?_⟩⟩
      unfold fX1_left
      exact fun x1 _ => go _ hi
  exact L zFU 0 0 (by omega) (by unfold zFU; omega)
theorem zco_sumPeople {a : Int32} {m : zMem} {K : Int32 → zMem → Prop} (hI : zICan m 1) (h : ∀ r, K r m) : fX0_sumOfPeople 1 a m K := by
  obtain ⟨⟨P, hP, e1⟩, _⟩ := id hI
  unfold fX0_sumOfPeople
  have L : ∀ (n i : Nat) (s : Int32), i ≤ P → P - i < n → fX0_sumOfPeople_4 K 1 n a s (nI i) m := by
    intro n
    induction n with
    | zero => intro i s g1 g2; omega
    | succ n ih =>
      intro i s g1 g2
      show fX0_sumOfPeople_4b (fX0_sumOfPeople_4 K 1 n) K 1 a s (nI i) m
      unfold fX0_sumOfPeople_4b
      have go : ∀ t : Int32, i < P → fX0_sumOfPeople_40 (fX0_sumOfPeople_4 K 1 n) K 1 a (nI i) t s m := by
        intro t hi
        unfold fX0_sumOfPeople_40
        intro x1 _ x2 e
        rw [e, nI_1]
        exact ih (i + 1) _ (by omega) (by omega)
      rw [e1]
      refine ⟨fun _ => h _, fun c => ?_⟩
      have hi : i < P := Nat.lt_of_not_le (fun g => c ((nI_leI (by omega) (by omega)).mpr g))
      exact ⟨fun _ => ⟨vp_in_nI (by omega) (by decide), fun q6 _ => go _ hi⟩, fun _ => ⟨vp_in_nI (by omega) (by decide), fun q6 _ => go _ hi⟩⟩
  exact L zFU 0 0 (by omega) (by unfold zFU; omega)
theorem zco_number {a : Int32} {m : zMem} {K : Int32 → zMem → Prop} (hI : zICan m 1) (h : ∀ r, K r m) : fX0_number 1 a m K := by
  have c10 : ∀ c : Nat, 10 ≤ c → c ≤ 13 → a = nI c → ∀ x : Int32, x = a - (10 : Int32) → vp_in x 4 ∧ ∀ y : Int32, y = m (1 + 1) x.toNatClampNeg → K y m := by
    intro c hc hc2 ec x e
    rw [e, ec, zq10, pk_sub hc]
    exact ⟨vp_in_nI (by omega) (by decide), fun _ _ => h _⟩
  unfold fX0_number fX0_number_94
  exact ⟨fun _ => h _, fun _ => ⟨fun _ => h _, fun _ => ⟨fun _ => ⟨fun _ => h _, fun _ => h _⟩, fun _ => ⟨fun _ => zco_sumDishes hI h, fun _ => ⟨fun _ => zco_sumDishes hI h, fun _ => ⟨fun _ => zco_sumDishes hI h, fun _ => ⟨fun _ => zco_sumDishes hI h, fun _ => ⟨fun _ => zco_sumPeople hI h, fun _ => ⟨fun _ => zco_banned hI h, fun _ => ⟨fun _ => zco_sumPeople hI h, fun _ => ⟨fun g => c10 10 (by decide) (by decide) g, fun _ => ⟨fun g => c10 11 (by decide) (by decide) g, fun _ => ⟨fun g => c10 12 (by decide) (by decide) g, fun _ => ⟨fun g => c10 13 (by decide) (by decide) g, fun _ => h _⟩⟩⟩⟩⟩⟩⟩⟩⟩⟩⟩⟩⟩⟩
theorem zc_lessSure {q a : Nat} {m : zMem} {K : Int32 → zMem → Prop} (h : ∀ r, K r m) : fX5_isLessSureThan q a m K := by
  unfold fX5_isLessSureThan fX5_isLessSureThan_27 fX5_isLessSureThan_44
  refine zc_doubt (fun r1 => zc_doubt (fun r3 => ⟨fun _ => ?_, fun _ => zc_doubt (fun _ => zc_doubt (fun _ => ⟨fun _ => ⟨Or.inl rfl, h _⟩, fun _ => ⟨Or.inr rfl, h _⟩⟩))⟩))
  unfold fX5_timesOrdered
  exact fun _ _ _ _ => ⟨fun _ => ⟨Or.inl rfl, h _⟩, fun _ => ⟨Or.inr rfl, h _⟩⟩
theorem zco_unsurest {a : Int32} {m : zMem} {K : Int32 → zMem → Prop} (hI : zICan m 1) (h : ∀ r, K r m) : fX0_greatestDoubt 1 a m K := by
  obtain ⟨⟨P, hP, e1⟩, _⟩ := id hI
  have L : ∀ (n i : Nat) (s : Int32), i ≤ P → P - i < n → (s = -6 ∨ ∃ j, j < P ∧ s = nI j) → fX0_greatestDoubt_17 K 1 n a s (nI i) m := by
    intro n
    induction n with
    | zero => intro i s g1 g2; omega
    | succ n ih =>
      intro i s g1 g2 g3
      show fX0_greatestDoubt_17b (fX0_greatestDoubt_17 K 1 n) K 1 a s (nI i) m
      unfold fX0_greatestDoubt_17b fX0_greatestDoubt_91
      have go : ∀ t : Int32, i < P → (t = -6 ∨ ∃ j, j < P ∧ t = nI j) → fX0_greatestDoubt_61 (fX0_greatestDoubt_17 K 1 n) K 1 a t (nI i) m := by
        intro t hi ht
        unfold fX0_greatestDoubt_61
        intro x1 e
        rw [e, nI_1]
        exact ih (i + 1) t (by omega) (by omega) ht
      have g59 : i < P → fX0_greatestDoubt_59 (fX0_greatestDoubt_17 K 1 n) K 1 a (nI i) m := fun hi => by
        unfold fX0_greatestDoubt_59
        exact go _ hi (Or.inr ⟨i, hi, rfl⟩)
      rw [e1]
      refine ⟨fun _ => ⟨fun c => ⟨fun _ => ?_, fun _ => h _⟩, fun _ => h _⟩, fun c => ?_⟩
      · rcases g3 with e | ⟨j, hj, e⟩
        · rw [e] at c
          exact absurd c (by decide)
        · rw [e]
          exact ⟨vp_in_nI (by omega) (by decide), fun q6 _ => zc_doubt (fun _ => h _)⟩
      · have hi : i < P := Nat.lt_of_not_le (fun g => c ((nI_leI (by omega) (by omega)).mpr g))
        refine ⟨vp_in_nI (by omega) (by decide), fun q10 _ => zc_doubt (fun r => ⟨fun _ => go _ hi g3, fun _ => ⟨fun _ => g59 hi, fun c2 => ⟨vp_in_nI (by omega) (by decide), fun q16 _ => ?_⟩⟩⟩)⟩
        rcases g3 with e | ⟨j, hj, e⟩
        · rw [e] at c2
          exact absurd (by decide) c2
        · refine ⟨by rw [e]; exact vp_in_nI (by omega) (by decide), fun q18 _ => zc_lessSure (fun r => ⟨fun _ => go _ hi (Or.inr ⟨j, hj, e⟩), fun _ => g59 hi⟩)⟩
  unfold fX0_greatestDoubt fX0_greatestDoubt_12
  have H := L zFU 0 (-6) (by omega) (by unfold zFU; omega) (Or.inl rfl)
  exact ⟨fun _ => H, fun _ => ⟨fun _ => H, fun _ => h _⟩⟩
theorem zco_firstOrder {a : Int32} {m : zMem} {K : Int32 → zMem → Prop} (hI : zICan m 1) (h : ∀ r, K r m) : fX0_firstPossible 1 a m K := by
  unfold fX0_firstPossible
  refine zc_hasP hI (fun j hj ej => ⟨fun _ => ?_, fun g => absurd g (by decide)⟩) ⟨fun g => absurd rfl g, fun _ => h _⟩
  have L : ∀ (n i : Nat), i ≤ 5 → 5 - i < n → fX0_firstPossible_12 K 1 n a (nI i) m := by
    intro n
    induction n with
    | zero => intro i g1 g2; omega
    | succ n ih =>
      intro i g1 g2
      show fX0_firstPossible_12b (fX0_firstPossible_12 K 1 n) K 1 a (nI i) m
      unfold fX0_firstPossible_12b
      refine ⟨fun _ => h _, fun c => ?_⟩
      have hi : i < 5 := Nat.lt_of_not_le (fun g => c ((nI_leI (a := 5) (b := i) (by decide) (by omega)).mpr g))
      have L2 : ∀ (n2 d : Nat), d ≤ 3 → 3 - d < n2 → fX0_firstPossible_19 (fX0_firstPossible_12 K 1 n) K 1 n2 a (nI i) (nI d) m := by
        intro n2
        induction n2 with
        | zero => intro d k1 k2; omega
        | succ n2 ih2 =>
          intro d k1 k2
          show fX0_firstPossible_19b (fX0_firstPossible_12 K 1 n) (fX0_firstPossible_19 (fX0_firstPossible_12 K 1 n) K 1 n2) K 1 a (nI i) (nI d) m
          unfold fX0_firstPossible_19b
          refine ⟨fun _ x2 e => ?_, fun c2 => ?_⟩
          · rw [e, nI_1]
            exact ih (i + 1) (by omega) (by omega)
          · have hd : d < 3 := Nat.lt_of_not_le (fun g => c2 ((nI_leI (a := 3) (b := d) (by decide) (by omega)).mpr g))
            refine zc_reason hI (fun r _ => ⟨fun _ x6 e => ?_, fun _ x7 _ x8 _ => h _⟩)
            rw [e, nI_1]
            exact ih2 (d + 1) (by omega) (by omega)
      exact L2 zFU 0 (by omega) (by unfold zFU; omega)
  exact L zFU 0 (by omega) (by unfold zFU; omega)
theorem zc_waste {q : Nat} {m : zMem} {K : Int32 → zMem → Prop} (h : ∀ r, K r m) : fX1_waste q m K := by
  unfold fX1_waste fX1_waste_23
  exact ⟨fun g x2 _ => ⟨g, fun x4 _ => h _⟩, fun _ => h _⟩
theorem zco_wasted {m : zMem} {K : Int32 → zMem → Prop} (h : ∀ r, K r m) : fX0_mostThrown 1 m K := by
  unfold fX0_mostThrown
  have L : ∀ (n i : Nat) (s : Int32), i ≤ 3 → 3 - i < n → (s = -6 ∨ ∃ j, j < 3 ∧ s = nI j) → fX0_mostThrown_5 K 1 n s (nI i) m := by
    intro n
    induction n with
    | zero => intro i s g1 g2; omega
    | succ n ih =>
      intro i s g1 g2 g3
      show fX0_mostThrown_5b (fX0_mostThrown_5 K 1 n) K 1 s (nI i) m
      unfold fX0_mostThrown_5b
      have go : ∀ t : Int32, i < 3 → (t = -6 ∨ ∃ j, j < 3 ∧ t = nI j) → fX0_mostThrown_49 (fX0_mostThrown_5 K 1 n) K 1 t (nI i) m := by
        intro t hi ht
        unfold fX0_mostThrown_49
        intro x1 e
        rw [e, nI_1]
        exact ih (i + 1) t (by omega) (by omega) ht
      have g47 : i < 3 → fX0_mostThrown_47 (fX0_mostThrown_5 K 1 n) K 1 (nI i) m := fun hi => by
        unfold fX0_mostThrown_47
        exact go _ hi (Or.inr ⟨i, hi, rfl⟩)
      refine ⟨fun _ => h _, fun c => ?_⟩
      have hi : i < 3 := Nat.lt_of_not_le (fun g => c ((nI_leI (a := 3) (b := i) (by decide) (by omega)).mpr g))
      refine ⟨vp_in_nI hi (by decide), fun q4 _ => ⟨fun _ => go _ hi g3, fun _ => ⟨fun _ => g47 hi, fun c2 => ⟨vp_in_nI hi (by decide), fun q8 _ => zc_waste (fun r9 => ?_)⟩⟩⟩⟩
      rcases g3 with e | ⟨j, hj, e⟩
      · rw [e] at c2
        exact absurd (by decide) c2
      · exact ⟨by rw [e]; exact vp_in_nI hj (by decide), fun q12 _ => zc_waste (fun r13 => ⟨fun _ => go _ hi (Or.inr ⟨j, hj, e⟩), fun _ => g47 hi⟩)⟩
  exact L zFU 0 _ (by omega) (by unfold zFU; omega) (Or.inl rfl)
