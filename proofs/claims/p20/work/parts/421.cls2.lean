/-! X7: the acts on today's canteen -/
theorem zc_changeSetting {a b : Int32} {m : zMem} (hI : zICan m 1) : zCt (fX0_changeSetting 1 a b m) m := by
  intro K h
  have no : ∀ r, K r m := fun r => h r m (zY0 hI)
  unfold fX0_changeSetting fX0_changeSetting_9 fX0_changeSetting_30
  refine ⟨fun _ => no _, fun c1 => ⟨fun c2 => ?_, fun _ => no _⟩⟩
  have hin : vp_in a 4 := by
    rcases zi_4 a with c | ⟨_, c⟩ | ⟨j, hj, rfl⟩
    · exact absurd c c1
    · exact absurd c2 c
    · exact vp_in_nI hj (by decide)
  refine ⟨hin, fun x4 _ => ⟨fun _ => no _, fun _ => ⟨hin, fun x7 _ => ⟨fun _ => ⟨hin, fun x10 _ => ⟨hin, fun m12 e12 => ?_⟩⟩, fun _ => no _⟩⟩⟩⟩
  rw [e12]
  exact h _ _ (zY_2 (zY0 hI))
theorem zc_changePrice {a b c : Int32} {m : zMem} (hI : zICan m 1) : zCt (fX0_changePrice 1 a b c m) m := by
  intro K h
  have no : ∀ r, K r m := fun r => h r m (zY0 hI)
  unfold fX0_changePrice fX0_changePrice_17 fX0_changePrice_29
  refine ⟨fun _ => no _, fun c1 => ⟨fun _ => no _, fun c2 => ?_⟩⟩
  rcases zn_day a with ⟨w, hw, rfl⟩ | ha
  · refine zs_hasDish (fun j hj e => ⟨fun _ => ⟨fun _ => no _, fun _ => ⟨fun _ => ?_, fun _ => no _⟩⟩, fun g => absurd g (by decide)⟩) (fun _ => ⟨fun g => absurd rfl g, fun _ => no _⟩)
    subst e
    refine ⟨vp_in_nI hj (by decide), fun q9 _ => ⟨vp_in_nI hw (by decide), fun x11 _ => ⟨vp_in_nI hj (by decide), fun q13 e13 => ⟨vp_in_nI hw (by decide), fun m15 e15 => ?_⟩⟩⟩⟩
    rw [nI_clamp (by omega)] at e13
    rw [e15]
    exact h _ _ (zY_D (d := j) (zY0 hI) hj (fun a h1 h2 => zu_ne (by omega)))
  · rcases pk_ix a (n := 5) (by decide) with c | c | ⟨k, hk, e⟩
    · exact absurd c c1
    · exact absurd c c2
    · exact absurd e (ha k hk)
theorem zc_addPerson {m : zMem} (hI : zICan m 1) : zCt (fX0_addPerson 1 m) m := by
  intro K h
  have hI' := hI
  obtain ⟨⟨P, hP, e1⟩, _⟩ := hI
  unfold fX0_addPerson
  rw [e1]
  refine ⟨fun c => ?_, fun _ => h _ m (zY0 hI')⟩
  have hP2 : P < 14 := (nI_ltI (b := 14) (by omega) (by decide)).mp c
  refine ⟨vp_in_nI hP2 (by decide), fun q3 e3 => ?_⟩
  rw [nI_clamp (by omega)] at e3
  have e3 : q3 = 5 + 3 * P := by omega
  subst e3
  refine zc_start (fun m5 p5 => ?_)
  intro x6 e6 m7 e7 x8 _
  rw [e7]
  refine h _ _ (zY_3 (P := P + 1) (zY_P (zY0 hI') hP2 p5) (by omega) ?_)
  rw [e6, p5.1 1 (by omega), e1, nI_1]
theorem zc_hasP {a : Int32} {m : zMem} {K : Int32 → zMem → Prop} (hI : zICan m 1) (h1 : ∀ j, j < 14 → a = nI j → K 1 m) (h0 : K 0 m) : fX0_hasPerson 1 a m K := by
  obtain ⟨⟨P, hP, e1⟩, _⟩ := hI
  exact zs_hasPerson e1 hP (fun j hj e => h1 j (by omega) e) (fun _ => h0)
/-- the address of a person -/
theorem zq_p {j q : Nat} (hj : j < 14) (e : q = (1 + 2) + 2 + 3 * (nI j).toNatClampNeg) : q = 5 + 3 * j := by
  rw [nI_clamp (by omega)] at e
  omega
theorem zq_d {j q : Nat} (hj : j < 3) (e : q = (1 + 3) + 43 + 2 * (nI j).toNatClampNeg) : q = 47 + 2 * j := by
  rw [nI_clamp (by omega)] at e
  omega
theorem zc_giveVouchers {a b : Int32} {m : zMem} (hI : zICan m 1) : zCt (fX0_giveVouchers 1 a b m) m := by
  intro K h
  have no : ∀ r, K r m := fun r => h r m (zY0 hI)
  unfold fX0_giveVouchers fX0_giveVouchers_21
  refine zc_hasP hI (fun j hj e => ⟨fun _ => ⟨fun _ => no _, fun _ => ⟨fun _ => ?_, fun _ => no _⟩⟩, fun g => absurd g (by decide)⟩) ⟨fun g => absurd rfl g, fun _ => no _⟩
  subst e
  refine ⟨vp_in_nI hj (by decide), fun q7 e7 => ?_⟩
  rw [zq_p hj e7]
  exact zc_receive (fun r m2 p2 => h _ _ (zY_P (zY0 hI) hj p2))
theorem zc_reason {a b c : Int32} {m : zMem} {K : Int32 → zMem → Prop} (hI : zICan m 1) (h : ∀ r, (0 ≤ r → r ≤ 0 → ∃ j k d, j < 14 ∧ k < 5 ∧ d < 3 ∧ a = nI j ∧ b = nI k ∧ c = nI d) → K r m) : fX0_reasonAgainst 1 a b c m K := by
  obtain ⟨-, ⟨D, hD, e2⟩, -⟩ := id hI
  unfold fX0_reasonAgainst fX0_reasonAgainst_16
  refine zc_hasP hI (fun j hj ej => ⟨fun g => absurd g (by decide), fun _ => ?_⟩) ⟨fun _ => h _ (fun g => absurd g (by decide)), fun g => absurd rfl g⟩
  refine zs_hasDish (fun d hd ed => ⟨fun _ => ?_, fun g => absurd g (by decide)⟩) (fun _ => ⟨fun g => absurd rfl g, fun _ => h _ (fun g => absurd g (by decide))⟩)
  refine zs_isAhead (fun k hk ek => ⟨fun _ => ?_, fun g => absurd g (by decide)⟩) (fun _ => ⟨fun g => absurd rfl g, fun _ => h _ (fun g => absurd g (by decide))⟩)
  have H : ∀ r, K r m := fun r => h r (fun _ _ => ⟨j, k, d, hj, hk, hd, ej, ek, ed⟩)
  subst ej
  subst ek
  subst ed
  have go : fX0_reasonAgainst_42 K 1 (nI j) (nI k) (nI d) m := by
    unfold fX0_reasonAgainst_42 fX0_reasonAgainst_100
    intro x1 _
    refine ⟨vp_in_nI hj (by decide), fun q3 _ => ⟨fun _ => ⟨vp_in_nI hj (by decide), fun q6 _ => ?_⟩, fun _ => H _⟩⟩
    exact zc_hasOrder hk (fun r => ⟨fun _ => ⟨vp_in_nI hj (by decide), fun q11 _ => zc_priceOf hd hk hD e2 (fun r => ⟨fun _ => H _, fun _ => H _⟩)⟩, fun _ => H _⟩)
  exact ⟨fun _ => go, fun _ => ⟨fun _ => go, fun _ => H _⟩⟩
theorem zc_takeOrder {a b c : Int32} {m : zMem} (hI : zICan m 1) : zCt (fX0_takeOrder 1 a b c m) m := by
  intro K h
  have no : ∀ r, K r m := fun r => h r m (zY0 hI)
  obtain ⟨-, ⟨D, hD, e2⟩, -⟩ := id hI
  unfold fX0_takeOrder
  refine zc_reason hI (fun r hr => ⟨fun g1 => ⟨fun g2 => ?_, fun _ => no _⟩, fun _ => no _⟩)
  obtain ⟨j, k, d, hj, hk, hd, ej, ek, ed⟩ := hr g1 g2
  subst ej
  subst ek
  subst ed
  refine ⟨vp_in_nI hj (by decide), fun q6 e6 => ?_⟩
  rw [zq_p hj e6]
  exact zc_priceOf hd hk hD e2 (fun r => zc_pay hk (fun r m2 p2 => h _ _ (zY_P (zY0 hI) hj p2)))
theorem zc_cancelOrder {a b : Int32} {m : zMem} (hI : zICan m 1) : zCt (fX0_cancelOrder 1 a b m) m := by
  intro K h
  have no : ∀ r, K r m := fun r => h r m (zY0 hI)
  unfold fX0_cancelOrder fX0_cancelOrder_23
  refine zc_hasP hI (fun j hj ej => ⟨fun _ => ⟨fun _ => no _, fun _ => ?_⟩, fun g => absurd g (by decide)⟩) ⟨fun g => absurd rfl g, fun _ => no _⟩
  refine zs_isAhead (fun k hk ek => ⟨fun _ => ?_, fun g => absurd g (by decide)⟩) (fun _ => ⟨fun g => absurd rfl g, fun _ => no _⟩)
  subst ej
  subst ek
  refine ⟨vp_in_nI hj (by decide), fun q9 _ => zc_hasOrder hk (fun r => ⟨fun _ => ?_, fun _ => no _⟩)⟩
  refine ⟨vp_in_nI hj (by decide), fun q14 e14 => ⟨vp_in_nI hk (by decide), fun m16 e16 => ⟨vp_in_nI hj (by decide), fun q18 e18 => ⟨vp_in_nI hj (by decide), fun q20 e20 => ⟨vp_in_nI hk (by decide), fun x22 _ => ?_⟩⟩⟩⟩⟩
  have e14 := zq_p hj e14
  have e18 := zq_p hj e18
  subst e14
  subst e18
  refine zc_receive (fun r m2 p2 => h _ _ (zY_P (zY0 hI) hj (zPf_t p2 ?_)))
  rw [e16]
  exact zPf_up zPf0 (by omega) (Or.inl (by omega))
theorem zc_platesToCook {d : Nat} {m : zMem} {K : Int32 → zMem → Prop} (hd : d < 3) (hI : zICan m 1) (h : ∀ r, K r m) : fX0_platesToCook 1 (nI d) m K := by
  obtain ⟨⟨P, hP, e1⟩, _⟩ := hI
  unfold fX0_platesToCook
  have L : ∀ (n i : Nat) (s : Int32), i ≤ P → P - i < n → fX0_platesToCook_4 K 1 n (nI d) s (nI i) m := by
    intro n
    induction n with
    | zero => intro i s g1 g2; omega
    | succ n ih =>
      intro i s g1 g2
      show fX0_platesToCook_4b (fX0_platesToCook_4 K 1 n) K 1 (nI d) s (nI i) m
      unfold fX0_platesToCook_4b
      have go : ∀ t : Int32, i < P → fX0_platesToCook_42 (fX0_platesToCook_4 K 1 n) K 1 (nI d) t (nI i) m := by
        intro t hi
        unfold fX0_platesToCook_42
        intro x1 e
        rw [e, nI_1]
        exact ih (i + 1) t (by omega) (by omega)
      rw [e1]
      refine ⟨fun _ x3 _ x4 _ x5 _ x6 _ => ⟨vp_in_nI hd (by decide), fun q8 _ x9 _ x10 _ => h _⟩, fun c => ?_⟩
      have hi : i < P := Nat.lt_of_not_le (fun g => c ((nI_leI (by omega) (by omega)).mpr g))
      exact ⟨vp_in_nI (by omega) (by decide), fun q12 _ x13 _ => ⟨fun _ => go _ hi, fun _ => ⟨vp_in_nI (by omega) (by decide), fun q16 _ => zc_doubt (fun r x19 _ x20 _ => go _ hi)⟩⟩⟩
  exact L zFU 0 0 (by omega) (by unfold zFU; omega)
theorem zc_awaited {a : Int32} {m : zMem} {K : Int32 → zMem → Prop} (hI : zICan m 1) (h : ∀ r, K r m) : fX0_awaited 1 a m K := by
  obtain ⟨⟨P, hP, e1⟩, _⟩ := hI
  unfold fX0_awaited
  have L : ∀ (n i : Nat) (s : Int32), i ≤ P → P - i < n → fX0_awaited_4 K 1 n a s (nI i) m := by
    intro n
    induction n with
    | zero => intro i s g1 g2; omega
    | succ n ih =>
      intro i s g1 g2
      show fX0_awaited_4b (fX0_awaited_4 K 1 n) K 1 a s (nI i) m
      unfold fX0_awaited_4b
      have go : ∀ t : Int32, i < P → fX0_awaited_42 (fX0_awaited_4 K 1 n) K 1 a t (nI i) m := by
        intro t hi
        unfold fX0_awaited_42
        intro x1 e
        rw [e, nI_1]
        exact ih (i + 1) t (by omega) (by omega)
      rw [e1]
      refine ⟨fun _ => h _, fun c => ?_⟩
      have hi : i < P := Nat.lt_of_not_le (fun g => c ((nI_leI (by omega) (by omega)).mpr g))
      exact ⟨vp_in_nI (by omega) (by decide), fun q4 _ x5 _ => ⟨fun _ => go _ hi, fun _ => ⟨vp_in_nI (by omega) (by decide), fun q8 _ => ⟨fun _ => go _ hi, fun _ x10 _ => go _ hi⟩⟩⟩⟩
  exact L zFU 0 0 (by omega) (by unfold zFU; omega)
theorem zc_cookToday {m : zMem} (hI : zICan m 1) : zCt (fX0_cookToday 1 m) m := by
  intro K h
  unfold fX0_cookToday
  refine ⟨fun _ => ?_, fun _ => h _ m (zY0 hI)⟩
  have L : ∀ (n i : Nat) (s : Int32) (μ : zMem), i ≤ 3 → 3 - i < n → zY μ m → fX0_cookToday_14 K 1 n s (nI i) μ := by
    intro n
    induction n with
    | zero => intro i s μ g1 g2; omega
    | succ n ih =>
      intro i s μ g1 g2 g3
      show fX0_cookToday_14b (fX0_cookToday_14 K 1 n) K 1 s (nI i) μ
      unfold fX0_cookToday_14b
      refine ⟨fun _ m2 e2 => ?_, fun c => ?_⟩
      · rw [e2]
        exact h _ _ (zY_5 g3 (Or.inr rfl))
      · have hi : i < 3 := Nat.lt_of_not_le (fun g => c ((nI_leI (a := 3) (b := i) (by decide) (by omega)).mpr g))
        refine zc_platesToCook hi g3.2 (fun r => ⟨vp_in_nI hi (by decide), fun q6 e6 => ?_⟩)
        rw [zq_d hi e6]
        refine zc_fill (fun m8 f8 => ?_)
        intro x9 _ x10 e10
        rw [e10, nI_1]
        exact ih (i + 1) _ m8 (by omega) (by omega) (zY_D g3 hi (fun a h1 _ => f8 a h1))
  exact L zFU 0 0 m (by omega) (by unfold zFU; omega) (zY0 hI)
theorem zc_serve {a : Int32} {m : zMem} (hI : zICan m 1) : zCt (fX0_serve 1 a m) m := by
  intro K h
  have no : ∀ r, K r m := fun r => h r m (zY0 hI)
  unfold fX0_serve fX0_serve_39
  refine zc_hasP hI (fun j hj ej => ⟨fun _ => ?_, fun g => absurd g (by decide)⟩) ⟨fun g => absurd rfl g, fun _ => no _⟩
  subst ej
  refine ⟨vp_in_nI hj (by decide), fun q8 e8 => ⟨fun _ => no _, fun _ => ?_⟩⟩
  have e8 := zq_p hj e8
  subst e8
  refine zc_hasOrder (k := 0) (by decide) (fun r => ⟨fun _ => no _, fun _ => ⟨fun _ => ?_, fun _ => no _⟩⟩)
  refine zc_comeWith (fun m15 p15 => ?_)
  have y15 := zY_P (zY0 hI) hj p15
  have go : ∀ m2, zY m2 m → fX0_serve_73 K 1 (5 + 3 * j) m2 := by
    intro m2 y2
    unfold fX0_serve_73
    intro x1 _
    exact zc_receive (fun r m3 p3 => h _ _ (zY_P y2 hj p3))
  intro x16 _
  refine zs_hasDish (fun d hd ed => ⟨fun g => absurd g (by decide), fun _ => ?_⟩) (fun _ => ⟨fun _ => go _ y15, fun g => absurd rfl g⟩)
  rw [ed]
  refine ⟨vp_in_nI hd (by decide), fun q21 _ => ?_⟩
  unfold fX1_left
  intro x1 _
  refine ⟨fun _ => ⟨vp_in_nI hd (by decide), fun q26 e26 => ?_⟩, fun _ => go _ y15⟩
  rw [zq_d hd e26]
  refine zc_give (fun m28 f28 => ?_)
  have y28 := zY_D y15 hd (fun a h1 _ => f28 a h1)
  intro x29 _ m30 e30
  rw [e30]
  exact h _ _ (zY_P y28 hj (zPf_up zPf0 (by omega) (by omega)))
theorem zc_sell {a b : Int32} {m : zMem} (hI : zICan m 1) : zCt (fX0_sell 1 a b m) m := by
  intro K h
  have no : ∀ r, K r m := fun r => h r m (zY0 hI)
  obtain ⟨-, ⟨D, hD, e2⟩, -⟩ := id hI
  unfold fX0_sell fX0_sell_16 fX0_sell_47 fX0_sell_86
  refine zc_hasP hI (fun j hj ej => ⟨fun g => absurd g (by decide), fun _ => ?_⟩) ⟨fun _ => no _, fun g => absurd rfl g⟩
  subst ej
  refine zs_hasDish (fun d hd ed => ⟨fun _ => ?_, fun g => absurd g (by decide)⟩) (fun _ => ⟨fun g => absurd rfl g, fun _ => no _⟩)
  subst ed
  refine ⟨vp_in_nI hj (by decide), fun q8 e8 => ⟨fun _ => no _, fun _ => ?_⟩⟩
  have e8 := zq_p hj e8
  subst e8
  refine zc_hasOrder (k := 0) (by decide) (fun r => ⟨fun _ => no _, fun _ => ⟨fun _ => ?_, fun _ => no _⟩⟩)
  refine zc_priceOf (k := 0) hd (by decide) hD e2 (fun r x16 _ => ⟨fun _ => no _, fun _ => ⟨vp_in_nI hd (by decide), fun q19 _ => ?_⟩⟩)
  unfold fX1_left
  intro x1 _
  refine zc_awaited hI (fun r => ⟨fun _ => ⟨vp_in_nI hd (by decide), fun q26 e26 => ?_⟩, fun _ => no _⟩)
  rw [zq_d hd e26]
  refine zc_give (fun m28 f28 => ?_)
  have y28 := zY_D (zY0 hI) hd (fun a h1 _ => f28 a h1)
  intro x29 _ m30 e30 m31 e31 x32 _ m33 e33
  refine h _ _ (zY_P y28 hj ?_)
  rw [e33]
  refine zPf_up ?_ (by omega) (by omega)
  rw [e31]
  refine zPf_here ?_ (Or.inr rfl)
  rw [e30]
  exact zPf_up zPf0 (by omega) (by omega)
theorem zc_endDay {m : zMem} (hI : zICan m 1) : zCt (fX0_endDay 1 m) m := by
  intro K h
  have no : ∀ r, K r m := fun r => h r m (zY0 hI)
  obtain ⟨⟨P, hP, e1⟩, ⟨D, hD, e2⟩, -⟩ := id hI
  unfold fX0_endDay fX0_endDay_17
  rw [e2]
  refine ⟨fun _ => no _, fun _ => ⟨fun c => ?_, fun _ => no _⟩⟩
  have hD2 : D < 9999 := (nI_ltI (b := 9999) (by omega) (by decide)).mp c
  have L2 : ∀ (n i : Nat) (s : Int32) (μ : zMem), i ≤ 3 → 3 - i < n → zY μ m → μ 1 = m 1 → fX0_endDay_101 K 1 n s (nI i) μ := by
    intro n
    induction n with
    | zero => intro i s μ g1 g2; omega
    | succ n ih =>
      intro i s μ g1 g2 g3 g4
      show fX0_endDay_101b (fX0_endDay_101 K 1 n) K 1 s (nI i) μ
      unfold fX0_endDay_101b
      refine ⟨fun _ x15 e15 m16 e16 m17 e17 => ?_, fun c => ?_⟩
      · rw [e17]
        refine h _ _ (zY_5 ?_ (Or.inl rfl))
        rw [e16]
        exact zY_4 (D := D + 1) g3 (by omega) (by rw [e15, g4, e2, nI_1])
      · have hi : i < 3 := Nat.lt_of_not_le (fun g => c ((nI_leI (a := 3) (b := i) (by decide) (by omega)).mpr g))
        refine ⟨vp_in_nI hi (by decide), fun q19 e19 x20 _ => ?_⟩
        rw [zq_d hi e19]
        refine zc_clearUp (fun m22 f22 => ?_)
        intro x23 e23
        rw [e23, nI_1]
        exact ih (i + 1) _ m22 (by omega) (by omega) (zY_D g3 hi (fun a h1 _ => f22 a h1)) (by rw [f22 1 (by omega)]; exact g4)
  have L1 : ∀ (n i : Nat) (s : Int32) (μ : zMem), i ≤ P → P - i < n → zY μ m → μ 1 = m 1 → fX0_endDay_24 K 1 n s (nI i) μ := by
    intro n
    induction n with
    | zero => intro i s μ g1 g2; omega
    | succ n ih =>
      intro i s μ g1 g2 g3 g4
      show fX0_endDay_24b (fX0_endDay_24 K 1 n) K 1 s (nI i) μ
      unfold fX0_endDay_24b
      rw [g4, e1]
      refine ⟨fun _ => L2 zFU 0 _ μ (by omega) (by unfold zFU; omega) g3 g4, fun c => ?_⟩
      have hi : i < P := Nat.lt_of_not_le (fun g => c ((nI_leI (by omega) (by omega)).mpr g))
      have hi14 : i < 14 := by omega
      have go : ∀ (t : Int32) (m2 : zMem), zY m2 m → m2 1 = m 1 → fX0_endDay_56 (fX0_endDay_24 K 1 n) K 1 t (nI i) m2 := by
        intro t m2 y2 k2
        unfold fX0_endDay_56
        refine ⟨vp_in_nI hi14 (by decide), fun q2 e2 x3 _ x4 _ x5 _ x6 _ => ?_⟩
        rw [zq_p hi14 e2]
        refine zc_judge (fun m8 p8 => ⟨vp_in_nI hi14 (by decide), fun q10 e10 => ?_⟩)
        rw [zq_p hi14 e10]
        refine zc_startDay (fun m12 p12 => ?_)
        intro x13 e13
        rw [e13, nI_1]
        exact ih (i + 1) t m12 (by omega) (by omega) (zY_P (zY_P y2 hi14 p8) hi14 p12) (by rw [p12.1 1 (by omega), p8.1 1 (by omega)]; exact k2)
      refine ⟨vp_in_nI hi14 (by decide), fun q26 _ => zc_isMissing (fun r => ⟨fun _ => go _ _ g3 g4, fun _ => ⟨vp_in_nI hi14 (by decide), fun q31 e31 => ?_⟩⟩)⟩
      rw [zq_p hi14 e31]
      refine zc_stayAway (fun m33 p33 => ?_)
      intro x34 _
      exact go _ _ (zY_P g3 hi14 p33) (by rw [p33.1 1 (by omega)]; exact g4)
  exact L1 zFU 0 0 m (by omega) (by unfold zFU; omega) (zY0 hI) rfl
