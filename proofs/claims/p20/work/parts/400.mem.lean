/-! reading a memory; copies of canteens -/
theorem zu_same {μ : zMem} {q k : Nat} {x : Int32} : z_up μ q k x q = upd (μ q) k x := if_pos rfl
theorem zu_ne {μ : zMem} {q k r : Nat} {x : Int32} (h : r ≠ q) : z_up μ q k x r = μ r := if_neg h
theorem zcp_same {μ : zMem} {a q n : Nat} : zCpy μ a q 0 0 n q = va_cpy (μ a) (μ q) 0 0 n := if_pos rfl
theorem zcp_ne {μ : zMem} {a q n r : Nat} (h : r ≠ q) : zCpy μ a q 0 0 n r = μ r := if_neg h
theorem zcp_in {f g : Nat → Int32} {n j : Nat} (h : j < n) : va_cpy f g 0 0 n j = f j := by
  unfold va_cpy
  rw [if_pos ⟨Nat.zero_le _, by omega⟩, Nat.sub_zero, Nat.zero_add]
theorem z_upd_same {f : Nat → Int32} {k : Nat} {x : Int32} : upd f k x k = x := if_pos rfl
theorem z_upd_ne {f : Nat → Int32} {k j : Nat} {x : Int32} (h : j ≠ k) : upd f k x j = f j := if_neg h
theorem z_it_s {α : Sort _} {F : α → α} {b : α} {n : Nat} : z_it F b (n + 1) = F (z_it F b n) := rfl
theorem zs_X1_become {q a : Nat} {μ : zMem} {K : zMem → Prop} (h : a ≠ q ∧ a ≠ q + 1 ∧ a + 1 ≠ q) (hK : ∀ μ1 : zMem, (∀ r, r ≠ q → r ≠ q + 1 → μ1 r = μ r) → (∀ k, 1 ≤ k → k ≤ 5 → μ1 q k = μ a k) → (∀ j, j < 5 → μ1 (q + 1) j = μ (a + 1) j) → K μ1) : fX1_become q a μ K := by
  unfold fX1_become
  intro m1 e1 m2 e2 m3 e3 m4 e4 m5 e5 m6 e6
  subst e1 e2 e3 e4 e5 e6
  refine hK _ (fun r h1 h2 => ?_) (fun k h1 h2 => ?_) (fun j hj => ?_)
  · rw [zu_ne h1, zu_ne h1, zu_ne h1, zu_ne h1, zu_ne h1, zcp_ne h2]
  · have ea : ∀ (m : zMem) (k : Nat) (x : Int32), z_up m q k x a = m a := fun m k x => zu_ne h.1
    have ec : zCpy μ (a + 1) (q + 1) 0 0 5 a = μ a := zcp_ne h.2.1
    simp only [ea, ec]
    rcases (show k = 1 ∨ k = 2 ∨ k = 3 ∨ k = 4 ∨ k = 5 by omega) with rfl | rfl | rfl | rfl | rfl <;> simp [zu_same, upd]
  · rw [zu_ne (by omega), zu_ne (by omega), zu_ne (by omega), zu_ne (by omega), zu_ne (by omega), zcp_same, zcp_in hj]
theorem zs_X5_become {q a : Nat} {μ : zMem} {K : zMem → Prop} (h : a ≠ q ∧ a ≠ q + 1 ∧ a ≠ q + 2 ∧ a + 1 ≠ q ∧ a + 1 ≠ q + 2 ∧ a + 2 ≠ q ∧ a + 2 ≠ q + 1) (hb : z_b (μ a 8)) (hK : ∀ μ1 : zMem, (∀ r, r ≠ q → r ≠ q + 1 → r ≠ q + 2 → μ1 r = μ r) → (∀ k, 2 ≤ k → k ≤ 8 → μ1 q k = μ a k) → (∀ j, j < 5 → μ1 (q + 1) j = μ (a + 1) j) → (∀ j, j < 5 → μ1 (q + 2) j = μ (a + 2) j) → K μ1) : fX5_become q a μ K := by
  unfold fX5_become
  intro m1 e1 m2 e2 m3 e3 m4 e4 m5 e5 m6 e6 m7 e7 m8 e8
  have ea : ∀ (m : zMem) (k : Nat) (x : Int32), z_up m q k x a = m a := fun m k x => zu_ne h.1
  have ec : zCpy (zCpy μ (a + 1) (q + 1) 0 0 5) (a + 2) (q + 2) 0 0 5 a = μ a := by rw [zcp_ne h.2.2.1, zcp_ne h.2.1]
  subst e1 e2 e3 e4 e5 e6 e7 e8
  simp only [ea, ec]
  refine ⟨hb, ?_⟩
  intro m9 e9
  subst e9
  refine hK _ (fun r h1 h2 h3 => ?_) (fun k h1 h2 => ?_) (fun j hj => ?_) (fun j hj => ?_)
  · rw [zu_ne h1, zu_ne h1, zu_ne h1, zu_ne h1, zu_ne h1, zu_ne h1, zu_ne h1, zcp_ne h3, zcp_ne h2]
  · rcases (show k = 2 ∨ k = 3 ∨ k = 4 ∨ k = 5 ∨ k = 6 ∨ k = 7 ∨ k = 8 by omega) with rfl | rfl | rfl | rfl | rfl | rfl | rfl <;> simp [zu_same, upd]
  · rw [zu_ne (by omega), zu_ne (by omega), zu_ne (by omega), zu_ne (by omega), zu_ne (by omega), zu_ne (by omega), zu_ne (by omega), zcp_ne (by omega), zcp_same, zcp_in hj]
  · rw [zu_ne (by omega), zu_ne (by omega), zu_ne (by omega), zu_ne (by omega), zu_ne (by omega), zu_ne (by omega), zu_ne (by omega), zcp_same, zcp_in hj, zcp_ne (by omega)]
/-- canteen q in one memory looks as canteen a in another -/
def zSame (μ1 : zMem) (q : Nat) (μ : zMem) (a : Nat) : Prop :=
  μ1 q 3 = μ a 3 ∧ μ1 q 4 = μ a 4 ∧ μ1 q 5 = μ a 5 ∧ (∀ j, j < 4 → μ1 (q + 1) j = μ (a + 1) j) ∧
  (∀ d, d < 3 → (∀ k, 1 ≤ k → k ≤ 5 → μ1 (q + 46 + 2 * d) k = μ (a + 46 + 2 * d) k) ∧ ∀ j, j < 5 → μ1 (q + 46 + 2 * d + 1) j = μ (a + 46 + 2 * d + 1) j) ∧
  ∀ i, i < 14 → nI i < μ a 3 → (∀ k, 2 ≤ k → k ≤ 8 → μ1 (q + 4 + 3 * i) k = μ (a + 4 + 3 * i) k) ∧ (∀ j, j < 5 → μ1 (q + 4 + 3 * i + 1) j = μ (a + 4 + 3 * i + 1) j) ∧ ∀ j, j < 5 → μ1 (q + 4 + 3 * i + 2) j = μ (a + 4 + 3 * i + 2) j
/-- what a canteen's numbers keep to, so that no index leaves its row -/
def zICan (μ : zMem) (a : Nat) : Prop := (∃ P : Nat, P ≤ 14 ∧ μ a 3 = nI P) ∧ (∃ D : Nat, D ≤ 9999 ∧ μ a 4 = nI D) ∧ z_b (μ a 5) ∧ ∀ i, i < 14 → z_b (μ (a + 4 + 3 * i) 8)
theorem zs_X0_become {q a : Nat} {μ : zMem} {K : zMem → Prop} (hd : q + 52 ≤ a ∨ a + 52 ≤ q) (hI : zICan μ a) (hK : ∀ μ1 : zMem, (∀ r, ¬ (q ≤ r ∧ r < q + 52) → μ1 r = μ r) → zSame μ1 q μ a → K μ1) : fX0_become q a μ K := by
  obtain ⟨⟨P, hP, hPe⟩, -, hc, hb⟩ := hI
  unfold fX0_become
  intro m1 e1
  -- the people
  have L2 : ∀ (n i : Nat) (m : zMem), i ≤ P → P - i < n → (∀ r, ¬ (q ≤ r ∧ r < q + 52) → m r = μ r) → (∀ j, j < 4 → m (q + 1) j = μ (a + 1) j) →
      (∀ d, d < 3 → (∀ k, 1 ≤ k → k ≤ 5 → m (q + 46 + 2 * d) k = μ (a + 46 + 2 * d) k) ∧ ∀ j, j < 5 → m (q + 46 + 2 * d + 1) j = μ (a + 46 + 2 * d + 1) j) →
      (∀ x, x < i → (∀ k, 2 ≤ k → k ≤ 8 → m (q + 4 + 3 * x) k = μ (a + 4 + 3 * x) k) ∧ (∀ j, j < 5 → m (q + 4 + 3 * x + 1) j = μ (a + 4 + 3 * x + 1) j) ∧ ∀ j, j < 5 → m (q + 4 + 3 * x + 2) j = μ (a + 4 + 3 * x + 2) j) →
      fX0_become_44 K q n a (nI i) m := by
    intro n
    induction n with
    | zero => intro i m h1 h2; omega
    | succ n ih =>
      intro i m h1 h2 hf hs hdi hp
      unfold fX0_become_44
      rw [z_it_s]
      show fX0_become_44b _ K q a (nI i) m
      have ha : ∀ r, a ≤ r → r < a + 52 → m r = μ r := fun r g1 g2 => hf r (by omega)
      unfold fX0_become_44b
      rw [ha a (by omega) (by omega), hPe]
      refine ⟨fun c => ?_, fun c => ?_⟩
      · have hi : i = P := by
          have := (nI_leI (a := P) (b := i) (by omega) (by omega)).mp c
          omega
        subst hi
        intro m2 e2 m3 e3
        have g2 : ∀ r, r ≠ q → m2 r = m r := fun r g => by rw [e2, zu_ne g]
        have g3 : ∀ r, r ≠ q → m3 r = m r := fun r g => by rw [e3, zu_ne g, g2 r g]
        have haq : a ≠ q := by omega
        rw [g3 a haq, ha a (by omega) (by omega)]
        refine ⟨hc, ?_⟩
        intro m4 e4
        have g4 : ∀ r, r ≠ q → m4 r = m r := fun r g => by rw [e4, zu_ne g, g3 r g]
        have gm : m2 a 4 = μ a 4 := by rw [g2 a haq, ha a (by omega) (by omega)]
        refine hK m4 (fun r g => by rw [g4 r (by omega), hf r g]) ⟨?_, ?_, ?_, ?_, ?_, ?_⟩
        · rw [e4, zu_same, z_upd_ne (by decide), e3, zu_same, z_upd_ne (by decide), e2, zu_same, z_upd_same, hPe]
        · rw [e4, zu_same, z_upd_ne (by decide), e3, zu_same, z_upd_same, gm]
        · rw [e4, zu_same, z_upd_same]
        · intro j hj
          rw [g4 _ (by omega), hs j hj]
        · intro d hd2
          refine ⟨fun k k1 k2 => by rw [g4 _ (by omega)]; exact (hdi d hd2).1 k k1 k2, fun j hj => by rw [g4 _ (by omega)]; exact (hdi d hd2).2 j hj⟩
        · intro x hx hxP
          rw [hPe] at hxP
          have hx2 : x < i := (nI_ltI (by omega) (by omega)).mp hxP
          refine ⟨fun k k1 k2 => by rw [g4 _ (by omega)]; exact (hp x hx2).1 k k1 k2, fun j hj => by rw [g4 _ (by omega)]; exact (hp x hx2).2.1 j hj, fun j hj => by rw [g4 _ (by omega)]; exact (hp x hx2).2.2 j hj⟩
      · have hi : i < P := Nat.lt_of_not_le (fun g => c ((nI_leI (a := P) (b := i) (by omega) (by omega)).mpr g))
        have hcl : (nI i).toNatClampNeg = i := nI_clamp (by omega)
        refine ⟨vp_in_nI (by omega) (by decide), fun q7 e7 => ⟨vp_in_nI (by omega) (by decide), fun q9 e9 => ?_⟩⟩
        rw [hcl] at e7 e9
        have e7 : q7 = q + 4 + 3 * i := by omega
        have e9 : q9 = a + 4 + 3 * i := by omega
        subst e7 e9
        refine zs_X5_become (by omega) (by rw [ha _ (by omega) (by omega)]; exact hb i (by omega)) (fun m1' f1 f2 f3 f4 => ?_)
        intro x12 e12
        rw [e12, show nI i + (1 : Int32) = nI (i + 1) from nI_1 i]
        refine ih (i + 1) m1' (by omega) (by omega) (fun r g => by rw [f1 r (by omega) (by omega) (by omega), hf r g]) (fun j hj => by rw [f1 _ (by omega) (by omega) (by omega), hs j hj]) (fun d hd2 => ?_) (fun x hx => ?_)
        · refine ⟨fun k k1 k2 => by rw [f1 _ (by omega) (by omega) (by omega)]; exact (hdi d hd2).1 k k1 k2, fun j hj => by rw [f1 _ (by omega) (by omega) (by omega)]; exact (hdi d hd2).2 j hj⟩
        · by_cases hxi : x = i
          · subst hxi
            refine ⟨fun k k1 k2 => by rw [f2 k k1 k2, ha _ (by omega) (by omega)], fun j hj => by rw [f3 j hj, ha _ (by omega) (by omega)], fun j hj => by rw [f4 j hj, ha _ (by omega) (by omega)]⟩
          · refine ⟨fun k k1 k2 => by rw [f1 _ (by omega) (by omega) (by omega)]; exact (hp x (by omega)).1 k k1 k2, fun j hj => by rw [f1 _ (by omega) (by omega) (by omega)]; exact (hp x (by omega)).2.1 j hj, fun j hj => by rw [f1 _ (by omega) (by omega) (by omega)]; exact (hp x (by omega)).2.2 j hj⟩
  -- the dishes
  have L1 : ∀ (n i : Nat) (m : zMem), i ≤ 3 → 3 - i < n → (∀ r, ¬ (q ≤ r ∧ r < q + 52) → m r = μ r) → (∀ j, j < 4 → m (q + 1) j = μ (a + 1) j) →
      (∀ d, d < i → (∀ k, 1 ≤ k → k ≤ 5 → m (q + 46 + 2 * d) k = μ (a + 46 + 2 * d) k) ∧ ∀ j, j < 5 → m (q + 46 + 2 * d + 1) j = μ (a + 46 + 2 * d + 1) j) →
      fX0_become_16 K q n a (nI i) m := by
    intro n
    induction n with
    | zero => intro i m h1 h2; omega
    | succ n ih =>
      intro i m h1 h2 hf hs hdi
      unfold fX0_become_16
      rw [z_it_s]
      show fX0_become_16b _ K q a (nI i) m
      unfold fX0_become_16b
      refine ⟨fun c => ?_, fun c => ?_⟩
      · have hi : i = 3 := by
          have := (nI_leI (a := 3) (b := i) (by omega) (by omega)).mp c
          omega
        subst hi
        exact L2 zFU 0 m (by omega) (by unfold zFU; omega) hf hs hdi (fun x hx => by omega)
      · have hi : i < 3 := Nat.lt_of_not_le (fun g => c ((nI_leI (a := 3) (b := i) (by omega) (by omega)).mpr g))
        have hcl : (nI i).toNatClampNeg = i := nI_clamp (by omega)
        refine ⟨vp_in_nI (by omega) (by decide), fun q7 e7 => ⟨vp_in_nI (by omega) (by decide), fun q9 e9 => ?_⟩⟩
        rw [hcl] at e7 e9
        have e7 : q7 = q + 46 + 2 * i := by omega
        have e9 : q9 = a + 46 + 2 * i := by omega
        subst e7 e9
        have ha : ∀ r, a ≤ r → r < a + 52 → m r = μ r := fun r g1 g2 => hf r (by omega)
        refine zs_X1_become (by omega) (fun m1' f1 f2 f3 => ?_)
        intro x12 e12
        rw [e12, show nI i + (1 : Int32) = nI (i + 1) from nI_1 i]
        refine ih (i + 1) m1' (by omega) (by omega) (fun r g => by rw [f1 r (by omega) (by omega), hf r g]) (fun j hj => by rw [f1 _ (by omega) (by omega), hs j hj]) (fun d hd2 => ?_)
        by_cases hxi : d = i
        · subst hxi
          refine ⟨fun k k1 k2 => by rw [f2 k k1 k2, ha _ (by omega) (by omega)], fun j hj => by rw [f3 j hj, ha _ (by omega) (by omega)]⟩
        · refine ⟨fun k k1 k2 => by rw [f1 _ (by omega) (by omega)]; exact (hdi d (by omega)).1 k k1 k2, fun j hj => by rw [f1 _ (by omega) (by omega)]; exact (hdi d (by omega)).2 j hj⟩
  refine L1 zFU 0 m1 (by omega) (by unfold zFU; omega) (fun r g => by rw [e1, zcp_ne (by omega)]) (fun j hj => by rw [e1, zcp_same, zcp_in hj]) (fun d hd2 => by omega)
