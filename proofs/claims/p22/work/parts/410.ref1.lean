/-! the reference: what its calls need of its row, and that they keep it -/
theorem zvpT {n N : Nat} (h : n < N) (hN : N < 2 ^ 31) : vp_in (nI n) N = True := eq_true (vp_in_nI h hN)
theorem zq0 : (0 : Int32) = nI 0 := rfl
theorem zq1 : (1 : Int32) = nI 1 := rfl
theorem zq2 : (2 : Int32) = nI 2 := rfl
theorem zq3 : (3 : Int32) = nI 3 := rfl
theorem zq4 : (4 : Int32) = nI 4 := rfl
theorem zq5 : (5 : Int32) = nI 5 := rfl
theorem zq6 : (6 : Int32) = nI 6 := rfl
theorem zq8 : (8 : Int32) = nI 8 := rfl
theorem zq11 : (11 : Int32) = nI 11 := rfl
theorem zq12 : (12 : Int32) = nI 12 := rfl
theorem zq13 : (13 : Int32) = nI 13 := rfl
theorem zq14 : (14 : Int32) = nI 14 := rfl
theorem zq15 : (15 : Int32) = nI 15 := rfl
theorem zq16 : (16 : Int32) = nI 16 := rfl
theorem zq17 : (17 : Int32) = nI 17 := rfl
theorem zq23 : (23 : Int32) = nI 23 := rfl
theorem zq38 : (38 : Int32) = nI 38 := rfl
theorem zr_p {j : Nat} {m : zMem} {K : Int32 → zMem → Prop} : fX8_p (nI j) m K = K (nI (38 + 17 * j)) m := by
  unfold fX8_p
  simp only [forall_eq, zq17, zq38, pk_mul, nI_add]
theorem zr_d {j : Nat} {m : zMem} {K : Int32 → zMem → Prop} : fX8_d (nI j) m K = K (nI (23 + 5 * j)) m := by
  unfold fX8_d
  simp only [forall_eq, zq5, zq23, pk_mul, nI_add]
theorem zr_gives {j : Nat} {x : Int32} {m : zMem} {K : zMem → Prop} (hj : j < 14) (h : ∀ y : Int32, K (z_up m 530 (38 + 17 * j) y)) : fX8_gives 529 (nI j) x m K := by
  unfold fX8_gives fX8_gives_36
  simp (disch := omega) only [forall_eq, zr_p, zq0, nI_add, zvpT, nI_clamp, true_and, Nat.add_zero, h, implies_true, and_self]
theorem zr_isFor {j k : Nat} {d : Int32} {m : zMem} {K : Int32 → zMem → Prop} (hj : j < 14) (hk : k < 5) (h1 : m 530 (39 + 17 * j + k) = d + 1 → K 1 m) (h0 : ¬ m 530 (39 + 17 * j + k) = d + 1 → K 0 m) : fX8_isFor 529 (nI j) (nI k) d m K := by
  unfold fX8_isFor fX8_isFor_24
  have e : 38 + 17 * j + 1 + k = 39 + 17 * j + k := by omega
  simp (disch := omega) only [forall_eq, zr_p, zq1, nI_add, zvpT, nI_clamp, true_and, e]
  exact ⟨fun c => ⟨Or.inl rfl, h0 c⟩, fun c => ⟨Or.inr rfl, h1 c⟩⟩
theorem zr_left {d a b : Nat} {m : zMem} {K : Int32 → zMem → Prop} (hd : d < 3) (ha : m 530 (23 + 5 * d) = nI a) (hb : m 530 (24 + 5 * d) = nI b) (h : K (nI (a + b)) m) : fX8_left 529 (nI d) m K := by
  unfold fX8_left
  have e : 23 + 5 * d + 1 = 24 + 5 * d := by omega
  simp (disch := omega) only [forall_eq, zr_d, zq0, zq1, nI_add, zvpT, nI_clamp, true_and, e, Nat.add_zero, ha, hb]
  exact h
/-- the doubt, of a person who came c times and stayed away w times -/
theorem zr_doubt {j c w : Nat} {m : zMem} {K : Int32 → zMem → Prop} (hj : j < 14) (hc : m 530 (51 + 17 * j) = nI c) (hw : m 530 (52 + 17 * j) = nI w) (hc2 : c ≤ 10000) (hw2 : w ≤ 10000) (h : K (nI (100 * w / (c + w))) m) : fX8_doubt 529 (nI j) m K := by
  unfold fX8_doubt fX8_doubt_51
  have e : 38 + 17 * j + 13 = 51 + 17 * j := by omega
  have e2 : 38 + 17 * j + 14 = 52 + 17 * j := by omega
  simp (disch := omega) only [forall_eq, zr_p, zq13, zq14, nI_add, zvpT, nI_clamp, true_and, e, e2, hc, hw, show (100 : Int32) = nI 100 from rfl, pk_mul]
  refine ⟨fun g => ⟨g, ?_⟩, fun g => ?_⟩
  · have : c + w ≠ 0 := fun g2 => g (by rw [g2]; rfl)
    rw [pk_div (by omega) (by omega) (by omega)]
    exact h
  · have : c + w = 0 := (nI_eq (b := 0) (by omega) (by decide)).mp g
    rw [this, Nat.div_zero] at h
    exact h
theorem zr_priceOn {n : Nat} {d : Nat} {m : zMem} {K : Int32 → zMem → Prop} (hn : n < 2 ^ 31) (hd : d < 3) (h : ∀ y, K y m) : fX8_priceOn 529 (nI n) (nI d) m K := by
  unfold fX8_priceOn
  have e : (n % 5) < 5 := Nat.mod_lt _ (by decide)
  simp (disch := omega) only [forall_eq, zq5, zq3, zq8, pk_rem, pk_mul, nI_add, zvpT, true_and, h]
theorem zr_eats {j d : Nat} {m : zMem} {K : zMem → Prop} (hj : j < 14) (hd : d < 3) (h : ∀ k, (k = 0 ↔ ¬ m 530 (23 + 5 * d) ≤ 0) → k ≤ 1 → ∀ m2 : zMem, (∀ r, r ≠ 530 → m2 r = m r) → m2 530 = upd (upd (upd (m 530) (23 + 5 * d + k) (m 530 (23 + 5 * d + k) - 1)) (26 + 5 * d) (m 530 (26 + 5 * d) + 1)) (54 + 17 * j) (m 530 (54 + 17 * j) + 1) → K m2) : fX8_eats 529 (nI j) (nI d) m K := by
  unfold fX8_eats
  have e : 23 + 5 * d + 3 = 26 + 5 * d := by omega
  have e2 : 38 + 17 * j + 16 = 54 + 17 * j := by omega
  have go : ∀ k, (k = 0 ↔ ¬ m 530 (23 + 5 * d) ≤ 0) → k ≤ 1 → fX8_eats_19 K 529 (nI j) (nI d) (nI k) m := by
    intro k h1 h2
    unfold fX8_eats_19
    simp (disch := omega) only [forall_eq, zr_p, zr_d, zq3, zq16, nI_add, zvpT, nI_clamp, true_and, e, e2]
    refine h k h1 h2 _ (fun r hr => by rw [zu_ne hr, zu_ne hr, zu_ne hr]) ?_
    simp only [zu_same]
    rw [z_upd_ne (show 26 + 5 * d ≠ 23 + 5 * d + k by omega), z_upd_ne (show 54 + 17 * j ≠ 26 + 5 * d by omega), z_upd_ne (show 54 + 17 * j ≠ 23 + 5 * d + k by omega)]
  simp (disch := omega) only [forall_eq, zr_d, zq0, nI_add, zvpT, nI_clamp, true_and, Nat.add_zero]
  exact ⟨fun c => go 1 ⟨fun x => absurd x (by decide), fun x => absurd c x⟩ (by decide), fun c => go 0 ⟨fun _ => c, fun _ => rfl⟩ (by decide)⟩
