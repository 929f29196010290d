theorem zl_set {L : Nat} {xs : Nat → Int32} {k18 : Int32 → zMem → Prop} {v1 : Int32} {μ : zMem} (h1 : vp_in (v1 + 1) L) (h2 : vp_in (v1 + 2) L) (hop : fX7_set 0 (xs (v1 + 1).toNatClampNeg) (xs (v1 + 2).toNatClampNeg) μ (fun r m => fX8_set 529 (xs (v1 + 1).toNatClampNeg) (xs (v1 + 2).toNatClampNeg) m (fun r2 m2 => k18 (v1 + (4 : Int32)) m2))) : fL_law_148 L xs k18 v1 μ := by
  unfold fL_law_148 fL_law_803
  simp only [forall_eq, h1, h2, true_and]
  exact hop
theorem zl_price {L : Nat} {xs : Nat → Int32} {k18 : Int32 → zMem → Prop} {v1 : Int32} {μ : zMem} (h1 : vp_in (v1 + 1) L) (h2 : vp_in (v1 + 2) L) (h3 : vp_in (v1 + 3) L) (hop : fX7_price 0 (xs (v1 + 1).toNatClampNeg) (xs (v1 + 2).toNatClampNeg) (xs (v1 + 3).toNatClampNeg) μ (fun r m => fX8_price 529 (xs (v1 + 1).toNatClampNeg) (xs (v1 + 2).toNatClampNeg) (xs (v1 + 3).toNatClampNeg) m (fun r2 m2 => k18 (v1 + (4 : Int32)) m2))) : fL_law_181 L xs k18 v1 μ := by
  unfold fL_law_181 fL_law_803
  simp only [forall_eq, h1, h2, h3, true_and]
  exact hop
theorem zl_person {L : Nat} {xs : Nat → Int32} {k18 : Int32 → zMem → Prop} {v1 : Int32} {μ : zMem} (hop : fX7_person 0  μ (fun r m => fX8_person 529  m (fun r2 m2 => k18 (v1 + (4 : Int32)) m2))) : fL_law_224 L xs k18 v1 μ := by
  unfold fL_law_224 fL_law_803
  simp only [forall_eq, true_and]
  exact hop
theorem zl_vouchers {L : Nat} {xs : Nat → Int32} {k18 : Int32 → zMem → Prop} {v1 : Int32} {μ : zMem} (h1 : vp_in (v1 + 1) L) (h2 : vp_in (v1 + 2) L) (hop : fX7_vouchers 0 (xs (v1 + 1).toNatClampNeg) (xs (v1 + 2).toNatClampNeg) μ (fun r m => fX8_vouchers 529 (xs (v1 + 1).toNatClampNeg) (xs (v1 + 2).toNatClampNeg) m (fun r2 m2 => k18 (v1 + (4 : Int32)) m2))) : fL_law_237 L xs k18 v1 μ := by
  unfold fL_law_237 fL_law_803
  simp only [forall_eq, h1, h2, true_and]
  exact hop
theorem zl_order {L : Nat} {xs : Nat → Int32} {k18 : Int32 → zMem → Prop} {v1 : Int32} {μ : zMem} (h1 : vp_in (v1 + 1) L) (h2 : vp_in (v1 + 2) L) (h3 : vp_in (v1 + 3) L) (hop : fX7_order 0 (xs (v1 + 1).toNatClampNeg) (xs (v1 + 2).toNatClampNeg) (xs (v1 + 3).toNatClampNeg) μ (fun r m => fX8_order 529 (xs (v1 + 1).toNatClampNeg) (xs (v1 + 2).toNatClampNeg) (xs (v1 + 3).toNatClampNeg) m (fun r2 m2 => k18 (v1 + (4 : Int32)) m2))) : fL_law_270 L xs k18 v1 μ := by
  unfold fL_law_270 fL_law_803
  simp only [forall_eq, h1, h2, h3, true_and]
  exact hop
theorem zl_callOff {L : Nat} {xs : Nat → Int32} {k18 : Int32 → zMem → Prop} {v1 : Int32} {μ : zMem} (h1 : vp_in (v1 + 1) L) (h2 : vp_in (v1 + 2) L) (hop : fX7_callOff 0 (xs (v1 + 1).toNatClampNeg) (xs (v1 + 2).toNatClampNeg) μ (fun r m => fX8_callOff 529 (xs (v1 + 1).toNatClampNeg) (xs (v1 + 2).toNatClampNeg) m (fun r2 m2 => k18 (v1 + (4 : Int32)) m2))) : fL_law_313 L xs k18 v1 μ := by
  unfold fL_law_313 fL_law_803
  simp only [forall_eq, h1, h2, true_and]
  exact hop
theorem zl_cook {L : Nat} {xs : Nat → Int32} {k18 : Int32 → zMem → Prop} {v1 : Int32} {μ : zMem} (hop : fX7_cook 0  μ (fun r m => fX8_cook 529  m (fun r2 m2 => k18 (v1 + (4 : Int32)) m2))) : fL_law_346 L xs k18 v1 μ := by
  unfold fL_law_346 fL_law_803
  simp only [forall_eq, true_and]
  exact hop
theorem zl_come {L : Nat} {xs : Nat → Int32} {k18 : Int32 → zMem → Prop} {v1 : Int32} {μ : zMem} (h1 : vp_in (v1 + 1) L) (hop : fX7_come 0 (xs (v1 + 1).toNatClampNeg) μ (fun r m => fX8_come 529 (xs (v1 + 1).toNatClampNeg) m (fun r2 m2 => k18 (v1 + (4 : Int32)) m2))) : fL_law_359 L xs k18 v1 μ := by
  unfold fL_law_359 fL_law_803
  simp only [forall_eq, h1, true_and]
  exact hop
theorem zl_buy {L : Nat} {xs : Nat → Int32} {k18 : Int32 → zMem → Prop} {v1 : Int32} {μ : zMem} (h1 : vp_in (v1 + 1) L) (h2 : vp_in (v1 + 2) L) (hop : fX7_buy 0 (xs (v1 + 1).toNatClampNeg) (xs (v1 + 2).toNatClampNeg) μ (fun r m => fX8_buy 529 (xs (v1 + 1).toNatClampNeg) (xs (v1 + 2).toNatClampNeg) m (fun r2 m2 => k18 (v1 + (4 : Int32)) m2))) : fL_law_382 L xs k18 v1 μ := by
  unfold fL_law_382 fL_law_803
  simp only [forall_eq, h1, h2, true_and]
  exact hop
theorem zl_close {L : Nat} {xs : Nat → Int32} {k18 : Int32 → zMem → Prop} {v1 : Int32} {μ : zMem} (hop : fX7_close 0  μ (fun r m => fX8_close 529  m (fun r2 m2 => k18 (v1 + (4 : Int32)) m2))) : fL_law_415 L xs k18 v1 μ := by
  unfold fL_law_415 fL_law_803
  simp only [forall_eq, true_and]
  exact hop
theorem zl_of {L : Nat} {xs : Nat → Int32} {k18 : Int32 → zMem → Prop} {v1 : Int32} {μ : zMem} (h1 : vp_in (v1 + 1) L) (h2 : vp_in (v1 + 2) L) (hop : fX7_of 0 (xs (v1 + 1).toNatClampNeg) (xs (v1 + 2).toNatClampNeg) μ (fun r m => fX8_of 529 (xs (v1 + 1).toNatClampNeg) (xs (v1 + 2).toNatClampNeg) m (fun r2 m2 => k18 (v1 + (4 : Int32)) m2))) : fL_law_428 L xs k18 v1 μ := by
  unfold fL_law_428 fL_law_803
  simp only [forall_eq, h1, h2, true_and]
  exact hop
theorem zl_ofDish {L : Nat} {xs : Nat → Int32} {k18 : Int32 → zMem → Prop} {v1 : Int32} {μ : zMem} (h1 : vp_in (v1 + 1) L) (h2 : vp_in (v1 + 2) L) (hop : fX7_ofDish 0 (xs (v1 + 1).toNatClampNeg) (xs (v1 + 2).toNatClampNeg) μ (fun r m => fX8_ofDish 529 (xs (v1 + 1).toNatClampNeg) (xs (v1 + 2).toNatClampNeg) m (fun r2 m2 => k18 (v1 + (4 : Int32)) m2))) : fL_law_461 L xs k18 v1 μ := by
  unfold fL_law_461 fL_law_803
  simp only [forall_eq, h1, h2, true_and]
  exact hop
theorem zl_ordered {L : Nat} {xs : Nat → Int32} {k18 : Int32 → zMem → Prop} {v1 : Int32} {μ : zMem} (h1 : vp_in (v1 + 1) L) (h2 : vp_in (v1 + 2) L) (hop : fX7_ordered 0 (xs (v1 + 1).toNatClampNeg) (xs (v1 + 2).toNatClampNeg) μ (fun r m => fX8_ordered 529 (xs (v1 + 1).toNatClampNeg) (xs (v1 + 2).toNatClampNeg) m (fun r2 m2 => k18 (v1 + (4 : Int32)) m2))) : fL_law_494 L xs k18 v1 μ := by
  unfold fL_law_494 fL_law_803
  simp only [forall_eq, h1, h2, true_and]
  exact hop
theorem zl_count {L : Nat} {xs : Nat → Int32} {k18 : Int32 → zMem → Prop} {v1 : Int32} {μ : zMem} (h1 : vp_in (v1 + 1) L) (hop : fX7_count 0 (xs (v1 + 1).toNatClampNeg) μ (fun r m => fX8_count 529 (xs (v1 + 1).toNatClampNeg) m (fun r2 m2 => k18 (v1 + (4 : Int32)) m2))) : fL_law_527 L xs k18 v1 μ := by
  unfold fL_law_527 fL_law_803
  simp only [forall_eq, h1, true_and]
  exact hop
theorem zl_why {L : Nat} {xs : Nat → Int32} {k18 : Int32 → zMem → Prop} {v1 : Int32} {μ : zMem} (h1 : vp_in (v1 + 1) L) (h2 : vp_in (v1 + 2) L) (h3 : vp_in (v1 + 3) L) (hop : fX7_why 0 (xs (v1 + 1).toNatClampNeg) (xs (v1 + 2).toNatClampNeg) (xs (v1 + 3).toNatClampNeg) μ (fun r m => fX8_why 529 (xs (v1 + 1).toNatClampNeg) (xs (v1 + 2).toNatClampNeg) (xs (v1 + 3).toNatClampNeg) m (fun r2 m2 => k18 (v1 + (4 : Int32)) m2))) : fL_law_550 L xs k18 v1 μ := by
  unfold fL_law_550 fL_law_803
  simp only [forall_eq, h1, h2, h3, true_and]
  exact hop
theorem zl_unsurest {L : Nat} {xs : Nat → Int32} {k18 : Int32 → zMem → Prop} {v1 : Int32} {μ : zMem} (h1 : vp_in (v1 + 1) L) (hop : fX7_unsurest 0 (xs (v1 + 1).toNatClampNeg) μ (fun r m => fX8_unsurest 529 (xs (v1 + 1).toNatClampNeg) m (fun r2 m2 => k18 (v1 + (4 : Int32)) m2))) : fL_law_593 L xs k18 v1 μ := by
  unfold fL_law_593 fL_law_803
  simp only [forall_eq, h1, true_and]
  exact hop
theorem zl_firstOrder {L : Nat} {xs : Nat → Int32} {k18 : Int32 → zMem → Prop} {v1 : Int32} {μ : zMem} (h1 : vp_in (v1 + 1) L) (hop : fX7_firstOrder 0 (xs (v1 + 1).toNatClampNeg) μ (fun r m => fX8_firstOrder 529 (xs (v1 + 1).toNatClampNeg) m (fun r2 m2 => k18 (v1 + (4 : Int32)) m2))) : fL_law_616 L xs k18 v1 μ := by
  unfold fL_law_616 fL_law_803
  simp only [forall_eq, h1, true_and]
  exact hop
theorem zl_wasted {L : Nat} {xs : Nat → Int32} {k18 : Int32 → zMem → Prop} {v1 : Int32} {μ : zMem} (hop : fX7_wasted 0  μ (fun r m => fX8_wasted 529  m (fun r2 m2 => k18 (v1 + (4 : Int32)) m2))) : fL_law_639 L xs k18 v1 μ := by
  unfold fL_law_639 fL_law_803
  simp only [forall_eq, true_and]
  exact hop
theorem zl_put {L : Nat} {xs : Nat → Int32} {k18 : Int32 → zMem → Prop} {v1 : Int32} {μ : zMem} (h1 : vp_in (v1 + 1) L) (h2 : vp_in (v1 + 2) L) (hop : fX7_put 0 (z_lshl (xs (v1 + 1).toNatClampNeg).toInt64 (32 : Int32) ||| ((xs (v1 + 2).toNatClampNeg).toInt64 &&& (4294967295 : Int64))) μ (fun r m => fX8_put 529 (z_lshl (xs (v1 + 1).toNatClampNeg).toInt64 (32 : Int32) ||| ((xs (v1 + 2).toNatClampNeg).toInt64 &&& (4294967295 : Int64))) m (fun r2 m2 => k18 (v1 + (4 : Int32)) m2))) : fL_law_652 L xs k18 v1 μ := by
  unfold fL_law_652 fL_law_803
  simp only [forall_eq, h1, h2, true_and]
  exact hop
theorem zl_wipe {L : Nat} {xs : Nat → Int32} {k18 : Int32 → zMem → Prop} {v1 : Int32} {μ : zMem} (hop : fX7_wipe 0  μ (fun r m => fX8_wipe 529  m (fun r2 m2 => ((r = r2 → k18 (v1 + (4 : Int32)) m2) ∧ (¬ r = r2 → False))))) : fL_law_705 L xs k18 v1 μ := by
  unfold fL_law_705 fL_law_803
  simp only [forall_eq, true_and]
  exact hop
theorem zl_fault {L : Nat} {xs : Nat → Int32} {k18 : Int32 → zMem → Prop} {v1 : Int32} {μ : zMem} (hop : fX7_fault 0  μ (fun r m => fX8_fault 529  m (fun r2 m2 => k18 (v1 + (4 : Int32)) m2))) : fL_law_718 L xs k18 v1 μ := by
  unfold fL_law_718 fL_law_803
  simp only [forall_eq, true_and]
  exact hop
theorem zl_carryOut {L : Nat} {xs : Nat → Int32} {k18 : Int32 → zMem → Prop} {v1 : Int32} {μ : zMem} (hop : fX7_carryOut 0  μ (fun r m => fX8_carryOut 529  m (fun r2 m2 => k18 (v1 + (4 : Int32)) m2))) : fL_law_731 L xs k18 v1 μ := by
  unfold fL_law_731 fL_law_803
  simp only [forall_eq, true_and]
  exact hop
theorem zl_undo {L : Nat} {xs : Nat → Int32} {k18 : Int32 → zMem → Prop} {v1 : Int32} {μ : zMem} (hop : fX7_undo 0  μ (fun r m => fX8_undo 529  m (fun r2 m2 => k18 (v1 + (4 : Int32)) m2))) : fL_law_744 L xs k18 v1 μ := by
  unfold fL_law_744 fL_law_803
  simp only [forall_eq, true_and]
  exact hop
theorem zl_save {L : Nat} {xs : Nat → Int32} {k18 : Int32 → zMem → Prop} {v1 : Int32} {μ : zMem} (h1 : vp_in (v1 + 1) L) (hop : fX7_save 0 (xs (v1 + 1).toNatClampNeg) μ (fun r m => fX8_save 529 (xs (v1 + 1).toNatClampNeg) m (fun r2 m2 => k18 (v1 + (4 : Int32)) m2))) : fL_law_757 L xs k18 v1 μ := by
  unfold fL_law_757 fL_law_803
  simp only [forall_eq, h1, true_and]
  exact hop
theorem zl_restore {L : Nat} {xs : Nat → Int32} {k18 : Int32 → zMem → Prop} {v1 : Int32} {μ : zMem} (h1 : vp_in (v1 + 1) L) (hop : fX7_restore 0 (xs (v1 + 1).toNatClampNeg) μ (fun r m => fX8_restore 529 (xs (v1 + 1).toNatClampNeg) m (fun r2 m2 => k18 (v1 + (4 : Int32)) m2))) : fL_law_780 L xs k18 v1 μ := by
  unfold fL_law_780 fL_law_803
  simp only [forall_eq, h1, true_and]
  exact hop
theorem zv_in {L k j : Nat} (hL : L ≤ 2048) (h : 4 * k + j < L) (hj : j < 4) : vp_in (nI (4 * k) + nI j) L := by
  rw [nI_add]
  exact vp_in_nI h (by omega)
theorem zlaw {L : Nat} {xs : Nat → Int32} (hL : L ≤ 2048) (Inv : Nat → zMem → Prop)
  (H_set : ∀ (k : Nat) (a : Int32) (b : Int32) (μ : zMem) (Z : zMem → Prop), 4 * k + 4 ≤ L → Inv k μ → (∀ m, Inv (k + 1) m → Z m) → fX7_set 0 a b μ (fun r m => fX8_set 529 a b m (fun r2 m2 => Z m2)))
  (H_price : ∀ (k : Nat) (a : Int32) (b : Int32) (c : Int32) (μ : zMem) (Z : zMem → Prop), 4 * k + 4 ≤ L → Inv k μ → (∀ m, Inv (k + 1) m → Z m) → fX7_price 0 a b c μ (fun r m => fX8_price 529 a b c m (fun r2 m2 => Z m2)))
  (H_person : ∀ (k : Nat) (μ : zMem) (Z : zMem → Prop), 4 * k + 4 ≤ L → Inv k μ → (∀ m, Inv (k + 1) m → Z m) → fX7_person 0 μ (fun r m => fX8_person 529 m (fun r2 m2 => Z m2)))
  (H_vouchers : ∀ (k : Nat) (a : Int32) (b : Int32) (μ : zMem) (Z : zMem → Prop), 4 * k + 4 ≤ L → Inv k μ → (∀ m, Inv (k + 1) m → Z m) → fX7_vouchers 0 a b μ (fun r m => fX8_vouchers 529 a b m (fun r2 m2 => Z m2)))
  (H_order : ∀ (k : Nat) (a : Int32) (b : Int32) (c : Int32) (μ : zMem) (Z : zMem → Prop), 4 * k + 4 ≤ L → Inv k μ → (∀ m, Inv (k + 1) m → Z m) → fX7_order 0 a b c μ (fun r m => fX8_order 529 a b c m (fun r2 m2 => Z m2)))
  (H_callOff : ∀ (k : Nat) (a : Int32) (b : Int32) (μ : zMem) (Z : zMem → Prop), 4 * k + 4 ≤ L → Inv k μ → (∀ m, Inv (k + 1) m → Z m) → fX7_callOff 0 a b μ (fun r m => fX8_callOff 529 a b m (fun r2 m2 => Z m2)))
  (H_cook : ∀ (k : Nat) (μ : zMem) (Z : zMem → Prop), 4 * k + 4 ≤ L → Inv k μ → (∀ m, Inv (k + 1) m → Z m) → fX7_cook 0 μ (fun r m => fX8_cook 529 m (fun r2 m2 => Z m2)))
  (H_come : ∀ (k : Nat) (a : Int32) (μ : zMem) (Z : zMem → Prop), 4 * k + 4 ≤ L → Inv k μ → (∀ m, Inv (k + 1) m → Z m) → fX7_come 0 a μ (fun r m => fX8_come 529 a m (fun r2 m2 => Z m2)))
  (H_buy : ∀ (k : Nat) (a : Int32) (b : Int32) (μ : zMem) (Z : zMem → Prop), 4 * k + 4 ≤ L → Inv k μ → (∀ m, Inv (k + 1) m → Z m) → fX7_buy 0 a b μ (fun r m => fX8_buy 529 a b m (fun r2 m2 => Z m2)))
  (H_close : ∀ (k : Nat) (μ : zMem) (Z : zMem → Prop), 4 * k + 4 ≤ L → Inv k μ → (∀ m, Inv (k + 1) m → Z m) → fX7_close 0 μ (fun r m => fX8_close 529 m (fun r2 m2 => Z m2)))
  (H_of : ∀ (k : Nat) (a : Int32) (b : Int32) (μ : zMem) (Z : zMem → Prop), 4 * k + 4 ≤ L → Inv k μ → (∀ m, Inv (k + 1) m → Z m) → fX7_of 0 a b μ (fun r m => fX8_of 529 a b m (fun r2 m2 => Z m2)))
  (H_ofDish : ∀ (k : Nat) (a : Int32) (b : Int32) (μ : zMem) (Z : zMem → Prop), 4 * k + 4 ≤ L → Inv k μ → (∀ m, Inv (k + 1) m → Z m) → fX7_ofDish 0 a b μ (fun r m => fX8_ofDish 529 a b m (fun r2 m2 => Z m2)))
  (H_ordered : ∀ (k : Nat) (a : Int32) (b : Int32) (μ : zMem) (Z : zMem → Prop), 4 * k + 4 ≤ L → Inv k μ → (∀ m, Inv (k + 1) m → Z m) → fX7_ordered 0 a b μ (fun r m => fX8_ordered 529 a b m (fun r2 m2 => Z m2)))
  (H_count : ∀ (k : Nat) (a : Int32) (μ : zMem) (Z : zMem → Prop), 4 * k + 4 ≤ L → Inv k μ → (∀ m, Inv (k + 1) m → Z m) → fX7_count 0 a μ (fun r m => fX8_count 529 a m (fun r2 m2 => Z m2)))
  (H_why : ∀ (k : Nat) (a : Int32) (b : Int32) (c : Int32) (μ : zMem) (Z : zMem → Prop), 4 * k + 4 ≤ L → Inv k μ → (∀ m, Inv (k + 1) m → Z m) → fX7_why 0 a b c μ (fun r m => fX8_why 529 a b c m (fun r2 m2 => Z m2)))
  (H_unsurest : ∀ (k : Nat) (a : Int32) (μ : zMem) (Z : zMem → Prop), 4 * k + 4 ≤ L → Inv k μ → (∀ m, Inv (k + 1) m → Z m) → fX7_unsurest 0 a μ (fun r m => fX8_unsurest 529 a m (fun r2 m2 => Z m2)))
  (H_firstOrder : ∀ (k : Nat) (a : Int32) (μ : zMem) (Z : zMem → Prop), 4 * k + 4 ≤ L → Inv k μ → (∀ m, Inv (k + 1) m → Z m) → fX7_firstOrder 0 a μ (fun r m => fX8_firstOrder 529 a m (fun r2 m2 => Z m2)))
  (H_wasted : ∀ (k : Nat) (μ : zMem) (Z : zMem → Prop), 4 * k + 4 ≤ L → Inv k μ → (∀ m, Inv (k + 1) m → Z m) → fX7_wasted 0 μ (fun r m => fX8_wasted 529 m (fun r2 m2 => Z m2)))
  (H_put : ∀ (k : Nat) (a : Int64) (μ : zMem) (Z : zMem → Prop), 4 * k + 4 ≤ L → Inv k μ → (∀ m, Inv (k + 1) m → Z m) → fX7_put 0 a μ (fun r m => fX8_put 529 a m (fun r2 m2 => Z m2)))
  (H_wipe : ∀ (k : Nat) (μ : zMem) (Z : Int32 → Int32 → zMem → Prop), 4 * k + 4 ≤ L → Inv k μ → (∀ r m, Inv (k + 1) m → Z r r m) → fX7_wipe 0 μ (fun r m => fX8_wipe 529 m (fun r2 m2 => Z r r2 m2)))
  (H_fault : ∀ (k : Nat) (μ : zMem) (Z : zMem → Prop), 4 * k + 4 ≤ L → Inv k μ → (∀ m, Inv (k + 1) m → Z m) → fX7_fault 0 μ (fun r m => fX8_fault 529 m (fun r2 m2 => Z m2)))
  (H_carryOut : ∀ (k : Nat) (μ : zMem) (Z : zMem → Prop), 4 * k + 4 ≤ L → Inv k μ → (∀ m, Inv (k + 1) m → Z m) → fX7_carryOut 0 μ (fun r m => fX8_carryOut 529 m (fun r2 m2 => Z m2)))
  (H_undo : ∀ (k : Nat) (μ : zMem) (Z : zMem → Prop), 4 * k + 4 ≤ L → Inv k μ → (∀ m, Inv (k + 1) m → Z m) → fX7_undo 0 μ (fun r m => fX8_undo 529 m (fun r2 m2 => Z m2)))
  (H_save : ∀ (k : Nat) (a : Int32) (μ : zMem) (Z : zMem → Prop), 4 * k + 4 ≤ L → Inv k μ → (∀ m, Inv (k + 1) m → Z m) → fX7_save 0 a μ (fun r m => fX8_save 529 a m (fun r2 m2 => Z m2)))
  (H_restore : ∀ (k : Nat) (a : Int32) (μ : zMem) (Z : zMem → Prop), 4 * k + 4 ≤ L → Inv k μ → (∀ m, Inv (k + 1) m → Z m) → fX7_restore 0 a μ (fun r m => fX8_restore 529 a m (fun r2 m2 => Z m2)))
  (Hskip : ∀ (k : Nat) (μ : zMem), 4 * k + 4 ≤ L → Inv k μ → Inv (k + 1) μ) : ∀ (n k : Nat) (μ : zMem), L + 4 < 4 * (n + k) → 4 * k ≤ L + 4 → Inv k μ → fL_law_18 L xs n (nI (4 * k)) μ := by
  intro n
  induction n with
  | zero => intro k μ h1 h2; omega
  | succ n ih =>
    intro k μ h1 h2 hI
    show fL_law_18b L xs (fL_law_18 L xs n) (nI (4 * k)) μ
    unfold fL_law_18b
    intro x2 e2 x3 e3
    have e3 : x3.toInt = (L : Int) - 4 := by
      rw [e3, e2, show Int32.ofNat L = nI L from rfl, show (4 : Int32) = nI 4 from rfl, pk_sub_toInt (by omega) (by omega)]
      rfl
    have e4 : (nI (4 * k)).toInt = ((4 * k : Nat) : Int) := nI_toInt (by omega)
    refine ⟨fun _ => trivial, fun c => ?_⟩
    have hkL : 4 * k + 4 ≤ L := by
      have c2 : ¬ x3.toInt < (nI (4 * k)).toInt := fun g => c (Int32.lt_iff_toInt_lt.mpr g)
      rw [e3, e4] at c2
      omega
    have hv0 : vp_in (nI (4 * k)) L := vp_in_nI (by omega) (by omega)
    have hv1 : vp_in (nI (4 * k) + 1) L := zv_in (j := 1) hL (by omega) (by omega)
    have hv2 : vp_in (nI (4 * k) + 2) L := zv_in (j := 2) hL (by omega) (by omega)
    have hv3 : vp_in (nI (4 * k) + 3) L := zv_in (j := 3) hL (by omega) (by omega)
    have hk : ∀ m : zMem, Inv (k + 1) m → fL_law_18 L xs n (nI (4 * k) + (4 : Int32)) m := by
      intro m hm
      rw [show (4 : Int32) = nI 4 from rfl, nI_add, show 4 * k + 4 = 4 * (k + 1) by omega]
      exact ih (k + 1) m (by omega) (by omega) hm
    refine ⟨hv0, fun x6 e6 x7 e7 => ?_⟩
    refine ⟨fun _ => ?_, fun _ => ?_⟩
    · exact zl_set hv1 hv2 (H_set k _ _ μ _ hkL hI (fun m h => hk m h))
    refine ⟨fun _ => ?_, fun _ => ?_⟩
    · exact zl_price hv1 hv2 hv3 (H_price k _ _ _ μ _ hkL hI (fun m h => hk m h))
    refine ⟨fun _ => ?_, fun _ => ?_⟩
    · exact zl_person  (H_person k μ _ hkL hI (fun m h => hk m h))
    refine ⟨fun _ => ?_, fun _ => ?_⟩
    · exact zl_vouchers hv1 hv2 (H_vouchers k _ _ μ _ hkL hI (fun m h => hk m h))
    refine ⟨fun _ => ?_, fun _ => ?_⟩
    · exact zl_order hv1 hv2 hv3 (H_order k _ _ _ μ _ hkL hI (fun m h => hk m h))
    refine ⟨fun _ => ?_, fun _ => ?_⟩
    · exact zl_callOff hv1 hv2 (H_callOff k _ _ μ _ hkL hI (fun m h => hk m h))
    refine ⟨fun _ => ?_, fun _ => ?_⟩
    · exact zl_cook  (H_cook k μ _ hkL hI (fun m h => hk m h))
    refine ⟨fun _ => ?_, fun _ => ?_⟩
    · exact zl_come hv1 (H_come k _ μ _ hkL hI (fun m h => hk m h))
    refine ⟨fun _ => ?_, fun _ => ?_⟩
    · exact zl_buy hv1 hv2 (H_buy k _ _ μ _ hkL hI (fun m h => hk m h))
    refine ⟨fun _ => ?_, fun _ => ?_⟩
    · exact zl_close  (H_close k μ _ hkL hI (fun m h => hk m h))
    refine ⟨fun _ => ?_, fun _ => ?_⟩
    · exact zl_of hv1 hv2 (H_of k _ _ μ _ hkL hI (fun m h => hk m h))
    refine ⟨fun _ => ?_, fun _ => ?_⟩
    · exact zl_ofDish hv1 hv2 (H_ofDish k _ _ μ _ hkL hI (fun m h => hk m h))
    refine ⟨fun _ => ?_, fun _ => ?_⟩
    · exact zl_ordered hv1 hv2 (H_ordered k _ _ μ _ hkL hI (fun m h => hk m h))
    refine ⟨fun _ => ?_, fun _ => ?_⟩
    · exact zl_count hv1 (H_count k _ μ _ hkL hI (fun m h => hk m h))
    refine ⟨fun _ => ?_, fun _ => ?_⟩
    · exact zl_why hv1 hv2 hv3 (H_why k _ _ _ μ _ hkL hI (fun m h => hk m h))
    refine ⟨fun _ => ?_, fun _ => ?_⟩
    · exact zl_unsurest hv1 (H_unsurest k _ μ _ hkL hI (fun m h => hk m h))
    refine ⟨fun _ => ?_, fun _ => ?_⟩
    · exact zl_firstOrder hv1 (H_firstOrder k _ μ _ hkL hI (fun m h => hk m h))
    refine ⟨fun _ => ?_, fun _ => ?_⟩
    · exact zl_wasted  (H_wasted k μ _ hkL hI (fun m h => hk m h))
    refine ⟨fun _ => ?_, fun _ => ?_⟩
    · exact zl_put hv1 hv2 (H_put k _ μ _ hkL hI (fun m h => hk m h))
    refine ⟨fun _ => ?_, fun _ => ?_⟩
    · exact zl_wipe  (H_wipe k μ _ hkL hI (fun r m h => ⟨fun _ => hk m h, fun g => g rfl⟩))
    refine ⟨fun _ => ?_, fun _ => ?_⟩
    · exact zl_fault  (H_fault k μ _ hkL hI (fun m h => hk m h))
    refine ⟨fun _ => ?_, fun _ => ?_⟩
    · exact zl_carryOut  (H_carryOut k μ _ hkL hI (fun m h => hk m h))
    refine ⟨fun _ => ?_, fun _ => ?_⟩
    · exact zl_undo  (H_undo k μ _ hkL hI (fun m h => hk m h))
    refine ⟨fun _ => ?_, fun _ => ?_⟩
    · exact zl_save hv1 (H_save k _ μ _ hkL hI (fun m h => hk m h))
    refine ⟨fun _ => ?_, fun _ => ?_⟩
    · exact zl_restore hv1 (H_restore k _ μ _ hkL hI (fun m h => hk m h))
    unfold fL_law_803
    intro x9 e9
    rw [e9]
    exact hk μ (Hskip k μ hkL hI)
