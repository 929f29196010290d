/-! sums, masks, counts -/
def zsd (f : Nat → Int32) : Int32 := 0 + f 0 + f 1 + f 2
theorem zx_sumD {a : Int32} {f : Nat → Int32} {μ : zMem} {K : Int32 → zMem → Prop} (hf : ∀ (d : Nat) (k : Int32 → Int32 → Int32 → zMem → Prop) (s : Int32), d < 3 → fX0_sumOfDishes_34 k K 1 a (nI d) (f d) s μ → fX0_sumOfDishes_4b k K 1 a s (nI d) μ) (h : K (zsd f) μ) : fX0_sumOfDishes 1 a μ K := by
  unfold fX0_sumOfDishes
  have st : ∀ (n d : Nat) (s : Int32), d < 3 → fX0_sumOfDishes_4 K 1 n a (s + f d) (nI (d + 1)) μ → fX0_sumOfDishes_4 K 1 (n + 1) a s (nI d) μ := by
    intro n d s hd g
    show fX0_sumOfDishes_4b (fX0_sumOfDishes_4 K 1 n) K 1 a s (nI d) μ
    refine hf d _ s hd ?_
    unfold fX0_sumOfDishes_34
    intro x1 e1 x2 e2
    rw [e1, e2, nI_1]
    exact g
  have e : zFU = (zFU - 4) + 4 := by decide
  rw [e]
  refine st _ 0 _ (by decide) (st _ 1 _ (by decide) (st _ 2 _ (by decide) ?_))
  show fX0_sumOfDishes_4b (fX0_sumOfDishes_4 K 1 _) K 1 a _ (nI 3) μ
  unfold fX0_sumOfDishes_4b
  exact ⟨fun _ => h, fun g => absurd (Int32.le_refl _) g⟩
theorem zx_sumP {n P D c ee : Nat} {a : Int32} {f : Nat → Int32} {μ : zMem} {K : Int32 → zMem → Prop} (hV : zV n P D c ee μ) (hf : (a = (7 : Int32) ∧ f = fun i => μ (5 + 3 * i) 2) ∨ (¬ a = (7 : Int32) ∧ f = fun i => μ (5 + 3 * i) 6)) (h : K (zSum f P) μ) : fX0_sumOfPeople 1 a μ K := by
  have hP := hV.1.1
  unfold fX0_sumOfPeople
  have L : ∀ (n i : Nat), i ≤ P → P - i < n → fX0_sumOfPeople_4 K 1 n a (zSum f i) (nI i) μ := by
    intro n
    induction n with
    | zero => intro i g1 g2; omega
    | succ n ih =>
      intro i g1 g2
      show fX0_sumOfPeople_4b (fX0_sumOfPeople_4 K 1 n) K 1 a _ (nI i) μ
      unfold fX0_sumOfPeople_4b fX0_sumOfPeople_40
      rw [hV.1.2.2.2.2.1]
      refine pk_le P i (fun c => ?_) (fun hi => ?_)
      · have e : i = P := by omega
        subst e
        exact h
      · have hi14 : i < 14 := by omega
        have next := ih (i + 1) (by omega) (by omega)
        unfold zSum at next
        rcases hf with ⟨ha, e⟩ | ⟨ha, e⟩
        · refine ⟨fun g => absurd ha g, fun _ => ⟨vp_in_nI hi14 (by decide), fun q8 e8 x1 e1 x2 e2 => ?_⟩⟩
          rw [e1, e2, nI_1, zq_p hi14 e8]
          rw [e] at next ⊢
          exact next
        · refine ⟨fun _ => ⟨vp_in_nI hi14 (by decide), fun q8 e8 x1 e1 x2 e2 => ?_⟩, fun g => absurd g ha⟩
          rw [e1, e2, nI_1, zq_p hi14 e8]
          rw [e] at next ⊢
          exact next
  exact L zFU 0 (by omega) (by unfold zFU; omega)
/-- those that may not order today -/
def zbn (P : Nat) (μ : zMem) : Nat := zMk (fun i => decide (¬ μ (5 + 3 * i) 4 ≤ μ 1 4)) P
theorem zx_banned {n P D c ee : Nat} {μ : zMem} {K : Int32 → zMem → Prop} (hV : zV n P D c ee μ) (h : K (nI (zbn P μ)) μ) : fX0_bannedToday 1 μ K := by
  have hP := hV.1.1
  unfold fX0_bannedToday
  have L : ∀ (n i : Nat), i ≤ P → P - i < n → fX0_bannedToday_4 K 1 n (nI (zbn i μ)) (nI i) μ := by
    intro n
    induction n with
    | zero => intro i g1 g2; omega
    | succ n ih =>
      intro i g1 g2
      show fX0_bannedToday_4b (fX0_bannedToday_4 K 1 n) K 1 _ (nI i) μ
      unfold fX0_bannedToday_4b fX0_bannedToday_34
      rw [hV.1.2.2.2.2.1]
      refine pk_le P i (fun c => ?_) (fun hi => ?_)
      · have e : i = P := by omega
        subst e
        exact h
      · have hi14 : i < 14 := by omega
        have next := ih (i + 1) (by omega) (by omega)
        unfold zbn zMk at next
        refine ⟨vp_in_nI hi14 (by decide), fun q4 e4 => ?_⟩
        rw [zq_p hi14 e4]
        refine ⟨fun g x1 e => ?_, fun g x6 e6 x7 e7 x1 e => ?_⟩
        · rw [if_neg (by simp [g])] at next
          rw [e, nI_1]
          exact next
        · rw [if_pos (by simp only [g, not_false_eq_true, decide_true])] at next
          rw [e, nI_1, e7, e6, zn_shl (by omega), zn_or]
          exact next
  exact L zFU 0 (by omega) (by unfold zFU; omega)
/-- those with an order for a day and a dish -/
def zod (P : Nat) (μ : zMem) (k d : Nat) : Nat := zMk (fun i => decide (μ (6 + 3 * i) k = nI d)) P
theorem zx_ordered {n P D c ee k d q : Nat} {μ : zMem} {K : Int32 → zMem → Prop} (hV : zV n P D c ee μ) (hk : k < 5) (hd : d < 3) (h : K (nI (zod P μ k d)) μ) : fX7_ordered q (nI k) (nI d) μ K := by
  have hP := hV.1.1
  unfold fX7_ordered fX0_peopleWithOrder
  refine zx_hasD hd ⟨fun _ => zx_isA hk ⟨fun _ => ?_, fun g => absurd g (by decide)⟩, fun g => absurd g (by decide)⟩
  have L : ∀ (n i : Nat), i ≤ P → P - i < n → fX0_peopleWithOrder_26 (fun r1 m2 => K r1 m2) 1 n (nI k) (nI d) (nI (zod i μ k d)) (nI i) μ := by
    intro n
    induction n with
    | zero => intro i g1 g2; omega
    | succ n ih =>
      intro i g1 g2
      show fX0_peopleWithOrder_26b (fX0_peopleWithOrder_26 (fun r1 m2 => K r1 m2) 1 n) (fun r1 m2 => K r1 m2) 1 (nI k) (nI d) _ (nI i) μ
      unfold fX0_peopleWithOrder_26b fX0_peopleWithOrder_58
      rw [hV.1.2.2.2.2.1]
      refine pk_le P i (fun c => ?_) (fun hi => ?_)
      · have e : i = P := by omega
        subst e
        exact h
      · have hi14 : i < 14 := by omega
        have next := ih (i + 1) (by omega) (by omega)
        unfold zod zMk at next
        refine ⟨vp_in_nI hi14 (by decide), fun q4 e4 => ⟨vp_in_nI hk (by decide), fun x6 e6 => ?_⟩⟩
        rw [zq_p hi14 e4, nI_clamp (by omega), show 5 + 3 * i + 1 = 6 + 3 * i by omega] at e6
        refine ⟨fun g x1 e => ?_, fun g x8 e8 x9 e9 x1 e => ?_⟩
        · rw [if_neg (by simp only [decide_eq_true_eq]; exact fun z => g (e6.trans z))] at next
          rw [e, nI_1]
          exact next
        · rw [if_pos (by simp only [decide_eq_true_eq]; exact e6.symm.trans g)] at next
          rw [e, nI_1, e9, e8, zn_shl (by omega), zn_or]
          exact next
  exact L zFU 0 (by omega) (by unfold zFU; omega)
theorem zx_cnt {q : Nat} {a : Int32} {μ : zMem} {K : Int32 → zMem → Prop} (h14 : ¬ a = (14 : Int32)) (h15 : ¬ a = (15 : Int32)) (h : fX0_number 1 a μ K) : fX7_count q a μ K := by
  unfold fX7_count
  exact ⟨fun _ => ⟨fun _ => h, fun g => absurd g h15⟩, fun g => absurd g h14⟩
theorem zx_cnt0 {n P D c ee q : Nat} {μ : zMem} {K : Int32 → zMem → Prop} (hV : zV n P D c ee μ) (h : K (nI D) μ) : fX7_count q (0 : Int32) μ K := by
  refine zx_cnt (by decide) (by decide) ?_
  unfold fX0_number fX0_number_94
  exact ⟨fun _ => by rw [hV.1.2.2.2.2.2.1]; exact h, fun g => absurd rfl g⟩
theorem zx_cnt1 {n P D c ee q : Nat} {μ : zMem} {K : Int32 → zMem → Prop} (hV : zV n P D c ee μ) (h : K (nI P) μ) : fX7_count q (1 : Int32) μ K := by
  refine zx_cnt (by decide) (by decide) ?_
  unfold fX0_number fX0_number_94
  exact ⟨fun g => absurd g (by decide), fun _ => ⟨fun _ => by rw [hV.1.2.2.2.2.1]; exact h, fun g => absurd rfl g⟩⟩
theorem zx_cnt2 {n P D c ee q : Nat} {μ : zMem} {K : Int32 → zMem → Prop} (hV : zV n P D c ee μ) (h : K (nI c) μ) : fX7_count q (2 : Int32) μ K := by
  refine zx_cnt (by decide) (by decide) ?_
  unfold fX0_number fX0_number_94
  have hc := hV.1.2.2.2.1
  have hc0 : μ 1 5 = 0 → c = 0 := fun g => zn_inj (by omega) (by decide) ((hV.1.2.2.2.2.2.2.symm.trans g).trans rfl)
  have hc1 : ¬ μ 1 5 = 0 → c = 1 := fun g => by
    have : ¬ c = 0 := fun z => g (by rw [hV.1.2.2.2.2.2.2, z]; rfl)
    omega
  exact ⟨fun g => absurd g (by decide), fun _ => ⟨fun g => absurd g (by decide), fun _ => ⟨fun _ => ⟨fun g => by rw [hc0 g] at h; exact h, fun g => by rw [hc1 g] at h; exact h⟩, fun g => absurd rfl g⟩⟩⟩
theorem zx_cnt3 {n P D c ee q : Nat} {μ : zMem} {K : Int32 → zMem → Prop} (hV : zV n P D c ee μ) (h : K (zsd (fun d => μ (47 + 2 * d) 3)) μ) : fX7_count q (3 : Int32) μ K := by
  refine zx_cnt (by decide) (by decide) ?_
  unfold fX0_number fX0_number_94
  exact ⟨fun g => absurd g (by decide), fun _ => ⟨fun g => absurd g (by decide), fun _ => ⟨fun g => absurd g (by decide), fun _ => ⟨fun _ => zx_sumD (f := fun d => μ (47 + 2 * d) 3) (fun d k s hd g => by unfold fX0_sumOfDishes_4b; exact ⟨fun z => absurd z (nI_ge (a := d) (b := 3) hd (by decide)), fun _ => ⟨fun _ => zx_adish3 hV hd g, fun z => absurd z (by decide)⟩⟩) h, fun g => absurd rfl g⟩⟩⟩⟩
theorem zx_cnt4 {n P D c ee q : Nat} {μ : zMem} {K : Int32 → zMem → Prop} (hV : zV n P D c ee μ) (h : K (zsd (fun d => μ (47 + 2 * d) 4)) μ) : fX7_count q (4 : Int32) μ K := by
  refine zx_cnt (by decide) (by decide) ?_
  unfold fX0_number fX0_number_94
  exact ⟨fun g => absurd g (by decide), fun _ => ⟨fun g => absurd g (by decide), fun _ => ⟨fun g => absurd g (by decide), fun _ => ⟨fun g => absurd g (by decide), fun _ => ⟨fun _ => zx_sumD (f := fun d => μ (47 + 2 * d) 4) (fun d k s hd g => by unfold fX0_sumOfDishes_4b; exact ⟨fun z => absurd z (nI_ge (a := d) (b := 3) hd (by decide)), fun _ => ⟨fun _ => zx_adish4 hV hd g, fun z => absurd z (by decide)⟩⟩) h, fun g => absurd rfl g⟩⟩⟩⟩⟩
theorem zx_cnt5 {n P D c ee q : Nat} {μ : zMem} {K : Int32 → zMem → Prop} (hV : zV n P D c ee μ) (h : K (zsd (fun d => μ (47 + 2 * d) 5)) μ) : fX7_count q (5 : Int32) μ K := by
  refine zx_cnt (by decide) (by decide) ?_
  unfold fX0_number fX0_number_94
  exact ⟨fun g => absurd g (by decide), fun _ => ⟨fun g => absurd g (by decide), fun _ => ⟨fun g => absurd g (by decide), fun _ => ⟨fun g => absurd g (by decide), fun _ => ⟨fun g => absurd g (by decide), fun _ => ⟨fun _ => zx_sumD (f := fun d => μ (47 + 2 * d) 5) (fun d k s hd g => by unfold fX0_sumOfDishes_4b; exact ⟨fun z => absurd z (nI_ge (a := d) (b := 3) hd (by decide)), fun _ => ⟨fun _ => zx_adish5 hV hd g, fun z => absurd z (by decide)⟩⟩) h, fun g => absurd rfl g⟩⟩⟩⟩⟩⟩
theorem zx_cnt6 {n P D c ee q : Nat} {μ : zMem} {K : Int32 → zMem → Prop} (hV : zV n P D c ee μ) (h : K (zsd (fun d => μ (47 + 2 * d) 1 + μ (47 + 2 * d) 2)) μ) : fX7_count q (6 : Int32) μ K := by
  refine zx_cnt (by decide) (by decide) ?_
  unfold fX0_number fX0_number_94
  exact ⟨fun g => absurd g (by decide), fun _ => ⟨fun g => absurd g (by decide), fun _ => ⟨fun g => absurd g (by decide), fun _ => ⟨fun g => absurd g (by decide), fun _ => ⟨fun g => absurd g (by decide), fun _ => ⟨fun g => absurd g (by decide), fun _ => ⟨fun _ => zx_sumD (f := fun d => μ (47 + 2 * d) 1 + μ (47 + 2 * d) 2) (fun d k s hd g => by unfold fX0_sumOfDishes_4b; exact ⟨fun z => absurd z (nI_ge (a := d) (b := 3) hd (by decide)), fun _ => ⟨fun z => absurd rfl z, fun _ => ⟨vp_in_nI hd (by decide), fun q8 e8 => by unfold fX1_left; intro x1 e1; rw [e1, zq_d hd e8]; exact g⟩⟩⟩) h, fun g => absurd rfl g⟩⟩⟩⟩⟩⟩⟩
theorem zx_cnt7 {n P D c ee q : Nat} {μ : zMem} {K : Int32 → zMem → Prop} (hV : zV n P D c ee μ) (h : K (zSum (fun i => μ (5 + 3 * i) 2) P) μ) : fX7_count q (7 : Int32) μ K := by
  refine zx_cnt (by decide) (by decide) ?_
  unfold fX0_number fX0_number_94
  exact ⟨fun g => absurd g (by decide), fun _ => ⟨fun g => absurd g (by decide), fun _ => ⟨fun g => absurd g (by decide), fun _ => ⟨fun g => absurd g (by decide), fun _ => ⟨fun g => absurd g (by decide), fun _ => ⟨fun g => absurd g (by decide), fun _ => ⟨fun g => absurd g (by decide), fun _ => ⟨fun _ => zx_sumP hV (Or.inl ⟨rfl, rfl⟩) h, fun g => absurd rfl g⟩⟩⟩⟩⟩⟩⟩⟩
theorem zx_cnt8 {n P D c ee q : Nat} {μ : zMem} {K : Int32 → zMem → Prop} (hV : zV n P D c ee μ) (h : K (nI (zbn P μ)) μ) : fX7_count q (8 : Int32) μ K := by
  refine zx_cnt (by decide) (by decide) ?_
  unfold fX0_number fX0_number_94
  exact ⟨fun g => absurd g (by decide), fun _ => ⟨fun g => absurd g (by decide), fun _ => ⟨fun g => absurd g (by decide), fun _ => ⟨fun g => absurd g (by decide), fun _ => ⟨fun g => absurd g (by decide), fun _ => ⟨fun g => absurd g (by decide), fun _ => ⟨fun g => absurd g (by decide), fun _ => ⟨fun g => absurd g (by decide), fun _ => ⟨fun _ => zx_banned hV h, fun g => absurd rfl g⟩⟩⟩⟩⟩⟩⟩⟩⟩
theorem zx_cnt9 {n P D c ee q : Nat} {μ : zMem} {K : Int32 → zMem → Prop} (hV : zV n P D c ee μ) (h : K (zSum (fun i => μ (5 + 3 * i) 6) P) μ) : fX7_count q (9 : Int32) μ K := by
  refine zx_cnt (by decide) (by decide) ?_
  unfold fX0_number fX0_number_94
  exact ⟨fun g => absurd g (by decide), fun _ => ⟨fun g => absurd g (by decide), fun _ => ⟨fun g => absurd g (by decide), fun _ => ⟨fun g => absurd g (by decide), fun _ => ⟨fun g => absurd g (by decide), fun _ => ⟨fun g => absurd g (by decide), fun _ => ⟨fun g => absurd g (by decide), fun _ => ⟨fun g => absurd g (by decide), fun _ => ⟨fun g => absurd g (by decide), fun _ => ⟨fun _ => zx_sumP hV (Or.inr ⟨by decide, rfl⟩) h, fun g => absurd rfl g⟩⟩⟩⟩⟩⟩⟩⟩⟩⟩
theorem zx_cnt10 {n P D c ee q : Nat} {μ : zMem} {K : Int32 → zMem → Prop} (hV : zV n P D c ee μ) (h : K (μ 2 0) μ) : fX7_count q (10 : Int32) μ K := by
  refine zx_cnt (by decide) (by decide) ?_
  unfold fX0_number fX0_number_94
  exact ⟨fun g => absurd g (by decide), fun _ => ⟨fun g => absurd g (by decide), fun _ => ⟨fun g => absurd g (by decide), fun _ => ⟨fun g => absurd g (by decide), fun _ => ⟨fun g => absurd g (by decide), fun _ => ⟨fun g => absurd g (by decide), fun _ => ⟨fun g => absurd g (by decide), fun _ => ⟨fun g => absurd g (by decide), fun _ => ⟨fun g => absurd g (by decide), fun _ => ⟨fun g => absurd g (by decide), fun _ => ⟨fun _ x27 e27 => by rw [show (10 : Int32) - 10 = nI 0 from by decide] at e27; rw [e27]; exact ⟨vp_in_nI (by decide) (by decide), fun x29 e29 => by rw [nI_clamp (by decide)] at e29; rw [e29]; exact h⟩, fun g => absurd rfl g⟩⟩⟩⟩⟩⟩⟩⟩⟩⟩⟩
theorem zx_cnt11 {n P D c ee q : Nat} {μ : zMem} {K : Int32 → zMem → Prop} (hV : zV n P D c ee μ) (h : K (μ 2 1) μ) : fX7_count q (11 : Int32) μ K := by
  refine zx_cnt (by decide) (by decide) ?_
  unfold fX0_number fX0_number_94
  exact ⟨fun g => absurd g (by decide), fun _ => ⟨fun g => absurd g (by decide), fun _ => ⟨fun g => absurd g (by decide), fun _ => ⟨fun g => absurd g (by decide), fun _ => ⟨fun g => absurd g (by decide), fun _ => ⟨fun g => absurd g (by decide), fun _ => ⟨fun g => absurd g (by decide), fun _ => ⟨fun g => absurd g (by decide), fun _ => ⟨fun g => absurd g (by decide), fun _ => ⟨fun g => absurd g (by decide), fun _ => ⟨fun g => absurd g (by decide), fun _ => ⟨fun _ x27 e27 => by rw [show (11 : Int32) - 10 = nI 1 from by decide] at e27; rw [e27]; exact ⟨vp_in_nI (by decide) (by decide), fun x29 e29 => by rw [nI_clamp (by decide)] at e29; rw [e29]; exact h⟩, fun g => absurd rfl g⟩⟩⟩⟩⟩⟩⟩⟩⟩⟩⟩⟩
theorem zx_cnt12 {n P D c ee q : Nat} {μ : zMem} {K : Int32 → zMem → Prop} (hV : zV n P D c ee μ) (h : K (μ 2 2) μ) : fX7_count q (12 : Int32) μ K := by
  refine zx_cnt (by decide) (by decide) ?_
  unfold fX0_number fX0_number_94
  exact ⟨fun g => absurd g (by decide), fun _ => ⟨fun g => absurd g (by decide), fun _ => ⟨fun g => absurd g (by decide), fun _ => ⟨fun g => absurd g (by decide), fun _ => ⟨fun g => absurd g (by decide), fun _ => ⟨fun g => absurd g (by decide), fun _ => ⟨fun g => absurd g (by decide), fun _ => ⟨fun g => absurd g (by decide), fun _ => ⟨fun g => absurd g (by decide), fun _ => ⟨fun g => absurd g (by decide), fun _ => ⟨fun g => absurd g (by decide), fun _ => ⟨fun g => absurd g (by decide), fun _ => ⟨fun _ x27 e27 => by rw [show (12 : Int32) - 10 = nI 2 from by decide] at e27; rw [e27]; exact ⟨vp_in_nI (by decide) (by decide), fun x29 e29 => by rw [nI_clamp (by decide)] at e29; rw [e29]; exact h⟩, fun g => absurd rfl g⟩⟩⟩⟩⟩⟩⟩⟩⟩⟩⟩⟩⟩
theorem zx_cnt13 {n P D c ee q : Nat} {μ : zMem} {K : Int32 → zMem → Prop} (hV : zV n P D c ee μ) (h : K (μ 2 3) μ) : fX7_count q (13 : Int32) μ K := by
  refine zx_cnt (by decide) (by decide) ?_
  unfold fX0_number fX0_number_94
  exact ⟨fun g => absurd g (by decide), fun _ => ⟨fun g => absurd g (by decide), fun _ => ⟨fun g => absurd g (by decide), fun _ => ⟨fun g => absurd g (by decide), fun _ => ⟨fun g => absurd g (by decide), fun _ => ⟨fun g => absurd g (by decide), fun _ => ⟨fun g => absurd g (by decide), fun _ => ⟨fun g => absurd g (by decide), fun _ => ⟨fun g => absurd g (by decide), fun _ => ⟨fun g => absurd g (by decide), fun _ => ⟨fun g => absurd g (by decide), fun _ => ⟨fun g => absurd g (by decide), fun _ => ⟨fun g => absurd g (by decide), fun _ => ⟨fun _ x27 e27 => by rw [show (13 : Int32) - 10 = nI 3 from by decide] at e27; rw [e27]; exact ⟨vp_in_nI (by decide) (by decide), fun x29 e29 => by rw [nI_clamp (by decide)] at e29; rw [e29]; exact h⟩, fun g => absurd rfl g⟩⟩⟩⟩⟩⟩⟩⟩⟩⟩⟩⟩⟩⟩
