/-! one call on fresh objects: the counts -/
theorem zn_aboutC {K : Int32 → zMem → Prop} {i : Nat} {v : Int32} (hi : i < 3) (hv : v = 3 ∨ v = 4 ∨ v = 5) (h : K 0 zM1) : fX0_aboutDish 1 (nI i) v zM1 K := by
  unfold fX0_aboutDish
  refine zs_hasDish (fun _ _ _ => ⟨fun _ => ?_, fun g => absurd g (by decide)⟩) (fun g => absurd rfl (g i hi))
  have hin : vp_in (nI i) 3 := vp_in_nI hi (by decide)
  have hz : ∀ q : Nat, q = 1 + 3 + 43 + 2 * (nI i).toNatClampNeg → zM1 q = fun _ => 0 := by
    intro q e
    rw [e, nI_clamp (by omega)]
    exact zM1_d i hi
  refine ⟨fun g => absurd g (by rcases hv with rfl | rfl | rfl <;> decide), fun _ => ⟨fun g => absurd g (by rcases hv with rfl | rfl | rfl <;> decide), fun _ => ⟨fun g => absurd g (by rcases hv with rfl | rfl | rfl <;> decide), fun _ => ⟨fun _ => ⟨hin, fun q e => by rw [hz q e]; exact h⟩, fun g3 => ⟨fun _ => ⟨hin, fun q e => by rw [hz q e]; exact h⟩, fun g4 => ⟨fun _ => ⟨hin, fun q e => by rw [hz q e]; exact h⟩, fun g5 => ?_⟩⟩⟩⟩⟩⟩
  rcases hv with rfl | rfl | rfl
  · exact absurd rfl g3
  · exact absurd rfl g4
  · exact absurd rfl g5
theorem zn_sumC {K : Int32 → zMem → Prop} {v : Int32} (hv : v = 3 ∨ v = 4 ∨ v = 5 ∨ v = 6) (h : K 0 zM1) : fX0_sumOfDishes 1 v zM1 K := by
  unfold fX0_sumOfDishes
  have L : ∀ (n i : Nat), i ≤ 3 → 3 - i < n → fX0_sumOfDishes_4 K 1 n v 0 (nI i) zM1 := by
    intro n
    induction n with
    | zero => intro i h1 h2; omega
    | succ n ih =>
      intro i h1 h2
      show fX0_sumOfDishes_4b (fX0_sumOfDishes_4 K 1 n) K 1 v 0 (nI i) zM1
      unfold fX0_sumOfDishes_4b
      refine ⟨fun _ => h, fun c => ?_⟩
      have h3 : i < 3 := Nat.lt_of_not_le (fun g => c ((nI_leI (a := 3) (b := i) (by omega) (by omega)).mpr g))
      have go : ∀ r : Int32, r = 0 → fX0_sumOfDishes_34 (fX0_sumOfDishes_4 K 1 n) K 1 v (nI i) r 0 zM1 := by
        intro r hr
        subst hr
        unfold fX0_sumOfDishes_34
        intro x1 e1 x2 e2
        have e1 : x1 = 0 := e1
        rw [e1, e2, show nI i + (1 : Int32) = nI (i + 1) from nI_1 i]
        exact ih (i + 1) (by omega) (by omega)
      refine ⟨fun g => zn_aboutC h3 (by rcases hv with e | e | e | e; exact Or.inl e; exact Or.inr (Or.inl e); exact Or.inr (Or.inr e); exact absurd e g) (go 0 rfl), fun _ => ⟨vp_in_nI h3 (by decide), fun q8 e8 => ?_⟩⟩
      unfold fX1_left
      intro x1 e1
      refine go x1 ?_
      rw [e1, e8, nI_clamp (by omega), zM1_d i h3]
      rfl
  exact L zFU 0 (by omega) (by unfold zFU; omega)
theorem zn_sumPC {K : Int32 → zMem → Prop} {v : Int32} (h : K 0 zM1) : fX0_sumOfPeople 1 v zM1 K := by
  unfold fX0_sumOfPeople
  show fX0_sumOfPeople_4b (fX0_sumOfPeople_4 K 1 1999) K 1 v 0 0 zM1
  unfold fX0_sumOfPeople_4b
  exact ⟨fun _ => h, fun c => absurd (Int32.le_refl _) c⟩
theorem zn_banC {K : Int32 → zMem → Prop} (h : K 0 zM1) : fX0_bannedToday 1 zM1 K := by
  unfold fX0_bannedToday
  show fX0_bannedToday_4b (fX0_bannedToday_4 K 1 1999) K 1 0 0 zM1
  unfold fX0_bannedToday_4b
  exact ⟨fun _ => h, fun c => absurd (Int32.le_refl _) c⟩
theorem zn_sumR {K : Int32 → zMem → Prop} {v : Nat} {m : zMem} (hm : zFr m) (hv : v = 3 ∨ v = 4 ∨ v = 5 ∨ v = 6) (h : K 0 m) : fX8_ofDishes 529 (nI v) m K := by
  unfold fX8_ofDishes
  have hs : ∀ k, 23 ≤ k → k < 276 → m 530 k = 0 := fun k h1 h2 => by rw [hm 530 (by omega), zM1_530, zs1_0 _ h2 h1]
  have L : ∀ (n i : Nat), i ≤ 3 → 3 - i < n → fX8_ofDishes_4 K 529 n (nI v) 0 (nI i) m := by
    intro n
    induction n with
    | zero => intro i h1 h2; omega
    | succ n ih =>
      intro i h1 h2
      show fX8_ofDishes_4b (fX8_ofDishes_4 K 529 n) K 529 (nI v) 0 (nI i) m
      unfold fX8_ofDishes_4b
      refine ⟨fun _ => h, fun c => ?_⟩
      have h3 : i < 3 := Nat.lt_of_not_le (fun g => c ((nI_leI (a := 3) (b := i) (by omega) (by omega)).mpr g))
      have go : ∀ r : Int32, r = 0 → fX8_ofDishes_37 (fX8_ofDishes_4 K 529 n) K 529 (nI v) (nI i) r 0 m := by
        intro r hr
        subst hr
        unfold fX8_ofDishes_37
        intro x1 e1 x2 e2
        have e1 : x1 = 0 := e1
        rw [e1, e2, show nI i + (1 : Int32) = nI (i + 1) from nI_1 i]
        exact ih (i + 1) (by omega) (by omega)
      refine ⟨fun g => zd_val (fun x7 e7 x8 e8 => ?_), fun _ => ?_⟩
      · have e8 : x8 = nI (23 + 5 * i + v - 1) := by rw [e8, e7, nI_add, show (1 : Int32) = nI 1 from rfl, pk_sub (by omega)]
        refine ⟨by rw [e8]; exact vp_in_nI (by omega) (by decide), fun x10 e10 => go x10 ?_⟩
        rw [e10, e8, nI_clamp (by omega), hs _ (by omega) (by omega)]
      · unfold fX8_left
        refine zd_val (fun x3 e3 => ?_)
        have e3 : x3 = nI (23 + 5 * i) := by rw [e3, show (0 : Int32) = nI 0 from rfl, nI_add, Nat.add_zero]
        refine ⟨by rw [e3]; exact vp_in_nI (by omega) (by decide), fun x5 e5 => zd_val (fun x8 e8 => ?_)⟩
        have e8 : x8 = nI (23 + 5 * i + 1) := by rw [e8, show (1 : Int32) = nI 1 from rfl, nI_add]
        refine ⟨by rw [e8]; exact vp_in_nI (by omega) (by decide), fun x10 e10 x11 e11 => go x11 ?_⟩
        rw [e11, e5, e10, e3, e8, nI_clamp (by omega), nI_clamp (by omega), hs _ (by omega) (by omega), hs _ (by omega) (by omega)]
        rfl
  exact L zFU 0 (by omega) (by unfold zFU; omega)
theorem zn_sumPR {K : Int32 → zMem → Prop} {v : Int32} {m : zMem} (hm : zFr m) (h : K 0 m) : fX8_ofPeople 529 v m K := by
  unfold fX8_ofPeople
  show fX8_ofPeople_7b (fX8_ofPeople_7 K 529 1999) K 529 v 0 0 0 m
  unfold fX8_ofPeople_7b fX8_ofPeople_83
  intro x3 e3
  rw [zFr_P hm] at e3
  exact ⟨fun _ => ⟨fun _ => h, fun _ => h⟩, fun c => absurd (by rw [e3]; decide) c⟩
theorem zp_count_0 : ∃ r, zC (fX7_count 0 (0 : Int32) zM1) r ∧ zR (fun m K => fX8_count 529 (0 : Int32) m K) r := by
  refine ⟨0, fun K hK => ?_, fun m K hm hK => ?_⟩
  · unfold fX7_count fX0_number fX0_number_94 fX2_length fX4_length
    exact ⟨fun _ => ⟨fun _ => ⟨fun _ => hK _ zFr0, fun g => absurd rfl g⟩, fun g => absurd g (by decide)⟩, fun g => absurd g (by decide)⟩
  · show fX8_count 529 (0 : Int32) m K
    unfold fX8_count
    exact ⟨fun _ => (fun x e => by subst e; exact ⟨by unfold vp_in; decide, fun y ey => by subst ey; rw [hm 530 (by omega)]; exact hK m⟩), fun g => absurd rfl g⟩
theorem zp_count_1 : ∃ r, zC (fX7_count 0 (1 : Int32) zM1) r ∧ zR (fun m K => fX8_count 529 (1 : Int32) m K) r := by
  refine ⟨0, fun K hK => ?_, fun m K hm hK => ?_⟩
  · unfold fX7_count fX0_number fX0_number_94 fX2_length fX4_length
    exact ⟨fun _ => ⟨fun _ => ⟨fun g => absurd g (by decide), fun _ => ⟨fun _ => hK _ zFr0, fun g => absurd rfl g⟩⟩, fun g => absurd g (by decide)⟩, fun g => absurd g (by decide)⟩
  · show fX8_count 529 (1 : Int32) m K
    unfold fX8_count
    exact ⟨fun g => absurd g (by decide), fun _ => ⟨fun _ => (fun x e => by subst e; exact ⟨by unfold vp_in; decide, fun y ey => by subst ey; rw [hm 530 (by omega)]; exact hK m⟩), fun g => absurd rfl g⟩⟩
theorem zp_count_2 : ∃ r, zC (fX7_count 0 (2 : Int32) zM1) r ∧ zR (fun m K => fX8_count 529 (2 : Int32) m K) r := by
  refine ⟨0, fun K hK => ?_, fun m K hm hK => ?_⟩
  · unfold fX7_count fX0_number fX0_number_94 fX2_length fX4_length
    exact ⟨fun _ => ⟨fun _ => ⟨fun g => absurd g (by decide), fun _ => ⟨fun g => absurd g (by decide), fun _ => ⟨fun _ => ⟨fun _ => hK _ zFr0, fun g => absurd rfl g⟩, fun g => absurd rfl g⟩⟩⟩, fun g => absurd g (by decide)⟩, fun g => absurd g (by decide)⟩
  · show fX8_count 529 (2 : Int32) m K
    unfold fX8_count
    exact ⟨fun g => absurd g (by decide), fun _ => ⟨fun g => absurd g (by decide), fun _ => ⟨fun _ => (fun x e => by subst e; exact ⟨by unfold vp_in; decide, fun y ey => by subst ey; rw [hm 530 (by omega)]; exact hK m⟩), fun g => absurd rfl g⟩⟩⟩
theorem zp_count_3 : ∃ r, zC (fX7_count 0 (3 : Int32) zM1) r ∧ zR (fun m K => fX8_count 529 (3 : Int32) m K) r := by
  refine ⟨0, fun K hK => ?_, fun m K hm hK => ?_⟩
  · unfold fX7_count fX0_number fX0_number_94 fX2_length fX4_length
    exact ⟨fun _ => ⟨fun _ => ⟨fun g => absurd g (by decide), fun _ => ⟨fun g => absurd g (by decide), fun _ => ⟨fun g => absurd g (by decide), fun _ => ⟨fun _ => zn_sumC (by decide) (hK _ zFr0), fun g => absurd rfl g⟩⟩⟩⟩, fun g => absurd g (by decide)⟩, fun g => absurd g (by decide)⟩
  · show fX8_count 529 (3 : Int32) m K
    unfold fX8_count
    exact ⟨fun g => absurd g (by decide), fun _ => ⟨fun g => absurd g (by decide), fun _ => ⟨fun g => absurd g (by decide), fun _ => ⟨fun _ => zn_sumR (v := 3) hm (by decide) (hK m), fun g => absurd rfl g⟩⟩⟩⟩
theorem zp_count_4 : ∃ r, zC (fX7_count 0 (4 : Int32) zM1) r ∧ zR (fun m K => fX8_count 529 (4 : Int32) m K) r := by
  refine ⟨0, fun K hK => ?_, fun m K hm hK => ?_⟩
  · unfold fX7_count fX0_number fX0_number_94 fX2_length fX4_length
    exact ⟨fun _ => ⟨fun _ => ⟨fun g => absurd g (by decide), fun _ => ⟨fun g => absurd g (by decide), fun _ => ⟨fun g => absurd g (by decide), fun _ => ⟨fun g => absurd g (by decide), fun _ => ⟨fun _ => zn_sumC (by decide) (hK _ zFr0), fun g => absurd rfl g⟩⟩⟩⟩⟩, fun g => absurd g (by decide)⟩, fun g => absurd g (by decide)⟩
  · show fX8_count 529 (4 : Int32) m K
    unfold fX8_count
    exact ⟨fun g => absurd g (by decide), fun _ => ⟨fun g => absurd g (by decide), fun _ => ⟨fun g => absurd g (by decide), fun _ => ⟨fun g => absurd g (by decide), fun _ => ⟨fun _ => zn_sumR (v := 4) hm (by decide) (hK m), fun g => absurd rfl g⟩⟩⟩⟩⟩
theorem zp_count_5 : ∃ r, zC (fX7_count 0 (5 : Int32) zM1) r ∧ zR (fun m K => fX8_count 529 (5 : Int32) m K) r := by
  refine ⟨0, fun K hK => ?_, fun m K hm hK => ?_⟩
  · unfold fX7_count fX0_number fX0_number_94 fX2_length fX4_length
    exact ⟨fun _ => ⟨fun _ => ⟨fun g => absurd g (by decide), fun _ => ⟨fun g => absurd g (by decide), fun _ => ⟨fun g => absurd g (by decide), fun _ => ⟨fun g => absurd g (by decide), fun _ => ⟨fun g => absurd g (by decide), fun _ => ⟨fun _ => zn_sumC (by decide) (hK _ zFr0), fun g => absurd rfl g⟩⟩⟩⟩⟩⟩, fun g => absurd g (by decide)⟩, fun g => absurd g (by decide)⟩
  · show fX8_count 529 (5 : Int32) m K
    unfold fX8_count
    exact ⟨fun g => absurd g (by decide), fun _ => ⟨fun g => absurd g (by decide), fun _ => ⟨fun g => absurd g (by decide), fun _ => ⟨fun g => absurd g (by decide), fun _ => ⟨fun g => absurd g (by decide), fun _ => ⟨fun _ => zn_sumR (v := 5) hm (by decide) (hK m), fun g => absurd rfl g⟩⟩⟩⟩⟩⟩
theorem zp_count_6 : ∃ r, zC (fX7_count 0 (6 : Int32) zM1) r ∧ zR (fun m K => fX8_count 529 (6 : Int32) m K) r := by
  refine ⟨0, fun K hK => ?_, fun m K hm hK => ?_⟩
  · unfold fX7_count fX0_number fX0_number_94 fX2_length fX4_length
    exact ⟨fun _ => ⟨fun _ => ⟨fun g => absurd g (by decide), fun _ => ⟨fun g => absurd g (by decide), fun _ => ⟨fun g => absurd g (by decide), fun _ => ⟨fun g => absurd g (by decide), fun _ => ⟨fun g => absurd g (by decide), fun _ => ⟨fun g => absurd g (by decide), fun _ => ⟨fun _ => zn_sumC (by decide) (hK _ zFr0), fun g => absurd rfl g⟩⟩⟩⟩⟩⟩⟩, fun g => absurd g (by decide)⟩, fun g => absurd g (by decide)⟩
  · show fX8_count 529 (6 : Int32) m K
    unfold fX8_count
    exact ⟨fun g => absurd g (by decide), fun _ => ⟨fun g => absurd g (by decide), fun _ => ⟨fun g => absurd g (by decide), fun _ => ⟨fun g => absurd g (by decide), fun _ => ⟨fun g => absurd g (by decide), fun _ => ⟨fun g => absurd g (by decide), fun _ => ⟨fun _ => zn_sumR (v := 6) hm (by decide) (hK m), fun g => absurd rfl g⟩⟩⟩⟩⟩⟩⟩
theorem zp_count_7 : ∃ r, zC (fX7_count 0 (7 : Int32) zM1) r ∧ zR (fun m K => fX8_count 529 (7 : Int32) m K) r := by
  refine ⟨0, fun K hK => ?_, fun m K hm hK => ?_⟩
  · unfold fX7_count fX0_number fX0_number_94 fX2_length fX4_length
    exact ⟨fun _ => ⟨fun _ => ⟨fun g => absurd g (by decide), fun _ => ⟨fun g => absurd g (by decide), fun _ => ⟨fun g => absurd g (by decide), fun _ => ⟨fun g => absurd g (by decide), fun _ => ⟨fun g => absurd g (by decide), fun _ => ⟨fun g => absurd g (by decide), fun _ => ⟨fun g => absurd g (by decide), fun _ => ⟨fun _ => zn_sumPC (hK _ zFr0), fun g => absurd rfl g⟩⟩⟩⟩⟩⟩⟩⟩, fun g => absurd g (by decide)⟩, fun g => absurd g (by decide)⟩
  · show fX8_count 529 (7 : Int32) m K
    unfold fX8_count
    exact ⟨fun g => absurd g (by decide), fun _ => ⟨fun g => absurd g (by decide), fun _ => ⟨fun g => absurd g (by decide), fun _ => ⟨fun g => absurd g (by decide), fun _ => ⟨fun g => absurd g (by decide), fun _ => ⟨fun g => absurd g (by decide), fun _ => ⟨fun g => absurd g (by decide), fun _ => ⟨fun _ => zn_sumPR hm (hK m), fun g => absurd rfl g⟩⟩⟩⟩⟩⟩⟩⟩
theorem zp_count_8 : ∃ r, zC (fX7_count 0 (8 : Int32) zM1) r ∧ zR (fun m K => fX8_count 529 (8 : Int32) m K) r := by
  refine ⟨0, fun K hK => ?_, fun m K hm hK => ?_⟩
  · unfold fX7_count fX0_number fX0_number_94 fX2_length fX4_length
    exact ⟨fun _ => ⟨fun _ => ⟨fun g => absurd g (by decide), fun _ => ⟨fun g => absurd g (by decide), fun _ => ⟨fun g => absurd g (by decide), fun _ => ⟨fun g => absurd g (by decide), fun _ => ⟨fun g => absurd g (by decide), fun _ => ⟨fun g => absurd g (by decide), fun _ => ⟨fun g => absurd g (by decide), fun _ => ⟨fun g => absurd g (by decide), fun _ => ⟨fun _ => zn_banC (hK _ zFr0), fun g => absurd rfl g⟩⟩⟩⟩⟩⟩⟩⟩⟩, fun g => absurd g (by decide)⟩, fun g => absurd g (by decide)⟩
  · show fX8_count 529 (8 : Int32) m K
    unfold fX8_count
    exact ⟨fun g => absurd g (by decide), fun _ => ⟨fun g => absurd g (by decide), fun _ => ⟨fun g => absurd g (by decide), fun _ => ⟨fun g => absurd g (by decide), fun _ => ⟨fun g => absurd g (by decide), fun _ => ⟨fun g => absurd g (by decide), fun _ => ⟨fun g => absurd g (by decide), fun _ => ⟨fun g => absurd g (by decide), fun _ => ⟨fun _ => zn_sumPR hm (hK m), fun g => absurd rfl g⟩⟩⟩⟩⟩⟩⟩⟩⟩
theorem zp_count_9 : ∃ r, zC (fX7_count 0 (9 : Int32) zM1) r ∧ zR (fun m K => fX8_count 529 (9 : Int32) m K) r := by
  refine ⟨0, fun K hK => ?_, fun m K hm hK => ?_⟩
  · unfold fX7_count fX0_number fX0_number_94 fX2_length fX4_length
    exact ⟨fun _ => ⟨fun _ => ⟨fun g => absurd g (by decide), fun _ => ⟨fun g => absurd g (by decide), fun _ => ⟨fun g => absurd g (by decide), fun _ => ⟨fun g => absurd g (by decide), fun _ => ⟨fun g => absurd g (by decide), fun _ => ⟨fun g => absurd g (by decide), fun _ => ⟨fun g => absurd g (by decide), fun _ => ⟨fun g => absurd g (by decide), fun _ => ⟨fun g => absurd g (by decide), fun _ => ⟨fun _ => zn_sumPC (hK _ zFr0), fun g => absurd rfl g⟩⟩⟩⟩⟩⟩⟩⟩⟩⟩, fun g => absurd g (by decide)⟩, fun g => absurd g (by decide)⟩
  · show fX8_count 529 (9 : Int32) m K
    unfold fX8_count
    exact ⟨fun g => absurd g (by decide), fun _ => ⟨fun g => absurd g (by decide), fun _ => ⟨fun g => absurd g (by decide), fun _ => ⟨fun g => absurd g (by decide), fun _ => ⟨fun g => absurd g (by decide), fun _ => ⟨fun g => absurd g (by decide), fun _ => ⟨fun g => absurd g (by decide), fun _ => ⟨fun g => absurd g (by decide), fun _ => ⟨fun g => absurd g (by decide), fun _ => ⟨fun _ => (fun x e => by subst e; rw [hm 530 (by omega)]; exact hK m), fun g => absurd rfl g⟩⟩⟩⟩⟩⟩⟩⟩⟩⟩
theorem zp_count_10 : ∃ r, zC (fX7_count 0 (10 : Int32) zM1) r ∧ zR (fun m K => fX8_count 529 (10 : Int32) m K) r := by
  refine ⟨1, fun K hK => ?_, fun m K hm hK => ?_⟩
  · unfold fX7_count fX0_number fX0_number_94 fX2_length fX4_length
    exact ⟨fun _ => ⟨fun _ => ⟨fun g => absurd g (by decide), fun _ => ⟨fun g => absurd g (by decide), fun _ => ⟨fun g => absurd g (by decide), fun _ => ⟨fun g => absurd g (by decide), fun _ => ⟨fun g => absurd g (by decide), fun _ => ⟨fun g => absurd g (by decide), fun _ => ⟨fun g => absurd g (by decide), fun _ => ⟨fun g => absurd g (by decide), fun _ => ⟨fun g => absurd g (by decide), fun _ => ⟨fun g => absurd g (by decide), fun _ => ⟨fun _ => (fun x e => by subst e; exact ⟨by unfold vp_in; decide, fun y ey => by subst ey; exact hK _ zFr0⟩), fun g => absurd rfl g⟩⟩⟩⟩⟩⟩⟩⟩⟩⟩⟩, fun g => absurd g (by decide)⟩, fun g => absurd g (by decide)⟩
  · show fX8_count 529 (10 : Int32) m K
    unfold fX8_count
    exact ⟨fun g => absurd g (by decide), fun _ => ⟨fun g => absurd g (by decide), fun _ => ⟨fun g => absurd g (by decide), fun _ => ⟨fun g => absurd g (by decide), fun _ => ⟨fun g => absurd g (by decide), fun _ => ⟨fun g => absurd g (by decide), fun _ => ⟨fun g => absurd g (by decide), fun _ => ⟨fun g => absurd g (by decide), fun _ => ⟨fun g => absurd g (by decide), fun _ => ⟨fun g => absurd g (by decide), fun _ => ⟨fun _ => (fun x e => by subst e; exact ⟨by unfold vp_in; decide, fun y ey => by subst ey; rw [hm 530 (by omega)]; exact hK m⟩), fun g => absurd rfl g⟩⟩⟩⟩⟩⟩⟩⟩⟩⟩⟩
theorem zp_count_11 : ∃ r, zC (fX7_count 0 (11 : Int32) zM1) r ∧ zR (fun m K => fX8_count 529 (11 : Int32) m K) r := by
  refine ⟨4, fun K hK => ?_, fun m K hm hK => ?_⟩
  · unfold fX7_count fX0_number fX0_number_94 fX2_length fX4_length
    exact ⟨fun _ => ⟨fun _ => ⟨fun g => absurd g (by decide), fun _ => ⟨fun g => absurd g (by decide), fun _ => ⟨fun g => absurd g (by decide), fun _ => ⟨fun g => absurd g (by decide), fun _ => ⟨fun g => absurd g (by decide), fun _ => ⟨fun g => absurd g (by decide), fun _ => ⟨fun g => absurd g (by decide), fun _ => ⟨fun g => absurd g (by decide), fun _ => ⟨fun g => absurd g (by decide), fun _ => ⟨fun g => absurd g (by decide), fun _ => ⟨fun g => absurd g (by decide), fun _ => ⟨fun _ => (fun x e => by subst e; exact ⟨by unfold vp_in; decide, fun y ey => by subst ey; exact hK _ zFr0⟩), fun g => absurd rfl g⟩⟩⟩⟩⟩⟩⟩⟩⟩⟩⟩⟩, fun g => absurd g (by decide)⟩, fun g => absurd g (by decide)⟩
  · show fX8_count 529 (11 : Int32) m K
    unfold fX8_count
    exact ⟨fun g => absurd g (by decide), fun _ => ⟨fun g => absurd g (by decide), fun _ => ⟨fun g => absurd g (by decide), fun _ => ⟨fun g => absurd g (by decide), fun _ => ⟨fun g => absurd g (by decide), fun _ => ⟨fun g => absurd g (by decide), fun _ => ⟨fun g => absurd g (by decide), fun _ => ⟨fun g => absurd g (by decide), fun _ => ⟨fun g => absurd g (by decide), fun _ => ⟨fun g => absurd g (by decide), fun _ => ⟨fun g => absurd g (by decide), fun _ => ⟨fun _ => (fun x e => by subst e; exact ⟨by unfold vp_in; decide, fun y ey => by subst ey; rw [hm 530 (by omega)]; exact hK m⟩), fun g => absurd rfl g⟩⟩⟩⟩⟩⟩⟩⟩⟩⟩⟩⟩
theorem zp_count_12 : ∃ r, zC (fX7_count 0 (12 : Int32) zM1) r ∧ zR (fun m K => fX8_count 529 (12 : Int32) m K) r := by
  refine ⟨3, fun K hK => ?_, fun m K hm hK => ?_⟩
  · unfold fX7_count fX0_number fX0_number_94 fX2_length fX4_length
    exact ⟨fun _ => ⟨fun _ => ⟨fun g => absurd g (by decide), fun _ => ⟨fun g => absurd g (by decide), fun _ => ⟨fun g => absurd g (by decide), fun _ => ⟨fun g => absurd g (by decide), fun _ => ⟨fun g => absurd g (by decide), fun _ => ⟨fun g => absurd g (by decide), fun _ => ⟨fun g => absurd g (by decide), fun _ => ⟨fun g => absurd g (by decide), fun _ => ⟨fun g => absurd g (by decide), fun _ => ⟨fun g => absurd g (by decide), fun _ => ⟨fun g => absurd g (by decide), fun _ => ⟨fun g => absurd g (by decide), fun _ => ⟨fun _ => (fun x e => by subst e; exact ⟨by unfold vp_in; decide, fun y ey => by subst ey; exact hK _ zFr0⟩), fun g => absurd rfl g⟩⟩⟩⟩⟩⟩⟩⟩⟩⟩⟩⟩⟩, fun g => absurd g (by decide)⟩, fun g => absurd g (by decide)⟩
  · show fX8_count 529 (12 : Int32) m K
    unfold fX8_count
    exact ⟨fun g => absurd g (by decide), fun _ => ⟨fun g => absurd g (by decide), fun _ => ⟨fun g => absurd g (by decide), fun _ => ⟨fun g => absurd g (by decide), fun _ => ⟨fun g => absurd g (by decide), fun _ => ⟨fun g => absurd g (by decide), fun _ => ⟨fun g => absurd g (by decide), fun _ => ⟨fun g => absurd g (by decide), fun _ => ⟨fun g => absurd g (by decide), fun _ => ⟨fun g => absurd g (by decide), fun _ => ⟨fun g => absurd g (by decide), fun _ => ⟨fun g => absurd g (by decide), fun _ => ⟨fun _ => (fun x e => by subst e; exact ⟨by unfold vp_in; decide, fun y ey => by subst ey; rw [hm 530 (by omega)]; exact hK m⟩), fun g => absurd rfl g⟩⟩⟩⟩⟩⟩⟩⟩⟩⟩⟩⟩⟩
theorem zp_count_13 : ∃ r, zC (fX7_count 0 (13 : Int32) zM1) r ∧ zR (fun m K => fX8_count 529 (13 : Int32) m K) r := by
  refine ⟨5, fun K hK => ?_, fun m K hm hK => ?_⟩
  · unfold fX7_count fX0_number fX0_number_94 fX2_length fX4_length
    exact ⟨fun _ => ⟨fun _ => ⟨fun g => absurd g (by decide), fun _ => ⟨fun g => absurd g (by decide), fun _ => ⟨fun g => absurd g (by decide), fun _ => ⟨fun g => absurd g (by decide), fun _ => ⟨fun g => absurd g (by decide), fun _ => ⟨fun g => absurd g (by decide), fun _ => ⟨fun g => absurd g (by decide), fun _ => ⟨fun g => absurd g (by decide), fun _ => ⟨fun g => absurd g (by decide), fun _ => ⟨fun g => absurd g (by decide), fun _ => ⟨fun g => absurd g (by decide), fun _ => ⟨fun g => absurd g (by decide), fun _ => ⟨fun g => absurd g (by decide), fun _ => ⟨fun _ => (fun x e => by subst e; exact ⟨by unfold vp_in; decide, fun y ey => by subst ey; exact hK _ zFr0⟩), fun g => absurd rfl g⟩⟩⟩⟩⟩⟩⟩⟩⟩⟩⟩⟩⟩⟩, fun g => absurd g (by decide)⟩, fun g => absurd g (by decide)⟩
  · show fX8_count 529 (13 : Int32) m K
    unfold fX8_count
    exact ⟨fun g => absurd g (by decide), fun _ => ⟨fun g => absurd g (by decide), fun _ => ⟨fun g => absurd g (by decide), fun _ => ⟨fun g => absurd g (by decide), fun _ => ⟨fun g => absurd g (by decide), fun _ => ⟨fun g => absurd g (by decide), fun _ => ⟨fun g => absurd g (by decide), fun _ => ⟨fun g => absurd g (by decide), fun _ => ⟨fun g => absurd g (by decide), fun _ => ⟨fun g => absurd g (by decide), fun _ => ⟨fun g => absurd g (by decide), fun _ => ⟨fun g => absurd g (by decide), fun _ => ⟨fun g => absurd g (by decide), fun _ => ⟨fun _ => (fun x e => by subst e; exact ⟨by unfold vp_in; decide, fun y ey => by subst ey; rw [hm 530 (by omega)]; exact hK m⟩), fun g => absurd rfl g⟩⟩⟩⟩⟩⟩⟩⟩⟩⟩⟩⟩⟩⟩
theorem zp_count_14 : ∃ r, zC (fX7_count 0 (14 : Int32) zM1) r ∧ zR (fun m K => fX8_count 529 (14 : Int32) m K) r := by
  refine ⟨0, fun K hK => ?_, fun m K hm hK => ?_⟩
  · unfold fX7_count fX0_number fX0_number_94 fX2_length fX4_length
    exact ⟨fun g => absurd rfl g, fun _ => hK _ zFr0⟩
  · show fX8_count 529 (14 : Int32) m K
    unfold fX8_count
    exact ⟨fun g => absurd g (by decide), fun _ => ⟨fun g => absurd g (by decide), fun _ => ⟨fun g => absurd g (by decide), fun _ => ⟨fun g => absurd g (by decide), fun _ => ⟨fun g => absurd g (by decide), fun _ => ⟨fun g => absurd g (by decide), fun _ => ⟨fun g => absurd g (by decide), fun _ => ⟨fun g => absurd g (by decide), fun _ => ⟨fun g => absurd g (by decide), fun _ => ⟨fun g => absurd g (by decide), fun _ => ⟨fun g => absurd g (by decide), fun _ => ⟨fun g => absurd g (by decide), fun _ => ⟨fun g => absurd g (by decide), fun _ => ⟨fun g => absurd g (by decide), fun _ => ⟨fun _ => (by rw [hm 529 (by omega)]; exact hK m), fun g => absurd rfl g⟩⟩⟩⟩⟩⟩⟩⟩⟩⟩⟩⟩⟩⟩⟩
theorem zp_count_15 : ∃ r, zC (fX7_count 0 (15 : Int32) zM1) r ∧ zR (fun m K => fX8_count 529 (15 : Int32) m K) r := by
  refine ⟨0, fun K hK => ?_, fun m K hm hK => ?_⟩
  · unfold fX7_count fX0_number fX0_number_94 fX2_length fX4_length
    exact ⟨fun _ => ⟨fun g => absurd rfl g, fun _ => hK _ zFr0⟩, fun g => absurd g (by decide)⟩
  · show fX8_count 529 (15 : Int32) m K
    unfold fX8_count
    exact ⟨fun g => absurd g (by decide), fun _ => ⟨fun g => absurd g (by decide), fun _ => ⟨fun g => absurd g (by decide), fun _ => ⟨fun g => absurd g (by decide), fun _ => ⟨fun g => absurd g (by decide), fun _ => ⟨fun g => absurd g (by decide), fun _ => ⟨fun g => absurd g (by decide), fun _ => ⟨fun g => absurd g (by decide), fun _ => ⟨fun g => absurd g (by decide), fun _ => ⟨fun g => absurd g (by decide), fun _ => ⟨fun g => absurd g (by decide), fun _ => ⟨fun g => absurd g (by decide), fun _ => ⟨fun g => absurd g (by decide), fun _ => ⟨fun g => absurd g (by decide), fun _ => ⟨fun g => absurd g (by decide), fun _ => ⟨fun _ => (by rw [hm 529 (by omega)]; exact hK m), fun g => absurd rfl g⟩⟩⟩⟩⟩⟩⟩⟩⟩⟩⟩⟩⟩⟩⟩⟩
theorem zp_count (b : Int32) : ∃ r, zC (fX7_count 0 b zM1) r ∧ zR (fun m K => fX8_count 529 b m K) r := by
  by_cases g0 : b = 0
  · subst g0; exact zp_count_0
  by_cases g1 : b = 1
  · subst g1; exact zp_count_1
  by_cases g2 : b = 2
  · subst g2; exact zp_count_2
  by_cases g3 : b = 3
  · subst g3; exact zp_count_3
  by_cases g4 : b = 4
  · subst g4; exact zp_count_4
  by_cases g5 : b = 5
  · subst g5; exact zp_count_5
  by_cases g6 : b = 6
  · subst g6; exact zp_count_6
  by_cases g7 : b = 7
  · subst g7; exact zp_count_7
  by_cases g8 : b = 8
  · subst g8; exact zp_count_8
  by_cases g9 : b = 9
  · subst g9; exact zp_count_9
  by_cases g10 : b = 10
  · subst g10; exact zp_count_10
  by_cases g11 : b = 11
  · subst g11; exact zp_count_11
  by_cases g12 : b = 12
  · subst g12; exact zp_count_12
  by_cases g13 : b = 13
  · subst g13; exact zp_count_13
  by_cases g14 : b = 14
  · subst g14; exact zp_count_14
  by_cases g15 : b = 15
  · subst g15; exact zp_count_15
  refine ⟨-2, fun K hK => ?_, fun m K hm hK => ?_⟩
  · unfold fX7_count fX0_number
    exact ⟨fun _ => ⟨fun _ => ⟨fun g => absurd g g0, fun _ => ⟨fun g => absurd g g1, fun _ => ⟨fun g => absurd g g2, fun _ => ⟨fun g => absurd g g3, fun _ => ⟨fun g => absurd g g4, fun _ => ⟨fun g => absurd g g5, fun _ => ⟨fun g => absurd g g6, fun _ => ⟨fun g => absurd g g7, fun _ => ⟨fun g => absurd g g8, fun _ => ⟨fun g => absurd g g9, fun _ => ⟨fun g => absurd g g10, fun _ => ⟨fun g => absurd g g11, fun _ => ⟨fun g => absurd g g12, fun _ => ⟨fun g => absurd g g13, fun _ => hK _ zFr0⟩⟩⟩⟩⟩⟩⟩⟩⟩⟩⟩⟩⟩⟩, fun g => absurd g g15⟩, fun g => absurd g g14⟩
  · show fX8_count 529 b m K
    unfold fX8_count
    exact ⟨fun g => absurd g g0, fun _ => ⟨fun g => absurd g g1, fun _ => ⟨fun g => absurd g g2, fun _ => ⟨fun g => absurd g g3, fun _ => ⟨fun g => absurd g g4, fun _ => ⟨fun g => absurd g g5, fun _ => ⟨fun g => absurd g g6, fun _ => ⟨fun g => absurd g g7, fun _ => ⟨fun g => absurd g g8, fun _ => ⟨fun g => absurd g g9, fun _ => ⟨fun g => absurd g g10, fun _ => ⟨fun g => absurd g g11, fun _ => ⟨fun g => absurd g g12, fun _ => ⟨fun g => absurd g g13, fun _ => ⟨fun g => absurd g g14, fun _ => ⟨fun g => absurd g g15, fun _ => hK m⟩⟩⟩⟩⟩⟩⟩⟩⟩⟩⟩⟩⟩⟩⟩⟩
