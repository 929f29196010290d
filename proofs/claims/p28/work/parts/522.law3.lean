/-! the law's look at orders -/
theorem zx_orders {n P D c : Nat} {μ : zMem} {K : Int32 → zMem → Prop} (hT : zT n P D c μ) (h : K 1 μ) : fL_areOrders 0 μ K := by
  have hV := hT.1
  have hP14 := hV.1.1
  have hc1 := hV.1.2.2.2.1
  obtain ⟨sp, hsp, esp⟩ := hV.2.1.1
  -- one dish, from its inner loop's end
  have dish : ∀ (k15 : Nat → Int32 → Int32 → Int32 → Int32 → Int32 → Int32 → zMem → Prop) (s3 s4 s5 s6 : Int32) (d : Nat), d < 3 → k15 0 1 (s3 + μ (47 + 2 * d) 3) (s4 + μ (47 + 2 * d) 4) (s5 + μ (47 + 2 * d) 5) (s6 + (μ (47 + 2 * d) 1 + μ (47 + 2 * d) 2)) (nI (d + 1)) μ →
      ∀ x68 : Int32, x68 = nI (zes μ d P) / (100 : Int32) → ∀ x69 : Int32, x69 = nI (zes μ d P) - nI (zes μ d P) / (100 : Int32) * (100 : Int32) →
      ((x69 ≤ 0 → fL_areOrders_144 k15 K 0 s3 s4 s5 s6 (nI d) (nI (zaw μ d P)) (0 : Int32) x68 μ) ∧ (¬ x69 ≤ 0 → fL_areOrders_144 k15 K 0 s3 s4 s5 s6 (nI d) (nI (zaw μ d P)) (1 : Int32) x68 μ)) := by
    intro k15 s3 s4 s5 s6 d hd hk x68 e68 x69 e69
    have hes := zes_le μ d P
    have hpl := zpl_le (d := d) hV
    obtain ⟨⟨k, r, h1, h2, ek, er, hr0⟩, e3, -⟩ := hV.2.2.2.1 d hd
    rw [show (100 : Int32) = nI 100 from rfl, pk_div (by omega) (by decide) (by decide)] at e68
    rw [show (100 : Int32) = nI 100 from rfl, pk_rem (by omega) (by decide) (by decide)] at e69
    have epl : zpl P μ d = (zes μ d P + 99) / 100 + sp - k := by
      unfold zpl
      rw [esp, ek, nI_clamp (by omega), nI_clamp (by omega)]
    -- behind the count of what would be cooked
    have l186 : ∀ x : Nat, x = zpl P μ d → fL_areOrders_186 k15 K 0 s3 s4 s5 s6 (nI d) (nI (zaw μ d P)) (nI k) (nI x) μ := by
      intro x hx
      have l335 : ∀ (t3 t4 t5 t6 : Int32), t3 = s3 + μ (47 + 2 * d) 3 → t4 = s4 + μ (47 + 2 * d) 4 → t5 = s5 + μ (47 + 2 * d) 5 → t6 = s6 + (nI k + μ (47 + 2 * d) 2) → fL_areOrders_335 k15 K 0 t3 t4 t5 t6 (nI d) μ := by
        intro t3 t4 t5 t6 q3 q4 q5 q6
        unfold fL_areOrders_335 fL_areOrders_340
        intro x12 e12
        rw [e12, nI_1, q3, q4, q5, q6, ← ek]
        exact hk
      unfold fL_areOrders_186
      refine zx_dish3 hV hd (fun x38 e38 => zx_dish4 hV hd (fun x41 e41 => zx_dish5 hV hd (fun x44 e44 => zx_dish1 hV hd (fun x47 e47 x48 e48 => zx_dish7 hV hd (zx_cnt2 hV ?_)))))
      have l258 : ∀ v10 v9 : Int32, v10 = v9 → fL_areOrders_258 k15 K 0 x38 x41 x44 x48 (nI d) (nI (zaw μ d P)) (nI k) v9 v10 μ := by
        intro v10 v9 ev
        have l5 := l335 x38 x41 x44 x48 e38 e41 e44 (by rw [e48, e47])
        unfold fL_areOrders_258
        refine ⟨fun z => absurd ev z, fun _ => zx_dish2 hV hd ⟨fun z => absurd rfl z, fun _ => zx_dish3 hV hd (zx_dish4 hV hd (zx_dish5 hV hd (fun x23 e23 x24 e24 => zx_dish1 hV hd (fun x27 e27 => ?_))))⟩⟩
        have e27' : x27 = μ (47 + 2 * d) 3 := by rw [e27, e24, e23, e3, ek]
        rw [e27']
        refine ⟨fun z => absurd rfl z, fun _ => zx_cnt2 hV (pk_eq c 1 (fun _ => l5) (fun hc => zx_dish1 hV hd ?_))⟩
        rw [er, hr0 (by omega)]
        exact ⟨fun z => absurd rfl z, fun _ => pk_lt 20 k (fun z => absurd z (by omega)) (fun _ => l5)⟩
      refine (pk_eq c 1 (fun hc => ?_) (fun hc => ?_)).symm
      · refine l258 _ _ ?_
        rw [if_neg (by omega)]
        rfl
      · refine l258 _ _ ?_
        rw [if_pos (by omega), hx]
    have l144 : ∀ b : Nat, (zes μ d P + 99) / 100 = zes μ d P / 100 + b → b ≤ 1 → fL_areOrders_144 k15 K 0 s3 s4 s5 s6 (nI d) (nI (zaw μ d P)) (nI b) x68 μ := by
      intro b hb hb1
      unfold fL_areOrders_144
      intro x54 e54
      rw [e68, nI_add, ← hb] at e54
      refine zx_dish0 hV hd ?_
      rw [ek]
      refine zx_cnt10 hV ?_
      rw [esp]
      intro x59 e59
      rw [e54, nI_add] at e59
      rw [e59]
      refine pk_le ((zes μ d P + 99) / 100 + sp) k (fun g => ?_) (fun g => zx_cnt10 hV ?_)
      · have := l186 0 (by omega)
        exact this
      · rw [esp]
        intro x63 e63 x64 e64
        rw [e54, nI_add] at e63
        rw [e63, pk_sub (by omega)] at e64
        rw [e64]
        exact l186 _ (by omega)
    rw [e69]
    exact pk_le (zes μ d P % 100) 0 (fun g => l144 0 (by omega) (by omega)) (fun g => l144 1 (by omega) (by omega))
  -- the inner loop
  have inner : ∀ (k15 : Nat → Int32 → Int32 → Int32 → Int32 → Int32 → Int32 → zMem → Prop) (s3 s4 s5 s6 : Int32) (d : Nat), d < 3 → k15 0 1 (s3 + μ (47 + 2 * d) 3) (s4 + μ (47 + 2 * d) 4) (s5 + μ (47 + 2 * d) 5) (s6 + (μ (47 + 2 * d) 1 + μ (47 + 2 * d) 2)) (nI (d + 1)) μ →
      ∀ (m i : Nat), i ≤ P → P - i < m → fL_areOrders_43 k15 K m 0 s3 s4 s5 s6 (nI d) (nI (zod P μ 0 d)) (nI (zes μ d i)) (nI (zaw μ d i)) (nI i) μ := by
    intro k15 s3 s4 s5 s6 d hd hk m
    induction m with
    | zero => intro i g1 g2; omega
    | succ m ih =>
      intro i g1 g2
      show fL_areOrders_43b k15 (fL_areOrders_43 k15 K m) K 0 s3 s4 s5 s6 (nI d) (nI (zod P μ 0 d)) (nI (zes μ d i)) (nI (zaw μ d i)) (nI i) μ
      unfold fL_areOrders_43b
      refine zx_cnt1 hV (pk_le P i (fun g => ?_) (fun hi x71 e71 x72 e72 => ?_))
      · have ei : i = P := by omega
        subst ei
        exact dish k15 s3 s4 s5 s6 d hd hk
      · have next := ih (i + 1) (by omega) (by omega)
        rw [e71] at e72
        unfold zod at e72
        rw [zn_mk hP14 (by omega)] at e72
        have hes := zes_le μ d i
        have bd := zdb_le hV hi
        by_cases b : μ (6 + 3 * i) 0 = nI d
        · rw [if_pos ⟨hi, by simp only [b, decide_true]⟩] at e72
          rw [e72]
          refine ⟨fun z => absurd rfl z, fun _ => ?_⟩
          unfold fL_areOrders_69
          refine ⟨fun z => absurd z (by decide), fun _ => zx_ldoubt hV hi (fun x11 e11 => ?_)⟩
          rw [show (100 : Int32) = nI 100 from rfl, pk_sub bd] at e11
          unfold fL_areOrders_91
          intro x3 e3
          rw [e11, nI_add] at e3
          refine ⟨fun z => absurd z (by decide), fun _ => zx_of7 hV hi ⟨fun g8 => ?_, fun g8 => ?_⟩⟩
          · unfold fL_areOrders_116 fL_areOrders_117
            intro x1 e1 x2 e2
            rw [show (0 : Int32) = nI 0 from rfl, nI_add, Nat.add_zero] at e1
            rw [nI_1] at e2
            rw [e1, e2, e3]
            unfold zes zaw at next
            rw [if_pos b, if_neg (fun z => g8 z.2)] at next
            exact next
          · unfold fL_areOrders_117
            intro x1 e1 x2 e2
            rw [nI_1] at e1 e2
            rw [e1, e2, e3]
            unfold zes zaw at next
            rw [if_pos b, if_pos ⟨b, g8⟩] at next
            exact next
        · rw [if_neg (fun z => by have := z.2; simp only [b, decide_false] at this; cases this)] at e72
          rw [e72]
          refine ⟨fun _ => ?_, fun z => absurd z (by decide)⟩
          unfold fL_areOrders_69
          refine ⟨fun _ => ?_, fun z => absurd rfl z⟩
          unfold fL_areOrders_91
          intro x3 e3
          rw [show (0 : Int32) = nI 0 from rfl, nI_add, Nat.add_zero] at e3
          refine ⟨fun _ => ?_, fun z => absurd rfl z⟩
          unfold fL_areOrders_116 fL_areOrders_117
          intro x1 e1 x2 e2
          rw [show (0 : Int32) = nI 0 from rfl, nI_add, Nat.add_zero] at e1
          rw [nI_1] at e2
          rw [e1, e2, e3]
          unfold zes zaw at next
          rw [if_neg b, if_neg (fun z => b z.1)] at next
          exact next
  -- the outer loop
  have st : ∀ (m d : Nat) (s3 s4 s5 s6 : Int32), d < 3 → fL_areOrders_15 K m 0 1 (s3 + μ (47 + 2 * d) 3) (s4 + μ (47 + 2 * d) 4) (s5 + μ (47 + 2 * d) 5) (s6 + (μ (47 + 2 * d) 1 + μ (47 + 2 * d) 2)) (nI (d + 1)) μ → fL_areOrders_15 K (m + 1) 0 1 s3 s4 s5 s6 (nI d) μ := by
    intro m d s3 s4 s5 s6 hd g
    show fL_areOrders_15b (fL_areOrders_15 K m) K 0 1 s3 s4 s5 s6 (nI d) μ
    unfold fL_areOrders_15b
    refine pk_le 3 d (fun z => absurd z (by omega)) (fun _ => ⟨fun z => absurd z (by decide), fun _ => zx_ordered (k := 0) hV (by decide) hd ?_⟩)
    exact inner (fL_areOrders_15 K m) s3 s4 s5 s6 d hd g zFU 0 (by omega) (by unfold zFU; omega)
  unfold fL_areOrders
  have e : zFU = (zFU - 4) + 4 := by decide
  rw [e]
  refine st _ 0 _ _ _ _ (by decide) (st _ 1 _ _ _ _ (by decide) (st _ 2 _ _ _ _ (by decide) ?_))
  show fL_areOrders_15b (fL_areOrders_15 K _) K 0 1 _ _ _ _ (nI 3) μ
  unfold fL_areOrders_15b fL_areOrders_347 fL_areOrders_395
  refine ⟨fun _ => ⟨fun z => absurd z (by decide), fun _ => zx_cnt3 hV ⟨fun z => absurd rfl z, fun _ => zx_cnt4 hV ⟨fun z => absurd rfl z, fun _ => zx_cnt5 hV ⟨fun z => absurd rfl z, fun _ => zx_cnt6 hV ⟨fun z => absurd rfl z, fun _ => ⟨z_b1, h⟩⟩⟩⟩⟩⟩, fun z => absurd (Int32.le_refl _) z⟩
