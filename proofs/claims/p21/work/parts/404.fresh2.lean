/-! one call on fresh objects: texts, saved states, the unsurest, the wasted -/
theorem zp_firstFault {K : Int32 → zMem → Prop} (h : ∀ m, zFr m → K 0 m) : fX3_firstFault 528 zM1 K := by
  unfold fX3_firstFault fX3_start
  intro m1 e1
  show fX3_firstFault_6b (fX3_firstFault_6 K 528 1999) K 528 0 m1
  unfold fX3_firstFault_6b
  refine ⟨fun c => absurd c (by decide), fun _ => ?_⟩
  have a1 : m1 528 1 = 0 := by rw [e1]; rfl
  have a2 : m1 526 1 = 0 := by rw [e1]; rfl
  unfold fX3_readOrder
  rw [a1]
  unfold fX4_at fX4_at_21 fX4_at_22
  rw [a2]
  refine ⟨fun c => absurd c (by decide), fun _ => ⟨fun _ => ?_, fun c => absurd (Int32.le_refl _) c⟩⟩
  intro m3 e3 m4 e4 m5 e5
  have b2 : m5 528 2 = 0 := by rw [e5, e4, e3]; rfl
  have b1 : m5 528 1 = 0 := by rw [e5, zu_same, z_upd_ne (by decide), e4, zu_same, z_upd_ne (by decide), e3, zu_same, z_upd_ne (by decide)]; exact a1
  rw [b2]
  refine ⟨fun c => absurd c (by decide), fun _ => ⟨fun c => absurd c (by decide), fun _ => ⟨fun c => absurd c (by decide), fun _ => ⟨fun c => absurd c (by decide), fun _ => ⟨fun c => absurd c (by decide), fun _ => ⟨fun c => absurd c (by decide), fun _ => ?_⟩⟩⟩⟩⟩⟩
  refine ⟨fun c => absurd rfl c, fun _ => ?_⟩
  rw [b1]
  exact h m5 (fun r hr => by rw [e5, zu_ne (by omega), e4, zu_ne (by omega), e3, zu_ne (by omega), e1, zu_ne (by omega)])
theorem zn_accepts {m : zMem} {c : Int32} {K : Int32 → zMem → Prop} (h7 : m 529 7 = 0) (h10 : m 529 10 = 0) (h : ∀ m2 : zMem, m2 529 7 = 0 → m2 529 10 = 0 → m2 529 9 = m 529 9 → K 0 m2) : fX8_accepts 529 c m K := by
  unfold fX8_accepts fX8_isSign fX8_isSign_41 fX8_isSign_42
  rw [h7, h10]
  refine ⟨fun _ => ⟨z_b0, ⟨fun _ => ?_, fun c => absurd rfl c⟩⟩, fun c => absurd (Int32.le_refl _) c⟩
  unfold fX8_accepts_21
  intro x1 e1 m2 e2
  refine ⟨z_b0, h m2 (by rw [e2, zu_same, z_upd_ne (by decide), h7]) (by rw [e2, zu_same, z_upd_same, e1, h10]; rfl) (by rw [e2, zu_same, z_upd_ne (by decide)])⟩
theorem zn_faultOf {m : zMem} {K : Int32 → zMem → Prop} (hm : zFr m) (h : ∀ m2, K 0 m2) : fX8_faultOf 529 m K := by
  unfold fX8_faultOf
  intro m10 e10 m11 e11
  have a7 : m11 529 7 = 0 := by rw [e11, zu_same, z_upd_ne (by decide), e10, zu_same, z_upd_ne (by decide), hm 529 (by omega)]; rfl
  have a10 : m11 529 10 = 0 := by rw [e11, zu_same, z_upd_ne (by decide), e10, zu_same, z_upd_same]
  have a9 : m11 529 9 = 0 := by rw [e11, zu_same, z_upd_same]
  unfold fX8_readsOrder
  intro x60 e60
  rw [a9] at e60
  have e60 : x60 = 0 := e60
  subst e60
  rw [a7, a10]
  refine ⟨fun _ => ?_, fun c => absurd (Int32.le_refl _) c⟩
  unfold fX8_readsOrder_36
  refine ⟨by unfold vp_in; decide, fun m7 e7 x8 e8 => ?_⟩
  have e8 : x8 = 2 := e8
  subst e8
  refine ⟨by unfold vp_in; decide, fun m12 e12 x11 e11b => ?_⟩
  have e11b : x11 = 3 := e11b
  subst e11b
  refine ⟨by unfold vp_in; decide, fun m13 e13 => ?_⟩
  have hh : ∀ k, m13 529 k = m11 529 k := fun k => by rw [e13, zu_ne (by decide), e12, zu_ne (by decide), e7, zu_ne (by decide)]
  refine zn_accepts (by rw [hh, a7]) (by rw [hh, a10]) (fun n1 b7 b10 b9 => ⟨fun _ => ?_, fun c => absurd rfl c⟩)
  refine zn_accepts b7 b10 (fun n2 b7 b10 b9 => ⟨fun _ => ?_, fun c => absurd rfl c⟩)
  refine zn_accepts b7 b10 (fun n3 b7 b10 b9 => ⟨fun _ => ?_, fun c => absurd rfl c⟩)
  refine zn_accepts b7 b10 (fun n4 b7 b10 b9 => ⟨fun c => absurd rfl c, fun _ => ?_⟩)
  refine zn_accepts b7 b10 (fun n5 b7 b10 b9 => ⟨fun c => absurd rfl c, fun _ => ?_⟩)
  refine zn_accepts b7 b10 (fun n6 b7 b10 b9 => ⟨fun _ => ?_, fun c => absurd rfl c⟩)
  unfold fX8_readsOrder_236 fX8_readsOrder_237
  refine ⟨fun _ => ?_, fun c => absurd rfl c⟩
  unfold fX8_readsOrder_251
  intro x1 e1 m2 e2
  refine ⟨z_b0, ?_⟩
  show fX8_faultOf_15b (fX8_faultOf_15 K 529 1999) K 529 0 m2
  unfold fX8_faultOf_15b fX8_faultOf_55 fX8_faultOf_67
  refine ⟨fun _ => ⟨fun _ => ?_, fun c => absurd rfl c⟩, fun c => absurd rfl c⟩
  rw [show m2 529 10 = 0 by rw [e2, zu_same, z_upd_ne (by decide), b10]]
  exact h m2
theorem zp_fault : ∃ r, zC (fX7_fault 0 zM1) r ∧ zR (fun m K => fX8_fault 529 m K) r := by
  refine ⟨0, fun K hK => ?_, fun m K hm hK => ?_⟩
  · unfold fX7_fault
    exact zp_firstFault hK
  · show fX8_fault 529 m K
    unfold fX8_fault fX8_fault_15
    exact zn_faultOf hm (fun m2 => ⟨fun _ => hK m2, fun c => absurd (by decide) c⟩)
theorem zp_carryOut : ∃ r, zC (fX7_carryOut 0 zM1) r ∧ zR (fun m K => fX8_carryOut 529 m K) r := by
  refine ⟨-3, fun K hK => ?_, fun m K hm hK => ?_⟩
  · unfold fX7_carryOut
    exact zp_firstFault (fun m hm => ⟨fun c => absurd c (by decide), fun _ => hK m hm⟩)
  · show fX8_carryOut 529 m K
    unfold fX8_carryOut
    exact zn_faultOf hm (fun m2 => ⟨fun c => absurd c (by decide), fun _ => hK m2⟩)
/-- a slot's number -/
theorem zi_2 (a : Int32) : a < 0 ∨ (¬ a < 0 ∧ ¬ a < 2) ∨ ∃ j, j < 2 ∧ a = nI j := by
  rcases pk_ix a (n := 2) (by decide) with c | c | c
  · exact Or.inl c
  · by_cases h : a < 0
    · exact Or.inl h
    · exact Or.inr (Or.inl ⟨h, Int32.not_lt.mpr c⟩)
  · exact Or.inr (Or.inr c)
theorem zs_save {m : zMem} {j : Nat} (hj : j < 2) {K : Int32 → zMem → Prop} (h : ∀ m2 : zMem, m2 530 = m 530 → K (m 530 5) m2) : fX8_save_14 K 529 zFU (nI j) 0 m := by
  have L : ∀ (n i : Nat) (m2 : zMem), i ≤ 276 → 276 - i < n → m2 530 = m 530 → fX8_save_14 K 529 n (nI j) (nI i) m2 := by
    intro n
    induction n with
    | zero => intro i m2 h1 h2; omega
    | succ n ih =>
      intro i m2 h1 h2 hf
      show fX8_save_14b (fX8_save_14 K 529 n) K 529 (nI j) (nI i) m2
      unfold fX8_save_14b
      refine ⟨fun c => ⟨vp_in_nI hj (by decide), fun m3 e3 x4 e4 => ?_⟩, fun c => ?_⟩
      · have h5 : m3 530 = m 530 := by rw [e3, zu_ne (by decide), hf]
        rw [e4, h5]
        exact h m3 h5
      · have h3 : i < 276 := Nat.lt_of_not_le (fun g => c ((nI_leI (a := 276) (b := i) (by omega) (by omega)).mpr g))
        intro x5 e5 x6 e6
        have e6 : x6 = nI (276 * j + i) := by rw [e6, e5, show (276 : Int32) = nI 276 from rfl, pk_mul, nI_add]
        refine ⟨vp_in_nI h3 (by decide), fun x8 e8 => ⟨by rw [e6]; exact vp_in_nI (by omega) (by decide), fun m10 e10 x11 e11 => ?_⟩⟩
        rw [e11, show nI i + (1 : Int32) = nI (i + 1) from nI_1 i]
        exact ih (i + 1) m10 (by omega) (by omega) (by rw [e10, zu_ne (by decide), hf])
  exact L zFU 0 m (by omega) (by unfold zFU; omega) rfl
theorem zp_save (a : Int32) : ∃ r, zC (fX7_save 0 a zM1) r ∧ zR (fun m K => fX8_save 529 a m K) r := by
  rcases zi_2 a with c | ⟨c1, c2⟩ | ⟨j, hj, rfl⟩
  · refine ⟨-2, fun K hK => ?_, fun m K hm hK => ?_⟩
    · unfold fX7_save fX6_store fX6_store_9
      exact ⟨fun _ => hK _ zFr0, fun g => absurd c g⟩
    · show fX8_save 529 a m K
      unfold fX8_save
      exact zs_in (fun g _ => absurd c (Int32.not_lt.mpr g)) (fun _ => ⟨fun g => absurd rfl g, fun _ => hK m⟩)
  · refine ⟨-2, fun K hK => ?_, fun m K hm hK => ?_⟩
    · unfold fX7_save fX6_store fX6_store_9
      exact ⟨fun g => absurd g c1, fun _ => ⟨fun g => absurd g c2, fun _ => hK _ zFr0⟩⟩
    · show fX8_save 529 a m K
      unfold fX8_save
      refine zs_in (fun _ g => ?_) (fun _ => ⟨fun g => absurd rfl g, fun _ => hK m⟩)
      exact absurd (show a < 2 from Int32.lt_iff_toInt_lt.mpr (by have := Int32.le_iff_toInt_le.mp g; rw [show (1 : Int32).toInt = 1 from rfl] at this; rw [show (2 : Int32).toInt = 2 from rfl]; omega)) c2
  · refine ⟨0, fun K hK => ?_, fun m K hm hK => ?_⟩
    · unfold fX7_save fX6_store
      refine ⟨fun g => absurd g (nI_pos (by omega)), fun _ => ⟨fun _ => ⟨vp_in_nI hj (by decide), fun q4 e4 => ?_⟩, fun g => absurd ((nI_ltI (b := 2) (by omega) (by decide)).mpr hj) g⟩⟩
      rw [nI_clamp (by omega)] at e4
      have e4 : q4 = 422 + 52 * j := by omega
      subst e4
      refine zs_X0_become (by omega) zp_I (fun m1 hf _ => ⟨vp_in_nI hj (by decide), fun m8 e8 => ?_⟩)
      have h1 : m8 1 3 = 0 := by rw [e8, zu_ne (by decide), hf 1 (by omega)]; rfl
      rw [h1]
      exact hK m8 (fun r hr => by rw [e8, zu_ne (by omega), hf r (by omega)])
    · show fX8_save 529 (nI j) m K
      unfold fX8_save
      refine zs_in (fun _ _ => ⟨fun _ => ?_, fun g => absurd g (by decide)⟩) (fun g => absurd ⟨nI_pos' (by omega), (nI_leI (b := 1) (by omega) (by decide)).mpr (by omega)⟩ g)
      refine zs_save hj (fun m2 h2 => ?_)
      rw [show m 530 5 = 0 by rw [hm 530 (by omega)]; rfl]
      exact hK m2
theorem zp_restore (a : Int32) : ∃ r, zC (fX7_restore 0 a zM1) r ∧ zR (fun m K => fX8_restore 529 a m K) r := by
  rcases zi_2 a with c | ⟨c1, c2⟩ | ⟨j, hj, rfl⟩
  · refine ⟨-2, fun K hK => ?_, fun m K hm hK => ?_⟩
    · unfold fX7_restore
      refine zp_note (fun m hn => ?_)
      unfold fX6_fetch fX6_fetch_9
      exact ⟨fun _ => zp_keep (zNo_53 hn) (zNo_Fr hn) hK, fun g => absurd c g⟩
    · show fX8_restore 529 a m K
      unfold fX8_restore
      exact zs_in (fun g _ => absurd c (Int32.not_lt.mpr g)) (fun _ => ⟨fun g => absurd rfl g, fun _ => hK m⟩)
  · refine ⟨-2, fun K hK => ?_, fun m K hm hK => ?_⟩
    · unfold fX7_restore
      refine zp_note (fun m hn => ?_)
      unfold fX6_fetch fX6_fetch_9
      exact ⟨fun g => absurd g c1, fun _ => ⟨fun g => absurd g c2, fun _ => zp_keep (zNo_53 hn) (zNo_Fr hn) hK⟩⟩
    · show fX8_restore 529 a m K
      unfold fX8_restore
      refine zs_in (fun _ g => ?_) (fun _ => ⟨fun g => absurd rfl g, fun _ => hK m⟩)
      exact absurd (show a < 2 from Int32.lt_iff_toInt_lt.mpr (by have := Int32.le_iff_toInt_le.mp g; rw [show (1 : Int32).toInt = 1 from rfl] at this; rw [show (2 : Int32).toInt = 2 from rfl]; omega)) c2
  · refine ⟨-5, fun K hK => ?_, fun m K hm hK => ?_⟩
    · unfold fX7_restore
      refine zp_note (fun m hn => ?_)
      unfold fX6_fetch
      refine ⟨fun g => absurd g (nI_pos (by omega)), fun _ => ⟨fun _ => ⟨vp_in_nI hj (by decide), fun x4 e4 => ?_⟩, fun g => absurd ((nI_ltI (b := 2) (by omega) (by decide)).mpr hj) g⟩⟩
      have e4 : x4 = 0 := by
        rw [e4, hn (419 + 2) (by omega)]
        rfl
      exact ⟨fun g => absurd e4 g, fun _ => zp_keep (zNo_53 hn) (zNo_Fr hn) hK⟩
    · show fX8_restore 529 (nI j) m K
      unfold fX8_restore
      refine zs_in (fun _ _ => ⟨fun _ => ⟨vp_in_nI hj (by decide), fun x16 e16 => ?_⟩, fun g => absurd g (by decide)⟩) (fun g => absurd ⟨nI_pos' (by omega), (nI_leI (b := 1) (by omega) (by decide)).mpr (by omega)⟩ g)
      have e16 : x16 = 0 := by rw [e16, hm 534 (by omega)]; rfl
      exact ⟨fun g => absurd e16 g, fun _ => hK m⟩
theorem zp_unsurest (a : Int32) : ∃ r, zC (fX7_unsurest 0 a zM1) r ∧ zR (fun m K => fX8_unsurest 529 a m K) r := by
  have hC : ∀ (K : Int32 → zMem → Prop) (v : Int32), (∀ m, zFr m → K (-6) m) → fX0_greatestDoubt_12 K 1 v zM1 := by
    intro K v hK
    unfold fX0_greatestDoubt_12
    show fX0_greatestDoubt_17b (fX0_greatestDoubt_17 K 1 1999) K 1 v (-6) 0 zM1
    unfold fX0_greatestDoubt_17b
    exact ⟨fun _ => ⟨fun g => absurd g (by decide), fun _ => hK _ zFr0⟩, fun g => absurd (Int32.le_refl _) g⟩
  by_cases h : a = 0 ∨ a = 1
  · refine ⟨-6, fun K hK => ?_, fun m K hm hK => ?_⟩
    · unfold fX7_unsurest fX0_greatestDoubt
      rcases h with h | h
      · exact ⟨fun _ => hC K a hK, fun g => absurd h g⟩
      · exact ⟨fun _ => hC K a hK, fun _ => ⟨fun _ => hC K a hK, fun g => absurd h g⟩⟩
    · show fX8_unsurest 529 a m K
      unfold fX8_unsurest
      refine zs_in (fun _ _ => ⟨fun _ => ?_, fun g => absurd g (by decide)⟩) (fun g => absurd (by rcases h with rfl | rfl <;> decide) g)
      show fX8_unsurest_20b (fX8_unsurest_20 K 529 1999) K 529 a (-6) 0 0 m
      unfold fX8_unsurest_20b fX8_unsurest_129 fX8_unsurest_138
      intro x4 e4
      rw [zFr_P hm] at e4
      exact ⟨fun _ => ⟨fun _ => hK m, fun g => absurd rfl g⟩, fun g => absurd (by rw [e4]; decide) g⟩
  · refine ⟨-2, fun K hK => ?_, fun m K hm hK => ?_⟩
    · unfold fX7_unsurest fX0_greatestDoubt
      exact ⟨fun g => absurd (Or.inl g) h, fun _ => ⟨fun g => absurd (Or.inr g) h, fun _ => hK _ zFr0⟩⟩
    · show fX8_unsurest 529 a m K
      unfold fX8_unsurest
      refine zs_in (fun g1 g2 => ?_) (fun _ => ⟨fun g => absurd rfl g, fun _ => hK m⟩)
      exfalso
      rcases zi_2 a with c | ⟨c1, c2⟩ | ⟨j, hj, rfl⟩
      · exact Int32.not_lt.mpr g1 c
      · exact c2 (Int32.lt_iff_toInt_lt.mpr (by have := Int32.le_iff_toInt_le.mp g2; rw [show (1 : Int32).toInt = 1 from rfl] at this; rw [show (2 : Int32).toInt = 2 from rfl]; omega))
      · rcases (show j = 0 ∨ j = 1 by omega) with rfl | rfl
        · exact h (Or.inl rfl)
        · exact h (Or.inr rfl)
