/-! X8_count X8_why X8_unsurest X8_firstOrder X8_wasted X8_isSign X8_accepts -/
def fX8_count (q : Nat) (a1 : Int32) (μ : zMem) (K : Int32 → zMem → Prop) : Prop :=
  ((a1 = (0 : Int32) → (∀ x2 : Int32, x2 = ((4 : Int32) + a1) → (vp_in x2 276 ∧ (∀ x4 : Int32, x4 = (μ 530 x2.toNatClampNeg) → K x4 μ)))) ∧ (¬ a1 = (0 : Int32) → ((a1 = (1 : Int32) → (∀ x6 : Int32, x6 = ((4 : Int32) + a1) → (vp_in x6 276 ∧ (∀ x8 : Int32, x8 = (μ 530 x6.toNatClampNeg) → K x8 μ)))) ∧ (¬ a1 = (1 : Int32) → ((a1 = (2 : Int32) → (∀ x10 : Int32, x10 = ((4 : Int32) + a1) → (vp_in x10 276 ∧ (∀ x12 : Int32, x12 = (μ 530 x10.toNatClampNeg) → K x12 μ)))) ∧ (¬ a1 = (2 : Int32) → ((a1 = (3 : Int32) → fX8_ofDishes q a1 μ (fun r14 m15 => K r14 m15)) ∧ (¬ a1 = (3 : Int32) → ((a1 = (4 : Int32) → fX8_ofDishes q a1 μ (fun r17 m18 => K r17 m18)) ∧ (¬ a1 = (4 : Int32) → ((a1 = (5 : Int32) → fX8_ofDishes q a1 μ (fun r20 m21 => K r20 m21)) ∧ (¬ a1 = (5 : Int32) → ((a1 = (6 : Int32) → fX8_ofDishes q a1 μ (fun r23 m24 => K r23 m24)) ∧ (¬ a1 = (6 : Int32) → ((a1 = (7 : Int32) → fX8_ofPeople q a1 μ (fun r26 m27 => K r26 m27)) ∧ (¬ a1 = (7 : Int32) → ((a1 = (8 : Int32) → fX8_ofPeople q a1 μ (fun r29 m30 => K r29 m30)) ∧ (¬ a1 = (8 : Int32) → ((a1 = (9 : Int32) → (∀ x32 : Int32, x32 = (μ 530 7) → K x32 μ)) ∧ (¬ a1 = (9 : Int32) → ((a1 = (10 : Int32) → (∀ x34 : Int32, x34 = (a1 - (10 : Int32)) → (vp_in x34 276 ∧ (∀ x36 : Int32, x36 = (μ 530 x34.toNatClampNeg) → K x36 μ)))) ∧ (¬ a1 = (10 : Int32) → ((a1 = (11 : Int32) → (∀ x38 : Int32, x38 = (a1 - (10 : Int32)) → (vp_in x38 276 ∧ (∀ x40 : Int32, x40 = (μ 530 x38.toNatClampNeg) → K x40 μ)))) ∧ (¬ a1 = (11 : Int32) → ((a1 = (12 : Int32) → (∀ x42 : Int32, x42 = (a1 - (10 : Int32)) → (vp_in x42 276 ∧ (∀ x44 : Int32, x44 = (μ 530 x42.toNatClampNeg) → K x44 μ)))) ∧ (¬ a1 = (12 : Int32) → ((a1 = (13 : Int32) → (∀ x46 : Int32, x46 = (a1 - (10 : Int32)) → (vp_in x46 276 ∧ (∀ x48 : Int32, x48 = (μ 530 x46.toNatClampNeg) → K x48 μ)))) ∧ (¬ a1 = (13 : Int32) → ((a1 = (14 : Int32) → K (μ q 7) μ) ∧ (¬ a1 = (14 : Int32) → ((a1 = (15 : Int32) → K (μ q 8) μ) ∧ (¬ a1 = (15 : Int32) → K (-2 : Int32) μ))))))))))))))))))))))))))))))))
set_option maxRecDepth 100000 in
set_option maxHeartbeats 4000000 in
theorem ctX8_count (l : Launch) (G : zG) {q : Nat} (hq : z_is q 8) (a1 : Int32)  (μ : zMem) (K : Int32 → zMem → Prop) (hf : fX8_count q a1 μ K) : z_Met l G yX8_count cX8_count 2 (some .int) (z_rm 3 64) [.ref (G.2.2 + q), .int a1] μ K := by
  refine z_body (by decide) (Nat.le_of_ble_eq_true rfl) (fun p e s m args below meth c o => ?_)
  have o : za_Ok (z_rm 3 64) 0 0 p s m args meth c G RX8 cX8_count 2 (some .int) := o
  show za_At p l e (z_rm 3 64) s m args below meth c (MQ below (zQi G K) args s 0 0 (zA G)) G 2 0 0 0 [(0, .ref (G.2.2 + q)), (1, .int a1)] [] μ
  unfold fX8_count at hf
  refine za_iload_n o 1 dX8_count_0 rfl rfl ?_
  by_cases c1 : a1 = (0 : Int32)
  · replace hf := hf.1 c1
    refine za_tswE o 80 c1 dX8_count_1 (by decide) (by decide) rfl (by decide) ?_
    refine za_aload_n o 0 dX8_count_80 rfl rfl ?_
    refine za_getf o 0 zc8 hq (Nat.le_of_ble_eq_true rfl) wfX8_7 rfl dX8_count_81 ?_
    refine za_iconst (v := (4 : Int32)) o dX8_count_84 (by decide) ?_
    refine za_iload_n o 1 dX8_count_85 rfl rfl ?_
    refine za_iadd o dX8_count_86 ?_
    refine za_topi (fun x2 ex2 => ?_)
    replace hf := hf x2 ex2
    obtain ⟨g3, hf⟩ := hf
    refine za_iald o zk_m0 rfl g3 dX8_count_87 ?_
    refine za_topi (fun x4 ex4 => ?_)
    replace hf := hf x4 ex4
    exact za_iret o rfl hf dX8_count_88
  · replace hf := hf.2 c1
    by_cases c5 : a1 = (1 : Int32)
    · replace hf := hf.1 c5
      refine za_tswE o 80 c5 dX8_count_1 (by decide) (by decide) rfl (by decide) ?_
      refine za_aload_n o 0 dX8_count_80 rfl rfl ?_
      refine za_getf o 0 zc8 hq (Nat.le_of_ble_eq_true rfl) wfX8_7 rfl dX8_count_81 ?_
      refine za_iconst (v := (4 : Int32)) o dX8_count_84 (by decide) ?_
      refine za_iload_n o 1 dX8_count_85 rfl rfl ?_
      refine za_iadd o dX8_count_86 ?_
      refine za_topi (fun x6 ex6 => ?_)
      replace hf := hf x6 ex6
      obtain ⟨g7, hf⟩ := hf
      refine za_iald o zk_m0 rfl g7 dX8_count_87 ?_
      refine za_topi (fun x8 ex8 => ?_)
      replace hf := hf x8 ex8
      exact za_iret o rfl hf dX8_count_88
    · replace hf := hf.2 c5
      by_cases c9 : a1 = (2 : Int32)
      · replace hf := hf.1 c9
        refine za_tswE o 80 c9 dX8_count_1 (by decide) (by decide) rfl (by decide) ?_
        refine za_aload_n o 0 dX8_count_80 rfl rfl ?_
        refine za_getf o 0 zc8 hq (Nat.le_of_ble_eq_true rfl) wfX8_7 rfl dX8_count_81 ?_
        refine za_iconst (v := (4 : Int32)) o dX8_count_84 (by decide) ?_
        refine za_iload_n o 1 dX8_count_85 rfl rfl ?_
        refine za_iadd o dX8_count_86 ?_
        refine za_topi (fun x10 ex10 => ?_)
        replace hf := hf x10 ex10
        obtain ⟨g11, hf⟩ := hf
        refine za_iald o zk_m0 rfl g11 dX8_count_87 ?_
        refine za_topi (fun x12 ex12 => ?_)
        replace hf := hf x12 ex12
        exact za_iret o rfl hf dX8_count_88
      · replace hf := hf.2 c9
        by_cases c13 : a1 = (3 : Int32)
        · replace hf := hf.1 c13
          refine za_tswE o 89 c13 dX8_count_1 (by decide) (by decide) rfl (by decide) ?_
          refine za_aload_n o 0 dX8_count_89 rfl rfl ?_
          refine za_iload_n o 1 dX8_count_90 rfl rfl ?_
          refine za_callVi o [.int a1] (ctX8_ofDishes l G hq a1  μ _ hf) zc8 hq mwX8_ofDishes wmX8_119 wiX8_ofDishes wsX8_ofDishes rfl ⟨Nat.le_of_ble_eq_true rfl, Nat.le_of_ble_eq_true rfl⟩ rfl (Nat.le_of_ble_eq_true rfl) dX8_count_91 (fun r14 m15 hf => ?_)
          exact za_iret o rfl hf dX8_count_94
        · replace hf := hf.2 c13
          by_cases c16 : a1 = (4 : Int32)
          · replace hf := hf.1 c16
            refine za_tswE o 89 c16 dX8_count_1 (by decide) (by decide) rfl (by decide) ?_
            refine za_aload_n o 0 dX8_count_89 rfl rfl ?_
            refine za_iload_n o 1 dX8_count_90 rfl rfl ?_
            refine za_callVi o [.int a1] (ctX8_ofDishes l G hq a1  μ _ hf) zc8 hq mwX8_ofDishes wmX8_119 wiX8_ofDishes wsX8_ofDishes rfl ⟨Nat.le_of_ble_eq_true rfl, Nat.le_of_ble_eq_true rfl⟩ rfl (Nat.le_of_ble_eq_true rfl) dX8_count_91 (fun r17 m18 hf => ?_)
            exact za_iret o rfl hf dX8_count_94
          · replace hf := hf.2 c16
            by_cases c19 : a1 = (5 : Int32)
            · replace hf := hf.1 c19
              refine za_tswE o 89 c19 dX8_count_1 (by decide) (by decide) rfl (by decide) ?_
              refine za_aload_n o 0 dX8_count_89 rfl rfl ?_
              refine za_iload_n o 1 dX8_count_90 rfl rfl ?_
              refine za_callVi o [.int a1] (ctX8_ofDishes l G hq a1  μ _ hf) zc8 hq mwX8_ofDishes wmX8_119 wiX8_ofDishes wsX8_ofDishes rfl ⟨Nat.le_of_ble_eq_true rfl, Nat.le_of_ble_eq_true rfl⟩ rfl (Nat.le_of_ble_eq_true rfl) dX8_count_91 (fun r20 m21 hf => ?_)
              exact za_iret o rfl hf dX8_count_94
            · replace hf := hf.2 c19
              by_cases c22 : a1 = (6 : Int32)
              · replace hf := hf.1 c22
                refine za_tswE o 89 c22 dX8_count_1 (by decide) (by decide) rfl (by decide) ?_
                refine za_aload_n o 0 dX8_count_89 rfl rfl ?_
                refine za_iload_n o 1 dX8_count_90 rfl rfl ?_
                refine za_callVi o [.int a1] (ctX8_ofDishes l G hq a1  μ _ hf) zc8 hq mwX8_ofDishes wmX8_119 wiX8_ofDishes wsX8_ofDishes rfl ⟨Nat.le_of_ble_eq_true rfl, Nat.le_of_ble_eq_true rfl⟩ rfl (Nat.le_of_ble_eq_true rfl) dX8_count_91 (fun r23 m24 hf => ?_)
                exact za_iret o rfl hf dX8_count_94
              · replace hf := hf.2 c22
                by_cases c25 : a1 = (7 : Int32)
                · replace hf := hf.1 c25
                  refine za_tswE o 95 c25 dX8_count_1 (by decide) (by decide) rfl (by decide) ?_
                  refine za_aload_n o 0 dX8_count_95 rfl rfl ?_
                  refine za_iload_n o 1 dX8_count_96 rfl rfl ?_
                  refine za_callVi o [.int a1] (ctX8_ofPeople l G hq a1  μ _ hf) zc8 hq mwX8_ofPeople wmX8_122 wiX8_ofPeople wsX8_ofPeople rfl ⟨Nat.le_of_ble_eq_true rfl, Nat.le_of_ble_eq_true rfl⟩ rfl (Nat.le_of_ble_eq_true rfl) dX8_count_97 (fun r26 m27 hf => ?_)
                  exact za_iret o rfl hf dX8_count_100
                · replace hf := hf.2 c25
                  by_cases c28 : a1 = (8 : Int32)
                  · replace hf := hf.1 c28
                    refine za_tswE o 95 c28 dX8_count_1 (by decide) (by decide) rfl (by decide) ?_
                    refine za_aload_n o 0 dX8_count_95 rfl rfl ?_
                    refine za_iload_n o 1 dX8_count_96 rfl rfl ?_
                    refine za_callVi o [.int a1] (ctX8_ofPeople l G hq a1  μ _ hf) zc8 hq mwX8_ofPeople wmX8_122 wiX8_ofPeople wsX8_ofPeople rfl ⟨Nat.le_of_ble_eq_true rfl, Nat.le_of_ble_eq_true rfl⟩ rfl (Nat.le_of_ble_eq_true rfl) dX8_count_97 (fun r29 m30 hf => ?_)
                    exact za_iret o rfl hf dX8_count_100
                  · replace hf := hf.2 c28
                    by_cases c31 : a1 = (9 : Int32)
                    · replace hf := hf.1 c31
                      refine za_tswE o 101 c31 dX8_count_1 (by decide) (by decide) rfl (by decide) ?_
                      refine za_aload_n o 0 dX8_count_101 rfl rfl ?_
                      refine za_getf o 0 zc8 hq (Nat.le_of_ble_eq_true rfl) wfX8_7 rfl dX8_count_102 ?_
                      refine za_bipush (v := (7 : Int32)) o dX8_count_105 (by decide) ?_
                      refine za_iald o zk_m0 rfl (by unfold vp_in; decide) dX8_count_107 ?_
                      refine za_topi (fun x32 ex32 => ?_)
                      replace hf := hf x32 ex32
                      exact za_iret o rfl hf dX8_count_108
                    · replace hf := hf.2 c31
                      by_cases c33 : a1 = (10 : Int32)
                      · replace hf := hf.1 c33
                        refine za_tswE o 109 c33 dX8_count_1 (by decide) (by decide) rfl (by decide) ?_
                        refine za_aload_n o 0 dX8_count_109 rfl rfl ?_
                        refine za_getf o 0 zc8 hq (Nat.le_of_ble_eq_true rfl) wfX8_7 rfl dX8_count_110 ?_
                        refine za_iload_n o 1 dX8_count_113 rfl rfl ?_
                        refine za_bipush (v := (10 : Int32)) o dX8_count_114 (by decide) ?_
                        refine za_isub o dX8_count_116 ?_
                        refine za_topi (fun x34 ex34 => ?_)
                        replace hf := hf x34 ex34
                        obtain ⟨g35, hf⟩ := hf
                        refine za_iald o zk_m0 rfl g35 dX8_count_117 ?_
                        refine za_topi (fun x36 ex36 => ?_)
                        replace hf := hf x36 ex36
                        exact za_iret o rfl hf dX8_count_118
                      · replace hf := hf.2 c33
                        by_cases c37 : a1 = (11 : Int32)
                        · replace hf := hf.1 c37
                          refine za_tswE o 109 c37 dX8_count_1 (by decide) (by decide) rfl (by decide) ?_
                          refine za_aload_n o 0 dX8_count_109 rfl rfl ?_
                          refine za_getf o 0 zc8 hq (Nat.le_of_ble_eq_true rfl) wfX8_7 rfl dX8_count_110 ?_
                          refine za_iload_n o 1 dX8_count_113 rfl rfl ?_
                          refine za_bipush (v := (10 : Int32)) o dX8_count_114 (by decide) ?_
                          refine za_isub o dX8_count_116 ?_
                          refine za_topi (fun x38 ex38 => ?_)
                          replace hf := hf x38 ex38
                          obtain ⟨g39, hf⟩ := hf
                          refine za_iald o zk_m0 rfl g39 dX8_count_117 ?_
                          refine za_topi (fun x40 ex40 => ?_)
                          replace hf := hf x40 ex40
                          exact za_iret o rfl hf dX8_count_118
                        · replace hf := hf.2 c37
                          by_cases c41 : a1 = (12 : Int32)
                          · replace hf := hf.1 c41
                            refine za_tswE o 109 c41 dX8_count_1 (by decide) (by decide) rfl (by decide) ?_
                            refine za_aload_n o 0 dX8_count_109 rfl rfl ?_
                            refine za_getf o 0 zc8 hq (Nat.le_of_ble_eq_true rfl) wfX8_7 rfl dX8_count_110 ?_
                            refine za_iload_n o 1 dX8_count_113 rfl rfl ?_
                            refine za_bipush (v := (10 : Int32)) o dX8_count_114 (by decide) ?_
                            refine za_isub o dX8_count_116 ?_
                            refine za_topi (fun x42 ex42 => ?_)
                            replace hf := hf x42 ex42
                            obtain ⟨g43, hf⟩ := hf
                            refine za_iald o zk_m0 rfl g43 dX8_count_117 ?_
                            refine za_topi (fun x44 ex44 => ?_)
                            replace hf := hf x44 ex44
                            exact za_iret o rfl hf dX8_count_118
                          · replace hf := hf.2 c41
                            by_cases c45 : a1 = (13 : Int32)
                            · replace hf := hf.1 c45
                              refine za_tswE o 109 c45 dX8_count_1 (by decide) (by decide) rfl (by decide) ?_
                              refine za_aload_n o 0 dX8_count_109 rfl rfl ?_
                              refine za_getf o 0 zc8 hq (Nat.le_of_ble_eq_true rfl) wfX8_7 rfl dX8_count_110 ?_
                              refine za_iload_n o 1 dX8_count_113 rfl rfl ?_
                              refine za_bipush (v := (10 : Int32)) o dX8_count_114 (by decide) ?_
                              refine za_isub o dX8_count_116 ?_
                              refine za_topi (fun x46 ex46 => ?_)
                              replace hf := hf x46 ex46
                              obtain ⟨g47, hf⟩ := hf
                              refine za_iald o zk_m0 rfl g47 dX8_count_117 ?_
                              refine za_topi (fun x48 ex48 => ?_)
                              replace hf := hf x48 ex48
                              exact za_iret o rfl hf dX8_count_118
                            · replace hf := hf.2 c45
                              by_cases c49 : a1 = (14 : Int32)
                              · replace hf := hf.1 c49
                                refine za_tswE o 119 c49 dX8_count_1 (by decide) (by decide) rfl (by decide) ?_
                                refine za_aload_n o 0 dX8_count_119 rfl rfl ?_
                                refine za_getf o 7 zc8 hq (Nat.le_of_ble_eq_true rfl) wfX8_125 rfl dX8_count_120 ?_
                                exact za_iret o rfl hf dX8_count_123
                              · replace hf := hf.2 c49
                                by_cases c50 : a1 = (15 : Int32)
                                · replace hf := hf.1 c50
                                  refine za_tswE o 124 c50 dX8_count_1 (by decide) (by decide) rfl (by decide) ?_
                                  refine za_aload_n o 0 dX8_count_124 rfl rfl ?_
                                  refine za_getf o 8 zc8 hq (Nat.le_of_ble_eq_true rfl) wfX8_37 rfl dX8_count_125 ?_
                                  exact za_iret o rfl hf dX8_count_128
                                · replace hf := hf.2 c50
                                  refine za_tswD o 129 dX8_count_1 (fun z1 z2 => ?_) (by decide) ?_
                                  · have z1 := Int.not_lt.mp z1
                                    have z2 := Int.not_lt.mp z2
                                    have z3 : (a1).toInt = 0 ∨ (a1).toInt = 1 ∨ (a1).toInt = 2 ∨ (a1).toInt = 3 ∨ (a1).toInt = 4 ∨ (a1).toInt = 5 ∨ (a1).toInt = 6 ∨ (a1).toInt = 7 ∨ (a1).toInt = 8 ∨ (a1).toInt = 9 ∨ (a1).toInt = 10 ∨ (a1).toInt = 11 ∨ (a1).toInt = 12 ∨ (a1).toInt = 13 ∨ (a1).toInt = 14 ∨ (a1).toInt = 15 := by omega
                                    rcases z3 with z3 | z3 | z3 | z3 | z3 | z3 | z3 | z3 | z3 | z3 | z3 | z3 | z3 | z3 | z3 | z3
                                    · exact c1 (Int32.toInt_inj.mp (z3.trans rfl))
                                    · exact c5 (Int32.toInt_inj.mp (z3.trans rfl))
                                    · exact c9 (Int32.toInt_inj.mp (z3.trans rfl))
                                    · exact c13 (Int32.toInt_inj.mp (z3.trans rfl))
                                    · exact c16 (Int32.toInt_inj.mp (z3.trans rfl))
                                    · exact c19 (Int32.toInt_inj.mp (z3.trans rfl))
                                    · exact c22 (Int32.toInt_inj.mp (z3.trans rfl))
                                    · exact c25 (Int32.toInt_inj.mp (z3.trans rfl))
                                    · exact c28 (Int32.toInt_inj.mp (z3.trans rfl))
                                    · exact c31 (Int32.toInt_inj.mp (z3.trans rfl))
                                    · exact c33 (Int32.toInt_inj.mp (z3.trans rfl))
                                    · exact c37 (Int32.toInt_inj.mp (z3.trans rfl))
                                    · exact c41 (Int32.toInt_inj.mp (z3.trans rfl))
                                    · exact c45 (Int32.toInt_inj.mp (z3.trans rfl))
                                    · exact c49 (Int32.toInt_inj.mp (z3.trans rfl))
                                    · exact c50 (Int32.toInt_inj.mp (z3.trans rfl))
                                  · skip
                                    refine za_bipush (v := (-2 : Int32)) o dX8_count_129 (by decide) ?_
                                    exact za_iret o rfl hf dX8_count_131
def fX8_why_15  (K : Int32 → zMem → Prop) (q : Nat)  (μ : zMem) : Prop :=
  K (-1 : Int32) μ
def fX8_why_38  (K : Int32 → zMem → Prop) (q : Nat) (v1 : Int32) (μ : zMem) : Prop :=
  K v1 μ
def fX8_why (q : Nat) (a1 : Int32) (a2 : Int32) (a3 : Int32) (μ : zMem) (K : Int32 → zMem → Prop) : Prop :=
  fX8_isPerson q a1 μ (fun r1 m2 => ((r1 = 0 → fX8_why_15  K q  m2) ∧ (¬ r1 = 0 → fX8_isDish a3 m2 (fun r4 m5 => ((¬ r4 = 0 → fX8_in a2 (0 : Int32) (4 : Int32) m5 (fun r7 m8 => ((r7 = 0 → fX8_why_38  K q (-2 : Int32) m8) ∧ (¬ r7 = 0 → fX8_reason q a1 a2 a3 m8 (fun r10 m11 => fX8_why_38  K q r10 m11))))) ∧ (r4 = 0 → fX8_why_15  K q  m5))))))
set_option maxRecDepth 100000 in
set_option maxHeartbeats 4000000 in
theorem tX8_why_15 {p : Program} {l : Launch} {e : Env} {s : State} {m : MethodId} {args : Array Value} {below : List Frame} {meth : Method} {c : Code} {G : zG}  {K : Int32 → zMem → Prop} (o : za_Ok (z_rm 2 47) 0 0 p s m args meth c G RX8 cX8_why 4 (some .int)) {q : Nat} (hq : z_is q 8)   (μ : zMem)  (hf : fX8_why_15  K q  μ) : za_At p l e (z_rm 2 47) s m args below meth c (MQ below (zQi G K) args s 0 0 (zA G)) G 4 0 0 15 [] [] μ := by
  unfold fX8_why_15 at hf
  refine za_iconst (v := (-1 : Int32)) o dX8_why_15 (by decide) ?_
  exact za_iret o rfl hf dX8_why_16
set_option maxRecDepth 100000 in
set_option maxHeartbeats 4000000 in
theorem tX8_why_38 {p : Program} {l : Launch} {e : Env} {s : State} {m : MethodId} {args : Array Value} {below : List Frame} {meth : Method} {c : Code} {G : zG}  {K : Int32 → zMem → Prop} (o : za_Ok (z_rm 2 47) 0 0 p s m args meth c G RX8 cX8_why 4 (some .int)) {q : Nat} (hq : z_is q 8)  (v1 : Int32) (μ : zMem)  (hf : fX8_why_38  K q v1 μ) : za_At p l e (z_rm 2 47) s m args below meth c (MQ below (zQi G K) args s 0 0 (zA G)) G 4 0 0 38 [] [.int v1] μ := by
  unfold fX8_why_38 at hf
  exact za_iret o rfl hf dX8_why_38
set_option maxRecDepth 100000 in
set_option maxHeartbeats 4000000 in
theorem ctX8_why (l : Launch) (G : zG) {q : Nat} (hq : z_is q 8) (a1 : Int32) (a2 : Int32) (a3 : Int32)  (μ : zMem) (K : Int32 → zMem → Prop) (hf : fX8_why q a1 a2 a3 μ K) : z_Met l G yX8_why cX8_why 4 (some .int) (z_rm 2 47) [.ref (G.2.2 + q), .int a1, .int a2, .int a3] μ K := by
  refine z_body (by decide) (Nat.le_of_ble_eq_true rfl) (fun p e s m args below meth c o => ?_)
  have o : za_Ok (z_rm 2 47) 0 0 p s m args meth c G RX8 cX8_why 4 (some .int) := o
  show za_At p l e (z_rm 2 47) s m args below meth c (MQ below (zQi G K) args s 0 0 (zA G)) G 4 0 0 0 [(0, .ref (G.2.2 + q)), (1, .int a1), (2, .int a2), (3, .int a3)] [] μ
  unfold fX8_why at hf
  refine za_aload_n o 0 dX8_why_0 rfl rfl ?_
  refine za_iload_n o 1 dX8_why_1 rfl rfl ?_
  refine za_callVi o [.int a1] (ctX8_isPerson l G hq a1  μ _ hf) zc8 hq mwX8_isPerson wmX8_54 wiX8_isPerson wsX8_isPerson rfl ⟨Nat.le_of_ble_eq_true rfl, Nat.le_of_ble_eq_true rfl⟩ rfl (Nat.le_of_ble_eq_true rfl) dX8_why_2 (fun r1 m2 hf => ?_)
  refine za_if_eq o 15 dX8_why_5 (by decide) (fun c3 => ?_) (fun c3 => ?_)
  · replace hf := hf.1 c3
    refine za_sub [] rfl ?_
    exact tX8_why_15 o hq   m2  hf
  · replace hf := hf.2 c3
    refine za_iload_n o 3 dX8_why_8 rfl rfl ?_
    refine za_callSi o [.int a3] (ctX8_isDish l G a3  m2 _ hf) mwX8_isDish wmX8_66 wtX8_isDish rfl ⟨Nat.le_of_ble_eq_true rfl, Nat.le_of_ble_eq_true rfl⟩ rfl (Nat.le_of_ble_eq_true rfl) dX8_why_9 (fun r4 m5 hf => ?_)
    refine za_if_ne o 17 dX8_why_12 (by decide) (fun c6 => ?_) (fun c6 => ?_)
    · replace hf := hf.1 c6
      refine za_iload_n o 2 dX8_why_17 rfl rfl ?_
      refine za_iconst (v := (0 : Int32)) o dX8_why_18 (by decide) ?_
      refine za_iconst (v := (4 : Int32)) o dX8_why_19 (by decide) ?_
      refine za_callSi o [.int a2, .int (0 : Int32), .int (4 : Int32)] (ctX8_in l G a2 (0 : Int32) (4 : Int32)  m5 _ hf) mwX8_in wmX8_33 wtX8_in rfl ⟨Nat.le_of_ble_eq_true rfl, Nat.le_of_ble_eq_true rfl⟩ rfl (Nat.le_of_ble_eq_true rfl) dX8_why_20 (fun r7 m8 hf => ?_)
      refine za_if_eq o 36 dX8_why_23 (by decide) (fun c9 => ?_) (fun c9 => ?_)
      · replace hf := hf.1 c9
        refine za_bipush (v := (-2 : Int32)) o dX8_why_36 (by decide) ?_
        refine za_sub [] rfl ?_
        exact tX8_why_38 o hq  (-2 : Int32) m8  hf
      · replace hf := hf.2 c9
        refine za_aload_n o 0 dX8_why_26 rfl rfl ?_
        refine za_iload_n o 1 dX8_why_27 rfl rfl ?_
        refine za_iload_n o 2 dX8_why_28 rfl rfl ?_
        refine za_iload_n o 3 dX8_why_29 rfl rfl ?_
        refine za_callVi o [.int a1, .int a2, .int a3] (ctX8_reason l G hq a1 a2 a3  m8 _ hf) zc8 hq mwX8_reason wmX8_69 wiX8_reason wsX8_reason rfl ⟨Nat.le_of_ble_eq_true rfl, Nat.le_of_ble_eq_true rfl⟩ rfl (Nat.le_of_ble_eq_true rfl) dX8_why_30 (fun r10 m11 hf => ?_)
        refine za_goto o 38 dX8_why_33 (by decide) ?_
        refine za_sub [] rfl ?_
        exact tX8_why_38 o hq  r10 m11  hf
    · replace hf := hf.2 c6
      refine za_sub [] rfl ?_
      exact tX8_why_15 o hq   m5  hf
def fX8_unsurest_112 (k20 : Int32 → Int32 → Int32 → Int32 → zMem → Prop) (K : Int32 → zMem → Prop) (q : Nat) (v1 : Int32) (v2 : Int32) (v3 : Int32) (v4 : Int32) (μ : zMem) : Prop :=
  (∀ x1 : Int32, x1 = v3 + (1 : Int32) → k20 v1 v2 v4 x1 μ)
def fX8_unsurest_99 (k20 : Int32 → Int32 → Int32 → Int32 → zMem → Prop) (K : Int32 → zMem → Prop) (q : Nat) (v1 : Int32) (v2 : Int32) (v3 : Int32) (v4 : Int32) (v5 : Int32) (μ : zMem) : Prop :=
  ((v4 ≤ v2 → fX8_unsurest_112 k20 K q v1 v5 v3 v2 μ) ∧ (¬ v4 ≤ v2 → fX8_unsurest_112 k20 K q v1 v5 v3 v4 μ))
def fX8_unsurest_85 (k20 : Int32 → Int32 → Int32 → Int32 → zMem → Prop) (K : Int32 → zMem → Prop) (q : Nat) (v1 : Int32) (v2 : Int32) (v3 : Int32) (v4 : Int32) (v5 : Int32) (μ : zMem) : Prop :=
  ((v5 ≤ v3 → fX8_unsurest_99 k20 K q v1 v3 v4 v5 v2 μ) ∧ (¬ v5 ≤ v3 → fX8_unsurest_99 k20 K q v1 v3 v4 v5 v4 μ))
def fX8_unsurest_138  (K : Int32 → zMem → Prop) (q : Nat) (v1 : Int32) (μ : zMem) : Prop :=
  K v1 μ
def fX8_unsurest_129  (K : Int32 → zMem → Prop) (q : Nat) (v1 : Int32) (μ : zMem) : Prop :=
  fX8_unsurest_138  K q v1 μ
def fX8_unsurest_20b (k20 : Int32 → Int32 → Int32 → Int32 → zMem → Prop) (K : Int32 → zMem → Prop) (q : Nat) (v1 : Int32) (v2 : Int32) (v3 : Int32) (v4 : Int32) (μ : zMem) : Prop :=
  (∀ x4 : Int32, x4 = (μ 530 5) → ((x4 ≤ v4 → ((v2 = (-6 : Int32) → fX8_unsurest_129  K q v2 μ) ∧ (¬ v2 = (-6 : Int32) → ((¬ v1 = 0 → fX8_doubt q v2 μ (fun r8 m9 => fX8_unsurest_138  K q r8 m9)) ∧ (v1 = 0 → fX8_unsurest_129  K q v2 μ))))) ∧ (¬ x4 ≤ v4 → fX8_p v4 μ (fun r10 m11 => (∀ x12 : Int32, x12 = (r10 + (13 : Int32)) → (vp_in x12 276 ∧ (∀ x14 : Int32, x14 = (m11 530 x12.toNatClampNeg) → fX8_p v4 m11 (fun r15 m16 => (∀ x17 : Int32, x17 = (r15 + (14 : Int32)) → (vp_in x17 276 ∧ (∀ x19 : Int32, x19 = (m16 530 x17.toNatClampNeg) → (∀ x20 : Int32, x20 = (x14 + x19) → fX8_doubt q v4 m16 (fun r21 m22 => ((¬ r21 = 0 → fX8_doubt q v4 m22 (fun r24 m25 => (∀ x26 : Int32, x26 = ((100000 : Int32) * r24) → (∀ x27 : Int32, x27 = (x26 + x20) → fX8_unsurest_85 k20 K q v1 v2 v3 v4 x27 m25)))) ∧ (r21 = 0 → fX8_unsurest_85 k20 K q v1 v2 v3 v4 (0 : Int32) m22)))))))))))))))
def fX8_unsurest_20  (K : Int32 → zMem → Prop) (q : Nat) (n : Nat) : Int32 → Int32 → Int32 → Int32 → zMem → Prop := z_it (fun k => fX8_unsurest_20b  k K q ) (fun _ _ _ _ _ => False) n
def fX8_unsurest (q : Nat) (a1 : Int32) (μ : zMem) (K : Int32 → zMem → Prop) : Prop :=
  fX8_in a1 (0 : Int32) (1 : Int32) μ (fun r28 m29 => ((¬ r28 = 0 → fX8_unsurest_20  K q zFU a1 (-6 : Int32) (0 : Int32) (0 : Int32) m29) ∧ (r28 = 0 → K (-2 : Int32) m29)))
set_option maxRecDepth 100000 in
set_option maxHeartbeats 4000000 in
theorem tX8_unsurest_112 {p : Program} {l : Launch} {e : Env} {s : State} {m : MethodId} {args : Array Value} {below : List Frame} {meth : Method} {c : Code} {G : zG} {k20 : Int32 → Int32 → Int32 → Int32 → zMem → Prop} {K : Int32 → zMem → Prop} (o : za_Ok (z_rm 2 42) 0 0 p s m args meth c G RX8 cX8_unsurest 7 (some .int)) {q : Nat} (hq : z_is q 8) (hk20 : ∀ (v1 : Int32) (v2 : Int32) (v3 : Int32) (v4 : Int32) (μ : zMem), k20 v1 v2 v3 v4 μ → za_At p l e (z_rm 2 42) s m args below meth c (MQ below (zQi G K) args s 0 0 (zA G)) G 7 0 0 20 [(0, .ref (G.2.2 + q)), (1, .int v1), (2, .int v2), (3, .int v3), (4, .int v4)] [] μ) (v1 : Int32) (v2 : Int32) (v3 : Int32) (v4 : Int32) (μ : zMem)  (hf : fX8_unsurest_112 k20 K q v1 v2 v3 v4 μ) : za_At p l e (z_rm 2 42) s m args below meth c (MQ below (zQi G K) args s 0 0 (zA G)) G 7 0 0 112 [(0, .ref (G.2.2 + q)), (1, .int v1), (2, .int v2), (4, .int v3)] [.int v4] μ := by
  unfold fX8_unsurest_112 at hf
  refine za_istore_n o [(3, .int v4), (0, .ref (G.2.2 + q)), (1, .int v1), (2, .int v2), (4, .int v3)] dX8_unsurest_112 rfl (by decide) rfl ?_
  obtain ⟨x1, ex1⟩ : ∃ y : Int32, y = v3 + (1 : Int32) := ⟨_, rfl⟩
  replace hf := hf x1 ex1
  refine za_iinc o x1 4 [(4, .int x1), (3, .int v4), (0, .ref (G.2.2 + q)), (1, .int v1), (2, .int v2)] dX8_unsurest_113 rfl (by rw [ex1]; rfl) (by decide) rfl ?_
  refine za_goto o 20 dX8_unsurest_116 (by decide) ?_
  refine za_sub [2, 3, 4, 1, 0] rfl ?_
  exact hk20 v1 v2 v4 x1 μ  hf
set_option maxRecDepth 100000 in
set_option maxHeartbeats 4000000 in
theorem tX8_unsurest_99 {p : Program} {l : Launch} {e : Env} {s : State} {m : MethodId} {args : Array Value} {below : List Frame} {meth : Method} {c : Code} {G : zG} {k20 : Int32 → Int32 → Int32 → Int32 → zMem → Prop} {K : Int32 → zMem → Prop} (o : za_Ok (z_rm 2 42) 0 0 p s m args meth c G RX8 cX8_unsurest 7 (some .int)) {q : Nat} (hq : z_is q 8) (hk20 : ∀ (v1 : Int32) (v2 : Int32) (v3 : Int32) (v4 : Int32) (μ : zMem), k20 v1 v2 v3 v4 μ → za_At p l e (z_rm 2 42) s m args below meth c (MQ below (zQi G K) args s 0 0 (zA G)) G 7 0 0 20 [(0, .ref (G.2.2 + q)), (1, .int v1), (2, .int v2), (3, .int v3), (4, .int v4)] [] μ) (v1 : Int32) (v2 : Int32) (v3 : Int32) (v4 : Int32) (v5 : Int32) (μ : zMem)  (hf : fX8_unsurest_99 k20 K q v1 v2 v3 v4 v5 μ) : za_At p l e (z_rm 2 42) s m args below meth c (MQ below (zQi G K) args s 0 0 (zA G)) G 7 0 0 99 [(0, .ref (G.2.2 + q)), (1, .int v1), (3, .int v2), (4, .int v3), (6, .int v4)] [.int v5] μ := by
  unfold fX8_unsurest_99 at hf
  refine za_istore_n o [(2, .int v5), (0, .ref (G.2.2 + q)), (1, .int v1), (3, .int v2), (4, .int v3), (6, .int v4)] dX8_unsurest_99 rfl (by decide) rfl ?_
  refine za_iload o 5 dX8_unsurest_100 rfl ?_
  refine za_iload_n o 3 dX8_unsurest_102 rfl rfl ?_
  refine za_icmp_le o 111 dX8_unsurest_103 (by decide) (fun c2 => ?_) (fun c2 => ?_)
  · replace hf := hf.1 c2
    refine za_iload_n o 3 dX8_unsurest_111 rfl rfl ?_
    refine za_sub [1, 2, 0, 4] rfl ?_
    exact tX8_unsurest_112 o hq hk20 v1 v5 v3 v2 μ  hf
  · replace hf := hf.2 c2
    refine za_iload o 5 dX8_unsurest_106 rfl ?_
    refine za_goto o 112 dX8_unsurest_108 (by decide) ?_
    refine za_sub [1, 2, 0, 4] rfl ?_
    exact tX8_unsurest_112 o hq hk20 v1 v5 v3 v4 μ  hf
set_option maxRecDepth 100000 in
set_option maxHeartbeats 4000000 in
theorem tX8_unsurest_85 {p : Program} {l : Launch} {e : Env} {s : State} {m : MethodId} {args : Array Value} {below : List Frame} {meth : Method} {c : Code} {G : zG} {k20 : Int32 → Int32 → Int32 → Int32 → zMem → Prop} {K : Int32 → zMem → Prop} (o : za_Ok (z_rm 2 42) 0 0 p s m args meth c G RX8 cX8_unsurest 7 (some .int)) {q : Nat} (hq : z_is q 8) (hk20 : ∀ (v1 : Int32) (v2 : Int32) (v3 : Int32) (v4 : Int32) (μ : zMem), k20 v1 v2 v3 v4 μ → za_At p l e (z_rm 2 42) s m args below meth c (MQ below (zQi G K) args s 0 0 (zA G)) G 7 0 0 20 [(0, .ref (G.2.2 + q)), (1, .int v1), (2, .int v2), (3, .int v3), (4, .int v4)] [] μ) (v1 : Int32) (v2 : Int32) (v3 : Int32) (v4 : Int32) (v5 : Int32) (μ : zMem)  (hf : fX8_unsurest_85 k20 K q v1 v2 v3 v4 v5 μ) : za_At p l e (z_rm 2 42) s m args below meth c (MQ below (zQi G K) args s 0 0 (zA G)) G 7 0 0 85 [(0, .ref (G.2.2 + q)), (1, .int v1), (2, .int v2), (3, .int v3), (4, .int v4)] [.int v5] μ := by
  unfold fX8_unsurest_85 at hf
  refine za_istore o [(6, .int v5), (0, .ref (G.2.2 + q)), (1, .int v1), (2, .int v2), (3, .int v3), (4, .int v4)] dX8_unsurest_85 (by decide) rfl ?_
  refine za_iload o 0 dX8_unsurest_87 rfl ?_
  refine za_iload_n o 4 dX8_unsurest_89 rfl rfl ?_
  refine za_icmp_le o 98 dX8_unsurest_90 (by decide) (fun c3 => ?_) (fun c3 => ?_)
  · replace hf := hf.1 c3
    refine za_iload_n o 3 dX8_unsurest_98 rfl rfl ?_
    refine za_sub [1, 2, 4, 5, 0] rfl ?_
    exact tX8_unsurest_99 o hq hk20 v1 v3 v4 v5 v2 μ  hf
  · replace hf := hf.2 c3
    refine za_iload o 5 dX8_unsurest_93 rfl ?_
    refine za_goto o 99 dX8_unsurest_95 (by decide) ?_
    refine za_sub [1, 2, 4, 5, 0] rfl ?_
    exact tX8_unsurest_99 o hq hk20 v1 v3 v4 v5 v4 μ  hf
set_option maxRecDepth 100000 in
set_option maxHeartbeats 4000000 in
theorem tX8_unsurest_138 {p : Program} {l : Launch} {e : Env} {s : State} {m : MethodId} {args : Array Value} {below : List Frame} {meth : Method} {c : Code} {G : zG}  {K : Int32 → zMem → Prop} (o : za_Ok (z_rm 2 42) 0 0 p s m args meth c G RX8 cX8_unsurest 7 (some .int)) {q : Nat} (hq : z_is q 8)  (v1 : Int32) (μ : zMem)  (hf : fX8_unsurest_138  K q v1 μ) : za_At p l e (z_rm 2 42) s m args below meth c (MQ below (zQi G K) args s 0 0 (zA G)) G 7 0 0 138 [] [.int v1] μ := by
  unfold fX8_unsurest_138 at hf
  exact za_iret o rfl hf dX8_unsurest_138
set_option maxRecDepth 100000 in
set_option maxHeartbeats 4000000 in
theorem tX8_unsurest_129 {p : Program} {l : Launch} {e : Env} {s : State} {m : MethodId} {args : Array Value} {below : List Frame} {meth : Method} {c : Code} {G : zG}  {K : Int32 → zMem → Prop} (o : za_Ok (z_rm 2 42) 0 0 p s m args meth c G RX8 cX8_unsurest 7 (some .int)) {q : Nat} (hq : z_is q 8)  (v1 : Int32) (μ : zMem)  (hf : fX8_unsurest_129  K q v1 μ) : za_At p l e (z_rm 2 42) s m args below meth c (MQ below (zQi G K) args s 0 0 (zA G)) G 7 0 0 129 [(2, .int v1)] [] μ := by
  unfold fX8_unsurest_129 at hf
  refine za_iload_n o 0 dX8_unsurest_129 rfl rfl ?_
  refine za_goto o 138 dX8_unsurest_130 (by decide) ?_
  refine za_sub [] rfl ?_
  exact tX8_unsurest_138 o hq  v1 μ  hf
set_option maxRecDepth 100000 in
set_option maxHeartbeats 4000000 in
theorem tX8_unsurest_20b {p : Program} {l : Launch} {e : Env} {s : State} {m : MethodId} {args : Array Value} {below : List Frame} {meth : Method} {c : Code} {G : zG} {k20 : Int32 → Int32 → Int32 → Int32 → zMem → Prop} {K : Int32 → zMem → Prop} (o : za_Ok (z_rm 2 42) 0 0 p s m args meth c G RX8 cX8_unsurest 7 (some .int)) {q : Nat} (hq : z_is q 8) (hk20 : ∀ (v1 : Int32) (v2 : Int32) (v3 : Int32) (v4 : Int32) (μ : zMem), k20 v1 v2 v3 v4 μ → za_At p l e (z_rm 2 42) s m args below meth c (MQ below (zQi G K) args s 0 0 (zA G)) G 7 0 0 20 [(0, .ref (G.2.2 + q)), (1, .int v1), (2, .int v2), (3, .int v3), (4, .int v4)] [] μ) (v1 : Int32) (v2 : Int32) (v3 : Int32) (v4 : Int32) (μ : zMem)  (hf : fX8_unsurest_20b k20 K q v1 v2 v3 v4 μ) : za_At p l e (z_rm 2 42) s m args below meth c (MQ below (zQi G K) args s 0 0 (zA G)) G 7 0 0 20 [(0, .ref (G.2.2 + q)), (1, .int v1), (2, .int v2), (3, .int v3), (4, .int v4)] [] μ := by
  unfold fX8_unsurest_20b at hf
  refine za_iload o 4 dX8_unsurest_20 rfl ?_
  refine za_aload_n o 0 dX8_unsurest_22 rfl rfl ?_
  refine za_getf o 0 zc8 hq (Nat.le_of_ble_eq_true rfl) wfX8_7 rfl dX8_unsurest_23 ?_
  refine za_iconst (v := (5 : Int32)) o dX8_unsurest_26 (by decide) ?_
  refine za_iald o zk_m0 rfl (by unfold vp_in; decide) dX8_unsurest_27 ?_
  refine za_topi (fun x4 ex4 => ?_)
  replace hf := hf x4 ex4
  refine za_icmp_ge o 119 dX8_unsurest_28 (by decide) (fun c5 => ?_) (fun c5 => ?_)
  · replace hf := hf.1 c5
    refine za_iload_n o 2 dX8_unsurest_119 rfl rfl ?_
    refine za_bipush (v := (-6 : Int32)) o dX8_unsurest_120 (by decide) ?_
    refine za_icmp_eq o 129 dX8_unsurest_122 (by decide) (fun c6 => ?_) (fun c6 => ?_)
    · replace hf := hf.1 c6
      refine za_sub [2] rfl ?_
      exact tX8_unsurest_129 o hq  v2 μ  hf
    · replace hf := hf.2 c6
      refine za_iload_n o 1 dX8_unsurest_125 rfl rfl ?_
      refine za_if_ne o 133 dX8_unsurest_126 (by decide) (fun c7 => ?_) (fun c7 => ?_)
      · replace hf := hf.1 c7
        refine za_aload_n o 0 dX8_unsurest_133 rfl rfl ?_
        refine za_iload_n o 2 dX8_unsurest_134 rfl rfl ?_
        refine za_callVi o [.int v2] (ctX8_doubt l G hq v2  μ _ hf) zc8 hq mwX8_doubt wmX8_48 wiX8_doubt wsX8_doubt rfl ⟨Nat.le_of_ble_eq_true rfl, Nat.le_of_ble_eq_true rfl⟩ rfl (Nat.le_of_ble_eq_true rfl) dX8_unsurest_135 (fun r8 m9 hf => ?_)
        refine za_sub [] rfl ?_
        exact tX8_unsurest_138 o hq  r8 m9  hf
      · replace hf := hf.2 c7
        refine za_sub [2] rfl ?_
        exact tX8_unsurest_129 o hq  v2 μ  hf
  · replace hf := hf.2 c5
    refine za_aload_n o 0 dX8_unsurest_31 rfl rfl ?_
    refine za_getf o 0 zc8 hq (Nat.le_of_ble_eq_true rfl) wfX8_7 rfl dX8_unsurest_32 ?_
    refine za_iload o 4 dX8_unsurest_35 rfl ?_
    refine za_callSi o [.int v4] (ctX8_p l G v4  μ _ hf) mwX8_p wmX8_41 wtX8_p rfl ⟨Nat.le_of_ble_eq_true rfl, Nat.le_of_ble_eq_true rfl⟩ rfl (Nat.le_of_ble_eq_true rfl) dX8_unsurest_37 (fun r10 m11 hf => ?_)
    refine za_bipush (v := (13 : Int32)) o dX8_unsurest_40 (by decide) ?_
    refine za_iadd o dX8_unsurest_42 ?_
    refine za_topi (fun x12 ex12 => ?_)
    replace hf := hf x12 ex12
    obtain ⟨g13, hf⟩ := hf
    refine za_iald o zk_m0 rfl g13 dX8_unsurest_43 ?_
    refine za_topi (fun x14 ex14 => ?_)
    replace hf := hf x14 ex14
    refine za_aload_n o 0 dX8_unsurest_44 rfl rfl ?_
    refine za_getf o 0 zc8 hq (Nat.le_of_ble_eq_true rfl) wfX8_7 rfl dX8_unsurest_45 ?_
    refine za_iload o 4 dX8_unsurest_48 rfl ?_
    refine za_callSi o [.int v4] (ctX8_p l G v4  m11 _ hf) mwX8_p wmX8_41 wtX8_p rfl ⟨Nat.le_of_ble_eq_true rfl, Nat.le_of_ble_eq_true rfl⟩ rfl (Nat.le_of_ble_eq_true rfl) dX8_unsurest_50 (fun r15 m16 hf => ?_)
    refine za_bipush (v := (14 : Int32)) o dX8_unsurest_53 (by decide) ?_
    refine za_iadd o dX8_unsurest_55 ?_
    refine za_topi (fun x17 ex17 => ?_)
    replace hf := hf x17 ex17
    obtain ⟨g18, hf⟩ := hf
    refine za_iald o zk_m0 rfl g18 dX8_unsurest_56 ?_
    refine za_topi (fun x19 ex19 => ?_)
    replace hf := hf x19 ex19
    refine za_iadd o dX8_unsurest_57 ?_
    refine za_topi (fun x20 ex20 => ?_)
    replace hf := hf x20 ex20
    refine za_istore o [(5, .int x20), (0, .ref (G.2.2 + q)), (1, .int v1), (2, .int v2), (3, .int v3), (4, .int v4)] dX8_unsurest_58 (by decide) rfl ?_
    refine za_aload_n o 1 dX8_unsurest_60 rfl rfl ?_
    refine za_iload o 5 dX8_unsurest_61 rfl ?_
    refine za_callVi o [.int v4] (ctX8_doubt l G hq v4  m16 _ hf) zc8 hq mwX8_doubt wmX8_48 wiX8_doubt wsX8_doubt rfl ⟨Nat.le_of_ble_eq_true rfl, Nat.le_of_ble_eq_true rfl⟩ rfl (Nat.le_of_ble_eq_true rfl) dX8_unsurest_63 (fun r21 m22 hf => ?_)
    refine za_if_ne o 73 dX8_unsurest_66 (by decide) (fun c23 => ?_) (fun c23 => ?_)
    · replace hf := hf.1 c23
      refine za_ldc (v := (100000 : Int32)) o wkX8_128 dX8_unsurest_73 ?_
      refine za_aload_n o 1 dX8_unsurest_75 rfl rfl ?_
      refine za_iload o 5 dX8_unsurest_76 rfl ?_
      refine za_callVi o [.int v4] (ctX8_doubt l G hq v4  m22 _ hf) zc8 hq mwX8_doubt wmX8_48 wiX8_doubt wsX8_doubt rfl ⟨Nat.le_of_ble_eq_true rfl, Nat.le_of_ble_eq_true rfl⟩ rfl (Nat.le_of_ble_eq_true rfl) dX8_unsurest_78 (fun r24 m25 hf => ?_)
      refine za_imul o dX8_unsurest_81 ?_
      refine za_topi (fun x26 ex26 => ?_)
      replace hf := hf x26 ex26
      refine za_iload o 0 dX8_unsurest_82 rfl ?_
      refine za_iadd o dX8_unsurest_84 ?_
      refine za_topi (fun x27 ex27 => ?_)
      replace hf := hf x27 ex27
      refine za_sub [1, 2, 3, 4, 5] rfl ?_
      exact tX8_unsurest_85 o hq hk20 v1 v2 v3 v4 x27 m25  hf
    · replace hf := hf.2 c23
      refine za_iconst (v := (0 : Int32)) o dX8_unsurest_69 (by decide) ?_
      refine za_goto o 85 dX8_unsurest_70 (by decide) ?_
      refine za_sub [1, 2, 3, 4, 5] rfl ?_
      exact tX8_unsurest_85 o hq hk20 v1 v2 v3 v4 (0 : Int32) m22  hf
theorem tX8_unsurest_20 {p : Program} {l : Launch} {e : Env} {s : State} {m : MethodId} {args : Array Value} {below : List Frame} {meth : Method} {c : Code} {G : zG}  {K : Int32 → zMem → Prop} (o : za_Ok (z_rm 2 42) 0 0 p s m args meth c G RX8 cX8_unsurest 7 (some .int)) {q : Nat} (hq : z_is q 8)  (n : Nat) : ∀ (v1 : Int32) (v2 : Int32) (v3 : Int32) (v4 : Int32) (μ : zMem), fX8_unsurest_20  K q n v1 v2 v3 v4 μ → za_At p l e (z_rm 2 42) s m args below meth c (MQ below (zQi G K) args s 0 0 (zA G)) G 7 0 0 20 [(0, .ref (G.2.2 + q)), (1, .int v1), (2, .int v2), (3, .int v3), (4, .int v4)] [] μ := by
  induction n with
  | zero => intro _ _ _ _ _ hf; exact hf.elim
  | succ n ih => intro v1 v2 v3 v4 μ  hf; exact tX8_unsurest_20b o hq  ih v1 v2 v3 v4 μ  hf
set_option maxRecDepth 100000 in
set_option maxHeartbeats 4000000 in
theorem ctX8_unsurest (l : Launch) (G : zG) {q : Nat} (hq : z_is q 8) (a1 : Int32)  (μ : zMem) (K : Int32 → zMem → Prop) (hf : fX8_unsurest q a1 μ K) : z_Met l G yX8_unsurest cX8_unsurest 7 (some .int) (z_rm 2 42) [.ref (G.2.2 + q), .int a1] μ K := by
  refine z_body (by decide) (Nat.le_of_ble_eq_true rfl) (fun p e s m args below meth c o => ?_)
  have o : za_Ok (z_rm 2 42) 0 0 p s m args meth c G RX8 cX8_unsurest 7 (some .int) := o
  show za_At p l e (z_rm 2 42) s m args below meth c (MQ below (zQi G K) args s 0 0 (zA G)) G 7 0 0 0 [(0, .ref (G.2.2 + q)), (1, .int a1)] [] μ
  unfold fX8_unsurest at hf
  refine za_iload_n o 1 dX8_unsurest_0 rfl rfl ?_
  refine za_iconst (v := (0 : Int32)) o dX8_unsurest_1 (by decide) ?_
  refine za_iconst (v := (1 : Int32)) o dX8_unsurest_2 (by decide) ?_
  refine za_callSi o [.int a1, .int (0 : Int32), .int (1 : Int32)] (ctX8_in l G a1 (0 : Int32) (1 : Int32)  μ _ hf) mwX8_in wmX8_33 wtX8_in rfl ⟨Nat.le_of_ble_eq_true rfl, Nat.le_of_ble_eq_true rfl⟩ rfl (Nat.le_of_ble_eq_true rfl) dX8_unsurest_3 (fun r28 m29 hf => ?_)
  refine za_if_ne o 12 dX8_unsurest_6 (by decide) (fun c30 => ?_) (fun c30 => ?_)
  · replace hf := hf.1 c30
    refine za_bipush (v := (-6 : Int32)) o dX8_unsurest_12 (by decide) ?_
    refine za_istore_n o [(2, .int (-6 : Int32)), (0, .ref (G.2.2 + q)), (1, .int a1)] dX8_unsurest_14 rfl (by decide) rfl ?_
    refine za_iconst (v := (0 : Int32)) o dX8_unsurest_15 (by decide) ?_
    refine za_istore_n o [(3, .int (0 : Int32)), (2, .int (-6 : Int32)), (0, .ref (G.2.2 + q)), (1, .int a1)] dX8_unsurest_16 rfl (by decide) rfl ?_
    refine za_iconst (v := (0 : Int32)) o dX8_unsurest_17 (by decide) ?_
    refine za_istore o [(4, .int (0 : Int32)), (3, .int (0 : Int32)), (2, .int (-6 : Int32)), (0, .ref (G.2.2 + q)), (1, .int a1)] dX8_unsurest_18 (by decide) rfl ?_
    refine za_sub [3, 4, 2, 1, 0] rfl ?_
    exact tX8_unsurest_20 o hq  zFU a1 (-6 : Int32) (0 : Int32) (0 : Int32) m29  hf
  · replace hf := hf.2 c30
    refine za_bipush (v := (-2 : Int32)) o dX8_unsurest_9 (by decide) ?_
    exact za_iret o rfl hf dX8_unsurest_11
def fX8_firstOrder_39 (k16 : Int32 → Int32 → Int32 → zMem → Prop) (K : Int32 → zMem → Prop) (q : Nat) (v1 : Int32) (v2 : Int32) (v3 : Int32) (μ : zMem) : Prop :=
  (∀ x1 : Int32, x1 = v2 + (-1 : Int32) → k16 v1 v3 x1 μ)
def fX8_firstOrder_16b (k16 : Int32 → Int32 → Int32 → zMem → Prop) (K : Int32 → zMem → Prop) (q : Nat) (v1 : Int32) (v2 : Int32) (v3 : Int32) (μ : zMem) : Prop :=
  ((v3 < 0 → K v2 μ) ∧ (¬ v3 < 0 → (∀ x3 : Int32, x3 = (v3 / (3 : Int32)) → (∀ x4 : Int32, x4 = (v3 - v3 / (3 : Int32) * (3 : Int32)) → fX8_reason q v1 x3 x4 μ (fun r5 m6 => ((¬ r5 = 0 → fX8_firstOrder_39 k16 K q v1 v3 v2 m6) ∧ (r5 = 0 → fX8_firstOrder_39 k16 K q v1 v3 v3 m6)))))))
def fX8_firstOrder_16  (K : Int32 → zMem → Prop) (q : Nat) (n : Nat) : Int32 → Int32 → Int32 → zMem → Prop := z_it (fun k => fX8_firstOrder_16b  k K q ) (fun _ _ _ _ => False) n
def fX8_firstOrder (q : Nat) (a1 : Int32) (μ : zMem) (K : Int32 → zMem → Prop) : Prop :=
  fX8_isPerson q a1 μ (fun r8 m9 => ((¬ r8 = 0 → fX8_firstOrder_16  K q zFU a1 (-6 : Int32) (14 : Int32) m9) ∧ (r8 = 0 → K (-1 : Int32) m9)))
set_option maxRecDepth 100000 in
set_option maxHeartbeats 4000000 in
theorem tX8_firstOrder_39 {p : Program} {l : Launch} {e : Env} {s : State} {m : MethodId} {args : Array Value} {below : List Frame} {meth : Method} {c : Code} {G : zG} {k16 : Int32 → Int32 → Int32 → zMem → Prop} {K : Int32 → zMem → Prop} (o : za_Ok (z_rm 2 47) 0 0 p s m args meth c G RX8 cX8_firstOrder 4 (some .int)) {q : Nat} (hq : z_is q 8) (hk16 : ∀ (v1 : Int32) (v2 : Int32) (v3 : Int32) (μ : zMem), k16 v1 v2 v3 μ → za_At p l e (z_rm 2 47) s m args below meth c (MQ below (zQi G K) args s 0 0 (zA G)) G 4 0 0 16 [(0, .ref (G.2.2 + q)), (1, .int v1), (2, .int v2), (3, .int v3)] [] μ) (v1 : Int32) (v2 : Int32) (v3 : Int32) (μ : zMem)  (hf : fX8_firstOrder_39 k16 K q v1 v2 v3 μ) : za_At p l e (z_rm 2 47) s m args below meth c (MQ below (zQi G K) args s 0 0 (zA G)) G 4 0 0 39 [(0, .ref (G.2.2 + q)), (1, .int v1), (3, .int v2)] [.int v3] μ := by
  unfold fX8_firstOrder_39 at hf
  refine za_istore_n o [(2, .int v3), (0, .ref (G.2.2 + q)), (1, .int v1), (3, .int v2)] dX8_firstOrder_39 rfl (by decide) rfl ?_
  obtain ⟨x1, ex1⟩ : ∃ y : Int32, y = v2 + (-1 : Int32) := ⟨_, rfl⟩
  replace hf := hf x1 ex1
  refine za_iinc o x1 3 [(3, .int x1), (2, .int v3), (0, .ref (G.2.2 + q)), (1, .int v1)] dX8_firstOrder_40 rfl (by rw [ex1]; rfl) (by decide) rfl ?_
  refine za_goto o 16 dX8_firstOrder_43 (by decide) ?_
  refine za_sub [2, 3, 1, 0] rfl ?_
  exact hk16 v1 v3 x1 μ  hf
set_option maxRecDepth 100000 in
set_option maxHeartbeats 4000000 in
theorem tX8_firstOrder_16b {p : Program} {l : Launch} {e : Env} {s : State} {m : MethodId} {args : Array Value} {below : List Frame} {meth : Method} {c : Code} {G : zG} {k16 : Int32 → Int32 → Int32 → zMem → Prop} {K : Int32 → zMem → Prop} (o : za_Ok (z_rm 2 47) 0 0 p s m args meth c G RX8 cX8_firstOrder 4 (some .int)) {q : Nat} (hq : z_is q 8) (hk16 : ∀ (v1 : Int32) (v2 : Int32) (v3 : Int32) (μ : zMem), k16 v1 v2 v3 μ → za_At p l e (z_rm 2 47) s m args below meth c (MQ below (zQi G K) args s 0 0 (zA G)) G 4 0 0 16 [(0, .ref (G.2.2 + q)), (1, .int v1), (2, .int v2), (3, .int v3)] [] μ) (v1 : Int32) (v2 : Int32) (v3 : Int32) (μ : zMem)  (hf : fX8_firstOrder_16b k16 K q v1 v2 v3 μ) : za_At p l e (z_rm 2 47) s m args below meth c (MQ below (zQi G K) args s 0 0 (zA G)) G 4 0 0 16 [(0, .ref (G.2.2 + q)), (1, .int v1), (2, .int v2), (3, .int v3)] [] μ := by
  unfold fX8_firstOrder_16b at hf
  refine za_iload_n o 3 dX8_firstOrder_16 rfl rfl ?_
  refine za_if_lt o 46 dX8_firstOrder_17 (by decide) (fun c2 => ?_) (fun c2 => ?_)
  · replace hf := hf.1 c2
    refine za_iload_n o 2 dX8_firstOrder_46 rfl rfl ?_
    exact za_iret o rfl hf dX8_firstOrder_47
  · replace hf := hf.2 c2
    refine za_aload_n o 0 dX8_firstOrder_20 rfl rfl ?_
    refine za_iload_n o 1 dX8_firstOrder_21 rfl rfl ?_
    refine za_iload_n o 3 dX8_firstOrder_22 rfl rfl ?_
    refine za_iconst (v := (3 : Int32)) o dX8_firstOrder_23 (by decide) ?_
    refine za_idiv o dX8_firstOrder_24 (by decide) ?_
    refine za_topi (fun x3 ex3 => ?_)
    replace hf := hf x3 ex3
    refine za_iload_n o 3 dX8_firstOrder_25 rfl rfl ?_
    refine za_iconst (v := (3 : Int32)) o dX8_firstOrder_26 (by decide) ?_
    refine za_irem o dX8_firstOrder_27 (by decide) ?_
    refine za_topi (fun x4 ex4 => ?_)
    replace hf := hf x4 ex4
    refine za_callVi o [.int v1, .int x3, .int x4] (ctX8_reason l G hq v1 x3 x4  μ _ hf) zc8 hq mwX8_reason wmX8_69 wiX8_reason wsX8_reason rfl ⟨Nat.le_of_ble_eq_true rfl, Nat.le_of_ble_eq_true rfl⟩ rfl (Nat.le_of_ble_eq_true rfl) dX8_firstOrder_28 (fun r5 m6 hf => ?_)
    refine za_if_ne o 38 dX8_firstOrder_31 (by decide) (fun c7 => ?_) (fun c7 => ?_)
    · replace hf := hf.1 c7
      refine za_iload_n o 2 dX8_firstOrder_38 rfl rfl ?_
      refine za_sub [0, 1, 3] rfl ?_
      exact tX8_firstOrder_39 o hq hk16 v1 v3 v2 m6  hf
    · replace hf := hf.2 c7
      refine za_iload_n o 3 dX8_firstOrder_34 rfl rfl ?_
      refine za_goto o 39 dX8_firstOrder_35 (by decide) ?_
      refine za_sub [0, 1, 3] rfl ?_
      exact tX8_firstOrder_39 o hq hk16 v1 v3 v3 m6  hf
theorem tX8_firstOrder_16 {p : Program} {l : Launch} {e : Env} {s : State} {m : MethodId} {args : Array Value} {below : List Frame} {meth : Method} {c : Code} {G : zG}  {K : Int32 → zMem → Prop} (o : za_Ok (z_rm 2 47) 0 0 p s m args meth c G RX8 cX8_firstOrder 4 (some .int)) {q : Nat} (hq : z_is q 8)  (n : Nat) : ∀ (v1 : Int32) (v2 : Int32) (v3 : Int32) (μ : zMem), fX8_firstOrder_16  K q n v1 v2 v3 μ → za_At p l e (z_rm 2 47) s m args below meth c (MQ below (zQi G K) args s 0 0 (zA G)) G 4 0 0 16 [(0, .ref (G.2.2 + q)), (1, .int v1), (2, .int v2), (3, .int v3)] [] μ := by
  induction n with
  | zero => intro _ _ _ _ hf; exact hf.elim
  | succ n ih => intro v1 v2 v3 μ  hf; exact tX8_firstOrder_16b o hq  ih v1 v2 v3 μ  hf
set_option maxRecDepth 100000 in
set_option maxHeartbeats 4000000 in
theorem ctX8_firstOrder (l : Launch) (G : zG) {q : Nat} (hq : z_is q 8) (a1 : Int32)  (μ : zMem) (K : Int32 → zMem → Prop) (hf : fX8_firstOrder q a1 μ K) : z_Met l G yX8_firstOrder cX8_firstOrder 4 (some .int) (z_rm 2 47) [.ref (G.2.2 + q), .int a1] μ K := by
  refine z_body (by decide) (Nat.le_of_ble_eq_true rfl) (fun p e s m args below meth c o => ?_)
  have o : za_Ok (z_rm 2 47) 0 0 p s m args meth c G RX8 cX8_firstOrder 4 (some .int) := o
  show za_At p l e (z_rm 2 47) s m args below meth c (MQ below (zQi G K) args s 0 0 (zA G)) G 4 0 0 0 [(0, .ref (G.2.2 + q)), (1, .int a1)] [] μ
  unfold fX8_firstOrder at hf
  refine za_aload_n o 0 dX8_firstOrder_0 rfl rfl ?_
  refine za_iload_n o 1 dX8_firstOrder_1 rfl rfl ?_
  refine za_callVi o [.int a1] (ctX8_isPerson l G hq a1  μ _ hf) zc8 hq mwX8_isPerson wmX8_54 wiX8_isPerson wsX8_isPerson rfl ⟨Nat.le_of_ble_eq_true rfl, Nat.le_of_ble_eq_true rfl⟩ rfl (Nat.le_of_ble_eq_true rfl) dX8_firstOrder_2 (fun r8 m9 hf => ?_)
  refine za_if_ne o 10 dX8_firstOrder_5 (by decide) (fun c10 => ?_) (fun c10 => ?_)
  · replace hf := hf.1 c10
    refine za_bipush (v := (-6 : Int32)) o dX8_firstOrder_10 (by decide) ?_
    refine za_istore_n o [(2, .int (-6 : Int32)), (0, .ref (G.2.2 + q)), (1, .int a1)] dX8_firstOrder_12 rfl (by decide) rfl ?_
    refine za_bipush (v := (14 : Int32)) o dX8_firstOrder_13 (by decide) ?_
    refine za_istore_n o [(3, .int (14 : Int32)), (2, .int (-6 : Int32)), (0, .ref (G.2.2 + q)), (1, .int a1)] dX8_firstOrder_15 rfl (by decide) rfl ?_
    refine za_sub [2, 3, 1, 0] rfl ?_
    exact tX8_firstOrder_16 o hq  zFU a1 (-6 : Int32) (14 : Int32) m9  hf
  · replace hf := hf.2 c10
    refine za_iconst (v := (-1 : Int32)) o dX8_firstOrder_8 (by decide) ?_
    exact za_iret o rfl hf dX8_firstOrder_9
def fX8_wasted_77 (k7 : Int32 → Int32 → Int32 → zMem → Prop) (K : Int32 → zMem → Prop) (q : Nat) (v1 : Int32) (v2 : Int32) (v3 : Int32) (μ : zMem) : Prop :=
  (∀ x1 : Int32, x1 = v2 + (1 : Int32) → k7 v1 v3 x1 μ)
def fX8_wasted_64 (k7 : Int32 → Int32 → Int32 → zMem → Prop) (K : Int32 → zMem → Prop) (q : Nat) (v1 : Int32) (v2 : Int32) (v3 : Int32) (v4 : Int32) (μ : zMem) : Prop :=
  ((v3 ≤ v1 → fX8_wasted_77 k7 K q v4 v2 v1 μ) ∧ (¬ v3 ≤ v1 → fX8_wasted_77 k7 K q v4 v2 v3 μ))
def fX8_wasted_51 (k7 : Int32 → Int32 → Int32 → zMem → Prop) (K : Int32 → zMem → Prop) (q : Nat) (v1 : Int32) (v2 : Int32) (v3 : Int32) (v4 : Int32) (μ : zMem) : Prop :=
  ((v4 ≤ v2 → fX8_wasted_64 k7 K q v2 v3 v4 v1 μ) ∧ (¬ v4 ≤ v2 → fX8_wasted_64 k7 K q v2 v3 v4 v3 μ))
def fX8_wasted_7b (k7 : Int32 → Int32 → Int32 → zMem → Prop) (K : Int32 → zMem → Prop) (q : Nat) (v1 : Int32) (v2 : Int32) (v3 : Int32) (μ : zMem) : Prop :=
  (((3 : Int32) ≤ v3 → K v1 μ) ∧ (¬ (3 : Int32) ≤ v3 → fX8_d v3 μ (fun r5 m6 => (∀ x7 : Int32, x7 = (r5 + (4 : Int32)) → (vp_in x7 276 ∧ (∀ x9 : Int32, x9 = (m6 530 x7.toNatClampNeg) → ((¬ x9 = 0 → (∀ x11 : Int32, x11 = ((100 : Int32) * x9) → fX8_d v3 m6 (fun r12 m13 => (∀ x14 : Int32, x14 = (r12 + (2 : Int32)) → (vp_in x14 276 ∧ (∀ x16 : Int32, x16 = (m13 530 x14.toNatClampNeg) → ((¬ x16 = 0) ∧ (∀ x18 : Int32, x18 = (x11 / x16) → fX8_wasted_51 k7 K q v1 v2 v3 x18 m13)))))))) ∧ (x9 = 0 → fX8_wasted_51 k7 K q v1 v2 v3 (-1 : Int32) m6))))))))
def fX8_wasted_7  (K : Int32 → zMem → Prop) (q : Nat) (n : Nat) : Int32 → Int32 → Int32 → zMem → Prop := z_it (fun k => fX8_wasted_7b  k K q ) (fun _ _ _ _ => False) n
def fX8_wasted (q : Nat)  (μ : zMem) (K : Int32 → zMem → Prop) : Prop :=
  fX8_wasted_7  K q zFU (-6 : Int32) (-1 : Int32) (0 : Int32) μ
set_option maxRecDepth 100000 in
set_option maxHeartbeats 4000000 in
theorem tX8_wasted_77 {p : Program} {l : Launch} {e : Env} {s : State} {m : MethodId} {args : Array Value} {below : List Frame} {meth : Method} {c : Code} {G : zG} {k7 : Int32 → Int32 → Int32 → zMem → Prop} {K : Int32 → zMem → Prop} (o : za_Ok (z_rm 1 20) 0 0 p s m args meth c G RX8 cX8_wasted 6 (some .int)) {q : Nat} (hq : z_is q 8) (hk7 : ∀ (v1 : Int32) (v2 : Int32) (v3 : Int32) (μ : zMem), k7 v1 v2 v3 μ → za_At p l e (z_rm 1 20) s m args below meth c (MQ below (zQi G K) args s 0 0 (zA G)) G 6 0 0 7 [(0, .ref (G.2.2 + q)), (1, .int v1), (2, .int v2), (3, .int v3)] [] μ) (v1 : Int32) (v2 : Int32) (v3 : Int32) (μ : zMem)  (hf : fX8_wasted_77 k7 K q v1 v2 v3 μ) : za_At p l e (z_rm 1 20) s m args below meth c (MQ below (zQi G K) args s 0 0 (zA G)) G 6 0 0 77 [(0, .ref (G.2.2 + q)), (1, .int v1), (3, .int v2)] [.int v3] μ := by
  unfold fX8_wasted_77 at hf
  refine za_istore_n o [(2, .int v3), (0, .ref (G.2.2 + q)), (1, .int v1), (3, .int v2)] dX8_wasted_77 rfl (by decide) rfl ?_
  obtain ⟨x1, ex1⟩ : ∃ y : Int32, y = v2 + (1 : Int32) := ⟨_, rfl⟩
  replace hf := hf x1 ex1
  refine za_iinc o x1 3 [(3, .int x1), (2, .int v3), (0, .ref (G.2.2 + q)), (1, .int v1)] dX8_wasted_78 rfl (by rw [ex1]; rfl) (by decide) rfl ?_
  refine za_goto o 7 dX8_wasted_81 (by decide) ?_
  refine za_sub [2, 3, 1, 0] rfl ?_
  exact hk7 v1 v3 x1 μ  hf
set_option maxRecDepth 100000 in
set_option maxHeartbeats 4000000 in
theorem tX8_wasted_64 {p : Program} {l : Launch} {e : Env} {s : State} {m : MethodId} {args : Array Value} {below : List Frame} {meth : Method} {c : Code} {G : zG} {k7 : Int32 → Int32 → Int32 → zMem → Prop} {K : Int32 → zMem → Prop} (o : za_Ok (z_rm 1 20) 0 0 p s m args meth c G RX8 cX8_wasted 6 (some .int)) {q : Nat} (hq : z_is q 8) (hk7 : ∀ (v1 : Int32) (v2 : Int32) (v3 : Int32) (μ : zMem), k7 v1 v2 v3 μ → za_At p l e (z_rm 1 20) s m args below meth c (MQ below (zQi G K) args s 0 0 (zA G)) G 6 0 0 7 [(0, .ref (G.2.2 + q)), (1, .int v1), (2, .int v2), (3, .int v3)] [] μ) (v1 : Int32) (v2 : Int32) (v3 : Int32) (v4 : Int32) (μ : zMem)  (hf : fX8_wasted_64 k7 K q v1 v2 v3 v4 μ) : za_At p l e (z_rm 1 20) s m args below meth c (MQ below (zQi G K) args s 0 0 (zA G)) G 6 0 0 64 [(0, .ref (G.2.2 + q)), (2, .int v1), (3, .int v2), (5, .int v3)] [.int v4] μ := by
  unfold fX8_wasted_64 at hf
  refine za_istore_n o [(1, .int v4), (0, .ref (G.2.2 + q)), (2, .int v1), (3, .int v2), (5, .int v3)] dX8_wasted_64 rfl (by decide) rfl ?_
  refine za_iload o 4 dX8_wasted_65 rfl ?_
  refine za_iload_n o 2 dX8_wasted_67 rfl rfl ?_
  refine za_icmp_le o 76 dX8_wasted_68 (by decide) (fun c2 => ?_) (fun c2 => ?_)
  · replace hf := hf.1 c2
    refine za_iload_n o 2 dX8_wasted_76 rfl rfl ?_
    refine za_sub [1, 0, 3] rfl ?_
    exact tX8_wasted_77 o hq hk7 v4 v2 v1 μ  hf
  · replace hf := hf.2 c2
    refine za_iload o 4 dX8_wasted_71 rfl ?_
    refine za_goto o 77 dX8_wasted_73 (by decide) ?_
    refine za_sub [1, 0, 3] rfl ?_
    exact tX8_wasted_77 o hq hk7 v4 v2 v3 μ  hf
set_option maxRecDepth 100000 in
set_option maxHeartbeats 4000000 in
theorem tX8_wasted_51 {p : Program} {l : Launch} {e : Env} {s : State} {m : MethodId} {args : Array Value} {below : List Frame} {meth : Method} {c : Code} {G : zG} {k7 : Int32 → Int32 → Int32 → zMem → Prop} {K : Int32 → zMem → Prop} (o : za_Ok (z_rm 1 20) 0 0 p s m args meth c G RX8 cX8_wasted 6 (some .int)) {q : Nat} (hq : z_is q 8) (hk7 : ∀ (v1 : Int32) (v2 : Int32) (v3 : Int32) (μ : zMem), k7 v1 v2 v3 μ → za_At p l e (z_rm 1 20) s m args below meth c (MQ below (zQi G K) args s 0 0 (zA G)) G 6 0 0 7 [(0, .ref (G.2.2 + q)), (1, .int v1), (2, .int v2), (3, .int v3)] [] μ) (v1 : Int32) (v2 : Int32) (v3 : Int32) (v4 : Int32) (μ : zMem)  (hf : fX8_wasted_51 k7 K q v1 v2 v3 v4 μ) : za_At p l e (z_rm 1 20) s m args below meth c (MQ below (zQi G K) args s 0 0 (zA G)) G 6 0 0 51 [(0, .ref (G.2.2 + q)), (1, .int v1), (2, .int v2), (3, .int v3)] [.int v4] μ := by
  unfold fX8_wasted_51 at hf
  refine za_istore o [(5, .int v4), (0, .ref (G.2.2 + q)), (1, .int v1), (2, .int v2), (3, .int v3)] dX8_wasted_51 (by decide) rfl ?_
  refine za_iload o 0 dX8_wasted_53 rfl ?_
  refine za_iload_n o 3 dX8_wasted_55 rfl rfl ?_
  refine za_icmp_le o 63 dX8_wasted_56 (by decide) (fun c3 => ?_) (fun c3 => ?_)
  · replace hf := hf.1 c3
    refine za_iload_n o 2 dX8_wasted_63 rfl rfl ?_
    refine za_sub [1, 3, 4, 0] rfl ?_
    exact tX8_wasted_64 o hq hk7 v2 v3 v4 v1 μ  hf
  · replace hf := hf.2 c3
    refine za_iload_n o 4 dX8_wasted_59 rfl rfl ?_
    refine za_goto o 64 dX8_wasted_60 (by decide) ?_
    refine za_sub [1, 3, 4, 0] rfl ?_
    exact tX8_wasted_64 o hq hk7 v2 v3 v4 v3 μ  hf
set_option maxRecDepth 100000 in
set_option maxHeartbeats 4000000 in
theorem tX8_wasted_7b {p : Program} {l : Launch} {e : Env} {s : State} {m : MethodId} {args : Array Value} {below : List Frame} {meth : Method} {c : Code} {G : zG} {k7 : Int32 → Int32 → Int32 → zMem → Prop} {K : Int32 → zMem → Prop} (o : za_Ok (z_rm 1 20) 0 0 p s m args meth c G RX8 cX8_wasted 6 (some .int)) {q : Nat} (hq : z_is q 8) (hk7 : ∀ (v1 : Int32) (v2 : Int32) (v3 : Int32) (μ : zMem), k7 v1 v2 v3 μ → za_At p l e (z_rm 1 20) s m args below meth c (MQ below (zQi G K) args s 0 0 (zA G)) G 6 0 0 7 [(0, .ref (G.2.2 + q)), (1, .int v1), (2, .int v2), (3, .int v3)] [] μ) (v1 : Int32) (v2 : Int32) (v3 : Int32) (μ : zMem)  (hf : fX8_wasted_7b k7 K q v1 v2 v3 μ) : za_At p l e (z_rm 1 20) s m args below meth c (MQ below (zQi G K) args s 0 0 (zA G)) G 6 0 0 7 [(0, .ref (G.2.2 + q)), (1, .int v1), (2, .int v2), (3, .int v3)] [] μ := by
  unfold fX8_wasted_7b at hf
  refine za_iload_n o 3 dX8_wasted_7 rfl rfl ?_
  refine za_iconst (v := (3 : Int32)) o dX8_wasted_8 (by decide) ?_
  refine za_icmp_ge o 84 dX8_wasted_9 (by decide) (fun c4 => ?_) (fun c4 => ?_)
  · replace hf := hf.1 c4
    refine za_iload_n o 1 dX8_wasted_84 rfl rfl ?_
    exact za_iret o rfl hf dX8_wasted_85
  · replace hf := hf.2 c4
    refine za_aload_n o 0 dX8_wasted_12 rfl rfl ?_
    refine za_getf o 0 zc8 hq (Nat.le_of_ble_eq_true rfl) wfX8_7 rfl dX8_wasted_13 ?_
    refine za_iload_n o 3 dX8_wasted_16 rfl rfl ?_
    refine za_callSi o [.int v3] (ctX8_d l G v3  μ _ hf) mwX8_d wmX8_51 wtX8_d rfl ⟨Nat.le_of_ble_eq_true rfl, Nat.le_of_ble_eq_true rfl⟩ rfl (Nat.le_of_ble_eq_true rfl) dX8_wasted_17 (fun r5 m6 hf => ?_)
    refine za_iconst (v := (4 : Int32)) o dX8_wasted_20 (by decide) ?_
    refine za_iadd o dX8_wasted_21 ?_
    refine za_topi (fun x7 ex7 => ?_)
    replace hf := hf x7 ex7
    obtain ⟨g8, hf⟩ := hf
    refine za_iald o zk_m0 rfl g8 dX8_wasted_22 ?_
    refine za_topi (fun x9 ex9 => ?_)
    replace hf := hf x9 ex9
    refine za_istore o [(4, .int x9), (0, .ref (G.2.2 + q)), (1, .int v1), (2, .int v2), (3, .int v3)] dX8_wasted_23 (by decide) rfl ?_
    refine za_iload o 0 dX8_wasted_25 rfl ?_
    refine za_if_ne o 34 dX8_wasted_27 (by decide) (fun c10 => ?_) (fun c10 => ?_)
    · replace hf := hf.1 c10
      refine za_bipush (v := (100 : Int32)) o dX8_wasted_34 (by decide) ?_
      refine za_iload o 0 dX8_wasted_36 rfl ?_
      refine za_imul o dX8_wasted_38 ?_
      refine za_topi (fun x11 ex11 => ?_)
      replace hf := hf x11 ex11
      refine za_aload_n o 1 dX8_wasted_39 rfl rfl ?_
      refine za_getf o 0 zc8 hq (Nat.le_of_ble_eq_true rfl) wfX8_7 rfl dX8_wasted_40 ?_
      refine za_iload_n o 4 dX8_wasted_43 rfl rfl ?_
      refine za_callSi o [.int v3] (ctX8_d l G v3  m6 _ hf) mwX8_d wmX8_51 wtX8_d rfl ⟨Nat.le_of_ble_eq_true rfl, Nat.le_of_ble_eq_true rfl⟩ rfl (Nat.le_of_ble_eq_true rfl) dX8_wasted_44 (fun r12 m13 hf => ?_)
      refine za_iconst (v := (2 : Int32)) o dX8_wasted_47 (by decide) ?_
      refine za_iadd o dX8_wasted_48 ?_
      refine za_topi (fun x14 ex14 => ?_)
      replace hf := hf x14 ex14
      obtain ⟨g15, hf⟩ := hf
      refine za_iald o zk_m0 rfl g15 dX8_wasted_49 ?_
      refine za_topi (fun x16 ex16 => ?_)
      replace hf := hf x16 ex16
      obtain ⟨g17, hf⟩ := hf
      refine za_idiv o dX8_wasted_50 g17 ?_
      refine za_topi (fun x18 ex18 => ?_)
      replace hf := hf x18 ex18
      refine za_sub [1, 2, 3, 4] rfl ?_
      exact tX8_wasted_51 o hq hk7 v1 v2 v3 x18 m13  hf
    · replace hf := hf.2 c10
      refine za_iconst (v := (-1 : Int32)) o dX8_wasted_30 (by decide) ?_
      refine za_goto o 51 dX8_wasted_31 (by decide) ?_
      refine za_sub [1, 2, 3, 4] rfl ?_
      exact tX8_wasted_51 o hq hk7 v1 v2 v3 (-1 : Int32) m6  hf
theorem tX8_wasted_7 {p : Program} {l : Launch} {e : Env} {s : State} {m : MethodId} {args : Array Value} {below : List Frame} {meth : Method} {c : Code} {G : zG}  {K : Int32 → zMem → Prop} (o : za_Ok (z_rm 1 20) 0 0 p s m args meth c G RX8 cX8_wasted 6 (some .int)) {q : Nat} (hq : z_is q 8)  (n : Nat) : ∀ (v1 : Int32) (v2 : Int32) (v3 : Int32) (μ : zMem), fX8_wasted_7  K q n v1 v2 v3 μ → za_At p l e (z_rm 1 20) s m args below meth c (MQ below (zQi G K) args s 0 0 (zA G)) G 6 0 0 7 [(0, .ref (G.2.2 + q)), (1, .int v1), (2, .int v2), (3, .int v3)] [] μ := by
  induction n with
  | zero => intro _ _ _ _ hf; exact hf.elim
  | succ n ih => intro v1 v2 v3 μ  hf; exact tX8_wasted_7b o hq  ih v1 v2 v3 μ  hf
set_option maxRecDepth 100000 in
set_option maxHeartbeats 4000000 in
theorem ctX8_wasted (l : Launch) (G : zG) {q : Nat} (hq : z_is q 8)   (μ : zMem) (K : Int32 → zMem → Prop) (hf : fX8_wasted q  μ K) : z_Met l G yX8_wasted cX8_wasted 6 (some .int) (z_rm 1 20) [.ref (G.2.2 + q)] μ K := by
  refine z_body (by decide) (Nat.le_of_ble_eq_true rfl) (fun p e s m args below meth c o => ?_)
  have o : za_Ok (z_rm 1 20) 0 0 p s m args meth c G RX8 cX8_wasted 6 (some .int) := o
  show za_At p l e (z_rm 1 20) s m args below meth c (MQ below (zQi G K) args s 0 0 (zA G)) G 6 0 0 0 [(0, .ref (G.2.2 + q))] [] μ
  unfold fX8_wasted at hf
  refine za_bipush (v := (-6 : Int32)) o dX8_wasted_0 (by decide) ?_
  refine za_istore_n o [(1, .int (-6 : Int32)), (0, .ref (G.2.2 + q))] dX8_wasted_2 rfl (by decide) rfl ?_
  refine za_iconst (v := (-1 : Int32)) o dX8_wasted_3 (by decide) ?_
  refine za_istore_n o [(2, .int (-1 : Int32)), (1, .int (-6 : Int32)), (0, .ref (G.2.2 + q))] dX8_wasted_4 rfl (by decide) rfl ?_
  refine za_iconst (v := (0 : Int32)) o dX8_wasted_5 (by decide) ?_
  refine za_istore_n o [(3, .int (0 : Int32)), (2, .int (-1 : Int32)), (1, .int (-6 : Int32)), (0, .ref (G.2.2 + q))] dX8_wasted_6 rfl (by decide) rfl ?_
  refine za_sub [3, 2, 1, 0] rfl ?_
  exact tX8_wasted_7 o hq  zFU (-6 : Int32) (-1 : Int32) (0 : Int32) μ  hf
def fX8_isSign_42  (K : Int32 → zMem → Prop) (q : Nat) (v1 : Int32) (μ : zMem) : Prop :=
  (z_b v1 ∧ K v1 μ)
def fX8_isSign_41  (K : Int32 → zMem → Prop) (q : Nat)  (μ : zMem) : Prop :=
  fX8_isSign_42  K q (0 : Int32) μ
def fX8_isSign (q : Nat) (a1 : Int32) (a2 : Int32) (μ : zMem) (K : Int32 → zMem → Prop) : Prop :=
  (((μ q 7) ≤ (μ q 10) → fX8_isSign_41  K q  μ) ∧ (¬ (μ q 7) ≤ (μ q 10) → (vp_in (μ q 10) 80 ∧ (∀ x3 : Int32, x3 = (μ 536 ((μ q 10)).toNatClampNeg) → ((x3 < a1 → fX8_isSign_41  K q  μ) ∧ (¬ x3 < a1 → (vp_in (μ q 10) 80 ∧ (∀ x6 : Int32, x6 = (μ 536 ((μ q 10)).toNatClampNeg) → ((a2 < x6 → fX8_isSign_41  K q  μ) ∧ (¬ a2 < x6 → fX8_isSign_42  K q (1 : Int32) μ))))))))))
set_option maxRecDepth 100000 in
set_option maxHeartbeats 4000000 in
theorem tX8_isSign_42 {p : Program} {l : Launch} {e : Env} {s : State} {m : MethodId} {args : Array Value} {below : List Frame} {meth : Method} {c : Code} {G : zG}  {K : Int32 → zMem → Prop} (o : za_Ok (z_rm 0 0) 0 0 p s m args meth c G RX8 cX8_isSign 3 (some .boolean)) {q : Nat} (hq : z_is q 8)  (v1 : Int32) (μ : zMem)  (hf : fX8_isSign_42  K q v1 μ) : za_At p l e (z_rm 0 0) s m args below meth c (MQ below (zQi G K) args s 0 0 (zA G)) G 3 0 0 42 [] [.int v1] μ := by
  unfold fX8_isSign_42 at hf
  exact za_zret o rfl hf.1 hf.2 dX8_isSign_42
set_option maxRecDepth 100000 in
set_option maxHeartbeats 4000000 in
theorem tX8_isSign_41 {p : Program} {l : Launch} {e : Env} {s : State} {m : MethodId} {args : Array Value} {below : List Frame} {meth : Method} {c : Code} {G : zG}  {K : Int32 → zMem → Prop} (o : za_Ok (z_rm 0 0) 0 0 p s m args meth c G RX8 cX8_isSign 3 (some .boolean)) {q : Nat} (hq : z_is q 8)   (μ : zMem)  (hf : fX8_isSign_41  K q  μ) : za_At p l e (z_rm 0 0) s m args below meth c (MQ below (zQi G K) args s 0 0 (zA G)) G 3 0 0 41 [] [] μ := by
  unfold fX8_isSign_41 at hf
  refine za_iconst (v := (0 : Int32)) o dX8_isSign_41 (by decide) ?_
  exact tX8_isSign_42 o hq  (0 : Int32) μ  hf
set_option maxRecDepth 100000 in
set_option maxHeartbeats 4000000 in
theorem ctX8_isSign (l : Launch) (G : zG) {q : Nat} (hq : z_is q 8) (a1 : Int32) (a2 : Int32)  (μ : zMem) (K : Int32 → zMem → Prop) (hf : fX8_isSign q a1 a2 μ K) : z_Met l G yX8_isSign cX8_isSign 3 (some .boolean) (z_rm 0 0) [.ref (G.2.2 + q), .int a1, .int a2] μ K := by
  refine z_body (by decide) (Nat.le_of_ble_eq_true rfl) (fun p e s m args below meth c o => ?_)
  have o : za_Ok (z_rm 0 0) 0 0 p s m args meth c G RX8 cX8_isSign 3 (some .boolean) := o
  show za_At p l e (z_rm 0 0) s m args below meth c (MQ below (zQi G K) args s 0 0 (zA G)) G 3 0 0 0 [(0, .ref (G.2.2 + q)), (1, .int a1), (2, .int a2)] [] μ
  unfold fX8_isSign at hf
  refine za_aload_n o 0 dX8_isSign_0 rfl rfl ?_
  refine za_getf o 10 zc8 hq (Nat.le_of_ble_eq_true rfl) wfX8_129 rfl dX8_isSign_1 ?_
  refine za_aload_n o 0 dX8_isSign_4 rfl rfl ?_
  refine za_getf o 7 zc8 hq (Nat.le_of_ble_eq_true rfl) wfX8_125 rfl dX8_isSign_5 ?_
  refine za_icmp_ge o 41 dX8_isSign_8 (by decide) (fun c1 => ?_) (fun c1 => ?_)
  · replace hf := hf.1 c1
    refine za_sub [] rfl ?_
    exact tX8_isSign_41 o hq   μ  hf
  · replace hf := hf.2 c1
    refine za_aload_n o 0 dX8_isSign_11 rfl rfl ?_
    refine za_getf o 6 zc8 hq (Nat.le_of_ble_eq_true rfl) wfX8_29 rfl dX8_isSign_12 ?_
    refine za_aload_n o 0 dX8_isSign_15 rfl rfl ?_
    refine za_getf o 10 zc8 hq (Nat.le_of_ble_eq_true rfl) wfX8_129 rfl dX8_isSign_16 ?_
    obtain ⟨g2, hf⟩ := hf
    refine za_cald o zk_m6 rfl g2 dX8_isSign_19 ?_
    refine za_topi (fun x3 ex3 => ?_)
    replace hf := hf x3 ex3
    refine za_iload_n o 1 dX8_isSign_20 rfl rfl ?_
    refine za_icmp_lt o 41 dX8_isSign_21 (by decide) (fun c4 => ?_) (fun c4 => ?_)
    · replace hf := hf.1 c4
      refine za_sub [] rfl ?_
      exact tX8_isSign_41 o hq   μ  hf
    · replace hf := hf.2 c4
      refine za_aload_n o 0 dX8_isSign_24 rfl rfl ?_
      refine za_getf o 6 zc8 hq (Nat.le_of_ble_eq_true rfl) wfX8_29 rfl dX8_isSign_25 ?_
      refine za_aload_n o 0 dX8_isSign_28 rfl rfl ?_
      refine za_getf o 10 zc8 hq (Nat.le_of_ble_eq_true rfl) wfX8_129 rfl dX8_isSign_29 ?_
      obtain ⟨g5, hf⟩ := hf
      refine za_cald o zk_m6 rfl g5 dX8_isSign_32 ?_
      refine za_topi (fun x6 ex6 => ?_)
      replace hf := hf x6 ex6
      refine za_iload_n o 2 dX8_isSign_33 rfl rfl ?_
      refine za_icmp_gt o 41 dX8_isSign_34 (by decide) (fun c7 => ?_) (fun c7 => ?_)
      · replace hf := hf.1 c7
        refine za_sub [] rfl ?_
        exact tX8_isSign_41 o hq   μ  hf
      · replace hf := hf.2 c7
        refine za_iconst (v := (1 : Int32)) o dX8_isSign_37 (by decide) ?_
        refine za_goto o 42 dX8_isSign_38 (by decide) ?_
        refine za_sub [] rfl ?_
        exact tX8_isSign_42 o hq  (1 : Int32) μ  hf
def fX8_accepts_21  (K : Int32 → zMem → Prop) (q : Nat) (v1 : Int32) (v2 : Int32) (v3 : Int32) (v4 : Nat) (μ : zMem) : Prop :=
  (∀ x1 : Int32, x1 = (v3 + v2) → (∀ m2 : zMem, m2 = z_up μ v4 10 x1 → (z_b v1 ∧ K v1 m2)))
def fX8_accepts (q : Nat) (a1 : Int32) (μ : zMem) (K : Int32 → zMem → Prop) : Prop :=
  fX8_isSign q a1 a1 μ (fun r3 m4 => ((r3 = 0 → fX8_accepts_21  K q r3 (0 : Int32) (m4 q 10) q m4) ∧ (¬ r3 = 0 → fX8_accepts_21  K q r3 (1 : Int32) (m4 q 10) q m4)))
set_option maxRecDepth 100000 in
set_option maxHeartbeats 4000000 in
theorem tX8_accepts_21 {p : Program} {l : Launch} {e : Env} {s : State} {m : MethodId} {args : Array Value} {below : List Frame} {meth : Method} {c : Code} {G : zG}  {K : Int32 → zMem → Prop} (o : za_Ok (z_rm 1 22) 0 0 p s m args meth c G RX8 cX8_accepts 3 (some .boolean)) {q : Nat} (hq : z_is q 8)  (v1 : Int32) (v2 : Int32) (v3 : Int32) (v4 : Nat) (μ : zMem) (hv4 : z_is v4 8) (hf : fX8_accepts_21  K q v1 v2 v3 v4 μ) : za_At p l e (z_rm 1 22) s m args below meth c (MQ below (zQi G K) args s 0 0 (zA G)) G 3 0 0 21 [(2, .int v1)] [.int v2, .int v3, .ref (G.2.2 + v4)] μ := by
  unfold fX8_accepts_21 at hf
  refine za_iadd o dX8_accepts_21 ?_
  refine za_topi (fun x1 ex1 => ?_)
  replace hf := hf x1 ex1
  refine za_putf (ty := .int) o 10 zc8 hv4 (Nat.le_of_ble_eq_true rfl) wfX8_129 rfl (by decide +kernel) rfl rfl (Nat.le_of_ble_eq_true rfl) rfl dX8_accepts_22 ?_
  refine za_mem (fun m2 em2 => ?_)
  replace hf := hf m2 em2
  refine za_iload_n o 0 dX8_accepts_25 rfl rfl ?_
  exact za_zret o rfl hf.1 hf.2 dX8_accepts_26
set_option maxRecDepth 100000 in
set_option maxHeartbeats 4000000 in
theorem ctX8_accepts (l : Launch) (G : zG) {q : Nat} (hq : z_is q 8) (a1 : Int32)  (μ : zMem) (K : Int32 → zMem → Prop) (hf : fX8_accepts q a1 μ K) : z_Met l G yX8_accepts cX8_accepts 3 (some .boolean) (z_rm 1 22) [.ref (G.2.2 + q), .int a1] μ K := by
  refine z_body (by decide) (Nat.le_of_ble_eq_true rfl) (fun p e s m args below meth c o => ?_)
  have o : za_Ok (z_rm 1 22) 0 0 p s m args meth c G RX8 cX8_accepts 3 (some .boolean) := o
  show za_At p l e (z_rm 1 22) s m args below meth c (MQ below (zQi G K) args s 0 0 (zA G)) G 3 0 0 0 [(0, .ref (G.2.2 + q)), (1, .int a1)] [] μ
  unfold fX8_accepts at hf
  refine za_aload_n o 0 dX8_accepts_0 rfl rfl ?_
  refine za_iload_n o 1 dX8_accepts_1 rfl rfl ?_
  refine za_iload_n o 1 dX8_accepts_2 rfl rfl ?_
  refine za_callVi o [.int a1, .int a1] (ctX8_isSign l G hq a1 a1  μ _ hf) zc8 hq mwX8_isSign wmX8_132 wiX8_isSign wsX8_isSign rfl ⟨Nat.le_of_ble_eq_true rfl, Nat.le_of_ble_eq_true rfl⟩ rfl (Nat.le_of_ble_eq_true rfl) dX8_accepts_3 (fun r3 m4 hf => ?_)
  refine za_istore_n o [(2, .int r3), (0, .ref (G.2.2 + q)), (1, .int a1)] dX8_accepts_6 rfl (by decide) rfl ?_
  refine za_aload_n o 1 dX8_accepts_7 rfl rfl ?_
  refine za_dup o dX8_accepts_8 rfl ?_
  refine za_getf o 10 zc8 hq (Nat.le_of_ble_eq_true rfl) wfX8_129 rfl dX8_accepts_9 ?_
  refine za_iload_n o 0 dX8_accepts_12 rfl rfl ?_
  refine za_if_eq o 20 dX8_accepts_13 (by decide) (fun c5 => ?_) (fun c5 => ?_)
  · replace hf := hf.1 c5
    refine za_iconst (v := (0 : Int32)) o dX8_accepts_20 (by decide) ?_
    refine za_sub [0] rfl ?_
    exact tX8_accepts_21 o hq  r3 (0 : Int32) (m4 q 10) q m4 hq hf
  · replace hf := hf.2 c5
    refine za_iconst (v := (1 : Int32)) o dX8_accepts_16 (by decide) ?_
    refine za_goto o 21 dX8_accepts_17 (by decide) ?_
    refine za_sub [0] rfl ?_
    exact tX8_accepts_21 o hq  r3 (1 : Int32) (m4 q 10) q m4 hq hf
