/-! X8_of X8_ofDish X8_ordered X8_ofDishes X8_ofPeople -/
def fX8_of_103  (K : Int32 → zMem → Prop) (q : Nat) (v1 : Int32) (μ : zMem) : Prop :=
  K v1 μ
def fX8_of (q : Nat) (a1 : Int32) (a2 : Int32) (μ : zMem) (K : Int32 → zMem → Prop) : Prop :=
  fX8_isPerson q a1 μ (fun r1 m2 => ((¬ r1 = 0 → fX8_p a1 m2 (fun r4 m5 => ((a2 = (0 : Int32) → (∀ x7 : Int32, x7 = (r4 + (0 : Int32)) → (vp_in x7 276 ∧ (∀ x9 : Int32, x9 = (m5 530 x7.toNatClampNeg) → K x9 m5)))) ∧ (¬ a2 = (0 : Int32) → ((a2 = (1 : Int32) → (∀ x11 : Int32, x11 = (r4 + (1 : Int32)) → (vp_in x11 276 ∧ (∀ x13 : Int32, x13 = (m5 530 x11.toNatClampNeg) → ((¬ x13 = 0 → (∀ x15 : Int32, x15 = (r4 + (1 : Int32)) → (vp_in x15 276 ∧ (∀ x17 : Int32, x17 = (m5 530 x15.toNatClampNeg) → (∀ x18 : Int32, x18 = (x17 - (1 : Int32)) → fX8_of_103  K q x18 m5))))) ∧ (x13 = 0 → fX8_of_103  K q (-6 : Int32) m5)))))) ∧ (¬ a2 = (1 : Int32) → ((a2 = (2 : Int32) → fX8_daysOf q a1 m5 (fun r20 m21 => K r20 m21)) ∧ (¬ a2 = (2 : Int32) → ((a2 = (3 : Int32) → (∀ x23 : Int32, x23 = (r4 + (11 : Int32)) → (∀ x24 : Int32, x24 = (x23 + a2) → (∀ x25 : Int32, x25 = (x24 - (3 : Int32)) → (vp_in x25 276 ∧ (∀ x27 : Int32, x27 = (m5 530 x25.toNatClampNeg) → K x27 m5)))))) ∧ (¬ a2 = (3 : Int32) → ((a2 = (4 : Int32) → (∀ x29 : Int32, x29 = (r4 + (11 : Int32)) → (∀ x30 : Int32, x30 = (x29 + a2) → (∀ x31 : Int32, x31 = (x30 - (3 : Int32)) → (vp_in x31 276 ∧ (∀ x33 : Int32, x33 = (m5 530 x31.toNatClampNeg) → K x33 m5)))))) ∧ (¬ a2 = (4 : Int32) → ((a2 = (5 : Int32) → (∀ x35 : Int32, x35 = (r4 + (11 : Int32)) → (∀ x36 : Int32, x36 = (x35 + a2) → (∀ x37 : Int32, x37 = (x36 - (3 : Int32)) → (vp_in x37 276 ∧ (∀ x39 : Int32, x39 = (m5 530 x37.toNatClampNeg) → K x39 m5)))))) ∧ (¬ a2 = (5 : Int32) → ((a2 = (6 : Int32) → (∀ x41 : Int32, x41 = (r4 + (11 : Int32)) → (∀ x42 : Int32, x42 = (x41 + a2) → (∀ x43 : Int32, x43 = (x42 - (3 : Int32)) → (vp_in x43 276 ∧ (∀ x45 : Int32, x45 = (m5 530 x43.toNatClampNeg) → K x45 m5)))))) ∧ (¬ a2 = (6 : Int32) → ((a2 = (7 : Int32) → (∀ x47 : Int32, x47 = (r4 + (11 : Int32)) → (∀ x48 : Int32, x48 = (x47 + a2) → (∀ x49 : Int32, x49 = (x48 - (3 : Int32)) → (vp_in x49 276 ∧ (∀ x51 : Int32, x51 = (m5 530 x49.toNatClampNeg) → K x51 m5)))))) ∧ (¬ a2 = (7 : Int32) → ((a2 = (8 : Int32) → (∀ x53 : Int32, x53 = (r4 + (11 : Int32)) → (∀ x54 : Int32, x54 = (x53 + a2) → (∀ x55 : Int32, x55 = (x54 - (3 : Int32)) → (vp_in x55 276 ∧ (∀ x57 : Int32, x57 = (m5 530 x55.toNatClampNeg) → K x57 m5)))))) ∧ (¬ a2 = (8 : Int32) → K (-2 : Int32) m5)))))))))))))))))))) ∧ (r1 = 0 → K (-1 : Int32) m2)))
set_option maxRecDepth 100000 in
set_option maxHeartbeats 4000000 in
theorem tX8_of_103 {p : Program} {l : Launch} {e : Env} {s : State} {m : MethodId} {args : Array Value} {below : List Frame} {meth : Method} {c : Code} {G : zG}  {K : Int32 → zMem → Prop} (o : za_Ok (z_rm 2 43) 0 0 p s m args meth c G RX8 cX8_of 4 (some .int)) {q : Nat} (hq : z_is q 8)  (v1 : Int32) (μ : zMem)  (hf : fX8_of_103  K q v1 μ) : za_At p l e (z_rm 2 43) s m args below meth c (MQ below (zQi G K) args s 0 0 (zA G)) G 4 0 0 103 [] [.int v1] μ := by
  unfold fX8_of_103 at hf
  exact za_iret o rfl hf dX8_of_103
set_option maxRecDepth 100000 in
set_option maxHeartbeats 4000000 in
theorem ctX8_of (l : Launch) (G : zG) {q : Nat} (hq : z_is q 8) (a1 : Int32) (a2 : Int32)  (μ : zMem) (K : Int32 → zMem → Prop) (hf : fX8_of q a1 a2 μ K) : z_Met l G yX8_of cX8_of 4 (some .int) (z_rm 2 43) [.ref (G.2.2 + q), .int a1, .int a2] μ K := by
  refine z_body (by decide) (Nat.le_of_ble_eq_true rfl) (fun p e s m args below meth c o => ?_)
  have o : za_Ok (z_rm 2 43) 0 0 p s m args meth c G RX8 cX8_of 4 (some .int) := o
  show za_At p l e (z_rm 2 43) s m args below meth c (MQ below (zQi G K) args s 0 0 (zA G)) G 4 0 0 0 [(0, .ref (G.2.2 + q)), (1, .int a1), (2, .int a2)] [] μ
  unfold fX8_of at hf
  refine za_aload_n o 0 dX8_of_0 rfl rfl ?_
  refine za_iload_n o 1 dX8_of_1 rfl rfl ?_
  refine za_callVi o [.int a1] (ctX8_isPerson l G hq a1  μ _ hf) zc8 hq mwX8_isPerson wmX8_54 wiX8_isPerson wsX8_isPerson rfl ⟨Nat.le_of_ble_eq_true rfl, Nat.le_of_ble_eq_true rfl⟩ rfl (Nat.le_of_ble_eq_true rfl) dX8_of_2 (fun r1 m2 hf => ?_)
  refine za_if_ne o 10 dX8_of_5 (by decide) (fun c3 => ?_) (fun c3 => ?_)
  · replace hf := hf.1 c3
    refine za_iload_n o 1 dX8_of_10 rfl rfl ?_
    refine za_callSi o [.int a1] (ctX8_p l G a1  m2 _ hf) mwX8_p wmX8_41 wtX8_p rfl ⟨Nat.le_of_ble_eq_true rfl, Nat.le_of_ble_eq_true rfl⟩ rfl (Nat.le_of_ble_eq_true rfl) dX8_of_11 (fun r4 m5 hf => ?_)
    refine za_istore_n o [(3, .int r4), (0, .ref (G.2.2 + q)), (1, .int a1), (2, .int a2)] dX8_of_14 rfl (by decide) rfl ?_
    refine za_iload_n o 3 dX8_of_15 rfl rfl ?_
    by_cases c6 : a2 = (0 : Int32)
    · replace hf := hf.1 c6
      refine za_tswE o 68 c6 dX8_of_16 (by decide) (by decide) rfl (by decide) ?_
      refine za_aload_n o 1 dX8_of_68 rfl rfl ?_
      refine za_getf o 0 zc8 hq (Nat.le_of_ble_eq_true rfl) wfX8_7 rfl dX8_of_69 ?_
      refine za_iload_n o 0 dX8_of_72 rfl rfl ?_
      refine za_iconst (v := (0 : Int32)) o dX8_of_73 (by decide) ?_
      refine za_iadd o dX8_of_74 ?_
      refine za_topi (fun x7 ex7 => ?_)
      replace hf := hf x7 ex7
      obtain ⟨g8, hf⟩ := hf
      refine za_iald o zk_m0 rfl g8 dX8_of_75 ?_
      refine za_topi (fun x9 ex9 => ?_)
      replace hf := hf x9 ex9
      exact za_iret o rfl hf dX8_of_76
    · replace hf := hf.2 c6
      by_cases c10 : a2 = (1 : Int32)
      · replace hf := hf.1 c10
        refine za_tswE o 77 c10 dX8_of_16 (by decide) (by decide) rfl (by decide) ?_
        refine za_aload_n o 1 dX8_of_77 rfl rfl ?_
        refine za_getf o 0 zc8 hq (Nat.le_of_ble_eq_true rfl) wfX8_7 rfl dX8_of_78 ?_
        refine za_iload_n o 0 dX8_of_81 rfl rfl ?_
        refine za_iconst (v := (1 : Int32)) o dX8_of_82 (by decide) ?_
        refine za_iadd o dX8_of_83 ?_
        refine za_topi (fun x11 ex11 => ?_)
        replace hf := hf x11 ex11
        obtain ⟨g12, hf⟩ := hf
        refine za_iald o zk_m0 rfl g12 dX8_of_84 ?_
        refine za_topi (fun x13 ex13 => ?_)
        replace hf := hf x13 ex13
        refine za_if_ne o 93 dX8_of_85 (by decide) (fun c14 => ?_) (fun c14 => ?_)
        · replace hf := hf.1 c14
          refine za_aload_n o 1 dX8_of_93 rfl rfl ?_
          refine za_getf o 0 zc8 hq (Nat.le_of_ble_eq_true rfl) wfX8_7 rfl dX8_of_94 ?_
          refine za_iload_n o 0 dX8_of_97 rfl rfl ?_
          refine za_iconst (v := (1 : Int32)) o dX8_of_98 (by decide) ?_
          refine za_iadd o dX8_of_99 ?_
          refine za_topi (fun x15 ex15 => ?_)
          replace hf := hf x15 ex15
          obtain ⟨g16, hf⟩ := hf
          refine za_iald o zk_m0 rfl g16 dX8_of_100 ?_
          refine za_topi (fun x17 ex17 => ?_)
          replace hf := hf x17 ex17
          refine za_iconst (v := (1 : Int32)) o dX8_of_101 (by decide) ?_
          refine za_isub o dX8_of_102 ?_
          refine za_topi (fun x18 ex18 => ?_)
          replace hf := hf x18 ex18
          refine za_sub [] rfl ?_
          exact tX8_of_103 o hq  x18 m5  hf
        · replace hf := hf.2 c14
          refine za_bipush (v := (-6 : Int32)) o dX8_of_88 (by decide) ?_
          refine za_goto o 103 dX8_of_90 (by decide) ?_
          refine za_sub [] rfl ?_
          exact tX8_of_103 o hq  (-6 : Int32) m5  hf
      · replace hf := hf.2 c10
        by_cases c19 : a2 = (2 : Int32)
        · replace hf := hf.1 c19
          refine za_tswE o 104 c19 dX8_of_16 (by decide) (by decide) rfl (by decide) ?_
          refine za_aload_n o 1 dX8_of_104 rfl rfl ?_
          refine za_iload_n o 2 dX8_of_105 rfl rfl ?_
          refine za_callVi o [.int a1] (ctX8_daysOf l G hq a1  m5 _ hf) zc8 hq mwX8_daysOf wmX8_116 wiX8_daysOf wsX8_daysOf rfl ⟨Nat.le_of_ble_eq_true rfl, Nat.le_of_ble_eq_true rfl⟩ rfl (Nat.le_of_ble_eq_true rfl) dX8_of_106 (fun r20 m21 hf => ?_)
          exact za_iret o rfl hf dX8_of_109
        · replace hf := hf.2 c19
          by_cases c22 : a2 = (3 : Int32)
          · replace hf := hf.1 c22
            refine za_tswE o 110 c22 dX8_of_16 (by decide) (by decide) rfl (by decide) ?_
            refine za_aload_n o 1 dX8_of_110 rfl rfl ?_
            refine za_getf o 0 zc8 hq (Nat.le_of_ble_eq_true rfl) wfX8_7 rfl dX8_of_111 ?_
            refine za_iload_n o 0 dX8_of_114 rfl rfl ?_
            refine za_bipush (v := (11 : Int32)) o dX8_of_115 (by decide) ?_
            refine za_iadd o dX8_of_117 ?_
            refine za_topi (fun x23 ex23 => ?_)
            replace hf := hf x23 ex23
            refine za_iload_n o 3 dX8_of_118 rfl rfl ?_
            refine za_iadd o dX8_of_119 ?_
            refine za_topi (fun x24 ex24 => ?_)
            replace hf := hf x24 ex24
            refine za_iconst (v := (3 : Int32)) o dX8_of_120 (by decide) ?_
            refine za_isub o dX8_of_121 ?_
            refine za_topi (fun x25 ex25 => ?_)
            replace hf := hf x25 ex25
            obtain ⟨g26, hf⟩ := hf
            refine za_iald o zk_m0 rfl g26 dX8_of_122 ?_
            refine za_topi (fun x27 ex27 => ?_)
            replace hf := hf x27 ex27
            exact za_iret o rfl hf dX8_of_123
          · replace hf := hf.2 c22
            by_cases c28 : a2 = (4 : Int32)
            · replace hf := hf.1 c28
              refine za_tswE o 110 c28 dX8_of_16 (by decide) (by decide) rfl (by decide) ?_
              refine za_aload_n o 1 dX8_of_110 rfl rfl ?_
              refine za_getf o 0 zc8 hq (Nat.le_of_ble_eq_true rfl) wfX8_7 rfl dX8_of_111 ?_
              refine za_iload_n o 0 dX8_of_114 rfl rfl ?_
              refine za_bipush (v := (11 : Int32)) o dX8_of_115 (by decide) ?_
              refine za_iadd o dX8_of_117 ?_
              refine za_topi (fun x29 ex29 => ?_)
              replace hf := hf x29 ex29
              refine za_iload_n o 3 dX8_of_118 rfl rfl ?_
              refine za_iadd o dX8_of_119 ?_
              refine za_topi (fun x30 ex30 => ?_)
              replace hf := hf x30 ex30
              refine za_iconst (v := (3 : Int32)) o dX8_of_120 (by decide) ?_
              refine za_isub o dX8_of_121 ?_
              refine za_topi (fun x31 ex31 => ?_)
              replace hf := hf x31 ex31
              obtain ⟨g32, hf⟩ := hf
              refine za_iald o zk_m0 rfl g32 dX8_of_122 ?_
              refine za_topi (fun x33 ex33 => ?_)
              replace hf := hf x33 ex33
              exact za_iret o rfl hf dX8_of_123
            · replace hf := hf.2 c28
              by_cases c34 : a2 = (5 : Int32)
              · replace hf := hf.1 c34
                refine za_tswE o 110 c34 dX8_of_16 (by decide) (by decide) rfl (by decide) ?_
                refine za_aload_n o 1 dX8_of_110 rfl rfl ?_
                refine za_getf o 0 zc8 hq (Nat.le_of_ble_eq_true rfl) wfX8_7 rfl dX8_of_111 ?_
                refine za_iload_n o 0 dX8_of_114 rfl rfl ?_
                refine za_bipush (v := (11 : Int32)) o dX8_of_115 (by decide) ?_
                refine za_iadd o dX8_of_117 ?_
                refine za_topi (fun x35 ex35 => ?_)
                replace hf := hf x35 ex35
                refine za_iload_n o 3 dX8_of_118 rfl rfl ?_
                refine za_iadd o dX8_of_119 ?_
                refine za_topi (fun x36 ex36 => ?_)
                replace hf := hf x36 ex36
                refine za_iconst (v := (3 : Int32)) o dX8_of_120 (by decide) ?_
                refine za_isub o dX8_of_121 ?_
                refine za_topi (fun x37 ex37 => ?_)
                replace hf := hf x37 ex37
                obtain ⟨g38, hf⟩ := hf
                refine za_iald o zk_m0 rfl g38 dX8_of_122 ?_
                refine za_topi (fun x39 ex39 => ?_)
                replace hf := hf x39 ex39
                exact za_iret o rfl hf dX8_of_123
              · replace hf := hf.2 c34
                by_cases c40 : a2 = (6 : Int32)
                · replace hf := hf.1 c40
                  refine za_tswE o 110 c40 dX8_of_16 (by decide) (by decide) rfl (by decide) ?_
                  refine za_aload_n o 1 dX8_of_110 rfl rfl ?_
                  refine za_getf o 0 zc8 hq (Nat.le_of_ble_eq_true rfl) wfX8_7 rfl dX8_of_111 ?_
                  refine za_iload_n o 0 dX8_of_114 rfl rfl ?_
                  refine za_bipush (v := (11 : Int32)) o dX8_of_115 (by decide) ?_
                  refine za_iadd o dX8_of_117 ?_
                  refine za_topi (fun x41 ex41 => ?_)
                  replace hf := hf x41 ex41
                  refine za_iload_n o 3 dX8_of_118 rfl rfl ?_
                  refine za_iadd o dX8_of_119 ?_
                  refine za_topi (fun x42 ex42 => ?_)
                  replace hf := hf x42 ex42
                  refine za_iconst (v := (3 : Int32)) o dX8_of_120 (by decide) ?_
                  refine za_isub o dX8_of_121 ?_
                  refine za_topi (fun x43 ex43 => ?_)
                  replace hf := hf x43 ex43
                  obtain ⟨g44, hf⟩ := hf
                  refine za_iald o zk_m0 rfl g44 dX8_of_122 ?_
                  refine za_topi (fun x45 ex45 => ?_)
                  replace hf := hf x45 ex45
                  exact za_iret o rfl hf dX8_of_123
                · replace hf := hf.2 c40
                  by_cases c46 : a2 = (7 : Int32)
                  · replace hf := hf.1 c46
                    refine za_tswE o 110 c46 dX8_of_16 (by decide) (by decide) rfl (by decide) ?_
                    refine za_aload_n o 1 dX8_of_110 rfl rfl ?_
                    refine za_getf o 0 zc8 hq (Nat.le_of_ble_eq_true rfl) wfX8_7 rfl dX8_of_111 ?_
                    refine za_iload_n o 0 dX8_of_114 rfl rfl ?_
                    refine za_bipush (v := (11 : Int32)) o dX8_of_115 (by decide) ?_
                    refine za_iadd o dX8_of_117 ?_
                    refine za_topi (fun x47 ex47 => ?_)
                    replace hf := hf x47 ex47
                    refine za_iload_n o 3 dX8_of_118 rfl rfl ?_
                    refine za_iadd o dX8_of_119 ?_
                    refine za_topi (fun x48 ex48 => ?_)
                    replace hf := hf x48 ex48
                    refine za_iconst (v := (3 : Int32)) o dX8_of_120 (by decide) ?_
                    refine za_isub o dX8_of_121 ?_
                    refine za_topi (fun x49 ex49 => ?_)
                    replace hf := hf x49 ex49
                    obtain ⟨g50, hf⟩ := hf
                    refine za_iald o zk_m0 rfl g50 dX8_of_122 ?_
                    refine za_topi (fun x51 ex51 => ?_)
                    replace hf := hf x51 ex51
                    exact za_iret o rfl hf dX8_of_123
                  · replace hf := hf.2 c46
                    by_cases c52 : a2 = (8 : Int32)
                    · replace hf := hf.1 c52
                      refine za_tswE o 110 c52 dX8_of_16 (by decide) (by decide) rfl (by decide) ?_
                      refine za_aload_n o 1 dX8_of_110 rfl rfl ?_
                      refine za_getf o 0 zc8 hq (Nat.le_of_ble_eq_true rfl) wfX8_7 rfl dX8_of_111 ?_
                      refine za_iload_n o 0 dX8_of_114 rfl rfl ?_
                      refine za_bipush (v := (11 : Int32)) o dX8_of_115 (by decide) ?_
                      refine za_iadd o dX8_of_117 ?_
                      refine za_topi (fun x53 ex53 => ?_)
                      replace hf := hf x53 ex53
                      refine za_iload_n o 3 dX8_of_118 rfl rfl ?_
                      refine za_iadd o dX8_of_119 ?_
                      refine za_topi (fun x54 ex54 => ?_)
                      replace hf := hf x54 ex54
                      refine za_iconst (v := (3 : Int32)) o dX8_of_120 (by decide) ?_
                      refine za_isub o dX8_of_121 ?_
                      refine za_topi (fun x55 ex55 => ?_)
                      replace hf := hf x55 ex55
                      obtain ⟨g56, hf⟩ := hf
                      refine za_iald o zk_m0 rfl g56 dX8_of_122 ?_
                      refine za_topi (fun x57 ex57 => ?_)
                      replace hf := hf x57 ex57
                      exact za_iret o rfl hf dX8_of_123
                    · replace hf := hf.2 c52
                      refine za_tswD o 124 dX8_of_16 (fun z1 z2 => ?_) (by decide) ?_
                      · have z1 := Int.not_lt.mp z1
                        have z2 := Int.not_lt.mp z2
                        have z3 : (a2).toInt = 0 ∨ (a2).toInt = 1 ∨ (a2).toInt = 2 ∨ (a2).toInt = 3 ∨ (a2).toInt = 4 ∨ (a2).toInt = 5 ∨ (a2).toInt = 6 ∨ (a2).toInt = 7 ∨ (a2).toInt = 8 := by omega
                        rcases z3 with z3 | z3 | z3 | z3 | z3 | z3 | z3 | z3 | z3
                        · exact c6 (Int32.toInt_inj.mp (z3.trans rfl))
                        · exact c10 (Int32.toInt_inj.mp (z3.trans rfl))
                        · exact c19 (Int32.toInt_inj.mp (z3.trans rfl))
                        · exact c22 (Int32.toInt_inj.mp (z3.trans rfl))
                        · exact c28 (Int32.toInt_inj.mp (z3.trans rfl))
                        · exact c34 (Int32.toInt_inj.mp (z3.trans rfl))
                        · exact c40 (Int32.toInt_inj.mp (z3.trans rfl))
                        · exact c46 (Int32.toInt_inj.mp (z3.trans rfl))
                        · exact c52 (Int32.toInt_inj.mp (z3.trans rfl))
                      · skip
                        refine za_bipush (v := (-2 : Int32)) o dX8_of_124 (by decide) ?_
                        exact za_iret o rfl hf dX8_of_126
  · replace hf := hf.2 c3
    refine za_iconst (v := (-1 : Int32)) o dX8_of_8 (by decide) ?_
    exact za_iret o rfl hf dX8_of_9
def fX8_ofDish_120  (K : Int32 → zMem → Prop) (q : Nat) (v1 : Int32) (μ : zMem) : Prop :=
  K v1 μ
def fX8_ofDish (q : Nat) (a1 : Int32) (a2 : Int32) (μ : zMem) (K : Int32 → zMem → Prop) : Prop :=
  fX8_isDish a1 μ (fun r1 m2 => ((¬ r1 = 0 → ((a2 = (0 : Int32) → fX8_d a1 m2 (fun r5 m6 => (∀ x7 : Int32, x7 = (r5 + a2) → (vp_in x7 276 ∧ (∀ x9 : Int32, x9 = (m6 530 x7.toNatClampNeg) → K x9 m6))))) ∧ (¬ a2 = (0 : Int32) → ((a2 = (1 : Int32) → fX8_d a1 m2 (fun r11 m12 => (∀ x13 : Int32, x13 = (r11 + a2) → (vp_in x13 276 ∧ (∀ x15 : Int32, x15 = (m12 530 x13.toNatClampNeg) → K x15 m12))))) ∧ (¬ a2 = (1 : Int32) → ((a2 = (2 : Int32) → fX8_awaited q a1 m2 (fun r17 m18 => K r17 m18)) ∧ (¬ a2 = (2 : Int32) → ((a2 = (3 : Int32) → fX8_d a1 m2 (fun r20 m21 => (∀ x22 : Int32, x22 = (r20 + a2) → (∀ x23 : Int32, x23 = (x22 - (1 : Int32)) → (vp_in x23 276 ∧ (∀ x25 : Int32, x25 = (m21 530 x23.toNatClampNeg) → K x25 m21)))))) ∧ (¬ a2 = (3 : Int32) → ((a2 = (4 : Int32) → fX8_d a1 m2 (fun r27 m28 => (∀ x29 : Int32, x29 = (r27 + a2) → (∀ x30 : Int32, x30 = (x29 - (1 : Int32)) → (vp_in x30 276 ∧ (∀ x32 : Int32, x32 = (m28 530 x30.toNatClampNeg) → K x32 m28)))))) ∧ (¬ a2 = (4 : Int32) → ((a2 = (5 : Int32) → fX8_d a1 m2 (fun r34 m35 => (∀ x36 : Int32, x36 = (r34 + a2) → (∀ x37 : Int32, x37 = (x36 - (1 : Int32)) → (vp_in x37 276 ∧ (∀ x39 : Int32, x39 = (m35 530 x37.toNatClampNeg) → K x39 m35)))))) ∧ (¬ a2 = (5 : Int32) → ((a2 = (6 : Int32) → (∀ x41 : Int32, x41 = (m2 530 4) → fX8_priceOn q x41 a1 m2 (fun r42 m43 => K r42 m43))) ∧ (¬ a2 = (6 : Int32) → ((a2 = (7 : Int32) → (∀ x45 : Int32, x45 = (m2 530 6) → ((¬ x45 = (1 : Int32) → fX8_toCook q a1 m2 (fun r47 m48 => fX8_ofDish_120  K q r47 m48)) ∧ (x45 = (1 : Int32) → fX8_ofDish_120  K q (0 : Int32) m2)))) ∧ (¬ a2 = (7 : Int32) → K (-2 : Int32) m2))))))))))))))))) ∧ (r1 = 0 → K (-1 : Int32) m2)))
set_option maxRecDepth 100000 in
set_option maxHeartbeats 4000000 in
theorem tX8_ofDish_120 {p : Program} {l : Launch} {e : Env} {s : State} {m : MethodId} {args : Array Value} {below : List Frame} {meth : Method} {c : Code} {G : zG}  {K : Int32 → zMem → Prop} (o : za_Ok (z_rm 3 66) 0 0 p s m args meth c G RX8 cX8_ofDish 3 (some .int)) {q : Nat} (hq : z_is q 8)  (v1 : Int32) (μ : zMem)  (hf : fX8_ofDish_120  K q v1 μ) : za_At p l e (z_rm 3 66) s m args below meth c (MQ below (zQi G K) args s 0 0 (zA G)) G 3 0 0 120 [] [.int v1] μ := by
  unfold fX8_ofDish_120 at hf
  exact za_iret o rfl hf dX8_ofDish_120
set_option maxRecDepth 100000 in
set_option maxHeartbeats 4000000 in
theorem ctX8_ofDish (l : Launch) (G : zG) {q : Nat} (hq : z_is q 8) (a1 : Int32) (a2 : Int32)  (μ : zMem) (K : Int32 → zMem → Prop) (hf : fX8_ofDish q a1 a2 μ K) : z_Met l G yX8_ofDish cX8_ofDish 3 (some .int) (z_rm 3 66) [.ref (G.2.2 + q), .int a1, .int a2] μ K := by
  refine z_body (by decide) (Nat.le_of_ble_eq_true rfl) (fun p e s m args below meth c o => ?_)
  have o : za_Ok (z_rm 3 66) 0 0 p s m args meth c G RX8 cX8_ofDish 3 (some .int) := o
  show za_At p l e (z_rm 3 66) s m args below meth c (MQ below (zQi G K) args s 0 0 (zA G)) G 3 0 0 0 [(0, .ref (G.2.2 + q)), (1, .int a1), (2, .int a2)] [] μ
  unfold fX8_ofDish at hf
  refine za_iload_n o 1 dX8_ofDish_0 rfl rfl ?_
  refine za_callSi o [.int a1] (ctX8_isDish l G a1  μ _ hf) mwX8_isDish wmX8_66 wtX8_isDish rfl ⟨Nat.le_of_ble_eq_true rfl, Nat.le_of_ble_eq_true rfl⟩ rfl (Nat.le_of_ble_eq_true rfl) dX8_ofDish_1 (fun r1 m2 hf => ?_)
  refine za_if_ne o 9 dX8_ofDish_4 (by decide) (fun c3 => ?_) (fun c3 => ?_)
  · replace hf := hf.1 c3
    refine za_iload_n o 2 dX8_ofDish_9 rfl rfl ?_
    by_cases c4 : a2 = (0 : Int32)
    · replace hf := hf.1 c4
      refine za_tswE o 56 c4 dX8_ofDish_10 (by decide) (by decide) rfl (by decide) ?_
      refine za_aload_n o 0 dX8_ofDish_56 rfl rfl ?_
      refine za_getf o 0 zc8 hq (Nat.le_of_ble_eq_true rfl) wfX8_7 rfl dX8_ofDish_57 ?_
      refine za_iload_n o 1 dX8_ofDish_60 rfl rfl ?_
      refine za_callSi o [.int a1] (ctX8_d l G a1  m2 _ hf) mwX8_d wmX8_51 wtX8_d rfl ⟨Nat.le_of_ble_eq_true rfl, Nat.le_of_ble_eq_true rfl⟩ rfl (Nat.le_of_ble_eq_true rfl) dX8_ofDish_61 (fun r5 m6 hf => ?_)
      refine za_iload_n o 2 dX8_ofDish_64 rfl rfl ?_
      refine za_iadd o dX8_ofDish_65 ?_
      refine za_topi (fun x7 ex7 => ?_)
      replace hf := hf x7 ex7
      obtain ⟨g8, hf⟩ := hf
      refine za_iald o zk_m0 rfl g8 dX8_ofDish_66 ?_
      refine za_topi (fun x9 ex9 => ?_)
      replace hf := hf x9 ex9
      exact za_iret o rfl hf dX8_ofDish_67
    · replace hf := hf.2 c4
      by_cases c10 : a2 = (1 : Int32)
      · replace hf := hf.1 c10
        refine za_tswE o 56 c10 dX8_ofDish_10 (by decide) (by decide) rfl (by decide) ?_
        refine za_aload_n o 0 dX8_ofDish_56 rfl rfl ?_
        refine za_getf o 0 zc8 hq (Nat.le_of_ble_eq_true rfl) wfX8_7 rfl dX8_ofDish_57 ?_
        refine za_iload_n o 1 dX8_ofDish_60 rfl rfl ?_
        refine za_callSi o [.int a1] (ctX8_d l G a1  m2 _ hf) mwX8_d wmX8_51 wtX8_d rfl ⟨Nat.le_of_ble_eq_true rfl, Nat.le_of_ble_eq_true rfl⟩ rfl (Nat.le_of_ble_eq_true rfl) dX8_ofDish_61 (fun r11 m12 hf => ?_)
        refine za_iload_n o 2 dX8_ofDish_64 rfl rfl ?_
        refine za_iadd o dX8_ofDish_65 ?_
        refine za_topi (fun x13 ex13 => ?_)
        replace hf := hf x13 ex13
        obtain ⟨g14, hf⟩ := hf
        refine za_iald o zk_m0 rfl g14 dX8_ofDish_66 ?_
        refine za_topi (fun x15 ex15 => ?_)
        replace hf := hf x15 ex15
        exact za_iret o rfl hf dX8_ofDish_67
      · replace hf := hf.2 c10
        by_cases c16 : a2 = (2 : Int32)
        · replace hf := hf.1 c16
          refine za_tswE o 68 c16 dX8_ofDish_10 (by decide) (by decide) rfl (by decide) ?_
          refine za_aload_n o 0 dX8_ofDish_68 rfl rfl ?_
          refine za_iload_n o 1 dX8_ofDish_69 rfl rfl ?_
          refine za_callVi o [.int a1] (ctX8_awaited l G hq a1  m2 _ hf) zc8 hq mwX8_awaited wmX8_82 wiX8_awaited wsX8_awaited rfl ⟨Nat.le_of_ble_eq_true rfl, Nat.le_of_ble_eq_true rfl⟩ rfl (Nat.le_of_ble_eq_true rfl) dX8_ofDish_70 (fun r17 m18 hf => ?_)
          exact za_iret o rfl hf dX8_ofDish_73
        · replace hf := hf.2 c16
          by_cases c19 : a2 = (3 : Int32)
          · replace hf := hf.1 c19
            refine za_tswE o 74 c19 dX8_ofDish_10 (by decide) (by decide) rfl (by decide) ?_
            refine za_aload_n o 0 dX8_ofDish_74 rfl rfl ?_
            refine za_getf o 0 zc8 hq (Nat.le_of_ble_eq_true rfl) wfX8_7 rfl dX8_ofDish_75 ?_
            refine za_iload_n o 1 dX8_ofDish_78 rfl rfl ?_
            refine za_callSi o [.int a1] (ctX8_d l G a1  m2 _ hf) mwX8_d wmX8_51 wtX8_d rfl ⟨Nat.le_of_ble_eq_true rfl, Nat.le_of_ble_eq_true rfl⟩ rfl (Nat.le_of_ble_eq_true rfl) dX8_ofDish_79 (fun r20 m21 hf => ?_)
            refine za_iload_n o 2 dX8_ofDish_82 rfl rfl ?_
            refine za_iadd o dX8_ofDish_83 ?_
            refine za_topi (fun x22 ex22 => ?_)
            replace hf := hf x22 ex22
            refine za_iconst (v := (1 : Int32)) o dX8_ofDish_84 (by decide) ?_
            refine za_isub o dX8_ofDish_85 ?_
            refine za_topi (fun x23 ex23 => ?_)
            replace hf := hf x23 ex23
            obtain ⟨g24, hf⟩ := hf
            refine za_iald o zk_m0 rfl g24 dX8_ofDish_86 ?_
            refine za_topi (fun x25 ex25 => ?_)
            replace hf := hf x25 ex25
            exact za_iret o rfl hf dX8_ofDish_87
          · replace hf := hf.2 c19
            by_cases c26 : a2 = (4 : Int32)
            · replace hf := hf.1 c26
              refine za_tswE o 74 c26 dX8_ofDish_10 (by decide) (by decide) rfl (by decide) ?_
              refine za_aload_n o 0 dX8_ofDish_74 rfl rfl ?_
              refine za_getf o 0 zc8 hq (Nat.le_of_ble_eq_true rfl) wfX8_7 rfl dX8_ofDish_75 ?_
              refine za_iload_n o 1 dX8_ofDish_78 rfl rfl ?_
              refine za_callSi o [.int a1] (ctX8_d l G a1  m2 _ hf) mwX8_d wmX8_51 wtX8_d rfl ⟨Nat.le_of_ble_eq_true rfl, Nat.le_of_ble_eq_true rfl⟩ rfl (Nat.le_of_ble_eq_true rfl) dX8_ofDish_79 (fun r27 m28 hf => ?_)
              refine za_iload_n o 2 dX8_ofDish_82 rfl rfl ?_
              refine za_iadd o dX8_ofDish_83 ?_
              refine za_topi (fun x29 ex29 => ?_)
              replace hf := hf x29 ex29
              refine za_iconst (v := (1 : Int32)) o dX8_ofDish_84 (by decide) ?_
              refine za_isub o dX8_ofDish_85 ?_
              refine za_topi (fun x30 ex30 => ?_)
              replace hf := hf x30 ex30
              obtain ⟨g31, hf⟩ := hf
              refine za_iald o zk_m0 rfl g31 dX8_ofDish_86 ?_
              refine za_topi (fun x32 ex32 => ?_)
              replace hf := hf x32 ex32
              exact za_iret o rfl hf dX8_ofDish_87
            · replace hf := hf.2 c26
              by_cases c33 : a2 = (5 : Int32)
              · replace hf := hf.1 c33
                refine za_tswE o 74 c33 dX8_ofDish_10 (by decide) (by decide) rfl (by decide) ?_
                refine za_aload_n o 0 dX8_ofDish_74 rfl rfl ?_
                refine za_getf o 0 zc8 hq (Nat.le_of_ble_eq_true rfl) wfX8_7 rfl dX8_ofDish_75 ?_
                refine za_iload_n o 1 dX8_ofDish_78 rfl rfl ?_
                refine za_callSi o [.int a1] (ctX8_d l G a1  m2 _ hf) mwX8_d wmX8_51 wtX8_d rfl ⟨Nat.le_of_ble_eq_true rfl, Nat.le_of_ble_eq_true rfl⟩ rfl (Nat.le_of_ble_eq_true rfl) dX8_ofDish_79 (fun r34 m35 hf => ?_)
                refine za_iload_n o 2 dX8_ofDish_82 rfl rfl ?_
                refine za_iadd o dX8_ofDish_83 ?_
                refine za_topi (fun x36 ex36 => ?_)
                replace hf := hf x36 ex36
                refine za_iconst (v := (1 : Int32)) o dX8_ofDish_84 (by decide) ?_
                refine za_isub o dX8_ofDish_85 ?_
                refine za_topi (fun x37 ex37 => ?_)
                replace hf := hf x37 ex37
                obtain ⟨g38, hf⟩ := hf
                refine za_iald o zk_m0 rfl g38 dX8_ofDish_86 ?_
                refine za_topi (fun x39 ex39 => ?_)
                replace hf := hf x39 ex39
                exact za_iret o rfl hf dX8_ofDish_87
              · replace hf := hf.2 c33
                by_cases c40 : a2 = (6 : Int32)
                · replace hf := hf.1 c40
                  refine za_tswE o 88 c40 dX8_ofDish_10 (by decide) (by decide) rfl (by decide) ?_
                  refine za_aload_n o 0 dX8_ofDish_88 rfl rfl ?_
                  refine za_aload_n o 0 dX8_ofDish_89 rfl rfl ?_
                  refine za_getf o 0 zc8 hq (Nat.le_of_ble_eq_true rfl) wfX8_7 rfl dX8_ofDish_90 ?_
                  refine za_iconst (v := (4 : Int32)) o dX8_ofDish_93 (by decide) ?_
                  refine za_iald o zk_m0 rfl (by unfold vp_in; decide) dX8_ofDish_94 ?_
                  refine za_topi (fun x41 ex41 => ?_)
                  replace hf := hf x41 ex41
                  refine za_iload_n o 1 dX8_ofDish_95 rfl rfl ?_
                  refine za_callVi o [.int x41, .int a1] (ctX8_priceOn l G hq x41 a1  m2 _ hf) zc8 hq mwX8_priceOn wmX8_62 wiX8_priceOn wsX8_priceOn rfl ⟨Nat.le_of_ble_eq_true rfl, Nat.le_of_ble_eq_true rfl⟩ rfl (Nat.le_of_ble_eq_true rfl) dX8_ofDish_96 (fun r42 m43 hf => ?_)
                  exact za_iret o rfl hf dX8_ofDish_99
                · replace hf := hf.2 c40
                  by_cases c44 : a2 = (7 : Int32)
                  · replace hf := hf.1 c44
                    refine za_tswE o 100 c44 dX8_ofDish_10 (by decide) (by decide) rfl (by decide) ?_
                    refine za_aload_n o 0 dX8_ofDish_100 rfl rfl ?_
                    refine za_getf o 0 zc8 hq (Nat.le_of_ble_eq_true rfl) wfX8_7 rfl dX8_ofDish_101 ?_
                    refine za_bipush (v := (6 : Int32)) o dX8_ofDish_104 (by decide) ?_
                    refine za_iald o zk_m0 rfl (by unfold vp_in; decide) dX8_ofDish_106 ?_
                    refine za_topi (fun x45 ex45 => ?_)
                    replace hf := hf x45 ex45
                    refine za_iconst (v := (1 : Int32)) o dX8_ofDish_107 (by decide) ?_
                    refine za_icmp_ne o 115 dX8_ofDish_108 (by decide) (fun c46 => ?_) (fun c46 => ?_)
                    · replace hf := hf.1 c46
                      refine za_aload_n o 0 dX8_ofDish_115 rfl rfl ?_
                      refine za_iload_n o 1 dX8_ofDish_116 rfl rfl ?_
                      refine za_callVi o [.int a1] (ctX8_toCook l G hq a1  m2 _ hf) zc8 hq mwX8_toCook wmX8_73 wiX8_toCook wsX8_toCook rfl ⟨Nat.le_of_ble_eq_true rfl, Nat.le_of_ble_eq_true rfl⟩ rfl (Nat.le_of_ble_eq_true rfl) dX8_ofDish_117 (fun r47 m48 hf => ?_)
                      refine za_sub [] rfl ?_
                      exact tX8_ofDish_120 o hq  r47 m48  hf
                    · replace hf := hf.2 c46
                      refine za_iconst (v := (0 : Int32)) o dX8_ofDish_111 (by decide) ?_
                      refine za_goto o 120 dX8_ofDish_112 (by decide) ?_
                      refine za_sub [] rfl ?_
                      exact tX8_ofDish_120 o hq  (0 : Int32) m2  hf
                  · replace hf := hf.2 c44
                    refine za_tswD o 121 dX8_ofDish_10 (fun z1 z2 => ?_) (by decide) ?_
                    · have z1 := Int.not_lt.mp z1
                      have z2 := Int.not_lt.mp z2
                      have z3 : (a2).toInt = 0 ∨ (a2).toInt = 1 ∨ (a2).toInt = 2 ∨ (a2).toInt = 3 ∨ (a2).toInt = 4 ∨ (a2).toInt = 5 ∨ (a2).toInt = 6 ∨ (a2).toInt = 7 := by omega
                      rcases z3 with z3 | z3 | z3 | z3 | z3 | z3 | z3 | z3
                      · exact c4 (Int32.toInt_inj.mp (z3.trans rfl))
                      · exact c10 (Int32.toInt_inj.mp (z3.trans rfl))
                      · exact c16 (Int32.toInt_inj.mp (z3.trans rfl))
                      · exact c19 (Int32.toInt_inj.mp (z3.trans rfl))
                      · exact c26 (Int32.toInt_inj.mp (z3.trans rfl))
                      · exact c33 (Int32.toInt_inj.mp (z3.trans rfl))
                      · exact c40 (Int32.toInt_inj.mp (z3.trans rfl))
                      · exact c44 (Int32.toInt_inj.mp (z3.trans rfl))
                    · skip
                      refine za_bipush (v := (-2 : Int32)) o dX8_ofDish_121 (by decide) ?_
                      exact za_iret o rfl hf dX8_ofDish_123
  · replace hf := hf.2 c3
    refine za_iconst (v := (-1 : Int32)) o dX8_ofDish_7 (by decide) ?_
    exact za_iret o rfl hf dX8_ofDish_8
def fX8_ordered_57 (k26 : Int32 → Int32 → Int32 → Int32 → zMem → Prop) (K : Int32 → zMem → Prop) (q : Nat) (v1 : Int32) (v2 : Int32) (v3 : Int32) (v4 : Int32) (v5 : Int32) (μ : zMem) : Prop :=
  (∀ x1 : Int32, x1 = (v5 ||| v4) → (∀ x2 : Int32, x2 = v3 + (1 : Int32) → k26 v1 v2 x1 x2 μ))
def fX8_ordered_26b (k26 : Int32 → Int32 → Int32 → Int32 → zMem → Prop) (K : Int32 → zMem → Prop) (q : Nat) (v1 : Int32) (v2 : Int32) (v3 : Int32) (v4 : Int32) (μ : zMem) : Prop :=
  (∀ x3 : Int32, x3 = (μ 530 5) → ((x3 ≤ v4 → K v3 μ) ∧ (¬ x3 ≤ v4 → fX8_isFor q v4 v1 v2 μ (fun r5 m6 => ((r5 = 0 → fX8_ordered_57 k26 K q v1 v2 v4 (0 : Int32) v3 m6) ∧ (¬ r5 = 0 → (∀ x8 : Int32, x8 = ((1 : Int32) <<< (v4 &&& 31)) → fX8_ordered_57 k26 K q v1 v2 v4 x8 v3 m6)))))))
def fX8_ordered_26  (K : Int32 → zMem → Prop) (q : Nat) (n : Nat) : Int32 → Int32 → Int32 → Int32 → zMem → Prop := z_it (fun k => fX8_ordered_26b  k K q ) (fun _ _ _ _ _ => False) n
def fX8_ordered (q : Nat) (a1 : Int32) (a2 : Int32) (μ : zMem) (K : Int32 → zMem → Prop) : Prop :=
  fX8_isDish a2 μ (fun r9 m10 => ((¬ r9 = 0 → fX8_in a1 (0 : Int32) (4 : Int32) m10 (fun r12 m13 => ((¬ r12 = 0 → fX8_ordered_26  K q zFU a1 a2 (0 : Int32) (0 : Int32) m13) ∧ (r12 = 0 → K (-2 : Int32) m13)))) ∧ (r9 = 0 → K (-1 : Int32) m10)))
set_option maxRecDepth 100000 in
set_option maxHeartbeats 4000000 in
theorem tX8_ordered_57 {p : Program} {l : Launch} {e : Env} {s : State} {m : MethodId} {args : Array Value} {below : List Frame} {meth : Method} {c : Code} {G : zG} {k26 : Int32 → Int32 → Int32 → Int32 → zMem → Prop} {K : Int32 → zMem → Prop} (o : za_Ok (z_rm 2 43) 0 0 p s m args meth c G RX8 cX8_ordered 5 (some .int)) {q : Nat} (hq : z_is q 8) (hk26 : ∀ (v1 : Int32) (v2 : Int32) (v3 : Int32) (v4 : Int32) (μ : zMem), k26 v1 v2 v3 v4 μ → za_At p l e (z_rm 2 43) s m args below meth c (MQ below (zQi G K) args s 0 0 (zA G)) G 5 0 0 26 [(0, .ref (G.2.2 + q)), (1, .int v1), (2, .int v2), (3, .int v3), (4, .int v4)] [] μ) (v1 : Int32) (v2 : Int32) (v3 : Int32) (v4 : Int32) (v5 : Int32) (μ : zMem)  (hf : fX8_ordered_57 k26 K q v1 v2 v3 v4 v5 μ) : za_At p l e (z_rm 2 43) s m args below meth c (MQ below (zQi G K) args s 0 0 (zA G)) G 5 0 0 57 [(0, .ref (G.2.2 + q)), (1, .int v1), (2, .int v2), (4, .int v3)] [.int v4, .int v5] μ := by
  unfold fX8_ordered_57 at hf
  refine za_ior o dX8_ordered_57 ?_
  refine za_topi (fun x1 ex1 => ?_)
  replace hf := hf x1 ex1
  refine za_istore_n o [(3, .int x1), (0, .ref (G.2.2 + q)), (1, .int v1), (2, .int v2), (4, .int v3)] dX8_ordered_58 rfl (by decide) rfl ?_
  obtain ⟨x2, ex2⟩ : ∃ y : Int32, y = v3 + (1 : Int32) := ⟨_, rfl⟩
  replace hf := hf x2 ex2
  refine za_iinc o x2 4 [(4, .int x2), (3, .int x1), (0, .ref (G.2.2 + q)), (1, .int v1), (2, .int v2)] dX8_ordered_59 rfl (by rw [ex2]; rfl) (by decide) rfl ?_
  refine za_goto o 26 dX8_ordered_62 (by decide) ?_
  refine za_sub [2, 3, 4, 1, 0] rfl ?_
  exact hk26 v1 v2 x1 x2 μ  hf
set_option maxRecDepth 100000 in
set_option maxHeartbeats 4000000 in
theorem tX8_ordered_26b {p : Program} {l : Launch} {e : Env} {s : State} {m : MethodId} {args : Array Value} {below : List Frame} {meth : Method} {c : Code} {G : zG} {k26 : Int32 → Int32 → Int32 → Int32 → zMem → Prop} {K : Int32 → zMem → Prop} (o : za_Ok (z_rm 2 43) 0 0 p s m args meth c G RX8 cX8_ordered 5 (some .int)) {q : Nat} (hq : z_is q 8) (hk26 : ∀ (v1 : Int32) (v2 : Int32) (v3 : Int32) (v4 : Int32) (μ : zMem), k26 v1 v2 v3 v4 μ → za_At p l e (z_rm 2 43) s m args below meth c (MQ below (zQi G K) args s 0 0 (zA G)) G 5 0 0 26 [(0, .ref (G.2.2 + q)), (1, .int v1), (2, .int v2), (3, .int v3), (4, .int v4)] [] μ) (v1 : Int32) (v2 : Int32) (v3 : Int32) (v4 : Int32) (μ : zMem)  (hf : fX8_ordered_26b k26 K q v1 v2 v3 v4 μ) : za_At p l e (z_rm 2 43) s m args below meth c (MQ below (zQi G K) args s 0 0 (zA G)) G 5 0 0 26 [(0, .ref (G.2.2 + q)), (1, .int v1), (2, .int v2), (3, .int v3), (4, .int v4)] [] μ := by
  unfold fX8_ordered_26b at hf
  refine za_iload o 4 dX8_ordered_26 rfl ?_
  refine za_aload_n o 0 dX8_ordered_28 rfl rfl ?_
  refine za_getf o 0 zc8 hq (Nat.le_of_ble_eq_true rfl) wfX8_7 rfl dX8_ordered_29 ?_
  refine za_iconst (v := (5 : Int32)) o dX8_ordered_32 (by decide) ?_
  refine za_iald o zk_m0 rfl (by unfold vp_in; decide) dX8_ordered_33 ?_
  refine za_topi (fun x3 ex3 => ?_)
  replace hf := hf x3 ex3
  refine za_icmp_ge o 65 dX8_ordered_34 (by decide) (fun c4 => ?_) (fun c4 => ?_)
  · replace hf := hf.1 c4
    refine za_iload_n o 3 dX8_ordered_65 rfl rfl ?_
    exact za_iret o rfl hf dX8_ordered_66
  · replace hf := hf.2 c4
    refine za_iload_n o 3 dX8_ordered_37 rfl rfl ?_
    refine za_aload_n o 0 dX8_ordered_38 rfl rfl ?_
    refine za_iload o 4 dX8_ordered_39 rfl ?_
    refine za_iload_n o 1 dX8_ordered_41 rfl rfl ?_
    refine za_iload_n o 2 dX8_ordered_42 rfl rfl ?_
    refine za_callVi o [.int v4, .int v1, .int v2] (ctX8_isFor l G hq v4 v1 v2  μ _ hf) zc8 hq mwX8_isFor wmX8_45 wiX8_isFor wsX8_isFor rfl ⟨Nat.le_of_ble_eq_true rfl, Nat.le_of_ble_eq_true rfl⟩ rfl (Nat.le_of_ble_eq_true rfl) dX8_ordered_43 (fun r5 m6 hf => ?_)
    refine za_if_eq o 56 dX8_ordered_46 (by decide) (fun c7 => ?_) (fun c7 => ?_)
    · replace hf := hf.1 c7
      refine za_iconst (v := (0 : Int32)) o dX8_ordered_56 (by decide) ?_
      refine za_sub [0, 1, 2, 4] rfl ?_
      exact tX8_ordered_57 o hq hk26 v1 v2 v4 (0 : Int32) v3 m6  hf
    · replace hf := hf.2 c7
      refine za_iconst (v := (1 : Int32)) o dX8_ordered_49 (by decide) ?_
      refine za_iload o 4 dX8_ordered_50 rfl ?_
      refine za_ishl o dX8_ordered_52 ?_
      refine za_topi (fun x8 ex8 => ?_)
      replace hf := hf x8 ex8
      refine za_goto o 57 dX8_ordered_53 (by decide) ?_
      refine za_sub [0, 1, 2, 4] rfl ?_
      exact tX8_ordered_57 o hq hk26 v1 v2 v4 x8 v3 m6  hf
theorem tX8_ordered_26 {p : Program} {l : Launch} {e : Env} {s : State} {m : MethodId} {args : Array Value} {below : List Frame} {meth : Method} {c : Code} {G : zG}  {K : Int32 → zMem → Prop} (o : za_Ok (z_rm 2 43) 0 0 p s m args meth c G RX8 cX8_ordered 5 (some .int)) {q : Nat} (hq : z_is q 8)  (n : Nat) : ∀ (v1 : Int32) (v2 : Int32) (v3 : Int32) (v4 : Int32) (μ : zMem), fX8_ordered_26  K q n v1 v2 v3 v4 μ → za_At p l e (z_rm 2 43) s m args below meth c (MQ below (zQi G K) args s 0 0 (zA G)) G 5 0 0 26 [(0, .ref (G.2.2 + q)), (1, .int v1), (2, .int v2), (3, .int v3), (4, .int v4)] [] μ := by
  induction n with
  | zero => intro _ _ _ _ _ hf; exact hf.elim
  | succ n ih => intro v1 v2 v3 v4 μ  hf; exact tX8_ordered_26b o hq  ih v1 v2 v3 v4 μ  hf
set_option maxRecDepth 100000 in
set_option maxHeartbeats 4000000 in
theorem ctX8_ordered (l : Launch) (G : zG) {q : Nat} (hq : z_is q 8) (a1 : Int32) (a2 : Int32)  (μ : zMem) (K : Int32 → zMem → Prop) (hf : fX8_ordered q a1 a2 μ K) : z_Met l G yX8_ordered cX8_ordered 5 (some .int) (z_rm 2 43) [.ref (G.2.2 + q), .int a1, .int a2] μ K := by
  refine z_body (by decide) (Nat.le_of_ble_eq_true rfl) (fun p e s m args below meth c o => ?_)
  have o : za_Ok (z_rm 2 43) 0 0 p s m args meth c G RX8 cX8_ordered 5 (some .int) := o
  show za_At p l e (z_rm 2 43) s m args below meth c (MQ below (zQi G K) args s 0 0 (zA G)) G 5 0 0 0 [(0, .ref (G.2.2 + q)), (1, .int a1), (2, .int a2)] [] μ
  unfold fX8_ordered at hf
  refine za_iload_n o 2 dX8_ordered_0 rfl rfl ?_
  refine za_callSi o [.int a2] (ctX8_isDish l G a2  μ _ hf) mwX8_isDish wmX8_66 wtX8_isDish rfl ⟨Nat.le_of_ble_eq_true rfl, Nat.le_of_ble_eq_true rfl⟩ rfl (Nat.le_of_ble_eq_true rfl) dX8_ordered_1 (fun r9 m10 hf => ?_)
  refine za_if_ne o 9 dX8_ordered_4 (by decide) (fun c11 => ?_) (fun c11 => ?_)
  · replace hf := hf.1 c11
    refine za_iload_n o 1 dX8_ordered_9 rfl rfl ?_
    refine za_iconst (v := (0 : Int32)) o dX8_ordered_10 (by decide) ?_
    refine za_iconst (v := (4 : Int32)) o dX8_ordered_11 (by decide) ?_
    refine za_callSi o [.int a1, .int (0 : Int32), .int (4 : Int32)] (ctX8_in l G a1 (0 : Int32) (4 : Int32)  m10 _ hf) mwX8_in wmX8_33 wtX8_in rfl ⟨Nat.le_of_ble_eq_true rfl, Nat.le_of_ble_eq_true rfl⟩ rfl (Nat.le_of_ble_eq_true rfl) dX8_ordered_12 (fun r12 m13 hf => ?_)
    refine za_if_ne o 21 dX8_ordered_15 (by decide) (fun c14 => ?_) (fun c14 => ?_)
    · replace hf := hf.1 c14
      refine za_iconst (v := (0 : Int32)) o dX8_ordered_21 (by decide) ?_
      refine za_istore_n o [(3, .int (0 : Int32)), (0, .ref (G.2.2 + q)), (1, .int a1), (2, .int a2)] dX8_ordered_22 rfl (by decide) rfl ?_
      refine za_iconst (v := (0 : Int32)) o dX8_ordered_23 (by decide) ?_
      refine za_istore o [(4, .int (0 : Int32)), (3, .int (0 : Int32)), (0, .ref (G.2.2 + q)), (1, .int a1), (2, .int a2)] dX8_ordered_24 (by decide) rfl ?_
      refine za_sub [2, 3, 4, 1, 0] rfl ?_
      exact tX8_ordered_26 o hq  zFU a1 a2 (0 : Int32) (0 : Int32) m13  hf
    · replace hf := hf.2 c14
      refine za_bipush (v := (-2 : Int32)) o dX8_ordered_18 (by decide) ?_
      exact za_iret o rfl hf dX8_ordered_20
  · replace hf := hf.2 c11
    refine za_iconst (v := (-1 : Int32)) o dX8_ordered_7 (by decide) ?_
    exact za_iret o rfl hf dX8_ordered_8
def fX8_ofDishes_37 (k4 : Int32 → Int32 → Int32 → zMem → Prop) (K : Int32 → zMem → Prop) (q : Nat) (v1 : Int32) (v2 : Int32) (v3 : Int32) (v4 : Int32) (μ : zMem) : Prop :=
  (∀ x1 : Int32, x1 = (v4 + v3) → (∀ x2 : Int32, x2 = v2 + (1 : Int32) → k4 v1 x1 x2 μ))
def fX8_ofDishes_4b (k4 : Int32 → Int32 → Int32 → zMem → Prop) (K : Int32 → zMem → Prop) (q : Nat) (v1 : Int32) (v2 : Int32) (v3 : Int32) (μ : zMem) : Prop :=
  (((3 : Int32) ≤ v3 → K v2 μ) ∧ (¬ (3 : Int32) ≤ v3 → ((¬ v1 = (6 : Int32) → fX8_d v3 μ (fun r5 m6 => (∀ x7 : Int32, x7 = (r5 + v1) → (∀ x8 : Int32, x8 = (x7 - (1 : Int32)) → (vp_in x8 276 ∧ (∀ x10 : Int32, x10 = (m6 530 x8.toNatClampNeg) → fX8_ofDishes_37 k4 K q v1 v3 x10 v2 m6)))))) ∧ (v1 = (6 : Int32) → fX8_left q v3 μ (fun r11 m12 => fX8_ofDishes_37 k4 K q v1 v3 r11 v2 m12)))))
def fX8_ofDishes_4  (K : Int32 → zMem → Prop) (q : Nat) (n : Nat) : Int32 → Int32 → Int32 → zMem → Prop := z_it (fun k => fX8_ofDishes_4b  k K q ) (fun _ _ _ _ => False) n
def fX8_ofDishes (q : Nat) (a1 : Int32) (μ : zMem) (K : Int32 → zMem → Prop) : Prop :=
  fX8_ofDishes_4  K q zFU a1 (0 : Int32) (0 : Int32) μ
set_option maxRecDepth 100000 in
set_option maxHeartbeats 4000000 in
theorem tX8_ofDishes_37 {p : Program} {l : Launch} {e : Env} {s : State} {m : MethodId} {args : Array Value} {below : List Frame} {meth : Method} {c : Code} {G : zG} {k4 : Int32 → Int32 → Int32 → zMem → Prop} {K : Int32 → zMem → Prop} (o : za_Ok (z_rm 2 41) 0 0 p s m args meth c G RX8 cX8_ofDishes 4 (some .int)) {q : Nat} (hq : z_is q 8) (hk4 : ∀ (v1 : Int32) (v2 : Int32) (v3 : Int32) (μ : zMem), k4 v1 v2 v3 μ → za_At p l e (z_rm 2 41) s m args below meth c (MQ below (zQi G K) args s 0 0 (zA G)) G 4 0 0 4 [(0, .ref (G.2.2 + q)), (1, .int v1), (2, .int v2), (3, .int v3)] [] μ) (v1 : Int32) (v2 : Int32) (v3 : Int32) (v4 : Int32) (μ : zMem)  (hf : fX8_ofDishes_37 k4 K q v1 v2 v3 v4 μ) : za_At p l e (z_rm 2 41) s m args below meth c (MQ below (zQi G K) args s 0 0 (zA G)) G 4 0 0 37 [(0, .ref (G.2.2 + q)), (1, .int v1), (3, .int v2)] [.int v3, .int v4] μ := by
  unfold fX8_ofDishes_37 at hf
  refine za_iadd o dX8_ofDishes_37 ?_
  refine za_topi (fun x1 ex1 => ?_)
  replace hf := hf x1 ex1
  refine za_istore_n o [(2, .int x1), (0, .ref (G.2.2 + q)), (1, .int v1), (3, .int v2)] dX8_ofDishes_38 rfl (by decide) rfl ?_
  obtain ⟨x2, ex2⟩ : ∃ y : Int32, y = v2 + (1 : Int32) := ⟨_, rfl⟩
  replace hf := hf x2 ex2
  refine za_iinc o x2 3 [(3, .int x2), (2, .int x1), (0, .ref (G.2.2 + q)), (1, .int v1)] dX8_ofDishes_39 rfl (by rw [ex2]; rfl) (by decide) rfl ?_
  refine za_goto o 4 dX8_ofDishes_42 (by decide) ?_
  refine za_sub [2, 3, 1, 0] rfl ?_
  exact hk4 v1 x1 x2 μ  hf
set_option maxRecDepth 100000 in
set_option maxHeartbeats 4000000 in
theorem tX8_ofDishes_4b {p : Program} {l : Launch} {e : Env} {s : State} {m : MethodId} {args : Array Value} {below : List Frame} {meth : Method} {c : Code} {G : zG} {k4 : Int32 → Int32 → Int32 → zMem → Prop} {K : Int32 → zMem → Prop} (o : za_Ok (z_rm 2 41) 0 0 p s m args meth c G RX8 cX8_ofDishes 4 (some .int)) {q : Nat} (hq : z_is q 8) (hk4 : ∀ (v1 : Int32) (v2 : Int32) (v3 : Int32) (μ : zMem), k4 v1 v2 v3 μ → za_At p l e (z_rm 2 41) s m args below meth c (MQ below (zQi G K) args s 0 0 (zA G)) G 4 0 0 4 [(0, .ref (G.2.2 + q)), (1, .int v1), (2, .int v2), (3, .int v3)] [] μ) (v1 : Int32) (v2 : Int32) (v3 : Int32) (μ : zMem)  (hf : fX8_ofDishes_4b k4 K q v1 v2 v3 μ) : za_At p l e (z_rm 2 41) s m args below meth c (MQ below (zQi G K) args s 0 0 (zA G)) G 4 0 0 4 [(0, .ref (G.2.2 + q)), (1, .int v1), (2, .int v2), (3, .int v3)] [] μ := by
  unfold fX8_ofDishes_4b at hf
  refine za_iload_n o 3 dX8_ofDishes_4 rfl rfl ?_
  refine za_iconst (v := (3 : Int32)) o dX8_ofDishes_5 (by decide) ?_
  refine za_icmp_ge o 45 dX8_ofDishes_6 (by decide) (fun c3 => ?_) (fun c3 => ?_)
  · replace hf := hf.1 c3
    refine za_iload_n o 2 dX8_ofDishes_45 rfl rfl ?_
    exact za_iret o rfl hf dX8_ofDishes_46
  · replace hf := hf.2 c3
    refine za_iload_n o 2 dX8_ofDishes_9 rfl rfl ?_
    refine za_iload_n o 1 dX8_ofDishes_10 rfl rfl ?_
    refine za_bipush (v := (6 : Int32)) o dX8_ofDishes_11 (by decide) ?_
    refine za_icmp_ne o 24 dX8_ofDishes_13 (by decide) (fun c4 => ?_) (fun c4 => ?_)
    · replace hf := hf.1 c4
      refine za_aload_n o 0 dX8_ofDishes_24 rfl rfl ?_
      refine za_getf o 0 zc8 hq (Nat.le_of_ble_eq_true rfl) wfX8_7 rfl dX8_ofDishes_25 ?_
      refine za_iload_n o 3 dX8_ofDishes_28 rfl rfl ?_
      refine za_callSi o [.int v3] (ctX8_d l G v3  μ _ hf) mwX8_d wmX8_51 wtX8_d rfl ⟨Nat.le_of_ble_eq_true rfl, Nat.le_of_ble_eq_true rfl⟩ rfl (Nat.le_of_ble_eq_true rfl) dX8_ofDishes_29 (fun r5 m6 hf => ?_)
      refine za_iload_n o 1 dX8_ofDishes_32 rfl rfl ?_
      refine za_iadd o dX8_ofDishes_33 ?_
      refine za_topi (fun x7 ex7 => ?_)
      replace hf := hf x7 ex7
      refine za_iconst (v := (1 : Int32)) o dX8_ofDishes_34 (by decide) ?_
      refine za_isub o dX8_ofDishes_35 ?_
      refine za_topi (fun x8 ex8 => ?_)
      replace hf := hf x8 ex8
      obtain ⟨g9, hf⟩ := hf
      refine za_iald o zk_m0 rfl g9 dX8_ofDishes_36 ?_
      refine za_topi (fun x10 ex10 => ?_)
      replace hf := hf x10 ex10
      refine za_sub [0, 1, 3] rfl ?_
      exact tX8_ofDishes_37 o hq hk4 v1 v3 x10 v2 m6  hf
    · replace hf := hf.2 c4
      refine za_aload_n o 0 dX8_ofDishes_16 rfl rfl ?_
      refine za_iload_n o 3 dX8_ofDishes_17 rfl rfl ?_
      refine za_callVi o [.int v3] (ctX8_left l G hq v3  μ _ hf) zc8 hq mwX8_left wmX8_76 wiX8_left wsX8_left rfl ⟨Nat.le_of_ble_eq_true rfl, Nat.le_of_ble_eq_true rfl⟩ rfl (Nat.le_of_ble_eq_true rfl) dX8_ofDishes_18 (fun r11 m12 hf => ?_)
      refine za_goto o 37 dX8_ofDishes_21 (by decide) ?_
      refine za_sub [0, 1, 3] rfl ?_
      exact tX8_ofDishes_37 o hq hk4 v1 v3 r11 v2 m12  hf
theorem tX8_ofDishes_4 {p : Program} {l : Launch} {e : Env} {s : State} {m : MethodId} {args : Array Value} {below : List Frame} {meth : Method} {c : Code} {G : zG}  {K : Int32 → zMem → Prop} (o : za_Ok (z_rm 2 41) 0 0 p s m args meth c G RX8 cX8_ofDishes 4 (some .int)) {q : Nat} (hq : z_is q 8)  (n : Nat) : ∀ (v1 : Int32) (v2 : Int32) (v3 : Int32) (μ : zMem), fX8_ofDishes_4  K q n v1 v2 v3 μ → za_At p l e (z_rm 2 41) s m args below meth c (MQ below (zQi G K) args s 0 0 (zA G)) G 4 0 0 4 [(0, .ref (G.2.2 + q)), (1, .int v1), (2, .int v2), (3, .int v3)] [] μ := by
  induction n with
  | zero => intro _ _ _ _ hf; exact hf.elim
  | succ n ih => intro v1 v2 v3 μ  hf; exact tX8_ofDishes_4b o hq  ih v1 v2 v3 μ  hf
set_option maxRecDepth 100000 in
set_option maxHeartbeats 4000000 in
theorem ctX8_ofDishes (l : Launch) (G : zG) {q : Nat} (hq : z_is q 8) (a1 : Int32)  (μ : zMem) (K : Int32 → zMem → Prop) (hf : fX8_ofDishes q a1 μ K) : z_Met l G yX8_ofDishes cX8_ofDishes 4 (some .int) (z_rm 2 41) [.ref (G.2.2 + q), .int a1] μ K := by
  refine z_body (by decide) (Nat.le_of_ble_eq_true rfl) (fun p e s m args below meth c o => ?_)
  have o : za_Ok (z_rm 2 41) 0 0 p s m args meth c G RX8 cX8_ofDishes 4 (some .int) := o
  show za_At p l e (z_rm 2 41) s m args below meth c (MQ below (zQi G K) args s 0 0 (zA G)) G 4 0 0 0 [(0, .ref (G.2.2 + q)), (1, .int a1)] [] μ
  unfold fX8_ofDishes at hf
  refine za_iconst (v := (0 : Int32)) o dX8_ofDishes_0 (by decide) ?_
  refine za_istore_n o [(2, .int (0 : Int32)), (0, .ref (G.2.2 + q)), (1, .int a1)] dX8_ofDishes_1 rfl (by decide) rfl ?_
  refine za_iconst (v := (0 : Int32)) o dX8_ofDishes_2 (by decide) ?_
  refine za_istore_n o [(3, .int (0 : Int32)), (2, .int (0 : Int32)), (0, .ref (G.2.2 + q)), (1, .int a1)] dX8_ofDishes_3 rfl (by decide) rfl ?_
  refine za_sub [2, 3, 1, 0] rfl ?_
  exact tX8_ofDishes_4 o hq  zFU a1 (0 : Int32) (0 : Int32) μ  hf
def fX8_ofPeople_64 (k7 : Int32 → Int32 → Int32 → Int32 → zMem → Prop) (K : Int32 → zMem → Prop) (q : Nat) (v1 : Int32) (v2 : Int32) (v3 : Int32) (v4 : Int32) (v5 : Int32) (μ : zMem) : Prop :=
  (∀ x1 : Int32, x1 = (v5 ||| v4) → (∀ x2 : Int32, x2 = v3 + (1 : Int32) → k7 v1 v2 x1 x2 μ))
def fX8_ofPeople_83  (K : Int32 → zMem → Prop) (q : Nat) (v1 : Int32) (μ : zMem) : Prop :=
  K v1 μ
def fX8_ofPeople_7b (k7 : Int32 → Int32 → Int32 → Int32 → zMem → Prop) (K : Int32 → zMem → Prop) (q : Nat) (v1 : Int32) (v2 : Int32) (v3 : Int32) (v4 : Int32) (μ : zMem) : Prop :=
  (∀ x3 : Int32, x3 = (μ 530 5) → ((x3 ≤ v4 → ((¬ v1 = (7 : Int32) → fX8_ofPeople_83  K q v3 μ) ∧ (v1 = (7 : Int32) → fX8_ofPeople_83  K q v2 μ))) ∧ (¬ x3 ≤ v4 → fX8_p v4 μ (fun r6 m7 => (∀ x8 : Int32, x8 = (r6 + (0 : Int32)) → (vp_in x8 276 ∧ (∀ x10 : Int32, x10 = (m7 530 x8.toNatClampNeg) → (∀ x11 : Int32, x11 = (v2 + x10) → (∀ x12 : Int32, x12 = (m7 530 4) → fX8_p v4 m7 (fun r13 m14 => (∀ x15 : Int32, x15 = (r13 + (12 : Int32)) → (vp_in x15 276 ∧ (∀ x17 : Int32, x17 = (m14 530 x15.toNatClampNeg) → ((x17 ≤ x12 → fX8_ofPeople_64 k7 K q v1 x11 v4 (0 : Int32) v3 m14) ∧ (¬ x17 ≤ x12 → (∀ x19 : Int32, x19 = ((1 : Int32) <<< (v4 &&& 31)) → fX8_ofPeople_64 k7 K q v1 x11 v4 x19 v3 m14))))))))))))))))
def fX8_ofPeople_7  (K : Int32 → zMem → Prop) (q : Nat) (n : Nat) : Int32 → Int32 → Int32 → Int32 → zMem → Prop := z_it (fun k => fX8_ofPeople_7b  k K q ) (fun _ _ _ _ _ => False) n
def fX8_ofPeople (q : Nat) (a1 : Int32) (μ : zMem) (K : Int32 → zMem → Prop) : Prop :=
  fX8_ofPeople_7  K q zFU a1 (0 : Int32) (0 : Int32) (0 : Int32) μ
set_option maxRecDepth 100000 in
set_option maxHeartbeats 4000000 in
theorem tX8_ofPeople_64 {p : Program} {l : Launch} {e : Env} {s : State} {m : MethodId} {args : Array Value} {below : List Frame} {meth : Method} {c : Code} {G : zG} {k7 : Int32 → Int32 → Int32 → Int32 → zMem → Prop} {K : Int32 → zMem → Prop} (o : za_Ok (z_rm 1 20) 0 0 p s m args meth c G RX8 cX8_ofPeople 5 (some .int)) {q : Nat} (hq : z_is q 8) (hk7 : ∀ (v1 : Int32) (v2 : Int32) (v3 : Int32) (v4 : Int32) (μ : zMem), k7 v1 v2 v3 v4 μ → za_At p l e (z_rm 1 20) s m args below meth c (MQ below (zQi G K) args s 0 0 (zA G)) G 5 0 0 7 [(0, .ref (G.2.2 + q)), (1, .int v1), (2, .int v2), (3, .int v3), (4, .int v4)] [] μ) (v1 : Int32) (v2 : Int32) (v3 : Int32) (v4 : Int32) (v5 : Int32) (μ : zMem)  (hf : fX8_ofPeople_64 k7 K q v1 v2 v3 v4 v5 μ) : za_At p l e (z_rm 1 20) s m args below meth c (MQ below (zQi G K) args s 0 0 (zA G)) G 5 0 0 64 [(0, .ref (G.2.2 + q)), (1, .int v1), (2, .int v2), (4, .int v3)] [.int v4, .int v5] μ := by
  unfold fX8_ofPeople_64 at hf
  refine za_ior o dX8_ofPeople_64 ?_
  refine za_topi (fun x1 ex1 => ?_)
  replace hf := hf x1 ex1
  refine za_istore_n o [(3, .int x1), (0, .ref (G.2.2 + q)), (1, .int v1), (2, .int v2), (4, .int v3)] dX8_ofPeople_65 rfl (by decide) rfl ?_
  obtain ⟨x2, ex2⟩ : ∃ y : Int32, y = v3 + (1 : Int32) := ⟨_, rfl⟩
  replace hf := hf x2 ex2
  refine za_iinc o x2 4 [(4, .int x2), (3, .int x1), (0, .ref (G.2.2 + q)), (1, .int v1), (2, .int v2)] dX8_ofPeople_66 rfl (by rw [ex2]; rfl) (by decide) rfl ?_
  refine za_goto o 7 dX8_ofPeople_69 (by decide) ?_
  refine za_sub [2, 3, 4, 1, 0] rfl ?_
  exact hk7 v1 v2 x1 x2 μ  hf
set_option maxRecDepth 100000 in
set_option maxHeartbeats 4000000 in
theorem tX8_ofPeople_83 {p : Program} {l : Launch} {e : Env} {s : State} {m : MethodId} {args : Array Value} {below : List Frame} {meth : Method} {c : Code} {G : zG}  {K : Int32 → zMem → Prop} (o : za_Ok (z_rm 1 20) 0 0 p s m args meth c G RX8 cX8_ofPeople 5 (some .int)) {q : Nat} (hq : z_is q 8)  (v1 : Int32) (μ : zMem)  (hf : fX8_ofPeople_83  K q v1 μ) : za_At p l e (z_rm 1 20) s m args below meth c (MQ below (zQi G K) args s 0 0 (zA G)) G 5 0 0 83 [] [.int v1] μ := by
  unfold fX8_ofPeople_83 at hf
  exact za_iret o rfl hf dX8_ofPeople_83
set_option maxRecDepth 100000 in
set_option maxHeartbeats 4000000 in
theorem tX8_ofPeople_7b {p : Program} {l : Launch} {e : Env} {s : State} {m : MethodId} {args : Array Value} {below : List Frame} {meth : Method} {c : Code} {G : zG} {k7 : Int32 → Int32 → Int32 → Int32 → zMem → Prop} {K : Int32 → zMem → Prop} (o : za_Ok (z_rm 1 20) 0 0 p s m args meth c G RX8 cX8_ofPeople 5 (some .int)) {q : Nat} (hq : z_is q 8) (hk7 : ∀ (v1 : Int32) (v2 : Int32) (v3 : Int32) (v4 : Int32) (μ : zMem), k7 v1 v2 v3 v4 μ → za_At p l e (z_rm 1 20) s m args below meth c (MQ below (zQi G K) args s 0 0 (zA G)) G 5 0 0 7 [(0, .ref (G.2.2 + q)), (1, .int v1), (2, .int v2), (3, .int v3), (4, .int v4)] [] μ) (v1 : Int32) (v2 : Int32) (v3 : Int32) (v4 : Int32) (μ : zMem)  (hf : fX8_ofPeople_7b k7 K q v1 v2 v3 v4 μ) : za_At p l e (z_rm 1 20) s m args below meth c (MQ below (zQi G K) args s 0 0 (zA G)) G 5 0 0 7 [(0, .ref (G.2.2 + q)), (1, .int v1), (2, .int v2), (3, .int v3), (4, .int v4)] [] μ := by
  unfold fX8_ofPeople_7b at hf
  refine za_iload o 4 dX8_ofPeople_7 rfl ?_
  refine za_aload_n o 0 dX8_ofPeople_9 rfl rfl ?_
  refine za_getf o 0 zc8 hq (Nat.le_of_ble_eq_true rfl) wfX8_7 rfl dX8_ofPeople_10 ?_
  refine za_iconst (v := (5 : Int32)) o dX8_ofPeople_13 (by decide) ?_
  refine za_iald o zk_m0 rfl (by unfold vp_in; decide) dX8_ofPeople_14 ?_
  refine za_topi (fun x3 ex3 => ?_)
  replace hf := hf x3 ex3
  refine za_icmp_ge o 72 dX8_ofPeople_15 (by decide) (fun c4 => ?_) (fun c4 => ?_)
  · replace hf := hf.1 c4
    refine za_iload_n o 1 dX8_ofPeople_72 rfl rfl ?_
    refine za_bipush (v := (7 : Int32)) o dX8_ofPeople_73 (by decide) ?_
    refine za_icmp_ne o 82 dX8_ofPeople_75 (by decide) (fun c5 => ?_) (fun c5 => ?_)
    · replace hf := hf.1 c5
      refine za_iload_n o 3 dX8_ofPeople_82 rfl rfl ?_
      refine za_sub [] rfl ?_
      exact tX8_ofPeople_83 o hq  v3 μ  hf
    · replace hf := hf.2 c5
      refine za_iload_n o 2 dX8_ofPeople_78 rfl rfl ?_
      refine za_goto o 83 dX8_ofPeople_79 (by decide) ?_
      refine za_sub [] rfl ?_
      exact tX8_ofPeople_83 o hq  v2 μ  hf
  · replace hf := hf.2 c4
    refine za_iload_n o 2 dX8_ofPeople_18 rfl rfl ?_
    refine za_aload_n o 0 dX8_ofPeople_19 rfl rfl ?_
    refine za_getf o 0 zc8 hq (Nat.le_of_ble_eq_true rfl) wfX8_7 rfl dX8_ofPeople_20 ?_
    refine za_iload o 4 dX8_ofPeople_23 rfl ?_
    refine za_callSi o [.int v4] (ctX8_p l G v4  μ _ hf) mwX8_p wmX8_41 wtX8_p rfl ⟨Nat.le_of_ble_eq_true rfl, Nat.le_of_ble_eq_true rfl⟩ rfl (Nat.le_of_ble_eq_true rfl) dX8_ofPeople_25 (fun r6 m7 hf => ?_)
    refine za_iconst (v := (0 : Int32)) o dX8_ofPeople_28 (by decide) ?_
    refine za_iadd o dX8_ofPeople_29 ?_
    refine za_topi (fun x8 ex8 => ?_)
    replace hf := hf x8 ex8
    obtain ⟨g9, hf⟩ := hf
    refine za_iald o zk_m0 rfl g9 dX8_ofPeople_30 ?_
    refine za_topi (fun x10 ex10 => ?_)
    replace hf := hf x10 ex10
    refine za_iadd o dX8_ofPeople_31 ?_
    refine za_topi (fun x11 ex11 => ?_)
    replace hf := hf x11 ex11
    refine za_istore_n o [(2, .int x11), (0, .ref (G.2.2 + q)), (1, .int v1), (3, .int v3), (4, .int v4)] dX8_ofPeople_32 rfl (by decide) rfl ?_
    refine za_iload_n o 3 dX8_ofPeople_33 rfl rfl ?_
    refine za_aload_n o 1 dX8_ofPeople_34 rfl rfl ?_
    refine za_getf o 0 zc8 hq (Nat.le_of_ble_eq_true rfl) wfX8_7 rfl dX8_ofPeople_35 ?_
    refine za_iconst (v := (4 : Int32)) o dX8_ofPeople_38 (by decide) ?_
    refine za_iald o zk_m0 rfl (by unfold vp_in; decide) dX8_ofPeople_39 ?_
    refine za_topi (fun x12 ex12 => ?_)
    replace hf := hf x12 ex12
    refine za_aload_n o 1 dX8_ofPeople_40 rfl rfl ?_
    refine za_getf o 0 zc8 hq (Nat.le_of_ble_eq_true rfl) wfX8_7 rfl dX8_ofPeople_41 ?_
    refine za_iload o 4 dX8_ofPeople_44 rfl ?_
    refine za_callSi o [.int v4] (ctX8_p l G v4  m7 _ hf) mwX8_p wmX8_41 wtX8_p rfl ⟨Nat.le_of_ble_eq_true rfl, Nat.le_of_ble_eq_true rfl⟩ rfl (Nat.le_of_ble_eq_true rfl) dX8_ofPeople_46 (fun r13 m14 hf => ?_)
    refine za_bipush (v := (12 : Int32)) o dX8_ofPeople_49 (by decide) ?_
    refine za_iadd o dX8_ofPeople_51 ?_
    refine za_topi (fun x15 ex15 => ?_)
    replace hf := hf x15 ex15
    obtain ⟨g16, hf⟩ := hf
    refine za_iald o zk_m0 rfl g16 dX8_ofPeople_52 ?_
    refine za_topi (fun x17 ex17 => ?_)
    replace hf := hf x17 ex17
    refine za_icmp_ge o 63 dX8_ofPeople_53 (by decide) (fun c18 => ?_) (fun c18 => ?_)
    · replace hf := hf.1 c18
      refine za_iconst (v := (0 : Int32)) o dX8_ofPeople_63 (by decide) ?_
      refine za_sub [1, 2, 0, 4] rfl ?_
      exact tX8_ofPeople_64 o hq hk7 v1 x11 v4 (0 : Int32) v3 m14  hf
    · replace hf := hf.2 c18
      refine za_iconst (v := (1 : Int32)) o dX8_ofPeople_56 (by decide) ?_
      refine za_iload o 4 dX8_ofPeople_57 rfl ?_
      refine za_ishl o dX8_ofPeople_59 ?_
      refine za_topi (fun x19 ex19 => ?_)
      replace hf := hf x19 ex19
      refine za_goto o 64 dX8_ofPeople_60 (by decide) ?_
      refine za_sub [1, 2, 0, 4] rfl ?_
      exact tX8_ofPeople_64 o hq hk7 v1 x11 v4 x19 v3 m14  hf
theorem tX8_ofPeople_7 {p : Program} {l : Launch} {e : Env} {s : State} {m : MethodId} {args : Array Value} {below : List Frame} {meth : Method} {c : Code} {G : zG}  {K : Int32 → zMem → Prop} (o : za_Ok (z_rm 1 20) 0 0 p s m args meth c G RX8 cX8_ofPeople 5 (some .int)) {q : Nat} (hq : z_is q 8)  (n : Nat) : ∀ (v1 : Int32) (v2 : Int32) (v3 : Int32) (v4 : Int32) (μ : zMem), fX8_ofPeople_7  K q n v1 v2 v3 v4 μ → za_At p l e (z_rm 1 20) s m args below meth c (MQ below (zQi G K) args s 0 0 (zA G)) G 5 0 0 7 [(0, .ref (G.2.2 + q)), (1, .int v1), (2, .int v2), (3, .int v3), (4, .int v4)] [] μ := by
  induction n with
  | zero => intro _ _ _ _ _ hf; exact hf.elim
  | succ n ih => intro v1 v2 v3 v4 μ  hf; exact tX8_ofPeople_7b o hq  ih v1 v2 v3 v4 μ  hf
set_option maxRecDepth 100000 in
set_option maxHeartbeats 4000000 in
theorem ctX8_ofPeople (l : Launch) (G : zG) {q : Nat} (hq : z_is q 8) (a1 : Int32)  (μ : zMem) (K : Int32 → zMem → Prop) (hf : fX8_ofPeople q a1 μ K) : z_Met l G yX8_ofPeople cX8_ofPeople 5 (some .int) (z_rm 1 20) [.ref (G.2.2 + q), .int a1] μ K := by
  refine z_body (by decide) (Nat.le_of_ble_eq_true rfl) (fun p e s m args below meth c o => ?_)
  have o : za_Ok (z_rm 1 20) 0 0 p s m args meth c G RX8 cX8_ofPeople 5 (some .int) := o
  show za_At p l e (z_rm 1 20) s m args below meth c (MQ below (zQi G K) args s 0 0 (zA G)) G 5 0 0 0 [(0, .ref (G.2.2 + q)), (1, .int a1)] [] μ
  unfold fX8_ofPeople at hf
  refine za_iconst (v := (0 : Int32)) o dX8_ofPeople_0 (by decide) ?_
  refine za_istore_n o [(2, .int (0 : Int32)), (0, .ref (G.2.2 + q)), (1, .int a1)] dX8_ofPeople_1 rfl (by decide) rfl ?_
  refine za_iconst (v := (0 : Int32)) o dX8_ofPeople_2 (by decide) ?_
  refine za_istore_n o [(3, .int (0 : Int32)), (2, .int (0 : Int32)), (0, .ref (G.2.2 + q)), (1, .int a1)] dX8_ofPeople_3 rfl (by decide) rfl ?_
  refine za_iconst (v := (0 : Int32)) o dX8_ofPeople_4 (by decide) ?_
  refine za_istore o [(4, .int (0 : Int32)), (3, .int (0 : Int32)), (2, .int (0 : Int32)), (0, .ref (G.2.2 + q)), (1, .int a1)] dX8_ofPeople_5 (by decide) rfl ?_
  refine za_sub [3, 4, 2, 1, 0] rfl ?_
  exact tX8_ofPeople_7 o hq  zFU a1 (0 : Int32) (0 : Int32) (0 : Int32) μ  hf
