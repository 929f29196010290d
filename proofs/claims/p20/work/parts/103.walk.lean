/-! X5_daysWithOrder X5_number X0_aboutPerson X7_of X0_aboutDish X7_ofDish X0_peopleWithOrder X7_ordered X0_bannedToday X0_sumOfDishes X0_sumOfPeople X0_number -/
def fX5_daysWithOrder_23 (k4 : Int32 → Int32 → zMem → Prop) (K : Int32 → zMem → Prop) (q : Nat) (v1 : Int32) (v2 : Int32) (μ : zMem) : Prop :=
  (∀ x1 : Int32, x1 = v2 + (1 : Int32) → k4 v1 x1 μ)
def fX5_daysWithOrder_4b (k4 : Int32 → Int32 → zMem → Prop) (K : Int32 → zMem → Prop) (q : Nat) (v1 : Int32) (v2 : Int32) (μ : zMem) : Prop :=
  (((5 : Int32) ≤ v2 → K v1 μ) ∧ (¬ (5 : Int32) ≤ v2 → fX5_hasOrder q v2 μ (fun r3 m4 => ((r3 = 0 → fX5_daysWithOrder_23 k4 K q v1 v2 m4) ∧ (¬ r3 = 0 → (∀ x6 : Int32, x6 = ((1 : Int32) <<< (v2 &&& 31)) → (∀ x7 : Int32, x7 = (v1 ||| x6) → fX5_daysWithOrder_23 k4 K q x7 v2 m4)))))))
def fX5_daysWithOrder_4  (K : Int32 → zMem → Prop) (q : Nat) (n : Nat) : Int32 → Int32 → zMem → Prop := z_it (fun k => fX5_daysWithOrder_4b  k K q ) (fun _ _ _ => False) n
def fX5_daysWithOrder (q : Nat)  (μ : zMem) (K : Int32 → zMem → Prop) : Prop :=
  fX5_daysWithOrder_4  K q zFU (0 : Int32) (0 : Int32) μ
set_option maxRecDepth 100000 in
set_option maxHeartbeats 4000000 in
theorem tX5_daysWithOrder_23 {p : Program} {l : Launch} {e : Env} {s : State} {m : MethodId} {args : Array Value} {below : List Frame} {meth : Method} {c : Code} {G : zG} {k4 : Int32 → Int32 → zMem → Prop} {K : Int32 → zMem → Prop} (o : za_Ok (z_rm 1 21) 0 0 p s m args meth c G RX5 cX5_daysWithOrder 3 (some .int)) {q : Nat} (hq : z_is q 5) (hk4 : ∀ (v1 : Int32) (v2 : Int32) (μ : zMem), k4 v1 v2 μ → za_At p l e (z_rm 1 21) s m args below meth c (MQ below (zQi G K) args s 0 0 (zA G)) G 3 0 0 4 [(0, .ref (G.2.2 + q)), (1, .int v1), (2, .int v2)] [] μ) (v1 : Int32) (v2 : Int32) (μ : zMem)  (hf : fX5_daysWithOrder_23 k4 K q v1 v2 μ) : za_At p l e (z_rm 1 21) s m args below meth c (MQ below (zQi G K) args s 0 0 (zA G)) G 3 0 0 23 [(0, .ref (G.2.2 + q)), (1, .int v1), (2, .int v2)] [] μ := by
  unfold fX5_daysWithOrder_23 at hf
  obtain ⟨x1, ex1⟩ : ∃ y : Int32, y = v2 + (1 : Int32) := ⟨_, rfl⟩
  replace hf := hf x1 ex1
  refine za_iinc o x1 2 [(2, .int x1), (0, .ref (G.2.2 + q)), (1, .int v1)] dX5_daysWithOrder_23 rfl (by rw [ex1]; rfl) (by decide) rfl ?_
  refine za_goto o 4 dX5_daysWithOrder_26 (by decide) ?_
  refine za_sub [1, 2, 0] rfl ?_
  exact hk4 v1 x1 μ  hf
set_option maxRecDepth 100000 in
set_option maxHeartbeats 4000000 in
theorem tX5_daysWithOrder_4b {p : Program} {l : Launch} {e : Env} {s : State} {m : MethodId} {args : Array Value} {below : List Frame} {meth : Method} {c : Code} {G : zG} {k4 : Int32 → Int32 → zMem → Prop} {K : Int32 → zMem → Prop} (o : za_Ok (z_rm 1 21) 0 0 p s m args meth c G RX5 cX5_daysWithOrder 3 (some .int)) {q : Nat} (hq : z_is q 5) (hk4 : ∀ (v1 : Int32) (v2 : Int32) (μ : zMem), k4 v1 v2 μ → za_At p l e (z_rm 1 21) s m args below meth c (MQ below (zQi G K) args s 0 0 (zA G)) G 3 0 0 4 [(0, .ref (G.2.2 + q)), (1, .int v1), (2, .int v2)] [] μ) (v1 : Int32) (v2 : Int32) (μ : zMem)  (hf : fX5_daysWithOrder_4b k4 K q v1 v2 μ) : za_At p l e (z_rm 1 21) s m args below meth c (MQ below (zQi G K) args s 0 0 (zA G)) G 3 0 0 4 [(0, .ref (G.2.2 + q)), (1, .int v1), (2, .int v2)] [] μ := by
  unfold fX5_daysWithOrder_4b at hf
  refine za_iload_n o 2 dX5_daysWithOrder_4 rfl rfl ?_
  refine za_iconst (v := (5 : Int32)) o dX5_daysWithOrder_5 (by decide) ?_
  refine za_icmp_ge o 29 dX5_daysWithOrder_6 (by decide) (fun c2 => ?_) (fun c2 => ?_)
  · replace hf := hf.1 c2
    refine za_iload_n o 1 dX5_daysWithOrder_29 rfl rfl ?_
    exact za_iret o rfl hf dX5_daysWithOrder_30
  · replace hf := hf.2 c2
    refine za_aload_n o 0 dX5_daysWithOrder_9 rfl rfl ?_
    refine za_iload_n o 2 dX5_daysWithOrder_10 rfl rfl ?_
    refine za_callVi o [.int v2] (ctX5_hasOrder l G hq v2  μ _ hf) zc5 hq mwX5_hasOrder wmX5_47 wiX5_hasOrder wsX5_hasOrder rfl ⟨Nat.le_of_ble_eq_true rfl, Nat.le_of_ble_eq_true rfl⟩ rfl (Nat.le_of_ble_eq_true rfl) dX5_daysWithOrder_11 (fun r3 m4 hf => ?_)
    refine za_if_eq o 23 dX5_daysWithOrder_14 (by decide) (fun c5 => ?_) (fun c5 => ?_)
    · replace hf := hf.1 c5
      exact tX5_daysWithOrder_23 o hq hk4 v1 v2 m4  hf
    · replace hf := hf.2 c5
      refine za_iload_n o 1 dX5_daysWithOrder_17 rfl rfl ?_
      refine za_iconst (v := (1 : Int32)) o dX5_daysWithOrder_18 (by decide) ?_
      refine za_iload_n o 2 dX5_daysWithOrder_19 rfl rfl ?_
      refine za_ishl o dX5_daysWithOrder_20 ?_
      refine za_topi (fun x6 ex6 => ?_)
      replace hf := hf x6 ex6
      refine za_ior o dX5_daysWithOrder_21 ?_
      refine za_topi (fun x7 ex7 => ?_)
      replace hf := hf x7 ex7
      refine za_istore_n o [(1, .int x7), (0, .ref (G.2.2 + q)), (2, .int v2)] dX5_daysWithOrder_22 rfl (by decide) rfl ?_
      refine za_sub [1, 0, 2] rfl ?_
      exact tX5_daysWithOrder_23 o hq hk4 x7 v2 m4  hf
theorem tX5_daysWithOrder_4 {p : Program} {l : Launch} {e : Env} {s : State} {m : MethodId} {args : Array Value} {below : List Frame} {meth : Method} {c : Code} {G : zG}  {K : Int32 → zMem → Prop} (o : za_Ok (z_rm 1 21) 0 0 p s m args meth c G RX5 cX5_daysWithOrder 3 (some .int)) {q : Nat} (hq : z_is q 5)  (n : Nat) : ∀ (v1 : Int32) (v2 : Int32) (μ : zMem), fX5_daysWithOrder_4  K q n v1 v2 μ → za_At p l e (z_rm 1 21) s m args below meth c (MQ below (zQi G K) args s 0 0 (zA G)) G 3 0 0 4 [(0, .ref (G.2.2 + q)), (1, .int v1), (2, .int v2)] [] μ := by
  induction n with
  | zero => intro _ _ _ hf; exact hf.elim
  | succ n ih => intro v1 v2 μ  hf; exact tX5_daysWithOrder_4b o hq  ih v1 v2 μ  hf
set_option maxRecDepth 100000 in
set_option maxHeartbeats 4000000 in
theorem ctX5_daysWithOrder (l : Launch) (G : zG) {q : Nat} (hq : z_is q 5)   (μ : zMem) (K : Int32 → zMem → Prop) (hf : fX5_daysWithOrder q  μ K) : z_Met l G yX5_daysWithOrder cX5_daysWithOrder 3 (some .int) (z_rm 1 21) [.ref (G.2.2 + q)] μ K := by
  refine z_body (by decide) (Nat.le_of_ble_eq_true rfl) (fun p e s m args below meth c o => ?_)
  have o : za_Ok (z_rm 1 21) 0 0 p s m args meth c G RX5 cX5_daysWithOrder 3 (some .int) := o
  show za_At p l e (z_rm 1 21) s m args below meth c (MQ below (zQi G K) args s 0 0 (zA G)) G 3 0 0 0 [(0, .ref (G.2.2 + q))] [] μ
  unfold fX5_daysWithOrder at hf
  refine za_iconst (v := (0 : Int32)) o dX5_daysWithOrder_0 (by decide) ?_
  refine za_istore_n o [(1, .int (0 : Int32)), (0, .ref (G.2.2 + q))] dX5_daysWithOrder_1 rfl (by decide) rfl ?_
  refine za_iconst (v := (0 : Int32)) o dX5_daysWithOrder_2 (by decide) ?_
  refine za_istore_n o [(2, .int (0 : Int32)), (1, .int (0 : Int32)), (0, .ref (G.2.2 + q))] dX5_daysWithOrder_3 rfl (by decide) rfl ?_
  refine za_sub [2, 1, 0] rfl ?_
  exact tX5_daysWithOrder_4 o hq  zFU (0 : Int32) (0 : Int32) μ  hf
def fX5_number_101  (K : Int32 → zMem → Prop) (q : Nat) (v1 : Int32) (μ : zMem) : Prop :=
  K v1 μ
def fX5_number (q : Nat) (a1 : Int32) (μ : zMem) (K : Int32 → zMem → Prop) : Prop :=
  ((a1 = (0 : Int32) → K (μ q 2) μ) ∧ (¬ a1 = (0 : Int32) → ((a1 = (1 : Int32) → (∀ x3 : Int32, x3 = (μ (q + 1) 0) → K x3 μ)) ∧ (¬ a1 = (1 : Int32) → ((a1 = (2 : Int32) → fX5_daysWithOrder q  μ (fun r5 m6 => K r5 m6)) ∧ (¬ a1 = (2 : Int32) → ((a1 = (3 : Int32) → K (μ q 3) μ) ∧ (¬ a1 = (3 : Int32) → ((a1 = (4 : Int32) → K (μ q 4) μ) ∧ (¬ a1 = (4 : Int32) → ((a1 = (5 : Int32) → K (μ q 5) μ) ∧ (¬ a1 = (5 : Int32) → ((a1 = (6 : Int32) → K (μ q 6) μ) ∧ (¬ a1 = (6 : Int32) → ((a1 = (7 : Int32) → (((μ q 8) = 0 → fX5_number_101  K q (0 : Int32) μ) ∧ (¬ (μ q 8) = 0 → fX5_number_101  K q (1 : Int32) μ))) ∧ (¬ a1 = (7 : Int32) → ((a1 = (8 : Int32) → K (μ q 7) μ) ∧ (¬ a1 = (8 : Int32) → K (-2 : Int32) μ))))))))))))))))))
set_option maxRecDepth 100000 in
set_option maxHeartbeats 4000000 in
theorem tX5_number_101 {p : Program} {l : Launch} {e : Env} {s : State} {m : MethodId} {args : Array Value} {below : List Frame} {meth : Method} {c : Code} {G : zG}  {K : Int32 → zMem → Prop} (o : za_Ok (z_rm 2 43) 0 0 p s m args meth c G RX5 cX5_number 2 (some .int)) {q : Nat} (hq : z_is q 5)  (v1 : Int32) (μ : zMem)  (hf : fX5_number_101  K q v1 μ) : za_At p l e (z_rm 2 43) s m args below meth c (MQ below (zQi G K) args s 0 0 (zA G)) G 2 0 0 101 [] [.int v1] μ := by
  unfold fX5_number_101 at hf
  exact za_iret o rfl hf dX5_number_101
set_option maxRecDepth 100000 in
set_option maxHeartbeats 4000000 in
theorem ctX5_number (l : Launch) (G : zG) {q : Nat} (hq : z_is q 5) (a1 : Int32)  (μ : zMem) (K : Int32 → zMem → Prop) (hf : fX5_number q a1 μ K) : z_Met l G yX5_number cX5_number 2 (some .int) (z_rm 2 43) [.ref (G.2.2 + q), .int a1] μ K := by
  refine z_body (by decide) (Nat.le_of_ble_eq_true rfl) (fun p e s m args below meth c o => ?_)
  have o : za_Ok (z_rm 2 43) 0 0 p s m args meth c G RX5 cX5_number 2 (some .int) := o
  show za_At p l e (z_rm 2 43) s m args below meth c (MQ below (zQi G K) args s 0 0 (zA G)) G 2 0 0 0 [(0, .ref (G.2.2 + q)), (1, .int a1)] [] μ
  unfold fX5_number at hf
  refine za_iload_n o 1 dX5_number_0 rfl rfl ?_
  by_cases c1 : a1 = (0 : Int32)
  · replace hf := hf.1 c1
    refine za_tswE o 52 c1 dX5_number_1 (by decide) (by decide) rfl (by decide) ?_
    refine za_aload_n o 0 dX5_number_52 rfl rfl ?_
    refine za_getf o 2 zc5 hq (Nat.le_of_ble_eq_true rfl) wfX5_18 rfl dX5_number_53 ?_
    exact za_iret o rfl hf dX5_number_56
  · replace hf := hf.2 c1
    by_cases c2 : a1 = (1 : Int32)
    · replace hf := hf.1 c2
      refine za_tswE o 57 c2 dX5_number_1 (by decide) (by decide) rfl (by decide) ?_
      refine za_aload_n o 0 dX5_number_57 rfl rfl ?_
      refine za_getf o 0 zc5 hq (Nat.le_of_ble_eq_true rfl) wfX5_9 rfl dX5_number_58 ?_
      refine za_iconst (v := (0 : Int32)) o dX5_number_61 (by decide) ?_
      refine za_iald o (zk_5_12 hq) rfl (by unfold vp_in; decide) dX5_number_62 ?_
      refine za_topi (fun x3 ex3 => ?_)
      replace hf := hf x3 ex3
      exact za_iret o rfl hf dX5_number_63
    · replace hf := hf.2 c2
      by_cases c4 : a1 = (2 : Int32)
      · replace hf := hf.1 c4
        refine za_tswE o 64 c4 dX5_number_1 (by decide) (by decide) rfl (by decide) ?_
        refine za_aload_n o 0 dX5_number_64 rfl rfl ?_
        refine za_callVi o [] (ctX5_daysWithOrder l G hq   μ _ hf) zc5 hq mwX5_daysWithOrder wmX5_67 wiX5_daysWithOrder wsX5_daysWithOrder rfl ⟨Nat.le_of_ble_eq_true rfl, Nat.le_of_ble_eq_true rfl⟩ rfl (Nat.le_of_ble_eq_true rfl) dX5_number_65 (fun r5 m6 hf => ?_)
        exact za_iret o rfl hf dX5_number_68
      · replace hf := hf.2 c4
        by_cases c7 : a1 = (3 : Int32)
        · replace hf := hf.1 c7
          refine za_tswE o 69 c7 dX5_number_1 (by decide) (by decide) rfl (by decide) ?_
          refine za_aload_n o 0 dX5_number_69 rfl rfl ?_
          refine za_getf o 3 zc5 hq (Nat.le_of_ble_eq_true rfl) wfX5_22 rfl dX5_number_70 ?_
          exact za_iret o rfl hf dX5_number_73
        · replace hf := hf.2 c7
          by_cases c8 : a1 = (4 : Int32)
          · replace hf := hf.1 c8
            refine za_tswE o 74 c8 dX5_number_1 (by decide) (by decide) rfl (by decide) ?_
            refine za_aload_n o 0 dX5_number_74 rfl rfl ?_
            refine za_getf o 4 zc5 hq (Nat.le_of_ble_eq_true rfl) wfX5_25 rfl dX5_number_75 ?_
            exact za_iret o rfl hf dX5_number_78
          · replace hf := hf.2 c8
            by_cases c9 : a1 = (5 : Int32)
            · replace hf := hf.1 c9
              refine za_tswE o 79 c9 dX5_number_1 (by decide) (by decide) rfl (by decide) ?_
              refine za_aload_n o 0 dX5_number_79 rfl rfl ?_
              refine za_getf o 5 zc5 hq (Nat.le_of_ble_eq_true rfl) wfX5_28 rfl dX5_number_80 ?_
              exact za_iret o rfl hf dX5_number_83
            · replace hf := hf.2 c9
              by_cases c10 : a1 = (6 : Int32)
              · replace hf := hf.1 c10
                refine za_tswE o 84 c10 dX5_number_1 (by decide) (by decide) rfl (by decide) ?_
                refine za_aload_n o 0 dX5_number_84 rfl rfl ?_
                refine za_getf o 6 zc5 hq (Nat.le_of_ble_eq_true rfl) wfX5_31 rfl dX5_number_85 ?_
                exact za_iret o rfl hf dX5_number_88
              · replace hf := hf.2 c10
                by_cases c11 : a1 = (7 : Int32)
                · replace hf := hf.1 c11
                  refine za_tswE o 89 c11 dX5_number_1 (by decide) (by decide) rfl (by decide) ?_
                  refine za_aload_n o 0 dX5_number_89 rfl rfl ?_
                  refine za_getf o 8 zc5 hq (Nat.le_of_ble_eq_true rfl) wfX5_37 rfl dX5_number_90 ?_
                  refine za_if_eq o 100 dX5_number_93 (by decide) (fun c12 => ?_) (fun c12 => ?_)
                  · replace hf := hf.1 c12
                    refine za_iconst (v := (0 : Int32)) o dX5_number_100 (by decide) ?_
                    refine za_sub [] rfl ?_
                    exact tX5_number_101 o hq  (0 : Int32) μ  hf
                  · replace hf := hf.2 c12
                    refine za_iconst (v := (1 : Int32)) o dX5_number_96 (by decide) ?_
                    refine za_goto o 101 dX5_number_97 (by decide) ?_
                    refine za_sub [] rfl ?_
                    exact tX5_number_101 o hq  (1 : Int32) μ  hf
                · replace hf := hf.2 c11
                  by_cases c13 : a1 = (8 : Int32)
                  · replace hf := hf.1 c13
                    refine za_tswE o 102 c13 dX5_number_1 (by decide) (by decide) rfl (by decide) ?_
                    refine za_aload_n o 0 dX5_number_102 rfl rfl ?_
                    refine za_getf o 7 zc5 hq (Nat.le_of_ble_eq_true rfl) wfX5_34 rfl dX5_number_103 ?_
                    exact za_iret o rfl hf dX5_number_106
                  · replace hf := hf.2 c13
                    refine za_tswD o 107 dX5_number_1 (fun z1 z2 => ?_) (by decide) ?_
                    · have z1 := Int.not_lt.mp z1
                      have z2 := Int.not_lt.mp z2
                      have z3 : (a1).toInt = 0 ∨ (a1).toInt = 1 ∨ (a1).toInt = 2 ∨ (a1).toInt = 3 ∨ (a1).toInt = 4 ∨ (a1).toInt = 5 ∨ (a1).toInt = 6 ∨ (a1).toInt = 7 ∨ (a1).toInt = 8 := by omega
                      rcases z3 with z3 | z3 | z3 | z3 | z3 | z3 | z3 | z3 | z3
                      · exact c1 (Int32.toInt_inj.mp (z3.trans rfl))
                      · exact c2 (Int32.toInt_inj.mp (z3.trans rfl))
                      · exact c4 (Int32.toInt_inj.mp (z3.trans rfl))
                      · exact c7 (Int32.toInt_inj.mp (z3.trans rfl))
                      · exact c8 (Int32.toInt_inj.mp (z3.trans rfl))
                      · exact c9 (Int32.toInt_inj.mp (z3.trans rfl))
                      · exact c10 (Int32.toInt_inj.mp (z3.trans rfl))
                      · exact c11 (Int32.toInt_inj.mp (z3.trans rfl))
                      · exact c13 (Int32.toInt_inj.mp (z3.trans rfl))
                    · skip
                      refine za_bipush (v := (-2 : Int32)) o dX5_number_107 (by decide) ?_
                      exact za_iret o rfl hf dX5_number_109
def fX0_aboutPerson (q : Nat) (a1 : Int32) (a2 : Int32) (μ : zMem) (K : Int32 → zMem → Prop) : Prop :=
  fX0_hasPerson q a1 μ (fun r1 m2 => ((¬ r1 = 0 → (vp_in a1 14 ∧ (∀ q5 : Nat, q5 = (q + 2) + 2 + 3 * a1.toNatClampNeg → fX5_number q5 a2 m2 (fun r6 m7 => K r6 m7)))) ∧ (r1 = 0 → K (-1 : Int32) m2)))
set_option maxRecDepth 100000 in
set_option maxHeartbeats 4000000 in
theorem ctX0_aboutPerson (l : Launch) (G : zG) {q : Nat} (hq : z_is q 0) (a1 : Int32) (a2 : Int32)  (μ : zMem) (K : Int32 → zMem → Prop) (hf : fX0_aboutPerson q a1 a2 μ K) : z_Met l G yX0_aboutPerson cX0_aboutPerson 3 (some .int) (z_rm 3 64) [.ref (G.2.2 + q), .int a1, .int a2] μ K := by
  refine z_body (by decide) (Nat.le_of_ble_eq_true rfl) (fun p e s m args below meth c o => ?_)
  have o : za_Ok (z_rm 3 64) 0 0 p s m args meth c G RX0 cX0_aboutPerson 3 (some .int) := o
  show za_At p l e (z_rm 3 64) s m args below meth c (MQ below (zQi G K) args s 0 0 (zA G)) G 3 0 0 0 [(0, .ref (G.2.2 + q)), (1, .int a1), (2, .int a2)] [] μ
  unfold fX0_aboutPerson at hf
  refine za_aload_n o 0 dX0_aboutPerson_0 rfl rfl ?_
  refine za_iload_n o 1 dX0_aboutPerson_1 rfl rfl ?_
  refine za_callVi o [.int a1] (ctX0_hasPerson l G hq a1  μ _ hf) zc0 hq mwX0_hasPerson wmX0_69 wiX0_hasPerson wsX0_hasPerson rfl ⟨Nat.le_of_ble_eq_true rfl, Nat.le_of_ble_eq_true rfl⟩ rfl (Nat.le_of_ble_eq_true rfl) dX0_aboutPerson_2 (fun r1 m2 hf => ?_)
  refine za_if_ne o 10 dX0_aboutPerson_5 (by decide) (fun c3 => ?_) (fun c3 => ?_)
  · replace hf := hf.1 c3
    refine za_aload_n o 0 dX0_aboutPerson_10 rfl rfl ?_
    refine za_getf o 1 zc0 hq (Nat.le_of_ble_eq_true rfl) wfX0_17 rfl dX0_aboutPerson_11 ?_
    refine za_iload_n o 1 dX0_aboutPerson_14 rfl rfl ?_
    obtain ⟨g4, hf⟩ := hf
    refine za_aald o (zk_0_10 hq) rfl rfl rfl g4 dX0_aboutPerson_15 ?_
    refine za_topr (fun q5 eq5 => ?_)
    replace hf := hf q5 eq5
    have hq5 : z_is q5 5 := by rw [eq5]; exact zk_a10 (zk_0_10 hq) (z_lt g4)
    refine za_iload_n o 2 dX0_aboutPerson_16 rfl rfl ?_
    refine za_callVi o [.int a2] (ctX5_number l G hq5 a2  m2 _ hf) zc5 hq5 mwX5_number wmX0_155 wiX5_number wsX5_number rfl ⟨Nat.le_of_ble_eq_true rfl, Nat.le_of_ble_eq_true rfl⟩ rfl (Nat.le_of_ble_eq_true rfl) dX0_aboutPerson_17 (fun r6 m7 hf => ?_)
    exact za_iret o rfl hf dX0_aboutPerson_20
  · replace hf := hf.2 c3
    refine za_iconst (v := (-1 : Int32)) o dX0_aboutPerson_8 (by decide) ?_
    exact za_iret o rfl hf dX0_aboutPerson_9
def fX7_of (q : Nat) (a1 : Int32) (a2 : Int32) (μ : zMem) (K : Int32 → zMem → Prop) : Prop :=
  fX0_aboutPerson 1 a1 a2 μ (fun r1 m2 => K r1 m2)
set_option maxRecDepth 100000 in
set_option maxHeartbeats 4000000 in
theorem ctX7_of (l : Launch) (G : zG) {q : Nat} (hq : z_is q 7) (a1 : Int32) (a2 : Int32)  (μ : zMem) (K : Int32 → zMem → Prop) (hf : fX7_of q a1 a2 μ K) : z_Met l G yX7_of cX7_of 3 (some .int) (z_rm 4 86) [.ref (G.2.2 + q), .int a1, .int a2] μ K := by
  refine z_body (by decide) (Nat.le_of_ble_eq_true rfl) (fun p e s m args below meth c o => ?_)
  have o : za_Ok (z_rm 4 86) 0 0 p s m args meth c G RX7 cX7_of 3 (some .int) := o
  show za_At p l e (z_rm 4 86) s m args below meth c (MQ below (zQi G K) args s 0 0 (zA G)) G 3 0 0 0 [(0, .ref (G.2.2 + q)), (1, .int a1), (2, .int a2)] [] μ
  unfold fX7_of at hf
  refine za_aload_n o 0 dX7_of_0 rfl rfl ?_
  refine za_getf o 0 zc7 hq (Nat.le_of_ble_eq_true rfl) wfX7_10 rfl dX7_of_1 ?_
  refine za_iload_n o 1 dX7_of_4 rfl rfl ?_
  refine za_iload_n o 2 dX7_of_5 rfl rfl ?_
  refine za_callVi o [.int a1, .int a2] (ctX0_aboutPerson l G zk_c0 a1 a2  μ _ hf) zc0 zk_c0 mwX0_aboutPerson wmX7_87 wiX0_aboutPerson wsX0_aboutPerson rfl ⟨Nat.le_of_ble_eq_true rfl, Nat.le_of_ble_eq_true rfl⟩ rfl (Nat.le_of_ble_eq_true rfl) dX7_of_6 (fun r1 m2 hf => ?_)
  exact za_iret o rfl hf dX7_of_9
def fX0_aboutDish_135  (K : Int32 → zMem → Prop) (q : Nat) (v1 : Int32) (μ : zMem) : Prop :=
  K v1 μ
def fX0_aboutDish (q : Nat) (a1 : Int32) (a2 : Int32) (μ : zMem) (K : Int32 → zMem → Prop) : Prop :=
  fX0_hasDish q a1 μ (fun r1 m2 => ((¬ r1 = 0 → ((a2 = (0 : Int32) → (vp_in a1 3 ∧ (∀ q6 : Nat, q6 = (q + 3) + 43 + 2 * a1.toNatClampNeg → K (m2 q6 1) m2))) ∧ (¬ a2 = (0 : Int32) → ((a2 = (1 : Int32) → (vp_in a1 3 ∧ (∀ q9 : Nat, q9 = (q + 3) + 43 + 2 * a1.toNatClampNeg → K (m2 q9 2) m2))) ∧ (¬ a2 = (1 : Int32) → ((a2 = (2 : Int32) → fX0_awaited q a1 m2 (fun r11 m12 => K r11 m12)) ∧ (¬ a2 = (2 : Int32) → ((a2 = (3 : Int32) → (vp_in a1 3 ∧ (∀ q15 : Nat, q15 = (q + 3) + 43 + 2 * a1.toNatClampNeg → K (m2 q15 3) m2))) ∧ (¬ a2 = (3 : Int32) → ((a2 = (4 : Int32) → (vp_in a1 3 ∧ (∀ q18 : Nat, q18 = (q + 3) + 43 + 2 * a1.toNatClampNeg → K (m2 q18 4) m2))) ∧ (¬ a2 = (4 : Int32) → ((a2 = (5 : Int32) → (vp_in a1 3 ∧ (∀ q21 : Nat, q21 = (q + 3) + 43 + 2 * a1.toNatClampNeg → K (m2 q21 5) m2))) ∧ (¬ a2 = (5 : Int32) → ((a2 = (6 : Int32) → fX0_priceOf q a1 (0 : Int32) m2 (fun r23 m24 => K r23 m24)) ∧ (¬ a2 = (6 : Int32) → ((a2 = (7 : Int32) → (((m2 q 5) = 0 → fX0_platesToCook q a1 m2 (fun r27 m28 => fX0_aboutDish_135  K q r27 m28)) ∧ (¬ (m2 q 5) = 0 → fX0_aboutDish_135  K q (0 : Int32) m2))) ∧ (¬ a2 = (7 : Int32) → K (-2 : Int32) m2))))))))))))))))) ∧ (r1 = 0 → K (-1 : Int32) m2)))
set_option maxRecDepth 100000 in
set_option maxHeartbeats 4000000 in
theorem tX0_aboutDish_135 {p : Program} {l : Launch} {e : Env} {s : State} {m : MethodId} {args : Array Value} {below : List Frame} {meth : Method} {c : Code} {G : zG}  {K : Int32 → zMem → Prop} (o : za_Ok (z_rm 3 64) 0 0 p s m args meth c G RX0 cX0_aboutDish 3 (some .int)) {q : Nat} (hq : z_is q 0)  (v1 : Int32) (μ : zMem)  (hf : fX0_aboutDish_135  K q v1 μ) : za_At p l e (z_rm 3 64) s m args below meth c (MQ below (zQi G K) args s 0 0 (zA G)) G 3 0 0 135 [] [.int v1] μ := by
  unfold fX0_aboutDish_135 at hf
  exact za_iret o rfl hf dX0_aboutDish_135
set_option maxRecDepth 100000 in
set_option maxHeartbeats 4000000 in
theorem ctX0_aboutDish (l : Launch) (G : zG) {q : Nat} (hq : z_is q 0) (a1 : Int32) (a2 : Int32)  (μ : zMem) (K : Int32 → zMem → Prop) (hf : fX0_aboutDish q a1 a2 μ K) : z_Met l G yX0_aboutDish cX0_aboutDish 3 (some .int) (z_rm 3 64) [.ref (G.2.2 + q), .int a1, .int a2] μ K := by
  refine z_body (by decide) (Nat.le_of_ble_eq_true rfl) (fun p e s m args below meth c o => ?_)
  have o : za_Ok (z_rm 3 64) 0 0 p s m args meth c G RX0 cX0_aboutDish 3 (some .int) := o
  show za_At p l e (z_rm 3 64) s m args below meth c (MQ below (zQi G K) args s 0 0 (zA G)) G 3 0 0 0 [(0, .ref (G.2.2 + q)), (1, .int a1), (2, .int a2)] [] μ
  unfold fX0_aboutDish at hf
  refine za_aload_n o 0 dX0_aboutDish_0 rfl rfl ?_
  refine za_iload_n o 1 dX0_aboutDish_1 rfl rfl ?_
  refine za_callVi o [.int a1] (ctX0_hasDish l G hq a1  μ _ hf) zc0 hq mwX0_hasDish wmX0_62 wiX0_hasDish wsX0_hasDish rfl ⟨Nat.le_of_ble_eq_true rfl, Nat.le_of_ble_eq_true rfl⟩ rfl (Nat.le_of_ble_eq_true rfl) dX0_aboutDish_2 (fun r1 m2 hf => ?_)
  refine za_if_ne o 10 dX0_aboutDish_5 (by decide) (fun c3 => ?_) (fun c3 => ?_)
  · replace hf := hf.1 c3
    refine za_iload_n o 2 dX0_aboutDish_10 rfl rfl ?_
    by_cases c4 : a2 = (0 : Int32)
    · replace hf := hf.1 c4
      refine za_tswE o 56 c4 dX0_aboutDish_11 (by decide) (by decide) rfl (by decide) ?_
      refine za_aload_n o 0 dX0_aboutDish_56 rfl rfl ?_
      refine za_getf o 2 zc0 hq (Nat.le_of_ble_eq_true rfl) wfX0_23 rfl dX0_aboutDish_57 ?_
      refine za_iload_n o 1 dX0_aboutDish_60 rfl rfl ?_
      obtain ⟨g5, hf⟩ := hf
      refine za_aald o (zk_0_11 hq) rfl rfl rfl g5 dX0_aboutDish_61 ?_
      refine za_topr (fun q6 eq6 => ?_)
      replace hf := hf q6 eq6
      have hq6 : z_is q6 1 := by rw [eq6]; exact zk_a11 (zk_0_11 hq) (z_lt g5)
      refine za_getfN o 1 "CanteenPlates" zc1 hq6 (Nat.le_of_ble_eq_true rfl) wnX0_109 rfl dX0_aboutDish_62 ?_
      exact za_iret o rfl hf dX0_aboutDish_65
    · replace hf := hf.2 c4
      by_cases c7 : a2 = (1 : Int32)
      · replace hf := hf.1 c7
        refine za_tswE o 66 c7 dX0_aboutDish_11 (by decide) (by decide) rfl (by decide) ?_
        refine za_aload_n o 0 dX0_aboutDish_66 rfl rfl ?_
        refine za_getf o 2 zc0 hq (Nat.le_of_ble_eq_true rfl) wfX0_23 rfl dX0_aboutDish_67 ?_
        refine za_iload_n o 1 dX0_aboutDish_70 rfl rfl ?_
        obtain ⟨g8, hf⟩ := hf
        refine za_aald o (zk_0_11 hq) rfl rfl rfl g8 dX0_aboutDish_71 ?_
        refine za_topr (fun q9 eq9 => ?_)
        replace hf := hf q9 eq9
        have hq9 : z_is q9 1 := by rw [eq9]; exact zk_a11 (zk_0_11 hq) (z_lt g8)
        refine za_getfN o 2 "CanteenPlates" zc1 hq9 (Nat.le_of_ble_eq_true rfl) wnX0_158 rfl dX0_aboutDish_72 ?_
        exact za_iret o rfl hf dX0_aboutDish_75
      · replace hf := hf.2 c7
        by_cases c10 : a2 = (2 : Int32)
        · replace hf := hf.1 c10
          refine za_tswE o 76 c10 dX0_aboutDish_11 (by decide) (by decide) rfl (by decide) ?_
          refine za_aload_n o 0 dX0_aboutDish_76 rfl rfl ?_
          refine za_iload_n o 1 dX0_aboutDish_77 rfl rfl ?_
          refine za_callVi o [.int a1] (ctX0_awaited l G hq a1  m2 _ hf) zc0 hq mwX0_awaited wmX0_135 wiX0_awaited wsX0_awaited rfl ⟨Nat.le_of_ble_eq_true rfl, Nat.le_of_ble_eq_true rfl⟩ rfl (Nat.le_of_ble_eq_true rfl) dX0_aboutDish_78 (fun r11 m12 hf => ?_)
          exact za_iret o rfl hf dX0_aboutDish_81
        · replace hf := hf.2 c10
          by_cases c13 : a2 = (3 : Int32)
          · replace hf := hf.1 c13
            refine za_tswE o 82 c13 dX0_aboutDish_11 (by decide) (by decide) rfl (by decide) ?_
            refine za_aload_n o 0 dX0_aboutDish_82 rfl rfl ?_
            refine za_getf o 2 zc0 hq (Nat.le_of_ble_eq_true rfl) wfX0_23 rfl dX0_aboutDish_83 ?_
            refine za_iload_n o 1 dX0_aboutDish_86 rfl rfl ?_
            obtain ⟨g14, hf⟩ := hf
            refine za_aald o (zk_0_11 hq) rfl rfl rfl g14 dX0_aboutDish_87 ?_
            refine za_topr (fun q15 eq15 => ?_)
            replace hf := hf q15 eq15
            have hq15 : z_is q15 1 := by rw [eq15]; exact zk_a11 (zk_0_11 hq) (z_lt g14)
            refine za_getfN o 3 "CanteenPlates" zc1 hq15 (Nat.le_of_ble_eq_true rfl) wnX0_161 rfl dX0_aboutDish_88 ?_
            exact za_iret o rfl hf dX0_aboutDish_91
          · replace hf := hf.2 c13
            by_cases c16 : a2 = (4 : Int32)
            · replace hf := hf.1 c16
              refine za_tswE o 92 c16 dX0_aboutDish_11 (by decide) (by decide) rfl (by decide) ?_
              refine za_aload_n o 0 dX0_aboutDish_92 rfl rfl ?_
              refine za_getf o 2 zc0 hq (Nat.le_of_ble_eq_true rfl) wfX0_23 rfl dX0_aboutDish_93 ?_
              refine za_iload_n o 1 dX0_aboutDish_96 rfl rfl ?_
              obtain ⟨g17, hf⟩ := hf
              refine za_aald o (zk_0_11 hq) rfl rfl rfl g17 dX0_aboutDish_97 ?_
              refine za_topr (fun q18 eq18 => ?_)
              replace hf := hf q18 eq18
              have hq18 : z_is q18 1 := by rw [eq18]; exact zk_a11 (zk_0_11 hq) (z_lt g17)
              refine za_getfN o 4 "CanteenPlates" zc1 hq18 (Nat.le_of_ble_eq_true rfl) wnX0_163 rfl dX0_aboutDish_98 ?_
              exact za_iret o rfl hf dX0_aboutDish_101
            · replace hf := hf.2 c16
              by_cases c19 : a2 = (5 : Int32)
              · replace hf := hf.1 c19
                refine za_tswE o 102 c19 dX0_aboutDish_11 (by decide) (by decide) rfl (by decide) ?_
                refine za_aload_n o 0 dX0_aboutDish_102 rfl rfl ?_
                refine za_getf o 2 zc0 hq (Nat.le_of_ble_eq_true rfl) wfX0_23 rfl dX0_aboutDish_103 ?_
                refine za_iload_n o 1 dX0_aboutDish_106 rfl rfl ?_
                obtain ⟨g20, hf⟩ := hf
                refine za_aald o (zk_0_11 hq) rfl rfl rfl g20 dX0_aboutDish_107 ?_
                refine za_topr (fun q21 eq21 => ?_)
                replace hf := hf q21 eq21
                have hq21 : z_is q21 1 := by rw [eq21]; exact zk_a11 (zk_0_11 hq) (z_lt g20)
                refine za_getfN o 5 "CanteenPlates" zc1 hq21 (Nat.le_of_ble_eq_true rfl) wnX0_166 rfl dX0_aboutDish_108 ?_
                exact za_iret o rfl hf dX0_aboutDish_111
              · replace hf := hf.2 c19
                by_cases c22 : a2 = (6 : Int32)
                · replace hf := hf.1 c22
                  refine za_tswE o 112 c22 dX0_aboutDish_11 (by decide) (by decide) rfl (by decide) ?_
                  refine za_aload_n o 0 dX0_aboutDish_112 rfl rfl ?_
                  refine za_iload_n o 1 dX0_aboutDish_113 rfl rfl ?_
                  refine za_iconst (v := (0 : Int32)) o dX0_aboutDish_114 (by decide) ?_
                  refine za_callVi o [.int a1, .int (0 : Int32)] (ctX0_priceOf l G hq a1 (0 : Int32)  m2 _ hf) zc0 hq mwX0_priceOf wmX0_80 wiX0_priceOf wsX0_priceOf rfl ⟨Nat.le_of_ble_eq_true rfl, Nat.le_of_ble_eq_true rfl⟩ rfl (Nat.le_of_ble_eq_true rfl) dX0_aboutDish_115 (fun r23 m24 hf => ?_)
                  exact za_iret o rfl hf dX0_aboutDish_118
                · replace hf := hf.2 c22
                  by_cases c25 : a2 = (7 : Int32)
                  · replace hf := hf.1 c25
                    refine za_tswE o 119 c25 dX0_aboutDish_11 (by decide) (by decide) rfl (by decide) ?_
                    refine za_aload_n o 0 dX0_aboutDish_119 rfl rfl ?_
                    refine za_getf o 5 zc0 hq (Nat.le_of_ble_eq_true rfl) wfX0_49 rfl dX0_aboutDish_120 ?_
                    refine za_if_eq o 130 dX0_aboutDish_123 (by decide) (fun c26 => ?_) (fun c26 => ?_)
                    · replace hf := hf.1 c26
                      refine za_aload_n o 0 dX0_aboutDish_130 rfl rfl ?_
                      refine za_iload_n o 1 dX0_aboutDish_131 rfl rfl ?_
                      refine za_callVi o [.int a1] (ctX0_platesToCook l G hq a1  m2 _ hf) zc0 hq mwX0_platesToCook wmX0_98 wiX0_platesToCook wsX0_platesToCook rfl ⟨Nat.le_of_ble_eq_true rfl, Nat.le_of_ble_eq_true rfl⟩ rfl (Nat.le_of_ble_eq_true rfl) dX0_aboutDish_132 (fun r27 m28 hf => ?_)
                      refine za_sub [] rfl ?_
                      exact tX0_aboutDish_135 o hq  r27 m28  hf
                    · replace hf := hf.2 c26
                      refine za_iconst (v := (0 : Int32)) o dX0_aboutDish_126 (by decide) ?_
                      refine za_goto o 135 dX0_aboutDish_127 (by decide) ?_
                      refine za_sub [] rfl ?_
                      exact tX0_aboutDish_135 o hq  (0 : Int32) m2  hf
                  · replace hf := hf.2 c25
                    refine za_tswD o 136 dX0_aboutDish_11 (fun z1 z2 => ?_) (by decide) ?_
                    · have z1 := Int.not_lt.mp z1
                      have z2 := Int.not_lt.mp z2
                      have z3 : (a2).toInt = 0 ∨ (a2).toInt = 1 ∨ (a2).toInt = 2 ∨ (a2).toInt = 3 ∨ (a2).toInt = 4 ∨ (a2).toInt = 5 ∨ (a2).toInt = 6 ∨ (a2).toInt = 7 := by omega
                      rcases z3 with z3 | z3 | z3 | z3 | z3 | z3 | z3 | z3
                      · exact c4 (Int32.toInt_inj.mp (z3.trans rfl))
                      · exact c7 (Int32.toInt_inj.mp (z3.trans rfl))
                      · exact c10 (Int32.toInt_inj.mp (z3.trans rfl))
                      · exact c13 (Int32.toInt_inj.mp (z3.trans rfl))
                      · exact c16 (Int32.toInt_inj.mp (z3.trans rfl))
                      · exact c19 (Int32.toInt_inj.mp (z3.trans rfl))
                      · exact c22 (Int32.toInt_inj.mp (z3.trans rfl))
                      · exact c25 (Int32.toInt_inj.mp (z3.trans rfl))
                    · skip
                      refine za_bipush (v := (-2 : Int32)) o dX0_aboutDish_136 (by decide) ?_
                      exact za_iret o rfl hf dX0_aboutDish_138
  · replace hf := hf.2 c3
    refine za_iconst (v := (-1 : Int32)) o dX0_aboutDish_8 (by decide) ?_
    exact za_iret o rfl hf dX0_aboutDish_9
def fX7_ofDish (q : Nat) (a1 : Int32) (a2 : Int32) (μ : zMem) (K : Int32 → zMem → Prop) : Prop :=
  fX0_aboutDish 1 a1 a2 μ (fun r1 m2 => K r1 m2)
set_option maxRecDepth 100000 in
set_option maxHeartbeats 4000000 in
theorem ctX7_ofDish (l : Launch) (G : zG) {q : Nat} (hq : z_is q 7) (a1 : Int32) (a2 : Int32)  (μ : zMem) (K : Int32 → zMem → Prop) (hf : fX7_ofDish q a1 a2 μ K) : z_Met l G yX7_ofDish cX7_ofDish 3 (some .int) (z_rm 4 86) [.ref (G.2.2 + q), .int a1, .int a2] μ K := by
  refine z_body (by decide) (Nat.le_of_ble_eq_true rfl) (fun p e s m args below meth c o => ?_)
  have o : za_Ok (z_rm 4 86) 0 0 p s m args meth c G RX7 cX7_ofDish 3 (some .int) := o
  show za_At p l e (z_rm 4 86) s m args below meth c (MQ below (zQi G K) args s 0 0 (zA G)) G 3 0 0 0 [(0, .ref (G.2.2 + q)), (1, .int a1), (2, .int a2)] [] μ
  unfold fX7_ofDish at hf
  refine za_aload_n o 0 dX7_ofDish_0 rfl rfl ?_
  refine za_getf o 0 zc7 hq (Nat.le_of_ble_eq_true rfl) wfX7_10 rfl dX7_ofDish_1 ?_
  refine za_iload_n o 1 dX7_ofDish_4 rfl rfl ?_
  refine za_iload_n o 2 dX7_ofDish_5 rfl rfl ?_
  refine za_callVi o [.int a1, .int a2] (ctX0_aboutDish l G zk_c0 a1 a2  μ _ hf) zc0 zk_c0 mwX0_aboutDish wmX7_90 wiX0_aboutDish wsX0_aboutDish rfl ⟨Nat.le_of_ble_eq_true rfl, Nat.le_of_ble_eq_true rfl⟩ rfl (Nat.le_of_ble_eq_true rfl) dX7_ofDish_6 (fun r1 m2 hf => ?_)
  exact za_iret o rfl hf dX7_ofDish_9
def fX0_peopleWithOrder_58 (k26 : Int32 → Int32 → Int32 → Int32 → zMem → Prop) (K : Int32 → zMem → Prop) (q : Nat) (v1 : Int32) (v2 : Int32) (v3 : Int32) (v4 : Int32) (μ : zMem) : Prop :=
  (∀ x1 : Int32, x1 = v4 + (1 : Int32) → k26 v1 v2 v3 x1 μ)
def fX0_peopleWithOrder_26b (k26 : Int32 → Int32 → Int32 → Int32 → zMem → Prop) (K : Int32 → zMem → Prop) (q : Nat) (v1 : Int32) (v2 : Int32) (v3 : Int32) (v4 : Int32) (μ : zMem) : Prop :=
  (((μ q 3) ≤ v4 → K v3 μ) ∧ (¬ (μ q 3) ≤ v4 → (vp_in v4 14 ∧ (∀ q4 : Nat, q4 = (q + 2) + 2 + 3 * v4.toNatClampNeg → (vp_in v1 5 ∧ (∀ x6 : Int32, x6 = (μ (q4 + 1) v1.toNatClampNeg) → ((¬ x6 = v2 → fX0_peopleWithOrder_58 k26 K q v1 v2 v3 v4 μ) ∧ (x6 = v2 → (∀ x8 : Int32, x8 = ((1 : Int32) <<< (v4 &&& 31)) → (∀ x9 : Int32, x9 = (v3 ||| x8) → fX0_peopleWithOrder_58 k26 K q v1 v2 x9 v4 μ))))))))))
def fX0_peopleWithOrder_26  (K : Int32 → zMem → Prop) (q : Nat) (n : Nat) : Int32 → Int32 → Int32 → Int32 → zMem → Prop := z_it (fun k => fX0_peopleWithOrder_26b  k K q ) (fun _ _ _ _ _ => False) n
def fX0_peopleWithOrder (q : Nat) (a1 : Int32) (a2 : Int32) (μ : zMem) (K : Int32 → zMem → Prop) : Prop :=
  fX0_hasDish q a2 μ (fun r10 m11 => ((¬ r10 = 0 → fX0_isAhead q a1 m11 (fun r13 m14 => ((¬ r13 = 0 → fX0_peopleWithOrder_26  K q zFU a1 a2 (0 : Int32) (0 : Int32) m14) ∧ (r13 = 0 → K (-2 : Int32) m14)))) ∧ (r10 = 0 → K (-1 : Int32) m11)))
set_option maxRecDepth 100000 in
set_option maxHeartbeats 4000000 in
theorem tX0_peopleWithOrder_58 {p : Program} {l : Launch} {e : Env} {s : State} {m : MethodId} {args : Array Value} {below : List Frame} {meth : Method} {c : Code} {G : zG} {k26 : Int32 → Int32 → Int32 → Int32 → zMem → Prop} {K : Int32 → zMem → Prop} (o : za_Ok (z_rm 1 21) 0 0 p s m args meth c G RX0 cX0_peopleWithOrder 5 (some .int)) {q : Nat} (hq : z_is q 0) (hk26 : ∀ (v1 : Int32) (v2 : Int32) (v3 : Int32) (v4 : Int32) (μ : zMem), k26 v1 v2 v3 v4 μ → za_At p l e (z_rm 1 21) s m args below meth c (MQ below (zQi G K) args s 0 0 (zA G)) G 5 0 0 26 [(0, .ref (G.2.2 + q)), (1, .int v1), (2, .int v2), (3, .int v3), (4, .int v4)] [] μ) (v1 : Int32) (v2 : Int32) (v3 : Int32) (v4 : Int32) (μ : zMem)  (hf : fX0_peopleWithOrder_58 k26 K q v1 v2 v3 v4 μ) : za_At p l e (z_rm 1 21) s m args below meth c (MQ below (zQi G K) args s 0 0 (zA G)) G 5 0 0 58 [(0, .ref (G.2.2 + q)), (1, .int v1), (2, .int v2), (3, .int v3), (4, .int v4)] [] μ := by
  unfold fX0_peopleWithOrder_58 at hf
  obtain ⟨x1, ex1⟩ : ∃ y : Int32, y = v4 + (1 : Int32) := ⟨_, rfl⟩
  replace hf := hf x1 ex1
  refine za_iinc o x1 4 [(4, .int x1), (0, .ref (G.2.2 + q)), (1, .int v1), (2, .int v2), (3, .int v3)] dX0_peopleWithOrder_58 rfl (by rw [ex1]; rfl) (by decide) rfl ?_
  refine za_goto o 26 dX0_peopleWithOrder_61 (by decide) ?_
  refine za_sub [1, 2, 3, 4, 0] rfl ?_
  exact hk26 v1 v2 v3 x1 μ  hf
set_option maxRecDepth 100000 in
set_option maxHeartbeats 4000000 in
theorem tX0_peopleWithOrder_26b {p : Program} {l : Launch} {e : Env} {s : State} {m : MethodId} {args : Array Value} {below : List Frame} {meth : Method} {c : Code} {G : zG} {k26 : Int32 → Int32 → Int32 → Int32 → zMem → Prop} {K : Int32 → zMem → Prop} (o : za_Ok (z_rm 1 21) 0 0 p s m args meth c G RX0 cX0_peopleWithOrder 5 (some .int)) {q : Nat} (hq : z_is q 0) (hk26 : ∀ (v1 : Int32) (v2 : Int32) (v3 : Int32) (v4 : Int32) (μ : zMem), k26 v1 v2 v3 v4 μ → za_At p l e (z_rm 1 21) s m args below meth c (MQ below (zQi G K) args s 0 0 (zA G)) G 5 0 0 26 [(0, .ref (G.2.2 + q)), (1, .int v1), (2, .int v2), (3, .int v3), (4, .int v4)] [] μ) (v1 : Int32) (v2 : Int32) (v3 : Int32) (v4 : Int32) (μ : zMem)  (hf : fX0_peopleWithOrder_26b k26 K q v1 v2 v3 v4 μ) : za_At p l e (z_rm 1 21) s m args below meth c (MQ below (zQi G K) args s 0 0 (zA G)) G 5 0 0 26 [(0, .ref (G.2.2 + q)), (1, .int v1), (2, .int v2), (3, .int v3), (4, .int v4)] [] μ := by
  unfold fX0_peopleWithOrder_26b at hf
  refine za_iload o 4 dX0_peopleWithOrder_26 rfl ?_
  refine za_aload_n o 0 dX0_peopleWithOrder_28 rfl rfl ?_
  refine za_getf o 3 zc0 hq (Nat.le_of_ble_eq_true rfl) wfX0_39 rfl dX0_peopleWithOrder_29 ?_
  refine za_icmp_ge o 64 dX0_peopleWithOrder_32 (by decide) (fun c2 => ?_) (fun c2 => ?_)
  · replace hf := hf.1 c2
    refine za_iload_n o 3 dX0_peopleWithOrder_64 rfl rfl ?_
    exact za_iret o rfl hf dX0_peopleWithOrder_65
  · replace hf := hf.2 c2
    refine za_aload_n o 0 dX0_peopleWithOrder_35 rfl rfl ?_
    refine za_getf o 1 zc0 hq (Nat.le_of_ble_eq_true rfl) wfX0_17 rfl dX0_peopleWithOrder_36 ?_
    refine za_iload o 4 dX0_peopleWithOrder_39 rfl ?_
    obtain ⟨g3, hf⟩ := hf
    refine za_aald o (zk_0_10 hq) rfl rfl rfl g3 dX0_peopleWithOrder_41 ?_
    refine za_topr (fun q4 eq4 => ?_)
    replace hf := hf q4 eq4
    have hq4 : z_is q4 5 := by rw [eq4]; exact zk_a10 (zk_0_10 hq) (z_lt g3)
    refine za_getfN o 0 "CanteenPlates" zc5 hq4 (Nat.le_of_ble_eq_true rfl) wnX0_93 rfl dX0_peopleWithOrder_42 ?_
    refine za_iload_n o 1 dX0_peopleWithOrder_45 rfl rfl ?_
    obtain ⟨g5, hf⟩ := hf
    refine za_iald o (zk_5_12 hq4) rfl g5 dX0_peopleWithOrder_46 ?_
    refine za_topi (fun x6 ex6 => ?_)
    replace hf := hf x6 ex6
    refine za_iload_n o 2 dX0_peopleWithOrder_47 rfl rfl ?_
    refine za_icmp_ne o 58 dX0_peopleWithOrder_48 (by decide) (fun c7 => ?_) (fun c7 => ?_)
    · replace hf := hf.1 c7
      exact tX0_peopleWithOrder_58 o hq hk26 v1 v2 v3 v4 μ  hf
    · replace hf := hf.2 c7
      refine za_iload_n o 3 dX0_peopleWithOrder_51 rfl rfl ?_
      refine za_iconst (v := (1 : Int32)) o dX0_peopleWithOrder_52 (by decide) ?_
      refine za_iload o 4 dX0_peopleWithOrder_53 rfl ?_
      refine za_ishl o dX0_peopleWithOrder_55 ?_
      refine za_topi (fun x8 ex8 => ?_)
      replace hf := hf x8 ex8
      refine za_ior o dX0_peopleWithOrder_56 ?_
      refine za_topi (fun x9 ex9 => ?_)
      replace hf := hf x9 ex9
      refine za_istore_n o [(3, .int x9), (0, .ref (G.2.2 + q)), (1, .int v1), (2, .int v2), (4, .int v4)] dX0_peopleWithOrder_57 rfl (by decide) rfl ?_
      refine za_sub [1, 2, 3, 0, 4] rfl ?_
      exact tX0_peopleWithOrder_58 o hq hk26 v1 v2 x9 v4 μ  hf
theorem tX0_peopleWithOrder_26 {p : Program} {l : Launch} {e : Env} {s : State} {m : MethodId} {args : Array Value} {below : List Frame} {meth : Method} {c : Code} {G : zG}  {K : Int32 → zMem → Prop} (o : za_Ok (z_rm 1 21) 0 0 p s m args meth c G RX0 cX0_peopleWithOrder 5 (some .int)) {q : Nat} (hq : z_is q 0)  (n : Nat) : ∀ (v1 : Int32) (v2 : Int32) (v3 : Int32) (v4 : Int32) (μ : zMem), fX0_peopleWithOrder_26  K q n v1 v2 v3 v4 μ → za_At p l e (z_rm 1 21) s m args below meth c (MQ below (zQi G K) args s 0 0 (zA G)) G 5 0 0 26 [(0, .ref (G.2.2 + q)), (1, .int v1), (2, .int v2), (3, .int v3), (4, .int v4)] [] μ := by
  induction n with
  | zero => intro _ _ _ _ _ hf; exact hf.elim
  | succ n ih => intro v1 v2 v3 v4 μ  hf; exact tX0_peopleWithOrder_26b o hq  ih v1 v2 v3 v4 μ  hf
set_option maxRecDepth 100000 in
set_option maxHeartbeats 4000000 in
theorem ctX0_peopleWithOrder (l : Launch) (G : zG) {q : Nat} (hq : z_is q 0) (a1 : Int32) (a2 : Int32)  (μ : zMem) (K : Int32 → zMem → Prop) (hf : fX0_peopleWithOrder q a1 a2 μ K) : z_Met l G yX0_peopleWithOrder cX0_peopleWithOrder 5 (some .int) (z_rm 1 21) [.ref (G.2.2 + q), .int a1, .int a2] μ K := by
  refine z_body (by decide) (Nat.le_of_ble_eq_true rfl) (fun p e s m args below meth c o => ?_)
  have o : za_Ok (z_rm 1 21) 0 0 p s m args meth c G RX0 cX0_peopleWithOrder 5 (some .int) := o
  show za_At p l e (z_rm 1 21) s m args below meth c (MQ below (zQi G K) args s 0 0 (zA G)) G 5 0 0 0 [(0, .ref (G.2.2 + q)), (1, .int a1), (2, .int a2)] [] μ
  unfold fX0_peopleWithOrder at hf
  refine za_aload_n o 0 dX0_peopleWithOrder_0 rfl rfl ?_
  refine za_iload_n o 2 dX0_peopleWithOrder_1 rfl rfl ?_
  refine za_callVi o [.int a2] (ctX0_hasDish l G hq a2  μ _ hf) zc0 hq mwX0_hasDish wmX0_62 wiX0_hasDish wsX0_hasDish rfl ⟨Nat.le_of_ble_eq_true rfl, Nat.le_of_ble_eq_true rfl⟩ rfl (Nat.le_of_ble_eq_true rfl) dX0_peopleWithOrder_2 (fun r10 m11 hf => ?_)
  refine za_if_ne o 10 dX0_peopleWithOrder_5 (by decide) (fun c12 => ?_) (fun c12 => ?_)
  · replace hf := hf.1 c12
    refine za_aload_n o 0 dX0_peopleWithOrder_10 rfl rfl ?_
    refine za_iload_n o 1 dX0_peopleWithOrder_11 rfl rfl ?_
    refine za_callVi o [.int a1] (ctX0_isAhead l G hq a1  m11 _ hf) zc0 hq mwX0_isAhead wmX0_87 wiX0_isAhead wsX0_isAhead rfl ⟨Nat.le_of_ble_eq_true rfl, Nat.le_of_ble_eq_true rfl⟩ rfl (Nat.le_of_ble_eq_true rfl) dX0_peopleWithOrder_12 (fun r13 m14 hf => ?_)
    refine za_if_ne o 21 dX0_peopleWithOrder_15 (by decide) (fun c15 => ?_) (fun c15 => ?_)
    · replace hf := hf.1 c15
      refine za_iconst (v := (0 : Int32)) o dX0_peopleWithOrder_21 (by decide) ?_
      refine za_istore_n o [(3, .int (0 : Int32)), (0, .ref (G.2.2 + q)), (1, .int a1), (2, .int a2)] dX0_peopleWithOrder_22 rfl (by decide) rfl ?_
      refine za_iconst (v := (0 : Int32)) o dX0_peopleWithOrder_23 (by decide) ?_
      refine za_istore o [(4, .int (0 : Int32)), (3, .int (0 : Int32)), (0, .ref (G.2.2 + q)), (1, .int a1), (2, .int a2)] dX0_peopleWithOrder_24 (by decide) rfl ?_
      refine za_sub [2, 3, 4, 1, 0] rfl ?_
      exact tX0_peopleWithOrder_26 o hq  zFU a1 a2 (0 : Int32) (0 : Int32) m14  hf
    · replace hf := hf.2 c15
      refine za_bipush (v := (-2 : Int32)) o dX0_peopleWithOrder_18 (by decide) ?_
      exact za_iret o rfl hf dX0_peopleWithOrder_20
  · replace hf := hf.2 c12
    refine za_iconst (v := (-1 : Int32)) o dX0_peopleWithOrder_8 (by decide) ?_
    exact za_iret o rfl hf dX0_peopleWithOrder_9
def fX7_ordered (q : Nat) (a1 : Int32) (a2 : Int32) (μ : zMem) (K : Int32 → zMem → Prop) : Prop :=
  fX0_peopleWithOrder 1 a1 a2 μ (fun r1 m2 => K r1 m2)
set_option maxRecDepth 100000 in
set_option maxHeartbeats 4000000 in
theorem ctX7_ordered (l : Launch) (G : zG) {q : Nat} (hq : z_is q 7) (a1 : Int32) (a2 : Int32)  (μ : zMem) (K : Int32 → zMem → Prop) (hf : fX7_ordered q a1 a2 μ K) : z_Met l G yX7_ordered cX7_ordered 3 (some .int) (z_rm 2 45) [.ref (G.2.2 + q), .int a1, .int a2] μ K := by
  refine z_body (by decide) (Nat.le_of_ble_eq_true rfl) (fun p e s m args below meth c o => ?_)
  have o : za_Ok (z_rm 2 45) 0 0 p s m args meth c G RX7 cX7_ordered 3 (some .int) := o
  show za_At p l e (z_rm 2 45) s m args below meth c (MQ below (zQi G K) args s 0 0 (zA G)) G 3 0 0 0 [(0, .ref (G.2.2 + q)), (1, .int a1), (2, .int a2)] [] μ
  unfold fX7_ordered at hf
  refine za_aload_n o 0 dX7_ordered_0 rfl rfl ?_
  refine za_getf o 0 zc7 hq (Nat.le_of_ble_eq_true rfl) wfX7_10 rfl dX7_ordered_1 ?_
  refine za_iload_n o 1 dX7_ordered_4 rfl rfl ?_
  refine za_iload_n o 2 dX7_ordered_5 rfl rfl ?_
  refine za_callVi o [.int a1, .int a2] (ctX0_peopleWithOrder l G zk_c0 a1 a2  μ _ hf) zc0 zk_c0 mwX0_peopleWithOrder wmX7_93 wiX0_peopleWithOrder wsX0_peopleWithOrder rfl ⟨Nat.le_of_ble_eq_true rfl, Nat.le_of_ble_eq_true rfl⟩ rfl (Nat.le_of_ble_eq_true rfl) dX7_ordered_6 (fun r1 m2 hf => ?_)
  exact za_iret o rfl hf dX7_ordered_9
def fX0_bannedToday_34 (k4 : Int32 → Int32 → zMem → Prop) (K : Int32 → zMem → Prop) (q : Nat) (v1 : Int32) (v2 : Int32) (μ : zMem) : Prop :=
  (∀ x1 : Int32, x1 = v2 + (1 : Int32) → k4 v1 x1 μ)
def fX0_bannedToday_4b (k4 : Int32 → Int32 → zMem → Prop) (K : Int32 → zMem → Prop) (q : Nat) (v1 : Int32) (v2 : Int32) (μ : zMem) : Prop :=
  (((μ q 3) ≤ v2 → K v1 μ) ∧ (¬ (μ q 3) ≤ v2 → (vp_in v2 14 ∧ (∀ q4 : Nat, q4 = (q + 2) + 2 + 3 * v2.toNatClampNeg → (((μ q4 4) ≤ (μ q 4) → fX0_bannedToday_34 k4 K q v1 v2 μ) ∧ (¬ (μ q4 4) ≤ (μ q 4) → (∀ x6 : Int32, x6 = ((1 : Int32) <<< (v2 &&& 31)) → (∀ x7 : Int32, x7 = (v1 ||| x6) → fX0_bannedToday_34 k4 K q x7 v2 μ))))))))
def fX0_bannedToday_4  (K : Int32 → zMem → Prop) (q : Nat) (n : Nat) : Int32 → Int32 → zMem → Prop := z_it (fun k => fX0_bannedToday_4b  k K q ) (fun _ _ _ => False) n
def fX0_bannedToday (q : Nat)  (μ : zMem) (K : Int32 → zMem → Prop) : Prop :=
  fX0_bannedToday_4  K q zFU (0 : Int32) (0 : Int32) μ
set_option maxRecDepth 100000 in
set_option maxHeartbeats 4000000 in
theorem tX0_bannedToday_34 {p : Program} {l : Launch} {e : Env} {s : State} {m : MethodId} {args : Array Value} {below : List Frame} {meth : Method} {c : Code} {G : zG} {k4 : Int32 → Int32 → zMem → Prop} {K : Int32 → zMem → Prop} (o : za_Ok (z_rm 0 0) 0 0 p s m args meth c G RX0 cX0_bannedToday 3 (some .int)) {q : Nat} (hq : z_is q 0) (hk4 : ∀ (v1 : Int32) (v2 : Int32) (μ : zMem), k4 v1 v2 μ → za_At p l e (z_rm 0 0) s m args below meth c (MQ below (zQi G K) args s 0 0 (zA G)) G 3 0 0 4 [(0, .ref (G.2.2 + q)), (1, .int v1), (2, .int v2)] [] μ) (v1 : Int32) (v2 : Int32) (μ : zMem)  (hf : fX0_bannedToday_34 k4 K q v1 v2 μ) : za_At p l e (z_rm 0 0) s m args below meth c (MQ below (zQi G K) args s 0 0 (zA G)) G 3 0 0 34 [(0, .ref (G.2.2 + q)), (1, .int v1), (2, .int v2)] [] μ := by
  unfold fX0_bannedToday_34 at hf
  obtain ⟨x1, ex1⟩ : ∃ y : Int32, y = v2 + (1 : Int32) := ⟨_, rfl⟩
  replace hf := hf x1 ex1
  refine za_iinc o x1 2 [(2, .int x1), (0, .ref (G.2.2 + q)), (1, .int v1)] dX0_bannedToday_34 rfl (by rw [ex1]; rfl) (by decide) rfl ?_
  refine za_goto o 4 dX0_bannedToday_37 (by decide) ?_
  refine za_sub [1, 2, 0] rfl ?_
  exact hk4 v1 x1 μ  hf
set_option maxRecDepth 100000 in
set_option maxHeartbeats 4000000 in
theorem tX0_bannedToday_4b {p : Program} {l : Launch} {e : Env} {s : State} {m : MethodId} {args : Array Value} {below : List Frame} {meth : Method} {c : Code} {G : zG} {k4 : Int32 → Int32 → zMem → Prop} {K : Int32 → zMem → Prop} (o : za_Ok (z_rm 0 0) 0 0 p s m args meth c G RX0 cX0_bannedToday 3 (some .int)) {q : Nat} (hq : z_is q 0) (hk4 : ∀ (v1 : Int32) (v2 : Int32) (μ : zMem), k4 v1 v2 μ → za_At p l e (z_rm 0 0) s m args below meth c (MQ below (zQi G K) args s 0 0 (zA G)) G 3 0 0 4 [(0, .ref (G.2.2 + q)), (1, .int v1), (2, .int v2)] [] μ) (v1 : Int32) (v2 : Int32) (μ : zMem)  (hf : fX0_bannedToday_4b k4 K q v1 v2 μ) : za_At p l e (z_rm 0 0) s m args below meth c (MQ below (zQi G K) args s 0 0 (zA G)) G 3 0 0 4 [(0, .ref (G.2.2 + q)), (1, .int v1), (2, .int v2)] [] μ := by
  unfold fX0_bannedToday_4b at hf
  refine za_iload_n o 2 dX0_bannedToday_4 rfl rfl ?_
  refine za_aload_n o 0 dX0_bannedToday_5 rfl rfl ?_
  refine za_getf o 3 zc0 hq (Nat.le_of_ble_eq_true rfl) wfX0_39 rfl dX0_bannedToday_6 ?_
  refine za_icmp_ge o 40 dX0_bannedToday_9 (by decide) (fun c2 => ?_) (fun c2 => ?_)
  · replace hf := hf.1 c2
    refine za_iload_n o 1 dX0_bannedToday_40 rfl rfl ?_
    exact za_iret o rfl hf dX0_bannedToday_41
  · replace hf := hf.2 c2
    refine za_aload_n o 0 dX0_bannedToday_12 rfl rfl ?_
    refine za_getf o 4 zc0 hq (Nat.le_of_ble_eq_true rfl) wfX0_46 rfl dX0_bannedToday_13 ?_
    refine za_aload_n o 0 dX0_bannedToday_16 rfl rfl ?_
    refine za_getf o 1 zc0 hq (Nat.le_of_ble_eq_true rfl) wfX0_17 rfl dX0_bannedToday_17 ?_
    refine za_iload_n o 2 dX0_bannedToday_20 rfl rfl ?_
    obtain ⟨g3, hf⟩ := hf
    refine za_aald o (zk_0_10 hq) rfl rfl rfl g3 dX0_bannedToday_21 ?_
    refine za_topr (fun q4 eq4 => ?_)
    replace hf := hf q4 eq4
    have hq4 : z_is q4 5 := by rw [eq4]; exact zk_a10 (zk_0_10 hq) (z_lt g3)
    refine za_getfN o 4 "CanteenPlates" zc5 hq4 (Nat.le_of_ble_eq_true rfl) wnX0_184 rfl dX0_bannedToday_22 ?_
    refine za_icmp_ge o 34 dX0_bannedToday_25 (by decide) (fun c5 => ?_) (fun c5 => ?_)
    · replace hf := hf.1 c5
      exact tX0_bannedToday_34 o hq hk4 v1 v2 μ  hf
    · replace hf := hf.2 c5
      refine za_iload_n o 1 dX0_bannedToday_28 rfl rfl ?_
      refine za_iconst (v := (1 : Int32)) o dX0_bannedToday_29 (by decide) ?_
      refine za_iload_n o 2 dX0_bannedToday_30 rfl rfl ?_
      refine za_ishl o dX0_bannedToday_31 ?_
      refine za_topi (fun x6 ex6 => ?_)
      replace hf := hf x6 ex6
      refine za_ior o dX0_bannedToday_32 ?_
      refine za_topi (fun x7 ex7 => ?_)
      replace hf := hf x7 ex7
      refine za_istore_n o [(1, .int x7), (0, .ref (G.2.2 + q)), (2, .int v2)] dX0_bannedToday_33 rfl (by decide) rfl ?_
      refine za_sub [1, 0, 2] rfl ?_
      exact tX0_bannedToday_34 o hq hk4 x7 v2 μ  hf
theorem tX0_bannedToday_4 {p : Program} {l : Launch} {e : Env} {s : State} {m : MethodId} {args : Array Value} {below : List Frame} {meth : Method} {c : Code} {G : zG}  {K : Int32 → zMem → Prop} (o : za_Ok (z_rm 0 0) 0 0 p s m args meth c G RX0 cX0_bannedToday 3 (some .int)) {q : Nat} (hq : z_is q 0)  (n : Nat) : ∀ (v1 : Int32) (v2 : Int32) (μ : zMem), fX0_bannedToday_4  K q n v1 v2 μ → za_At p l e (z_rm 0 0) s m args below meth c (MQ below (zQi G K) args s 0 0 (zA G)) G 3 0 0 4 [(0, .ref (G.2.2 + q)), (1, .int v1), (2, .int v2)] [] μ := by
  induction n with
  | zero => intro _ _ _ hf; exact hf.elim
  | succ n ih => intro v1 v2 μ  hf; exact tX0_bannedToday_4b o hq  ih v1 v2 μ  hf
set_option maxRecDepth 100000 in
set_option maxHeartbeats 4000000 in
theorem ctX0_bannedToday (l : Launch) (G : zG) {q : Nat} (hq : z_is q 0)   (μ : zMem) (K : Int32 → zMem → Prop) (hf : fX0_bannedToday q  μ K) : z_Met l G yX0_bannedToday cX0_bannedToday 3 (some .int) (z_rm 0 0) [.ref (G.2.2 + q)] μ K := by
  refine z_body (by decide) (Nat.le_of_ble_eq_true rfl) (fun p e s m args below meth c o => ?_)
  have o : za_Ok (z_rm 0 0) 0 0 p s m args meth c G RX0 cX0_bannedToday 3 (some .int) := o
  show za_At p l e (z_rm 0 0) s m args below meth c (MQ below (zQi G K) args s 0 0 (zA G)) G 3 0 0 0 [(0, .ref (G.2.2 + q))] [] μ
  unfold fX0_bannedToday at hf
  refine za_iconst (v := (0 : Int32)) o dX0_bannedToday_0 (by decide) ?_
  refine za_istore_n o [(1, .int (0 : Int32)), (0, .ref (G.2.2 + q))] dX0_bannedToday_1 rfl (by decide) rfl ?_
  refine za_iconst (v := (0 : Int32)) o dX0_bannedToday_2 (by decide) ?_
  refine za_istore_n o [(2, .int (0 : Int32)), (1, .int (0 : Int32)), (0, .ref (G.2.2 + q))] dX0_bannedToday_3 rfl (by decide) rfl ?_
  refine za_sub [2, 1, 0] rfl ?_
  exact tX0_bannedToday_4 o hq  zFU (0 : Int32) (0 : Int32) μ  hf
def fX0_sumOfDishes_34 (k4 : Int32 → Int32 → Int32 → zMem → Prop) (K : Int32 → zMem → Prop) (q : Nat) (v1 : Int32) (v2 : Int32) (v3 : Int32) (v4 : Int32) (μ : zMem) : Prop :=
  (∀ x1 : Int32, x1 = (v4 + v3) → (∀ x2 : Int32, x2 = v2 + (1 : Int32) → k4 v1 x1 x2 μ))
def fX0_sumOfDishes_4b (k4 : Int32 → Int32 → Int32 → zMem → Prop) (K : Int32 → zMem → Prop) (q : Nat) (v1 : Int32) (v2 : Int32) (v3 : Int32) (μ : zMem) : Prop :=
  (((3 : Int32) ≤ v3 → K v2 μ) ∧ (¬ (3 : Int32) ≤ v3 → ((¬ v1 = (6 : Int32) → fX0_aboutDish q v3 v1 μ (fun r5 m6 => fX0_sumOfDishes_34 k4 K q v1 v3 r5 v2 m6)) ∧ (v1 = (6 : Int32) → (vp_in v3 3 ∧ (∀ q8 : Nat, q8 = (q + 3) + 43 + 2 * v3.toNatClampNeg → fX1_left q8  μ (fun r9 m10 => fX0_sumOfDishes_34 k4 K q v1 v3 r9 v2 m10)))))))
def fX0_sumOfDishes_4  (K : Int32 → zMem → Prop) (q : Nat) (n : Nat) : Int32 → Int32 → Int32 → zMem → Prop := z_it (fun k => fX0_sumOfDishes_4b  k K q ) (fun _ _ _ _ => False) n
def fX0_sumOfDishes (q : Nat) (a1 : Int32) (μ : zMem) (K : Int32 → zMem → Prop) : Prop :=
  fX0_sumOfDishes_4  K q zFU a1 (0 : Int32) (0 : Int32) μ
set_option maxRecDepth 100000 in
set_option maxHeartbeats 4000000 in
theorem tX0_sumOfDishes_34 {p : Program} {l : Launch} {e : Env} {s : State} {m : MethodId} {args : Array Value} {below : List Frame} {meth : Method} {c : Code} {G : zG} {k4 : Int32 → Int32 → Int32 → zMem → Prop} {K : Int32 → zMem → Prop} (o : za_Ok (z_rm 4 86) 0 0 p s m args meth c G RX0 cX0_sumOfDishes 4 (some .int)) {q : Nat} (hq : z_is q 0) (hk4 : ∀ (v1 : Int32) (v2 : Int32) (v3 : Int32) (μ : zMem), k4 v1 v2 v3 μ → za_At p l e (z_rm 4 86) s m args below meth c (MQ below (zQi G K) args s 0 0 (zA G)) G 4 0 0 4 [(0, .ref (G.2.2 + q)), (1, .int v1), (2, .int v2), (3, .int v3)] [] μ) (v1 : Int32) (v2 : Int32) (v3 : Int32) (v4 : Int32) (μ : zMem)  (hf : fX0_sumOfDishes_34 k4 K q v1 v2 v3 v4 μ) : za_At p l e (z_rm 4 86) s m args below meth c (MQ below (zQi G K) args s 0 0 (zA G)) G 4 0 0 34 [(0, .ref (G.2.2 + q)), (1, .int v1), (3, .int v2)] [.int v3, .int v4] μ := by
  unfold fX0_sumOfDishes_34 at hf
  refine za_iadd o dX0_sumOfDishes_34 ?_
  refine za_topi (fun x1 ex1 => ?_)
  replace hf := hf x1 ex1
  refine za_istore_n o [(2, .int x1), (0, .ref (G.2.2 + q)), (1, .int v1), (3, .int v2)] dX0_sumOfDishes_35 rfl (by decide) rfl ?_
  obtain ⟨x2, ex2⟩ : ∃ y : Int32, y = v2 + (1 : Int32) := ⟨_, rfl⟩
  replace hf := hf x2 ex2
  refine za_iinc o x2 3 [(3, .int x2), (2, .int x1), (0, .ref (G.2.2 + q)), (1, .int v1)] dX0_sumOfDishes_36 rfl (by rw [ex2]; rfl) (by decide) rfl ?_
  refine za_goto o 4 dX0_sumOfDishes_39 (by decide) ?_
  refine za_sub [2, 3, 1, 0] rfl ?_
  exact hk4 v1 x1 x2 μ  hf
set_option maxRecDepth 100000 in
set_option maxHeartbeats 4000000 in
theorem tX0_sumOfDishes_4b {p : Program} {l : Launch} {e : Env} {s : State} {m : MethodId} {args : Array Value} {below : List Frame} {meth : Method} {c : Code} {G : zG} {k4 : Int32 → Int32 → Int32 → zMem → Prop} {K : Int32 → zMem → Prop} (o : za_Ok (z_rm 4 86) 0 0 p s m args meth c G RX0 cX0_sumOfDishes 4 (some .int)) {q : Nat} (hq : z_is q 0) (hk4 : ∀ (v1 : Int32) (v2 : Int32) (v3 : Int32) (μ : zMem), k4 v1 v2 v3 μ → za_At p l e (z_rm 4 86) s m args below meth c (MQ below (zQi G K) args s 0 0 (zA G)) G 4 0 0 4 [(0, .ref (G.2.2 + q)), (1, .int v1), (2, .int v2), (3, .int v3)] [] μ) (v1 : Int32) (v2 : Int32) (v3 : Int32) (μ : zMem)  (hf : fX0_sumOfDishes_4b k4 K q v1 v2 v3 μ) : za_At p l e (z_rm 4 86) s m args below meth c (MQ below (zQi G K) args s 0 0 (zA G)) G 4 0 0 4 [(0, .ref (G.2.2 + q)), (1, .int v1), (2, .int v2), (3, .int v3)] [] μ := by
  unfold fX0_sumOfDishes_4b at hf
  refine za_iload_n o 3 dX0_sumOfDishes_4 rfl rfl ?_
  refine za_iconst (v := (3 : Int32)) o dX0_sumOfDishes_5 (by decide) ?_
  refine za_icmp_ge o 42 dX0_sumOfDishes_6 (by decide) (fun c3 => ?_) (fun c3 => ?_)
  · replace hf := hf.1 c3
    refine za_iload_n o 2 dX0_sumOfDishes_42 rfl rfl ?_
    exact za_iret o rfl hf dX0_sumOfDishes_43
  · replace hf := hf.2 c3
    refine za_iload_n o 2 dX0_sumOfDishes_9 rfl rfl ?_
    refine za_iload_n o 1 dX0_sumOfDishes_10 rfl rfl ?_
    refine za_bipush (v := (6 : Int32)) o dX0_sumOfDishes_11 (by decide) ?_
    refine za_icmp_ne o 28 dX0_sumOfDishes_13 (by decide) (fun c4 => ?_) (fun c4 => ?_)
    · replace hf := hf.1 c4
      refine za_aload_n o 0 dX0_sumOfDishes_28 rfl rfl ?_
      refine za_iload_n o 3 dX0_sumOfDishes_29 rfl rfl ?_
      refine za_iload_n o 1 dX0_sumOfDishes_30 rfl rfl ?_
      refine za_callVi o [.int v3, .int v1] (ctX0_aboutDish l G hq v3 v1  μ _ hf) zc0 hq mwX0_aboutDish wmX0_178 wiX0_aboutDish wsX0_aboutDish rfl ⟨Nat.le_of_ble_eq_true rfl, Nat.le_of_ble_eq_true rfl⟩ rfl (Nat.le_of_ble_eq_true rfl) dX0_sumOfDishes_31 (fun r5 m6 hf => ?_)
      refine za_sub [0, 1, 3] rfl ?_
      exact tX0_sumOfDishes_34 o hq hk4 v1 v3 r5 v2 m6  hf
    · replace hf := hf.2 c4
      refine za_aload_n o 0 dX0_sumOfDishes_16 rfl rfl ?_
      refine za_getf o 2 zc0 hq (Nat.le_of_ble_eq_true rfl) wfX0_23 rfl dX0_sumOfDishes_17 ?_
      refine za_iload_n o 3 dX0_sumOfDishes_20 rfl rfl ?_
      obtain ⟨g7, hf⟩ := hf
      refine za_aald o (zk_0_11 hq) rfl rfl rfl g7 dX0_sumOfDishes_21 ?_
      refine za_topr (fun q8 eq8 => ?_)
      replace hf := hf q8 eq8
      have hq8 : z_is q8 1 := by rw [eq8]; exact zk_a11 (zk_0_11 hq) (z_lt g7)
      refine za_callVi o [] (ctX1_left l G hq8   μ _ hf) zc1 hq8 mwX1_left wmX0_123 wiX1_left wsX1_left rfl ⟨Nat.le_of_ble_eq_true rfl, Nat.le_of_ble_eq_true rfl⟩ rfl (Nat.le_of_ble_eq_true rfl) dX0_sumOfDishes_22 (fun r9 m10 hf => ?_)
      refine za_goto o 34 dX0_sumOfDishes_25 (by decide) ?_
      refine za_sub [0, 1, 3] rfl ?_
      exact tX0_sumOfDishes_34 o hq hk4 v1 v3 r9 v2 m10  hf
theorem tX0_sumOfDishes_4 {p : Program} {l : Launch} {e : Env} {s : State} {m : MethodId} {args : Array Value} {below : List Frame} {meth : Method} {c : Code} {G : zG}  {K : Int32 → zMem → Prop} (o : za_Ok (z_rm 4 86) 0 0 p s m args meth c G RX0 cX0_sumOfDishes 4 (some .int)) {q : Nat} (hq : z_is q 0)  (n : Nat) : ∀ (v1 : Int32) (v2 : Int32) (v3 : Int32) (μ : zMem), fX0_sumOfDishes_4  K q n v1 v2 v3 μ → za_At p l e (z_rm 4 86) s m args below meth c (MQ below (zQi G K) args s 0 0 (zA G)) G 4 0 0 4 [(0, .ref (G.2.2 + q)), (1, .int v1), (2, .int v2), (3, .int v3)] [] μ := by
  induction n with
  | zero => intro _ _ _ _ hf; exact hf.elim
  | succ n ih => intro v1 v2 v3 μ  hf; exact tX0_sumOfDishes_4b o hq  ih v1 v2 v3 μ  hf
set_option maxRecDepth 100000 in
set_option maxHeartbeats 4000000 in
theorem ctX0_sumOfDishes (l : Launch) (G : zG) {q : Nat} (hq : z_is q 0) (a1 : Int32)  (μ : zMem) (K : Int32 → zMem → Prop) (hf : fX0_sumOfDishes q a1 μ K) : z_Met l G yX0_sumOfDishes cX0_sumOfDishes 4 (some .int) (z_rm 4 86) [.ref (G.2.2 + q), .int a1] μ K := by
  refine z_body (by decide) (Nat.le_of_ble_eq_true rfl) (fun p e s m args below meth c o => ?_)
  have o : za_Ok (z_rm 4 86) 0 0 p s m args meth c G RX0 cX0_sumOfDishes 4 (some .int) := o
  show za_At p l e (z_rm 4 86) s m args below meth c (MQ below (zQi G K) args s 0 0 (zA G)) G 4 0 0 0 [(0, .ref (G.2.2 + q)), (1, .int a1)] [] μ
  unfold fX0_sumOfDishes at hf
  refine za_iconst (v := (0 : Int32)) o dX0_sumOfDishes_0 (by decide) ?_
  refine za_istore_n o [(2, .int (0 : Int32)), (0, .ref (G.2.2 + q)), (1, .int a1)] dX0_sumOfDishes_1 rfl (by decide) rfl ?_
  refine za_iconst (v := (0 : Int32)) o dX0_sumOfDishes_2 (by decide) ?_
  refine za_istore_n o [(3, .int (0 : Int32)), (2, .int (0 : Int32)), (0, .ref (G.2.2 + q)), (1, .int a1)] dX0_sumOfDishes_3 rfl (by decide) rfl ?_
  refine za_sub [2, 3, 1, 0] rfl ?_
  exact tX0_sumOfDishes_4 o hq  zFU a1 (0 : Int32) (0 : Int32) μ  hf
def fX0_sumOfPeople_40 (k4 : Int32 → Int32 → Int32 → zMem → Prop) (K : Int32 → zMem → Prop) (q : Nat) (v1 : Int32) (v2 : Int32) (v3 : Int32) (v4 : Int32) (μ : zMem) : Prop :=
  (∀ x1 : Int32, x1 = (v4 + v3) → (∀ x2 : Int32, x2 = v2 + (1 : Int32) → k4 v1 x1 x2 μ))
def fX0_sumOfPeople_4b (k4 : Int32 → Int32 → Int32 → zMem → Prop) (K : Int32 → zMem → Prop) (q : Nat) (v1 : Int32) (v2 : Int32) (v3 : Int32) (μ : zMem) : Prop :=
  (((μ q 3) ≤ v3 → K v2 μ) ∧ (¬ (μ q 3) ≤ v3 → ((¬ v1 = (7 : Int32) → (vp_in v3 14 ∧ (∀ q6 : Nat, q6 = (q + 2) + 2 + 3 * v3.toNatClampNeg → fX0_sumOfPeople_40 k4 K q v1 v3 (μ q6 6) v2 μ))) ∧ (v1 = (7 : Int32) → (vp_in v3 14 ∧ (∀ q8 : Nat, q8 = (q + 2) + 2 + 3 * v3.toNatClampNeg → fX0_sumOfPeople_40 k4 K q v1 v3 (μ q8 2) v2 μ))))))
def fX0_sumOfPeople_4  (K : Int32 → zMem → Prop) (q : Nat) (n : Nat) : Int32 → Int32 → Int32 → zMem → Prop := z_it (fun k => fX0_sumOfPeople_4b  k K q ) (fun _ _ _ _ => False) n
def fX0_sumOfPeople (q : Nat) (a1 : Int32) (μ : zMem) (K : Int32 → zMem → Prop) : Prop :=
  fX0_sumOfPeople_4  K q zFU a1 (0 : Int32) (0 : Int32) μ
set_option maxRecDepth 100000 in
set_option maxHeartbeats 4000000 in
theorem tX0_sumOfPeople_40 {p : Program} {l : Launch} {e : Env} {s : State} {m : MethodId} {args : Array Value} {below : List Frame} {meth : Method} {c : Code} {G : zG} {k4 : Int32 → Int32 → Int32 → zMem → Prop} {K : Int32 → zMem → Prop} (o : za_Ok (z_rm 0 0) 0 0 p s m args meth c G RX0 cX0_sumOfPeople 4 (some .int)) {q : Nat} (hq : z_is q 0) (hk4 : ∀ (v1 : Int32) (v2 : Int32) (v3 : Int32) (μ : zMem), k4 v1 v2 v3 μ → za_At p l e (z_rm 0 0) s m args below meth c (MQ below (zQi G K) args s 0 0 (zA G)) G 4 0 0 4 [(0, .ref (G.2.2 + q)), (1, .int v1), (2, .int v2), (3, .int v3)] [] μ) (v1 : Int32) (v2 : Int32) (v3 : Int32) (v4 : Int32) (μ : zMem)  (hf : fX0_sumOfPeople_40 k4 K q v1 v2 v3 v4 μ) : za_At p l e (z_rm 0 0) s m args below meth c (MQ below (zQi G K) args s 0 0 (zA G)) G 4 0 0 40 [(0, .ref (G.2.2 + q)), (1, .int v1), (3, .int v2)] [.int v3, .int v4] μ := by
  unfold fX0_sumOfPeople_40 at hf
  refine za_iadd o dX0_sumOfPeople_40 ?_
  refine za_topi (fun x1 ex1 => ?_)
  replace hf := hf x1 ex1
  refine za_istore_n o [(2, .int x1), (0, .ref (G.2.2 + q)), (1, .int v1), (3, .int v2)] dX0_sumOfPeople_41 rfl (by decide) rfl ?_
  obtain ⟨x2, ex2⟩ : ∃ y : Int32, y = v2 + (1 : Int32) := ⟨_, rfl⟩
  replace hf := hf x2 ex2
  refine za_iinc o x2 3 [(3, .int x2), (2, .int x1), (0, .ref (G.2.2 + q)), (1, .int v1)] dX0_sumOfPeople_42 rfl (by rw [ex2]; rfl) (by decide) rfl ?_
  refine za_goto o 4 dX0_sumOfPeople_45 (by decide) ?_
  refine za_sub [2, 3, 1, 0] rfl ?_
  exact hk4 v1 x1 x2 μ  hf
set_option maxRecDepth 100000 in
set_option maxHeartbeats 4000000 in
theorem tX0_sumOfPeople_4b {p : Program} {l : Launch} {e : Env} {s : State} {m : MethodId} {args : Array Value} {below : List Frame} {meth : Method} {c : Code} {G : zG} {k4 : Int32 → Int32 → Int32 → zMem → Prop} {K : Int32 → zMem → Prop} (o : za_Ok (z_rm 0 0) 0 0 p s m args meth c G RX0 cX0_sumOfPeople 4 (some .int)) {q : Nat} (hq : z_is q 0) (hk4 : ∀ (v1 : Int32) (v2 : Int32) (v3 : Int32) (μ : zMem), k4 v1 v2 v3 μ → za_At p l e (z_rm 0 0) s m args below meth c (MQ below (zQi G K) args s 0 0 (zA G)) G 4 0 0 4 [(0, .ref (G.2.2 + q)), (1, .int v1), (2, .int v2), (3, .int v3)] [] μ) (v1 : Int32) (v2 : Int32) (v3 : Int32) (μ : zMem)  (hf : fX0_sumOfPeople_4b k4 K q v1 v2 v3 μ) : za_At p l e (z_rm 0 0) s m args below meth c (MQ below (zQi G K) args s 0 0 (zA G)) G 4 0 0 4 [(0, .ref (G.2.2 + q)), (1, .int v1), (2, .int v2), (3, .int v3)] [] μ := by
  unfold fX0_sumOfPeople_4b at hf
  refine za_iload_n o 3 dX0_sumOfPeople_4 rfl rfl ?_
  refine za_aload_n o 0 dX0_sumOfPeople_5 rfl rfl ?_
  refine za_getf o 3 zc0 hq (Nat.le_of_ble_eq_true rfl) wfX0_39 rfl dX0_sumOfPeople_6 ?_
  refine za_icmp_ge o 48 dX0_sumOfPeople_9 (by decide) (fun c3 => ?_) (fun c3 => ?_)
  · replace hf := hf.1 c3
    refine za_iload_n o 2 dX0_sumOfPeople_48 rfl rfl ?_
    exact za_iret o rfl hf dX0_sumOfPeople_49
  · replace hf := hf.2 c3
    refine za_iload_n o 2 dX0_sumOfPeople_12 rfl rfl ?_
    refine za_iload_n o 1 dX0_sumOfPeople_13 rfl rfl ?_
    refine za_bipush (v := (7 : Int32)) o dX0_sumOfPeople_14 (by decide) ?_
    refine za_icmp_ne o 31 dX0_sumOfPeople_16 (by decide) (fun c4 => ?_) (fun c4 => ?_)
    · replace hf := hf.1 c4
      refine za_aload_n o 0 dX0_sumOfPeople_31 rfl rfl ?_
      refine za_getf o 1 zc0 hq (Nat.le_of_ble_eq_true rfl) wfX0_17 rfl dX0_sumOfPeople_32 ?_
      refine za_iload_n o 3 dX0_sumOfPeople_35 rfl rfl ?_
      obtain ⟨g5, hf⟩ := hf
      refine za_aald o (zk_0_10 hq) rfl rfl rfl g5 dX0_sumOfPeople_36 ?_
      refine za_topr (fun q6 eq6 => ?_)
      replace hf := hf q6 eq6
      have hq6 : z_is q6 5 := by rw [eq6]; exact zk_a10 (zk_0_10 hq) (z_lt g5)
      refine za_getfN o 6 "CanteenPlates" zc5 hq6 (Nat.le_of_ble_eq_true rfl) wnX0_181 rfl dX0_sumOfPeople_37 ?_
      refine za_sub [0, 1, 3] rfl ?_
      exact tX0_sumOfPeople_40 o hq hk4 v1 v3 (μ q6 6) v2 μ  hf
    · replace hf := hf.2 c4
      refine za_aload_n o 0 dX0_sumOfPeople_19 rfl rfl ?_
      refine za_getf o 1 zc0 hq (Nat.le_of_ble_eq_true rfl) wfX0_17 rfl dX0_sumOfPeople_20 ?_
      refine za_iload_n o 3 dX0_sumOfPeople_23 rfl rfl ?_
      obtain ⟨g7, hf⟩ := hf
      refine za_aald o (zk_0_10 hq) rfl rfl rfl g7 dX0_sumOfPeople_24 ?_
      refine za_topr (fun q8 eq8 => ?_)
      replace hf := hf q8 eq8
      have hq8 : z_is q8 5 := by rw [eq8]; exact zk_a10 (zk_0_10 hq) (z_lt g7)
      refine za_getfN o 2 "CanteenPlates" zc5 hq8 (Nat.le_of_ble_eq_true rfl) wnX0_132 rfl dX0_sumOfPeople_25 ?_
      refine za_goto o 40 dX0_sumOfPeople_28 (by decide) ?_
      refine za_sub [0, 1, 3] rfl ?_
      exact tX0_sumOfPeople_40 o hq hk4 v1 v3 (μ q8 2) v2 μ  hf
theorem tX0_sumOfPeople_4 {p : Program} {l : Launch} {e : Env} {s : State} {m : MethodId} {args : Array Value} {below : List Frame} {meth : Method} {c : Code} {G : zG}  {K : Int32 → zMem → Prop} (o : za_Ok (z_rm 0 0) 0 0 p s m args meth c G RX0 cX0_sumOfPeople 4 (some .int)) {q : Nat} (hq : z_is q 0)  (n : Nat) : ∀ (v1 : Int32) (v2 : Int32) (v3 : Int32) (μ : zMem), fX0_sumOfPeople_4  K q n v1 v2 v3 μ → za_At p l e (z_rm 0 0) s m args below meth c (MQ below (zQi G K) args s 0 0 (zA G)) G 4 0 0 4 [(0, .ref (G.2.2 + q)), (1, .int v1), (2, .int v2), (3, .int v3)] [] μ := by
  induction n with
  | zero => intro _ _ _ _ hf; exact hf.elim
  | succ n ih => intro v1 v2 v3 μ  hf; exact tX0_sumOfPeople_4b o hq  ih v1 v2 v3 μ  hf
set_option maxRecDepth 100000 in
set_option maxHeartbeats 4000000 in
theorem ctX0_sumOfPeople (l : Launch) (G : zG) {q : Nat} (hq : z_is q 0) (a1 : Int32)  (μ : zMem) (K : Int32 → zMem → Prop) (hf : fX0_sumOfPeople q a1 μ K) : z_Met l G yX0_sumOfPeople cX0_sumOfPeople 4 (some .int) (z_rm 0 0) [.ref (G.2.2 + q), .int a1] μ K := by
  refine z_body (by decide) (Nat.le_of_ble_eq_true rfl) (fun p e s m args below meth c o => ?_)
  have o : za_Ok (z_rm 0 0) 0 0 p s m args meth c G RX0 cX0_sumOfPeople 4 (some .int) := o
  show za_At p l e (z_rm 0 0) s m args below meth c (MQ below (zQi G K) args s 0 0 (zA G)) G 4 0 0 0 [(0, .ref (G.2.2 + q)), (1, .int a1)] [] μ
  unfold fX0_sumOfPeople at hf
  refine za_iconst (v := (0 : Int32)) o dX0_sumOfPeople_0 (by decide) ?_
  refine za_istore_n o [(2, .int (0 : Int32)), (0, .ref (G.2.2 + q)), (1, .int a1)] dX0_sumOfPeople_1 rfl (by decide) rfl ?_
  refine za_iconst (v := (0 : Int32)) o dX0_sumOfPeople_2 (by decide) ?_
  refine za_istore_n o [(3, .int (0 : Int32)), (2, .int (0 : Int32)), (0, .ref (G.2.2 + q)), (1, .int a1)] dX0_sumOfPeople_3 rfl (by decide) rfl ?_
  refine za_sub [2, 3, 1, 0] rfl ?_
  exact tX0_sumOfPeople_4 o hq  zFU a1 (0 : Int32) (0 : Int32) μ  hf
def fX0_number_94  (K : Int32 → zMem → Prop) (q : Nat) (v1 : Int32) (μ : zMem) : Prop :=
  K v1 μ
def fX0_number (q : Nat) (a1 : Int32) (μ : zMem) (K : Int32 → zMem → Prop) : Prop :=
  ((a1 = (0 : Int32) → K (μ q 4) μ) ∧ (¬ a1 = (0 : Int32) → ((a1 = (1 : Int32) → K (μ q 3) μ) ∧ (¬ a1 = (1 : Int32) → ((a1 = (2 : Int32) → (((μ q 5) = 0 → fX0_number_94  K q (0 : Int32) μ) ∧ (¬ (μ q 5) = 0 → fX0_number_94  K q (1 : Int32) μ))) ∧ (¬ a1 = (2 : Int32) → ((a1 = (3 : Int32) → fX0_sumOfDishes q a1 μ (fun r6 m7 => K r6 m7)) ∧ (¬ a1 = (3 : Int32) → ((a1 = (4 : Int32) → fX0_sumOfDishes q a1 μ (fun r9 m10 => K r9 m10)) ∧ (¬ a1 = (4 : Int32) → ((a1 = (5 : Int32) → fX0_sumOfDishes q a1 μ (fun r12 m13 => K r12 m13)) ∧ (¬ a1 = (5 : Int32) → ((a1 = (6 : Int32) → fX0_sumOfDishes q a1 μ (fun r15 m16 => K r15 m16)) ∧ (¬ a1 = (6 : Int32) → ((a1 = (7 : Int32) → fX0_sumOfPeople q a1 μ (fun r18 m19 => K r18 m19)) ∧ (¬ a1 = (7 : Int32) → ((a1 = (8 : Int32) → fX0_bannedToday q  μ (fun r21 m22 => K r21 m22)) ∧ (¬ a1 = (8 : Int32) → ((a1 = (9 : Int32) → fX0_sumOfPeople q a1 μ (fun r24 m25 => K r24 m25)) ∧ (¬ a1 = (9 : Int32) → ((a1 = (10 : Int32) → (∀ x27 : Int32, x27 = (a1 - (10 : Int32)) → (vp_in x27 4 ∧ (∀ x29 : Int32, x29 = (μ (q + 1) x27.toNatClampNeg) → K x29 μ)))) ∧ (¬ a1 = (10 : Int32) → ((a1 = (11 : Int32) → (∀ x31 : Int32, x31 = (a1 - (10 : Int32)) → (vp_in x31 4 ∧ (∀ x33 : Int32, x33 = (μ (q + 1) x31.toNatClampNeg) → K x33 μ)))) ∧ (¬ a1 = (11 : Int32) → ((a1 = (12 : Int32) → (∀ x35 : Int32, x35 = (a1 - (10 : Int32)) → (vp_in x35 4 ∧ (∀ x37 : Int32, x37 = (μ (q + 1) x35.toNatClampNeg) → K x37 μ)))) ∧ (¬ a1 = (12 : Int32) → ((a1 = (13 : Int32) → (∀ x39 : Int32, x39 = (a1 - (10 : Int32)) → (vp_in x39 4 ∧ (∀ x41 : Int32, x41 = (μ (q + 1) x39.toNatClampNeg) → K x41 μ)))) ∧ (¬ a1 = (13 : Int32) → K (-2 : Int32) μ))))))))))))))))))))))))))))
set_option maxRecDepth 100000 in
set_option maxHeartbeats 4000000 in
theorem tX0_number_94 {p : Program} {l : Launch} {e : Env} {s : State} {m : MethodId} {args : Array Value} {below : List Frame} {meth : Method} {c : Code} {G : zG}  {K : Int32 → zMem → Prop} (o : za_Ok (z_rm 5 109) 0 0 p s m args meth c G RX0 cX0_number 2 (some .int)) {q : Nat} (hq : z_is q 0)  (v1 : Int32) (μ : zMem)  (hf : fX0_number_94  K q v1 μ) : za_At p l e (z_rm 5 109) s m args below meth c (MQ below (zQi G K) args s 0 0 (zA G)) G 2 0 0 94 [] [.int v1] μ := by
  unfold fX0_number_94 at hf
  exact za_iret o rfl hf dX0_number_94
set_option maxRecDepth 100000 in
set_option maxHeartbeats 4000000 in
theorem ctX0_number (l : Launch) (G : zG) {q : Nat} (hq : z_is q 0) (a1 : Int32)  (μ : zMem) (K : Int32 → zMem → Prop) (hf : fX0_number q a1 μ K) : z_Met l G yX0_number cX0_number 2 (some .int) (z_rm 5 109) [.ref (G.2.2 + q), .int a1] μ K := by
  refine z_body (by decide) (Nat.le_of_ble_eq_true rfl) (fun p e s m args below meth c o => ?_)
  have o : za_Ok (z_rm 5 109) 0 0 p s m args meth c G RX0 cX0_number 2 (some .int) := o
  show za_At p l e (z_rm 5 109) s m args below meth c (MQ below (zQi G K) args s 0 0 (zA G)) G 2 0 0 0 [(0, .ref (G.2.2 + q)), (1, .int a1)] [] μ
  unfold fX0_number at hf
  refine za_iload_n o 1 dX0_number_0 rfl rfl ?_
  by_cases c1 : a1 = (0 : Int32)
  · replace hf := hf.1 c1
    refine za_tswE o 72 c1 dX0_number_1 (by decide) (by decide) rfl (by decide) ?_
    refine za_aload_n o 0 dX0_number_72 rfl rfl ?_
    refine za_getf o 4 zc0 hq (Nat.le_of_ble_eq_true rfl) wfX0_46 rfl dX0_number_73 ?_
    exact za_iret o rfl hf dX0_number_76
  · replace hf := hf.2 c1
    by_cases c2 : a1 = (1 : Int32)
    · replace hf := hf.1 c2
      refine za_tswE o 77 c2 dX0_number_1 (by decide) (by decide) rfl (by decide) ?_
      refine za_aload_n o 0 dX0_number_77 rfl rfl ?_
      refine za_getf o 3 zc0 hq (Nat.le_of_ble_eq_true rfl) wfX0_39 rfl dX0_number_78 ?_
      exact za_iret o rfl hf dX0_number_81
    · replace hf := hf.2 c2
      by_cases c3 : a1 = (2 : Int32)
      · replace hf := hf.1 c3
        refine za_tswE o 82 c3 dX0_number_1 (by decide) (by decide) rfl (by decide) ?_
        refine za_aload_n o 0 dX0_number_82 rfl rfl ?_
        refine za_getf o 5 zc0 hq (Nat.le_of_ble_eq_true rfl) wfX0_49 rfl dX0_number_83 ?_
        refine za_if_eq o 93 dX0_number_86 (by decide) (fun c4 => ?_) (fun c4 => ?_)
        · replace hf := hf.1 c4
          refine za_iconst (v := (0 : Int32)) o dX0_number_93 (by decide) ?_
          refine za_sub [] rfl ?_
          exact tX0_number_94 o hq  (0 : Int32) μ  hf
        · replace hf := hf.2 c4
          refine za_iconst (v := (1 : Int32)) o dX0_number_89 (by decide) ?_
          refine za_goto o 94 dX0_number_90 (by decide) ?_
          refine za_sub [] rfl ?_
          exact tX0_number_94 o hq  (1 : Int32) μ  hf
      · replace hf := hf.2 c3
        by_cases c5 : a1 = (3 : Int32)
        · replace hf := hf.1 c5
          refine za_tswE o 95 c5 dX0_number_1 (by decide) (by decide) rfl (by decide) ?_
          refine za_aload_n o 0 dX0_number_95 rfl rfl ?_
          refine za_iload_n o 1 dX0_number_96 rfl rfl ?_
          refine za_callVi o [.int a1] (ctX0_sumOfDishes l G hq a1  μ _ hf) zc0 hq mwX0_sumOfDishes wmX0_169 wiX0_sumOfDishes wsX0_sumOfDishes rfl ⟨Nat.le_of_ble_eq_true rfl, Nat.le_of_ble_eq_true rfl⟩ rfl (Nat.le_of_ble_eq_true rfl) dX0_number_97 (fun r6 m7 hf => ?_)
          exact za_iret o rfl hf dX0_number_100
        · replace hf := hf.2 c5
          by_cases c8 : a1 = (4 : Int32)
          · replace hf := hf.1 c8
            refine za_tswE o 95 c8 dX0_number_1 (by decide) (by decide) rfl (by decide) ?_
            refine za_aload_n o 0 dX0_number_95 rfl rfl ?_
            refine za_iload_n o 1 dX0_number_96 rfl rfl ?_
            refine za_callVi o [.int a1] (ctX0_sumOfDishes l G hq a1  μ _ hf) zc0 hq mwX0_sumOfDishes wmX0_169 wiX0_sumOfDishes wsX0_sumOfDishes rfl ⟨Nat.le_of_ble_eq_true rfl, Nat.le_of_ble_eq_true rfl⟩ rfl (Nat.le_of_ble_eq_true rfl) dX0_number_97 (fun r9 m10 hf => ?_)
            exact za_iret o rfl hf dX0_number_100
          · replace hf := hf.2 c8
            by_cases c11 : a1 = (5 : Int32)
            · replace hf := hf.1 c11
              refine za_tswE o 95 c11 dX0_number_1 (by decide) (by decide) rfl (by decide) ?_
              refine za_aload_n o 0 dX0_number_95 rfl rfl ?_
              refine za_iload_n o 1 dX0_number_96 rfl rfl ?_
              refine za_callVi o [.int a1] (ctX0_sumOfDishes l G hq a1  μ _ hf) zc0 hq mwX0_sumOfDishes wmX0_169 wiX0_sumOfDishes wsX0_sumOfDishes rfl ⟨Nat.le_of_ble_eq_true rfl, Nat.le_of_ble_eq_true rfl⟩ rfl (Nat.le_of_ble_eq_true rfl) dX0_number_97 (fun r12 m13 hf => ?_)
              exact za_iret o rfl hf dX0_number_100
            · replace hf := hf.2 c11
              by_cases c14 : a1 = (6 : Int32)
              · replace hf := hf.1 c14
                refine za_tswE o 95 c14 dX0_number_1 (by decide) (by decide) rfl (by decide) ?_
                refine za_aload_n o 0 dX0_number_95 rfl rfl ?_
                refine za_iload_n o 1 dX0_number_96 rfl rfl ?_
                refine za_callVi o [.int a1] (ctX0_sumOfDishes l G hq a1  μ _ hf) zc0 hq mwX0_sumOfDishes wmX0_169 wiX0_sumOfDishes wsX0_sumOfDishes rfl ⟨Nat.le_of_ble_eq_true rfl, Nat.le_of_ble_eq_true rfl⟩ rfl (Nat.le_of_ble_eq_true rfl) dX0_number_97 (fun r15 m16 hf => ?_)
                exact za_iret o rfl hf dX0_number_100
              · replace hf := hf.2 c14
                by_cases c17 : a1 = (7 : Int32)
                · replace hf := hf.1 c17
                  refine za_tswE o 101 c17 dX0_number_1 (by decide) (by decide) rfl (by decide) ?_
                  refine za_aload_n o 0 dX0_number_101 rfl rfl ?_
                  refine za_iload_n o 1 dX0_number_102 rfl rfl ?_
                  refine za_callVi o [.int a1] (ctX0_sumOfPeople l G hq a1  μ _ hf) zc0 hq mwX0_sumOfPeople wmX0_172 wiX0_sumOfPeople wsX0_sumOfPeople rfl ⟨Nat.le_of_ble_eq_true rfl, Nat.le_of_ble_eq_true rfl⟩ rfl (Nat.le_of_ble_eq_true rfl) dX0_number_103 (fun r18 m19 hf => ?_)
                  exact za_iret o rfl hf dX0_number_106
                · replace hf := hf.2 c17
                  by_cases c20 : a1 = (8 : Int32)
                  · replace hf := hf.1 c20
                    refine za_tswE o 107 c20 dX0_number_1 (by decide) (by decide) rfl (by decide) ?_
                    refine za_aload_n o 0 dX0_number_107 rfl rfl ?_
                    refine za_callVi o [] (ctX0_bannedToday l G hq   μ _ hf) zc0 hq mwX0_bannedToday wmX0_175 wiX0_bannedToday wsX0_bannedToday rfl ⟨Nat.le_of_ble_eq_true rfl, Nat.le_of_ble_eq_true rfl⟩ rfl (Nat.le_of_ble_eq_true rfl) dX0_number_108 (fun r21 m22 hf => ?_)
                    exact za_iret o rfl hf dX0_number_111
                  · replace hf := hf.2 c20
                    by_cases c23 : a1 = (9 : Int32)
                    · replace hf := hf.1 c23
                      refine za_tswE o 101 c23 dX0_number_1 (by decide) (by decide) rfl (by decide) ?_
                      refine za_aload_n o 0 dX0_number_101 rfl rfl ?_
                      refine za_iload_n o 1 dX0_number_102 rfl rfl ?_
                      refine za_callVi o [.int a1] (ctX0_sumOfPeople l G hq a1  μ _ hf) zc0 hq mwX0_sumOfPeople wmX0_172 wiX0_sumOfPeople wsX0_sumOfPeople rfl ⟨Nat.le_of_ble_eq_true rfl, Nat.le_of_ble_eq_true rfl⟩ rfl (Nat.le_of_ble_eq_true rfl) dX0_number_103 (fun r24 m25 hf => ?_)
                      exact za_iret o rfl hf dX0_number_106
                    · replace hf := hf.2 c23
                      by_cases c26 : a1 = (10 : Int32)
                      · replace hf := hf.1 c26
                        refine za_tswE o 112 c26 dX0_number_1 (by decide) (by decide) rfl (by decide) ?_
                        refine za_aload_n o 0 dX0_number_112 rfl rfl ?_
                        refine za_getf o 0 zc0 hq (Nat.le_of_ble_eq_true rfl) wfX0_9 rfl dX0_number_113 ?_
                        refine za_iload_n o 1 dX0_number_116 rfl rfl ?_
                        refine za_bipush (v := (10 : Int32)) o dX0_number_117 (by decide) ?_
                        refine za_isub o dX0_number_119 ?_
                        refine za_topi (fun x27 ex27 => ?_)
                        replace hf := hf x27 ex27
                        obtain ⟨g28, hf⟩ := hf
                        refine za_iald o (zk_0_9 hq) rfl g28 dX0_number_120 ?_
                        refine za_topi (fun x29 ex29 => ?_)
                        replace hf := hf x29 ex29
                        exact za_iret o rfl hf dX0_number_121
                      · replace hf := hf.2 c26
                        by_cases c30 : a1 = (11 : Int32)
                        · replace hf := hf.1 c30
                          refine za_tswE o 112 c30 dX0_number_1 (by decide) (by decide) rfl (by decide) ?_
                          refine za_aload_n o 0 dX0_number_112 rfl rfl ?_
                          refine za_getf o 0 zc0 hq (Nat.le_of_ble_eq_true rfl) wfX0_9 rfl dX0_number_113 ?_
                          refine za_iload_n o 1 dX0_number_116 rfl rfl ?_
                          refine za_bipush (v := (10 : Int32)) o dX0_number_117 (by decide) ?_
                          refine za_isub o dX0_number_119 ?_
                          refine za_topi (fun x31 ex31 => ?_)
                          replace hf := hf x31 ex31
                          obtain ⟨g32, hf⟩ := hf
                          refine za_iald o (zk_0_9 hq) rfl g32 dX0_number_120 ?_
                          refine za_topi (fun x33 ex33 => ?_)
                          replace hf := hf x33 ex33
                          exact za_iret o rfl hf dX0_number_121
                        · replace hf := hf.2 c30
                          by_cases c34 : a1 = (12 : Int32)
                          · replace hf := hf.1 c34
                            refine za_tswE o 112 c34 dX0_number_1 (by decide) (by decide) rfl (by decide) ?_
                            refine za_aload_n o 0 dX0_number_112 rfl rfl ?_
                            refine za_getf o 0 zc0 hq (Nat.le_of_ble_eq_true rfl) wfX0_9 rfl dX0_number_113 ?_
                            refine za_iload_n o 1 dX0_number_116 rfl rfl ?_
                            refine za_bipush (v := (10 : Int32)) o dX0_number_117 (by decide) ?_
                            refine za_isub o dX0_number_119 ?_
                            refine za_topi (fun x35 ex35 => ?_)
                            replace hf := hf x35 ex35
                            obtain ⟨g36, hf⟩ := hf
                            refine za_iald o (zk_0_9 hq) rfl g36 dX0_number_120 ?_
                            refine za_topi (fun x37 ex37 => ?_)
                            replace hf := hf x37 ex37
                            exact za_iret o rfl hf dX0_number_121
                          · replace hf := hf.2 c34
                            by_cases c38 : a1 = (13 : Int32)
                            · replace hf := hf.1 c38
                              refine za_tswE o 112 c38 dX0_number_1 (by decide) (by decide) rfl (by decide) ?_
                              refine za_aload_n o 0 dX0_number_112 rfl rfl ?_
                              refine za_getf o 0 zc0 hq (Nat.le_of_ble_eq_true rfl) wfX0_9 rfl dX0_number_113 ?_
                              refine za_iload_n o 1 dX0_number_116 rfl rfl ?_
                              refine za_bipush (v := (10 : Int32)) o dX0_number_117 (by decide) ?_
                              refine za_isub o dX0_number_119 ?_
                              refine za_topi (fun x39 ex39 => ?_)
                              replace hf := hf x39 ex39
                              obtain ⟨g40, hf⟩ := hf
                              refine za_iald o (zk_0_9 hq) rfl g40 dX0_number_120 ?_
                              refine za_topi (fun x41 ex41 => ?_)
                              replace hf := hf x41 ex41
                              exact za_iret o rfl hf dX0_number_121
                            · replace hf := hf.2 c38
                              refine za_tswD o 122 dX0_number_1 (fun z1 z2 => ?_) (by decide) ?_
                              · have z1 := Int.not_lt.mp z1
                                have z2 := Int.not_lt.mp z2
                                have z3 : (a1).toInt = 0 ∨ (a1).toInt = 1 ∨ (a1).toInt = 2 ∨ (a1).toInt = 3 ∨ (a1).toInt = 4 ∨ (a1).toInt = 5 ∨ (a1).toInt = 6 ∨ (a1).toInt = 7 ∨ (a1).toInt = 8 ∨ (a1).toInt = 9 ∨ (a1).toInt = 10 ∨ (a1).toInt = 11 ∨ (a1).toInt = 12 ∨ (a1).toInt = 13 := by omega
                                rcases z3 with z3 | z3 | z3 | z3 | z3 | z3 | z3 | z3 | z3 | z3 | z3 | z3 | z3 | z3
                                · exact c1 (Int32.toInt_inj.mp (z3.trans rfl))
                                · exact c2 (Int32.toInt_inj.mp (z3.trans rfl))
                                · exact c3 (Int32.toInt_inj.mp (z3.trans rfl))
                                · exact c5 (Int32.toInt_inj.mp (z3.trans rfl))
                                · exact c8 (Int32.toInt_inj.mp (z3.trans rfl))
                                · exact c11 (Int32.toInt_inj.mp (z3.trans rfl))
                                · exact c14 (Int32.toInt_inj.mp (z3.trans rfl))
                                · exact c17 (Int32.toInt_inj.mp (z3.trans rfl))
                                · exact c20 (Int32.toInt_inj.mp (z3.trans rfl))
                                · exact c23 (Int32.toInt_inj.mp (z3.trans rfl))
                                · exact c26 (Int32.toInt_inj.mp (z3.trans rfl))
                                · exact c30 (Int32.toInt_inj.mp (z3.trans rfl))
                                · exact c34 (Int32.toInt_inj.mp (z3.trans rfl))
                                · exact c38 (Int32.toInt_inj.mp (z3.trans rfl))
                              · skip
                                refine za_bipush (v := (-2 : Int32)) o dX0_number_122 (by decide) ?_
                                exact za_iret o rfl hf dX0_number_124
