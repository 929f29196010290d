/-! X0_changeSetting X2_keep X1_become X5_become X0_become X2_note X7_set X0_hasDish X0_changePrice X7_price X5_start X0_addPerson X7_person X0_hasPerson X5_receive X0_giveVouchers X7_vouchers -/
def fX0_changeSetting_9  (K : Int32 → zMem → Prop) (q : Nat)  (μ : zMem) : Prop :=
  K (-2 : Int32) μ
def fX0_changeSetting_30  (K : Int32 → zMem → Prop) (q : Nat)  (μ : zMem) : Prop :=
  K (-2 : Int32) μ
def fX0_changeSetting (q : Nat) (a1 : Int32) (a2 : Int32) (μ : zMem) (K : Int32 → zMem → Prop) : Prop :=
  ((a1 < 0 → fX0_changeSetting_9  K q  μ) ∧ (¬ a1 < 0 → ((a1 < (4 : Int32) → (vp_in a1 4 ∧ (∀ x4 : Int32, x4 = (zLo a1.toNatClampNeg) → ((a2 < x4 → fX0_changeSetting_30  K q  μ) ∧ (¬ a2 < x4 → (vp_in a1 4 ∧ (∀ x7 : Int32, x7 = (zHi a1.toNatClampNeg) → ((a2 ≤ x7 → (vp_in a1 4 ∧ (∀ x10 : Int32, x10 = (μ (q + 1) a1.toNatClampNeg) → (vp_in a1 4 ∧ (∀ m12 : zMem, m12 = z_up μ (q + 1) a1.toNatClampNeg a2 → K x10 m12))))) ∧ (¬ a2 ≤ x7 → fX0_changeSetting_30  K q  μ))))))))) ∧ (¬ a1 < (4 : Int32) → fX0_changeSetting_9  K q  μ))))
set_option maxRecDepth 100000 in
set_option maxHeartbeats 4000000 in
theorem tX0_changeSetting_9 {p : Program} {l : Launch} {e : Env} {s : State} {m : MethodId} {args : Array Value} {below : List Frame} {meth : Method} {c : Code} {G : zG}  {K : Int32 → zMem → Prop} (o : za_Ok (z_rm 0 0) 0 0 p s m args meth c G RX0 cX0_changeSetting 4 (some .int)) {q : Nat} (hq : z_is q 0)   (μ : zMem)  (hf : fX0_changeSetting_9  K q  μ) : za_At p l e (z_rm 0 0) s m args below meth c (MQ below (zQi G K) args s 0 0 (zA G)) G 4 0 0 9 [] [] μ := by
  unfold fX0_changeSetting_9 at hf
  refine za_bipush (v := (-2 : Int32)) o dX0_changeSetting_9 (by decide) ?_
  exact za_iret o rfl hf dX0_changeSetting_11
set_option maxRecDepth 100000 in
set_option maxHeartbeats 4000000 in
theorem tX0_changeSetting_30 {p : Program} {l : Launch} {e : Env} {s : State} {m : MethodId} {args : Array Value} {below : List Frame} {meth : Method} {c : Code} {G : zG}  {K : Int32 → zMem → Prop} (o : za_Ok (z_rm 0 0) 0 0 p s m args meth c G RX0 cX0_changeSetting 4 (some .int)) {q : Nat} (hq : z_is q 0)   (μ : zMem)  (hf : fX0_changeSetting_30  K q  μ) : za_At p l e (z_rm 0 0) s m args below meth c (MQ below (zQi G K) args s 0 0 (zA G)) G 4 0 0 30 [] [] μ := by
  unfold fX0_changeSetting_30 at hf
  refine za_bipush (v := (-2 : Int32)) o dX0_changeSetting_30 (by decide) ?_
  exact za_iret o rfl hf dX0_changeSetting_32
set_option maxRecDepth 100000 in
set_option maxHeartbeats 4000000 in
theorem ctX0_changeSetting (l : Launch) (G : zG) {q : Nat} (hq : z_is q 0) (a1 : Int32) (a2 : Int32)  (μ : zMem) (K : Int32 → zMem → Prop) (hf : fX0_changeSetting q a1 a2 μ K) : z_Met l G yX0_changeSetting cX0_changeSetting 4 (some .int) (z_rm 0 0) [.ref (G.2.2 + q), .int a1, .int a2] μ K := by
  refine z_body (by decide) (Nat.le_of_ble_eq_true rfl) (fun p e s m args below meth c o => ?_)
  have o : za_Ok (z_rm 0 0) 0 0 p s m args meth c G RX0 cX0_changeSetting 4 (some .int) := o
  show za_At p l e (z_rm 0 0) s m args below meth c (MQ below (zQi G K) args s 0 0 (zA G)) G 4 0 0 0 [(0, .ref (G.2.2 + q)), (1, .int a1), (2, .int a2)] [] μ
  unfold fX0_changeSetting at hf
  refine za_iload_n o 1 dX0_changeSetting_0 rfl rfl ?_
  refine za_if_lt o 9 dX0_changeSetting_1 (by decide) (fun c1 => ?_) (fun c1 => ?_)
  · replace hf := hf.1 c1
    refine za_sub [] rfl ?_
    exact tX0_changeSetting_9 o hq   μ  hf
  · replace hf := hf.2 c1
    refine za_iload_n o 1 dX0_changeSetting_4 rfl rfl ?_
    refine za_iconst (v := (4 : Int32)) o dX0_changeSetting_5 (by decide) ?_
    refine za_icmp_lt o 12 dX0_changeSetting_6 (by decide) (fun c2 => ?_) (fun c2 => ?_)
    · replace hf := hf.1 c2
      refine za_iload_n o 2 dX0_changeSetting_12 rfl rfl ?_
      obtain ⟨g3, hf⟩ := hf
      refine za_stab o "LOWEST_VALUE" "CanteenPlates" o.2.2.2.2.2.2.1.2.2.1 wnX0_56 dX0_changeSetting_13 1 dX0_changeSetting_16 rfl rfl g3 dX0_changeSetting_17 ?_
      refine za_topi (fun x4 ex4 => ?_)
      replace hf := hf x4 ex4
      refine za_icmp_lt o 30 dX0_changeSetting_18 (by decide) (fun c5 => ?_) (fun c5 => ?_)
      · replace hf := hf.1 c5
        refine za_sub [] rfl ?_
        exact tX0_changeSetting_30 o hq   μ  hf
      · replace hf := hf.2 c5
        refine za_iload_n o 2 dX0_changeSetting_21 rfl rfl ?_
        obtain ⟨g6, hf⟩ := hf
        refine za_stab o "HIGHEST_VALUE" "CanteenPlates" o.2.2.2.2.2.2.1.2.2.2 wnX0_59 dX0_changeSetting_22 1 dX0_changeSetting_25 rfl rfl g6 dX0_changeSetting_26 ?_
        refine za_topi (fun x7 ex7 => ?_)
        replace hf := hf x7 ex7
        refine za_icmp_le o 33 dX0_changeSetting_27 (by decide) (fun c8 => ?_) (fun c8 => ?_)
        · replace hf := hf.1 c8
          refine za_aload_n o 0 dX0_changeSetting_33 rfl rfl ?_
          refine za_getf o 0 zc0 hq (Nat.le_of_ble_eq_true rfl) wfX0_9 rfl dX0_changeSetting_34 ?_
          refine za_iload_n o 1 dX0_changeSetting_37 rfl rfl ?_
          obtain ⟨g9, hf⟩ := hf
          refine za_iald o (zk_0_9 hq) rfl g9 dX0_changeSetting_38 ?_
          refine za_topi (fun x10 ex10 => ?_)
          replace hf := hf x10 ex10
          refine za_istore_n o [(3, .int x10), (0, .ref (G.2.2 + q)), (1, .int a1), (2, .int a2)] dX0_changeSetting_39 rfl (by decide) rfl ?_
          refine za_aload_n o 1 dX0_changeSetting_40 rfl rfl ?_
          refine za_getf o 0 zc0 hq (Nat.le_of_ble_eq_true rfl) wfX0_9 rfl dX0_changeSetting_41 ?_
          refine za_iload_n o 2 dX0_changeSetting_44 rfl rfl ?_
          refine za_iload_n o 3 dX0_changeSetting_45 rfl rfl ?_
          obtain ⟨g11, hf⟩ := hf
          refine za_iast o (zk_0_9 hq) rfl g11 dX0_changeSetting_46 ?_
          refine za_mem (fun m12 em12 => ?_)
          replace hf := hf m12 em12
          refine za_iload_n o 0 dX0_changeSetting_47 rfl rfl ?_
          exact za_iret o rfl hf dX0_changeSetting_48
        · replace hf := hf.2 c8
          refine za_sub [] rfl ?_
          exact tX0_changeSetting_30 o hq   μ  hf
    · replace hf := hf.2 c2
      refine za_sub [] rfl ?_
      exact tX0_changeSetting_9 o hq   μ  hf
def fX2_keep_42  (K : Int32 → zMem → Prop) (q : Nat) (v1 : Int32) (μ : zMem) : Prop :=
  K v1 μ
def fX2_keep_24  (K : Int32 → zMem → Prop) (q : Nat) (v1 : Int32) (v2 : Int32) (v3 : Nat) (μ : zMem) : Prop :=
  (∀ m1 : zMem, m1 = z_up μ v3 1 v2 → (∀ x2 : Int32, x2 = ((m1 q 2) + (1 : Int32)) → (∀ x3 : Int32, x3 = (z_min (6 : Int32) x2) → (∀ m4 : zMem, m4 = z_up m1 q 2 x3 → fX2_keep_42  K q v1 m4))))
def fX2_keep (q : Nat) (a1 : Int32) (μ : zMem) (K : Int32 → zMem → Prop) : Prop :=
  ((a1 < 0 → fX2_keep_42  K q a1 μ) ∧ (¬ a1 < 0 → ((¬ (μ q 1) = (6 : Int32) → (∀ x7 : Int32, x7 = ((μ q 1) + (1 : Int32)) → fX2_keep_24  K q a1 x7 q μ)) ∧ ((μ q 1) = (6 : Int32) → fX2_keep_24  K q a1 (0 : Int32) q μ))))
set_option maxRecDepth 100000 in
set_option maxHeartbeats 4000000 in
theorem tX2_keep_42 {p : Program} {l : Launch} {e : Env} {s : State} {m : MethodId} {args : Array Value} {below : List Frame} {meth : Method} {c : Code} {G : zG}  {K : Int32 → zMem → Prop} (o : za_Ok (z_rm 1 21) 0 0 p s m args meth c G RX2 cX2_keep 2 (some .int)) {q : Nat} (hq : z_is q 2)  (v1 : Int32) (μ : zMem)  (hf : fX2_keep_42  K q v1 μ) : za_At p l e (z_rm 1 21) s m args below meth c (MQ below (zQi G K) args s 0 0 (zA G)) G 2 0 0 42 [(1, .int v1)] [] μ := by
  unfold fX2_keep_42 at hf
  refine za_iload_n o 0 dX2_keep_42 rfl rfl ?_
  exact za_iret o rfl hf dX2_keep_43
set_option maxRecDepth 100000 in
set_option maxHeartbeats 4000000 in
theorem tX2_keep_24 {p : Program} {l : Launch} {e : Env} {s : State} {m : MethodId} {args : Array Value} {below : List Frame} {meth : Method} {c : Code} {G : zG}  {K : Int32 → zMem → Prop} (o : za_Ok (z_rm 1 21) 0 0 p s m args meth c G RX2 cX2_keep 2 (some .int)) {q : Nat} (hq : z_is q 2)  (v1 : Int32) (v2 : Int32) (v3 : Nat) (μ : zMem) (hv3 : z_is v3 2) (hf : fX2_keep_24  K q v1 v2 v3 μ) : za_At p l e (z_rm 1 21) s m args below meth c (MQ below (zQi G K) args s 0 0 (zA G)) G 2 0 0 24 [(0, .ref (G.2.2 + q)), (1, .int v1)] [.int v2, .ref (G.2.2 + v3)] μ := by
  unfold fX2_keep_24 at hf
  refine za_putf (ty := .int) o 1 zc2 hv3 (Nat.le_of_ble_eq_true rfl) wfX2_22 rfl (by decide +kernel) rfl rfl (Nat.le_of_ble_eq_true rfl) rfl dX2_keep_24 ?_
  refine za_mem (fun m1 em1 => ?_)
  replace hf := hf m1 em1
  refine za_aload_n o 0 dX2_keep_27 rfl rfl ?_
  refine za_bipush (v := (6 : Int32)) o dX2_keep_28 (by decide) ?_
  refine za_aload_n o 0 dX2_keep_30 rfl rfl ?_
  refine za_getf o 2 zc2 hq (Nat.le_of_ble_eq_true rfl) wfX2_18 rfl dX2_keep_31 ?_
  refine za_iconst (v := (1 : Int32)) o dX2_keep_34 (by decide) ?_
  refine za_iadd o dX2_keep_35 ?_
  refine za_topi (fun x2 ex2 => ?_)
  replace hf := hf x2 ex2
  refine za_min o wmX2_29 wt_min wc_Math wk_min (Nat.le_of_ble_eq_true rfl) (Nat.le_of_ble_eq_true rfl) dX2_keep_36 ?_
  refine za_topi (fun x3 ex3 => ?_)
  replace hf := hf x3 ex3
  refine za_putf (ty := .int) o 2 zc2 hq (Nat.le_of_ble_eq_true rfl) wfX2_18 rfl (by decide +kernel) rfl rfl (Nat.le_of_ble_eq_true rfl) rfl dX2_keep_39 ?_
  refine za_mem (fun m4 em4 => ?_)
  replace hf := hf m4 em4
  refine za_sub [1] rfl ?_
  exact tX2_keep_42 o hq  v1 m4  hf
set_option maxRecDepth 100000 in
set_option maxHeartbeats 4000000 in
theorem ctX2_keep (l : Launch) (G : zG) {q : Nat} (hq : z_is q 2) (a1 : Int32)  (μ : zMem) (K : Int32 → zMem → Prop) (hf : fX2_keep q a1 μ K) : z_Met l G yX2_keep cX2_keep 2 (some .int) (z_rm 1 21) [.ref (G.2.2 + q), .int a1] μ K := by
  refine z_body (by decide) (Nat.le_of_ble_eq_true rfl) (fun p e s m args below meth c o => ?_)
  have o : za_Ok (z_rm 1 21) 0 0 p s m args meth c G RX2 cX2_keep 2 (some .int) := o
  show za_At p l e (z_rm 1 21) s m args below meth c (MQ below (zQi G K) args s 0 0 (zA G)) G 2 0 0 0 [(0, .ref (G.2.2 + q)), (1, .int a1)] [] μ
  unfold fX2_keep at hf
  refine za_iload_n o 1 dX2_keep_0 rfl rfl ?_
  refine za_if_lt o 42 dX2_keep_1 (by decide) (fun c5 => ?_) (fun c5 => ?_)
  · replace hf := hf.1 c5
    refine za_sub [1] rfl ?_
    exact tX2_keep_42 o hq  a1 μ  hf
  · replace hf := hf.2 c5
    refine za_aload_n o 0 dX2_keep_4 rfl rfl ?_
    refine za_aload_n o 0 dX2_keep_5 rfl rfl ?_
    refine za_getf o 1 zc2 hq (Nat.le_of_ble_eq_true rfl) wfX2_22 rfl dX2_keep_6 ?_
    refine za_bipush (v := (6 : Int32)) o dX2_keep_9 (by decide) ?_
    refine za_icmp_ne o 18 dX2_keep_11 (by decide) (fun c6 => ?_) (fun c6 => ?_)
    · replace hf := hf.1 c6
      refine za_aload_n o 0 dX2_keep_18 rfl rfl ?_
      refine za_getf o 1 zc2 hq (Nat.le_of_ble_eq_true rfl) wfX2_22 rfl dX2_keep_19 ?_
      refine za_iconst (v := (1 : Int32)) o dX2_keep_22 (by decide) ?_
      refine za_iadd o dX2_keep_23 ?_
      refine za_topi (fun x7 ex7 => ?_)
      replace hf := hf x7 ex7
      exact tX2_keep_24 o hq  a1 x7 q μ hq hf
    · replace hf := hf.2 c6
      refine za_iconst (v := (0 : Int32)) o dX2_keep_14 (by decide) ?_
      refine za_goto o 24 dX2_keep_15 (by decide) ?_
      exact tX2_keep_24 o hq  a1 (0 : Int32) q μ hq hf
def fX1_become (q : Nat) (a1 : Nat) (μ : zMem) (K : zMem → Prop) : Prop :=
  (∀ m1 : zMem, m1 = zCpy μ (a1 + 1) (q + 1) 0 0 5 → (∀ m2 : zMem, m2 = z_up m1 q 1 (m1 a1 1) → (∀ m3 : zMem, m3 = z_up m2 q 2 (m2 a1 2) → (∀ m4 : zMem, m4 = z_up m3 q 3 (m3 a1 3) → (∀ m5 : zMem, m5 = z_up m4 q 4 (m4 a1 4) → (∀ m6 : zMem, m6 = z_up m5 q 5 (m5 a1 5) → K m6))))))
set_option maxRecDepth 100000 in
set_option maxHeartbeats 4000000 in
theorem ctX1_become (l : Launch) (G : zG) {q : Nat} (hq : z_is q 1) (a1 : Nat) (ha1 : z_is a1 1) (μ : zMem) (K : zMem → Prop) (hf : fX1_become q a1 μ K) : z_MetV l G yX1_become cX1_become 2 none (z_rm 1 35) [.ref (G.2.2 + q), .ref (G.2.2 + a1)] μ K := by
  refine z_body (by decide) (Nat.le_of_ble_eq_true rfl) (fun p e s m args below meth c o => ?_)
  have o : za_Ok (z_rm 1 35) 0 0 p s m args meth c G RX1 cX1_become 2 none := o
  show za_At p l e (z_rm 1 35) s m args below meth c (MQ below (zQv G K) args s 0 0 (zA G)) G 2 0 0 0 [(0, .ref (G.2.2 + q)), (1, .ref (G.2.2 + a1))] [] μ
  unfold fX1_become at hf
  refine za_aload_n o 1 dX1_become_0 rfl rfl ?_
  refine za_getf o 0 zc1 ha1 (Nat.le_of_ble_eq_true rfl) wfX1_9 rfl dX1_become_1 ?_
  refine za_iconst (v := (0 : Int32)) o dX1_become_4 (by decide) ?_
  refine za_aload_n o 0 dX1_become_5 rfl rfl ?_
  refine za_getf o 0 zc1 hq (Nat.le_of_ble_eq_true rfl) wfX1_9 rfl dX1_become_6 ?_
  refine za_iconst (v := (0 : Int32)) o dX1_become_9 (by decide) ?_
  refine za_iconst (v := (5 : Int32)) o dX1_become_10 (by decide) ?_
  refine za_copy o (zk_1_12 ha1) rfl (zk_1_12 hq) rfl wmX1_15 wc_anat wc_asta wc_Sys (by decide) (by decide) (by decide) (by decide) (by decide) (Nat.le_of_ble_eq_true rfl) (by decide +kernel) dX1_become_11 ?_
  refine za_mem (fun m1 em1 => ?_)
  replace hf := hf m1 em1
  refine za_aload_n o 0 dX1_become_14 rfl rfl ?_
  refine za_aload_n o 1 dX1_become_15 rfl rfl ?_
  refine za_getf o 1 zc1 ha1 (Nat.le_of_ble_eq_true rfl) wfX1_21 rfl dX1_become_16 ?_
  refine za_putf (ty := .int) o 1 zc1 hq (Nat.le_of_ble_eq_true rfl) wfX1_21 rfl (by decide +kernel) rfl rfl (Nat.le_of_ble_eq_true rfl) rfl dX1_become_19 ?_
  refine za_mem (fun m2 em2 => ?_)
  replace hf := hf m2 em2
  refine za_aload_n o 0 dX1_become_22 rfl rfl ?_
  refine za_aload_n o 1 dX1_become_23 rfl rfl ?_
  refine za_getf o 2 zc1 ha1 (Nat.le_of_ble_eq_true rfl) wfX1_25 rfl dX1_become_24 ?_
  refine za_putf (ty := .int) o 2 zc1 hq (Nat.le_of_ble_eq_true rfl) wfX1_25 rfl (by decide +kernel) rfl rfl (Nat.le_of_ble_eq_true rfl) rfl dX1_become_27 ?_
  refine za_mem (fun m3 em3 => ?_)
  replace hf := hf m3 em3
  refine za_aload_n o 0 dX1_become_30 rfl rfl ?_
  refine za_aload_n o 1 dX1_become_31 rfl rfl ?_
  refine za_getf o 3 zc1 ha1 (Nat.le_of_ble_eq_true rfl) wfX1_28 rfl dX1_become_32 ?_
  refine za_putf (ty := .int) o 3 zc1 hq (Nat.le_of_ble_eq_true rfl) wfX1_28 rfl (by decide +kernel) rfl rfl (Nat.le_of_ble_eq_true rfl) rfl dX1_become_35 ?_
  refine za_mem (fun m4 em4 => ?_)
  replace hf := hf m4 em4
  refine za_aload_n o 0 dX1_become_38 rfl rfl ?_
  refine za_aload_n o 1 dX1_become_39 rfl rfl ?_
  refine za_getf o 4 zc1 ha1 (Nat.le_of_ble_eq_true rfl) wfX1_31 rfl dX1_become_40 ?_
  refine za_putf (ty := .int) o 4 zc1 hq (Nat.le_of_ble_eq_true rfl) wfX1_31 rfl (by decide +kernel) rfl rfl (Nat.le_of_ble_eq_true rfl) rfl dX1_become_43 ?_
  refine za_mem (fun m5 em5 => ?_)
  replace hf := hf m5 em5
  refine za_aload_n o 0 dX1_become_46 rfl rfl ?_
  refine za_aload_n o 1 dX1_become_47 rfl rfl ?_
  refine za_getf o 5 zc1 ha1 (Nat.le_of_ble_eq_true rfl) wfX1_34 rfl dX1_become_48 ?_
  refine za_putf (ty := .int) o 5 zc1 hq (Nat.le_of_ble_eq_true rfl) wfX1_34 rfl (by decide +kernel) rfl rfl (Nat.le_of_ble_eq_true rfl) rfl dX1_become_51 ?_
  refine za_mem (fun m6 em6 => ?_)
  replace hf := hf m6 em6
  exact za_vret o rfl hf dX1_become_54
def fX5_become (q : Nat) (a1 : Nat) (μ : zMem) (K : zMem → Prop) : Prop :=
  (∀ m1 : zMem, m1 = zCpy μ (a1 + 1) (q + 1) 0 0 5 → (∀ m2 : zMem, m2 = zCpy m1 (a1 + 2) (q + 2) 0 0 5 → (∀ m3 : zMem, m3 = z_up m2 q 2 (m2 a1 2) → (∀ m4 : zMem, m4 = z_up m3 q 3 (m3 a1 3) → (∀ m5 : zMem, m5 = z_up m4 q 4 (m4 a1 4) → (∀ m6 : zMem, m6 = z_up m5 q 5 (m5 a1 5) → (∀ m7 : zMem, m7 = z_up m6 q 6 (m6 a1 6) → (∀ m8 : zMem, m8 = z_up m7 q 7 (m7 a1 7) → (z_b (m8 a1 8) ∧ (∀ m9 : zMem, m9 = z_up m8 q 8 (m8 a1 8) → K m9))))))))))
set_option maxRecDepth 100000 in
set_option maxHeartbeats 4000000 in
theorem ctX5_become (l : Launch) (G : zG) {q : Nat} (hq : z_is q 5) (a1 : Nat) (ha1 : z_is a1 5) (μ : zMem) (K : zMem → Prop) (hf : fX5_become q a1 μ K) : z_MetV l G yX5_become cX5_become 2 none (z_rm 1 35) [.ref (G.2.2 + q), .ref (G.2.2 + a1)] μ K := by
  refine z_body (by decide) (Nat.le_of_ble_eq_true rfl) (fun p e s m args below meth c o => ?_)
  have o : za_Ok (z_rm 1 35) 0 0 p s m args meth c G RX5 cX5_become 2 none := o
  show za_At p l e (z_rm 1 35) s m args below meth c (MQ below (zQv G K) args s 0 0 (zA G)) G 2 0 0 0 [(0, .ref (G.2.2 + q)), (1, .ref (G.2.2 + a1))] [] μ
  unfold fX5_become at hf
  refine za_aload_n o 1 dX5_become_0 rfl rfl ?_
  refine za_getf o 0 zc5 ha1 (Nat.le_of_ble_eq_true rfl) wfX5_9 rfl dX5_become_1 ?_
  refine za_iconst (v := (0 : Int32)) o dX5_become_4 (by decide) ?_
  refine za_aload_n o 0 dX5_become_5 rfl rfl ?_
  refine za_getf o 0 zc5 hq (Nat.le_of_ble_eq_true rfl) wfX5_9 rfl dX5_become_6 ?_
  refine za_iconst (v := (0 : Int32)) o dX5_become_9 (by decide) ?_
  refine za_iconst (v := (5 : Int32)) o dX5_become_10 (by decide) ?_
  refine za_copy o (zk_5_12 ha1) rfl (zk_5_12 hq) rfl wmX5_41 wc_anat wc_asta wc_Sys (by decide) (by decide) (by decide) (by decide) (by decide) (Nat.le_of_ble_eq_true rfl) (by decide +kernel) dX5_become_11 ?_
  refine za_mem (fun m1 em1 => ?_)
  replace hf := hf m1 em1
  refine za_aload_n o 1 dX5_become_14 rfl rfl ?_
  refine za_getf o 1 zc5 ha1 (Nat.le_of_ble_eq_true rfl) wfX5_15 rfl dX5_become_15 ?_
  refine za_iconst (v := (0 : Int32)) o dX5_become_18 (by decide) ?_
  refine za_aload_n o 0 dX5_become_19 rfl rfl ?_
  refine za_getf o 1 zc5 hq (Nat.le_of_ble_eq_true rfl) wfX5_15 rfl dX5_become_20 ?_
  refine za_iconst (v := (0 : Int32)) o dX5_become_23 (by decide) ?_
  refine za_iconst (v := (5 : Int32)) o dX5_become_24 (by decide) ?_
  refine za_copy o (zk_5_12b ha1) rfl (zk_5_12b hq) rfl wmX5_41 wc_anat wc_asta wc_Sys (by decide) (by decide) (by decide) (by decide) (by decide) (Nat.le_of_ble_eq_true rfl) (by decide +kernel) dX5_become_25 ?_
  refine za_mem (fun m2 em2 => ?_)
  replace hf := hf m2 em2
  refine za_aload_n o 0 dX5_become_28 rfl rfl ?_
  refine za_aload_n o 1 dX5_become_29 rfl rfl ?_
  refine za_getf o 2 zc5 ha1 (Nat.le_of_ble_eq_true rfl) wfX5_18 rfl dX5_become_30 ?_
  refine za_putf (ty := .int) o 2 zc5 hq (Nat.le_of_ble_eq_true rfl) wfX5_18 rfl (by decide +kernel) rfl rfl (Nat.le_of_ble_eq_true rfl) rfl dX5_become_33 ?_
  refine za_mem (fun m3 em3 => ?_)
  replace hf := hf m3 em3
  refine za_aload_n o 0 dX5_become_36 rfl rfl ?_
  refine za_aload_n o 1 dX5_become_37 rfl rfl ?_
  refine za_getf o 3 zc5 ha1 (Nat.le_of_ble_eq_true rfl) wfX5_22 rfl dX5_become_38 ?_
  refine za_putf (ty := .int) o 3 zc5 hq (Nat.le_of_ble_eq_true rfl) wfX5_22 rfl (by decide +kernel) rfl rfl (Nat.le_of_ble_eq_true rfl) rfl dX5_become_41 ?_
  refine za_mem (fun m4 em4 => ?_)
  replace hf := hf m4 em4
  refine za_aload_n o 0 dX5_become_44 rfl rfl ?_
  refine za_aload_n o 1 dX5_become_45 rfl rfl ?_
  refine za_getf o 4 zc5 ha1 (Nat.le_of_ble_eq_true rfl) wfX5_25 rfl dX5_become_46 ?_
  refine za_putf (ty := .int) o 4 zc5 hq (Nat.le_of_ble_eq_true rfl) wfX5_25 rfl (by decide +kernel) rfl rfl (Nat.le_of_ble_eq_true rfl) rfl dX5_become_49 ?_
  refine za_mem (fun m5 em5 => ?_)
  replace hf := hf m5 em5
  refine za_aload_n o 0 dX5_become_52 rfl rfl ?_
  refine za_aload_n o 1 dX5_become_53 rfl rfl ?_
  refine za_getf o 5 zc5 ha1 (Nat.le_of_ble_eq_true rfl) wfX5_28 rfl dX5_become_54 ?_
  refine za_putf (ty := .int) o 5 zc5 hq (Nat.le_of_ble_eq_true rfl) wfX5_28 rfl (by decide +kernel) rfl rfl (Nat.le_of_ble_eq_true rfl) rfl dX5_become_57 ?_
  refine za_mem (fun m6 em6 => ?_)
  replace hf := hf m6 em6
  refine za_aload_n o 0 dX5_become_60 rfl rfl ?_
  refine za_aload_n o 1 dX5_become_61 rfl rfl ?_
  refine za_getf o 6 zc5 ha1 (Nat.le_of_ble_eq_true rfl) wfX5_31 rfl dX5_become_62 ?_
  refine za_putf (ty := .int) o 6 zc5 hq (Nat.le_of_ble_eq_true rfl) wfX5_31 rfl (by decide +kernel) rfl rfl (Nat.le_of_ble_eq_true rfl) rfl dX5_become_65 ?_
  refine za_mem (fun m7 em7 => ?_)
  replace hf := hf m7 em7
  refine za_aload_n o 0 dX5_become_68 rfl rfl ?_
  refine za_aload_n o 1 dX5_become_69 rfl rfl ?_
  refine za_getf o 7 zc5 ha1 (Nat.le_of_ble_eq_true rfl) wfX5_34 rfl dX5_become_70 ?_
  refine za_putf (ty := .int) o 7 zc5 hq (Nat.le_of_ble_eq_true rfl) wfX5_34 rfl (by decide +kernel) rfl rfl (Nat.le_of_ble_eq_true rfl) rfl dX5_become_73 ?_
  refine za_mem (fun m8 em8 => ?_)
  replace hf := hf m8 em8
  refine za_aload_n o 0 dX5_become_76 rfl rfl ?_
  refine za_aload_n o 1 dX5_become_77 rfl rfl ?_
  refine za_getf o 8 zc5 ha1 (Nat.le_of_ble_eq_true rfl) wfX5_37 rfl dX5_become_78 ?_
  obtain ⟨g10, hf⟩ := hf
  refine za_putf (ty := .boolean) o 8 zc5 hq (Nat.le_of_ble_eq_true rfl) wfX5_37 rfl (by decide +kernel) (z_bn g10) (z_bfit g10) (Nat.le_of_ble_eq_true rfl) rfl dX5_become_81 ?_
  refine za_mem (fun m9 em9 => ?_)
  replace hf := hf m9 em9
  exact za_vret o rfl hf dX5_become_84
def fX0_become_44b (k44 : Nat → Int32 → zMem → Prop) (K : zMem → Prop) (q : Nat) (v1 : Nat) (v2 : Int32) (μ : zMem) : Prop :=
  (((μ v1 3) ≤ v2 → (∀ m2 : zMem, m2 = z_up μ q 3 (μ v1 3) → (∀ m3 : zMem, m3 = z_up m2 q 4 (m2 v1 4) → (z_b (m3 v1 5) ∧ (∀ m4 : zMem, m4 = z_up m3 q 5 (m3 v1 5) → K m4))))) ∧ (¬ (μ v1 3) ≤ v2 → (vp_in v2 14 ∧ (∀ q7 : Nat, q7 = (q + 2) + 2 + 3 * v2.toNatClampNeg → (vp_in v2 14 ∧ (∀ q9 : Nat, q9 = (v1 + 2) + 2 + 3 * v2.toNatClampNeg → fX5_become q7 q9 μ (fun m11 => (∀ x12 : Int32, x12 = v2 + (1 : Int32) → k44 v1 x12 m11))))))))
def fX0_become_44  (K : zMem → Prop) (q : Nat) (n : Nat) : Nat → Int32 → zMem → Prop := z_it (fun k => fX0_become_44b  k K q ) (fun _ _ _ => False) n
def fX0_become_16b (k16 : Nat → Int32 → zMem → Prop) (K : zMem → Prop) (q : Nat) (v1 : Nat) (v2 : Int32) (μ : zMem) : Prop :=
  (((3 : Int32) ≤ v2 → fX0_become_44  K q zFU v1 (0 : Int32) μ) ∧ (¬ (3 : Int32) ≤ v2 → (vp_in v2 3 ∧ (∀ q15 : Nat, q15 = (q + 3) + 43 + 2 * v2.toNatClampNeg → (vp_in v2 3 ∧ (∀ q17 : Nat, q17 = (v1 + 3) + 43 + 2 * v2.toNatClampNeg → fX1_become q15 q17 μ (fun m19 => (∀ x20 : Int32, x20 = v2 + (1 : Int32) → k16 v1 x20 m19))))))))
def fX0_become_16  (K : zMem → Prop) (q : Nat) (n : Nat) : Nat → Int32 → zMem → Prop := z_it (fun k => fX0_become_16b  k K q ) (fun _ _ _ => False) n
def fX0_become (q : Nat) (a1 : Nat) (μ : zMem) (K : zMem → Prop) : Prop :=
  (∀ m21 : zMem, m21 = zCpy μ (a1 + 1) (q + 1) 0 0 4 → fX0_become_16  K q zFU a1 (0 : Int32) m21)
set_option maxRecDepth 100000 in
set_option maxHeartbeats 4000000 in
theorem tX0_become_44b {p : Program} {l : Launch} {e : Env} {s : State} {m : MethodId} {args : Array Value} {below : List Frame} {meth : Method} {c : Code} {G : zG} {k44 : Nat → Int32 → zMem → Prop} {K : zMem → Prop} (o : za_Ok (z_rm 2 56) 0 0 p s m args meth c G RX0 cX0_become 3 none) {q : Nat} (hq : z_is q 0) (hk44 : ∀ (v1 : Nat) (v2 : Int32) (μ : zMem), z_is v1 0 → k44 v1 v2 μ → za_At p l e (z_rm 2 56) s m args below meth c (MQ below (zQv G K) args s 0 0 (zA G)) G 3 0 0 44 [(0, .ref (G.2.2 + q)), (1, .ref (G.2.2 + v1)), (2, .int v2)] [] μ) (v1 : Nat) (v2 : Int32) (μ : zMem) (hv1 : z_is v1 0) (hf : fX0_become_44b k44 K q v1 v2 μ) : za_At p l e (z_rm 2 56) s m args below meth c (MQ below (zQv G K) args s 0 0 (zA G)) G 3 0 0 44 [(0, .ref (G.2.2 + q)), (1, .ref (G.2.2 + v1)), (2, .int v2)] [] μ := by
  unfold fX0_become_44b at hf
  refine za_iload_n o 2 dX0_become_44 rfl rfl ?_
  refine za_aload_n o 1 dX0_become_45 rfl rfl ?_
  refine za_getf o 3 zc0 hv1 (Nat.le_of_ble_eq_true rfl) wfX0_39 rfl dX0_become_46 ?_
  refine za_icmp_ge o 73 dX0_become_49 (by decide) (fun c1 => ?_) (fun c1 => ?_)
  · replace hf := hf.1 c1
    refine za_aload_n o 0 dX0_become_73 rfl rfl ?_
    refine za_aload_n o 1 dX0_become_74 rfl rfl ?_
    refine za_getf o 3 zc0 hv1 (Nat.le_of_ble_eq_true rfl) wfX0_39 rfl dX0_become_75 ?_
    refine za_putf (ty := .int) o 3 zc0 hq (Nat.le_of_ble_eq_true rfl) wfX0_39 rfl (by decide +kernel) rfl rfl (Nat.le_of_ble_eq_true rfl) rfl dX0_become_78 ?_
    refine za_mem (fun m2 em2 => ?_)
    replace hf := hf m2 em2
    refine za_aload_n o 0 dX0_become_81 rfl rfl ?_
    refine za_aload_n o 1 dX0_become_82 rfl rfl ?_
    refine za_getf o 4 zc0 hv1 (Nat.le_of_ble_eq_true rfl) wfX0_46 rfl dX0_become_83 ?_
    refine za_putf (ty := .int) o 4 zc0 hq (Nat.le_of_ble_eq_true rfl) wfX0_46 rfl (by decide +kernel) rfl rfl (Nat.le_of_ble_eq_true rfl) rfl dX0_become_86 ?_
    refine za_mem (fun m3 em3 => ?_)
    replace hf := hf m3 em3
    refine za_aload_n o 0 dX0_become_89 rfl rfl ?_
    refine za_aload_n o 1 dX0_become_90 rfl rfl ?_
    refine za_getf o 5 zc0 hv1 (Nat.le_of_ble_eq_true rfl) wfX0_49 rfl dX0_become_91 ?_
    obtain ⟨g5, hf⟩ := hf
    refine za_putf (ty := .boolean) o 5 zc0 hq (Nat.le_of_ble_eq_true rfl) wfX0_49 rfl (by decide +kernel) (z_bn g5) (z_bfit g5) (Nat.le_of_ble_eq_true rfl) rfl dX0_become_94 ?_
    refine za_mem (fun m4 em4 => ?_)
    replace hf := hf m4 em4
    exact za_vret o rfl hf dX0_become_97
  · replace hf := hf.2 c1
    refine za_aload_n o 0 dX0_become_52 rfl rfl ?_
    refine za_getf o 1 zc0 hq (Nat.le_of_ble_eq_true rfl) wfX0_17 rfl dX0_become_53 ?_
    refine za_iload_n o 2 dX0_become_56 rfl rfl ?_
    obtain ⟨g6, hf⟩ := hf
    refine za_aald o (zk_0_10 hq) rfl rfl rfl g6 dX0_become_57 ?_
    refine za_topr (fun q7 eq7 => ?_)
    replace hf := hf q7 eq7
    have hq7 : z_is q7 5 := by rw [eq7]; exact zk_a10 (zk_0_10 hq) (z_lt g6)
    refine za_aload_n o 1 dX0_become_58 rfl rfl ?_
    refine za_getf o 1 zc0 hv1 (Nat.le_of_ble_eq_true rfl) wfX0_17 rfl dX0_become_59 ?_
    refine za_iload_n o 2 dX0_become_62 rfl rfl ?_
    obtain ⟨g8, hf⟩ := hf
    refine za_aald o (zk_0_10 hv1) rfl rfl rfl g8 dX0_become_63 ?_
    refine za_topr (fun q9 eq9 => ?_)
    replace hf := hf q9 eq9
    have hq9 : z_is q9 5 := by rw [eq9]; exact zk_a10 (zk_0_10 hv1) (z_lt g8)
    refine za_callVv o [.ref (G.2.2 + q9)] (ctX5_become l G hq7 q9 hq9 μ _ hf) zc5 hq7 mwX5_become wmX0_43 wiX5_become wsX5_become rfl ⟨Nat.le_of_ble_eq_true rfl, Nat.le_of_ble_eq_true rfl⟩ rfl (Nat.le_of_ble_eq_true rfl) dX0_become_64 (fun m11 hf => ?_)
    obtain ⟨x12, ex12⟩ : ∃ y : Int32, y = v2 + (1 : Int32) := ⟨_, rfl⟩
    replace hf := hf x12 ex12
    refine za_iinc o x12 2 [(2, .int x12), (0, .ref (G.2.2 + q)), (1, .ref (G.2.2 + v1))] dX0_become_67 rfl (by rw [ex12]; rfl) (by decide) rfl ?_
    refine za_goto o 44 dX0_become_70 (by decide) ?_
    refine za_sub [1, 2, 0] rfl ?_
    exact hk44 v1 x12 m11 hv1 hf
theorem tX0_become_44 {p : Program} {l : Launch} {e : Env} {s : State} {m : MethodId} {args : Array Value} {below : List Frame} {meth : Method} {c : Code} {G : zG}  {K : zMem → Prop} (o : za_Ok (z_rm 2 56) 0 0 p s m args meth c G RX0 cX0_become 3 none) {q : Nat} (hq : z_is q 0)  (n : Nat) : ∀ (v1 : Nat) (v2 : Int32) (μ : zMem), z_is v1 0 → fX0_become_44  K q n v1 v2 μ → za_At p l e (z_rm 2 56) s m args below meth c (MQ below (zQv G K) args s 0 0 (zA G)) G 3 0 0 44 [(0, .ref (G.2.2 + q)), (1, .ref (G.2.2 + v1)), (2, .int v2)] [] μ := by
  induction n with
  | zero => intro _ _ _ _ hf; exact hf.elim
  | succ n ih => intro v1 v2 μ hv1 hf; exact tX0_become_44b o hq  ih v1 v2 μ hv1 hf
set_option maxRecDepth 100000 in
set_option maxHeartbeats 4000000 in
theorem tX0_become_16b {p : Program} {l : Launch} {e : Env} {s : State} {m : MethodId} {args : Array Value} {below : List Frame} {meth : Method} {c : Code} {G : zG} {k16 : Nat → Int32 → zMem → Prop} {K : zMem → Prop} (o : za_Ok (z_rm 2 56) 0 0 p s m args meth c G RX0 cX0_become 3 none) {q : Nat} (hq : z_is q 0) (hk16 : ∀ (v1 : Nat) (v2 : Int32) (μ : zMem), z_is v1 0 → k16 v1 v2 μ → za_At p l e (z_rm 2 56) s m args below meth c (MQ below (zQv G K) args s 0 0 (zA G)) G 3 0 0 16 [(0, .ref (G.2.2 + q)), (1, .ref (G.2.2 + v1)), (2, .int v2)] [] μ) (v1 : Nat) (v2 : Int32) (μ : zMem) (hv1 : z_is v1 0) (hf : fX0_become_16b k16 K q v1 v2 μ) : za_At p l e (z_rm 2 56) s m args below meth c (MQ below (zQv G K) args s 0 0 (zA G)) G 3 0 0 16 [(0, .ref (G.2.2 + q)), (1, .ref (G.2.2 + v1)), (2, .int v2)] [] μ := by
  unfold fX0_become_16b at hf
  refine za_iload_n o 2 dX0_become_16 rfl rfl ?_
  refine za_iconst (v := (3 : Int32)) o dX0_become_17 (by decide) ?_
  refine za_icmp_ge o 42 dX0_become_18 (by decide) (fun c13 => ?_) (fun c13 => ?_)
  · replace hf := hf.1 c13
    refine za_iconst (v := (0 : Int32)) o dX0_become_42 (by decide) ?_
    refine za_istore_n o [(2, .int (0 : Int32)), (0, .ref (G.2.2 + q)), (1, .ref (G.2.2 + v1))] dX0_become_43 rfl (by decide) rfl ?_
    refine za_sub [1, 2, 0] rfl ?_
    exact tX0_become_44 o hq  zFU v1 (0 : Int32) μ hv1 hf
  · replace hf := hf.2 c13
    refine za_aload_n o 0 dX0_become_21 rfl rfl ?_
    refine za_getf o 2 zc0 hq (Nat.le_of_ble_eq_true rfl) wfX0_23 rfl dX0_become_22 ?_
    refine za_iload_n o 2 dX0_become_25 rfl rfl ?_
    obtain ⟨g14, hf⟩ := hf
    refine za_aald o (zk_0_11 hq) rfl rfl rfl g14 dX0_become_26 ?_
    refine za_topr (fun q15 eq15 => ?_)
    replace hf := hf q15 eq15
    have hq15 : z_is q15 1 := by rw [eq15]; exact zk_a11 (zk_0_11 hq) (z_lt g14)
    refine za_aload_n o 1 dX0_become_27 rfl rfl ?_
    refine za_getf o 2 zc0 hv1 (Nat.le_of_ble_eq_true rfl) wfX0_23 rfl dX0_become_28 ?_
    refine za_iload_n o 2 dX0_become_31 rfl rfl ?_
    obtain ⟨g16, hf⟩ := hf
    refine za_aald o (zk_0_11 hv1) rfl rfl rfl g16 dX0_become_32 ?_
    refine za_topr (fun q17 eq17 => ?_)
    replace hf := hf q17 eq17
    have hq17 : z_is q17 1 := by rw [eq17]; exact zk_a11 (zk_0_11 hv1) (z_lt g16)
    refine za_callVv o [.ref (G.2.2 + q17)] (ctX1_become l G hq15 q17 hq17 μ _ hf) zc1 hq15 mwX1_become wmX0_35 wiX1_become wsX1_become rfl ⟨Nat.le_of_ble_eq_true rfl, Nat.le_of_ble_eq_true rfl⟩ rfl (Nat.le_of_ble_eq_true rfl) dX0_become_33 (fun m19 hf => ?_)
    obtain ⟨x20, ex20⟩ : ∃ y : Int32, y = v2 + (1 : Int32) := ⟨_, rfl⟩
    replace hf := hf x20 ex20
    refine za_iinc o x20 2 [(2, .int x20), (0, .ref (G.2.2 + q)), (1, .ref (G.2.2 + v1))] dX0_become_36 rfl (by rw [ex20]; rfl) (by decide) rfl ?_
    refine za_goto o 16 dX0_become_39 (by decide) ?_
    refine za_sub [1, 2, 0] rfl ?_
    exact hk16 v1 x20 m19 hv1 hf
theorem tX0_become_16 {p : Program} {l : Launch} {e : Env} {s : State} {m : MethodId} {args : Array Value} {below : List Frame} {meth : Method} {c : Code} {G : zG}  {K : zMem → Prop} (o : za_Ok (z_rm 2 56) 0 0 p s m args meth c G RX0 cX0_become 3 none) {q : Nat} (hq : z_is q 0)  (n : Nat) : ∀ (v1 : Nat) (v2 : Int32) (μ : zMem), z_is v1 0 → fX0_become_16  K q n v1 v2 μ → za_At p l e (z_rm 2 56) s m args below meth c (MQ below (zQv G K) args s 0 0 (zA G)) G 3 0 0 16 [(0, .ref (G.2.2 + q)), (1, .ref (G.2.2 + v1)), (2, .int v2)] [] μ := by
  induction n with
  | zero => intro _ _ _ _ hf; exact hf.elim
  | succ n ih => intro v1 v2 μ hv1 hf; exact tX0_become_16b o hq  ih v1 v2 μ hv1 hf
set_option maxRecDepth 100000 in
set_option maxHeartbeats 4000000 in
theorem ctX0_become (l : Launch) (G : zG) {q : Nat} (hq : z_is q 0) (a1 : Nat) (ha1 : z_is a1 0) (μ : zMem) (K : zMem → Prop) (hf : fX0_become q a1 μ K) : z_MetV l G yX0_become cX0_become 3 none (z_rm 2 56) [.ref (G.2.2 + q), .ref (G.2.2 + a1)] μ K := by
  refine z_body (by decide) (Nat.le_of_ble_eq_true rfl) (fun p e s m args below meth c o => ?_)
  have o : za_Ok (z_rm 2 56) 0 0 p s m args meth c G RX0 cX0_become 3 none := o
  show za_At p l e (z_rm 2 56) s m args below meth c (MQ below (zQv G K) args s 0 0 (zA G)) G 3 0 0 0 [(0, .ref (G.2.2 + q)), (1, .ref (G.2.2 + a1))] [] μ
  unfold fX0_become at hf
  refine za_aload_n o 1 dX0_become_0 rfl rfl ?_
  refine za_getf o 0 zc0 ha1 (Nat.le_of_ble_eq_true rfl) wfX0_9 rfl dX0_become_1 ?_
  refine za_iconst (v := (0 : Int32)) o dX0_become_4 (by decide) ?_
  refine za_aload_n o 0 dX0_become_5 rfl rfl ?_
  refine za_getf o 0 zc0 hq (Nat.le_of_ble_eq_true rfl) wfX0_9 rfl dX0_become_6 ?_
  refine za_iconst (v := (0 : Int32)) o dX0_become_9 (by decide) ?_
  refine za_iconst (v := (4 : Int32)) o dX0_become_10 (by decide) ?_
  refine za_copy o (zk_0_9 ha1) rfl (zk_0_9 hq) rfl wmX0_29 wc_anat wc_asta wc_Sys (by decide) (by decide) (by decide) (by decide) (by decide) (Nat.le_of_ble_eq_true rfl) (by decide +kernel) dX0_become_11 ?_
  refine za_mem (fun m21 em21 => ?_)
  replace hf := hf m21 em21
  refine za_iconst (v := (0 : Int32)) o dX0_become_14 (by decide) ?_
  refine za_istore_n o [(2, .int (0 : Int32)), (0, .ref (G.2.2 + q)), (1, .ref (G.2.2 + a1))] dX0_become_15 rfl (by decide) rfl ?_
  refine za_sub [1, 2, 0] rfl ?_
  exact tX0_become_16 o hq  zFU a1 (0 : Int32) m21 ha1 hf
def fX2_note (q : Nat) (a1 : Nat) (μ : zMem) (K : zMem → Prop) : Prop :=
  (vp_in (μ q 1) 7 ∧ (∀ q2 : Nat, q2 = (q + 1) + 1 + 52 * ((μ q 1)).toNatClampNeg → fX0_become q2 a1 μ (fun m4 => K m4)))
set_option maxRecDepth 100000 in
set_option maxHeartbeats 4000000 in
theorem ctX2_note (l : Launch) (G : zG) {q : Nat} (hq : z_is q 2) (a1 : Nat) (ha1 : z_is a1 0) (μ : zMem) (K : zMem → Prop) (hf : fX2_note q a1 μ K) : z_MetV l G yX2_note cX2_note 2 none (z_rm 3 78) [.ref (G.2.2 + q), .ref (G.2.2 + a1)] μ K := by
  refine z_body (by decide) (Nat.le_of_ble_eq_true rfl) (fun p e s m args below meth c o => ?_)
  have o : za_Ok (z_rm 3 78) 0 0 p s m args meth c G RX2 cX2_note 2 none := o
  show za_At p l e (z_rm 3 78) s m args below meth c (MQ below (zQv G K) args s 0 0 (zA G)) G 2 0 0 0 [(0, .ref (G.2.2 + q)), (1, .ref (G.2.2 + a1))] [] μ
  unfold fX2_note at hf
  refine za_aload_n o 0 dX2_note_0 rfl rfl ?_
  refine za_getf o 0 zc2 hq (Nat.le_of_ble_eq_true rfl) wfX2_11 rfl dX2_note_1 ?_
  refine za_aload_n o 0 dX2_note_4 rfl rfl ?_
  refine za_getf o 1 zc2 hq (Nat.le_of_ble_eq_true rfl) wfX2_22 rfl dX2_note_5 ?_
  obtain ⟨g1, hf⟩ := hf
  refine za_aald o (zk_2_13 hq) rfl rfl rfl g1 dX2_note_8 ?_
  refine za_topr (fun q2 eq2 => ?_)
  replace hf := hf q2 eq2
  have hq2 : z_is q2 0 := by rw [eq2]; exact zk_a13 (zk_2_13 hq) (z_lt g1)
  refine za_aload_n o 1 dX2_note_9 rfl rfl ?_
  refine za_callVv o [.ref (G.2.2 + a1)] (ctX0_become l G hq2 a1 ha1 μ _ hf) zc0 hq2 mwX0_become wmX2_25 wiX0_become wsX0_become rfl ⟨Nat.le_of_ble_eq_true rfl, Nat.le_of_ble_eq_true rfl⟩ rfl (Nat.le_of_ble_eq_true rfl) dX2_note_10 (fun m4 hf => ?_)
  exact za_vret o rfl hf dX2_note_13
def fX7_set (q : Nat) (a1 : Int32) (a2 : Int32) (μ : zMem) (K : Int32 → zMem → Prop) : Prop :=
  fX2_note 53 1 μ (fun m2 => fX0_changeSetting 1 a1 a2 m2 (fun r3 m4 => fX2_keep 53 r3 m4 (fun r5 m6 => K r5 m6)))
set_option maxRecDepth 100000 in
set_option maxHeartbeats 4000000 in
theorem ctX7_set (l : Launch) (G : zG) {q : Nat} (hq : z_is q 7) (a1 : Int32) (a2 : Int32)  (μ : zMem) (K : Int32 → zMem → Prop) (hf : fX7_set q a1 a2 μ K) : z_Met l G yX7_set cX7_set 3 (some .int) (z_rm 4 99) [.ref (G.2.2 + q), .int a1, .int a2] μ K := by
  refine z_body (by decide) (Nat.le_of_ble_eq_true rfl) (fun p e s m args below meth c o => ?_)
  have o : za_Ok (z_rm 4 99) 0 0 p s m args meth c G RX7 cX7_set 3 (some .int) := o
  show za_At p l e (z_rm 4 99) s m args below meth c (MQ below (zQi G K) args s 0 0 (zA G)) G 3 0 0 0 [(0, .ref (G.2.2 + q)), (1, .int a1), (2, .int a2)] [] μ
  unfold fX7_set at hf
  refine za_aload_n o 0 dX7_set_0 rfl rfl ?_
  refine za_getf o 1 zc7 hq (Nat.le_of_ble_eq_true rfl) wfX7_19 rfl dX7_set_1 ?_
  refine za_aload_n o 0 dX7_set_4 rfl rfl ?_
  refine za_getf o 0 zc7 hq (Nat.le_of_ble_eq_true rfl) wfX7_10 rfl dX7_set_5 ?_
  refine za_callVv o [.ref (G.2.2 + 1)] (ctX2_note l G zk_c2 1 zk_c0 μ _ hf) zc2 zk_c2 mwX2_note wmX7_46 wiX2_note wsX2_note rfl ⟨Nat.le_of_ble_eq_true rfl, Nat.le_of_ble_eq_true rfl⟩ rfl (Nat.le_of_ble_eq_true rfl) dX7_set_8 (fun m2 hf => ?_)
  refine za_aload_n o 0 dX7_set_11 rfl rfl ?_
  refine za_getf o 1 zc7 hq (Nat.le_of_ble_eq_true rfl) wfX7_19 rfl dX7_set_12 ?_
  refine za_aload_n o 0 dX7_set_15 rfl rfl ?_
  refine za_getf o 0 zc7 hq (Nat.le_of_ble_eq_true rfl) wfX7_10 rfl dX7_set_16 ?_
  refine za_iload_n o 1 dX7_set_19 rfl rfl ?_
  refine za_iload_n o 2 dX7_set_20 rfl rfl ?_
  refine za_callVi o [.int a1, .int a2] (ctX0_changeSetting l G zk_c0 a1 a2  m2 _ hf) zc0 zk_c0 mwX0_changeSetting wmX7_50 wiX0_changeSetting wsX0_changeSetting rfl ⟨Nat.le_of_ble_eq_true rfl, Nat.le_of_ble_eq_true rfl⟩ rfl (Nat.le_of_ble_eq_true rfl) dX7_set_21 (fun r3 m4 hf => ?_)
  refine za_callVi o [.int r3] (ctX2_keep l G zk_c2 r3  m4 _ hf) zc2 zk_c2 mwX2_keep wmX7_54 wiX2_keep wsX2_keep rfl ⟨Nat.le_of_ble_eq_true rfl, Nat.le_of_ble_eq_true rfl⟩ rfl (Nat.le_of_ble_eq_true rfl) dX7_set_24 (fun r5 m6 hf => ?_)
  exact za_iret o rfl hf dX7_set_27
def fX0_hasDish_14  (K : Int32 → zMem → Prop) (q : Nat) (v1 : Int32) (μ : zMem) : Prop :=
  (z_b v1 ∧ K v1 μ)
def fX0_hasDish_13  (K : Int32 → zMem → Prop) (q : Nat)  (μ : zMem) : Prop :=
  fX0_hasDish_14  K q (0 : Int32) μ
def fX0_hasDish (q : Nat) (a1 : Int32) (μ : zMem) (K : Int32 → zMem → Prop) : Prop :=
  ((a1 < 0 → fX0_hasDish_13  K q  μ) ∧ (¬ a1 < 0 → (((3 : Int32) ≤ a1 → fX0_hasDish_13  K q  μ) ∧ (¬ (3 : Int32) ≤ a1 → fX0_hasDish_14  K q (1 : Int32) μ))))
set_option maxRecDepth 100000 in
set_option maxHeartbeats 4000000 in
theorem tX0_hasDish_14 {p : Program} {l : Launch} {e : Env} {s : State} {m : MethodId} {args : Array Value} {below : List Frame} {meth : Method} {c : Code} {G : zG}  {K : Int32 → zMem → Prop} (o : za_Ok (z_rm 0 0) 0 0 p s m args meth c G RX0 cX0_hasDish 2 (some .boolean)) {q : Nat} (hq : z_is q 0)  (v1 : Int32) (μ : zMem)  (hf : fX0_hasDish_14  K q v1 μ) : za_At p l e (z_rm 0 0) s m args below meth c (MQ below (zQi G K) args s 0 0 (zA G)) G 2 0 0 14 [] [.int v1] μ := by
  unfold fX0_hasDish_14 at hf
  exact za_zret o rfl hf.1 hf.2 dX0_hasDish_14
set_option maxRecDepth 100000 in
set_option maxHeartbeats 4000000 in
theorem tX0_hasDish_13 {p : Program} {l : Launch} {e : Env} {s : State} {m : MethodId} {args : Array Value} {below : List Frame} {meth : Method} {c : Code} {G : zG}  {K : Int32 → zMem → Prop} (o : za_Ok (z_rm 0 0) 0 0 p s m args meth c G RX0 cX0_hasDish 2 (some .boolean)) {q : Nat} (hq : z_is q 0)   (μ : zMem)  (hf : fX0_hasDish_13  K q  μ) : za_At p l e (z_rm 0 0) s m args below meth c (MQ below (zQi G K) args s 0 0 (zA G)) G 2 0 0 13 [] [] μ := by
  unfold fX0_hasDish_13 at hf
  refine za_iconst (v := (0 : Int32)) o dX0_hasDish_13 (by decide) ?_
  exact tX0_hasDish_14 o hq  (0 : Int32) μ  hf
set_option maxRecDepth 100000 in
set_option maxHeartbeats 4000000 in
theorem ctX0_hasDish (l : Launch) (G : zG) {q : Nat} (hq : z_is q 0) (a1 : Int32)  (μ : zMem) (K : Int32 → zMem → Prop) (hf : fX0_hasDish q a1 μ K) : z_Met l G yX0_hasDish cX0_hasDish 2 (some .boolean) (z_rm 0 0) [.ref (G.2.2 + q), .int a1] μ K := by
  refine z_body (by decide) (Nat.le_of_ble_eq_true rfl) (fun p e s m args below meth c o => ?_)
  have o : za_Ok (z_rm 0 0) 0 0 p s m args meth c G RX0 cX0_hasDish 2 (some .boolean) := o
  show za_At p l e (z_rm 0 0) s m args below meth c (MQ below (zQi G K) args s 0 0 (zA G)) G 2 0 0 0 [(0, .ref (G.2.2 + q)), (1, .int a1)] [] μ
  unfold fX0_hasDish at hf
  refine za_iload_n o 1 dX0_hasDish_0 rfl rfl ?_
  refine za_if_lt o 13 dX0_hasDish_1 (by decide) (fun c1 => ?_) (fun c1 => ?_)
  · replace hf := hf.1 c1
    refine za_sub [] rfl ?_
    exact tX0_hasDish_13 o hq   μ  hf
  · replace hf := hf.2 c1
    refine za_iload_n o 1 dX0_hasDish_4 rfl rfl ?_
    refine za_iconst (v := (3 : Int32)) o dX0_hasDish_5 (by decide) ?_
    refine za_icmp_ge o 13 dX0_hasDish_6 (by decide) (fun c2 => ?_) (fun c2 => ?_)
    · replace hf := hf.1 c2
      refine za_sub [] rfl ?_
      exact tX0_hasDish_13 o hq   μ  hf
    · replace hf := hf.2 c2
      refine za_iconst (v := (1 : Int32)) o dX0_hasDish_9 (by decide) ?_
      refine za_goto o 14 dX0_hasDish_10 (by decide) ?_
      refine za_sub [] rfl ?_
      exact tX0_hasDish_14 o hq  (1 : Int32) μ  hf
def fX0_changePrice_17  (K : Int32 → zMem → Prop) (q : Nat)  (μ : zMem) : Prop :=
  K (-1 : Int32) μ
def fX0_changePrice_29  (K : Int32 → zMem → Prop) (q : Nat)  (μ : zMem) : Prop :=
  K (-2 : Int32) μ
def fX0_changePrice (q : Nat) (a1 : Int32) (a2 : Int32) (a3 : Int32) (μ : zMem) (K : Int32 → zMem → Prop) : Prop :=
  ((a1 < 0 → fX0_changePrice_17  K q  μ) ∧ (¬ a1 < 0 → (((5 : Int32) ≤ a1 → fX0_changePrice_17  K q  μ) ∧ (¬ (5 : Int32) ≤ a1 → fX0_hasDish q a2 μ (fun r3 m4 => ((¬ r3 = 0 → ((a3 < (1 : Int32) → fX0_changePrice_29  K q  m4) ∧ (¬ a3 < (1 : Int32) → ((a3 ≤ (3 : Int32) → (vp_in a2 3 ∧ (∀ q9 : Nat, q9 = (q + 3) + 43 + 2 * a2.toNatClampNeg → (vp_in a1 5 ∧ (∀ x11 : Int32, x11 = (m4 (q9 + 1) a1.toNatClampNeg) → (vp_in a2 3 ∧ (∀ q13 : Nat, q13 = (q + 3) + 43 + 2 * a2.toNatClampNeg → (vp_in a1 5 ∧ (∀ m15 : zMem, m15 = z_up m4 (q13 + 1) a1.toNatClampNeg a3 → K x11 m15))))))))) ∧ (¬ a3 ≤ (3 : Int32) → fX0_changePrice_29  K q  m4))))) ∧ (r3 = 0 → fX0_changePrice_17  K q  m4)))))))
set_option maxRecDepth 100000 in
set_option maxHeartbeats 4000000 in
theorem tX0_changePrice_17 {p : Program} {l : Launch} {e : Env} {s : State} {m : MethodId} {args : Array Value} {below : List Frame} {meth : Method} {c : Code} {G : zG}  {K : Int32 → zMem → Prop} (o : za_Ok (z_rm 1 21) 0 0 p s m args meth c G RX0 cX0_changePrice 5 (some .int)) {q : Nat} (hq : z_is q 0)   (μ : zMem)  (hf : fX0_changePrice_17  K q  μ) : za_At p l e (z_rm 1 21) s m args below meth c (MQ below (zQi G K) args s 0 0 (zA G)) G 5 0 0 17 [] [] μ := by
  unfold fX0_changePrice_17 at hf
  refine za_iconst (v := (-1 : Int32)) o dX0_changePrice_17 (by decide) ?_
  exact za_iret o rfl hf dX0_changePrice_18
set_option maxRecDepth 100000 in
set_option maxHeartbeats 4000000 in
theorem tX0_changePrice_29 {p : Program} {l : Launch} {e : Env} {s : State} {m : MethodId} {args : Array Value} {below : List Frame} {meth : Method} {c : Code} {G : zG}  {K : Int32 → zMem → Prop} (o : za_Ok (z_rm 1 21) 0 0 p s m args meth c G RX0 cX0_changePrice 5 (some .int)) {q : Nat} (hq : z_is q 0)   (μ : zMem)  (hf : fX0_changePrice_29  K q  μ) : za_At p l e (z_rm 1 21) s m args below meth c (MQ below (zQi G K) args s 0 0 (zA G)) G 5 0 0 29 [] [] μ := by
  unfold fX0_changePrice_29 at hf
  refine za_bipush (v := (-2 : Int32)) o dX0_changePrice_29 (by decide) ?_
  exact za_iret o rfl hf dX0_changePrice_31
set_option maxRecDepth 100000 in
set_option maxHeartbeats 4000000 in
theorem ctX0_changePrice (l : Launch) (G : zG) {q : Nat} (hq : z_is q 0) (a1 : Int32) (a2 : Int32) (a3 : Int32)  (μ : zMem) (K : Int32 → zMem → Prop) (hf : fX0_changePrice q a1 a2 a3 μ K) : z_Met l G yX0_changePrice cX0_changePrice 5 (some .int) (z_rm 1 21) [.ref (G.2.2 + q), .int a1, .int a2, .int a3] μ K := by
  refine z_body (by decide) (Nat.le_of_ble_eq_true rfl) (fun p e s m args below meth c o => ?_)
  have o : za_Ok (z_rm 1 21) 0 0 p s m args meth c G RX0 cX0_changePrice 5 (some .int) := o
  show za_At p l e (z_rm 1 21) s m args below meth c (MQ below (zQi G K) args s 0 0 (zA G)) G 5 0 0 0 [(0, .ref (G.2.2 + q)), (1, .int a1), (2, .int a2), (3, .int a3)] [] μ
  unfold fX0_changePrice at hf
  refine za_iload_n o 1 dX0_changePrice_0 rfl rfl ?_
  refine za_if_lt o 17 dX0_changePrice_1 (by decide) (fun c1 => ?_) (fun c1 => ?_)
  · replace hf := hf.1 c1
    refine za_sub [] rfl ?_
    exact tX0_changePrice_17 o hq   μ  hf
  · replace hf := hf.2 c1
    refine za_iload_n o 1 dX0_changePrice_4 rfl rfl ?_
    refine za_iconst (v := (5 : Int32)) o dX0_changePrice_5 (by decide) ?_
    refine za_icmp_ge o 17 dX0_changePrice_6 (by decide) (fun c2 => ?_) (fun c2 => ?_)
    · replace hf := hf.1 c2
      refine za_sub [] rfl ?_
      exact tX0_changePrice_17 o hq   μ  hf
    · replace hf := hf.2 c2
      refine za_aload_n o 0 dX0_changePrice_9 rfl rfl ?_
      refine za_iload_n o 2 dX0_changePrice_10 rfl rfl ?_
      refine za_callVi o [.int a2] (ctX0_hasDish l G hq a2  μ _ hf) zc0 hq mwX0_hasDish wmX0_62 wiX0_hasDish wsX0_hasDish rfl ⟨Nat.le_of_ble_eq_true rfl, Nat.le_of_ble_eq_true rfl⟩ rfl (Nat.le_of_ble_eq_true rfl) dX0_changePrice_11 (fun r3 m4 hf => ?_)
      refine za_if_ne o 19 dX0_changePrice_14 (by decide) (fun c5 => ?_) (fun c5 => ?_)
      · replace hf := hf.1 c5
        refine za_iload_n o 3 dX0_changePrice_19 rfl rfl ?_
        refine za_iconst (v := (1 : Int32)) o dX0_changePrice_20 (by decide) ?_
        refine za_icmp_lt o 29 dX0_changePrice_21 (by decide) (fun c6 => ?_) (fun c6 => ?_)
        · replace hf := hf.1 c6
          refine za_sub [] rfl ?_
          exact tX0_changePrice_29 o hq   m4  hf
        · replace hf := hf.2 c6
          refine za_iload_n o 3 dX0_changePrice_24 rfl rfl ?_
          refine za_iconst (v := (3 : Int32)) o dX0_changePrice_25 (by decide) ?_
          refine za_icmp_le o 32 dX0_changePrice_26 (by decide) (fun c7 => ?_) (fun c7 => ?_)
          · replace hf := hf.1 c7
            refine za_aload_n o 0 dX0_changePrice_32 rfl rfl ?_
            refine za_getf o 2 zc0 hq (Nat.le_of_ble_eq_true rfl) wfX0_23 rfl dX0_changePrice_33 ?_
            refine za_iload_n o 2 dX0_changePrice_36 rfl rfl ?_
            obtain ⟨g8, hf⟩ := hf
            refine za_aald o (zk_0_11 hq) rfl rfl rfl g8 dX0_changePrice_37 ?_
            refine za_topr (fun q9 eq9 => ?_)
            replace hf := hf q9 eq9
            have hq9 : z_is q9 1 := by rw [eq9]; exact zk_a11 (zk_0_11 hq) (z_lt g8)
            refine za_getfN o 0 "CanteenPlates" zc1 hq9 (Nat.le_of_ble_eq_true rfl) wnX0_53 rfl dX0_changePrice_38 ?_
            refine za_iload_n o 1 dX0_changePrice_41 rfl rfl ?_
            obtain ⟨g10, hf⟩ := hf
            refine za_iald o (zk_1_12 hq9) rfl g10 dX0_changePrice_42 ?_
            refine za_topi (fun x11 ex11 => ?_)
            replace hf := hf x11 ex11
            refine za_istore o [(4, .int x11), (0, .ref (G.2.2 + q)), (1, .int a1), (2, .int a2), (3, .int a3)] dX0_changePrice_43 (by decide) rfl ?_
            refine za_aload_n o 1 dX0_changePrice_45 rfl rfl ?_
            refine za_getf o 2 zc0 hq (Nat.le_of_ble_eq_true rfl) wfX0_23 rfl dX0_changePrice_46 ?_
            refine za_iload_n o 3 dX0_changePrice_49 rfl rfl ?_
            obtain ⟨g12, hf⟩ := hf
            refine za_aald o (zk_0_11 hq) rfl rfl rfl g12 dX0_changePrice_50 ?_
            refine za_topr (fun q13 eq13 => ?_)
            replace hf := hf q13 eq13
            have hq13 : z_is q13 1 := by rw [eq13]; exact zk_a11 (zk_0_11 hq) (z_lt g12)
            refine za_getfN o 0 "CanteenPlates" zc1 hq13 (Nat.le_of_ble_eq_true rfl) wnX0_53 rfl dX0_changePrice_51 ?_
            refine za_iload_n o 2 dX0_changePrice_54 rfl rfl ?_
            refine za_iload_n o 4 dX0_changePrice_55 rfl rfl ?_
            obtain ⟨g14, hf⟩ := hf
            refine za_iast o (zk_1_12 hq13) rfl g14 dX0_changePrice_56 ?_
            refine za_mem (fun m15 em15 => ?_)
            replace hf := hf m15 em15
            refine za_iload o 0 dX0_changePrice_57 rfl ?_
            exact za_iret o rfl hf dX0_changePrice_59
          · replace hf := hf.2 c7
            refine za_sub [] rfl ?_
            exact tX0_changePrice_29 o hq   m4  hf
      · replace hf := hf.2 c5
        refine za_sub [] rfl ?_
        exact tX0_changePrice_17 o hq   m4  hf
def fX7_price (q : Nat) (a1 : Int32) (a2 : Int32) (a3 : Int32) (μ : zMem) (K : Int32 → zMem → Prop) : Prop :=
  fX2_note 53 1 μ (fun m2 => fX0_changePrice 1 a1 a2 a3 m2 (fun r3 m4 => fX2_keep 53 r3 m4 (fun r5 m6 => K r5 m6)))
set_option maxRecDepth 100000 in
set_option maxHeartbeats 4000000 in
theorem ctX7_price (l : Launch) (G : zG) {q : Nat} (hq : z_is q 7) (a1 : Int32) (a2 : Int32) (a3 : Int32)  (μ : zMem) (K : Int32 → zMem → Prop) (hf : fX7_price q a1 a2 a3 μ K) : z_Met l G yX7_price cX7_price 4 (some .int) (z_rm 4 99) [.ref (G.2.2 + q), .int a1, .int a2, .int a3] μ K := by
  refine z_body (by decide) (Nat.le_of_ble_eq_true rfl) (fun p e s m args below meth c o => ?_)
  have o : za_Ok (z_rm 4 99) 0 0 p s m args meth c G RX7 cX7_price 4 (some .int) := o
  show za_At p l e (z_rm 4 99) s m args below meth c (MQ below (zQi G K) args s 0 0 (zA G)) G 4 0 0 0 [(0, .ref (G.2.2 + q)), (1, .int a1), (2, .int a2), (3, .int a3)] [] μ
  unfold fX7_price at hf
  refine za_aload_n o 0 dX7_price_0 rfl rfl ?_
  refine za_getf o 1 zc7 hq (Nat.le_of_ble_eq_true rfl) wfX7_19 rfl dX7_price_1 ?_
  refine za_aload_n o 0 dX7_price_4 rfl rfl ?_
  refine za_getf o 0 zc7 hq (Nat.le_of_ble_eq_true rfl) wfX7_10 rfl dX7_price_5 ?_
  refine za_callVv o [.ref (G.2.2 + 1)] (ctX2_note l G zk_c2 1 zk_c0 μ _ hf) zc2 zk_c2 mwX2_note wmX7_46 wiX2_note wsX2_note rfl ⟨Nat.le_of_ble_eq_true rfl, Nat.le_of_ble_eq_true rfl⟩ rfl (Nat.le_of_ble_eq_true rfl) dX7_price_8 (fun m2 hf => ?_)
  refine za_aload_n o 0 dX7_price_11 rfl rfl ?_
  refine za_getf o 1 zc7 hq (Nat.le_of_ble_eq_true rfl) wfX7_19 rfl dX7_price_12 ?_
  refine za_aload_n o 0 dX7_price_15 rfl rfl ?_
  refine za_getf o 0 zc7 hq (Nat.le_of_ble_eq_true rfl) wfX7_10 rfl dX7_price_16 ?_
  refine za_iload_n o 1 dX7_price_19 rfl rfl ?_
  refine za_iload_n o 2 dX7_price_20 rfl rfl ?_
  refine za_iload_n o 3 dX7_price_21 rfl rfl ?_
  refine za_callVi o [.int a1, .int a2, .int a3] (ctX0_changePrice l G zk_c0 a1 a2 a3  m2 _ hf) zc0 zk_c0 mwX0_changePrice wmX7_58 wiX0_changePrice wsX0_changePrice rfl ⟨Nat.le_of_ble_eq_true rfl, Nat.le_of_ble_eq_true rfl⟩ rfl (Nat.le_of_ble_eq_true rfl) dX7_price_22 (fun r3 m4 hf => ?_)
  refine za_callVi o [.int r3] (ctX2_keep l G zk_c2 r3  m4 _ hf) zc2 zk_c2 mwX2_keep wmX7_54 wiX2_keep wsX2_keep rfl ⟨Nat.le_of_ble_eq_true rfl, Nat.le_of_ble_eq_true rfl⟩ rfl (Nat.le_of_ble_eq_true rfl) dX7_price_25 (fun r5 m6 hf => ?_)
  exact za_iret o rfl hf dX7_price_28
def fX5_start_2b (k2 : Int32 → zMem → Prop) (K : zMem → Prop) (q : Nat) (v1 : Int32) (μ : zMem) : Prop :=
  (((5 : Int32) ≤ v1 → (∀ m2 : zMem, m2 = z_up μ q 2 (5 : Int32) → (∀ m3 : zMem, m3 = z_up m2 q 3 (0 : Int32) → (∀ m4 : zMem, m4 = z_up m3 q 4 (0 : Int32) → (∀ m5 : zMem, m5 = z_up m4 q 5 (0 : Int32) → (∀ m6 : zMem, m6 = z_up m5 q 6 (0 : Int32) → (∀ m7 : zMem, m7 = z_up m6 q 7 (0 : Int32) → (∀ m8 : zMem, m8 = z_up m7 q 8 (0 : Int32) → K m8)))))))) ∧ (¬ (5 : Int32) ≤ v1 → (vp_in v1 5 ∧ (∀ m10 : zMem, m10 = z_up μ (q + 1) v1.toNatClampNeg (-6 : Int32) → (vp_in v1 5 ∧ (∀ m12 : zMem, m12 = z_up m10 (q + 2) v1.toNatClampNeg (0 : Int32) → (∀ x13 : Int32, x13 = v1 + (1 : Int32) → k2 x13 m12)))))))
def fX5_start_2  (K : zMem → Prop) (q : Nat) (n : Nat) : Int32 → zMem → Prop := z_it (fun k => fX5_start_2b  k K q ) (fun _ _ => False) n
def fX5_start (q : Nat)  (μ : zMem) (K : zMem → Prop) : Prop :=
  fX5_start_2  K q zFU (0 : Int32) μ
set_option maxRecDepth 100000 in
set_option maxHeartbeats 4000000 in
theorem tX5_start_2b {p : Program} {l : Launch} {e : Env} {s : State} {m : MethodId} {args : Array Value} {below : List Frame} {meth : Method} {c : Code} {G : zG} {k2 : Int32 → zMem → Prop} {K : zMem → Prop} (o : za_Ok (z_rm 0 0) 0 0 p s m args meth c G RX5 cX5_start 2 none) {q : Nat} (hq : z_is q 5) (hk2 : ∀ (v1 : Int32) (μ : zMem), k2 v1 μ → za_At p l e (z_rm 0 0) s m args below meth c (MQ below (zQv G K) args s 0 0 (zA G)) G 2 0 0 2 [(0, .ref (G.2.2 + q)), (1, .int v1)] [] μ) (v1 : Int32) (μ : zMem)  (hf : fX5_start_2b k2 K q v1 μ) : za_At p l e (z_rm 0 0) s m args below meth c (MQ below (zQv G K) args s 0 0 (zA G)) G 2 0 0 2 [(0, .ref (G.2.2 + q)), (1, .int v1)] [] μ := by
  unfold fX5_start_2b at hf
  refine za_iload_n o 1 dX5_start_2 rfl rfl ?_
  refine za_iconst (v := (5 : Int32)) o dX5_start_3 (by decide) ?_
  refine za_icmp_ge o 28 dX5_start_4 (by decide) (fun c1 => ?_) (fun c1 => ?_)
  · replace hf := hf.1 c1
    refine za_aload_n o 0 dX5_start_28 rfl rfl ?_
    refine za_iconst (v := (5 : Int32)) o dX5_start_29 (by decide) ?_
    refine za_putf (ty := .int) o 2 zc5 hq (Nat.le_of_ble_eq_true rfl) wfX5_18 rfl (by decide +kernel) rfl rfl (Nat.le_of_ble_eq_true rfl) rfl dX5_start_30 ?_
    refine za_mem (fun m2 em2 => ?_)
    replace hf := hf m2 em2
    refine za_aload_n o 0 dX5_start_33 rfl rfl ?_
    refine za_iconst (v := (0 : Int32)) o dX5_start_34 (by decide) ?_
    refine za_putf (ty := .int) o 3 zc5 hq (Nat.le_of_ble_eq_true rfl) wfX5_22 rfl (by decide +kernel) rfl rfl (Nat.le_of_ble_eq_true rfl) rfl dX5_start_35 ?_
    refine za_mem (fun m3 em3 => ?_)
    replace hf := hf m3 em3
    refine za_aload_n o 0 dX5_start_38 rfl rfl ?_
    refine za_iconst (v := (0 : Int32)) o dX5_start_39 (by decide) ?_
    refine za_putf (ty := .int) o 4 zc5 hq (Nat.le_of_ble_eq_true rfl) wfX5_25 rfl (by decide +kernel) rfl rfl (Nat.le_of_ble_eq_true rfl) rfl dX5_start_40 ?_
    refine za_mem (fun m4 em4 => ?_)
    replace hf := hf m4 em4
    refine za_aload_n o 0 dX5_start_43 rfl rfl ?_
    refine za_iconst (v := (0 : Int32)) o dX5_start_44 (by decide) ?_
    refine za_putf (ty := .int) o 5 zc5 hq (Nat.le_of_ble_eq_true rfl) wfX5_28 rfl (by decide +kernel) rfl rfl (Nat.le_of_ble_eq_true rfl) rfl dX5_start_45 ?_
    refine za_mem (fun m5 em5 => ?_)
    replace hf := hf m5 em5
    refine za_aload_n o 0 dX5_start_48 rfl rfl ?_
    refine za_iconst (v := (0 : Int32)) o dX5_start_49 (by decide) ?_
    refine za_putf (ty := .int) o 6 zc5 hq (Nat.le_of_ble_eq_true rfl) wfX5_31 rfl (by decide +kernel) rfl rfl (Nat.le_of_ble_eq_true rfl) rfl dX5_start_50 ?_
    refine za_mem (fun m6 em6 => ?_)
    replace hf := hf m6 em6
    refine za_aload_n o 0 dX5_start_53 rfl rfl ?_
    refine za_iconst (v := (0 : Int32)) o dX5_start_54 (by decide) ?_
    refine za_putf (ty := .int) o 7 zc5 hq (Nat.le_of_ble_eq_true rfl) wfX5_34 rfl (by decide +kernel) rfl rfl (Nat.le_of_ble_eq_true rfl) rfl dX5_start_55 ?_
    refine za_mem (fun m7 em7 => ?_)
    replace hf := hf m7 em7
    refine za_aload_n o 0 dX5_start_58 rfl rfl ?_
    refine za_iconst (v := (0 : Int32)) o dX5_start_59 (by decide) ?_
    refine za_putf (ty := .boolean) o 8 zc5 hq (Nat.le_of_ble_eq_true rfl) wfX5_37 rfl (by decide +kernel) (z_bn z_b0) (z_bfit z_b0) (Nat.le_of_ble_eq_true rfl) rfl dX5_start_60 ?_
    refine za_mem (fun m8 em8 => ?_)
    replace hf := hf m8 em8
    exact za_vret o rfl hf dX5_start_63
  · replace hf := hf.2 c1
    refine za_aload_n o 0 dX5_start_7 rfl rfl ?_
    refine za_getf o 0 zc5 hq (Nat.le_of_ble_eq_true rfl) wfX5_9 rfl dX5_start_8 ?_
    refine za_iload_n o 1 dX5_start_11 rfl rfl ?_
    refine za_bipush (v := (-6 : Int32)) o dX5_start_12 (by decide) ?_
    obtain ⟨g9, hf⟩ := hf
    refine za_iast o (zk_5_12 hq) rfl g9 dX5_start_14 ?_
    refine za_mem (fun m10 em10 => ?_)
    replace hf := hf m10 em10
    refine za_aload_n o 0 dX5_start_15 rfl rfl ?_
    refine za_getf o 1 zc5 hq (Nat.le_of_ble_eq_true rfl) wfX5_15 rfl dX5_start_16 ?_
    refine za_iload_n o 1 dX5_start_19 rfl rfl ?_
    refine za_iconst (v := (0 : Int32)) o dX5_start_20 (by decide) ?_
    obtain ⟨g11, hf⟩ := hf
    refine za_iast o (zk_5_12b hq) rfl g11 dX5_start_21 ?_
    refine za_mem (fun m12 em12 => ?_)
    replace hf := hf m12 em12
    obtain ⟨x13, ex13⟩ : ∃ y : Int32, y = v1 + (1 : Int32) := ⟨_, rfl⟩
    replace hf := hf x13 ex13
    refine za_iinc o x13 1 [(1, .int x13), (0, .ref (G.2.2 + q))] dX5_start_22 rfl (by rw [ex13]; rfl) (by decide) rfl ?_
    refine za_goto o 2 dX5_start_25 (by decide) ?_
    refine za_sub [1, 0] rfl ?_
    exact hk2 x13 m12  hf
theorem tX5_start_2 {p : Program} {l : Launch} {e : Env} {s : State} {m : MethodId} {args : Array Value} {below : List Frame} {meth : Method} {c : Code} {G : zG}  {K : zMem → Prop} (o : za_Ok (z_rm 0 0) 0 0 p s m args meth c G RX5 cX5_start 2 none) {q : Nat} (hq : z_is q 5)  (n : Nat) : ∀ (v1 : Int32) (μ : zMem), fX5_start_2  K q n v1 μ → za_At p l e (z_rm 0 0) s m args below meth c (MQ below (zQv G K) args s 0 0 (zA G)) G 2 0 0 2 [(0, .ref (G.2.2 + q)), (1, .int v1)] [] μ := by
  induction n with
  | zero => intro _ _ hf; exact hf.elim
  | succ n ih => intro v1 μ  hf; exact tX5_start_2b o hq  ih v1 μ  hf
set_option maxRecDepth 100000 in
set_option maxHeartbeats 4000000 in
theorem ctX5_start (l : Launch) (G : zG) {q : Nat} (hq : z_is q 5)   (μ : zMem) (K : zMem → Prop) (hf : fX5_start q  μ K) : z_MetV l G yX5_start cX5_start 2 none (z_rm 0 0) [.ref (G.2.2 + q)] μ K := by
  refine z_body (by decide) (Nat.le_of_ble_eq_true rfl) (fun p e s m args below meth c o => ?_)
  have o : za_Ok (z_rm 0 0) 0 0 p s m args meth c G RX5 cX5_start 2 none := o
  show za_At p l e (z_rm 0 0) s m args below meth c (MQ below (zQv G K) args s 0 0 (zA G)) G 2 0 0 0 [(0, .ref (G.2.2 + q))] [] μ
  unfold fX5_start at hf
  refine za_iconst (v := (0 : Int32)) o dX5_start_0 (by decide) ?_
  refine za_istore_n o [(1, .int (0 : Int32)), (0, .ref (G.2.2 + q))] dX5_start_1 rfl (by decide) rfl ?_
  refine za_sub [1, 0] rfl ?_
  exact tX5_start_2 o hq  zFU (0 : Int32) μ  hf
def fX0_addPerson (q : Nat)  (μ : zMem) (K : Int32 → zMem → Prop) : Prop :=
  (((μ q 3) < (14 : Int32) → (vp_in (μ q 3) 14 ∧ (∀ q3 : Nat, q3 = (q + 2) + 2 + 3 * ((μ q 3)).toNatClampNeg → fX5_start q3  μ (fun m5 => (∀ x6 : Int32, x6 = ((m5 q 3) + (1 : Int32)) → (∀ m7 : zMem, m7 = z_up m5 q 3 x6 → (∀ x8 : Int32, x8 = ((m7 q 3) - (1 : Int32)) → K x8 m7))))))) ∧ (¬ (μ q 3) < (14 : Int32) → K (-4 : Int32) μ))
set_option maxRecDepth 100000 in
set_option maxHeartbeats 4000000 in
theorem ctX0_addPerson (l : Launch) (G : zG) {q : Nat} (hq : z_is q 0)   (μ : zMem) (K : Int32 → zMem → Prop) (hf : fX0_addPerson q  μ K) : z_Met l G yX0_addPerson cX0_addPerson 1 (some .int) (z_rm 1 21) [.ref (G.2.2 + q)] μ K := by
  refine z_body (by decide) (Nat.le_of_ble_eq_true rfl) (fun p e s m args below meth c o => ?_)
  have o : za_Ok (z_rm 1 21) 0 0 p s m args meth c G RX0 cX0_addPerson 1 (some .int) := o
  show za_At p l e (z_rm 1 21) s m args below meth c (MQ below (zQi G K) args s 0 0 (zA G)) G 1 0 0 0 [(0, .ref (G.2.2 + q))] [] μ
  unfold fX0_addPerson at hf
  refine za_aload_n o 0 dX0_addPerson_0 rfl rfl ?_
  refine za_getf o 3 zc0 hq (Nat.le_of_ble_eq_true rfl) wfX0_39 rfl dX0_addPerson_1 ?_
  refine za_bipush (v := (14 : Int32)) o dX0_addPerson_4 (by decide) ?_
  refine za_icmp_lt o 12 dX0_addPerson_6 (by decide) (fun c1 => ?_) (fun c1 => ?_)
  · replace hf := hf.1 c1
    refine za_aload_n o 0 dX0_addPerson_12 rfl rfl ?_
    refine za_getf o 1 zc0 hq (Nat.le_of_ble_eq_true rfl) wfX0_17 rfl dX0_addPerson_13 ?_
    refine za_aload_n o 0 dX0_addPerson_16 rfl rfl ?_
    refine za_getf o 3 zc0 hq (Nat.le_of_ble_eq_true rfl) wfX0_39 rfl dX0_addPerson_17 ?_
    obtain ⟨g2, hf⟩ := hf
    refine za_aald o (zk_0_10 hq) rfl rfl rfl g2 dX0_addPerson_20 ?_
    refine za_topr (fun q3 eq3 => ?_)
    replace hf := hf q3 eq3
    have hq3 : z_is q3 5 := by rw [eq3]; exact zk_a10 (zk_0_10 hq) (z_lt g2)
    refine za_callVv o [] (ctX5_start l G hq3   μ _ hf) zc5 hq3 mwX5_start wmX0_66 wiX5_start wsX5_start rfl ⟨Nat.le_of_ble_eq_true rfl, Nat.le_of_ble_eq_true rfl⟩ rfl (Nat.le_of_ble_eq_true rfl) dX0_addPerson_21 (fun m5 hf => ?_)
    refine za_aload_n o 0 dX0_addPerson_24 rfl rfl ?_
    refine za_dup o dX0_addPerson_25 rfl ?_
    refine za_getf o 3 zc0 hq (Nat.le_of_ble_eq_true rfl) wfX0_39 rfl dX0_addPerson_26 ?_
    refine za_iconst (v := (1 : Int32)) o dX0_addPerson_29 (by decide) ?_
    refine za_iadd o dX0_addPerson_30 ?_
    refine za_topi (fun x6 ex6 => ?_)
    replace hf := hf x6 ex6
    refine za_putf (ty := .int) o 3 zc0 hq (Nat.le_of_ble_eq_true rfl) wfX0_39 rfl (by decide +kernel) rfl rfl (Nat.le_of_ble_eq_true rfl) rfl dX0_addPerson_31 ?_
    refine za_mem (fun m7 em7 => ?_)
    replace hf := hf m7 em7
    refine za_aload_n o 0 dX0_addPerson_34 rfl rfl ?_
    refine za_getf o 3 zc0 hq (Nat.le_of_ble_eq_true rfl) wfX0_39 rfl dX0_addPerson_35 ?_
    refine za_iconst (v := (1 : Int32)) o dX0_addPerson_38 (by decide) ?_
    refine za_isub o dX0_addPerson_39 ?_
    refine za_topi (fun x8 ex8 => ?_)
    replace hf := hf x8 ex8
    exact za_iret o rfl hf dX0_addPerson_40
  · replace hf := hf.2 c1
    refine za_bipush (v := (-4 : Int32)) o dX0_addPerson_9 (by decide) ?_
    exact za_iret o rfl hf dX0_addPerson_11
def fX7_person (q : Nat)  (μ : zMem) (K : Int32 → zMem → Prop) : Prop :=
  fX2_note 53 1 μ (fun m2 => fX0_addPerson 1  m2 (fun r3 m4 => fX2_keep 53 r3 m4 (fun r5 m6 => K r5 m6)))
set_option maxRecDepth 100000 in
set_option maxHeartbeats 4000000 in
theorem ctX7_person (l : Launch) (G : zG) {q : Nat} (hq : z_is q 7)   (μ : zMem) (K : Int32 → zMem → Prop) (hf : fX7_person q  μ K) : z_Met l G yX7_person cX7_person 1 (some .int) (z_rm 4 99) [.ref (G.2.2 + q)] μ K := by
  refine z_body (by decide) (Nat.le_of_ble_eq_true rfl) (fun p e s m args below meth c o => ?_)
  have o : za_Ok (z_rm 4 99) 0 0 p s m args meth c G RX7 cX7_person 1 (some .int) := o
  show za_At p l e (z_rm 4 99) s m args below meth c (MQ below (zQi G K) args s 0 0 (zA G)) G 1 0 0 0 [(0, .ref (G.2.2 + q))] [] μ
  unfold fX7_person at hf
  refine za_aload_n o 0 dX7_person_0 rfl rfl ?_
  refine za_getf o 1 zc7 hq (Nat.le_of_ble_eq_true rfl) wfX7_19 rfl dX7_person_1 ?_
  refine za_aload_n o 0 dX7_person_4 rfl rfl ?_
  refine za_getf o 0 zc7 hq (Nat.le_of_ble_eq_true rfl) wfX7_10 rfl dX7_person_5 ?_
  refine za_callVv o [.ref (G.2.2 + 1)] (ctX2_note l G zk_c2 1 zk_c0 μ _ hf) zc2 zk_c2 mwX2_note wmX7_46 wiX2_note wsX2_note rfl ⟨Nat.le_of_ble_eq_true rfl, Nat.le_of_ble_eq_true rfl⟩ rfl (Nat.le_of_ble_eq_true rfl) dX7_person_8 (fun m2 hf => ?_)
  refine za_aload_n o 0 dX7_person_11 rfl rfl ?_
  refine za_getf o 1 zc7 hq (Nat.le_of_ble_eq_true rfl) wfX7_19 rfl dX7_person_12 ?_
  refine za_aload_n o 0 dX7_person_15 rfl rfl ?_
  refine za_getf o 0 zc7 hq (Nat.le_of_ble_eq_true rfl) wfX7_10 rfl dX7_person_16 ?_
  refine za_callVi o [] (ctX0_addPerson l G zk_c0   m2 _ hf) zc0 zk_c0 mwX0_addPerson wmX7_62 wiX0_addPerson wsX0_addPerson rfl ⟨Nat.le_of_ble_eq_true rfl, Nat.le_of_ble_eq_true rfl⟩ rfl (Nat.le_of_ble_eq_true rfl) dX7_person_19 (fun r3 m4 hf => ?_)
  refine za_callVi o [.int r3] (ctX2_keep l G zk_c2 r3  m4 _ hf) zc2 zk_c2 mwX2_keep wmX7_54 wiX2_keep wsX2_keep rfl ⟨Nat.le_of_ble_eq_true rfl, Nat.le_of_ble_eq_true rfl⟩ rfl (Nat.le_of_ble_eq_true rfl) dX7_person_22 (fun r5 m6 hf => ?_)
  exact za_iret o rfl hf dX7_person_25
def fX0_hasPerson_17  (K : Int32 → zMem → Prop) (q : Nat) (v1 : Int32) (μ : zMem) : Prop :=
  (z_b v1 ∧ K v1 μ)
def fX0_hasPerson_16  (K : Int32 → zMem → Prop) (q : Nat)  (μ : zMem) : Prop :=
  fX0_hasPerson_17  K q (0 : Int32) μ
def fX0_hasPerson (q : Nat) (a1 : Int32) (μ : zMem) (K : Int32 → zMem → Prop) : Prop :=
  ((a1 < 0 → fX0_hasPerson_16  K q  μ) ∧ (¬ a1 < 0 → (((μ q 3) ≤ a1 → fX0_hasPerson_16  K q  μ) ∧ (¬ (μ q 3) ≤ a1 → fX0_hasPerson_17  K q (1 : Int32) μ))))
set_option maxRecDepth 100000 in
set_option maxHeartbeats 4000000 in
theorem tX0_hasPerson_17 {p : Program} {l : Launch} {e : Env} {s : State} {m : MethodId} {args : Array Value} {below : List Frame} {meth : Method} {c : Code} {G : zG}  {K : Int32 → zMem → Prop} (o : za_Ok (z_rm 0 0) 0 0 p s m args meth c G RX0 cX0_hasPerson 2 (some .boolean)) {q : Nat} (hq : z_is q 0)  (v1 : Int32) (μ : zMem)  (hf : fX0_hasPerson_17  K q v1 μ) : za_At p l e (z_rm 0 0) s m args below meth c (MQ below (zQi G K) args s 0 0 (zA G)) G 2 0 0 17 [] [.int v1] μ := by
  unfold fX0_hasPerson_17 at hf
  exact za_zret o rfl hf.1 hf.2 dX0_hasPerson_17
set_option maxRecDepth 100000 in
set_option maxHeartbeats 4000000 in
theorem tX0_hasPerson_16 {p : Program} {l : Launch} {e : Env} {s : State} {m : MethodId} {args : Array Value} {below : List Frame} {meth : Method} {c : Code} {G : zG}  {K : Int32 → zMem → Prop} (o : za_Ok (z_rm 0 0) 0 0 p s m args meth c G RX0 cX0_hasPerson 2 (some .boolean)) {q : Nat} (hq : z_is q 0)   (μ : zMem)  (hf : fX0_hasPerson_16  K q  μ) : za_At p l e (z_rm 0 0) s m args below meth c (MQ below (zQi G K) args s 0 0 (zA G)) G 2 0 0 16 [] [] μ := by
  unfold fX0_hasPerson_16 at hf
  refine za_iconst (v := (0 : Int32)) o dX0_hasPerson_16 (by decide) ?_
  exact tX0_hasPerson_17 o hq  (0 : Int32) μ  hf
set_option maxRecDepth 100000 in
set_option maxHeartbeats 4000000 in
theorem ctX0_hasPerson (l : Launch) (G : zG) {q : Nat} (hq : z_is q 0) (a1 : Int32)  (μ : zMem) (K : Int32 → zMem → Prop) (hf : fX0_hasPerson q a1 μ K) : z_Met l G yX0_hasPerson cX0_hasPerson 2 (some .boolean) (z_rm 0 0) [.ref (G.2.2 + q), .int a1] μ K := by
  refine z_body (by decide) (Nat.le_of_ble_eq_true rfl) (fun p e s m args below meth c o => ?_)
  have o : za_Ok (z_rm 0 0) 0 0 p s m args meth c G RX0 cX0_hasPerson 2 (some .boolean) := o
  show za_At p l e (z_rm 0 0) s m args below meth c (MQ below (zQi G K) args s 0 0 (zA G)) G 2 0 0 0 [(0, .ref (G.2.2 + q)), (1, .int a1)] [] μ
  unfold fX0_hasPerson at hf
  refine za_iload_n o 1 dX0_hasPerson_0 rfl rfl ?_
  refine za_if_lt o 16 dX0_hasPerson_1 (by decide) (fun c1 => ?_) (fun c1 => ?_)
  · replace hf := hf.1 c1
    refine za_sub [] rfl ?_
    exact tX0_hasPerson_16 o hq   μ  hf
  · replace hf := hf.2 c1
    refine za_iload_n o 1 dX0_hasPerson_4 rfl rfl ?_
    refine za_aload_n o 0 dX0_hasPerson_5 rfl rfl ?_
    refine za_getf o 3 zc0 hq (Nat.le_of_ble_eq_true rfl) wfX0_39 rfl dX0_hasPerson_6 ?_
    refine za_icmp_ge o 16 dX0_hasPerson_9 (by decide) (fun c2 => ?_) (fun c2 => ?_)
    · replace hf := hf.1 c2
      refine za_sub [] rfl ?_
      exact tX0_hasPerson_16 o hq   μ  hf
    · replace hf := hf.2 c2
      refine za_iconst (v := (1 : Int32)) o dX0_hasPerson_12 (by decide) ?_
      refine za_goto o 17 dX0_hasPerson_13 (by decide) ?_
      refine za_sub [] rfl ?_
      exact tX0_hasPerson_17 o hq  (1 : Int32) μ  hf
def fX5_receive (q : Nat) (a1 : Int32) (μ : zMem) (K : Int32 → zMem → Prop) : Prop :=
  (∀ x1 : Int32, x1 = ((μ q 2) + a1) → (∀ x2 : Int32, x2 = (z_min (30 : Int32) x1) → (∀ m3 : zMem, m3 = z_up μ q 2 x2 → K (m3 q 2) m3)))
set_option maxRecDepth 100000 in
set_option maxHeartbeats 4000000 in
theorem ctX5_receive (l : Launch) (G : zG) {q : Nat} (hq : z_is q 5) (a1 : Int32)  (μ : zMem) (K : Int32 → zMem → Prop) (hf : fX5_receive q a1 μ K) : z_Met l G yX5_receive cX5_receive 2 (some .int) (z_rm 1 21) [.ref (G.2.2 + q), .int a1] μ K := by
  refine z_body (by decide) (Nat.le_of_ble_eq_true rfl) (fun p e s m args below meth c o => ?_)
  have o : za_Ok (z_rm 1 21) 0 0 p s m args meth c G RX5 cX5_receive 2 (some .int) := o
  show za_At p l e (z_rm 1 21) s m args below meth c (MQ below (zQi G K) args s 0 0 (zA G)) G 2 0 0 0 [(0, .ref (G.2.2 + q)), (1, .int a1)] [] μ
  unfold fX5_receive at hf
  refine za_aload_n o 0 dX5_receive_0 rfl rfl ?_
  refine za_bipush (v := (30 : Int32)) o dX5_receive_1 (by decide) ?_
  refine za_aload_n o 0 dX5_receive_3 rfl rfl ?_
  refine za_getf o 2 zc5 hq (Nat.le_of_ble_eq_true rfl) wfX5_18 rfl dX5_receive_4 ?_
  refine za_iload_n o 1 dX5_receive_7 rfl rfl ?_
  refine za_iadd o dX5_receive_8 ?_
  refine za_topi (fun x1 ex1 => ?_)
  replace hf := hf x1 ex1
  refine za_min o wmX5_51 wt_min wc_Math wk_min (Nat.le_of_ble_eq_true rfl) (Nat.le_of_ble_eq_true rfl) dX5_receive_9 ?_
  refine za_topi (fun x2 ex2 => ?_)
  replace hf := hf x2 ex2
  refine za_putf (ty := .int) o 2 zc5 hq (Nat.le_of_ble_eq_true rfl) wfX5_18 rfl (by decide +kernel) rfl rfl (Nat.le_of_ble_eq_true rfl) rfl dX5_receive_12 ?_
  refine za_mem (fun m3 em3 => ?_)
  replace hf := hf m3 em3
  refine za_aload_n o 0 dX5_receive_15 rfl rfl ?_
  refine za_getf o 2 zc5 hq (Nat.le_of_ble_eq_true rfl) wfX5_18 rfl dX5_receive_16 ?_
  exact za_iret o rfl hf dX5_receive_19
def fX0_giveVouchers_21  (K : Int32 → zMem → Prop) (q : Nat)  (μ : zMem) : Prop :=
  K (-2 : Int32) μ
def fX0_giveVouchers (q : Nat) (a1 : Int32) (a2 : Int32) (μ : zMem) (K : Int32 → zMem → Prop) : Prop :=
  fX0_hasPerson q a1 μ (fun r1 m2 => ((¬ r1 = 0 → ((a2 < (1 : Int32) → fX0_giveVouchers_21  K q  m2) ∧ (¬ a2 < (1 : Int32) → ((a2 ≤ (30 : Int32) → (vp_in a1 14 ∧ (∀ q7 : Nat, q7 = (q + 2) + 2 + 3 * a1.toNatClampNeg → fX5_receive q7 a2 m2 (fun r8 m9 => K r8 m9)))) ∧ (¬ a2 ≤ (30 : Int32) → fX0_giveVouchers_21  K q  m2))))) ∧ (r1 = 0 → K (-1 : Int32) m2)))
set_option maxRecDepth 100000 in
set_option maxHeartbeats 4000000 in
theorem tX0_giveVouchers_21 {p : Program} {l : Launch} {e : Env} {s : State} {m : MethodId} {args : Array Value} {below : List Frame} {meth : Method} {c : Code} {G : zG}  {K : Int32 → zMem → Prop} (o : za_Ok (z_rm 2 42) 0 0 p s m args meth c G RX0 cX0_giveVouchers 3 (some .int)) {q : Nat} (hq : z_is q 0)   (μ : zMem)  (hf : fX0_giveVouchers_21  K q  μ) : za_At p l e (z_rm 2 42) s m args below meth c (MQ below (zQi G K) args s 0 0 (zA G)) G 3 0 0 21 [] [] μ := by
  unfold fX0_giveVouchers_21 at hf
  refine za_bipush (v := (-2 : Int32)) o dX0_giveVouchers_21 (by decide) ?_
  exact za_iret o rfl hf dX0_giveVouchers_23
set_option maxRecDepth 100000 in
set_option maxHeartbeats 4000000 in
theorem ctX0_giveVouchers (l : Launch) (G : zG) {q : Nat} (hq : z_is q 0) (a1 : Int32) (a2 : Int32)  (μ : zMem) (K : Int32 → zMem → Prop) (hf : fX0_giveVouchers q a1 a2 μ K) : z_Met l G yX0_giveVouchers cX0_giveVouchers 3 (some .int) (z_rm 2 42) [.ref (G.2.2 + q), .int a1, .int a2] μ K := by
  refine z_body (by decide) (Nat.le_of_ble_eq_true rfl) (fun p e s m args below meth c o => ?_)
  have o : za_Ok (z_rm 2 42) 0 0 p s m args meth c G RX0 cX0_giveVouchers 3 (some .int) := o
  show za_At p l e (z_rm 2 42) s m args below meth c (MQ below (zQi G K) args s 0 0 (zA G)) G 3 0 0 0 [(0, .ref (G.2.2 + q)), (1, .int a1), (2, .int a2)] [] μ
  unfold fX0_giveVouchers at hf
  refine za_aload_n o 0 dX0_giveVouchers_0 rfl rfl ?_
  refine za_iload_n o 1 dX0_giveVouchers_1 rfl rfl ?_
  refine za_callVi o [.int a1] (ctX0_hasPerson l G hq a1  μ _ hf) zc0 hq mwX0_hasPerson wmX0_69 wiX0_hasPerson wsX0_hasPerson rfl ⟨Nat.le_of_ble_eq_true rfl, Nat.le_of_ble_eq_true rfl⟩ rfl (Nat.le_of_ble_eq_true rfl) dX0_giveVouchers_2 (fun r1 m2 hf => ?_)
  refine za_if_ne o 10 dX0_giveVouchers_5 (by decide) (fun c3 => ?_) (fun c3 => ?_)
  · replace hf := hf.1 c3
    refine za_iload_n o 2 dX0_giveVouchers_10 rfl rfl ?_
    refine za_iconst (v := (1 : Int32)) o dX0_giveVouchers_11 (by decide) ?_
    refine za_icmp_lt o 21 dX0_giveVouchers_12 (by decide) (fun c4 => ?_) (fun c4 => ?_)
    · replace hf := hf.1 c4
      refine za_sub [] rfl ?_
      exact tX0_giveVouchers_21 o hq   m2  hf
    · replace hf := hf.2 c4
      refine za_iload_n o 2 dX0_giveVouchers_15 rfl rfl ?_
      refine za_bipush (v := (30 : Int32)) o dX0_giveVouchers_16 (by decide) ?_
      refine za_icmp_le o 24 dX0_giveVouchers_18 (by decide) (fun c5 => ?_) (fun c5 => ?_)
      · replace hf := hf.1 c5
        refine za_aload_n o 0 dX0_giveVouchers_24 rfl rfl ?_
        refine za_getf o 1 zc0 hq (Nat.le_of_ble_eq_true rfl) wfX0_17 rfl dX0_giveVouchers_25 ?_
        refine za_iload_n o 1 dX0_giveVouchers_28 rfl rfl ?_
        obtain ⟨g6, hf⟩ := hf
        refine za_aald o (zk_0_10 hq) rfl rfl rfl g6 dX0_giveVouchers_29 ?_
        refine za_topr (fun q7 eq7 => ?_)
        replace hf := hf q7 eq7
        have hq7 : z_is q7 5 := by rw [eq7]; exact zk_a10 (zk_0_10 hq) (z_lt g6)
        refine za_iload_n o 2 dX0_giveVouchers_30 rfl rfl ?_
        refine za_callVi o [.int a2] (ctX5_receive l G hq7 a2  m2 _ hf) zc5 hq7 mwX5_receive wmX0_72 wiX5_receive wsX5_receive rfl ⟨Nat.le_of_ble_eq_true rfl, Nat.le_of_ble_eq_true rfl⟩ rfl (Nat.le_of_ble_eq_true rfl) dX0_giveVouchers_31 (fun r8 m9 hf => ?_)
        exact za_iret o rfl hf dX0_giveVouchers_34
      · replace hf := hf.2 c5
        refine za_sub [] rfl ?_
        exact tX0_giveVouchers_21 o hq   m2  hf
  · replace hf := hf.2 c3
    refine za_iconst (v := (-1 : Int32)) o dX0_giveVouchers_8 (by decide) ?_
    exact za_iret o rfl hf dX0_giveVouchers_9
def fX7_vouchers (q : Nat) (a1 : Int32) (a2 : Int32) (μ : zMem) (K : Int32 → zMem → Prop) : Prop :=
  fX2_note 53 1 μ (fun m2 => fX0_giveVouchers 1 a1 a2 m2 (fun r3 m4 => fX2_keep 53 r3 m4 (fun r5 m6 => K r5 m6)))
set_option maxRecDepth 100000 in
set_option maxHeartbeats 4000000 in
theorem ctX7_vouchers (l : Launch) (G : zG) {q : Nat} (hq : z_is q 7) (a1 : Int32) (a2 : Int32)  (μ : zMem) (K : Int32 → zMem → Prop) (hf : fX7_vouchers q a1 a2 μ K) : z_Met l G yX7_vouchers cX7_vouchers 3 (some .int) (z_rm 4 99) [.ref (G.2.2 + q), .int a1, .int a2] μ K := by
  refine z_body (by decide) (Nat.le_of_ble_eq_true rfl) (fun p e s m args below meth c o => ?_)
  have o : za_Ok (z_rm 4 99) 0 0 p s m args meth c G RX7 cX7_vouchers 3 (some .int) := o
  show za_At p l e (z_rm 4 99) s m args below meth c (MQ below (zQi G K) args s 0 0 (zA G)) G 3 0 0 0 [(0, .ref (G.2.2 + q)), (1, .int a1), (2, .int a2)] [] μ
  unfold fX7_vouchers at hf
  refine za_aload_n o 0 dX7_vouchers_0 rfl rfl ?_
  refine za_getf o 1 zc7 hq (Nat.le_of_ble_eq_true rfl) wfX7_19 rfl dX7_vouchers_1 ?_
  refine za_aload_n o 0 dX7_vouchers_4 rfl rfl ?_
  refine za_getf o 0 zc7 hq (Nat.le_of_ble_eq_true rfl) wfX7_10 rfl dX7_vouchers_5 ?_
  refine za_callVv o [.ref (G.2.2 + 1)] (ctX2_note l G zk_c2 1 zk_c0 μ _ hf) zc2 zk_c2 mwX2_note wmX7_46 wiX2_note wsX2_note rfl ⟨Nat.le_of_ble_eq_true rfl, Nat.le_of_ble_eq_true rfl⟩ rfl (Nat.le_of_ble_eq_true rfl) dX7_vouchers_8 (fun m2 hf => ?_)
  refine za_aload_n o 0 dX7_vouchers_11 rfl rfl ?_
  refine za_getf o 1 zc7 hq (Nat.le_of_ble_eq_true rfl) wfX7_19 rfl dX7_vouchers_12 ?_
  refine za_aload_n o 0 dX7_vouchers_15 rfl rfl ?_
  refine za_getf o 0 zc7 hq (Nat.le_of_ble_eq_true rfl) wfX7_10 rfl dX7_vouchers_16 ?_
  refine za_iload_n o 1 dX7_vouchers_19 rfl rfl ?_
  refine za_iload_n o 2 dX7_vouchers_20 rfl rfl ?_
  refine za_callVi o [.int a1, .int a2] (ctX0_giveVouchers l G zk_c0 a1 a2  m2 _ hf) zc0 zk_c0 mwX0_giveVouchers wmX7_66 wiX0_giveVouchers wsX0_giveVouchers rfl ⟨Nat.le_of_ble_eq_true rfl, Nat.le_of_ble_eq_true rfl⟩ rfl (Nat.le_of_ble_eq_true rfl) dX7_vouchers_21 (fun r3 m4 hf => ?_)
  refine za_callVi o [.int r3] (ctX2_keep l G zk_c2 r3  m4 _ hf) zc2 zk_c2 mwX2_keep wmX7_54 wiX2_keep wsX2_keep rfl ⟨Nat.le_of_ble_eq_true rfl, Nat.le_of_ble_eq_true rfl⟩ rfl (Nat.le_of_ble_eq_true rfl) dX7_vouchers_24 (fun r5 m6 hf => ?_)
  exact za_iret o rfl hf dX7_vouchers_27
