/-! X3_readDigit X3_take X3_readAhead X3_readDish X3_readNumber X3_readMany X3_readPerson X3_readOrder X3_start X3_firstFault X7_fault X7_carryOutOne X7_carryOutAll X7_carryOut -/
def fX3_readDigit_24  (K : Int32 → zMem → Prop) (q : Nat)  (μ : zMem) : Prop :=
  K (-6 : Int32) μ
def fX3_readDigit (q : Nat)  (μ : zMem) (K : Int32 → zMem → Prop) : Prop :=
  fX4_at 526 (μ q 1) μ (fun r1 m2 => ((r1 < (48 : Int32) → fX3_readDigit_24  K q  m2) ∧ (¬ r1 < (48 : Int32) → ((r1 ≤ (57 : Int32) → (∀ x5 : Int32, x5 = ((m2 q 1) + (1 : Int32)) → (∀ m6 : zMem, m6 = z_up m2 q 1 x5 → (∀ x7 : Int32, x7 = (r1 - (48 : Int32)) → K x7 m6)))) ∧ (¬ r1 ≤ (57 : Int32) → fX3_readDigit_24  K q  m2)))))
set_option maxRecDepth 100000 in
set_option maxHeartbeats 4000000 in
theorem tX3_readDigit_24 {p : Program} {l : Launch} {e : Env} {s : State} {m : MethodId} {args : Array Value} {below : List Frame} {meth : Method} {c : Code} {G : zG}  {K : Int32 → zMem → Prop} (o : za_Ok (z_rm 1 21) 0 0 p s m args meth c G RX3 cX3_readDigit 2 (some .int)) {q : Nat} (hq : z_is q 3)   (μ : zMem)  (hf : fX3_readDigit_24  K q  μ) : za_At p l e (z_rm 1 21) s m args below meth c (MQ below (zQi G K) args s 0 0 (zA G)) G 2 0 0 24 [] [] μ := by
  unfold fX3_readDigit_24 at hf
  refine za_bipush (v := (-6 : Int32)) o dX3_readDigit_24 (by decide) ?_
  exact za_iret o rfl hf dX3_readDigit_26
set_option maxRecDepth 100000 in
set_option maxHeartbeats 4000000 in
theorem ctX3_readDigit (l : Launch) (G : zG) {q : Nat} (hq : z_is q 3)   (μ : zMem) (K : Int32 → zMem → Prop) (hf : fX3_readDigit q  μ K) : z_Met l G yX3_readDigit cX3_readDigit 2 (some .int) (z_rm 1 21) [.ref (G.2.2 + q)] μ K := by
  refine z_body (by decide) (Nat.le_of_ble_eq_true rfl) (fun p e s m args below meth c o => ?_)
  have o : za_Ok (z_rm 1 21) 0 0 p s m args meth c G RX3 cX3_readDigit 2 (some .int) := o
  show za_At p l e (z_rm 1 21) s m args below meth c (MQ below (zQi G K) args s 0 0 (zA G)) G 2 0 0 0 [(0, .ref (G.2.2 + q))] [] μ
  unfold fX3_readDigit at hf
  refine za_aload_n o 0 dX3_readDigit_0 rfl rfl ?_
  refine za_getf o 0 zc3 hq (Nat.le_of_ble_eq_true rfl) wfX3_9 rfl dX3_readDigit_1 ?_
  refine za_aload_n o 0 dX3_readDigit_4 rfl rfl ?_
  refine za_getf o 1 zc3 hq (Nat.le_of_ble_eq_true rfl) wfX3_15 rfl dX3_readDigit_5 ?_
  refine za_callVi o [.int (μ q 1)] (ctX4_at l G zk_c4 (μ q 1)  μ _ hf) zc4 zk_c4 mwX4_at wmX3_36 wiX4_at wsX4_at rfl ⟨Nat.le_of_ble_eq_true rfl, Nat.le_of_ble_eq_true rfl⟩ rfl (Nat.le_of_ble_eq_true rfl) dX3_readDigit_8 (fun r1 m2 hf => ?_)
  refine za_istore_n o [(1, .int r1), (0, .ref (G.2.2 + q))] dX3_readDigit_11 rfl (by decide) rfl ?_
  refine za_iload_n o 0 dX3_readDigit_12 rfl rfl ?_
  refine za_bipush (v := (48 : Int32)) o dX3_readDigit_13 (by decide) ?_
  refine za_icmp_lt o 24 dX3_readDigit_15 (by decide) (fun c3 => ?_) (fun c3 => ?_)
  · replace hf := hf.1 c3
    refine za_sub [] rfl ?_
    exact tX3_readDigit_24 o hq   m2  hf
  · replace hf := hf.2 c3
    refine za_iload_n o 0 dX3_readDigit_18 rfl rfl ?_
    refine za_bipush (v := (57 : Int32)) o dX3_readDigit_19 (by decide) ?_
    refine za_icmp_le o 27 dX3_readDigit_21 (by decide) (fun c4 => ?_) (fun c4 => ?_)
    · replace hf := hf.1 c4
      refine za_aload_n o 1 dX3_readDigit_27 rfl rfl ?_
      refine za_dup o dX3_readDigit_28 rfl ?_
      refine za_getf o 1 zc3 hq (Nat.le_of_ble_eq_true rfl) wfX3_15 rfl dX3_readDigit_29 ?_
      refine za_iconst (v := (1 : Int32)) o dX3_readDigit_32 (by decide) ?_
      refine za_iadd o dX3_readDigit_33 ?_
      refine za_topi (fun x5 ex5 => ?_)
      replace hf := hf x5 ex5
      refine za_putf (ty := .int) o 1 zc3 hq (Nat.le_of_ble_eq_true rfl) wfX3_15 rfl (by decide +kernel) rfl rfl (Nat.le_of_ble_eq_true rfl) rfl dX3_readDigit_34 ?_
      refine za_mem (fun m6 em6 => ?_)
      replace hf := hf m6 em6
      refine za_iload_n o 0 dX3_readDigit_37 rfl rfl ?_
      refine za_bipush (v := (48 : Int32)) o dX3_readDigit_38 (by decide) ?_
      refine za_isub o dX3_readDigit_40 ?_
      refine za_topi (fun x7 ex7 => ?_)
      replace hf := hf x7 ex7
      exact za_iret o rfl hf dX3_readDigit_41
    · replace hf := hf.2 c4
      refine za_sub [] rfl ?_
      exact tX3_readDigit_24 o hq   m2  hf
def fX3_take (q : Nat) (a1 : Int32) (μ : zMem) (K : Int32 → zMem → Prop) : Prop :=
  fX4_at 526 (μ q 1) μ (fun r1 m2 => ((r1 = a1 → (∀ x4 : Int32, x4 = ((m2 q 1) + (1 : Int32)) → (∀ m5 : zMem, m5 = z_up m2 q 1 x4 → K (1 : Int32) m5))) ∧ (¬ r1 = a1 → K (0 : Int32) m2)))
set_option maxRecDepth 100000 in
set_option maxHeartbeats 4000000 in
theorem ctX3_take (l : Launch) (G : zG) {q : Nat} (hq : z_is q 3) (a1 : Int32)  (μ : zMem) (K : Int32 → zMem → Prop) (hf : fX3_take q a1 μ K) : z_Met l G yX3_take cX3_take 2 (some .boolean) (z_rm 1 21) [.ref (G.2.2 + q), .int a1] μ K := by
  refine z_body (by decide) (Nat.le_of_ble_eq_true rfl) (fun p e s m args below meth c o => ?_)
  have o : za_Ok (z_rm 1 21) 0 0 p s m args meth c G RX3 cX3_take 2 (some .boolean) := o
  show za_At p l e (z_rm 1 21) s m args below meth c (MQ below (zQi G K) args s 0 0 (zA G)) G 2 0 0 0 [(0, .ref (G.2.2 + q)), (1, .int a1)] [] μ
  unfold fX3_take at hf
  refine za_aload_n o 0 dX3_take_0 rfl rfl ?_
  refine za_getf o 0 zc3 hq (Nat.le_of_ble_eq_true rfl) wfX3_9 rfl dX3_take_1 ?_
  refine za_aload_n o 0 dX3_take_4 rfl rfl ?_
  refine za_getf o 1 zc3 hq (Nat.le_of_ble_eq_true rfl) wfX3_15 rfl dX3_take_5 ?_
  refine za_callVi o [.int (μ q 1)] (ctX4_at l G zk_c4 (μ q 1)  μ _ hf) zc4 zk_c4 mwX4_at wmX3_36 wiX4_at wsX4_at rfl ⟨Nat.le_of_ble_eq_true rfl, Nat.le_of_ble_eq_true rfl⟩ rfl (Nat.le_of_ble_eq_true rfl) dX3_take_8 (fun r1 m2 hf => ?_)
  refine za_iload_n o 1 dX3_take_11 rfl rfl ?_
  refine za_icmp_eq o 17 dX3_take_12 (by decide) (fun c3 => ?_) (fun c3 => ?_)
  · replace hf := hf.1 c3
    refine za_aload_n o 0 dX3_take_17 rfl rfl ?_
    refine za_dup o dX3_take_18 rfl ?_
    refine za_getf o 1 zc3 hq (Nat.le_of_ble_eq_true rfl) wfX3_15 rfl dX3_take_19 ?_
    refine za_iconst (v := (1 : Int32)) o dX3_take_22 (by decide) ?_
    refine za_iadd o dX3_take_23 ?_
    refine za_topi (fun x4 ex4 => ?_)
    replace hf := hf x4 ex4
    refine za_putf (ty := .int) o 1 zc3 hq (Nat.le_of_ble_eq_true rfl) wfX3_15 rfl (by decide +kernel) rfl rfl (Nat.le_of_ble_eq_true rfl) rfl dX3_take_24 ?_
    refine za_mem (fun m5 em5 => ?_)
    replace hf := hf m5 em5
    refine za_iconst (v := (1 : Int32)) o dX3_take_27 (by decide) ?_
    exact za_zret o rfl z_b1 hf dX3_take_28
  · replace hf := hf.2 c3
    refine za_iconst (v := (0 : Int32)) o dX3_take_15 (by decide) ?_
    exact za_zret o rfl z_b0 hf dX3_take_16
def fX3_readAhead_31  (K : Int32 → zMem → Prop) (q : Nat) (v1 : Int32) (μ : zMem) : Prop :=
  (z_b v1 ∧ K v1 μ)
def fX3_readAhead (q : Nat)  (μ : zMem) (K : Int32 → zMem → Prop) : Prop :=
  fX3_take q (43 : Int32) μ (fun r1 m2 => ((¬ r1 = 0 → fX3_readDigit q  m2 (fun r4 m5 => (∀ m6 : zMem, m6 = z_up m5 q 6 r4 → (((m6 q 6) < 0 → fX3_readAhead_31  K q (0 : Int32) m6) ∧ (¬ (m6 q 6) < 0 → fX3_readAhead_31  K q (1 : Int32) m6))))) ∧ (r1 = 0 → K (1 : Int32) m2)))
set_option maxRecDepth 100000 in
set_option maxHeartbeats 4000000 in
theorem tX3_readAhead_31 {p : Program} {l : Launch} {e : Env} {s : State} {m : MethodId} {args : Array Value} {below : List Frame} {meth : Method} {c : Code} {G : zG}  {K : Int32 → zMem → Prop} (o : za_Ok (z_rm 2 42) 0 0 p s m args meth c G RX3 cX3_readAhead 1 (some .boolean)) {q : Nat} (hq : z_is q 3)  (v1 : Int32) (μ : zMem)  (hf : fX3_readAhead_31  K q v1 μ) : za_At p l e (z_rm 2 42) s m args below meth c (MQ below (zQi G K) args s 0 0 (zA G)) G 1 0 0 31 [] [.int v1] μ := by
  unfold fX3_readAhead_31 at hf
  exact za_zret o rfl hf.1 hf.2 dX3_readAhead_31
set_option maxRecDepth 100000 in
set_option maxHeartbeats 4000000 in
theorem ctX3_readAhead (l : Launch) (G : zG) {q : Nat} (hq : z_is q 3)   (μ : zMem) (K : Int32 → zMem → Prop) (hf : fX3_readAhead q  μ K) : z_Met l G yX3_readAhead cX3_readAhead 1 (some .boolean) (z_rm 2 42) [.ref (G.2.2 + q)] μ K := by
  refine z_body (by decide) (Nat.le_of_ble_eq_true rfl) (fun p e s m args below meth c o => ?_)
  have o : za_Ok (z_rm 2 42) 0 0 p s m args meth c G RX3 cX3_readAhead 1 (some .boolean) := o
  show za_At p l e (z_rm 2 42) s m args below meth c (MQ below (zQi G K) args s 0 0 (zA G)) G 1 0 0 0 [(0, .ref (G.2.2 + q))] [] μ
  unfold fX3_readAhead at hf
  refine za_aload_n o 0 dX3_readAhead_0 rfl rfl ?_
  refine za_bipush (v := (43 : Int32)) o dX3_readAhead_1 (by decide) ?_
  refine za_callVi o [.int (43 : Int32)] (ctX3_take l G hq (43 : Int32)  μ _ hf) zc3 hq mwX3_take wmX3_32 wiX3_take wsX3_take rfl ⟨Nat.le_of_ble_eq_true rfl, Nat.le_of_ble_eq_true rfl⟩ rfl (Nat.le_of_ble_eq_true rfl) dX3_readAhead_3 (fun r1 m2 hf => ?_)
  refine za_if_ne o 11 dX3_readAhead_6 (by decide) (fun c3 => ?_) (fun c3 => ?_)
  · replace hf := hf.1 c3
    refine za_aload_n o 0 dX3_readAhead_11 rfl rfl ?_
    refine za_aload_n o 0 dX3_readAhead_12 rfl rfl ?_
    refine za_callVi o [] (ctX3_readDigit l G hq   m2 _ hf) zc3 hq mwX3_readDigit wmX3_73 wiX3_readDigit wsX3_readDigit rfl ⟨Nat.le_of_ble_eq_true rfl, Nat.le_of_ble_eq_true rfl⟩ rfl (Nat.le_of_ble_eq_true rfl) dX3_readAhead_13 (fun r4 m5 hf => ?_)
    refine za_putf (ty := .int) o 6 zc3 hq (Nat.le_of_ble_eq_true rfl) wfX3_46 rfl (by decide +kernel) rfl rfl (Nat.le_of_ble_eq_true rfl) rfl dX3_readAhead_16 ?_
    refine za_mem (fun m6 em6 => ?_)
    replace hf := hf m6 em6
    refine za_aload_n o 0 dX3_readAhead_19 rfl rfl ?_
    refine za_getf o 6 zc3 hq (Nat.le_of_ble_eq_true rfl) wfX3_46 rfl dX3_readAhead_20 ?_
    refine za_if_lt o 30 dX3_readAhead_23 (by decide) (fun c7 => ?_) (fun c7 => ?_)
    · replace hf := hf.1 c7
      refine za_iconst (v := (0 : Int32)) o dX3_readAhead_30 (by decide) ?_
      refine za_sub [] rfl ?_
      exact tX3_readAhead_31 o hq  (0 : Int32) m6  hf
    · replace hf := hf.2 c7
      refine za_iconst (v := (1 : Int32)) o dX3_readAhead_26 (by decide) ?_
      refine za_goto o 31 dX3_readAhead_27 (by decide) ?_
      refine za_sub [] rfl ?_
      exact tX3_readAhead_31 o hq  (1 : Int32) m6  hf
  · replace hf := hf.2 c3
    refine za_iconst (v := (1 : Int32)) o dX3_readAhead_9 (by decide) ?_
    exact za_zret o rfl z_b1 hf dX3_readAhead_10
def fX3_readDish_24  (K : Int32 → zMem → Prop) (q : Nat)  (μ : zMem) : Prop :=
  K (0 : Int32) μ
def fX3_readDish (q : Nat)  (μ : zMem) (K : Int32 → zMem → Prop) : Prop :=
  fX4_at 526 (μ q 1) μ (fun r1 m2 => ((r1 < (97 : Int32) → fX3_readDish_24  K q  m2) ∧ (¬ r1 < (97 : Int32) → ((r1 ≤ (99 : Int32) → (∀ x5 : Int32, x5 = (r1 - (97 : Int32)) → (∀ m6 : zMem, m6 = z_up m2 q 5 x5 → (∀ x7 : Int32, x7 = ((m6 q 1) + (1 : Int32)) → (∀ m8 : zMem, m8 = z_up m6 q 1 x7 → K (1 : Int32) m8))))) ∧ (¬ r1 ≤ (99 : Int32) → fX3_readDish_24  K q  m2)))))
set_option maxRecDepth 100000 in
set_option maxHeartbeats 4000000 in
theorem tX3_readDish_24 {p : Program} {l : Launch} {e : Env} {s : State} {m : MethodId} {args : Array Value} {below : List Frame} {meth : Method} {c : Code} {G : zG}  {K : Int32 → zMem → Prop} (o : za_Ok (z_rm 1 21) 0 0 p s m args meth c G RX3 cX3_readDish 2 (some .boolean)) {q : Nat} (hq : z_is q 3)   (μ : zMem)  (hf : fX3_readDish_24  K q  μ) : za_At p l e (z_rm 1 21) s m args below meth c (MQ below (zQi G K) args s 0 0 (zA G)) G 2 0 0 24 [] [] μ := by
  unfold fX3_readDish_24 at hf
  refine za_iconst (v := (0 : Int32)) o dX3_readDish_24 (by decide) ?_
  exact za_zret o rfl z_b0 hf dX3_readDish_25
set_option maxRecDepth 100000 in
set_option maxHeartbeats 4000000 in
theorem ctX3_readDish (l : Launch) (G : zG) {q : Nat} (hq : z_is q 3)   (μ : zMem) (K : Int32 → zMem → Prop) (hf : fX3_readDish q  μ K) : z_Met l G yX3_readDish cX3_readDish 2 (some .boolean) (z_rm 1 21) [.ref (G.2.2 + q)] μ K := by
  refine z_body (by decide) (Nat.le_of_ble_eq_true rfl) (fun p e s m args below meth c o => ?_)
  have o : za_Ok (z_rm 1 21) 0 0 p s m args meth c G RX3 cX3_readDish 2 (some .boolean) := o
  show za_At p l e (z_rm 1 21) s m args below meth c (MQ below (zQi G K) args s 0 0 (zA G)) G 2 0 0 0 [(0, .ref (G.2.2 + q))] [] μ
  unfold fX3_readDish at hf
  refine za_aload_n o 0 dX3_readDish_0 rfl rfl ?_
  refine za_getf o 0 zc3 hq (Nat.le_of_ble_eq_true rfl) wfX3_9 rfl dX3_readDish_1 ?_
  refine za_aload_n o 0 dX3_readDish_4 rfl rfl ?_
  refine za_getf o 1 zc3 hq (Nat.le_of_ble_eq_true rfl) wfX3_15 rfl dX3_readDish_5 ?_
  refine za_callVi o [.int (μ q 1)] (ctX4_at l G zk_c4 (μ q 1)  μ _ hf) zc4 zk_c4 mwX4_at wmX3_36 wiX4_at wsX4_at rfl ⟨Nat.le_of_ble_eq_true rfl, Nat.le_of_ble_eq_true rfl⟩ rfl (Nat.le_of_ble_eq_true rfl) dX3_readDish_8 (fun r1 m2 hf => ?_)
  refine za_istore_n o [(1, .int r1), (0, .ref (G.2.2 + q))] dX3_readDish_11 rfl (by decide) rfl ?_
  refine za_iload_n o 0 dX3_readDish_12 rfl rfl ?_
  refine za_bipush (v := (97 : Int32)) o dX3_readDish_13 (by decide) ?_
  refine za_icmp_lt o 24 dX3_readDish_15 (by decide) (fun c3 => ?_) (fun c3 => ?_)
  · replace hf := hf.1 c3
    refine za_sub [] rfl ?_
    exact tX3_readDish_24 o hq   m2  hf
  · replace hf := hf.2 c3
    refine za_iload_n o 0 dX3_readDish_18 rfl rfl ?_
    refine za_bipush (v := (99 : Int32)) o dX3_readDish_19 (by decide) ?_
    refine za_icmp_le o 26 dX3_readDish_21 (by decide) (fun c4 => ?_) (fun c4 => ?_)
    · replace hf := hf.1 c4
      refine za_aload_n o 1 dX3_readDish_26 rfl rfl ?_
      refine za_iload_n o 0 dX3_readDish_27 rfl rfl ?_
      refine za_bipush (v := (97 : Int32)) o dX3_readDish_28 (by decide) ?_
      refine za_isub o dX3_readDish_30 ?_
      refine za_topi (fun x5 ex5 => ?_)
      replace hf := hf x5 ex5
      refine za_putf (ty := .int) o 5 zc3 hq (Nat.le_of_ble_eq_true rfl) wfX3_43 rfl (by decide +kernel) rfl rfl (Nat.le_of_ble_eq_true rfl) rfl dX3_readDish_31 ?_
      refine za_mem (fun m6 em6 => ?_)
      replace hf := hf m6 em6
      refine za_aload_n o 1 dX3_readDish_34 rfl rfl ?_
      refine za_dup o dX3_readDish_35 rfl ?_
      refine za_getf o 1 zc3 hq (Nat.le_of_ble_eq_true rfl) wfX3_15 rfl dX3_readDish_36 ?_
      refine za_iconst (v := (1 : Int32)) o dX3_readDish_39 (by decide) ?_
      refine za_iadd o dX3_readDish_40 ?_
      refine za_topi (fun x7 ex7 => ?_)
      replace hf := hf x7 ex7
      refine za_putf (ty := .int) o 1 zc3 hq (Nat.le_of_ble_eq_true rfl) wfX3_15 rfl (by decide +kernel) rfl rfl (Nat.le_of_ble_eq_true rfl) rfl dX3_readDish_41 ?_
      refine za_mem (fun m8 em8 => ?_)
      replace hf := hf m8 em8
      refine za_iconst (v := (1 : Int32)) o dX3_readDish_44 (by decide) ?_
      exact za_zret o rfl z_b1 hf dX3_readDish_45
    · replace hf := hf.2 c4
      refine za_sub [] rfl ?_
      exact tX3_readDish_24 o hq   m2  hf
def fX3_readNumber_30  (K : Int32 → zMem → Prop) (q : Nat) (v1 : Int32) (μ : zMem) : Prop :=
  K v1 μ
def fX3_readNumber (q : Nat)  (μ : zMem) (K : Int32 → zMem → Prop) : Prop :=
  fX3_readDigit q  μ (fun r1 m2 => ((0 < r1 → fX3_readDigit q  m2 (fun r4 m5 => ((0 ≤ r4 → (∀ x7 : Int32, x7 = ((10 : Int32) * r1) → (∀ x8 : Int32, x8 = (x7 + r4) → fX3_readNumber_30  K q x8 m5))) ∧ (¬ 0 ≤ r4 → fX3_readNumber_30  K q r1 m5)))) ∧ (¬ 0 < r1 → K r1 m2)))
set_option maxRecDepth 100000 in
set_option maxHeartbeats 4000000 in
theorem tX3_readNumber_30 {p : Program} {l : Launch} {e : Env} {s : State} {m : MethodId} {args : Array Value} {below : List Frame} {meth : Method} {c : Code} {G : zG}  {K : Int32 → zMem → Prop} (o : za_Ok (z_rm 2 42) 0 0 p s m args meth c G RX3 cX3_readNumber 3 (some .int)) {q : Nat} (hq : z_is q 3)  (v1 : Int32) (μ : zMem)  (hf : fX3_readNumber_30  K q v1 μ) : za_At p l e (z_rm 2 42) s m args below meth c (MQ below (zQi G K) args s 0 0 (zA G)) G 3 0 0 30 [] [.int v1] μ := by
  unfold fX3_readNumber_30 at hf
  exact za_iret o rfl hf dX3_readNumber_30
set_option maxRecDepth 100000 in
set_option maxHeartbeats 4000000 in
theorem ctX3_readNumber (l : Launch) (G : zG) {q : Nat} (hq : z_is q 3)   (μ : zMem) (K : Int32 → zMem → Prop) (hf : fX3_readNumber q  μ K) : z_Met l G yX3_readNumber cX3_readNumber 3 (some .int) (z_rm 2 42) [.ref (G.2.2 + q)] μ K := by
  refine z_body (by decide) (Nat.le_of_ble_eq_true rfl) (fun p e s m args below meth c o => ?_)
  have o : za_Ok (z_rm 2 42) 0 0 p s m args meth c G RX3 cX3_readNumber 3 (some .int) := o
  show za_At p l e (z_rm 2 42) s m args below meth c (MQ below (zQi G K) args s 0 0 (zA G)) G 3 0 0 0 [(0, .ref (G.2.2 + q))] [] μ
  unfold fX3_readNumber at hf
  refine za_aload_n o 0 dX3_readNumber_0 rfl rfl ?_
  refine za_callVi o [] (ctX3_readDigit l G hq   μ _ hf) zc3 hq mwX3_readDigit wmX3_73 wiX3_readDigit wsX3_readDigit rfl ⟨Nat.le_of_ble_eq_true rfl, Nat.le_of_ble_eq_true rfl⟩ rfl (Nat.le_of_ble_eq_true rfl) dX3_readNumber_1 (fun r1 m2 hf => ?_)
  refine za_istore_n o [(1, .int r1), (0, .ref (G.2.2 + q))] dX3_readNumber_4 rfl (by decide) rfl ?_
  refine za_iload_n o 0 dX3_readNumber_5 rfl rfl ?_
  refine za_if_gt o 11 dX3_readNumber_6 (by decide) (fun c3 => ?_) (fun c3 => ?_)
  · replace hf := hf.1 c3
    refine za_aload_n o 1 dX3_readNumber_11 rfl rfl ?_
    refine za_callVi o [] (ctX3_readDigit l G hq   m2 _ hf) zc3 hq mwX3_readDigit wmX3_73 wiX3_readDigit wsX3_readDigit rfl ⟨Nat.le_of_ble_eq_true rfl, Nat.le_of_ble_eq_true rfl⟩ rfl (Nat.le_of_ble_eq_true rfl) dX3_readNumber_12 (fun r4 m5 hf => ?_)
    refine za_istore_n o [(2, .int r4), (1, .int r1), (0, .ref (G.2.2 + q))] dX3_readNumber_15 rfl (by decide) rfl ?_
    refine za_iload_n o 0 dX3_readNumber_16 rfl rfl ?_
    refine za_if_ge o 24 dX3_readNumber_17 (by decide) (fun c6 => ?_) (fun c6 => ?_)
    · replace hf := hf.1 c6
      refine za_bipush (v := (10 : Int32)) o dX3_readNumber_24 (by decide) ?_
      refine za_iload_n o 1 dX3_readNumber_26 rfl rfl ?_
      refine za_imul o dX3_readNumber_27 ?_
      refine za_topi (fun x7 ex7 => ?_)
      replace hf := hf x7 ex7
      refine za_iload_n o 0 dX3_readNumber_28 rfl rfl ?_
      refine za_iadd o dX3_readNumber_29 ?_
      refine za_topi (fun x8 ex8 => ?_)
      replace hf := hf x8 ex8
      refine za_sub [] rfl ?_
      exact tX3_readNumber_30 o hq  x8 m5  hf
    · replace hf := hf.2 c6
      refine za_iload_n o 1 dX3_readNumber_20 rfl rfl ?_
      refine za_goto o 30 dX3_readNumber_21 (by decide) ?_
      refine za_sub [] rfl ?_
      exact tX3_readNumber_30 o hq  r1 m5  hf
  · replace hf := hf.2 c3
    refine za_iload_n o 0 dX3_readNumber_9 rfl rfl ?_
    exact za_iret o rfl hf dX3_readNumber_10
def fX3_readMany_20  (K : Int32 → zMem → Prop) (q : Nat) (v1 : Int32) (μ : zMem) : Prop :=
  (z_b v1 ∧ K v1 μ)
def fX3_readMany (q : Nat)  (μ : zMem) (K : Int32 → zMem → Prop) : Prop :=
  fX3_readNumber q  μ (fun r1 m2 => (∀ m3 : zMem, m3 = z_up m2 q 4 r1 → (((m3 q 4) < 0 → fX3_readMany_20  K q (0 : Int32) m3) ∧ (¬ (m3 q 4) < 0 → fX3_readMany_20  K q (1 : Int32) m3))))
set_option maxRecDepth 100000 in
set_option maxHeartbeats 4000000 in
theorem tX3_readMany_20 {p : Program} {l : Launch} {e : Env} {s : State} {m : MethodId} {args : Array Value} {below : List Frame} {meth : Method} {c : Code} {G : zG}  {K : Int32 → zMem → Prop} (o : za_Ok (z_rm 3 64) 0 0 p s m args meth c G RX3 cX3_readMany 1 (some .boolean)) {q : Nat} (hq : z_is q 3)  (v1 : Int32) (μ : zMem)  (hf : fX3_readMany_20  K q v1 μ) : za_At p l e (z_rm 3 64) s m args below meth c (MQ below (zQi G K) args s 0 0 (zA G)) G 1 0 0 20 [] [.int v1] μ := by
  unfold fX3_readMany_20 at hf
  exact za_zret o rfl hf.1 hf.2 dX3_readMany_20
set_option maxRecDepth 100000 in
set_option maxHeartbeats 4000000 in
theorem ctX3_readMany (l : Launch) (G : zG) {q : Nat} (hq : z_is q 3)   (μ : zMem) (K : Int32 → zMem → Prop) (hf : fX3_readMany q  μ K) : z_Met l G yX3_readMany cX3_readMany 1 (some .boolean) (z_rm 3 64) [.ref (G.2.2 + q)] μ K := by
  refine z_body (by decide) (Nat.le_of_ble_eq_true rfl) (fun p e s m args below meth c o => ?_)
  have o : za_Ok (z_rm 3 64) 0 0 p s m args meth c G RX3 cX3_readMany 1 (some .boolean) := o
  show za_At p l e (z_rm 3 64) s m args below meth c (MQ below (zQi G K) args s 0 0 (zA G)) G 1 0 0 0 [(0, .ref (G.2.2 + q))] [] μ
  unfold fX3_readMany at hf
  refine za_aload_n o 0 dX3_readMany_0 rfl rfl ?_
  refine za_aload_n o 0 dX3_readMany_1 rfl rfl ?_
  refine za_callVi o [] (ctX3_readNumber l G hq   μ _ hf) zc3 hq mwX3_readNumber wmX3_64 wiX3_readNumber wsX3_readNumber rfl ⟨Nat.le_of_ble_eq_true rfl, Nat.le_of_ble_eq_true rfl⟩ rfl (Nat.le_of_ble_eq_true rfl) dX3_readMany_2 (fun r1 m2 hf => ?_)
  refine za_putf (ty := .int) o 4 zc3 hq (Nat.le_of_ble_eq_true rfl) wfX3_70 rfl (by decide +kernel) rfl rfl (Nat.le_of_ble_eq_true rfl) rfl dX3_readMany_5 ?_
  refine za_mem (fun m3 em3 => ?_)
  replace hf := hf m3 em3
  refine za_aload_n o 0 dX3_readMany_8 rfl rfl ?_
  refine za_getf o 4 zc3 hq (Nat.le_of_ble_eq_true rfl) wfX3_70 rfl dX3_readMany_9 ?_
  refine za_if_lt o 19 dX3_readMany_12 (by decide) (fun c4 => ?_) (fun c4 => ?_)
  · replace hf := hf.1 c4
    refine za_iconst (v := (0 : Int32)) o dX3_readMany_19 (by decide) ?_
    refine za_sub [] rfl ?_
    exact tX3_readMany_20 o hq  (0 : Int32) m3  hf
  · replace hf := hf.2 c4
    refine za_iconst (v := (1 : Int32)) o dX3_readMany_15 (by decide) ?_
    refine za_goto o 20 dX3_readMany_16 (by decide) ?_
    refine za_sub [] rfl ?_
    exact tX3_readMany_20 o hq  (1 : Int32) m3  hf
def fX3_readPerson_20  (K : Int32 → zMem → Prop) (q : Nat) (v1 : Int32) (μ : zMem) : Prop :=
  (z_b v1 ∧ K v1 μ)
def fX3_readPerson (q : Nat)  (μ : zMem) (K : Int32 → zMem → Prop) : Prop :=
  fX3_readNumber q  μ (fun r1 m2 => (∀ m3 : zMem, m3 = z_up m2 q 3 r1 → (((m3 q 3) < 0 → fX3_readPerson_20  K q (0 : Int32) m3) ∧ (¬ (m3 q 3) < 0 → fX3_readPerson_20  K q (1 : Int32) m3))))
set_option maxRecDepth 100000 in
set_option maxHeartbeats 4000000 in
theorem tX3_readPerson_20 {p : Program} {l : Launch} {e : Env} {s : State} {m : MethodId} {args : Array Value} {below : List Frame} {meth : Method} {c : Code} {G : zG}  {K : Int32 → zMem → Prop} (o : za_Ok (z_rm 3 64) 0 0 p s m args meth c G RX3 cX3_readPerson 1 (some .boolean)) {q : Nat} (hq : z_is q 3)  (v1 : Int32) (μ : zMem)  (hf : fX3_readPerson_20  K q v1 μ) : za_At p l e (z_rm 3 64) s m args below meth c (MQ below (zQi G K) args s 0 0 (zA G)) G 1 0 0 20 [] [.int v1] μ := by
  unfold fX3_readPerson_20 at hf
  exact za_zret o rfl hf.1 hf.2 dX3_readPerson_20
set_option maxRecDepth 100000 in
set_option maxHeartbeats 4000000 in
theorem ctX3_readPerson (l : Launch) (G : zG) {q : Nat} (hq : z_is q 3)   (μ : zMem) (K : Int32 → zMem → Prop) (hf : fX3_readPerson q  μ K) : z_Met l G yX3_readPerson cX3_readPerson 1 (some .boolean) (z_rm 3 64) [.ref (G.2.2 + q)] μ K := by
  refine z_body (by decide) (Nat.le_of_ble_eq_true rfl) (fun p e s m args below meth c o => ?_)
  have o : za_Ok (z_rm 3 64) 0 0 p s m args meth c G RX3 cX3_readPerson 1 (some .boolean) := o
  show za_At p l e (z_rm 3 64) s m args below meth c (MQ below (zQi G K) args s 0 0 (zA G)) G 1 0 0 0 [(0, .ref (G.2.2 + q))] [] μ
  unfold fX3_readPerson at hf
  refine za_aload_n o 0 dX3_readPerson_0 rfl rfl ?_
  refine za_aload_n o 0 dX3_readPerson_1 rfl rfl ?_
  refine za_callVi o [] (ctX3_readNumber l G hq   μ _ hf) zc3 hq mwX3_readNumber wmX3_64 wiX3_readNumber wsX3_readNumber rfl ⟨Nat.le_of_ble_eq_true rfl, Nat.le_of_ble_eq_true rfl⟩ rfl (Nat.le_of_ble_eq_true rfl) dX3_readPerson_2 (fun r1 m2 hf => ?_)
  refine za_putf (ty := .int) o 3 zc3 hq (Nat.le_of_ble_eq_true rfl) wfX3_67 rfl (by decide +kernel) rfl rfl (Nat.le_of_ble_eq_true rfl) rfl dX3_readPerson_5 ?_
  refine za_mem (fun m3 em3 => ?_)
  replace hf := hf m3 em3
  refine za_aload_n o 0 dX3_readPerson_8 rfl rfl ?_
  refine za_getf o 3 zc3 hq (Nat.le_of_ble_eq_true rfl) wfX3_67 rfl dX3_readPerson_9 ?_
  refine za_if_lt o 19 dX3_readPerson_12 (by decide) (fun c4 => ?_) (fun c4 => ?_)
  · replace hf := hf.1 c4
    refine za_iconst (v := (0 : Int32)) o dX3_readPerson_19 (by decide) ?_
    refine za_sub [] rfl ?_
    exact tX3_readPerson_20 o hq  (0 : Int32) m3  hf
  · replace hf := hf.2 c4
    refine za_iconst (v := (1 : Int32)) o dX3_readPerson_15 (by decide) ?_
    refine za_goto o 20 dX3_readPerson_16 (by decide) ?_
    refine za_sub [] rfl ?_
    exact tX3_readPerson_20 o hq  (1 : Int32) m3  hf
def fX3_readOrder_138  (K : Int32 → zMem → Prop) (q : Nat) (v1 : Int32) (μ : zMem) : Prop :=
  (z_b v1 ∧ K v1 μ)
def fX3_readOrder_137  (K : Int32 → zMem → Prop) (q : Nat)  (μ : zMem) : Prop :=
  fX3_readOrder_138  K q (0 : Int32) μ
def fX3_readOrder_175  (K : Int32 → zMem → Prop) (q : Nat) (v1 : Int32) (μ : zMem) : Prop :=
  (z_b v1 ∧ K v1 μ)
def fX3_readOrder_174  (K : Int32 → zMem → Prop) (q : Nat)  (μ : zMem) : Prop :=
  fX3_readOrder_175  K q (0 : Int32) μ
def fX3_readOrder_212  (K : Int32 → zMem → Prop) (q : Nat) (v1 : Int32) (μ : zMem) : Prop :=
  (z_b v1 ∧ K v1 μ)
def fX3_readOrder_207  (K : Int32 → zMem → Prop) (q : Nat)  (μ : zMem) : Prop :=
  fX3_readOrder_212  K q (1 : Int32) μ
def fX3_readOrder_211  (K : Int32 → zMem → Prop) (q : Nat)  (μ : zMem) : Prop :=
  fX3_readOrder_212  K q (0 : Int32) μ
def fX3_readOrder (q : Nat)  (μ : zMem) (K : Int32 → zMem → Prop) : Prop :=
  fX4_at 526 (μ q 1) μ (fun r1 m2 => (∀ m3 : zMem, m3 = z_up m2 q 2 r1 → (∀ m4 : zMem, m4 = z_up m3 q 5 (-6 : Int32) → (∀ m5 : zMem, m5 = z_up m4 q 6 (0 : Int32) → (((m5 q 2) = (99 : Int32) → (∀ x7 : Int32, x7 = ((m5 q 1) + (1 : Int32)) → (∀ m8 : zMem, m8 = z_up m5 q 1 x7 → fX3_readPerson q  m8 (fun r9 m10 => ((r9 = 0 → fX3_readOrder_211  K q  m10) ∧ (¬ r9 = 0 → fX3_isOrderOver q  m10 (fun r12 m13 => ((¬ r12 = 0 → fX3_readOrder_207  K q  m13) ∧ (r12 = 0 → fX3_readDish q  m13 (fun r15 m16 => ((r15 = 0 → fX3_readOrder_211  K q  m16) ∧ (¬ r15 = 0 → fX3_readOrder_207  K q  m16)))))))))))) ∧ (¬ (m5 q 2) = (99 : Int32) → (((m5 q 2) = (107 : Int32) → (∀ x19 : Int32, x19 = ((m5 q 1) + (1 : Int32)) → (∀ m20 : zMem, m20 = z_up m5 q 1 x19 → K (1 : Int32) m20))) ∧ (¬ (m5 q 2) = (107 : Int32) → (((m5 q 2) = (111 : Int32) → (∀ x22 : Int32, x22 = ((m5 q 1) + (1 : Int32)) → (∀ m23 : zMem, m23 = z_up m5 q 1 x22 → fX3_readPerson q  m23 (fun r24 m25 => ((r24 = 0 → fX3_readOrder_174  K q  m25) ∧ (¬ r24 = 0 → fX3_readDish q  m25 (fun r27 m28 => ((r27 = 0 → fX3_readOrder_174  K q  m28) ∧ (¬ r27 = 0 → fX3_readAhead q  m28 (fun r30 m31 => ((r30 = 0 → fX3_readOrder_174  K q  m31) ∧ (¬ r30 = 0 → fX3_readOrder_175  K q (1 : Int32) m31)))))))))))) ∧ (¬ (m5 q 2) = (111 : Int32) → (((m5 q 2) = (112 : Int32) → (∀ x34 : Int32, x34 = ((m5 q 1) + (1 : Int32)) → (∀ m35 : zMem, m35 = z_up m5 q 1 x34 → K (1 : Int32) m35))) ∧ (¬ (m5 q 2) = (112 : Int32) → (((m5 q 2) = (118 : Int32) → (∀ x37 : Int32, x37 = ((m5 q 1) + (1 : Int32)) → (∀ m38 : zMem, m38 = z_up m5 q 1 x37 → fX3_readPerson q  m38 (fun r39 m40 => ((r39 = 0 → fX3_readOrder_137  K q  m40) ∧ (¬ r39 = 0 → fX3_take q (43 : Int32) m40 (fun r42 m43 => ((r42 = 0 → fX3_readOrder_137  K q  m43) ∧ (¬ r42 = 0 → fX3_readMany q  m43 (fun r45 m46 => ((r45 = 0 → fX3_readOrder_137  K q  m46) ∧ (¬ r45 = 0 → fX3_readOrder_138  K q (1 : Int32) m46)))))))))))) ∧ (¬ (m5 q 2) = (118 : Int32) → (((m5 q 2) = (120 : Int32) → (∀ x49 : Int32, x49 = ((m5 q 1) + (1 : Int32)) → (∀ m50 : zMem, m50 = z_up m5 q 1 x49 → K (1 : Int32) m50))) ∧ (¬ (m5 q 2) = (120 : Int32) → K (0 : Int32) m5))))))))))))))))
set_option maxRecDepth 100000 in
set_option maxHeartbeats 4000000 in
theorem tX3_readOrder_138 {p : Program} {l : Launch} {e : Env} {s : State} {m : MethodId} {args : Array Value} {below : List Frame} {meth : Method} {c : Code} {G : zG}  {K : Int32 → zMem → Prop} (o : za_Ok (z_rm 4 84) 0 0 p s m args meth c G RX3 cX3_readOrder 1 (some .boolean)) {q : Nat} (hq : z_is q 3)  (v1 : Int32) (μ : zMem)  (hf : fX3_readOrder_138  K q v1 μ) : za_At p l e (z_rm 4 84) s m args below meth c (MQ below (zQi G K) args s 0 0 (zA G)) G 1 0 0 138 [] [.int v1] μ := by
  unfold fX3_readOrder_138 at hf
  exact za_zret o rfl hf.1 hf.2 dX3_readOrder_138
set_option maxRecDepth 100000 in
set_option maxHeartbeats 4000000 in
theorem tX3_readOrder_137 {p : Program} {l : Launch} {e : Env} {s : State} {m : MethodId} {args : Array Value} {below : List Frame} {meth : Method} {c : Code} {G : zG}  {K : Int32 → zMem → Prop} (o : za_Ok (z_rm 4 84) 0 0 p s m args meth c G RX3 cX3_readOrder 1 (some .boolean)) {q : Nat} (hq : z_is q 3)   (μ : zMem)  (hf : fX3_readOrder_137  K q  μ) : za_At p l e (z_rm 4 84) s m args below meth c (MQ below (zQi G K) args s 0 0 (zA G)) G 1 0 0 137 [] [] μ := by
  unfold fX3_readOrder_137 at hf
  refine za_iconst (v := (0 : Int32)) o dX3_readOrder_137 (by decide) ?_
  exact tX3_readOrder_138 o hq  (0 : Int32) μ  hf
set_option maxRecDepth 100000 in
set_option maxHeartbeats 4000000 in
theorem tX3_readOrder_175 {p : Program} {l : Launch} {e : Env} {s : State} {m : MethodId} {args : Array Value} {below : List Frame} {meth : Method} {c : Code} {G : zG}  {K : Int32 → zMem → Prop} (o : za_Ok (z_rm 4 84) 0 0 p s m args meth c G RX3 cX3_readOrder 1 (some .boolean)) {q : Nat} (hq : z_is q 3)  (v1 : Int32) (μ : zMem)  (hf : fX3_readOrder_175  K q v1 μ) : za_At p l e (z_rm 4 84) s m args below meth c (MQ below (zQi G K) args s 0 0 (zA G)) G 1 0 0 175 [] [.int v1] μ := by
  unfold fX3_readOrder_175 at hf
  exact za_zret o rfl hf.1 hf.2 dX3_readOrder_175
set_option maxRecDepth 100000 in
set_option maxHeartbeats 4000000 in
theorem tX3_readOrder_174 {p : Program} {l : Launch} {e : Env} {s : State} {m : MethodId} {args : Array Value} {below : List Frame} {meth : Method} {c : Code} {G : zG}  {K : Int32 → zMem → Prop} (o : za_Ok (z_rm 4 84) 0 0 p s m args meth c G RX3 cX3_readOrder 1 (some .boolean)) {q : Nat} (hq : z_is q 3)   (μ : zMem)  (hf : fX3_readOrder_174  K q  μ) : za_At p l e (z_rm 4 84) s m args below meth c (MQ below (zQi G K) args s 0 0 (zA G)) G 1 0 0 174 [] [] μ := by
  unfold fX3_readOrder_174 at hf
  refine za_iconst (v := (0 : Int32)) o dX3_readOrder_174 (by decide) ?_
  exact tX3_readOrder_175 o hq  (0 : Int32) μ  hf
set_option maxRecDepth 100000 in
set_option maxHeartbeats 4000000 in
theorem tX3_readOrder_212 {p : Program} {l : Launch} {e : Env} {s : State} {m : MethodId} {args : Array Value} {below : List Frame} {meth : Method} {c : Code} {G : zG}  {K : Int32 → zMem → Prop} (o : za_Ok (z_rm 4 84) 0 0 p s m args meth c G RX3 cX3_readOrder 1 (some .boolean)) {q : Nat} (hq : z_is q 3)  (v1 : Int32) (μ : zMem)  (hf : fX3_readOrder_212  K q v1 μ) : za_At p l e (z_rm 4 84) s m args below meth c (MQ below (zQi G K) args s 0 0 (zA G)) G 1 0 0 212 [] [.int v1] μ := by
  unfold fX3_readOrder_212 at hf
  exact za_zret o rfl hf.1 hf.2 dX3_readOrder_212
set_option maxRecDepth 100000 in
set_option maxHeartbeats 4000000 in
theorem tX3_readOrder_207 {p : Program} {l : Launch} {e : Env} {s : State} {m : MethodId} {args : Array Value} {below : List Frame} {meth : Method} {c : Code} {G : zG}  {K : Int32 → zMem → Prop} (o : za_Ok (z_rm 4 84) 0 0 p s m args meth c G RX3 cX3_readOrder 1 (some .boolean)) {q : Nat} (hq : z_is q 3)   (μ : zMem)  (hf : fX3_readOrder_207  K q  μ) : za_At p l e (z_rm 4 84) s m args below meth c (MQ below (zQi G K) args s 0 0 (zA G)) G 1 0 0 207 [] [] μ := by
  unfold fX3_readOrder_207 at hf
  refine za_iconst (v := (1 : Int32)) o dX3_readOrder_207 (by decide) ?_
  refine za_goto o 212 dX3_readOrder_208 (by decide) ?_
  exact tX3_readOrder_212 o hq  (1 : Int32) μ  hf
set_option maxRecDepth 100000 in
set_option maxHeartbeats 4000000 in
theorem tX3_readOrder_211 {p : Program} {l : Launch} {e : Env} {s : State} {m : MethodId} {args : Array Value} {below : List Frame} {meth : Method} {c : Code} {G : zG}  {K : Int32 → zMem → Prop} (o : za_Ok (z_rm 4 84) 0 0 p s m args meth c G RX3 cX3_readOrder 1 (some .boolean)) {q : Nat} (hq : z_is q 3)   (μ : zMem)  (hf : fX3_readOrder_211  K q  μ) : za_At p l e (z_rm 4 84) s m args below meth c (MQ below (zQi G K) args s 0 0 (zA G)) G 1 0 0 211 [] [] μ := by
  unfold fX3_readOrder_211 at hf
  refine za_iconst (v := (0 : Int32)) o dX3_readOrder_211 (by decide) ?_
  exact tX3_readOrder_212 o hq  (0 : Int32) μ  hf
set_option maxRecDepth 100000 in
set_option maxHeartbeats 4000000 in
theorem ctX3_readOrder (l : Launch) (G : zG) {q : Nat} (hq : z_is q 3)   (μ : zMem) (K : Int32 → zMem → Prop) (hf : fX3_readOrder q  μ K) : z_Met l G yX3_readOrder cX3_readOrder 1 (some .boolean) (z_rm 4 84) [.ref (G.2.2 + q)] μ K := by
  refine z_body (by decide) (Nat.le_of_ble_eq_true rfl) (fun p e s m args below meth c o => ?_)
  have o : za_Ok (z_rm 4 84) 0 0 p s m args meth c G RX3 cX3_readOrder 1 (some .boolean) := o
  show za_At p l e (z_rm 4 84) s m args below meth c (MQ below (zQi G K) args s 0 0 (zA G)) G 1 0 0 0 [(0, .ref (G.2.2 + q))] [] μ
  unfold fX3_readOrder at hf
  refine za_aload_n o 0 dX3_readOrder_0 rfl rfl ?_
  refine za_aload_n o 0 dX3_readOrder_1 rfl rfl ?_
  refine za_getf o 0 zc3 hq (Nat.le_of_ble_eq_true rfl) wfX3_9 rfl dX3_readOrder_2 ?_
  refine za_aload_n o 0 dX3_readOrder_5 rfl rfl ?_
  refine za_getf o 1 zc3 hq (Nat.le_of_ble_eq_true rfl) wfX3_15 rfl dX3_readOrder_6 ?_
  refine za_callVi o [.int (μ q 1)] (ctX4_at l G zk_c4 (μ q 1)  μ _ hf) zc4 zk_c4 mwX4_at wmX3_36 wiX4_at wsX4_at rfl ⟨Nat.le_of_ble_eq_true rfl, Nat.le_of_ble_eq_true rfl⟩ rfl (Nat.le_of_ble_eq_true rfl) dX3_readOrder_9 (fun r1 m2 hf => ?_)
  refine za_putf (ty := .int) o 2 zc3 hq (Nat.le_of_ble_eq_true rfl) wfX3_40 rfl (by decide +kernel) rfl rfl (Nat.le_of_ble_eq_true rfl) rfl dX3_readOrder_12 ?_
  refine za_mem (fun m3 em3 => ?_)
  replace hf := hf m3 em3
  refine za_aload_n o 0 dX3_readOrder_15 rfl rfl ?_
  refine za_bipush (v := (-6 : Int32)) o dX3_readOrder_16 (by decide) ?_
  refine za_putf (ty := .int) o 5 zc3 hq (Nat.le_of_ble_eq_true rfl) wfX3_43 rfl (by decide +kernel) rfl rfl (Nat.le_of_ble_eq_true rfl) rfl dX3_readOrder_18 ?_
  refine za_mem (fun m4 em4 => ?_)
  replace hf := hf m4 em4
  refine za_aload_n o 0 dX3_readOrder_21 rfl rfl ?_
  refine za_iconst (v := (0 : Int32)) o dX3_readOrder_22 (by decide) ?_
  refine za_putf (ty := .int) o 6 zc3 hq (Nat.le_of_ble_eq_true rfl) wfX3_46 rfl (by decide +kernel) rfl rfl (Nat.le_of_ble_eq_true rfl) rfl dX3_readOrder_23 ?_
  refine za_mem (fun m5 em5 => ?_)
  replace hf := hf m5 em5
  refine za_aload_n o 0 dX3_readOrder_26 rfl rfl ?_
  refine za_getf o 2 zc3 hq (Nat.le_of_ble_eq_true rfl) wfX3_40 rfl dX3_readOrder_27 ?_
  by_cases c6 : (m5 q 2) = (99 : Int32)
  · replace hf := hf.1 c6
    refine za_lsw o 176 dX3_readOrder_30 (by decide) (by first | (rw [c6]; done) | (rw [c6]; rfl)) (by decide) ?_
    refine za_aload_n o 0 dX3_readOrder_176 rfl rfl ?_
    refine za_dup o dX3_readOrder_177 rfl ?_
    refine za_getf o 1 zc3 hq (Nat.le_of_ble_eq_true rfl) wfX3_15 rfl dX3_readOrder_178 ?_
    refine za_iconst (v := (1 : Int32)) o dX3_readOrder_181 (by decide) ?_
    refine za_iadd o dX3_readOrder_182 ?_
    refine za_topi (fun x7 ex7 => ?_)
    replace hf := hf x7 ex7
    refine za_putf (ty := .int) o 1 zc3 hq (Nat.le_of_ble_eq_true rfl) wfX3_15 rfl (by decide +kernel) rfl rfl (Nat.le_of_ble_eq_true rfl) rfl dX3_readOrder_183 ?_
    refine za_mem (fun m8 em8 => ?_)
    replace hf := hf m8 em8
    refine za_aload_n o 0 dX3_readOrder_186 rfl rfl ?_
    refine za_callVi o [] (ctX3_readPerson l G hq   m8 _ hf) zc3 hq mwX3_readPerson wmX3_49 wiX3_readPerson wsX3_readPerson rfl ⟨Nat.le_of_ble_eq_true rfl, Nat.le_of_ble_eq_true rfl⟩ rfl (Nat.le_of_ble_eq_true rfl) dX3_readOrder_187 (fun r9 m10 hf => ?_)
    refine za_if_eq o 211 dX3_readOrder_190 (by decide) (fun c11 => ?_) (fun c11 => ?_)
    · replace hf := hf.1 c11
      refine za_sub [] rfl ?_
      exact tX3_readOrder_211 o hq   m10  hf
    · replace hf := hf.2 c11
      refine za_aload_n o 0 dX3_readOrder_193 rfl rfl ?_
      refine za_callVi o [] (ctX3_isOrderOver l G hq   m10 _ hf) zc3 hq mwX3_isOrderOver wmX3_61 wiX3_isOrderOver wsX3_isOrderOver rfl ⟨Nat.le_of_ble_eq_true rfl, Nat.le_of_ble_eq_true rfl⟩ rfl (Nat.le_of_ble_eq_true rfl) dX3_readOrder_194 (fun r12 m13 hf => ?_)
      refine za_if_ne o 207 dX3_readOrder_197 (by decide) (fun c14 => ?_) (fun c14 => ?_)
      · replace hf := hf.1 c14
        refine za_sub [] rfl ?_
        exact tX3_readOrder_207 o hq   m13  hf
      · replace hf := hf.2 c14
        refine za_aload_n o 0 dX3_readOrder_200 rfl rfl ?_
        refine za_callVi o [] (ctX3_readDish l G hq   m13 _ hf) zc3 hq mwX3_readDish wmX3_55 wiX3_readDish wsX3_readDish rfl ⟨Nat.le_of_ble_eq_true rfl, Nat.le_of_ble_eq_true rfl⟩ rfl (Nat.le_of_ble_eq_true rfl) dX3_readOrder_201 (fun r15 m16 hf => ?_)
        refine za_if_eq o 211 dX3_readOrder_204 (by decide) (fun c17 => ?_) (fun c17 => ?_)
        · replace hf := hf.1 c17
          refine za_sub [] rfl ?_
          exact tX3_readOrder_211 o hq   m16  hf
        · replace hf := hf.2 c17
          refine za_sub [] rfl ?_
          exact tX3_readOrder_207 o hq   m16  hf
  · replace hf := hf.2 c6
    by_cases c18 : (m5 q 2) = (107 : Int32)
    · replace hf := hf.1 c18
      refine za_lsw o 88 dX3_readOrder_30 (by decide) (by first | (rw [c18]; done) | (rw [c18]; rfl)) (by decide) ?_
      refine za_aload_n o 0 dX3_readOrder_88 rfl rfl ?_
      refine za_dup o dX3_readOrder_89 rfl ?_
      refine za_getf o 1 zc3 hq (Nat.le_of_ble_eq_true rfl) wfX3_15 rfl dX3_readOrder_90 ?_
      refine za_iconst (v := (1 : Int32)) o dX3_readOrder_93 (by decide) ?_
      refine za_iadd o dX3_readOrder_94 ?_
      refine za_topi (fun x19 ex19 => ?_)
      replace hf := hf x19 ex19
      refine za_putf (ty := .int) o 1 zc3 hq (Nat.le_of_ble_eq_true rfl) wfX3_15 rfl (by decide +kernel) rfl rfl (Nat.le_of_ble_eq_true rfl) rfl dX3_readOrder_95 ?_
      refine za_mem (fun m20 em20 => ?_)
      replace hf := hf m20 em20
      refine za_iconst (v := (1 : Int32)) o dX3_readOrder_98 (by decide) ?_
      exact za_zret o rfl z_b1 hf dX3_readOrder_99
    · replace hf := hf.2 c18
      by_cases c21 : (m5 q 2) = (111 : Int32)
      · replace hf := hf.1 c21
        refine za_lsw o 139 dX3_readOrder_30 (by decide) (by first | (rw [c21]; done) | (rw [c21]; rfl)) (by decide) ?_
        refine za_aload_n o 0 dX3_readOrder_139 rfl rfl ?_
        refine za_dup o dX3_readOrder_140 rfl ?_
        refine za_getf o 1 zc3 hq (Nat.le_of_ble_eq_true rfl) wfX3_15 rfl dX3_readOrder_141 ?_
        refine za_iconst (v := (1 : Int32)) o dX3_readOrder_144 (by decide) ?_
        refine za_iadd o dX3_readOrder_145 ?_
        refine za_topi (fun x22 ex22 => ?_)
        replace hf := hf x22 ex22
        refine za_putf (ty := .int) o 1 zc3 hq (Nat.le_of_ble_eq_true rfl) wfX3_15 rfl (by decide +kernel) rfl rfl (Nat.le_of_ble_eq_true rfl) rfl dX3_readOrder_146 ?_
        refine za_mem (fun m23 em23 => ?_)
        replace hf := hf m23 em23
        refine za_aload_n o 0 dX3_readOrder_149 rfl rfl ?_
        refine za_callVi o [] (ctX3_readPerson l G hq   m23 _ hf) zc3 hq mwX3_readPerson wmX3_49 wiX3_readPerson wsX3_readPerson rfl ⟨Nat.le_of_ble_eq_true rfl, Nat.le_of_ble_eq_true rfl⟩ rfl (Nat.le_of_ble_eq_true rfl) dX3_readOrder_150 (fun r24 m25 hf => ?_)
        refine za_if_eq o 174 dX3_readOrder_153 (by decide) (fun c26 => ?_) (fun c26 => ?_)
        · replace hf := hf.1 c26
          refine za_sub [] rfl ?_
          exact tX3_readOrder_174 o hq   m25  hf
        · replace hf := hf.2 c26
          refine za_aload_n o 0 dX3_readOrder_156 rfl rfl ?_
          refine za_callVi o [] (ctX3_readDish l G hq   m25 _ hf) zc3 hq mwX3_readDish wmX3_55 wiX3_readDish wsX3_readDish rfl ⟨Nat.le_of_ble_eq_true rfl, Nat.le_of_ble_eq_true rfl⟩ rfl (Nat.le_of_ble_eq_true rfl) dX3_readOrder_157 (fun r27 m28 hf => ?_)
          refine za_if_eq o 174 dX3_readOrder_160 (by decide) (fun c29 => ?_) (fun c29 => ?_)
          · replace hf := hf.1 c29
            refine za_sub [] rfl ?_
            exact tX3_readOrder_174 o hq   m28  hf
          · replace hf := hf.2 c29
            refine za_aload_n o 0 dX3_readOrder_163 rfl rfl ?_
            refine za_callVi o [] (ctX3_readAhead l G hq   m28 _ hf) zc3 hq mwX3_readAhead wmX3_58 wiX3_readAhead wsX3_readAhead rfl ⟨Nat.le_of_ble_eq_true rfl, Nat.le_of_ble_eq_true rfl⟩ rfl (Nat.le_of_ble_eq_true rfl) dX3_readOrder_164 (fun r30 m31 hf => ?_)
            refine za_if_eq o 174 dX3_readOrder_167 (by decide) (fun c32 => ?_) (fun c32 => ?_)
            · replace hf := hf.1 c32
              refine za_sub [] rfl ?_
              exact tX3_readOrder_174 o hq   m31  hf
            · replace hf := hf.2 c32
              refine za_iconst (v := (1 : Int32)) o dX3_readOrder_170 (by decide) ?_
              refine za_goto o 175 dX3_readOrder_171 (by decide) ?_
              refine za_sub [] rfl ?_
              exact tX3_readOrder_175 o hq  (1 : Int32) m31  hf
      · replace hf := hf.2 c21
        by_cases c33 : (m5 q 2) = (112 : Int32)
        · replace hf := hf.1 c33
          refine za_lsw o 88 dX3_readOrder_30 (by decide) (by first | (rw [c33]; done) | (rw [c33]; rfl)) (by decide) ?_
          refine za_aload_n o 0 dX3_readOrder_88 rfl rfl ?_
          refine za_dup o dX3_readOrder_89 rfl ?_
          refine za_getf o 1 zc3 hq (Nat.le_of_ble_eq_true rfl) wfX3_15 rfl dX3_readOrder_90 ?_
          refine za_iconst (v := (1 : Int32)) o dX3_readOrder_93 (by decide) ?_
          refine za_iadd o dX3_readOrder_94 ?_
          refine za_topi (fun x34 ex34 => ?_)
          replace hf := hf x34 ex34
          refine za_putf (ty := .int) o 1 zc3 hq (Nat.le_of_ble_eq_true rfl) wfX3_15 rfl (by decide +kernel) rfl rfl (Nat.le_of_ble_eq_true rfl) rfl dX3_readOrder_95 ?_
          refine za_mem (fun m35 em35 => ?_)
          replace hf := hf m35 em35
          refine za_iconst (v := (1 : Int32)) o dX3_readOrder_98 (by decide) ?_
          exact za_zret o rfl z_b1 hf dX3_readOrder_99
        · replace hf := hf.2 c33
          by_cases c36 : (m5 q 2) = (118 : Int32)
          · replace hf := hf.1 c36
            refine za_lsw o 100 dX3_readOrder_30 (by decide) (by first | (rw [c36]; done) | (rw [c36]; rfl)) (by decide) ?_
            refine za_aload_n o 0 dX3_readOrder_100 rfl rfl ?_
            refine za_dup o dX3_readOrder_101 rfl ?_
            refine za_getf o 1 zc3 hq (Nat.le_of_ble_eq_true rfl) wfX3_15 rfl dX3_readOrder_102 ?_
            refine za_iconst (v := (1 : Int32)) o dX3_readOrder_105 (by decide) ?_
            refine za_iadd o dX3_readOrder_106 ?_
            refine za_topi (fun x37 ex37 => ?_)
            replace hf := hf x37 ex37
            refine za_putf (ty := .int) o 1 zc3 hq (Nat.le_of_ble_eq_true rfl) wfX3_15 rfl (by decide +kernel) rfl rfl (Nat.le_of_ble_eq_true rfl) rfl dX3_readOrder_107 ?_
            refine za_mem (fun m38 em38 => ?_)
            replace hf := hf m38 em38
            refine za_aload_n o 0 dX3_readOrder_110 rfl rfl ?_
            refine za_callVi o [] (ctX3_readPerson l G hq   m38 _ hf) zc3 hq mwX3_readPerson wmX3_49 wiX3_readPerson wsX3_readPerson rfl ⟨Nat.le_of_ble_eq_true rfl, Nat.le_of_ble_eq_true rfl⟩ rfl (Nat.le_of_ble_eq_true rfl) dX3_readOrder_111 (fun r39 m40 hf => ?_)
            refine za_if_eq o 137 dX3_readOrder_114 (by decide) (fun c41 => ?_) (fun c41 => ?_)
            · replace hf := hf.1 c41
              refine za_sub [] rfl ?_
              exact tX3_readOrder_137 o hq   m40  hf
            · replace hf := hf.2 c41
              refine za_aload_n o 0 dX3_readOrder_117 rfl rfl ?_
              refine za_bipush (v := (43 : Int32)) o dX3_readOrder_118 (by decide) ?_
              refine za_callVi o [.int (43 : Int32)] (ctX3_take l G hq (43 : Int32)  m40 _ hf) zc3 hq mwX3_take wmX3_32 wiX3_take wsX3_take rfl ⟨Nat.le_of_ble_eq_true rfl, Nat.le_of_ble_eq_true rfl⟩ rfl (Nat.le_of_ble_eq_true rfl) dX3_readOrder_120 (fun r42 m43 hf => ?_)
              refine za_if_eq o 137 dX3_readOrder_123 (by decide) (fun c44 => ?_) (fun c44 => ?_)
              · replace hf := hf.1 c44
                refine za_sub [] rfl ?_
                exact tX3_readOrder_137 o hq   m43  hf
              · replace hf := hf.2 c44
                refine za_aload_n o 0 dX3_readOrder_126 rfl rfl ?_
                refine za_callVi o [] (ctX3_readMany l G hq   m43 _ hf) zc3 hq mwX3_readMany wmX3_52 wiX3_readMany wsX3_readMany rfl ⟨Nat.le_of_ble_eq_true rfl, Nat.le_of_ble_eq_true rfl⟩ rfl (Nat.le_of_ble_eq_true rfl) dX3_readOrder_127 (fun r45 m46 hf => ?_)
                refine za_if_eq o 137 dX3_readOrder_130 (by decide) (fun c47 => ?_) (fun c47 => ?_)
                · replace hf := hf.1 c47
                  refine za_sub [] rfl ?_
                  exact tX3_readOrder_137 o hq   m46  hf
                · replace hf := hf.2 c47
                  refine za_iconst (v := (1 : Int32)) o dX3_readOrder_133 (by decide) ?_
                  refine za_goto o 138 dX3_readOrder_134 (by decide) ?_
                  refine za_sub [] rfl ?_
                  exact tX3_readOrder_138 o hq  (1 : Int32) m46  hf
          · replace hf := hf.2 c36
            by_cases c48 : (m5 q 2) = (120 : Int32)
            · replace hf := hf.1 c48
              refine za_lsw o 88 dX3_readOrder_30 (by decide) (by first | (rw [c48]; done) | (rw [c48]; rfl)) (by decide) ?_
              refine za_aload_n o 0 dX3_readOrder_88 rfl rfl ?_
              refine za_dup o dX3_readOrder_89 rfl ?_
              refine za_getf o 1 zc3 hq (Nat.le_of_ble_eq_true rfl) wfX3_15 rfl dX3_readOrder_90 ?_
              refine za_iconst (v := (1 : Int32)) o dX3_readOrder_93 (by decide) ?_
              refine za_iadd o dX3_readOrder_94 ?_
              refine za_topi (fun x49 ex49 => ?_)
              replace hf := hf x49 ex49
              refine za_putf (ty := .int) o 1 zc3 hq (Nat.le_of_ble_eq_true rfl) wfX3_15 rfl (by decide +kernel) rfl rfl (Nat.le_of_ble_eq_true rfl) rfl dX3_readOrder_95 ?_
              refine za_mem (fun m50 em50 => ?_)
              replace hf := hf m50 em50
              refine za_iconst (v := (1 : Int32)) o dX3_readOrder_98 (by decide) ?_
              exact za_zret o rfl z_b1 hf dX3_readOrder_99
            · replace hf := hf.2 c48
              refine za_lsw (off := (183 : Int)) o 213 dX3_readOrder_30 (by decide) ((lv_osw (k := (99 : Int32)) c6 rfl).trans ((lv_osw (k := (107 : Int32)) c18 rfl).trans ((lv_osw (k := (111 : Int32)) c21 rfl).trans ((lv_osw (k := (112 : Int32)) c33 rfl).trans ((lv_osw (k := (118 : Int32)) c36 rfl).trans ((lv_osw (k := (120 : Int32)) c48 rfl).trans rfl)))))) (by decide) ?_
              refine za_iconst (v := (0 : Int32)) o dX3_readOrder_213 (by decide) ?_
              exact za_zret o rfl z_b0 hf dX3_readOrder_214
def fX3_start (q : Nat)  (μ : zMem) (K : zMem → Prop) : Prop :=
  (∀ m1 : zMem, m1 = z_up μ q 1 (0 : Int32) → K m1)
set_option maxRecDepth 100000 in
set_option maxHeartbeats 4000000 in
theorem ctX3_start (l : Launch) (G : zG) {q : Nat} (hq : z_is q 3)   (μ : zMem) (K : zMem → Prop) (hf : fX3_start q  μ K) : z_MetV l G yX3_start cX3_start 1 none (z_rm 0 0) [.ref (G.2.2 + q)] μ K := by
  refine z_body (by decide) (Nat.le_of_ble_eq_true rfl) (fun p e s m args below meth c o => ?_)
  have o : za_Ok (z_rm 0 0) 0 0 p s m args meth c G RX3 cX3_start 1 none := o
  show za_At p l e (z_rm 0 0) s m args below meth c (MQ below (zQv G K) args s 0 0 (zA G)) G 1 0 0 0 [(0, .ref (G.2.2 + q))] [] μ
  unfold fX3_start at hf
  refine za_aload_n o 0 dX3_start_0 rfl rfl ?_
  refine za_iconst (v := (0 : Int32)) o dX3_start_1 (by decide) ?_
  refine za_putf (ty := .int) o 1 zc3 hq (Nat.le_of_ble_eq_true rfl) wfX3_15 rfl (by decide +kernel) rfl rfl (Nat.le_of_ble_eq_true rfl) rfl dX3_start_2 ?_
  refine za_mem (fun m1 em1 => ?_)
  replace hf := hf m1 em1
  exact za_vret o rfl hf dX3_start_5
def fX3_firstFault_6b (k6 : Int32 → zMem → Prop) (K : Int32 → zMem → Prop) (q : Nat) (v1 : Int32) (μ : zMem) : Prop :=
  (((80 : Int32) ≤ v1 → K (μ q 1) μ) ∧ (¬ (80 : Int32) ≤ v1 → fX3_readOrder q  μ (fun r2 m3 => ((¬ r2 = 0 → fX4_length 526  m3 (fun r5 m6 => (((m3 q 1) < r5 → fX3_take q (59 : Int32) m6 (fun r8 m9 => ((¬ r8 = 0 → (∀ x11 : Int32, x11 = v1 + (1 : Int32) → k6 x11 m9)) ∧ (r8 = 0 → K (m9 q 1) m9)))) ∧ (¬ (m3 q 1) < r5 → K (-6 : Int32) m6)))) ∧ (r2 = 0 → K (m3 q 1) m3)))))
def fX3_firstFault_6  (K : Int32 → zMem → Prop) (q : Nat) (n : Nat) : Int32 → zMem → Prop := z_it (fun k => fX3_firstFault_6b  k K q ) (fun _ _ => False) n
def fX3_firstFault (q : Nat)  (μ : zMem) (K : Int32 → zMem → Prop) : Prop :=
  fX3_start q  μ (fun m13 => fX3_firstFault_6  K q zFU (0 : Int32) m13)
set_option maxRecDepth 100000 in
set_option maxHeartbeats 4000000 in
theorem tX3_firstFault_6b {p : Program} {l : Launch} {e : Env} {s : State} {m : MethodId} {args : Array Value} {below : List Frame} {meth : Method} {c : Code} {G : zG} {k6 : Int32 → zMem → Prop} {K : Int32 → zMem → Prop} (o : za_Ok (z_rm 5 104) 0 0 p s m args meth c G RX3 cX3_firstFault 2 (some .int)) {q : Nat} (hq : z_is q 3) (hk6 : ∀ (v1 : Int32) (μ : zMem), k6 v1 μ → za_At p l e (z_rm 5 104) s m args below meth c (MQ below (zQi G K) args s 0 0 (zA G)) G 2 0 0 6 [(0, .ref (G.2.2 + q)), (1, .int v1)] [] μ) (v1 : Int32) (μ : zMem)  (hf : fX3_firstFault_6b k6 K q v1 μ) : za_At p l e (z_rm 5 104) s m args below meth c (MQ below (zQi G K) args s 0 0 (zA G)) G 2 0 0 6 [(0, .ref (G.2.2 + q)), (1, .int v1)] [] μ := by
  unfold fX3_firstFault_6b at hf
  refine za_iload_n o 1 dX3_firstFault_6 rfl rfl ?_
  refine za_bipush (v := (80 : Int32)) o dX3_firstFault_7 (by decide) ?_
  refine za_icmp_ge o 61 dX3_firstFault_9 (by decide) (fun c1 => ?_) (fun c1 => ?_)
  · replace hf := hf.1 c1
    refine za_aload_n o 0 dX3_firstFault_61 rfl rfl ?_
    refine za_getf o 1 zc3 hq (Nat.le_of_ble_eq_true rfl) wfX3_15 rfl dX3_firstFault_62 ?_
    exact za_iret o rfl hf dX3_firstFault_65
  · replace hf := hf.2 c1
    refine za_aload_n o 0 dX3_firstFault_12 rfl rfl ?_
    refine za_callVi o [] (ctX3_readOrder l G hq   μ _ hf) zc3 hq mwX3_readOrder wmX3_22 wiX3_readOrder wsX3_readOrder rfl ⟨Nat.le_of_ble_eq_true rfl, Nat.le_of_ble_eq_true rfl⟩ rfl (Nat.le_of_ble_eq_true rfl) dX3_firstFault_13 (fun r2 m3 hf => ?_)
    refine za_if_ne o 24 dX3_firstFault_16 (by decide) (fun c4 => ?_) (fun c4 => ?_)
    · replace hf := hf.1 c4
      refine za_aload_n o 0 dX3_firstFault_24 rfl rfl ?_
      refine za_getf o 1 zc3 hq (Nat.le_of_ble_eq_true rfl) wfX3_15 rfl dX3_firstFault_25 ?_
      refine za_aload_n o 0 dX3_firstFault_28 rfl rfl ?_
      refine za_getf o 0 zc3 hq (Nat.le_of_ble_eq_true rfl) wfX3_9 rfl dX3_firstFault_29 ?_
      refine za_callVi o [] (ctX4_length l G zk_c4   m3 _ hf) zc4 zk_c4 mwX4_length wmX3_26 wiX4_length wsX4_length rfl ⟨Nat.le_of_ble_eq_true rfl, Nat.le_of_ble_eq_true rfl⟩ rfl (Nat.le_of_ble_eq_true rfl) dX3_firstFault_32 (fun r5 m6 hf => ?_)
      refine za_icmp_lt o 41 dX3_firstFault_35 (by decide) (fun c7 => ?_) (fun c7 => ?_)
      · replace hf := hf.1 c7
        refine za_aload_n o 0 dX3_firstFault_41 rfl rfl ?_
        refine za_bipush (v := (59 : Int32)) o dX3_firstFault_42 (by decide) ?_
        refine za_callVi o [.int (59 : Int32)] (ctX3_take l G hq (59 : Int32)  m6 _ hf) zc3 hq mwX3_take wmX3_32 wiX3_take wsX3_take rfl ⟨Nat.le_of_ble_eq_true rfl, Nat.le_of_ble_eq_true rfl⟩ rfl (Nat.le_of_ble_eq_true rfl) dX3_firstFault_44 (fun r8 m9 hf => ?_)
        refine za_if_ne o 55 dX3_firstFault_47 (by decide) (fun c10 => ?_) (fun c10 => ?_)
        · replace hf := hf.1 c10
          obtain ⟨x11, ex11⟩ : ∃ y : Int32, y = v1 + (1 : Int32) := ⟨_, rfl⟩
          replace hf := hf x11 ex11
          refine za_iinc o x11 1 [(1, .int x11), (0, .ref (G.2.2 + q))] dX3_firstFault_55 rfl (by rw [ex11]; rfl) (by decide) rfl ?_
          refine za_goto o 6 dX3_firstFault_58 (by decide) ?_
          refine za_sub [1, 0] rfl ?_
          exact hk6 x11 m9  hf
        · replace hf := hf.2 c10
          refine za_aload_n o 0 dX3_firstFault_50 rfl rfl ?_
          refine za_getf o 1 zc3 hq (Nat.le_of_ble_eq_true rfl) wfX3_15 rfl dX3_firstFault_51 ?_
          exact za_iret o rfl hf dX3_firstFault_54
      · replace hf := hf.2 c7
        refine za_bipush (v := (-6 : Int32)) o dX3_firstFault_38 (by decide) ?_
        exact za_iret o rfl hf dX3_firstFault_40
    · replace hf := hf.2 c4
      refine za_aload_n o 0 dX3_firstFault_19 rfl rfl ?_
      refine za_getf o 1 zc3 hq (Nat.le_of_ble_eq_true rfl) wfX3_15 rfl dX3_firstFault_20 ?_
      exact za_iret o rfl hf dX3_firstFault_23
theorem tX3_firstFault_6 {p : Program} {l : Launch} {e : Env} {s : State} {m : MethodId} {args : Array Value} {below : List Frame} {meth : Method} {c : Code} {G : zG}  {K : Int32 → zMem → Prop} (o : za_Ok (z_rm 5 104) 0 0 p s m args meth c G RX3 cX3_firstFault 2 (some .int)) {q : Nat} (hq : z_is q 3)  (n : Nat) : ∀ (v1 : Int32) (μ : zMem), fX3_firstFault_6  K q n v1 μ → za_At p l e (z_rm 5 104) s m args below meth c (MQ below (zQi G K) args s 0 0 (zA G)) G 2 0 0 6 [(0, .ref (G.2.2 + q)), (1, .int v1)] [] μ := by
  induction n with
  | zero => intro _ _ hf; exact hf.elim
  | succ n ih => intro v1 μ  hf; exact tX3_firstFault_6b o hq  ih v1 μ  hf
set_option maxRecDepth 100000 in
set_option maxHeartbeats 4000000 in
theorem ctX3_firstFault (l : Launch) (G : zG) {q : Nat} (hq : z_is q 3)   (μ : zMem) (K : Int32 → zMem → Prop) (hf : fX3_firstFault q  μ K) : z_Met l G yX3_firstFault cX3_firstFault 2 (some .int) (z_rm 5 104) [.ref (G.2.2 + q)] μ K := by
  refine z_body (by decide) (Nat.le_of_ble_eq_true rfl) (fun p e s m args below meth c o => ?_)
  have o : za_Ok (z_rm 5 104) 0 0 p s m args meth c G RX3 cX3_firstFault 2 (some .int) := o
  show za_At p l e (z_rm 5 104) s m args below meth c (MQ below (zQi G K) args s 0 0 (zA G)) G 2 0 0 0 [(0, .ref (G.2.2 + q))] [] μ
  unfold fX3_firstFault at hf
  refine za_aload_n o 0 dX3_firstFault_0 rfl rfl ?_
  refine za_callVv o [] (ctX3_start l G hq   μ _ hf) zc3 hq mwX3_start wmX3_19 wiX3_start wsX3_start rfl ⟨Nat.le_of_ble_eq_true rfl, Nat.le_of_ble_eq_true rfl⟩ rfl (Nat.le_of_ble_eq_true rfl) dX3_firstFault_1 (fun m13 hf => ?_)
  refine za_iconst (v := (0 : Int32)) o dX3_firstFault_4 (by decide) ?_
  refine za_istore_n o [(1, .int (0 : Int32)), (0, .ref (G.2.2 + q))] dX3_firstFault_5 rfl (by decide) rfl ?_
  refine za_sub [1, 0] rfl ?_
  exact tX3_firstFault_6 o hq  zFU (0 : Int32) m13  hf
def fX7_fault (q : Nat)  (μ : zMem) (K : Int32 → zMem → Prop) : Prop :=
  fX3_firstFault 528  μ (fun r1 m2 => K r1 m2)
set_option maxRecDepth 100000 in
set_option maxHeartbeats 4000000 in
theorem ctX7_fault (l : Launch) (G : zG) {q : Nat} (hq : z_is q 7)   (μ : zMem) (K : Int32 → zMem → Prop) (hf : fX7_fault q  μ K) : z_Met l G yX7_fault cX7_fault 1 (some .int) (z_rm 6 125) [.ref (G.2.2 + q)] μ K := by
  refine z_body (by decide) (Nat.le_of_ble_eq_true rfl) (fun p e s m args below meth c o => ?_)
  have o : za_Ok (z_rm 6 125) 0 0 p s m args meth c G RX7 cX7_fault 1 (some .int) := o
  show za_At p l e (z_rm 6 125) s m args below meth c (MQ below (zQi G K) args s 0 0 (zA G)) G 1 0 0 0 [(0, .ref (G.2.2 + q))] [] μ
  unfold fX7_fault at hf
  refine za_aload_n o 0 dX7_fault_0 rfl rfl ?_
  refine za_getf o 4 zc7 hq (Nat.le_of_ble_eq_true rfl) wfX7_42 rfl dX7_fault_1 ?_
  refine za_callVi o [] (ctX3_firstFault l G zk_c3   μ _ hf) zc3 zk_c3 mwX3_firstFault wmX7_122 wiX3_firstFault wsX3_firstFault rfl ⟨Nat.le_of_ble_eq_true rfl, Nat.le_of_ble_eq_true rfl⟩ rfl (Nat.le_of_ble_eq_true rfl) dX7_fault_4 (fun r1 m2 hf => ?_)
  exact za_iret o rfl hf dX7_fault_7
def fX7_carryOutOne_173  (K : Int32 → zMem → Prop) (q : Nat) (v1 : Int32) (μ : zMem) : Prop :=
  K v1 μ
def fX7_carryOutOne (q : Nat)  (μ : zMem) (K : Int32 → zMem → Prop) : Prop :=
  (((μ 528 2) = (99 : Int32) → ((¬ (μ 528 5) = (-6 : Int32) → fX0_sell 1 (μ 528 3) (μ 528 5) μ (fun r3 m4 => fX7_carryOutOne_173  K q r3 m4)) ∧ ((μ 528 5) = (-6 : Int32) → fX0_serve 1 (μ 528 3) μ (fun r5 m6 => fX7_carryOutOne_173  K q r5 m6)))) ∧ (¬ (μ 528 2) = (99 : Int32) → (((μ 528 2) = (107 : Int32) → fX0_cookToday 1  μ (fun r8 m9 => K r8 m9)) ∧ (¬ (μ 528 2) = (107 : Int32) → (((μ 528 2) = (111 : Int32) → fX0_takeOrder 1 (μ 528 3) (μ 528 6) (μ 528 5) μ (fun r11 m12 => K r11 m12)) ∧ (¬ (μ 528 2) = (111 : Int32) → (((μ 528 2) = (112 : Int32) → fX0_addPerson 1  μ (fun r14 m15 => K r14 m15)) ∧ (¬ (μ 528 2) = (112 : Int32) → (((μ 528 2) = (118 : Int32) → fX0_giveVouchers 1 (μ 528 3) (μ 528 4) μ (fun r17 m18 => K r17 m18)) ∧ (¬ (μ 528 2) = (118 : Int32) → (((μ 528 2) = (120 : Int32) → fX0_endDay 1  μ (fun r20 m21 => K r20 m21)) ∧ (¬ (μ 528 2) = (120 : Int32) → K (-3 : Int32) μ))))))))))))
set_option maxRecDepth 100000 in
set_option maxHeartbeats 4000000 in
theorem tX7_carryOutOne_173 {p : Program} {l : Launch} {e : Env} {s : State} {m : MethodId} {args : Array Value} {below : List Frame} {meth : Method} {c : Code} {G : zG}  {K : Int32 → zMem → Prop} (o : za_Ok (z_rm 4 87) 0 0 p s m args meth c G RX7 cX7_carryOutOne 1 (some .int)) {q : Nat} (hq : z_is q 7)  (v1 : Int32) (μ : zMem)  (hf : fX7_carryOutOne_173  K q v1 μ) : za_At p l e (z_rm 4 87) s m args below meth c (MQ below (zQi G K) args s 0 0 (zA G)) G 1 0 0 173 [] [.int v1] μ := by
  unfold fX7_carryOutOne_173 at hf
  exact za_iret o rfl hf dX7_carryOutOne_173
set_option maxRecDepth 100000 in
set_option maxHeartbeats 4000000 in
theorem ctX7_carryOutOne (l : Launch) (G : zG) {q : Nat} (hq : z_is q 7)   (μ : zMem) (K : Int32 → zMem → Prop) (hf : fX7_carryOutOne q  μ K) : z_Met l G yX7_carryOutOne cX7_carryOutOne 1 (some .int) (z_rm 4 87) [.ref (G.2.2 + q)] μ K := by
  refine z_body (by decide) (Nat.le_of_ble_eq_true rfl) (fun p e s m args below meth c o => ?_)
  have o : za_Ok (z_rm 4 87) 0 0 p s m args meth c G RX7 cX7_carryOutOne 1 (some .int) := o
  show za_At p l e (z_rm 4 87) s m args below meth c (MQ below (zQi G K) args s 0 0 (zA G)) G 1 0 0 0 [(0, .ref (G.2.2 + q))] [] μ
  unfold fX7_carryOutOne at hf
  refine za_aload_n o 0 dX7_carryOutOne_0 rfl rfl ?_
  refine za_getf o 4 zc7 hq (Nat.le_of_ble_eq_true rfl) wfX7_42 rfl dX7_carryOutOne_1 ?_
  refine za_getfN o 2 "CanteenPlates" zc3 zk_c3 (Nat.le_of_ble_eq_true rfl) wnX7_153 rfl dX7_carryOutOne_4 ?_
  by_cases c1 : (μ 528 2) = (99 : Int32)
  · replace hf := hf.1 c1
    refine za_lsw o 123 dX7_carryOutOne_7 (by decide) (by first | (rw [c1]; done) | (rw [c1]; rfl)) (by decide) ?_
    refine za_aload_n o 0 dX7_carryOutOne_123 rfl rfl ?_
    refine za_getf o 4 zc7 hq (Nat.le_of_ble_eq_true rfl) wfX7_42 rfl dX7_carryOutOne_124 ?_
    refine za_getfN o 5 "CanteenPlates" zc3 zk_c3 (Nat.le_of_ble_eq_true rfl) wnX7_166 rfl dX7_carryOutOne_127 ?_
    refine za_bipush (v := (-6 : Int32)) o dX7_carryOutOne_130 (by decide) ?_
    refine za_icmp_ne o 152 dX7_carryOutOne_132 (by decide) (fun c2 => ?_) (fun c2 => ?_)
    · replace hf := hf.1 c2
      refine za_aload_n o 0 dX7_carryOutOne_152 rfl rfl ?_
      refine za_getf o 0 zc7 hq (Nat.le_of_ble_eq_true rfl) wfX7_10 rfl dX7_carryOutOne_153 ?_
      refine za_aload_n o 0 dX7_carryOutOne_156 rfl rfl ?_
      refine za_getf o 4 zc7 hq (Nat.le_of_ble_eq_true rfl) wfX7_42 rfl dX7_carryOutOne_157 ?_
      refine za_getfN o 3 "CanteenPlates" zc3 zk_c3 (Nat.le_of_ble_eq_true rfl) wnX7_157 rfl dX7_carryOutOne_160 ?_
      refine za_aload_n o 0 dX7_carryOutOne_163 rfl rfl ?_
      refine za_getf o 4 zc7 hq (Nat.le_of_ble_eq_true rfl) wfX7_42 rfl dX7_carryOutOne_164 ?_
      refine za_getfN o 5 "CanteenPlates" zc3 zk_c3 (Nat.le_of_ble_eq_true rfl) wnX7_166 rfl dX7_carryOutOne_167 ?_
      refine za_callVi o [.int (μ 528 3), .int (μ 528 5)] (ctX0_sell l G zk_c0 (μ 528 3) (μ 528 5)  μ _ hf) zc0 zk_c0 mwX0_sell wmX7_81 wiX0_sell wsX0_sell rfl ⟨Nat.le_of_ble_eq_true rfl, Nat.le_of_ble_eq_true rfl⟩ rfl (Nat.le_of_ble_eq_true rfl) dX7_carryOutOne_170 (fun r3 m4 hf => ?_)
      refine za_sub [] rfl ?_
      exact tX7_carryOutOne_173 o hq  r3 m4  hf
    · replace hf := hf.2 c2
      refine za_aload_n o 0 dX7_carryOutOne_135 rfl rfl ?_
      refine za_getf o 0 zc7 hq (Nat.le_of_ble_eq_true rfl) wfX7_10 rfl dX7_carryOutOne_136 ?_
      refine za_aload_n o 0 dX7_carryOutOne_139 rfl rfl ?_
      refine za_getf o 4 zc7 hq (Nat.le_of_ble_eq_true rfl) wfX7_42 rfl dX7_carryOutOne_140 ?_
      refine za_getfN o 3 "CanteenPlates" zc3 zk_c3 (Nat.le_of_ble_eq_true rfl) wnX7_157 rfl dX7_carryOutOne_143 ?_
      refine za_callVi o [.int (μ 528 3)] (ctX0_serve l G zk_c0 (μ 528 3)  μ _ hf) zc0 zk_c0 mwX0_serve wmX7_78 wiX0_serve wsX0_serve rfl ⟨Nat.le_of_ble_eq_true rfl, Nat.le_of_ble_eq_true rfl⟩ rfl (Nat.le_of_ble_eq_true rfl) dX7_carryOutOne_146 (fun r5 m6 hf => ?_)
      refine za_goto o 173 dX7_carryOutOne_149 (by decide) ?_
      refine za_sub [] rfl ?_
      exact tX7_carryOutOne_173 o hq  r5 m6  hf
  · replace hf := hf.2 c1
    by_cases c7 : (μ 528 2) = (107 : Int32)
    · replace hf := hf.1 c7
      refine za_lsw o 174 dX7_carryOutOne_7 (by decide) (by first | (rw [c7]; done) | (rw [c7]; rfl)) (by decide) ?_
      refine za_aload_n o 0 dX7_carryOutOne_174 rfl rfl ?_
      refine za_getf o 0 zc7 hq (Nat.le_of_ble_eq_true rfl) wfX7_10 rfl dX7_carryOutOne_175 ?_
      refine za_callVi o [] (ctX0_cookToday l G zk_c0   μ _ hf) zc0 zk_c0 mwX0_cookToday wmX7_75 wiX0_cookToday wsX0_cookToday rfl ⟨Nat.le_of_ble_eq_true rfl, Nat.le_of_ble_eq_true rfl⟩ rfl (Nat.le_of_ble_eq_true rfl) dX7_carryOutOne_178 (fun r8 m9 hf => ?_)
      exact za_iret o rfl hf dX7_carryOutOne_181
    · replace hf := hf.2 c7
      by_cases c10 : (μ 528 2) = (111 : Int32)
      · replace hf := hf.1 c10
        refine za_lsw o 94 dX7_carryOutOne_7 (by decide) (by first | (rw [c10]; done) | (rw [c10]; rfl)) (by decide) ?_
        refine za_aload_n o 0 dX7_carryOutOne_94 rfl rfl ?_
        refine za_getf o 0 zc7 hq (Nat.le_of_ble_eq_true rfl) wfX7_10 rfl dX7_carryOutOne_95 ?_
        refine za_aload_n o 0 dX7_carryOutOne_98 rfl rfl ?_
        refine za_getf o 4 zc7 hq (Nat.le_of_ble_eq_true rfl) wfX7_42 rfl dX7_carryOutOne_99 ?_
        refine za_getfN o 3 "CanteenPlates" zc3 zk_c3 (Nat.le_of_ble_eq_true rfl) wnX7_157 rfl dX7_carryOutOne_102 ?_
        refine za_aload_n o 0 dX7_carryOutOne_105 rfl rfl ?_
        refine za_getf o 4 zc7 hq (Nat.le_of_ble_eq_true rfl) wfX7_42 rfl dX7_carryOutOne_106 ?_
        refine za_getfN o 6 "CanteenPlates" zc3 zk_c3 (Nat.le_of_ble_eq_true rfl) wnX7_163 rfl dX7_carryOutOne_109 ?_
        refine za_aload_n o 0 dX7_carryOutOne_112 rfl rfl ?_
        refine za_getf o 4 zc7 hq (Nat.le_of_ble_eq_true rfl) wfX7_42 rfl dX7_carryOutOne_113 ?_
        refine za_getfN o 5 "CanteenPlates" zc3 zk_c3 (Nat.le_of_ble_eq_true rfl) wnX7_166 rfl dX7_carryOutOne_116 ?_
        refine za_callVi o [.int (μ 528 3), .int (μ 528 6), .int (μ 528 5)] (ctX0_takeOrder l G zk_c0 (μ 528 3) (μ 528 6) (μ 528 5)  μ _ hf) zc0 zk_c0 mwX0_takeOrder wmX7_69 wiX0_takeOrder wsX0_takeOrder rfl ⟨Nat.le_of_ble_eq_true rfl, Nat.le_of_ble_eq_true rfl⟩ rfl (Nat.le_of_ble_eq_true rfl) dX7_carryOutOne_119 (fun r11 m12 hf => ?_)
        exact za_iret o rfl hf dX7_carryOutOne_122
      · replace hf := hf.2 c10
        by_cases c13 : (μ 528 2) = (112 : Int32)
        · replace hf := hf.1 c13
          refine za_lsw o 64 dX7_carryOutOne_7 (by decide) (by first | (rw [c13]; done) | (rw [c13]; rfl)) (by decide) ?_
          refine za_aload_n o 0 dX7_carryOutOne_64 rfl rfl ?_
          refine za_getf o 0 zc7 hq (Nat.le_of_ble_eq_true rfl) wfX7_10 rfl dX7_carryOutOne_65 ?_
          refine za_callVi o [] (ctX0_addPerson l G zk_c0   μ _ hf) zc0 zk_c0 mwX0_addPerson wmX7_62 wiX0_addPerson wsX0_addPerson rfl ⟨Nat.le_of_ble_eq_true rfl, Nat.le_of_ble_eq_true rfl⟩ rfl (Nat.le_of_ble_eq_true rfl) dX7_carryOutOne_68 (fun r14 m15 hf => ?_)
          exact za_iret o rfl hf dX7_carryOutOne_71
        · replace hf := hf.2 c13
          by_cases c16 : (μ 528 2) = (118 : Int32)
          · replace hf := hf.1 c16
            refine za_lsw o 72 dX7_carryOutOne_7 (by decide) (by first | (rw [c16]; done) | (rw [c16]; rfl)) (by decide) ?_
            refine za_aload_n o 0 dX7_carryOutOne_72 rfl rfl ?_
            refine za_getf o 0 zc7 hq (Nat.le_of_ble_eq_true rfl) wfX7_10 rfl dX7_carryOutOne_73 ?_
            refine za_aload_n o 0 dX7_carryOutOne_76 rfl rfl ?_
            refine za_getf o 4 zc7 hq (Nat.le_of_ble_eq_true rfl) wfX7_42 rfl dX7_carryOutOne_77 ?_
            refine za_getfN o 3 "CanteenPlates" zc3 zk_c3 (Nat.le_of_ble_eq_true rfl) wnX7_157 rfl dX7_carryOutOne_80 ?_
            refine za_aload_n o 0 dX7_carryOutOne_83 rfl rfl ?_
            refine za_getf o 4 zc7 hq (Nat.le_of_ble_eq_true rfl) wfX7_42 rfl dX7_carryOutOne_84 ?_
            refine za_getfN o 4 "CanteenPlates" zc3 zk_c3 (Nat.le_of_ble_eq_true rfl) wnX7_160 rfl dX7_carryOutOne_87 ?_
            refine za_callVi o [.int (μ 528 3), .int (μ 528 4)] (ctX0_giveVouchers l G zk_c0 (μ 528 3) (μ 528 4)  μ _ hf) zc0 zk_c0 mwX0_giveVouchers wmX7_66 wiX0_giveVouchers wsX0_giveVouchers rfl ⟨Nat.le_of_ble_eq_true rfl, Nat.le_of_ble_eq_true rfl⟩ rfl (Nat.le_of_ble_eq_true rfl) dX7_carryOutOne_90 (fun r17 m18 hf => ?_)
            exact za_iret o rfl hf dX7_carryOutOne_93
          · replace hf := hf.2 c16
            by_cases c19 : (μ 528 2) = (120 : Int32)
            · replace hf := hf.1 c19
              refine za_lsw o 182 dX7_carryOutOne_7 (by decide) (by first | (rw [c19]; done) | (rw [c19]; rfl)) (by decide) ?_
              refine za_aload_n o 0 dX7_carryOutOne_182 rfl rfl ?_
              refine za_getf o 0 zc7 hq (Nat.le_of_ble_eq_true rfl) wfX7_10 rfl dX7_carryOutOne_183 ?_
              refine za_callVi o [] (ctX0_endDay l G zk_c0   μ _ hf) zc0 zk_c0 mwX0_endDay wmX7_84 wiX0_endDay wsX0_endDay rfl ⟨Nat.le_of_ble_eq_true rfl, Nat.le_of_ble_eq_true rfl⟩ rfl (Nat.le_of_ble_eq_true rfl) dX7_carryOutOne_186 (fun r20 m21 hf => ?_)
              exact za_iret o rfl hf dX7_carryOutOne_189
            · replace hf := hf.2 c19
              refine za_lsw (off := (183 : Int)) o 190 dX7_carryOutOne_7 (by decide) ((lv_osw (k := (99 : Int32)) c1 rfl).trans ((lv_osw (k := (107 : Int32)) c7 rfl).trans ((lv_osw (k := (111 : Int32)) c10 rfl).trans ((lv_osw (k := (112 : Int32)) c13 rfl).trans ((lv_osw (k := (118 : Int32)) c16 rfl).trans ((lv_osw (k := (120 : Int32)) c19 rfl).trans rfl)))))) (by decide) ?_
              refine za_bipush (v := (-3 : Int32)) o dX7_carryOutOne_190 (by decide) ?_
              exact za_iret o rfl hf dX7_carryOutOne_192
def fX7_carryOutAll_58  (K : Int32 → zMem → Prop) (q : Nat) (v1 : Int32) (μ : zMem) : Prop :=
  K v1 μ
def fX7_carryOutAll_36 (k9 : Int32 → zMem → Prop) (K : Int32 → zMem → Prop) (q : Nat) (v1 : Int32) (v2 : Int32) (μ : zMem) : Prop :=
  ((v2 = 0 → fX7_carryOutAll_58  K q v1 μ) ∧ (¬ v2 = 0 → fX3_readOrder 528  μ (fun r2 m3 => ((r2 = 0 → fX7_carryOutAll_58  K q v1 m3) ∧ (¬ r2 = 0 → fX7_carryOutOne q  m3 (fun r5 m6 => ((0 ≤ r5 → (∀ x8 : Int32, x8 = v1 + (1 : Int32) → k9 x8 m6)) ∧ (¬ 0 ≤ r5 → fX7_carryOutAll_58  K q v1 m6))))))))
def fX7_carryOutAll_31 (k9 : Int32 → zMem → Prop) (K : Int32 → zMem → Prop) (q : Nat) (v1 : Int32) (μ : zMem) : Prop :=
  fX7_carryOutAll_36 k9 K q v1 (1 : Int32) μ
def fX7_carryOutAll_9b (k9 : Int32 → zMem → Prop) (K : Int32 → zMem → Prop) (q : Nat) (v1 : Int32) (μ : zMem) : Prop :=
  (((80 : Int32) ≤ v1 → K (80 : Int32) μ) ∧ (¬ (80 : Int32) ≤ v1 → ((v1 = 0 → fX7_carryOutAll_31 k9 K q v1 μ) ∧ (¬ v1 = 0 → fX3_take 528 (59 : Int32) μ (fun r11 m12 => ((r11 = 0 → fX7_carryOutAll_36 k9 K q v1 (0 : Int32) m12) ∧ (¬ r11 = 0 → fX7_carryOutAll_31 k9 K q v1 m12)))))))
def fX7_carryOutAll_9  (K : Int32 → zMem → Prop) (q : Nat) (n : Nat) : Int32 → zMem → Prop := z_it (fun k => fX7_carryOutAll_9b  k K q ) (fun _ _ => False) n
def fX7_carryOutAll (q : Nat)  (μ : zMem) (K : Int32 → zMem → Prop) : Prop :=
  fX3_start 528  μ (fun m15 => fX7_carryOutAll_9  K q zFU (0 : Int32) m15)
set_option maxRecDepth 100000 in
set_option maxHeartbeats 4000000 in
theorem tX7_carryOutAll_58 {p : Program} {l : Launch} {e : Env} {s : State} {m : MethodId} {args : Array Value} {below : List Frame} {meth : Method} {c : Code} {G : zG}  {K : Int32 → zMem → Prop} (o : za_Ok (z_rm 5 107) 0 0 p s m args meth c G RX7 cX7_carryOutAll 3 (some .int)) {q : Nat} (hq : z_is q 7)  (v1 : Int32) (μ : zMem)  (hf : fX7_carryOutAll_58  K q v1 μ) : za_At p l e (z_rm 5 107) s m args below meth c (MQ below (zQi G K) args s 0 0 (zA G)) G 3 0 0 58 [(1, .int v1)] [] μ := by
  unfold fX7_carryOutAll_58 at hf
  refine za_iload_n o 0 dX7_carryOutAll_58 rfl rfl ?_
  exact za_iret o rfl hf dX7_carryOutAll_59
set_option maxRecDepth 100000 in
set_option maxHeartbeats 4000000 in
theorem tX7_carryOutAll_36 {p : Program} {l : Launch} {e : Env} {s : State} {m : MethodId} {args : Array Value} {below : List Frame} {meth : Method} {c : Code} {G : zG} {k9 : Int32 → zMem → Prop} {K : Int32 → zMem → Prop} (o : za_Ok (z_rm 5 107) 0 0 p s m args meth c G RX7 cX7_carryOutAll 3 (some .int)) {q : Nat} (hq : z_is q 7) (hk9 : ∀ (v1 : Int32) (μ : zMem), k9 v1 μ → za_At p l e (z_rm 5 107) s m args below meth c (MQ below (zQi G K) args s 0 0 (zA G)) G 3 0 0 9 [(0, .ref (G.2.2 + q)), (1, .int v1)] [] μ) (v1 : Int32) (v2 : Int32) (μ : zMem)  (hf : fX7_carryOutAll_36 k9 K q v1 v2 μ) : za_At p l e (z_rm 5 107) s m args below meth c (MQ below (zQi G K) args s 0 0 (zA G)) G 3 0 0 36 [(0, .ref (G.2.2 + q)), (1, .int v1)] [.int v2] μ := by
  unfold fX7_carryOutAll_36 at hf
  refine za_istore_n o [(2, .int v2), (0, .ref (G.2.2 + q)), (1, .int v1)] dX7_carryOutAll_36 rfl (by decide) rfl ?_
  refine za_iload_n o 0 dX7_carryOutAll_37 rfl rfl ?_
  refine za_if_eq o 58 dX7_carryOutAll_38 (by decide) (fun c1 => ?_) (fun c1 => ?_)
  · replace hf := hf.1 c1
    refine za_sub [2] rfl ?_
    exact tX7_carryOutAll_58 o hq  v1 μ  hf
  · replace hf := hf.2 c1
    refine za_aload_n o 1 dX7_carryOutAll_41 rfl rfl ?_
    refine za_getf o 4 zc7 hq (Nat.le_of_ble_eq_true rfl) wfX7_42 rfl dX7_carryOutAll_42 ?_
    refine za_callVi o [] (ctX3_readOrder l G zk_c3   μ _ hf) zc3 zk_c3 mwX3_readOrder wmX7_146 wiX3_readOrder wsX3_readOrder rfl ⟨Nat.le_of_ble_eq_true rfl, Nat.le_of_ble_eq_true rfl⟩ rfl (Nat.le_of_ble_eq_true rfl) dX7_carryOutAll_45 (fun r2 m3 hf => ?_)
    refine za_if_eq o 58 dX7_carryOutAll_48 (by decide) (fun c4 => ?_) (fun c4 => ?_)
    · replace hf := hf.1 c4
      refine za_sub [2] rfl ?_
      exact tX7_carryOutAll_58 o hq  v1 m3  hf
    · replace hf := hf.2 c4
      refine za_aload_n o 1 dX7_carryOutAll_51 rfl rfl ?_
      refine za_callVi o [] (ctX7_carryOutOne l G hq   m3 _ hf) zc7 hq mwX7_carryOutOne wmX7_150 wiX7_carryOutOne wsX7_carryOutOne rfl ⟨Nat.le_of_ble_eq_true rfl, Nat.le_of_ble_eq_true rfl⟩ rfl (Nat.le_of_ble_eq_true rfl) dX7_carryOutAll_52 (fun r5 m6 hf => ?_)
      refine za_if_ge o 60 dX7_carryOutAll_55 (by decide) (fun c7 => ?_) (fun c7 => ?_)
      · replace hf := hf.1 c7
        obtain ⟨x8, ex8⟩ : ∃ y : Int32, y = v1 + (1 : Int32) := ⟨_, rfl⟩
        replace hf := hf x8 ex8
        refine za_iinc o x8 2 [(1, .int x8), (2, .int v2), (0, .ref (G.2.2 + q))] dX7_carryOutAll_60 rfl (by rw [ex8]; rfl) (by decide) rfl ?_
        refine za_goto o 9 dX7_carryOutAll_63 (by decide) ?_
        refine za_sub [2, 0] rfl ?_
        exact hk9 x8 m6  hf
      · replace hf := hf.2 c7
        refine za_sub [2] rfl ?_
        exact tX7_carryOutAll_58 o hq  v1 m6  hf
set_option maxRecDepth 100000 in
set_option maxHeartbeats 4000000 in
theorem tX7_carryOutAll_31 {p : Program} {l : Launch} {e : Env} {s : State} {m : MethodId} {args : Array Value} {below : List Frame} {meth : Method} {c : Code} {G : zG} {k9 : Int32 → zMem → Prop} {K : Int32 → zMem → Prop} (o : za_Ok (z_rm 5 107) 0 0 p s m args meth c G RX7 cX7_carryOutAll 3 (some .int)) {q : Nat} (hq : z_is q 7) (hk9 : ∀ (v1 : Int32) (μ : zMem), k9 v1 μ → za_At p l e (z_rm 5 107) s m args below meth c (MQ below (zQi G K) args s 0 0 (zA G)) G 3 0 0 9 [(0, .ref (G.2.2 + q)), (1, .int v1)] [] μ) (v1 : Int32) (μ : zMem)  (hf : fX7_carryOutAll_31 k9 K q v1 μ) : za_At p l e (z_rm 5 107) s m args below meth c (MQ below (zQi G K) args s 0 0 (zA G)) G 3 0 0 31 [(0, .ref (G.2.2 + q)), (1, .int v1)] [] μ := by
  unfold fX7_carryOutAll_31 at hf
  refine za_iconst (v := (1 : Int32)) o dX7_carryOutAll_31 (by decide) ?_
  refine za_goto o 36 dX7_carryOutAll_32 (by decide) ?_
  exact tX7_carryOutAll_36 o hq hk9 v1 (1 : Int32) μ  hf
set_option maxRecDepth 100000 in
set_option maxHeartbeats 4000000 in
theorem tX7_carryOutAll_9b {p : Program} {l : Launch} {e : Env} {s : State} {m : MethodId} {args : Array Value} {below : List Frame} {meth : Method} {c : Code} {G : zG} {k9 : Int32 → zMem → Prop} {K : Int32 → zMem → Prop} (o : za_Ok (z_rm 5 107) 0 0 p s m args meth c G RX7 cX7_carryOutAll 3 (some .int)) {q : Nat} (hq : z_is q 7) (hk9 : ∀ (v1 : Int32) (μ : zMem), k9 v1 μ → za_At p l e (z_rm 5 107) s m args below meth c (MQ below (zQi G K) args s 0 0 (zA G)) G 3 0 0 9 [(0, .ref (G.2.2 + q)), (1, .int v1)] [] μ) (v1 : Int32) (μ : zMem)  (hf : fX7_carryOutAll_9b k9 K q v1 μ) : za_At p l e (z_rm 5 107) s m args below meth c (MQ below (zQi G K) args s 0 0 (zA G)) G 3 0 0 9 [(0, .ref (G.2.2 + q)), (1, .int v1)] [] μ := by
  unfold fX7_carryOutAll_9b at hf
  refine za_iload_n o 1 dX7_carryOutAll_9 rfl rfl ?_
  refine za_bipush (v := (80 : Int32)) o dX7_carryOutAll_10 (by decide) ?_
  refine za_icmp_ge o 66 dX7_carryOutAll_12 (by decide) (fun c9 => ?_) (fun c9 => ?_)
  · replace hf := hf.1 c9
    refine za_bipush (v := (80 : Int32)) o dX7_carryOutAll_66 (by decide) ?_
    exact za_iret o rfl hf dX7_carryOutAll_68
  · replace hf := hf.2 c9
    refine za_iload_n o 1 dX7_carryOutAll_15 rfl rfl ?_
    refine za_if_eq o 31 dX7_carryOutAll_16 (by decide) (fun c10 => ?_) (fun c10 => ?_)
    · replace hf := hf.1 c10
      exact tX7_carryOutAll_31 o hq hk9 v1 μ  hf
    · replace hf := hf.2 c10
      refine za_aload_n o 0 dX7_carryOutAll_19 rfl rfl ?_
      refine za_getf o 4 zc7 hq (Nat.le_of_ble_eq_true rfl) wfX7_42 rfl dX7_carryOutAll_20 ?_
      refine za_bipush (v := (59 : Int32)) o dX7_carryOutAll_23 (by decide) ?_
      refine za_callVi o [.int (59 : Int32)] (ctX3_take l G zk_c3 (59 : Int32)  μ _ hf) zc3 zk_c3 mwX3_take wmX7_142 wiX3_take wsX3_take rfl ⟨Nat.le_of_ble_eq_true rfl, Nat.le_of_ble_eq_true rfl⟩ rfl (Nat.le_of_ble_eq_true rfl) dX7_carryOutAll_25 (fun r11 m12 hf => ?_)
      refine za_if_eq o 35 dX7_carryOutAll_28 (by decide) (fun c13 => ?_) (fun c13 => ?_)
      · replace hf := hf.1 c13
        refine za_iconst (v := (0 : Int32)) o dX7_carryOutAll_35 (by decide) ?_
        exact tX7_carryOutAll_36 o hq hk9 v1 (0 : Int32) m12  hf
      · replace hf := hf.2 c13
        exact tX7_carryOutAll_31 o hq hk9 v1 m12  hf
theorem tX7_carryOutAll_9 {p : Program} {l : Launch} {e : Env} {s : State} {m : MethodId} {args : Array Value} {below : List Frame} {meth : Method} {c : Code} {G : zG}  {K : Int32 → zMem → Prop} (o : za_Ok (z_rm 5 107) 0 0 p s m args meth c G RX7 cX7_carryOutAll 3 (some .int)) {q : Nat} (hq : z_is q 7)  (n : Nat) : ∀ (v1 : Int32) (μ : zMem), fX7_carryOutAll_9  K q n v1 μ → za_At p l e (z_rm 5 107) s m args below meth c (MQ below (zQi G K) args s 0 0 (zA G)) G 3 0 0 9 [(0, .ref (G.2.2 + q)), (1, .int v1)] [] μ := by
  induction n with
  | zero => intro _ _ hf; exact hf.elim
  | succ n ih => intro v1 μ  hf; exact tX7_carryOutAll_9b o hq  ih v1 μ  hf
set_option maxRecDepth 100000 in
set_option maxHeartbeats 4000000 in
theorem ctX7_carryOutAll (l : Launch) (G : zG) {q : Nat} (hq : z_is q 7)   (μ : zMem) (K : Int32 → zMem → Prop) (hf : fX7_carryOutAll q  μ K) : z_Met l G yX7_carryOutAll cX7_carryOutAll 3 (some .int) (z_rm 5 107) [.ref (G.2.2 + q)] μ K := by
  refine z_body (by decide) (Nat.le_of_ble_eq_true rfl) (fun p e s m args below meth c o => ?_)
  have o : za_Ok (z_rm 5 107) 0 0 p s m args meth c G RX7 cX7_carryOutAll 3 (some .int) := o
  show za_At p l e (z_rm 5 107) s m args below meth c (MQ below (zQi G K) args s 0 0 (zA G)) G 3 0 0 0 [(0, .ref (G.2.2 + q))] [] μ
  unfold fX7_carryOutAll at hf
  refine za_aload_n o 0 dX7_carryOutAll_0 rfl rfl ?_
  refine za_getf o 4 zc7 hq (Nat.le_of_ble_eq_true rfl) wfX7_42 rfl dX7_carryOutAll_1 ?_
  refine za_callVv o [] (ctX3_start l G zk_c3   μ _ hf) zc3 zk_c3 mwX3_start wmX7_139 wiX3_start wsX3_start rfl ⟨Nat.le_of_ble_eq_true rfl, Nat.le_of_ble_eq_true rfl⟩ rfl (Nat.le_of_ble_eq_true rfl) dX7_carryOutAll_4 (fun m15 hf => ?_)
  refine za_iconst (v := (0 : Int32)) o dX7_carryOutAll_7 (by decide) ?_
  refine za_istore_n o [(1, .int (0 : Int32)), (0, .ref (G.2.2 + q))] dX7_carryOutAll_8 rfl (by decide) rfl ?_
  refine za_sub [1, 0] rfl ?_
  exact tX7_carryOutAll_9 o hq  zFU (0 : Int32) m15  hf
def fX7_carryOut (q : Nat)  (μ : zMem) (K : Int32 → zMem → Prop) : Prop :=
  fX3_firstFault 528  μ (fun r1 m2 => ((r1 = (-6 : Int32) → fX2_note 53 1 m2 (fun m5 => fX7_carryOutAll q  m5 (fun r6 m7 => fX4_clear 526  m7 (fun r8 m9 => fX2_keep 53 r6 m9 (fun r10 m11 => K r10 m11))))) ∧ (¬ r1 = (-6 : Int32) → K (-3 : Int32) m2)))
set_option maxRecDepth 100000 in
set_option maxHeartbeats 4000000 in
theorem ctX7_carryOut (l : Launch) (G : zG) {q : Nat} (hq : z_is q 7)   (μ : zMem) (K : Int32 → zMem → Prop) (hf : fX7_carryOut q  μ K) : z_Met l G yX7_carryOut cX7_carryOut 2 (some .int) (z_rm 6 129) [.ref (G.2.2 + q)] μ K := by
  refine z_body (by decide) (Nat.le_of_ble_eq_true rfl) (fun p e s m args below meth c o => ?_)
  have o : za_Ok (z_rm 6 129) 0 0 p s m args meth c G RX7 cX7_carryOut 2 (some .int) := o
  show za_At p l e (z_rm 6 129) s m args below meth c (MQ below (zQi G K) args s 0 0 (zA G)) G 2 0 0 0 [(0, .ref (G.2.2 + q))] [] μ
  unfold fX7_carryOut at hf
  refine za_aload_n o 0 dX7_carryOut_0 rfl rfl ?_
  refine za_getf o 4 zc7 hq (Nat.le_of_ble_eq_true rfl) wfX7_42 rfl dX7_carryOut_1 ?_
  refine za_callVi o [] (ctX3_firstFault l G zk_c3   μ _ hf) zc3 zk_c3 mwX3_firstFault wmX7_122 wiX3_firstFault wsX3_firstFault rfl ⟨Nat.le_of_ble_eq_true rfl, Nat.le_of_ble_eq_true rfl⟩ rfl (Nat.le_of_ble_eq_true rfl) dX7_carryOut_4 (fun r1 m2 hf => ?_)
  refine za_bipush (v := (-6 : Int32)) o dX7_carryOut_7 (by decide) ?_
  refine za_icmp_eq o 15 dX7_carryOut_9 (by decide) (fun c3 => ?_) (fun c3 => ?_)
  · replace hf := hf.1 c3
    refine za_aload_n o 0 dX7_carryOut_15 rfl rfl ?_
    refine za_getf o 1 zc7 hq (Nat.le_of_ble_eq_true rfl) wfX7_19 rfl dX7_carryOut_16 ?_
    refine za_aload_n o 0 dX7_carryOut_19 rfl rfl ?_
    refine za_getf o 0 zc7 hq (Nat.le_of_ble_eq_true rfl) wfX7_10 rfl dX7_carryOut_20 ?_
    refine za_callVv o [.ref (G.2.2 + 1)] (ctX2_note l G zk_c2 1 zk_c0 m2 _ hf) zc2 zk_c2 mwX2_note wmX7_46 wiX2_note wsX2_note rfl ⟨Nat.le_of_ble_eq_true rfl, Nat.le_of_ble_eq_true rfl⟩ rfl (Nat.le_of_ble_eq_true rfl) dX7_carryOut_23 (fun m5 hf => ?_)
    refine za_aload_n o 0 dX7_carryOut_26 rfl rfl ?_
    refine za_callVi o [] (ctX7_carryOutAll l G hq   m5 _ hf) zc7 hq mwX7_carryOutAll wmX7_125 wiX7_carryOutAll wsX7_carryOutAll rfl ⟨Nat.le_of_ble_eq_true rfl, Nat.le_of_ble_eq_true rfl⟩ rfl (Nat.le_of_ble_eq_true rfl) dX7_carryOut_27 (fun r6 m7 hf => ?_)
    refine za_istore_n o [(1, .int r6), (0, .ref (G.2.2 + q))] dX7_carryOut_30 rfl (by decide) rfl ?_
    refine za_aload_n o 1 dX7_carryOut_31 rfl rfl ?_
    refine za_getf o 3 zc7 hq (Nat.le_of_ble_eq_true rfl) wfX7_33 rfl dX7_carryOut_32 ?_
    refine za_callVi o [] (ctX4_clear l G zk_c4   m7 _ hf) zc4 zk_c4 mwX4_clear wmX7_119 wiX4_clear wsX4_clear rfl ⟨Nat.le_of_ble_eq_true rfl, Nat.le_of_ble_eq_true rfl⟩ rfl (Nat.le_of_ble_eq_true rfl) dX7_carryOut_35 (fun r8 m9 hf => ?_)
    refine za_pop o dX7_carryOut_38 rfl ?_
    refine za_aload_n o 1 dX7_carryOut_39 rfl rfl ?_
    refine za_getf o 1 zc7 hq (Nat.le_of_ble_eq_true rfl) wfX7_19 rfl dX7_carryOut_40 ?_
    refine za_iload_n o 0 dX7_carryOut_43 rfl rfl ?_
    refine za_callVi o [.int r6] (ctX2_keep l G zk_c2 r6  m9 _ hf) zc2 zk_c2 mwX2_keep wmX7_54 wiX2_keep wsX2_keep rfl ⟨Nat.le_of_ble_eq_true rfl, Nat.le_of_ble_eq_true rfl⟩ rfl (Nat.le_of_ble_eq_true rfl) dX7_carryOut_44 (fun r10 m11 hf => ?_)
    exact za_iret o rfl hf dX7_carryOut_47
  · replace hf := hf.2 c3
    refine za_bipush (v := (-3 : Int32)) o dX7_carryOut_12 (by decide) ?_
    exact za_iret o rfl hf dX7_carryOut_14
