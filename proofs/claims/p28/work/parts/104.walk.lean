/-! X2_length X4_length X7_count X7_why X5_isLessSureThan X0_greatestDoubt X7_unsurest X0_firstPossible X7_firstOrder X1_waste X0_mostThrown X7_wasted X2_takeBack X7_undo X6_store X7_save X6_fetch X7_restore L_bits L_doubt -/
def fX2_length (q : Nat)  (μ : zMem) (K : Int32 → zMem → Prop) : Prop :=
  K (μ q 2) μ
set_option maxRecDepth 100000 in
set_option maxHeartbeats 4000000 in
theorem ctX2_length (l : Launch) (G : zG) {q : Nat} (hq : z_is q 2)   (μ : zMem) (K : Int32 → zMem → Prop) (hf : fX2_length q  μ K) : z_Met l G yX2_length cX2_length 1 (some .int) (z_rm 0 0) [.ref (G.2.2 + q)] μ K := by
  refine z_body (by decide) (Nat.le_of_ble_eq_true rfl) (fun p e s m args below meth c o => ?_)
  have o : za_Ok (z_rm 0 0) 0 0 p s m args meth c G RX2 cX2_length 1 (some .int) := o
  show za_At p l e (z_rm 0 0) s m args below meth c (MQ below (zQi G K) args s 0 0 (zA G)) G 1 0 0 0 [(0, .ref (G.2.2 + q))] [] μ
  unfold fX2_length at hf
  refine za_aload_n o 0 dX2_length_0 rfl rfl ?_
  refine za_getf o 2 zc2 hq (Nat.le_of_ble_eq_true rfl) wfX2_18 rfl dX2_length_1 ?_
  exact za_iret o rfl hf dX2_length_4
def fX4_length (q : Nat)  (μ : zMem) (K : Int32 → zMem → Prop) : Prop :=
  K (μ q 1) μ
set_option maxRecDepth 100000 in
set_option maxHeartbeats 4000000 in
theorem ctX4_length (l : Launch) (G : zG) {q : Nat} (hq : z_is q 4)   (μ : zMem) (K : Int32 → zMem → Prop) (hf : fX4_length q  μ K) : z_Met l G yX4_length cX4_length 1 (some .int) (z_rm 0 0) [.ref (G.2.2 + q)] μ K := by
  refine z_body (by decide) (Nat.le_of_ble_eq_true rfl) (fun p e s m args below meth c o => ?_)
  have o : za_Ok (z_rm 0 0) 0 0 p s m args meth c G RX4 cX4_length 1 (some .int) := o
  show za_At p l e (z_rm 0 0) s m args below meth c (MQ below (zQi G K) args s 0 0 (zA G)) G 1 0 0 0 [(0, .ref (G.2.2 + q))] [] μ
  unfold fX4_length at hf
  refine za_aload_n o 0 dX4_length_0 rfl rfl ?_
  refine za_getf o 1 zc4 hq (Nat.le_of_ble_eq_true rfl) wfX4_15 rfl dX4_length_1 ?_
  exact za_iret o rfl hf dX4_length_4
def fX7_count (q : Nat) (a1 : Int32) (μ : zMem) (K : Int32 → zMem → Prop) : Prop :=
  ((¬ a1 = (14 : Int32) → ((¬ a1 = (15 : Int32) → fX0_number 1 a1 μ (fun r3 m4 => K r3 m4)) ∧ (a1 = (15 : Int32) → fX2_length 53  μ (fun r5 m6 => K r5 m6)))) ∧ (a1 = (14 : Int32) → fX4_length 526  μ (fun r7 m8 => K r7 m8)))
set_option maxRecDepth 100000 in
set_option maxHeartbeats 4000000 in
theorem ctX7_count (l : Launch) (G : zG) {q : Nat} (hq : z_is q 7) (a1 : Int32)  (μ : zMem) (K : Int32 → zMem → Prop) (hf : fX7_count q a1 μ K) : z_Met l G yX7_count cX7_count 2 (some .int) (z_rm 6 130) [.ref (G.2.2 + q), .int a1] μ K := by
  refine z_body (by decide) (Nat.le_of_ble_eq_true rfl) (fun p e s m args below meth c o => ?_)
  have o : za_Ok (z_rm 6 130) 0 0 p s m args meth c G RX7 cX7_count 2 (some .int) := o
  show za_At p l e (z_rm 6 130) s m args below meth c (MQ below (zQi G K) args s 0 0 (zA G)) G 2 0 0 0 [(0, .ref (G.2.2 + q)), (1, .int a1)] [] μ
  unfold fX7_count at hf
  refine za_iload_n o 1 dX7_count_0 rfl rfl ?_
  refine za_bipush (v := (14 : Int32)) o dX7_count_1 (by decide) ?_
  refine za_icmp_ne o 14 dX7_count_3 (by decide) (fun c1 => ?_) (fun c1 => ?_)
  · replace hf := hf.1 c1
    refine za_iload_n o 1 dX7_count_14 rfl rfl ?_
    refine za_bipush (v := (15 : Int32)) o dX7_count_15 (by decide) ?_
    refine za_icmp_ne o 28 dX7_count_17 (by decide) (fun c2 => ?_) (fun c2 => ?_)
    · replace hf := hf.1 c2
      refine za_aload_n o 0 dX7_count_28 rfl rfl ?_
      refine za_getf o 0 zc7 hq (Nat.le_of_ble_eq_true rfl) wfX7_10 rfl dX7_count_29 ?_
      refine za_iload_n o 1 dX7_count_32 rfl rfl ?_
      refine za_callVi o [.int a1] (ctX0_number l G zk_c0 a1  μ _ hf) zc0 zk_c0 mwX0_number wmX7_100 wiX0_number wsX0_number rfl ⟨Nat.le_of_ble_eq_true rfl, Nat.le_of_ble_eq_true rfl⟩ rfl (Nat.le_of_ble_eq_true rfl) dX7_count_33 (fun r3 m4 hf => ?_)
      exact za_iret o rfl hf dX7_count_36
    · replace hf := hf.2 c2
      refine za_aload_n o 0 dX7_count_20 rfl rfl ?_
      refine za_getf o 1 zc7 hq (Nat.le_of_ble_eq_true rfl) wfX7_19 rfl dX7_count_21 ?_
      refine za_callVi o [] (ctX2_length l G zk_c2   μ _ hf) zc2 zk_c2 mwX2_length wmX7_99 wiX2_length wsX2_length rfl ⟨Nat.le_of_ble_eq_true rfl, Nat.le_of_ble_eq_true rfl⟩ rfl (Nat.le_of_ble_eq_true rfl) dX7_count_24 (fun r5 m6 hf => ?_)
      exact za_iret o rfl hf dX7_count_27
  · replace hf := hf.2 c1
    refine za_aload_n o 0 dX7_count_6 rfl rfl ?_
    refine za_getf o 3 zc7 hq (Nat.le_of_ble_eq_true rfl) wfX7_33 rfl dX7_count_7 ?_
    refine za_callVi o [] (ctX4_length l G zk_c4   μ _ hf) zc4 zk_c4 mwX4_length wmX7_96 wiX4_length wsX4_length rfl ⟨Nat.le_of_ble_eq_true rfl, Nat.le_of_ble_eq_true rfl⟩ rfl (Nat.le_of_ble_eq_true rfl) dX7_count_10 (fun r7 m8 hf => ?_)
    exact za_iret o rfl hf dX7_count_13
def fX7_why (q : Nat) (a1 : Int32) (a2 : Int32) (a3 : Int32) (μ : zMem) (K : Int32 → zMem → Prop) : Prop :=
  fX0_reasonAgainst 1 a1 a2 a3 μ (fun r1 m2 => K r1 m2)
set_option maxRecDepth 100000 in
set_option maxHeartbeats 4000000 in
theorem ctX7_why (l : Launch) (G : zG) {q : Nat} (hq : z_is q 7) (a1 : Int32) (a2 : Int32) (a3 : Int32)  (μ : zMem) (K : Int32 → zMem → Prop) (hf : fX7_why q a1 a2 a3 μ K) : z_Met l G yX7_why cX7_why 4 (some .int) (z_rm 2 45) [.ref (G.2.2 + q), .int a1, .int a2, .int a3] μ K := by
  refine z_body (by decide) (Nat.le_of_ble_eq_true rfl) (fun p e s m args below meth c o => ?_)
  have o : za_Ok (z_rm 2 45) 0 0 p s m args meth c G RX7 cX7_why 4 (some .int) := o
  show za_At p l e (z_rm 2 45) s m args below meth c (MQ below (zQi G K) args s 0 0 (zA G)) G 4 0 0 0 [(0, .ref (G.2.2 + q)), (1, .int a1), (2, .int a2), (3, .int a3)] [] μ
  unfold fX7_why at hf
  refine za_aload_n o 0 dX7_why_0 rfl rfl ?_
  refine za_getf o 0 zc7 hq (Nat.le_of_ble_eq_true rfl) wfX7_10 rfl dX7_why_1 ?_
  refine za_iload_n o 1 dX7_why_4 rfl rfl ?_
  refine za_iload_n o 2 dX7_why_5 rfl rfl ?_
  refine za_iload_n o 3 dX7_why_6 rfl rfl ?_
  refine za_callVi o [.int a1, .int a2, .int a3] (ctX0_reasonAgainst l G zk_c0 a1 a2 a3  μ _ hf) zc0 zk_c0 mwX0_reasonAgainst wmX7_103 wiX0_reasonAgainst wsX0_reasonAgainst rfl ⟨Nat.le_of_ble_eq_true rfl, Nat.le_of_ble_eq_true rfl⟩ rfl (Nat.le_of_ble_eq_true rfl) dX7_why_7 (fun r1 m2 hf => ?_)
  exact za_iret o rfl hf dX7_why_10
def fX5_isLessSureThan_27  (K : Int32 → zMem → Prop) (q : Nat) (v1 : Int32) (μ : zMem) : Prop :=
  (z_b v1 ∧ K v1 μ)
def fX5_isLessSureThan_44  (K : Int32 → zMem → Prop) (q : Nat) (v1 : Int32) (μ : zMem) : Prop :=
  (z_b v1 ∧ K v1 μ)
def fX5_isLessSureThan (q : Nat) (a1 : Nat) (μ : zMem) (K : Int32 → zMem → Prop) : Prop :=
  fX5_doubt q  μ (fun r1 m2 => fX5_doubt a1  m2 (fun r3 m4 => ((r1 = r3 → fX5_timesOrdered q  m4 (fun r6 m7 => fX5_timesOrdered a1  m7 (fun r8 m9 => ((r6 ≤ r8 → fX5_isLessSureThan_44  K q (0 : Int32) m9) ∧ (¬ r6 ≤ r8 → fX5_isLessSureThan_44  K q (1 : Int32) m9))))) ∧ (¬ r1 = r3 → fX5_doubt q  m4 (fun r11 m12 => fX5_doubt a1  m12 (fun r13 m14 => ((r11 ≤ r13 → fX5_isLessSureThan_27  K q (0 : Int32) m14) ∧ (¬ r11 ≤ r13 → fX5_isLessSureThan_27  K q (1 : Int32) m14))))))))
set_option maxRecDepth 100000 in
set_option maxHeartbeats 4000000 in
theorem tX5_isLessSureThan_27 {p : Program} {l : Launch} {e : Env} {s : State} {m : MethodId} {args : Array Value} {below : List Frame} {meth : Method} {c : Code} {G : zG}  {K : Int32 → zMem → Prop} (o : za_Ok (z_rm 2 41) 0 0 p s m args meth c G RX5 cX5_isLessSureThan 2 (some .boolean)) {q : Nat} (hq : z_is q 5)  (v1 : Int32) (μ : zMem)  (hf : fX5_isLessSureThan_27  K q v1 μ) : za_At p l e (z_rm 2 41) s m args below meth c (MQ below (zQi G K) args s 0 0 (zA G)) G 2 0 0 27 [] [.int v1] μ := by
  unfold fX5_isLessSureThan_27 at hf
  exact za_zret o rfl hf.1 hf.2 dX5_isLessSureThan_27
set_option maxRecDepth 100000 in
set_option maxHeartbeats 4000000 in
theorem tX5_isLessSureThan_44 {p : Program} {l : Launch} {e : Env} {s : State} {m : MethodId} {args : Array Value} {below : List Frame} {meth : Method} {c : Code} {G : zG}  {K : Int32 → zMem → Prop} (o : za_Ok (z_rm 2 41) 0 0 p s m args meth c G RX5 cX5_isLessSureThan 2 (some .boolean)) {q : Nat} (hq : z_is q 5)  (v1 : Int32) (μ : zMem)  (hf : fX5_isLessSureThan_44  K q v1 μ) : za_At p l e (z_rm 2 41) s m args below meth c (MQ below (zQi G K) args s 0 0 (zA G)) G 2 0 0 44 [] [.int v1] μ := by
  unfold fX5_isLessSureThan_44 at hf
  exact za_zret o rfl hf.1 hf.2 dX5_isLessSureThan_44
set_option maxRecDepth 100000 in
set_option maxHeartbeats 4000000 in
theorem ctX5_isLessSureThan (l : Launch) (G : zG) {q : Nat} (hq : z_is q 5) (a1 : Nat) (ha1 : z_is a1 5) (μ : zMem) (K : Int32 → zMem → Prop) (hf : fX5_isLessSureThan q a1 μ K) : z_Met l G yX5_isLessSureThan cX5_isLessSureThan 2 (some .boolean) (z_rm 2 41) [.ref (G.2.2 + q), .ref (G.2.2 + a1)] μ K := by
  refine z_body (by decide) (Nat.le_of_ble_eq_true rfl) (fun p e s m args below meth c o => ?_)
  have o : za_Ok (z_rm 2 41) 0 0 p s m args meth c G RX5 cX5_isLessSureThan 2 (some .boolean) := o
  show za_At p l e (z_rm 2 41) s m args below meth c (MQ below (zQi G K) args s 0 0 (zA G)) G 2 0 0 0 [(0, .ref (G.2.2 + q)), (1, .ref (G.2.2 + a1))] [] μ
  unfold fX5_isLessSureThan at hf
  refine za_aload_n o 0 dX5_isLessSureThan_0 rfl rfl ?_
  refine za_callVi o [] (ctX5_doubt l G hq   μ _ hf) zc5 hq mwX5_doubt wmX5_64 wiX5_doubt wsX5_doubt rfl ⟨Nat.le_of_ble_eq_true rfl, Nat.le_of_ble_eq_true rfl⟩ rfl (Nat.le_of_ble_eq_true rfl) dX5_isLessSureThan_1 (fun r1 m2 hf => ?_)
  refine za_aload_n o 1 dX5_isLessSureThan_4 rfl rfl ?_
  refine za_callVi o [] (ctX5_doubt l G ha1   m2 _ hf) zc5 ha1 mwX5_doubt wmX5_64 wiX5_doubt wsX5_doubt rfl ⟨Nat.le_of_ble_eq_true rfl, Nat.le_of_ble_eq_true rfl⟩ rfl (Nat.le_of_ble_eq_true rfl) dX5_isLessSureThan_5 (fun r3 m4 hf => ?_)
  refine za_icmp_eq o 28 dX5_isLessSureThan_8 (by decide) (fun c5 => ?_) (fun c5 => ?_)
  · replace hf := hf.1 c5
    refine za_aload_n o 0 dX5_isLessSureThan_28 rfl rfl ?_
    refine za_callVi o [] (ctX5_timesOrdered l G hq   m4 _ hf) zc5 hq mwX5_timesOrdered wmX5_60 wiX5_timesOrdered wsX5_timesOrdered rfl ⟨Nat.le_of_ble_eq_true rfl, Nat.le_of_ble_eq_true rfl⟩ rfl (Nat.le_of_ble_eq_true rfl) dX5_isLessSureThan_29 (fun r6 m7 hf => ?_)
    refine za_aload_n o 1 dX5_isLessSureThan_32 rfl rfl ?_
    refine za_callVi o [] (ctX5_timesOrdered l G ha1   m7 _ hf) zc5 ha1 mwX5_timesOrdered wmX5_60 wiX5_timesOrdered wsX5_timesOrdered rfl ⟨Nat.le_of_ble_eq_true rfl, Nat.le_of_ble_eq_true rfl⟩ rfl (Nat.le_of_ble_eq_true rfl) dX5_isLessSureThan_33 (fun r8 m9 hf => ?_)
    refine za_icmp_le o 43 dX5_isLessSureThan_36 (by decide) (fun c10 => ?_) (fun c10 => ?_)
    · replace hf := hf.1 c10
      refine za_iconst (v := (0 : Int32)) o dX5_isLessSureThan_43 (by decide) ?_
      refine za_sub [] rfl ?_
      exact tX5_isLessSureThan_44 o hq  (0 : Int32) m9  hf
    · replace hf := hf.2 c10
      refine za_iconst (v := (1 : Int32)) o dX5_isLessSureThan_39 (by decide) ?_
      refine za_goto o 44 dX5_isLessSureThan_40 (by decide) ?_
      refine za_sub [] rfl ?_
      exact tX5_isLessSureThan_44 o hq  (1 : Int32) m9  hf
  · replace hf := hf.2 c5
    refine za_aload_n o 0 dX5_isLessSureThan_11 rfl rfl ?_
    refine za_callVi o [] (ctX5_doubt l G hq   m4 _ hf) zc5 hq mwX5_doubt wmX5_64 wiX5_doubt wsX5_doubt rfl ⟨Nat.le_of_ble_eq_true rfl, Nat.le_of_ble_eq_true rfl⟩ rfl (Nat.le_of_ble_eq_true rfl) dX5_isLessSureThan_12 (fun r11 m12 hf => ?_)
    refine za_aload_n o 1 dX5_isLessSureThan_15 rfl rfl ?_
    refine za_callVi o [] (ctX5_doubt l G ha1   m12 _ hf) zc5 ha1 mwX5_doubt wmX5_64 wiX5_doubt wsX5_doubt rfl ⟨Nat.le_of_ble_eq_true rfl, Nat.le_of_ble_eq_true rfl⟩ rfl (Nat.le_of_ble_eq_true rfl) dX5_isLessSureThan_16 (fun r13 m14 hf => ?_)
    refine za_icmp_le o 26 dX5_isLessSureThan_19 (by decide) (fun c15 => ?_) (fun c15 => ?_)
    · replace hf := hf.1 c15
      refine za_iconst (v := (0 : Int32)) o dX5_isLessSureThan_26 (by decide) ?_
      refine za_sub [] rfl ?_
      exact tX5_isLessSureThan_27 o hq  (0 : Int32) m14  hf
    · replace hf := hf.2 c15
      refine za_iconst (v := (1 : Int32)) o dX5_isLessSureThan_22 (by decide) ?_
      refine za_goto o 27 dX5_isLessSureThan_23 (by decide) ?_
      refine za_sub [] rfl ?_
      exact tX5_isLessSureThan_27 o hq  (1 : Int32) m14  hf
def fX0_greatestDoubt_61 (k17 : Int32 → Int32 → Int32 → zMem → Prop) (K : Int32 → zMem → Prop) (q : Nat) (v1 : Int32) (v2 : Int32) (v3 : Int32) (μ : zMem) : Prop :=
  (∀ x1 : Int32, x1 = v3 + (1 : Int32) → k17 v1 v2 x1 μ)
def fX0_greatestDoubt_59 (k17 : Int32 → Int32 → Int32 → zMem → Prop) (K : Int32 → zMem → Prop) (q : Nat) (v1 : Int32) (v2 : Int32) (μ : zMem) : Prop :=
  fX0_greatestDoubt_61 k17 K q v1 v2 v2 μ
def fX0_greatestDoubt_91  (K : Int32 → zMem → Prop) (q : Nat) (v1 : Int32) (μ : zMem) : Prop :=
  K v1 μ
def fX0_greatestDoubt_17b (k17 : Int32 → Int32 → Int32 → zMem → Prop) (K : Int32 → zMem → Prop) (q : Nat) (v1 : Int32) (v2 : Int32) (v3 : Int32) (μ : zMem) : Prop :=
  (((μ q 3) ≤ v3 → ((0 ≤ v2 → ((¬ v1 = 0 → (vp_in v2 14 ∧ (∀ q6 : Nat, q6 = (q + 2) + 2 + 3 * v2.toNatClampNeg → fX5_doubt q6  μ (fun r7 m8 => fX0_greatestDoubt_91  K q r7 m8)))) ∧ (v1 = 0 → fX0_greatestDoubt_91  K q v2 μ))) ∧ (¬ 0 ≤ v2 → K (-6 : Int32) μ))) ∧ (¬ (μ q 3) ≤ v3 → (vp_in v3 14 ∧ (∀ q10 : Nat, q10 = (q + 2) + 2 + 3 * v3.toNatClampNeg → fX5_doubt q10  μ (fun r11 m12 => ((r11 ≤ 0 → fX0_greatestDoubt_61 k17 K q v1 v2 v3 m12) ∧ (¬ r11 ≤ 0 → ((v2 < 0 → fX0_greatestDoubt_59 k17 K q v1 v3 m12) ∧ (¬ v2 < 0 → (vp_in v3 14 ∧ (∀ q16 : Nat, q16 = (q + 2) + 2 + 3 * v3.toNatClampNeg → (vp_in v2 14 ∧ (∀ q18 : Nat, q18 = (q + 2) + 2 + 3 * v2.toNatClampNeg → fX5_isLessSureThan q16 q18 m12 (fun r19 m20 => ((r19 = 0 → fX0_greatestDoubt_61 k17 K q v1 v2 v3 m20) ∧ (¬ r19 = 0 → fX0_greatestDoubt_59 k17 K q v1 v3 m20))))))))))))))))
def fX0_greatestDoubt_17  (K : Int32 → zMem → Prop) (q : Nat) (n : Nat) : Int32 → Int32 → Int32 → zMem → Prop := z_it (fun k => fX0_greatestDoubt_17b  k K q ) (fun _ _ _ _ => False) n
def fX0_greatestDoubt_12  (K : Int32 → zMem → Prop) (q : Nat) (v1 : Int32) (μ : zMem) : Prop :=
  fX0_greatestDoubt_17  K q zFU v1 (-6 : Int32) (0 : Int32) μ
def fX0_greatestDoubt (q : Nat) (a1 : Int32) (μ : zMem) (K : Int32 → zMem → Prop) : Prop :=
  ((a1 = 0 → fX0_greatestDoubt_12  K q a1 μ) ∧ (¬ a1 = 0 → ((a1 = (1 : Int32) → fX0_greatestDoubt_12  K q a1 μ) ∧ (¬ a1 = (1 : Int32) → K (-2 : Int32) μ))))
set_option maxRecDepth 100000 in
set_option maxHeartbeats 4000000 in
theorem tX0_greatestDoubt_61 {p : Program} {l : Launch} {e : Env} {s : State} {m : MethodId} {args : Array Value} {below : List Frame} {meth : Method} {c : Code} {G : zG} {k17 : Int32 → Int32 → Int32 → zMem → Prop} {K : Int32 → zMem → Prop} (o : za_Ok (z_rm 3 62) 0 0 p s m args meth c G RX0 cX0_greatestDoubt 4 (some .int)) {q : Nat} (hq : z_is q 0) (hk17 : ∀ (v1 : Int32) (v2 : Int32) (v3 : Int32) (μ : zMem), k17 v1 v2 v3 μ → za_At p l e (z_rm 3 62) s m args below meth c (MQ below (zQi G K) args s 0 0 (zA G)) G 4 0 0 17 [(0, .ref (G.2.2 + q)), (1, .int v1), (2, .int v2), (3, .int v3)] [] μ) (v1 : Int32) (v2 : Int32) (v3 : Int32) (μ : zMem)  (hf : fX0_greatestDoubt_61 k17 K q v1 v2 v3 μ) : za_At p l e (z_rm 3 62) s m args below meth c (MQ below (zQi G K) args s 0 0 (zA G)) G 4 0 0 61 [(0, .ref (G.2.2 + q)), (1, .int v1), (2, .int v2), (3, .int v3)] [] μ := by
  unfold fX0_greatestDoubt_61 at hf
  obtain ⟨x1, ex1⟩ : ∃ y : Int32, y = v3 + (1 : Int32) := ⟨_, rfl⟩
  replace hf := hf x1 ex1
  refine za_iinc o x1 3 [(3, .int x1), (0, .ref (G.2.2 + q)), (1, .int v1), (2, .int v2)] dX0_greatestDoubt_61 rfl (by rw [ex1]; rfl) (by decide) rfl ?_
  refine za_goto o 17 dX0_greatestDoubt_64 (by decide) ?_
  refine za_sub [1, 2, 3, 0] rfl ?_
  exact hk17 v1 v2 x1 μ  hf
set_option maxRecDepth 100000 in
set_option maxHeartbeats 4000000 in
theorem tX0_greatestDoubt_59 {p : Program} {l : Launch} {e : Env} {s : State} {m : MethodId} {args : Array Value} {below : List Frame} {meth : Method} {c : Code} {G : zG} {k17 : Int32 → Int32 → Int32 → zMem → Prop} {K : Int32 → zMem → Prop} (o : za_Ok (z_rm 3 62) 0 0 p s m args meth c G RX0 cX0_greatestDoubt 4 (some .int)) {q : Nat} (hq : z_is q 0) (hk17 : ∀ (v1 : Int32) (v2 : Int32) (v3 : Int32) (μ : zMem), k17 v1 v2 v3 μ → za_At p l e (z_rm 3 62) s m args below meth c (MQ below (zQi G K) args s 0 0 (zA G)) G 4 0 0 17 [(0, .ref (G.2.2 + q)), (1, .int v1), (2, .int v2), (3, .int v3)] [] μ) (v1 : Int32) (v2 : Int32) (μ : zMem)  (hf : fX0_greatestDoubt_59 k17 K q v1 v2 μ) : za_At p l e (z_rm 3 62) s m args below meth c (MQ below (zQi G K) args s 0 0 (zA G)) G 4 0 0 59 [(0, .ref (G.2.2 + q)), (1, .int v1), (3, .int v2)] [] μ := by
  unfold fX0_greatestDoubt_59 at hf
  refine za_iload_n o 2 dX0_greatestDoubt_59 rfl rfl ?_
  refine za_istore_n o [(2, .int v2), (0, .ref (G.2.2 + q)), (1, .int v1), (3, .int v2)] dX0_greatestDoubt_60 rfl (by decide) rfl ?_
  refine za_sub [1, 2, 0, 3] rfl ?_
  exact tX0_greatestDoubt_61 o hq hk17 v1 v2 v2 μ  hf
set_option maxRecDepth 100000 in
set_option maxHeartbeats 4000000 in
theorem tX0_greatestDoubt_91 {p : Program} {l : Launch} {e : Env} {s : State} {m : MethodId} {args : Array Value} {below : List Frame} {meth : Method} {c : Code} {G : zG}  {K : Int32 → zMem → Prop} (o : za_Ok (z_rm 3 62) 0 0 p s m args meth c G RX0 cX0_greatestDoubt 4 (some .int)) {q : Nat} (hq : z_is q 0)  (v1 : Int32) (μ : zMem)  (hf : fX0_greatestDoubt_91  K q v1 μ) : za_At p l e (z_rm 3 62) s m args below meth c (MQ below (zQi G K) args s 0 0 (zA G)) G 4 0 0 91 [] [.int v1] μ := by
  unfold fX0_greatestDoubt_91 at hf
  exact za_iret o rfl hf dX0_greatestDoubt_91
set_option maxRecDepth 100000 in
set_option maxHeartbeats 4000000 in
theorem tX0_greatestDoubt_17b {p : Program} {l : Launch} {e : Env} {s : State} {m : MethodId} {args : Array Value} {below : List Frame} {meth : Method} {c : Code} {G : zG} {k17 : Int32 → Int32 → Int32 → zMem → Prop} {K : Int32 → zMem → Prop} (o : za_Ok (z_rm 3 62) 0 0 p s m args meth c G RX0 cX0_greatestDoubt 4 (some .int)) {q : Nat} (hq : z_is q 0) (hk17 : ∀ (v1 : Int32) (v2 : Int32) (v3 : Int32) (μ : zMem), k17 v1 v2 v3 μ → za_At p l e (z_rm 3 62) s m args below meth c (MQ below (zQi G K) args s 0 0 (zA G)) G 4 0 0 17 [(0, .ref (G.2.2 + q)), (1, .int v1), (2, .int v2), (3, .int v3)] [] μ) (v1 : Int32) (v2 : Int32) (v3 : Int32) (μ : zMem)  (hf : fX0_greatestDoubt_17b k17 K q v1 v2 v3 μ) : za_At p l e (z_rm 3 62) s m args below meth c (MQ below (zQi G K) args s 0 0 (zA G)) G 4 0 0 17 [(0, .ref (G.2.2 + q)), (1, .int v1), (2, .int v2), (3, .int v3)] [] μ := by
  unfold fX0_greatestDoubt_17b at hf
  refine za_iload_n o 3 dX0_greatestDoubt_17 rfl rfl ?_
  refine za_aload_n o 0 dX0_greatestDoubt_18 rfl rfl ?_
  refine za_getf o 3 zc0 hq (Nat.le_of_ble_eq_true rfl) wfX0_39 rfl dX0_greatestDoubt_19 ?_
  refine za_icmp_ge o 67 dX0_greatestDoubt_22 (by decide) (fun c2 => ?_) (fun c2 => ?_)
  · replace hf := hf.1 c2
    refine za_iload_n o 2 dX0_greatestDoubt_67 rfl rfl ?_
    refine za_if_ge o 74 dX0_greatestDoubt_68 (by decide) (fun c3 => ?_) (fun c3 => ?_)
    · replace hf := hf.1 c3
      refine za_iload_n o 1 dX0_greatestDoubt_74 rfl rfl ?_
      refine za_if_ne o 82 dX0_greatestDoubt_75 (by decide) (fun c4 => ?_) (fun c4 => ?_)
      · replace hf := hf.1 c4
        refine za_aload_n o 0 dX0_greatestDoubt_82 rfl rfl ?_
        refine za_getf o 1 zc0 hq (Nat.le_of_ble_eq_true rfl) wfX0_17 rfl dX0_greatestDoubt_83 ?_
        refine za_iload_n o 2 dX0_greatestDoubt_86 rfl rfl ?_
        obtain ⟨g5, hf⟩ := hf
        refine za_aald o (zk_0_10 hq) rfl rfl rfl g5 dX0_greatestDoubt_87 ?_
        refine za_topr (fun q6 eq6 => ?_)
        replace hf := hf q6 eq6
        have hq6 : z_is q6 5 := by rw [eq6]; exact zk_a10 (zk_0_10 hq) (z_lt g5)
        refine za_callVi o [] (ctX5_doubt l G hq6   μ _ hf) zc5 hq6 mwX5_doubt wmX0_105 wiX5_doubt wsX5_doubt rfl ⟨Nat.le_of_ble_eq_true rfl, Nat.le_of_ble_eq_true rfl⟩ rfl (Nat.le_of_ble_eq_true rfl) dX0_greatestDoubt_88 (fun r7 m8 hf => ?_)
        refine za_sub [] rfl ?_
        exact tX0_greatestDoubt_91 o hq  r7 m8  hf
      · replace hf := hf.2 c4
        refine za_iload_n o 2 dX0_greatestDoubt_78 rfl rfl ?_
        refine za_goto o 91 dX0_greatestDoubt_79 (by decide) ?_
        refine za_sub [] rfl ?_
        exact tX0_greatestDoubt_91 o hq  v2 μ  hf
    · replace hf := hf.2 c3
      refine za_bipush (v := (-6 : Int32)) o dX0_greatestDoubt_71 (by decide) ?_
      exact za_iret o rfl hf dX0_greatestDoubt_73
  · replace hf := hf.2 c2
    refine za_aload_n o 0 dX0_greatestDoubt_25 rfl rfl ?_
    refine za_getf o 1 zc0 hq (Nat.le_of_ble_eq_true rfl) wfX0_17 rfl dX0_greatestDoubt_26 ?_
    refine za_iload_n o 3 dX0_greatestDoubt_29 rfl rfl ?_
    obtain ⟨g9, hf⟩ := hf
    refine za_aald o (zk_0_10 hq) rfl rfl rfl g9 dX0_greatestDoubt_30 ?_
    refine za_topr (fun q10 eq10 => ?_)
    replace hf := hf q10 eq10
    have hq10 : z_is q10 5 := by rw [eq10]; exact zk_a10 (zk_0_10 hq) (z_lt g9)
    refine za_callVi o [] (ctX5_doubt l G hq10   μ _ hf) zc5 hq10 mwX5_doubt wmX0_105 wiX5_doubt wsX5_doubt rfl ⟨Nat.le_of_ble_eq_true rfl, Nat.le_of_ble_eq_true rfl⟩ rfl (Nat.le_of_ble_eq_true rfl) dX0_greatestDoubt_31 (fun r11 m12 hf => ?_)
    refine za_if_le o 61 dX0_greatestDoubt_34 (by decide) (fun c13 => ?_) (fun c13 => ?_)
    · replace hf := hf.1 c13
      exact tX0_greatestDoubt_61 o hq hk17 v1 v2 v3 m12  hf
    · replace hf := hf.2 c13
      refine za_iload_n o 2 dX0_greatestDoubt_37 rfl rfl ?_
      refine za_if_lt o 59 dX0_greatestDoubt_38 (by decide) (fun c14 => ?_) (fun c14 => ?_)
      · replace hf := hf.1 c14
        refine za_sub [0, 1, 3] rfl ?_
        exact tX0_greatestDoubt_59 o hq hk17 v1 v3 m12  hf
      · replace hf := hf.2 c14
        refine za_aload_n o 0 dX0_greatestDoubt_41 rfl rfl ?_
        refine za_getf o 1 zc0 hq (Nat.le_of_ble_eq_true rfl) wfX0_17 rfl dX0_greatestDoubt_42 ?_
        refine za_iload_n o 3 dX0_greatestDoubt_45 rfl rfl ?_
        obtain ⟨g15, hf⟩ := hf
        refine za_aald o (zk_0_10 hq) rfl rfl rfl g15 dX0_greatestDoubt_46 ?_
        refine za_topr (fun q16 eq16 => ?_)
        replace hf := hf q16 eq16
        have hq16 : z_is q16 5 := by rw [eq16]; exact zk_a10 (zk_0_10 hq) (z_lt g15)
        refine za_aload_n o 0 dX0_greatestDoubt_47 rfl rfl ?_
        refine za_getf o 1 zc0 hq (Nat.le_of_ble_eq_true rfl) wfX0_17 rfl dX0_greatestDoubt_48 ?_
        refine za_iload_n o 2 dX0_greatestDoubt_51 rfl rfl ?_
        obtain ⟨g17, hf⟩ := hf
        refine za_aald o (zk_0_10 hq) rfl rfl rfl g17 dX0_greatestDoubt_52 ?_
        refine za_topr (fun q18 eq18 => ?_)
        replace hf := hf q18 eq18
        have hq18 : z_is q18 5 := by rw [eq18]; exact zk_a10 (zk_0_10 hq) (z_lt g17)
        refine za_callVi o [.ref (G.2.2 + q18)] (ctX5_isLessSureThan l G hq16 q18 hq18 m12 _ hf) zc5 hq16 mwX5_isLessSureThan wmX0_187 wiX5_isLessSureThan wsX5_isLessSureThan rfl ⟨Nat.le_of_ble_eq_true rfl, Nat.le_of_ble_eq_true rfl⟩ rfl (Nat.le_of_ble_eq_true rfl) dX0_greatestDoubt_53 (fun r19 m20 hf => ?_)
        refine za_if_eq o 61 dX0_greatestDoubt_56 (by decide) (fun c21 => ?_) (fun c21 => ?_)
        · replace hf := hf.1 c21
          exact tX0_greatestDoubt_61 o hq hk17 v1 v2 v3 m20  hf
        · replace hf := hf.2 c21
          refine za_sub [0, 1, 3] rfl ?_
          exact tX0_greatestDoubt_59 o hq hk17 v1 v3 m20  hf
theorem tX0_greatestDoubt_17 {p : Program} {l : Launch} {e : Env} {s : State} {m : MethodId} {args : Array Value} {below : List Frame} {meth : Method} {c : Code} {G : zG}  {K : Int32 → zMem → Prop} (o : za_Ok (z_rm 3 62) 0 0 p s m args meth c G RX0 cX0_greatestDoubt 4 (some .int)) {q : Nat} (hq : z_is q 0)  (n : Nat) : ∀ (v1 : Int32) (v2 : Int32) (v3 : Int32) (μ : zMem), fX0_greatestDoubt_17  K q n v1 v2 v3 μ → za_At p l e (z_rm 3 62) s m args below meth c (MQ below (zQi G K) args s 0 0 (zA G)) G 4 0 0 17 [(0, .ref (G.2.2 + q)), (1, .int v1), (2, .int v2), (3, .int v3)] [] μ := by
  induction n with
  | zero => intro _ _ _ _ hf; exact hf.elim
  | succ n ih => intro v1 v2 v3 μ  hf; exact tX0_greatestDoubt_17b o hq  ih v1 v2 v3 μ  hf
set_option maxRecDepth 100000 in
set_option maxHeartbeats 4000000 in
theorem tX0_greatestDoubt_12 {p : Program} {l : Launch} {e : Env} {s : State} {m : MethodId} {args : Array Value} {below : List Frame} {meth : Method} {c : Code} {G : zG}  {K : Int32 → zMem → Prop} (o : za_Ok (z_rm 3 62) 0 0 p s m args meth c G RX0 cX0_greatestDoubt 4 (some .int)) {q : Nat} (hq : z_is q 0)  (v1 : Int32) (μ : zMem)  (hf : fX0_greatestDoubt_12  K q v1 μ) : za_At p l e (z_rm 3 62) s m args below meth c (MQ below (zQi G K) args s 0 0 (zA G)) G 4 0 0 12 [(0, .ref (G.2.2 + q)), (1, .int v1)] [] μ := by
  unfold fX0_greatestDoubt_12 at hf
  refine za_bipush (v := (-6 : Int32)) o dX0_greatestDoubt_12 (by decide) ?_
  refine za_istore_n o [(2, .int (-6 : Int32)), (0, .ref (G.2.2 + q)), (1, .int v1)] dX0_greatestDoubt_14 rfl (by decide) rfl ?_
  refine za_iconst (v := (0 : Int32)) o dX0_greatestDoubt_15 (by decide) ?_
  refine za_istore_n o [(3, .int (0 : Int32)), (2, .int (-6 : Int32)), (0, .ref (G.2.2 + q)), (1, .int v1)] dX0_greatestDoubt_16 rfl (by decide) rfl ?_
  refine za_sub [2, 3, 1, 0] rfl ?_
  exact tX0_greatestDoubt_17 o hq  zFU v1 (-6 : Int32) (0 : Int32) μ  hf
set_option maxRecDepth 100000 in
set_option maxHeartbeats 4000000 in
theorem ctX0_greatestDoubt (l : Launch) (G : zG) {q : Nat} (hq : z_is q 0) (a1 : Int32)  (μ : zMem) (K : Int32 → zMem → Prop) (hf : fX0_greatestDoubt q a1 μ K) : z_Met l G yX0_greatestDoubt cX0_greatestDoubt 4 (some .int) (z_rm 3 62) [.ref (G.2.2 + q), .int a1] μ K := by
  refine z_body (by decide) (Nat.le_of_ble_eq_true rfl) (fun p e s m args below meth c o => ?_)
  have o : za_Ok (z_rm 3 62) 0 0 p s m args meth c G RX0 cX0_greatestDoubt 4 (some .int) := o
  show za_At p l e (z_rm 3 62) s m args below meth c (MQ below (zQi G K) args s 0 0 (zA G)) G 4 0 0 0 [(0, .ref (G.2.2 + q)), (1, .int a1)] [] μ
  unfold fX0_greatestDoubt at hf
  refine za_iload_n o 1 dX0_greatestDoubt_0 rfl rfl ?_
  refine za_if_eq o 12 dX0_greatestDoubt_1 (by decide) (fun c22 => ?_) (fun c22 => ?_)
  · replace hf := hf.1 c22
    exact tX0_greatestDoubt_12 o hq  a1 μ  hf
  · replace hf := hf.2 c22
    refine za_iload_n o 1 dX0_greatestDoubt_4 rfl rfl ?_
    refine za_iconst (v := (1 : Int32)) o dX0_greatestDoubt_5 (by decide) ?_
    refine za_icmp_eq o 12 dX0_greatestDoubt_6 (by decide) (fun c23 => ?_) (fun c23 => ?_)
    · replace hf := hf.1 c23
      exact tX0_greatestDoubt_12 o hq  a1 μ  hf
    · replace hf := hf.2 c23
      refine za_bipush (v := (-2 : Int32)) o dX0_greatestDoubt_9 (by decide) ?_
      exact za_iret o rfl hf dX0_greatestDoubt_11
def fX7_unsurest (q : Nat) (a1 : Int32) (μ : zMem) (K : Int32 → zMem → Prop) : Prop :=
  fX0_greatestDoubt 1 a1 μ (fun r1 m2 => K r1 m2)
set_option maxRecDepth 100000 in
set_option maxHeartbeats 4000000 in
theorem ctX7_unsurest (l : Launch) (G : zG) {q : Nat} (hq : z_is q 7) (a1 : Int32)  (μ : zMem) (K : Int32 → zMem → Prop) (hf : fX7_unsurest q a1 μ K) : z_Met l G yX7_unsurest cX7_unsurest 2 (some .int) (z_rm 4 85) [.ref (G.2.2 + q), .int a1] μ K := by
  refine z_body (by decide) (Nat.le_of_ble_eq_true rfl) (fun p e s m args below meth c o => ?_)
  have o : za_Ok (z_rm 4 85) 0 0 p s m args meth c G RX7 cX7_unsurest 2 (some .int) := o
  show za_At p l e (z_rm 4 85) s m args below meth c (MQ below (zQi G K) args s 0 0 (zA G)) G 2 0 0 0 [(0, .ref (G.2.2 + q)), (1, .int a1)] [] μ
  unfold fX7_unsurest at hf
  refine za_aload_n o 0 dX7_unsurest_0 rfl rfl ?_
  refine za_getf o 0 zc7 hq (Nat.le_of_ble_eq_true rfl) wfX7_10 rfl dX7_unsurest_1 ?_
  refine za_iload_n o 1 dX7_unsurest_4 rfl rfl ?_
  refine za_callVi o [.int a1] (ctX0_greatestDoubt l G zk_c0 a1  μ _ hf) zc0 zk_c0 mwX0_greatestDoubt wmX7_106 wiX0_greatestDoubt wsX0_greatestDoubt rfl ⟨Nat.le_of_ble_eq_true rfl, Nat.le_of_ble_eq_true rfl⟩ rfl (Nat.le_of_ble_eq_true rfl) dX7_unsurest_5 (fun r1 m2 hf => ?_)
  exact za_iret o rfl hf dX7_unsurest_8
def fX0_firstPossible_19b (k12 : Int32 → Int32 → zMem → Prop) (k19 : Int32 → Int32 → Int32 → zMem → Prop) (K : Int32 → zMem → Prop) (q : Nat) (v1 : Int32) (v2 : Int32) (v3 : Int32) (μ : zMem) : Prop :=
  (((3 : Int32) ≤ v3 → (∀ x2 : Int32, x2 = v2 + (1 : Int32) → k12 v1 x2 μ)) ∧ (¬ (3 : Int32) ≤ v3 → fX0_reasonAgainst q v1 v2 v3 μ (fun r3 m4 => ((¬ r3 = 0 → (∀ x6 : Int32, x6 = v3 + (1 : Int32) → k19 v1 v2 x6 m4)) ∧ (r3 = 0 → (∀ x7 : Int32, x7 = ((3 : Int32) * v2) → (∀ x8 : Int32, x8 = (x7 + v3) → K x8 m4)))))))
def fX0_firstPossible_19 (k12 : Int32 → Int32 → zMem → Prop) (K : Int32 → zMem → Prop) (q : Nat) (n : Nat) : Int32 → Int32 → Int32 → zMem → Prop := z_it (fun k => fX0_firstPossible_19b k12 k K q ) (fun _ _ _ _ => False) n
def fX0_firstPossible_12b (k12 : Int32 → Int32 → zMem → Prop) (K : Int32 → zMem → Prop) (q : Nat) (v1 : Int32) (v2 : Int32) (μ : zMem) : Prop :=
  (((5 : Int32) ≤ v2 → K (-6 : Int32) μ) ∧ (¬ (5 : Int32) ≤ v2 → fX0_firstPossible_19 k12 K q zFU v1 v2 (0 : Int32) μ))
def fX0_firstPossible_12  (K : Int32 → zMem → Prop) (q : Nat) (n : Nat) : Int32 → Int32 → zMem → Prop := z_it (fun k => fX0_firstPossible_12b  k K q ) (fun _ _ _ => False) n
def fX0_firstPossible (q : Nat) (a1 : Int32) (μ : zMem) (K : Int32 → zMem → Prop) : Prop :=
  fX0_hasPerson q a1 μ (fun r10 m11 => ((¬ r10 = 0 → fX0_firstPossible_12  K q zFU a1 (0 : Int32) m11) ∧ (r10 = 0 → K (-1 : Int32) m11)))
set_option maxRecDepth 100000 in
set_option maxHeartbeats 4000000 in
theorem tX0_firstPossible_19b {p : Program} {l : Launch} {e : Env} {s : State} {m : MethodId} {args : Array Value} {below : List Frame} {meth : Method} {c : Code} {G : zG} {k12 : Int32 → Int32 → zMem → Prop} {k19 : Int32 → Int32 → Int32 → zMem → Prop} {K : Int32 → zMem → Prop} (o : za_Ok (z_rm 2 45) 0 0 p s m args meth c G RX0 cX0_firstPossible 4 (some .int)) {q : Nat} (hq : z_is q 0) (hk12 : ∀ (v1 : Int32) (v2 : Int32) (μ : zMem), k12 v1 v2 μ → za_At p l e (z_rm 2 45) s m args below meth c (MQ below (zQi G K) args s 0 0 (zA G)) G 4 0 0 12 [(0, .ref (G.2.2 + q)), (1, .int v1), (2, .int v2)] [] μ) (hk19 : ∀ (v1 : Int32) (v2 : Int32) (v3 : Int32) (μ : zMem), k19 v1 v2 v3 μ → za_At p l e (z_rm 2 45) s m args below meth c (MQ below (zQi G K) args s 0 0 (zA G)) G 4 0 0 19 [(0, .ref (G.2.2 + q)), (1, .int v1), (2, .int v2), (3, .int v3)] [] μ) (v1 : Int32) (v2 : Int32) (v3 : Int32) (μ : zMem)  (hf : fX0_firstPossible_19b k12 k19 K q v1 v2 v3 μ) : za_At p l e (z_rm 2 45) s m args below meth c (MQ below (zQi G K) args s 0 0 (zA G)) G 4 0 0 19 [(0, .ref (G.2.2 + q)), (1, .int v1), (2, .int v2), (3, .int v3)] [] μ := by
  unfold fX0_firstPossible_19b at hf
  refine za_iload_n o 3 dX0_firstPossible_19 rfl rfl ?_
  refine za_iconst (v := (3 : Int32)) o dX0_firstPossible_20 (by decide) ?_
  refine za_icmp_ge o 46 dX0_firstPossible_21 (by decide) (fun c1 => ?_) (fun c1 => ?_)
  · replace hf := hf.1 c1
    obtain ⟨x2, ex2⟩ : ∃ y : Int32, y = v2 + (1 : Int32) := ⟨_, rfl⟩
    replace hf := hf x2 ex2
    refine za_iinc o x2 2 [(2, .int x2), (0, .ref (G.2.2 + q)), (1, .int v1), (3, .int v3)] dX0_firstPossible_46 rfl (by rw [ex2]; rfl) (by decide) rfl ?_
    refine za_goto o 12 dX0_firstPossible_49 (by decide) ?_
    refine za_sub [1, 2, 0] rfl ?_
    exact hk12 v1 x2 μ  hf
  · replace hf := hf.2 c1
    refine za_aload_n o 0 dX0_firstPossible_24 rfl rfl ?_
    refine za_iload_n o 1 dX0_firstPossible_25 rfl rfl ?_
    refine za_iload_n o 2 dX0_firstPossible_26 rfl rfl ?_
    refine za_iload_n o 3 dX0_firstPossible_27 rfl rfl ?_
    refine za_callVi o [.int v1, .int v2, .int v3] (ctX0_reasonAgainst l G hq v1 v2 v3  μ _ hf) zc0 hq mwX0_reasonAgainst wmX0_76 wiX0_reasonAgainst wsX0_reasonAgainst rfl ⟨Nat.le_of_ble_eq_true rfl, Nat.le_of_ble_eq_true rfl⟩ rfl (Nat.le_of_ble_eq_true rfl) dX0_firstPossible_28 (fun r3 m4 hf => ?_)
    refine za_if_ne o 40 dX0_firstPossible_31 (by decide) (fun c5 => ?_) (fun c5 => ?_)
    · replace hf := hf.1 c5
      obtain ⟨x6, ex6⟩ : ∃ y : Int32, y = v3 + (1 : Int32) := ⟨_, rfl⟩
      replace hf := hf x6 ex6
      refine za_iinc o x6 3 [(3, .int x6), (0, .ref (G.2.2 + q)), (1, .int v1), (2, .int v2)] dX0_firstPossible_40 rfl (by rw [ex6]; rfl) (by decide) rfl ?_
      refine za_goto o 19 dX0_firstPossible_43 (by decide) ?_
      refine za_sub [1, 2, 3, 0] rfl ?_
      exact hk19 v1 v2 x6 m4  hf
    · replace hf := hf.2 c5
      refine za_iconst (v := (3 : Int32)) o dX0_firstPossible_34 (by decide) ?_
      refine za_iload_n o 2 dX0_firstPossible_35 rfl rfl ?_
      refine za_imul o dX0_firstPossible_36 ?_
      refine za_topi (fun x7 ex7 => ?_)
      replace hf := hf x7 ex7
      refine za_iload_n o 3 dX0_firstPossible_37 rfl rfl ?_
      refine za_iadd o dX0_firstPossible_38 ?_
      refine za_topi (fun x8 ex8 => ?_)
      replace hf := hf x8 ex8
      exact za_iret o rfl hf dX0_firstPossible_39
theorem tX0_firstPossible_19 {p : Program} {l : Launch} {e : Env} {s : State} {m : MethodId} {args : Array Value} {below : List Frame} {meth : Method} {c : Code} {G : zG} {k12 : Int32 → Int32 → zMem → Prop} {K : Int32 → zMem → Prop} (o : za_Ok (z_rm 2 45) 0 0 p s m args meth c G RX0 cX0_firstPossible 4 (some .int)) {q : Nat} (hq : z_is q 0) (hk12 : ∀ (v1 : Int32) (v2 : Int32) (μ : zMem), k12 v1 v2 μ → za_At p l e (z_rm 2 45) s m args below meth c (MQ below (zQi G K) args s 0 0 (zA G)) G 4 0 0 12 [(0, .ref (G.2.2 + q)), (1, .int v1), (2, .int v2)] [] μ) (n : Nat) : ∀ (v1 : Int32) (v2 : Int32) (v3 : Int32) (μ : zMem), fX0_firstPossible_19 k12 K q n v1 v2 v3 μ → za_At p l e (z_rm 2 45) s m args below meth c (MQ below (zQi G K) args s 0 0 (zA G)) G 4 0 0 19 [(0, .ref (G.2.2 + q)), (1, .int v1), (2, .int v2), (3, .int v3)] [] μ := by
  induction n with
  | zero => intro _ _ _ _ hf; exact hf.elim
  | succ n ih => intro v1 v2 v3 μ  hf; exact tX0_firstPossible_19b o hq hk12 ih v1 v2 v3 μ  hf
set_option maxRecDepth 100000 in
set_option maxHeartbeats 4000000 in
theorem tX0_firstPossible_12b {p : Program} {l : Launch} {e : Env} {s : State} {m : MethodId} {args : Array Value} {below : List Frame} {meth : Method} {c : Code} {G : zG} {k12 : Int32 → Int32 → zMem → Prop} {K : Int32 → zMem → Prop} (o : za_Ok (z_rm 2 45) 0 0 p s m args meth c G RX0 cX0_firstPossible 4 (some .int)) {q : Nat} (hq : z_is q 0) (hk12 : ∀ (v1 : Int32) (v2 : Int32) (μ : zMem), k12 v1 v2 μ → za_At p l e (z_rm 2 45) s m args below meth c (MQ below (zQi G K) args s 0 0 (zA G)) G 4 0 0 12 [(0, .ref (G.2.2 + q)), (1, .int v1), (2, .int v2)] [] μ) (v1 : Int32) (v2 : Int32) (μ : zMem)  (hf : fX0_firstPossible_12b k12 K q v1 v2 μ) : za_At p l e (z_rm 2 45) s m args below meth c (MQ below (zQi G K) args s 0 0 (zA G)) G 4 0 0 12 [(0, .ref (G.2.2 + q)), (1, .int v1), (2, .int v2)] [] μ := by
  unfold fX0_firstPossible_12b at hf
  refine za_iload_n o 2 dX0_firstPossible_12 rfl rfl ?_
  refine za_iconst (v := (5 : Int32)) o dX0_firstPossible_13 (by decide) ?_
  refine za_icmp_ge o 52 dX0_firstPossible_14 (by decide) (fun c9 => ?_) (fun c9 => ?_)
  · replace hf := hf.1 c9
    refine za_bipush (v := (-6 : Int32)) o dX0_firstPossible_52 (by decide) ?_
    exact za_iret o rfl hf dX0_firstPossible_54
  · replace hf := hf.2 c9
    refine za_iconst (v := (0 : Int32)) o dX0_firstPossible_17 (by decide) ?_
    refine za_istore_n o [(3, .int (0 : Int32)), (0, .ref (G.2.2 + q)), (1, .int v1), (2, .int v2)] dX0_firstPossible_18 rfl (by decide) rfl ?_
    refine za_sub [1, 2, 3, 0] rfl ?_
    exact tX0_firstPossible_19 o hq hk12 zFU v1 v2 (0 : Int32) μ  hf
theorem tX0_firstPossible_12 {p : Program} {l : Launch} {e : Env} {s : State} {m : MethodId} {args : Array Value} {below : List Frame} {meth : Method} {c : Code} {G : zG}  {K : Int32 → zMem → Prop} (o : za_Ok (z_rm 2 45) 0 0 p s m args meth c G RX0 cX0_firstPossible 4 (some .int)) {q : Nat} (hq : z_is q 0)  (n : Nat) : ∀ (v1 : Int32) (v2 : Int32) (μ : zMem), fX0_firstPossible_12  K q n v1 v2 μ → za_At p l e (z_rm 2 45) s m args below meth c (MQ below (zQi G K) args s 0 0 (zA G)) G 4 0 0 12 [(0, .ref (G.2.2 + q)), (1, .int v1), (2, .int v2)] [] μ := by
  induction n with
  | zero => intro _ _ _ hf; exact hf.elim
  | succ n ih => intro v1 v2 μ  hf; exact tX0_firstPossible_12b o hq  ih v1 v2 μ  hf
set_option maxRecDepth 100000 in
set_option maxHeartbeats 4000000 in
theorem ctX0_firstPossible (l : Launch) (G : zG) {q : Nat} (hq : z_is q 0) (a1 : Int32)  (μ : zMem) (K : Int32 → zMem → Prop) (hf : fX0_firstPossible q a1 μ K) : z_Met l G yX0_firstPossible cX0_firstPossible 4 (some .int) (z_rm 2 45) [.ref (G.2.2 + q), .int a1] μ K := by
  refine z_body (by decide) (Nat.le_of_ble_eq_true rfl) (fun p e s m args below meth c o => ?_)
  have o : za_Ok (z_rm 2 45) 0 0 p s m args meth c G RX0 cX0_firstPossible 4 (some .int) := o
  show za_At p l e (z_rm 2 45) s m args below meth c (MQ below (zQi G K) args s 0 0 (zA G)) G 4 0 0 0 [(0, .ref (G.2.2 + q)), (1, .int a1)] [] μ
  unfold fX0_firstPossible at hf
  refine za_aload_n o 0 dX0_firstPossible_0 rfl rfl ?_
  refine za_iload_n o 1 dX0_firstPossible_1 rfl rfl ?_
  refine za_callVi o [.int a1] (ctX0_hasPerson l G hq a1  μ _ hf) zc0 hq mwX0_hasPerson wmX0_69 wiX0_hasPerson wsX0_hasPerson rfl ⟨Nat.le_of_ble_eq_true rfl, Nat.le_of_ble_eq_true rfl⟩ rfl (Nat.le_of_ble_eq_true rfl) dX0_firstPossible_2 (fun r10 m11 hf => ?_)
  refine za_if_ne o 10 dX0_firstPossible_5 (by decide) (fun c12 => ?_) (fun c12 => ?_)
  · replace hf := hf.1 c12
    refine za_iconst (v := (0 : Int32)) o dX0_firstPossible_10 (by decide) ?_
    refine za_istore_n o [(2, .int (0 : Int32)), (0, .ref (G.2.2 + q)), (1, .int a1)] dX0_firstPossible_11 rfl (by decide) rfl ?_
    refine za_sub [1, 2, 0] rfl ?_
    exact tX0_firstPossible_12 o hq  zFU a1 (0 : Int32) m11  hf
  · replace hf := hf.2 c12
    refine za_iconst (v := (-1 : Int32)) o dX0_firstPossible_8 (by decide) ?_
    exact za_iret o rfl hf dX0_firstPossible_9
def fX7_firstOrder (q : Nat) (a1 : Int32) (μ : zMem) (K : Int32 → zMem → Prop) : Prop :=
  fX0_firstPossible 1 a1 μ (fun r1 m2 => K r1 m2)
set_option maxRecDepth 100000 in
set_option maxHeartbeats 4000000 in
theorem ctX7_firstOrder (l : Launch) (G : zG) {q : Nat} (hq : z_is q 7) (a1 : Int32)  (μ : zMem) (K : Int32 → zMem → Prop) (hf : fX7_firstOrder q a1 μ K) : z_Met l G yX7_firstOrder cX7_firstOrder 2 (some .int) (z_rm 3 68) [.ref (G.2.2 + q), .int a1] μ K := by
  refine z_body (by decide) (Nat.le_of_ble_eq_true rfl) (fun p e s m args below meth c o => ?_)
  have o : za_Ok (z_rm 3 68) 0 0 p s m args meth c G RX7 cX7_firstOrder 2 (some .int) := o
  show za_At p l e (z_rm 3 68) s m args below meth c (MQ below (zQi G K) args s 0 0 (zA G)) G 2 0 0 0 [(0, .ref (G.2.2 + q)), (1, .int a1)] [] μ
  unfold fX7_firstOrder at hf
  refine za_aload_n o 0 dX7_firstOrder_0 rfl rfl ?_
  refine za_getf o 0 zc7 hq (Nat.le_of_ble_eq_true rfl) wfX7_10 rfl dX7_firstOrder_1 ?_
  refine za_iload_n o 1 dX7_firstOrder_4 rfl rfl ?_
  refine za_callVi o [.int a1] (ctX0_firstPossible l G zk_c0 a1  μ _ hf) zc0 zk_c0 mwX0_firstPossible wmX7_109 wiX0_firstPossible wsX0_firstPossible rfl ⟨Nat.le_of_ble_eq_true rfl, Nat.le_of_ble_eq_true rfl⟩ rfl (Nat.le_of_ble_eq_true rfl) dX7_firstOrder_5 (fun r1 m2 hf => ?_)
  exact za_iret o rfl hf dX7_firstOrder_8
def fX1_waste_23  (K : Int32 → zMem → Prop) (q : Nat) (v1 : Int32) (μ : zMem) : Prop :=
  K v1 μ
def fX1_waste (q : Nat)  (μ : zMem) (K : Int32 → zMem → Prop) : Prop :=
  ((¬ (μ q 3) = 0 → (∀ x2 : Int32, x2 = ((100 : Int32) * (μ q 5)) → ((¬ (μ q 3) = 0) ∧ (∀ x4 : Int32, x4 = (x2 / (μ q 3)) → fX1_waste_23  K q x4 μ)))) ∧ ((μ q 3) = 0 → fX1_waste_23  K q (0 : Int32) μ))
set_option maxRecDepth 100000 in
set_option maxHeartbeats 4000000 in
theorem tX1_waste_23 {p : Program} {l : Launch} {e : Env} {s : State} {m : MethodId} {args : Array Value} {below : List Frame} {meth : Method} {c : Code} {G : zG}  {K : Int32 → zMem → Prop} (o : za_Ok (z_rm 0 0) 0 0 p s m args meth c G RX1 cX1_waste 1 (some .int)) {q : Nat} (hq : z_is q 1)  (v1 : Int32) (μ : zMem)  (hf : fX1_waste_23  K q v1 μ) : za_At p l e (z_rm 0 0) s m args below meth c (MQ below (zQi G K) args s 0 0 (zA G)) G 1 0 0 23 [] [.int v1] μ := by
  unfold fX1_waste_23 at hf
  exact za_iret o rfl hf dX1_waste_23
set_option maxRecDepth 100000 in
set_option maxHeartbeats 4000000 in
theorem ctX1_waste (l : Launch) (G : zG) {q : Nat} (hq : z_is q 1)   (μ : zMem) (K : Int32 → zMem → Prop) (hf : fX1_waste q  μ K) : z_Met l G yX1_waste cX1_waste 1 (some .int) (z_rm 0 0) [.ref (G.2.2 + q)] μ K := by
  refine z_body (by decide) (Nat.le_of_ble_eq_true rfl) (fun p e s m args below meth c o => ?_)
  have o : za_Ok (z_rm 0 0) 0 0 p s m args meth c G RX1 cX1_waste 1 (some .int) := o
  show za_At p l e (z_rm 0 0) s m args below meth c (MQ below (zQi G K) args s 0 0 (zA G)) G 1 0 0 0 [(0, .ref (G.2.2 + q))] [] μ
  unfold fX1_waste at hf
  refine za_aload_n o 0 dX1_waste_0 rfl rfl ?_
  refine za_getf o 3 zc1 hq (Nat.le_of_ble_eq_true rfl) wfX1_28 rfl dX1_waste_1 ?_
  refine za_if_ne o 11 dX1_waste_4 (by decide) (fun c1 => ?_) (fun c1 => ?_)
  · replace hf := hf.1 c1
    refine za_bipush (v := (100 : Int32)) o dX1_waste_11 (by decide) ?_
    refine za_aload_n o 0 dX1_waste_13 rfl rfl ?_
    refine za_getf o 5 zc1 hq (Nat.le_of_ble_eq_true rfl) wfX1_34 rfl dX1_waste_14 ?_
    refine za_imul o dX1_waste_17 ?_
    refine za_topi (fun x2 ex2 => ?_)
    replace hf := hf x2 ex2
    refine za_aload_n o 0 dX1_waste_18 rfl rfl ?_
    refine za_getf o 3 zc1 hq (Nat.le_of_ble_eq_true rfl) wfX1_28 rfl dX1_waste_19 ?_
    obtain ⟨g3, hf⟩ := hf
    refine za_idiv o dX1_waste_22 g3 ?_
    refine za_topi (fun x4 ex4 => ?_)
    replace hf := hf x4 ex4
    refine za_sub [] rfl ?_
    exact tX1_waste_23 o hq  x4 μ  hf
  · replace hf := hf.2 c1
    refine za_iconst (v := (0 : Int32)) o dX1_waste_7 (by decide) ?_
    refine za_goto o 23 dX1_waste_8 (by decide) ?_
    refine za_sub [] rfl ?_
    exact tX1_waste_23 o hq  (0 : Int32) μ  hf
def fX0_mostThrown_49 (k5 : Int32 → Int32 → zMem → Prop) (K : Int32 → zMem → Prop) (q : Nat) (v1 : Int32) (v2 : Int32) (μ : zMem) : Prop :=
  (∀ x1 : Int32, x1 = v2 + (1 : Int32) → k5 v1 x1 μ)
def fX0_mostThrown_47 (k5 : Int32 → Int32 → zMem → Prop) (K : Int32 → zMem → Prop) (q : Nat) (v1 : Int32) (μ : zMem) : Prop :=
  fX0_mostThrown_49 k5 K q v1 v1 μ
def fX0_mostThrown_5b (k5 : Int32 → Int32 → zMem → Prop) (K : Int32 → zMem → Prop) (q : Nat) (v1 : Int32) (v2 : Int32) (μ : zMem) : Prop :=
  (((3 : Int32) ≤ v2 → K v1 μ) ∧ (¬ (3 : Int32) ≤ v2 → (vp_in v2 3 ∧ (∀ q4 : Nat, q4 = (q + 3) + 43 + 2 * v2.toNatClampNeg → (((μ q4 5) ≤ 0 → fX0_mostThrown_49 k5 K q v1 v2 μ) ∧ (¬ (μ q4 5) ≤ 0 → ((v1 < 0 → fX0_mostThrown_47 k5 K q v2 μ) ∧ (¬ v1 < 0 → (vp_in v2 3 ∧ (∀ q8 : Nat, q8 = (q + 3) + 43 + 2 * v2.toNatClampNeg → fX1_waste q8  μ (fun r9 m10 => (vp_in v1 3 ∧ (∀ q12 : Nat, q12 = (q + 3) + 43 + 2 * v1.toNatClampNeg → fX1_waste q12  m10 (fun r13 m14 => ((r9 ≤ r13 → fX0_mostThrown_49 k5 K q v1 v2 m14) ∧ (¬ r9 ≤ r13 → fX0_mostThrown_47 k5 K q v2 m14))))))))))))))))
def fX0_mostThrown_5  (K : Int32 → zMem → Prop) (q : Nat) (n : Nat) : Int32 → Int32 → zMem → Prop := z_it (fun k => fX0_mostThrown_5b  k K q ) (fun _ _ _ => False) n
def fX0_mostThrown (q : Nat)  (μ : zMem) (K : Int32 → zMem → Prop) : Prop :=
  fX0_mostThrown_5  K q zFU (-6 : Int32) (0 : Int32) μ
set_option maxRecDepth 100000 in
set_option maxHeartbeats 4000000 in
theorem tX0_mostThrown_49 {p : Program} {l : Launch} {e : Env} {s : State} {m : MethodId} {args : Array Value} {below : List Frame} {meth : Method} {c : Code} {G : zG} {k5 : Int32 → Int32 → zMem → Prop} {K : Int32 → zMem → Prop} (o : za_Ok (z_rm 1 20) 0 0 p s m args meth c G RX0 cX0_mostThrown 3 (some .int)) {q : Nat} (hq : z_is q 0) (hk5 : ∀ (v1 : Int32) (v2 : Int32) (μ : zMem), k5 v1 v2 μ → za_At p l e (z_rm 1 20) s m args below meth c (MQ below (zQi G K) args s 0 0 (zA G)) G 3 0 0 5 [(0, .ref (G.2.2 + q)), (1, .int v1), (2, .int v2)] [] μ) (v1 : Int32) (v2 : Int32) (μ : zMem)  (hf : fX0_mostThrown_49 k5 K q v1 v2 μ) : za_At p l e (z_rm 1 20) s m args below meth c (MQ below (zQi G K) args s 0 0 (zA G)) G 3 0 0 49 [(0, .ref (G.2.2 + q)), (1, .int v1), (2, .int v2)] [] μ := by
  unfold fX0_mostThrown_49 at hf
  obtain ⟨x1, ex1⟩ : ∃ y : Int32, y = v2 + (1 : Int32) := ⟨_, rfl⟩
  replace hf := hf x1 ex1
  refine za_iinc o x1 2 [(2, .int x1), (0, .ref (G.2.2 + q)), (1, .int v1)] dX0_mostThrown_49 rfl (by rw [ex1]; rfl) (by decide) rfl ?_
  refine za_goto o 5 dX0_mostThrown_52 (by decide) ?_
  refine za_sub [1, 2, 0] rfl ?_
  exact hk5 v1 x1 μ  hf
set_option maxRecDepth 100000 in
set_option maxHeartbeats 4000000 in
theorem tX0_mostThrown_47 {p : Program} {l : Launch} {e : Env} {s : State} {m : MethodId} {args : Array Value} {below : List Frame} {meth : Method} {c : Code} {G : zG} {k5 : Int32 → Int32 → zMem → Prop} {K : Int32 → zMem → Prop} (o : za_Ok (z_rm 1 20) 0 0 p s m args meth c G RX0 cX0_mostThrown 3 (some .int)) {q : Nat} (hq : z_is q 0) (hk5 : ∀ (v1 : Int32) (v2 : Int32) (μ : zMem), k5 v1 v2 μ → za_At p l e (z_rm 1 20) s m args below meth c (MQ below (zQi G K) args s 0 0 (zA G)) G 3 0 0 5 [(0, .ref (G.2.2 + q)), (1, .int v1), (2, .int v2)] [] μ) (v1 : Int32) (μ : zMem)  (hf : fX0_mostThrown_47 k5 K q v1 μ) : za_At p l e (z_rm 1 20) s m args below meth c (MQ below (zQi G K) args s 0 0 (zA G)) G 3 0 0 47 [(0, .ref (G.2.2 + q)), (2, .int v1)] [] μ := by
  unfold fX0_mostThrown_47 at hf
  refine za_iload_n o 1 dX0_mostThrown_47 rfl rfl ?_
  refine za_istore_n o [(1, .int v1), (0, .ref (G.2.2 + q)), (2, .int v1)] dX0_mostThrown_48 rfl (by decide) rfl ?_
  refine za_sub [1, 0, 2] rfl ?_
  exact tX0_mostThrown_49 o hq hk5 v1 v1 μ  hf
set_option maxRecDepth 100000 in
set_option maxHeartbeats 4000000 in
theorem tX0_mostThrown_5b {p : Program} {l : Launch} {e : Env} {s : State} {m : MethodId} {args : Array Value} {below : List Frame} {meth : Method} {c : Code} {G : zG} {k5 : Int32 → Int32 → zMem → Prop} {K : Int32 → zMem → Prop} (o : za_Ok (z_rm 1 20) 0 0 p s m args meth c G RX0 cX0_mostThrown 3 (some .int)) {q : Nat} (hq : z_is q 0) (hk5 : ∀ (v1 : Int32) (v2 : Int32) (μ : zMem), k5 v1 v2 μ → za_At p l e (z_rm 1 20) s m args below meth c (MQ below (zQi G K) args s 0 0 (zA G)) G 3 0 0 5 [(0, .ref (G.2.2 + q)), (1, .int v1), (2, .int v2)] [] μ) (v1 : Int32) (v2 : Int32) (μ : zMem)  (hf : fX0_mostThrown_5b k5 K q v1 v2 μ) : za_At p l e (z_rm 1 20) s m args below meth c (MQ below (zQi G K) args s 0 0 (zA G)) G 3 0 0 5 [(0, .ref (G.2.2 + q)), (1, .int v1), (2, .int v2)] [] μ := by
  unfold fX0_mostThrown_5b at hf
  refine za_iload_n o 2 dX0_mostThrown_5 rfl rfl ?_
  refine za_iconst (v := (3 : Int32)) o dX0_mostThrown_6 (by decide) ?_
  refine za_icmp_ge o 55 dX0_mostThrown_7 (by decide) (fun c2 => ?_) (fun c2 => ?_)
  · replace hf := hf.1 c2
    refine za_iload_n o 1 dX0_mostThrown_55 rfl rfl ?_
    exact za_iret o rfl hf dX0_mostThrown_56
  · replace hf := hf.2 c2
    refine za_aload_n o 0 dX0_mostThrown_10 rfl rfl ?_
    refine za_getf o 2 zc0 hq (Nat.le_of_ble_eq_true rfl) wfX0_23 rfl dX0_mostThrown_11 ?_
    refine za_iload_n o 2 dX0_mostThrown_14 rfl rfl ?_
    obtain ⟨g3, hf⟩ := hf
    refine za_aald o (zk_0_11 hq) rfl rfl rfl g3 dX0_mostThrown_15 ?_
    refine za_topr (fun q4 eq4 => ?_)
    replace hf := hf q4 eq4
    have hq4 : z_is q4 1 := by rw [eq4]; exact zk_a11 (zk_0_11 hq) (z_lt g3)
    refine za_getfN o 5 "CanteenPlates" zc1 hq4 (Nat.le_of_ble_eq_true rfl) wnX0_166 rfl dX0_mostThrown_16 ?_
    refine za_if_le o 49 dX0_mostThrown_19 (by decide) (fun c5 => ?_) (fun c5 => ?_)
    · replace hf := hf.1 c5
      exact tX0_mostThrown_49 o hq hk5 v1 v2 μ  hf
    · replace hf := hf.2 c5
      refine za_iload_n o 1 dX0_mostThrown_22 rfl rfl ?_
      refine za_if_lt o 47 dX0_mostThrown_23 (by decide) (fun c6 => ?_) (fun c6 => ?_)
      · replace hf := hf.1 c6
        refine za_sub [0, 2] rfl ?_
        exact tX0_mostThrown_47 o hq hk5 v2 μ  hf
      · replace hf := hf.2 c6
        refine za_aload_n o 0 dX0_mostThrown_26 rfl rfl ?_
        refine za_getf o 2 zc0 hq (Nat.le_of_ble_eq_true rfl) wfX0_23 rfl dX0_mostThrown_27 ?_
        refine za_iload_n o 2 dX0_mostThrown_30 rfl rfl ?_
        obtain ⟨g7, hf⟩ := hf
        refine za_aald o (zk_0_11 hq) rfl rfl rfl g7 dX0_mostThrown_31 ?_
        refine za_topr (fun q8 eq8 => ?_)
        replace hf := hf q8 eq8
        have hq8 : z_is q8 1 := by rw [eq8]; exact zk_a11 (zk_0_11 hq) (z_lt g7)
        refine za_callVi o [] (ctX1_waste l G hq8   μ _ hf) zc1 hq8 mwX1_waste wmX0_191 wiX1_waste wsX1_waste rfl ⟨Nat.le_of_ble_eq_true rfl, Nat.le_of_ble_eq_true rfl⟩ rfl (Nat.le_of_ble_eq_true rfl) dX0_mostThrown_32 (fun r9 m10 hf => ?_)
        refine za_aload_n o 0 dX0_mostThrown_35 rfl rfl ?_
        refine za_getf o 2 zc0 hq (Nat.le_of_ble_eq_true rfl) wfX0_23 rfl dX0_mostThrown_36 ?_
        refine za_iload_n o 1 dX0_mostThrown_39 rfl rfl ?_
        obtain ⟨g11, hf⟩ := hf
        refine za_aald o (zk_0_11 hq) rfl rfl rfl g11 dX0_mostThrown_40 ?_
        refine za_topr (fun q12 eq12 => ?_)
        replace hf := hf q12 eq12
        have hq12 : z_is q12 1 := by rw [eq12]; exact zk_a11 (zk_0_11 hq) (z_lt g11)
        refine za_callVi o [] (ctX1_waste l G hq12   m10 _ hf) zc1 hq12 mwX1_waste wmX0_191 wiX1_waste wsX1_waste rfl ⟨Nat.le_of_ble_eq_true rfl, Nat.le_of_ble_eq_true rfl⟩ rfl (Nat.le_of_ble_eq_true rfl) dX0_mostThrown_41 (fun r13 m14 hf => ?_)
        refine za_icmp_le o 49 dX0_mostThrown_44 (by decide) (fun c15 => ?_) (fun c15 => ?_)
        · replace hf := hf.1 c15
          exact tX0_mostThrown_49 o hq hk5 v1 v2 m14  hf
        · replace hf := hf.2 c15
          refine za_sub [0, 2] rfl ?_
          exact tX0_mostThrown_47 o hq hk5 v2 m14  hf
theorem tX0_mostThrown_5 {p : Program} {l : Launch} {e : Env} {s : State} {m : MethodId} {args : Array Value} {below : List Frame} {meth : Method} {c : Code} {G : zG}  {K : Int32 → zMem → Prop} (o : za_Ok (z_rm 1 20) 0 0 p s m args meth c G RX0 cX0_mostThrown 3 (some .int)) {q : Nat} (hq : z_is q 0)  (n : Nat) : ∀ (v1 : Int32) (v2 : Int32) (μ : zMem), fX0_mostThrown_5  K q n v1 v2 μ → za_At p l e (z_rm 1 20) s m args below meth c (MQ below (zQi G K) args s 0 0 (zA G)) G 3 0 0 5 [(0, .ref (G.2.2 + q)), (1, .int v1), (2, .int v2)] [] μ := by
  induction n with
  | zero => intro _ _ _ hf; exact hf.elim
  | succ n ih => intro v1 v2 μ  hf; exact tX0_mostThrown_5b o hq  ih v1 v2 μ  hf
set_option maxRecDepth 100000 in
set_option maxHeartbeats 4000000 in
theorem ctX0_mostThrown (l : Launch) (G : zG) {q : Nat} (hq : z_is q 0)   (μ : zMem) (K : Int32 → zMem → Prop) (hf : fX0_mostThrown q  μ K) : z_Met l G yX0_mostThrown cX0_mostThrown 3 (some .int) (z_rm 1 20) [.ref (G.2.2 + q)] μ K := by
  refine z_body (by decide) (Nat.le_of_ble_eq_true rfl) (fun p e s m args below meth c o => ?_)
  have o : za_Ok (z_rm 1 20) 0 0 p s m args meth c G RX0 cX0_mostThrown 3 (some .int) := o
  show za_At p l e (z_rm 1 20) s m args below meth c (MQ below (zQi G K) args s 0 0 (zA G)) G 3 0 0 0 [(0, .ref (G.2.2 + q))] [] μ
  unfold fX0_mostThrown at hf
  refine za_bipush (v := (-6 : Int32)) o dX0_mostThrown_0 (by decide) ?_
  refine za_istore_n o [(1, .int (-6 : Int32)), (0, .ref (G.2.2 + q))] dX0_mostThrown_2 rfl (by decide) rfl ?_
  refine za_iconst (v := (0 : Int32)) o dX0_mostThrown_3 (by decide) ?_
  refine za_istore_n o [(2, .int (0 : Int32)), (1, .int (-6 : Int32)), (0, .ref (G.2.2 + q))] dX0_mostThrown_4 rfl (by decide) rfl ?_
  refine za_sub [2, 1, 0] rfl ?_
  exact tX0_mostThrown_5 o hq  zFU (-6 : Int32) (0 : Int32) μ  hf
def fX7_wasted (q : Nat)  (μ : zMem) (K : Int32 → zMem → Prop) : Prop :=
  fX0_mostThrown 1  μ (fun r1 m2 => K r1 m2)
set_option maxRecDepth 100000 in
set_option maxHeartbeats 4000000 in
theorem ctX7_wasted (l : Launch) (G : zG) {q : Nat} (hq : z_is q 7)   (μ : zMem) (K : Int32 → zMem → Prop) (hf : fX7_wasted q  μ K) : z_Met l G yX7_wasted cX7_wasted 1 (some .int) (z_rm 2 42) [.ref (G.2.2 + q)] μ K := by
  refine z_body (by decide) (Nat.le_of_ble_eq_true rfl) (fun p e s m args below meth c o => ?_)
  have o : za_Ok (z_rm 2 42) 0 0 p s m args meth c G RX7 cX7_wasted 1 (some .int) := o
  show za_At p l e (z_rm 2 42) s m args below meth c (MQ below (zQi G K) args s 0 0 (zA G)) G 1 0 0 0 [(0, .ref (G.2.2 + q))] [] μ
  unfold fX7_wasted at hf
  refine za_aload_n o 0 dX7_wasted_0 rfl rfl ?_
  refine za_getf o 0 zc7 hq (Nat.le_of_ble_eq_true rfl) wfX7_10 rfl dX7_wasted_1 ?_
  refine za_callVi o [] (ctX0_mostThrown l G zk_c0   μ _ hf) zc0 zk_c0 mwX0_mostThrown wmX7_112 wiX0_mostThrown wsX0_mostThrown rfl ⟨Nat.le_of_ble_eq_true rfl, Nat.le_of_ble_eq_true rfl⟩ rfl (Nat.le_of_ble_eq_true rfl) dX7_wasted_4 (fun r1 m2 hf => ?_)
  exact za_iret o rfl hf dX7_wasted_7
def fX2_takeBack_29  (K : Int32 → zMem → Prop) (q : Nat) (v1 : Nat) (v2 : Int32) (v3 : Nat) (μ : zMem) : Prop :=
  (∀ m1 : zMem, m1 = z_up μ v3 1 v2 → (∀ x2 : Int32, x2 = ((m1 q 2) - (1 : Int32)) → (∀ m3 : zMem, m3 = z_up m1 q 2 x2 → (vp_in (m3 q 1) 7 ∧ (∀ q5 : Nat, q5 = (q + 1) + 1 + 52 * ((m3 q 1)).toNatClampNeg → fX0_become v1 q5 m3 (fun m7 => K (m7 q 2) m7))))))
def fX2_takeBack (q : Nat) (a1 : Nat) (μ : zMem) (K : Int32 → zMem → Prop) : Prop :=
  ((¬ (μ q 2) = 0 → ((¬ (μ q 1) = 0 → (∀ x10 : Int32, x10 = ((μ q 1) - (1 : Int32)) → fX2_takeBack_29  K q a1 x10 q μ)) ∧ ((μ q 1) = 0 → fX2_takeBack_29  K q a1 (6 : Int32) q μ))) ∧ ((μ q 2) = 0 → K (-5 : Int32) μ))
set_option maxRecDepth 100000 in
set_option maxHeartbeats 4000000 in
theorem tX2_takeBack_29 {p : Program} {l : Launch} {e : Env} {s : State} {m : MethodId} {args : Array Value} {below : List Frame} {meth : Method} {c : Code} {G : zG}  {K : Int32 → zMem → Prop} (o : za_Ok (z_rm 3 78) 0 0 p s m args meth c G RX2 cX2_takeBack 2 (some .int)) {q : Nat} (hq : z_is q 2)  (v1 : Nat) (v2 : Int32) (v3 : Nat) (μ : zMem) (hv1 : z_is v1 0) (hv3 : z_is v3 2) (hf : fX2_takeBack_29  K q v1 v2 v3 μ) : za_At p l e (z_rm 3 78) s m args below meth c (MQ below (zQi G K) args s 0 0 (zA G)) G 2 0 0 29 [(0, .ref (G.2.2 + q)), (1, .ref (G.2.2 + v1))] [.int v2, .ref (G.2.2 + v3)] μ := by
  unfold fX2_takeBack_29 at hf
  refine za_putf (ty := .int) o 1 zc2 hv3 (Nat.le_of_ble_eq_true rfl) wfX2_22 rfl (by decide +kernel) rfl rfl (Nat.le_of_ble_eq_true rfl) rfl dX2_takeBack_29 ?_
  refine za_mem (fun m1 em1 => ?_)
  replace hf := hf m1 em1
  refine za_aload_n o 0 dX2_takeBack_32 rfl rfl ?_
  refine za_dup o dX2_takeBack_33 rfl ?_
  refine za_getf o 2 zc2 hq (Nat.le_of_ble_eq_true rfl) wfX2_18 rfl dX2_takeBack_34 ?_
  refine za_iconst (v := (1 : Int32)) o dX2_takeBack_37 (by decide) ?_
  refine za_isub o dX2_takeBack_38 ?_
  refine za_topi (fun x2 ex2 => ?_)
  replace hf := hf x2 ex2
  refine za_putf (ty := .int) o 2 zc2 hq (Nat.le_of_ble_eq_true rfl) wfX2_18 rfl (by decide +kernel) rfl rfl (Nat.le_of_ble_eq_true rfl) rfl dX2_takeBack_39 ?_
  refine za_mem (fun m3 em3 => ?_)
  replace hf := hf m3 em3
  refine za_aload_n o 1 dX2_takeBack_42 rfl rfl ?_
  refine za_aload_n o 0 dX2_takeBack_43 rfl rfl ?_
  refine za_getf o 0 zc2 hq (Nat.le_of_ble_eq_true rfl) wfX2_11 rfl dX2_takeBack_44 ?_
  refine za_aload_n o 0 dX2_takeBack_47 rfl rfl ?_
  refine za_getf o 1 zc2 hq (Nat.le_of_ble_eq_true rfl) wfX2_22 rfl dX2_takeBack_48 ?_
  obtain ⟨g4, hf⟩ := hf
  refine za_aald o (zk_2_13 hq) rfl rfl rfl g4 dX2_takeBack_51 ?_
  refine za_topr (fun q5 eq5 => ?_)
  replace hf := hf q5 eq5
  have hq5 : z_is q5 0 := by rw [eq5]; exact zk_a13 (zk_2_13 hq) (z_lt g4)
  refine za_callVv o [.ref (G.2.2 + q5)] (ctX0_become l G hv1 q5 hq5 m3 _ hf) zc0 hv1 mwX0_become wmX2_25 wiX0_become wsX0_become rfl ⟨Nat.le_of_ble_eq_true rfl, Nat.le_of_ble_eq_true rfl⟩ rfl (Nat.le_of_ble_eq_true rfl) dX2_takeBack_52 (fun m7 hf => ?_)
  refine za_aload_n o 0 dX2_takeBack_55 rfl rfl ?_
  refine za_getf o 2 zc2 hq (Nat.le_of_ble_eq_true rfl) wfX2_18 rfl dX2_takeBack_56 ?_
  exact za_iret o rfl hf dX2_takeBack_59
set_option maxRecDepth 100000 in
set_option maxHeartbeats 4000000 in
theorem ctX2_takeBack (l : Launch) (G : zG) {q : Nat} (hq : z_is q 2) (a1 : Nat) (ha1 : z_is a1 0) (μ : zMem) (K : Int32 → zMem → Prop) (hf : fX2_takeBack q a1 μ K) : z_Met l G yX2_takeBack cX2_takeBack 2 (some .int) (z_rm 3 78) [.ref (G.2.2 + q), .ref (G.2.2 + a1)] μ K := by
  refine z_body (by decide) (Nat.le_of_ble_eq_true rfl) (fun p e s m args below meth c o => ?_)
  have o : za_Ok (z_rm 3 78) 0 0 p s m args meth c G RX2 cX2_takeBack 2 (some .int) := o
  show za_At p l e (z_rm 3 78) s m args below meth c (MQ below (zQi G K) args s 0 0 (zA G)) G 2 0 0 0 [(0, .ref (G.2.2 + q)), (1, .ref (G.2.2 + a1))] [] μ
  unfold fX2_takeBack at hf
  refine za_aload_n o 0 dX2_takeBack_0 rfl rfl ?_
  refine za_getf o 2 zc2 hq (Nat.le_of_ble_eq_true rfl) wfX2_18 rfl dX2_takeBack_1 ?_
  refine za_if_ne o 10 dX2_takeBack_4 (by decide) (fun c8 => ?_) (fun c8 => ?_)
  · replace hf := hf.1 c8
    refine za_aload_n o 0 dX2_takeBack_10 rfl rfl ?_
    refine za_aload_n o 0 dX2_takeBack_11 rfl rfl ?_
    refine za_getf o 1 zc2 hq (Nat.le_of_ble_eq_true rfl) wfX2_22 rfl dX2_takeBack_12 ?_
    refine za_if_ne o 23 dX2_takeBack_15 (by decide) (fun c9 => ?_) (fun c9 => ?_)
    · replace hf := hf.1 c9
      refine za_aload_n o 0 dX2_takeBack_23 rfl rfl ?_
      refine za_getf o 1 zc2 hq (Nat.le_of_ble_eq_true rfl) wfX2_22 rfl dX2_takeBack_24 ?_
      refine za_iconst (v := (1 : Int32)) o dX2_takeBack_27 (by decide) ?_
      refine za_isub o dX2_takeBack_28 ?_
      refine za_topi (fun x10 ex10 => ?_)
      replace hf := hf x10 ex10
      exact tX2_takeBack_29 o hq  a1 x10 q μ ha1 hq hf
    · replace hf := hf.2 c9
      refine za_bipush (v := (6 : Int32)) o dX2_takeBack_18 (by decide) ?_
      refine za_goto o 29 dX2_takeBack_20 (by decide) ?_
      exact tX2_takeBack_29 o hq  a1 (6 : Int32) q μ ha1 hq hf
  · replace hf := hf.2 c8
    refine za_bipush (v := (-5 : Int32)) o dX2_takeBack_7 (by decide) ?_
    exact za_iret o rfl hf dX2_takeBack_9
def fX7_undo (q : Nat)  (μ : zMem) (K : Int32 → zMem → Prop) : Prop :=
  fX2_takeBack 53 1 μ (fun r1 m2 => K r1 m2)
set_option maxRecDepth 100000 in
set_option maxHeartbeats 4000000 in
theorem ctX7_undo (l : Launch) (G : zG) {q : Nat} (hq : z_is q 7)   (μ : zMem) (K : Int32 → zMem → Prop) (hf : fX7_undo q  μ K) : z_Met l G yX7_undo cX7_undo 1 (some .int) (z_rm 4 99) [.ref (G.2.2 + q)] μ K := by
  refine z_body (by decide) (Nat.le_of_ble_eq_true rfl) (fun p e s m args below meth c o => ?_)
  have o : za_Ok (z_rm 4 99) 0 0 p s m args meth c G RX7 cX7_undo 1 (some .int) := o
  show za_At p l e (z_rm 4 99) s m args below meth c (MQ below (zQi G K) args s 0 0 (zA G)) G 1 0 0 0 [(0, .ref (G.2.2 + q))] [] μ
  unfold fX7_undo at hf
  refine za_aload_n o 0 dX7_undo_0 rfl rfl ?_
  refine za_getf o 1 zc7 hq (Nat.le_of_ble_eq_true rfl) wfX7_19 rfl dX7_undo_1 ?_
  refine za_aload_n o 0 dX7_undo_4 rfl rfl ?_
  refine za_getf o 0 zc7 hq (Nat.le_of_ble_eq_true rfl) wfX7_10 rfl dX7_undo_5 ?_
  refine za_callVi o [.ref (G.2.2 + 1)] (ctX2_takeBack l G zk_c2 1 zk_c0 μ _ hf) zc2 zk_c2 mwX2_takeBack wmX7_128 wiX2_takeBack wsX2_takeBack rfl ⟨Nat.le_of_ble_eq_true rfl, Nat.le_of_ble_eq_true rfl⟩ rfl (Nat.le_of_ble_eq_true rfl) dX7_undo_8 (fun r1 m2 hf => ?_)
  exact za_iret o rfl hf dX7_undo_11
def fX6_store_9  (K : Int32 → zMem → Prop) (q : Nat)  (μ : zMem) : Prop :=
  K (-2 : Int32) μ
def fX6_store (q : Nat) (a1 : Int32) (a2 : Nat) (μ : zMem) (K : Int32 → zMem → Prop) : Prop :=
  ((a1 < 0 → fX6_store_9  K q  μ) ∧ (¬ a1 < 0 → ((a1 < (2 : Int32) → (vp_in a1 2 ∧ (∀ q4 : Nat, q4 = (q + 1) + 2 + 52 * a1.toNatClampNeg → fX0_become q4 a2 μ (fun m6 => (vp_in a1 2 ∧ (∀ m8 : zMem, m8 = z_up m6 (q + 2) a1.toNatClampNeg (vp_nar .boolean (1 : Int32)) → K (m8 a2 3) m8)))))) ∧ (¬ a1 < (2 : Int32) → fX6_store_9  K q  μ))))
set_option maxRecDepth 100000 in
set_option maxHeartbeats 4000000 in
theorem tX6_store_9 {p : Program} {l : Launch} {e : Env} {s : State} {m : MethodId} {args : Array Value} {below : List Frame} {meth : Method} {c : Code} {G : zG}  {K : Int32 → zMem → Prop} (o : za_Ok (z_rm 3 78) 0 0 p s m args meth c G RX6 cX6_store 3 (some .int)) {q : Nat} (hq : z_is q 6)   (μ : zMem)  (hf : fX6_store_9  K q  μ) : za_At p l e (z_rm 3 78) s m args below meth c (MQ below (zQi G K) args s 0 0 (zA G)) G 3 0 0 9 [] [] μ := by
  unfold fX6_store_9 at hf
  refine za_bipush (v := (-2 : Int32)) o dX6_store_9 (by decide) ?_
  exact za_iret o rfl hf dX6_store_11
set_option maxRecDepth 100000 in
set_option maxHeartbeats 4000000 in
theorem ctX6_store (l : Launch) (G : zG) {q : Nat} (hq : z_is q 6) (a1 : Int32) (a2 : Nat) (ha2 : z_is a2 0) (μ : zMem) (K : Int32 → zMem → Prop) (hf : fX6_store q a1 a2 μ K) : z_Met l G yX6_store cX6_store 3 (some .int) (z_rm 3 78) [.ref (G.2.2 + q), .int a1, .ref (G.2.2 + a2)] μ K := by
  refine z_body (by decide) (Nat.le_of_ble_eq_true rfl) (fun p e s m args below meth c o => ?_)
  have o : za_Ok (z_rm 3 78) 0 0 p s m args meth c G RX6 cX6_store 3 (some .int) := o
  show za_At p l e (z_rm 3 78) s m args below meth c (MQ below (zQi G K) args s 0 0 (zA G)) G 3 0 0 0 [(0, .ref (G.2.2 + q)), (1, .int a1), (2, .ref (G.2.2 + a2))] [] μ
  unfold fX6_store at hf
  refine za_iload_n o 1 dX6_store_0 rfl rfl ?_
  refine za_if_lt o 9 dX6_store_1 (by decide) (fun c1 => ?_) (fun c1 => ?_)
  · replace hf := hf.1 c1
    refine za_sub [] rfl ?_
    exact tX6_store_9 o hq   μ  hf
  · replace hf := hf.2 c1
    refine za_iload_n o 1 dX6_store_4 rfl rfl ?_
    refine za_iconst (v := (2 : Int32)) o dX6_store_5 (by decide) ?_
    refine za_icmp_lt o 12 dX6_store_6 (by decide) (fun c2 => ?_) (fun c2 => ?_)
    · replace hf := hf.1 c2
      refine za_aload_n o 0 dX6_store_12 rfl rfl ?_
      refine za_getf o 0 zc6 hq (Nat.le_of_ble_eq_true rfl) wfX6_11 rfl dX6_store_13 ?_
      refine za_iload_n o 1 dX6_store_16 rfl rfl ?_
      obtain ⟨g3, hf⟩ := hf
      refine za_aald o (zk_6_14 hq) rfl rfl rfl g3 dX6_store_17 ?_
      refine za_topr (fun q4 eq4 => ?_)
      replace hf := hf q4 eq4
      have hq4 : z_is q4 0 := by rw [eq4]; exact zk_a14 (zk_6_14 hq) (z_lt g3)
      refine za_aload_n o 2 dX6_store_18 rfl rfl ?_
      refine za_callVv o [.ref (G.2.2 + a2)] (ctX0_become l G hq4 a2 ha2 μ _ hf) zc0 hq4 mwX0_become wmX6_22 wiX0_become wsX0_become rfl ⟨Nat.le_of_ble_eq_true rfl, Nat.le_of_ble_eq_true rfl⟩ rfl (Nat.le_of_ble_eq_true rfl) dX6_store_19 (fun m6 hf => ?_)
      refine za_aload_n o 0 dX6_store_22 rfl rfl ?_
      refine za_getf o 1 zc6 hq (Nat.le_of_ble_eq_true rfl) wfX6_17 rfl dX6_store_23 ?_
      refine za_iload_n o 1 dX6_store_26 rfl rfl ?_
      refine za_iconst (v := (1 : Int32)) o dX6_store_27 (by decide) ?_
      obtain ⟨g7, hf⟩ := hf
      refine za_zast o (zk_6_15 hq) rfl g7 dX6_store_28 ?_
      refine za_mem (fun m8 em8 => ?_)
      replace hf := hf m8 em8
      refine za_aload_n o 2 dX6_store_29 rfl rfl ?_
      refine za_getfN o 3 "CanteenPlates" zc0 ha2 (Nat.le_of_ble_eq_true rfl) wnX6_26 rfl dX6_store_30 ?_
      exact za_iret o rfl hf dX6_store_33
    · replace hf := hf.2 c2
      refine za_sub [] rfl ?_
      exact tX6_store_9 o hq   μ  hf
def fX7_save (q : Nat) (a1 : Int32) (μ : zMem) (K : Int32 → zMem → Prop) : Prop :=
  fX6_store 419 a1 1 μ (fun r1 m2 => K r1 m2)
set_option maxRecDepth 100000 in
set_option maxHeartbeats 4000000 in
theorem ctX7_save (l : Launch) (G : zG) {q : Nat} (hq : z_is q 7) (a1 : Int32)  (μ : zMem) (K : Int32 → zMem → Prop) (hf : fX7_save q a1 μ K) : z_Met l G yX7_save cX7_save 2 (some .int) (z_rm 4 100) [.ref (G.2.2 + q), .int a1] μ K := by
  refine z_body (by decide) (Nat.le_of_ble_eq_true rfl) (fun p e s m args below meth c o => ?_)
  have o : za_Ok (z_rm 4 100) 0 0 p s m args meth c G RX7 cX7_save 2 (some .int) := o
  show za_At p l e (z_rm 4 100) s m args below meth c (MQ below (zQi G K) args s 0 0 (zA G)) G 2 0 0 0 [(0, .ref (G.2.2 + q)), (1, .int a1)] [] μ
  unfold fX7_save at hf
  refine za_aload_n o 0 dX7_save_0 rfl rfl ?_
  refine za_getf o 2 zc7 hq (Nat.le_of_ble_eq_true rfl) wfX7_26 rfl dX7_save_1 ?_
  refine za_iload_n o 1 dX7_save_4 rfl rfl ?_
  refine za_aload_n o 0 dX7_save_5 rfl rfl ?_
  refine za_getf o 0 zc7 hq (Nat.le_of_ble_eq_true rfl) wfX7_10 rfl dX7_save_6 ?_
  refine za_callVi o [.int a1, .ref (G.2.2 + 1)] (ctX6_store l G zk_c6 a1 1 zk_c0 μ _ hf) zc6 zk_c6 mwX6_store wmX7_132 wiX6_store wsX6_store rfl ⟨Nat.le_of_ble_eq_true rfl, Nat.le_of_ble_eq_true rfl⟩ rfl (Nat.le_of_ble_eq_true rfl) dX7_save_9 (fun r1 m2 hf => ?_)
  exact za_iret o rfl hf dX7_save_12
def fX6_fetch_9  (K : Int32 → zMem → Prop) (q : Nat)  (μ : zMem) : Prop :=
  K (-2 : Int32) μ
def fX6_fetch (q : Nat) (a1 : Int32) (a2 : Nat) (μ : zMem) (K : Int32 → zMem → Prop) : Prop :=
  ((a1 < 0 → fX6_fetch_9  K q  μ) ∧ (¬ a1 < 0 → ((a1 < (2 : Int32) → (vp_in a1 2 ∧ (∀ x4 : Int32, x4 = (μ (q + 2) a1.toNatClampNeg) → ((¬ x4 = 0 → (vp_in a1 2 ∧ (∀ q7 : Nat, q7 = (q + 1) + 2 + 52 * a1.toNatClampNeg → fX0_become a2 q7 μ (fun m9 => K (m9 a2 3) m9)))) ∧ (x4 = 0 → K (-5 : Int32) μ))))) ∧ (¬ a1 < (2 : Int32) → fX6_fetch_9  K q  μ))))
set_option maxRecDepth 100000 in
set_option maxHeartbeats 4000000 in
theorem tX6_fetch_9 {p : Program} {l : Launch} {e : Env} {s : State} {m : MethodId} {args : Array Value} {below : List Frame} {meth : Method} {c : Code} {G : zG}  {K : Int32 → zMem → Prop} (o : za_Ok (z_rm 3 78) 0 0 p s m args meth c G RX6 cX6_fetch 3 (some .int)) {q : Nat} (hq : z_is q 6)   (μ : zMem)  (hf : fX6_fetch_9  K q  μ) : za_At p l e (z_rm 3 78) s m args below meth c (MQ below (zQi G K) args s 0 0 (zA G)) G 3 0 0 9 [] [] μ := by
  unfold fX6_fetch_9 at hf
  refine za_bipush (v := (-2 : Int32)) o dX6_fetch_9 (by decide) ?_
  exact za_iret o rfl hf dX6_fetch_11
set_option maxRecDepth 100000 in
set_option maxHeartbeats 4000000 in
theorem ctX6_fetch (l : Launch) (G : zG) {q : Nat} (hq : z_is q 6) (a1 : Int32) (a2 : Nat) (ha2 : z_is a2 0) (μ : zMem) (K : Int32 → zMem → Prop) (hf : fX6_fetch q a1 a2 μ K) : z_Met l G yX6_fetch cX6_fetch 3 (some .int) (z_rm 3 78) [.ref (G.2.2 + q), .int a1, .ref (G.2.2 + a2)] μ K := by
  refine z_body (by decide) (Nat.le_of_ble_eq_true rfl) (fun p e s m args below meth c o => ?_)
  have o : za_Ok (z_rm 3 78) 0 0 p s m args meth c G RX6 cX6_fetch 3 (some .int) := o
  show za_At p l e (z_rm 3 78) s m args below meth c (MQ below (zQi G K) args s 0 0 (zA G)) G 3 0 0 0 [(0, .ref (G.2.2 + q)), (1, .int a1), (2, .ref (G.2.2 + a2))] [] μ
  unfold fX6_fetch at hf
  refine za_iload_n o 1 dX6_fetch_0 rfl rfl ?_
  refine za_if_lt o 9 dX6_fetch_1 (by decide) (fun c1 => ?_) (fun c1 => ?_)
  · replace hf := hf.1 c1
    refine za_sub [] rfl ?_
    exact tX6_fetch_9 o hq   μ  hf
  · replace hf := hf.2 c1
    refine za_iload_n o 1 dX6_fetch_4 rfl rfl ?_
    refine za_iconst (v := (2 : Int32)) o dX6_fetch_5 (by decide) ?_
    refine za_icmp_lt o 12 dX6_fetch_6 (by decide) (fun c2 => ?_) (fun c2 => ?_)
    · replace hf := hf.1 c2
      refine za_aload_n o 0 dX6_fetch_12 rfl rfl ?_
      refine za_getf o 1 zc6 hq (Nat.le_of_ble_eq_true rfl) wfX6_17 rfl dX6_fetch_13 ?_
      refine za_iload_n o 1 dX6_fetch_16 rfl rfl ?_
      obtain ⟨g3, hf⟩ := hf
      refine za_zald o (zk_6_15 hq) rfl g3 dX6_fetch_17 ?_
      refine za_topi (fun x4 ex4 => ?_)
      replace hf := hf x4 ex4
      refine za_if_ne o 24 dX6_fetch_18 (by decide) (fun c5 => ?_) (fun c5 => ?_)
      · replace hf := hf.1 c5
        refine za_aload_n o 2 dX6_fetch_24 rfl rfl ?_
        refine za_aload_n o 0 dX6_fetch_25 rfl rfl ?_
        refine za_getf o 0 zc6 hq (Nat.le_of_ble_eq_true rfl) wfX6_11 rfl dX6_fetch_26 ?_
        refine za_iload_n o 1 dX6_fetch_29 rfl rfl ?_
        obtain ⟨g6, hf⟩ := hf
        refine za_aald o (zk_6_14 hq) rfl rfl rfl g6 dX6_fetch_30 ?_
        refine za_topr (fun q7 eq7 => ?_)
        replace hf := hf q7 eq7
        have hq7 : z_is q7 0 := by rw [eq7]; exact zk_a14 (zk_6_14 hq) (z_lt g6)
        refine za_callVv o [.ref (G.2.2 + q7)] (ctX0_become l G ha2 q7 hq7 μ _ hf) zc0 ha2 mwX0_become wmX6_22 wiX0_become wsX0_become rfl ⟨Nat.le_of_ble_eq_true rfl, Nat.le_of_ble_eq_true rfl⟩ rfl (Nat.le_of_ble_eq_true rfl) dX6_fetch_31 (fun m9 hf => ?_)
        refine za_aload_n o 2 dX6_fetch_34 rfl rfl ?_
        refine za_getfN o 3 "CanteenPlates" zc0 ha2 (Nat.le_of_ble_eq_true rfl) wnX6_26 rfl dX6_fetch_35 ?_
        exact za_iret o rfl hf dX6_fetch_38
      · replace hf := hf.2 c5
        refine za_bipush (v := (-5 : Int32)) o dX6_fetch_21 (by decide) ?_
        exact za_iret o rfl hf dX6_fetch_23
    · replace hf := hf.2 c2
      refine za_sub [] rfl ?_
      exact tX6_fetch_9 o hq   μ  hf
def fX7_restore (q : Nat) (a1 : Int32) (μ : zMem) (K : Int32 → zMem → Prop) : Prop :=
  fX2_note 53 1 μ (fun m2 => fX6_fetch 419 a1 1 m2 (fun r3 m4 => fX2_keep 53 r3 m4 (fun r5 m6 => K r5 m6)))
set_option maxRecDepth 100000 in
set_option maxHeartbeats 4000000 in
theorem ctX7_restore (l : Launch) (G : zG) {q : Nat} (hq : z_is q 7) (a1 : Int32)  (μ : zMem) (K : Int32 → zMem → Prop) (hf : fX7_restore q a1 μ K) : z_Met l G yX7_restore cX7_restore 2 (some .int) (z_rm 4 100) [.ref (G.2.2 + q), .int a1] μ K := by
  refine z_body (by decide) (Nat.le_of_ble_eq_true rfl) (fun p e s m args below meth c o => ?_)
  have o : za_Ok (z_rm 4 100) 0 0 p s m args meth c G RX7 cX7_restore 2 (some .int) := o
  show za_At p l e (z_rm 4 100) s m args below meth c (MQ below (zQi G K) args s 0 0 (zA G)) G 2 0 0 0 [(0, .ref (G.2.2 + q)), (1, .int a1)] [] μ
  unfold fX7_restore at hf
  refine za_aload_n o 0 dX7_restore_0 rfl rfl ?_
  refine za_getf o 1 zc7 hq (Nat.le_of_ble_eq_true rfl) wfX7_19 rfl dX7_restore_1 ?_
  refine za_aload_n o 0 dX7_restore_4 rfl rfl ?_
  refine za_getf o 0 zc7 hq (Nat.le_of_ble_eq_true rfl) wfX7_10 rfl dX7_restore_5 ?_
  refine za_callVv o [.ref (G.2.2 + 1)] (ctX2_note l G zk_c2 1 zk_c0 μ _ hf) zc2 zk_c2 mwX2_note wmX7_46 wiX2_note wsX2_note rfl ⟨Nat.le_of_ble_eq_true rfl, Nat.le_of_ble_eq_true rfl⟩ rfl (Nat.le_of_ble_eq_true rfl) dX7_restore_8 (fun m2 hf => ?_)
  refine za_aload_n o 0 dX7_restore_11 rfl rfl ?_
  refine za_getf o 1 zc7 hq (Nat.le_of_ble_eq_true rfl) wfX7_19 rfl dX7_restore_12 ?_
  refine za_aload_n o 0 dX7_restore_15 rfl rfl ?_
  refine za_getf o 2 zc7 hq (Nat.le_of_ble_eq_true rfl) wfX7_26 rfl dX7_restore_16 ?_
  refine za_iload_n o 1 dX7_restore_19 rfl rfl ?_
  refine za_aload_n o 0 dX7_restore_20 rfl rfl ?_
  refine za_getf o 0 zc7 hq (Nat.le_of_ble_eq_true rfl) wfX7_10 rfl dX7_restore_21 ?_
  refine za_callVi o [.int a1, .ref (G.2.2 + 1)] (ctX6_fetch l G zk_c6 a1 1 zk_c0 m2 _ hf) zc6 zk_c6 mwX6_fetch wmX7_136 wiX6_fetch wsX6_fetch rfl ⟨Nat.le_of_ble_eq_true rfl, Nat.le_of_ble_eq_true rfl⟩ rfl (Nat.le_of_ble_eq_true rfl) dX7_restore_24 (fun r3 m4 hf => ?_)
  refine za_callVi o [.int r3] (ctX2_keep l G zk_c2 r3  m4 _ hf) zc2 zk_c2 mwX2_keep wmX7_54 wiX2_keep wsX2_keep rfl ⟨Nat.le_of_ble_eq_true rfl, Nat.le_of_ble_eq_true rfl⟩ rfl (Nat.le_of_ble_eq_true rfl) dX7_restore_27 (fun r5 m6 hf => ?_)
  exact za_iret o rfl hf dX7_restore_30
def fL_bits_4b (k4 : Int32 → Int32 → Int32 → zMem → Prop) (K : Int32 → zMem → Prop) (v1 : Int32) (v2 : Int32) (v3 : Int32) (μ : zMem) : Prop :=
  (((14 : Int32) ≤ v3 → K v2 μ) ∧ (¬ (14 : Int32) ≤ v3 → (∀ x2 : Int32, x2 = (v1 >>> (v3 &&& 31)) → (∀ x3 : Int32, x3 = (x2 &&& (1 : Int32)) → (∀ x4 : Int32, x4 = (v2 + x3) → (∀ x5 : Int32, x5 = v3 + (1 : Int32) → k4 v1 x4 x5 μ))))))
def fL_bits_4  (K : Int32 → zMem → Prop) (n : Nat) : Int32 → Int32 → Int32 → zMem → Prop := z_it (fun k => fL_bits_4b  k K ) (fun _ _ _ _ => False) n
def fL_bits (a1 : Int32) (μ : zMem) (K : Int32 → zMem → Prop) : Prop :=
  fL_bits_4  K  zFU a1 (0 : Int32) (0 : Int32) μ
set_option maxRecDepth 100000 in
set_option maxHeartbeats 4000000 in
theorem tL_bits_4b {p : Program} {l : Launch} {e : Env} {s : State} {m : MethodId} {args : Array Value} {below : List Frame} {meth : Method} {c : Code} {G : zG} {k4 : Int32 → Int32 → Int32 → zMem → Prop} {K : Int32 → zMem → Prop} (o : za_Ok (z_rm 0 0) 0 0 p s m args meth c G RL cL_bits 3 (some .int)) (hk4 : ∀ (v1 : Int32) (v2 : Int32) (v3 : Int32) (μ : zMem), k4 v1 v2 v3 μ → za_At p l e (z_rm 0 0) s m args below meth c (MQ below (zQi G K) args s 0 0 (zA G)) G 3 0 0 4 [(0, .int v1), (1, .int v2), (2, .int v3)] [] μ) (v1 : Int32) (v2 : Int32) (v3 : Int32) (μ : zMem)  (hf : fL_bits_4b k4 K v1 v2 v3 μ) : za_At p l e (z_rm 0 0) s m args below meth c (MQ below (zQi G K) args s 0 0 (zA G)) G 3 0 0 4 [(0, .int v1), (1, .int v2), (2, .int v3)] [] μ := by
  unfold fL_bits_4b at hf
  refine za_iload_n o 2 dL_bits_4 rfl rfl ?_
  refine za_bipush (v := (14 : Int32)) o dL_bits_5 (by decide) ?_
  refine za_icmp_ge o 24 dL_bits_7 (by decide) (fun c1 => ?_) (fun c1 => ?_)
  · replace hf := hf.1 c1
    refine za_iload_n o 1 dL_bits_24 rfl rfl ?_
    exact za_iret o rfl hf dL_bits_25
  · replace hf := hf.2 c1
    refine za_iload_n o 1 dL_bits_10 rfl rfl ?_
    refine za_iload_n o 0 dL_bits_11 rfl rfl ?_
    refine za_iload_n o 2 dL_bits_12 rfl rfl ?_
    refine za_ishr o dL_bits_13 ?_
    refine za_topi (fun x2 ex2 => ?_)
    replace hf := hf x2 ex2
    refine za_iconst (v := (1 : Int32)) o dL_bits_14 (by decide) ?_
    refine za_iand o dL_bits_15 ?_
    refine za_topi (fun x3 ex3 => ?_)
    replace hf := hf x3 ex3
    refine za_iadd o dL_bits_16 ?_
    refine za_topi (fun x4 ex4 => ?_)
    replace hf := hf x4 ex4
    refine za_istore_n o [(1, .int x4), (0, .int v1), (2, .int v3)] dL_bits_17 rfl (by decide) rfl ?_
    obtain ⟨x5, ex5⟩ : ∃ y : Int32, y = v3 + (1 : Int32) := ⟨_, rfl⟩
    replace hf := hf x5 ex5
    refine za_iinc o x5 2 [(2, .int x5), (1, .int x4), (0, .int v1)] dL_bits_18 rfl (by rw [ex5]; rfl) (by decide) rfl ?_
    refine za_goto o 4 dL_bits_21 (by decide) ?_
    refine za_sub [2, 1, 0] rfl ?_
    exact hk4 v1 x4 x5 μ  hf
theorem tL_bits_4 {p : Program} {l : Launch} {e : Env} {s : State} {m : MethodId} {args : Array Value} {below : List Frame} {meth : Method} {c : Code} {G : zG}  {K : Int32 → zMem → Prop} (o : za_Ok (z_rm 0 0) 0 0 p s m args meth c G RL cL_bits 3 (some .int))  (n : Nat) : ∀ (v1 : Int32) (v2 : Int32) (v3 : Int32) (μ : zMem), fL_bits_4  K n v1 v2 v3 μ → za_At p l e (z_rm 0 0) s m args below meth c (MQ below (zQi G K) args s 0 0 (zA G)) G 3 0 0 4 [(0, .int v1), (1, .int v2), (2, .int v3)] [] μ := by
  induction n with
  | zero => intro _ _ _ _ hf; exact hf.elim
  | succ n ih => intro v1 v2 v3 μ  hf; exact tL_bits_4b o  ih v1 v2 v3 μ  hf
set_option maxRecDepth 100000 in
set_option maxHeartbeats 4000000 in
theorem ctL_bits (l : Launch) (G : zG) (a1 : Int32)  (μ : zMem) (K : Int32 → zMem → Prop) (hf : fL_bits a1 μ K) : z_Met l G yL_bits cL_bits 3 (some .int) (z_rm 0 0) [.int a1] μ K := by
  refine z_body (by decide) (Nat.le_of_ble_eq_true rfl) (fun p e s m args below meth c o => ?_)
  have o : za_Ok (z_rm 0 0) 0 0 p s m args meth c G RL cL_bits 3 (some .int) := o
  show za_At p l e (z_rm 0 0) s m args below meth c (MQ below (zQi G K) args s 0 0 (zA G)) G 3 0 0 0 [(0, .int a1)] [] μ
  unfold fL_bits at hf
  refine za_iconst (v := (0 : Int32)) o dL_bits_0 (by decide) ?_
  refine za_istore_n o [(1, .int (0 : Int32)), (0, .int a1)] dL_bits_1 rfl (by decide) rfl ?_
  refine za_iconst (v := (0 : Int32)) o dL_bits_2 (by decide) ?_
  refine za_istore_n o [(2, .int (0 : Int32)), (1, .int (0 : Int32)), (0, .int a1)] dL_bits_3 rfl (by decide) rfl ?_
  refine za_sub [2, 1, 0] rfl ?_
  exact tL_bits_4 o   zFU a1 (0 : Int32) (0 : Int32) μ  hf
def fL_doubt_35  (K : Int32 → zMem → Prop) (v1 : Int32) (μ : zMem) : Prop :=
  K v1 μ
def fL_doubt (a1 : Nat) (a2 : Int32) (μ : zMem) (K : Int32 → zMem → Prop) : Prop :=
  fX7_of a1 a2 (5 : Int32) μ (fun r1 m2 => fX7_of a1 a2 (6 : Int32) m2 (fun r3 m4 => (∀ x5 : Int32, x5 = (r1 + r3) → ((¬ x5 = 0 → fX7_of a1 a2 (6 : Int32) m4 (fun r7 m8 => (∀ x9 : Int32, x9 = ((100 : Int32) * r7) → ((¬ x5 = 0) ∧ (∀ x11 : Int32, x11 = (x9 / x5) → fL_doubt_35  K  x11 m8))))) ∧ (x5 = 0 → fL_doubt_35  K  (0 : Int32) m4)))))
set_option maxRecDepth 100000 in
set_option maxHeartbeats 4000000 in
theorem tL_doubt_35 {p : Program} {l : Launch} {e : Env} {s : State} {m : MethodId} {args : Array Value} {below : List Frame} {meth : Method} {c : Code} {G : zG}  {K : Int32 → zMem → Prop} (o : za_Ok (z_rm 5 108) 0 0 p s m args meth c G RL cL_doubt 3 (some .int))  (v1 : Int32) (μ : zMem)  (hf : fL_doubt_35  K v1 μ) : za_At p l e (z_rm 5 108) s m args below meth c (MQ below (zQi G K) args s 0 0 (zA G)) G 3 0 0 35 [] [.int v1] μ := by
  unfold fL_doubt_35 at hf
  exact za_iret o rfl hf dL_doubt_35
set_option maxRecDepth 100000 in
set_option maxHeartbeats 4000000 in
theorem ctL_doubt (l : Launch) (G : zG) (a1 : Nat) (a2 : Int32) (ha1 : z_is a1 7) (μ : zMem) (K : Int32 → zMem → Prop) (hf : fL_doubt a1 a2 μ K) : z_Met l G yL_doubt cL_doubt 3 (some .int) (z_rm 5 108) [.ref (G.2.2 + a1), .int a2] μ K := by
  refine z_body (by decide) (Nat.le_of_ble_eq_true rfl) (fun p e s m args below meth c o => ?_)
  have o : za_Ok (z_rm 5 108) 0 0 p s m args meth c G RL cL_doubt 3 (some .int) := o
  show za_At p l e (z_rm 5 108) s m args below meth c (MQ below (zQi G K) args s 0 0 (zA G)) G 3 0 0 0 [(0, .ref (G.2.2 + a1)), (1, .int a2)] [] μ
  unfold fL_doubt at hf
  refine za_aload_n o 0 dL_doubt_0 rfl rfl ?_
  refine za_iload_n o 1 dL_doubt_1 rfl rfl ?_
  refine za_iconst (v := (5 : Int32)) o dL_doubt_2 (by decide) ?_
  refine za_callVi o [.int a2, .int (5 : Int32)] (ctX7_of l G ha1 a2 (5 : Int32)  μ _ hf) zc7 ha1 mwX7_of wmL_9 wiX7_of wsX7_of rfl ⟨Nat.le_of_ble_eq_true rfl, Nat.le_of_ble_eq_true rfl⟩ rfl (Nat.le_of_ble_eq_true rfl) dL_doubt_3 (fun r1 m2 hf => ?_)
  refine za_aload_n o 0 dL_doubt_6 rfl rfl ?_
  refine za_iload_n o 1 dL_doubt_7 rfl rfl ?_
  refine za_bipush (v := (6 : Int32)) o dL_doubt_8 (by decide) ?_
  refine za_callVi o [.int a2, .int (6 : Int32)] (ctX7_of l G ha1 a2 (6 : Int32)  m2 _ hf) zc7 ha1 mwX7_of wmL_9 wiX7_of wsX7_of rfl ⟨Nat.le_of_ble_eq_true rfl, Nat.le_of_ble_eq_true rfl⟩ rfl (Nat.le_of_ble_eq_true rfl) dL_doubt_10 (fun r3 m4 hf => ?_)
  refine za_iadd o dL_doubt_13 ?_
  refine za_topi (fun x5 ex5 => ?_)
  replace hf := hf x5 ex5
  refine za_istore_n o [(2, .int x5), (0, .ref (G.2.2 + a1)), (1, .int a2)] dL_doubt_14 rfl (by decide) rfl ?_
  refine za_iload_n o 0 dL_doubt_15 rfl rfl ?_
  refine za_if_ne o 23 dL_doubt_16 (by decide) (fun c6 => ?_) (fun c6 => ?_)
  · replace hf := hf.1 c6
    refine za_bipush (v := (100 : Int32)) o dL_doubt_23 (by decide) ?_
    refine za_aload_n o 1 dL_doubt_25 rfl rfl ?_
    refine za_iload_n o 2 dL_doubt_26 rfl rfl ?_
    refine za_bipush (v := (6 : Int32)) o dL_doubt_27 (by decide) ?_
    refine za_callVi o [.int a2, .int (6 : Int32)] (ctX7_of l G ha1 a2 (6 : Int32)  m4 _ hf) zc7 ha1 mwX7_of wmL_9 wiX7_of wsX7_of rfl ⟨Nat.le_of_ble_eq_true rfl, Nat.le_of_ble_eq_true rfl⟩ rfl (Nat.le_of_ble_eq_true rfl) dL_doubt_29 (fun r7 m8 hf => ?_)
    refine za_imul o dL_doubt_32 ?_
    refine za_topi (fun x9 ex9 => ?_)
    replace hf := hf x9 ex9
    refine za_iload_n o 0 dL_doubt_33 rfl rfl ?_
    obtain ⟨g10, hf⟩ := hf
    refine za_idiv o dL_doubt_34 g10 ?_
    refine za_topi (fun x11 ex11 => ?_)
    replace hf := hf x11 ex11
    refine za_sub [] rfl ?_
    exact tL_doubt_35 o   x11 m8  hf
  · replace hf := hf.2 c6
    refine za_iconst (v := (0 : Int32)) o dL_doubt_19 (by decide) ?_
    refine za_goto o 35 dL_doubt_20 (by decide) ?_
    refine za_sub [] rfl ?_
    exact tL_doubt_35 o   (0 : Int32) m4  hf
