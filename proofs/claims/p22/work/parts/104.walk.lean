/-! X2_length X4_length X7_count X7_why X5_isLessSureThan X0_greatestDoubt X7_unsurest X0_firstPossible X7_firstOrder X1_waste X0_mostThrown X7_wasted X4_goodCharacters X4_append X7_put X4_clear X7_wipe X4_at X3_isOrderOver -/
def fX2_length (q : Nat)  (μ : zMem) (K : Int32 → zMem → Prop) : Prop :=
  K (μ q 2) μ
set_option maxRecDepth 100000 in
set_option maxHeartbeats 4000000 in
theorem ctX2_length (l : Launch) (G : zG) {q : Nat} (hq : z_is q 2)   (μ : zMem) (K : Int32 → zMem → Prop) (hf : fX2_length q  μ K) : z_Met l G yX2_length cX2_length 1 (some .int) (z_rm 0 0) [.ref (G.2.2 + q)] μ K := by
  refine z_body (by decide) (Nat.le_of_ble_eq_true rfl) (fun p e s m args below meth c o => ?_)
  have o : za_Ok (z_rm 0 0) 0 0 p s m args meth c G RX2 cX2_length 1 (some .int) := o
  show za_At p l e (z_rm 0 0) s m args below meth c (MQ below (zQi G K) args s 0 0 (zA G)) G 1 0 0 0 [(0, .ref (G.2.2 + q))] [] μ
  unfold fX2_length at hf
  refine za_aload_n o 0 dX2_length_0 rfl rfl ?_
  refine za_getf o 2 zc2 hq (Nat.le_of_ble_eq_true rfl) wfX2_18 rfl dX2_length_1 ?_
  exact za_iret o rfl hf dX2_length_4
def fX4_length (q : Nat)  (μ : zMem) (K : Int32 → zMem → Prop) : Prop :=
  K (μ q 1) μ
set_option maxRecDepth 100000 in
set_option maxHeartbeats 4000000 in
theorem ctX4_length (l : Launch) (G : zG) {q : Nat} (hq : z_is q 4)   (μ : zMem) (K : Int32 → zMem → Prop) (hf : fX4_length q  μ K) : z_Met l G yX4_length cX4_length 1 (some .int) (z_rm 0 0) [.ref (G.2.2 + q)] μ K := by
  refine z_body (by decide) (Nat.le_of_ble_eq_true rfl) (fun p e s m args below meth c o => ?_)
  have o : za_Ok (z_rm 0 0) 0 0 p s m args meth c G RX4 cX4_length 1 (some .int) := o
  show za_At p l e (z_rm 0 0) s m args below meth c (MQ below (zQi G K) args s 0 0 (zA G)) G 1 0 0 0 [(0, .ref (G.2.2 + q))] [] μ
  unfold fX4_length at hf
  refine za_aload_n o 0 dX4_length_0 rfl rfl ?_
  refine za_getf o 1 zc4 hq (Nat.le_of_ble_eq_true rfl) wfX4_15 rfl dX4_length_1 ?_
  exact za_iret o rfl hf dX4_length_4
def fX7_count (q : Nat) (a1 : Int32) (μ : zMem) (K : Int32 → zMem → Prop) : Prop :=
  ((¬ a1 = (14 : Int32) → ((¬ a1 = (15 : Int32) → fX0_number 1 a1 μ (fun r3 m4 => K r3 m4)) ∧ (a1 = (15 : Int32) → fX2_length 53  μ (fun r5 m6 => K r5 m6)))) ∧ (a1 = (14 : Int32) → fX4_length 526  μ (fun r7 m8 => K r7 m8)))
set_option maxRecDepth 100000 in
set_option maxHeartbeats 4000000 in
theorem ctX7_count (l : Launch) (G : zG) {q : Nat} (hq : z_is q 7) (a1 : Int32)  (μ : zMem) (K : Int32 → zMem → Prop) (hf : fX7_count q a1 μ K) : z_Met l G yX7_count cX7_count 2 (some .int) (z_rm 6 130) [.ref (G.2.2 + q), .int a1] μ K := by
  refine z_body (by decide) (Nat.le_of_ble_eq_true rfl) (fun p e s m args below meth c o => ?_)
  have o : za_Ok (z_rm 6 130) 0 0 p s m args meth c G RX7 cX7_count 2 (some .int) := o
  show za_At p l e (z_rm 6 130) s m args below meth c (MQ below (zQi G K) args s 0 0 (zA G)) G 2 0 0 0 [(0, .ref (G.2.2 + q)), (1, .int a1)] [] μ
  unfold fX7_count at hf
  refine za_iload_n o 1 dX7_count_0 rfl rfl ?_
  refine za_bipush (v := (14 : Int32)) o dX7_count_1 (by decide) ?_
  refine za_icmp_ne o 14 dX7_count_3 (by decide) (fun c1 => ?_) (fun c1 => ?_)
  · replace hf := hf.1 c1
    refine za_iload_n o 1 dX7_count_14 rfl rfl ?_
    refine za_bipush (v := (15 : Int32)) o dX7_count_15 (by decide) ?_
    refine za_icmp_ne o 28 dX7_count_17 (by decide) (fun c2 => ?_) (fun c2 => ?_)
    · replace hf := hf.1 c2
      refine za_aload_n o 0 dX7_count_28 rfl rfl ?_
      refine za_getf o 0 zc7 hq (Nat.le_of_ble_eq_true rfl) wfX7_10 rfl dX7_count_29 ?_
      refine za_iload_n o 1 dX7_count_32 rfl rfl ?_
      refine za_callVi o [.int a1] (ctX0_number l G zk_c0 a1  μ _ hf) zc0 zk_c0 mwX0_number wmX7_100 wiX0_number wsX0_number rfl ⟨Nat.le_of_ble_eq_true rfl, Nat.le_of_ble_eq_true rfl⟩ rfl (Nat.le_of_ble_eq_true rfl) dX7_count_33 (fun r3 m4 hf => ?_)
      exact za_iret o rfl hf dX7_count_36
    · replace hf := hf.2 c2
      refine za_aload_n o 0 dX7_count_20 rfl rfl ?_
      refine za_getf o 1 zc7 hq (Nat.le_of_ble_eq_true rfl) wfX7_19 rfl dX7_count_21 ?_
      refine za_callVi o [] (ctX2_length l G zk_c2   μ _ hf) zc2 zk_c2 mwX2_length wmX7_99 wiX2_length wsX2_length rfl ⟨Nat.le_of_ble_eq_true rfl, Nat.le_of_ble_eq_true rfl⟩ rfl (Nat.le_of_ble_eq_true rfl) dX7_count_24 (fun r5 m6 hf => ?_)
      exact za_iret o rfl hf dX7_count_27
  · replace hf := hf.2 c1
    refine za_aload_n o 0 dX7_count_6 rfl rfl ?_
    refine za_getf o 3 zc7 hq (Nat.le_of_ble_eq_true rfl) wfX7_33 rfl dX7_count_7 ?_
    refine za_callVi o [] (ctX4_length l G zk_c4   μ _ hf) zc4 zk_c4 mwX4_length wmX7_96 wiX4_length wsX4_length rfl ⟨Nat.le_of_ble_eq_true rfl, Nat.le_of_ble_eq_true rfl⟩ rfl (Nat.le_of_ble_eq_true rfl) dX7_count_10 (fun r7 m8 hf => ?_)
    exact za_iret o rfl hf dX7_count_13
def fX7_why (q : Nat) (a1 : Int32) (a2 : Int32) (a3 : Int32) (μ : zMem) (K : Int32 → zMem → Prop) : Prop :=
  fX0_reasonAgainst 1 a1 a2 a3 μ (fun r1 m2 => K r1 m2)
set_option maxRecDepth 100000 in
set_option maxHeartbeats 4000000 in
theorem ctX7_why (l : Launch) (G : zG) {q : Nat} (hq : z_is q 7) (a1 : Int32) (a2 : Int32) (a3 : Int32)  (μ : zMem) (K : Int32 → zMem → Prop) (hf : fX7_why q a1 a2 a3 μ K) : z_Met l G yX7_why cX7_why 4 (some .int) (z_rm 2 45) [.ref (G.2.2 + q), .int a1, .int a2, .int a3] μ K := by
  refine z_body (by decide) (Nat.le_of_ble_eq_true rfl) (fun p e s m args below meth c o => ?_)
  have o : za_Ok (z_rm 2 45) 0 0 p s m args meth c G RX7 cX7_why 4 (some .int) := o
  show za_At p l e (z_rm 2 45) s m args below meth c (MQ below (zQi G K) args s 0 0 (zA G)) G 4 0 0 0 [(0, .ref (G.2.2 + q)), (1, .int a1), (2, .int a2), (3, .int a3)] [] μ
  unfold fX7_why at hf
  refine za_aload_n o 0 dX7_why_0 rfl rfl ?_
  refine za_getf o 0 zc7 hq (Nat.le_of_ble_eq_true rfl) wfX7_10 rfl dX7_why_1 ?_
  refine za_iload_n o 1 dX7_why_4 rfl rfl ?_
  refine za_iload_n o 2 dX7_why_5 rfl rfl ?_
  refine za_iload_n o 3 dX7_why_6 rfl rfl ?_
  refine za_callVi o [.int a1, .int a2, .int a3] (ctX0_reasonAgainst l G zk_c0 a1 a2 a3  μ _ hf) zc0 zk_c0 mwX0_reasonAgainst wmX7_103 wiX0_reasonAgainst wsX0_reasonAgainst rfl ⟨Nat.le_of_ble_eq_true rfl, Nat.le_of_ble_eq_true rfl⟩ rfl (Nat.le_of_ble_eq_true rfl) dX7_why_7 (fun r1 m2 hf => ?_)
  exact za_iret o rfl hf dX7_why_10
def fX5_isLessSureThan_27  (K : Int32 → zMem → Prop) (q : Nat) (v1 : Int32) (μ : zMem) : Prop :=
  (z_b v1 ∧ K v1 μ)
def fX5_isLessSureThan_44  (K : Int32 → zMem → Prop) (q : Nat) (v1 : Int32) (μ : zMem) : Prop :=
  (z_b v1 ∧ K v1 μ)
def fX5_isLessSureThan (q : Nat) (a1 : Nat) (μ : zMem) (K : Int32 → zMem → Prop) : Prop :=
  fX5_doubt q  μ (fun r1 m2 => fX5_doubt a1  m2 (fun r3 m4 => ((r1 = r3 → fX5_timesOrdered q  m4 (fun r6 m7 => fX5_timesOrdered a1  m7 (fun r8 m9 => ((r6 ≤ r8 → fX5_isLessSureThan_44  K q (0 : Int32) m9) ∧ (¬ r6 ≤ r8 → fX5_isLessSureThan_44  K q (1 : Int32) m9))))) ∧ (¬ r1 = r3 → fX5_doubt q  m4 (fun r11 m12 => fX5_doubt a1  m12 (fun r13 m14 => ((r11 ≤ r13 → fX5_isLessSureThan_27  K q (0 : Int32) m14) ∧ (¬ r11 ≤ r13 → fX5_isLessSureThan_27  K q (1 : Int32) m14))))))))
set_option maxRecDepth 100000 in
set_option maxHeartbeats 4000000 in
theorem tX5_isLessSureThan_27 {p : Program} {l : Launch} {e : Env} {s : State} {m : MethodId} {args : Array Value} {below : List Frame} {meth : Method} {c : Code} {G : zG}  {K : Int32 → zMem → Prop} (o : za_Ok (z_rm 2 41) 0 0 p s m args meth c G RX5 cX5_isLessSureThan 2 (some .boolean)) {q : Nat} (hq : z_is q 5)  (v1 : Int32) (μ : zMem)  (hf : fX5_isLessSureThan_27  K q v1 μ) : za_At p l e (z_rm 2 41) s m args below meth c (MQ below (zQi G K) args s 0 0 (zA G)) G 2 0 0 27 [] [.int v1] μ := by
  unfold fX5_isLessSureThan_27 at hf
  exact za_zret o rfl hf.1 hf.2 dX5_isLessSureThan_27
set_option maxRecDepth 100000 in
set_option maxHeartbeats 4000000 in
theorem tX5_isLessSureThan_44 {p : Program} {l : Launch} {e : Env} {s : State} {m : MethodId} {args : Array Value} {below : List Frame} {meth : Method} {c : Code} {G : zG}  {K : Int32 → zMem → Prop} (o : za_Ok (z_rm 2 41) 0 0 p s m args meth c G RX5 cX5_isLessSureThan 2 (some .boolean)) {q : Nat} (hq : z_is q 5)  (v1 : Int32) (μ : zMem)  (hf : fX5_isLessSureThan_44  K q v1 μ) : za_At p l e (z_rm 2 41) s m args below meth c (MQ below (zQi G K) args s 0 0 (zA G)) G 2 0 0 44 [] [.int v1] μ := by
  unfold fX5_isLessSureThan_44 at hf
  exact za_zret o rfl hf.1 hf.2 dX5_isLessSureThan_44
set_option maxRecDepth 100000 in
set_option maxHeartbeats 4000000 in
theorem ctX5_isLessSureThan (l : Launch) (G : zG) {q : Nat} (hq : z_is q 5) (a1 : Nat) (ha1 : z_is a1 5) (μ : zMem) (K : Int32 → zMem → Prop) (hf : fX5_isLessSureThan q a1 μ K) : z_Met l G yX5_isLessSureThan cX5_isLessSureThan 2 (some .boolean) (z_rm 2 41) [.ref (G.2.2 + q), .ref (G.2.2 + a1)] μ K := by
  refine z_body (by decide) (Nat.le_of_ble_eq_true rfl) (fun p e s m args below meth c o => ?_)
  have o : za_Ok (z_rm 2 41) 0 0 p s m args meth c G RX5 cX5_isLessSureThan 2 (some .boolean) := o
  show za_At p l e (z_rm 2 41) s m args below meth c (MQ below (zQi G K) args s 0 0 (zA G)) G 2 0 0 0 [(0, .ref (G.2.2 + q)), (1, .ref (G.2.2 + a1))] [] μ
  unfold fX5_isLessSureThan at hf
  refine za_aload_n o 0 dX5_isLessSureThan_0 rfl rfl ?_
  refine za_callVi o [] (ctX5_doubt l G hq   μ _ hf) zc5 hq mwX5_doubt wmX5_64 wiX5_doubt wsX5_doubt rfl ⟨Nat.le_of_ble_eq_true rfl, Nat.le_of_ble_eq_true rfl⟩ rfl (Nat.le_of_ble_eq_true rfl) dX5_isLessSureThan_1 (fun r1 m2 hf => ?_)
  refine za_aload_n o 1 dX5_isLessSureThan_4 rfl rfl ?_
  refine za_callVi o [] (ctX5_doubt l G ha1   m2 _ hf) zc5 ha1 mwX5_doubt wmX5_64 wiX5_doubt wsX5_doubt rfl ⟨Nat.le_of_ble_eq_true rfl, Nat.le_of_ble_eq_true rfl⟩ rfl (Nat.le_of_ble_eq_true rfl) dX5_isLessSureThan_5 (fun r3 m4 hf => ?_)
  refine za_icmp_eq o 28 dX5_isLessSureThan_8 (by decide) (fun c5 => ?_) (fun c5 => ?_)
  · replace hf := hf.1 c5
    refine za_aload_n o 0 dX5_isLessSureThan_28 rfl rfl ?_
    refine za_callVi o [] (ctX5_timesOrdered l G hq   m4 _ hf) zc5 hq mwX5_timesOrdered wmX5_60 wiX5_timesOrdered wsX5_timesOrdered rfl ⟨Nat.le_of_ble_eq_true rfl, Nat.le_of_ble_eq_true rfl⟩ rfl (Nat.le_of_ble_eq_true rfl) dX5_isLessSureThan_29 (fun r6 m7 hf => ?_)
    refine za_aload_n o 1 dX5_isLessSureThan_32 rfl rfl ?_
    refine za_callVi o [] (ctX5_timesOrdered l G ha1   m7 _ hf) zc5 ha1 mwX5_timesOrdered wmX5_60 wiX5_timesOrdered wsX5_timesOrdered rfl ⟨Nat.le_of_ble_eq_true rfl, Nat.le_of_ble_eq_true rfl⟩ rfl (Nat.le_of_ble_eq_true rfl) dX5_isLessSureThan_33 (fun r8 m9 hf => ?_)
    refine za_icmp_le o 43 dX5_isLessSureThan_36 (by decide) (fun c10 => ?_) (fun c10 => ?_)
    · replace hf := hf.1 c10
      refine za_iconst (v := (0 : Int32)) o dX5_isLessSureThan_43 (by decide) ?_
      refine za_sub [] rfl ?_
      exact tX5_isLessSureThan_44 o hq  (0 : Int32) m9  hf
    · replace hf := hf.2 c10
      refine za_iconst (v := (1 : Int32)) o dX5_isLessSureThan_39 (by decide) ?_
      refine za_goto o 44 dX5_isLessSureThan_40 (by decide) ?_
      refine za_sub [] rfl ?_
      exact tX5_isLessSureThan_44 o hq  (1 : Int32) m9  hf
  · replace hf := hf.2 c5
    refine za_aload_n o 0 dX5_isLessSureThan_11 rfl rfl ?_
    refine za_callVi o [] (ctX5_doubt l G hq   m4 _ hf) zc5 hq mwX5_doubt wmX5_64 wiX5_doubt wsX5_doubt rfl ⟨Nat.le_of_ble_eq_true rfl, Nat.le_of_ble_eq_true rfl⟩ rfl (Nat.le_of_ble_eq_true rfl) dX5_isLessSureThan_12 (fun r11 m12 hf => ?_)
    refine za_aload_n o 1 dX5_isLessSureThan_15 rfl rfl ?_
    refine za_callVi o [] (ctX5_doubt l G ha1   m12 _ hf) zc5 ha1 mwX5_doubt wmX5_64 wiX5_doubt wsX5_doubt rfl ⟨Nat.le_of_ble_eq_true rfl, Nat.le_of_ble_eq_true rfl⟩ rfl (Nat.le_of_ble_eq_true rfl) dX5_isLessSureThan_16 (fun r13 m14 hf => ?_)
    refine za_icmp_le o 26 dX5_isLessSureThan_19 (by decide) (fun c15 => ?_) (fun c15 => ?_)
    · replace hf := hf.1 c15
      refine za_iconst (v := (0 : Int32)) o dX5_isLessSureThan_26 (by decide) ?_
      refine za_sub [] rfl ?_
      exact tX5_isLessSureThan_27 o hq  (0 : Int32) m14  hf
    · replace hf := hf.2 c15
      refine za_iconst (v := (1 : Int32)) o dX5_isLessSureThan_22 (by decide) ?_
      refine za_goto o 27 dX5_isLessSureThan_23 (by decide) ?_
      refine za_sub [] rfl ?_
      exact tX5_isLessSureThan_27 o hq  (1 : Int32) m14  hf
def fX0_greatestDoubt_61 (k17 : Int32 → Int32 → Int32 → zMem → Prop) (K : Int32 → zMem → Prop) (q : Nat) (v1 : Int32) (v2 : Int32) (v3 : Int32) (μ : zMem) : Prop :=
  (∀ x1 : Int32, x1 = v3 + (1 : Int32) → k17 v1 v2 x1 μ)
def fX0_greatestDoubt_59 (k17 : Int32 → Int32 → Int32 → zMem → Prop) (K : Int32 → zMem → Prop) (q : Nat) (v1 : Int32) (v2 : Int32) (μ : zMem) : Prop :=
  fX0_greatestDoubt_61 k17 K q v1 v2 v2 μ
def fX0_greatestDoubt_91  (K : Int32 → zMem → Prop) (q : Nat) (v1 : Int32) (μ : zMem) : Prop :=
  K v1 μ
def fX0_greatestDoubt_17b (k17 : Int32 → Int32 → Int32 → zMem → Prop) (K : Int32 → zMem → Prop) (q : Nat) (v1 : Int32) (v2 : Int32) (v3 : Int32) (μ : zMem) : Prop :=
  (((μ q 3) ≤ v3 → ((0 ≤ v2 → ((¬ v1 = 0 → (vp_in v2 14 ∧ (∀ q6 : Nat, q6 = (q + 2) + 2 + 3 * v2.toNatClampNeg → fX5_doubt q6  μ (fun r7 m8 => fX0_greatestDoubt_91  K q r7 m8)))) ∧ (v1 = 0 → fX0_greatestDoubt_91  K q v2 μ))) ∧ (¬ 0 ≤ v2 → K (-6 : Int32) μ))) ∧ (¬ (μ q 3) ≤ v3 → (vp_in v3 14 ∧ (∀ q10 : Nat, q10 = (q + 2) + 2 + 3 * v3.toNatClampNeg → fX5_doubt q10  μ (fun r11 m12 => ((r11 ≤ 0 → fX0_greatestDoubt_61 k17 K q v1 v2 v3 m12) ∧ (¬ r11 ≤ 0 → ((v2 < 0 → fX0_greatestDoubt_59 k17 K q v1 v3 m12) ∧ (¬ v2 < 0 → (vp_in v3 14 ∧ (∀ q16 : Nat, q16 = (q + 2) + 2 + 3 * v3.toNatClampNeg → (vp_in v2 14 ∧ (∀ q18 : Nat, q18 = (q + 2) + 2 + 3 * v2.toNatClampNeg → fX5_isLessSureThan q16 q18 m12 (fun r19 m20 => ((r19 = 0 → fX0_greatestDoubt_61 k17 K q v1 v2 v3 m20) ∧ (¬ r19 = 0 → fX0_greatestDoubt_59 k17 K q v1 v3 m20))))))))))))))))
def fX0_greatestDoubt_17  (K : Int32 → zMem → Prop) (q : Nat) (n : Nat) : Int32 → Int32 → Int32 → zMem → Prop := z_it (fun k => fX0_greatestDoubt_17b  k K q ) (fun _ _ _ _ => False) n
def fX0_greatestDoubt_12  (K : Int32 → zMem → Prop) (q : Nat) (v1 : Int32) (μ : zMem) : Prop :=
  fX0_greatestDoubt_17  K q zFU v1 (-6 : Int32) (0 : Int32) μ
def fX0_greatestDoubt (q : Nat) (a1 : Int32) (μ : zMem) (K : Int32 → zMem → Prop) : Prop :=
  ((a1 = 0 → fX0_greatestDoubt_12  K q a1 μ) ∧ (¬ a1 = 0 → ((a1 = (1 : Int32) → fX0_greatestDoubt_12  K q a1 μ) ∧ (¬ a1 = (1 : Int32) → K (-2 : Int32) μ))))
set_option maxRecDepth 100000 in
set_option maxHeartbeats 4000000 in
theorem tX0_greatestDoubt_61 {p : Program} {l : Launch} {e : Env} {s : State} {m : MethodId} {args : Array Value} {below : List Frame} {meth : Method} {c : Code} {G : zG} {k17 : Int32 → Int32 → Int32 → zMem → Prop} {K : Int32 → zMem → Prop} (o : za_Ok (z_rm 3 62) 0 0 p s m args meth c G RX0 cX0_greatestDoubt 4 (some .int)) {q : Nat} (hq : z_is q 0) (hk17 : ∀ (v1 : Int32) (v2 : Int32) (v3 : Int32) (μ : zMem), k17 v1 v2 v3 μ → za_At p l e (z_rm 3 62) s m args below meth c (MQ below (zQi G K) args s 0 0 (zA G)) G 4 0 0 17 [(0, .ref (G.2.2 + q)), (1, .int v1), (2, .int v2), (3, .int v3)] [] μ) (v1 : Int32) (v2 : Int32) (v3 : Int32) (μ : zMem)  (hf : fX0_greatestDoubt_61 k17 K q v1 v2 v3 μ) : za_At p l e (z_rm 3 62) s m args below meth c (MQ below (zQi G K) args s 0 0 (zA G)) G 4 0 0 61 [(0, .ref (G.2.2 + q)), (1, .int v1), (2, .int v2), (3, .int v3)] [] μ := by
  unfold fX0_greatestDoubt_61 at hf
  obtain ⟨x1, ex1⟩ : ∃ y : Int32, y = v3 + (1 : Int32) := ⟨_, rfl⟩
  replace hf := hf x1 ex1
  refine za_iinc o x1 3 [(3, .int x1), (0, .ref (G.2.2 + q)), (1, .int v1), (2, .int v2)] dX0_greatestDoubt_61 rfl (by rw [ex1]; rfl) (by decide) rfl ?_
  refine za_goto o 17 dX0_greatestDoubt_64 (by decide) ?_
  refine za_sub [1, 2, 3, 0] rfl ?_
  exact hk17 v1 v2 x1 μ  hf
set_option maxRecDepth 100000 in
set_option maxHeartbeats 4000000 in
theorem tX0_greatestDoubt_59 {p : Program} {l : Launch} {e : Env} {s : State} {m : MethodId} {args : Array Value} {below : List Frame} {meth : Method} {c : Code} {G : zG} {k17 : Int32 → Int32 → Int32 → zMem → Prop} {K : Int32 → zMem → Prop} (o : za_Ok (z_rm 3 62) 0 0 p s m args meth c G RX0 cX0_greatestDoubt 4 (some .int)) {q : Nat} (hq : z_is q 0) (hk17 : ∀ (v1 : Int32) (v2 : Int32) (v3 : Int32) (μ : zMem), k17 v1 v2 v3 μ → za_At p l e (z_rm 3 62) s m args below meth c (MQ below (zQi G K) args s 0 0 (zA G)) G 4 0 0 17 [(0, .ref (G.2.2 + q)), (1, .int v1), (2, .int v2), (3, .int v3)] [] μ) (v1 : Int32) (v2 : Int32) (μ : zMem)  (hf : fX0_greatestDoubt_59 k17 K q v1 v2 μ) : za_At p l e (z_rm 3 62) s m args below meth c (MQ below (zQi G K) args s 0 0 (zA G)) G 4 0 0 59 [(0, .ref (G.2.2 + q)), (1, .int v1), (3, .int v2)] [] μ := by
  unfold fX0_greatestDoubt_59 at hf
  refine za_iload_n o 2 dX0_greatestDoubt_59 rfl rfl ?_
  refine za_istore_n o [(2, .int v2), (0, .ref (G.2.2 + q)), (1, .int v1), (3, .int v2)] dX0_greatestDoubt_60 rfl (by decide) rfl ?_
  refine za_sub [1, 2, 0, 3] rfl ?_
  exact tX0_greatestDoubt_61 o hq hk17 v1 v2 v2 μ  hf
set_option maxRecDepth 100000 in
set_option maxHeartbeats 4000000 in
theorem tX0_greatestDoubt_91 {p : Program} {l : Launch} {e : Env} {s : State} {m : MethodId} {args : Array Value} {below : List Frame} {meth : Method} {c : Code} {G : zG}  {K : Int32 → zMem → Prop} (o : za_Ok (z_rm 3 62) 0 0 p s m args meth c G RX0 cX0_greatestDoubt 4 (some .int)) {q : Nat} (hq : z_is q 0)  (v1 : Int32) (μ : zMem)  (hf : fX0_greatestDoubt_91  K q v1 μ) : za_At p l e (z_rm 3 62) s m args below meth c (MQ below (zQi G K) args s 0 0 (zA G)) G 4 0 0 91 [] [.int v1] μ := by
  unfold fX0_greatestDoubt_91 at hf
  exact za_iret o rfl hf dX0_greatestDoubt_91
set_option maxRecDepth 100000 in
set_option maxHeartbeats 4000000 in
theorem tX0_greatestDoubt_17b {p : Program} {l : Launch} {e : Env} {s : State} {m : MethodId} {args : Array Value} {below : List Frame} {meth : Method} {c : Code} {G : zG} {k17 : Int32 → Int32 → Int32 → zMem → Prop} {K : Int32 → zMem → Prop} (o : za_Ok (z_rm 3 62) 0 0 p s m args meth c G RX0 cX0_greatestDoubt 4 (some .int)) {q : Nat} (hq : z_is q 0) (hk17 : ∀ (v1 : Int32) (v2 : Int32) (v3 : Int32) (μ : zMem), k17 v1 v2 v3 μ → za_At p l e (z_rm 3 62) s m args below meth c (MQ below (zQi G K) args s 0 0 (zA G)) G 4 0 0 17 [(0, .ref (G.2.2 + q)), (1, .int v1), (2, .int v2), (3, .int v3)] [] μ) (v1 : Int32) (v2 : Int32) (v3 : Int32) (μ : zMem)  (hf : fX0_greatestDoubt_17b k17 K q v1 v2 v3 μ) : za_At p l e (z_rm 3 62) s m args below meth c (MQ below (zQi G K) args s 0 0 (zA G)) G 4 0 0 17 [(0, .ref (G.2.2 + q)), (1, .int v1), (2, .int v2), (3, .int v3)] [] μ := by
  unfold fX0_greatestDoubt_17b at hf
  refine za_iload_n o 3 dX0_greatestDoubt_17 rfl rfl ?_
  refine za_aload_n o 0 dX0_greatestDoubt_18 rfl rfl ?_
  refine za_getf o 3 zc0 hq (Nat.le_of_ble_eq_true rfl) wfX0_39 rfl dX0_greatestDoubt_19 ?_
  refine za_icmp_ge o 67 dX0_greatestDoubt_22 (by decide) (fun c2 => ?_) (fun c2 => ?_)
  · replace hf := hf.1 c2
    refine za_iload_n o 2 dX0_greatestDoubt_67 rfl rfl ?_
    refine za_if_ge o 74 dX0_greatestDoubt_68 (by decide) (fun c3 => ?_) (fun c3 => ?_)
    · replace hf := hf.1 c3
      refine za_iload_n o 1 dX0_greatestDoubt_74 rfl rfl ?_
      refine za_if_ne o 82 dX0_greatestDoubt_75 (by decide) (fun c4 => ?_) (fun c4 => ?_)
      · replace hf := hf.1 c4
        refine za_aload_n o 0 dX0_greatestDoubt_82 rfl rfl ?_
        refine za_getf o 1 zc0 hq (Nat.le_of_ble_eq_true rfl) wfX0_17 rfl dX0_greatestDoubt_83 ?_
        refine za_iload_n o 2 dX0_greatestDoubt_86 rfl rfl ?_
        obtain ⟨g5, hf⟩ := hf
        refine za_aald o (zk_0_10 hq) rfl rfl rfl g5 dX0_greatestDoubt_87 ?_
        refine za_topr (fun q6 eq6 => ?_)
        replace hf := hf q6 eq6
        have hq6 : z_is q6 5 := by rw [eq6]; exact zk_a10 (zk_0_10 hq) (z_lt g5)
        refine za_callVi o [] (ctX5_doubt l G hq6   μ _ hf) zc5 hq6 mwX5_doubt wmX0_105 wiX5_doubt wsX5_doubt rfl ⟨Nat.le_of_ble_eq_true rfl, Nat.le_of_ble_eq_true rfl⟩ rfl (Nat.le_of_ble_eq_true rfl) dX0_greatestDoubt_88 (fun r7 m8 hf => ?_)
        refine za_sub [] rfl ?_
        exact tX0_greatestDoubt_91 o hq  r7 m8  hf
      · replace hf := hf.2 c4
        refine za_iload_n o 2 dX0_greatestDoubt_78 rfl rfl ?_
        refine za_goto o 91 dX0_greatestDoubt_79 (by decide) ?_
        refine za_sub [] rfl ?_
        exact tX0_greatestDoubt_91 o hq  v2 μ  hf
    · replace hf := hf.2 c3
      refine za_bipush (v := (-6 : Int32)) o dX0_greatestDoubt_71 (by decide) ?_
      exact za_iret o rfl hf dX0_greatestDoubt_73
  · replace hf := hf.2 c2
    refine za_aload_n o 0 dX0_greatestDoubt_25 rfl rfl ?_
    refine za_getf o 1 zc0 hq (Nat.le_of_ble_eq_true rfl) wfX0_17 rfl dX0_greatestDoubt_26 ?_
    refine za_iload_n o 3 dX0_greatestDoubt_29 rfl rfl ?_
    obtain ⟨g9, hf⟩ := hf
    refine za_aald o (zk_0_10 hq) rfl rfl rfl g9 dX0_greatestDoubt_30 ?_
    refine za_topr (fun q10 eq10 => ?_)
    replace hf := hf q10 eq10
    have hq10 : z_is q10 5 := by rw [eq10]; exact zk_a10 (zk_0_10 hq) (z_lt g9)
    refine za_callVi o [] (ctX5_doubt l G hq10   μ _ hf) zc5 hq10 mwX5_doubt wmX0_105 wiX5_doubt wsX5_doubt rfl ⟨Nat.le_of_ble_eq_true rfl, Nat.le_of_ble_eq_true rfl⟩ rfl (Nat.le_of_ble_eq_true rfl) dX0_greatestDoubt_31 (fun r11 m12 hf => ?_)
    refine za_if_le o 61 dX0_greatestDoubt_34 (by decide) (fun c13 => ?_) (fun c13 => ?_)
    · replace hf := hf.1 c13
      exact tX0_greatestDoubt_61 o hq hk17 v1 v2 v3 m12  hf
    · replace hf := hf.2 c13
      refine za_iload_n o 2 dX0_greatestDoubt_37 rfl rfl ?_
      refine za_if_lt o 59 dX0_greatestDoubt_38 (by decide) (fun c14 => ?_) (fun c14 => ?_)
      · replace hf := hf.1 c14
        refine za_sub [0, 1, 3] rfl ?_
        exact tX0_greatestDoubt_59 o hq hk17 v1 v3 m12  hf
      · replace hf := hf.2 c14
        refine za_aload_n o 0 dX0_greatestDoubt_41 rfl rfl ?_
        refine za_getf o 1 zc0 hq (Nat.le_of_ble_eq_true rfl) wfX0_17 rfl dX0_greatestDoubt_42 ?_
        refine za_iload_n o 3 dX0_greatestDoubt_45 rfl rfl ?_
        obtain ⟨g15, hf⟩ := hf
        refine za_aald o (zk_0_10 hq) rfl rfl rfl g15 dX0_greatestDoubt_46 ?_
        refine za_topr (fun q16 eq16 => ?_)
        replace hf := hf q16 eq16
        have hq16 : z_is q16 5 := by rw [eq16]; exact zk_a10 (zk_0_10 hq) (z_lt g15)
        refine za_aload_n o 0 dX0_greatestDoubt_47 rfl rfl ?_
        refine za_getf o 1 zc0 hq (Nat.le_of_ble_eq_true rfl) wfX0_17 rfl dX0_greatestDoubt_48 ?_
        refine za_iload_n o 2 dX0_greatestDoubt_51 rfl rfl ?_
        obtain ⟨g17, hf⟩ := hf
        refine za_aald o (zk_0_10 hq) rfl rfl rfl g17 dX0_greatestDoubt_52 ?_
        refine za_topr (fun q18 eq18 => ?_)
        replace hf := hf q18 eq18
        have hq18 : z_is q18 5 := by rw [eq18]; exact zk_a10 (zk_0_10 hq) (z_lt g17)
        refine za_callVi o [.ref (G.2.2 + q18)] (ctX5_isLessSureThan l G hq16 q18 hq18 m12 _ hf) zc5 hq16 mwX5_isLessSureThan wmX0_187 wiX5_isLessSureThan wsX5_isLessSureThan rfl ⟨Nat.le_of_ble_eq_true rfl, Nat.le_of_ble_eq_true rfl⟩ rfl (Nat.le_of_ble_eq_true rfl) dX0_greatestDoubt_53 (fun r19 m20 hf => ?_)
        refine za_if_eq o 61 dX0_greatestDoubt_56 (by decide) (fun c21 => ?_) (fun c21 => ?_)
        · replace hf := hf.1 c21
          exact tX0_greatestDoubt_61 o hq hk17 v1 v2 v3 m20  hf
        · replace hf := hf.2 c21
          refine za_sub [0, 1, 3] rfl ?_
          exact tX0_greatestDoubt_59 o hq hk17 v1 v3 m20  hf
theorem tX0_greatestDoubt_17 {p : Program} {l : Launch} {e : Env} {s : State} {m : MethodId} {args : Array Value} {below : List Frame} {meth : Method} {c : Code} {G : zG}  {K : Int32 → zMem → Prop} (o : za_Ok (z_rm 3 62) 0 0 p s m args meth c G RX0 cX0_greatestDoubt 4 (some .int)) {q : Nat} (hq : z_is q 0)  (n : Nat) : ∀ (v1 : Int32) (v2 : Int32) (v3 : Int32) (μ : zMem), fX0_greatestDoubt_17  K q n v1 v2 v3 μ → za_At p l e (z_rm 3 62) s m args below meth c (MQ below (zQi G K) args s 0 0 (zA G)) G 4 0 0 17 [(0, .ref (G.2.2 + q)), (1, .int v1), (2, .int v2), (3, .int v3)] [] μ := by
  induction n with
  | zero => intro _ _ _ _ hf; exact hf.elim
  | succ n ih => intro v1 v2 v3 μ  hf; exact tX0_greatestDoubt_17b o hq  ih v1 v2 v3 μ  hf
set_option maxRecDepth 100000 in
set_option maxHeartbeats 4000000 in
theorem tX0_greatestDoubt_12 {p : Program} {l : Launch} {e : Env} {s : State} {m : MethodId} {args : Array Value} {below : List Frame} {meth : Method} {c : Code} {G : zG}  {K : Int32 → zMem → Prop} (o : za_Ok (z_rm 3 62) 0 0 p s m args meth c G RX0 cX0_greatestDoubt 4 (some .int)) {q : Nat} (hq : z_is q 0)  (v1 : Int32) (μ : zMem)  (hf : fX0_greatestDoubt_12  K q v1 μ) : za_At p l e (z_rm 3 62) s m args below meth c (MQ below (zQi G K) args s 0 0 (zA G)) G 4 0 0 12 [(0, .ref (G.2.2 + q)), (1, .int v1)] [] μ := by
  unfold fX0_greatestDoubt_12 at hf
  refine za_bipush (v := (-6 : Int32)) o dX0_greatestDoubt_12 (by decide) ?_
  refine za_istore_n o [(2, .int (-6 : Int32)), (0, .ref (G.2.2 + q)), (1, .int v1)] dX0_greatestDoubt_14 rfl (by decide) rfl ?_
  refine za_iconst (v := (0 : Int32)) o dX0_greatestDoubt_15 (by decide) ?_
  refine za_istore_n o [(3, .int (0 : Int32)), (2, .int (-6 : Int32)), (0, .ref (G.2.2 + q)), (1, .int v1)] dX0_greatestDoubt_16 rfl (by decide) rfl ?_
  refine za_sub [2, 3, 1, 0] rfl ?_
  exact tX0_greatestDoubt_17 o hq  zFU v1 (-6 : Int32) (0 : Int32) μ  hf
set_option maxRecDepth 100000 in
set_option maxHeartbeats 4000000 in
theorem ctX0_greatestDoubt (l : Launch) (G : zG) {q : Nat} (hq : z_is q 0) (a1 : Int32)  (μ : zMem) (K : Int32 → zMem → Prop) (hf : fX0_greatestDoubt q a1 μ K) : z_Met l G yX0_greatestDoubt cX0_greatestDoubt 4 (some .int) (z_rm 3 62) [.ref (G.2.2 + q), .int a1] μ K := by
  refine z_body (by decide) (Nat.le_of_ble_eq_true rfl) (fun p e s m args below meth c o => ?_)
  have o : za_Ok (z_rm 3 62) 0 0 p s m args meth c G RX0 cX0_greatestDoubt 4 (some .int) := o
  show za_At p l e (z_rm 3 62) s m args below meth c (MQ below (zQi G K) args s 0 0 (zA G)) G 4 0 0 0 [(0, .ref (G.2.2 + q)), (1, .int a1)] [] μ
  unfold fX0_greatestDoubt at hf
  refine za_iload_n o 1 dX0_greatestDoubt_0 rfl rfl ?_
  refine za_if_eq o 12 dX0_greatestDoubt_1 (by decide) (fun c22 => ?_) (fun c22 => ?_)
  · replace hf := hf.1 c22
    exact tX0_greatestDoubt_12 o hq  a1 μ  hf
  · replace hf := hf.2 c22
    refine za_iload_n o 1 dX0_greatestDoubt_4 rfl rfl ?_
    refine za_iconst (v := (1 : Int32)) o dX0_greatestDoubt_5 (by decide) ?_
    refine za_icmp_eq o 12 dX0_greatestDoubt_6 (by decide) (fun c23 => ?_) (fun c23 => ?_)
    · replace hf := hf.1 c23
      exact tX0_greatestDoubt_12 o hq  a1 μ  hf
    · replace hf := hf.2 c23
      refine za_bipush (v := (-2 : Int32)) o dX0_greatestDoubt_9 (by decide) ?_
      exact za_iret o rfl hf dX0_greatestDoubt_11
def fX7_unsurest (q : Nat) (a1 : Int32) (μ : zMem) (K : Int32 → zMem → Prop) : Prop :=
  fX0_greatestDoubt 1 a1 μ (fun r1 m2 => K r1 m2)
set_option maxRecDepth 100000 in
set_option maxHeartbeats 4000000 in
theorem ctX7_unsurest (l : Launch) (G : zG) {q : Nat} (hq : z_is q 7) (a1 : Int32)  (μ : zMem) (K : Int32 → zMem → Prop) (hf : fX7_unsurest q a1 μ K) : z_Met l G yX7_unsurest cX7_unsurest 2 (some .int) (z_rm 4 85) [.ref (G.2.2 + q), .int a1] μ K := by
  refine z_body (by decide) (Nat.le_of_ble_eq_true rfl) (fun p e s m args below meth c o => ?_)
  have o : za_Ok (z_rm 4 85) 0 0 p s m args meth c G RX7 cX7_unsurest 2 (some .int) := o
  show za_At p l e (z_rm 4 85) s m args below meth c (MQ below (zQi G K) args s 0 0 (zA G)) G 2 0 0 0 [(0, .ref (G.2.2 + q)), (1, .int a1)] [] μ
  unfold fX7_unsurest at hf
  refine za_aload_n o 0 dX7_unsurest_0 rfl rfl ?_
  refine za_getf o 0 zc7 hq (Nat.le_of_ble_eq_true rfl) wfX7_10 rfl dX7_unsurest_1 ?_
  refine za_iload_n o 1 dX7_unsurest_4 rfl rfl ?_
  refine za_callVi o [.int a1] (ctX0_greatestDoubt l G zk_c0 a1  μ _ hf) zc0 zk_c0 mwX0_greatestDoubt wmX7_106 wiX0_greatestDoubt wsX0_greatestDoubt rfl ⟨Nat.le_of_ble_eq_true rfl, Nat.le_of_ble_eq_true rfl⟩ rfl (Nat.le_of_ble_eq_true rfl) dX7_unsurest_5 (fun r1 m2 hf => ?_)
  exact za_iret o rfl hf dX7_unsurest_8
def fX0_firstPossible_19b (k12 : Int32 → Int32 → zMem → Prop) (k19 : Int32 → Int32 → Int32 → zMem → Prop) (K : Int32 → zMem → Prop) (q : Nat) (v1 : Int32) (v2 : Int32) (v3 : Int32) (μ : zMem) : Prop :=
  (((3 : Int32) ≤ v3 → (∀ x2 : Int32, x2 = v2 + (1 : Int32) → k12 v1 x2 μ)) ∧ (¬ (3 : Int32) ≤ v3 → fX0_reasonAgainst q v1 v2 v3 μ (fun r3 m4 => ((¬ r3 = 0 → (∀ x6 : Int32, x6 = v3 + (1 : Int32) → k19 v1 v2 x6 m4)) ∧ (r3 = 0 → (∀ x7 : Int32, x7 = ((3 : Int32) * v2) → (∀ x8 : Int32, x8 = (x7 + v3) → K x8 m4)))))))
def fX0_firstPossible_19 (k12 : Int32 → Int32 → zMem → Prop) (K : Int32 → zMem → Prop) (q : Nat) (n : Nat) : Int32 → Int32 → Int32 → zMem → Prop := z_it (fun k => fX0_firstPossible_19b k12 k K q ) (fun _ _ _ _ => False) n
def fX0_firstPossible_12b (k12 : Int32 → Int32 → zMem → Prop) (K : Int32 → zMem → Prop) (q : Nat) (v1 : Int32) (v2 : Int32) (μ : zMem) : Prop :=
  (((5 : Int32) ≤ v2 → K (-6 : Int32) μ) ∧ (¬ (5 : Int32) ≤ v2 → fX0_firstPossible_19 k12 K q zFU v1 v2 (0 : Int32) μ))
def fX0_firstPossible_12  (K : Int32 → zMem → Prop) (q : Nat) (n : Nat) : Int32 → Int32 → zMem → Prop := z_it (fun k => fX0_firstPossible_12b  k K q ) (fun _ _ _ => False) n
def fX0_firstPossible (q : Nat) (a1 : Int32) (μ : zMem) (K : Int32 → zMem → Prop) : Prop :=
  fX0_hasPerson q a1 μ (fun r10 m11 => ((¬ r10 = 0 → fX0_firstPossible_12  K q zFU a1 (0 : Int32) m11) ∧ (r10 = 0 → K (-1 : Int32) m11)))
set_option maxRecDepth 100000 in
set_option maxHeartbeats 4000000 in
theorem tX0_firstPossible_19b {p : Program} {l : Launch} {e : Env} {s : State} {m : MethodId} {args : Array Value} {below : List Frame} {meth : Method} {c : Code} {G : zG} {k12 : Int32 → Int32 → zMem → Prop} {k19 : Int32 → Int32 → Int32 → zMem → Prop} {K : Int32 → zMem → Prop} (o : za_Ok (z_rm 2 45) 0 0 p s m args meth c G RX0 cX0_firstPossible 4 (some .int)) {q : Nat} (hq : z_is q 0) (hk12 : ∀ (v1 : Int32) (v2 : Int32) (μ : zMem), k12 v1 v2 μ → za_At p l e (z_rm 2 45) s m args below meth c (MQ below (zQi G K) args s 0 0 (zA G)) G 4 0 0 12 [(0, .ref (G.2.2 + q)), (1, .int v1), (2, .int v2)] [] μ) (hk19 : ∀ (v1 : Int32) (v2 : Int32) (v3 : Int32) (μ : zMem), k19 v1 v2 v3 μ → za_At p l e (z_rm 2 45) s m args below meth c (MQ below (zQi G K) args s 0 0 (zA G)) G 4 0 0 19 [(0, .ref (G.2.2 + q)), (1, .int v1), (2, .int v2), (3, .int v3)] [] μ) (v1 : Int32) (v2 : Int32) (v3 : Int32) (μ : zMem)  (hf : fX0_firstPossible_19b k12 k19 K q v1 v2 v3 μ) : za_At p l e (z_rm 2 45) s m args below meth c (MQ below (zQi G K) args s 0 0 (zA G)) G 4 0 0 19 [(0, .ref (G.2.2 + q)), (1, .int v1), (2, .int v2), (3, .int v3)] [] μ := by
  unfold fX0_firstPossible_19b at hf
  refine za_iload_n o 3 dX0_firstPossible_19 rfl rfl ?_
  refine za_iconst (v := (3 : Int32)) o dX0_firstPossible_20 (by decide) ?_
  refine za_icmp_ge o 46 dX0_firstPossible_21 (by decide) (fun c1 => ?_) (fun c1 => ?_)
  · replace hf := hf.1 c1
    obtain ⟨x2, ex2⟩ : ∃ y : Int32, y = v2 + (1 : Int32) := ⟨_, rfl⟩
    replace hf := hf x2 ex2
    refine za_iinc o x2 2 [(2, .int x2), (0, .ref (G.2.2 + q)), (1, .int v1), (3, .int v3)] dX0_firstPossible_46 rfl (by rw [ex2]; rfl) (by decide) rfl ?_
    refine za_goto o 12 dX0_firstPossible_49 (by decide) ?_
    refine za_sub [1, 2, 0] rfl ?_
    exact hk12 v1 x2 μ  hf
  · replace hf := hf.2 c1
    refine za_aload_n o 0 dX0_firstPossible_24 rfl rfl ?_
    refine za_iload_n o 1 dX0_firstPossible_25 rfl rfl ?_
    refine za_iload_n o 2 dX0_firstPossible_26 rfl rfl ?_
    refine za_iload_n o 3 dX0_firstPossible_27 rfl rfl ?_
    refine za_callVi o [.int v1, .int v2, .int v3] (ctX0_reasonAgainst l G hq v1 v2 v3  μ _ hf) zc0 hq mwX0_reasonAgainst wmX0_76 wiX0_reasonAgainst wsX0_reasonAgainst rfl ⟨Nat.le_of_ble_eq_true rfl, Nat.le_of_ble_eq_true rfl⟩ rfl (Nat.le_of_ble_eq_true rfl) dX0_firstPossible_28 (fun r3 m4 hf => ?_)
    refine za_if_ne o 40 dX0_firstPossible_31 (by decide) (fun c5 => ?_) (fun c5 => ?_)
    · replace hf := hf.1 c5
      obtain ⟨x6, ex6⟩ : ∃ y : Int32, y = v3 + (1 : Int32) := ⟨_, rfl⟩
      replace hf := hf x6 ex6
      refine za_iinc o x6 3 [(3, .int x6), (0, .ref (G.2.2 + q)), (1, .int v1), (2, .int v2)] dX0_firstPossible_40 rfl (by rw [ex6]; rfl) (by decide) rfl ?_
      refine za_goto o 19 dX0_firstPossible_43 (by decide) ?_
      refine za_sub [1, 2, 3, 0] rfl ?_
      exact hk19 v1 v2 x6 m4  hf
    · replace hf := hf.2 c5
      refine za_iconst (v := (3 : Int32)) o dX0_firstPossible_34 (by decide) ?_
      refine za_iload_n o 2 dX0_firstPossible_35 rfl rfl ?_
      refine za_imul o dX0_firstPossible_36 ?_
      refine za_topi (fun x7 ex7 => ?_)
      replace hf := hf x7 ex7
      refine za_iload_n o 3 dX0_firstPossible_37 rfl rfl ?_
      refine za_iadd o dX0_firstPossible_38 ?_
      refine za_topi (fun x8 ex8 => ?_)
      replace hf := hf x8 ex8
      exact za_iret o rfl hf dX0_firstPossible_39
theorem tX0_firstPossible_19 {p : Program} {l : Launch} {e : Env} {s : State} {m : MethodId} {args : Array Value} {below : List Frame} {meth : Method} {c : Code} {G : zG} {k12 : Int32 → Int32 → zMem → Prop} {K : Int32 → zMem → Prop} (o : za_Ok (z_rm 2 45) 0 0 p s m args meth c G RX0 cX0_firstPossible 4 (some .int)) {q : Nat} (hq : z_is q 0) (hk12 : ∀ (v1 : Int32) (v2 : Int32) (μ : zMem), k12 v1 v2 μ → za_At p l e (z_rm 2 45) s m args below meth c (MQ below (zQi G K) args s 0 0 (zA G)) G 4 0 0 12 [(0, .ref (G.2.2 + q)), (1, .int v1), (2, .int v2)] [] μ) (n : Nat) : ∀ (v1 : Int32) (v2 : Int32) (v3 : Int32) (μ : zMem), fX0_firstPossible_19 k12 K q n v1 v2 v3 μ → za_At p l e (z_rm 2 45) s m args below meth c (MQ below (zQi G K) args s 0 0 (zA G)) G 4 0 0 19 [(0, .ref (G.2.2 + q)), (1, .int v1), (2, .int v2), (3, .int v3)] [] μ := by
  induction n with
  | zero => intro _ _ _ _ hf; exact hf.elim
  | succ n ih => intro v1 v2 v3 μ  hf; exact tX0_firstPossible_19b o hq hk12 ih v1 v2 v3 μ  hf
set_option maxRecDepth 100000 in
set_option maxHeartbeats 4000000 in
theorem tX0_firstPossible_12b {p : Program} {l : Launch} {e : Env} {s : State} {m : MethodId} {args : Array Value} {below : List Frame} {meth : Method} {c : Code} {G : zG} {k12 : Int32 → Int32 → zMem → Prop} {K : Int32 → zMem → Prop} (o : za_Ok (z_rm 2 45) 0 0 p s m args meth c G RX0 cX0_firstPossible 4 (some .int)) {q : Nat} (hq : z_is q 0) (hk12 : ∀ (v1 : Int32) (v2 : Int32) (μ : zMem), k12 v1 v2 μ → za_At p l e (z_rm 2 45) s m args below meth c (MQ below (zQi G K) args s 0 0 (zA G)) G 4 0 0 12 [(0, .ref (G.2.2 + q)), (1, .int v1), (2, .int v2)] [] μ) (v1 : Int32) (v2 : Int32) (μ : zMem)  (hf : fX0_firstPossible_12b k12 K q v1 v2 μ) : za_At p l e (z_rm 2 45) s m args below meth c (MQ below (zQi G K) args s 0 0 (zA G)) G 4 0 0 12 [(0, .ref (G.2.2 + q)), (1, .int v1), (2, .int v2)] [] μ := by
  unfold fX0_firstPossible_12b at hf
  refine za_iload_n o 2 dX0_firstPossible_12 rfl rfl ?_
  refine za_iconst (v := (5 : Int32)) o dX0_firstPossible_13 (by decide) ?_
  refine za_icmp_ge o 52 dX0_firstPossible_14 (by decide) (fun c9 => ?_) (fun c9 => ?_)
  · replace hf := hf.1 c9
    refine za_bipush (v := (-6 : Int32)) o dX0_firstPossible_52 (by decide) ?_
    exact za_iret o rfl hf dX0_firstPossible_54
  · replace hf := hf.2 c9
    refine za_iconst (v := (0 : Int32)) o dX0_firstPossible_17 (by decide) ?_
    refine za_istore_n o [(3, .int (0 : Int32)), (0, .ref (G.2.2 + q)), (1, .int v1), (2, .int v2)] dX0_firstPossible_18 rfl (by decide) rfl ?_
    refine za_sub [1, 2, 3, 0] rfl ?_
    exact tX0_firstPossible_19 o hq hk12 zFU v1 v2 (0 : Int32) μ  hf
theorem tX0_firstPossible_12 {p : Program} {l : Launch} {e : Env} {s : State} {m : MethodId} {args : Array Value} {below : List Frame} {meth : Method} {c : Code} {G : zG}  {K : Int32 → zMem → Prop} (o : za_Ok (z_rm 2 45) 0 0 p s m args meth c G RX0 cX0_firstPossible 4 (some .int)) {q : Nat} (hq : z_is q 0)  (n : Nat) : ∀ (v1 : Int32) (v2 : Int32) (μ : zMem), fX0_firstPossible_12  K q n v1 v2 μ → za_At p l e (z_rm 2 45) s m args below meth c (MQ below (zQi G K) args s 0 0 (zA G)) G 4 0 0 12 [(0, .ref (G.2.2 + q)), (1, .int v1), (2, .int v2)] [] μ := by
  induction n with
  | zero => intro _ _ _ hf; exact hf.elim
  | succ n ih => intro v1 v2 μ  hf; exact tX0_firstPossible_12b o hq  ih v1 v2 μ  hf
set_option maxRecDepth 100000 in
set_option maxHeartbeats 4000000 in
theorem ctX0_firstPossible (l : Launch) (G : zG) {q : Nat} (hq : z_is q 0) (a1 : Int32)  (μ : zMem) (K : Int32 → zMem → Prop) (hf : fX0_firstPossible q a1 μ K) : z_Met l G yX0_firstPossible cX0_firstPossible 4 (some .int) (z_rm 2 45) [.ref (G.2.2 + q), .int a1] μ K := by
  refine z_body (by decide) (Nat.le_of_ble_eq_true rfl) (fun p e s m args below meth c o => ?_)
  have o : za_Ok (z_rm 2 45) 0 0 p s m args meth c G RX0 cX0_firstPossible 4 (some .int) := o
  show za_At p l e (z_rm 2 45) s m args below meth c (MQ below (zQi G K) args s 0 0 (zA G)) G 4 0 0 0 [(0, .ref (G.2.2 + q)), (1, .int a1)] [] μ
  unfold fX0_firstPossible at hf
  refine za_aload_n o 0 dX0_firstPossible_0 rfl rfl ?_
  refine za_iload_n o 1 dX0_firstPossible_1 rfl rfl ?_
  refine za_callVi o [.int a1] (ctX0_hasPerson l G hq a1  μ _ hf) zc0 hq mwX0_hasPerson wmX0_69 wiX0_hasPerson wsX0_hasPerson rfl ⟨Nat.le_of_ble_eq_true rfl, Nat.le_of_ble_eq_true rfl⟩ rfl (Nat.le_of_ble_eq_true rfl) dX0_firstPossible_2 (fun r10 m11 hf => ?_)
  refine za_if_ne o 10 dX0_firstPossible_5 (by decide) (fun c12 => ?_) (fun c12 => ?_)
  · replace hf := hf.1 c12
    refine za_iconst (v := (0 : Int32)) o dX0_firstPossible_10 (by decide) ?_
    refine za_istore_n o [(2, .int (0 : Int32)), (0, .ref (G.2.2 + q)), (1, .int a1)] dX0_firstPossible_11 rfl (by decide) rfl ?_
    refine za_sub [1, 2, 0] rfl ?_
    exact tX0_firstPossible_12 o hq  zFU a1 (0 : Int32) m11  hf
  · replace hf := hf.2 c12
    refine za_iconst (v := (-1 : Int32)) o dX0_firstPossible_8 (by decide) ?_
    exact za_iret o rfl hf dX0_firstPossible_9
def fX7_firstOrder (q : Nat) (a1 : Int32) (μ : zMem) (K : Int32 → zMem → Prop) : Prop :=
  fX0_firstPossible 1 a1 μ (fun r1 m2 => K r1 m2)
set_option maxRecDepth 100000 in
set_option maxHeartbeats 4000000 in
theorem ctX7_firstOrder (l : Launch) (G : zG) {q : Nat} (hq : z_is q 7) (a1 : Int32)  (μ : zMem) (K : Int32 → zMem → Prop) (hf : fX7_firstOrder q a1 μ K) : z_Met l G yX7_firstOrder cX7_firstOrder 2 (some .int) (z_rm 3 68) [.ref (G.2.2 + q), .int a1] μ K := by
  refine z_body (by decide) (Nat.le_of_ble_eq_true rfl) (fun p e s m args below meth c o => ?_)
  have o : za_Ok (z_rm 3 68) 0 0 p s m args meth c G RX7 cX7_firstOrder 2 (some .int) := o
  show za_At p l e (z_rm 3 68) s m args below meth c (MQ below (zQi G K) args s 0 0 (zA G)) G 2 0 0 0 [(0, .ref (G.2.2 + q)), (1, .int a1)] [] μ
  unfold fX7_firstOrder at hf
  refine za_aload_n o 0 dX7_firstOrder_0 rfl rfl ?_
  refine za_getf o 0 zc7 hq (Nat.le_of_ble_eq_true rfl) wfX7_10 rfl dX7_firstOrder_1 ?_
  refine za_iload_n o 1 dX7_firstOrder_4 rfl rfl ?_
  refine za_callVi o [.int a1] (ctX0_firstPossible l G zk_c0 a1  μ _ hf) zc0 zk_c0 mwX0_firstPossible wmX7_109 wiX0_firstPossible wsX0_firstPossible rfl ⟨Nat.le_of_ble_eq_true rfl, Nat.le_of_ble_eq_true rfl⟩ rfl (Nat.le_of_ble_eq_true rfl) dX7_firstOrder_5 (fun r1 m2 hf => ?_)
  exact za_iret o rfl hf dX7_firstOrder_8
def fX1_waste_23  (K : Int32 → zMem → Prop) (q : Nat) (v1 : Int32) (μ : zMem) : Prop :=
  K v1 μ
def fX1_waste (q : Nat)  (μ : zMem) (K : Int32 → zMem → Prop) : Prop :=
  ((¬ (μ q 3) = 0 → (∀ x2 : Int32, x2 = ((100 : Int32) * (μ q 5)) → ((¬ (μ q 3) = 0) ∧ (∀ x4 : Int32, x4 = (x2 / (μ q 3)) → fX1_waste_23  K q x4 μ)))) ∧ ((μ q 3) = 0 → fX1_waste_23  K q (0 : Int32) μ))
set_option maxRecDepth 100000 in
set_option maxHeartbeats 4000000 in
theorem tX1_waste_23 {p : Program} {l : Launch} {e : Env} {s : State} {m : MethodId} {args : Array Value} {below : List Frame} {meth : Method} {c : Code} {G : zG}  {K : Int32 → zMem → Prop} (o : za_Ok (z_rm 0 0) 0 0 p s m args meth c G RX1 cX1_waste 1 (some .int)) {q : Nat} (hq : z_is q 1)  (v1 : Int32) (μ : zMem)  (hf : fX1_waste_23  K q v1 μ) : za_At p l e (z_rm 0 0) s m args below meth c (MQ below (zQi G K) args s 0 0 (zA G)) G 1 0 0 23 [] [.int v1] μ := by
  unfold fX1_waste_23 at hf
  exact za_iret o rfl hf dX1_waste_23
set_option maxRecDepth 100000 in
set_option maxHeartbeats 4000000 in
theorem ctX1_waste (l : Launch) (G : zG) {q : Nat} (hq : z_is q 1)   (μ : zMem) (K : Int32 → zMem → Prop) (hf : fX1_waste q  μ K) : z_Met l G yX1_waste cX1_waste 1 (some .int) (z_rm 0 0) [.ref (G.2.2 + q)] μ K := by
  refine z_body (by decide) (Nat.le_of_ble_eq_true rfl) (fun p e s m args below meth c o => ?_)
  have o : za_Ok (z_rm 0 0) 0 0 p s m args meth c G RX1 cX1_waste 1 (some .int) := o
  show za_At p l e (z_rm 0 0) s m args below meth c (MQ below (zQi G K) args s 0 0 (zA G)) G 1 0 0 0 [(0, .ref (G.2.2 + q))] [] μ
  unfold fX1_waste at hf
  refine za_aload_n o 0 dX1_waste_0 rfl rfl ?_
  refine za_getf o 3 zc1 hq (Nat.le_of_ble_eq_true rfl) wfX1_28 rfl dX1_waste_1 ?_
  refine za_if_ne o 11 dX1_waste_4 (by decide) (fun c1 => ?_) (fun c1 => ?_)
  · replace hf := hf.1 c1
    refine za_bipush (v := (100 : Int32)) o dX1_waste_11 (by decide) ?_
    refine za_aload_n o 0 dX1_waste_13 rfl rfl ?_
    refine za_getf o 5 zc1 hq (Nat.le_of_ble_eq_true rfl) wfX1_34 rfl dX1_waste_14 ?_
    refine za_imul o dX1_waste_17 ?_
    refine za_topi (fun x2 ex2 => ?_)
    replace hf := hf x2 ex2
    refine za_aload_n o 0 dX1_waste_18 rfl rfl ?_
    refine za_getf o 3 zc1 hq (Nat.le_of_ble_eq_true rfl) wfX1_28 rfl dX1_waste_19 ?_
    obtain ⟨g3, hf⟩ := hf
    refine za_idiv o dX1_waste_22 g3 ?_
    refine za_topi (fun x4 ex4 => ?_)
    replace hf := hf x4 ex4
    refine za_sub [] rfl ?_
    exact tX1_waste_23 o hq  x4 μ  hf
  · replace hf := hf.2 c1
    refine za_iconst (v := (0 : Int32)) o dX1_waste_7 (by decide) ?_
    refine za_goto o 23 dX1_waste_8 (by decide) ?_
    refine za_sub [] rfl ?_
    exact tX1_waste_23 o hq  (0 : Int32) μ  hf
def fX0_mostThrown_49 (k5 : Int32 → Int32 → zMem → Prop) (K : Int32 → zMem → Prop) (q : Nat) (v1 : Int32) (v2 : Int32) (μ : zMem) : Prop :=
  (∀ x1 : Int32, x1 = v2 + (1 : Int32) → k5 v1 x1 μ)
def fX0_mostThrown_47 (k5 : Int32 → Int32 → zMem → Prop) (K : Int32 → zMem → Prop) (q : Nat) (v1 : Int32) (μ : zMem) : Prop :=
  fX0_mostThrown_49 k5 K q v1 v1 μ
def fX0_mostThrown_5b (k5 : Int32 → Int32 → zMem → Prop) (K : Int32 → zMem → Prop) (q : Nat) (v1 : Int32) (v2 : Int32) (μ : zMem) : Prop :=
  (((3 : Int32) ≤ v2 → K v1 μ) ∧ (¬ (3 : Int32) ≤ v2 → (vp_in v2 3 ∧ (∀ q4 : Nat, q4 = (q + 3) + 43 + 2 * v2.toNatClampNeg → (((μ q4 5) ≤ 0 → fX0_mostThrown_49 k5 K q v1 v2 μ) ∧ (¬ (μ q4 5) ≤ 0 → ((v1 < 0 → fX0_mostThrown_47 k5 K q v2 μ) ∧ (¬ v1 < 0 → (vp_in v2 3 ∧ (∀ q8 : Nat, q8 = (q + 3) + 43 + 2 * v2.toNatClampNeg → fX1_waste q8  μ (fun r9 m10 => (vp_in v1 3 ∧ (∀ q12 : Nat, q12 = (q + 3) + 43 + 2 * v1.toNatClampNeg → fX1_waste q12  m10 (fun r13 m14 => ((r9 ≤ r13 → fX0_mostThrown_49 k5 K q v1 v2 m14) ∧ (¬ r9 ≤ r13 → fX0_mostThrown_47 k5 K q v2 m14))))))))))))))))
def fX0_mostThrown_5  (K : Int32 → zMem → Prop) (q : Nat) (n : Nat) : Int32 → Int32 → zMem → Prop := z_it (fun k => fX0_mostThrown_5b  k K q ) (fun _ _ _ => False) n
def fX0_mostThrown (q : Nat)  (μ : zMem) (K : Int32 → zMem → Prop) : Prop :=
  fX0_mostThrown_5  K q zFU (-6 : Int32) (0 : Int32) μ
set_option maxRecDepth 100000 in
set_option maxHeartbeats 4000000 in
theorem tX0_mostThrown_49 {p : Program} {l : Launch} {e : Env} {s : State} {m : MethodId} {args : Array Value} {below : List Frame} {meth : Method} {c : Code} {G : zG} {k5 : Int32 → Int32 → zMem → Prop} {K : Int32 → zMem → Prop} (o : za_Ok (z_rm 1 20) 0 0 p s m args meth c G RX0 cX0_mostThrown 3 (some .int)) {q : Nat} (hq : z_is q 0) (hk5 : ∀ (v1 : Int32) (v2 : Int32) (μ : zMem), k5 v1 v2 μ → za_At p l e (z_rm 1 20) s m args below meth c (MQ below (zQi G K) args s 0 0 (zA G)) G 3 0 0 5 [(0, .ref (G.2.2 + q)), (1, .int v1), (2, .int v2)] [] μ) (v1 : Int32) (v2 : Int32) (μ : zMem)  (hf : fX0_mostThrown_49 k5 K q v1 v2 μ) : za_At p l e (z_rm 1 20) s m args below meth c (MQ below (zQi G K) args s 0 0 (zA G)) G 3 0 0 49 [(0, .ref (G.2.2 + q)), (1, .int v1), (2, .int v2)] [] μ := by
  unfold fX0_mostThrown_49 at hf
  obtain ⟨x1, ex1⟩ : ∃ y : Int32, y = v2 + (1 : Int32) := ⟨_, rfl⟩
  replace hf := hf x1 ex1
  refine za_iinc o x1 2 [(2, .int x1), (0, .ref (G.2.2 + q)), (1, .int v1)] dX0_mostThrown_49 rfl (by rw [ex1]; rfl) (by decide) rfl ?_
  refine za_goto o 5 dX0_mostThrown_52 (by decide) ?_
  refine za_sub [1, 2, 0] rfl ?_
  exact hk5 v1 x1 μ  hf
set_option maxRecDepth 100000 in
set_option maxHeartbeats 4000000 in
theorem tX0_mostThrown_47 {p : Program} {l : Launch} {e : Env} {s : State} {m : MethodId} {args : Array Value} {below : List Frame} {meth : Method} {c : Code} {G : zG} {k5 : Int32 → Int32 → zMem → Prop} {K : Int32 → zMem → Prop} (o : za_Ok (z_rm 1 20) 0 0 p s m args meth c G RX0 cX0_mostThrown 3 (some .int)) {q : Nat} (hq : z_is q 0) (hk5 : ∀ (v1 : Int32) (v2 : Int32) (μ : zMem), k5 v1 v2 μ → za_At p l e (z_rm 1 20) s m args below meth c (MQ below (zQi G K) args s 0 0 (zA G)) G 3 0 0 5 [(0, .ref (G.2.2 + q)), (1, .int v1), (2, .int v2)] [] μ) (v1 : Int32) (μ : zMem)  (hf : fX0_mostThrown_47 k5 K q v1 μ) : za_At p l e (z_rm 1 20) s m args below meth c (MQ below (zQi G K) args s 0 0 (zA G)) G 3 0 0 47 [(0, .ref (G.2.2 + q)), (2, .int v1)] [] μ := by
  unfold fX0_mostThrown_47 at hf
  refine za_iload_n o 1 dX0_mostThrown_47 rfl rfl ?_
  refine za_istore_n o [(1, .int v1), (0, .ref (G.2.2 + q)), (2, .int v1)] dX0_mostThrown_48 rfl (by decide) rfl ?_
  refine za_sub [1, 0, 2] rfl ?_
  exact tX0_mostThrown_49 o hq hk5 v1 v1 μ  hf
set_option maxRecDepth 100000 in
set_option maxHeartbeats 4000000 in
theorem tX0_mostThrown_5b {p : Program} {l : Launch} {e : Env} {s : State} {m : MethodId} {args : Array Value} {below : List Frame} {meth : Method} {c : Code} {G : zG} {k5 : Int32 → Int32 → zMem → Prop} {K : Int32 → zMem → Prop} (o : za_Ok (z_rm 1 20) 0 0 p s m args meth c G RX0 cX0_mostThrown 3 (some .int)) {q : Nat} (hq : z_is q 0) (hk5 : ∀ (v1 : Int32) (v2 : Int32) (μ : zMem), k5 v1 v2 μ → za_At p l e (z_rm 1 20) s m args below meth c (MQ below (zQi G K) args s 0 0 (zA G)) G 3 0 0 5 [(0, .ref (G.2.2 + q)), (1, .int v1), (2, .int v2)] [] μ) (v1 : Int32) (v2 : Int32) (μ : zMem)  (hf : fX0_mostThrown_5b k5 K q v1 v2 μ) : za_At p l e (z_rm 1 20) s m args below meth c (MQ below (zQi G K) args s 0 0 (zA G)) G 3 0 0 5 [(0, .ref (G.2.2 + q)), (1, .int v1), (2, .int v2)] [] μ := by
  unfold fX0_mostThrown_5b at hf
  refine za_iload_n o 2 dX0_mostThrown_5 rfl rfl ?_
  refine za_iconst (v := (3 : Int32)) o dX0_mostThrown_6 (by decide) ?_
  refine za_icmp_ge o 55 dX0_mostThrown_7 (by decide) (fun c2 => ?_) (fun c2 => ?_)
  · replace hf := hf.1 c2
    refine za_iload_n o 1 dX0_mostThrown_55 rfl rfl ?_
    exact za_iret o rfl hf dX0_mostThrown_56
  · replace hf := hf.2 c2
    refine za_aload_n o 0 dX0_mostThrown_10 rfl rfl ?_
    refine za_getf o 2 zc0 hq (Nat.le_of_ble_eq_true rfl) wfX0_23 rfl dX0_mostThrown_11 ?_
    refine za_iload_n o 2 dX0_mostThrown_14 rfl rfl ?_
    obtain ⟨g3, hf⟩ := hf
    refine za_aald o (zk_0_11 hq) rfl rfl rfl g3 dX0_mostThrown_15 ?_
    refine za_topr (fun q4 eq4 => ?_)
    replace hf := hf q4 eq4
    have hq4 : z_is q4 1 := by rw [eq4]; exact zk_a11 (zk_0_11 hq) (z_lt g3)
    refine za_getfN o 5 "CanteenPlates" zc1 hq4 (Nat.le_of_ble_eq_true rfl) wnX0_166 rfl dX0_mostThrown_16 ?_
    refine za_if_le o 49 dX0_mostThrown_19 (by decide) (fun c5 => ?_) (fun c5 => ?_)
    · replace hf := hf.1 c5
      exact tX0_mostThrown_49 o hq hk5 v1 v2 μ  hf
    · replace hf := hf.2 c5
      refine za_iload_n o 1 dX0_mostThrown_22 rfl rfl ?_
      refine za_if_lt o 47 dX0_mostThrown_23 (by decide) (fun c6 => ?_) (fun c6 => ?_)
      · replace hf := hf.1 c6
        refine za_sub [0, 2] rfl ?_
        exact tX0_mostThrown_47 o hq hk5 v2 μ  hf
      · replace hf := hf.2 c6
        refine za_aload_n o 0 dX0_mostThrown_26 rfl rfl ?_
        refine za_getf o 2 zc0 hq (Nat.le_of_ble_eq_true rfl) wfX0_23 rfl dX0_mostThrown_27 ?_
        refine za_iload_n o 2 dX0_mostThrown_30 rfl rfl ?_
        obtain ⟨g7, hf⟩ := hf
        refine za_aald o (zk_0_11 hq) rfl rfl rfl g7 dX0_mostThrown_31 ?_
        refine za_topr (fun q8 eq8 => ?_)
        replace hf := hf q8 eq8
        have hq8 : z_is q8 1 := by rw [eq8]; exact zk_a11 (zk_0_11 hq) (z_lt g7)
        refine za_callVi o [] (ctX1_waste l G hq8   μ _ hf) zc1 hq8 mwX1_waste wmX0_191 wiX1_waste wsX1_waste rfl ⟨Nat.le_of_ble_eq_true rfl, Nat.le_of_ble_eq_true rfl⟩ rfl (Nat.le_of_ble_eq_true rfl) dX0_mostThrown_32 (fun r9 m10 hf => ?_)
        refine za_aload_n o 0 dX0_mostThrown_35 rfl rfl ?_
        refine za_getf o 2 zc0 hq (Nat.le_of_ble_eq_true rfl) wfX0_23 rfl dX0_mostThrown_36 ?_
        refine za_iload_n o 1 dX0_mostThrown_39 rfl rfl ?_
        obtain ⟨g11, hf⟩ := hf
        refine za_aald o (zk_0_11 hq) rfl rfl rfl g11 dX0_mostThrown_40 ?_
        refine za_topr (fun q12 eq12 => ?_)
        replace hf := hf q12 eq12
        have hq12 : z_is q12 1 := by rw [eq12]; exact zk_a11 (zk_0_11 hq) (z_lt g11)
        refine za_callVi o [] (ctX1_waste l G hq12   m10 _ hf) zc1 hq12 mwX1_waste wmX0_191 wiX1_waste wsX1_waste rfl ⟨Nat.le_of_ble_eq_true rfl, Nat.le_of_ble_eq_true rfl⟩ rfl (Nat.le_of_ble_eq_true rfl) dX0_mostThrown_41 (fun r13 m14 hf => ?_)
        refine za_icmp_le o 49 dX0_mostThrown_44 (by decide) (fun c15 => ?_) (fun c15 => ?_)
        · replace hf := hf.1 c15
          exact tX0_mostThrown_49 o hq hk5 v1 v2 m14  hf
        · replace hf := hf.2 c15
          refine za_sub [0, 2] rfl ?_
          exact tX0_mostThrown_47 o hq hk5 v2 m14  hf
theorem tX0_mostThrown_5 {p : Program} {l : Launch} {e : Env} {s : State} {m : MethodId} {args : Array Value} {below : List Frame} {meth : Method} {c : Code} {G : zG}  {K : Int32 → zMem → Prop} (o : za_Ok (z_rm 1 20) 0 0 p s m args meth c G RX0 cX0_mostThrown 3 (some .int)) {q : Nat} (hq : z_is q 0)  (n : Nat) : ∀ (v1 : Int32) (v2 : Int32) (μ : zMem), fX0_mostThrown_5  K q n v1 v2 μ → za_At p l e (z_rm 1 20) s m args below meth c (MQ below (zQi G K) args s 0 0 (zA G)) G 3 0 0 5 [(0, .ref (G.2.2 + q)), (1, .int v1), (2, .int v2)] [] μ := by
  induction n with
  | zero => intro _ _ _ hf; exact hf.elim
  | succ n ih => intro v1 v2 μ  hf; exact tX0_mostThrown_5b o hq  ih v1 v2 μ  hf
set_option maxRecDepth 100000 in
set_option maxHeartbeats 4000000 in
theorem ctX0_mostThrown (l : Launch) (G : zG) {q : Nat} (hq : z_is q 0)   (μ : zMem) (K : Int32 → zMem → Prop) (hf : fX0_mostThrown q  μ K) : z_Met l G yX0_mostThrown cX0_mostThrown 3 (some .int) (z_rm 1 20) [.ref (G.2.2 + q)] μ K := by
  refine z_body (by decide) (Nat.le_of_ble_eq_true rfl) (fun p e s m args below meth c o => ?_)
  have o : za_Ok (z_rm 1 20) 0 0 p s m args meth c G RX0 cX0_mostThrown 3 (some .int) := o
  show za_At p l e (z_rm 1 20) s m args below meth c (MQ below (zQi G K) args s 0 0 (zA G)) G 3 0 0 0 [(0, .ref (G.2.2 + q))] [] μ
  unfold fX0_mostThrown at hf
  refine za_bipush (v := (-6 : Int32)) o dX0_mostThrown_0 (by decide) ?_
  refine za_istore_n o [(1, .int (-6 : Int32)), (0, .ref (G.2.2 + q))] dX0_mostThrown_2 rfl (by decide) rfl ?_
  refine za_iconst (v := (0 : Int32)) o dX0_mostThrown_3 (by decide) ?_
  refine za_istore_n o [(2, .int (0 : Int32)), (1, .int (-6 : Int32)), (0, .ref (G.2.2 + q))] dX0_mostThrown_4 rfl (by decide) rfl ?_
  refine za_sub [2, 1, 0] rfl ?_
  exact tX0_mostThrown_5 o hq  zFU (-6 : Int32) (0 : Int32) μ  hf
def fX7_wasted (q : Nat)  (μ : zMem) (K : Int32 → zMem → Prop) : Prop :=
  fX0_mostThrown 1  μ (fun r1 m2 => K r1 m2)
set_option maxRecDepth 100000 in
set_option maxHeartbeats 4000000 in
theorem ctX7_wasted (l : Launch) (G : zG) {q : Nat} (hq : z_is q 7)   (μ : zMem) (K : Int32 → zMem → Prop) (hf : fX7_wasted q  μ K) : z_Met l G yX7_wasted cX7_wasted 1 (some .int) (z_rm 2 42) [.ref (G.2.2 + q)] μ K := by
  refine z_body (by decide) (Nat.le_of_ble_eq_true rfl) (fun p e s m args below meth c o => ?_)
  have o : za_Ok (z_rm 2 42) 0 0 p s m args meth c G RX7 cX7_wasted 1 (some .int) := o
  show za_At p l e (z_rm 2 42) s m args below meth c (MQ below (zQi G K) args s 0 0 (zA G)) G 1 0 0 0 [(0, .ref (G.2.2 + q))] [] μ
  unfold fX7_wasted at hf
  refine za_aload_n o 0 dX7_wasted_0 rfl rfl ?_
  refine za_getf o 0 zc7 hq (Nat.le_of_ble_eq_true rfl) wfX7_10 rfl dX7_wasted_1 ?_
  refine za_callVi o [] (ctX0_mostThrown l G zk_c0   μ _ hf) zc0 zk_c0 mwX0_mostThrown wmX7_112 wiX0_mostThrown wsX0_mostThrown rfl ⟨Nat.le_of_ble_eq_true rfl, Nat.le_of_ble_eq_true rfl⟩ rfl (Nat.le_of_ble_eq_true rfl) dX7_wasted_4 (fun r1 m2 hf => ?_)
  exact za_iret o rfl hf dX7_wasted_7
def fX4_goodCharacters_43  (K : Int32 → zMem → Prop)  (μ : zMem) : Prop :=
  K (0 : Int32) μ
def fX4_goodCharacters_56  (K : Int32 → zMem → Prop) (v1 : Int32) (μ : zMem) : Prop :=
  K v1 μ
def fX4_goodCharacters_5b (k5 : Int64 → Int32 → zMem → Prop) (K : Int32 → zMem → Prop) (v1 : Int64) (v2 : Int32) (μ : zMem) : Prop :=
  (∀ x1 : Int32, x1 = (lg_cmp v1 (0 : Int64)) → ((x1 = 0 → fX4_goodCharacters_56  K  v2 μ) ∧ (¬ x1 = 0 → (((8 : Int32) ≤ v2 → fX4_goodCharacters_56  K  v2 μ) ∧ (¬ (8 : Int32) ≤ v2 → (∀ x4 : Int64, x4 = (v1 &&& (255 : Int64)) → (∀ x5 : Int32, x5 = (lg_cmp x4 (33 : Int64)) → ((x5 < 0 → fX4_goodCharacters_43  K   μ) ∧ (¬ x5 < 0 → (∀ x7 : Int32, x7 = (lg_cmp x4 (126 : Int64)) → ((x7 ≤ 0 → (∀ x9 : Int64, x9 = (z_ushr v1 (8 : Int32)) → (∀ x10 : Int32, x10 = v2 + (1 : Int32) → k5 x9 x10 μ))) ∧ (¬ x7 ≤ 0 → fX4_goodCharacters_43  K   μ))))))))))))
def fX4_goodCharacters_5  (K : Int32 → zMem → Prop) (n : Nat) : Int64 → Int32 → zMem → Prop := z_it (fun k => fX4_goodCharacters_5b  k K ) (fun _ _ _ => False) n
def fX4_goodCharacters (a1 : Int64) (μ : zMem) (K : Int32 → zMem → Prop) : Prop :=
  fX4_goodCharacters_5  K  zFU a1 (0 : Int32) μ
set_option maxRecDepth 100000 in
set_option maxHeartbeats 4000000 in
theorem tX4_goodCharacters_43 {p : Program} {l : Launch} {e : Env} {s : State} {m : MethodId} {args : Array Value} {below : List Frame} {meth : Method} {c : Code} {G : zG}  {K : Int32 → zMem → Prop} (o : za_Ok (z_rm 0 0) 0 0 p s m args meth c G RX4 cX4_goodCharacters 7 (some .int))   (μ : zMem)  (hf : fX4_goodCharacters_43  K  μ) : za_At p l e (z_rm 0 0) s m args below meth c (MQ below (zQi G K) args s 0 0 (zA G)) G 7 0 0 43 [] [] μ := by
  unfold fX4_goodCharacters_43 at hf
  refine za_iconst (v := (0 : Int32)) o dX4_goodCharacters_43 (by decide) ?_
  exact za_iret o rfl hf dX4_goodCharacters_44
set_option maxRecDepth 100000 in
set_option maxHeartbeats 4000000 in
theorem tX4_goodCharacters_56 {p : Program} {l : Launch} {e : Env} {s : State} {m : MethodId} {args : Array Value} {below : List Frame} {meth : Method} {c : Code} {G : zG}  {K : Int32 → zMem → Prop} (o : za_Ok (z_rm 0 0) 0 0 p s m args meth c G RX4 cX4_goodCharacters 7 (some .int))  (v1 : Int32) (μ : zMem)  (hf : fX4_goodCharacters_56  K v1 μ) : za_At p l e (z_rm 0 0) s m args below meth c (MQ below (zQi G K) args s 0 0 (zA G)) G 7 0 0 56 [(4, .int v1)] [] μ := by
  unfold fX4_goodCharacters_56 at hf
  refine za_iload o 0 dX4_goodCharacters_56 rfl ?_
  exact za_iret o rfl hf dX4_goodCharacters_58
set_option maxRecDepth 100000 in
set_option maxHeartbeats 4000000 in
theorem tX4_goodCharacters_5b {p : Program} {l : Launch} {e : Env} {s : State} {m : MethodId} {args : Array Value} {below : List Frame} {meth : Method} {c : Code} {G : zG} {k5 : Int64 → Int32 → zMem → Prop} {K : Int32 → zMem → Prop} (o : za_Ok (z_rm 0 0) 0 0 p s m args meth c G RX4 cX4_goodCharacters 7 (some .int)) (hk5 : ∀ (v1 : Int64) (v2 : Int32) (μ : zMem), k5 v1 v2 μ → za_At p l e (z_rm 0 0) s m args below meth c (MQ below (zQi G K) args s 0 0 (zA G)) G 7 0 0 5 [(2, .long v1), (4, .int v2)] [] μ) (v1 : Int64) (v2 : Int32) (μ : zMem)  (hf : fX4_goodCharacters_5b k5 K v1 v2 μ) : za_At p l e (z_rm 0 0) s m args below meth c (MQ below (zQi G K) args s 0 0 (zA G)) G 7 0 0 5 [(2, .long v1), (4, .int v2)] [] μ := by
  unfold fX4_goodCharacters_5b at hf
  refine za_lload_n o 0 dX4_goodCharacters_5 rfl rfl ?_
  refine za_lconst (v := (0 : Int64)) o dX4_goodCharacters_6 (by decide) ?_
  refine za_lcmp o dX4_goodCharacters_7 ?_
  refine za_topi (fun x1 ex1 => ?_)
  replace hf := hf x1 ex1
  refine za_if_eq o 56 dX4_goodCharacters_8 (by decide) (fun c2 => ?_) (fun c2 => ?_)
  · replace hf := hf.1 c2
    refine za_sub [1] rfl ?_
    exact tX4_goodCharacters_56 o   v2 μ  hf
  · replace hf := hf.2 c2
    refine za_iload o 1 dX4_goodCharacters_11 rfl ?_
    refine za_bipush (v := (8 : Int32)) o dX4_goodCharacters_13 (by decide) ?_
    refine za_icmp_ge o 56 dX4_goodCharacters_15 (by decide) (fun c3 => ?_) (fun c3 => ?_)
    · replace hf := hf.1 c3
      refine za_sub [1] rfl ?_
      exact tX4_goodCharacters_56 o   v2 μ  hf
    · replace hf := hf.2 c3
      refine za_lload_n o 0 dX4_goodCharacters_18 rfl rfl ?_
      refine za_ldc2 (v := (255 : Int64)) o wkX4_23 dX4_goodCharacters_19 ?_
      refine za_land o dX4_goodCharacters_22 ?_
      refine za_topl (fun x4 ex4 => ?_)
      replace hf := hf x4 ex4
      refine za_lstore o [(5, .long x4), (2, .long v1), (4, .int v2)] dX4_goodCharacters_23 (by decide) rfl ?_
      refine za_lload o 0 dX4_goodCharacters_25 rfl ?_
      refine za_ldc2 (v := (33 : Int64)) o wkX4_25 dX4_goodCharacters_27 ?_
      refine za_lcmp o dX4_goodCharacters_30 ?_
      refine za_topi (fun x5 ex5 => ?_)
      replace hf := hf x5 ex5
      refine za_if_lt o 43 dX4_goodCharacters_31 (by decide) (fun c6 => ?_) (fun c6 => ?_)
      · replace hf := hf.1 c6
        refine za_sub [] rfl ?_
        exact tX4_goodCharacters_43 o    μ  hf
      · replace hf := hf.2 c6
        refine za_lload o 0 dX4_goodCharacters_34 rfl ?_
        refine za_ldc2 (v := (126 : Int64)) o wkX4_27 dX4_goodCharacters_36 ?_
        refine za_lcmp o dX4_goodCharacters_39 ?_
        refine za_topi (fun x7 ex7 => ?_)
        replace hf := hf x7 ex7
        refine za_if_le o 45 dX4_goodCharacters_40 (by decide) (fun c8 => ?_) (fun c8 => ?_)
        · replace hf := hf.1 c8
          refine za_lload_n o 1 dX4_goodCharacters_45 rfl rfl ?_
          refine za_bipush (v := (8 : Int32)) o dX4_goodCharacters_46 (by decide) ?_
          refine za_lushr o dX4_goodCharacters_48 ?_
          refine za_topl (fun x9 ex9 => ?_)
          replace hf := hf x9 ex9
          refine za_lstore_n o [(2, .long x9), (5, .long x4), (4, .int v2)] dX4_goodCharacters_49 rfl (by decide) rfl ?_
          obtain ⟨x10, ex10⟩ : ∃ y : Int32, y = v2 + (1 : Int32) := ⟨_, rfl⟩
          replace hf := hf x10 ex10
          refine za_iinc o x10 2 [(4, .int x10), (2, .long x9), (5, .long x4)] dX4_goodCharacters_50 rfl (by rw [ex10]; rfl) (by decide) rfl ?_
          refine za_goto o 5 dX4_goodCharacters_53 (by decide) ?_
          refine za_sub [1, 0] rfl ?_
          exact hk5 x9 x10 μ  hf
        · replace hf := hf.2 c8
          refine za_sub [] rfl ?_
          exact tX4_goodCharacters_43 o    μ  hf
theorem tX4_goodCharacters_5 {p : Program} {l : Launch} {e : Env} {s : State} {m : MethodId} {args : Array Value} {below : List Frame} {meth : Method} {c : Code} {G : zG}  {K : Int32 → zMem → Prop} (o : za_Ok (z_rm 0 0) 0 0 p s m args meth c G RX4 cX4_goodCharacters 7 (some .int))  (n : Nat) : ∀ (v1 : Int64) (v2 : Int32) (μ : zMem), fX4_goodCharacters_5  K n v1 v2 μ → za_At p l e (z_rm 0 0) s m args below meth c (MQ below (zQi G K) args s 0 0 (zA G)) G 7 0 0 5 [(2, .long v1), (4, .int v2)] [] μ := by
  induction n with
  | zero => intro _ _ _ hf; exact hf.elim
  | succ n ih => intro v1 v2 μ  hf; exact tX4_goodCharacters_5b o  ih v1 v2 μ  hf
set_option maxRecDepth 100000 in
set_option maxHeartbeats 4000000 in
theorem ctX4_goodCharacters (l : Launch) (G : zG) (a1 : Int64)  (μ : zMem) (K : Int32 → zMem → Prop) (hf : fX4_goodCharacters a1 μ K) : z_Met l G yX4_goodCharacters cX4_goodCharacters 7 (some .int) (z_rm 0 0) [.long a1] μ K := by
  refine z_body (by decide) (Nat.le_of_ble_eq_true rfl) (fun p e s m args below meth c o => ?_)
  have o : za_Ok (z_rm 0 0) 0 0 p s m args meth c G RX4 cX4_goodCharacters 7 (some .int) := o
  show za_At p l e (z_rm 0 0) s m args below meth c (MQ below (zQi G K) args s 0 0 (zA G)) G 7 0 0 0 [(0, .long a1)] [] μ
  unfold fX4_goodCharacters at hf
  refine za_lload_n o 0 dX4_goodCharacters_0 rfl rfl ?_
  refine za_lstore_n o [(2, .long a1), (0, .long a1)] dX4_goodCharacters_1 rfl (by decide) rfl ?_
  refine za_iconst (v := (0 : Int32)) o dX4_goodCharacters_2 (by decide) ?_
  refine za_istore o [(4, .int (0 : Int32)), (2, .long a1), (0, .long a1)] dX4_goodCharacters_3 (by decide) rfl ?_
  refine za_sub [1, 0] rfl ?_
  exact tX4_goodCharacters_5 o   zFU a1 (0 : Int32) μ  hf
def fX4_append_39b (k39 : Int64 → Int32 → Int32 → zMem → Prop) (K : Int32 → zMem → Prop) (q : Nat) (v1 : Int64) (v2 : Int32) (v3 : Int32) (μ : zMem) : Prop :=
  ((v2 ≤ v3 → K (μ q 1) μ) ∧ (¬ v2 ≤ v3 → (∀ x2 : Int32, x2 = ((μ q 1) - (1 : Int32)) → (∀ x3 : Int32, x3 = (x2 - v3) → (∀ x4 : Int32, x4 = ((8 : Int32) * v3) → (∀ x5 : Int64, x5 = (z_ushr v1 x4) → (∀ x6 : Int64, x6 = (x5 &&& (255 : Int64)) → (∀ x7 : Int32, x7 = (x6).toInt32 → (∀ x8 : Int32, x8 = (z_i2c x7) → (vp_in x3 80 ∧ (∀ m10 : zMem, m10 = z_up μ (q + 1) x3.toNatClampNeg (vp_nar .char x8) → (∀ x11 : Int32, x11 = v3 + (1 : Int32) → k39 v1 v2 x11 m10))))))))))))
def fX4_append_39  (K : Int32 → zMem → Prop) (q : Nat) (n : Nat) : Int64 → Int32 → Int32 → zMem → Prop := z_it (fun k => fX4_append_39b  k K q ) (fun _ _ _ _ => False) n
def fX4_append (q : Nat) (a1 : Int64) (μ : zMem) (K : Int32 → zMem → Prop) : Prop :=
  fX4_goodCharacters a1 μ (fun r12 m13 => ((¬ r12 = 0 → (∀ x15 : Int32, x15 = ((m13 q 1) + r12) → ((x15 ≤ (80 : Int32) → (∀ x17 : Int32, x17 = ((m13 q 1) + r12) → (∀ m18 : zMem, m18 = z_up m13 q 1 x17 → fX4_append_39  K q zFU a1 r12 (0 : Int32) m18))) ∧ (¬ x15 ≤ (80 : Int32) → K (-4 : Int32) m13)))) ∧ (r12 = 0 → K (-2 : Int32) m13)))
set_option maxRecDepth 100000 in
set_option maxHeartbeats 4000000 in
theorem tX4_append_39b {p : Program} {l : Launch} {e : Env} {s : State} {m : MethodId} {args : Array Value} {below : List Frame} {meth : Method} {c : Code} {G : zG} {k39 : Int64 → Int32 → Int32 → zMem → Prop} {K : Int32 → zMem → Prop} (o : za_Ok (z_rm 1 26) 0 0 p s m args meth c G RX4 cX4_append 5 (some .int)) {q : Nat} (hq : z_is q 4) (hk39 : ∀ (v1 : Int64) (v2 : Int32) (v3 : Int32) (μ : zMem), k39 v1 v2 v3 μ → za_At p l e (z_rm 1 26) s m args below meth c (MQ below (zQi G K) args s 0 0 (zA G)) G 5 0 0 39 [(0, .ref (G.2.2 + q)), (1, .long v1), (3, .int v2), (4, .int v3)] [] μ) (v1 : Int64) (v2 : Int32) (v3 : Int32) (μ : zMem)  (hf : fX4_append_39b k39 K q v1 v2 v3 μ) : za_At p l e (z_rm 1 26) s m args below meth c (MQ below (zQi G K) args s 0 0 (zA G)) G 5 0 0 39 [(0, .ref (G.2.2 + q)), (1, .long v1), (3, .int v2), (4, .int v3)] [] μ := by
  unfold fX4_append_39b at hf
  refine za_iload o 3 dX4_append_39 rfl ?_
  refine za_iload_n o 2 dX4_append_41 rfl rfl ?_
  refine za_icmp_ge o 78 dX4_append_42 (by decide) (fun c1 => ?_) (fun c1 => ?_)
  · replace hf := hf.1 c1
    refine za_aload_n o 0 dX4_append_78 rfl rfl ?_
    refine za_getf o 1 zc4 hq (Nat.le_of_ble_eq_true rfl) wfX4_15 rfl dX4_append_79 ?_
    exact za_iret o rfl hf dX4_append_82
  · replace hf := hf.2 c1
    refine za_aload_n o 0 dX4_append_45 rfl rfl ?_
    refine za_getf o 0 zc4 hq (Nat.le_of_ble_eq_true rfl) wfX4_9 rfl dX4_append_46 ?_
    refine za_aload_n o 0 dX4_append_49 rfl rfl ?_
    refine za_getf o 1 zc4 hq (Nat.le_of_ble_eq_true rfl) wfX4_15 rfl dX4_append_50 ?_
    refine za_iconst (v := (1 : Int32)) o dX4_append_53 (by decide) ?_
    refine za_isub o dX4_append_54 ?_
    refine za_topi (fun x2 ex2 => ?_)
    replace hf := hf x2 ex2
    refine za_iload o 3 dX4_append_55 rfl ?_
    refine za_isub o dX4_append_57 ?_
    refine za_topi (fun x3 ex3 => ?_)
    replace hf := hf x3 ex3
    refine za_lload_n o 1 dX4_append_58 rfl rfl ?_
    refine za_bipush (v := (8 : Int32)) o dX4_append_59 (by decide) ?_
    refine za_iload o 3 dX4_append_61 rfl ?_
    refine za_imul o dX4_append_63 ?_
    refine za_topi (fun x4 ex4 => ?_)
    replace hf := hf x4 ex4
    refine za_lushr o dX4_append_64 ?_
    refine za_topl (fun x5 ex5 => ?_)
    replace hf := hf x5 ex5
    refine za_ldc2 (v := (255 : Int64)) o wkX4_23 dX4_append_65 ?_
    refine za_land o dX4_append_68 ?_
    refine za_topl (fun x6 ex6 => ?_)
    replace hf := hf x6 ex6
    refine za_l2i o dX4_append_69 ?_
    refine za_topi (fun x7 ex7 => ?_)
    replace hf := hf x7 ex7
    refine za_i2c o dX4_append_70 ?_
    refine za_topi (fun x8 ex8 => ?_)
    replace hf := hf x8 ex8
    obtain ⟨g9, hf⟩ := hf
    refine za_cast o (zk_4_16 hq) rfl g9 dX4_append_71 ?_
    refine za_mem (fun m10 em10 => ?_)
    replace hf := hf m10 em10
    obtain ⟨x11, ex11⟩ : ∃ y : Int32, y = v3 + (1 : Int32) := ⟨_, rfl⟩
    replace hf := hf x11 ex11
    refine za_iinc o x11 3 [(4, .int x11), (0, .ref (G.2.2 + q)), (1, .long v1), (3, .int v2)] dX4_append_72 rfl (by rw [ex11]; rfl) (by decide) rfl ?_
    refine za_goto o 39 dX4_append_75 (by decide) ?_
    refine za_sub [1, 2, 3, 0] rfl ?_
    exact hk39 v1 v2 x11 m10  hf
theorem tX4_append_39 {p : Program} {l : Launch} {e : Env} {s : State} {m : MethodId} {args : Array Value} {below : List Frame} {meth : Method} {c : Code} {G : zG}  {K : Int32 → zMem → Prop} (o : za_Ok (z_rm 1 26) 0 0 p s m args meth c G RX4 cX4_append 5 (some .int)) {q : Nat} (hq : z_is q 4)  (n : Nat) : ∀ (v1 : Int64) (v2 : Int32) (v3 : Int32) (μ : zMem), fX4_append_39  K q n v1 v2 v3 μ → za_At p l e (z_rm 1 26) s m args below meth c (MQ below (zQi G K) args s 0 0 (zA G)) G 5 0 0 39 [(0, .ref (G.2.2 + q)), (1, .long v1), (3, .int v2), (4, .int v3)] [] μ := by
  induction n with
  | zero => intro _ _ _ _ hf; exact hf.elim
  | succ n ih => intro v1 v2 v3 μ  hf; exact tX4_append_39b o hq  ih v1 v2 v3 μ  hf
set_option maxRecDepth 100000 in
set_option maxHeartbeats 4000000 in
theorem ctX4_append (l : Launch) (G : zG) {q : Nat} (hq : z_is q 4) (a1 : Int64)  (μ : zMem) (K : Int32 → zMem → Prop) (hf : fX4_append q a1 μ K) : z_Met l G yX4_append cX4_append 5 (some .int) (z_rm 1 26) [.ref (G.2.2 + q), .long a1] μ K := by
  refine z_body (by decide) (Nat.le_of_ble_eq_true rfl) (fun p e s m args below meth c o => ?_)
  have o : za_Ok (z_rm 1 26) 0 0 p s m args meth c G RX4 cX4_append 5 (some .int) := o
  show za_At p l e (z_rm 1 26) s m args below meth c (MQ below (zQi G K) args s 0 0 (zA G)) G 5 0 0 0 [(0, .ref (G.2.2 + q)), (1, .long a1)] [] μ
  unfold fX4_append at hf
  refine za_lload_n o 1 dX4_append_0 rfl rfl ?_
  refine za_callSi o [.long a1] (ctX4_goodCharacters l G a1  μ _ hf) mwX4_goodCharacters wmX4_19 wtX4_goodCharacters rfl ⟨Nat.le_of_ble_eq_true rfl, Nat.le_of_ble_eq_true rfl⟩ rfl (Nat.le_of_ble_eq_true rfl) dX4_append_1 (fun r12 m13 hf => ?_)
  refine za_istore_n o [(3, .int r12), (0, .ref (G.2.2 + q)), (1, .long a1)] dX4_append_4 rfl (by decide) rfl ?_
  refine za_iload_n o 0 dX4_append_5 rfl rfl ?_
  refine za_if_ne o 12 dX4_append_6 (by decide) (fun c14 => ?_) (fun c14 => ?_)
  · replace hf := hf.1 c14
    refine za_aload_n o 1 dX4_append_12 rfl rfl ?_
    refine za_getf o 1 zc4 hq (Nat.le_of_ble_eq_true rfl) wfX4_15 rfl dX4_append_13 ?_
    refine za_iload_n o 0 dX4_append_16 rfl rfl ?_
    refine za_iadd o dX4_append_17 ?_
    refine za_topi (fun x15 ex15 => ?_)
    replace hf := hf x15 ex15
    refine za_bipush (v := (80 : Int32)) o dX4_append_18 (by decide) ?_
    refine za_icmp_le o 26 dX4_append_20 (by decide) (fun c16 => ?_) (fun c16 => ?_)
    · replace hf := hf.1 c16
      refine za_aload_n o 1 dX4_append_26 rfl rfl ?_
      refine za_dup o dX4_append_27 rfl ?_
      refine za_getf o 1 zc4 hq (Nat.le_of_ble_eq_true rfl) wfX4_15 rfl dX4_append_28 ?_
      refine za_iload_n o 0 dX4_append_31 rfl rfl ?_
      refine za_iadd o dX4_append_32 ?_
      refine za_topi (fun x17 ex17 => ?_)
      replace hf := hf x17 ex17
      refine za_putf (ty := .int) o 1 zc4 hq (Nat.le_of_ble_eq_true rfl) wfX4_15 rfl (by decide +kernel) rfl rfl (Nat.le_of_ble_eq_true rfl) rfl dX4_append_33 ?_
      refine za_mem (fun m18 em18 => ?_)
      replace hf := hf m18 em18
      refine za_iconst (v := (0 : Int32)) o dX4_append_36 (by decide) ?_
      refine za_istore o [(4, .int (0 : Int32)), (3, .int r12), (0, .ref (G.2.2 + q)), (1, .long a1)] dX4_append_37 (by decide) rfl ?_
      refine za_sub [2, 3, 1, 0] rfl ?_
      exact tX4_append_39 o hq  zFU a1 r12 (0 : Int32) m18  hf
    · replace hf := hf.2 c16
      refine za_bipush (v := (-4 : Int32)) o dX4_append_23 (by decide) ?_
      exact za_iret o rfl hf dX4_append_25
  · replace hf := hf.2 c14
    refine za_bipush (v := (-2 : Int32)) o dX4_append_9 (by decide) ?_
    exact za_iret o rfl hf dX4_append_11
def fX7_put (q : Nat) (a1 : Int64) (μ : zMem) (K : Int32 → zMem → Prop) : Prop :=
  fX4_append 526 a1 μ (fun r1 m2 => K r1 m2)
set_option maxRecDepth 100000 in
set_option maxHeartbeats 4000000 in
theorem ctX7_put (l : Launch) (G : zG) {q : Nat} (hq : z_is q 7) (a1 : Int64)  (μ : zMem) (K : Int32 → zMem → Prop) (hf : fX7_put q a1 μ K) : z_Met l G yX7_put cX7_put 3 (some .int) (z_rm 2 50) [.ref (G.2.2 + q), .long a1] μ K := by
  refine z_body (by decide) (Nat.le_of_ble_eq_true rfl) (fun p e s m args below meth c o => ?_)
  have o : za_Ok (z_rm 2 50) 0 0 p s m args meth c G RX7 cX7_put 3 (some .int) := o
  show za_At p l e (z_rm 2 50) s m args below meth c (MQ below (zQi G K) args s 0 0 (zA G)) G 3 0 0 0 [(0, .ref (G.2.2 + q)), (1, .long a1)] [] μ
  unfold fX7_put at hf
  refine za_aload_n o 0 dX7_put_0 rfl rfl ?_
  refine za_getf o 3 zc7 hq (Nat.le_of_ble_eq_true rfl) wfX7_33 rfl dX7_put_1 ?_
  refine za_lload_n o 1 dX7_put_4 rfl rfl ?_
  refine za_callVi o [.long a1] (ctX4_append l G zk_c4 a1  μ _ hf) zc4 zk_c4 mwX4_append wmX7_115 wiX4_append wsX4_append rfl ⟨Nat.le_of_ble_eq_true rfl, Nat.le_of_ble_eq_true rfl⟩ rfl (Nat.le_of_ble_eq_true rfl) dX7_put_5 (fun r1 m2 hf => ?_)
  exact za_iret o rfl hf dX7_put_8
def fX4_clear (q : Nat)  (μ : zMem) (K : Int32 → zMem → Prop) : Prop :=
  (∀ m1 : zMem, m1 = z_up μ q 1 (0 : Int32) → K (μ q 1) m1)
set_option maxRecDepth 100000 in
set_option maxHeartbeats 4000000 in
theorem ctX4_clear (l : Launch) (G : zG) {q : Nat} (hq : z_is q 4)   (μ : zMem) (K : Int32 → zMem → Prop) (hf : fX4_clear q  μ K) : z_Met l G yX4_clear cX4_clear 2 (some .int) (z_rm 0 0) [.ref (G.2.2 + q)] μ K := by
  refine z_body (by decide) (Nat.le_of_ble_eq_true rfl) (fun p e s m args below meth c o => ?_)
  have o : za_Ok (z_rm 0 0) 0 0 p s m args meth c G RX4 cX4_clear 2 (some .int) := o
  show za_At p l e (z_rm 0 0) s m args below meth c (MQ below (zQi G K) args s 0 0 (zA G)) G 2 0 0 0 [(0, .ref (G.2.2 + q))] [] μ
  unfold fX4_clear at hf
  refine za_aload_n o 0 dX4_clear_0 rfl rfl ?_
  refine za_getf o 1 zc4 hq (Nat.le_of_ble_eq_true rfl) wfX4_15 rfl dX4_clear_1 ?_
  refine za_istore_n o [(1, .int (μ q 1)), (0, .ref (G.2.2 + q))] dX4_clear_4 rfl (by decide) rfl ?_
  refine za_aload_n o 1 dX4_clear_5 rfl rfl ?_
  refine za_iconst (v := (0 : Int32)) o dX4_clear_6 (by decide) ?_
  refine za_putf (ty := .int) o 1 zc4 hq (Nat.le_of_ble_eq_true rfl) wfX4_15 rfl (by decide +kernel) rfl rfl (Nat.le_of_ble_eq_true rfl) rfl dX4_clear_7 ?_
  refine za_mem (fun m1 em1 => ?_)
  replace hf := hf m1 em1
  refine za_iload_n o 0 dX4_clear_10 rfl rfl ?_
  exact za_iret o rfl hf dX4_clear_11
def fX7_wipe (q : Nat)  (μ : zMem) (K : Int32 → zMem → Prop) : Prop :=
  fX4_clear 526  μ (fun r1 m2 => K r1 m2)
set_option maxRecDepth 100000 in
set_option maxHeartbeats 4000000 in
theorem ctX7_wipe (l : Launch) (G : zG) {q : Nat} (hq : z_is q 7)   (μ : zMem) (K : Int32 → zMem → Prop) (hf : fX7_wipe q  μ K) : z_Met l G yX7_wipe cX7_wipe 1 (some .int) (z_rm 1 21) [.ref (G.2.2 + q)] μ K := by
  refine z_body (by decide) (Nat.le_of_ble_eq_true rfl) (fun p e s m args below meth c o => ?_)
  have o : za_Ok (z_rm 1 21) 0 0 p s m args meth c G RX7 cX7_wipe 1 (some .int) := o
  show za_At p l e (z_rm 1 21) s m args below meth c (MQ below (zQi G K) args s 0 0 (zA G)) G 1 0 0 0 [(0, .ref (G.2.2 + q))] [] μ
  unfold fX7_wipe at hf
  refine za_aload_n o 0 dX7_wipe_0 rfl rfl ?_
  refine za_getf o 3 zc7 hq (Nat.le_of_ble_eq_true rfl) wfX7_33 rfl dX7_wipe_1 ?_
  refine za_callVi o [] (ctX4_clear l G zk_c4   μ _ hf) zc4 zk_c4 mwX4_clear wmX7_119 wiX4_clear wsX4_clear rfl ⟨Nat.le_of_ble_eq_true rfl, Nat.le_of_ble_eq_true rfl⟩ rfl (Nat.le_of_ble_eq_true rfl) dX7_wipe_4 (fun r1 m2 hf => ?_)
  exact za_iret o rfl hf dX7_wipe_7
def fX4_at_22  (K : Int32 → zMem → Prop) (q : Nat) (v1 : Int32) (μ : zMem) : Prop :=
  K v1 μ
def fX4_at_21  (K : Int32 → zMem → Prop) (q : Nat)  (μ : zMem) : Prop :=
  fX4_at_22  K q (0 : Int32) μ
def fX4_at (q : Nat) (a1 : Int32) (μ : zMem) (K : Int32 → zMem → Prop) : Prop :=
  ((a1 < 0 → fX4_at_21  K q  μ) ∧ (¬ a1 < 0 → (((μ q 1) ≤ a1 → fX4_at_21  K q  μ) ∧ (¬ (μ q 1) ≤ a1 → (vp_in a1 80 ∧ (∀ x4 : Int32, x4 = (μ (q + 1) a1.toNatClampNeg) → fX4_at_22  K q x4 μ))))))
set_option maxRecDepth 100000 in
set_option maxHeartbeats 4000000 in
theorem tX4_at_22 {p : Program} {l : Launch} {e : Env} {s : State} {m : MethodId} {args : Array Value} {below : List Frame} {meth : Method} {c : Code} {G : zG}  {K : Int32 → zMem → Prop} (o : za_Ok (z_rm 0 0) 0 0 p s m args meth c G RX4 cX4_at 2 (some .int)) {q : Nat} (hq : z_is q 4)  (v1 : Int32) (μ : zMem)  (hf : fX4_at_22  K q v1 μ) : za_At p l e (z_rm 0 0) s m args below meth c (MQ below (zQi G K) args s 0 0 (zA G)) G 2 0 0 22 [] [.int v1] μ := by
  unfold fX4_at_22 at hf
  exact za_iret o rfl hf dX4_at_22
set_option maxRecDepth 100000 in
set_option maxHeartbeats 4000000 in
theorem tX4_at_21 {p : Program} {l : Launch} {e : Env} {s : State} {m : MethodId} {args : Array Value} {below : List Frame} {meth : Method} {c : Code} {G : zG}  {K : Int32 → zMem → Prop} (o : za_Ok (z_rm 0 0) 0 0 p s m args meth c G RX4 cX4_at 2 (some .int)) {q : Nat} (hq : z_is q 4)   (μ : zMem)  (hf : fX4_at_21  K q  μ) : za_At p l e (z_rm 0 0) s m args below meth c (MQ below (zQi G K) args s 0 0 (zA G)) G 2 0 0 21 [] [] μ := by
  unfold fX4_at_21 at hf
  refine za_iconst (v := (0 : Int32)) o dX4_at_21 (by decide) ?_
  exact tX4_at_22 o hq  (0 : Int32) μ  hf
set_option maxRecDepth 100000 in
set_option maxHeartbeats 4000000 in
theorem ctX4_at (l : Launch) (G : zG) {q : Nat} (hq : z_is q 4) (a1 : Int32)  (μ : zMem) (K : Int32 → zMem → Prop) (hf : fX4_at q a1 μ K) : z_Met l G yX4_at cX4_at 2 (some .int) (z_rm 0 0) [.ref (G.2.2 + q), .int a1] μ K := by
  refine z_body (by decide) (Nat.le_of_ble_eq_true rfl) (fun p e s m args below meth c o => ?_)
  have o : za_Ok (z_rm 0 0) 0 0 p s m args meth c G RX4 cX4_at 2 (some .int) := o
  show za_At p l e (z_rm 0 0) s m args below meth c (MQ below (zQi G K) args s 0 0 (zA G)) G 2 0 0 0 [(0, .ref (G.2.2 + q)), (1, .int a1)] [] μ
  unfold fX4_at at hf
  refine za_iload_n o 1 dX4_at_0 rfl rfl ?_
  refine za_if_lt o 21 dX4_at_1 (by decide) (fun c1 => ?_) (fun c1 => ?_)
  · replace hf := hf.1 c1
    refine za_sub [] rfl ?_
    exact tX4_at_21 o hq   μ  hf
  · replace hf := hf.2 c1
    refine za_iload_n o 1 dX4_at_4 rfl rfl ?_
    refine za_aload_n o 0 dX4_at_5 rfl rfl ?_
    refine za_getf o 1 zc4 hq (Nat.le_of_ble_eq_true rfl) wfX4_15 rfl dX4_at_6 ?_
    refine za_icmp_ge o 21 dX4_at_9 (by decide) (fun c2 => ?_) (fun c2 => ?_)
    · replace hf := hf.1 c2
      refine za_sub [] rfl ?_
      exact tX4_at_21 o hq   μ  hf
    · replace hf := hf.2 c2
      refine za_aload_n o 0 dX4_at_12 rfl rfl ?_
      refine za_getf o 0 zc4 hq (Nat.le_of_ble_eq_true rfl) wfX4_9 rfl dX4_at_13 ?_
      refine za_iload_n o 1 dX4_at_16 rfl rfl ?_
      obtain ⟨g3, hf⟩ := hf
      refine za_cald o (zk_4_16 hq) rfl g3 dX4_at_17 ?_
      refine za_topi (fun x4 ex4 => ?_)
      replace hf := hf x4 ex4
      refine za_goto o 22 dX4_at_18 (by decide) ?_
      refine za_sub [] rfl ?_
      exact tX4_at_22 o hq  x4 μ  hf
def fX3_isOrderOver_35  (K : Int32 → zMem → Prop) (q : Nat) (v1 : Int32) (μ : zMem) : Prop :=
  (z_b v1 ∧ K v1 μ)
def fX3_isOrderOver_30  (K : Int32 → zMem → Prop) (q : Nat)  (μ : zMem) : Prop :=
  fX3_isOrderOver_35  K q (1 : Int32) μ
def fX3_isOrderOver (q : Nat)  (μ : zMem) (K : Int32 → zMem → Prop) : Prop :=
  fX4_length 526  μ (fun r1 m2 => ((r1 ≤ (μ q 1) → fX3_isOrderOver_30  K q  m2) ∧ (¬ r1 ≤ (μ q 1) → fX4_at 526 (m2 q 1) m2 (fun r4 m5 => ((¬ r4 = (59 : Int32) → fX3_isOrderOver_35  K q (0 : Int32) m5) ∧ (r4 = (59 : Int32) → fX3_isOrderOver_30  K q  m5))))))
set_option maxRecDepth 100000 in
set_option maxHeartbeats 4000000 in
theorem tX3_isOrderOver_35 {p : Program} {l : Launch} {e : Env} {s : State} {m : MethodId} {args : Array Value} {below : List Frame} {meth : Method} {c : Code} {G : zG}  {K : Int32 → zMem → Prop} (o : za_Ok (z_rm 1 21) 0 0 p s m args meth c G RX3 cX3_isOrderOver 1 (some .boolean)) {q : Nat} (hq : z_is q 3)  (v1 : Int32) (μ : zMem)  (hf : fX3_isOrderOver_35  K q v1 μ) : za_At p l e (z_rm 1 21) s m args below meth c (MQ below (zQi G K) args s 0 0 (zA G)) G 1 0 0 35 [] [.int v1] μ := by
  unfold fX3_isOrderOver_35 at hf
  exact za_zret o rfl hf.1 hf.2 dX3_isOrderOver_35
set_option maxRecDepth 100000 in
set_option maxHeartbeats 4000000 in
theorem tX3_isOrderOver_30 {p : Program} {l : Launch} {e : Env} {s : State} {m : MethodId} {args : Array Value} {below : List Frame} {meth : Method} {c : Code} {G : zG}  {K : Int32 → zMem → Prop} (o : za_Ok (z_rm 1 21) 0 0 p s m args meth c G RX3 cX3_isOrderOver 1 (some .boolean)) {q : Nat} (hq : z_is q 3)   (μ : zMem)  (hf : fX3_isOrderOver_30  K q  μ) : za_At p l e (z_rm 1 21) s m args below meth c (MQ below (zQi G K) args s 0 0 (zA G)) G 1 0 0 30 [] [] μ := by
  unfold fX3_isOrderOver_30 at hf
  refine za_iconst (v := (1 : Int32)) o dX3_isOrderOver_30 (by decide) ?_
  refine za_goto o 35 dX3_isOrderOver_31 (by decide) ?_
  exact tX3_isOrderOver_35 o hq  (1 : Int32) μ  hf
set_option maxRecDepth 100000 in
set_option maxHeartbeats 4000000 in
theorem ctX3_isOrderOver (l : Launch) (G : zG) {q : Nat} (hq : z_is q 3)   (μ : zMem) (K : Int32 → zMem → Prop) (hf : fX3_isOrderOver q  μ K) : z_Met l G yX3_isOrderOver cX3_isOrderOver 1 (some .boolean) (z_rm 1 21) [.ref (G.2.2 + q)] μ K := by
  refine z_body (by decide) (Nat.le_of_ble_eq_true rfl) (fun p e s m args below meth c o => ?_)
  have o : za_Ok (z_rm 1 21) 0 0 p s m args meth c G RX3 cX3_isOrderOver 1 (some .boolean) := o
  show za_At p l e (z_rm 1 21) s m args below meth c (MQ below (zQi G K) args s 0 0 (zA G)) G 1 0 0 0 [(0, .ref (G.2.2 + q))] [] μ
  unfold fX3_isOrderOver at hf
  refine za_aload_n o 0 dX3_isOrderOver_0 rfl rfl ?_
  refine za_getf o 1 zc3 hq (Nat.le_of_ble_eq_true rfl) wfX3_15 rfl dX3_isOrderOver_1 ?_
  refine za_aload_n o 0 dX3_isOrderOver_4 rfl rfl ?_
  refine za_getf o 0 zc3 hq (Nat.le_of_ble_eq_true rfl) wfX3_9 rfl dX3_isOrderOver_5 ?_
  refine za_callVi o [] (ctX4_length l G zk_c4   μ _ hf) zc4 zk_c4 mwX4_length wmX3_26 wiX4_length wsX4_length rfl ⟨Nat.le_of_ble_eq_true rfl, Nat.le_of_ble_eq_true rfl⟩ rfl (Nat.le_of_ble_eq_true rfl) dX3_isOrderOver_8 (fun r1 m2 hf => ?_)
  refine za_icmp_ge o 30 dX3_isOrderOver_11 (by decide) (fun c3 => ?_) (fun c3 => ?_)
  · replace hf := hf.1 c3
    refine za_sub [] rfl ?_
    exact tX3_isOrderOver_30 o hq   m2  hf
  · replace hf := hf.2 c3
    refine za_aload_n o 0 dX3_isOrderOver_14 rfl rfl ?_
    refine za_getf o 0 zc3 hq (Nat.le_of_ble_eq_true rfl) wfX3_9 rfl dX3_isOrderOver_15 ?_
    refine za_aload_n o 0 dX3_isOrderOver_18 rfl rfl ?_
    refine za_getf o 1 zc3 hq (Nat.le_of_ble_eq_true rfl) wfX3_15 rfl dX3_isOrderOver_19 ?_
    refine za_callVi o [.int (m2 q 1)] (ctX4_at l G zk_c4 (m2 q 1)  m2 _ hf) zc4 zk_c4 mwX4_at wmX3_36 wiX4_at wsX4_at rfl ⟨Nat.le_of_ble_eq_true rfl, Nat.le_of_ble_eq_true rfl⟩ rfl (Nat.le_of_ble_eq_true rfl) dX3_isOrderOver_22 (fun r4 m5 hf => ?_)
    refine za_bipush (v := (59 : Int32)) o dX3_isOrderOver_25 (by decide) ?_
    refine za_icmp_ne o 34 dX3_isOrderOver_27 (by decide) (fun c6 => ?_) (fun c6 => ?_)
    · replace hf := hf.1 c6
      refine za_iconst (v := (0 : Int32)) o dX3_isOrderOver_34 (by decide) ?_
      refine za_sub [] rfl ?_
      exact tX3_isOrderOver_35 o hq  (0 : Int32) m5  hf
    · replace hf := hf.2 c6
      refine za_sub [] rfl ?_
      exact tX3_isOrderOver_30 o hq   m5  hf
