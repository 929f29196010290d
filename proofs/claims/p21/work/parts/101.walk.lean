/-! X0_priceOf X0_isAhead X5_hasOrder X0_reasonAgainst X5_pay X0_takeOrder X7_order X0_cancelOrder X7_callOff X5_timesOrdered X5_doubt X0_platesToCook X1_fill X0_cookToday X7_cook X1_give X1_left X5_comeWithOrder -/
def fX0_priceOf (q : Nat) (a1 : Int32) (a2 : Int32) (μ : zMem) (K : Int32 → zMem → Prop) : Prop :=
  (vp_in a1 3 ∧ (∀ q2 : Nat, q2 = (q + 3) + 43 + 2 * a1.toNatClampNeg → (∀ x3 : Int32, x3 = ((μ q 4) + a2) → (∀ x4 : Int32, x4 = (x3 - x3 / (5 : Int32) * (5 : Int32)) → (vp_in x4 5 ∧ (∀ x6 : Int32, x6 = (μ (q2 + 1) x4.toNatClampNeg) → K x6 μ))))))
set_option maxRecDepth 100000 in
set_option maxHeartbeats 4000000 in
theorem ctX0_priceOf (l : Launch) (G : zG) {q : Nat} (hq : z_is q 0) (a1 : Int32) (a2 : Int32)  (μ : zMem) (K : Int32 → zMem → Prop) (hf : fX0_priceOf q a1 a2 μ K) : z_Met l G yX0_priceOf cX0_priceOf 3 (some .int) (z_rm 0 0) [.ref (G.2.2 + q), .int a1, .int a2] μ K := by
  refine z_body (by decide) (Nat.le_of_ble_eq_true rfl) (fun p e s m args below meth c o => ?_)
  have o : za_Ok (z_rm 0 0) 0 0 p s m args meth c G RX0 cX0_priceOf 3 (some .int) := o
  show za_At p l e (z_rm 0 0) s m args below meth c (MQ below (zQi G K) args s 0 0 (zA G)) G 3 0 0 0 [(0, .ref (G.2.2 + q)), (1, .int a1), (2, .int a2)] [] μ
  unfold fX0_priceOf at hf
  refine za_aload_n o 0 dX0_priceOf_0 rfl rfl ?_
  refine za_getf o 2 zc0 hq (Nat.le_of_ble_eq_true rfl) wfX0_23 rfl dX0_priceOf_1 ?_
  refine za_iload_n o 1 dX0_priceOf_4 rfl rfl ?_
  obtain ⟨g1, hf⟩ := hf
  refine za_aald o (zk_0_11 hq) rfl rfl rfl g1 dX0_priceOf_5 ?_
  refine za_topr (fun q2 eq2 => ?_)
  replace hf := hf q2 eq2
  have hq2 : z_is q2 1 := by rw [eq2]; exact zk_a11 (zk_0_11 hq) (z_lt g1)
  refine za_getfN o 0 "CanteenPlates" zc1 hq2 (Nat.le_of_ble_eq_true rfl) wnX0_53 rfl dX0_priceOf_6 ?_
  refine za_aload_n o 0 dX0_priceOf_9 rfl rfl ?_
  refine za_getf o 4 zc0 hq (Nat.le_of_ble_eq_true rfl) wfX0_46 rfl dX0_priceOf_10 ?_
  refine za_iload_n o 2 dX0_priceOf_13 rfl rfl ?_
  refine za_iadd o dX0_priceOf_14 ?_
  refine za_topi (fun x3 ex3 => ?_)
  replace hf := hf x3 ex3
  refine za_iconst (v := (5 : Int32)) o dX0_priceOf_15 (by decide) ?_
  refine za_irem o dX0_priceOf_16 (by decide) ?_
  refine za_topi (fun x4 ex4 => ?_)
  replace hf := hf x4 ex4
  obtain ⟨g5, hf⟩ := hf
  refine za_iald o (zk_1_12 hq2) rfl g5 dX0_priceOf_17 ?_
  refine za_topi (fun x6 ex6 => ?_)
  replace hf := hf x6 ex6
  exact za_iret o rfl hf dX0_priceOf_18
def fX0_isAhead_14  (K : Int32 → zMem → Prop) (q : Nat) (v1 : Int32) (μ : zMem) : Prop :=
  (z_b v1 ∧ K v1 μ)
def fX0_isAhead_13  (K : Int32 → zMem → Prop) (q : Nat)  (μ : zMem) : Prop :=
  fX0_isAhead_14  K q (0 : Int32) μ
def fX0_isAhead (q : Nat) (a1 : Int32) (μ : zMem) (K : Int32 → zMem → Prop) : Prop :=
  ((a1 < 0 → fX0_isAhead_13  K q  μ) ∧ (¬ a1 < 0 → (((5 : Int32) ≤ a1 → fX0_isAhead_13  K q  μ) ∧ (¬ (5 : Int32) ≤ a1 → fX0_isAhead_14  K q (1 : Int32) μ))))
set_option maxRecDepth 100000 in
set_option maxHeartbeats 4000000 in
theorem tX0_isAhead_14 {p : Program} {l : Launch} {e : Env} {s : State} {m : MethodId} {args : Array Value} {below : List Frame} {meth : Method} {c : Code} {G : zG}  {K : Int32 → zMem → Prop} (o : za_Ok (z_rm 0 0) 0 0 p s m args meth c G RX0 cX0_isAhead 2 (some .boolean)) {q : Nat} (hq : z_is q 0)  (v1 : Int32) (μ : zMem)  (hf : fX0_isAhead_14  K q v1 μ) : za_At p l e (z_rm 0 0) s m args below meth c (MQ below (zQi G K) args s 0 0 (zA G)) G 2 0 0 14 [] [.int v1] μ := by
  unfold fX0_isAhead_14 at hf
  exact za_zret o rfl hf.1 hf.2 dX0_isAhead_14
set_option maxRecDepth 100000 in
set_option maxHeartbeats 4000000 in
theorem tX0_isAhead_13 {p : Program} {l : Launch} {e : Env} {s : State} {m : MethodId} {args : Array Value} {below : List Frame} {meth : Method} {c : Code} {G : zG}  {K : Int32 → zMem → Prop} (o : za_Ok (z_rm 0 0) 0 0 p s m args meth c G RX0 cX0_isAhead 2 (some .boolean)) {q : Nat} (hq : z_is q 0)   (μ : zMem)  (hf : fX0_isAhead_13  K q  μ) : za_At p l e (z_rm 0 0) s m args below meth c (MQ below (zQi G K) args s 0 0 (zA G)) G 2 0 0 13 [] [] μ := by
  unfold fX0_isAhead_13 at hf
  refine za_iconst (v := (0 : Int32)) o dX0_isAhead_13 (by decide) ?_
  exact tX0_isAhead_14 o hq  (0 : Int32) μ  hf
set_option maxRecDepth 100000 in
set_option maxHeartbeats 4000000 in
theorem ctX0_isAhead (l : Launch) (G : zG) {q : Nat} (hq : z_is q 0) (a1 : Int32)  (μ : zMem) (K : Int32 → zMem → Prop) (hf : fX0_isAhead q a1 μ K) : z_Met l G yX0_isAhead cX0_isAhead 2 (some .boolean) (z_rm 0 0) [.ref (G.2.2 + q), .int a1] μ K := by
  refine z_body (by decide) (Nat.le_of_ble_eq_true rfl) (fun p e s m args below meth c o => ?_)
  have o : za_Ok (z_rm 0 0) 0 0 p s m args meth c G RX0 cX0_isAhead 2 (some .boolean) := o
  show za_At p l e (z_rm 0 0) s m args below meth c (MQ below (zQi G K) args s 0 0 (zA G)) G 2 0 0 0 [(0, .ref (G.2.2 + q)), (1, .int a1)] [] μ
  unfold fX0_isAhead at hf
  refine za_iload_n o 1 dX0_isAhead_0 rfl rfl ?_
  refine za_if_lt o 13 dX0_isAhead_1 (by decide) (fun c1 => ?_) (fun c1 => ?_)
  · replace hf := hf.1 c1
    refine za_sub [] rfl ?_
    exact tX0_isAhead_13 o hq   μ  hf
  · replace hf := hf.2 c1
    refine za_iload_n o 1 dX0_isAhead_4 rfl rfl ?_
    refine za_iconst (v := (5 : Int32)) o dX0_isAhead_5 (by decide) ?_
    refine za_icmp_ge o 13 dX0_isAhead_6 (by decide) (fun c2 => ?_) (fun c2 => ?_)
    · replace hf := hf.1 c2
      refine za_sub [] rfl ?_
      exact tX0_isAhead_13 o hq   μ  hf
    · replace hf := hf.2 c2
      refine za_iconst (v := (1 : Int32)) o dX0_isAhead_9 (by decide) ?_
      refine za_goto o 14 dX0_isAhead_10 (by decide) ?_
      refine za_sub [] rfl ?_
      exact tX0_isAhead_14 o hq  (1 : Int32) μ  hf
def fX5_hasOrder_16  (K : Int32 → zMem → Prop) (q : Nat) (v1 : Int32) (μ : zMem) : Prop :=
  (z_b v1 ∧ K v1 μ)
def fX5_hasOrder (q : Nat) (a1 : Int32) (μ : zMem) (K : Int32 → zMem → Prop) : Prop :=
  (vp_in a1 5 ∧ (∀ x2 : Int32, x2 = (μ (q + 1) a1.toNatClampNeg) → ((x2 = (-6 : Int32) → fX5_hasOrder_16  K q (0 : Int32) μ) ∧ (¬ x2 = (-6 : Int32) → fX5_hasOrder_16  K q (1 : Int32) μ))))
set_option maxRecDepth 100000 in
set_option maxHeartbeats 4000000 in
theorem tX5_hasOrder_16 {p : Program} {l : Launch} {e : Env} {s : State} {m : MethodId} {args : Array Value} {below : List Frame} {meth : Method} {c : Code} {G : zG}  {K : Int32 → zMem → Prop} (o : za_Ok (z_rm 0 0) 0 0 p s m args meth c G RX5 cX5_hasOrder 2 (some .boolean)) {q : Nat} (hq : z_is q 5)  (v1 : Int32) (μ : zMem)  (hf : fX5_hasOrder_16  K q v1 μ) : za_At p l e (z_rm 0 0) s m args below meth c (MQ below (zQi G K) args s 0 0 (zA G)) G 2 0 0 16 [] [.int v1] μ := by
  unfold fX5_hasOrder_16 at hf
  exact za_zret o rfl hf.1 hf.2 dX5_hasOrder_16
set_option maxRecDepth 100000 in
set_option maxHeartbeats 4000000 in
theorem ctX5_hasOrder (l : Launch) (G : zG) {q : Nat} (hq : z_is q 5) (a1 : Int32)  (μ : zMem) (K : Int32 → zMem → Prop) (hf : fX5_hasOrder q a1 μ K) : z_Met l G yX5_hasOrder cX5_hasOrder 2 (some .boolean) (z_rm 0 0) [.ref (G.2.2 + q), .int a1] μ K := by
  refine z_body (by decide) (Nat.le_of_ble_eq_true rfl) (fun p e s m args below meth c o => ?_)
  have o : za_Ok (z_rm 0 0) 0 0 p s m args meth c G RX5 cX5_hasOrder 2 (some .boolean) := o
  show za_At p l e (z_rm 0 0) s m args below meth c (MQ below (zQi G K) args s 0 0 (zA G)) G 2 0 0 0 [(0, .ref (G.2.2 + q)), (1, .int a1)] [] μ
  unfold fX5_hasOrder at hf
  refine za_aload_n o 0 dX5_hasOrder_0 rfl rfl ?_
  refine za_getf o 0 zc5 hq (Nat.le_of_ble_eq_true rfl) wfX5_9 rfl dX5_hasOrder_1 ?_
  refine za_iload_n o 1 dX5_hasOrder_4 rfl rfl ?_
  obtain ⟨g1, hf⟩ := hf
  refine za_iald o (zk_5_12 hq) rfl g1 dX5_hasOrder_5 ?_
  refine za_topi (fun x2 ex2 => ?_)
  replace hf := hf x2 ex2
  refine za_bipush (v := (-6 : Int32)) o dX5_hasOrder_6 (by decide) ?_
  refine za_icmp_eq o 15 dX5_hasOrder_8 (by decide) (fun c3 => ?_) (fun c3 => ?_)
  · replace hf := hf.1 c3
    refine za_iconst (v := (0 : Int32)) o dX5_hasOrder_15 (by decide) ?_
    refine za_sub [] rfl ?_
    exact tX5_hasOrder_16 o hq  (0 : Int32) μ  hf
  · replace hf := hf.2 c3
    refine za_iconst (v := (1 : Int32)) o dX5_hasOrder_11 (by decide) ?_
    refine za_goto o 16 dX5_hasOrder_12 (by decide) ?_
    refine za_sub [] rfl ?_
    exact tX5_hasOrder_16 o hq  (1 : Int32) μ  hf
def fX0_reasonAgainst_16  (K : Int32 → zMem → Prop) (q : Nat)  (μ : zMem) : Prop :=
  K (-1 : Int32) μ
def fX0_reasonAgainst_100  (K : Int32 → zMem → Prop) (q : Nat) (v1 : Int32) (μ : zMem) : Prop :=
  K v1 μ
def fX0_reasonAgainst_42  (K : Int32 → zMem → Prop) (q : Nat) (v1 : Int32) (v2 : Int32) (v3 : Int32) (μ : zMem) : Prop :=
  (∀ x1 : Int32, x1 = ((μ q 4) + v2) → (vp_in v1 14 ∧ (∀ q3 : Nat, q3 = (q + 2) + 2 + 3 * v1.toNatClampNeg → (((μ q3 4) ≤ x1 → (vp_in v1 14 ∧ (∀ q6 : Nat, q6 = (q + 2) + 2 + 3 * v1.toNatClampNeg → fX5_hasOrder q6 v2 μ (fun r7 m8 => ((r7 = 0 → (vp_in v1 14 ∧ (∀ q11 : Nat, q11 = (q + 2) + 2 + 3 * v1.toNatClampNeg → fX0_priceOf q v3 v2 m8 (fun r12 m13 => ((r12 ≤ (m8 q11 2) → fX0_reasonAgainst_100  K q (0 : Int32) m13) ∧ (¬ r12 ≤ (m8 q11 2) → fX0_reasonAgainst_100  K q (4 : Int32) m13)))))) ∧ (¬ r7 = 0 → K (3 : Int32) m8)))))) ∧ (¬ (μ q3 4) ≤ x1 → K (2 : Int32) μ)))))
def fX0_reasonAgainst (q : Nat) (a1 : Int32) (a2 : Int32) (a3 : Int32) (μ : zMem) (K : Int32 → zMem → Prop) : Prop :=
  fX0_hasPerson q a1 μ (fun r15 m16 => ((r15 = 0 → fX0_reasonAgainst_16  K q  m16) ∧ (¬ r15 = 0 → fX0_hasDish q a3 m16 (fun r18 m19 => ((¬ r18 = 0 → fX0_isAhead q a2 m19 (fun r21 m22 => ((¬ r21 = 0 → ((¬ a2 = 0 → fX0_reasonAgainst_42  K q a1 a2 a3 m22) ∧ (a2 = 0 → (((m22 q 5) = 0 → fX0_reasonAgainst_42  K q a1 a2 a3 m22) ∧ (¬ (m22 q 5) = 0 → K (1 : Int32) m22))))) ∧ (r21 = 0 → K (-2 : Int32) m22)))) ∧ (r18 = 0 → fX0_reasonAgainst_16  K q  m19))))))
set_option maxRecDepth 100000 in
set_option maxHeartbeats 4000000 in
theorem tX0_reasonAgainst_16 {p : Program} {l : Launch} {e : Env} {s : State} {m : MethodId} {args : Array Value} {below : List Frame} {meth : Method} {c : Code} {G : zG}  {K : Int32 → zMem → Prop} (o : za_Ok (z_rm 1 22) 0 0 p s m args meth c G RX0 cX0_reasonAgainst 4 (some .int)) {q : Nat} (hq : z_is q 0)   (μ : zMem)  (hf : fX0_reasonAgainst_16  K q  μ) : za_At p l e (z_rm 1 22) s m args below meth c (MQ below (zQi G K) args s 0 0 (zA G)) G 4 0 0 16 [] [] μ := by
  unfold fX0_reasonAgainst_16 at hf
  refine za_iconst (v := (-1 : Int32)) o dX0_reasonAgainst_16 (by decide) ?_
  exact za_iret o rfl hf dX0_reasonAgainst_17
set_option maxRecDepth 100000 in
set_option maxHeartbeats 4000000 in
theorem tX0_reasonAgainst_100 {p : Program} {l : Launch} {e : Env} {s : State} {m : MethodId} {args : Array Value} {below : List Frame} {meth : Method} {c : Code} {G : zG}  {K : Int32 → zMem → Prop} (o : za_Ok (z_rm 1 22) 0 0 p s m args meth c G RX0 cX0_reasonAgainst 4 (some .int)) {q : Nat} (hq : z_is q 0)  (v1 : Int32) (μ : zMem)  (hf : fX0_reasonAgainst_100  K q v1 μ) : za_At p l e (z_rm 1 22) s m args below meth c (MQ below (zQi G K) args s 0 0 (zA G)) G 4 0 0 100 [] [.int v1] μ := by
  unfold fX0_reasonAgainst_100 at hf
  exact za_iret o rfl hf dX0_reasonAgainst_100
set_option maxRecDepth 100000 in
set_option maxHeartbeats 4000000 in
theorem tX0_reasonAgainst_42 {p : Program} {l : Launch} {e : Env} {s : State} {m : MethodId} {args : Array Value} {below : List Frame} {meth : Method} {c : Code} {G : zG}  {K : Int32 → zMem → Prop} (o : za_Ok (z_rm 1 22) 0 0 p s m args meth c G RX0 cX0_reasonAgainst 4 (some .int)) {q : Nat} (hq : z_is q 0)  (v1 : Int32) (v2 : Int32) (v3 : Int32) (μ : zMem)  (hf : fX0_reasonAgainst_42  K q v1 v2 v3 μ) : za_At p l e (z_rm 1 22) s m args below meth c (MQ below (zQi G K) args s 0 0 (zA G)) G 4 0 0 42 [(0, .ref (G.2.2 + q)), (1, .int v1), (2, .int v2), (3, .int v3)] [] μ := by
  unfold fX0_reasonAgainst_42 at hf
  refine za_aload_n o 0 dX0_reasonAgainst_42 rfl rfl ?_
  refine za_getf o 4 zc0 hq (Nat.le_of_ble_eq_true rfl) wfX0_46 rfl dX0_reasonAgainst_43 ?_
  refine za_iload_n o 2 dX0_reasonAgainst_46 rfl rfl ?_
  refine za_iadd o dX0_reasonAgainst_47 ?_
  refine za_topi (fun x1 ex1 => ?_)
  replace hf := hf x1 ex1
  refine za_aload_n o 0 dX0_reasonAgainst_48 rfl rfl ?_
  refine za_getf o 1 zc0 hq (Nat.le_of_ble_eq_true rfl) wfX0_17 rfl dX0_reasonAgainst_49 ?_
  refine za_iload_n o 1 dX0_reasonAgainst_52 rfl rfl ?_
  obtain ⟨g2, hf⟩ := hf
  refine za_aald o (zk_0_10 hq) rfl rfl rfl g2 dX0_reasonAgainst_53 ?_
  refine za_topr (fun q3 eq3 => ?_)
  replace hf := hf q3 eq3
  have hq3 : z_is q3 5 := by rw [eq3]; exact zk_a10 (zk_0_10 hq) (z_lt g2)
  refine za_getfN o 4 "CanteenPlates" zc5 hq3 (Nat.le_of_ble_eq_true rfl) wnX0_184 rfl dX0_reasonAgainst_54 ?_
  refine za_icmp_ge o 62 dX0_reasonAgainst_57 (by decide) (fun c4 => ?_) (fun c4 => ?_)
  · replace hf := hf.1 c4
    refine za_aload_n o 0 dX0_reasonAgainst_62 rfl rfl ?_
    refine za_getf o 1 zc0 hq (Nat.le_of_ble_eq_true rfl) wfX0_17 rfl dX0_reasonAgainst_63 ?_
    refine za_iload_n o 1 dX0_reasonAgainst_66 rfl rfl ?_
    obtain ⟨g5, hf⟩ := hf
    refine za_aald o (zk_0_10 hq) rfl rfl rfl g5 dX0_reasonAgainst_67 ?_
    refine za_topr (fun q6 eq6 => ?_)
    replace hf := hf q6 eq6
    have hq6 : z_is q6 5 := by rw [eq6]; exact zk_a10 (zk_0_10 hq) (z_lt g5)
    refine za_iload_n o 2 dX0_reasonAgainst_68 rfl rfl ?_
    refine za_callVi o [.int v2] (ctX5_hasOrder l G hq6 v2  μ _ hf) zc5 hq6 mwX5_hasOrder wmX0_90 wiX5_hasOrder wsX5_hasOrder rfl ⟨Nat.le_of_ble_eq_true rfl, Nat.le_of_ble_eq_true rfl⟩ rfl (Nat.le_of_ble_eq_true rfl) dX0_reasonAgainst_69 (fun r7 m8 hf => ?_)
    refine za_if_eq o 77 dX0_reasonAgainst_72 (by decide) (fun c9 => ?_) (fun c9 => ?_)
    · replace hf := hf.1 c9
      refine za_aload_n o 0 dX0_reasonAgainst_77 rfl rfl ?_
      refine za_getf o 1 zc0 hq (Nat.le_of_ble_eq_true rfl) wfX0_17 rfl dX0_reasonAgainst_78 ?_
      refine za_iload_n o 1 dX0_reasonAgainst_81 rfl rfl ?_
      obtain ⟨g10, hf⟩ := hf
      refine za_aald o (zk_0_10 hq) rfl rfl rfl g10 dX0_reasonAgainst_82 ?_
      refine za_topr (fun q11 eq11 => ?_)
      replace hf := hf q11 eq11
      have hq11 : z_is q11 5 := by rw [eq11]; exact zk_a10 (zk_0_10 hq) (z_lt g10)
      refine za_getfN o 2 "CanteenPlates" zc5 hq11 (Nat.le_of_ble_eq_true rfl) wnX0_132 rfl dX0_reasonAgainst_83 ?_
      refine za_aload_n o 0 dX0_reasonAgainst_86 rfl rfl ?_
      refine za_iload_n o 3 dX0_reasonAgainst_87 rfl rfl ?_
      refine za_iload_n o 2 dX0_reasonAgainst_88 rfl rfl ?_
      refine za_callVi o [.int v3, .int v2] (ctX0_priceOf l G hq v3 v2  m8 _ hf) zc0 hq mwX0_priceOf wmX0_80 wiX0_priceOf wsX0_priceOf rfl ⟨Nat.le_of_ble_eq_true rfl, Nat.le_of_ble_eq_true rfl⟩ rfl (Nat.le_of_ble_eq_true rfl) dX0_reasonAgainst_89 (fun r12 m13 hf => ?_)
      refine za_icmp_ge o 99 dX0_reasonAgainst_92 (by decide) (fun c14 => ?_) (fun c14 => ?_)
      · replace hf := hf.1 c14
        refine za_iconst (v := (0 : Int32)) o dX0_reasonAgainst_99 (by decide) ?_
        refine za_sub [] rfl ?_
        exact tX0_reasonAgainst_100 o hq  (0 : Int32) m13  hf
      · replace hf := hf.2 c14
        refine za_iconst (v := (4 : Int32)) o dX0_reasonAgainst_95 (by decide) ?_
        refine za_goto o 100 dX0_reasonAgainst_96 (by decide) ?_
        refine za_sub [] rfl ?_
        exact tX0_reasonAgainst_100 o hq  (4 : Int32) m13  hf
    · replace hf := hf.2 c9
      refine za_iconst (v := (3 : Int32)) o dX0_reasonAgainst_75 (by decide) ?_
      exact za_iret o rfl hf dX0_reasonAgainst_76
  · replace hf := hf.2 c4
    refine za_iconst (v := (2 : Int32)) o dX0_reasonAgainst_60 (by decide) ?_
    exact za_iret o rfl hf dX0_reasonAgainst_61
set_option maxRecDepth 100000 in
set_option maxHeartbeats 4000000 in
theorem ctX0_reasonAgainst (l : Launch) (G : zG) {q : Nat} (hq : z_is q 0) (a1 : Int32) (a2 : Int32) (a3 : Int32)  (μ : zMem) (K : Int32 → zMem → Prop) (hf : fX0_reasonAgainst q a1 a2 a3 μ K) : z_Met l G yX0_reasonAgainst cX0_reasonAgainst 4 (some .int) (z_rm 1 22) [.ref (G.2.2 + q), .int a1, .int a2, .int a3] μ K := by
  refine z_body (by decide) (Nat.le_of_ble_eq_true rfl) (fun p e s m args below meth c o => ?_)
  have o : za_Ok (z_rm 1 22) 0 0 p s m args meth c G RX0 cX0_reasonAgainst 4 (some .int) := o
  show za_At p l e (z_rm 1 22) s m args below meth c (MQ below (zQi G K) args s 0 0 (zA G)) G 4 0 0 0 [(0, .ref (G.2.2 + q)), (1, .int a1), (2, .int a2), (3, .int a3)] [] μ
  unfold fX0_reasonAgainst at hf
  refine za_aload_n o 0 dX0_reasonAgainst_0 rfl rfl ?_
  refine za_iload_n o 1 dX0_reasonAgainst_1 rfl rfl ?_
  refine za_callVi o [.int a1] (ctX0_hasPerson l G hq a1  μ _ hf) zc0 hq mwX0_hasPerson wmX0_69 wiX0_hasPerson wsX0_hasPerson rfl ⟨Nat.le_of_ble_eq_true rfl, Nat.le_of_ble_eq_true rfl⟩ rfl (Nat.le_of_ble_eq_true rfl) dX0_reasonAgainst_2 (fun r15 m16 hf => ?_)
  refine za_if_eq o 16 dX0_reasonAgainst_5 (by decide) (fun c17 => ?_) (fun c17 => ?_)
  · replace hf := hf.1 c17
    refine za_sub [] rfl ?_
    exact tX0_reasonAgainst_16 o hq   m16  hf
  · replace hf := hf.2 c17
    refine za_aload_n o 0 dX0_reasonAgainst_8 rfl rfl ?_
    refine za_iload_n o 3 dX0_reasonAgainst_9 rfl rfl ?_
    refine za_callVi o [.int a3] (ctX0_hasDish l G hq a3  m16 _ hf) zc0 hq mwX0_hasDish wmX0_62 wiX0_hasDish wsX0_hasDish rfl ⟨Nat.le_of_ble_eq_true rfl, Nat.le_of_ble_eq_true rfl⟩ rfl (Nat.le_of_ble_eq_true rfl) dX0_reasonAgainst_10 (fun r18 m19 hf => ?_)
    refine za_if_ne o 18 dX0_reasonAgainst_13 (by decide) (fun c20 => ?_) (fun c20 => ?_)
    · replace hf := hf.1 c20
      refine za_aload_n o 0 dX0_reasonAgainst_18 rfl rfl ?_
      refine za_iload_n o 2 dX0_reasonAgainst_19 rfl rfl ?_
      refine za_callVi o [.int a2] (ctX0_isAhead l G hq a2  m19 _ hf) zc0 hq mwX0_isAhead wmX0_87 wiX0_isAhead wsX0_isAhead rfl ⟨Nat.le_of_ble_eq_true rfl, Nat.le_of_ble_eq_true rfl⟩ rfl (Nat.le_of_ble_eq_true rfl) dX0_reasonAgainst_20 (fun r21 m22 hf => ?_)
      refine za_if_ne o 29 dX0_reasonAgainst_23 (by decide) (fun c23 => ?_) (fun c23 => ?_)
      · replace hf := hf.1 c23
        refine za_iload_n o 2 dX0_reasonAgainst_29 rfl rfl ?_
        refine za_if_ne o 42 dX0_reasonAgainst_30 (by decide) (fun c24 => ?_) (fun c24 => ?_)
        · replace hf := hf.1 c24
          exact tX0_reasonAgainst_42 o hq  a1 a2 a3 m22  hf
        · replace hf := hf.2 c24
          refine za_aload_n o 0 dX0_reasonAgainst_33 rfl rfl ?_
          refine za_getf o 5 zc0 hq (Nat.le_of_ble_eq_true rfl) wfX0_49 rfl dX0_reasonAgainst_34 ?_
          refine za_if_eq o 42 dX0_reasonAgainst_37 (by decide) (fun c25 => ?_) (fun c25 => ?_)
          · replace hf := hf.1 c25
            exact tX0_reasonAgainst_42 o hq  a1 a2 a3 m22  hf
          · replace hf := hf.2 c25
            refine za_iconst (v := (1 : Int32)) o dX0_reasonAgainst_40 (by decide) ?_
            exact za_iret o rfl hf dX0_reasonAgainst_41
      · replace hf := hf.2 c23
        refine za_bipush (v := (-2 : Int32)) o dX0_reasonAgainst_26 (by decide) ?_
        exact za_iret o rfl hf dX0_reasonAgainst_28
    · replace hf := hf.2 c20
      refine za_sub [] rfl ?_
      exact tX0_reasonAgainst_16 o hq   m19  hf
def fX5_pay (q : Nat) (a1 : Int32) (a2 : Int32) (a3 : Int32) (μ : zMem) (K : Int32 → zMem → Prop) : Prop :=
  (vp_in a1 5 ∧ (∀ m2 : zMem, m2 = z_up μ (q + 1) a1.toNatClampNeg a2 → (vp_in a1 5 ∧ (∀ m4 : zMem, m4 = z_up m2 (q + 2) a1.toNatClampNeg a3 → (∀ x5 : Int32, x5 = ((m4 q 2) - a3) → (∀ m6 : zMem, m6 = z_up m4 q 2 x5 → K (m6 q 2) m6))))))
set_option maxRecDepth 100000 in
set_option maxHeartbeats 4000000 in
theorem ctX5_pay (l : Launch) (G : zG) {q : Nat} (hq : z_is q 5) (a1 : Int32) (a2 : Int32) (a3 : Int32)  (μ : zMem) (K : Int32 → zMem → Prop) (hf : fX5_pay q a1 a2 a3 μ K) : z_Met l G yX5_pay cX5_pay 4 (some .int) (z_rm 0 0) [.ref (G.2.2 + q), .int a1, .int a2, .int a3] μ K := by
  refine z_body (by decide) (Nat.le_of_ble_eq_true rfl) (fun p e s m args below meth c o => ?_)
  have o : za_Ok (z_rm 0 0) 0 0 p s m args meth c G RX5 cX5_pay 4 (some .int) := o
  show za_At p l e (z_rm 0 0) s m args below meth c (MQ below (zQi G K) args s 0 0 (zA G)) G 4 0 0 0 [(0, .ref (G.2.2 + q)), (1, .int a1), (2, .int a2), (3, .int a3)] [] μ
  unfold fX5_pay at hf
  refine za_aload_n o 0 dX5_pay_0 rfl rfl ?_
  refine za_getf o 0 zc5 hq (Nat.le_of_ble_eq_true rfl) wfX5_9 rfl dX5_pay_1 ?_
  refine za_iload_n o 1 dX5_pay_4 rfl rfl ?_
  refine za_iload_n o 2 dX5_pay_5 rfl rfl ?_
  obtain ⟨g1, hf⟩ := hf
  refine za_iast o (zk_5_12 hq) rfl g1 dX5_pay_6 ?_
  refine za_mem (fun m2 em2 => ?_)
  replace hf := hf m2 em2
  refine za_aload_n o 0 dX5_pay_7 rfl rfl ?_
  refine za_getf o 1 zc5 hq (Nat.le_of_ble_eq_true rfl) wfX5_15 rfl dX5_pay_8 ?_
  refine za_iload_n o 1 dX5_pay_11 rfl rfl ?_
  refine za_iload_n o 3 dX5_pay_12 rfl rfl ?_
  obtain ⟨g3, hf⟩ := hf
  refine za_iast o (zk_5_12b hq) rfl g3 dX5_pay_13 ?_
  refine za_mem (fun m4 em4 => ?_)
  replace hf := hf m4 em4
  refine za_aload_n o 0 dX5_pay_14 rfl rfl ?_
  refine za_dup o dX5_pay_15 rfl ?_
  refine za_getf o 2 zc5 hq (Nat.le_of_ble_eq_true rfl) wfX5_18 rfl dX5_pay_16 ?_
  refine za_iload_n o 3 dX5_pay_19 rfl rfl ?_
  refine za_isub o dX5_pay_20 ?_
  refine za_topi (fun x5 ex5 => ?_)
  replace hf := hf x5 ex5
  refine za_putf (ty := .int) o 2 zc5 hq (Nat.le_of_ble_eq_true rfl) wfX5_18 rfl (by decide +kernel) rfl rfl (Nat.le_of_ble_eq_true rfl) rfl dX5_pay_21 ?_
  refine za_mem (fun m6 em6 => ?_)
  replace hf := hf m6 em6
  refine za_aload_n o 0 dX5_pay_24 rfl rfl ?_
  refine za_getf o 2 zc5 hq (Nat.le_of_ble_eq_true rfl) wfX5_18 rfl dX5_pay_25 ?_
  exact za_iret o rfl hf dX5_pay_28
def fX0_takeOrder (q : Nat) (a1 : Int32) (a2 : Int32) (a3 : Int32) (μ : zMem) (K : Int32 → zMem → Prop) : Prop :=
  fX0_reasonAgainst q a1 a2 a3 μ (fun r1 m2 => ((0 ≤ r1 → ((r1 ≤ 0 → (vp_in a1 14 ∧ (∀ q6 : Nat, q6 = (q + 2) + 2 + 3 * a1.toNatClampNeg → fX0_priceOf q a3 a2 m2 (fun r7 m8 => fX5_pay q6 a2 a3 r7 m8 (fun r9 m10 => K r9 m10))))) ∧ (¬ r1 ≤ 0 → K (-5 : Int32) m2))) ∧ (¬ 0 ≤ r1 → K r1 m2)))
set_option maxRecDepth 100000 in
set_option maxHeartbeats 4000000 in
theorem ctX0_takeOrder (l : Launch) (G : zG) {q : Nat} (hq : z_is q 0) (a1 : Int32) (a2 : Int32) (a3 : Int32)  (μ : zMem) (K : Int32 → zMem → Prop) (hf : fX0_takeOrder q a1 a2 a3 μ K) : z_Met l G yX0_takeOrder cX0_takeOrder 5 (some .int) (z_rm 2 45) [.ref (G.2.2 + q), .int a1, .int a2, .int a3] μ K := by
  refine z_body (by decide) (Nat.le_of_ble_eq_true rfl) (fun p e s m args below meth c o => ?_)
  have o : za_Ok (z_rm 2 45) 0 0 p s m args meth c G RX0 cX0_takeOrder 5 (some .int) := o
  show za_At p l e (z_rm 2 45) s m args below meth c (MQ below (zQi G K) args s 0 0 (zA G)) G 5 0 0 0 [(0, .ref (G.2.2 + q)), (1, .int a1), (2, .int a2), (3, .int a3)] [] μ
  unfold fX0_takeOrder at hf
  refine za_aload_n o 0 dX0_takeOrder_0 rfl rfl ?_
  refine za_iload_n o 1 dX0_takeOrder_1 rfl rfl ?_
  refine za_iload_n o 2 dX0_takeOrder_2 rfl rfl ?_
  refine za_iload_n o 3 dX0_takeOrder_3 rfl rfl ?_
  refine za_callVi o [.int a1, .int a2, .int a3] (ctX0_reasonAgainst l G hq a1 a2 a3  μ _ hf) zc0 hq mwX0_reasonAgainst wmX0_76 wiX0_reasonAgainst wsX0_reasonAgainst rfl ⟨Nat.le_of_ble_eq_true rfl, Nat.le_of_ble_eq_true rfl⟩ rfl (Nat.le_of_ble_eq_true rfl) dX0_takeOrder_4 (fun r1 m2 hf => ?_)
  refine za_istore o [(4, .int r1), (0, .ref (G.2.2 + q)), (1, .int a1), (2, .int a2), (3, .int a3)] dX0_takeOrder_7 (by decide) rfl ?_
  refine za_iload o 0 dX0_takeOrder_9 rfl ?_
  refine za_if_ge o 17 dX0_takeOrder_11 (by decide) (fun c3 => ?_) (fun c3 => ?_)
  · replace hf := hf.1 c3
    refine za_iload o 0 dX0_takeOrder_17 rfl ?_
    refine za_if_le o 25 dX0_takeOrder_19 (by decide) (fun c4 => ?_) (fun c4 => ?_)
    · replace hf := hf.1 c4
      refine za_aload_n o 1 dX0_takeOrder_25 rfl rfl ?_
      refine za_getf o 1 zc0 hq (Nat.le_of_ble_eq_true rfl) wfX0_17 rfl dX0_takeOrder_26 ?_
      refine za_iload_n o 2 dX0_takeOrder_29 rfl rfl ?_
      obtain ⟨g5, hf⟩ := hf
      refine za_aald o (zk_0_10 hq) rfl rfl rfl g5 dX0_takeOrder_30 ?_
      refine za_topr (fun q6 eq6 => ?_)
      replace hf := hf q6 eq6
      have hq6 : z_is q6 5 := by rw [eq6]; exact zk_a10 (zk_0_10 hq) (z_lt g5)
      refine za_iload_n o 3 dX0_takeOrder_31 rfl rfl ?_
      refine za_iload_n o 4 dX0_takeOrder_32 rfl rfl ?_
      refine za_aload_n o 1 dX0_takeOrder_33 rfl rfl ?_
      refine za_iload_n o 4 dX0_takeOrder_34 rfl rfl ?_
      refine za_iload_n o 3 dX0_takeOrder_35 rfl rfl ?_
      refine za_callVi o [.int a3, .int a2] (ctX0_priceOf l G hq a3 a2  m2 _ hf) zc0 hq mwX0_priceOf wmX0_80 wiX0_priceOf wsX0_priceOf rfl ⟨Nat.le_of_ble_eq_true rfl, Nat.le_of_ble_eq_true rfl⟩ rfl (Nat.le_of_ble_eq_true rfl) dX0_takeOrder_36 (fun r7 m8 hf => ?_)
      refine za_callVi o [.int a2, .int a3, .int r7] (ctX5_pay l G hq6 a2 a3 r7  m8 _ hf) zc5 hq6 mwX5_pay wmX0_84 wiX5_pay wsX5_pay rfl ⟨Nat.le_of_ble_eq_true rfl, Nat.le_of_ble_eq_true rfl⟩ rfl (Nat.le_of_ble_eq_true rfl) dX0_takeOrder_39 (fun r9 m10 hf => ?_)
      exact za_iret o rfl hf dX0_takeOrder_42
    · replace hf := hf.2 c4
      refine za_bipush (v := (-5 : Int32)) o dX0_takeOrder_22 (by decide) ?_
      exact za_iret o rfl hf dX0_takeOrder_24
  · replace hf := hf.2 c3
    refine za_iload o 0 dX0_takeOrder_14 rfl ?_
    exact za_iret o rfl hf dX0_takeOrder_16
def fX7_order (q : Nat) (a1 : Int32) (a2 : Int32) (a3 : Int32) (μ : zMem) (K : Int32 → zMem → Prop) : Prop :=
  fX2_note 53 1 μ (fun m2 => fX0_takeOrder 1 a1 a2 a3 m2 (fun r3 m4 => fX2_keep 53 r3 m4 (fun r5 m6 => K r5 m6)))
set_option maxRecDepth 100000 in
set_option maxHeartbeats 4000000 in
theorem ctX7_order (l : Launch) (G : zG) {q : Nat} (hq : z_is q 7) (a1 : Int32) (a2 : Int32) (a3 : Int32)  (μ : zMem) (K : Int32 → zMem → Prop) (hf : fX7_order q a1 a2 a3 μ K) : z_Met l G yX7_order cX7_order 4 (some .int) (z_rm 4 99) [.ref (G.2.2 + q), .int a1, .int a2, .int a3] μ K := by
  refine z_body (by decide) (Nat.le_of_ble_eq_true rfl) (fun p e s m args below meth c o => ?_)
  have o : za_Ok (z_rm 4 99) 0 0 p s m args meth c G RX7 cX7_order 4 (some .int) := o
  show za_At p l e (z_rm 4 99) s m args below meth c (MQ below (zQi G K) args s 0 0 (zA G)) G 4 0 0 0 [(0, .ref (G.2.2 + q)), (1, .int a1), (2, .int a2), (3, .int a3)] [] μ
  unfold fX7_order at hf
  refine za_aload_n o 0 dX7_order_0 rfl rfl ?_
  refine za_getf o 1 zc7 hq (Nat.le_of_ble_eq_true rfl) wfX7_19 rfl dX7_order_1 ?_
  refine za_aload_n o 0 dX7_order_4 rfl rfl ?_
  refine za_getf o 0 zc7 hq (Nat.le_of_ble_eq_true rfl) wfX7_10 rfl dX7_order_5 ?_
  refine za_callVv o [.ref (G.2.2 + 1)] (ctX2_note l G zk_c2 1 zk_c0 μ _ hf) zc2 zk_c2 mwX2_note wmX7_46 wiX2_note wsX2_note rfl ⟨Nat.le_of_ble_eq_true rfl, Nat.le_of_ble_eq_true rfl⟩ rfl (Nat.le_of_ble_eq_true rfl) dX7_order_8 (fun m2 hf => ?_)
  refine za_aload_n o 0 dX7_order_11 rfl rfl ?_
  refine za_getf o 1 zc7 hq (Nat.le_of_ble_eq_true rfl) wfX7_19 rfl dX7_order_12 ?_
  refine za_aload_n o 0 dX7_order_15 rfl rfl ?_
  refine za_getf o 0 zc7 hq (Nat.le_of_ble_eq_true rfl) wfX7_10 rfl dX7_order_16 ?_
  refine za_iload_n o 1 dX7_order_19 rfl rfl ?_
  refine za_iload_n o 2 dX7_order_20 rfl rfl ?_
  refine za_iload_n o 3 dX7_order_21 rfl rfl ?_
  refine za_callVi o [.int a1, .int a2, .int a3] (ctX0_takeOrder l G zk_c0 a1 a2 a3  m2 _ hf) zc0 zk_c0 mwX0_takeOrder wmX7_69 wiX0_takeOrder wsX0_takeOrder rfl ⟨Nat.le_of_ble_eq_true rfl, Nat.le_of_ble_eq_true rfl⟩ rfl (Nat.le_of_ble_eq_true rfl) dX7_order_22 (fun r3 m4 hf => ?_)
  refine za_callVi o [.int r3] (ctX2_keep l G zk_c2 r3  m4 _ hf) zc2 zk_c2 mwX2_keep wmX7_54 wiX2_keep wsX2_keep rfl ⟨Nat.le_of_ble_eq_true rfl, Nat.le_of_ble_eq_true rfl⟩ rfl (Nat.le_of_ble_eq_true rfl) dX7_order_25 (fun r5 m6 hf => ?_)
  exact za_iret o rfl hf dX7_order_28
def fX0_cancelOrder_23  (K : Int32 → zMem → Prop) (q : Nat)  (μ : zMem) : Prop :=
  K (-2 : Int32) μ
def fX0_cancelOrder (q : Nat) (a1 : Int32) (a2 : Int32) (μ : zMem) (K : Int32 → zMem → Prop) : Prop :=
  fX0_hasPerson q a1 μ (fun r1 m2 => ((¬ r1 = 0 → ((a2 < (1 : Int32) → fX0_cancelOrder_23  K q  m2) ∧ (¬ a2 < (1 : Int32) → fX0_isAhead q a2 m2 (fun r5 m6 => ((¬ r5 = 0 → (vp_in a1 14 ∧ (∀ q9 : Nat, q9 = (q + 2) + 2 + 3 * a1.toNatClampNeg → fX5_hasOrder q9 a2 m6 (fun r10 m11 => ((¬ r10 = 0 → (vp_in a1 14 ∧ (∀ q14 : Nat, q14 = (q + 2) + 2 + 3 * a1.toNatClampNeg → (vp_in a2 5 ∧ (∀ m16 : zMem, m16 = z_up m11 (q14 + 1) a2.toNatClampNeg (-6 : Int32) → (vp_in a1 14 ∧ (∀ q18 : Nat, q18 = (q + 2) + 2 + 3 * a1.toNatClampNeg → (vp_in a1 14 ∧ (∀ q20 : Nat, q20 = (q + 2) + 2 + 3 * a1.toNatClampNeg → (vp_in a2 5 ∧ (∀ x22 : Int32, x22 = (m16 (q20 + 2) a2.toNatClampNeg) → fX5_receive q18 x22 m16 (fun r23 m24 => K r23 m24)))))))))))) ∧ (r10 = 0 → K (-5 : Int32) m11)))))) ∧ (r5 = 0 → fX0_cancelOrder_23  K q  m6)))))) ∧ (r1 = 0 → K (-1 : Int32) m2)))
set_option maxRecDepth 100000 in
set_option maxHeartbeats 4000000 in
theorem tX0_cancelOrder_23 {p : Program} {l : Launch} {e : Env} {s : State} {m : MethodId} {args : Array Value} {below : List Frame} {meth : Method} {c : Code} {G : zG}  {K : Int32 → zMem → Prop} (o : za_Ok (z_rm 2 42) 0 0 p s m args meth c G RX0 cX0_cancelOrder 3 (some .int)) {q : Nat} (hq : z_is q 0)   (μ : zMem)  (hf : fX0_cancelOrder_23  K q  μ) : za_At p l e (z_rm 2 42) s m args below meth c (MQ below (zQi G K) args s 0 0 (zA G)) G 3 0 0 23 [] [] μ := by
  unfold fX0_cancelOrder_23 at hf
  refine za_bipush (v := (-2 : Int32)) o dX0_cancelOrder_23 (by decide) ?_
  exact za_iret o rfl hf dX0_cancelOrder_25
set_option maxRecDepth 100000 in
set_option maxHeartbeats 4000000 in
theorem ctX0_cancelOrder (l : Launch) (G : zG) {q : Nat} (hq : z_is q 0) (a1 : Int32) (a2 : Int32)  (μ : zMem) (K : Int32 → zMem → Prop) (hf : fX0_cancelOrder q a1 a2 μ K) : z_Met l G yX0_cancelOrder cX0_cancelOrder 3 (some .int) (z_rm 2 42) [.ref (G.2.2 + q), .int a1, .int a2] μ K := by
  refine z_body (by decide) (Nat.le_of_ble_eq_true rfl) (fun p e s m args below meth c o => ?_)
  have o : za_Ok (z_rm 2 42) 0 0 p s m args meth c G RX0 cX0_cancelOrder 3 (some .int) := o
  show za_At p l e (z_rm 2 42) s m args below meth c (MQ below (zQi G K) args s 0 0 (zA G)) G 3 0 0 0 [(0, .ref (G.2.2 + q)), (1, .int a1), (2, .int a2)] [] μ
  unfold fX0_cancelOrder at hf
  refine za_aload_n o 0 dX0_cancelOrder_0 rfl rfl ?_
  refine za_iload_n o 1 dX0_cancelOrder_1 rfl rfl ?_
  refine za_callVi o [.int a1] (ctX0_hasPerson l G hq a1  μ _ hf) zc0 hq mwX0_hasPerson wmX0_69 wiX0_hasPerson wsX0_hasPerson rfl ⟨Nat.le_of_ble_eq_true rfl, Nat.le_of_ble_eq_true rfl⟩ rfl (Nat.le_of_ble_eq_true rfl) dX0_cancelOrder_2 (fun r1 m2 hf => ?_)
  refine za_if_ne o 10 dX0_cancelOrder_5 (by decide) (fun c3 => ?_) (fun c3 => ?_)
  · replace hf := hf.1 c3
    refine za_iload_n o 2 dX0_cancelOrder_10 rfl rfl ?_
    refine za_iconst (v := (1 : Int32)) o dX0_cancelOrder_11 (by decide) ?_
    refine za_icmp_lt o 23 dX0_cancelOrder_12 (by decide) (fun c4 => ?_) (fun c4 => ?_)
    · replace hf := hf.1 c4
      refine za_sub [] rfl ?_
      exact tX0_cancelOrder_23 o hq   m2  hf
    · replace hf := hf.2 c4
      refine za_aload_n o 0 dX0_cancelOrder_15 rfl rfl ?_
      refine za_iload_n o 2 dX0_cancelOrder_16 rfl rfl ?_
      refine za_callVi o [.int a2] (ctX0_isAhead l G hq a2  m2 _ hf) zc0 hq mwX0_isAhead wmX0_87 wiX0_isAhead wsX0_isAhead rfl ⟨Nat.le_of_ble_eq_true rfl, Nat.le_of_ble_eq_true rfl⟩ rfl (Nat.le_of_ble_eq_true rfl) dX0_cancelOrder_17 (fun r5 m6 hf => ?_)
      refine za_if_ne o 26 dX0_cancelOrder_20 (by decide) (fun c7 => ?_) (fun c7 => ?_)
      · replace hf := hf.1 c7
        refine za_aload_n o 0 dX0_cancelOrder_26 rfl rfl ?_
        refine za_getf o 1 zc0 hq (Nat.le_of_ble_eq_true rfl) wfX0_17 rfl dX0_cancelOrder_27 ?_
        refine za_iload_n o 1 dX0_cancelOrder_30 rfl rfl ?_
        obtain ⟨g8, hf⟩ := hf
        refine za_aald o (zk_0_10 hq) rfl rfl rfl g8 dX0_cancelOrder_31 ?_
        refine za_topr (fun q9 eq9 => ?_)
        replace hf := hf q9 eq9
        have hq9 : z_is q9 5 := by rw [eq9]; exact zk_a10 (zk_0_10 hq) (z_lt g8)
        refine za_iload_n o 2 dX0_cancelOrder_32 rfl rfl ?_
        refine za_callVi o [.int a2] (ctX5_hasOrder l G hq9 a2  m6 _ hf) zc5 hq9 mwX5_hasOrder wmX0_90 wiX5_hasOrder wsX5_hasOrder rfl ⟨Nat.le_of_ble_eq_true rfl, Nat.le_of_ble_eq_true rfl⟩ rfl (Nat.le_of_ble_eq_true rfl) dX0_cancelOrder_33 (fun r10 m11 hf => ?_)
        refine za_if_ne o 42 dX0_cancelOrder_36 (by decide) (fun c12 => ?_) (fun c12 => ?_)
        · replace hf := hf.1 c12
          refine za_aload_n o 0 dX0_cancelOrder_42 rfl rfl ?_
          refine za_getf o 1 zc0 hq (Nat.le_of_ble_eq_true rfl) wfX0_17 rfl dX0_cancelOrder_43 ?_
          refine za_iload_n o 1 dX0_cancelOrder_46 rfl rfl ?_
          obtain ⟨g13, hf⟩ := hf
          refine za_aald o (zk_0_10 hq) rfl rfl rfl g13 dX0_cancelOrder_47 ?_
          refine za_topr (fun q14 eq14 => ?_)
          replace hf := hf q14 eq14
          have hq14 : z_is q14 5 := by rw [eq14]; exact zk_a10 (zk_0_10 hq) (z_lt g13)
          refine za_getfN o 0 "CanteenPlates" zc5 hq14 (Nat.le_of_ble_eq_true rfl) wnX0_93 rfl dX0_cancelOrder_48 ?_
          refine za_iload_n o 2 dX0_cancelOrder_51 rfl rfl ?_
          refine za_bipush (v := (-6 : Int32)) o dX0_cancelOrder_52 (by decide) ?_
          obtain ⟨g15, hf⟩ := hf
          refine za_iast o (zk_5_12 hq14) rfl g15 dX0_cancelOrder_54 ?_
          refine za_mem (fun m16 em16 => ?_)
          replace hf := hf m16 em16
          refine za_aload_n o 0 dX0_cancelOrder_55 rfl rfl ?_
          refine za_getf o 1 zc0 hq (Nat.le_of_ble_eq_true rfl) wfX0_17 rfl dX0_cancelOrder_56 ?_
          refine za_iload_n o 1 dX0_cancelOrder_59 rfl rfl ?_
          obtain ⟨g17, hf⟩ := hf
          refine za_aald o (zk_0_10 hq) rfl rfl rfl g17 dX0_cancelOrder_60 ?_
          refine za_topr (fun q18 eq18 => ?_)
          replace hf := hf q18 eq18
          have hq18 : z_is q18 5 := by rw [eq18]; exact zk_a10 (zk_0_10 hq) (z_lt g17)
          refine za_aload_n o 0 dX0_cancelOrder_61 rfl rfl ?_
          refine za_getf o 1 zc0 hq (Nat.le_of_ble_eq_true rfl) wfX0_17 rfl dX0_cancelOrder_62 ?_
          refine za_iload_n o 1 dX0_cancelOrder_65 rfl rfl ?_
          obtain ⟨g19, hf⟩ := hf
          refine za_aald o (zk_0_10 hq) rfl rfl rfl g19 dX0_cancelOrder_66 ?_
          refine za_topr (fun q20 eq20 => ?_)
          replace hf := hf q20 eq20
          have hq20 : z_is q20 5 := by rw [eq20]; exact zk_a10 (zk_0_10 hq) (z_lt g19)
          refine za_getfN o 1 "CanteenPlates" zc5 hq20 (Nat.le_of_ble_eq_true rfl) wnX0_95 rfl dX0_cancelOrder_67 ?_
          refine za_iload_n o 2 dX0_cancelOrder_70 rfl rfl ?_
          obtain ⟨g21, hf⟩ := hf
          refine za_iald o (zk_5_12b hq20) rfl g21 dX0_cancelOrder_71 ?_
          refine za_topi (fun x22 ex22 => ?_)
          replace hf := hf x22 ex22
          refine za_callVi o [.int x22] (ctX5_receive l G hq18 x22  m16 _ hf) zc5 hq18 mwX5_receive wmX0_72 wiX5_receive wsX5_receive rfl ⟨Nat.le_of_ble_eq_true rfl, Nat.le_of_ble_eq_true rfl⟩ rfl (Nat.le_of_ble_eq_true rfl) dX0_cancelOrder_72 (fun r23 m24 hf => ?_)
          exact za_iret o rfl hf dX0_cancelOrder_75
        · replace hf := hf.2 c12
          refine za_bipush (v := (-5 : Int32)) o dX0_cancelOrder_39 (by decide) ?_
          exact za_iret o rfl hf dX0_cancelOrder_41
      · replace hf := hf.2 c7
        refine za_sub [] rfl ?_
        exact tX0_cancelOrder_23 o hq   m6  hf
  · replace hf := hf.2 c3
    refine za_iconst (v := (-1 : Int32)) o dX0_cancelOrder_8 (by decide) ?_
    exact za_iret o rfl hf dX0_cancelOrder_9
def fX7_callOff (q : Nat) (a1 : Int32) (a2 : Int32) (μ : zMem) (K : Int32 → zMem → Prop) : Prop :=
  fX2_note 53 1 μ (fun m2 => fX0_cancelOrder 1 a1 a2 m2 (fun r3 m4 => fX2_keep 53 r3 m4 (fun r5 m6 => K r5 m6)))
set_option maxRecDepth 100000 in
set_option maxHeartbeats 4000000 in
theorem ctX7_callOff (l : Launch) (G : zG) {q : Nat} (hq : z_is q 7) (a1 : Int32) (a2 : Int32)  (μ : zMem) (K : Int32 → zMem → Prop) (hf : fX7_callOff q a1 a2 μ K) : z_Met l G yX7_callOff cX7_callOff 3 (some .int) (z_rm 4 99) [.ref (G.2.2 + q), .int a1, .int a2] μ K := by
  refine z_body (by decide) (Nat.le_of_ble_eq_true rfl) (fun p e s m args below meth c o => ?_)
  have o : za_Ok (z_rm 4 99) 0 0 p s m args meth c G RX7 cX7_callOff 3 (some .int) := o
  show za_At p l e (z_rm 4 99) s m args below meth c (MQ below (zQi G K) args s 0 0 (zA G)) G 3 0 0 0 [(0, .ref (G.2.2 + q)), (1, .int a1), (2, .int a2)] [] μ
  unfold fX7_callOff at hf
  refine za_aload_n o 0 dX7_callOff_0 rfl rfl ?_
  refine za_getf o 1 zc7 hq (Nat.le_of_ble_eq_true rfl) wfX7_19 rfl dX7_callOff_1 ?_
  refine za_aload_n o 0 dX7_callOff_4 rfl rfl ?_
  refine za_getf o 0 zc7 hq (Nat.le_of_ble_eq_true rfl) wfX7_10 rfl dX7_callOff_5 ?_
  refine za_callVv o [.ref (G.2.2 + 1)] (ctX2_note l G zk_c2 1 zk_c0 μ _ hf) zc2 zk_c2 mwX2_note wmX7_46 wiX2_note wsX2_note rfl ⟨Nat.le_of_ble_eq_true rfl, Nat.le_of_ble_eq_true rfl⟩ rfl (Nat.le_of_ble_eq_true rfl) dX7_callOff_8 (fun m2 hf => ?_)
  refine za_aload_n o 0 dX7_callOff_11 rfl rfl ?_
  refine za_getf o 1 zc7 hq (Nat.le_of_ble_eq_true rfl) wfX7_19 rfl dX7_callOff_12 ?_
  refine za_aload_n o 0 dX7_callOff_15 rfl rfl ?_
  refine za_getf o 0 zc7 hq (Nat.le_of_ble_eq_true rfl) wfX7_10 rfl dX7_callOff_16 ?_
  refine za_iload_n o 1 dX7_callOff_19 rfl rfl ?_
  refine za_iload_n o 2 dX7_callOff_20 rfl rfl ?_
  refine za_callVi o [.int a1, .int a2] (ctX0_cancelOrder l G zk_c0 a1 a2  m2 _ hf) zc0 zk_c0 mwX0_cancelOrder wmX7_72 wiX0_cancelOrder wsX0_cancelOrder rfl ⟨Nat.le_of_ble_eq_true rfl, Nat.le_of_ble_eq_true rfl⟩ rfl (Nat.le_of_ble_eq_true rfl) dX7_callOff_21 (fun r3 m4 hf => ?_)
  refine za_callVi o [.int r3] (ctX2_keep l G zk_c2 r3  m4 _ hf) zc2 zk_c2 mwX2_keep wmX7_54 wiX2_keep wsX2_keep rfl ⟨Nat.le_of_ble_eq_true rfl, Nat.le_of_ble_eq_true rfl⟩ rfl (Nat.le_of_ble_eq_true rfl) dX7_callOff_24 (fun r5 m6 hf => ?_)
  exact za_iret o rfl hf dX7_callOff_27
def fX5_timesOrdered (q : Nat)  (μ : zMem) (K : Int32 → zMem → Prop) : Prop :=
  (∀ x1 : Int32, x1 = ((μ q 5) + (μ q 6)) → K x1 μ)
set_option maxRecDepth 100000 in
set_option maxHeartbeats 4000000 in
theorem ctX5_timesOrdered (l : Launch) (G : zG) {q : Nat} (hq : z_is q 5)   (μ : zMem) (K : Int32 → zMem → Prop) (hf : fX5_timesOrdered q  μ K) : z_Met l G yX5_timesOrdered cX5_timesOrdered 1 (some .int) (z_rm 0 0) [.ref (G.2.2 + q)] μ K := by
  refine z_body (by decide) (Nat.le_of_ble_eq_true rfl) (fun p e s m args below meth c o => ?_)
  have o : za_Ok (z_rm 0 0) 0 0 p s m args meth c G RX5 cX5_timesOrdered 1 (some .int) := o
  show za_At p l e (z_rm 0 0) s m args below meth c (MQ below (zQi G K) args s 0 0 (zA G)) G 1 0 0 0 [(0, .ref (G.2.2 + q))] [] μ
  unfold fX5_timesOrdered at hf
  refine za_aload_n o 0 dX5_timesOrdered_0 rfl rfl ?_
  refine za_getf o 5 zc5 hq (Nat.le_of_ble_eq_true rfl) wfX5_28 rfl dX5_timesOrdered_1 ?_
  refine za_aload_n o 0 dX5_timesOrdered_4 rfl rfl ?_
  refine za_getf o 6 zc5 hq (Nat.le_of_ble_eq_true rfl) wfX5_31 rfl dX5_timesOrdered_5 ?_
  refine za_iadd o dX5_timesOrdered_8 ?_
  refine za_topi (fun x1 ex1 => ?_)
  replace hf := hf x1 ex1
  exact za_iret o rfl hf dX5_timesOrdered_9
def fX5_doubt_22  (K : Int32 → zMem → Prop) (q : Nat) (v1 : Int32) (μ : zMem) : Prop :=
  K v1 μ
def fX5_doubt (q : Nat)  (μ : zMem) (K : Int32 → zMem → Prop) : Prop :=
  fX5_timesOrdered q  μ (fun r1 m2 => ((¬ r1 = 0 → (∀ x4 : Int32, x4 = ((100 : Int32) * (m2 q 6)) → ((¬ r1 = 0) ∧ (∀ x6 : Int32, x6 = (x4 / r1) → fX5_doubt_22  K q x6 m2)))) ∧ (r1 = 0 → fX5_doubt_22  K q (0 : Int32) m2)))
set_option maxRecDepth 100000 in
set_option maxHeartbeats 4000000 in
theorem tX5_doubt_22 {p : Program} {l : Launch} {e : Env} {s : State} {m : MethodId} {args : Array Value} {below : List Frame} {meth : Method} {c : Code} {G : zG}  {K : Int32 → zMem → Prop} (o : za_Ok (z_rm 1 20) 0 0 p s m args meth c G RX5 cX5_doubt 2 (some .int)) {q : Nat} (hq : z_is q 5)  (v1 : Int32) (μ : zMem)  (hf : fX5_doubt_22  K q v1 μ) : za_At p l e (z_rm 1 20) s m args below meth c (MQ below (zQi G K) args s 0 0 (zA G)) G 2 0 0 22 [] [.int v1] μ := by
  unfold fX5_doubt_22 at hf
  exact za_iret o rfl hf dX5_doubt_22
set_option maxRecDepth 100000 in
set_option maxHeartbeats 4000000 in
theorem ctX5_doubt (l : Launch) (G : zG) {q : Nat} (hq : z_is q 5)   (μ : zMem) (K : Int32 → zMem → Prop) (hf : fX5_doubt q  μ K) : z_Met l G yX5_doubt cX5_doubt 2 (some .int) (z_rm 1 20) [.ref (G.2.2 + q)] μ K := by
  refine z_body (by decide) (Nat.le_of_ble_eq_true rfl) (fun p e s m args below meth c o => ?_)
  have o : za_Ok (z_rm 1 20) 0 0 p s m args meth c G RX5 cX5_doubt 2 (some .int) := o
  show za_At p l e (z_rm 1 20) s m args below meth c (MQ below (zQi G K) args s 0 0 (zA G)) G 2 0 0 0 [(0, .ref (G.2.2 + q))] [] μ
  unfold fX5_doubt at hf
  refine za_aload_n o 0 dX5_doubt_0 rfl rfl ?_
  refine za_callVi o [] (ctX5_timesOrdered l G hq   μ _ hf) zc5 hq mwX5_timesOrdered wmX5_60 wiX5_timesOrdered wsX5_timesOrdered rfl ⟨Nat.le_of_ble_eq_true rfl, Nat.le_of_ble_eq_true rfl⟩ rfl (Nat.le_of_ble_eq_true rfl) dX5_doubt_1 (fun r1 m2 hf => ?_)
  refine za_istore_n o [(1, .int r1), (0, .ref (G.2.2 + q))] dX5_doubt_4 rfl (by decide) rfl ?_
  refine za_iload_n o 0 dX5_doubt_5 rfl rfl ?_
  refine za_if_ne o 13 dX5_doubt_6 (by decide) (fun c3 => ?_) (fun c3 => ?_)
  · replace hf := hf.1 c3
    refine za_bipush (v := (100 : Int32)) o dX5_doubt_13 (by decide) ?_
    refine za_aload_n o 1 dX5_doubt_15 rfl rfl ?_
    refine za_getf o 6 zc5 hq (Nat.le_of_ble_eq_true rfl) wfX5_31 rfl dX5_doubt_16 ?_
    refine za_imul o dX5_doubt_19 ?_
    refine za_topi (fun x4 ex4 => ?_)
    replace hf := hf x4 ex4
    refine za_iload_n o 0 dX5_doubt_20 rfl rfl ?_
    obtain ⟨g5, hf⟩ := hf
    refine za_idiv o dX5_doubt_21 g5 ?_
    refine za_topi (fun x6 ex6 => ?_)
    replace hf := hf x6 ex6
    refine za_sub [] rfl ?_
    exact tX5_doubt_22 o hq  x6 m2  hf
  · replace hf := hf.2 c3
    refine za_iconst (v := (0 : Int32)) o dX5_doubt_9 (by decide) ?_
    refine za_goto o 22 dX5_doubt_10 (by decide) ?_
    refine za_sub [] rfl ?_
    exact tX5_doubt_22 o hq  (0 : Int32) m2  hf
def fX0_platesToCook_42 (k4 : Int32 → Int32 → Int32 → zMem → Prop) (K : Int32 → zMem → Prop) (q : Nat) (v1 : Int32) (v2 : Int32) (v3 : Int32) (μ : zMem) : Prop :=
  (∀ x1 : Int32, x1 = v3 + (1 : Int32) → k4 v1 v2 x1 μ)
def fX0_platesToCook_4b (k4 : Int32 → Int32 → Int32 → zMem → Prop) (K : Int32 → zMem → Prop) (q : Nat) (v1 : Int32) (v2 : Int32) (v3 : Int32) (μ : zMem) : Prop :=
  (((μ q 3) ≤ v3 → (∀ x3 : Int32, x3 = (v2 + (99 : Int32)) → (∀ x4 : Int32, x4 = (x3 / (100 : Int32)) → (∀ x5 : Int32, x5 = (μ (q + 1) 0) → (∀ x6 : Int32, x6 = (x4 + x5) → (vp_in v1 3 ∧ (∀ q8 : Nat, q8 = (q + 3) + 43 + 2 * v1.toNatClampNeg → (∀ x9 : Int32, x9 = (x6 - (μ q8 1)) → (∀ x10 : Int32, x10 = (z_max (0 : Int32) x9) → K x10 μ))))))))) ∧ (¬ (μ q 3) ≤ v3 → (vp_in v3 14 ∧ (∀ q12 : Nat, q12 = (q + 2) + 2 + 3 * v3.toNatClampNeg → (∀ x13 : Int32, x13 = (μ (q12 + 1) 0) → ((¬ x13 = v1 → fX0_platesToCook_42 k4 K q v1 v2 v3 μ) ∧ (x13 = v1 → (vp_in v3 14 ∧ (∀ q16 : Nat, q16 = (q + 2) + 2 + 3 * v3.toNatClampNeg → fX5_doubt q16  μ (fun r17 m18 => (∀ x19 : Int32, x19 = ((100 : Int32) - r17) → (∀ x20 : Int32, x20 = (v2 + x19) → fX0_platesToCook_42 k4 K q v1 x20 v3 m18))))))))))))
def fX0_platesToCook_4  (K : Int32 → zMem → Prop) (q : Nat) (n : Nat) : Int32 → Int32 → Int32 → zMem → Prop := z_it (fun k => fX0_platesToCook_4b  k K q ) (fun _ _ _ _ => False) n
def fX0_platesToCook (q : Nat) (a1 : Int32) (μ : zMem) (K : Int32 → zMem → Prop) : Prop :=
  fX0_platesToCook_4  K q zFU a1 (0 : Int32) (0 : Int32) μ
set_option maxRecDepth 100000 in
set_option maxHeartbeats 4000000 in
theorem tX0_platesToCook_42 {p : Program} {l : Launch} {e : Env} {s : State} {m : MethodId} {args : Array Value} {below : List Frame} {meth : Method} {c : Code} {G : zG} {k4 : Int32 → Int32 → Int32 → zMem → Prop} {K : Int32 → zMem → Prop} (o : za_Ok (z_rm 2 41) 0 0 p s m args meth c G RX0 cX0_platesToCook 4 (some .int)) {q : Nat} (hq : z_is q 0) (hk4 : ∀ (v1 : Int32) (v2 : Int32) (v3 : Int32) (μ : zMem), k4 v1 v2 v3 μ → za_At p l e (z_rm 2 41) s m args below meth c (MQ below (zQi G K) args s 0 0 (zA G)) G 4 0 0 4 [(0, .ref (G.2.2 + q)), (1, .int v1), (2, .int v2), (3, .int v3)] [] μ) (v1 : Int32) (v2 : Int32) (v3 : Int32) (μ : zMem)  (hf : fX0_platesToCook_42 k4 K q v1 v2 v3 μ) : za_At p l e (z_rm 2 41) s m args below meth c (MQ below (zQi G K) args s 0 0 (zA G)) G 4 0 0 42 [(0, .ref (G.2.2 + q)), (1, .int v1), (2, .int v2), (3, .int v3)] [] μ := by
  unfold fX0_platesToCook_42 at hf
  obtain ⟨x1, ex1⟩ : ∃ y : Int32, y = v3 + (1 : Int32) := ⟨_, rfl⟩
  replace hf := hf x1 ex1
  refine za_iinc o x1 3 [(3, .int x1), (0, .ref (G.2.2 + q)), (1, .int v1), (2, .int v2)] dX0_platesToCook_42 rfl (by rw [ex1]; rfl) (by decide) rfl ?_
  refine za_goto o 4 dX0_platesToCook_45 (by decide) ?_
  refine za_sub [1, 2, 3, 0] rfl ?_
  exact hk4 v1 v2 x1 μ  hf
set_option maxRecDepth 100000 in
set_option maxHeartbeats 4000000 in
theorem tX0_platesToCook_4b {p : Program} {l : Launch} {e : Env} {s : State} {m : MethodId} {args : Array Value} {below : List Frame} {meth : Method} {c : Code} {G : zG} {k4 : Int32 → Int32 → Int32 → zMem → Prop} {K : Int32 → zMem → Prop} (o : za_Ok (z_rm 2 41) 0 0 p s m args meth c G RX0 cX0_platesToCook 4 (some .int)) {q : Nat} (hq : z_is q 0) (hk4 : ∀ (v1 : Int32) (v2 : Int32) (v3 : Int32) (μ : zMem), k4 v1 v2 v3 μ → za_At p l e (z_rm 2 41) s m args below meth c (MQ below (zQi G K) args s 0 0 (zA G)) G 4 0 0 4 [(0, .ref (G.2.2 + q)), (1, .int v1), (2, .int v2), (3, .int v3)] [] μ) (v1 : Int32) (v2 : Int32) (v3 : Int32) (μ : zMem)  (hf : fX0_platesToCook_4b k4 K q v1 v2 v3 μ) : za_At p l e (z_rm 2 41) s m args below meth c (MQ below (zQi G K) args s 0 0 (zA G)) G 4 0 0 4 [(0, .ref (G.2.2 + q)), (1, .int v1), (2, .int v2), (3, .int v3)] [] μ := by
  unfold fX0_platesToCook_4b at hf
  refine za_iload_n o 3 dX0_platesToCook_4 rfl rfl ?_
  refine za_aload_n o 0 dX0_platesToCook_5 rfl rfl ?_
  refine za_getf o 3 zc0 hq (Nat.le_of_ble_eq_true rfl) wfX0_39 rfl dX0_platesToCook_6 ?_
  refine za_icmp_ge o 48 dX0_platesToCook_9 (by decide) (fun c2 => ?_) (fun c2 => ?_)
  · replace hf := hf.1 c2
    refine za_iload_n o 2 dX0_platesToCook_48 rfl rfl ?_
    refine za_bipush (v := (99 : Int32)) o dX0_platesToCook_49 (by decide) ?_
    refine za_iadd o dX0_platesToCook_51 ?_
    refine za_topi (fun x3 ex3 => ?_)
    replace hf := hf x3 ex3
    refine za_bipush (v := (100 : Int32)) o dX0_platesToCook_52 (by decide) ?_
    refine za_idiv o dX0_platesToCook_54 (by decide) ?_
    refine za_topi (fun x4 ex4 => ?_)
    replace hf := hf x4 ex4
    refine za_istore_n o [(3, .int x4), (0, .ref (G.2.2 + q)), (1, .int v1), (2, .int v2)] dX0_platesToCook_55 rfl (by decide) rfl ?_
    refine za_iconst (v := (0 : Int32)) o dX0_platesToCook_56 (by decide) ?_
    refine za_iload_n o 0 dX0_platesToCook_57 rfl rfl ?_
    refine za_aload_n o 1 dX0_platesToCook_58 rfl rfl ?_
    refine za_getf o 0 zc0 hq (Nat.le_of_ble_eq_true rfl) wfX0_9 rfl dX0_platesToCook_59 ?_
    refine za_iconst (v := (0 : Int32)) o dX0_platesToCook_62 (by decide) ?_
    refine za_iald o (zk_0_9 hq) rfl (by unfold vp_in; decide) dX0_platesToCook_63 ?_
    refine za_topi (fun x5 ex5 => ?_)
    replace hf := hf x5 ex5
    refine za_iadd o dX0_platesToCook_64 ?_
    refine za_topi (fun x6 ex6 => ?_)
    replace hf := hf x6 ex6
    refine za_aload_n o 1 dX0_platesToCook_65 rfl rfl ?_
    refine za_getf o 2 zc0 hq (Nat.le_of_ble_eq_true rfl) wfX0_23 rfl dX0_platesToCook_66 ?_
    refine za_iload_n o 2 dX0_platesToCook_69 rfl rfl ?_
    obtain ⟨g7, hf⟩ := hf
    refine za_aald o (zk_0_11 hq) rfl rfl rfl g7 dX0_platesToCook_70 ?_
    refine za_topr (fun q8 eq8 => ?_)
    replace hf := hf q8 eq8
    have hq8 : z_is q8 1 := by rw [eq8]; exact zk_a11 (zk_0_11 hq) (z_lt g7)
    refine za_getfN o 1 "CanteenPlates" zc1 hq8 (Nat.le_of_ble_eq_true rfl) wnX0_109 rfl dX0_platesToCook_71 ?_
    refine za_isub o dX0_platesToCook_74 ?_
    refine za_topi (fun x9 ex9 => ?_)
    replace hf := hf x9 ex9
    refine za_max o wmX0_112 wt_max wc_Math wk_max (Nat.le_of_ble_eq_true rfl) (Nat.le_of_ble_eq_true rfl) dX0_platesToCook_75 ?_
    refine za_topi (fun x10 ex10 => ?_)
    replace hf := hf x10 ex10
    exact za_iret o rfl hf dX0_platesToCook_78
  · replace hf := hf.2 c2
    refine za_aload_n o 0 dX0_platesToCook_12 rfl rfl ?_
    refine za_getf o 1 zc0 hq (Nat.le_of_ble_eq_true rfl) wfX0_17 rfl dX0_platesToCook_13 ?_
    refine za_iload_n o 3 dX0_platesToCook_16 rfl rfl ?_
    obtain ⟨g11, hf⟩ := hf
    refine za_aald o (zk_0_10 hq) rfl rfl rfl g11 dX0_platesToCook_17 ?_
    refine za_topr (fun q12 eq12 => ?_)
    replace hf := hf q12 eq12
    have hq12 : z_is q12 5 := by rw [eq12]; exact zk_a10 (zk_0_10 hq) (z_lt g11)
    refine za_getfN o 0 "CanteenPlates" zc5 hq12 (Nat.le_of_ble_eq_true rfl) wnX0_93 rfl dX0_platesToCook_18 ?_
    refine za_iconst (v := (0 : Int32)) o dX0_platesToCook_21 (by decide) ?_
    refine za_iald o (zk_5_12 hq12) rfl (by unfold vp_in; decide) dX0_platesToCook_22 ?_
    refine za_topi (fun x13 ex13 => ?_)
    replace hf := hf x13 ex13
    refine za_iload_n o 1 dX0_platesToCook_23 rfl rfl ?_
    refine za_icmp_ne o 42 dX0_platesToCook_24 (by decide) (fun c14 => ?_) (fun c14 => ?_)
    · replace hf := hf.1 c14
      exact tX0_platesToCook_42 o hq hk4 v1 v2 v3 μ  hf
    · replace hf := hf.2 c14
      refine za_iload_n o 2 dX0_platesToCook_27 rfl rfl ?_
      refine za_bipush (v := (100 : Int32)) o dX0_platesToCook_28 (by decide) ?_
      refine za_aload_n o 0 dX0_platesToCook_30 rfl rfl ?_
      refine za_getf o 1 zc0 hq (Nat.le_of_ble_eq_true rfl) wfX0_17 rfl dX0_platesToCook_31 ?_
      refine za_iload_n o 3 dX0_platesToCook_34 rfl rfl ?_
      obtain ⟨g15, hf⟩ := hf
      refine za_aald o (zk_0_10 hq) rfl rfl rfl g15 dX0_platesToCook_35 ?_
      refine za_topr (fun q16 eq16 => ?_)
      replace hf := hf q16 eq16
      have hq16 : z_is q16 5 := by rw [eq16]; exact zk_a10 (zk_0_10 hq) (z_lt g15)
      refine za_callVi o [] (ctX5_doubt l G hq16   μ _ hf) zc5 hq16 mwX5_doubt wmX0_105 wiX5_doubt wsX5_doubt rfl ⟨Nat.le_of_ble_eq_true rfl, Nat.le_of_ble_eq_true rfl⟩ rfl (Nat.le_of_ble_eq_true rfl) dX0_platesToCook_36 (fun r17 m18 hf => ?_)
      refine za_isub o dX0_platesToCook_39 ?_
      refine za_topi (fun x19 ex19 => ?_)
      replace hf := hf x19 ex19
      refine za_iadd o dX0_platesToCook_40 ?_
      refine za_topi (fun x20 ex20 => ?_)
      replace hf := hf x20 ex20
      refine za_istore_n o [(2, .int x20), (0, .ref (G.2.2 + q)), (1, .int v1), (3, .int v3)] dX0_platesToCook_41 rfl (by decide) rfl ?_
      refine za_sub [1, 2, 0, 3] rfl ?_
      exact tX0_platesToCook_42 o hq hk4 v1 x20 v3 m18  hf
theorem tX0_platesToCook_4 {p : Program} {l : Launch} {e : Env} {s : State} {m : MethodId} {args : Array Value} {below : List Frame} {meth : Method} {c : Code} {G : zG}  {K : Int32 → zMem → Prop} (o : za_Ok (z_rm 2 41) 0 0 p s m args meth c G RX0 cX0_platesToCook 4 (some .int)) {q : Nat} (hq : z_is q 0)  (n : Nat) : ∀ (v1 : Int32) (v2 : Int32) (v3 : Int32) (μ : zMem), fX0_platesToCook_4  K q n v1 v2 v3 μ → za_At p l e (z_rm 2 41) s m args below meth c (MQ below (zQi G K) args s 0 0 (zA G)) G 4 0 0 4 [(0, .ref (G.2.2 + q)), (1, .int v1), (2, .int v2), (3, .int v3)] [] μ := by
  induction n with
  | zero => intro _ _ _ _ hf; exact hf.elim
  | succ n ih => intro v1 v2 v3 μ  hf; exact tX0_platesToCook_4b o hq  ih v1 v2 v3 μ  hf
set_option maxRecDepth 100000 in
set_option maxHeartbeats 4000000 in
theorem ctX0_platesToCook (l : Launch) (G : zG) {q : Nat} (hq : z_is q 0) (a1 : Int32)  (μ : zMem) (K : Int32 → zMem → Prop) (hf : fX0_platesToCook q a1 μ K) : z_Met l G yX0_platesToCook cX0_platesToCook 4 (some .int) (z_rm 2 41) [.ref (G.2.2 + q), .int a1] μ K := by
  refine z_body (by decide) (Nat.le_of_ble_eq_true rfl) (fun p e s m args below meth c o => ?_)
  have o : za_Ok (z_rm 2 41) 0 0 p s m args meth c G RX0 cX0_platesToCook 4 (some .int) := o
  show za_At p l e (z_rm 2 41) s m args below meth c (MQ below (zQi G K) args s 0 0 (zA G)) G 4 0 0 0 [(0, .ref (G.2.2 + q)), (1, .int a1)] [] μ
  unfold fX0_platesToCook at hf
  refine za_iconst (v := (0 : Int32)) o dX0_platesToCook_0 (by decide) ?_
  refine za_istore_n o [(2, .int (0 : Int32)), (0, .ref (G.2.2 + q)), (1, .int a1)] dX0_platesToCook_1 rfl (by decide) rfl ?_
  refine za_iconst (v := (0 : Int32)) o dX0_platesToCook_2 (by decide) ?_
  refine za_istore_n o [(3, .int (0 : Int32)), (2, .int (0 : Int32)), (0, .ref (G.2.2 + q)), (1, .int a1)] dX0_platesToCook_3 rfl (by decide) rfl ?_
  refine za_sub [2, 3, 1, 0] rfl ?_
  exact tX0_platesToCook_4 o hq  zFU a1 (0 : Int32) (0 : Int32) μ  hf
def fX1_fill (q : Nat) (a1 : Int32) (μ : zMem) (K : zMem → Prop) : Prop :=
  (∀ m1 : zMem, m1 = z_up μ q 2 a1 → (∀ x2 : Int32, x2 = ((m1 q 3) + a1) → (∀ m3 : zMem, m3 = z_up m1 q 3 x2 → K m3)))
set_option maxRecDepth 100000 in
set_option maxHeartbeats 4000000 in
theorem ctX1_fill (l : Launch) (G : zG) {q : Nat} (hq : z_is q 1) (a1 : Int32)  (μ : zMem) (K : zMem → Prop) (hf : fX1_fill q a1 μ K) : z_MetV l G yX1_fill cX1_fill 2 none (z_rm 0 0) [.ref (G.2.2 + q), .int a1] μ K := by
  refine z_body (by decide) (Nat.le_of_ble_eq_true rfl) (fun p e s m args below meth c o => ?_)
  have o : za_Ok (z_rm 0 0) 0 0 p s m args meth c G RX1 cX1_fill 2 none := o
  show za_At p l e (z_rm 0 0) s m args below meth c (MQ below (zQv G K) args s 0 0 (zA G)) G 2 0 0 0 [(0, .ref (G.2.2 + q)), (1, .int a1)] [] μ
  unfold fX1_fill at hf
  refine za_aload_n o 0 dX1_fill_0 rfl rfl ?_
  refine za_iload_n o 1 dX1_fill_1 rfl rfl ?_
  refine za_putf (ty := .int) o 2 zc1 hq (Nat.le_of_ble_eq_true rfl) wfX1_25 rfl (by decide +kernel) rfl rfl (Nat.le_of_ble_eq_true rfl) rfl dX1_fill_2 ?_
  refine za_mem (fun m1 em1 => ?_)
  replace hf := hf m1 em1
  refine za_aload_n o 0 dX1_fill_5 rfl rfl ?_
  refine za_dup o dX1_fill_6 rfl ?_
  refine za_getf o 3 zc1 hq (Nat.le_of_ble_eq_true rfl) wfX1_28 rfl dX1_fill_7 ?_
  refine za_iload_n o 1 dX1_fill_10 rfl rfl ?_
  refine za_iadd o dX1_fill_11 ?_
  refine za_topi (fun x2 ex2 => ?_)
  replace hf := hf x2 ex2
  refine za_putf (ty := .int) o 3 zc1 hq (Nat.le_of_ble_eq_true rfl) wfX1_28 rfl (by decide +kernel) rfl rfl (Nat.le_of_ble_eq_true rfl) rfl dX1_fill_12 ?_
  refine za_mem (fun m3 em3 => ?_)
  replace hf := hf m3 em3
  exact za_vret o rfl hf dX1_fill_15
def fX0_cookToday_14b (k14 : Int32 → Int32 → zMem → Prop) (K : Int32 → zMem → Prop) (q : Nat) (v1 : Int32) (v2 : Int32) (μ : zMem) : Prop :=
  (((3 : Int32) ≤ v2 → (∀ m2 : zMem, m2 = z_up μ q 5 (1 : Int32) → K v1 m2)) ∧ (¬ (3 : Int32) ≤ v2 → fX0_platesToCook q v2 μ (fun r3 m4 => (vp_in v2 3 ∧ (∀ q6 : Nat, q6 = (q + 3) + 43 + 2 * v2.toNatClampNeg → fX1_fill q6 r3 m4 (fun m8 => (∀ x9 : Int32, x9 = (v1 + r3) → (∀ x10 : Int32, x10 = v2 + (1 : Int32) → k14 x9 x10 m8))))))))
def fX0_cookToday_14  (K : Int32 → zMem → Prop) (q : Nat) (n : Nat) : Int32 → Int32 → zMem → Prop := z_it (fun k => fX0_cookToday_14b  k K q ) (fun _ _ _ => False) n
def fX0_cookToday (q : Nat)  (μ : zMem) (K : Int32 → zMem → Prop) : Prop :=
  (((μ q 5) = 0 → fX0_cookToday_14  K q zFU (0 : Int32) (0 : Int32) μ) ∧ (¬ (μ q 5) = 0 → K (-5 : Int32) μ))
set_option maxRecDepth 100000 in
set_option maxHeartbeats 4000000 in
theorem tX0_cookToday_14b {p : Program} {l : Launch} {e : Env} {s : State} {m : MethodId} {args : Array Value} {below : List Frame} {meth : Method} {c : Code} {G : zG} {k14 : Int32 → Int32 → zMem → Prop} {K : Int32 → zMem → Prop} (o : za_Ok (z_rm 3 64) 0 0 p s m args meth c G RX0 cX0_cookToday 4 (some .int)) {q : Nat} (hq : z_is q 0) (hk14 : ∀ (v1 : Int32) (v2 : Int32) (μ : zMem), k14 v1 v2 μ → za_At p l e (z_rm 3 64) s m args below meth c (MQ below (zQi G K) args s 0 0 (zA G)) G 4 0 0 14 [(0, .ref (G.2.2 + q)), (1, .int v1), (2, .int v2)] [] μ) (v1 : Int32) (v2 : Int32) (μ : zMem)  (hf : fX0_cookToday_14b k14 K q v1 v2 μ) : za_At p l e (z_rm 3 64) s m args below meth c (MQ below (zQi G K) args s 0 0 (zA G)) G 4 0 0 14 [(0, .ref (G.2.2 + q)), (1, .int v1), (2, .int v2)] [] μ := by
  unfold fX0_cookToday_14b at hf
  refine za_iload_n o 2 dX0_cookToday_14 rfl rfl ?_
  refine za_iconst (v := (3 : Int32)) o dX0_cookToday_15 (by decide) ?_
  refine za_icmp_ge o 45 dX0_cookToday_16 (by decide) (fun c1 => ?_) (fun c1 => ?_)
  · replace hf := hf.1 c1
    refine za_aload_n o 0 dX0_cookToday_45 rfl rfl ?_
    refine za_iconst (v := (1 : Int32)) o dX0_cookToday_46 (by decide) ?_
    refine za_putf (ty := .boolean) o 5 zc0 hq (Nat.le_of_ble_eq_true rfl) wfX0_49 rfl (by decide +kernel) (z_bn z_b1) (z_bfit z_b1) (Nat.le_of_ble_eq_true rfl) rfl dX0_cookToday_47 ?_
    refine za_mem (fun m2 em2 => ?_)
    replace hf := hf m2 em2
    refine za_iload_n o 1 dX0_cookToday_50 rfl rfl ?_
    exact za_iret o rfl hf dX0_cookToday_51
  · replace hf := hf.2 c1
    refine za_aload_n o 0 dX0_cookToday_19 rfl rfl ?_
    refine za_iload_n o 2 dX0_cookToday_20 rfl rfl ?_
    refine za_callVi o [.int v2] (ctX0_platesToCook l G hq v2  μ _ hf) zc0 hq mwX0_platesToCook wmX0_98 wiX0_platesToCook wsX0_platesToCook rfl ⟨Nat.le_of_ble_eq_true rfl, Nat.le_of_ble_eq_true rfl⟩ rfl (Nat.le_of_ble_eq_true rfl) dX0_cookToday_21 (fun r3 m4 hf => ?_)
    refine za_istore_n o [(3, .int r3), (0, .ref (G.2.2 + q)), (1, .int v1), (2, .int v2)] dX0_cookToday_24 rfl (by decide) rfl ?_
    refine za_aload_n o 1 dX0_cookToday_25 rfl rfl ?_
    refine za_getf o 2 zc0 hq (Nat.le_of_ble_eq_true rfl) wfX0_23 rfl dX0_cookToday_26 ?_
    refine za_iload_n o 3 dX0_cookToday_29 rfl rfl ?_
    obtain ⟨g5, hf⟩ := hf
    refine za_aald o (zk_0_11 hq) rfl rfl rfl g5 dX0_cookToday_30 ?_
    refine za_topr (fun q6 eq6 => ?_)
    replace hf := hf q6 eq6
    have hq6 : z_is q6 1 := by rw [eq6]; exact zk_a11 (zk_0_11 hq) (z_lt g5)
    refine za_iload_n o 0 dX0_cookToday_31 rfl rfl ?_
    refine za_callVv o [.int r3] (ctX1_fill l G hq6 r3  m4 _ hf) zc1 hq6 mwX1_fill wmX0_101 wiX1_fill wsX1_fill rfl ⟨Nat.le_of_ble_eq_true rfl, Nat.le_of_ble_eq_true rfl⟩ rfl (Nat.le_of_ble_eq_true rfl) dX0_cookToday_32 (fun m8 hf => ?_)
    refine za_iload_n o 2 dX0_cookToday_35 rfl rfl ?_
    refine za_iload_n o 0 dX0_cookToday_36 rfl rfl ?_
    refine za_iadd o dX0_cookToday_37 ?_
    refine za_topi (fun x9 ex9 => ?_)
    replace hf := hf x9 ex9
    refine za_istore_n o [(1, .int x9), (3, .int r3), (0, .ref (G.2.2 + q)), (2, .int v2)] dX0_cookToday_38 rfl (by decide) rfl ?_
    obtain ⟨x10, ex10⟩ : ∃ y : Int32, y = v2 + (1 : Int32) := ⟨_, rfl⟩
    replace hf := hf x10 ex10
    refine za_iinc o x10 3 [(2, .int x10), (1, .int x9), (3, .int r3), (0, .ref (G.2.2 + q))] dX0_cookToday_39 rfl (by rw [ex10]; rfl) (by decide) rfl ?_
    refine za_goto o 14 dX0_cookToday_42 (by decide) ?_
    refine za_sub [3, 1, 0] rfl ?_
    exact hk14 x9 x10 m8  hf
theorem tX0_cookToday_14 {p : Program} {l : Launch} {e : Env} {s : State} {m : MethodId} {args : Array Value} {below : List Frame} {meth : Method} {c : Code} {G : zG}  {K : Int32 → zMem → Prop} (o : za_Ok (z_rm 3 64) 0 0 p s m args meth c G RX0 cX0_cookToday 4 (some .int)) {q : Nat} (hq : z_is q 0)  (n : Nat) : ∀ (v1 : Int32) (v2 : Int32) (μ : zMem), fX0_cookToday_14  K q n v1 v2 μ → za_At p l e (z_rm 3 64) s m args below meth c (MQ below (zQi G K) args s 0 0 (zA G)) G 4 0 0 14 [(0, .ref (G.2.2 + q)), (1, .int v1), (2, .int v2)] [] μ := by
  induction n with
  | zero => intro _ _ _ hf; exact hf.elim
  | succ n ih => intro v1 v2 μ  hf; exact tX0_cookToday_14b o hq  ih v1 v2 μ  hf
set_option maxRecDepth 100000 in
set_option maxHeartbeats 4000000 in
theorem ctX0_cookToday (l : Launch) (G : zG) {q : Nat} (hq : z_is q 0)   (μ : zMem) (K : Int32 → zMem → Prop) (hf : fX0_cookToday q  μ K) : z_Met l G yX0_cookToday cX0_cookToday 4 (some .int) (z_rm 3 64) [.ref (G.2.2 + q)] μ K := by
  refine z_body (by decide) (Nat.le_of_ble_eq_true rfl) (fun p e s m args below meth c o => ?_)
  have o : za_Ok (z_rm 3 64) 0 0 p s m args meth c G RX0 cX0_cookToday 4 (some .int) := o
  show za_At p l e (z_rm 3 64) s m args below meth c (MQ below (zQi G K) args s 0 0 (zA G)) G 4 0 0 0 [(0, .ref (G.2.2 + q))] [] μ
  unfold fX0_cookToday at hf
  refine za_aload_n o 0 dX0_cookToday_0 rfl rfl ?_
  refine za_getf o 5 zc0 hq (Nat.le_of_ble_eq_true rfl) wfX0_49 rfl dX0_cookToday_1 ?_
  refine za_if_eq o 10 dX0_cookToday_4 (by decide) (fun c11 => ?_) (fun c11 => ?_)
  · replace hf := hf.1 c11
    refine za_iconst (v := (0 : Int32)) o dX0_cookToday_10 (by decide) ?_
    refine za_istore_n o [(1, .int (0 : Int32)), (0, .ref (G.2.2 + q))] dX0_cookToday_11 rfl (by decide) rfl ?_
    refine za_iconst (v := (0 : Int32)) o dX0_cookToday_12 (by decide) ?_
    refine za_istore_n o [(2, .int (0 : Int32)), (1, .int (0 : Int32)), (0, .ref (G.2.2 + q))] dX0_cookToday_13 rfl (by decide) rfl ?_
    refine za_sub [2, 1, 0] rfl ?_
    exact tX0_cookToday_14 o hq  zFU (0 : Int32) (0 : Int32) μ  hf
  · replace hf := hf.2 c11
    refine za_bipush (v := (-5 : Int32)) o dX0_cookToday_7 (by decide) ?_
    exact za_iret o rfl hf dX0_cookToday_9
def fX7_cook (q : Nat)  (μ : zMem) (K : Int32 → zMem → Prop) : Prop :=
  fX2_note 53 1 μ (fun m2 => fX0_cookToday 1  m2 (fun r3 m4 => fX2_keep 53 r3 m4 (fun r5 m6 => K r5 m6)))
set_option maxRecDepth 100000 in
set_option maxHeartbeats 4000000 in
theorem ctX7_cook (l : Launch) (G : zG) {q : Nat} (hq : z_is q 7)   (μ : zMem) (K : Int32 → zMem → Prop) (hf : fX7_cook q  μ K) : z_Met l G yX7_cook cX7_cook 1 (some .int) (z_rm 4 99) [.ref (G.2.2 + q)] μ K := by
  refine z_body (by decide) (Nat.le_of_ble_eq_true rfl) (fun p e s m args below meth c o => ?_)
  have o : za_Ok (z_rm 4 99) 0 0 p s m args meth c G RX7 cX7_cook 1 (some .int) := o
  show za_At p l e (z_rm 4 99) s m args below meth c (MQ below (zQi G K) args s 0 0 (zA G)) G 1 0 0 0 [(0, .ref (G.2.2 + q))] [] μ
  unfold fX7_cook at hf
  refine za_aload_n o 0 dX7_cook_0 rfl rfl ?_
  refine za_getf o 1 zc7 hq (Nat.le_of_ble_eq_true rfl) wfX7_19 rfl dX7_cook_1 ?_
  refine za_aload_n o 0 dX7_cook_4 rfl rfl ?_
  refine za_getf o 0 zc7 hq (Nat.le_of_ble_eq_true rfl) wfX7_10 rfl dX7_cook_5 ?_
  refine za_callVv o [.ref (G.2.2 + 1)] (ctX2_note l G zk_c2 1 zk_c0 μ _ hf) zc2 zk_c2 mwX2_note wmX7_46 wiX2_note wsX2_note rfl ⟨Nat.le_of_ble_eq_true rfl, Nat.le_of_ble_eq_true rfl⟩ rfl (Nat.le_of_ble_eq_true rfl) dX7_cook_8 (fun m2 hf => ?_)
  refine za_aload_n o 0 dX7_cook_11 rfl rfl ?_
  refine za_getf o 1 zc7 hq (Nat.le_of_ble_eq_true rfl) wfX7_19 rfl dX7_cook_12 ?_
  refine za_aload_n o 0 dX7_cook_15 rfl rfl ?_
  refine za_getf o 0 zc7 hq (Nat.le_of_ble_eq_true rfl) wfX7_10 rfl dX7_cook_16 ?_
  refine za_callVi o [] (ctX0_cookToday l G zk_c0   m2 _ hf) zc0 zk_c0 mwX0_cookToday wmX7_75 wiX0_cookToday wsX0_cookToday rfl ⟨Nat.le_of_ble_eq_true rfl, Nat.le_of_ble_eq_true rfl⟩ rfl (Nat.le_of_ble_eq_true rfl) dX7_cook_19 (fun r3 m4 hf => ?_)
  refine za_callVi o [.int r3] (ctX2_keep l G zk_c2 r3  m4 _ hf) zc2 zk_c2 mwX2_keep wmX7_54 wiX2_keep wsX2_keep rfl ⟨Nat.le_of_ble_eq_true rfl, Nat.le_of_ble_eq_true rfl⟩ rfl (Nat.le_of_ble_eq_true rfl) dX7_cook_22 (fun r5 m6 hf => ?_)
  exact za_iret o rfl hf dX7_cook_25
def fX1_give_30  (K : zMem → Prop) (q : Nat)  (μ : zMem) : Prop :=
  (∀ x1 : Int32, x1 = ((μ q 4) + (1 : Int32)) → (∀ m2 : zMem, m2 = z_up μ q 4 x1 → K m2))
def fX1_give (q : Nat)  (μ : zMem) (K : zMem → Prop) : Prop :=
  (((μ q 1) ≤ 0 → (∀ x4 : Int32, x4 = ((μ q 2) - (1 : Int32)) → (∀ m5 : zMem, m5 = z_up μ q 2 x4 → fX1_give_30  K q  m5))) ∧ (¬ (μ q 1) ≤ 0 → (∀ x6 : Int32, x6 = ((μ q 1) - (1 : Int32)) → (∀ m7 : zMem, m7 = z_up μ q 1 x6 → fX1_give_30  K q  m7))))
set_option maxRecDepth 100000 in
set_option maxHeartbeats 4000000 in
theorem tX1_give_30 {p : Program} {l : Launch} {e : Env} {s : State} {m : MethodId} {args : Array Value} {below : List Frame} {meth : Method} {c : Code} {G : zG}  {K : zMem → Prop} (o : za_Ok (z_rm 0 0) 0 0 p s m args meth c G RX1 cX1_give 1 none) {q : Nat} (hq : z_is q 1)   (μ : zMem)  (hf : fX1_give_30  K q  μ) : za_At p l e (z_rm 0 0) s m args below meth c (MQ below (zQv G K) args s 0 0 (zA G)) G 1 0 0 30 [(0, .ref (G.2.2 + q))] [] μ := by
  unfold fX1_give_30 at hf
  refine za_aload_n o 0 dX1_give_30 rfl rfl ?_
  refine za_dup o dX1_give_31 rfl ?_
  refine za_getf o 4 zc1 hq (Nat.le_of_ble_eq_true rfl) wfX1_31 rfl dX1_give_32 ?_
  refine za_iconst (v := (1 : Int32)) o dX1_give_35 (by decide) ?_
  refine za_iadd o dX1_give_36 ?_
  refine za_topi (fun x1 ex1 => ?_)
  replace hf := hf x1 ex1
  refine za_putf (ty := .int) o 4 zc1 hq (Nat.le_of_ble_eq_true rfl) wfX1_31 rfl (by decide +kernel) rfl rfl (Nat.le_of_ble_eq_true rfl) rfl dX1_give_37 ?_
  refine za_mem (fun m2 em2 => ?_)
  replace hf := hf m2 em2
  exact za_vret o rfl hf dX1_give_40
set_option maxRecDepth 100000 in
set_option maxHeartbeats 4000000 in
theorem ctX1_give (l : Launch) (G : zG) {q : Nat} (hq : z_is q 1)   (μ : zMem) (K : zMem → Prop) (hf : fX1_give q  μ K) : z_MetV l G yX1_give cX1_give 1 none (z_rm 0 0) [.ref (G.2.2 + q)] μ K := by
  refine z_body (by decide) (Nat.le_of_ble_eq_true rfl) (fun p e s m args below meth c o => ?_)
  have o : za_Ok (z_rm 0 0) 0 0 p s m args meth c G RX1 cX1_give 1 none := o
  show za_At p l e (z_rm 0 0) s m args below meth c (MQ below (zQv G K) args s 0 0 (zA G)) G 1 0 0 0 [(0, .ref (G.2.2 + q))] [] μ
  unfold fX1_give at hf
  refine za_aload_n o 0 dX1_give_0 rfl rfl ?_
  refine za_getf o 1 zc1 hq (Nat.le_of_ble_eq_true rfl) wfX1_21 rfl dX1_give_1 ?_
  refine za_if_le o 20 dX1_give_4 (by decide) (fun c3 => ?_) (fun c3 => ?_)
  · replace hf := hf.1 c3
    refine za_aload_n o 0 dX1_give_20 rfl rfl ?_
    refine za_dup o dX1_give_21 rfl ?_
    refine za_getf o 2 zc1 hq (Nat.le_of_ble_eq_true rfl) wfX1_25 rfl dX1_give_22 ?_
    refine za_iconst (v := (1 : Int32)) o dX1_give_25 (by decide) ?_
    refine za_isub o dX1_give_26 ?_
    refine za_topi (fun x4 ex4 => ?_)
    replace hf := hf x4 ex4
    refine za_putf (ty := .int) o 2 zc1 hq (Nat.le_of_ble_eq_true rfl) wfX1_25 rfl (by decide +kernel) rfl rfl (Nat.le_of_ble_eq_true rfl) rfl dX1_give_27 ?_
    refine za_mem (fun m5 em5 => ?_)
    replace hf := hf m5 em5
    exact tX1_give_30 o hq   m5  hf
  · replace hf := hf.2 c3
    refine za_aload_n o 0 dX1_give_7 rfl rfl ?_
    refine za_dup o dX1_give_8 rfl ?_
    refine za_getf o 1 zc1 hq (Nat.le_of_ble_eq_true rfl) wfX1_21 rfl dX1_give_9 ?_
    refine za_iconst (v := (1 : Int32)) o dX1_give_12 (by decide) ?_
    refine za_isub o dX1_give_13 ?_
    refine za_topi (fun x6 ex6 => ?_)
    replace hf := hf x6 ex6
    refine za_putf (ty := .int) o 1 zc1 hq (Nat.le_of_ble_eq_true rfl) wfX1_21 rfl (by decide +kernel) rfl rfl (Nat.le_of_ble_eq_true rfl) rfl dX1_give_14 ?_
    refine za_mem (fun m7 em7 => ?_)
    replace hf := hf m7 em7
    refine za_goto o 30 dX1_give_17 (by decide) ?_
    exact tX1_give_30 o hq   m7  hf
def fX1_left (q : Nat)  (μ : zMem) (K : Int32 → zMem → Prop) : Prop :=
  (∀ x1 : Int32, x1 = ((μ q 1) + (μ q 2)) → K x1 μ)
set_option maxRecDepth 100000 in
set_option maxHeartbeats 4000000 in
theorem ctX1_left (l : Launch) (G : zG) {q : Nat} (hq : z_is q 1)   (μ : zMem) (K : Int32 → zMem → Prop) (hf : fX1_left q  μ K) : z_Met l G yX1_left cX1_left 1 (some .int) (z_rm 0 0) [.ref (G.2.2 + q)] μ K := by
  refine z_body (by decide) (Nat.le_of_ble_eq_true rfl) (fun p e s m args below meth c o => ?_)
  have o : za_Ok (z_rm 0 0) 0 0 p s m args meth c G RX1 cX1_left 1 (some .int) := o
  show za_At p l e (z_rm 0 0) s m args below meth c (MQ below (zQi G K) args s 0 0 (zA G)) G 1 0 0 0 [(0, .ref (G.2.2 + q))] [] μ
  unfold fX1_left at hf
  refine za_aload_n o 0 dX1_left_0 rfl rfl ?_
  refine za_getf o 1 zc1 hq (Nat.le_of_ble_eq_true rfl) wfX1_21 rfl dX1_left_1 ?_
  refine za_aload_n o 0 dX1_left_4 rfl rfl ?_
  refine za_getf o 2 zc1 hq (Nat.le_of_ble_eq_true rfl) wfX1_25 rfl dX1_left_5 ?_
  refine za_iadd o dX1_left_8 ?_
  refine za_topi (fun x1 ex1 => ?_)
  replace hf := hf x1 ex1
  exact za_iret o rfl hf dX1_left_9
def fX5_comeWithOrder (q : Nat)  (μ : zMem) (K : zMem → Prop) : Prop :=
  (∀ m1 : zMem, m1 = z_up μ q 8 (1 : Int32) → (∀ x2 : Int32, x2 = ((m1 q 5) + (1 : Int32)) → (∀ m3 : zMem, m3 = z_up m1 q 5 x2 → (∀ m4 : zMem, m4 = z_up m3 q 3 (0 : Int32) → K m4))))
set_option maxRecDepth 100000 in
set_option maxHeartbeats 4000000 in
theorem ctX5_comeWithOrder (l : Launch) (G : zG) {q : Nat} (hq : z_is q 5)   (μ : zMem) (K : zMem → Prop) (hf : fX5_comeWithOrder q  μ K) : z_MetV l G yX5_comeWithOrder cX5_comeWithOrder 1 none (z_rm 0 0) [.ref (G.2.2 + q)] μ K := by
  refine z_body (by decide) (Nat.le_of_ble_eq_true rfl) (fun p e s m args below meth c o => ?_)
  have o : za_Ok (z_rm 0 0) 0 0 p s m args meth c G RX5 cX5_comeWithOrder 1 none := o
  show za_At p l e (z_rm 0 0) s m args below meth c (MQ below (zQv G K) args s 0 0 (zA G)) G 1 0 0 0 [(0, .ref (G.2.2 + q))] [] μ
  unfold fX5_comeWithOrder at hf
  refine za_aload_n o 0 dX5_comeWithOrder_0 rfl rfl ?_
  refine za_iconst (v := (1 : Int32)) o dX5_comeWithOrder_1 (by decide) ?_
  refine za_putf (ty := .boolean) o 8 zc5 hq (Nat.le_of_ble_eq_true rfl) wfX5_37 rfl (by decide +kernel) (z_bn z_b1) (z_bfit z_b1) (Nat.le_of_ble_eq_true rfl) rfl dX5_comeWithOrder_2 ?_
  refine za_mem (fun m1 em1 => ?_)
  replace hf := hf m1 em1
  refine za_aload_n o 0 dX5_comeWithOrder_5 rfl rfl ?_
  refine za_dup o dX5_comeWithOrder_6 rfl ?_
  refine za_getf o 5 zc5 hq (Nat.le_of_ble_eq_true rfl) wfX5_28 rfl dX5_comeWithOrder_7 ?_
  refine za_iconst (v := (1 : Int32)) o dX5_comeWithOrder_10 (by decide) ?_
  refine za_iadd o dX5_comeWithOrder_11 ?_
  refine za_topi (fun x2 ex2 => ?_)
  replace hf := hf x2 ex2
  refine za_putf (ty := .int) o 5 zc5 hq (Nat.le_of_ble_eq_true rfl) wfX5_28 rfl (by decide +kernel) rfl rfl (Nat.le_of_ble_eq_true rfl) rfl dX5_comeWithOrder_12 ?_
  refine za_mem (fun m3 em3 => ?_)
  replace hf := hf m3 em3
  refine za_aload_n o 0 dX5_comeWithOrder_15 rfl rfl ?_
  refine za_iconst (v := (0 : Int32)) o dX5_comeWithOrder_16 (by decide) ?_
  refine za_putf (ty := .int) o 3 zc5 hq (Nat.le_of_ble_eq_true rfl) wfX5_22 rfl (by decide +kernel) rfl rfl (Nat.le_of_ble_eq_true rfl) rfl dX5_comeWithOrder_17 ?_
  refine za_mem (fun m4 em4 => ?_)
  replace hf := hf m4 em4
  exact za_vret o rfl hf dX5_comeWithOrder_20
