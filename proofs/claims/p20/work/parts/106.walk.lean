/-! X2_takeBack X7_undo X6_store X7_save X6_fetch X7_restore X8_in X8_p X8_d X8_isPerson X8_isDish X8_hold X8_recorded X8_priceOn X8_gives X8_isFor X8_doubt X8_toCook -/
def fX2_takeBack_29  (K : Int32 → zMem → Prop) (q : Nat) (v1 : Nat) (v2 : Int32) (v3 : Nat) (μ : zMem) : Prop :=
  (∀ m1 : zMem, m1 = z_up μ v3 1 v2 → (∀ x2 : Int32, x2 = ((m1 q 2) - (1 : Int32)) → (∀ m3 : zMem, m3 = z_up m1 q 2 x2 → (vp_in (m3 q 1) 7 ∧ (∀ q5 : Nat, q5 = (q + 1) + 1 + 52 * ((m3 q 1)).toNatClampNeg → fX0_become v1 q5 m3 (fun m7 => K (m7 q 2) m7))))))
def fX2_takeBack (q : Nat) (a1 : Nat) (μ : zMem) (K : Int32 → zMem → Prop) : Prop :=
  ((¬ (μ q 2) = 0 → ((¬ (μ q 1) = 0 → (∀ x10 : Int32, x10 = ((μ q 1) - (1 : Int32)) → fX2_takeBack_29  K q a1 x10 q μ)) ∧ ((μ q 1) = 0 → fX2_takeBack_29  K q a1 (6 : Int32) q μ))) ∧ ((μ q 2) = 0 → K (-5 : Int32) μ))
set_option maxRecDepth 100000 in
set_option maxHeartbeats 4000000 in
theorem tX2_takeBack_29 {p : Program} {l : Launch} {e : Env} {s : State} {m : MethodId} {args : Array Value} {below : List Frame} {meth : Method} {c : Code} {G : zG}  {K : Int32 → zMem → Prop} (o : za_Ok (z_rm 3 78) 0 0 p s m args meth c G RX2 cX2_takeBack 2 (some .int)) {q : Nat} (hq : z_is q 2)  (v1 : Nat) (v2 : Int32) (v3 : Nat) (μ : zMem) (hv1 : z_is v1 0) (hv3 : z_is v3 2) (hf : fX2_takeBack_29  K q v1 v2 v3 μ) : za_At p l e (z_rm 3 78) s m args below meth c (MQ below (zQi G K) args s 0 0 (zA G)) G 2 0 0 29 [(0, .ref (G.2.2 + q)), (1, .ref (G.2.2 + v1))] [.int v2, .ref (G.2.2 + v3)] μ := by
  unfold fX2_takeBack_29 at hf
  refine za_putf (ty := .int) o 1 zc2 hv3 (Nat.le_of_ble_eq_true rfl) wfX2_22 rfl (by decide +kernel) rfl rfl (Nat.le_of_ble_eq_true rfl) rfl dX2_takeBack_29 ?_
  refine za_mem (fun m1 em1 => ?_)
  replace hf := hf m1 em1
  refine za_aload_n o 0 dX2_takeBack_32 rfl rfl ?_
  refine za_dup o dX2_takeBack_33 rfl ?_
  refine za_getf o 2 zc2 hq (Nat.le_of_ble_eq_true rfl) wfX2_18 rfl dX2_takeBack_34 ?_
  refine za_iconst (v := (1 : Int32)) o dX2_takeBack_37 (by decide) ?_
  refine za_isub o dX2_takeBack_38 ?_
  refine za_topi (fun x2 ex2 => ?_)
  replace hf := hf x2 ex2
  refine za_putf (ty := .int) o 2 zc2 hq (Nat.le_of_ble_eq_true rfl) wfX2_18 rfl (by decide +kernel) rfl rfl (Nat.le_of_ble_eq_true rfl) rfl dX2_takeBack_39 ?_
  refine za_mem (fun m3 em3 => ?_)
  replace hf := hf m3 em3
  refine za_aload_n o 1 dX2_takeBack_42 rfl rfl ?_
  refine za_aload_n o 0 dX2_takeBack_43 rfl rfl ?_
  refine za_getf o 0 zc2 hq (Nat.le_of_ble_eq_true rfl) wfX2_11 rfl dX2_takeBack_44 ?_
  refine za_aload_n o 0 dX2_takeBack_47 rfl rfl ?_
  refine za_getf o 1 zc2 hq (Nat.le_of_ble_eq_true rfl) wfX2_22 rfl dX2_takeBack_48 ?_
  obtain ⟨g4, hf⟩ := hf
  refine za_aald o (zk_2_13 hq) rfl rfl rfl g4 dX2_takeBack_51 ?_
  refine za_topr (fun q5 eq5 => ?_)
  replace hf := hf q5 eq5
  have hq5 : z_is q5 0 := by rw [eq5]; exact zk_a13 (zk_2_13 hq) (z_lt g4)
  refine za_callVv o [.ref (G.2.2 + q5)] (ctX0_become l G hv1 q5 hq5 m3 _ hf) zc0 hv1 mwX0_become wmX2_25 wiX0_become wsX0_become rfl ⟨Nat.le_of_ble_eq_true rfl, Nat.le_of_ble_eq_true rfl⟩ rfl (Nat.le_of_ble_eq_true rfl) dX2_takeBack_52 (fun m7 hf => ?_)
  refine za_aload_n o 0 dX2_takeBack_55 rfl rfl ?_
  refine za_getf o 2 zc2 hq (Nat.le_of_ble_eq_true rfl) wfX2_18 rfl dX2_takeBack_56 ?_
  exact za_iret o rfl hf dX2_takeBack_59
set_option maxRecDepth 100000 in
set_option maxHeartbeats 4000000 in
theorem ctX2_takeBack (l : Launch) (G : zG) {q : Nat} (hq : z_is q 2) (a1 : Nat) (ha1 : z_is a1 0) (μ : zMem) (K : Int32 → zMem → Prop) (hf : fX2_takeBack q a1 μ K) : z_Met l G yX2_takeBack cX2_takeBack 2 (some .int) (z_rm 3 78) [.ref (G.2.2 + q), .ref (G.2.2 + a1)] μ K := by
  refine z_body (by decide) (Nat.le_of_ble_eq_true rfl) (fun p e s m args below meth c o => ?_)
  have o : za_Ok (z_rm 3 78) 0 0 p s m args meth c G RX2 cX2_takeBack 2 (some .int) := o
  show za_At p l e (z_rm 3 78) s m args below meth c (MQ below (zQi G K) args s 0 0 (zA G)) G 2 0 0 0 [(0, .ref (G.2.2 + q)), (1, .ref (G.2.2 + a1))] [] μ
  unfold fX2_takeBack at hf
  refine za_aload_n o 0 dX2_takeBack_0 rfl rfl ?_
  refine za_getf o 2 zc2 hq (Nat.le_of_ble_eq_true rfl) wfX2_18 rfl dX2_takeBack_1 ?_
  refine za_if_ne o 10 dX2_takeBack_4 (by decide) (fun c8 => ?_) (fun c8 => ?_)
  · replace hf := hf.1 c8
    refine za_aload_n o 0 dX2_takeBack_10 rfl rfl ?_
    refine za_aload_n o 0 dX2_takeBack_11 rfl rfl ?_
    refine za_getf o 1 zc2 hq (Nat.le_of_ble_eq_true rfl) wfX2_22 rfl dX2_takeBack_12 ?_
    refine za_if_ne o 23 dX2_takeBack_15 (by decide) (fun c9 => ?_) (fun c9 => ?_)
    · replace hf := hf.1 c9
      refine za_aload_n o 0 dX2_takeBack_23 rfl rfl ?_
      refine za_getf o 1 zc2 hq (Nat.le_of_ble_eq_true rfl) wfX2_22 rfl dX2_takeBack_24 ?_
      refine za_iconst (v := (1 : Int32)) o dX2_takeBack_27 (by decide) ?_
      refine za_isub o dX2_takeBack_28 ?_
      refine za_topi (fun x10 ex10 => ?_)
      replace hf := hf x10 ex10
      exact tX2_takeBack_29 o hq  a1 x10 q μ ha1 hq hf
    · replace hf := hf.2 c9
      refine za_bipush (v := (6 : Int32)) o dX2_takeBack_18 (by decide) ?_
      refine za_goto o 29 dX2_takeBack_20 (by decide) ?_
      exact tX2_takeBack_29 o hq  a1 (6 : Int32) q μ ha1 hq hf
  · replace hf := hf.2 c8
    refine za_bipush (v := (-5 : Int32)) o dX2_takeBack_7 (by decide) ?_
    exact za_iret o rfl hf dX2_takeBack_9
def fX7_undo (q : Nat)  (μ : zMem) (K : Int32 → zMem → Prop) : Prop :=
  fX2_takeBack 53 1 μ (fun r1 m2 => K r1 m2)
set_option maxRecDepth 100000 in
set_option maxHeartbeats 4000000 in
theorem ctX7_undo (l : Launch) (G : zG) {q : Nat} (hq : z_is q 7)   (μ : zMem) (K : Int32 → zMem → Prop) (hf : fX7_undo q  μ K) : z_Met l G yX7_undo cX7_undo 1 (some .int) (z_rm 4 99) [.ref (G.2.2 + q)] μ K := by
  refine z_body (by decide) (Nat.le_of_ble_eq_true rfl) (fun p e s m args below meth c o => ?_)
  have o : za_Ok (z_rm 4 99) 0 0 p s m args meth c G RX7 cX7_undo 1 (some .int) := o
  show za_At p l e (z_rm 4 99) s m args below meth c (MQ below (zQi G K) args s 0 0 (zA G)) G 1 0 0 0 [(0, .ref (G.2.2 + q))] [] μ
  unfold fX7_undo at hf
  refine za_aload_n o 0 dX7_undo_0 rfl rfl ?_
  refine za_getf o 1 zc7 hq (Nat.le_of_ble_eq_true rfl) wfX7_19 rfl dX7_undo_1 ?_
  refine za_aload_n o 0 dX7_undo_4 rfl rfl ?_
  refine za_getf o 0 zc7 hq (Nat.le_of_ble_eq_true rfl) wfX7_10 rfl dX7_undo_5 ?_
  refine za_callVi o [.ref (G.2.2 + 1)] (ctX2_takeBack l G zk_c2 1 zk_c0 μ _ hf) zc2 zk_c2 mwX2_takeBack wmX7_128 wiX2_takeBack wsX2_takeBack rfl ⟨Nat.le_of_ble_eq_true rfl, Nat.le_of_ble_eq_true rfl⟩ rfl (Nat.le_of_ble_eq_true rfl) dX7_undo_8 (fun r1 m2 hf => ?_)
  exact za_iret o rfl hf dX7_undo_11
def fX6_store_9  (K : Int32 → zMem → Prop) (q : Nat)  (μ : zMem) : Prop :=
  K (-2 : Int32) μ
def fX6_store (q : Nat) (a1 : Int32) (a2 : Nat) (μ : zMem) (K : Int32 → zMem → Prop) : Prop :=
  ((a1 < 0 → fX6_store_9  K q  μ) ∧ (¬ a1 < 0 → ((a1 < (2 : Int32) → (vp_in a1 2 ∧ (∀ q4 : Nat, q4 = (q + 1) + 2 + 52 * a1.toNatClampNeg → fX0_become q4 a2 μ (fun m6 => (vp_in a1 2 ∧ (∀ m8 : zMem, m8 = z_up m6 (q + 2) a1.toNatClampNeg (vp_nar .boolean (1 : Int32)) → K (m8 a2 3) m8)))))) ∧ (¬ a1 < (2 : Int32) → fX6_store_9  K q  μ))))
set_option maxRecDepth 100000 in
set_option maxHeartbeats 4000000 in
theorem tX6_store_9 {p : Program} {l : Launch} {e : Env} {s : State} {m : MethodId} {args : Array Value} {below : List Frame} {meth : Method} {c : Code} {G : zG}  {K : Int32 → zMem → Prop} (o : za_Ok (z_rm 3 78) 0 0 p s m args meth c G RX6 cX6_store 3 (some .int)) {q : Nat} (hq : z_is q 6)   (μ : zMem)  (hf : fX6_store_9  K q  μ) : za_At p l e (z_rm 3 78) s m args below meth c (MQ below (zQi G K) args s 0 0 (zA G)) G 3 0 0 9 [] [] μ := by
  unfold fX6_store_9 at hf
  refine za_bipush (v := (-2 : Int32)) o dX6_store_9 (by decide) ?_
  exact za_iret o rfl hf dX6_store_11
set_option maxRecDepth 100000 in
set_option maxHeartbeats 4000000 in
theorem ctX6_store (l : Launch) (G : zG) {q : Nat} (hq : z_is q 6) (a1 : Int32) (a2 : Nat) (ha2 : z_is a2 0) (μ : zMem) (K : Int32 → zMem → Prop) (hf : fX6_store q a1 a2 μ K) : z_Met l G yX6_store cX6_store 3 (some .int) (z_rm 3 78) [.ref (G.2.2 + q), .int a1, .ref (G.2.2 + a2)] μ K := by
  refine z_body (by decide) (Nat.le_of_ble_eq_true rfl) (fun p e s m args below meth c o => ?_)
  have o : za_Ok (z_rm 3 78) 0 0 p s m args meth c G RX6 cX6_store 3 (some .int) := o
  show za_At p l e (z_rm 3 78) s m args below meth c (MQ below (zQi G K) args s 0 0 (zA G)) G 3 0 0 0 [(0, .ref (G.2.2 + q)), (1, .int a1), (2, .ref (G.2.2 + a2))] [] μ
  unfold fX6_store at hf
  refine za_iload_n o 1 dX6_store_0 rfl rfl ?_
  refine za_if_lt o 9 dX6_store_1 (by decide) (fun c1 => ?_) (fun c1 => ?_)
  · replace hf := hf.1 c1
    refine za_sub [] rfl ?_
    exact tX6_store_9 o hq   μ  hf
  · replace hf := hf.2 c1
    refine za_iload_n o 1 dX6_store_4 rfl rfl ?_
    refine za_iconst (v := (2 : Int32)) o dX6_store_5 (by decide) ?_
    refine za_icmp_lt o 12 dX6_store_6 (by decide) (fun c2 => ?_) (fun c2 => ?_)
    · replace hf := hf.1 c2
      refine za_aload_n o 0 dX6_store_12 rfl rfl ?_
      refine za_getf o 0 zc6 hq (Nat.le_of_ble_eq_true rfl) wfX6_11 rfl dX6_store_13 ?_
      refine za_iload_n o 1 dX6_store_16 rfl rfl ?_
      obtain ⟨g3, hf⟩ := hf
      refine za_aald o (zk_6_14 hq) rfl rfl rfl g3 dX6_store_17 ?_
      refine za_topr (fun q4 eq4 => ?_)
      replace hf := hf q4 eq4
      have hq4 : z_is q4 0 := by rw [eq4]; exact zk_a14 (zk_6_14 hq) (z_lt g3)
      refine za_aload_n o 2 dX6_store_18 rfl rfl ?_
      refine za_callVv o [.ref (G.2.2 + a2)] (ctX0_become l G hq4 a2 ha2 μ _ hf) zc0 hq4 mwX0_become wmX6_22 wiX0_become wsX0_become rfl ⟨Nat.le_of_ble_eq_true rfl, Nat.le_of_ble_eq_true rfl⟩ rfl (Nat.le_of_ble_eq_true rfl) dX6_store_19 (fun m6 hf => ?_)
      refine za_aload_n o 0 dX6_store_22 rfl rfl ?_
      refine za_getf o 1 zc6 hq (Nat.le_of_ble_eq_true rfl) wfX6_17 rfl dX6_store_23 ?_
      refine za_iload_n o 1 dX6_store_26 rfl rfl ?_
      refine za_iconst (v := (1 : Int32)) o dX6_store_27 (by decide) ?_
      obtain ⟨g7, hf⟩ := hf
      refine za_zast o (zk_6_15 hq) rfl g7 dX6_store_28 ?_
      refine za_mem (fun m8 em8 => ?_)
      replace hf := hf m8 em8
      refine za_aload_n o 2 dX6_store_29 rfl rfl ?_
      refine za_getfN o 3 "CanteenPlates" zc0 ha2 (Nat.le_of_ble_eq_true rfl) wnX6_26 rfl dX6_store_30 ?_
      exact za_iret o rfl hf dX6_store_33
    · replace hf := hf.2 c2
      refine za_sub [] rfl ?_
      exact tX6_store_9 o hq   μ  hf
def fX7_save (q : Nat) (a1 : Int32) (μ : zMem) (K : Int32 → zMem → Prop) : Prop :=
  fX6_store 419 a1 1 μ (fun r1 m2 => K r1 m2)
set_option maxRecDepth 100000 in
set_option maxHeartbeats 4000000 in
theorem ctX7_save (l : Launch) (G : zG) {q : Nat} (hq : z_is q 7) (a1 : Int32)  (μ : zMem) (K : Int32 → zMem → Prop) (hf : fX7_save q a1 μ K) : z_Met l G yX7_save cX7_save 2 (some .int) (z_rm 4 100) [.ref (G.2.2 + q), .int a1] μ K := by
  refine z_body (by decide) (Nat.le_of_ble_eq_true rfl) (fun p e s m args below meth c o => ?_)
  have o : za_Ok (z_rm 4 100) 0 0 p s m args meth c G RX7 cX7_save 2 (some .int) := o
  show za_At p l e (z_rm 4 100) s m args below meth c (MQ below (zQi G K) args s 0 0 (zA G)) G 2 0 0 0 [(0, .ref (G.2.2 + q)), (1, .int a1)] [] μ
  unfold fX7_save at hf
  refine za_aload_n o 0 dX7_save_0 rfl rfl ?_
  refine za_getf o 2 zc7 hq (Nat.le_of_ble_eq_true rfl) wfX7_26 rfl dX7_save_1 ?_
  refine za_iload_n o 1 dX7_save_4 rfl rfl ?_
  refine za_aload_n o 0 dX7_save_5 rfl rfl ?_
  refine za_getf o 0 zc7 hq (Nat.le_of_ble_eq_true rfl) wfX7_10 rfl dX7_save_6 ?_
  refine za_callVi o [.int a1, .ref (G.2.2 + 1)] (ctX6_store l G zk_c6 a1 1 zk_c0 μ _ hf) zc6 zk_c6 mwX6_store wmX7_132 wiX6_store wsX6_store rfl ⟨Nat.le_of_ble_eq_true rfl, Nat.le_of_ble_eq_true rfl⟩ rfl (Nat.le_of_ble_eq_true rfl) dX7_save_9 (fun r1 m2 hf => ?_)
  exact za_iret o rfl hf dX7_save_12
def fX6_fetch_9  (K : Int32 → zMem → Prop) (q : Nat)  (μ : zMem) : Prop :=
  K (-2 : Int32) μ
def fX6_fetch (q : Nat) (a1 : Int32) (a2 : Nat) (μ : zMem) (K : Int32 → zMem → Prop) : Prop :=
  ((a1 < 0 → fX6_fetch_9  K q  μ) ∧ (¬ a1 < 0 → ((a1 < (2 : Int32) → (vp_in a1 2 ∧ (∀ x4 : Int32, x4 = (μ (q + 2) a1.toNatClampNeg) → ((¬ x4 = 0 → (vp_in a1 2 ∧ (∀ q7 : Nat, q7 = (q + 1) + 2 + 52 * a1.toNatClampNeg → fX0_become a2 q7 μ (fun m9 => K (m9 a2 3) m9)))) ∧ (x4 = 0 → K (-5 : Int32) μ))))) ∧ (¬ a1 < (2 : Int32) → fX6_fetch_9  K q  μ))))
set_option maxRecDepth 100000 in
set_option maxHeartbeats 4000000 in
theorem tX6_fetch_9 {p : Program} {l : Launch} {e : Env} {s : State} {m : MethodId} {args : Array Value} {below : List Frame} {meth : Method} {c : Code} {G : zG}  {K : Int32 → zMem → Prop} (o : za_Ok (z_rm 3 78) 0 0 p s m args meth c G RX6 cX6_fetch 3 (some .int)) {q : Nat} (hq : z_is q 6)   (μ : zMem)  (hf : fX6_fetch_9  K q  μ) : za_At p l e (z_rm 3 78) s m args below meth c (MQ below (zQi G K) args s 0 0 (zA G)) G 3 0 0 9 [] [] μ := by
  unfold fX6_fetch_9 at hf
  refine za_bipush (v := (-2 : Int32)) o dX6_fetch_9 (by decide) ?_
  exact za_iret o rfl hf dX6_fetch_11
set_option maxRecDepth 100000 in
set_option maxHeartbeats 4000000 in
theorem ctX6_fetch (l : Launch) (G : zG) {q : Nat} (hq : z_is q 6) (a1 : Int32) (a2 : Nat) (ha2 : z_is a2 0) (μ : zMem) (K : Int32 → zMem → Prop) (hf : fX6_fetch q a1 a2 μ K) : z_Met l G yX6_fetch cX6_fetch 3 (some .int) (z_rm 3 78) [.ref (G.2.2 + q), .int a1, .ref (G.2.2 + a2)] μ K := by
  refine z_body (by decide) (Nat.le_of_ble_eq_true rfl) (fun p e s m args below meth c o => ?_)
  have o : za_Ok (z_rm 3 78) 0 0 p s m args meth c G RX6 cX6_fetch 3 (some .int) := o
  show za_At p l e (z_rm 3 78) s m args below meth c (MQ below (zQi G K) args s 0 0 (zA G)) G 3 0 0 0 [(0, .ref (G.2.2 + q)), (1, .int a1), (2, .ref (G.2.2 + a2))] [] μ
  unfold fX6_fetch at hf
  refine za_iload_n o 1 dX6_fetch_0 rfl rfl ?_
  refine za_if_lt o 9 dX6_fetch_1 (by decide) (fun c1 => ?_) (fun c1 => ?_)
  · replace hf := hf.1 c1
    refine za_sub [] rfl ?_
    exact tX6_fetch_9 o hq   μ  hf
  · replace hf := hf.2 c1
    refine za_iload_n o 1 dX6_fetch_4 rfl rfl ?_
    refine za_iconst (v := (2 : Int32)) o dX6_fetch_5 (by decide) ?_
    refine za_icmp_lt o 12 dX6_fetch_6 (by decide) (fun c2 => ?_) (fun c2 => ?_)
    · replace hf := hf.1 c2
      refine za_aload_n o 0 dX6_fetch_12 rfl rfl ?_
      refine za_getf o 1 zc6 hq (Nat.le_of_ble_eq_true rfl) wfX6_17 rfl dX6_fetch_13 ?_
      refine za_iload_n o 1 dX6_fetch_16 rfl rfl ?_
      obtain ⟨g3, hf⟩ := hf
      refine za_zald o (zk_6_15 hq) rfl g3 dX6_fetch_17 ?_
      refine za_topi (fun x4 ex4 => ?_)
      replace hf := hf x4 ex4
      refine za_if_ne o 24 dX6_fetch_18 (by decide) (fun c5 => ?_) (fun c5 => ?_)
      · replace hf := hf.1 c5
        refine za_aload_n o 2 dX6_fetch_24 rfl rfl ?_
        refine za_aload_n o 0 dX6_fetch_25 rfl rfl ?_
        refine za_getf o 0 zc6 hq (Nat.le_of_ble_eq_true rfl) wfX6_11 rfl dX6_fetch_26 ?_
        refine za_iload_n o 1 dX6_fetch_29 rfl rfl ?_
        obtain ⟨g6, hf⟩ := hf
        refine za_aald o (zk_6_14 hq) rfl rfl rfl g6 dX6_fetch_30 ?_
        refine za_topr (fun q7 eq7 => ?_)
        replace hf := hf q7 eq7
        have hq7 : z_is q7 0 := by rw [eq7]; exact zk_a14 (zk_6_14 hq) (z_lt g6)
        refine za_callVv o [.ref (G.2.2 + q7)] (ctX0_become l G ha2 q7 hq7 μ _ hf) zc0 ha2 mwX0_become wmX6_22 wiX0_become wsX0_become rfl ⟨Nat.le_of_ble_eq_true rfl, Nat.le_of_ble_eq_true rfl⟩ rfl (Nat.le_of_ble_eq_true rfl) dX6_fetch_31 (fun m9 hf => ?_)
        refine za_aload_n o 2 dX6_fetch_34 rfl rfl ?_
        refine za_getfN o 3 "CanteenPlates" zc0 ha2 (Nat.le_of_ble_eq_true rfl) wnX6_26 rfl dX6_fetch_35 ?_
        exact za_iret o rfl hf dX6_fetch_38
      · replace hf := hf.2 c5
        refine za_bipush (v := (-5 : Int32)) o dX6_fetch_21 (by decide) ?_
        exact za_iret o rfl hf dX6_fetch_23
    · replace hf := hf.2 c2
      refine za_sub [] rfl ?_
      exact tX6_fetch_9 o hq   μ  hf
def fX7_restore (q : Nat) (a1 : Int32) (μ : zMem) (K : Int32 → zMem → Prop) : Prop :=
  fX2_note 53 1 μ (fun m2 => fX6_fetch 419 a1 1 m2 (fun r3 m4 => fX2_keep 53 r3 m4 (fun r5 m6 => K r5 m6)))
set_option maxRecDepth 100000 in
set_option maxHeartbeats 4000000 in
theorem ctX7_restore (l : Launch) (G : zG) {q : Nat} (hq : z_is q 7) (a1 : Int32)  (μ : zMem) (K : Int32 → zMem → Prop) (hf : fX7_restore q a1 μ K) : z_Met l G yX7_restore cX7_restore 2 (some .int) (z_rm 4 100) [.ref (G.2.2 + q), .int a1] μ K := by
  refine z_body (by decide) (Nat.le_of_ble_eq_true rfl) (fun p e s m args below meth c o => ?_)
  have o : za_Ok (z_rm 4 100) 0 0 p s m args meth c G RX7 cX7_restore 2 (some .int) := o
  show za_At p l e (z_rm 4 100) s m args below meth c (MQ below (zQi G K) args s 0 0 (zA G)) G 2 0 0 0 [(0, .ref (G.2.2 + q)), (1, .int a1)] [] μ
  unfold fX7_restore at hf
  refine za_aload_n o 0 dX7_restore_0 rfl rfl ?_
  refine za_getf o 1 zc7 hq (Nat.le_of_ble_eq_true rfl) wfX7_19 rfl dX7_restore_1 ?_
  refine za_aload_n o 0 dX7_restore_4 rfl rfl ?_
  refine za_getf o 0 zc7 hq (Nat.le_of_ble_eq_true rfl) wfX7_10 rfl dX7_restore_5 ?_
  refine za_callVv o [.ref (G.2.2 + 1)] (ctX2_note l G zk_c2 1 zk_c0 μ _ hf) zc2 zk_c2 mwX2_note wmX7_46 wiX2_note wsX2_note rfl ⟨Nat.le_of_ble_eq_true rfl, Nat.le_of_ble_eq_true rfl⟩ rfl (Nat.le_of_ble_eq_true rfl) dX7_restore_8 (fun m2 hf => ?_)
  refine za_aload_n o 0 dX7_restore_11 rfl rfl ?_
  refine za_getf o 1 zc7 hq (Nat.le_of_ble_eq_true rfl) wfX7_19 rfl dX7_restore_12 ?_
  refine za_aload_n o 0 dX7_restore_15 rfl rfl ?_
  refine za_getf o 2 zc7 hq (Nat.le_of_ble_eq_true rfl) wfX7_26 rfl dX7_restore_16 ?_
  refine za_iload_n o 1 dX7_restore_19 rfl rfl ?_
  refine za_aload_n o 0 dX7_restore_20 rfl rfl ?_
  refine za_getf o 0 zc7 hq (Nat.le_of_ble_eq_true rfl) wfX7_10 rfl dX7_restore_21 ?_
  refine za_callVi o [.int a1, .ref (G.2.2 + 1)] (ctX6_fetch l G zk_c6 a1 1 zk_c0 m2 _ hf) zc6 zk_c6 mwX6_fetch wmX7_136 wiX6_fetch wsX6_fetch rfl ⟨Nat.le_of_ble_eq_true rfl, Nat.le_of_ble_eq_true rfl⟩ rfl (Nat.le_of_ble_eq_true rfl) dX7_restore_24 (fun r3 m4 hf => ?_)
  refine za_callVi o [.int r3] (ctX2_keep l G zk_c2 r3  m4 _ hf) zc2 zk_c2 mwX2_keep wmX7_54 wiX2_keep wsX2_keep rfl ⟨Nat.le_of_ble_eq_true rfl, Nat.le_of_ble_eq_true rfl⟩ rfl (Nat.le_of_ble_eq_true rfl) dX7_restore_27 (fun r5 m6 hf => ?_)
  exact za_iret o rfl hf dX7_restore_30
def fX8_in_15  (K : Int32 → zMem → Prop) (v1 : Int32) (μ : zMem) : Prop :=
  (z_b v1 ∧ K v1 μ)
def fX8_in_14  (K : Int32 → zMem → Prop)  (μ : zMem) : Prop :=
  fX8_in_15  K  (0 : Int32) μ
def fX8_in (a1 : Int32) (a2 : Int32) (a3 : Int32) (μ : zMem) (K : Int32 → zMem → Prop) : Prop :=
  ((a1 < a2 → fX8_in_14  K   μ) ∧ (¬ a1 < a2 → ((a3 < a1 → fX8_in_14  K   μ) ∧ (¬ a3 < a1 → fX8_in_15  K  (1 : Int32) μ))))
set_option maxRecDepth 100000 in
set_option maxHeartbeats 4000000 in
theorem tX8_in_15 {p : Program} {l : Launch} {e : Env} {s : State} {m : MethodId} {args : Array Value} {below : List Frame} {meth : Method} {c : Code} {G : zG}  {K : Int32 → zMem → Prop} (o : za_Ok (z_rm 0 0) 0 0 p s m args meth c G RX8 cX8_in 3 (some .boolean))  (v1 : Int32) (μ : zMem)  (hf : fX8_in_15  K v1 μ) : za_At p l e (z_rm 0 0) s m args below meth c (MQ below (zQi G K) args s 0 0 (zA G)) G 3 0 0 15 [] [.int v1] μ := by
  unfold fX8_in_15 at hf
  exact za_zret o rfl hf.1 hf.2 dX8_in_15
set_option maxRecDepth 100000 in
set_option maxHeartbeats 4000000 in
theorem tX8_in_14 {p : Program} {l : Launch} {e : Env} {s : State} {m : MethodId} {args : Array Value} {below : List Frame} {meth : Method} {c : Code} {G : zG}  {K : Int32 → zMem → Prop} (o : za_Ok (z_rm 0 0) 0 0 p s m args meth c G RX8 cX8_in 3 (some .boolean))   (μ : zMem)  (hf : fX8_in_14  K  μ) : za_At p l e (z_rm 0 0) s m args below meth c (MQ below (zQi G K) args s 0 0 (zA G)) G 3 0 0 14 [] [] μ := by
  unfold fX8_in_14 at hf
  refine za_iconst (v := (0 : Int32)) o dX8_in_14 (by decide) ?_
  exact tX8_in_15 o   (0 : Int32) μ  hf
set_option maxRecDepth 100000 in
set_option maxHeartbeats 4000000 in
theorem ctX8_in (l : Launch) (G : zG) (a1 : Int32) (a2 : Int32) (a3 : Int32)  (μ : zMem) (K : Int32 → zMem → Prop) (hf : fX8_in a1 a2 a3 μ K) : z_Met l G yX8_in cX8_in 3 (some .boolean) (z_rm 0 0) [.int a1, .int a2, .int a3] μ K := by
  refine z_body (by decide) (Nat.le_of_ble_eq_true rfl) (fun p e s m args below meth c o => ?_)
  have o : za_Ok (z_rm 0 0) 0 0 p s m args meth c G RX8 cX8_in 3 (some .boolean) := o
  show za_At p l e (z_rm 0 0) s m args below meth c (MQ below (zQi G K) args s 0 0 (zA G)) G 3 0 0 0 [(0, .int a1), (1, .int a2), (2, .int a3)] [] μ
  unfold fX8_in at hf
  refine za_iload_n o 0 dX8_in_0 rfl rfl ?_
  refine za_iload_n o 1 dX8_in_1 rfl rfl ?_
  refine za_icmp_lt o 14 dX8_in_2 (by decide) (fun c1 => ?_) (fun c1 => ?_)
  · replace hf := hf.1 c1
    refine za_sub [] rfl ?_
    exact tX8_in_14 o    μ  hf
  · replace hf := hf.2 c1
    refine za_iload_n o 0 dX8_in_5 rfl rfl ?_
    refine za_iload_n o 2 dX8_in_6 rfl rfl ?_
    refine za_icmp_gt o 14 dX8_in_7 (by decide) (fun c2 => ?_) (fun c2 => ?_)
    · replace hf := hf.1 c2
      refine za_sub [] rfl ?_
      exact tX8_in_14 o    μ  hf
    · replace hf := hf.2 c2
      refine za_iconst (v := (1 : Int32)) o dX8_in_10 (by decide) ?_
      refine za_goto o 15 dX8_in_11 (by decide) ?_
      refine za_sub [] rfl ?_
      exact tX8_in_15 o   (1 : Int32) μ  hf
def fX8_p (a1 : Int32) (μ : zMem) (K : Int32 → zMem → Prop) : Prop :=
  (∀ x1 : Int32, x1 = ((17 : Int32) * a1) → (∀ x2 : Int32, x2 = ((38 : Int32) + x1) → K x2 μ))
set_option maxRecDepth 100000 in
set_option maxHeartbeats 4000000 in
theorem ctX8_p (l : Launch) (G : zG) (a1 : Int32)  (μ : zMem) (K : Int32 → zMem → Prop) (hf : fX8_p a1 μ K) : z_Met l G yX8_p cX8_p 1 (some .int) (z_rm 0 0) [.int a1] μ K := by
  refine z_body (by decide) (Nat.le_of_ble_eq_true rfl) (fun p e s m args below meth c o => ?_)
  have o : za_Ok (z_rm 0 0) 0 0 p s m args meth c G RX8 cX8_p 1 (some .int) := o
  show za_At p l e (z_rm 0 0) s m args below meth c (MQ below (zQi G K) args s 0 0 (zA G)) G 1 0 0 0 [(0, .int a1)] [] μ
  unfold fX8_p at hf
  refine za_bipush (v := (38 : Int32)) o dX8_p_0 (by decide) ?_
  refine za_bipush (v := (17 : Int32)) o dX8_p_2 (by decide) ?_
  refine za_iload_n o 0 dX8_p_4 rfl rfl ?_
  refine za_imul o dX8_p_5 ?_
  refine za_topi (fun x1 ex1 => ?_)
  replace hf := hf x1 ex1
  refine za_iadd o dX8_p_6 ?_
  refine za_topi (fun x2 ex2 => ?_)
  replace hf := hf x2 ex2
  exact za_iret o rfl hf dX8_p_7
def fX8_d (a1 : Int32) (μ : zMem) (K : Int32 → zMem → Prop) : Prop :=
  (∀ x1 : Int32, x1 = ((5 : Int32) * a1) → (∀ x2 : Int32, x2 = ((23 : Int32) + x1) → K x2 μ))
set_option maxRecDepth 100000 in
set_option maxHeartbeats 4000000 in
theorem ctX8_d (l : Launch) (G : zG) (a1 : Int32)  (μ : zMem) (K : Int32 → zMem → Prop) (hf : fX8_d a1 μ K) : z_Met l G yX8_d cX8_d 1 (some .int) (z_rm 0 0) [.int a1] μ K := by
  refine z_body (by decide) (Nat.le_of_ble_eq_true rfl) (fun p e s m args below meth c o => ?_)
  have o : za_Ok (z_rm 0 0) 0 0 p s m args meth c G RX8 cX8_d 1 (some .int) := o
  show za_At p l e (z_rm 0 0) s m args below meth c (MQ below (zQi G K) args s 0 0 (zA G)) G 1 0 0 0 [(0, .int a1)] [] μ
  unfold fX8_d at hf
  refine za_bipush (v := (23 : Int32)) o dX8_d_0 (by decide) ?_
  refine za_iconst (v := (5 : Int32)) o dX8_d_2 (by decide) ?_
  refine za_iload_n o 0 dX8_d_3 rfl rfl ?_
  refine za_imul o dX8_d_4 ?_
  refine za_topi (fun x1 ex1 => ?_)
  replace hf := hf x1 ex1
  refine za_iadd o dX8_d_5 ?_
  refine za_topi (fun x2 ex2 => ?_)
  replace hf := hf x2 ex2
  exact za_iret o rfl hf dX8_d_6
def fX8_isPerson (q : Nat) (a1 : Int32) (μ : zMem) (K : Int32 → zMem → Prop) : Prop :=
  (∀ x1 : Int32, x1 = (μ 530 5) → (∀ x2 : Int32, x2 = (x1 - (1 : Int32)) → fX8_in a1 (0 : Int32) x2 μ (fun r3 m4 => (z_b r3 ∧ K r3 m4))))
set_option maxRecDepth 100000 in
set_option maxHeartbeats 4000000 in
theorem ctX8_isPerson (l : Launch) (G : zG) {q : Nat} (hq : z_is q 8) (a1 : Int32)  (μ : zMem) (K : Int32 → zMem → Prop) (hf : fX8_isPerson q a1 μ K) : z_Met l G yX8_isPerson cX8_isPerson 2 (some .boolean) (z_rm 1 22) [.ref (G.2.2 + q), .int a1] μ K := by
  refine z_body (by decide) (Nat.le_of_ble_eq_true rfl) (fun p e s m args below meth c o => ?_)
  have o : za_Ok (z_rm 1 22) 0 0 p s m args meth c G RX8 cX8_isPerson 2 (some .boolean) := o
  show za_At p l e (z_rm 1 22) s m args below meth c (MQ below (zQi G K) args s 0 0 (zA G)) G 2 0 0 0 [(0, .ref (G.2.2 + q)), (1, .int a1)] [] μ
  unfold fX8_isPerson at hf
  refine za_iload_n o 1 dX8_isPerson_0 rfl rfl ?_
  refine za_iconst (v := (0 : Int32)) o dX8_isPerson_1 (by decide) ?_
  refine za_aload_n o 0 dX8_isPerson_2 rfl rfl ?_
  refine za_getf o 0 zc8 hq (Nat.le_of_ble_eq_true rfl) wfX8_7 rfl dX8_isPerson_3 ?_
  refine za_iconst (v := (5 : Int32)) o dX8_isPerson_6 (by decide) ?_
  refine za_iald o zk_m0 rfl (by unfold vp_in; decide) dX8_isPerson_7 ?_
  refine za_topi (fun x1 ex1 => ?_)
  replace hf := hf x1 ex1
  refine za_iconst (v := (1 : Int32)) o dX8_isPerson_8 (by decide) ?_
  refine za_isub o dX8_isPerson_9 ?_
  refine za_topi (fun x2 ex2 => ?_)
  replace hf := hf x2 ex2
  refine za_callSi o [.int a1, .int (0 : Int32), .int x2] (ctX8_in l G a1 (0 : Int32) x2  μ _ hf) mwX8_in wmX8_33 wtX8_in rfl ⟨Nat.le_of_ble_eq_true rfl, Nat.le_of_ble_eq_true rfl⟩ rfl (Nat.le_of_ble_eq_true rfl) dX8_isPerson_10 (fun r3 m4 hf => ?_)
  exact za_zret o rfl hf.1 hf.2 dX8_isPerson_13
def fX8_isDish (a1 : Int32) (μ : zMem) (K : Int32 → zMem → Prop) : Prop :=
  fX8_in a1 (0 : Int32) (2 : Int32) μ (fun r1 m2 => (z_b r1 ∧ K r1 m2))
set_option maxRecDepth 100000 in
set_option maxHeartbeats 4000000 in
theorem ctX8_isDish (l : Launch) (G : zG) (a1 : Int32)  (μ : zMem) (K : Int32 → zMem → Prop) (hf : fX8_isDish a1 μ K) : z_Met l G yX8_isDish cX8_isDish 1 (some .boolean) (z_rm 1 22) [.int a1] μ K := by
  refine z_body (by decide) (Nat.le_of_ble_eq_true rfl) (fun p e s m args below meth c o => ?_)
  have o : za_Ok (z_rm 1 22) 0 0 p s m args meth c G RX8 cX8_isDish 1 (some .boolean) := o
  show za_At p l e (z_rm 1 22) s m args below meth c (MQ below (zQi G K) args s 0 0 (zA G)) G 1 0 0 0 [(0, .int a1)] [] μ
  unfold fX8_isDish at hf
  refine za_iload_n o 0 dX8_isDish_0 rfl rfl ?_
  refine za_iconst (v := (0 : Int32)) o dX8_isDish_1 (by decide) ?_
  refine za_iconst (v := (2 : Int32)) o dX8_isDish_2 (by decide) ?_
  refine za_callSi o [.int a1, .int (0 : Int32), .int (2 : Int32)] (ctX8_in l G a1 (0 : Int32) (2 : Int32)  μ _ hf) mwX8_in wmX8_33 wtX8_in rfl ⟨Nat.le_of_ble_eq_true rfl, Nat.le_of_ble_eq_true rfl⟩ rfl (Nat.le_of_ble_eq_true rfl) dX8_isDish_3 (fun r1 m2 hf => ?_)
  exact za_zret o rfl hf.1 hf.2 dX8_isDish_6
def fX8_hold_2b (k2 : Int32 → zMem → Prop) (K : zMem → Prop) (q : Nat) (v1 : Int32) (μ : zMem) : Prop :=
  (((276 : Int32) ≤ v1 → K μ) ∧ (¬ (276 : Int32) ≤ v1 → (vp_in v1 276 ∧ (∀ x3 : Int32, x3 = (μ 530 v1.toNatClampNeg) → (vp_in v1 276 ∧ (∀ m5 : zMem, m5 = z_up μ 531 v1.toNatClampNeg x3 → (∀ x6 : Int32, x6 = v1 + (1 : Int32) → k2 x6 m5)))))))
def fX8_hold_2  (K : zMem → Prop) (q : Nat) (n : Nat) : Int32 → zMem → Prop := z_it (fun k => fX8_hold_2b  k K q ) (fun _ _ => False) n
def fX8_hold (q : Nat)  (μ : zMem) (K : zMem → Prop) : Prop :=
  fX8_hold_2  K q zFU (0 : Int32) μ
set_option maxRecDepth 100000 in
set_option maxHeartbeats 4000000 in
theorem tX8_hold_2b {p : Program} {l : Launch} {e : Env} {s : State} {m : MethodId} {args : Array Value} {below : List Frame} {meth : Method} {c : Code} {G : zG} {k2 : Int32 → zMem → Prop} {K : zMem → Prop} (o : za_Ok (z_rm 0 0) 0 0 p s m args meth c G RX8 cX8_hold 2 none) {q : Nat} (hq : z_is q 8) (hk2 : ∀ (v1 : Int32) (μ : zMem), k2 v1 μ → za_At p l e (z_rm 0 0) s m args below meth c (MQ below (zQv G K) args s 0 0 (zA G)) G 2 0 0 2 [(0, .ref (G.2.2 + q)), (1, .int v1)] [] μ) (v1 : Int32) (μ : zMem)  (hf : fX8_hold_2b k2 K q v1 μ) : za_At p l e (z_rm 0 0) s m args below meth c (MQ below (zQv G K) args s 0 0 (zA G)) G 2 0 0 2 [(0, .ref (G.2.2 + q)), (1, .int v1)] [] μ := by
  unfold fX8_hold_2b at hf
  refine za_iload_n o 1 dX8_hold_2 rfl rfl ?_
  refine za_sipush (v := (276 : Int32)) o dX8_hold_3 (by decide) ?_
  refine za_icmp_ge o 27 dX8_hold_6 (by decide) (fun c1 => ?_) (fun c1 => ?_)
  · replace hf := hf.1 c1
    exact za_vret o rfl hf dX8_hold_27
  · replace hf := hf.2 c1
    refine za_aload_n o 0 dX8_hold_9 rfl rfl ?_
    refine za_getf o 1 zc8 hq (Nat.le_of_ble_eq_true rfl) wfX8_13 rfl dX8_hold_10 ?_
    refine za_iload_n o 1 dX8_hold_13 rfl rfl ?_
    refine za_aload_n o 0 dX8_hold_14 rfl rfl ?_
    refine za_getf o 0 zc8 hq (Nat.le_of_ble_eq_true rfl) wfX8_7 rfl dX8_hold_15 ?_
    refine za_iload_n o 1 dX8_hold_18 rfl rfl ?_
    obtain ⟨g2, hf⟩ := hf
    refine za_iald o zk_m0 rfl g2 dX8_hold_19 ?_
    refine za_topi (fun x3 ex3 => ?_)
    replace hf := hf x3 ex3
    obtain ⟨g4, hf⟩ := hf
    refine za_iast o zk_m1 rfl g4 dX8_hold_20 ?_
    refine za_mem (fun m5 em5 => ?_)
    replace hf := hf m5 em5
    obtain ⟨x6, ex6⟩ : ∃ y : Int32, y = v1 + (1 : Int32) := ⟨_, rfl⟩
    replace hf := hf x6 ex6
    refine za_iinc o x6 1 [(1, .int x6), (0, .ref (G.2.2 + q))] dX8_hold_21 rfl (by rw [ex6]; rfl) (by decide) rfl ?_
    refine za_goto o 2 dX8_hold_24 (by decide) ?_
    refine za_sub [1, 0] rfl ?_
    exact hk2 x6 m5  hf
theorem tX8_hold_2 {p : Program} {l : Launch} {e : Env} {s : State} {m : MethodId} {args : Array Value} {below : List Frame} {meth : Method} {c : Code} {G : zG}  {K : zMem → Prop} (o : za_Ok (z_rm 0 0) 0 0 p s m args meth c G RX8 cX8_hold 2 none) {q : Nat} (hq : z_is q 8)  (n : Nat) : ∀ (v1 : Int32) (μ : zMem), fX8_hold_2  K q n v1 μ → za_At p l e (z_rm 0 0) s m args below meth c (MQ below (zQv G K) args s 0 0 (zA G)) G 2 0 0 2 [(0, .ref (G.2.2 + q)), (1, .int v1)] [] μ := by
  induction n with
  | zero => intro _ _ hf; exact hf.elim
  | succ n ih => intro v1 μ  hf; exact tX8_hold_2b o hq  ih v1 μ  hf
set_option maxRecDepth 100000 in
set_option maxHeartbeats 4000000 in
theorem ctX8_hold (l : Launch) (G : zG) {q : Nat} (hq : z_is q 8)   (μ : zMem) (K : zMem → Prop) (hf : fX8_hold q  μ K) : z_MetV l G yX8_hold cX8_hold 2 none (z_rm 0 0) [.ref (G.2.2 + q)] μ K := by
  refine z_body (by decide) (Nat.le_of_ble_eq_true rfl) (fun p e s m args below meth c o => ?_)
  have o : za_Ok (z_rm 0 0) 0 0 p s m args meth c G RX8 cX8_hold 2 none := o
  show za_At p l e (z_rm 0 0) s m args below meth c (MQ below (zQv G K) args s 0 0 (zA G)) G 2 0 0 0 [(0, .ref (G.2.2 + q))] [] μ
  unfold fX8_hold at hf
  refine za_iconst (v := (0 : Int32)) o dX8_hold_0 (by decide) ?_
  refine za_istore_n o [(1, .int (0 : Int32)), (0, .ref (G.2.2 + q))] dX8_hold_1 rfl (by decide) rfl ?_
  refine za_sub [1, 0] rfl ?_
  exact tX8_hold_2 o hq  zFU (0 : Int32) μ  hf
def fX8_recorded_100  (K : Int32 → zMem → Prop) (q : Nat) (v1 : Int32) (μ : zMem) : Prop :=
  K v1 μ
def fX8_recorded_56b (k56 : Int32 → Int32 → zMem → Prop) (K : Int32 → zMem → Prop) (q : Nat) (v1 : Int32) (v2 : Int32) (μ : zMem) : Prop :=
  (((276 : Int32) ≤ v2 → (∀ x2 : Int32, x2 = ((μ q 8) + (1 : Int32)) → (∀ m3 : zMem, m3 = z_up μ q 8 x2 → fX8_recorded_100  K q v1 m3))) ∧ (¬ (276 : Int32) ≤ v2 → (∀ x4 : Int32, x4 = ((276 : Int32) * (μ q 8)) → (∀ x5 : Int32, x5 = (x4 + v2) → (vp_in v2 276 ∧ (∀ x7 : Int32, x7 = (μ 531 v2.toNatClampNeg) → (vp_in x5 1656 ∧ (∀ m9 : zMem, m9 = z_up μ 532 x5.toNatClampNeg x7 → (∀ x10 : Int32, x10 = v2 + (1 : Int32) → k56 v1 x10 m9)))))))))
def fX8_recorded_56  (K : Int32 → zMem → Prop) (q : Nat) (n : Nat) : Int32 → Int32 → zMem → Prop := z_it (fun k => fX8_recorded_56b  k K q ) (fun _ _ _ => False) n
def fX8_recorded_54  (K : Int32 → zMem → Prop) (q : Nat) (v1 : Int32) (μ : zMem) : Prop :=
  fX8_recorded_56  K q zFU v1 (0 : Int32) μ
def fX8_recorded_15b (k15 : Int32 → Int32 → zMem → Prop) (K : Int32 → zMem → Prop) (q : Nat) (v1 : Int32) (v2 : Int32) (μ : zMem) : Prop :=
  (((1380 : Int32) ≤ v2 → (∀ x12 : Int32, x12 = ((μ q 8) - (1 : Int32)) → (∀ m13 : zMem, m13 = z_up μ q 8 x12 → fX8_recorded_54  K q v1 m13))) ∧ (¬ (1380 : Int32) ≤ v2 → (∀ x14 : Int32, x14 = ((276 : Int32) + v2) → (vp_in x14 1656 ∧ (∀ x16 : Int32, x16 = (μ 532 x14.toNatClampNeg) → (vp_in v2 1656 ∧ (∀ m18 : zMem, m18 = z_up μ 532 v2.toNatClampNeg x16 → (∀ x19 : Int32, x19 = v2 + (1 : Int32) → k15 v1 x19 m18))))))))
def fX8_recorded_15  (K : Int32 → zMem → Prop) (q : Nat) (n : Nat) : Int32 → Int32 → zMem → Prop := z_it (fun k => fX8_recorded_15b  k K q ) (fun _ _ _ => False) n
def fX8_recorded (q : Nat) (a1 : Int32) (μ : zMem) (K : Int32 → zMem → Prop) : Prop :=
  ((a1 < 0 → fX8_recorded_100  K q a1 μ) ∧ (¬ a1 < 0 → ((¬ (μ q 8) = (6 : Int32) → fX8_recorded_54  K q a1 μ) ∧ ((μ q 8) = (6 : Int32) → fX8_recorded_15  K q zFU a1 (0 : Int32) μ))))
set_option maxRecDepth 100000 in
set_option maxHeartbeats 4000000 in
theorem tX8_recorded_100 {p : Program} {l : Launch} {e : Env} {s : State} {m : MethodId} {args : Array Value} {below : List Frame} {meth : Method} {c : Code} {G : zG}  {K : Int32 → zMem → Prop} (o : za_Ok (z_rm 0 0) 0 0 p s m args meth c G RX8 cX8_recorded 3 (some .int)) {q : Nat} (hq : z_is q 8)  (v1 : Int32) (μ : zMem)  (hf : fX8_recorded_100  K q v1 μ) : za_At p l e (z_rm 0 0) s m args below meth c (MQ below (zQi G K) args s 0 0 (zA G)) G 3 0 0 100 [(1, .int v1)] [] μ := by
  unfold fX8_recorded_100 at hf
  refine za_iload_n o 0 dX8_recorded_100 rfl rfl ?_
  exact za_iret o rfl hf dX8_recorded_101
set_option maxRecDepth 100000 in
set_option maxHeartbeats 4000000 in
theorem tX8_recorded_56b {p : Program} {l : Launch} {e : Env} {s : State} {m : MethodId} {args : Array Value} {below : List Frame} {meth : Method} {c : Code} {G : zG} {k56 : Int32 → Int32 → zMem → Prop} {K : Int32 → zMem → Prop} (o : za_Ok (z_rm 0 0) 0 0 p s m args meth c G RX8 cX8_recorded 3 (some .int)) {q : Nat} (hq : z_is q 8) (hk56 : ∀ (v1 : Int32) (v2 : Int32) (μ : zMem), k56 v1 v2 μ → za_At p l e (z_rm 0 0) s m args below meth c (MQ below (zQi G K) args s 0 0 (zA G)) G 3 0 0 56 [(0, .ref (G.2.2 + q)), (1, .int v1), (2, .int v2)] [] μ) (v1 : Int32) (v2 : Int32) (μ : zMem)  (hf : fX8_recorded_56b k56 K q v1 v2 μ) : za_At p l e (z_rm 0 0) s m args below meth c (MQ below (zQi G K) args s 0 0 (zA G)) G 3 0 0 56 [(0, .ref (G.2.2 + q)), (1, .int v1), (2, .int v2)] [] μ := by
  unfold fX8_recorded_56b at hf
  refine za_iload_n o 2 dX8_recorded_56 rfl rfl ?_
  refine za_sipush (v := (276 : Int32)) o dX8_recorded_57 (by decide) ?_
  refine za_icmp_ge o 90 dX8_recorded_60 (by decide) (fun c1 => ?_) (fun c1 => ?_)
  · replace hf := hf.1 c1
    refine za_aload_n o 0 dX8_recorded_90 rfl rfl ?_
    refine za_dup o dX8_recorded_91 rfl ?_
    refine za_getf o 8 zc8 hq (Nat.le_of_ble_eq_true rfl) wfX8_37 rfl dX8_recorded_92 ?_
    refine za_iconst (v := (1 : Int32)) o dX8_recorded_95 (by decide) ?_
    refine za_iadd o dX8_recorded_96 ?_
    refine za_topi (fun x2 ex2 => ?_)
    replace hf := hf x2 ex2
    refine za_putf (ty := .int) o 8 zc8 hq (Nat.le_of_ble_eq_true rfl) wfX8_37 rfl (by decide +kernel) rfl rfl (Nat.le_of_ble_eq_true rfl) rfl dX8_recorded_97 ?_
    refine za_mem (fun m3 em3 => ?_)
    replace hf := hf m3 em3
    refine za_sub [1] rfl ?_
    exact tX8_recorded_100 o hq  v1 m3  hf
  · replace hf := hf.2 c1
    refine za_aload_n o 0 dX8_recorded_63 rfl rfl ?_
    refine za_getf o 2 zc8 hq (Nat.le_of_ble_eq_true rfl) wfX8_16 rfl dX8_recorded_64 ?_
    refine za_sipush (v := (276 : Int32)) o dX8_recorded_67 (by decide) ?_
    refine za_aload_n o 0 dX8_recorded_70 rfl rfl ?_
    refine za_getf o 8 zc8 hq (Nat.le_of_ble_eq_true rfl) wfX8_37 rfl dX8_recorded_71 ?_
    refine za_imul o dX8_recorded_74 ?_
    refine za_topi (fun x4 ex4 => ?_)
    replace hf := hf x4 ex4
    refine za_iload_n o 2 dX8_recorded_75 rfl rfl ?_
    refine za_iadd o dX8_recorded_76 ?_
    refine za_topi (fun x5 ex5 => ?_)
    replace hf := hf x5 ex5
    refine za_aload_n o 0 dX8_recorded_77 rfl rfl ?_
    refine za_getf o 1 zc8 hq (Nat.le_of_ble_eq_true rfl) wfX8_13 rfl dX8_recorded_78 ?_
    refine za_iload_n o 2 dX8_recorded_81 rfl rfl ?_
    obtain ⟨g6, hf⟩ := hf
    refine za_iald o zk_m1 rfl g6 dX8_recorded_82 ?_
    refine za_topi (fun x7 ex7 => ?_)
    replace hf := hf x7 ex7
    obtain ⟨g8, hf⟩ := hf
    refine za_iast o zk_m2 rfl g8 dX8_recorded_83 ?_
    refine za_mem (fun m9 em9 => ?_)
    replace hf := hf m9 em9
    obtain ⟨x10, ex10⟩ : ∃ y : Int32, y = v2 + (1 : Int32) := ⟨_, rfl⟩
    replace hf := hf x10 ex10
    refine za_iinc o x10 2 [(2, .int x10), (0, .ref (G.2.2 + q)), (1, .int v1)] dX8_recorded_84 rfl (by rw [ex10]; rfl) (by decide) rfl ?_
    refine za_goto o 56 dX8_recorded_87 (by decide) ?_
    refine za_sub [1, 2, 0] rfl ?_
    exact hk56 v1 x10 m9  hf
theorem tX8_recorded_56 {p : Program} {l : Launch} {e : Env} {s : State} {m : MethodId} {args : Array Value} {below : List Frame} {meth : Method} {c : Code} {G : zG}  {K : Int32 → zMem → Prop} (o : za_Ok (z_rm 0 0) 0 0 p s m args meth c G RX8 cX8_recorded 3 (some .int)) {q : Nat} (hq : z_is q 8)  (n : Nat) : ∀ (v1 : Int32) (v2 : Int32) (μ : zMem), fX8_recorded_56  K q n v1 v2 μ → za_At p l e (z_rm 0 0) s m args below meth c (MQ below (zQi G K) args s 0 0 (zA G)) G 3 0 0 56 [(0, .ref (G.2.2 + q)), (1, .int v1), (2, .int v2)] [] μ := by
  induction n with
  | zero => intro _ _ _ hf; exact hf.elim
  | succ n ih => intro v1 v2 μ  hf; exact tX8_recorded_56b o hq  ih v1 v2 μ  hf
set_option maxRecDepth 100000 in
set_option maxHeartbeats 4000000 in
theorem tX8_recorded_54 {p : Program} {l : Launch} {e : Env} {s : State} {m : MethodId} {args : Array Value} {below : List Frame} {meth : Method} {c : Code} {G : zG}  {K : Int32 → zMem → Prop} (o : za_Ok (z_rm 0 0) 0 0 p s m args meth c G RX8 cX8_recorded 3 (some .int)) {q : Nat} (hq : z_is q 8)  (v1 : Int32) (μ : zMem)  (hf : fX8_recorded_54  K q v1 μ) : za_At p l e (z_rm 0 0) s m args below meth c (MQ below (zQi G K) args s 0 0 (zA G)) G 3 0 0 54 [(0, .ref (G.2.2 + q)), (1, .int v1)] [] μ := by
  unfold fX8_recorded_54 at hf
  refine za_iconst (v := (0 : Int32)) o dX8_recorded_54 (by decide) ?_
  refine za_istore_n o [(2, .int (0 : Int32)), (0, .ref (G.2.2 + q)), (1, .int v1)] dX8_recorded_55 rfl (by decide) rfl ?_
  refine za_sub [1, 2, 0] rfl ?_
  exact tX8_recorded_56 o hq  zFU v1 (0 : Int32) μ  hf
set_option maxRecDepth 100000 in
set_option maxHeartbeats 4000000 in
theorem tX8_recorded_15b {p : Program} {l : Launch} {e : Env} {s : State} {m : MethodId} {args : Array Value} {below : List Frame} {meth : Method} {c : Code} {G : zG} {k15 : Int32 → Int32 → zMem → Prop} {K : Int32 → zMem → Prop} (o : za_Ok (z_rm 0 0) 0 0 p s m args meth c G RX8 cX8_recorded 3 (some .int)) {q : Nat} (hq : z_is q 8) (hk15 : ∀ (v1 : Int32) (v2 : Int32) (μ : zMem), k15 v1 v2 μ → za_At p l e (z_rm 0 0) s m args below meth c (MQ below (zQi G K) args s 0 0 (zA G)) G 3 0 0 15 [(0, .ref (G.2.2 + q)), (1, .int v1), (2, .int v2)] [] μ) (v1 : Int32) (v2 : Int32) (μ : zMem)  (hf : fX8_recorded_15b k15 K q v1 v2 μ) : za_At p l e (z_rm 0 0) s m args below meth c (MQ below (zQi G K) args s 0 0 (zA G)) G 3 0 0 15 [(0, .ref (G.2.2 + q)), (1, .int v1), (2, .int v2)] [] μ := by
  unfold fX8_recorded_15b at hf
  refine za_iload_n o 2 dX8_recorded_15 rfl rfl ?_
  refine za_sipush (v := (1380 : Int32)) o dX8_recorded_16 (by decide) ?_
  refine za_icmp_ge o 44 dX8_recorded_19 (by decide) (fun c11 => ?_) (fun c11 => ?_)
  · replace hf := hf.1 c11
    refine za_aload_n o 0 dX8_recorded_44 rfl rfl ?_
    refine za_dup o dX8_recorded_45 rfl ?_
    refine za_getf o 8 zc8 hq (Nat.le_of_ble_eq_true rfl) wfX8_37 rfl dX8_recorded_46 ?_
    refine za_iconst (v := (1 : Int32)) o dX8_recorded_49 (by decide) ?_
    refine za_isub o dX8_recorded_50 ?_
    refine za_topi (fun x12 ex12 => ?_)
    replace hf := hf x12 ex12
    refine za_putf (ty := .int) o 8 zc8 hq (Nat.le_of_ble_eq_true rfl) wfX8_37 rfl (by decide +kernel) rfl rfl (Nat.le_of_ble_eq_true rfl) rfl dX8_recorded_51 ?_
    refine za_mem (fun m13 em13 => ?_)
    replace hf := hf m13 em13
    refine za_sub [0, 1] rfl ?_
    exact tX8_recorded_54 o hq  v1 m13  hf
  · replace hf := hf.2 c11
    refine za_aload_n o 0 dX8_recorded_22 rfl rfl ?_
    refine za_getf o 2 zc8 hq (Nat.le_of_ble_eq_true rfl) wfX8_16 rfl dX8_recorded_23 ?_
    refine za_iload_n o 2 dX8_recorded_26 rfl rfl ?_
    refine za_aload_n o 0 dX8_recorded_27 rfl rfl ?_
    refine za_getf o 2 zc8 hq (Nat.le_of_ble_eq_true rfl) wfX8_16 rfl dX8_recorded_28 ?_
    refine za_sipush (v := (276 : Int32)) o dX8_recorded_31 (by decide) ?_
    refine za_iload_n o 2 dX8_recorded_34 rfl rfl ?_
    refine za_iadd o dX8_recorded_35 ?_
    refine za_topi (fun x14 ex14 => ?_)
    replace hf := hf x14 ex14
    obtain ⟨g15, hf⟩ := hf
    refine za_iald o zk_m2 rfl g15 dX8_recorded_36 ?_
    refine za_topi (fun x16 ex16 => ?_)
    replace hf := hf x16 ex16
    obtain ⟨g17, hf⟩ := hf
    refine za_iast o zk_m2 rfl g17 dX8_recorded_37 ?_
    refine za_mem (fun m18 em18 => ?_)
    replace hf := hf m18 em18
    obtain ⟨x19, ex19⟩ : ∃ y : Int32, y = v2 + (1 : Int32) := ⟨_, rfl⟩
    replace hf := hf x19 ex19
    refine za_iinc o x19 2 [(2, .int x19), (0, .ref (G.2.2 + q)), (1, .int v1)] dX8_recorded_38 rfl (by rw [ex19]; rfl) (by decide) rfl ?_
    refine za_goto o 15 dX8_recorded_41 (by decide) ?_
    refine za_sub [1, 2, 0] rfl ?_
    exact hk15 v1 x19 m18  hf
theorem tX8_recorded_15 {p : Program} {l : Launch} {e : Env} {s : State} {m : MethodId} {args : Array Value} {below : List Frame} {meth : Method} {c : Code} {G : zG}  {K : Int32 → zMem → Prop} (o : za_Ok (z_rm 0 0) 0 0 p s m args meth c G RX8 cX8_recorded 3 (some .int)) {q : Nat} (hq : z_is q 8)  (n : Nat) : ∀ (v1 : Int32) (v2 : Int32) (μ : zMem), fX8_recorded_15  K q n v1 v2 μ → za_At p l e (z_rm 0 0) s m args below meth c (MQ below (zQi G K) args s 0 0 (zA G)) G 3 0 0 15 [(0, .ref (G.2.2 + q)), (1, .int v1), (2, .int v2)] [] μ := by
  induction n with
  | zero => intro _ _ _ hf; exact hf.elim
  | succ n ih => intro v1 v2 μ  hf; exact tX8_recorded_15b o hq  ih v1 v2 μ  hf
set_option maxRecDepth 100000 in
set_option maxHeartbeats 4000000 in
theorem ctX8_recorded (l : Launch) (G : zG) {q : Nat} (hq : z_is q 8) (a1 : Int32)  (μ : zMem) (K : Int32 → zMem → Prop) (hf : fX8_recorded q a1 μ K) : z_Met l G yX8_recorded cX8_recorded 3 (some .int) (z_rm 0 0) [.ref (G.2.2 + q), .int a1] μ K := by
  refine z_body (by decide) (Nat.le_of_ble_eq_true rfl) (fun p e s m args below meth c o => ?_)
  have o : za_Ok (z_rm 0 0) 0 0 p s m args meth c G RX8 cX8_recorded 3 (some .int) := o
  show za_At p l e (z_rm 0 0) s m args below meth c (MQ below (zQi G K) args s 0 0 (zA G)) G 3 0 0 0 [(0, .ref (G.2.2 + q)), (1, .int a1)] [] μ
  unfold fX8_recorded at hf
  refine za_iload_n o 1 dX8_recorded_0 rfl rfl ?_
  refine za_if_lt o 100 dX8_recorded_1 (by decide) (fun c20 => ?_) (fun c20 => ?_)
  · replace hf := hf.1 c20
    refine za_sub [1] rfl ?_
    exact tX8_recorded_100 o hq  a1 μ  hf
  · replace hf := hf.2 c20
    refine za_aload_n o 0 dX8_recorded_4 rfl rfl ?_
    refine za_getf o 8 zc8 hq (Nat.le_of_ble_eq_true rfl) wfX8_37 rfl dX8_recorded_5 ?_
    refine za_bipush (v := (6 : Int32)) o dX8_recorded_8 (by decide) ?_
    refine za_icmp_ne o 54 dX8_recorded_10 (by decide) (fun c21 => ?_) (fun c21 => ?_)
    · replace hf := hf.1 c21
      exact tX8_recorded_54 o hq  a1 μ  hf
    · replace hf := hf.2 c21
      refine za_iconst (v := (0 : Int32)) o dX8_recorded_13 (by decide) ?_
      refine za_istore_n o [(2, .int (0 : Int32)), (0, .ref (G.2.2 + q)), (1, .int a1)] dX8_recorded_14 rfl (by decide) rfl ?_
      refine za_sub [1, 2, 0] rfl ?_
      exact tX8_recorded_15 o hq  zFU a1 (0 : Int32) μ  hf
def fX8_priceOn (q : Nat) (a1 : Int32) (a2 : Int32) (μ : zMem) (K : Int32 → zMem → Prop) : Prop :=
  (∀ x1 : Int32, x1 = (a1 - a1 / (5 : Int32) * (5 : Int32)) → (∀ x2 : Int32, x2 = (x1 * (3 : Int32)) → (∀ x3 : Int32, x3 = ((8 : Int32) + x2) → (∀ x4 : Int32, x4 = (x3 + a2) → (vp_in x4 276 ∧ (∀ x6 : Int32, x6 = (μ 530 x4.toNatClampNeg) → K x6 μ))))))
set_option maxRecDepth 100000 in
set_option maxHeartbeats 4000000 in
theorem ctX8_priceOn (l : Launch) (G : zG) {q : Nat} (hq : z_is q 8) (a1 : Int32) (a2 : Int32)  (μ : zMem) (K : Int32 → zMem → Prop) (hf : fX8_priceOn q a1 a2 μ K) : z_Met l G yX8_priceOn cX8_priceOn 3 (some .int) (z_rm 0 0) [.ref (G.2.2 + q), .int a1, .int a2] μ K := by
  refine z_body (by decide) (Nat.le_of_ble_eq_true rfl) (fun p e s m args below meth c o => ?_)
  have o : za_Ok (z_rm 0 0) 0 0 p s m args meth c G RX8 cX8_priceOn 3 (some .int) := o
  show za_At p l e (z_rm 0 0) s m args below meth c (MQ below (zQi G K) args s 0 0 (zA G)) G 3 0 0 0 [(0, .ref (G.2.2 + q)), (1, .int a1), (2, .int a2)] [] μ
  unfold fX8_priceOn at hf
  refine za_aload_n o 0 dX8_priceOn_0 rfl rfl ?_
  refine za_getf o 0 zc8 hq (Nat.le_of_ble_eq_true rfl) wfX8_7 rfl dX8_priceOn_1 ?_
  refine za_bipush (v := (8 : Int32)) o dX8_priceOn_4 (by decide) ?_
  refine za_iload_n o 1 dX8_priceOn_6 rfl rfl ?_
  refine za_iconst (v := (5 : Int32)) o dX8_priceOn_7 (by decide) ?_
  refine za_irem o dX8_priceOn_8 (by decide) ?_
  refine za_topi (fun x1 ex1 => ?_)
  replace hf := hf x1 ex1
  refine za_iconst (v := (3 : Int32)) o dX8_priceOn_9 (by decide) ?_
  refine za_imul o dX8_priceOn_10 ?_
  refine za_topi (fun x2 ex2 => ?_)
  replace hf := hf x2 ex2
  refine za_iadd o dX8_priceOn_11 ?_
  refine za_topi (fun x3 ex3 => ?_)
  replace hf := hf x3 ex3
  refine za_iload_n o 2 dX8_priceOn_12 rfl rfl ?_
  refine za_iadd o dX8_priceOn_13 ?_
  refine za_topi (fun x4 ex4 => ?_)
  replace hf := hf x4 ex4
  obtain ⟨g5, hf⟩ := hf
  refine za_iald o zk_m0 rfl g5 dX8_priceOn_14 ?_
  refine za_topi (fun x6 ex6 => ?_)
  replace hf := hf x6 ex6
  exact za_iret o rfl hf dX8_priceOn_15
def fX8_gives_36  (K : zMem → Prop) (q : Nat) (v1 : Int32) (v2 : Int32) (v3 : Nat) (μ : zMem) : Prop :=
  (vp_in v2 276 ∧ (∀ m2 : zMem, m2 = z_up μ v3 v2.toNatClampNeg v1 → K m2))
def fX8_gives (q : Nat) (a1 : Int32) (a2 : Int32) (μ : zMem) (K : zMem → Prop) : Prop :=
  fX8_p a1 μ (fun r3 m4 => (∀ x5 : Int32, x5 = (r3 + (0 : Int32)) → (vp_in x5 276 ∧ (∀ x7 : Int32, x7 = (m4 530 x5.toNatClampNeg) → (∀ x8 : Int32, x8 = (x7 + a2) → fX8_p a1 m4 (fun r9 m10 => (∀ x11 : Int32, x11 = (r9 + (0 : Int32)) → ((x8 ≤ (30 : Int32) → fX8_gives_36  K q x8 x11 530 m10) ∧ (¬ x8 ≤ (30 : Int32) → fX8_gives_36  K q (30 : Int32) x11 530 m10)))))))))
set_option maxRecDepth 100000 in
set_option maxHeartbeats 4000000 in
theorem tX8_gives_36 {p : Program} {l : Launch} {e : Env} {s : State} {m : MethodId} {args : Array Value} {below : List Frame} {meth : Method} {c : Code} {G : zG}  {K : zMem → Prop} (o : za_Ok (z_rm 1 20) 0 0 p s m args meth c G RX8 cX8_gives 4 none) {q : Nat} (hq : z_is q 8)  (v1 : Int32) (v2 : Int32) (v3 : Nat) (μ : zMem) (hv3 : z_is v3 17) (hf : fX8_gives_36  K q v1 v2 v3 μ) : za_At p l e (z_rm 1 20) s m args below meth c (MQ below (zQv G K) args s 0 0 (zA G)) G 4 0 0 36 [] [.int v1, .int v2, .ref (G.2.2 + v3)] μ := by
  unfold fX8_gives_36 at hf
  obtain ⟨g1, hf⟩ := hf
  refine za_iast o hv3 rfl g1 dX8_gives_36 ?_
  refine za_mem (fun m2 em2 => ?_)
  replace hf := hf m2 em2
  exact za_vret o rfl hf dX8_gives_37
set_option maxRecDepth 100000 in
set_option maxHeartbeats 4000000 in
theorem ctX8_gives (l : Launch) (G : zG) {q : Nat} (hq : z_is q 8) (a1 : Int32) (a2 : Int32)  (μ : zMem) (K : zMem → Prop) (hf : fX8_gives q a1 a2 μ K) : z_MetV l G yX8_gives cX8_gives 4 none (z_rm 1 20) [.ref (G.2.2 + q), .int a1, .int a2] μ K := by
  refine z_body (by decide) (Nat.le_of_ble_eq_true rfl) (fun p e s m args below meth c o => ?_)
  have o : za_Ok (z_rm 1 20) 0 0 p s m args meth c G RX8 cX8_gives 4 none := o
  show za_At p l e (z_rm 1 20) s m args below meth c (MQ below (zQv G K) args s 0 0 (zA G)) G 4 0 0 0 [(0, .ref (G.2.2 + q)), (1, .int a1), (2, .int a2)] [] μ
  unfold fX8_gives at hf
  refine za_aload_n o 0 dX8_gives_0 rfl rfl ?_
  refine za_getf o 0 zc8 hq (Nat.le_of_ble_eq_true rfl) wfX8_7 rfl dX8_gives_1 ?_
  refine za_iload_n o 1 dX8_gives_4 rfl rfl ?_
  refine za_callSi o [.int a1] (ctX8_p l G a1  μ _ hf) mwX8_p wmX8_41 wtX8_p rfl ⟨Nat.le_of_ble_eq_true rfl, Nat.le_of_ble_eq_true rfl⟩ rfl (Nat.le_of_ble_eq_true rfl) dX8_gives_5 (fun r3 m4 hf => ?_)
  refine za_iconst (v := (0 : Int32)) o dX8_gives_8 (by decide) ?_
  refine za_iadd o dX8_gives_9 ?_
  refine za_topi (fun x5 ex5 => ?_)
  replace hf := hf x5 ex5
  obtain ⟨g6, hf⟩ := hf
  refine za_iald o zk_m0 rfl g6 dX8_gives_10 ?_
  refine za_topi (fun x7 ex7 => ?_)
  replace hf := hf x7 ex7
  refine za_iload_n o 2 dX8_gives_11 rfl rfl ?_
  refine za_iadd o dX8_gives_12 ?_
  refine za_topi (fun x8 ex8 => ?_)
  replace hf := hf x8 ex8
  refine za_istore_n o [(3, .int x8), (0, .ref (G.2.2 + q)), (1, .int a1), (2, .int a2)] dX8_gives_13 rfl (by decide) rfl ?_
  refine za_aload_n o 1 dX8_gives_14 rfl rfl ?_
  refine za_getf o 0 zc8 hq (Nat.le_of_ble_eq_true rfl) wfX8_7 rfl dX8_gives_15 ?_
  refine za_iload_n o 2 dX8_gives_18 rfl rfl ?_
  refine za_callSi o [.int a1] (ctX8_p l G a1  m4 _ hf) mwX8_p wmX8_41 wtX8_p rfl ⟨Nat.le_of_ble_eq_true rfl, Nat.le_of_ble_eq_true rfl⟩ rfl (Nat.le_of_ble_eq_true rfl) dX8_gives_19 (fun r9 m10 hf => ?_)
  refine za_iconst (v := (0 : Int32)) o dX8_gives_22 (by decide) ?_
  refine za_iadd o dX8_gives_23 ?_
  refine za_topi (fun x11 ex11 => ?_)
  replace hf := hf x11 ex11
  refine za_iload_n o 0 dX8_gives_24 rfl rfl ?_
  refine za_bipush (v := (30 : Int32)) o dX8_gives_25 (by decide) ?_
  refine za_icmp_le o 35 dX8_gives_27 (by decide) (fun c12 => ?_) (fun c12 => ?_)
  · replace hf := hf.1 c12
    refine za_iload_n o 0 dX8_gives_35 rfl rfl ?_
    refine za_sub [] rfl ?_
    exact tX8_gives_36 o hq  x8 x11 530 m10 zk_m0 hf
  · replace hf := hf.2 c12
    refine za_bipush (v := (30 : Int32)) o dX8_gives_30 (by decide) ?_
    refine za_goto o 36 dX8_gives_32 (by decide) ?_
    refine za_sub [] rfl ?_
    exact tX8_gives_36 o hq  (30 : Int32) x11 530 m10 zk_m0 hf
def fX8_isFor_24  (K : Int32 → zMem → Prop) (q : Nat) (v1 : Int32) (μ : zMem) : Prop :=
  (z_b v1 ∧ K v1 μ)
def fX8_isFor (q : Nat) (a1 : Int32) (a2 : Int32) (a3 : Int32) (μ : zMem) (K : Int32 → zMem → Prop) : Prop :=
  fX8_p a1 μ (fun r1 m2 => (∀ x3 : Int32, x3 = (r1 + (1 : Int32)) → (∀ x4 : Int32, x4 = (x3 + a2) → (vp_in x4 276 ∧ (∀ x6 : Int32, x6 = (m2 530 x4.toNatClampNeg) → (∀ x7 : Int32, x7 = (a3 + (1 : Int32)) → ((¬ x6 = x7 → fX8_isFor_24  K q (0 : Int32) m2) ∧ (x6 = x7 → fX8_isFor_24  K q (1 : Int32) m2))))))))
set_option maxRecDepth 100000 in
set_option maxHeartbeats 4000000 in
theorem tX8_isFor_24 {p : Program} {l : Launch} {e : Env} {s : State} {m : MethodId} {args : Array Value} {below : List Frame} {meth : Method} {c : Code} {G : zG}  {K : Int32 → zMem → Prop} (o : za_Ok (z_rm 1 20) 0 0 p s m args meth c G RX8 cX8_isFor 4 (some .boolean)) {q : Nat} (hq : z_is q 8)  (v1 : Int32) (μ : zMem)  (hf : fX8_isFor_24  K q v1 μ) : za_At p l e (z_rm 1 20) s m args below meth c (MQ below (zQi G K) args s 0 0 (zA G)) G 4 0 0 24 [] [.int v1] μ := by
  unfold fX8_isFor_24 at hf
  exact za_zret o rfl hf.1 hf.2 dX8_isFor_24
set_option maxRecDepth 100000 in
set_option maxHeartbeats 4000000 in
theorem ctX8_isFor (l : Launch) (G : zG) {q : Nat} (hq : z_is q 8) (a1 : Int32) (a2 : Int32) (a3 : Int32)  (μ : zMem) (K : Int32 → zMem → Prop) (hf : fX8_isFor q a1 a2 a3 μ K) : z_Met l G yX8_isFor cX8_isFor 4 (some .boolean) (z_rm 1 20) [.ref (G.2.2 + q), .int a1, .int a2, .int a3] μ K := by
  refine z_body (by decide) (Nat.le_of_ble_eq_true rfl) (fun p e s m args below meth c o => ?_)
  have o : za_Ok (z_rm 1 20) 0 0 p s m args meth c G RX8 cX8_isFor 4 (some .boolean) := o
  show za_At p l e (z_rm 1 20) s m args below meth c (MQ below (zQi G K) args s 0 0 (zA G)) G 4 0 0 0 [(0, .ref (G.2.2 + q)), (1, .int a1), (2, .int a2), (3, .int a3)] [] μ
  unfold fX8_isFor at hf
  refine za_aload_n o 0 dX8_isFor_0 rfl rfl ?_
  refine za_getf o 0 zc8 hq (Nat.le_of_ble_eq_true rfl) wfX8_7 rfl dX8_isFor_1 ?_
  refine za_iload_n o 1 dX8_isFor_4 rfl rfl ?_
  refine za_callSi o [.int a1] (ctX8_p l G a1  μ _ hf) mwX8_p wmX8_41 wtX8_p rfl ⟨Nat.le_of_ble_eq_true rfl, Nat.le_of_ble_eq_true rfl⟩ rfl (Nat.le_of_ble_eq_true rfl) dX8_isFor_5 (fun r1 m2 hf => ?_)
  refine za_iconst (v := (1 : Int32)) o dX8_isFor_8 (by decide) ?_
  refine za_iadd o dX8_isFor_9 ?_
  refine za_topi (fun x3 ex3 => ?_)
  replace hf := hf x3 ex3
  refine za_iload_n o 2 dX8_isFor_10 rfl rfl ?_
  refine za_iadd o dX8_isFor_11 ?_
  refine za_topi (fun x4 ex4 => ?_)
  replace hf := hf x4 ex4
  obtain ⟨g5, hf⟩ := hf
  refine za_iald o zk_m0 rfl g5 dX8_isFor_12 ?_
  refine za_topi (fun x6 ex6 => ?_)
  replace hf := hf x6 ex6
  refine za_iload_n o 3 dX8_isFor_13 rfl rfl ?_
  refine za_iconst (v := (1 : Int32)) o dX8_isFor_14 (by decide) ?_
  refine za_iadd o dX8_isFor_15 ?_
  refine za_topi (fun x7 ex7 => ?_)
  replace hf := hf x7 ex7
  refine za_icmp_ne o 23 dX8_isFor_16 (by decide) (fun c8 => ?_) (fun c8 => ?_)
  · replace hf := hf.1 c8
    refine za_iconst (v := (0 : Int32)) o dX8_isFor_23 (by decide) ?_
    refine za_sub [] rfl ?_
    exact tX8_isFor_24 o hq  (0 : Int32) m2  hf
  · replace hf := hf.2 c8
    refine za_iconst (v := (1 : Int32)) o dX8_isFor_19 (by decide) ?_
    refine za_goto o 24 dX8_isFor_20 (by decide) ?_
    refine za_sub [] rfl ?_
    exact tX8_isFor_24 o hq  (1 : Int32) m2  hf
def fX8_doubt_51  (K : Int32 → zMem → Prop) (q : Nat) (v1 : Int32) (μ : zMem) : Prop :=
  K v1 μ
def fX8_doubt (q : Nat) (a1 : Int32) (μ : zMem) (K : Int32 → zMem → Prop) : Prop :=
  fX8_p a1 μ (fun r1 m2 => (∀ x3 : Int32, x3 = (r1 + (13 : Int32)) → (vp_in x3 276 ∧ (∀ x5 : Int32, x5 = (m2 530 x3.toNatClampNeg) → fX8_p a1 m2 (fun r6 m7 => (∀ x8 : Int32, x8 = (r6 + (14 : Int32)) → (vp_in x8 276 ∧ (∀ x10 : Int32, x10 = (m7 530 x8.toNatClampNeg) → (∀ x11 : Int32, x11 = (x5 + x10) → ((¬ x11 = 0 → fX8_p a1 m7 (fun r13 m14 => (∀ x15 : Int32, x15 = (r13 + (14 : Int32)) → (vp_in x15 276 ∧ (∀ x17 : Int32, x17 = (m14 530 x15.toNatClampNeg) → (∀ x18 : Int32, x18 = ((100 : Int32) * x17) → ((¬ x11 = 0) ∧ (∀ x20 : Int32, x20 = (x18 / x11) → fX8_doubt_51  K q x20 m14)))))))) ∧ (x11 = 0 → fX8_doubt_51  K q (0 : Int32) m7)))))))))))
set_option maxRecDepth 100000 in
set_option maxHeartbeats 4000000 in
theorem tX8_doubt_51 {p : Program} {l : Launch} {e : Env} {s : State} {m : MethodId} {args : Array Value} {below : List Frame} {meth : Method} {c : Code} {G : zG}  {K : Int32 → zMem → Prop} (o : za_Ok (z_rm 1 20) 0 0 p s m args meth c G RX8 cX8_doubt 3 (some .int)) {q : Nat} (hq : z_is q 8)  (v1 : Int32) (μ : zMem)  (hf : fX8_doubt_51  K q v1 μ) : za_At p l e (z_rm 1 20) s m args below meth c (MQ below (zQi G K) args s 0 0 (zA G)) G 3 0 0 51 [] [.int v1] μ := by
  unfold fX8_doubt_51 at hf
  exact za_iret o rfl hf dX8_doubt_51
set_option maxRecDepth 100000 in
set_option maxHeartbeats 4000000 in
theorem ctX8_doubt (l : Launch) (G : zG) {q : Nat} (hq : z_is q 8) (a1 : Int32)  (μ : zMem) (K : Int32 → zMem → Prop) (hf : fX8_doubt q a1 μ K) : z_Met l G yX8_doubt cX8_doubt 3 (some .int) (z_rm 1 20) [.ref (G.2.2 + q), .int a1] μ K := by
  refine z_body (by decide) (Nat.le_of_ble_eq_true rfl) (fun p e s m args below meth c o => ?_)
  have o : za_Ok (z_rm 1 20) 0 0 p s m args meth c G RX8 cX8_doubt 3 (some .int) := o
  show za_At p l e (z_rm 1 20) s m args below meth c (MQ below (zQi G K) args s 0 0 (zA G)) G 3 0 0 0 [(0, .ref (G.2.2 + q)), (1, .int a1)] [] μ
  unfold fX8_doubt at hf
  refine za_aload_n o 0 dX8_doubt_0 rfl rfl ?_
  refine za_getf o 0 zc8 hq (Nat.le_of_ble_eq_true rfl) wfX8_7 rfl dX8_doubt_1 ?_
  refine za_iload_n o 1 dX8_doubt_4 rfl rfl ?_
  refine za_callSi o [.int a1] (ctX8_p l G a1  μ _ hf) mwX8_p wmX8_41 wtX8_p rfl ⟨Nat.le_of_ble_eq_true rfl, Nat.le_of_ble_eq_true rfl⟩ rfl (Nat.le_of_ble_eq_true rfl) dX8_doubt_5 (fun r1 m2 hf => ?_)
  refine za_bipush (v := (13 : Int32)) o dX8_doubt_8 (by decide) ?_
  refine za_iadd o dX8_doubt_10 ?_
  refine za_topi (fun x3 ex3 => ?_)
  replace hf := hf x3 ex3
  obtain ⟨g4, hf⟩ := hf
  refine za_iald o zk_m0 rfl g4 dX8_doubt_11 ?_
  refine za_topi (fun x5 ex5 => ?_)
  replace hf := hf x5 ex5
  refine za_aload_n o 0 dX8_doubt_12 rfl rfl ?_
  refine za_getf o 0 zc8 hq (Nat.le_of_ble_eq_true rfl) wfX8_7 rfl dX8_doubt_13 ?_
  refine za_iload_n o 1 dX8_doubt_16 rfl rfl ?_
  refine za_callSi o [.int a1] (ctX8_p l G a1  m2 _ hf) mwX8_p wmX8_41 wtX8_p rfl ⟨Nat.le_of_ble_eq_true rfl, Nat.le_of_ble_eq_true rfl⟩ rfl (Nat.le_of_ble_eq_true rfl) dX8_doubt_17 (fun r6 m7 hf => ?_)
  refine za_bipush (v := (14 : Int32)) o dX8_doubt_20 (by decide) ?_
  refine za_iadd o dX8_doubt_22 ?_
  refine za_topi (fun x8 ex8 => ?_)
  replace hf := hf x8 ex8
  obtain ⟨g9, hf⟩ := hf
  refine za_iald o zk_m0 rfl g9 dX8_doubt_23 ?_
  refine za_topi (fun x10 ex10 => ?_)
  replace hf := hf x10 ex10
  refine za_iadd o dX8_doubt_24 ?_
  refine za_topi (fun x11 ex11 => ?_)
  replace hf := hf x11 ex11
  refine za_istore_n o [(2, .int x11), (0, .ref (G.2.2 + q)), (1, .int a1)] dX8_doubt_25 rfl (by decide) rfl ?_
  refine za_iload_n o 0 dX8_doubt_26 rfl rfl ?_
  refine za_if_ne o 34 dX8_doubt_27 (by decide) (fun c12 => ?_) (fun c12 => ?_)
  · replace hf := hf.1 c12
    refine za_bipush (v := (100 : Int32)) o dX8_doubt_34 (by decide) ?_
    refine za_aload_n o 1 dX8_doubt_36 rfl rfl ?_
    refine za_getf o 0 zc8 hq (Nat.le_of_ble_eq_true rfl) wfX8_7 rfl dX8_doubt_37 ?_
    refine za_iload_n o 2 dX8_doubt_40 rfl rfl ?_
    refine za_callSi o [.int a1] (ctX8_p l G a1  m7 _ hf) mwX8_p wmX8_41 wtX8_p rfl ⟨Nat.le_of_ble_eq_true rfl, Nat.le_of_ble_eq_true rfl⟩ rfl (Nat.le_of_ble_eq_true rfl) dX8_doubt_41 (fun r13 m14 hf => ?_)
    refine za_bipush (v := (14 : Int32)) o dX8_doubt_44 (by decide) ?_
    refine za_iadd o dX8_doubt_46 ?_
    refine za_topi (fun x15 ex15 => ?_)
    replace hf := hf x15 ex15
    obtain ⟨g16, hf⟩ := hf
    refine za_iald o zk_m0 rfl g16 dX8_doubt_47 ?_
    refine za_topi (fun x17 ex17 => ?_)
    replace hf := hf x17 ex17
    refine za_imul o dX8_doubt_48 ?_
    refine za_topi (fun x18 ex18 => ?_)
    replace hf := hf x18 ex18
    refine za_iload_n o 0 dX8_doubt_49 rfl rfl ?_
    obtain ⟨g19, hf⟩ := hf
    refine za_idiv o dX8_doubt_50 g19 ?_
    refine za_topi (fun x20 ex20 => ?_)
    replace hf := hf x20 ex20
    refine za_sub [] rfl ?_
    exact tX8_doubt_51 o hq  x20 m14  hf
  · replace hf := hf.2 c12
    refine za_iconst (v := (0 : Int32)) o dX8_doubt_30 (by decide) ?_
    refine za_goto o 51 dX8_doubt_31 (by decide) ?_
    refine za_sub [] rfl ?_
    exact tX8_doubt_51 o hq  (0 : Int32) m7  hf
def fX8_toCook_37 (k4 : Int32 → Int32 → Int32 → zMem → Prop) (K : Int32 → zMem → Prop) (q : Nat) (v1 : Int32) (v2 : Int32) (v3 : Int32) (v4 : Int32) (μ : zMem) : Prop :=
  (∀ x1 : Int32, x1 = (v4 + v3) → (∀ x2 : Int32, x2 = v2 + (1 : Int32) → k4 v1 x1 x2 μ))
def fX8_toCook_81  (K : Int32 → zMem → Prop) (q : Nat) (v1 : Int32) (μ : zMem) : Prop :=
  K v1 μ
def fX8_toCook_4b (k4 : Int32 → Int32 → Int32 → zMem → Prop) (K : Int32 → zMem → Prop) (q : Nat) (v1 : Int32) (v2 : Int32) (v3 : Int32) (μ : zMem) : Prop :=
  (∀ x3 : Int32, x3 = (μ 530 5) → ((x3 ≤ v3 → (∀ x5 : Int32, x5 = (v2 + (99 : Int32)) → (∀ x6 : Int32, x6 = (x5 / (100 : Int32)) → (∀ x7 : Int32, x7 = (μ 530 0) → (∀ x8 : Int32, x8 = (x6 + x7) → fX8_d v1 μ (fun r9 m10 => (∀ x11 : Int32, x11 = (r9 + (0 : Int32)) → (vp_in x11 276 ∧ (∀ x13 : Int32, x13 = (m10 530 x11.toNatClampNeg) → (∀ x14 : Int32, x14 = (x8 - x13) → ((x14 ≤ 0 → fX8_toCook_81  K q (0 : Int32) m10) ∧ (¬ x14 ≤ 0 → fX8_toCook_81  K q x14 m10)))))))))))) ∧ (¬ x3 ≤ v3 → fX8_isFor q v3 (0 : Int32) v1 μ (fun r16 m17 => ((r16 = 0 → fX8_toCook_37 k4 K q v1 v3 (0 : Int32) v2 m17) ∧ (¬ r16 = 0 → fX8_doubt q v3 m17 (fun r19 m20 => (∀ x21 : Int32, x21 = ((100 : Int32) - r19) → fX8_toCook_37 k4 K q v1 v3 x21 v2 m20))))))))
def fX8_toCook_4  (K : Int32 → zMem → Prop) (q : Nat) (n : Nat) : Int32 → Int32 → Int32 → zMem → Prop := z_it (fun k => fX8_toCook_4b  k K q ) (fun _ _ _ _ => False) n
def fX8_toCook (q : Nat) (a1 : Int32) (μ : zMem) (K : Int32 → zMem → Prop) : Prop :=
  fX8_toCook_4  K q zFU a1 (0 : Int32) (0 : Int32) μ
set_option maxRecDepth 100000 in
set_option maxHeartbeats 4000000 in
theorem tX8_toCook_37 {p : Program} {l : Launch} {e : Env} {s : State} {m : MethodId} {args : Array Value} {below : List Frame} {meth : Method} {c : Code} {G : zG} {k4 : Int32 → Int32 → Int32 → zMem → Prop} {K : Int32 → zMem → Prop} (o : za_Ok (z_rm 2 43) 0 0 p s m args meth c G RX8 cX8_toCook 4 (some .int)) {q : Nat} (hq : z_is q 8) (hk4 : ∀ (v1 : Int32) (v2 : Int32) (v3 : Int32) (μ : zMem), k4 v1 v2 v3 μ → za_At p l e (z_rm 2 43) s m args below meth c (MQ below (zQi G K) args s 0 0 (zA G)) G 4 0 0 4 [(0, .ref (G.2.2 + q)), (1, .int v1), (2, .int v2), (3, .int v3)] [] μ) (v1 : Int32) (v2 : Int32) (v3 : Int32) (v4 : Int32) (μ : zMem)  (hf : fX8_toCook_37 k4 K q v1 v2 v3 v4 μ) : za_At p l e (z_rm 2 43) s m args below meth c (MQ below (zQi G K) args s 0 0 (zA G)) G 4 0 0 37 [(0, .ref (G.2.2 + q)), (1, .int v1), (3, .int v2)] [.int v3, .int v4] μ := by
  unfold fX8_toCook_37 at hf
  refine za_iadd o dX8_toCook_37 ?_
  refine za_topi (fun x1 ex1 => ?_)
  replace hf := hf x1 ex1
  refine za_istore_n o [(2, .int x1), (0, .ref (G.2.2 + q)), (1, .int v1), (3, .int v2)] dX8_toCook_38 rfl (by decide) rfl ?_
  obtain ⟨x2, ex2⟩ : ∃ y : Int32, y = v2 + (1 : Int32) := ⟨_, rfl⟩
  replace hf := hf x2 ex2
  refine za_iinc o x2 3 [(3, .int x2), (2, .int x1), (0, .ref (G.2.2 + q)), (1, .int v1)] dX8_toCook_39 rfl (by rw [ex2]; rfl) (by decide) rfl ?_
  refine za_goto o 4 dX8_toCook_42 (by decide) ?_
  refine za_sub [2, 3, 1, 0] rfl ?_
  exact hk4 v1 x1 x2 μ  hf
set_option maxRecDepth 100000 in
set_option maxHeartbeats 4000000 in
theorem tX8_toCook_81 {p : Program} {l : Launch} {e : Env} {s : State} {m : MethodId} {args : Array Value} {below : List Frame} {meth : Method} {c : Code} {G : zG}  {K : Int32 → zMem → Prop} (o : za_Ok (z_rm 2 43) 0 0 p s m args meth c G RX8 cX8_toCook 4 (some .int)) {q : Nat} (hq : z_is q 8)  (v1 : Int32) (μ : zMem)  (hf : fX8_toCook_81  K q v1 μ) : za_At p l e (z_rm 2 43) s m args below meth c (MQ below (zQi G K) args s 0 0 (zA G)) G 4 0 0 81 [] [.int v1] μ := by
  unfold fX8_toCook_81 at hf
  exact za_iret o rfl hf dX8_toCook_81
set_option maxRecDepth 100000 in
set_option maxHeartbeats 4000000 in
theorem tX8_toCook_4b {p : Program} {l : Launch} {e : Env} {s : State} {m : MethodId} {args : Array Value} {below : List Frame} {meth : Method} {c : Code} {G : zG} {k4 : Int32 → Int32 → Int32 → zMem → Prop} {K : Int32 → zMem → Prop} (o : za_Ok (z_rm 2 43) 0 0 p s m args meth c G RX8 cX8_toCook 4 (some .int)) {q : Nat} (hq : z_is q 8) (hk4 : ∀ (v1 : Int32) (v2 : Int32) (v3 : Int32) (μ : zMem), k4 v1 v2 v3 μ → za_At p l e (z_rm 2 43) s m args below meth c (MQ below (zQi G K) args s 0 0 (zA G)) G 4 0 0 4 [(0, .ref (G.2.2 + q)), (1, .int v1), (2, .int v2), (3, .int v3)] [] μ) (v1 : Int32) (v2 : Int32) (v3 : Int32) (μ : zMem)  (hf : fX8_toCook_4b k4 K q v1 v2 v3 μ) : za_At p l e (z_rm 2 43) s m args below meth c (MQ below (zQi G K) args s 0 0 (zA G)) G 4 0 0 4 [(0, .ref (G.2.2 + q)), (1, .int v1), (2, .int v2), (3, .int v3)] [] μ := by
  unfold fX8_toCook_4b at hf
  refine za_iload_n o 3 dX8_toCook_4 rfl rfl ?_
  refine za_aload_n o 0 dX8_toCook_5 rfl rfl ?_
  refine za_getf o 0 zc8 hq (Nat.le_of_ble_eq_true rfl) wfX8_7 rfl dX8_toCook_6 ?_
  refine za_iconst (v := (5 : Int32)) o dX8_toCook_9 (by decide) ?_
  refine za_iald o zk_m0 rfl (by unfold vp_in; decide) dX8_toCook_10 ?_
  refine za_topi (fun x3 ex3 => ?_)
  replace hf := hf x3 ex3
  refine za_icmp_ge o 45 dX8_toCook_11 (by decide) (fun c4 => ?_) (fun c4 => ?_)
  · replace hf := hf.1 c4
    refine za_iload_n o 2 dX8_toCook_45 rfl rfl ?_
    refine za_bipush (v := (99 : Int32)) o dX8_toCook_46 (by decide) ?_
    refine za_iadd o dX8_toCook_48 ?_
    refine za_topi (fun x5 ex5 => ?_)
    replace hf := hf x5 ex5
    refine za_bipush (v := (100 : Int32)) o dX8_toCook_49 (by decide) ?_
    refine za_idiv o dX8_toCook_51 (by decide) ?_
    refine za_topi (fun x6 ex6 => ?_)
    replace hf := hf x6 ex6
    refine za_aload_n o 0 dX8_toCook_52 rfl rfl ?_
    refine za_getf o 0 zc8 hq (Nat.le_of_ble_eq_true rfl) wfX8_7 rfl dX8_toCook_53 ?_
    refine za_iconst (v := (0 : Int32)) o dX8_toCook_56 (by decide) ?_
    refine za_iald o zk_m0 rfl (by unfold vp_in; decide) dX8_toCook_57 ?_
    refine za_topi (fun x7 ex7 => ?_)
    replace hf := hf x7 ex7
    refine za_iadd o dX8_toCook_58 ?_
    refine za_topi (fun x8 ex8 => ?_)
    replace hf := hf x8 ex8
    refine za_aload_n o 0 dX8_toCook_59 rfl rfl ?_
    refine za_getf o 0 zc8 hq (Nat.le_of_ble_eq_true rfl) wfX8_7 rfl dX8_toCook_60 ?_
    refine za_iload_n o 1 dX8_toCook_63 rfl rfl ?_
    refine za_callSi o [.int v1] (ctX8_d l G v1  μ _ hf) mwX8_d wmX8_51 wtX8_d rfl ⟨Nat.le_of_ble_eq_true rfl, Nat.le_of_ble_eq_true rfl⟩ rfl (Nat.le_of_ble_eq_true rfl) dX8_toCook_64 (fun r9 m10 hf => ?_)
    refine za_iconst (v := (0 : Int32)) o dX8_toCook_67 (by decide) ?_
    refine za_iadd o dX8_toCook_68 ?_
    refine za_topi (fun x11 ex11 => ?_)
    replace hf := hf x11 ex11
    obtain ⟨g12, hf⟩ := hf
    refine za_iald o zk_m0 rfl g12 dX8_toCook_69 ?_
    refine za_topi (fun x13 ex13 => ?_)
    replace hf := hf x13 ex13
    refine za_isub o dX8_toCook_70 ?_
    refine za_topi (fun x14 ex14 => ?_)
    replace hf := hf x14 ex14
    refine za_istore_n o [(3, .int x14), (0, .ref (G.2.2 + q)), (1, .int v1), (2, .int v2)] dX8_toCook_71 rfl (by decide) rfl ?_
    refine za_iload_n o 0 dX8_toCook_72 rfl rfl ?_
    refine za_if_le o 80 dX8_toCook_73 (by decide) (fun c15 => ?_) (fun c15 => ?_)
    · replace hf := hf.1 c15
      refine za_iconst (v := (0 : Int32)) o dX8_toCook_80 (by decide) ?_
      refine za_sub [] rfl ?_
      exact tX8_toCook_81 o hq  (0 : Int32) m10  hf
    · replace hf := hf.2 c15
      refine za_iload_n o 0 dX8_toCook_76 rfl rfl ?_
      refine za_goto o 81 dX8_toCook_77 (by decide) ?_
      refine za_sub [] rfl ?_
      exact tX8_toCook_81 o hq  x14 m10  hf
  · replace hf := hf.2 c4
    refine za_iload_n o 2 dX8_toCook_14 rfl rfl ?_
    refine za_aload_n o 0 dX8_toCook_15 rfl rfl ?_
    refine za_iload_n o 3 dX8_toCook_16 rfl rfl ?_
    refine za_iconst (v := (0 : Int32)) o dX8_toCook_17 (by decide) ?_
    refine za_iload_n o 1 dX8_toCook_18 rfl rfl ?_
    refine za_callVi o [.int v3, .int (0 : Int32), .int v1] (ctX8_isFor l G hq v3 (0 : Int32) v1  μ _ hf) zc8 hq mwX8_isFor wmX8_45 wiX8_isFor wsX8_isFor rfl ⟨Nat.le_of_ble_eq_true rfl, Nat.le_of_ble_eq_true rfl⟩ rfl (Nat.le_of_ble_eq_true rfl) dX8_toCook_19 (fun r16 m17 hf => ?_)
    refine za_if_eq o 36 dX8_toCook_22 (by decide) (fun c18 => ?_) (fun c18 => ?_)
    · replace hf := hf.1 c18
      refine za_iconst (v := (0 : Int32)) o dX8_toCook_36 (by decide) ?_
      refine za_sub [0, 1, 3] rfl ?_
      exact tX8_toCook_37 o hq hk4 v1 v3 (0 : Int32) v2 m17  hf
    · replace hf := hf.2 c18
      refine za_bipush (v := (100 : Int32)) o dX8_toCook_25 (by decide) ?_
      refine za_aload_n o 0 dX8_toCook_27 rfl rfl ?_
      refine za_iload_n o 3 dX8_toCook_28 rfl rfl ?_
      refine za_callVi o [.int v3] (ctX8_doubt l G hq v3  m17 _ hf) zc8 hq mwX8_doubt wmX8_48 wiX8_doubt wsX8_doubt rfl ⟨Nat.le_of_ble_eq_true rfl, Nat.le_of_ble_eq_true rfl⟩ rfl (Nat.le_of_ble_eq_true rfl) dX8_toCook_29 (fun r19 m20 hf => ?_)
      refine za_isub o dX8_toCook_32 ?_
      refine za_topi (fun x21 ex21 => ?_)
      replace hf := hf x21 ex21
      refine za_goto o 37 dX8_toCook_33 (by decide) ?_
      refine za_sub [0, 1, 3] rfl ?_
      exact tX8_toCook_37 o hq hk4 v1 v3 x21 v2 m20  hf
theorem tX8_toCook_4 {p : Program} {l : Launch} {e : Env} {s : State} {m : MethodId} {args : Array Value} {below : List Frame} {meth : Method} {c : Code} {G : zG}  {K : Int32 → zMem → Prop} (o : za_Ok (z_rm 2 43) 0 0 p s m args meth c G RX8 cX8_toCook 4 (some .int)) {q : Nat} (hq : z_is q 8)  (n : Nat) : ∀ (v1 : Int32) (v2 : Int32) (v3 : Int32) (μ : zMem), fX8_toCook_4  K q n v1 v2 v3 μ → za_At p l e (z_rm 2 43) s m args below meth c (MQ below (zQi G K) args s 0 0 (zA G)) G 4 0 0 4 [(0, .ref (G.2.2 + q)), (1, .int v1), (2, .int v2), (3, .int v3)] [] μ := by
  induction n with
  | zero => intro _ _ _ _ hf; exact hf.elim
  | succ n ih => intro v1 v2 v3 μ  hf; exact tX8_toCook_4b o hq  ih v1 v2 v3 μ  hf
set_option maxRecDepth 100000 in
set_option maxHeartbeats 4000000 in
theorem ctX8_toCook (l : Launch) (G : zG) {q : Nat} (hq : z_is q 8) (a1 : Int32)  (μ : zMem) (K : Int32 → zMem → Prop) (hf : fX8_toCook q a1 μ K) : z_Met l G yX8_toCook cX8_toCook 4 (some .int) (z_rm 2 43) [.ref (G.2.2 + q), .int a1] μ K := by
  refine z_body (by decide) (Nat.le_of_ble_eq_true rfl) (fun p e s m args below meth c o => ?_)
  have o : za_Ok (z_rm 2 43) 0 0 p s m args meth c G RX8 cX8_toCook 4 (some .int) := o
  show za_At p l e (z_rm 2 43) s m args below meth c (MQ below (zQi G K) args s 0 0 (zA G)) G 4 0 0 0 [(0, .ref (G.2.2 + q)), (1, .int a1)] [] μ
  unfold fX8_toCook at hf
  refine za_iconst (v := (0 : Int32)) o dX8_toCook_0 (by decide) ?_
  refine za_istore_n o [(2, .int (0 : Int32)), (0, .ref (G.2.2 + q)), (1, .int a1)] dX8_toCook_1 rfl (by decide) rfl ?_
  refine za_iconst (v := (0 : Int32)) o dX8_toCook_2 (by decide) ?_
  refine za_istore_n o [(3, .int (0 : Int32)), (2, .int (0 : Int32)), (0, .ref (G.2.2 + q)), (1, .int a1)] dX8_toCook_3 rfl (by decide) rfl ?_
  refine za_sub [2, 3, 1, 0] rfl ?_
  exact tX8_toCook_4 o hq  zFU a1 (0 : Int32) (0 : Int32) μ  hf
