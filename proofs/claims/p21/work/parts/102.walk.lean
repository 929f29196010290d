/-! X0_serve X7_come X0_awaited X0_sell X7_buy X1_clearUp X5_isMissing X5_judge X5_startDay X5_stayAway X0_endDay X7_close -/
def fX0_serve_39  (K : Int32 → zMem → Prop) (q : Nat)  (μ : zMem) : Prop :=
  K (-5 : Int32) μ
def fX0_serve_73  (K : Int32 → zMem → Prop) (q : Nat) (v1 : Nat) (μ : zMem) : Prop :=
  (∀ x1 : Int32, x1 = (μ (v1 + 2) 0) → fX5_receive v1 x1 μ (fun r2 m3 => K (3 : Int32) m3))
def fX0_serve (q : Nat) (a1 : Int32) (μ : zMem) (K : Int32 → zMem → Prop) : Prop :=
  fX0_hasPerson q a1 μ (fun r4 m5 => ((¬ r4 = 0 → (vp_in a1 14 ∧ (∀ q8 : Nat, q8 = (q + 2) + 2 + 3 * a1.toNatClampNeg → (((m5 q 5) = 0 → fX0_serve_39  K q  m5) ∧ (¬ (m5 q 5) = 0 → fX5_hasOrder q8 (0 : Int32) m5 (fun r10 m11 => ((r10 = 0 → fX0_serve_39  K q  m11) ∧ (¬ r10 = 0 → (((m11 q8 8) = 0 → fX5_comeWithOrder q8  m11 (fun m15 => (∀ x16 : Int32, x16 = (m15 (q8 + 1) 0) → fX0_hasDish q x16 m15 (fun r17 m18 => ((r17 = 0 → fX0_serve_73  K q q8 m18) ∧ (¬ r17 = 0 → (vp_in x16 3 ∧ (∀ q21 : Nat, q21 = (q + 3) + 43 + 2 * x16.toNatClampNeg → fX1_left q21  m18 (fun r22 m23 => ((¬ r22 = 0 → (vp_in x16 3 ∧ (∀ q26 : Nat, q26 = (q + 3) + 43 + 2 * x16.toNatClampNeg → fX1_give q26  m23 (fun m28 => (∀ x29 : Int32, x29 = ((m28 q8 7) + (1 : Int32)) → (∀ m30 : zMem, m30 = z_up m28 q8 7 x29 → K x16 m30)))))) ∧ (r22 = 0 → fX0_serve_73  K q q8 m23))))))))))) ∧ (¬ (m11 q8 8) = 0 → fX0_serve_39  K q  m11)))))))))) ∧ (r4 = 0 → K (-1 : Int32) m5)))
set_option maxRecDepth 100000 in
set_option maxHeartbeats 4000000 in
theorem tX0_serve_39 {p : Program} {l : Launch} {e : Env} {s : State} {m : MethodId} {args : Array Value} {below : List Frame} {meth : Method} {c : Code} {G : zG}  {K : Int32 → zMem → Prop} (o : za_Ok (z_rm 2 42) 0 0 p s m args meth c G RX0 cX0_serve 4 (some .int)) {q : Nat} (hq : z_is q 0)   (μ : zMem)  (hf : fX0_serve_39  K q  μ) : za_At p l e (z_rm 2 42) s m args below meth c (MQ below (zQi G K) args s 0 0 (zA G)) G 4 0 0 39 [] [] μ := by
  unfold fX0_serve_39 at hf
  refine za_bipush (v := (-5 : Int32)) o dX0_serve_39 (by decide) ?_
  exact za_iret o rfl hf dX0_serve_41
set_option maxRecDepth 100000 in
set_option maxHeartbeats 4000000 in
theorem tX0_serve_73 {p : Program} {l : Launch} {e : Env} {s : State} {m : MethodId} {args : Array Value} {below : List Frame} {meth : Method} {c : Code} {G : zG}  {K : Int32 → zMem → Prop} (o : za_Ok (z_rm 2 42) 0 0 p s m args meth c G RX0 cX0_serve 4 (some .int)) {q : Nat} (hq : z_is q 0)  (v1 : Nat) (μ : zMem) (hv1 : z_is v1 5) (hf : fX0_serve_73  K q v1 μ) : za_At p l e (z_rm 2 42) s m args below meth c (MQ below (zQi G K) args s 0 0 (zA G)) G 4 0 0 73 [(2, .ref (G.2.2 + v1))] [] μ := by
  unfold fX0_serve_73 at hf
  refine za_aload_n o 0 dX0_serve_73 rfl rfl ?_
  refine za_aload_n o 0 dX0_serve_74 rfl rfl ?_
  refine za_getfN o 1 "CanteenPlates" zc5 hv1 (Nat.le_of_ble_eq_true rfl) wnX0_95 rfl dX0_serve_75 ?_
  refine za_iconst (v := (0 : Int32)) o dX0_serve_78 (by decide) ?_
  refine za_iald o (zk_5_12b hv1) rfl (by unfold vp_in; decide) dX0_serve_79 ?_
  refine za_topi (fun x1 ex1 => ?_)
  replace hf := hf x1 ex1
  refine za_callVi o [.int x1] (ctX5_receive l G hv1 x1  μ _ hf) zc5 hv1 mwX5_receive wmX0_72 wiX5_receive wsX5_receive rfl ⟨Nat.le_of_ble_eq_true rfl, Nat.le_of_ble_eq_true rfl⟩ rfl (Nat.le_of_ble_eq_true rfl) dX0_serve_80 (fun r2 m3 hf => ?_)
  refine za_pop o dX0_serve_83 rfl ?_
  refine za_iconst (v := (3 : Int32)) o dX0_serve_84 (by decide) ?_
  exact za_iret o rfl hf dX0_serve_85
set_option maxRecDepth 100000 in
set_option maxHeartbeats 4000000 in
theorem ctX0_serve (l : Launch) (G : zG) {q : Nat} (hq : z_is q 0) (a1 : Int32)  (μ : zMem) (K : Int32 → zMem → Prop) (hf : fX0_serve q a1 μ K) : z_Met l G yX0_serve cX0_serve 4 (some .int) (z_rm 2 42) [.ref (G.2.2 + q), .int a1] μ K := by
  refine z_body (by decide) (Nat.le_of_ble_eq_true rfl) (fun p e s m args below meth c o => ?_)
  have o : za_Ok (z_rm 2 42) 0 0 p s m args meth c G RX0 cX0_serve 4 (some .int) := o
  show za_At p l e (z_rm 2 42) s m args below meth c (MQ below (zQi G K) args s 0 0 (zA G)) G 4 0 0 0 [(0, .ref (G.2.2 + q)), (1, .int a1)] [] μ
  unfold fX0_serve at hf
  refine za_aload_n o 0 dX0_serve_0 rfl rfl ?_
  refine za_iload_n o 1 dX0_serve_1 rfl rfl ?_
  refine za_callVi o [.int a1] (ctX0_hasPerson l G hq a1  μ _ hf) zc0 hq mwX0_hasPerson wmX0_69 wiX0_hasPerson wsX0_hasPerson rfl ⟨Nat.le_of_ble_eq_true rfl, Nat.le_of_ble_eq_true rfl⟩ rfl (Nat.le_of_ble_eq_true rfl) dX0_serve_2 (fun r4 m5 hf => ?_)
  refine za_if_ne o 10 dX0_serve_5 (by decide) (fun c6 => ?_) (fun c6 => ?_)
  · replace hf := hf.1 c6
    refine za_aload_n o 0 dX0_serve_10 rfl rfl ?_
    refine za_getf o 1 zc0 hq (Nat.le_of_ble_eq_true rfl) wfX0_17 rfl dX0_serve_11 ?_
    refine za_iload_n o 1 dX0_serve_14 rfl rfl ?_
    obtain ⟨g7, hf⟩ := hf
    refine za_aald o (zk_0_10 hq) rfl rfl rfl g7 dX0_serve_15 ?_
    refine za_topr (fun q8 eq8 => ?_)
    replace hf := hf q8 eq8
    have hq8 : z_is q8 5 := by rw [eq8]; exact zk_a10 (zk_0_10 hq) (z_lt g7)
    refine za_astore_n o [(2, .ref (G.2.2 + q8)), (0, .ref (G.2.2 + q)), (1, .int a1)] dX0_serve_16 rfl (by decide) rfl ?_
    refine za_aload_n o 1 dX0_serve_17 rfl rfl ?_
    refine za_getf o 5 zc0 hq (Nat.le_of_ble_eq_true rfl) wfX0_49 rfl dX0_serve_18 ?_
    refine za_if_eq o 39 dX0_serve_21 (by decide) (fun c9 => ?_) (fun c9 => ?_)
    · replace hf := hf.1 c9
      refine za_sub [] rfl ?_
      exact tX0_serve_39 o hq   m5  hf
    · replace hf := hf.2 c9
      refine za_aload_n o 0 dX0_serve_24 rfl rfl ?_
      refine za_iconst (v := (0 : Int32)) o dX0_serve_25 (by decide) ?_
      refine za_callVi o [.int (0 : Int32)] (ctX5_hasOrder l G hq8 (0 : Int32)  m5 _ hf) zc5 hq8 mwX5_hasOrder wmX0_90 wiX5_hasOrder wsX5_hasOrder rfl ⟨Nat.le_of_ble_eq_true rfl, Nat.le_of_ble_eq_true rfl⟩ rfl (Nat.le_of_ble_eq_true rfl) dX0_serve_26 (fun r10 m11 hf => ?_)
      refine za_if_eq o 39 dX0_serve_29 (by decide) (fun c12 => ?_) (fun c12 => ?_)
      · replace hf := hf.1 c12
        refine za_sub [] rfl ?_
        exact tX0_serve_39 o hq   m11  hf
      · replace hf := hf.2 c12
        refine za_aload_n o 0 dX0_serve_32 rfl rfl ?_
        refine za_getfN o 8 "CanteenPlates" zc5 hq8 (Nat.le_of_ble_eq_true rfl) wnX0_117 rfl dX0_serve_33 ?_
        refine za_if_eq o 42 dX0_serve_36 (by decide) (fun c13 => ?_) (fun c13 => ?_)
        · replace hf := hf.1 c13
          refine za_aload_n o 0 dX0_serve_42 rfl rfl ?_
          refine za_callVv o [] (ctX5_comeWithOrder l G hq8   m11 _ hf) zc5 hq8 mwX5_comeWithOrder wmX0_120 wiX5_comeWithOrder wsX5_comeWithOrder rfl ⟨Nat.le_of_ble_eq_true rfl, Nat.le_of_ble_eq_true rfl⟩ rfl (Nat.le_of_ble_eq_true rfl) dX0_serve_43 (fun m15 hf => ?_)
          refine za_aload_n o 0 dX0_serve_46 rfl rfl ?_
          refine za_getfN o 0 "CanteenPlates" zc5 hq8 (Nat.le_of_ble_eq_true rfl) wnX0_93 rfl dX0_serve_47 ?_
          refine za_iconst (v := (0 : Int32)) o dX0_serve_50 (by decide) ?_
          refine za_iald o (zk_5_12 hq8) rfl (by unfold vp_in; decide) dX0_serve_51 ?_
          refine za_topi (fun x16 ex16 => ?_)
          replace hf := hf x16 ex16
          refine za_istore_n o [(3, .int x16), (2, .ref (G.2.2 + q8)), (0, .ref (G.2.2 + q)), (1, .int a1)] dX0_serve_52 rfl (by decide) rfl ?_
          refine za_aload_n o 2 dX0_serve_53 rfl rfl ?_
          refine za_iload_n o 0 dX0_serve_54 rfl rfl ?_
          refine za_callVi o [.int x16] (ctX0_hasDish l G hq x16  m15 _ hf) zc0 hq mwX0_hasDish wmX0_62 wiX0_hasDish wsX0_hasDish rfl ⟨Nat.le_of_ble_eq_true rfl, Nat.le_of_ble_eq_true rfl⟩ rfl (Nat.le_of_ble_eq_true rfl) dX0_serve_55 (fun r17 m18 hf => ?_)
          refine za_if_eq o 73 dX0_serve_58 (by decide) (fun c19 => ?_) (fun c19 => ?_)
          · replace hf := hf.1 c19
            refine za_sub [1] rfl ?_
            exact tX0_serve_73 o hq  q8 m18 hq8 hf
          · replace hf := hf.2 c19
            refine za_aload_n o 2 dX0_serve_61 rfl rfl ?_
            refine za_getf o 2 zc0 hq (Nat.le_of_ble_eq_true rfl) wfX0_23 rfl dX0_serve_62 ?_
            refine za_iload_n o 0 dX0_serve_65 rfl rfl ?_
            obtain ⟨g20, hf⟩ := hf
            refine za_aald o (zk_0_11 hq) rfl rfl rfl g20 dX0_serve_66 ?_
            refine za_topr (fun q21 eq21 => ?_)
            replace hf := hf q21 eq21
            have hq21 : z_is q21 1 := by rw [eq21]; exact zk_a11 (zk_0_11 hq) (z_lt g20)
            refine za_callVi o [] (ctX1_left l G hq21   m18 _ hf) zc1 hq21 mwX1_left wmX0_123 wiX1_left wsX1_left rfl ⟨Nat.le_of_ble_eq_true rfl, Nat.le_of_ble_eq_true rfl⟩ rfl (Nat.le_of_ble_eq_true rfl) dX0_serve_67 (fun r22 m23 hf => ?_)
            refine za_if_ne o 86 dX0_serve_70 (by decide) (fun c24 => ?_) (fun c24 => ?_)
            · replace hf := hf.1 c24
              refine za_aload_n o 2 dX0_serve_86 rfl rfl ?_
              refine za_getf o 2 zc0 hq (Nat.le_of_ble_eq_true rfl) wfX0_23 rfl dX0_serve_87 ?_
              refine za_iload_n o 0 dX0_serve_90 rfl rfl ?_
              obtain ⟨g25, hf⟩ := hf
              refine za_aald o (zk_0_11 hq) rfl rfl rfl g25 dX0_serve_91 ?_
              refine za_topr (fun q26 eq26 => ?_)
              replace hf := hf q26 eq26
              have hq26 : z_is q26 1 := by rw [eq26]; exact zk_a11 (zk_0_11 hq) (z_lt g25)
              refine za_callVv o [] (ctX1_give l G hq26   m23 _ hf) zc1 hq26 mwX1_give wmX0_126 wiX1_give wsX1_give rfl ⟨Nat.le_of_ble_eq_true rfl, Nat.le_of_ble_eq_true rfl⟩ rfl (Nat.le_of_ble_eq_true rfl) dX0_serve_92 (fun m28 hf => ?_)
              refine za_aload_n o 1 dX0_serve_95 rfl rfl ?_
              refine za_dup o dX0_serve_96 rfl ?_
              refine za_getfN o 7 "CanteenPlates" zc5 hq8 (Nat.le_of_ble_eq_true rfl) wnX0_129 rfl dX0_serve_97 ?_
              refine za_iconst (v := (1 : Int32)) o dX0_serve_100 (by decide) ?_
              refine za_iadd o dX0_serve_101 ?_
              refine za_topi (fun x29 ex29 => ?_)
              replace hf := hf x29 ex29
              refine za_putfN (ty := .int) o 7 "CanteenPlates" zc5 hq8 (Nat.le_of_ble_eq_true rfl) wnX0_129 rfl (by decide +kernel) rfl rfl (Nat.le_of_ble_eq_true rfl) rfl dX0_serve_102 ?_
              refine za_mem (fun m30 em30 => ?_)
              replace hf := hf m30 em30
              refine za_iload_n o 0 dX0_serve_105 rfl rfl ?_
              exact za_iret o rfl hf dX0_serve_106
            · replace hf := hf.2 c24
              refine za_sub [1] rfl ?_
              exact tX0_serve_73 o hq  q8 m23 hq8 hf
        · replace hf := hf.2 c13
          refine za_sub [] rfl ?_
          exact tX0_serve_39 o hq   m11  hf
  · replace hf := hf.2 c6
    refine za_iconst (v := (-1 : Int32)) o dX0_serve_8 (by decide) ?_
    exact za_iret o rfl hf dX0_serve_9
def fX7_come (q : Nat) (a1 : Int32) (μ : zMem) (K : Int32 → zMem → Prop) : Prop :=
  fX2_note 53 1 μ (fun m2 => fX0_serve 1 a1 m2 (fun r3 m4 => fX2_keep 53 r3 m4 (fun r5 m6 => K r5 m6)))
set_option maxRecDepth 100000 in
set_option maxHeartbeats 4000000 in
theorem ctX7_come (l : Launch) (G : zG) {q : Nat} (hq : z_is q 7) (a1 : Int32)  (μ : zMem) (K : Int32 → zMem → Prop) (hf : fX7_come q a1 μ K) : z_Met l G yX7_come cX7_come 2 (some .int) (z_rm 4 99) [.ref (G.2.2 + q), .int a1] μ K := by
  refine z_body (by decide) (Nat.le_of_ble_eq_true rfl) (fun p e s m args below meth c o => ?_)
  have o : za_Ok (z_rm 4 99) 0 0 p s m args meth c G RX7 cX7_come 2 (some .int) := o
  show za_At p l e (z_rm 4 99) s m args below meth c (MQ below (zQi G K) args s 0 0 (zA G)) G 2 0 0 0 [(0, .ref (G.2.2 + q)), (1, .int a1)] [] μ
  unfold fX7_come at hf
  refine za_aload_n o 0 dX7_come_0 rfl rfl ?_
  refine za_getf o 1 zc7 hq (Nat.le_of_ble_eq_true rfl) wfX7_19 rfl dX7_come_1 ?_
  refine za_aload_n o 0 dX7_come_4 rfl rfl ?_
  refine za_getf o 0 zc7 hq (Nat.le_of_ble_eq_true rfl) wfX7_10 rfl dX7_come_5 ?_
  refine za_callVv o [.ref (G.2.2 + 1)] (ctX2_note l G zk_c2 1 zk_c0 μ _ hf) zc2 zk_c2 mwX2_note wmX7_46 wiX2_note wsX2_note rfl ⟨Nat.le_of_ble_eq_true rfl, Nat.le_of_ble_eq_true rfl⟩ rfl (Nat.le_of_ble_eq_true rfl) dX7_come_8 (fun m2 hf => ?_)
  refine za_aload_n o 0 dX7_come_11 rfl rfl ?_
  refine za_getf o 1 zc7 hq (Nat.le_of_ble_eq_true rfl) wfX7_19 rfl dX7_come_12 ?_
  refine za_aload_n o 0 dX7_come_15 rfl rfl ?_
  refine za_getf o 0 zc7 hq (Nat.le_of_ble_eq_true rfl) wfX7_10 rfl dX7_come_16 ?_
  refine za_iload_n o 1 dX7_come_19 rfl rfl ?_
  refine za_callVi o [.int a1] (ctX0_serve l G zk_c0 a1  m2 _ hf) zc0 zk_c0 mwX0_serve wmX7_78 wiX0_serve wsX0_serve rfl ⟨Nat.le_of_ble_eq_true rfl, Nat.le_of_ble_eq_true rfl⟩ rfl (Nat.le_of_ble_eq_true rfl) dX7_come_20 (fun r3 m4 hf => ?_)
  refine za_callVi o [.int r3] (ctX2_keep l G zk_c2 r3  m4 _ hf) zc2 zk_c2 mwX2_keep wmX7_54 wiX2_keep wsX2_keep rfl ⟨Nat.le_of_ble_eq_true rfl, Nat.le_of_ble_eq_true rfl⟩ rfl (Nat.le_of_ble_eq_true rfl) dX7_come_23 (fun r5 m6 hf => ?_)
  exact za_iret o rfl hf dX7_come_26
def fX0_awaited_42 (k4 : Int32 → Int32 → Int32 → zMem → Prop) (K : Int32 → zMem → Prop) (q : Nat) (v1 : Int32) (v2 : Int32) (v3 : Int32) (μ : zMem) : Prop :=
  (∀ x1 : Int32, x1 = v3 + (1 : Int32) → k4 v1 v2 x1 μ)
def fX0_awaited_4b (k4 : Int32 → Int32 → Int32 → zMem → Prop) (K : Int32 → zMem → Prop) (q : Nat) (v1 : Int32) (v2 : Int32) (v3 : Int32) (μ : zMem) : Prop :=
  (((μ q 3) ≤ v3 → K v2 μ) ∧ (¬ (μ q 3) ≤ v3 → (vp_in v3 14 ∧ (∀ q4 : Nat, q4 = (q + 2) + 2 + 3 * v3.toNatClampNeg → (∀ x5 : Int32, x5 = (μ (q4 + 1) 0) → ((¬ x5 = v1 → fX0_awaited_42 k4 K q v1 v2 v3 μ) ∧ (x5 = v1 → (vp_in v3 14 ∧ (∀ q8 : Nat, q8 = (q + 2) + 2 + 3 * v3.toNatClampNeg → ((¬ (μ q8 8) = 0 → fX0_awaited_42 k4 K q v1 v2 v3 μ) ∧ ((μ q8 8) = 0 → (∀ x10 : Int32, x10 = v2 + (1 : Int32) → fX0_awaited_42 k4 K q v1 x10 v3 μ))))))))))))
def fX0_awaited_4  (K : Int32 → zMem → Prop) (q : Nat) (n : Nat) : Int32 → Int32 → Int32 → zMem → Prop := z_it (fun k => fX0_awaited_4b  k K q ) (fun _ _ _ _ => False) n
def fX0_awaited (q : Nat) (a1 : Int32) (μ : zMem) (K : Int32 → zMem → Prop) : Prop :=
  fX0_awaited_4  K q zFU a1 (0 : Int32) (0 : Int32) μ
set_option maxRecDepth 100000 in
set_option maxHeartbeats 4000000 in
theorem tX0_awaited_42 {p : Program} {l : Launch} {e : Env} {s : State} {m : MethodId} {args : Array Value} {below : List Frame} {meth : Method} {c : Code} {G : zG} {k4 : Int32 → Int32 → Int32 → zMem → Prop} {K : Int32 → zMem → Prop} (o : za_Ok (z_rm 0 0) 0 0 p s m args meth c G RX0 cX0_awaited 4 (some .int)) {q : Nat} (hq : z_is q 0) (hk4 : ∀ (v1 : Int32) (v2 : Int32) (v3 : Int32) (μ : zMem), k4 v1 v2 v3 μ → za_At p l e (z_rm 0 0) s m args below meth c (MQ below (zQi G K) args s 0 0 (zA G)) G 4 0 0 4 [(0, .ref (G.2.2 + q)), (1, .int v1), (2, .int v2), (3, .int v3)] [] μ) (v1 : Int32) (v2 : Int32) (v3 : Int32) (μ : zMem)  (hf : fX0_awaited_42 k4 K q v1 v2 v3 μ) : za_At p l e (z_rm 0 0) s m args below meth c (MQ below (zQi G K) args s 0 0 (zA G)) G 4 0 0 42 [(0, .ref (G.2.2 + q)), (1, .int v1), (2, .int v2), (3, .int v3)] [] μ := by
  unfold fX0_awaited_42 at hf
  obtain ⟨x1, ex1⟩ : ∃ y : Int32, y = v3 + (1 : Int32) := ⟨_, rfl⟩
  replace hf := hf x1 ex1
  refine za_iinc o x1 3 [(3, .int x1), (0, .ref (G.2.2 + q)), (1, .int v1), (2, .int v2)] dX0_awaited_42 rfl (by rw [ex1]; rfl) (by decide) rfl ?_
  refine za_goto o 4 dX0_awaited_45 (by decide) ?_
  refine za_sub [1, 2, 3, 0] rfl ?_
  exact hk4 v1 v2 x1 μ  hf
set_option maxRecDepth 100000 in
set_option maxHeartbeats 4000000 in
theorem tX0_awaited_4b {p : Program} {l : Launch} {e : Env} {s : State} {m : MethodId} {args : Array Value} {below : List Frame} {meth : Method} {c : Code} {G : zG} {k4 : Int32 → Int32 → Int32 → zMem → Prop} {K : Int32 → zMem → Prop} (o : za_Ok (z_rm 0 0) 0 0 p s m args meth c G RX0 cX0_awaited 4 (some .int)) {q : Nat} (hq : z_is q 0) (hk4 : ∀ (v1 : Int32) (v2 : Int32) (v3 : Int32) (μ : zMem), k4 v1 v2 v3 μ → za_At p l e (z_rm 0 0) s m args below meth c (MQ below (zQi G K) args s 0 0 (zA G)) G 4 0 0 4 [(0, .ref (G.2.2 + q)), (1, .int v1), (2, .int v2), (3, .int v3)] [] μ) (v1 : Int32) (v2 : Int32) (v3 : Int32) (μ : zMem)  (hf : fX0_awaited_4b k4 K q v1 v2 v3 μ) : za_At p l e (z_rm 0 0) s m args below meth c (MQ below (zQi G K) args s 0 0 (zA G)) G 4 0 0 4 [(0, .ref (G.2.2 + q)), (1, .int v1), (2, .int v2), (3, .int v3)] [] μ := by
  unfold fX0_awaited_4b at hf
  refine za_iload_n o 3 dX0_awaited_4 rfl rfl ?_
  refine za_aload_n o 0 dX0_awaited_5 rfl rfl ?_
  refine za_getf o 3 zc0 hq (Nat.le_of_ble_eq_true rfl) wfX0_39 rfl dX0_awaited_6 ?_
  refine za_icmp_ge o 48 dX0_awaited_9 (by decide) (fun c2 => ?_) (fun c2 => ?_)
  · replace hf := hf.1 c2
    refine za_iload_n o 2 dX0_awaited_48 rfl rfl ?_
    exact za_iret o rfl hf dX0_awaited_49
  · replace hf := hf.2 c2
    refine za_aload_n o 0 dX0_awaited_12 rfl rfl ?_
    refine za_getf o 1 zc0 hq (Nat.le_of_ble_eq_true rfl) wfX0_17 rfl dX0_awaited_13 ?_
    refine za_iload_n o 3 dX0_awaited_16 rfl rfl ?_
    obtain ⟨g3, hf⟩ := hf
    refine za_aald o (zk_0_10 hq) rfl rfl rfl g3 dX0_awaited_17 ?_
    refine za_topr (fun q4 eq4 => ?_)
    replace hf := hf q4 eq4
    have hq4 : z_is q4 5 := by rw [eq4]; exact zk_a10 (zk_0_10 hq) (z_lt g3)
    refine za_getfN o 0 "CanteenPlates" zc5 hq4 (Nat.le_of_ble_eq_true rfl) wnX0_93 rfl dX0_awaited_18 ?_
    refine za_iconst (v := (0 : Int32)) o dX0_awaited_21 (by decide) ?_
    refine za_iald o (zk_5_12 hq4) rfl (by unfold vp_in; decide) dX0_awaited_22 ?_
    refine za_topi (fun x5 ex5 => ?_)
    replace hf := hf x5 ex5
    refine za_iload_n o 1 dX0_awaited_23 rfl rfl ?_
    refine za_icmp_ne o 42 dX0_awaited_24 (by decide) (fun c6 => ?_) (fun c6 => ?_)
    · replace hf := hf.1 c6
      exact tX0_awaited_42 o hq hk4 v1 v2 v3 μ  hf
    · replace hf := hf.2 c6
      refine za_aload_n o 0 dX0_awaited_27 rfl rfl ?_
      refine za_getf o 1 zc0 hq (Nat.le_of_ble_eq_true rfl) wfX0_17 rfl dX0_awaited_28 ?_
      refine za_iload_n o 3 dX0_awaited_31 rfl rfl ?_
      obtain ⟨g7, hf⟩ := hf
      refine za_aald o (zk_0_10 hq) rfl rfl rfl g7 dX0_awaited_32 ?_
      refine za_topr (fun q8 eq8 => ?_)
      replace hf := hf q8 eq8
      have hq8 : z_is q8 5 := by rw [eq8]; exact zk_a10 (zk_0_10 hq) (z_lt g7)
      refine za_getfN o 8 "CanteenPlates" zc5 hq8 (Nat.le_of_ble_eq_true rfl) wnX0_117 rfl dX0_awaited_33 ?_
      refine za_if_ne o 42 dX0_awaited_36 (by decide) (fun c9 => ?_) (fun c9 => ?_)
      · replace hf := hf.1 c9
        exact tX0_awaited_42 o hq hk4 v1 v2 v3 μ  hf
      · replace hf := hf.2 c9
        obtain ⟨x10, ex10⟩ : ∃ y : Int32, y = v2 + (1 : Int32) := ⟨_, rfl⟩
        replace hf := hf x10 ex10
        refine za_iinc o x10 2 [(2, .int x10), (0, .ref (G.2.2 + q)), (1, .int v1), (3, .int v3)] dX0_awaited_39 rfl (by rw [ex10]; rfl) (by decide) rfl ?_
        refine za_sub [1, 2, 0, 3] rfl ?_
        exact tX0_awaited_42 o hq hk4 v1 x10 v3 μ  hf
theorem tX0_awaited_4 {p : Program} {l : Launch} {e : Env} {s : State} {m : MethodId} {args : Array Value} {below : List Frame} {meth : Method} {c : Code} {G : zG}  {K : Int32 → zMem → Prop} (o : za_Ok (z_rm 0 0) 0 0 p s m args meth c G RX0 cX0_awaited 4 (some .int)) {q : Nat} (hq : z_is q 0)  (n : Nat) : ∀ (v1 : Int32) (v2 : Int32) (v3 : Int32) (μ : zMem), fX0_awaited_4  K q n v1 v2 v3 μ → za_At p l e (z_rm 0 0) s m args below meth c (MQ below (zQi G K) args s 0 0 (zA G)) G 4 0 0 4 [(0, .ref (G.2.2 + q)), (1, .int v1), (2, .int v2), (3, .int v3)] [] μ := by
  induction n with
  | zero => intro _ _ _ _ hf; exact hf.elim
  | succ n ih => intro v1 v2 v3 μ  hf; exact tX0_awaited_4b o hq  ih v1 v2 v3 μ  hf
set_option maxRecDepth 100000 in
set_option maxHeartbeats 4000000 in
theorem ctX0_awaited (l : Launch) (G : zG) {q : Nat} (hq : z_is q 0) (a1 : Int32)  (μ : zMem) (K : Int32 → zMem → Prop) (hf : fX0_awaited q a1 μ K) : z_Met l G yX0_awaited cX0_awaited 4 (some .int) (z_rm 0 0) [.ref (G.2.2 + q), .int a1] μ K := by
  refine z_body (by decide) (Nat.le_of_ble_eq_true rfl) (fun p e s m args below meth c o => ?_)
  have o : za_Ok (z_rm 0 0) 0 0 p s m args meth c G RX0 cX0_awaited 4 (some .int) := o
  show za_At p l e (z_rm 0 0) s m args below meth c (MQ below (zQi G K) args s 0 0 (zA G)) G 4 0 0 0 [(0, .ref (G.2.2 + q)), (1, .int a1)] [] μ
  unfold fX0_awaited at hf
  refine za_iconst (v := (0 : Int32)) o dX0_awaited_0 (by decide) ?_
  refine za_istore_n o [(2, .int (0 : Int32)), (0, .ref (G.2.2 + q)), (1, .int a1)] dX0_awaited_1 rfl (by decide) rfl ?_
  refine za_iconst (v := (0 : Int32)) o dX0_awaited_2 (by decide) ?_
  refine za_istore_n o [(3, .int (0 : Int32)), (2, .int (0 : Int32)), (0, .ref (G.2.2 + q)), (1, .int a1)] dX0_awaited_3 rfl (by decide) rfl ?_
  refine za_sub [2, 3, 1, 0] rfl ?_
  exact tX0_awaited_4 o hq  zFU a1 (0 : Int32) (0 : Int32) μ  hf
def fX0_sell_16  (K : Int32 → zMem → Prop) (q : Nat)  (μ : zMem) : Prop :=
  K (-1 : Int32) μ
def fX0_sell_47  (K : Int32 → zMem → Prop) (q : Nat)  (μ : zMem) : Prop :=
  K (-5 : Int32) μ
def fX0_sell_86  (K : Int32 → zMem → Prop) (q : Nat)  (μ : zMem) : Prop :=
  K (-5 : Int32) μ
def fX0_sell (q : Nat) (a1 : Int32) (a2 : Int32) (μ : zMem) (K : Int32 → zMem → Prop) : Prop :=
  fX0_hasPerson q a1 μ (fun r1 m2 => ((r1 = 0 → fX0_sell_16  K q  m2) ∧ (¬ r1 = 0 → fX0_hasDish q a2 m2 (fun r4 m5 => ((¬ r4 = 0 → (vp_in a1 14 ∧ (∀ q8 : Nat, q8 = (q + 2) + 2 + 3 * a1.toNatClampNeg → (((m5 q 5) = 0 → fX0_sell_47  K q  m5) ∧ (¬ (m5 q 5) = 0 → fX5_hasOrder q8 (0 : Int32) m5 (fun r10 m11 => ((¬ r10 = 0 → fX0_sell_47  K q  m11) ∧ (r10 = 0 → (((m11 q8 8) = 0 → fX0_priceOf q a2 (0 : Int32) m11 (fun r14 m15 => (∀ x16 : Int32, x16 = (r14 + (1 : Int32)) → (((m15 q8 2) < x16 → fX0_sell_86  K q  m15) ∧ (¬ (m15 q8 2) < x16 → (vp_in a2 3 ∧ (∀ q19 : Nat, q19 = (q + 3) + 43 + 2 * a2.toNatClampNeg → fX1_left q19  m15 (fun r20 m21 => fX0_awaited q a2 m21 (fun r22 m23 => ((r22 < r20 → (vp_in a2 3 ∧ (∀ q26 : Nat, q26 = (q + 3) + 43 + 2 * a2.toNatClampNeg → fX1_give q26  m23 (fun m28 => (∀ x29 : Int32, x29 = ((m28 q8 7) + (1 : Int32)) → (∀ m30 : zMem, m30 = z_up m28 q8 7 x29 → (∀ m31 : zMem, m31 = z_up m30 q8 8 (1 : Int32) → (∀ x32 : Int32, x32 = ((m31 q8 2) - x16) → (∀ m33 : zMem, m33 = z_up m31 q8 2 x32 → K (m33 q8 2) m33))))))))) ∧ (¬ r22 < r20 → fX0_sell_86  K q  m23))))))))))) ∧ (¬ (m11 q8 8) = 0 → fX0_sell_47  K q  m11)))))))))) ∧ (r4 = 0 → fX0_sell_16  K q  m5))))))
set_option maxRecDepth 100000 in
set_option maxHeartbeats 4000000 in
theorem tX0_sell_16 {p : Program} {l : Launch} {e : Env} {s : State} {m : MethodId} {args : Array Value} {below : List Frame} {meth : Method} {c : Code} {G : zG}  {K : Int32 → zMem → Prop} (o : za_Ok (z_rm 1 23) 0 0 p s m args meth c G RX0 cX0_sell 5 (some .int)) {q : Nat} (hq : z_is q 0)   (μ : zMem)  (hf : fX0_sell_16  K q  μ) : za_At p l e (z_rm 1 23) s m args below meth c (MQ below (zQi G K) args s 0 0 (zA G)) G 5 0 0 16 [] [] μ := by
  unfold fX0_sell_16 at hf
  refine za_iconst (v := (-1 : Int32)) o dX0_sell_16 (by decide) ?_
  exact za_iret o rfl hf dX0_sell_17
set_option maxRecDepth 100000 in
set_option maxHeartbeats 4000000 in
theorem tX0_sell_47 {p : Program} {l : Launch} {e : Env} {s : State} {m : MethodId} {args : Array Value} {below : List Frame} {meth : Method} {c : Code} {G : zG}  {K : Int32 → zMem → Prop} (o : za_Ok (z_rm 1 23) 0 0 p s m args meth c G RX0 cX0_sell 5 (some .int)) {q : Nat} (hq : z_is q 0)   (μ : zMem)  (hf : fX0_sell_47  K q  μ) : za_At p l e (z_rm 1 23) s m args below meth c (MQ below (zQi G K) args s 0 0 (zA G)) G 5 0 0 47 [] [] μ := by
  unfold fX0_sell_47 at hf
  refine za_bipush (v := (-5 : Int32)) o dX0_sell_47 (by decide) ?_
  exact za_iret o rfl hf dX0_sell_49
set_option maxRecDepth 100000 in
set_option maxHeartbeats 4000000 in
theorem tX0_sell_86 {p : Program} {l : Launch} {e : Env} {s : State} {m : MethodId} {args : Array Value} {below : List Frame} {meth : Method} {c : Code} {G : zG}  {K : Int32 → zMem → Prop} (o : za_Ok (z_rm 1 23) 0 0 p s m args meth c G RX0 cX0_sell 5 (some .int)) {q : Nat} (hq : z_is q 0)   (μ : zMem)  (hf : fX0_sell_86  K q  μ) : za_At p l e (z_rm 1 23) s m args below meth c (MQ below (zQi G K) args s 0 0 (zA G)) G 5 0 0 86 [] [] μ := by
  unfold fX0_sell_86 at hf
  refine za_bipush (v := (-5 : Int32)) o dX0_sell_86 (by decide) ?_
  exact za_iret o rfl hf dX0_sell_88
set_option maxRecDepth 100000 in
set_option maxHeartbeats 4000000 in
theorem ctX0_sell (l : Launch) (G : zG) {q : Nat} (hq : z_is q 0) (a1 : Int32) (a2 : Int32)  (μ : zMem) (K : Int32 → zMem → Prop) (hf : fX0_sell q a1 a2 μ K) : z_Met l G yX0_sell cX0_sell 5 (some .int) (z_rm 1 23) [.ref (G.2.2 + q), .int a1, .int a2] μ K := by
  refine z_body (by decide) (Nat.le_of_ble_eq_true rfl) (fun p e s m args below meth c o => ?_)
  have o : za_Ok (z_rm 1 23) 0 0 p s m args meth c G RX0 cX0_sell 5 (some .int) := o
  show za_At p l e (z_rm 1 23) s m args below meth c (MQ below (zQi G K) args s 0 0 (zA G)) G 5 0 0 0 [(0, .ref (G.2.2 + q)), (1, .int a1), (2, .int a2)] [] μ
  unfold fX0_sell at hf
  refine za_aload_n o 0 dX0_sell_0 rfl rfl ?_
  refine za_iload_n o 1 dX0_sell_1 rfl rfl ?_
  refine za_callVi o [.int a1] (ctX0_hasPerson l G hq a1  μ _ hf) zc0 hq mwX0_hasPerson wmX0_69 wiX0_hasPerson wsX0_hasPerson rfl ⟨Nat.le_of_ble_eq_true rfl, Nat.le_of_ble_eq_true rfl⟩ rfl (Nat.le_of_ble_eq_true rfl) dX0_sell_2 (fun r1 m2 hf => ?_)
  refine za_if_eq o 16 dX0_sell_5 (by decide) (fun c3 => ?_) (fun c3 => ?_)
  · replace hf := hf.1 c3
    refine za_sub [] rfl ?_
    exact tX0_sell_16 o hq   m2  hf
  · replace hf := hf.2 c3
    refine za_aload_n o 0 dX0_sell_8 rfl rfl ?_
    refine za_iload_n o 2 dX0_sell_9 rfl rfl ?_
    refine za_callVi o [.int a2] (ctX0_hasDish l G hq a2  m2 _ hf) zc0 hq mwX0_hasDish wmX0_62 wiX0_hasDish wsX0_hasDish rfl ⟨Nat.le_of_ble_eq_true rfl, Nat.le_of_ble_eq_true rfl⟩ rfl (Nat.le_of_ble_eq_true rfl) dX0_sell_10 (fun r4 m5 hf => ?_)
    refine za_if_ne o 18 dX0_sell_13 (by decide) (fun c6 => ?_) (fun c6 => ?_)
    · replace hf := hf.1 c6
      refine za_aload_n o 0 dX0_sell_18 rfl rfl ?_
      refine za_getf o 1 zc0 hq (Nat.le_of_ble_eq_true rfl) wfX0_17 rfl dX0_sell_19 ?_
      refine za_iload_n o 1 dX0_sell_22 rfl rfl ?_
      obtain ⟨g7, hf⟩ := hf
      refine za_aald o (zk_0_10 hq) rfl rfl rfl g7 dX0_sell_23 ?_
      refine za_topr (fun q8 eq8 => ?_)
      replace hf := hf q8 eq8
      have hq8 : z_is q8 5 := by rw [eq8]; exact zk_a10 (zk_0_10 hq) (z_lt g7)
      refine za_astore_n o [(3, .ref (G.2.2 + q8)), (0, .ref (G.2.2 + q)), (1, .int a1), (2, .int a2)] dX0_sell_24 rfl (by decide) rfl ?_
      refine za_aload_n o 1 dX0_sell_25 rfl rfl ?_
      refine za_getf o 5 zc0 hq (Nat.le_of_ble_eq_true rfl) wfX0_49 rfl dX0_sell_26 ?_
      refine za_if_eq o 47 dX0_sell_29 (by decide) (fun c9 => ?_) (fun c9 => ?_)
      · replace hf := hf.1 c9
        refine za_sub [] rfl ?_
        exact tX0_sell_47 o hq   m5  hf
      · replace hf := hf.2 c9
        refine za_aload_n o 0 dX0_sell_32 rfl rfl ?_
        refine za_iconst (v := (0 : Int32)) o dX0_sell_33 (by decide) ?_
        refine za_callVi o [.int (0 : Int32)] (ctX5_hasOrder l G hq8 (0 : Int32)  m5 _ hf) zc5 hq8 mwX5_hasOrder wmX0_90 wiX5_hasOrder wsX5_hasOrder rfl ⟨Nat.le_of_ble_eq_true rfl, Nat.le_of_ble_eq_true rfl⟩ rfl (Nat.le_of_ble_eq_true rfl) dX0_sell_34 (fun r10 m11 hf => ?_)
        refine za_if_ne o 47 dX0_sell_37 (by decide) (fun c12 => ?_) (fun c12 => ?_)
        · replace hf := hf.1 c12
          refine za_sub [] rfl ?_
          exact tX0_sell_47 o hq   m11  hf
        · replace hf := hf.2 c12
          refine za_aload_n o 0 dX0_sell_40 rfl rfl ?_
          refine za_getfN o 8 "CanteenPlates" zc5 hq8 (Nat.le_of_ble_eq_true rfl) wnX0_117 rfl dX0_sell_41 ?_
          refine za_if_eq o 50 dX0_sell_44 (by decide) (fun c13 => ?_) (fun c13 => ?_)
          · replace hf := hf.1 c13
            refine za_aload_n o 1 dX0_sell_50 rfl rfl ?_
            refine za_iload_n o 3 dX0_sell_51 rfl rfl ?_
            refine za_iconst (v := (0 : Int32)) o dX0_sell_52 (by decide) ?_
            refine za_callVi o [.int a2, .int (0 : Int32)] (ctX0_priceOf l G hq a2 (0 : Int32)  m11 _ hf) zc0 hq mwX0_priceOf wmX0_80 wiX0_priceOf wsX0_priceOf rfl ⟨Nat.le_of_ble_eq_true rfl, Nat.le_of_ble_eq_true rfl⟩ rfl (Nat.le_of_ble_eq_true rfl) dX0_sell_53 (fun r14 m15 hf => ?_)
            refine za_iconst (v := (1 : Int32)) o dX0_sell_56 (by decide) ?_
            refine za_iadd o dX0_sell_57 ?_
            refine za_topi (fun x16 ex16 => ?_)
            replace hf := hf x16 ex16
            refine za_istore o [(4, .int x16), (3, .ref (G.2.2 + q8)), (0, .ref (G.2.2 + q)), (1, .int a1), (2, .int a2)] dX0_sell_58 (by decide) rfl ?_
            refine za_aload_n o 1 dX0_sell_60 rfl rfl ?_
            refine za_getfN o 2 "CanteenPlates" zc5 hq8 (Nat.le_of_ble_eq_true rfl) wnX0_132 rfl dX0_sell_61 ?_
            refine za_iload o 0 dX0_sell_64 rfl ?_
            refine za_icmp_lt o 86 dX0_sell_66 (by decide) (fun c17 => ?_) (fun c17 => ?_)
            · replace hf := hf.1 c17
              refine za_sub [] rfl ?_
              exact tX0_sell_86 o hq   m15  hf
            · replace hf := hf.2 c17
              refine za_aload_n o 2 dX0_sell_69 rfl rfl ?_
              refine za_getf o 2 zc0 hq (Nat.le_of_ble_eq_true rfl) wfX0_23 rfl dX0_sell_70 ?_
              refine za_iload_n o 4 dX0_sell_73 rfl rfl ?_
              obtain ⟨g18, hf⟩ := hf
              refine za_aald o (zk_0_11 hq) rfl rfl rfl g18 dX0_sell_74 ?_
              refine za_topr (fun q19 eq19 => ?_)
              replace hf := hf q19 eq19
              have hq19 : z_is q19 1 := by rw [eq19]; exact zk_a11 (zk_0_11 hq) (z_lt g18)
              refine za_callVi o [] (ctX1_left l G hq19   m15 _ hf) zc1 hq19 mwX1_left wmX0_123 wiX1_left wsX1_left rfl ⟨Nat.le_of_ble_eq_true rfl, Nat.le_of_ble_eq_true rfl⟩ rfl (Nat.le_of_ble_eq_true rfl) dX0_sell_75 (fun r20 m21 hf => ?_)
              refine za_aload_n o 2 dX0_sell_78 rfl rfl ?_
              refine za_iload_n o 4 dX0_sell_79 rfl rfl ?_
              refine za_callVi o [.int a2] (ctX0_awaited l G hq a2  m21 _ hf) zc0 hq mwX0_awaited wmX0_135 wiX0_awaited wsX0_awaited rfl ⟨Nat.le_of_ble_eq_true rfl, Nat.le_of_ble_eq_true rfl⟩ rfl (Nat.le_of_ble_eq_true rfl) dX0_sell_80 (fun r22 m23 hf => ?_)
              refine za_icmp_gt o 89 dX0_sell_83 (by decide) (fun c24 => ?_) (fun c24 => ?_)
              · replace hf := hf.1 c24
                refine za_aload_n o 2 dX0_sell_89 rfl rfl ?_
                refine za_getf o 2 zc0 hq (Nat.le_of_ble_eq_true rfl) wfX0_23 rfl dX0_sell_90 ?_
                refine za_iload_n o 4 dX0_sell_93 rfl rfl ?_
                obtain ⟨g25, hf⟩ := hf
                refine za_aald o (zk_0_11 hq) rfl rfl rfl g25 dX0_sell_94 ?_
                refine za_topr (fun q26 eq26 => ?_)
                replace hf := hf q26 eq26
                have hq26 : z_is q26 1 := by rw [eq26]; exact zk_a11 (zk_0_11 hq) (z_lt g25)
                refine za_callVv o [] (ctX1_give l G hq26   m23 _ hf) zc1 hq26 mwX1_give wmX0_126 wiX1_give wsX1_give rfl ⟨Nat.le_of_ble_eq_true rfl, Nat.le_of_ble_eq_true rfl⟩ rfl (Nat.le_of_ble_eq_true rfl) dX0_sell_95 (fun m28 hf => ?_)
                refine za_aload_n o 1 dX0_sell_98 rfl rfl ?_
                refine za_dup o dX0_sell_99 rfl ?_
                refine za_getfN o 7 "CanteenPlates" zc5 hq8 (Nat.le_of_ble_eq_true rfl) wnX0_129 rfl dX0_sell_100 ?_
                refine za_iconst (v := (1 : Int32)) o dX0_sell_103 (by decide) ?_
                refine za_iadd o dX0_sell_104 ?_
                refine za_topi (fun x29 ex29 => ?_)
                replace hf := hf x29 ex29
                refine za_putfN (ty := .int) o 7 "CanteenPlates" zc5 hq8 (Nat.le_of_ble_eq_true rfl) wnX0_129 rfl (by decide +kernel) rfl rfl (Nat.le_of_ble_eq_true rfl) rfl dX0_sell_105 ?_
                refine za_mem (fun m30 em30 => ?_)
                replace hf := hf m30 em30
                refine za_aload_n o 1 dX0_sell_108 rfl rfl ?_
                refine za_iconst (v := (1 : Int32)) o dX0_sell_109 (by decide) ?_
                refine za_putfN (ty := .boolean) o 8 "CanteenPlates" zc5 hq8 (Nat.le_of_ble_eq_true rfl) wnX0_117 rfl (by decide +kernel) (z_bn z_b1) (z_bfit z_b1) (Nat.le_of_ble_eq_true rfl) rfl dX0_sell_110 ?_
                refine za_mem (fun m31 em31 => ?_)
                replace hf := hf m31 em31
                refine za_aload_n o 1 dX0_sell_113 rfl rfl ?_
                refine za_dup o dX0_sell_114 rfl ?_
                refine za_getfN o 2 "CanteenPlates" zc5 hq8 (Nat.le_of_ble_eq_true rfl) wnX0_132 rfl dX0_sell_115 ?_
                refine za_iload o 0 dX0_sell_118 rfl ?_
                refine za_isub o dX0_sell_120 ?_
                refine za_topi (fun x32 ex32 => ?_)
                replace hf := hf x32 ex32
                refine za_putfN (ty := .int) o 2 "CanteenPlates" zc5 hq8 (Nat.le_of_ble_eq_true rfl) wnX0_132 rfl (by decide +kernel) rfl rfl (Nat.le_of_ble_eq_true rfl) rfl dX0_sell_121 ?_
                refine za_mem (fun m33 em33 => ?_)
                replace hf := hf m33 em33
                refine za_aload_n o 1 dX0_sell_124 rfl rfl ?_
                refine za_getfN o 2 "CanteenPlates" zc5 hq8 (Nat.le_of_ble_eq_true rfl) wnX0_132 rfl dX0_sell_125 ?_
                exact za_iret o rfl hf dX0_sell_128
              · replace hf := hf.2 c24
                refine za_sub [] rfl ?_
                exact tX0_sell_86 o hq   m23  hf
          · replace hf := hf.2 c13
            refine za_sub [] rfl ?_
            exact tX0_sell_47 o hq   m11  hf
    · replace hf := hf.2 c6
      refine za_sub [] rfl ?_
      exact tX0_sell_16 o hq   m5  hf
def fX7_buy (q : Nat) (a1 : Int32) (a2 : Int32) (μ : zMem) (K : Int32 → zMem → Prop) : Prop :=
  fX2_note 53 1 μ (fun m2 => fX0_sell 1 a1 a2 m2 (fun r3 m4 => fX2_keep 53 r3 m4 (fun r5 m6 => K r5 m6)))
set_option maxRecDepth 100000 in
set_option maxHeartbeats 4000000 in
theorem ctX7_buy (l : Launch) (G : zG) {q : Nat} (hq : z_is q 7) (a1 : Int32) (a2 : Int32)  (μ : zMem) (K : Int32 → zMem → Prop) (hf : fX7_buy q a1 a2 μ K) : z_Met l G yX7_buy cX7_buy 3 (some .int) (z_rm 4 99) [.ref (G.2.2 + q), .int a1, .int a2] μ K := by
  refine z_body (by decide) (Nat.le_of_ble_eq_true rfl) (fun p e s m args below meth c o => ?_)
  have o : za_Ok (z_rm 4 99) 0 0 p s m args meth c G RX7 cX7_buy 3 (some .int) := o
  show za_At p l e (z_rm 4 99) s m args below meth c (MQ below (zQi G K) args s 0 0 (zA G)) G 3 0 0 0 [(0, .ref (G.2.2 + q)), (1, .int a1), (2, .int a2)] [] μ
  unfold fX7_buy at hf
  refine za_aload_n o 0 dX7_buy_0 rfl rfl ?_
  refine za_getf o 1 zc7 hq (Nat.le_of_ble_eq_true rfl) wfX7_19 rfl dX7_buy_1 ?_
  refine za_aload_n o 0 dX7_buy_4 rfl rfl ?_
  refine za_getf o 0 zc7 hq (Nat.le_of_ble_eq_true rfl) wfX7_10 rfl dX7_buy_5 ?_
  refine za_callVv o [.ref (G.2.2 + 1)] (ctX2_note l G zk_c2 1 zk_c0 μ _ hf) zc2 zk_c2 mwX2_note wmX7_46 wiX2_note wsX2_note rfl ⟨Nat.le_of_ble_eq_true rfl, Nat.le_of_ble_eq_true rfl⟩ rfl (Nat.le_of_ble_eq_true rfl) dX7_buy_8 (fun m2 hf => ?_)
  refine za_aload_n o 0 dX7_buy_11 rfl rfl ?_
  refine za_getf o 1 zc7 hq (Nat.le_of_ble_eq_true rfl) wfX7_19 rfl dX7_buy_12 ?_
  refine za_aload_n o 0 dX7_buy_15 rfl rfl ?_
  refine za_getf o 0 zc7 hq (Nat.le_of_ble_eq_true rfl) wfX7_10 rfl dX7_buy_16 ?_
  refine za_iload_n o 1 dX7_buy_19 rfl rfl ?_
  refine za_iload_n o 2 dX7_buy_20 rfl rfl ?_
  refine za_callVi o [.int a1, .int a2] (ctX0_sell l G zk_c0 a1 a2  m2 _ hf) zc0 zk_c0 mwX0_sell wmX7_81 wiX0_sell wsX0_sell rfl ⟨Nat.le_of_ble_eq_true rfl, Nat.le_of_ble_eq_true rfl⟩ rfl (Nat.le_of_ble_eq_true rfl) dX7_buy_21 (fun r3 m4 hf => ?_)
  refine za_callVi o [.int r3] (ctX2_keep l G zk_c2 r3  m4 _ hf) zc2 zk_c2 mwX2_keep wmX7_54 wiX2_keep wsX2_keep rfl ⟨Nat.le_of_ble_eq_true rfl, Nat.le_of_ble_eq_true rfl⟩ rfl (Nat.le_of_ble_eq_true rfl) dX7_buy_24 (fun r5 m6 hf => ?_)
  exact za_iret o rfl hf dX7_buy_27
def fX1_clearUp (q : Nat) (a1 : Int32) (μ : zMem) (K : zMem → Prop) : Prop :=
  (∀ x1 : Int32, x1 = (z_min (μ q 2) a1) → (∀ x2 : Int32, x2 = ((μ q 1) + (μ q 2)) → (∀ x3 : Int32, x3 = (x2 - x1) → (∀ x4 : Int32, x4 = ((μ q 5) + x3) → (∀ m5 : zMem, m5 = z_up μ q 5 x4 → (∀ m6 : zMem, m6 = z_up m5 q 1 x1 → (∀ m7 : zMem, m7 = z_up m6 q 2 (0 : Int32) → K m7)))))))
set_option maxRecDepth 100000 in
set_option maxHeartbeats 4000000 in
theorem ctX1_clearUp (l : Launch) (G : zG) {q : Nat} (hq : z_is q 1) (a1 : Int32)  (μ : zMem) (K : zMem → Prop) (hf : fX1_clearUp q a1 μ K) : z_MetV l G yX1_clearUp cX1_clearUp 3 none (z_rm 1 21) [.ref (G.2.2 + q), .int a1] μ K := by
  refine z_body (by decide) (Nat.le_of_ble_eq_true rfl) (fun p e s m args below meth c o => ?_)
  have o : za_Ok (z_rm 1 21) 0 0 p s m args meth c G RX1 cX1_clearUp 3 none := o
  show za_At p l e (z_rm 1 21) s m args below meth c (MQ below (zQv G K) args s 0 0 (zA G)) G 3 0 0 0 [(0, .ref (G.2.2 + q)), (1, .int a1)] [] μ
  unfold fX1_clearUp at hf
  refine za_aload_n o 0 dX1_clearUp_0 rfl rfl ?_
  refine za_getf o 2 zc1 hq (Nat.le_of_ble_eq_true rfl) wfX1_25 rfl dX1_clearUp_1 ?_
  refine za_iload_n o 1 dX1_clearUp_4 rfl rfl ?_
  refine za_min o wmX1_37 wt_min wc_Math wk_min (Nat.le_of_ble_eq_true rfl) (Nat.le_of_ble_eq_true rfl) dX1_clearUp_5 ?_
  refine za_topi (fun x1 ex1 => ?_)
  replace hf := hf x1 ex1
  refine za_istore_n o [(2, .int x1), (0, .ref (G.2.2 + q)), (1, .int a1)] dX1_clearUp_8 rfl (by decide) rfl ?_
  refine za_aload_n o 1 dX1_clearUp_9 rfl rfl ?_
  refine za_dup o dX1_clearUp_10 rfl ?_
  refine za_getf o 5 zc1 hq (Nat.le_of_ble_eq_true rfl) wfX1_34 rfl dX1_clearUp_11 ?_
  refine za_aload_n o 1 dX1_clearUp_14 rfl rfl ?_
  refine za_getf o 1 zc1 hq (Nat.le_of_ble_eq_true rfl) wfX1_21 rfl dX1_clearUp_15 ?_
  refine za_aload_n o 1 dX1_clearUp_18 rfl rfl ?_
  refine za_getf o 2 zc1 hq (Nat.le_of_ble_eq_true rfl) wfX1_25 rfl dX1_clearUp_19 ?_
  refine za_iadd o dX1_clearUp_22 ?_
  refine za_topi (fun x2 ex2 => ?_)
  replace hf := hf x2 ex2
  refine za_iload_n o 0 dX1_clearUp_23 rfl rfl ?_
  refine za_isub o dX1_clearUp_24 ?_
  refine za_topi (fun x3 ex3 => ?_)
  replace hf := hf x3 ex3
  refine za_iadd o dX1_clearUp_25 ?_
  refine za_topi (fun x4 ex4 => ?_)
  replace hf := hf x4 ex4
  refine za_putf (ty := .int) o 5 zc1 hq (Nat.le_of_ble_eq_true rfl) wfX1_34 rfl (by decide +kernel) rfl rfl (Nat.le_of_ble_eq_true rfl) rfl dX1_clearUp_26 ?_
  refine za_mem (fun m5 em5 => ?_)
  replace hf := hf m5 em5
  refine za_aload_n o 1 dX1_clearUp_29 rfl rfl ?_
  refine za_iload_n o 0 dX1_clearUp_30 rfl rfl ?_
  refine za_putf (ty := .int) o 1 zc1 hq (Nat.le_of_ble_eq_true rfl) wfX1_21 rfl (by decide +kernel) rfl rfl (Nat.le_of_ble_eq_true rfl) rfl dX1_clearUp_31 ?_
  refine za_mem (fun m6 em6 => ?_)
  replace hf := hf m6 em6
  refine za_aload_n o 1 dX1_clearUp_34 rfl rfl ?_
  refine za_iconst (v := (0 : Int32)) o dX1_clearUp_35 (by decide) ?_
  refine za_putf (ty := .int) o 2 zc1 hq (Nat.le_of_ble_eq_true rfl) wfX1_25 rfl (by decide +kernel) rfl rfl (Nat.le_of_ble_eq_true rfl) rfl dX1_clearUp_36 ?_
  refine za_mem (fun m7 em7 => ?_)
  replace hf := hf m7 em7
  exact za_vret o rfl hf dX1_clearUp_39
def fX5_isMissing_20  (K : Int32 → zMem → Prop) (q : Nat) (v1 : Int32) (μ : zMem) : Prop :=
  (z_b v1 ∧ K v1 μ)
def fX5_isMissing_19  (K : Int32 → zMem → Prop) (q : Nat)  (μ : zMem) : Prop :=
  fX5_isMissing_20  K q (0 : Int32) μ
def fX5_isMissing (q : Nat)  (μ : zMem) (K : Int32 → zMem → Prop) : Prop :=
  fX5_hasOrder q (0 : Int32) μ (fun r1 m2 => ((r1 = 0 → fX5_isMissing_19  K q  m2) ∧ (¬ r1 = 0 → ((¬ (m2 q 8) = 0 → fX5_isMissing_19  K q  m2) ∧ ((m2 q 8) = 0 → fX5_isMissing_20  K q (1 : Int32) m2)))))
set_option maxRecDepth 100000 in
set_option maxHeartbeats 4000000 in
theorem tX5_isMissing_20 {p : Program} {l : Launch} {e : Env} {s : State} {m : MethodId} {args : Array Value} {below : List Frame} {meth : Method} {c : Code} {G : zG}  {K : Int32 → zMem → Prop} (o : za_Ok (z_rm 1 21) 0 0 p s m args meth c G RX5 cX5_isMissing 1 (some .boolean)) {q : Nat} (hq : z_is q 5)  (v1 : Int32) (μ : zMem)  (hf : fX5_isMissing_20  K q v1 μ) : za_At p l e (z_rm 1 21) s m args below meth c (MQ below (zQi G K) args s 0 0 (zA G)) G 1 0 0 20 [] [.int v1] μ := by
  unfold fX5_isMissing_20 at hf
  exact za_zret o rfl hf.1 hf.2 dX5_isMissing_20
set_option maxRecDepth 100000 in
set_option maxHeartbeats 4000000 in
theorem tX5_isMissing_19 {p : Program} {l : Launch} {e : Env} {s : State} {m : MethodId} {args : Array Value} {below : List Frame} {meth : Method} {c : Code} {G : zG}  {K : Int32 → zMem → Prop} (o : za_Ok (z_rm 1 21) 0 0 p s m args meth c G RX5 cX5_isMissing 1 (some .boolean)) {q : Nat} (hq : z_is q 5)   (μ : zMem)  (hf : fX5_isMissing_19  K q  μ) : za_At p l e (z_rm 1 21) s m args below meth c (MQ below (zQi G K) args s 0 0 (zA G)) G 1 0 0 19 [] [] μ := by
  unfold fX5_isMissing_19 at hf
  refine za_iconst (v := (0 : Int32)) o dX5_isMissing_19 (by decide) ?_
  exact tX5_isMissing_20 o hq  (0 : Int32) μ  hf
set_option maxRecDepth 100000 in
set_option maxHeartbeats 4000000 in
theorem ctX5_isMissing (l : Launch) (G : zG) {q : Nat} (hq : z_is q 5)   (μ : zMem) (K : Int32 → zMem → Prop) (hf : fX5_isMissing q  μ K) : z_Met l G yX5_isMissing cX5_isMissing 1 (some .boolean) (z_rm 1 21) [.ref (G.2.2 + q)] μ K := by
  refine z_body (by decide) (Nat.le_of_ble_eq_true rfl) (fun p e s m args below meth c o => ?_)
  have o : za_Ok (z_rm 1 21) 0 0 p s m args meth c G RX5 cX5_isMissing 1 (some .boolean) := o
  show za_At p l e (z_rm 1 21) s m args below meth c (MQ below (zQi G K) args s 0 0 (zA G)) G 1 0 0 0 [(0, .ref (G.2.2 + q))] [] μ
  unfold fX5_isMissing at hf
  refine za_aload_n o 0 dX5_isMissing_0 rfl rfl ?_
  refine za_iconst (v := (0 : Int32)) o dX5_isMissing_1 (by decide) ?_
  refine za_callVi o [.int (0 : Int32)] (ctX5_hasOrder l G hq (0 : Int32)  μ _ hf) zc5 hq mwX5_hasOrder wmX5_47 wiX5_hasOrder wsX5_hasOrder rfl ⟨Nat.le_of_ble_eq_true rfl, Nat.le_of_ble_eq_true rfl⟩ rfl (Nat.le_of_ble_eq_true rfl) dX5_isMissing_2 (fun r1 m2 hf => ?_)
  refine za_if_eq o 19 dX5_isMissing_5 (by decide) (fun c3 => ?_) (fun c3 => ?_)
  · replace hf := hf.1 c3
    refine za_sub [] rfl ?_
    exact tX5_isMissing_19 o hq   m2  hf
  · replace hf := hf.2 c3
    refine za_aload_n o 0 dX5_isMissing_8 rfl rfl ?_
    refine za_getf o 8 zc5 hq (Nat.le_of_ble_eq_true rfl) wfX5_37 rfl dX5_isMissing_9 ?_
    refine za_if_ne o 19 dX5_isMissing_12 (by decide) (fun c4 => ?_) (fun c4 => ?_)
    · replace hf := hf.1 c4
      refine za_sub [] rfl ?_
      exact tX5_isMissing_19 o hq   m2  hf
    · replace hf := hf.2 c4
      refine za_iconst (v := (1 : Int32)) o dX5_isMissing_15 (by decide) ?_
      refine za_goto o 20 dX5_isMissing_16 (by decide) ?_
      refine za_sub [] rfl ?_
      exact tX5_isMissing_20 o hq  (1 : Int32) m2  hf
def fX5_judge_25  (K : zMem → Prop) (q : Nat)  (μ : zMem) : Prop :=
  K μ
def fX5_judge (q : Nat) (a1 : Int32) (a2 : Int32) (μ : zMem) (K : zMem → Prop) : Prop :=
  (((μ q 3) < a1 → fX5_judge_25  K q  μ) ∧ (¬ (μ q 3) < a1 → (∀ x2 : Int32, x2 = (z_max (μ q 4) a2) → (∀ m3 : zMem, m3 = z_up μ q 4 x2 → (∀ m4 : zMem, m4 = z_up m3 q 3 (0 : Int32) → fX5_judge_25  K q  m4)))))
set_option maxRecDepth 100000 in
set_option maxHeartbeats 4000000 in
theorem tX5_judge_25 {p : Program} {l : Launch} {e : Env} {s : State} {m : MethodId} {args : Array Value} {below : List Frame} {meth : Method} {c : Code} {G : zG}  {K : zMem → Prop} (o : za_Ok (z_rm 1 21) 0 0 p s m args meth c G RX5 cX5_judge 3 none) {q : Nat} (hq : z_is q 5)   (μ : zMem)  (hf : fX5_judge_25  K q  μ) : za_At p l e (z_rm 1 21) s m args below meth c (MQ below (zQv G K) args s 0 0 (zA G)) G 3 0 0 25 [] [] μ := by
  unfold fX5_judge_25 at hf
  exact za_vret o rfl hf dX5_judge_25
set_option maxRecDepth 100000 in
set_option maxHeartbeats 4000000 in
theorem ctX5_judge (l : Launch) (G : zG) {q : Nat} (hq : z_is q 5) (a1 : Int32) (a2 : Int32)  (μ : zMem) (K : zMem → Prop) (hf : fX5_judge q a1 a2 μ K) : z_MetV l G yX5_judge cX5_judge 3 none (z_rm 1 21) [.ref (G.2.2 + q), .int a1, .int a2] μ K := by
  refine z_body (by decide) (Nat.le_of_ble_eq_true rfl) (fun p e s m args below meth c o => ?_)
  have o : za_Ok (z_rm 1 21) 0 0 p s m args meth c G RX5 cX5_judge 3 none := o
  show za_At p l e (z_rm 1 21) s m args below meth c (MQ below (zQv G K) args s 0 0 (zA G)) G 3 0 0 0 [(0, .ref (G.2.2 + q)), (1, .int a1), (2, .int a2)] [] μ
  unfold fX5_judge at hf
  refine za_aload_n o 0 dX5_judge_0 rfl rfl ?_
  refine za_getf o 3 zc5 hq (Nat.le_of_ble_eq_true rfl) wfX5_22 rfl dX5_judge_1 ?_
  refine za_iload_n o 1 dX5_judge_4 rfl rfl ?_
  refine za_icmp_lt o 25 dX5_judge_5 (by decide) (fun c1 => ?_) (fun c1 => ?_)
  · replace hf := hf.1 c1
    refine za_sub [] rfl ?_
    exact tX5_judge_25 o hq   μ  hf
  · replace hf := hf.2 c1
    refine za_aload_n o 0 dX5_judge_8 rfl rfl ?_
    refine za_aload_n o 0 dX5_judge_9 rfl rfl ?_
    refine za_getf o 4 zc5 hq (Nat.le_of_ble_eq_true rfl) wfX5_25 rfl dX5_judge_10 ?_
    refine za_iload_n o 2 dX5_judge_13 rfl rfl ?_
    refine za_max o wmX5_57 wt_max wc_Math wk_max (Nat.le_of_ble_eq_true rfl) (Nat.le_of_ble_eq_true rfl) dX5_judge_14 ?_
    refine za_topi (fun x2 ex2 => ?_)
    replace hf := hf x2 ex2
    refine za_putf (ty := .int) o 4 zc5 hq (Nat.le_of_ble_eq_true rfl) wfX5_25 rfl (by decide +kernel) rfl rfl (Nat.le_of_ble_eq_true rfl) rfl dX5_judge_17 ?_
    refine za_mem (fun m3 em3 => ?_)
    replace hf := hf m3 em3
    refine za_aload_n o 0 dX5_judge_20 rfl rfl ?_
    refine za_iconst (v := (0 : Int32)) o dX5_judge_21 (by decide) ?_
    refine za_putf (ty := .int) o 3 zc5 hq (Nat.le_of_ble_eq_true rfl) wfX5_22 rfl (by decide +kernel) rfl rfl (Nat.le_of_ble_eq_true rfl) rfl dX5_judge_22 ?_
    refine za_mem (fun m4 em4 => ?_)
    replace hf := hf m4 em4
    refine za_sub [] rfl ?_
    exact tX5_judge_25 o hq   m4  hf
def fX5_startDay_2b (k2 : Int32 → zMem → Prop) (K : zMem → Prop) (q : Nat) (v1 : Int32) (μ : zMem) : Prop :=
  (((5 : Int32) ≤ v1 → (∀ m2 : zMem, m2 = z_up μ (q + 1) 4 (-6 : Int32) → (∀ m3 : zMem, m3 = z_up m2 q 8 (0 : Int32) → K m3))) ∧ (¬ (5 : Int32) ≤ v1 → (∀ x4 : Int32, x4 = (v1 - (1 : Int32)) → (vp_in v1 5 ∧ (∀ x6 : Int32, x6 = (μ (q + 1) v1.toNatClampNeg) → (vp_in x4 5 ∧ (∀ m8 : zMem, m8 = z_up μ (q + 1) x4.toNatClampNeg x6 → (∀ x9 : Int32, x9 = (v1 - (1 : Int32)) → (vp_in v1 5 ∧ (∀ x11 : Int32, x11 = (m8 (q + 2) v1.toNatClampNeg) → (vp_in x9 5 ∧ (∀ m13 : zMem, m13 = z_up m8 (q + 2) x9.toNatClampNeg x11 → (∀ x14 : Int32, x14 = v1 + (1 : Int32) → k2 x14 m13)))))))))))))
def fX5_startDay_2  (K : zMem → Prop) (q : Nat) (n : Nat) : Int32 → zMem → Prop := z_it (fun k => fX5_startDay_2b  k K q ) (fun _ _ => False) n
def fX5_startDay (q : Nat)  (μ : zMem) (K : zMem → Prop) : Prop :=
  fX5_startDay_2  K q zFU (1 : Int32) μ
set_option maxRecDepth 100000 in
set_option maxHeartbeats 4000000 in
theorem tX5_startDay_2b {p : Program} {l : Launch} {e : Env} {s : State} {m : MethodId} {args : Array Value} {below : List Frame} {meth : Method} {c : Code} {G : zG} {k2 : Int32 → zMem → Prop} {K : zMem → Prop} (o : za_Ok (z_rm 0 0) 0 0 p s m args meth c G RX5 cX5_startDay 2 none) {q : Nat} (hq : z_is q 5) (hk2 : ∀ (v1 : Int32) (μ : zMem), k2 v1 μ → za_At p l e (z_rm 0 0) s m args below meth c (MQ below (zQv G K) args s 0 0 (zA G)) G 2 0 0 2 [(0, .ref (G.2.2 + q)), (1, .int v1)] [] μ) (v1 : Int32) (μ : zMem)  (hf : fX5_startDay_2b k2 K q v1 μ) : za_At p l e (z_rm 0 0) s m args below meth c (MQ below (zQv G K) args s 0 0 (zA G)) G 2 0 0 2 [(0, .ref (G.2.2 + q)), (1, .int v1)] [] μ := by
  unfold fX5_startDay_2b at hf
  refine za_iload_n o 1 dX5_startDay_2 rfl rfl ?_
  refine za_iconst (v := (5 : Int32)) o dX5_startDay_3 (by decide) ?_
  refine za_icmp_ge o 41 dX5_startDay_4 (by decide) (fun c1 => ?_) (fun c1 => ?_)
  · replace hf := hf.1 c1
    refine za_aload_n o 0 dX5_startDay_41 rfl rfl ?_
    refine za_getf o 0 zc5 hq (Nat.le_of_ble_eq_true rfl) wfX5_9 rfl dX5_startDay_42 ?_
    refine za_iconst (v := (4 : Int32)) o dX5_startDay_45 (by decide) ?_
    refine za_bipush (v := (-6 : Int32)) o dX5_startDay_46 (by decide) ?_
    refine za_iast o (zk_5_12 hq) rfl (by unfold vp_in; decide) dX5_startDay_48 ?_
    refine za_mem (fun m2 em2 => ?_)
    replace hf := hf m2 em2
    refine za_aload_n o 0 dX5_startDay_49 rfl rfl ?_
    refine za_iconst (v := (0 : Int32)) o dX5_startDay_50 (by decide) ?_
    refine za_putf (ty := .boolean) o 8 zc5 hq (Nat.le_of_ble_eq_true rfl) wfX5_37 rfl (by decide +kernel) (z_bn z_b0) (z_bfit z_b0) (Nat.le_of_ble_eq_true rfl) rfl dX5_startDay_51 ?_
    refine za_mem (fun m3 em3 => ?_)
    replace hf := hf m3 em3
    exact za_vret o rfl hf dX5_startDay_54
  · replace hf := hf.2 c1
    refine za_aload_n o 0 dX5_startDay_7 rfl rfl ?_
    refine za_getf o 0 zc5 hq (Nat.le_of_ble_eq_true rfl) wfX5_9 rfl dX5_startDay_8 ?_
    refine za_iload_n o 1 dX5_startDay_11 rfl rfl ?_
    refine za_iconst (v := (1 : Int32)) o dX5_startDay_12 (by decide) ?_
    refine za_isub o dX5_startDay_13 ?_
    refine za_topi (fun x4 ex4 => ?_)
    replace hf := hf x4 ex4
    refine za_aload_n o 0 dX5_startDay_14 rfl rfl ?_
    refine za_getf o 0 zc5 hq (Nat.le_of_ble_eq_true rfl) wfX5_9 rfl dX5_startDay_15 ?_
    refine za_iload_n o 1 dX5_startDay_18 rfl rfl ?_
    obtain ⟨g5, hf⟩ := hf
    refine za_iald o (zk_5_12 hq) rfl g5 dX5_startDay_19 ?_
    refine za_topi (fun x6 ex6 => ?_)
    replace hf := hf x6 ex6
    obtain ⟨g7, hf⟩ := hf
    refine za_iast o (zk_5_12 hq) rfl g7 dX5_startDay_20 ?_
    refine za_mem (fun m8 em8 => ?_)
    replace hf := hf m8 em8
    refine za_aload_n o 0 dX5_startDay_21 rfl rfl ?_
    refine za_getf o 1 zc5 hq (Nat.le_of_ble_eq_true rfl) wfX5_15 rfl dX5_startDay_22 ?_
    refine za_iload_n o 1 dX5_startDay_25 rfl rfl ?_
    refine za_iconst (v := (1 : Int32)) o dX5_startDay_26 (by decide) ?_
    refine za_isub o dX5_startDay_27 ?_
    refine za_topi (fun x9 ex9 => ?_)
    replace hf := hf x9 ex9
    refine za_aload_n o 0 dX5_startDay_28 rfl rfl ?_
    refine za_getf o 1 zc5 hq (Nat.le_of_ble_eq_true rfl) wfX5_15 rfl dX5_startDay_29 ?_
    refine za_iload_n o 1 dX5_startDay_32 rfl rfl ?_
    obtain ⟨g10, hf⟩ := hf
    refine za_iald o (zk_5_12b hq) rfl g10 dX5_startDay_33 ?_
    refine za_topi (fun x11 ex11 => ?_)
    replace hf := hf x11 ex11
    obtain ⟨g12, hf⟩ := hf
    refine za_iast o (zk_5_12b hq) rfl g12 dX5_startDay_34 ?_
    refine za_mem (fun m13 em13 => ?_)
    replace hf := hf m13 em13
    obtain ⟨x14, ex14⟩ : ∃ y : Int32, y = v1 + (1 : Int32) := ⟨_, rfl⟩
    replace hf := hf x14 ex14
    refine za_iinc o x14 1 [(1, .int x14), (0, .ref (G.2.2 + q))] dX5_startDay_35 rfl (by rw [ex14]; rfl) (by decide) rfl ?_
    refine za_goto o 2 dX5_startDay_38 (by decide) ?_
    refine za_sub [1, 0] rfl ?_
    exact hk2 x14 m13  hf
theorem tX5_startDay_2 {p : Program} {l : Launch} {e : Env} {s : State} {m : MethodId} {args : Array Value} {below : List Frame} {meth : Method} {c : Code} {G : zG}  {K : zMem → Prop} (o : za_Ok (z_rm 0 0) 0 0 p s m args meth c G RX5 cX5_startDay 2 none) {q : Nat} (hq : z_is q 5)  (n : Nat) : ∀ (v1 : Int32) (μ : zMem), fX5_startDay_2  K q n v1 μ → za_At p l e (z_rm 0 0) s m args below meth c (MQ below (zQv G K) args s 0 0 (zA G)) G 2 0 0 2 [(0, .ref (G.2.2 + q)), (1, .int v1)] [] μ := by
  induction n with
  | zero => intro _ _ hf; exact hf.elim
  | succ n ih => intro v1 μ  hf; exact tX5_startDay_2b o hq  ih v1 μ  hf
set_option maxRecDepth 100000 in
set_option maxHeartbeats 4000000 in
theorem ctX5_startDay (l : Launch) (G : zG) {q : Nat} (hq : z_is q 5)   (μ : zMem) (K : zMem → Prop) (hf : fX5_startDay q  μ K) : z_MetV l G yX5_startDay cX5_startDay 2 none (z_rm 0 0) [.ref (G.2.2 + q)] μ K := by
  refine z_body (by decide) (Nat.le_of_ble_eq_true rfl) (fun p e s m args below meth c o => ?_)
  have o : za_Ok (z_rm 0 0) 0 0 p s m args meth c G RX5 cX5_startDay 2 none := o
  show za_At p l e (z_rm 0 0) s m args below meth c (MQ below (zQv G K) args s 0 0 (zA G)) G 2 0 0 0 [(0, .ref (G.2.2 + q))] [] μ
  unfold fX5_startDay at hf
  refine za_iconst (v := (1 : Int32)) o dX5_startDay_0 (by decide) ?_
  refine za_istore_n o [(1, .int (1 : Int32)), (0, .ref (G.2.2 + q))] dX5_startDay_1 rfl (by decide) rfl ?_
  refine za_sub [1, 0] rfl ?_
  exact tX5_startDay_2 o hq  zFU (1 : Int32) μ  hf
def fX5_stayAway (q : Nat)  (μ : zMem) (K : zMem → Prop) : Prop :=
  (∀ x1 : Int32, x1 = ((μ q 6) + (1 : Int32)) → (∀ m2 : zMem, m2 = z_up μ q 6 x1 → (∀ x3 : Int32, x3 = ((m2 q 3) + (1 : Int32)) → (∀ m4 : zMem, m4 = z_up m2 q 3 x3 → K m4))))
set_option maxRecDepth 100000 in
set_option maxHeartbeats 4000000 in
theorem ctX5_stayAway (l : Launch) (G : zG) {q : Nat} (hq : z_is q 5)   (μ : zMem) (K : zMem → Prop) (hf : fX5_stayAway q  μ K) : z_MetV l G yX5_stayAway cX5_stayAway 1 none (z_rm 0 0) [.ref (G.2.2 + q)] μ K := by
  refine z_body (by decide) (Nat.le_of_ble_eq_true rfl) (fun p e s m args below meth c o => ?_)
  have o : za_Ok (z_rm 0 0) 0 0 p s m args meth c G RX5 cX5_stayAway 1 none := o
  show za_At p l e (z_rm 0 0) s m args below meth c (MQ below (zQv G K) args s 0 0 (zA G)) G 1 0 0 0 [(0, .ref (G.2.2 + q))] [] μ
  unfold fX5_stayAway at hf
  refine za_aload_n o 0 dX5_stayAway_0 rfl rfl ?_
  refine za_dup o dX5_stayAway_1 rfl ?_
  refine za_getf o 6 zc5 hq (Nat.le_of_ble_eq_true rfl) wfX5_31 rfl dX5_stayAway_2 ?_
  refine za_iconst (v := (1 : Int32)) o dX5_stayAway_5 (by decide) ?_
  refine za_iadd o dX5_stayAway_6 ?_
  refine za_topi (fun x1 ex1 => ?_)
  replace hf := hf x1 ex1
  refine za_putf (ty := .int) o 6 zc5 hq (Nat.le_of_ble_eq_true rfl) wfX5_31 rfl (by decide +kernel) rfl rfl (Nat.le_of_ble_eq_true rfl) rfl dX5_stayAway_7 ?_
  refine za_mem (fun m2 em2 => ?_)
  replace hf := hf m2 em2
  refine za_aload_n o 0 dX5_stayAway_10 rfl rfl ?_
  refine za_dup o dX5_stayAway_11 rfl ?_
  refine za_getf o 3 zc5 hq (Nat.le_of_ble_eq_true rfl) wfX5_22 rfl dX5_stayAway_12 ?_
  refine za_iconst (v := (1 : Int32)) o dX5_stayAway_15 (by decide) ?_
  refine za_iadd o dX5_stayAway_16 ?_
  refine za_topi (fun x3 ex3 => ?_)
  replace hf := hf x3 ex3
  refine za_putf (ty := .int) o 3 zc5 hq (Nat.le_of_ble_eq_true rfl) wfX5_22 rfl (by decide +kernel) rfl rfl (Nat.le_of_ble_eq_true rfl) rfl dX5_stayAway_17 ?_
  refine za_mem (fun m4 em4 => ?_)
  replace hf := hf m4 em4
  exact za_vret o rfl hf dX5_stayAway_20
def fX0_endDay_17  (K : Int32 → zMem → Prop) (q : Nat)  (μ : zMem) : Prop :=
  K (-5 : Int32) μ
def fX0_endDay_56 (k24 : Int32 → Int32 → zMem → Prop) (K : Int32 → zMem → Prop) (q : Nat) (v1 : Int32) (v2 : Int32) (μ : zMem) : Prop :=
  (vp_in v2 14 ∧ (∀ q2 : Nat, q2 = (q + 2) + 2 + 3 * v2.toNatClampNeg → (∀ x3 : Int32, x3 = (μ (q + 1) 2) → (∀ x4 : Int32, x4 = ((μ q 4) + (1 : Int32)) → (∀ x5 : Int32, x5 = (μ (q + 1) 3) → (∀ x6 : Int32, x6 = (x4 + x5) → fX5_judge q2 x3 x6 μ (fun m8 => (vp_in v2 14 ∧ (∀ q10 : Nat, q10 = (q + 2) + 2 + 3 * v2.toNatClampNeg → fX5_startDay q10  m8 (fun m12 => (∀ x13 : Int32, x13 = v2 + (1 : Int32) → k24 v1 x13 m12)))))))))))
def fX0_endDay_101b (k101 : Int32 → Int32 → zMem → Prop) (K : Int32 → zMem → Prop) (q : Nat) (v1 : Int32) (v2 : Int32) (μ : zMem) : Prop :=
  (((3 : Int32) ≤ v2 → (∀ x15 : Int32, x15 = ((μ q 4) + (1 : Int32)) → (∀ m16 : zMem, m16 = z_up μ q 4 x15 → (∀ m17 : zMem, m17 = z_up m16 q 5 (0 : Int32) → K v1 m17)))) ∧ (¬ (3 : Int32) ≤ v2 → (vp_in v2 3 ∧ (∀ q19 : Nat, q19 = (q + 3) + 43 + 2 * v2.toNatClampNeg → (∀ x20 : Int32, x20 = (μ (q + 1) 1) → fX1_clearUp q19 x20 μ (fun m22 => (∀ x23 : Int32, x23 = v2 + (1 : Int32) → k101 v1 x23 m22)))))))
def fX0_endDay_101  (K : Int32 → zMem → Prop) (q : Nat) (n : Nat) : Int32 → Int32 → zMem → Prop := z_it (fun k => fX0_endDay_101b  k K q ) (fun _ _ _ => False) n
def fX0_endDay_24b (k24 : Int32 → Int32 → zMem → Prop) (K : Int32 → zMem → Prop) (q : Nat) (v1 : Int32) (v2 : Int32) (μ : zMem) : Prop :=
  (((μ q 3) ≤ v2 → fX0_endDay_101  K q zFU v1 (0 : Int32) μ) ∧ (¬ (μ q 3) ≤ v2 → (vp_in v2 14 ∧ (∀ q26 : Nat, q26 = (q + 2) + 2 + 3 * v2.toNatClampNeg → fX5_isMissing q26  μ (fun r27 m28 => ((r27 = 0 → fX0_endDay_56 k24 K q v1 v2 m28) ∧ (¬ r27 = 0 → (vp_in v2 14 ∧ (∀ q31 : Nat, q31 = (q + 2) + 2 + 3 * v2.toNatClampNeg → fX5_stayAway q31  m28 (fun m33 => (∀ x34 : Int32, x34 = v1 + (1 : Int32) → fX0_endDay_56 k24 K q x34 v2 m33)))))))))))
def fX0_endDay_24  (K : Int32 → zMem → Prop) (q : Nat) (n : Nat) : Int32 → Int32 → zMem → Prop := z_it (fun k => fX0_endDay_24b  k K q ) (fun _ _ _ => False) n
def fX0_endDay (q : Nat)  (μ : zMem) (K : Int32 → zMem → Prop) : Prop :=
  (((μ q 5) = 0 → fX0_endDay_17  K q  μ) ∧ (¬ (μ q 5) = 0 → (((μ q 4) < (9999 : Int32) → fX0_endDay_24  K q zFU (0 : Int32) (0 : Int32) μ) ∧ (¬ (μ q 4) < (9999 : Int32) → fX0_endDay_17  K q  μ))))
set_option maxRecDepth 100000 in
set_option maxHeartbeats 4000000 in
theorem tX0_endDay_17 {p : Program} {l : Launch} {e : Env} {s : State} {m : MethodId} {args : Array Value} {below : List Frame} {meth : Method} {c : Code} {G : zG}  {K : Int32 → zMem → Prop} (o : za_Ok (z_rm 2 43) 0 0 p s m args meth c G RX0 cX0_endDay 3 (some .int)) {q : Nat} (hq : z_is q 0)   (μ : zMem)  (hf : fX0_endDay_17  K q  μ) : za_At p l e (z_rm 2 43) s m args below meth c (MQ below (zQi G K) args s 0 0 (zA G)) G 3 0 0 17 [] [] μ := by
  unfold fX0_endDay_17 at hf
  refine za_bipush (v := (-5 : Int32)) o dX0_endDay_17 (by decide) ?_
  exact za_iret o rfl hf dX0_endDay_19
set_option maxRecDepth 100000 in
set_option maxHeartbeats 4000000 in
theorem tX0_endDay_56 {p : Program} {l : Launch} {e : Env} {s : State} {m : MethodId} {args : Array Value} {below : List Frame} {meth : Method} {c : Code} {G : zG} {k24 : Int32 → Int32 → zMem → Prop} {K : Int32 → zMem → Prop} (o : za_Ok (z_rm 2 43) 0 0 p s m args meth c G RX0 cX0_endDay 3 (some .int)) {q : Nat} (hq : z_is q 0) (hk24 : ∀ (v1 : Int32) (v2 : Int32) (μ : zMem), k24 v1 v2 μ → za_At p l e (z_rm 2 43) s m args below meth c (MQ below (zQi G K) args s 0 0 (zA G)) G 3 0 0 24 [(0, .ref (G.2.2 + q)), (1, .int v1), (2, .int v2)] [] μ) (v1 : Int32) (v2 : Int32) (μ : zMem)  (hf : fX0_endDay_56 k24 K q v1 v2 μ) : za_At p l e (z_rm 2 43) s m args below meth c (MQ below (zQi G K) args s 0 0 (zA G)) G 3 0 0 56 [(0, .ref (G.2.2 + q)), (1, .int v1), (2, .int v2)] [] μ := by
  unfold fX0_endDay_56 at hf
  refine za_aload_n o 0 dX0_endDay_56 rfl rfl ?_
  refine za_getf o 1 zc0 hq (Nat.le_of_ble_eq_true rfl) wfX0_17 rfl dX0_endDay_57 ?_
  refine za_iload_n o 2 dX0_endDay_60 rfl rfl ?_
  obtain ⟨g1, hf⟩ := hf
  refine za_aald o (zk_0_10 hq) rfl rfl rfl g1 dX0_endDay_61 ?_
  refine za_topr (fun q2 eq2 => ?_)
  replace hf := hf q2 eq2
  have hq2 : z_is q2 5 := by rw [eq2]; exact zk_a10 (zk_0_10 hq) (z_lt g1)
  refine za_aload_n o 0 dX0_endDay_62 rfl rfl ?_
  refine za_getf o 0 zc0 hq (Nat.le_of_ble_eq_true rfl) wfX0_9 rfl dX0_endDay_63 ?_
  refine za_iconst (v := (2 : Int32)) o dX0_endDay_66 (by decide) ?_
  refine za_iald o (zk_0_9 hq) rfl (by unfold vp_in; decide) dX0_endDay_67 ?_
  refine za_topi (fun x3 ex3 => ?_)
  replace hf := hf x3 ex3
  refine za_aload_n o 0 dX0_endDay_68 rfl rfl ?_
  refine za_getf o 4 zc0 hq (Nat.le_of_ble_eq_true rfl) wfX0_46 rfl dX0_endDay_69 ?_
  refine za_iconst (v := (1 : Int32)) o dX0_endDay_72 (by decide) ?_
  refine za_iadd o dX0_endDay_73 ?_
  refine za_topi (fun x4 ex4 => ?_)
  replace hf := hf x4 ex4
  refine za_aload_n o 0 dX0_endDay_74 rfl rfl ?_
  refine za_getf o 0 zc0 hq (Nat.le_of_ble_eq_true rfl) wfX0_9 rfl dX0_endDay_75 ?_
  refine za_iconst (v := (3 : Int32)) o dX0_endDay_78 (by decide) ?_
  refine za_iald o (zk_0_9 hq) rfl (by unfold vp_in; decide) dX0_endDay_79 ?_
  refine za_topi (fun x5 ex5 => ?_)
  replace hf := hf x5 ex5
  refine za_iadd o dX0_endDay_80 ?_
  refine za_topi (fun x6 ex6 => ?_)
  replace hf := hf x6 ex6
  refine za_callVv o [.int x3, .int x6] (ctX5_judge l G hq2 x3 x6  μ _ hf) zc5 hq2 mwX5_judge wmX0_145 wiX5_judge wsX5_judge rfl ⟨Nat.le_of_ble_eq_true rfl, Nat.le_of_ble_eq_true rfl⟩ rfl (Nat.le_of_ble_eq_true rfl) dX0_endDay_81 (fun m8 hf => ?_)
  refine za_aload_n o 0 dX0_endDay_84 rfl rfl ?_
  refine za_getf o 1 zc0 hq (Nat.le_of_ble_eq_true rfl) wfX0_17 rfl dX0_endDay_85 ?_
  refine za_iload_n o 2 dX0_endDay_88 rfl rfl ?_
  obtain ⟨g9, hf⟩ := hf
  refine za_aald o (zk_0_10 hq) rfl rfl rfl g9 dX0_endDay_89 ?_
  refine za_topr (fun q10 eq10 => ?_)
  replace hf := hf q10 eq10
  have hq10 : z_is q10 5 := by rw [eq10]; exact zk_a10 (zk_0_10 hq) (z_lt g9)
  refine za_callVv o [] (ctX5_startDay l G hq10   m8 _ hf) zc5 hq10 mwX5_startDay wmX0_149 wiX5_startDay wsX5_startDay rfl ⟨Nat.le_of_ble_eq_true rfl, Nat.le_of_ble_eq_true rfl⟩ rfl (Nat.le_of_ble_eq_true rfl) dX0_endDay_90 (fun m12 hf => ?_)
  obtain ⟨x13, ex13⟩ : ∃ y : Int32, y = v2 + (1 : Int32) := ⟨_, rfl⟩
  replace hf := hf x13 ex13
  refine za_iinc o x13 2 [(2, .int x13), (0, .ref (G.2.2 + q)), (1, .int v1)] dX0_endDay_93 rfl (by rw [ex13]; rfl) (by decide) rfl ?_
  refine za_goto o 24 dX0_endDay_96 (by decide) ?_
  refine za_sub [1, 2, 0] rfl ?_
  exact hk24 v1 x13 m12  hf
set_option maxRecDepth 100000 in
set_option maxHeartbeats 4000000 in
theorem tX0_endDay_101b {p : Program} {l : Launch} {e : Env} {s : State} {m : MethodId} {args : Array Value} {below : List Frame} {meth : Method} {c : Code} {G : zG} {k101 : Int32 → Int32 → zMem → Prop} {K : Int32 → zMem → Prop} (o : za_Ok (z_rm 2 43) 0 0 p s m args meth c G RX0 cX0_endDay 3 (some .int)) {q : Nat} (hq : z_is q 0) (hk101 : ∀ (v1 : Int32) (v2 : Int32) (μ : zMem), k101 v1 v2 μ → za_At p l e (z_rm 2 43) s m args below meth c (MQ below (zQi G K) args s 0 0 (zA G)) G 3 0 0 101 [(0, .ref (G.2.2 + q)), (1, .int v1), (2, .int v2)] [] μ) (v1 : Int32) (v2 : Int32) (μ : zMem)  (hf : fX0_endDay_101b k101 K q v1 v2 μ) : za_At p l e (z_rm 2 43) s m args below meth c (MQ below (zQi G K) args s 0 0 (zA G)) G 3 0 0 101 [(0, .ref (G.2.2 + q)), (1, .int v1), (2, .int v2)] [] μ := by
  unfold fX0_endDay_101b at hf
  refine za_iload_n o 2 dX0_endDay_101 rfl rfl ?_
  refine za_iconst (v := (3 : Int32)) o dX0_endDay_102 (by decide) ?_
  refine za_icmp_ge o 127 dX0_endDay_103 (by decide) (fun c14 => ?_) (fun c14 => ?_)
  · replace hf := hf.1 c14
    refine za_aload_n o 0 dX0_endDay_127 rfl rfl ?_
    refine za_dup o dX0_endDay_128 rfl ?_
    refine za_getf o 4 zc0 hq (Nat.le_of_ble_eq_true rfl) wfX0_46 rfl dX0_endDay_129 ?_
    refine za_iconst (v := (1 : Int32)) o dX0_endDay_132 (by decide) ?_
    refine za_iadd o dX0_endDay_133 ?_
    refine za_topi (fun x15 ex15 => ?_)
    replace hf := hf x15 ex15
    refine za_putf (ty := .int) o 4 zc0 hq (Nat.le_of_ble_eq_true rfl) wfX0_46 rfl (by decide +kernel) rfl rfl (Nat.le_of_ble_eq_true rfl) rfl dX0_endDay_134 ?_
    refine za_mem (fun m16 em16 => ?_)
    replace hf := hf m16 em16
    refine za_aload_n o 0 dX0_endDay_137 rfl rfl ?_
    refine za_iconst (v := (0 : Int32)) o dX0_endDay_138 (by decide) ?_
    refine za_putf (ty := .boolean) o 5 zc0 hq (Nat.le_of_ble_eq_true rfl) wfX0_49 rfl (by decide +kernel) (z_bn z_b0) (z_bfit z_b0) (Nat.le_of_ble_eq_true rfl) rfl dX0_endDay_139 ?_
    refine za_mem (fun m17 em17 => ?_)
    replace hf := hf m17 em17
    refine za_iload_n o 1 dX0_endDay_142 rfl rfl ?_
    exact za_iret o rfl hf dX0_endDay_143
  · replace hf := hf.2 c14
    refine za_aload_n o 0 dX0_endDay_106 rfl rfl ?_
    refine za_getf o 2 zc0 hq (Nat.le_of_ble_eq_true rfl) wfX0_23 rfl dX0_endDay_107 ?_
    refine za_iload_n o 2 dX0_endDay_110 rfl rfl ?_
    obtain ⟨g18, hf⟩ := hf
    refine za_aald o (zk_0_11 hq) rfl rfl rfl g18 dX0_endDay_111 ?_
    refine za_topr (fun q19 eq19 => ?_)
    replace hf := hf q19 eq19
    have hq19 : z_is q19 1 := by rw [eq19]; exact zk_a11 (zk_0_11 hq) (z_lt g18)
    refine za_aload_n o 0 dX0_endDay_112 rfl rfl ?_
    refine za_getf o 0 zc0 hq (Nat.le_of_ble_eq_true rfl) wfX0_9 rfl dX0_endDay_113 ?_
    refine za_iconst (v := (1 : Int32)) o dX0_endDay_116 (by decide) ?_
    refine za_iald o (zk_0_9 hq) rfl (by unfold vp_in; decide) dX0_endDay_117 ?_
    refine za_topi (fun x20 ex20 => ?_)
    replace hf := hf x20 ex20
    refine za_callVv o [.int x20] (ctX1_clearUp l G hq19 x20  μ _ hf) zc1 hq19 mwX1_clearUp wmX0_152 wiX1_clearUp wsX1_clearUp rfl ⟨Nat.le_of_ble_eq_true rfl, Nat.le_of_ble_eq_true rfl⟩ rfl (Nat.le_of_ble_eq_true rfl) dX0_endDay_118 (fun m22 hf => ?_)
    obtain ⟨x23, ex23⟩ : ∃ y : Int32, y = v2 + (1 : Int32) := ⟨_, rfl⟩
    replace hf := hf x23 ex23
    refine za_iinc o x23 2 [(2, .int x23), (0, .ref (G.2.2 + q)), (1, .int v1)] dX0_endDay_121 rfl (by rw [ex23]; rfl) (by decide) rfl ?_
    refine za_goto o 101 dX0_endDay_124 (by decide) ?_
    refine za_sub [1, 2, 0] rfl ?_
    exact hk101 v1 x23 m22  hf
theorem tX0_endDay_101 {p : Program} {l : Launch} {e : Env} {s : State} {m : MethodId} {args : Array Value} {below : List Frame} {meth : Method} {c : Code} {G : zG}  {K : Int32 → zMem → Prop} (o : za_Ok (z_rm 2 43) 0 0 p s m args meth c G RX0 cX0_endDay 3 (some .int)) {q : Nat} (hq : z_is q 0)  (n : Nat) : ∀ (v1 : Int32) (v2 : Int32) (μ : zMem), fX0_endDay_101  K q n v1 v2 μ → za_At p l e (z_rm 2 43) s m args below meth c (MQ below (zQi G K) args s 0 0 (zA G)) G 3 0 0 101 [(0, .ref (G.2.2 + q)), (1, .int v1), (2, .int v2)] [] μ := by
  induction n with
  | zero => intro _ _ _ hf; exact hf.elim
  | succ n ih => intro v1 v2 μ  hf; exact tX0_endDay_101b o hq  ih v1 v2 μ  hf
set_option maxRecDepth 100000 in
set_option maxHeartbeats 4000000 in
theorem tX0_endDay_24b {p : Program} {l : Launch} {e : Env} {s : State} {m : MethodId} {args : Array Value} {below : List Frame} {meth : Method} {c : Code} {G : zG} {k24 : Int32 → Int32 → zMem → Prop} {K : Int32 → zMem → Prop} (o : za_Ok (z_rm 2 43) 0 0 p s m args meth c G RX0 cX0_endDay 3 (some .int)) {q : Nat} (hq : z_is q 0) (hk24 : ∀ (v1 : Int32) (v2 : Int32) (μ : zMem), k24 v1 v2 μ → za_At p l e (z_rm 2 43) s m args below meth c (MQ below (zQi G K) args s 0 0 (zA G)) G 3 0 0 24 [(0, .ref (G.2.2 + q)), (1, .int v1), (2, .int v2)] [] μ) (v1 : Int32) (v2 : Int32) (μ : zMem)  (hf : fX0_endDay_24b k24 K q v1 v2 μ) : za_At p l e (z_rm 2 43) s m args below meth c (MQ below (zQi G K) args s 0 0 (zA G)) G 3 0 0 24 [(0, .ref (G.2.2 + q)), (1, .int v1), (2, .int v2)] [] μ := by
  unfold fX0_endDay_24b at hf
  refine za_iload_n o 2 dX0_endDay_24 rfl rfl ?_
  refine za_aload_n o 0 dX0_endDay_25 rfl rfl ?_
  refine za_getf o 3 zc0 hq (Nat.le_of_ble_eq_true rfl) wfX0_39 rfl dX0_endDay_26 ?_
  refine za_icmp_ge o 99 dX0_endDay_29 (by decide) (fun c24 => ?_) (fun c24 => ?_)
  · replace hf := hf.1 c24
    refine za_iconst (v := (0 : Int32)) o dX0_endDay_99 (by decide) ?_
    refine za_istore_n o [(2, .int (0 : Int32)), (0, .ref (G.2.2 + q)), (1, .int v1)] dX0_endDay_100 rfl (by decide) rfl ?_
    refine za_sub [1, 2, 0] rfl ?_
    exact tX0_endDay_101 o hq  zFU v1 (0 : Int32) μ  hf
  · replace hf := hf.2 c24
    refine za_aload_n o 0 dX0_endDay_32 rfl rfl ?_
    refine za_getf o 1 zc0 hq (Nat.le_of_ble_eq_true rfl) wfX0_17 rfl dX0_endDay_33 ?_
    refine za_iload_n o 2 dX0_endDay_36 rfl rfl ?_
    obtain ⟨g25, hf⟩ := hf
    refine za_aald o (zk_0_10 hq) rfl rfl rfl g25 dX0_endDay_37 ?_
    refine za_topr (fun q26 eq26 => ?_)
    replace hf := hf q26 eq26
    have hq26 : z_is q26 5 := by rw [eq26]; exact zk_a10 (zk_0_10 hq) (z_lt g25)
    refine za_callVi o [] (ctX5_isMissing l G hq26   μ _ hf) zc5 hq26 mwX5_isMissing wmX0_138 wiX5_isMissing wsX5_isMissing rfl ⟨Nat.le_of_ble_eq_true rfl, Nat.le_of_ble_eq_true rfl⟩ rfl (Nat.le_of_ble_eq_true rfl) dX0_endDay_38 (fun r27 m28 hf => ?_)
    refine za_if_eq o 56 dX0_endDay_41 (by decide) (fun c29 => ?_) (fun c29 => ?_)
    · replace hf := hf.1 c29
      exact tX0_endDay_56 o hq hk24 v1 v2 m28  hf
    · replace hf := hf.2 c29
      refine za_aload_n o 0 dX0_endDay_44 rfl rfl ?_
      refine za_getf o 1 zc0 hq (Nat.le_of_ble_eq_true rfl) wfX0_17 rfl dX0_endDay_45 ?_
      refine za_iload_n o 2 dX0_endDay_48 rfl rfl ?_
      obtain ⟨g30, hf⟩ := hf
      refine za_aald o (zk_0_10 hq) rfl rfl rfl g30 dX0_endDay_49 ?_
      refine za_topr (fun q31 eq31 => ?_)
      replace hf := hf q31 eq31
      have hq31 : z_is q31 5 := by rw [eq31]; exact zk_a10 (zk_0_10 hq) (z_lt g30)
      refine za_callVv o [] (ctX5_stayAway l G hq31   m28 _ hf) zc5 hq31 mwX5_stayAway wmX0_142 wiX5_stayAway wsX5_stayAway rfl ⟨Nat.le_of_ble_eq_true rfl, Nat.le_of_ble_eq_true rfl⟩ rfl (Nat.le_of_ble_eq_true rfl) dX0_endDay_50 (fun m33 hf => ?_)
      obtain ⟨x34, ex34⟩ : ∃ y : Int32, y = v1 + (1 : Int32) := ⟨_, rfl⟩
      replace hf := hf x34 ex34
      refine za_iinc o x34 1 [(1, .int x34), (0, .ref (G.2.2 + q)), (2, .int v2)] dX0_endDay_53 rfl (by rw [ex34]; rfl) (by decide) rfl ?_
      refine za_sub [1, 0, 2] rfl ?_
      exact tX0_endDay_56 o hq hk24 x34 v2 m33  hf
theorem tX0_endDay_24 {p : Program} {l : Launch} {e : Env} {s : State} {m : MethodId} {args : Array Value} {below : List Frame} {meth : Method} {c : Code} {G : zG}  {K : Int32 → zMem → Prop} (o : za_Ok (z_rm 2 43) 0 0 p s m args meth c G RX0 cX0_endDay 3 (some .int)) {q : Nat} (hq : z_is q 0)  (n : Nat) : ∀ (v1 : Int32) (v2 : Int32) (μ : zMem), fX0_endDay_24  K q n v1 v2 μ → za_At p l e (z_rm 2 43) s m args below meth c (MQ below (zQi G K) args s 0 0 (zA G)) G 3 0 0 24 [(0, .ref (G.2.2 + q)), (1, .int v1), (2, .int v2)] [] μ := by
  induction n with
  | zero => intro _ _ _ hf; exact hf.elim
  | succ n ih => intro v1 v2 μ  hf; exact tX0_endDay_24b o hq  ih v1 v2 μ  hf
set_option maxRecDepth 100000 in
set_option maxHeartbeats 4000000 in
theorem ctX0_endDay (l : Launch) (G : zG) {q : Nat} (hq : z_is q 0)   (μ : zMem) (K : Int32 → zMem → Prop) (hf : fX0_endDay q  μ K) : z_Met l G yX0_endDay cX0_endDay 3 (some .int) (z_rm 2 43) [.ref (G.2.2 + q)] μ K := by
  refine z_body (by decide) (Nat.le_of_ble_eq_true rfl) (fun p e s m args below meth c o => ?_)
  have o : za_Ok (z_rm 2 43) 0 0 p s m args meth c G RX0 cX0_endDay 3 (some .int) := o
  show za_At p l e (z_rm 2 43) s m args below meth c (MQ below (zQi G K) args s 0 0 (zA G)) G 3 0 0 0 [(0, .ref (G.2.2 + q))] [] μ
  unfold fX0_endDay at hf
  refine za_aload_n o 0 dX0_endDay_0 rfl rfl ?_
  refine za_getf o 5 zc0 hq (Nat.le_of_ble_eq_true rfl) wfX0_49 rfl dX0_endDay_1 ?_
  refine za_if_eq o 17 dX0_endDay_4 (by decide) (fun c35 => ?_) (fun c35 => ?_)
  · replace hf := hf.1 c35
    refine za_sub [] rfl ?_
    exact tX0_endDay_17 o hq   μ  hf
  · replace hf := hf.2 c35
    refine za_aload_n o 0 dX0_endDay_7 rfl rfl ?_
    refine za_getf o 4 zc0 hq (Nat.le_of_ble_eq_true rfl) wfX0_46 rfl dX0_endDay_8 ?_
    refine za_sipush (v := (9999 : Int32)) o dX0_endDay_11 (by decide) ?_
    refine za_icmp_lt o 20 dX0_endDay_14 (by decide) (fun c36 => ?_) (fun c36 => ?_)
    · replace hf := hf.1 c36
      refine za_iconst (v := (0 : Int32)) o dX0_endDay_20 (by decide) ?_
      refine za_istore_n o [(1, .int (0 : Int32)), (0, .ref (G.2.2 + q))] dX0_endDay_21 rfl (by decide) rfl ?_
      refine za_iconst (v := (0 : Int32)) o dX0_endDay_22 (by decide) ?_
      refine za_istore_n o [(2, .int (0 : Int32)), (1, .int (0 : Int32)), (0, .ref (G.2.2 + q))] dX0_endDay_23 rfl (by decide) rfl ?_
      refine za_sub [2, 1, 0] rfl ?_
      exact tX0_endDay_24 o hq  zFU (0 : Int32) (0 : Int32) μ  hf
    · replace hf := hf.2 c36
      refine za_sub [] rfl ?_
      exact tX0_endDay_17 o hq   μ  hf
def fX7_close (q : Nat)  (μ : zMem) (K : Int32 → zMem → Prop) : Prop :=
  fX2_note 53 1 μ (fun m2 => fX0_endDay 1  m2 (fun r3 m4 => fX2_keep 53 r3 m4 (fun r5 m6 => K r5 m6)))
set_option maxRecDepth 100000 in
set_option maxHeartbeats 4000000 in
theorem ctX7_close (l : Launch) (G : zG) {q : Nat} (hq : z_is q 7)   (μ : zMem) (K : Int32 → zMem → Prop) (hf : fX7_close q  μ K) : z_Met l G yX7_close cX7_close 1 (some .int) (z_rm 4 99) [.ref (G.2.2 + q)] μ K := by
  refine z_body (by decide) (Nat.le_of_ble_eq_true rfl) (fun p e s m args below meth c o => ?_)
  have o : za_Ok (z_rm 4 99) 0 0 p s m args meth c G RX7 cX7_close 1 (some .int) := o
  show za_At p l e (z_rm 4 99) s m args below meth c (MQ below (zQi G K) args s 0 0 (zA G)) G 1 0 0 0 [(0, .ref (G.2.2 + q))] [] μ
  unfold fX7_close at hf
  refine za_aload_n o 0 dX7_close_0 rfl rfl ?_
  refine za_getf o 1 zc7 hq (Nat.le_of_ble_eq_true rfl) wfX7_19 rfl dX7_close_1 ?_
  refine za_aload_n o 0 dX7_close_4 rfl rfl ?_
  refine za_getf o 0 zc7 hq (Nat.le_of_ble_eq_true rfl) wfX7_10 rfl dX7_close_5 ?_
  refine za_callVv o [.ref (G.2.2 + 1)] (ctX2_note l G zk_c2 1 zk_c0 μ _ hf) zc2 zk_c2 mwX2_note wmX7_46 wiX2_note wsX2_note rfl ⟨Nat.le_of_ble_eq_true rfl, Nat.le_of_ble_eq_true rfl⟩ rfl (Nat.le_of_ble_eq_true rfl) dX7_close_8 (fun m2 hf => ?_)
  refine za_aload_n o 0 dX7_close_11 rfl rfl ?_
  refine za_getf o 1 zc7 hq (Nat.le_of_ble_eq_true rfl) wfX7_19 rfl dX7_close_12 ?_
  refine za_aload_n o 0 dX7_close_15 rfl rfl ?_
  refine za_getf o 0 zc7 hq (Nat.le_of_ble_eq_true rfl) wfX7_10 rfl dX7_close_16 ?_
  refine za_callVi o [] (ctX0_endDay l G zk_c0   m2 _ hf) zc0 zk_c0 mwX0_endDay wmX7_84 wiX0_endDay wsX0_endDay rfl ⟨Nat.le_of_ble_eq_true rfl, Nat.le_of_ble_eq_true rfl⟩ rfl (Nat.le_of_ble_eq_true rfl) dX7_close_19 (fun r3 m4 hf => ?_)
  refine za_callVi o [.int r3] (ctX2_keep l G zk_c2 r3  m4 _ hf) zc2 zk_c2 mwX2_keep wmX7_54 wiX2_keep wsX2_keep rfl ⟨Nat.le_of_ble_eq_true rfl, Nat.le_of_ble_eq_true rfl⟩ rfl (Nat.le_of_ble_eq_true rfl) dX7_close_22 (fun r5 m6 hf => ?_)
  exact za_iret o rfl hf dX7_close_25
