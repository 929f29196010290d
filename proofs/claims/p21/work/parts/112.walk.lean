/-! X8_number X8_sign X8_readsOrder X8_faultOf X8_does -/
def fX8_number_108  (K : Int32 → zMem → Prop) (q : Nat)  (μ : zMem) : Prop :=
  K (1 : Int32) μ
def fX8_number (q : Nat) (a1 : Int32) (μ : zMem) (K : Int32 → zMem → Prop) : Prop :=
  (∀ x1 : Int32, x1 = ((4 : Int32) * (μ q 9)) → (∀ x2 : Int32, x2 = (x1 + a1) → fX8_isSign q (48 : Int32) (57 : Int32) μ (fun r3 m4 => ((¬ r3 = 0 → (vp_in (m4 q 10) 80 ∧ (∀ x7 : Int32, x7 = (m4 536 ((m4 q 10)).toNatClampNeg) → (∀ x8 : Int32, x8 = (x7 - (48 : Int32)) → (vp_in x2 164 ∧ (∀ m10 : zMem, m10 = z_up m4 535 x2.toNatClampNeg x8 → (∀ x11 : Int32, x11 = ((m10 q 10) + (1 : Int32)) → (∀ m12 : zMem, m12 = z_up m10 q 10 x11 → (vp_in x2 164 ∧ (∀ x14 : Int32, x14 = (m12 535 x2.toNatClampNeg) → ((x14 ≤ 0 → fX8_number_108  K q  m12) ∧ (¬ x14 ≤ 0 → fX8_isSign q (48 : Int32) (57 : Int32) m12 (fun r16 m17 => ((r16 = 0 → fX8_number_108  K q  m17) ∧ (¬ r16 = 0 → (vp_in x2 164 ∧ (∀ x20 : Int32, x20 = (m17 535 x2.toNatClampNeg) → (∀ x21 : Int32, x21 = ((10 : Int32) * x20) → (vp_in (m17 q 10) 80 ∧ (∀ x23 : Int32, x23 = (m17 536 ((m17 q 10)).toNatClampNeg) → (∀ x24 : Int32, x24 = (x21 + x23) → (∀ x25 : Int32, x25 = (x24 - (48 : Int32)) → (vp_in x2 164 ∧ (∀ m27 : zMem, m27 = z_up m17 535 x2.toNatClampNeg x25 → (∀ x28 : Int32, x28 = ((m27 q 10) + (1 : Int32)) → (∀ m29 : zMem, m29 = z_up m27 q 10 x28 → fX8_number_108  K q  m29)))))))))))))))))))))))))) ∧ (r3 = 0 → K (0 : Int32) m4)))))
set_option maxRecDepth 100000 in
set_option maxHeartbeats 4000000 in
theorem tX8_number_108 {p : Program} {l : Launch} {e : Env} {s : State} {m : MethodId} {args : Array Value} {below : List Frame} {meth : Method} {c : Code} {G : zG}  {K : Int32 → zMem → Prop} (o : za_Ok (z_rm 1 22) 0 0 p s m args meth c G RX8 cX8_number 3 (some .boolean)) {q : Nat} (hq : z_is q 8)   (μ : zMem)  (hf : fX8_number_108  K q  μ) : za_At p l e (z_rm 1 22) s m args below meth c (MQ below (zQi G K) args s 0 0 (zA G)) G 3 0 0 108 [] [] μ := by
  unfold fX8_number_108 at hf
  refine za_iconst (v := (1 : Int32)) o dX8_number_108 (by decide) ?_
  exact za_zret o rfl z_b1 hf dX8_number_109
set_option maxRecDepth 100000 in
set_option maxHeartbeats 4000000 in
theorem ctX8_number (l : Launch) (G : zG) {q : Nat} (hq : z_is q 8) (a1 : Int32)  (μ : zMem) (K : Int32 → zMem → Prop) (hf : fX8_number q a1 μ K) : z_Met l G yX8_number cX8_number 3 (some .boolean) (z_rm 1 22) [.ref (G.2.2 + q), .int a1] μ K := by
  refine z_body (by decide) (Nat.le_of_ble_eq_true rfl) (fun p e s m args below meth c o => ?_)
  have o : za_Ok (z_rm 1 22) 0 0 p s m args meth c G RX8 cX8_number 3 (some .boolean) := o
  show za_At p l e (z_rm 1 22) s m args below meth c (MQ below (zQi G K) args s 0 0 (zA G)) G 3 0 0 0 [(0, .ref (G.2.2 + q)), (1, .int a1)] [] μ
  unfold fX8_number at hf
  refine za_iconst (v := (4 : Int32)) o dX8_number_0 (by decide) ?_
  refine za_aload_n o 0 dX8_number_1 rfl rfl ?_
  refine za_getf o 9 zc8 hq (Nat.le_of_ble_eq_true rfl) wfX8_136 rfl dX8_number_2 ?_
  refine za_imul o dX8_number_5 ?_
  refine za_topi (fun x1 ex1 => ?_)
  replace hf := hf x1 ex1
  refine za_iload_n o 1 dX8_number_6 rfl rfl ?_
  refine za_iadd o dX8_number_7 ?_
  refine za_topi (fun x2 ex2 => ?_)
  replace hf := hf x2 ex2
  refine za_istore_n o [(2, .int x2), (0, .ref (G.2.2 + q)), (1, .int a1)] dX8_number_8 rfl (by decide) rfl ?_
  refine za_aload_n o 1 dX8_number_9 rfl rfl ?_
  refine za_bipush (v := (48 : Int32)) o dX8_number_10 (by decide) ?_
  refine za_bipush (v := (57 : Int32)) o dX8_number_12 (by decide) ?_
  refine za_callVi o [.int (48 : Int32), .int (57 : Int32)] (ctX8_isSign l G hq (48 : Int32) (57 : Int32)  μ _ hf) zc8 hq mwX8_isSign wmX8_132 wiX8_isSign wsX8_isSign rfl ⟨Nat.le_of_ble_eq_true rfl, Nat.le_of_ble_eq_true rfl⟩ rfl (Nat.le_of_ble_eq_true rfl) dX8_number_14 (fun r3 m4 hf => ?_)
  refine za_if_ne o 22 dX8_number_17 (by decide) (fun c5 => ?_) (fun c5 => ?_)
  · replace hf := hf.1 c5
    refine za_aload_n o 1 dX8_number_22 rfl rfl ?_
    refine za_getf o 5 zc8 hq (Nat.le_of_ble_eq_true rfl) wfX8_26 rfl dX8_number_23 ?_
    refine za_iload_n o 0 dX8_number_26 rfl rfl ?_
    refine za_aload_n o 1 dX8_number_27 rfl rfl ?_
    refine za_getf o 6 zc8 hq (Nat.le_of_ble_eq_true rfl) wfX8_29 rfl dX8_number_28 ?_
    refine za_aload_n o 1 dX8_number_31 rfl rfl ?_
    refine za_getf o 10 zc8 hq (Nat.le_of_ble_eq_true rfl) wfX8_129 rfl dX8_number_32 ?_
    obtain ⟨g6, hf⟩ := hf
    refine za_cald o zk_m6 rfl g6 dX8_number_35 ?_
    refine za_topi (fun x7 ex7 => ?_)
    replace hf := hf x7 ex7
    refine za_bipush (v := (48 : Int32)) o dX8_number_36 (by decide) ?_
    refine za_isub o dX8_number_38 ?_
    refine za_topi (fun x8 ex8 => ?_)
    replace hf := hf x8 ex8
    obtain ⟨g9, hf⟩ := hf
    refine za_iast o zk_m5 rfl g9 dX8_number_39 ?_
    refine za_mem (fun m10 em10 => ?_)
    replace hf := hf m10 em10
    refine za_aload_n o 1 dX8_number_40 rfl rfl ?_
    refine za_dup o dX8_number_41 rfl ?_
    refine za_getf o 10 zc8 hq (Nat.le_of_ble_eq_true rfl) wfX8_129 rfl dX8_number_42 ?_
    refine za_iconst (v := (1 : Int32)) o dX8_number_45 (by decide) ?_
    refine za_iadd o dX8_number_46 ?_
    refine za_topi (fun x11 ex11 => ?_)
    replace hf := hf x11 ex11
    refine za_putf (ty := .int) o 10 zc8 hq (Nat.le_of_ble_eq_true rfl) wfX8_129 rfl (by decide +kernel) rfl rfl (Nat.le_of_ble_eq_true rfl) rfl dX8_number_47 ?_
    refine za_mem (fun m12 em12 => ?_)
    replace hf := hf m12 em12
    refine za_aload_n o 1 dX8_number_50 rfl rfl ?_
    refine za_getf o 5 zc8 hq (Nat.le_of_ble_eq_true rfl) wfX8_26 rfl dX8_number_51 ?_
    refine za_iload_n o 0 dX8_number_54 rfl rfl ?_
    obtain ⟨g13, hf⟩ := hf
    refine za_iald o zk_m5 rfl g13 dX8_number_55 ?_
    refine za_topi (fun x14 ex14 => ?_)
    replace hf := hf x14 ex14
    refine za_if_le o 108 dX8_number_56 (by decide) (fun c15 => ?_) (fun c15 => ?_)
    · replace hf := hf.1 c15
      refine za_sub [] rfl ?_
      exact tX8_number_108 o hq   m12  hf
    · replace hf := hf.2 c15
      refine za_aload_n o 1 dX8_number_59 rfl rfl ?_
      refine za_bipush (v := (48 : Int32)) o dX8_number_60 (by decide) ?_
      refine za_bipush (v := (57 : Int32)) o dX8_number_62 (by decide) ?_
      refine za_callVi o [.int (48 : Int32), .int (57 : Int32)] (ctX8_isSign l G hq (48 : Int32) (57 : Int32)  m12 _ hf) zc8 hq mwX8_isSign wmX8_132 wiX8_isSign wsX8_isSign rfl ⟨Nat.le_of_ble_eq_true rfl, Nat.le_of_ble_eq_true rfl⟩ rfl (Nat.le_of_ble_eq_true rfl) dX8_number_64 (fun r16 m17 hf => ?_)
      refine za_if_eq o 108 dX8_number_67 (by decide) (fun c18 => ?_) (fun c18 => ?_)
      · replace hf := hf.1 c18
        refine za_sub [] rfl ?_
        exact tX8_number_108 o hq   m17  hf
      · replace hf := hf.2 c18
        refine za_aload_n o 1 dX8_number_70 rfl rfl ?_
        refine za_getf o 5 zc8 hq (Nat.le_of_ble_eq_true rfl) wfX8_26 rfl dX8_number_71 ?_
        refine za_iload_n o 0 dX8_number_74 rfl rfl ?_
        refine za_bipush (v := (10 : Int32)) o dX8_number_75 (by decide) ?_
        refine za_aload_n o 1 dX8_number_77 rfl rfl ?_
        refine za_getf o 5 zc8 hq (Nat.le_of_ble_eq_true rfl) wfX8_26 rfl dX8_number_78 ?_
        refine za_iload_n o 0 dX8_number_81 rfl rfl ?_
        obtain ⟨g19, hf⟩ := hf
        refine za_iald o zk_m5 rfl g19 dX8_number_82 ?_
        refine za_topi (fun x20 ex20 => ?_)
        replace hf := hf x20 ex20
        refine za_imul o dX8_number_83 ?_
        refine za_topi (fun x21 ex21 => ?_)
        replace hf := hf x21 ex21
        refine za_aload_n o 1 dX8_number_84 rfl rfl ?_
        refine za_getf o 6 zc8 hq (Nat.le_of_ble_eq_true rfl) wfX8_29 rfl dX8_number_85 ?_
        refine za_aload_n o 1 dX8_number_88 rfl rfl ?_
        refine za_getf o 10 zc8 hq (Nat.le_of_ble_eq_true rfl) wfX8_129 rfl dX8_number_89 ?_
        obtain ⟨g22, hf⟩ := hf
        refine za_cald o zk_m6 rfl g22 dX8_number_92 ?_
        refine za_topi (fun x23 ex23 => ?_)
        replace hf := hf x23 ex23
        refine za_iadd o dX8_number_93 ?_
        refine za_topi (fun x24 ex24 => ?_)
        replace hf := hf x24 ex24
        refine za_bipush (v := (48 : Int32)) o dX8_number_94 (by decide) ?_
        refine za_isub o dX8_number_96 ?_
        refine za_topi (fun x25 ex25 => ?_)
        replace hf := hf x25 ex25
        obtain ⟨g26, hf⟩ := hf
        refine za_iast o zk_m5 rfl g26 dX8_number_97 ?_
        refine za_mem (fun m27 em27 => ?_)
        replace hf := hf m27 em27
        refine za_aload_n o 1 dX8_number_98 rfl rfl ?_
        refine za_dup o dX8_number_99 rfl ?_
        refine za_getf o 10 zc8 hq (Nat.le_of_ble_eq_true rfl) wfX8_129 rfl dX8_number_100 ?_
        refine za_iconst (v := (1 : Int32)) o dX8_number_103 (by decide) ?_
        refine za_iadd o dX8_number_104 ?_
        refine za_topi (fun x28 ex28 => ?_)
        replace hf := hf x28 ex28
        refine za_putf (ty := .int) o 10 zc8 hq (Nat.le_of_ble_eq_true rfl) wfX8_129 rfl (by decide +kernel) rfl rfl (Nat.le_of_ble_eq_true rfl) rfl dX8_number_105 ?_
        refine za_mem (fun m29 em29 => ?_)
        replace hf := hf m29 em29
        refine za_sub [] rfl ?_
        exact tX8_number_108 o hq   m29  hf
  · replace hf := hf.2 c5
    refine za_iconst (v := (0 : Int32)) o dX8_number_20 (by decide) ?_
    exact za_zret o rfl z_b0 hf dX8_number_21
def fX8_sign_56  (K : Int32 → zMem → Prop) (q : Nat) (v1 : Int32) (v2 : Int32) (v3 : Int32) (v4 : Nat) (μ : zMem) : Prop :=
  (∀ x1 : Int32, x1 = (v3 + v2) → (∀ m2 : zMem, m2 = z_up μ v4 10 x1 → (z_b v1 ∧ K v1 m2)))
def fX8_sign_40  (K : Int32 → zMem → Prop) (q : Nat) (v1 : Int32) (v2 : Int32) (v3 : Int32) (v4 : Nat) (μ : zMem) : Prop :=
  (vp_in v3 164 ∧ (∀ m4 : zMem, m4 = z_up μ v4 v3.toNatClampNeg v2 → ((v1 = 0 → fX8_sign_56  K q v1 (0 : Int32) (m4 q 10) q m4) ∧ (¬ v1 = 0 → fX8_sign_56  K q v1 (1 : Int32) (m4 q 10) q m4))))
def fX8_sign (q : Nat) (a1 : Int32) (a2 : Int32) (a3 : Int32) (μ : zMem) (K : Int32 → zMem → Prop) : Prop :=
  fX8_isSign q a2 a3 μ (fun r6 m7 => (∀ x8 : Int32, x8 = ((4 : Int32) * (m7 q 9)) → (∀ x9 : Int32, x9 = (x8 + a1) → ((r6 = 0 → fX8_sign_40  K q r6 (0 : Int32) x9 535 m7) ∧ (¬ r6 = 0 → (vp_in (m7 q 10) 80 ∧ (∀ x12 : Int32, x12 = (m7 536 ((m7 q 10)).toNatClampNeg) → (∀ x13 : Int32, x13 = (x12 - a2) → fX8_sign_40  K q r6 x13 x9 535 m7))))))))
set_option maxRecDepth 100000 in
set_option maxHeartbeats 4000000 in
theorem tX8_sign_56 {p : Program} {l : Launch} {e : Env} {s : State} {m : MethodId} {args : Array Value} {below : List Frame} {meth : Method} {c : Code} {G : zG}  {K : Int32 → zMem → Prop} (o : za_Ok (z_rm 1 22) 0 0 p s m args meth c G RX8 cX8_sign 5 (some .boolean)) {q : Nat} (hq : z_is q 8)  (v1 : Int32) (v2 : Int32) (v3 : Int32) (v4 : Nat) (μ : zMem) (hv4 : z_is v4 8) (hf : fX8_sign_56  K q v1 v2 v3 v4 μ) : za_At p l e (z_rm 1 22) s m args below meth c (MQ below (zQi G K) args s 0 0 (zA G)) G 5 0 0 56 [(4, .int v1)] [.int v2, .int v3, .ref (G.2.2 + v4)] μ := by
  unfold fX8_sign_56 at hf
  refine za_iadd o dX8_sign_56 ?_
  refine za_topi (fun x1 ex1 => ?_)
  replace hf := hf x1 ex1
  refine za_putf (ty := .int) o 10 zc8 hv4 (Nat.le_of_ble_eq_true rfl) wfX8_129 rfl (by decide +kernel) rfl rfl (Nat.le_of_ble_eq_true rfl) rfl dX8_sign_57 ?_
  refine za_mem (fun m2 em2 => ?_)
  replace hf := hf m2 em2
  refine za_iload o 0 dX8_sign_60 rfl ?_
  exact za_zret o rfl hf.1 hf.2 dX8_sign_62
set_option maxRecDepth 100000 in
set_option maxHeartbeats 4000000 in
theorem tX8_sign_40 {p : Program} {l : Launch} {e : Env} {s : State} {m : MethodId} {args : Array Value} {below : List Frame} {meth : Method} {c : Code} {G : zG}  {K : Int32 → zMem → Prop} (o : za_Ok (z_rm 1 22) 0 0 p s m args meth c G RX8 cX8_sign 5 (some .boolean)) {q : Nat} (hq : z_is q 8)  (v1 : Int32) (v2 : Int32) (v3 : Int32) (v4 : Nat) (μ : zMem) (hv4 : z_is v4 20) (hf : fX8_sign_40  K q v1 v2 v3 v4 μ) : za_At p l e (z_rm 1 22) s m args below meth c (MQ below (zQi G K) args s 0 0 (zA G)) G 5 0 0 40 [(0, .ref (G.2.2 + q)), (4, .int v1)] [.int v2, .int v3, .ref (G.2.2 + v4)] μ := by
  unfold fX8_sign_40 at hf
  obtain ⟨g3, hf⟩ := hf
  refine za_iast o hv4 rfl g3 dX8_sign_40 ?_
  refine za_mem (fun m4 em4 => ?_)
  replace hf := hf m4 em4
  refine za_aload_n o 0 dX8_sign_41 rfl rfl ?_
  refine za_dup o dX8_sign_42 rfl ?_
  refine za_getf o 10 zc8 hq (Nat.le_of_ble_eq_true rfl) wfX8_129 rfl dX8_sign_43 ?_
  refine za_iload o 1 dX8_sign_46 rfl ?_
  refine za_if_eq o 55 dX8_sign_48 (by decide) (fun c5 => ?_) (fun c5 => ?_)
  · replace hf := hf.1 c5
    refine za_iconst (v := (0 : Int32)) o dX8_sign_55 (by decide) ?_
    refine za_sub [1] rfl ?_
    exact tX8_sign_56 o hq  v1 (0 : Int32) (m4 q 10) q m4 hq hf
  · replace hf := hf.2 c5
    refine za_iconst (v := (1 : Int32)) o dX8_sign_51 (by decide) ?_
    refine za_goto o 56 dX8_sign_52 (by decide) ?_
    refine za_sub [1] rfl ?_
    exact tX8_sign_56 o hq  v1 (1 : Int32) (m4 q 10) q m4 hq hf
set_option maxRecDepth 100000 in
set_option maxHeartbeats 4000000 in
theorem ctX8_sign (l : Launch) (G : zG) {q : Nat} (hq : z_is q 8) (a1 : Int32) (a2 : Int32) (a3 : Int32)  (μ : zMem) (K : Int32 → zMem → Prop) (hf : fX8_sign q a1 a2 a3 μ K) : z_Met l G yX8_sign cX8_sign 5 (some .boolean) (z_rm 1 22) [.ref (G.2.2 + q), .int a1, .int a2, .int a3] μ K := by
  refine z_body (by decide) (Nat.le_of_ble_eq_true rfl) (fun p e s m args below meth c o => ?_)
  have o : za_Ok (z_rm 1 22) 0 0 p s m args meth c G RX8 cX8_sign 5 (some .boolean) := o
  show za_At p l e (z_rm 1 22) s m args below meth c (MQ below (zQi G K) args s 0 0 (zA G)) G 5 0 0 0 [(0, .ref (G.2.2 + q)), (1, .int a1), (2, .int a2), (3, .int a3)] [] μ
  unfold fX8_sign at hf
  refine za_aload_n o 0 dX8_sign_0 rfl rfl ?_
  refine za_iload_n o 2 dX8_sign_1 rfl rfl ?_
  refine za_iload_n o 3 dX8_sign_2 rfl rfl ?_
  refine za_callVi o [.int a2, .int a3] (ctX8_isSign l G hq a2 a3  μ _ hf) zc8 hq mwX8_isSign wmX8_132 wiX8_isSign wsX8_isSign rfl ⟨Nat.le_of_ble_eq_true rfl, Nat.le_of_ble_eq_true rfl⟩ rfl (Nat.le_of_ble_eq_true rfl) dX8_sign_3 (fun r6 m7 hf => ?_)
  refine za_istore o [(4, .int r6), (0, .ref (G.2.2 + q)), (1, .int a1), (2, .int a2), (3, .int a3)] dX8_sign_6 (by decide) rfl ?_
  refine za_aload_n o 1 dX8_sign_8 rfl rfl ?_
  refine za_getf o 5 zc8 hq (Nat.le_of_ble_eq_true rfl) wfX8_26 rfl dX8_sign_9 ?_
  refine za_iconst (v := (4 : Int32)) o dX8_sign_12 (by decide) ?_
  refine za_aload_n o 1 dX8_sign_13 rfl rfl ?_
  refine za_getf o 9 zc8 hq (Nat.le_of_ble_eq_true rfl) wfX8_136 rfl dX8_sign_14 ?_
  refine za_imul o dX8_sign_17 ?_
  refine za_topi (fun x8 ex8 => ?_)
  replace hf := hf x8 ex8
  refine za_iload_n o 2 dX8_sign_18 rfl rfl ?_
  refine za_iadd o dX8_sign_19 ?_
  refine za_topi (fun x9 ex9 => ?_)
  replace hf := hf x9 ex9
  refine za_iload o 0 dX8_sign_20 rfl ?_
  refine za_if_eq o 39 dX8_sign_22 (by decide) (fun c10 => ?_) (fun c10 => ?_)
  · replace hf := hf.1 c10
    refine za_iconst (v := (0 : Int32)) o dX8_sign_39 (by decide) ?_
    refine za_sub [1, 0] rfl ?_
    exact tX8_sign_40 o hq  r6 (0 : Int32) x9 535 m7 zk_m5 hf
  · replace hf := hf.2 c10
    refine za_aload_n o 1 dX8_sign_25 rfl rfl ?_
    refine za_getf o 6 zc8 hq (Nat.le_of_ble_eq_true rfl) wfX8_29 rfl dX8_sign_26 ?_
    refine za_aload_n o 1 dX8_sign_29 rfl rfl ?_
    refine za_getf o 10 zc8 hq (Nat.le_of_ble_eq_true rfl) wfX8_129 rfl dX8_sign_30 ?_
    obtain ⟨g11, hf⟩ := hf
    refine za_cald o zk_m6 rfl g11 dX8_sign_33 ?_
    refine za_topi (fun x12 ex12 => ?_)
    replace hf := hf x12 ex12
    refine za_iload_n o 3 dX8_sign_34 rfl rfl ?_
    refine za_isub o dX8_sign_35 ?_
    refine za_topi (fun x13 ex13 => ?_)
    replace hf := hf x13 ex13
    refine za_goto o 40 dX8_sign_36 (by decide) ?_
    refine za_sub [1, 0] rfl ?_
    exact tX8_sign_40 o hq  r6 x13 x9 535 m7 zk_m5 hf
def fX8_readsOrder_251  (K : Int32 → zMem → Prop) (q : Nat) (v1 : Int32) (v2 : Int32) (v3 : Int32) (v4 : Nat) (μ : zMem) : Prop :=
  (∀ x1 : Int32, x1 = (v3 + v2) → (∀ m2 : zMem, m2 = z_up μ v4 9 x1 → (z_b v1 ∧ K v1 m2)))
def fX8_readsOrder_237  (K : Int32 → zMem → Prop) (q : Nat) (v1 : Int32) (μ : zMem) : Prop :=
  ((v1 = 0 → fX8_readsOrder_251  K q v1 (0 : Int32) (μ q 9) q μ) ∧ (¬ v1 = 0 → fX8_readsOrder_251  K q v1 (1 : Int32) (μ q 9) q μ))
def fX8_readsOrder_94  (K : Int32 → zMem → Prop) (q : Nat) (v1 : Int32) (μ : zMem) : Prop :=
  fX8_readsOrder_237  K q v1 μ
def fX8_readsOrder_93  (K : Int32 → zMem → Prop) (q : Nat)  (μ : zMem) : Prop :=
  fX8_readsOrder_94  K q (0 : Int32) μ
def fX8_readsOrder_153  (K : Int32 → zMem → Prop) (q : Nat) (v1 : Int32) (μ : zMem) : Prop :=
  fX8_readsOrder_237  K q v1 μ
def fX8_readsOrder_148  (K : Int32 → zMem → Prop) (q : Nat)  (μ : zMem) : Prop :=
  fX8_readsOrder_153  K q (1 : Int32) μ
def fX8_readsOrder_152  (K : Int32 → zMem → Prop) (q : Nat)  (μ : zMem) : Prop :=
  fX8_readsOrder_153  K q (0 : Int32) μ
def fX8_readsOrder_200  (K : Int32 → zMem → Prop) (q : Nat) (v1 : Int32) (v2 : Int32) (v3 : Int32) (v4 : Nat) (μ : zMem) : Prop :=
  (vp_in v3 164 ∧ (∀ m5 : zMem, m5 = z_up μ v4 v3.toNatClampNeg v2 → fX8_readsOrder_237  K q v1 m5))
def fX8_readsOrder_199  (K : Int32 → zMem → Prop) (q : Nat) (v1 : Int32) (v2 : Int32) (v3 : Nat) (μ : zMem) : Prop :=
  fX8_readsOrder_200  K q v1 (0 : Int32) v2 v3 μ
def fX8_readsOrder_236  (K : Int32 → zMem → Prop) (q : Nat) (v1 : Int32) (μ : zMem) : Prop :=
  fX8_readsOrder_237  K q v1 μ
def fX8_readsOrder_231  (K : Int32 → zMem → Prop) (q : Nat)  (μ : zMem) : Prop :=
  fX8_readsOrder_236  K q (1 : Int32) μ
def fX8_readsOrder_36  (K : Int32 → zMem → Prop) (q : Nat) (v1 : Int32) (v2 : Int32) (v3 : Int32) (v4 : Nat) (μ : zMem) : Prop :=
  (vp_in v3 164 ∧ (∀ m7 : zMem, m7 = z_up μ v4 v3.toNatClampNeg v2 → (∀ x8 : Int32, x8 = (v1 + (2 : Int32)) → (vp_in x8 164 ∧ (∀ m10 : zMem, m10 = z_up m7 535 x8.toNatClampNeg (0 : Int32) → (∀ x11 : Int32, x11 = (v1 + (3 : Int32)) → (vp_in x11 164 ∧ (∀ m13 : zMem, m13 = z_up m10 535 x11.toNatClampNeg (0 : Int32) → fX8_accepts q (118 : Int32) m13 (fun r14 m15 => ((r14 = 0 → fX8_accepts q (111 : Int32) m15 (fun r17 m18 => ((r17 = 0 → fX8_accepts q (99 : Int32) m18 (fun r20 m21 => ((r20 = 0 → fX8_accepts q (112 : Int32) m21 (fun r23 m24 => ((¬ r23 = 0 → fX8_readsOrder_231  K q  m24) ∧ (r23 = 0 → fX8_accepts q (107 : Int32) m24 (fun r26 m27 => ((¬ r26 = 0 → fX8_readsOrder_231  K q  m27) ∧ (r26 = 0 → fX8_accepts q (120 : Int32) m27 (fun r29 m30 => ((r29 = 0 → fX8_readsOrder_236  K q (0 : Int32) m30) ∧ (¬ r29 = 0 → fX8_readsOrder_231  K q  m30)))))))))) ∧ (¬ r20 = 0 → fX8_number q (1 : Int32) m21 (fun r32 m33 => (∀ x34 : Int32, x34 = (v1 + (3 : Int32)) → ((r32 = 0 → fX8_readsOrder_199  K q r32 x34 535 m33) ∧ (¬ r32 = 0 → fX8_sign q (2 : Int32) (97 : Int32) (99 : Int32) m33 (fun r36 m37 => ((r36 = 0 → fX8_readsOrder_199  K q r32 x34 535 m37) ∧ (¬ r36 = 0 → fX8_readsOrder_200  K q r32 (1 : Int32) x34 535 m37))))))))))) ∧ (¬ r17 = 0 → fX8_number q (1 : Int32) m18 (fun r39 m40 => ((r39 = 0 → fX8_readsOrder_152  K q  m40) ∧ (¬ r39 = 0 → fX8_sign q (2 : Int32) (97 : Int32) (99 : Int32) m40 (fun r42 m43 => ((r42 = 0 → fX8_readsOrder_152  K q  m43) ∧ (¬ r42 = 0 → fX8_accepts q (43 : Int32) m43 (fun r45 m46 => ((r45 = 0 → fX8_readsOrder_148  K q  m46) ∧ (¬ r45 = 0 → fX8_sign q (3 : Int32) (48 : Int32) (57 : Int32) m46 (fun r48 m49 => ((r48 = 0 → fX8_readsOrder_152  K q  m49) ∧ (¬ r48 = 0 → fX8_readsOrder_148  K q  m49)))))))))))))))) ∧ (¬ r14 = 0 → fX8_number q (1 : Int32) m15 (fun r51 m52 => ((r51 = 0 → fX8_readsOrder_93  K q  m52) ∧ (¬ r51 = 0 → fX8_accepts q (43 : Int32) m52 (fun r54 m55 => ((r54 = 0 → fX8_readsOrder_93  K q  m55) ∧ (¬ r54 = 0 → fX8_number q (2 : Int32) m55 (fun r57 m58 => ((r57 = 0 → fX8_readsOrder_93  K q  m58) ∧ (¬ r57 = 0 → fX8_readsOrder_94  K q (1 : Int32) m58))))))))))))))))))))
def fX8_readsOrder (q : Nat)  (μ : zMem) (K : Int32 → zMem → Prop) : Prop :=
  (∀ x60 : Int32, x60 = ((4 : Int32) * (μ q 9)) → (((μ q 7) ≤ (μ q 10) → fX8_readsOrder_36  K q x60 (0 : Int32) x60 535 μ) ∧ (¬ (μ q 7) ≤ (μ q 10) → (vp_in (μ q 10) 80 ∧ (∀ x63 : Int32, x63 = (μ 536 ((μ q 10)).toNatClampNeg) → fX8_readsOrder_36  K q x60 x63 x60 535 μ)))))
set_option maxRecDepth 100000 in
set_option maxHeartbeats 4000000 in
theorem tX8_readsOrder_251 {p : Program} {l : Launch} {e : Env} {s : State} {m : MethodId} {args : Array Value} {below : List Frame} {meth : Method} {c : Code} {G : zG}  {K : Int32 → zMem → Prop} (o : za_Ok (z_rm 2 46) 0 0 p s m args meth c G RX8 cX8_readsOrder 3 (some .boolean)) {q : Nat} (hq : z_is q 8)  (v1 : Int32) (v2 : Int32) (v3 : Int32) (v4 : Nat) (μ : zMem) (hv4 : z_is v4 8) (hf : fX8_readsOrder_251  K q v1 v2 v3 v4 μ) : za_At p l e (z_rm 2 46) s m args below meth c (MQ below (zQi G K) args s 0 0 (zA G)) G 3 0 0 251 [(2, .int v1)] [.int v2, .int v3, .ref (G.2.2 + v4)] μ := by
  unfold fX8_readsOrder_251 at hf
  refine za_iadd o dX8_readsOrder_251 ?_
  refine za_topi (fun x1 ex1 => ?_)
  replace hf := hf x1 ex1
  refine za_putf (ty := .int) o 9 zc8 hv4 (Nat.le_of_ble_eq_true rfl) wfX8_136 rfl (by decide +kernel) rfl rfl (Nat.le_of_ble_eq_true rfl) rfl dX8_readsOrder_252 ?_
  refine za_mem (fun m2 em2 => ?_)
  replace hf := hf m2 em2
  refine za_iload_n o 0 dX8_readsOrder_255 rfl rfl ?_
  exact za_zret o rfl hf.1 hf.2 dX8_readsOrder_256
set_option maxRecDepth 100000 in
set_option maxHeartbeats 4000000 in
theorem tX8_readsOrder_237 {p : Program} {l : Launch} {e : Env} {s : State} {m : MethodId} {args : Array Value} {below : List Frame} {meth : Method} {c : Code} {G : zG}  {K : Int32 → zMem → Prop} (o : za_Ok (z_rm 2 46) 0 0 p s m args meth c G RX8 cX8_readsOrder 3 (some .boolean)) {q : Nat} (hq : z_is q 8)  (v1 : Int32) (μ : zMem)  (hf : fX8_readsOrder_237  K q v1 μ) : za_At p l e (z_rm 2 46) s m args below meth c (MQ below (zQi G K) args s 0 0 (zA G)) G 3 0 0 237 [(0, .ref (G.2.2 + q)), (2, .int v1)] [] μ := by
  unfold fX8_readsOrder_237 at hf
  refine za_aload_n o 0 dX8_readsOrder_237 rfl rfl ?_
  refine za_dup o dX8_readsOrder_238 rfl ?_
  refine za_getf o 9 zc8 hq (Nat.le_of_ble_eq_true rfl) wfX8_136 rfl dX8_readsOrder_239 ?_
  refine za_iload_n o 1 dX8_readsOrder_242 rfl rfl ?_
  refine za_if_eq o 250 dX8_readsOrder_243 (by decide) (fun c3 => ?_) (fun c3 => ?_)
  · replace hf := hf.1 c3
    refine za_iconst (v := (0 : Int32)) o dX8_readsOrder_250 (by decide) ?_
    refine za_sub [1] rfl ?_
    exact tX8_readsOrder_251 o hq  v1 (0 : Int32) (μ q 9) q μ hq hf
  · replace hf := hf.2 c3
    refine za_iconst (v := (1 : Int32)) o dX8_readsOrder_246 (by decide) ?_
    refine za_goto o 251 dX8_readsOrder_247 (by decide) ?_
    refine za_sub [1] rfl ?_
    exact tX8_readsOrder_251 o hq  v1 (1 : Int32) (μ q 9) q μ hq hf
set_option maxRecDepth 100000 in
set_option maxHeartbeats 4000000 in
theorem tX8_readsOrder_94 {p : Program} {l : Launch} {e : Env} {s : State} {m : MethodId} {args : Array Value} {below : List Frame} {meth : Method} {c : Code} {G : zG}  {K : Int32 → zMem → Prop} (o : za_Ok (z_rm 2 46) 0 0 p s m args meth c G RX8 cX8_readsOrder 3 (some .boolean)) {q : Nat} (hq : z_is q 8)  (v1 : Int32) (μ : zMem)  (hf : fX8_readsOrder_94  K q v1 μ) : za_At p l e (z_rm 2 46) s m args below meth c (MQ below (zQi G K) args s 0 0 (zA G)) G 3 0 0 94 [(0, .ref (G.2.2 + q))] [.int v1] μ := by
  unfold fX8_readsOrder_94 at hf
  refine za_istore_n o [(2, .int v1), (0, .ref (G.2.2 + q))] dX8_readsOrder_94 rfl (by decide) rfl ?_
  refine za_goto o 237 dX8_readsOrder_95 (by decide) ?_
  refine za_sub [1, 0] rfl ?_
  exact tX8_readsOrder_237 o hq  v1 μ  hf
set_option maxRecDepth 100000 in
set_option maxHeartbeats 4000000 in
theorem tX8_readsOrder_93 {p : Program} {l : Launch} {e : Env} {s : State} {m : MethodId} {args : Array Value} {below : List Frame} {meth : Method} {c : Code} {G : zG}  {K : Int32 → zMem → Prop} (o : za_Ok (z_rm 2 46) 0 0 p s m args meth c G RX8 cX8_readsOrder 3 (some .boolean)) {q : Nat} (hq : z_is q 8)   (μ : zMem)  (hf : fX8_readsOrder_93  K q  μ) : za_At p l e (z_rm 2 46) s m args below meth c (MQ below (zQi G K) args s 0 0 (zA G)) G 3 0 0 93 [(0, .ref (G.2.2 + q))] [] μ := by
  unfold fX8_readsOrder_93 at hf
  refine za_iconst (v := (0 : Int32)) o dX8_readsOrder_93 (by decide) ?_
  exact tX8_readsOrder_94 o hq  (0 : Int32) μ  hf
set_option maxRecDepth 100000 in
set_option maxHeartbeats 4000000 in
theorem tX8_readsOrder_153 {p : Program} {l : Launch} {e : Env} {s : State} {m : MethodId} {args : Array Value} {below : List Frame} {meth : Method} {c : Code} {G : zG}  {K : Int32 → zMem → Prop} (o : za_Ok (z_rm 2 46) 0 0 p s m args meth c G RX8 cX8_readsOrder 3 (some .boolean)) {q : Nat} (hq : z_is q 8)  (v1 : Int32) (μ : zMem)  (hf : fX8_readsOrder_153  K q v1 μ) : za_At p l e (z_rm 2 46) s m args below meth c (MQ below (zQi G K) args s 0 0 (zA G)) G 3 0 0 153 [(0, .ref (G.2.2 + q))] [.int v1] μ := by
  unfold fX8_readsOrder_153 at hf
  refine za_istore_n o [(2, .int v1), (0, .ref (G.2.2 + q))] dX8_readsOrder_153 rfl (by decide) rfl ?_
  refine za_goto o 237 dX8_readsOrder_154 (by decide) ?_
  refine za_sub [1, 0] rfl ?_
  exact tX8_readsOrder_237 o hq  v1 μ  hf
set_option maxRecDepth 100000 in
set_option maxHeartbeats 4000000 in
theorem tX8_readsOrder_148 {p : Program} {l : Launch} {e : Env} {s : State} {m : MethodId} {args : Array Value} {below : List Frame} {meth : Method} {c : Code} {G : zG}  {K : Int32 → zMem → Prop} (o : za_Ok (z_rm 2 46) 0 0 p s m args meth c G RX8 cX8_readsOrder 3 (some .boolean)) {q : Nat} (hq : z_is q 8)   (μ : zMem)  (hf : fX8_readsOrder_148  K q  μ) : za_At p l e (z_rm 2 46) s m args below meth c (MQ below (zQi G K) args s 0 0 (zA G)) G 3 0 0 148 [(0, .ref (G.2.2 + q))] [] μ := by
  unfold fX8_readsOrder_148 at hf
  refine za_iconst (v := (1 : Int32)) o dX8_readsOrder_148 (by decide) ?_
  refine za_goto o 153 dX8_readsOrder_149 (by decide) ?_
  exact tX8_readsOrder_153 o hq  (1 : Int32) μ  hf
set_option maxRecDepth 100000 in
set_option maxHeartbeats 4000000 in
theorem tX8_readsOrder_152 {p : Program} {l : Launch} {e : Env} {s : State} {m : MethodId} {args : Array Value} {below : List Frame} {meth : Method} {c : Code} {G : zG}  {K : Int32 → zMem → Prop} (o : za_Ok (z_rm 2 46) 0 0 p s m args meth c G RX8 cX8_readsOrder 3 (some .boolean)) {q : Nat} (hq : z_is q 8)   (μ : zMem)  (hf : fX8_readsOrder_152  K q  μ) : za_At p l e (z_rm 2 46) s m args below meth c (MQ below (zQi G K) args s 0 0 (zA G)) G 3 0 0 152 [(0, .ref (G.2.2 + q))] [] μ := by
  unfold fX8_readsOrder_152 at hf
  refine za_iconst (v := (0 : Int32)) o dX8_readsOrder_152 (by decide) ?_
  exact tX8_readsOrder_153 o hq  (0 : Int32) μ  hf
set_option maxRecDepth 100000 in
set_option maxHeartbeats 4000000 in
theorem tX8_readsOrder_200 {p : Program} {l : Launch} {e : Env} {s : State} {m : MethodId} {args : Array Value} {below : List Frame} {meth : Method} {c : Code} {G : zG}  {K : Int32 → zMem → Prop} (o : za_Ok (z_rm 2 46) 0 0 p s m args meth c G RX8 cX8_readsOrder 3 (some .boolean)) {q : Nat} (hq : z_is q 8)  (v1 : Int32) (v2 : Int32) (v3 : Int32) (v4 : Nat) (μ : zMem) (hv4 : z_is v4 20) (hf : fX8_readsOrder_200  K q v1 v2 v3 v4 μ) : za_At p l e (z_rm 2 46) s m args below meth c (MQ below (zQi G K) args s 0 0 (zA G)) G 3 0 0 200 [(0, .ref (G.2.2 + q)), (2, .int v1)] [.int v2, .int v3, .ref (G.2.2 + v4)] μ := by
  unfold fX8_readsOrder_200 at hf
  obtain ⟨g4, hf⟩ := hf
  refine za_iast o hv4 rfl g4 dX8_readsOrder_200 ?_
  refine za_mem (fun m5 em5 => ?_)
  replace hf := hf m5 em5
  refine za_goto o 237 dX8_readsOrder_201 (by decide) ?_
  exact tX8_readsOrder_237 o hq  v1 m5  hf
set_option maxRecDepth 100000 in
set_option maxHeartbeats 4000000 in
theorem tX8_readsOrder_199 {p : Program} {l : Launch} {e : Env} {s : State} {m : MethodId} {args : Array Value} {below : List Frame} {meth : Method} {c : Code} {G : zG}  {K : Int32 → zMem → Prop} (o : za_Ok (z_rm 2 46) 0 0 p s m args meth c G RX8 cX8_readsOrder 3 (some .boolean)) {q : Nat} (hq : z_is q 8)  (v1 : Int32) (v2 : Int32) (v3 : Nat) (μ : zMem) (hv3 : z_is v3 20) (hf : fX8_readsOrder_199  K q v1 v2 v3 μ) : za_At p l e (z_rm 2 46) s m args below meth c (MQ below (zQi G K) args s 0 0 (zA G)) G 3 0 0 199 [(0, .ref (G.2.2 + q)), (2, .int v1)] [.int v2, .ref (G.2.2 + v3)] μ := by
  unfold fX8_readsOrder_199 at hf
  refine za_iconst (v := (0 : Int32)) o dX8_readsOrder_199 (by decide) ?_
  exact tX8_readsOrder_200 o hq  v1 (0 : Int32) v2 v3 μ hv3 hf
set_option maxRecDepth 100000 in
set_option maxHeartbeats 4000000 in
theorem tX8_readsOrder_236 {p : Program} {l : Launch} {e : Env} {s : State} {m : MethodId} {args : Array Value} {below : List Frame} {meth : Method} {c : Code} {G : zG}  {K : Int32 → zMem → Prop} (o : za_Ok (z_rm 2 46) 0 0 p s m args meth c G RX8 cX8_readsOrder 3 (some .boolean)) {q : Nat} (hq : z_is q 8)  (v1 : Int32) (μ : zMem)  (hf : fX8_readsOrder_236  K q v1 μ) : za_At p l e (z_rm 2 46) s m args below meth c (MQ below (zQi G K) args s 0 0 (zA G)) G 3 0 0 236 [(0, .ref (G.2.2 + q))] [.int v1] μ := by
  unfold fX8_readsOrder_236 at hf
  refine za_istore_n o [(2, .int v1), (0, .ref (G.2.2 + q))] dX8_readsOrder_236 rfl (by decide) rfl ?_
  refine za_sub [1, 0] rfl ?_
  exact tX8_readsOrder_237 o hq  v1 μ  hf
set_option maxRecDepth 100000 in
set_option maxHeartbeats 4000000 in
theorem tX8_readsOrder_231 {p : Program} {l : Launch} {e : Env} {s : State} {m : MethodId} {args : Array Value} {below : List Frame} {meth : Method} {c : Code} {G : zG}  {K : Int32 → zMem → Prop} (o : za_Ok (z_rm 2 46) 0 0 p s m args meth c G RX8 cX8_readsOrder 3 (some .boolean)) {q : Nat} (hq : z_is q 8)   (μ : zMem)  (hf : fX8_readsOrder_231  K q  μ) : za_At p l e (z_rm 2 46) s m args below meth c (MQ below (zQi G K) args s 0 0 (zA G)) G 3 0 0 231 [(0, .ref (G.2.2 + q))] [] μ := by
  unfold fX8_readsOrder_231 at hf
  refine za_iconst (v := (1 : Int32)) o dX8_readsOrder_231 (by decide) ?_
  refine za_goto o 236 dX8_readsOrder_232 (by decide) ?_
  exact tX8_readsOrder_236 o hq  (1 : Int32) μ  hf
set_option maxRecDepth 100000 in
set_option maxHeartbeats 4000000 in
theorem tX8_readsOrder_36 {p : Program} {l : Launch} {e : Env} {s : State} {m : MethodId} {args : Array Value} {below : List Frame} {meth : Method} {c : Code} {G : zG}  {K : Int32 → zMem → Prop} (o : za_Ok (z_rm 2 46) 0 0 p s m args meth c G RX8 cX8_readsOrder 3 (some .boolean)) {q : Nat} (hq : z_is q 8)  (v1 : Int32) (v2 : Int32) (v3 : Int32) (v4 : Nat) (μ : zMem) (hv4 : z_is v4 20) (hf : fX8_readsOrder_36  K q v1 v2 v3 v4 μ) : za_At p l e (z_rm 2 46) s m args below meth c (MQ below (zQi G K) args s 0 0 (zA G)) G 3 0 0 36 [(0, .ref (G.2.2 + q)), (1, .int v1)] [.int v2, .int v3, .ref (G.2.2 + v4)] μ := by
  unfold fX8_readsOrder_36 at hf
  obtain ⟨g6, hf⟩ := hf
  refine za_iast o hv4 rfl g6 dX8_readsOrder_36 ?_
  refine za_mem (fun m7 em7 => ?_)
  replace hf := hf m7 em7
  refine za_aload_n o 0 dX8_readsOrder_37 rfl rfl ?_
  refine za_getf o 5 zc8 hq (Nat.le_of_ble_eq_true rfl) wfX8_26 rfl dX8_readsOrder_38 ?_
  refine za_iload_n o 1 dX8_readsOrder_41 rfl rfl ?_
  refine za_iconst (v := (2 : Int32)) o dX8_readsOrder_42 (by decide) ?_
  refine za_iadd o dX8_readsOrder_43 ?_
  refine za_topi (fun x8 ex8 => ?_)
  replace hf := hf x8 ex8
  refine za_iconst (v := (0 : Int32)) o dX8_readsOrder_44 (by decide) ?_
  obtain ⟨g9, hf⟩ := hf
  refine za_iast o zk_m5 rfl g9 dX8_readsOrder_45 ?_
  refine za_mem (fun m10 em10 => ?_)
  replace hf := hf m10 em10
  refine za_aload_n o 0 dX8_readsOrder_46 rfl rfl ?_
  refine za_getf o 5 zc8 hq (Nat.le_of_ble_eq_true rfl) wfX8_26 rfl dX8_readsOrder_47 ?_
  refine za_iload_n o 1 dX8_readsOrder_50 rfl rfl ?_
  refine za_iconst (v := (3 : Int32)) o dX8_readsOrder_51 (by decide) ?_
  refine za_iadd o dX8_readsOrder_52 ?_
  refine za_topi (fun x11 ex11 => ?_)
  replace hf := hf x11 ex11
  refine za_iconst (v := (0 : Int32)) o dX8_readsOrder_53 (by decide) ?_
  obtain ⟨g12, hf⟩ := hf
  refine za_iast o zk_m5 rfl g12 dX8_readsOrder_54 ?_
  refine za_mem (fun m13 em13 => ?_)
  replace hf := hf m13 em13
  refine za_aload_n o 0 dX8_readsOrder_55 rfl rfl ?_
  refine za_bipush (v := (118 : Int32)) o dX8_readsOrder_56 (by decide) ?_
  refine za_callVi o [.int (118 : Int32)] (ctX8_accepts l G hq (118 : Int32)  m13 _ hf) zc8 hq mwX8_accepts wmX8_139 wiX8_accepts wsX8_accepts rfl ⟨Nat.le_of_ble_eq_true rfl, Nat.le_of_ble_eq_true rfl⟩ rfl (Nat.le_of_ble_eq_true rfl) dX8_readsOrder_58 (fun r14 m15 hf => ?_)
  refine za_if_eq o 98 dX8_readsOrder_61 (by decide) (fun c16 => ?_) (fun c16 => ?_)
  · replace hf := hf.1 c16
    refine za_aload_n o 0 dX8_readsOrder_98 rfl rfl ?_
    refine za_bipush (v := (111 : Int32)) o dX8_readsOrder_99 (by decide) ?_
    refine za_callVi o [.int (111 : Int32)] (ctX8_accepts l G hq (111 : Int32)  m15 _ hf) zc8 hq mwX8_accepts wmX8_139 wiX8_accepts wsX8_accepts rfl ⟨Nat.le_of_ble_eq_true rfl, Nat.le_of_ble_eq_true rfl⟩ rfl (Nat.le_of_ble_eq_true rfl) dX8_readsOrder_101 (fun r17 m18 hf => ?_)
    refine za_if_eq o 157 dX8_readsOrder_104 (by decide) (fun c19 => ?_) (fun c19 => ?_)
    · replace hf := hf.1 c19
      refine za_aload_n o 0 dX8_readsOrder_157 rfl rfl ?_
      refine za_bipush (v := (99 : Int32)) o dX8_readsOrder_158 (by decide) ?_
      refine za_callVi o [.int (99 : Int32)] (ctX8_accepts l G hq (99 : Int32)  m18 _ hf) zc8 hq mwX8_accepts wmX8_139 wiX8_accepts wsX8_accepts rfl ⟨Nat.le_of_ble_eq_true rfl, Nat.le_of_ble_eq_true rfl⟩ rfl (Nat.le_of_ble_eq_true rfl) dX8_readsOrder_160 (fun r20 m21 hf => ?_)
      refine za_if_eq o 204 dX8_readsOrder_163 (by decide) (fun c22 => ?_) (fun c22 => ?_)
      · replace hf := hf.1 c22
        refine za_aload_n o 0 dX8_readsOrder_204 rfl rfl ?_
        refine za_bipush (v := (112 : Int32)) o dX8_readsOrder_205 (by decide) ?_
        refine za_callVi o [.int (112 : Int32)] (ctX8_accepts l G hq (112 : Int32)  m21 _ hf) zc8 hq mwX8_accepts wmX8_139 wiX8_accepts wsX8_accepts rfl ⟨Nat.le_of_ble_eq_true rfl, Nat.le_of_ble_eq_true rfl⟩ rfl (Nat.le_of_ble_eq_true rfl) dX8_readsOrder_207 (fun r23 m24 hf => ?_)
        refine za_if_ne o 231 dX8_readsOrder_210 (by decide) (fun c25 => ?_) (fun c25 => ?_)
        · replace hf := hf.1 c25
          refine za_sub [0] rfl ?_
          exact tX8_readsOrder_231 o hq   m24  hf
        · replace hf := hf.2 c25
          refine za_aload_n o 0 dX8_readsOrder_213 rfl rfl ?_
          refine za_bipush (v := (107 : Int32)) o dX8_readsOrder_214 (by decide) ?_
          refine za_callVi o [.int (107 : Int32)] (ctX8_accepts l G hq (107 : Int32)  m24 _ hf) zc8 hq mwX8_accepts wmX8_139 wiX8_accepts wsX8_accepts rfl ⟨Nat.le_of_ble_eq_true rfl, Nat.le_of_ble_eq_true rfl⟩ rfl (Nat.le_of_ble_eq_true rfl) dX8_readsOrder_216 (fun r26 m27 hf => ?_)
          refine za_if_ne o 231 dX8_readsOrder_219 (by decide) (fun c28 => ?_) (fun c28 => ?_)
          · replace hf := hf.1 c28
            refine za_sub [0] rfl ?_
            exact tX8_readsOrder_231 o hq   m27  hf
          · replace hf := hf.2 c28
            refine za_aload_n o 0 dX8_readsOrder_222 rfl rfl ?_
            refine za_bipush (v := (120 : Int32)) o dX8_readsOrder_223 (by decide) ?_
            refine za_callVi o [.int (120 : Int32)] (ctX8_accepts l G hq (120 : Int32)  m27 _ hf) zc8 hq mwX8_accepts wmX8_139 wiX8_accepts wsX8_accepts rfl ⟨Nat.le_of_ble_eq_true rfl, Nat.le_of_ble_eq_true rfl⟩ rfl (Nat.le_of_ble_eq_true rfl) dX8_readsOrder_225 (fun r29 m30 hf => ?_)
            refine za_if_eq o 235 dX8_readsOrder_228 (by decide) (fun c31 => ?_) (fun c31 => ?_)
            · replace hf := hf.1 c31
              refine za_iconst (v := (0 : Int32)) o dX8_readsOrder_235 (by decide) ?_
              refine za_sub [0] rfl ?_
              exact tX8_readsOrder_236 o hq  (0 : Int32) m30  hf
            · replace hf := hf.2 c31
              refine za_sub [0] rfl ?_
              exact tX8_readsOrder_231 o hq   m30  hf
      · replace hf := hf.2 c22
        refine za_aload_n o 0 dX8_readsOrder_166 rfl rfl ?_
        refine za_iconst (v := (1 : Int32)) o dX8_readsOrder_167 (by decide) ?_
        refine za_callVi o [.int (1 : Int32)] (ctX8_number l G hq (1 : Int32)  m21 _ hf) zc8 hq mwX8_number wmX8_143 wiX8_number wsX8_number rfl ⟨Nat.le_of_ble_eq_true rfl, Nat.le_of_ble_eq_true rfl⟩ rfl (Nat.le_of_ble_eq_true rfl) dX8_readsOrder_168 (fun r32 m33 hf => ?_)
        refine za_istore_n o [(2, .int r32), (0, .ref (G.2.2 + q)), (1, .int v1)] dX8_readsOrder_171 rfl (by decide) rfl ?_
        refine za_aload_n o 1 dX8_readsOrder_172 rfl rfl ?_
        refine za_getf o 5 zc8 hq (Nat.le_of_ble_eq_true rfl) wfX8_26 rfl dX8_readsOrder_173 ?_
        refine za_iload_n o 2 dX8_readsOrder_176 rfl rfl ?_
        refine za_iconst (v := (3 : Int32)) o dX8_readsOrder_177 (by decide) ?_
        refine za_iadd o dX8_readsOrder_178 ?_
        refine za_topi (fun x34 ex34 => ?_)
        replace hf := hf x34 ex34
        refine za_iload_n o 0 dX8_readsOrder_179 rfl rfl ?_
        refine za_if_eq o 199 dX8_readsOrder_180 (by decide) (fun c35 => ?_) (fun c35 => ?_)
        · replace hf := hf.1 c35
          refine za_sub [1, 0] rfl ?_
          exact tX8_readsOrder_199 o hq  r32 x34 535 m33 zk_m5 hf
        · replace hf := hf.2 c35
          refine za_aload_n o 1 dX8_readsOrder_183 rfl rfl ?_
          refine za_iconst (v := (2 : Int32)) o dX8_readsOrder_184 (by decide) ?_
          refine za_bipush (v := (97 : Int32)) o dX8_readsOrder_185 (by decide) ?_
          refine za_bipush (v := (99 : Int32)) o dX8_readsOrder_187 (by decide) ?_
          refine za_callVi o [.int (2 : Int32), .int (97 : Int32), .int (99 : Int32)] (ctX8_sign l G hq (2 : Int32) (97 : Int32) (99 : Int32)  m33 _ hf) zc8 hq mwX8_sign wmX8_146 wiX8_sign wsX8_sign rfl ⟨Nat.le_of_ble_eq_true rfl, Nat.le_of_ble_eq_true rfl⟩ rfl (Nat.le_of_ble_eq_true rfl) dX8_readsOrder_189 (fun r36 m37 hf => ?_)
          refine za_if_eq o 199 dX8_readsOrder_192 (by decide) (fun c38 => ?_) (fun c38 => ?_)
          · replace hf := hf.1 c38
            refine za_sub [1, 0] rfl ?_
            exact tX8_readsOrder_199 o hq  r32 x34 535 m37 zk_m5 hf
          · replace hf := hf.2 c38
            refine za_iconst (v := (1 : Int32)) o dX8_readsOrder_195 (by decide) ?_
            refine za_goto o 200 dX8_readsOrder_196 (by decide) ?_
            refine za_sub [1, 0] rfl ?_
            exact tX8_readsOrder_200 o hq  r32 (1 : Int32) x34 535 m37 zk_m5 hf
    · replace hf := hf.2 c19
      refine za_aload_n o 0 dX8_readsOrder_107 rfl rfl ?_
      refine za_iconst (v := (1 : Int32)) o dX8_readsOrder_108 (by decide) ?_
      refine za_callVi o [.int (1 : Int32)] (ctX8_number l G hq (1 : Int32)  m18 _ hf) zc8 hq mwX8_number wmX8_143 wiX8_number wsX8_number rfl ⟨Nat.le_of_ble_eq_true rfl, Nat.le_of_ble_eq_true rfl⟩ rfl (Nat.le_of_ble_eq_true rfl) dX8_readsOrder_109 (fun r39 m40 hf => ?_)
      refine za_if_eq o 152 dX8_readsOrder_112 (by decide) (fun c41 => ?_) (fun c41 => ?_)
      · replace hf := hf.1 c41
        refine za_sub [0] rfl ?_
        exact tX8_readsOrder_152 o hq   m40  hf
      · replace hf := hf.2 c41
        refine za_aload_n o 0 dX8_readsOrder_115 rfl rfl ?_
        refine za_iconst (v := (2 : Int32)) o dX8_readsOrder_116 (by decide) ?_
        refine za_bipush (v := (97 : Int32)) o dX8_readsOrder_117 (by decide) ?_
        refine za_bipush (v := (99 : Int32)) o dX8_readsOrder_119 (by decide) ?_
        refine za_callVi o [.int (2 : Int32), .int (97 : Int32), .int (99 : Int32)] (ctX8_sign l G hq (2 : Int32) (97 : Int32) (99 : Int32)  m40 _ hf) zc8 hq mwX8_sign wmX8_146 wiX8_sign wsX8_sign rfl ⟨Nat.le_of_ble_eq_true rfl, Nat.le_of_ble_eq_true rfl⟩ rfl (Nat.le_of_ble_eq_true rfl) dX8_readsOrder_121 (fun r42 m43 hf => ?_)
        refine za_if_eq o 152 dX8_readsOrder_124 (by decide) (fun c44 => ?_) (fun c44 => ?_)
        · replace hf := hf.1 c44
          refine za_sub [0] rfl ?_
          exact tX8_readsOrder_152 o hq   m43  hf
        · replace hf := hf.2 c44
          refine za_aload_n o 0 dX8_readsOrder_127 rfl rfl ?_
          refine za_bipush (v := (43 : Int32)) o dX8_readsOrder_128 (by decide) ?_
          refine za_callVi o [.int (43 : Int32)] (ctX8_accepts l G hq (43 : Int32)  m43 _ hf) zc8 hq mwX8_accepts wmX8_139 wiX8_accepts wsX8_accepts rfl ⟨Nat.le_of_ble_eq_true rfl, Nat.le_of_ble_eq_true rfl⟩ rfl (Nat.le_of_ble_eq_true rfl) dX8_readsOrder_130 (fun r45 m46 hf => ?_)
          refine za_if_eq o 148 dX8_readsOrder_133 (by decide) (fun c47 => ?_) (fun c47 => ?_)
          · replace hf := hf.1 c47
            refine za_sub [0] rfl ?_
            exact tX8_readsOrder_148 o hq   m46  hf
          · replace hf := hf.2 c47
            refine za_aload_n o 0 dX8_readsOrder_136 rfl rfl ?_
            refine za_iconst (v := (3 : Int32)) o dX8_readsOrder_137 (by decide) ?_
            refine za_bipush (v := (48 : Int32)) o dX8_readsOrder_138 (by decide) ?_
            refine za_bipush (v := (57 : Int32)) o dX8_readsOrder_140 (by decide) ?_
            refine za_callVi o [.int (3 : Int32), .int (48 : Int32), .int (57 : Int32)] (ctX8_sign l G hq (3 : Int32) (48 : Int32) (57 : Int32)  m46 _ hf) zc8 hq mwX8_sign wmX8_146 wiX8_sign wsX8_sign rfl ⟨Nat.le_of_ble_eq_true rfl, Nat.le_of_ble_eq_true rfl⟩ rfl (Nat.le_of_ble_eq_true rfl) dX8_readsOrder_142 (fun r48 m49 hf => ?_)
            refine za_if_eq o 152 dX8_readsOrder_145 (by decide) (fun c50 => ?_) (fun c50 => ?_)
            · replace hf := hf.1 c50
              refine za_sub [0] rfl ?_
              exact tX8_readsOrder_152 o hq   m49  hf
            · replace hf := hf.2 c50
              refine za_sub [0] rfl ?_
              exact tX8_readsOrder_148 o hq   m49  hf
  · replace hf := hf.2 c16
    refine za_aload_n o 0 dX8_readsOrder_64 rfl rfl ?_
    refine za_iconst (v := (1 : Int32)) o dX8_readsOrder_65 (by decide) ?_
    refine za_callVi o [.int (1 : Int32)] (ctX8_number l G hq (1 : Int32)  m15 _ hf) zc8 hq mwX8_number wmX8_143 wiX8_number wsX8_number rfl ⟨Nat.le_of_ble_eq_true rfl, Nat.le_of_ble_eq_true rfl⟩ rfl (Nat.le_of_ble_eq_true rfl) dX8_readsOrder_66 (fun r51 m52 hf => ?_)
    refine za_if_eq o 93 dX8_readsOrder_69 (by decide) (fun c53 => ?_) (fun c53 => ?_)
    · replace hf := hf.1 c53
      refine za_sub [0] rfl ?_
      exact tX8_readsOrder_93 o hq   m52  hf
    · replace hf := hf.2 c53
      refine za_aload_n o 0 dX8_readsOrder_72 rfl rfl ?_
      refine za_bipush (v := (43 : Int32)) o dX8_readsOrder_73 (by decide) ?_
      refine za_callVi o [.int (43 : Int32)] (ctX8_accepts l G hq (43 : Int32)  m52 _ hf) zc8 hq mwX8_accepts wmX8_139 wiX8_accepts wsX8_accepts rfl ⟨Nat.le_of_ble_eq_true rfl, Nat.le_of_ble_eq_true rfl⟩ rfl (Nat.le_of_ble_eq_true rfl) dX8_readsOrder_75 (fun r54 m55 hf => ?_)
      refine za_if_eq o 93 dX8_readsOrder_78 (by decide) (fun c56 => ?_) (fun c56 => ?_)
      · replace hf := hf.1 c56
        refine za_sub [0] rfl ?_
        exact tX8_readsOrder_93 o hq   m55  hf
      · replace hf := hf.2 c56
        refine za_aload_n o 0 dX8_readsOrder_81 rfl rfl ?_
        refine za_iconst (v := (2 : Int32)) o dX8_readsOrder_82 (by decide) ?_
        refine za_callVi o [.int (2 : Int32)] (ctX8_number l G hq (2 : Int32)  m55 _ hf) zc8 hq mwX8_number wmX8_143 wiX8_number wsX8_number rfl ⟨Nat.le_of_ble_eq_true rfl, Nat.le_of_ble_eq_true rfl⟩ rfl (Nat.le_of_ble_eq_true rfl) dX8_readsOrder_83 (fun r57 m58 hf => ?_)
        refine za_if_eq o 93 dX8_readsOrder_86 (by decide) (fun c59 => ?_) (fun c59 => ?_)
        · replace hf := hf.1 c59
          refine za_sub [0] rfl ?_
          exact tX8_readsOrder_93 o hq   m58  hf
        · replace hf := hf.2 c59
          refine za_iconst (v := (1 : Int32)) o dX8_readsOrder_89 (by decide) ?_
          refine za_goto o 94 dX8_readsOrder_90 (by decide) ?_
          refine za_sub [0] rfl ?_
          exact tX8_readsOrder_94 o hq  (1 : Int32) m58  hf
set_option maxRecDepth 100000 in
set_option maxHeartbeats 4000000 in
theorem ctX8_readsOrder (l : Launch) (G : zG) {q : Nat} (hq : z_is q 8)   (μ : zMem) (K : Int32 → zMem → Prop) (hf : fX8_readsOrder q  μ K) : z_Met l G yX8_readsOrder cX8_readsOrder 3 (some .boolean) (z_rm 2 46) [.ref (G.2.2 + q)] μ K := by
  refine z_body (by decide) (Nat.le_of_ble_eq_true rfl) (fun p e s m args below meth c o => ?_)
  have o : za_Ok (z_rm 2 46) 0 0 p s m args meth c G RX8 cX8_readsOrder 3 (some .boolean) := o
  show za_At p l e (z_rm 2 46) s m args below meth c (MQ below (zQi G K) args s 0 0 (zA G)) G 3 0 0 0 [(0, .ref (G.2.2 + q))] [] μ
  unfold fX8_readsOrder at hf
  refine za_iconst (v := (4 : Int32)) o dX8_readsOrder_0 (by decide) ?_
  refine za_aload_n o 0 dX8_readsOrder_1 rfl rfl ?_
  refine za_getf o 9 zc8 hq (Nat.le_of_ble_eq_true rfl) wfX8_136 rfl dX8_readsOrder_2 ?_
  refine za_imul o dX8_readsOrder_5 ?_
  refine za_topi (fun x60 ex60 => ?_)
  replace hf := hf x60 ex60
  refine za_istore_n o [(1, .int x60), (0, .ref (G.2.2 + q))] dX8_readsOrder_6 rfl (by decide) rfl ?_
  refine za_aload_n o 1 dX8_readsOrder_7 rfl rfl ?_
  refine za_getf o 5 zc8 hq (Nat.le_of_ble_eq_true rfl) wfX8_26 rfl dX8_readsOrder_8 ?_
  refine za_iload_n o 0 dX8_readsOrder_11 rfl rfl ?_
  refine za_aload_n o 1 dX8_readsOrder_12 rfl rfl ?_
  refine za_getf o 10 zc8 hq (Nat.le_of_ble_eq_true rfl) wfX8_129 rfl dX8_readsOrder_13 ?_
  refine za_aload_n o 1 dX8_readsOrder_16 rfl rfl ?_
  refine za_getf o 7 zc8 hq (Nat.le_of_ble_eq_true rfl) wfX8_125 rfl dX8_readsOrder_17 ?_
  refine za_icmp_ge o 35 dX8_readsOrder_20 (by decide) (fun c61 => ?_) (fun c61 => ?_)
  · replace hf := hf.1 c61
    refine za_iconst (v := (0 : Int32)) o dX8_readsOrder_35 (by decide) ?_
    refine za_sub [1, 0] rfl ?_
    exact tX8_readsOrder_36 o hq  x60 (0 : Int32) x60 535 μ zk_m5 hf
  · replace hf := hf.2 c61
    refine za_aload_n o 1 dX8_readsOrder_23 rfl rfl ?_
    refine za_getf o 6 zc8 hq (Nat.le_of_ble_eq_true rfl) wfX8_29 rfl dX8_readsOrder_24 ?_
    refine za_aload_n o 1 dX8_readsOrder_27 rfl rfl ?_
    refine za_getf o 10 zc8 hq (Nat.le_of_ble_eq_true rfl) wfX8_129 rfl dX8_readsOrder_28 ?_
    obtain ⟨g62, hf⟩ := hf
    refine za_cald o zk_m6 rfl g62 dX8_readsOrder_31 ?_
    refine za_topi (fun x63 ex63 => ?_)
    replace hf := hf x63 ex63
    refine za_goto o 36 dX8_readsOrder_32 (by decide) ?_
    refine za_sub [1, 0] rfl ?_
    exact tX8_readsOrder_36 o hq  x60 x63 x60 535 μ zk_m5 hf
def fX8_faultOf_51 (k15 : Int32 → zMem → Prop) (K : Int32 → zMem → Prop) (q : Nat) (v1 : Int32) (μ : zMem) : Prop :=
  k15 v1 μ
def fX8_faultOf_50 (k15 : Int32 → zMem → Prop) (K : Int32 → zMem → Prop) (q : Nat)  (μ : zMem) : Prop :=
  fX8_faultOf_51 k15 K q (0 : Int32) μ
def fX8_faultOf_67  (K : Int32 → zMem → Prop) (q : Nat) (v1 : Int32) (μ : zMem) : Prop :=
  K v1 μ
def fX8_faultOf_55  (K : Int32 → zMem → Prop) (q : Nat) (v1 : Int32) (μ : zMem) : Prop :=
  ((v1 = 0 → fX8_faultOf_67  K q (μ q 10) μ) ∧ (¬ v1 = 0 → fX8_faultOf_67  K q (-1 : Int32) μ))
def fX8_faultOf_15b (k15 : Int32 → zMem → Prop) (K : Int32 → zMem → Prop) (q : Nat) (v1 : Int32) (μ : zMem) : Prop :=
  ((v1 = 0 → fX8_faultOf_55  K q v1 μ) ∧ (¬ v1 = 0 → (((μ q 7) ≤ (μ q 10) → fX8_faultOf_55  K q v1 μ) ∧ (¬ (μ q 7) ≤ (μ q 10) → fX8_accepts q (59 : Int32) μ (fun r4 m5 => ((r4 = 0 → fX8_faultOf_50 k15 K q  m5) ∧ (¬ r4 = 0 → fX8_readsOrder q  m5 (fun r7 m8 => ((r7 = 0 → fX8_faultOf_50 k15 K q  m8) ∧ (¬ r7 = 0 → fX8_faultOf_51 k15 K q (1 : Int32) m8))))))))))
def fX8_faultOf_15  (K : Int32 → zMem → Prop) (q : Nat) (n : Nat) : Int32 → zMem → Prop := z_it (fun k => fX8_faultOf_15b  k K q ) (fun _ _ => False) n
def fX8_faultOf (q : Nat)  (μ : zMem) (K : Int32 → zMem → Prop) : Prop :=
  (∀ m10 : zMem, m10 = z_up μ q 10 (0 : Int32) → (∀ m11 : zMem, m11 = z_up m10 q 9 (0 : Int32) → fX8_readsOrder q  m11 (fun r12 m13 => fX8_faultOf_15  K q zFU r12 m13)))
set_option maxRecDepth 100000 in
set_option maxHeartbeats 4000000 in
theorem tX8_faultOf_51 {p : Program} {l : Launch} {e : Env} {s : State} {m : MethodId} {args : Array Value} {below : List Frame} {meth : Method} {c : Code} {G : zG} {k15 : Int32 → zMem → Prop} {K : Int32 → zMem → Prop} (o : za_Ok (z_rm 3 68) 0 0 p s m args meth c G RX8 cX8_faultOf 2 (some .int)) {q : Nat} (hq : z_is q 8) (hk15 : ∀ (v1 : Int32) (μ : zMem), k15 v1 μ → za_At p l e (z_rm 3 68) s m args below meth c (MQ below (zQi G K) args s 0 0 (zA G)) G 2 0 0 15 [(0, .ref (G.2.2 + q)), (1, .int v1)] [] μ) (v1 : Int32) (μ : zMem)  (hf : fX8_faultOf_51 k15 K q v1 μ) : za_At p l e (z_rm 3 68) s m args below meth c (MQ below (zQi G K) args s 0 0 (zA G)) G 2 0 0 51 [(0, .ref (G.2.2 + q))] [.int v1] μ := by
  unfold fX8_faultOf_51 at hf
  refine za_istore_n o [(1, .int v1), (0, .ref (G.2.2 + q))] dX8_faultOf_51 rfl (by decide) rfl ?_
  refine za_goto o 15 dX8_faultOf_52 (by decide) ?_
  refine za_sub [1, 0] rfl ?_
  exact hk15 v1 μ  hf
set_option maxRecDepth 100000 in
set_option maxHeartbeats 4000000 in
theorem tX8_faultOf_50 {p : Program} {l : Launch} {e : Env} {s : State} {m : MethodId} {args : Array Value} {below : List Frame} {meth : Method} {c : Code} {G : zG} {k15 : Int32 → zMem → Prop} {K : Int32 → zMem → Prop} (o : za_Ok (z_rm 3 68) 0 0 p s m args meth c G RX8 cX8_faultOf 2 (some .int)) {q : Nat} (hq : z_is q 8) (hk15 : ∀ (v1 : Int32) (μ : zMem), k15 v1 μ → za_At p l e (z_rm 3 68) s m args below meth c (MQ below (zQi G K) args s 0 0 (zA G)) G 2 0 0 15 [(0, .ref (G.2.2 + q)), (1, .int v1)] [] μ)  (μ : zMem)  (hf : fX8_faultOf_50 k15 K q  μ) : za_At p l e (z_rm 3 68) s m args below meth c (MQ below (zQi G K) args s 0 0 (zA G)) G 2 0 0 50 [(0, .ref (G.2.2 + q))] [] μ := by
  unfold fX8_faultOf_50 at hf
  refine za_iconst (v := (0 : Int32)) o dX8_faultOf_50 (by decide) ?_
  exact tX8_faultOf_51 o hq hk15 (0 : Int32) μ  hf
set_option maxRecDepth 100000 in
set_option maxHeartbeats 4000000 in
theorem tX8_faultOf_67 {p : Program} {l : Launch} {e : Env} {s : State} {m : MethodId} {args : Array Value} {below : List Frame} {meth : Method} {c : Code} {G : zG}  {K : Int32 → zMem → Prop} (o : za_Ok (z_rm 3 68) 0 0 p s m args meth c G RX8 cX8_faultOf 2 (some .int)) {q : Nat} (hq : z_is q 8)  (v1 : Int32) (μ : zMem)  (hf : fX8_faultOf_67  K q v1 μ) : za_At p l e (z_rm 3 68) s m args below meth c (MQ below (zQi G K) args s 0 0 (zA G)) G 2 0 0 67 [] [.int v1] μ := by
  unfold fX8_faultOf_67 at hf
  exact za_iret o rfl hf dX8_faultOf_67
set_option maxRecDepth 100000 in
set_option maxHeartbeats 4000000 in
theorem tX8_faultOf_55 {p : Program} {l : Launch} {e : Env} {s : State} {m : MethodId} {args : Array Value} {below : List Frame} {meth : Method} {c : Code} {G : zG}  {K : Int32 → zMem → Prop} (o : za_Ok (z_rm 3 68) 0 0 p s m args meth c G RX8 cX8_faultOf 2 (some .int)) {q : Nat} (hq : z_is q 8)  (v1 : Int32) (μ : zMem)  (hf : fX8_faultOf_55  K q v1 μ) : za_At p l e (z_rm 3 68) s m args below meth c (MQ below (zQi G K) args s 0 0 (zA G)) G 2 0 0 55 [(0, .ref (G.2.2 + q)), (1, .int v1)] [] μ := by
  unfold fX8_faultOf_55 at hf
  refine za_iload_n o 1 dX8_faultOf_55 rfl rfl ?_
  refine za_if_eq o 63 dX8_faultOf_56 (by decide) (fun c1 => ?_) (fun c1 => ?_)
  · replace hf := hf.1 c1
    refine za_aload_n o 0 dX8_faultOf_63 rfl rfl ?_
    refine za_getf o 10 zc8 hq (Nat.le_of_ble_eq_true rfl) wfX8_129 rfl dX8_faultOf_64 ?_
    refine za_sub [] rfl ?_
    exact tX8_faultOf_67 o hq  (μ q 10) μ  hf
  · replace hf := hf.2 c1
    refine za_iconst (v := (-1 : Int32)) o dX8_faultOf_59 (by decide) ?_
    refine za_goto o 67 dX8_faultOf_60 (by decide) ?_
    refine za_sub [] rfl ?_
    exact tX8_faultOf_67 o hq  (-1 : Int32) μ  hf
set_option maxRecDepth 100000 in
set_option maxHeartbeats 4000000 in
theorem tX8_faultOf_15b {p : Program} {l : Launch} {e : Env} {s : State} {m : MethodId} {args : Array Value} {below : List Frame} {meth : Method} {c : Code} {G : zG} {k15 : Int32 → zMem → Prop} {K : Int32 → zMem → Prop} (o : za_Ok (z_rm 3 68) 0 0 p s m args meth c G RX8 cX8_faultOf 2 (some .int)) {q : Nat} (hq : z_is q 8) (hk15 : ∀ (v1 : Int32) (μ : zMem), k15 v1 μ → za_At p l e (z_rm 3 68) s m args below meth c (MQ below (zQi G K) args s 0 0 (zA G)) G 2 0 0 15 [(0, .ref (G.2.2 + q)), (1, .int v1)] [] μ) (v1 : Int32) (μ : zMem)  (hf : fX8_faultOf_15b k15 K q v1 μ) : za_At p l e (z_rm 3 68) s m args below meth c (MQ below (zQi G K) args s 0 0 (zA G)) G 2 0 0 15 [(0, .ref (G.2.2 + q)), (1, .int v1)] [] μ := by
  unfold fX8_faultOf_15b at hf
  refine za_iload_n o 1 dX8_faultOf_15 rfl rfl ?_
  refine za_if_eq o 55 dX8_faultOf_16 (by decide) (fun c2 => ?_) (fun c2 => ?_)
  · replace hf := hf.1 c2
    exact tX8_faultOf_55 o hq  v1 μ  hf
  · replace hf := hf.2 c2
    refine za_aload_n o 0 dX8_faultOf_19 rfl rfl ?_
    refine za_getf o 10 zc8 hq (Nat.le_of_ble_eq_true rfl) wfX8_129 rfl dX8_faultOf_20 ?_
    refine za_aload_n o 0 dX8_faultOf_23 rfl rfl ?_
    refine za_getf o 7 zc8 hq (Nat.le_of_ble_eq_true rfl) wfX8_125 rfl dX8_faultOf_24 ?_
    refine za_icmp_ge o 55 dX8_faultOf_27 (by decide) (fun c3 => ?_) (fun c3 => ?_)
    · replace hf := hf.1 c3
      exact tX8_faultOf_55 o hq  v1 μ  hf
    · replace hf := hf.2 c3
      refine za_aload_n o 0 dX8_faultOf_30 rfl rfl ?_
      refine za_bipush (v := (59 : Int32)) o dX8_faultOf_31 (by decide) ?_
      refine za_callVi o [.int (59 : Int32)] (ctX8_accepts l G hq (59 : Int32)  μ _ hf) zc8 hq mwX8_accepts wmX8_139 wiX8_accepts wsX8_accepts rfl ⟨Nat.le_of_ble_eq_true rfl, Nat.le_of_ble_eq_true rfl⟩ rfl (Nat.le_of_ble_eq_true rfl) dX8_faultOf_33 (fun r4 m5 hf => ?_)
      refine za_if_eq o 50 dX8_faultOf_36 (by decide) (fun c6 => ?_) (fun c6 => ?_)
      · replace hf := hf.1 c6
        refine za_sub [0] rfl ?_
        exact tX8_faultOf_50 o hq hk15  m5  hf
      · replace hf := hf.2 c6
        refine za_aload_n o 0 dX8_faultOf_39 rfl rfl ?_
        refine za_callVi o [] (ctX8_readsOrder l G hq   m5 _ hf) zc8 hq mwX8_readsOrder wmX8_150 wiX8_readsOrder wsX8_readsOrder rfl ⟨Nat.le_of_ble_eq_true rfl, Nat.le_of_ble_eq_true rfl⟩ rfl (Nat.le_of_ble_eq_true rfl) dX8_faultOf_40 (fun r7 m8 hf => ?_)
        refine za_if_eq o 50 dX8_faultOf_43 (by decide) (fun c9 => ?_) (fun c9 => ?_)
        · replace hf := hf.1 c9
          refine za_sub [0] rfl ?_
          exact tX8_faultOf_50 o hq hk15  m8  hf
        · replace hf := hf.2 c9
          refine za_iconst (v := (1 : Int32)) o dX8_faultOf_46 (by decide) ?_
          refine za_goto o 51 dX8_faultOf_47 (by decide) ?_
          refine za_sub [0] rfl ?_
          exact tX8_faultOf_51 o hq hk15 (1 : Int32) m8  hf
theorem tX8_faultOf_15 {p : Program} {l : Launch} {e : Env} {s : State} {m : MethodId} {args : Array Value} {below : List Frame} {meth : Method} {c : Code} {G : zG}  {K : Int32 → zMem → Prop} (o : za_Ok (z_rm 3 68) 0 0 p s m args meth c G RX8 cX8_faultOf 2 (some .int)) {q : Nat} (hq : z_is q 8)  (n : Nat) : ∀ (v1 : Int32) (μ : zMem), fX8_faultOf_15  K q n v1 μ → za_At p l e (z_rm 3 68) s m args below meth c (MQ below (zQi G K) args s 0 0 (zA G)) G 2 0 0 15 [(0, .ref (G.2.2 + q)), (1, .int v1)] [] μ := by
  induction n with
  | zero => intro _ _ hf; exact hf.elim
  | succ n ih => intro v1 μ  hf; exact tX8_faultOf_15b o hq  ih v1 μ  hf
set_option maxRecDepth 100000 in
set_option maxHeartbeats 4000000 in
theorem ctX8_faultOf (l : Launch) (G : zG) {q : Nat} (hq : z_is q 8)   (μ : zMem) (K : Int32 → zMem → Prop) (hf : fX8_faultOf q  μ K) : z_Met l G yX8_faultOf cX8_faultOf 2 (some .int) (z_rm 3 68) [.ref (G.2.2 + q)] μ K := by
  refine z_body (by decide) (Nat.le_of_ble_eq_true rfl) (fun p e s m args below meth c o => ?_)
  have o : za_Ok (z_rm 3 68) 0 0 p s m args meth c G RX8 cX8_faultOf 2 (some .int) := o
  show za_At p l e (z_rm 3 68) s m args below meth c (MQ below (zQi G K) args s 0 0 (zA G)) G 2 0 0 0 [(0, .ref (G.2.2 + q))] [] μ
  unfold fX8_faultOf at hf
  refine za_aload_n o 0 dX8_faultOf_0 rfl rfl ?_
  refine za_iconst (v := (0 : Int32)) o dX8_faultOf_1 (by decide) ?_
  refine za_putf (ty := .int) o 10 zc8 hq (Nat.le_of_ble_eq_true rfl) wfX8_129 rfl (by decide +kernel) rfl rfl (Nat.le_of_ble_eq_true rfl) rfl dX8_faultOf_2 ?_
  refine za_mem (fun m10 em10 => ?_)
  replace hf := hf m10 em10
  refine za_aload_n o 0 dX8_faultOf_5 rfl rfl ?_
  refine za_iconst (v := (0 : Int32)) o dX8_faultOf_6 (by decide) ?_
  refine za_putf (ty := .int) o 9 zc8 hq (Nat.le_of_ble_eq_true rfl) wfX8_136 rfl (by decide +kernel) rfl rfl (Nat.le_of_ble_eq_true rfl) rfl dX8_faultOf_7 ?_
  refine za_mem (fun m11 em11 => ?_)
  replace hf := hf m11 em11
  refine za_aload_n o 0 dX8_faultOf_10 rfl rfl ?_
  refine za_callVi o [] (ctX8_readsOrder l G hq   m11 _ hf) zc8 hq mwX8_readsOrder wmX8_150 wiX8_readsOrder wsX8_readsOrder rfl ⟨Nat.le_of_ble_eq_true rfl, Nat.le_of_ble_eq_true rfl⟩ rfl (Nat.le_of_ble_eq_true rfl) dX8_faultOf_11 (fun r12 m13 hf => ?_)
  refine za_istore_n o [(1, .int r12), (0, .ref (G.2.2 + q))] dX8_faultOf_14 rfl (by decide) rfl ?_
  refine za_sub [1, 0] rfl ?_
  exact tX8_faultOf_15 o hq  zFU r12 m13  hf
def fX8_does_162  (K : Int32 → zMem → Prop) (q : Nat) (v1 : Int32) (μ : zMem) : Prop :=
  K v1 μ
def fX8_does (q : Nat) (a1 : Int32) (μ : zMem) (K : Int32 → zMem → Prop) : Prop :=
  (∀ x1 : Int32, x1 = ((4 : Int32) * a1) → (vp_in x1 164 ∧ (∀ x3 : Int32, x3 = (μ 535 x1.toNatClampNeg) → ((x3 = (99 : Int32) → (∀ x5 : Int32, x5 = (x1 + (3 : Int32)) → (vp_in x5 164 ∧ (∀ x7 : Int32, x7 = (μ 535 x5.toNatClampNeg) → ((¬ x7 = (1 : Int32) → (∀ x9 : Int32, x9 = (x1 + (1 : Int32)) → (vp_in x9 164 ∧ (∀ x11 : Int32, x11 = (μ 535 x9.toNatClampNeg) → fX8_comes q x11 μ (fun r12 m13 => fX8_does_162  K q r12 m13))))) ∧ (x7 = (1 : Int32) → (∀ x14 : Int32, x14 = (x1 + (1 : Int32)) → (vp_in x14 164 ∧ (∀ x16 : Int32, x16 = (μ 535 x14.toNatClampNeg) → (∀ x17 : Int32, x17 = (x1 + (2 : Int32)) → (vp_in x17 164 ∧ (∀ x19 : Int32, x19 = (μ 535 x17.toNatClampNeg) → fX8_buys q x16 x19 μ (fun r20 m21 => fX8_does_162  K q r20 m21))))))))))))) ∧ (¬ x3 = (99 : Int32) → ((x3 = (107 : Int32) → fX8_cooks q  μ (fun r23 m24 => K r23 m24)) ∧ (¬ x3 = (107 : Int32) → ((x3 = (111 : Int32) → (∀ x26 : Int32, x26 = (x1 + (1 : Int32)) → (vp_in x26 164 ∧ (∀ x28 : Int32, x28 = (μ 535 x26.toNatClampNeg) → (∀ x29 : Int32, x29 = (x1 + (3 : Int32)) → (vp_in x29 164 ∧ (∀ x31 : Int32, x31 = (μ 535 x29.toNatClampNeg) → (∀ x32 : Int32, x32 = (x1 + (2 : Int32)) → (vp_in x32 164 ∧ (∀ x34 : Int32, x34 = (μ 535 x32.toNatClampNeg) → fX8_ordersOf q x28 x31 x34 μ (fun r35 m36 => K r35 m36))))))))))) ∧ (¬ x3 = (111 : Int32) → ((x3 = (112 : Int32) → fX8_comesHere q  μ (fun r38 m39 => K r38 m39)) ∧ (¬ x3 = (112 : Int32) → ((x3 = (118 : Int32) → (∀ x41 : Int32, x41 = (x1 + (1 : Int32)) → (vp_in x41 164 ∧ (∀ x43 : Int32, x43 = (μ 535 x41.toNatClampNeg) → (∀ x44 : Int32, x44 = (x1 + (2 : Int32)) → (vp_in x44 164 ∧ (∀ x46 : Int32, x46 = (μ 535 x44.toNatClampNeg) → fX8_gets q x43 x46 μ (fun r47 m48 => K r47 m48)))))))) ∧ (¬ x3 = (118 : Int32) → fX8_closes q  μ (fun r49 m50 => K r49 m50))))))))))))))
set_option maxRecDepth 100000 in
set_option maxHeartbeats 4000000 in
theorem tX8_does_162 {p : Program} {l : Launch} {e : Env} {s : State} {m : MethodId} {args : Array Value} {below : List Frame} {meth : Method} {c : Code} {G : zG}  {K : Int32 → zMem → Prop} (o : za_Ok (z_rm 4 91) 0 0 p s m args meth c G RX8 cX8_does 3 (some .int)) {q : Nat} (hq : z_is q 8)  (v1 : Int32) (μ : zMem)  (hf : fX8_does_162  K q v1 μ) : za_At p l e (z_rm 4 91) s m args below meth c (MQ below (zQi G K) args s 0 0 (zA G)) G 3 0 0 162 [] [.int v1] μ := by
  unfold fX8_does_162 at hf
  exact za_iret o rfl hf dX8_does_162
set_option maxRecDepth 100000 in
set_option maxHeartbeats 4000000 in
theorem ctX8_does (l : Launch) (G : zG) {q : Nat} (hq : z_is q 8) (a1 : Int32)  (μ : zMem) (K : Int32 → zMem → Prop) (hf : fX8_does q a1 μ K) : z_Met l G yX8_does cX8_does 3 (some .int) (z_rm 4 91) [.ref (G.2.2 + q), .int a1] μ K := by
  refine z_body (by decide) (Nat.le_of_ble_eq_true rfl) (fun p e s m args below meth c o => ?_)
  have o : za_Ok (z_rm 4 91) 0 0 p s m args meth c G RX8 cX8_does 3 (some .int) := o
  show za_At p l e (z_rm 4 91) s m args below meth c (MQ below (zQi G K) args s 0 0 (zA G)) G 3 0 0 0 [(0, .ref (G.2.2 + q)), (1, .int a1)] [] μ
  unfold fX8_does at hf
  refine za_iconst (v := (4 : Int32)) o dX8_does_0 (by decide) ?_
  refine za_iload_n o 1 dX8_does_1 rfl rfl ?_
  refine za_imul o dX8_does_2 ?_
  refine za_topi (fun x1 ex1 => ?_)
  replace hf := hf x1 ex1
  refine za_istore_n o [(2, .int x1), (0, .ref (G.2.2 + q)), (1, .int a1)] dX8_does_3 rfl (by decide) rfl ?_
  refine za_aload_n o 1 dX8_does_4 rfl rfl ?_
  refine za_getf o 5 zc8 hq (Nat.le_of_ble_eq_true rfl) wfX8_26 rfl dX8_does_5 ?_
  refine za_iload_n o 0 dX8_does_8 rfl rfl ?_
  obtain ⟨g2, hf⟩ := hf
  refine za_iald o zk_m5 rfl g2 dX8_does_9 ?_
  refine za_topi (fun x3 ex3 => ?_)
  replace hf := hf x3 ex3
  by_cases c4 : x3 = (99 : Int32)
  · replace hf := hf.1 c4
    refine za_lsw o 115 dX8_does_10 (by decide) (by first | (rw [c4]; done) | (rw [c4]; rfl)) (by decide) ?_
    refine za_aload_n o 1 dX8_does_115 rfl rfl ?_
    refine za_getf o 5 zc8 hq (Nat.le_of_ble_eq_true rfl) wfX8_26 rfl dX8_does_116 ?_
    refine za_iload_n o 0 dX8_does_119 rfl rfl ?_
    refine za_iconst (v := (3 : Int32)) o dX8_does_120 (by decide) ?_
    refine za_iadd o dX8_does_121 ?_
    refine za_topi (fun x5 ex5 => ?_)
    replace hf := hf x5 ex5
    obtain ⟨g6, hf⟩ := hf
    refine za_iald o zk_m5 rfl g6 dX8_does_122 ?_
    refine za_topi (fun x7 ex7 => ?_)
    replace hf := hf x7 ex7
    refine za_iconst (v := (1 : Int32)) o dX8_does_123 (by decide) ?_
    refine za_icmp_ne o 150 dX8_does_124 (by decide) (fun c8 => ?_) (fun c8 => ?_)
    · replace hf := hf.1 c8
      refine za_aload_n o 1 dX8_does_150 rfl rfl ?_
      refine za_aload_n o 1 dX8_does_151 rfl rfl ?_
      refine za_getf o 5 zc8 hq (Nat.le_of_ble_eq_true rfl) wfX8_26 rfl dX8_does_152 ?_
      refine za_iload_n o 0 dX8_does_155 rfl rfl ?_
      refine za_iconst (v := (1 : Int32)) o dX8_does_156 (by decide) ?_
      refine za_iadd o dX8_does_157 ?_
      refine za_topi (fun x9 ex9 => ?_)
      replace hf := hf x9 ex9
      obtain ⟨g10, hf⟩ := hf
      refine za_iald o zk_m5 rfl g10 dX8_does_158 ?_
      refine za_topi (fun x11 ex11 => ?_)
      replace hf := hf x11 ex11
      refine za_callVi o [.int x11] (ctX8_comes l G hq x11  μ _ hf) zc8 hq mwX8_comes wmX8_107 wiX8_comes wsX8_comes rfl ⟨Nat.le_of_ble_eq_true rfl, Nat.le_of_ble_eq_true rfl⟩ rfl (Nat.le_of_ble_eq_true rfl) dX8_does_159 (fun r12 m13 hf => ?_)
      refine za_sub [] rfl ?_
      exact tX8_does_162 o hq  r12 m13  hf
    · replace hf := hf.2 c8
      refine za_aload_n o 1 dX8_does_127 rfl rfl ?_
      refine za_aload_n o 1 dX8_does_128 rfl rfl ?_
      refine za_getf o 5 zc8 hq (Nat.le_of_ble_eq_true rfl) wfX8_26 rfl dX8_does_129 ?_
      refine za_iload_n o 0 dX8_does_132 rfl rfl ?_
      refine za_iconst (v := (1 : Int32)) o dX8_does_133 (by decide) ?_
      refine za_iadd o dX8_does_134 ?_
      refine za_topi (fun x14 ex14 => ?_)
      replace hf := hf x14 ex14
      obtain ⟨g15, hf⟩ := hf
      refine za_iald o zk_m5 rfl g15 dX8_does_135 ?_
      refine za_topi (fun x16 ex16 => ?_)
      replace hf := hf x16 ex16
      refine za_aload_n o 1 dX8_does_136 rfl rfl ?_
      refine za_getf o 5 zc8 hq (Nat.le_of_ble_eq_true rfl) wfX8_26 rfl dX8_does_137 ?_
      refine za_iload_n o 0 dX8_does_140 rfl rfl ?_
      refine za_iconst (v := (2 : Int32)) o dX8_does_141 (by decide) ?_
      refine za_iadd o dX8_does_142 ?_
      refine za_topi (fun x17 ex17 => ?_)
      replace hf := hf x17 ex17
      obtain ⟨g18, hf⟩ := hf
      refine za_iald o zk_m5 rfl g18 dX8_does_143 ?_
      refine za_topi (fun x19 ex19 => ?_)
      replace hf := hf x19 ex19
      refine za_callVi o [.int x16, .int x19] (ctX8_buys l G hq x16 x19  μ _ hf) zc8 hq mwX8_buys wmX8_110 wiX8_buys wsX8_buys rfl ⟨Nat.le_of_ble_eq_true rfl, Nat.le_of_ble_eq_true rfl⟩ rfl (Nat.le_of_ble_eq_true rfl) dX8_does_144 (fun r20 m21 hf => ?_)
      refine za_goto o 162 dX8_does_147 (by decide) ?_
      refine za_sub [] rfl ?_
      exact tX8_does_162 o hq  r20 m21  hf
  · replace hf := hf.2 c4
    by_cases c22 : x3 = (107 : Int32)
    · replace hf := hf.1 c22
      refine za_lsw o 163 dX8_does_10 (by decide) (by first | (rw [c22]; done) | (rw [c22]; rfl)) (by decide) ?_
      refine za_aload_n o 1 dX8_does_163 rfl rfl ?_
      refine za_callVi o [] (ctX8_cooks l G hq   μ _ hf) zc8 hq mwX8_cooks wmX8_104 wiX8_cooks wsX8_cooks rfl ⟨Nat.le_of_ble_eq_true rfl, Nat.le_of_ble_eq_true rfl⟩ rfl (Nat.le_of_ble_eq_true rfl) dX8_does_164 (fun r23 m24 hf => ?_)
      exact za_iret o rfl hf dX8_does_167
    · replace hf := hf.2 c22
      by_cases c25 : x3 = (111 : Int32)
      · replace hf := hf.1 c25
        refine za_lsw o 86 dX8_does_10 (by decide) (by first | (rw [c25]; done) | (rw [c25]; rfl)) (by decide) ?_
        refine za_aload_n o 1 dX8_does_86 rfl rfl ?_
        refine za_aload_n o 1 dX8_does_87 rfl rfl ?_
        refine za_getf o 5 zc8 hq (Nat.le_of_ble_eq_true rfl) wfX8_26 rfl dX8_does_88 ?_
        refine za_iload_n o 0 dX8_does_91 rfl rfl ?_
        refine za_iconst (v := (1 : Int32)) o dX8_does_92 (by decide) ?_
        refine za_iadd o dX8_does_93 ?_
        refine za_topi (fun x26 ex26 => ?_)
        replace hf := hf x26 ex26
        obtain ⟨g27, hf⟩ := hf
        refine za_iald o zk_m5 rfl g27 dX8_does_94 ?_
        refine za_topi (fun x28 ex28 => ?_)
        replace hf := hf x28 ex28
        refine za_aload_n o 1 dX8_does_95 rfl rfl ?_
        refine za_getf o 5 zc8 hq (Nat.le_of_ble_eq_true rfl) wfX8_26 rfl dX8_does_96 ?_
        refine za_iload_n o 0 dX8_does_99 rfl rfl ?_
        refine za_iconst (v := (3 : Int32)) o dX8_does_100 (by decide) ?_
        refine za_iadd o dX8_does_101 ?_
        refine za_topi (fun x29 ex29 => ?_)
        replace hf := hf x29 ex29
        obtain ⟨g30, hf⟩ := hf
        refine za_iald o zk_m5 rfl g30 dX8_does_102 ?_
        refine za_topi (fun x31 ex31 => ?_)
        replace hf := hf x31 ex31
        refine za_aload_n o 1 dX8_does_103 rfl rfl ?_
        refine za_getf o 5 zc8 hq (Nat.le_of_ble_eq_true rfl) wfX8_26 rfl dX8_does_104 ?_
        refine za_iload_n o 0 dX8_does_107 rfl rfl ?_
        refine za_iconst (v := (2 : Int32)) o dX8_does_108 (by decide) ?_
        refine za_iadd o dX8_does_109 ?_
        refine za_topi (fun x32 ex32 => ?_)
        replace hf := hf x32 ex32
        obtain ⟨g33, hf⟩ := hf
        refine za_iald o zk_m5 rfl g33 dX8_does_110 ?_
        refine za_topi (fun x34 ex34 => ?_)
        replace hf := hf x34 ex34
        refine za_callVi o [.int x28, .int x31, .int x34] (ctX8_ordersOf l G hq x28 x31 x34  μ _ hf) zc8 hq mwX8_ordersOf wmX8_101 wiX8_ordersOf wsX8_ordersOf rfl ⟨Nat.le_of_ble_eq_true rfl, Nat.le_of_ble_eq_true rfl⟩ rfl (Nat.le_of_ble_eq_true rfl) dX8_does_111 (fun r35 m36 hf => ?_)
        exact za_iret o rfl hf dX8_does_114
      · replace hf := hf.2 c25
        by_cases c37 : x3 = (112 : Int32)
        · replace hf := hf.1 c37
          refine za_lsw o 60 dX8_does_10 (by decide) (by first | (rw [c37]; done) | (rw [c37]; rfl)) (by decide) ?_
          refine za_aload_n o 1 dX8_does_60 rfl rfl ?_
          refine za_callVi o [] (ctX8_comesHere l G hq   μ _ hf) zc8 hq mwX8_comesHere wmX8_94 wiX8_comesHere wsX8_comesHere rfl ⟨Nat.le_of_ble_eq_true rfl, Nat.le_of_ble_eq_true rfl⟩ rfl (Nat.le_of_ble_eq_true rfl) dX8_does_61 (fun r38 m39 hf => ?_)
          exact za_iret o rfl hf dX8_does_64
        · replace hf := hf.2 c37
          by_cases c40 : x3 = (118 : Int32)
          · replace hf := hf.1 c40
            refine za_lsw o 65 dX8_does_10 (by decide) (by first | (rw [c40]; done) | (rw [c40]; rfl)) (by decide) ?_
            refine za_aload_n o 1 dX8_does_65 rfl rfl ?_
            refine za_aload_n o 1 dX8_does_66 rfl rfl ?_
            refine za_getf o 5 zc8 hq (Nat.le_of_ble_eq_true rfl) wfX8_26 rfl dX8_does_67 ?_
            refine za_iload_n o 0 dX8_does_70 rfl rfl ?_
            refine za_iconst (v := (1 : Int32)) o dX8_does_71 (by decide) ?_
            refine za_iadd o dX8_does_72 ?_
            refine za_topi (fun x41 ex41 => ?_)
            replace hf := hf x41 ex41
            obtain ⟨g42, hf⟩ := hf
            refine za_iald o zk_m5 rfl g42 dX8_does_73 ?_
            refine za_topi (fun x43 ex43 => ?_)
            replace hf := hf x43 ex43
            refine za_aload_n o 1 dX8_does_74 rfl rfl ?_
            refine za_getf o 5 zc8 hq (Nat.le_of_ble_eq_true rfl) wfX8_26 rfl dX8_does_75 ?_
            refine za_iload_n o 0 dX8_does_78 rfl rfl ?_
            refine za_iconst (v := (2 : Int32)) o dX8_does_79 (by decide) ?_
            refine za_iadd o dX8_does_80 ?_
            refine za_topi (fun x44 ex44 => ?_)
            replace hf := hf x44 ex44
            obtain ⟨g45, hf⟩ := hf
            refine za_iald o zk_m5 rfl g45 dX8_does_81 ?_
            refine za_topi (fun x46 ex46 => ?_)
            replace hf := hf x46 ex46
            refine za_callVi o [.int x43, .int x46] (ctX8_gets l G hq x43 x46  μ _ hf) zc8 hq mwX8_gets wmX8_98 wiX8_gets wsX8_gets rfl ⟨Nat.le_of_ble_eq_true rfl, Nat.le_of_ble_eq_true rfl⟩ rfl (Nat.le_of_ble_eq_true rfl) dX8_does_82 (fun r47 m48 hf => ?_)
            exact za_iret o rfl hf dX8_does_85
          · replace hf := hf.2 c40
            refine za_lsw (off := (158 : Int)) o 168 dX8_does_10 (by decide) ((lv_osw (k := (99 : Int32)) c4 rfl).trans ((lv_osw (k := (107 : Int32)) c22 rfl).trans ((lv_osw (k := (111 : Int32)) c25 rfl).trans ((lv_osw (k := (112 : Int32)) c37 rfl).trans ((lv_osw (k := (118 : Int32)) c40 rfl).trans rfl))))) (by decide) ?_
            refine za_aload_n o 1 dX8_does_168 rfl rfl ?_
            refine za_callVi o [] (ctX8_closes l G hq   μ _ hf) zc8 hq mwX8_closes wmX8_113 wiX8_closes wsX8_closes rfl ⟨Nat.le_of_ble_eq_true rfl, Nat.le_of_ble_eq_true rfl⟩ rfl (Nat.le_of_ble_eq_true rfl) dX8_does_169 (fun r49 m50 hf => ?_)
            exact za_iret o rfl hf dX8_does_172
