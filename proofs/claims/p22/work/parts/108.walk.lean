/-! X8_comes X8_buys X8_endsFor -/
def fX8_comes_49  (K : Int32 → zMem → Prop) (q : Nat)  (μ : zMem) : Prop :=
  K (-5 : Int32) μ
def fX8_comes_149  (K : Int32 → zMem → Prop) (q : Nat) (v1 : Int32) (μ : zMem) : Prop :=
  K v1 μ
def fX8_comes_139  (K : Int32 → zMem → Prop) (q : Nat) (v1 : Int32) (v2 : Int32) (μ : zMem) : Prop :=
  ((v2 = 0 → fX8_comes_149  K q (3 : Int32) μ) ∧ (¬ v2 = 0 → fX8_comes_149  K q v1 μ))
def fX8_comes_76  (K : Int32 → zMem → Prop) (q : Nat) (v1 : Int32) (v2 : Int32) (v3 : Int32) (v4 : Int32) (μ : zMem) : Prop :=
  (∀ x2 : Int32, x2 = (v2 + (15 : Int32)) → (vp_in x2 276 ∧ (∀ m4 : zMem, m4 = z_up μ 530 x2.toNatClampNeg (1 : Int32) → (∀ x5 : Int32, x5 = (v2 + (13 : Int32)) → (vp_in x5 276 ∧ (∀ x7 : Int32, x7 = (m4 530 x5.toNatClampNeg) → (∀ x8 : Int32, x8 = (x7 + (1 : Int32)) → (vp_in x5 276 ∧ (∀ m10 : zMem, m10 = z_up m4 530 x5.toNatClampNeg x8 → (∀ x11 : Int32, x11 = (v2 + (11 : Int32)) → (vp_in x11 276 ∧ (∀ m13 : zMem, m13 = z_up m10 530 x11.toNatClampNeg (0 : Int32) → ((v4 = 0 → (∀ x15 : Int32, x15 = (v2 + (6 : Int32)) → (vp_in x15 276 ∧ (∀ x17 : Int32, x17 = (m13 530 x15.toNatClampNeg) → fX8_gives q v1 x17 m13 (fun m19 => fX8_comes_139  K q v3 v4 m19))))) ∧ (¬ v4 = 0 → fX8_eats q v1 v3 m13 (fun m21 => fX8_comes_139  K q v3 v4 m21)))))))))))))))
def fX8_comes (q : Nat) (a1 : Int32) (μ : zMem) (K : Int32 → zMem → Prop) : Prop :=
  fX8_isPerson q a1 μ (fun r22 m23 => ((¬ r22 = 0 → fX8_p a1 m23 (fun r25 m26 => (∀ x27 : Int32, x27 = (m26 530 6) → ((x27 = 0 → fX8_comes_49  K q  m26) ∧ (¬ x27 = 0 → (∀ x29 : Int32, x29 = (r25 + (1 : Int32)) → (vp_in x29 276 ∧ (∀ x31 : Int32, x31 = (m26 530 x29.toNatClampNeg) → ((x31 = 0 → fX8_comes_49  K q  m26) ∧ (¬ x31 = 0 → (∀ x33 : Int32, x33 = (r25 + (15 : Int32)) → (vp_in x33 276 ∧ (∀ x35 : Int32, x35 = (m26 530 x33.toNatClampNeg) → ((¬ x35 = (1 : Int32) → (∀ x37 : Int32, x37 = (r25 + (1 : Int32)) → (vp_in x37 276 ∧ (∀ x39 : Int32, x39 = (m26 530 x37.toNatClampNeg) → (∀ x40 : Int32, x40 = (x39 - (1 : Int32)) → fX8_left q x40 m26 (fun r41 m42 => ((r41 ≤ 0 → fX8_comes_76  K q a1 r25 x40 (0 : Int32) m42) ∧ (¬ r41 ≤ 0 → fX8_comes_76  K q a1 r25 x40 (1 : Int32) m42)))))))) ∧ (x35 = (1 : Int32) → fX8_comes_49  K q  m26))))))))))))))) ∧ (r22 = 0 → K (-1 : Int32) m23)))
set_option maxRecDepth 100000 in
set_option maxHeartbeats 4000000 in
theorem tX8_comes_49 {p : Program} {l : Launch} {e : Env} {s : State} {m : MethodId} {args : Array Value} {below : List Frame} {meth : Method} {c : Code} {G : zG}  {K : Int32 → zMem → Prop} (o : za_Ok (z_rm 2 43) 0 0 p s m args meth c G RX8 cX8_comes 5 (some .int)) {q : Nat} (hq : z_is q 8)   (μ : zMem)  (hf : fX8_comes_49  K q  μ) : za_At p l e (z_rm 2 43) s m args below meth c (MQ below (zQi G K) args s 0 0 (zA G)) G 5 0 0 49 [] [] μ := by
  unfold fX8_comes_49 at hf
  refine za_bipush (v := (-5 : Int32)) o dX8_comes_49 (by decide) ?_
  exact za_iret o rfl hf dX8_comes_51
set_option maxRecDepth 100000 in
set_option maxHeartbeats 4000000 in
theorem tX8_comes_149 {p : Program} {l : Launch} {e : Env} {s : State} {m : MethodId} {args : Array Value} {below : List Frame} {meth : Method} {c : Code} {G : zG}  {K : Int32 → zMem → Prop} (o : za_Ok (z_rm 2 43) 0 0 p s m args meth c G RX8 cX8_comes 5 (some .int)) {q : Nat} (hq : z_is q 8)  (v1 : Int32) (μ : zMem)  (hf : fX8_comes_149  K q v1 μ) : za_At p l e (z_rm 2 43) s m args below meth c (MQ below (zQi G K) args s 0 0 (zA G)) G 5 0 0 149 [] [.int v1] μ := by
  unfold fX8_comes_149 at hf
  exact za_iret o rfl hf dX8_comes_149
set_option maxRecDepth 100000 in
set_option maxHeartbeats 4000000 in
theorem tX8_comes_139 {p : Program} {l : Launch} {e : Env} {s : State} {m : MethodId} {args : Array Value} {below : List Frame} {meth : Method} {c : Code} {G : zG}  {K : Int32 → zMem → Prop} (o : za_Ok (z_rm 2 43) 0 0 p s m args meth c G RX8 cX8_comes 5 (some .int)) {q : Nat} (hq : z_is q 8)  (v1 : Int32) (v2 : Int32) (μ : zMem)  (hf : fX8_comes_139  K q v1 v2 μ) : za_At p l e (z_rm 2 43) s m args below meth c (MQ below (zQi G K) args s 0 0 (zA G)) G 5 0 0 139 [(3, .int v1), (4, .int v2)] [] μ := by
  unfold fX8_comes_139 at hf
  refine za_iload o 1 dX8_comes_139 rfl ?_
  refine za_if_eq o 148 dX8_comes_141 (by decide) (fun c1 => ?_) (fun c1 => ?_)
  · replace hf := hf.1 c1
    refine za_iconst (v := (3 : Int32)) o dX8_comes_148 (by decide) ?_
    refine za_sub [] rfl ?_
    exact tX8_comes_149 o hq  (3 : Int32) μ  hf
  · replace hf := hf.2 c1
    refine za_iload_n o 0 dX8_comes_144 rfl rfl ?_
    refine za_goto o 149 dX8_comes_145 (by decide) ?_
    refine za_sub [] rfl ?_
    exact tX8_comes_149 o hq  v1 μ  hf
set_option maxRecDepth 100000 in
set_option maxHeartbeats 4000000 in
theorem tX8_comes_76 {p : Program} {l : Launch} {e : Env} {s : State} {m : MethodId} {args : Array Value} {below : List Frame} {meth : Method} {c : Code} {G : zG}  {K : Int32 → zMem → Prop} (o : za_Ok (z_rm 2 43) 0 0 p s m args meth c G RX8 cX8_comes 5 (some .int)) {q : Nat} (hq : z_is q 8)  (v1 : Int32) (v2 : Int32) (v3 : Int32) (v4 : Int32) (μ : zMem)  (hf : fX8_comes_76  K q v1 v2 v3 v4 μ) : za_At p l e (z_rm 2 43) s m args below meth c (MQ below (zQi G K) args s 0 0 (zA G)) G 5 0 0 76 [(0, .ref (G.2.2 + q)), (1, .int v1), (2, .int v2), (3, .int v3)] [.int v4] μ := by
  unfold fX8_comes_76 at hf
  refine za_istore o [(4, .int v4), (0, .ref (G.2.2 + q)), (1, .int v1), (2, .int v2), (3, .int v3)] dX8_comes_76 (by decide) rfl ?_
  refine za_aload_n o 1 dX8_comes_78 rfl rfl ?_
  refine za_getf o 0 zc8 hq (Nat.le_of_ble_eq_true rfl) wfX8_7 rfl dX8_comes_79 ?_
  refine za_iload_n o 3 dX8_comes_82 rfl rfl ?_
  refine za_bipush (v := (15 : Int32)) o dX8_comes_83 (by decide) ?_
  refine za_iadd o dX8_comes_85 ?_
  refine za_topi (fun x2 ex2 => ?_)
  replace hf := hf x2 ex2
  refine za_iconst (v := (1 : Int32)) o dX8_comes_86 (by decide) ?_
  obtain ⟨g3, hf⟩ := hf
  refine za_iast o zk_m0 rfl g3 dX8_comes_87 ?_
  refine za_mem (fun m4 em4 => ?_)
  replace hf := hf m4 em4
  refine za_aload_n o 1 dX8_comes_88 rfl rfl ?_
  refine za_getf o 0 zc8 hq (Nat.le_of_ble_eq_true rfl) wfX8_7 rfl dX8_comes_89 ?_
  refine za_iload_n o 3 dX8_comes_92 rfl rfl ?_
  refine za_bipush (v := (13 : Int32)) o dX8_comes_93 (by decide) ?_
  refine za_iadd o dX8_comes_95 ?_
  refine za_topi (fun x5 ex5 => ?_)
  replace hf := hf x5 ex5
  refine za_dup2 o dX8_comes_96 rfl rfl ?_
  obtain ⟨g6, hf⟩ := hf
  refine za_iald o zk_m0 rfl g6 dX8_comes_97 ?_
  refine za_topi (fun x7 ex7 => ?_)
  replace hf := hf x7 ex7
  refine za_iconst (v := (1 : Int32)) o dX8_comes_98 (by decide) ?_
  refine za_iadd o dX8_comes_99 ?_
  refine za_topi (fun x8 ex8 => ?_)
  replace hf := hf x8 ex8
  obtain ⟨g9, hf⟩ := hf
  refine za_iast o zk_m0 rfl g9 dX8_comes_100 ?_
  refine za_mem (fun m10 em10 => ?_)
  replace hf := hf m10 em10
  refine za_aload_n o 1 dX8_comes_101 rfl rfl ?_
  refine za_getf o 0 zc8 hq (Nat.le_of_ble_eq_true rfl) wfX8_7 rfl dX8_comes_102 ?_
  refine za_iload_n o 3 dX8_comes_105 rfl rfl ?_
  refine za_bipush (v := (11 : Int32)) o dX8_comes_106 (by decide) ?_
  refine za_iadd o dX8_comes_108 ?_
  refine za_topi (fun x11 ex11 => ?_)
  replace hf := hf x11 ex11
  refine za_iconst (v := (0 : Int32)) o dX8_comes_109 (by decide) ?_
  obtain ⟨g12, hf⟩ := hf
  refine za_iast o zk_m0 rfl g12 dX8_comes_110 ?_
  refine za_mem (fun m13 em13 => ?_)
  replace hf := hf m13 em13
  refine za_iload o 0 dX8_comes_111 rfl ?_
  refine za_if_eq o 125 dX8_comes_113 (by decide) (fun c14 => ?_) (fun c14 => ?_)
  · replace hf := hf.1 c14
    refine za_aload_n o 1 dX8_comes_125 rfl rfl ?_
    refine za_iload_n o 2 dX8_comes_126 rfl rfl ?_
    refine za_aload_n o 1 dX8_comes_127 rfl rfl ?_
    refine za_getf o 0 zc8 hq (Nat.le_of_ble_eq_true rfl) wfX8_7 rfl dX8_comes_128 ?_
    refine za_iload_n o 3 dX8_comes_131 rfl rfl ?_
    refine za_bipush (v := (6 : Int32)) o dX8_comes_132 (by decide) ?_
    refine za_iadd o dX8_comes_134 ?_
    refine za_topi (fun x15 ex15 => ?_)
    replace hf := hf x15 ex15
    obtain ⟨g16, hf⟩ := hf
    refine za_iald o zk_m0 rfl g16 dX8_comes_135 ?_
    refine za_topi (fun x17 ex17 => ?_)
    replace hf := hf x17 ex17
    refine za_callVv o [.int v1, .int x17] (ctX8_gives l G hq v1 x17  m13 _ hf) zc8 hq mwX8_gives wmX8_58 wiX8_gives wsX8_gives rfl ⟨Nat.le_of_ble_eq_true rfl, Nat.le_of_ble_eq_true rfl⟩ rfl (Nat.le_of_ble_eq_true rfl) dX8_comes_136 (fun m19 hf => ?_)
    refine za_sub [4, 0] rfl ?_
    exact tX8_comes_139 o hq  v3 v4 m19  hf
  · replace hf := hf.2 c14
    refine za_aload_n o 1 dX8_comes_116 rfl rfl ?_
    refine za_iload_n o 2 dX8_comes_117 rfl rfl ?_
    refine za_iload_n o 4 dX8_comes_118 rfl rfl ?_
    refine za_callVv o [.int v1, .int v3] (ctX8_eats l G hq v1 v3  m13 _ hf) zc8 hq mwX8_eats wmX8_79 wiX8_eats wsX8_eats rfl ⟨Nat.le_of_ble_eq_true rfl, Nat.le_of_ble_eq_true rfl⟩ rfl (Nat.le_of_ble_eq_true rfl) dX8_comes_119 (fun m21 hf => ?_)
    refine za_goto o 139 dX8_comes_122 (by decide) ?_
    refine za_sub [4, 0] rfl ?_
    exact tX8_comes_139 o hq  v3 v4 m21  hf
set_option maxRecDepth 100000 in
set_option maxHeartbeats 4000000 in
theorem ctX8_comes (l : Launch) (G : zG) {q : Nat} (hq : z_is q 8) (a1 : Int32)  (μ : zMem) (K : Int32 → zMem → Prop) (hf : fX8_comes q a1 μ K) : z_Met l G yX8_comes cX8_comes 5 (some .int) (z_rm 2 43) [.ref (G.2.2 + q), .int a1] μ K := by
  refine z_body (by decide) (Nat.le_of_ble_eq_true rfl) (fun p e s m args below meth c o => ?_)
  have o : za_Ok (z_rm 2 43) 0 0 p s m args meth c G RX8 cX8_comes 5 (some .int) := o
  show za_At p l e (z_rm 2 43) s m args below meth c (MQ below (zQi G K) args s 0 0 (zA G)) G 5 0 0 0 [(0, .ref (G.2.2 + q)), (1, .int a1)] [] μ
  unfold fX8_comes at hf
  refine za_aload_n o 0 dX8_comes_0 rfl rfl ?_
  refine za_iload_n o 1 dX8_comes_1 rfl rfl ?_
  refine za_callVi o [.int a1] (ctX8_isPerson l G hq a1  μ _ hf) zc8 hq mwX8_isPerson wmX8_54 wiX8_isPerson wsX8_isPerson rfl ⟨Nat.le_of_ble_eq_true rfl, Nat.le_of_ble_eq_true rfl⟩ rfl (Nat.le_of_ble_eq_true rfl) dX8_comes_2 (fun r22 m23 hf => ?_)
  refine za_if_ne o 10 dX8_comes_5 (by decide) (fun c24 => ?_) (fun c24 => ?_)
  · replace hf := hf.1 c24
    refine za_iload_n o 1 dX8_comes_10 rfl rfl ?_
    refine za_callSi o [.int a1] (ctX8_p l G a1  m23 _ hf) mwX8_p wmX8_41 wtX8_p rfl ⟨Nat.le_of_ble_eq_true rfl, Nat.le_of_ble_eq_true rfl⟩ rfl (Nat.le_of_ble_eq_true rfl) dX8_comes_11 (fun r25 m26 hf => ?_)
    refine za_istore_n o [(2, .int r25), (0, .ref (G.2.2 + q)), (1, .int a1)] dX8_comes_14 rfl (by decide) rfl ?_
    refine za_aload_n o 1 dX8_comes_15 rfl rfl ?_
    refine za_getf o 0 zc8 hq (Nat.le_of_ble_eq_true rfl) wfX8_7 rfl dX8_comes_16 ?_
    refine za_bipush (v := (6 : Int32)) o dX8_comes_19 (by decide) ?_
    refine za_iald o zk_m0 rfl (by unfold vp_in; decide) dX8_comes_21 ?_
    refine za_topi (fun x27 ex27 => ?_)
    replace hf := hf x27 ex27
    refine za_if_eq o 49 dX8_comes_22 (by decide) (fun c28 => ?_) (fun c28 => ?_)
    · replace hf := hf.1 c28
      refine za_sub [] rfl ?_
      exact tX8_comes_49 o hq   m26  hf
    · replace hf := hf.2 c28
      refine za_aload_n o 1 dX8_comes_25 rfl rfl ?_
      refine za_getf o 0 zc8 hq (Nat.le_of_ble_eq_true rfl) wfX8_7 rfl dX8_comes_26 ?_
      refine za_iload_n o 0 dX8_comes_29 rfl rfl ?_
      refine za_iconst (v := (1 : Int32)) o dX8_comes_30 (by decide) ?_
      refine za_iadd o dX8_comes_31 ?_
      refine za_topi (fun x29 ex29 => ?_)
      replace hf := hf x29 ex29
      obtain ⟨g30, hf⟩ := hf
      refine za_iald o zk_m0 rfl g30 dX8_comes_32 ?_
      refine za_topi (fun x31 ex31 => ?_)
      replace hf := hf x31 ex31
      refine za_if_eq o 49 dX8_comes_33 (by decide) (fun c32 => ?_) (fun c32 => ?_)
      · replace hf := hf.1 c32
        refine za_sub [] rfl ?_
        exact tX8_comes_49 o hq   m26  hf
      · replace hf := hf.2 c32
        refine za_aload_n o 1 dX8_comes_36 rfl rfl ?_
        refine za_getf o 0 zc8 hq (Nat.le_of_ble_eq_true rfl) wfX8_7 rfl dX8_comes_37 ?_
        refine za_iload_n o 0 dX8_comes_40 rfl rfl ?_
        refine za_bipush (v := (15 : Int32)) o dX8_comes_41 (by decide) ?_
        refine za_iadd o dX8_comes_43 ?_
        refine za_topi (fun x33 ex33 => ?_)
        replace hf := hf x33 ex33
        obtain ⟨g34, hf⟩ := hf
        refine za_iald o zk_m0 rfl g34 dX8_comes_44 ?_
        refine za_topi (fun x35 ex35 => ?_)
        replace hf := hf x35 ex35
        refine za_iconst (v := (1 : Int32)) o dX8_comes_45 (by decide) ?_
        refine za_icmp_ne o 52 dX8_comes_46 (by decide) (fun c36 => ?_) (fun c36 => ?_)
        · replace hf := hf.1 c36
          refine za_aload_n o 1 dX8_comes_52 rfl rfl ?_
          refine za_getf o 0 zc8 hq (Nat.le_of_ble_eq_true rfl) wfX8_7 rfl dX8_comes_53 ?_
          refine za_iload_n o 0 dX8_comes_56 rfl rfl ?_
          refine za_iconst (v := (1 : Int32)) o dX8_comes_57 (by decide) ?_
          refine za_iadd o dX8_comes_58 ?_
          refine za_topi (fun x37 ex37 => ?_)
          replace hf := hf x37 ex37
          obtain ⟨g38, hf⟩ := hf
          refine za_iald o zk_m0 rfl g38 dX8_comes_59 ?_
          refine za_topi (fun x39 ex39 => ?_)
          replace hf := hf x39 ex39
          refine za_iconst (v := (1 : Int32)) o dX8_comes_60 (by decide) ?_
          refine za_isub o dX8_comes_61 ?_
          refine za_topi (fun x40 ex40 => ?_)
          replace hf := hf x40 ex40
          refine za_istore_n o [(3, .int x40), (2, .int r25), (0, .ref (G.2.2 + q)), (1, .int a1)] dX8_comes_62 rfl (by decide) rfl ?_
          refine za_aload_n o 2 dX8_comes_63 rfl rfl ?_
          refine za_iload_n o 0 dX8_comes_64 rfl rfl ?_
          refine za_callVi o [.int x40] (ctX8_left l G hq x40  m26 _ hf) zc8 hq mwX8_left wmX8_76 wiX8_left wsX8_left rfl ⟨Nat.le_of_ble_eq_true rfl, Nat.le_of_ble_eq_true rfl⟩ rfl (Nat.le_of_ble_eq_true rfl) dX8_comes_65 (fun r41 m42 hf => ?_)
          refine za_if_le o 75 dX8_comes_68 (by decide) (fun c43 => ?_) (fun c43 => ?_)
          · replace hf := hf.1 c43
            refine za_iconst (v := (0 : Int32)) o dX8_comes_75 (by decide) ?_
            refine za_sub [2, 3, 1, 0] rfl ?_
            exact tX8_comes_76 o hq  a1 r25 x40 (0 : Int32) m42  hf
          · replace hf := hf.2 c43
            refine za_iconst (v := (1 : Int32)) o dX8_comes_71 (by decide) ?_
            refine za_goto o 76 dX8_comes_72 (by decide) ?_
            refine za_sub [2, 3, 1, 0] rfl ?_
            exact tX8_comes_76 o hq  a1 r25 x40 (1 : Int32) m42  hf
        · replace hf := hf.2 c36
          refine za_sub [] rfl ?_
          exact tX8_comes_49 o hq   m26  hf
  · replace hf := hf.2 c24
    refine za_iconst (v := (-1 : Int32)) o dX8_comes_8 (by decide) ?_
    exact za_iret o rfl hf dX8_comes_9
def fX8_buys_15  (K : Int32 → zMem → Prop) (q : Nat)  (μ : zMem) : Prop :=
  K (-1 : Int32) μ
def fX8_buys_109  (K : Int32 → zMem → Prop) (q : Nat)  (μ : zMem) : Prop :=
  K (-5 : Int32) μ
def fX8_buys_89  (K : Int32 → zMem → Prop) (q : Nat) (v1 : Int32) (v2 : Int32) (v3 : Int32) (v4 : Int32) (v5 : Int32) (μ : zMem) : Prop :=
  ((v5 = 0 → fX8_buys_109  K q  μ) ∧ (¬ v5 = 0 → fX8_left q v2 μ (fun r2 m3 => fX8_awaited q v2 m3 (fun r4 m5 => ((r4 < r2 → (∀ x7 : Int32, x7 = (v3 + (0 : Int32)) → (vp_in x7 276 ∧ (∀ x9 : Int32, x9 = (m5 530 x7.toNatClampNeg) → (∀ x10 : Int32, x10 = (x9 - v4) → (vp_in x7 276 ∧ (∀ m12 : zMem, m12 = z_up m5 530 x7.toNatClampNeg x10 → (∀ x13 : Int32, x13 = (v3 + (15 : Int32)) → (vp_in x13 276 ∧ (∀ m15 : zMem, m15 = z_up m12 530 x13.toNatClampNeg (1 : Int32) → fX8_eats q v1 v2 m15 (fun m17 => (∀ x18 : Int32, x18 = (v3 + (0 : Int32)) → (vp_in x18 276 ∧ (∀ x20 : Int32, x20 = (m17 530 x18.toNatClampNeg) → K x20 m17)))))))))))))) ∧ (¬ r4 < r2 → fX8_buys_109  K q  m5))))))
def fX8_buys_88  (K : Int32 → zMem → Prop) (q : Nat) (v1 : Int32) (v2 : Int32) (v3 : Int32) (v4 : Int32) (μ : zMem) : Prop :=
  fX8_buys_89  K q v1 v2 v3 v4 (0 : Int32) μ
def fX8_buys (q : Nat) (a1 : Int32) (a2 : Int32) (μ : zMem) (K : Int32 → zMem → Prop) : Prop :=
  fX8_isPerson q a1 μ (fun r21 m22 => ((r21 = 0 → fX8_buys_15  K q  m22) ∧ (¬ r21 = 0 → fX8_isDish a2 m22 (fun r24 m25 => ((¬ r24 = 0 → fX8_p a1 m25 (fun r27 m28 => (∀ x29 : Int32, x29 = (m28 530 4) → fX8_priceOn q x29 a2 m28 (fun r30 m31 => (∀ x32 : Int32, x32 = (r30 + (1 : Int32)) → (∀ x33 : Int32, x33 = (m31 530 6) → ((¬ x33 = (1 : Int32) → fX8_buys_88  K q a1 a2 r27 x32 m31) ∧ (x33 = (1 : Int32) → (∀ x35 : Int32, x35 = (r27 + (1 : Int32)) → (vp_in x35 276 ∧ (∀ x37 : Int32, x37 = (m31 530 x35.toNatClampNeg) → ((¬ x37 = 0 → fX8_buys_88  K q a1 a2 r27 x32 m31) ∧ (x37 = 0 → (∀ x39 : Int32, x39 = (r27 + (15 : Int32)) → (vp_in x39 276 ∧ (∀ x41 : Int32, x41 = (m31 530 x39.toNatClampNeg) → ((¬ x41 = 0 → fX8_buys_88  K q a1 a2 r27 x32 m31) ∧ (x41 = 0 → (∀ x43 : Int32, x43 = (r27 + (0 : Int32)) → (vp_in x43 276 ∧ (∀ x45 : Int32, x45 = (m31 530 x43.toNatClampNeg) → ((x45 < x32 → fX8_buys_88  K q a1 a2 r27 x32 m31) ∧ (¬ x45 < x32 → fX8_buys_89  K q a1 a2 r27 x32 (1 : Int32) m31))))))))))))))))))))))) ∧ (r24 = 0 → fX8_buys_15  K q  m25))))))
set_option maxRecDepth 100000 in
set_option maxHeartbeats 4000000 in
theorem tX8_buys_15 {p : Program} {l : Launch} {e : Env} {s : State} {m : MethodId} {args : Array Value} {below : List Frame} {meth : Method} {c : Code} {G : zG}  {K : Int32 → zMem → Prop} (o : za_Ok (z_rm 3 66) 0 0 p s m args meth c G RX8 cX8_buys 6 (some .int)) {q : Nat} (hq : z_is q 8)   (μ : zMem)  (hf : fX8_buys_15  K q  μ) : za_At p l e (z_rm 3 66) s m args below meth c (MQ below (zQi G K) args s 0 0 (zA G)) G 6 0 0 15 [] [] μ := by
  unfold fX8_buys_15 at hf
  refine za_iconst (v := (-1 : Int32)) o dX8_buys_15 (by decide) ?_
  exact za_iret o rfl hf dX8_buys_16
set_option maxRecDepth 100000 in
set_option maxHeartbeats 4000000 in
theorem tX8_buys_109 {p : Program} {l : Launch} {e : Env} {s : State} {m : MethodId} {args : Array Value} {below : List Frame} {meth : Method} {c : Code} {G : zG}  {K : Int32 → zMem → Prop} (o : za_Ok (z_rm 3 66) 0 0 p s m args meth c G RX8 cX8_buys 6 (some .int)) {q : Nat} (hq : z_is q 8)   (μ : zMem)  (hf : fX8_buys_109  K q  μ) : za_At p l e (z_rm 3 66) s m args below meth c (MQ below (zQi G K) args s 0 0 (zA G)) G 6 0 0 109 [] [] μ := by
  unfold fX8_buys_109 at hf
  refine za_bipush (v := (-5 : Int32)) o dX8_buys_109 (by decide) ?_
  exact za_iret o rfl hf dX8_buys_111
set_option maxRecDepth 100000 in
set_option maxHeartbeats 4000000 in
theorem tX8_buys_89 {p : Program} {l : Launch} {e : Env} {s : State} {m : MethodId} {args : Array Value} {below : List Frame} {meth : Method} {c : Code} {G : zG}  {K : Int32 → zMem → Prop} (o : za_Ok (z_rm 3 66) 0 0 p s m args meth c G RX8 cX8_buys 6 (some .int)) {q : Nat} (hq : z_is q 8)  (v1 : Int32) (v2 : Int32) (v3 : Int32) (v4 : Int32) (v5 : Int32) (μ : zMem)  (hf : fX8_buys_89  K q v1 v2 v3 v4 v5 μ) : za_At p l e (z_rm 3 66) s m args below meth c (MQ below (zQi G K) args s 0 0 (zA G)) G 6 0 0 89 [(0, .ref (G.2.2 + q)), (1, .int v1), (2, .int v2), (3, .int v3), (4, .int v4)] [.int v5] μ := by
  unfold fX8_buys_89 at hf
  refine za_istore o [(5, .int v5), (0, .ref (G.2.2 + q)), (1, .int v1), (2, .int v2), (3, .int v3), (4, .int v4)] dX8_buys_89 (by decide) rfl ?_
  refine za_iload o 0 dX8_buys_91 rfl ?_
  refine za_if_eq o 109 dX8_buys_93 (by decide) (fun c1 => ?_) (fun c1 => ?_)
  · replace hf := hf.1 c1
    refine za_sub [] rfl ?_
    exact tX8_buys_109 o hq   μ  hf
  · replace hf := hf.2 c1
    refine za_aload_n o 1 dX8_buys_96 rfl rfl ?_
    refine za_iload_n o 3 dX8_buys_97 rfl rfl ?_
    refine za_callVi o [.int v2] (ctX8_left l G hq v2  μ _ hf) zc8 hq mwX8_left wmX8_76 wiX8_left wsX8_left rfl ⟨Nat.le_of_ble_eq_true rfl, Nat.le_of_ble_eq_true rfl⟩ rfl (Nat.le_of_ble_eq_true rfl) dX8_buys_98 (fun r2 m3 hf => ?_)
    refine za_aload_n o 1 dX8_buys_101 rfl rfl ?_
    refine za_iload_n o 3 dX8_buys_102 rfl rfl ?_
    refine za_callVi o [.int v2] (ctX8_awaited l G hq v2  m3 _ hf) zc8 hq mwX8_awaited wmX8_82 wiX8_awaited wsX8_awaited rfl ⟨Nat.le_of_ble_eq_true rfl, Nat.le_of_ble_eq_true rfl⟩ rfl (Nat.le_of_ble_eq_true rfl) dX8_buys_103 (fun r4 m5 hf => ?_)
    refine za_icmp_gt o 112 dX8_buys_106 (by decide) (fun c6 => ?_) (fun c6 => ?_)
    · replace hf := hf.1 c6
      refine za_aload_n o 1 dX8_buys_112 rfl rfl ?_
      refine za_getf o 0 zc8 hq (Nat.le_of_ble_eq_true rfl) wfX8_7 rfl dX8_buys_113 ?_
      refine za_iload_n o 4 dX8_buys_116 rfl rfl ?_
      refine za_iconst (v := (0 : Int32)) o dX8_buys_117 (by decide) ?_
      refine za_iadd o dX8_buys_118 ?_
      refine za_topi (fun x7 ex7 => ?_)
      replace hf := hf x7 ex7
      refine za_dup2 o dX8_buys_119 rfl rfl ?_
      obtain ⟨g8, hf⟩ := hf
      refine za_iald o zk_m0 rfl g8 dX8_buys_120 ?_
      refine za_topi (fun x9 ex9 => ?_)
      replace hf := hf x9 ex9
      refine za_iload o 5 dX8_buys_121 rfl ?_
      refine za_isub o dX8_buys_123 ?_
      refine za_topi (fun x10 ex10 => ?_)
      replace hf := hf x10 ex10
      obtain ⟨g11, hf⟩ := hf
      refine za_iast o zk_m0 rfl g11 dX8_buys_124 ?_
      refine za_mem (fun m12 em12 => ?_)
      replace hf := hf m12 em12
      refine za_aload_n o 1 dX8_buys_125 rfl rfl ?_
      refine za_getf o 0 zc8 hq (Nat.le_of_ble_eq_true rfl) wfX8_7 rfl dX8_buys_126 ?_
      refine za_iload_n o 4 dX8_buys_129 rfl rfl ?_
      refine za_bipush (v := (15 : Int32)) o dX8_buys_130 (by decide) ?_
      refine za_iadd o dX8_buys_132 ?_
      refine za_topi (fun x13 ex13 => ?_)
      replace hf := hf x13 ex13
      refine za_iconst (v := (1 : Int32)) o dX8_buys_133 (by decide) ?_
      obtain ⟨g14, hf⟩ := hf
      refine za_iast o zk_m0 rfl g14 dX8_buys_134 ?_
      refine za_mem (fun m15 em15 => ?_)
      replace hf := hf m15 em15
      refine za_aload_n o 1 dX8_buys_135 rfl rfl ?_
      refine za_iload_n o 2 dX8_buys_136 rfl rfl ?_
      refine za_iload_n o 3 dX8_buys_137 rfl rfl ?_
      refine za_callVv o [.int v1, .int v2] (ctX8_eats l G hq v1 v2  m15 _ hf) zc8 hq mwX8_eats wmX8_79 wiX8_eats wsX8_eats rfl ⟨Nat.le_of_ble_eq_true rfl, Nat.le_of_ble_eq_true rfl⟩ rfl (Nat.le_of_ble_eq_true rfl) dX8_buys_138 (fun m17 hf => ?_)
      refine za_aload_n o 1 dX8_buys_141 rfl rfl ?_
      refine za_getf o 0 zc8 hq (Nat.le_of_ble_eq_true rfl) wfX8_7 rfl dX8_buys_142 ?_
      refine za_iload_n o 4 dX8_buys_145 rfl rfl ?_
      refine za_iconst (v := (0 : Int32)) o dX8_buys_146 (by decide) ?_
      refine za_iadd o dX8_buys_147 ?_
      refine za_topi (fun x18 ex18 => ?_)
      replace hf := hf x18 ex18
      obtain ⟨g19, hf⟩ := hf
      refine za_iald o zk_m0 rfl g19 dX8_buys_148 ?_
      refine za_topi (fun x20 ex20 => ?_)
      replace hf := hf x20 ex20
      exact za_iret o rfl hf dX8_buys_149
    · replace hf := hf.2 c6
      refine za_sub [] rfl ?_
      exact tX8_buys_109 o hq   m5  hf
set_option maxRecDepth 100000 in
set_option maxHeartbeats 4000000 in
theorem tX8_buys_88 {p : Program} {l : Launch} {e : Env} {s : State} {m : MethodId} {args : Array Value} {below : List Frame} {meth : Method} {c : Code} {G : zG}  {K : Int32 → zMem → Prop} (o : za_Ok (z_rm 3 66) 0 0 p s m args meth c G RX8 cX8_buys 6 (some .int)) {q : Nat} (hq : z_is q 8)  (v1 : Int32) (v2 : Int32) (v3 : Int32) (v4 : Int32) (μ : zMem)  (hf : fX8_buys_88  K q v1 v2 v3 v4 μ) : za_At p l e (z_rm 3 66) s m args below meth c (MQ below (zQi G K) args s 0 0 (zA G)) G 6 0 0 88 [(0, .ref (G.2.2 + q)), (1, .int v1), (2, .int v2), (3, .int v3), (4, .int v4)] [] μ := by
  unfold fX8_buys_88 at hf
  refine za_iconst (v := (0 : Int32)) o dX8_buys_88 (by decide) ?_
  exact tX8_buys_89 o hq  v1 v2 v3 v4 (0 : Int32) μ  hf
set_option maxRecDepth 100000 in
set_option maxHeartbeats 4000000 in
theorem ctX8_buys (l : Launch) (G : zG) {q : Nat} (hq : z_is q 8) (a1 : Int32) (a2 : Int32)  (μ : zMem) (K : Int32 → zMem → Prop) (hf : fX8_buys q a1 a2 μ K) : z_Met l G yX8_buys cX8_buys 6 (some .int) (z_rm 3 66) [.ref (G.2.2 + q), .int a1, .int a2] μ K := by
  refine z_body (by decide) (Nat.le_of_ble_eq_true rfl) (fun p e s m args below meth c o => ?_)
  have o : za_Ok (z_rm 3 66) 0 0 p s m args meth c G RX8 cX8_buys 6 (some .int) := o
  show za_At p l e (z_rm 3 66) s m args below meth c (MQ below (zQi G K) args s 0 0 (zA G)) G 6 0 0 0 [(0, .ref (G.2.2 + q)), (1, .int a1), (2, .int a2)] [] μ
  unfold fX8_buys at hf
  refine za_aload_n o 0 dX8_buys_0 rfl rfl ?_
  refine za_iload_n o 1 dX8_buys_1 rfl rfl ?_
  refine za_callVi o [.int a1] (ctX8_isPerson l G hq a1  μ _ hf) zc8 hq mwX8_isPerson wmX8_54 wiX8_isPerson wsX8_isPerson rfl ⟨Nat.le_of_ble_eq_true rfl, Nat.le_of_ble_eq_true rfl⟩ rfl (Nat.le_of_ble_eq_true rfl) dX8_buys_2 (fun r21 m22 hf => ?_)
  refine za_if_eq o 15 dX8_buys_5 (by decide) (fun c23 => ?_) (fun c23 => ?_)
  · replace hf := hf.1 c23
    refine za_sub [] rfl ?_
    exact tX8_buys_15 o hq   m22  hf
  · replace hf := hf.2 c23
    refine za_iload_n o 2 dX8_buys_8 rfl rfl ?_
    refine za_callSi o [.int a2] (ctX8_isDish l G a2  m22 _ hf) mwX8_isDish wmX8_66 wtX8_isDish rfl ⟨Nat.le_of_ble_eq_true rfl, Nat.le_of_ble_eq_true rfl⟩ rfl (Nat.le_of_ble_eq_true rfl) dX8_buys_9 (fun r24 m25 hf => ?_)
    refine za_if_ne o 17 dX8_buys_12 (by decide) (fun c26 => ?_) (fun c26 => ?_)
    · replace hf := hf.1 c26
      refine za_iload_n o 1 dX8_buys_17 rfl rfl ?_
      refine za_callSi o [.int a1] (ctX8_p l G a1  m25 _ hf) mwX8_p wmX8_41 wtX8_p rfl ⟨Nat.le_of_ble_eq_true rfl, Nat.le_of_ble_eq_true rfl⟩ rfl (Nat.le_of_ble_eq_true rfl) dX8_buys_18 (fun r27 m28 hf => ?_)
      refine za_istore_n o [(3, .int r27), (0, .ref (G.2.2 + q)), (1, .int a1), (2, .int a2)] dX8_buys_21 rfl (by decide) rfl ?_
      refine za_aload_n o 1 dX8_buys_22 rfl rfl ?_
      refine za_aload_n o 1 dX8_buys_23 rfl rfl ?_
      refine za_getf o 0 zc8 hq (Nat.le_of_ble_eq_true rfl) wfX8_7 rfl dX8_buys_24 ?_
      refine za_iconst (v := (4 : Int32)) o dX8_buys_27 (by decide) ?_
      refine za_iald o zk_m0 rfl (by unfold vp_in; decide) dX8_buys_28 ?_
      refine za_topi (fun x29 ex29 => ?_)
      replace hf := hf x29 ex29
      refine za_iload_n o 3 dX8_buys_29 rfl rfl ?_
      refine za_callVi o [.int x29, .int a2] (ctX8_priceOn l G hq x29 a2  m28 _ hf) zc8 hq mwX8_priceOn wmX8_62 wiX8_priceOn wsX8_priceOn rfl ⟨Nat.le_of_ble_eq_true rfl, Nat.le_of_ble_eq_true rfl⟩ rfl (Nat.le_of_ble_eq_true rfl) dX8_buys_30 (fun r30 m31 hf => ?_)
      refine za_iconst (v := (1 : Int32)) o dX8_buys_33 (by decide) ?_
      refine za_iadd o dX8_buys_34 ?_
      refine za_topi (fun x32 ex32 => ?_)
      replace hf := hf x32 ex32
      refine za_istore o [(4, .int x32), (3, .int r27), (0, .ref (G.2.2 + q)), (1, .int a1), (2, .int a2)] dX8_buys_35 (by decide) rfl ?_
      refine za_aload_n o 2 dX8_buys_37 rfl rfl ?_
      refine za_getf o 0 zc8 hq (Nat.le_of_ble_eq_true rfl) wfX8_7 rfl dX8_buys_38 ?_
      refine za_bipush (v := (6 : Int32)) o dX8_buys_41 (by decide) ?_
      refine za_iald o zk_m0 rfl (by unfold vp_in; decide) dX8_buys_43 ?_
      refine za_topi (fun x33 ex33 => ?_)
      replace hf := hf x33 ex33
      refine za_iconst (v := (1 : Int32)) o dX8_buys_44 (by decide) ?_
      refine za_icmp_ne o 88 dX8_buys_45 (by decide) (fun c34 => ?_) (fun c34 => ?_)
      · replace hf := hf.1 c34
        refine za_sub [2, 3, 4, 1, 0] rfl ?_
        exact tX8_buys_88 o hq  a1 a2 r27 x32 m31  hf
      · replace hf := hf.2 c34
        refine za_aload_n o 2 dX8_buys_48 rfl rfl ?_
        refine za_getf o 0 zc8 hq (Nat.le_of_ble_eq_true rfl) wfX8_7 rfl dX8_buys_49 ?_
        refine za_iload_n o 1 dX8_buys_52 rfl rfl ?_
        refine za_iconst (v := (1 : Int32)) o dX8_buys_53 (by decide) ?_
        refine za_iadd o dX8_buys_54 ?_
        refine za_topi (fun x35 ex35 => ?_)
        replace hf := hf x35 ex35
        obtain ⟨g36, hf⟩ := hf
        refine za_iald o zk_m0 rfl g36 dX8_buys_55 ?_
        refine za_topi (fun x37 ex37 => ?_)
        replace hf := hf x37 ex37
        refine za_if_ne o 88 dX8_buys_56 (by decide) (fun c38 => ?_) (fun c38 => ?_)
        · replace hf := hf.1 c38
          refine za_sub [2, 3, 4, 1, 0] rfl ?_
          exact tX8_buys_88 o hq  a1 a2 r27 x32 m31  hf
        · replace hf := hf.2 c38
          refine za_aload_n o 2 dX8_buys_59 rfl rfl ?_
          refine za_getf o 0 zc8 hq (Nat.le_of_ble_eq_true rfl) wfX8_7 rfl dX8_buys_60 ?_
          refine za_iload_n o 1 dX8_buys_63 rfl rfl ?_
          refine za_bipush (v := (15 : Int32)) o dX8_buys_64 (by decide) ?_
          refine za_iadd o dX8_buys_66 ?_
          refine za_topi (fun x39 ex39 => ?_)
          replace hf := hf x39 ex39
          obtain ⟨g40, hf⟩ := hf
          refine za_iald o zk_m0 rfl g40 dX8_buys_67 ?_
          refine za_topi (fun x41 ex41 => ?_)
          replace hf := hf x41 ex41
          refine za_if_ne o 88 dX8_buys_68 (by decide) (fun c42 => ?_) (fun c42 => ?_)
          · replace hf := hf.1 c42
            refine za_sub [2, 3, 4, 1, 0] rfl ?_
            exact tX8_buys_88 o hq  a1 a2 r27 x32 m31  hf
          · replace hf := hf.2 c42
            refine za_aload_n o 2 dX8_buys_71 rfl rfl ?_
            refine za_getf o 0 zc8 hq (Nat.le_of_ble_eq_true rfl) wfX8_7 rfl dX8_buys_72 ?_
            refine za_iload_n o 1 dX8_buys_75 rfl rfl ?_
            refine za_iconst (v := (0 : Int32)) o dX8_buys_76 (by decide) ?_
            refine za_iadd o dX8_buys_77 ?_
            refine za_topi (fun x43 ex43 => ?_)
            replace hf := hf x43 ex43
            obtain ⟨g44, hf⟩ := hf
            refine za_iald o zk_m0 rfl g44 dX8_buys_78 ?_
            refine za_topi (fun x45 ex45 => ?_)
            replace hf := hf x45 ex45
            refine za_iload o 0 dX8_buys_79 rfl ?_
            refine za_icmp_lt o 88 dX8_buys_81 (by decide) (fun c46 => ?_) (fun c46 => ?_)
            · replace hf := hf.1 c46
              refine za_sub [2, 3, 4, 1, 0] rfl ?_
              exact tX8_buys_88 o hq  a1 a2 r27 x32 m31  hf
            · replace hf := hf.2 c46
              refine za_iconst (v := (1 : Int32)) o dX8_buys_84 (by decide) ?_
              refine za_goto o 89 dX8_buys_85 (by decide) ?_
              refine za_sub [2, 3, 4, 1, 0] rfl ?_
              exact tX8_buys_89 o hq  a1 a2 r27 x32 (1 : Int32) m31  hf
    · replace hf := hf.2 c26
      refine za_sub [] rfl ?_
      exact tX8_buys_15 o hq   m25  hf
def fX8_endsFor_115b (k115 : Int32 → Int32 → Int32 → zMem → Prop) (K : Int32 → zMem → Prop) (q : Nat) (v1 : Int32) (v2 : Int32) (v3 : Int32) (μ : zMem) : Prop :=
  (((4 : Int32) ≤ v3 → (∀ x2 : Int32, x2 = (v1 + (1 : Int32)) → (∀ x3 : Int32, x3 = (x2 + (4 : Int32)) → (vp_in x3 276 ∧ (∀ m5 : zMem, m5 = z_up μ 530 x3.toNatClampNeg (0 : Int32) → (∀ x6 : Int32, x6 = (v1 + (6 : Int32)) → (∀ x7 : Int32, x7 = (x6 + (4 : Int32)) → (vp_in x7 276 ∧ (∀ m9 : zMem, m9 = z_up m5 530 x7.toNatClampNeg (0 : Int32) → (∀ x10 : Int32, x10 = (v1 + (15 : Int32)) → (vp_in x10 276 ∧ (∀ m12 : zMem, m12 = z_up m9 530 x10.toNatClampNeg (0 : Int32) → K v2 m12)))))))))))) ∧ (¬ (4 : Int32) ≤ v3 → (∀ x13 : Int32, x13 = (v1 + (1 : Int32)) → (∀ x14 : Int32, x14 = (x13 + v3) → (∀ x15 : Int32, x15 = (v1 + (1 : Int32)) → (∀ x16 : Int32, x16 = (x15 + v3) → (∀ x17 : Int32, x17 = (x16 + (1 : Int32)) → (vp_in x17 276 ∧ (∀ x19 : Int32, x19 = (μ 530 x17.toNatClampNeg) → (vp_in x14 276 ∧ (∀ m21 : zMem, m21 = z_up μ 530 x14.toNatClampNeg x19 → (∀ x22 : Int32, x22 = (v1 + (6 : Int32)) → (∀ x23 : Int32, x23 = (x22 + v3) → (∀ x24 : Int32, x24 = (v1 + (6 : Int32)) → (∀ x25 : Int32, x25 = (x24 + v3) → (∀ x26 : Int32, x26 = (x25 + (1 : Int32)) → (vp_in x26 276 ∧ (∀ x28 : Int32, x28 = (m21 530 x26.toNatClampNeg) → (vp_in x23 276 ∧ (∀ m30 : zMem, m30 = z_up m21 530 x23.toNatClampNeg x28 → (∀ x31 : Int32, x31 = v3 + (1 : Int32) → k115 v1 v2 x31 m30)))))))))))))))))))))
def fX8_endsFor_115  (K : Int32 → zMem → Prop) (q : Nat) (n : Nat) : Int32 → Int32 → Int32 → zMem → Prop := z_it (fun k => fX8_endsFor_115b  k K q ) (fun _ _ _ _ => False) n
def fX8_endsFor_112  (K : Int32 → zMem → Prop) (q : Nat) (v1 : Int32) (v2 : Int32) (μ : zMem) : Prop :=
  fX8_endsFor_115  K q zFU v1 v2 (0 : Int32) μ
def fX8_endsFor_33  (K : Int32 → zMem → Prop) (q : Nat) (v1 : Int32) (v2 : Int32) (μ : zMem) : Prop :=
  (∀ x32 : Int32, x32 = (v1 + (14 : Int32)) → (vp_in x32 276 ∧ (∀ x34 : Int32, x34 = (μ 530 x32.toNatClampNeg) → (∀ x35 : Int32, x35 = (x34 + v2) → (vp_in x32 276 ∧ (∀ m37 : zMem, m37 = z_up μ 530 x32.toNatClampNeg x35 → (∀ x38 : Int32, x38 = (v1 + (11 : Int32)) → (vp_in x38 276 ∧ (∀ x40 : Int32, x40 = (m37 530 x38.toNatClampNeg) → (∀ x41 : Int32, x41 = (x40 + v2) → (vp_in x38 276 ∧ (∀ m43 : zMem, m43 = z_up m37 530 x38.toNatClampNeg x41 → (∀ x44 : Int32, x44 = (v1 + (11 : Int32)) → (vp_in x44 276 ∧ (∀ x46 : Int32, x46 = (m43 530 x44.toNatClampNeg) → (∀ x47 : Int32, x47 = (m43 530 2) → ((x46 < x47 → fX8_endsFor_112  K q v1 v2 m43) ∧ (¬ x46 < x47 → (∀ x49 : Int32, x49 = (v1 + (11 : Int32)) → (vp_in x49 276 ∧ (∀ m51 : zMem, m51 = z_up m43 530 x49.toNatClampNeg (0 : Int32) → (∀ x52 : Int32, x52 = (v1 + (12 : Int32)) → (∀ x53 : Int32, x53 = (m51 530 4) → (∀ x54 : Int32, x54 = (m51 530 3) → (∀ x55 : Int32, x55 = (x53 + x54) → (∀ x56 : Int32, x56 = (x55 + (1 : Int32)) → (vp_in x52 276 ∧ (∀ m58 : zMem, m58 = z_up m51 530 x52.toNatClampNeg x56 → fX8_endsFor_112  K q v1 v2 m58))))))))))))))))))))))))))))
def fX8_endsFor_32  (K : Int32 → zMem → Prop) (q : Nat) (v1 : Int32) (μ : zMem) : Prop :=
  fX8_endsFor_33  K q v1 (0 : Int32) μ
def fX8_endsFor (q : Nat) (a1 : Int32) (μ : zMem) (K : Int32 → zMem → Prop) : Prop :=
  fX8_p a1 μ (fun r59 m60 => (∀ x61 : Int32, x61 = (r59 + (1 : Int32)) → (vp_in x61 276 ∧ (∀ x63 : Int32, x63 = (m60 530 x61.toNatClampNeg) → ((x63 ≤ 0 → fX8_endsFor_32  K q r59 m60) ∧ (¬ x63 ≤ 0 → (∀ x65 : Int32, x65 = (r59 + (15 : Int32)) → (vp_in x65 276 ∧ (∀ x67 : Int32, x67 = (m60 530 x65.toNatClampNeg) → ((¬ x67 = 0 → fX8_endsFor_32  K q r59 m60) ∧ (x67 = 0 → fX8_endsFor_33  K q r59 (1 : Int32) m60)))))))))))
set_option maxRecDepth 100000 in
set_option maxHeartbeats 4000000 in
theorem tX8_endsFor_115b {p : Program} {l : Launch} {e : Env} {s : State} {m : MethodId} {args : Array Value} {below : List Frame} {meth : Method} {c : Code} {G : zG} {k115 : Int32 → Int32 → Int32 → zMem → Prop} {K : Int32 → zMem → Prop} (o : za_Ok (z_rm 1 20) 0 0 p s m args meth c G RX8 cX8_endsFor 5 (some .int)) {q : Nat} (hq : z_is q 8) (hk115 : ∀ (v1 : Int32) (v2 : Int32) (v3 : Int32) (μ : zMem), k115 v1 v2 v3 μ → za_At p l e (z_rm 1 20) s m args below meth c (MQ below (zQi G K) args s 0 0 (zA G)) G 5 0 0 115 [(0, .ref (G.2.2 + q)), (2, .int v1), (3, .int v2), (4, .int v3)] [] μ) (v1 : Int32) (v2 : Int32) (v3 : Int32) (μ : zMem)  (hf : fX8_endsFor_115b k115 K q v1 v2 v3 μ) : za_At p l e (z_rm 1 20) s m args below meth c (MQ below (zQi G K) args s 0 0 (zA G)) G 5 0 0 115 [(0, .ref (G.2.2 + q)), (2, .int v1), (3, .int v2), (4, .int v3)] [] μ := by
  unfold fX8_endsFor_115b at hf
  refine za_iload o 3 dX8_endsFor_115 rfl ?_
  refine za_iconst (v := (4 : Int32)) o dX8_endsFor_117 (by decide) ?_
  refine za_icmp_ge o 177 dX8_endsFor_118 (by decide) (fun c1 => ?_) (fun c1 => ?_)
  · replace hf := hf.1 c1
    refine za_aload_n o 0 dX8_endsFor_177 rfl rfl ?_
    refine za_getf o 0 zc8 hq (Nat.le_of_ble_eq_true rfl) wfX8_7 rfl dX8_endsFor_178 ?_
    refine za_iload_n o 1 dX8_endsFor_181 rfl rfl ?_
    refine za_iconst (v := (1 : Int32)) o dX8_endsFor_182 (by decide) ?_
    refine za_iadd o dX8_endsFor_183 ?_
    refine za_topi (fun x2 ex2 => ?_)
    replace hf := hf x2 ex2
    refine za_iconst (v := (4 : Int32)) o dX8_endsFor_184 (by decide) ?_
    refine za_iadd o dX8_endsFor_185 ?_
    refine za_topi (fun x3 ex3 => ?_)
    replace hf := hf x3 ex3
    refine za_iconst (v := (0 : Int32)) o dX8_endsFor_186 (by decide) ?_
    obtain ⟨g4, hf⟩ := hf
    refine za_iast o zk_m0 rfl g4 dX8_endsFor_187 ?_
    refine za_mem (fun m5 em5 => ?_)
    replace hf := hf m5 em5
    refine za_aload_n o 0 dX8_endsFor_188 rfl rfl ?_
    refine za_getf o 0 zc8 hq (Nat.le_of_ble_eq_true rfl) wfX8_7 rfl dX8_endsFor_189 ?_
    refine za_iload_n o 1 dX8_endsFor_192 rfl rfl ?_
    refine za_bipush (v := (6 : Int32)) o dX8_endsFor_193 (by decide) ?_
    refine za_iadd o dX8_endsFor_195 ?_
    refine za_topi (fun x6 ex6 => ?_)
    replace hf := hf x6 ex6
    refine za_iconst (v := (4 : Int32)) o dX8_endsFor_196 (by decide) ?_
    refine za_iadd o dX8_endsFor_197 ?_
    refine za_topi (fun x7 ex7 => ?_)
    replace hf := hf x7 ex7
    refine za_iconst (v := (0 : Int32)) o dX8_endsFor_198 (by decide) ?_
    obtain ⟨g8, hf⟩ := hf
    refine za_iast o zk_m0 rfl g8 dX8_endsFor_199 ?_
    refine za_mem (fun m9 em9 => ?_)
    replace hf := hf m9 em9
    refine za_aload_n o 0 dX8_endsFor_200 rfl rfl ?_
    refine za_getf o 0 zc8 hq (Nat.le_of_ble_eq_true rfl) wfX8_7 rfl dX8_endsFor_201 ?_
    refine za_iload_n o 1 dX8_endsFor_204 rfl rfl ?_
    refine za_bipush (v := (15 : Int32)) o dX8_endsFor_205 (by decide) ?_
    refine za_iadd o dX8_endsFor_207 ?_
    refine za_topi (fun x10 ex10 => ?_)
    replace hf := hf x10 ex10
    refine za_iconst (v := (0 : Int32)) o dX8_endsFor_208 (by decide) ?_
    obtain ⟨g11, hf⟩ := hf
    refine za_iast o zk_m0 rfl g11 dX8_endsFor_209 ?_
    refine za_mem (fun m12 em12 => ?_)
    replace hf := hf m12 em12
    refine za_iload_n o 2 dX8_endsFor_210 rfl rfl ?_
    exact za_iret o rfl hf dX8_endsFor_211
  · replace hf := hf.2 c1
    refine za_aload_n o 0 dX8_endsFor_121 rfl rfl ?_
    refine za_getf o 0 zc8 hq (Nat.le_of_ble_eq_true rfl) wfX8_7 rfl dX8_endsFor_122 ?_
    refine za_iload_n o 1 dX8_endsFor_125 rfl rfl ?_
    refine za_iconst (v := (1 : Int32)) o dX8_endsFor_126 (by decide) ?_
    refine za_iadd o dX8_endsFor_127 ?_
    refine za_topi (fun x13 ex13 => ?_)
    replace hf := hf x13 ex13
    refine za_iload o 3 dX8_endsFor_128 rfl ?_
    refine za_iadd o dX8_endsFor_130 ?_
    refine za_topi (fun x14 ex14 => ?_)
    replace hf := hf x14 ex14
    refine za_aload_n o 0 dX8_endsFor_131 rfl rfl ?_
    refine za_getf o 0 zc8 hq (Nat.le_of_ble_eq_true rfl) wfX8_7 rfl dX8_endsFor_132 ?_
    refine za_iload_n o 1 dX8_endsFor_135 rfl rfl ?_
    refine za_iconst (v := (1 : Int32)) o dX8_endsFor_136 (by decide) ?_
    refine za_iadd o dX8_endsFor_137 ?_
    refine za_topi (fun x15 ex15 => ?_)
    replace hf := hf x15 ex15
    refine za_iload o 3 dX8_endsFor_138 rfl ?_
    refine za_iadd o dX8_endsFor_140 ?_
    refine za_topi (fun x16 ex16 => ?_)
    replace hf := hf x16 ex16
    refine za_iconst (v := (1 : Int32)) o dX8_endsFor_141 (by decide) ?_
    refine za_iadd o dX8_endsFor_142 ?_
    refine za_topi (fun x17 ex17 => ?_)
    replace hf := hf x17 ex17
    obtain ⟨g18, hf⟩ := hf
    refine za_iald o zk_m0 rfl g18 dX8_endsFor_143 ?_
    refine za_topi (fun x19 ex19 => ?_)
    replace hf := hf x19 ex19
    obtain ⟨g20, hf⟩ := hf
    refine za_iast o zk_m0 rfl g20 dX8_endsFor_144 ?_
    refine za_mem (fun m21 em21 => ?_)
    replace hf := hf m21 em21
    refine za_aload_n o 0 dX8_endsFor_145 rfl rfl ?_
    refine za_getf o 0 zc8 hq (Nat.le_of_ble_eq_true rfl) wfX8_7 rfl dX8_endsFor_146 ?_
    refine za_iload_n o 1 dX8_endsFor_149 rfl rfl ?_
    refine za_bipush (v := (6 : Int32)) o dX8_endsFor_150 (by decide) ?_
    refine za_iadd o dX8_endsFor_152 ?_
    refine za_topi (fun x22 ex22 => ?_)
    replace hf := hf x22 ex22
    refine za_iload o 3 dX8_endsFor_153 rfl ?_
    refine za_iadd o dX8_endsFor_155 ?_
    refine za_topi (fun x23 ex23 => ?_)
    replace hf := hf x23 ex23
    refine za_aload_n o 0 dX8_endsFor_156 rfl rfl ?_
    refine za_getf o 0 zc8 hq (Nat.le_of_ble_eq_true rfl) wfX8_7 rfl dX8_endsFor_157 ?_
    refine za_iload_n o 1 dX8_endsFor_160 rfl rfl ?_
    refine za_bipush (v := (6 : Int32)) o dX8_endsFor_161 (by decide) ?_
    refine za_iadd o dX8_endsFor_163 ?_
    refine za_topi (fun x24 ex24 => ?_)
    replace hf := hf x24 ex24
    refine za_iload o 3 dX8_endsFor_164 rfl ?_
    refine za_iadd o dX8_endsFor_166 ?_
    refine za_topi (fun x25 ex25 => ?_)
    replace hf := hf x25 ex25
    refine za_iconst (v := (1 : Int32)) o dX8_endsFor_167 (by decide) ?_
    refine za_iadd o dX8_endsFor_168 ?_
    refine za_topi (fun x26 ex26 => ?_)
    replace hf := hf x26 ex26
    obtain ⟨g27, hf⟩ := hf
    refine za_iald o zk_m0 rfl g27 dX8_endsFor_169 ?_
    refine za_topi (fun x28 ex28 => ?_)
    replace hf := hf x28 ex28
    obtain ⟨g29, hf⟩ := hf
    refine za_iast o zk_m0 rfl g29 dX8_endsFor_170 ?_
    refine za_mem (fun m30 em30 => ?_)
    replace hf := hf m30 em30
    obtain ⟨x31, ex31⟩ : ∃ y : Int32, y = v3 + (1 : Int32) := ⟨_, rfl⟩
    replace hf := hf x31 ex31
    refine za_iinc o x31 3 [(4, .int x31), (0, .ref (G.2.2 + q)), (2, .int v1), (3, .int v2)] dX8_endsFor_171 rfl (by rw [ex31]; rfl) (by decide) rfl ?_
    refine za_goto o 115 dX8_endsFor_174 (by decide) ?_
    refine za_sub [1, 2, 3, 0] rfl ?_
    exact hk115 v1 v2 x31 m30  hf
theorem tX8_endsFor_115 {p : Program} {l : Launch} {e : Env} {s : State} {m : MethodId} {args : Array Value} {below : List Frame} {meth : Method} {c : Code} {G : zG}  {K : Int32 → zMem → Prop} (o : za_Ok (z_rm 1 20) 0 0 p s m args meth c G RX8 cX8_endsFor 5 (some .int)) {q : Nat} (hq : z_is q 8)  (n : Nat) : ∀ (v1 : Int32) (v2 : Int32) (v3 : Int32) (μ : zMem), fX8_endsFor_115  K q n v1 v2 v3 μ → za_At p l e (z_rm 1 20) s m args below meth c (MQ below (zQi G K) args s 0 0 (zA G)) G 5 0 0 115 [(0, .ref (G.2.2 + q)), (2, .int v1), (3, .int v2), (4, .int v3)] [] μ := by
  induction n with
  | zero => intro _ _ _ _ hf; exact hf.elim
  | succ n ih => intro v1 v2 v3 μ  hf; exact tX8_endsFor_115b o hq  ih v1 v2 v3 μ  hf
set_option maxRecDepth 100000 in
set_option maxHeartbeats 4000000 in
theorem tX8_endsFor_112 {p : Program} {l : Launch} {e : Env} {s : State} {m : MethodId} {args : Array Value} {below : List Frame} {meth : Method} {c : Code} {G : zG}  {K : Int32 → zMem → Prop} (o : za_Ok (z_rm 1 20) 0 0 p s m args meth c G RX8 cX8_endsFor 5 (some .int)) {q : Nat} (hq : z_is q 8)  (v1 : Int32) (v2 : Int32) (μ : zMem)  (hf : fX8_endsFor_112  K q v1 v2 μ) : za_At p l e (z_rm 1 20) s m args below meth c (MQ below (zQi G K) args s 0 0 (zA G)) G 5 0 0 112 [(0, .ref (G.2.2 + q)), (2, .int v1), (3, .int v2)] [] μ := by
  unfold fX8_endsFor_112 at hf
  refine za_iconst (v := (0 : Int32)) o dX8_endsFor_112 (by decide) ?_
  refine za_istore o [(4, .int (0 : Int32)), (0, .ref (G.2.2 + q)), (2, .int v1), (3, .int v2)] dX8_endsFor_113 (by decide) rfl ?_
  refine za_sub [1, 2, 3, 0] rfl ?_
  exact tX8_endsFor_115 o hq  zFU v1 v2 (0 : Int32) μ  hf
set_option maxRecDepth 100000 in
set_option maxHeartbeats 4000000 in
theorem tX8_endsFor_33 {p : Program} {l : Launch} {e : Env} {s : State} {m : MethodId} {args : Array Value} {below : List Frame} {meth : Method} {c : Code} {G : zG}  {K : Int32 → zMem → Prop} (o : za_Ok (z_rm 1 20) 0 0 p s m args meth c G RX8 cX8_endsFor 5 (some .int)) {q : Nat} (hq : z_is q 8)  (v1 : Int32) (v2 : Int32) (μ : zMem)  (hf : fX8_endsFor_33  K q v1 v2 μ) : za_At p l e (z_rm 1 20) s m args below meth c (MQ below (zQi G K) args s 0 0 (zA G)) G 5 0 0 33 [(0, .ref (G.2.2 + q)), (2, .int v1)] [.int v2] μ := by
  unfold fX8_endsFor_33 at hf
  refine za_istore_n o [(3, .int v2), (0, .ref (G.2.2 + q)), (2, .int v1)] dX8_endsFor_33 rfl (by decide) rfl ?_
  refine za_aload_n o 1 dX8_endsFor_34 rfl rfl ?_
  refine za_getf o 0 zc8 hq (Nat.le_of_ble_eq_true rfl) wfX8_7 rfl dX8_endsFor_35 ?_
  refine za_iload_n o 2 dX8_endsFor_38 rfl rfl ?_
  refine za_bipush (v := (14 : Int32)) o dX8_endsFor_39 (by decide) ?_
  refine za_iadd o dX8_endsFor_41 ?_
  refine za_topi (fun x32 ex32 => ?_)
  replace hf := hf x32 ex32
  refine za_dup2 o dX8_endsFor_42 rfl rfl ?_
  obtain ⟨g33, hf⟩ := hf
  refine za_iald o zk_m0 rfl g33 dX8_endsFor_43 ?_
  refine za_topi (fun x34 ex34 => ?_)
  replace hf := hf x34 ex34
  refine za_iload_n o 0 dX8_endsFor_44 rfl rfl ?_
  refine za_iadd o dX8_endsFor_45 ?_
  refine za_topi (fun x35 ex35 => ?_)
  replace hf := hf x35 ex35
  obtain ⟨g36, hf⟩ := hf
  refine za_iast o zk_m0 rfl g36 dX8_endsFor_46 ?_
  refine za_mem (fun m37 em37 => ?_)
  replace hf := hf m37 em37
  refine za_aload_n o 1 dX8_endsFor_47 rfl rfl ?_
  refine za_getf o 0 zc8 hq (Nat.le_of_ble_eq_true rfl) wfX8_7 rfl dX8_endsFor_48 ?_
  refine za_iload_n o 2 dX8_endsFor_51 rfl rfl ?_
  refine za_bipush (v := (11 : Int32)) o dX8_endsFor_52 (by decide) ?_
  refine za_iadd o dX8_endsFor_54 ?_
  refine za_topi (fun x38 ex38 => ?_)
  replace hf := hf x38 ex38
  refine za_dup2 o dX8_endsFor_55 rfl rfl ?_
  obtain ⟨g39, hf⟩ := hf
  refine za_iald o zk_m0 rfl g39 dX8_endsFor_56 ?_
  refine za_topi (fun x40 ex40 => ?_)
  replace hf := hf x40 ex40
  refine za_iload_n o 0 dX8_endsFor_57 rfl rfl ?_
  refine za_iadd o dX8_endsFor_58 ?_
  refine za_topi (fun x41 ex41 => ?_)
  replace hf := hf x41 ex41
  obtain ⟨g42, hf⟩ := hf
  refine za_iast o zk_m0 rfl g42 dX8_endsFor_59 ?_
  refine za_mem (fun m43 em43 => ?_)
  replace hf := hf m43 em43
  refine za_aload_n o 1 dX8_endsFor_60 rfl rfl ?_
  refine za_getf o 0 zc8 hq (Nat.le_of_ble_eq_true rfl) wfX8_7 rfl dX8_endsFor_61 ?_
  refine za_iload_n o 2 dX8_endsFor_64 rfl rfl ?_
  refine za_bipush (v := (11 : Int32)) o dX8_endsFor_65 (by decide) ?_
  refine za_iadd o dX8_endsFor_67 ?_
  refine za_topi (fun x44 ex44 => ?_)
  replace hf := hf x44 ex44
  obtain ⟨g45, hf⟩ := hf
  refine za_iald o zk_m0 rfl g45 dX8_endsFor_68 ?_
  refine za_topi (fun x46 ex46 => ?_)
  replace hf := hf x46 ex46
  refine za_aload_n o 1 dX8_endsFor_69 rfl rfl ?_
  refine za_getf o 0 zc8 hq (Nat.le_of_ble_eq_true rfl) wfX8_7 rfl dX8_endsFor_70 ?_
  refine za_iconst (v := (2 : Int32)) o dX8_endsFor_73 (by decide) ?_
  refine za_iald o zk_m0 rfl (by unfold vp_in; decide) dX8_endsFor_74 ?_
  refine za_topi (fun x47 ex47 => ?_)
  replace hf := hf x47 ex47
  refine za_icmp_lt o 112 dX8_endsFor_75 (by decide) (fun c48 => ?_) (fun c48 => ?_)
  · replace hf := hf.1 c48
    refine za_sub [1, 2, 0] rfl ?_
    exact tX8_endsFor_112 o hq  v1 v2 m43  hf
  · replace hf := hf.2 c48
    refine za_aload_n o 1 dX8_endsFor_78 rfl rfl ?_
    refine za_getf o 0 zc8 hq (Nat.le_of_ble_eq_true rfl) wfX8_7 rfl dX8_endsFor_79 ?_
    refine za_iload_n o 2 dX8_endsFor_82 rfl rfl ?_
    refine za_bipush (v := (11 : Int32)) o dX8_endsFor_83 (by decide) ?_
    refine za_iadd o dX8_endsFor_85 ?_
    refine za_topi (fun x49 ex49 => ?_)
    replace hf := hf x49 ex49
    refine za_iconst (v := (0 : Int32)) o dX8_endsFor_86 (by decide) ?_
    obtain ⟨g50, hf⟩ := hf
    refine za_iast o zk_m0 rfl g50 dX8_endsFor_87 ?_
    refine za_mem (fun m51 em51 => ?_)
    replace hf := hf m51 em51
    refine za_aload_n o 1 dX8_endsFor_88 rfl rfl ?_
    refine za_getf o 0 zc8 hq (Nat.le_of_ble_eq_true rfl) wfX8_7 rfl dX8_endsFor_89 ?_
    refine za_iload_n o 2 dX8_endsFor_92 rfl rfl ?_
    refine za_bipush (v := (12 : Int32)) o dX8_endsFor_93 (by decide) ?_
    refine za_iadd o dX8_endsFor_95 ?_
    refine za_topi (fun x52 ex52 => ?_)
    replace hf := hf x52 ex52
    refine za_aload_n o 1 dX8_endsFor_96 rfl rfl ?_
    refine za_getf o 0 zc8 hq (Nat.le_of_ble_eq_true rfl) wfX8_7 rfl dX8_endsFor_97 ?_
    refine za_iconst (v := (4 : Int32)) o dX8_endsFor_100 (by decide) ?_
    refine za_iald o zk_m0 rfl (by unfold vp_in; decide) dX8_endsFor_101 ?_
    refine za_topi (fun x53 ex53 => ?_)
    replace hf := hf x53 ex53
    refine za_aload_n o 1 dX8_endsFor_102 rfl rfl ?_
    refine za_getf o 0 zc8 hq (Nat.le_of_ble_eq_true rfl) wfX8_7 rfl dX8_endsFor_103 ?_
    refine za_iconst (v := (3 : Int32)) o dX8_endsFor_106 (by decide) ?_
    refine za_iald o zk_m0 rfl (by unfold vp_in; decide) dX8_endsFor_107 ?_
    refine za_topi (fun x54 ex54 => ?_)
    replace hf := hf x54 ex54
    refine za_iadd o dX8_endsFor_108 ?_
    refine za_topi (fun x55 ex55 => ?_)
    replace hf := hf x55 ex55
    refine za_iconst (v := (1 : Int32)) o dX8_endsFor_109 (by decide) ?_
    refine za_iadd o dX8_endsFor_110 ?_
    refine za_topi (fun x56 ex56 => ?_)
    replace hf := hf x56 ex56
    obtain ⟨g57, hf⟩ := hf
    refine za_iast o zk_m0 rfl g57 dX8_endsFor_111 ?_
    refine za_mem (fun m58 em58 => ?_)
    replace hf := hf m58 em58
    refine za_sub [1, 2, 0] rfl ?_
    exact tX8_endsFor_112 o hq  v1 v2 m58  hf
set_option maxRecDepth 100000 in
set_option maxHeartbeats 4000000 in
theorem tX8_endsFor_32 {p : Program} {l : Launch} {e : Env} {s : State} {m : MethodId} {args : Array Value} {below : List Frame} {meth : Method} {c : Code} {G : zG}  {K : Int32 → zMem → Prop} (o : za_Ok (z_rm 1 20) 0 0 p s m args meth c G RX8 cX8_endsFor 5 (some .int)) {q : Nat} (hq : z_is q 8)  (v1 : Int32) (μ : zMem)  (hf : fX8_endsFor_32  K q v1 μ) : za_At p l e (z_rm 1 20) s m args below meth c (MQ below (zQi G K) args s 0 0 (zA G)) G 5 0 0 32 [(0, .ref (G.2.2 + q)), (2, .int v1)] [] μ := by
  unfold fX8_endsFor_32 at hf
  refine za_iconst (v := (0 : Int32)) o dX8_endsFor_32 (by decide) ?_
  exact tX8_endsFor_33 o hq  v1 (0 : Int32) μ  hf
set_option maxRecDepth 100000 in
set_option maxHeartbeats 4000000 in
theorem ctX8_endsFor (l : Launch) (G : zG) {q : Nat} (hq : z_is q 8) (a1 : Int32)  (μ : zMem) (K : Int32 → zMem → Prop) (hf : fX8_endsFor q a1 μ K) : z_Met l G yX8_endsFor cX8_endsFor 5 (some .int) (z_rm 1 20) [.ref (G.2.2 + q), .int a1] μ K := by
  refine z_body (by decide) (Nat.le_of_ble_eq_true rfl) (fun p e s m args below meth c o => ?_)
  have o : za_Ok (z_rm 1 20) 0 0 p s m args meth c G RX8 cX8_endsFor 5 (some .int) := o
  show za_At p l e (z_rm 1 20) s m args below meth c (MQ below (zQi G K) args s 0 0 (zA G)) G 5 0 0 0 [(0, .ref (G.2.2 + q)), (1, .int a1)] [] μ
  unfold fX8_endsFor at hf
  refine za_iload_n o 1 dX8_endsFor_0 rfl rfl ?_
  refine za_callSi o [.int a1] (ctX8_p l G a1  μ _ hf) mwX8_p wmX8_41 wtX8_p rfl ⟨Nat.le_of_ble_eq_true rfl, Nat.le_of_ble_eq_true rfl⟩ rfl (Nat.le_of_ble_eq_true rfl) dX8_endsFor_1 (fun r59 m60 hf => ?_)
  refine za_istore_n o [(2, .int r59), (0, .ref (G.2.2 + q)), (1, .int a1)] dX8_endsFor_4 rfl (by decide) rfl ?_
  refine za_aload_n o 1 dX8_endsFor_5 rfl rfl ?_
  refine za_getf o 0 zc8 hq (Nat.le_of_ble_eq_true rfl) wfX8_7 rfl dX8_endsFor_6 ?_
  refine za_iload_n o 0 dX8_endsFor_9 rfl rfl ?_
  refine za_iconst (v := (1 : Int32)) o dX8_endsFor_10 (by decide) ?_
  refine za_iadd o dX8_endsFor_11 ?_
  refine za_topi (fun x61 ex61 => ?_)
  replace hf := hf x61 ex61
  obtain ⟨g62, hf⟩ := hf
  refine za_iald o zk_m0 rfl g62 dX8_endsFor_12 ?_
  refine za_topi (fun x63 ex63 => ?_)
  replace hf := hf x63 ex63
  refine za_if_le o 32 dX8_endsFor_13 (by decide) (fun c64 => ?_) (fun c64 => ?_)
  · replace hf := hf.1 c64
    refine za_sub [1, 0] rfl ?_
    exact tX8_endsFor_32 o hq  r59 m60  hf
  · replace hf := hf.2 c64
    refine za_aload_n o 1 dX8_endsFor_16 rfl rfl ?_
    refine za_getf o 0 zc8 hq (Nat.le_of_ble_eq_true rfl) wfX8_7 rfl dX8_endsFor_17 ?_
    refine za_iload_n o 0 dX8_endsFor_20 rfl rfl ?_
    refine za_bipush (v := (15 : Int32)) o dX8_endsFor_21 (by decide) ?_
    refine za_iadd o dX8_endsFor_23 ?_
    refine za_topi (fun x65 ex65 => ?_)
    replace hf := hf x65 ex65
    obtain ⟨g66, hf⟩ := hf
    refine za_iald o zk_m0 rfl g66 dX8_endsFor_24 ?_
    refine za_topi (fun x67 ex67 => ?_)
    replace hf := hf x67 ex67
    refine za_if_ne o 32 dX8_endsFor_25 (by decide) (fun c68 => ?_) (fun c68 => ?_)
    · replace hf := hf.1 c68
      refine za_sub [1, 0] rfl ?_
      exact tX8_endsFor_32 o hq  r59 m60  hf
    · replace hf := hf.2 c68
      refine za_iconst (v := (1 : Int32)) o dX8_endsFor_28 (by decide) ?_
      refine za_goto o 33 dX8_endsFor_29 (by decide) ?_
      refine za_sub [1, 0] rfl ?_
      exact tX8_endsFor_33 o hq  r59 (1 : Int32) m60  hf
