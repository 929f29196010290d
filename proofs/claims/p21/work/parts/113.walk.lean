/-! X8_put X8_wipe X8_fault X8_carryOut X8_undo X8_save X8_restore -/
def fX8_put_44  (K : Int32 → zMem → Prop) (q : Nat)  (μ : zMem) : Prop :=
  K (-2 : Int32) μ
def fX8_put_86b (k86 : Int64 → Int32 → zMem → Prop) (K : Int32 → zMem → Prop) (q : Nat) (v1 : Int64) (v2 : Int32) (μ : zMem) : Prop :=
  ((v2 < 0 → K (μ q 7) μ) ∧ (¬ v2 < 0 → (∀ x2 : Int32, x2 = ((8 : Int32) * v2) → (∀ x3 : Int64, x3 = (z_ushr v1 x2) → (∀ x4 : Int64, x4 = (x3 &&& (255 : Int64)) → (∀ x5 : Int32, x5 = (x4).toInt32 → (∀ x6 : Int32, x6 = (z_i2c x5) → (vp_in (μ q 7) 80 ∧ (∀ m8 : zMem, m8 = z_up μ 536 ((μ q 7)).toNatClampNeg (vp_nar .char x6) → (∀ x9 : Int32, x9 = ((m8 q 7) + (1 : Int32)) → (∀ m10 : zMem, m10 = z_up m8 q 7 x9 → (∀ x11 : Int32, x11 = v2 + (-1 : Int32) → k86 v1 x11 m10))))))))))))
def fX8_put_86  (K : Int32 → zMem → Prop) (q : Nat) (n : Nat) : Int64 → Int32 → zMem → Prop := z_it (fun k => fX8_put_86b  k K q ) (fun _ _ _ => False) n
def fX8_put_60  (K : Int32 → zMem → Prop) (q : Nat) (v1 : Int64) (v2 : Int32) (μ : zMem) : Prop :=
  ((¬ v2 = 0 → (∀ x13 : Int32, x13 = ((μ q 7) + v2) → ((x13 ≤ (80 : Int32) → (∀ x15 : Int32, x15 = (v2 - (1 : Int32)) → fX8_put_86  K q zFU v1 x15 μ)) ∧ (¬ x13 ≤ (80 : Int32) → K (-4 : Int32) μ)))) ∧ (v2 = 0 → K (-2 : Int32) μ))
def fX8_put_5b (k5 : Int64 → Int32 → Int64 → zMem → Prop) (K : Int32 → zMem → Prop) (q : Nat) (v1 : Int64) (v2 : Int32) (v3 : Int64) (μ : zMem) : Prop :=
  (((8 : Int32) ≤ v2 → fX8_put_60  K q v1 v2 μ) ∧ (¬ (8 : Int32) ≤ v2 → (∀ x17 : Int32, x17 = (lg_cmp v3 (0 : Int64)) → ((x17 = 0 → fX8_put_60  K q v1 v2 μ) ∧ (¬ x17 = 0 → (∀ x19 : Int64, x19 = (v3 &&& (255 : Int64)) → (∀ x20 : Int32, x20 = (lg_cmp x19 (33 : Int64)) → ((x20 < 0 → fX8_put_44  K q  μ) ∧ (¬ x20 < 0 → (∀ x22 : Int32, x22 = (lg_cmp x19 (126 : Int64)) → ((x22 ≤ 0 → (∀ x24 : Int64, x24 = (z_ushr v3 (8 : Int32)) → (∀ x25 : Int32, x25 = v2 + (1 : Int32) → k5 v1 x25 x24 μ))) ∧ (¬ x22 ≤ 0 → fX8_put_44  K q  μ))))))))))))
def fX8_put_5  (K : Int32 → zMem → Prop) (q : Nat) (n : Nat) : Int64 → Int32 → Int64 → zMem → Prop := z_it (fun k => fX8_put_5b  k K q ) (fun _ _ _ _ => False) n
def fX8_put (q : Nat) (a1 : Int64) (μ : zMem) (K : Int32 → zMem → Prop) : Prop :=
  fX8_put_5  K q zFU a1 (0 : Int32) a1 μ
set_option maxRecDepth 100000 in
set_option maxHeartbeats 4000000 in
theorem tX8_put_44 {p : Program} {l : Launch} {e : Env} {s : State} {m : MethodId} {args : Array Value} {below : List Frame} {meth : Method} {c : Code} {G : zG}  {K : Int32 → zMem → Prop} (o : za_Ok (z_rm 0 0) 0 0 p s m args meth c G RX8 cX8_put 8 (some .int)) {q : Nat} (hq : z_is q 8)   (μ : zMem)  (hf : fX8_put_44  K q  μ) : za_At p l e (z_rm 0 0) s m args below meth c (MQ below (zQi G K) args s 0 0 (zA G)) G 8 0 0 44 [] [] μ := by
  unfold fX8_put_44 at hf
  refine za_bipush (v := (-2 : Int32)) o dX8_put_44 (by decide) ?_
  exact za_iret o rfl hf dX8_put_46
set_option maxRecDepth 100000 in
set_option maxHeartbeats 4000000 in
theorem tX8_put_86b {p : Program} {l : Launch} {e : Env} {s : State} {m : MethodId} {args : Array Value} {below : List Frame} {meth : Method} {c : Code} {G : zG} {k86 : Int64 → Int32 → zMem → Prop} {K : Int32 → zMem → Prop} (o : za_Ok (z_rm 0 0) 0 0 p s m args meth c G RX8 cX8_put 8 (some .int)) {q : Nat} (hq : z_is q 8) (hk86 : ∀ (v1 : Int64) (v2 : Int32) (μ : zMem), k86 v1 v2 μ → za_At p l e (z_rm 0 0) s m args below meth c (MQ below (zQi G K) args s 0 0 (zA G)) G 8 0 0 86 [(0, .ref (G.2.2 + q)), (1, .long v1), (6, .int v2)] [] μ) (v1 : Int64) (v2 : Int32) (μ : zMem)  (hf : fX8_put_86b k86 K q v1 v2 μ) : za_At p l e (z_rm 0 0) s m args below meth c (MQ below (zQi G K) args s 0 0 (zA G)) G 8 0 0 86 [(0, .ref (G.2.2 + q)), (1, .long v1), (6, .int v2)] [] μ := by
  unfold fX8_put_86b at hf
  refine za_iload o 2 dX8_put_86 rfl ?_
  refine za_if_lt o 129 dX8_put_88 (by decide) (fun c1 => ?_) (fun c1 => ?_)
  · replace hf := hf.1 c1
    refine za_aload_n o 0 dX8_put_129 rfl rfl ?_
    refine za_getf o 7 zc8 hq (Nat.le_of_ble_eq_true rfl) wfX8_125 rfl dX8_put_130 ?_
    exact za_iret o rfl hf dX8_put_133
  · replace hf := hf.2 c1
    refine za_aload_n o 0 dX8_put_91 rfl rfl ?_
    refine za_getf o 6 zc8 hq (Nat.le_of_ble_eq_true rfl) wfX8_29 rfl dX8_put_92 ?_
    refine za_aload_n o 0 dX8_put_95 rfl rfl ?_
    refine za_getf o 7 zc8 hq (Nat.le_of_ble_eq_true rfl) wfX8_125 rfl dX8_put_96 ?_
    refine za_lload_n o 1 dX8_put_99 rfl rfl ?_
    refine za_bipush (v := (8 : Int32)) o dX8_put_100 (by decide) ?_
    refine za_iload o 2 dX8_put_102 rfl ?_
    refine za_imul o dX8_put_104 ?_
    refine za_topi (fun x2 ex2 => ?_)
    replace hf := hf x2 ex2
    refine za_lushr o dX8_put_105 ?_
    refine za_topl (fun x3 ex3 => ?_)
    replace hf := hf x3 ex3
    refine za_ldc2 (v := (255 : Int64)) o wkX8_154 dX8_put_106 ?_
    refine za_land o dX8_put_109 ?_
    refine za_topl (fun x4 ex4 => ?_)
    replace hf := hf x4 ex4
    refine za_l2i o dX8_put_110 ?_
    refine za_topi (fun x5 ex5 => ?_)
    replace hf := hf x5 ex5
    refine za_i2c o dX8_put_111 ?_
    refine za_topi (fun x6 ex6 => ?_)
    replace hf := hf x6 ex6
    obtain ⟨g7, hf⟩ := hf
    refine za_cast o zk_m6 rfl g7 dX8_put_112 ?_
    refine za_mem (fun m8 em8 => ?_)
    replace hf := hf m8 em8
    refine za_aload_n o 0 dX8_put_113 rfl rfl ?_
    refine za_dup o dX8_put_114 rfl ?_
    refine za_getf o 7 zc8 hq (Nat.le_of_ble_eq_true rfl) wfX8_125 rfl dX8_put_115 ?_
    refine za_iconst (v := (1 : Int32)) o dX8_put_118 (by decide) ?_
    refine za_iadd o dX8_put_119 ?_
    refine za_topi (fun x9 ex9 => ?_)
    replace hf := hf x9 ex9
    refine za_putf (ty := .int) o 7 zc8 hq (Nat.le_of_ble_eq_true rfl) wfX8_125 rfl (by decide +kernel) rfl rfl (Nat.le_of_ble_eq_true rfl) rfl dX8_put_120 ?_
    refine za_mem (fun m10 em10 => ?_)
    replace hf := hf m10 em10
    obtain ⟨x11, ex11⟩ : ∃ y : Int32, y = v2 + (-1 : Int32) := ⟨_, rfl⟩
    replace hf := hf x11 ex11
    refine za_iinc o x11 2 [(6, .int x11), (0, .ref (G.2.2 + q)), (1, .long v1)] dX8_put_123 rfl (by rw [ex11]; rfl) (by decide) rfl ?_
    refine za_goto o 86 dX8_put_126 (by decide) ?_
    refine za_sub [1, 2, 0] rfl ?_
    exact hk86 v1 x11 m10  hf
theorem tX8_put_86 {p : Program} {l : Launch} {e : Env} {s : State} {m : MethodId} {args : Array Value} {below : List Frame} {meth : Method} {c : Code} {G : zG}  {K : Int32 → zMem → Prop} (o : za_Ok (z_rm 0 0) 0 0 p s m args meth c G RX8 cX8_put 8 (some .int)) {q : Nat} (hq : z_is q 8)  (n : Nat) : ∀ (v1 : Int64) (v2 : Int32) (μ : zMem), fX8_put_86  K q n v1 v2 μ → za_At p l e (z_rm 0 0) s m args below meth c (MQ below (zQi G K) args s 0 0 (zA G)) G 8 0 0 86 [(0, .ref (G.2.2 + q)), (1, .long v1), (6, .int v2)] [] μ := by
  induction n with
  | zero => intro _ _ _ hf; exact hf.elim
  | succ n ih => intro v1 v2 μ  hf; exact tX8_put_86b o hq  ih v1 v2 μ  hf
set_option maxRecDepth 100000 in
set_option maxHeartbeats 4000000 in
theorem tX8_put_60 {p : Program} {l : Launch} {e : Env} {s : State} {m : MethodId} {args : Array Value} {below : List Frame} {meth : Method} {c : Code} {G : zG}  {K : Int32 → zMem → Prop} (o : za_Ok (z_rm 0 0) 0 0 p s m args meth c G RX8 cX8_put 8 (some .int)) {q : Nat} (hq : z_is q 8)  (v1 : Int64) (v2 : Int32) (μ : zMem)  (hf : fX8_put_60  K q v1 v2 μ) : za_At p l e (z_rm 0 0) s m args below meth c (MQ below (zQi G K) args s 0 0 (zA G)) G 8 0 0 60 [(0, .ref (G.2.2 + q)), (1, .long v1), (3, .int v2)] [] μ := by
  unfold fX8_put_60 at hf
  refine za_iload_n o 2 dX8_put_60 rfl rfl ?_
  refine za_if_ne o 67 dX8_put_61 (by decide) (fun c12 => ?_) (fun c12 => ?_)
  · replace hf := hf.1 c12
    refine za_aload_n o 0 dX8_put_67 rfl rfl ?_
    refine za_getf o 7 zc8 hq (Nat.le_of_ble_eq_true rfl) wfX8_125 rfl dX8_put_68 ?_
    refine za_iload_n o 2 dX8_put_71 rfl rfl ?_
    refine za_iadd o dX8_put_72 ?_
    refine za_topi (fun x13 ex13 => ?_)
    replace hf := hf x13 ex13
    refine za_bipush (v := (80 : Int32)) o dX8_put_73 (by decide) ?_
    refine za_icmp_le o 81 dX8_put_75 (by decide) (fun c14 => ?_) (fun c14 => ?_)
    · replace hf := hf.1 c14
      refine za_iload_n o 2 dX8_put_81 rfl rfl ?_
      refine za_iconst (v := (1 : Int32)) o dX8_put_82 (by decide) ?_
      refine za_isub o dX8_put_83 ?_
      refine za_topi (fun x15 ex15 => ?_)
      replace hf := hf x15 ex15
      refine za_istore o [(6, .int x15), (0, .ref (G.2.2 + q)), (1, .long v1), (3, .int v2)] dX8_put_84 (by decide) rfl ?_
      refine za_sub [1, 2, 0] rfl ?_
      exact tX8_put_86 o hq  zFU v1 x15 μ  hf
    · replace hf := hf.2 c14
      refine za_bipush (v := (-4 : Int32)) o dX8_put_78 (by decide) ?_
      exact za_iret o rfl hf dX8_put_80
  · replace hf := hf.2 c12
    refine za_bipush (v := (-2 : Int32)) o dX8_put_64 (by decide) ?_
    exact za_iret o rfl hf dX8_put_66
set_option maxRecDepth 100000 in
set_option maxHeartbeats 4000000 in
theorem tX8_put_5b {p : Program} {l : Launch} {e : Env} {s : State} {m : MethodId} {args : Array Value} {below : List Frame} {meth : Method} {c : Code} {G : zG} {k5 : Int64 → Int32 → Int64 → zMem → Prop} {K : Int32 → zMem → Prop} (o : za_Ok (z_rm 0 0) 0 0 p s m args meth c G RX8 cX8_put 8 (some .int)) {q : Nat} (hq : z_is q 8) (hk5 : ∀ (v1 : Int64) (v2 : Int32) (v3 : Int64) (μ : zMem), k5 v1 v2 v3 μ → za_At p l e (z_rm 0 0) s m args below meth c (MQ below (zQi G K) args s 0 0 (zA G)) G 8 0 0 5 [(0, .ref (G.2.2 + q)), (1, .long v1), (3, .int v2), (4, .long v3)] [] μ) (v1 : Int64) (v2 : Int32) (v3 : Int64) (μ : zMem)  (hf : fX8_put_5b k5 K q v1 v2 v3 μ) : za_At p l e (z_rm 0 0) s m args below meth c (MQ below (zQi G K) args s 0 0 (zA G)) G 8 0 0 5 [(0, .ref (G.2.2 + q)), (1, .long v1), (3, .int v2), (4, .long v3)] [] μ := by
  unfold fX8_put_5b at hf
  refine za_iload_n o 2 dX8_put_5 rfl rfl ?_
  refine za_bipush (v := (8 : Int32)) o dX8_put_6 (by decide) ?_
  refine za_icmp_ge o 60 dX8_put_8 (by decide) (fun c16 => ?_) (fun c16 => ?_)
  · replace hf := hf.1 c16
    refine za_sub [0, 1, 2] rfl ?_
    exact tX8_put_60 o hq  v1 v2 μ  hf
  · replace hf := hf.2 c16
    refine za_lload o 3 dX8_put_11 rfl ?_
    refine za_lconst (v := (0 : Int64)) o dX8_put_13 (by decide) ?_
    refine za_lcmp o dX8_put_14 ?_
    refine za_topi (fun x17 ex17 => ?_)
    replace hf := hf x17 ex17
    refine za_if_eq o 60 dX8_put_15 (by decide) (fun c18 => ?_) (fun c18 => ?_)
    · replace hf := hf.1 c18
      refine za_sub [0, 1, 2] rfl ?_
      exact tX8_put_60 o hq  v1 v2 μ  hf
    · replace hf := hf.2 c18
      refine za_lload o 3 dX8_put_18 rfl ?_
      refine za_ldc2 (v := (255 : Int64)) o wkX8_154 dX8_put_20 ?_
      refine za_land o dX8_put_23 ?_
      refine za_topl (fun x19 ex19 => ?_)
      replace hf := hf x19 ex19
      refine za_lstore o [(6, .long x19), (0, .ref (G.2.2 + q)), (1, .long v1), (3, .int v2), (4, .long v3)] dX8_put_24 (by decide) rfl ?_
      refine za_lload o 0 dX8_put_26 rfl ?_
      refine za_ldc2 (v := (33 : Int64)) o wkX8_156 dX8_put_28 ?_
      refine za_lcmp o dX8_put_31 ?_
      refine za_topi (fun x20 ex20 => ?_)
      replace hf := hf x20 ex20
      refine za_if_lt o 44 dX8_put_32 (by decide) (fun c21 => ?_) (fun c21 => ?_)
      · replace hf := hf.1 c21
        refine za_sub [] rfl ?_
        exact tX8_put_44 o hq   μ  hf
      · replace hf := hf.2 c21
        refine za_lload o 0 dX8_put_35 rfl ?_
        refine za_ldc2 (v := (126 : Int64)) o wkX8_158 dX8_put_37 ?_
        refine za_lcmp o dX8_put_40 ?_
        refine za_topi (fun x22 ex22 => ?_)
        replace hf := hf x22 ex22
        refine za_if_le o 47 dX8_put_41 (by decide) (fun c23 => ?_) (fun c23 => ?_)
        · replace hf := hf.1 c23
          refine za_lload o 4 dX8_put_47 rfl ?_
          refine za_bipush (v := (8 : Int32)) o dX8_put_49 (by decide) ?_
          refine za_lushr o dX8_put_51 ?_
          refine za_topl (fun x24 ex24 => ?_)
          replace hf := hf x24 ex24
          refine za_lstore o [(4, .long x24), (6, .long x19), (0, .ref (G.2.2 + q)), (1, .long v1), (3, .int v2)] dX8_put_52 (by decide) rfl ?_
          obtain ⟨x25, ex25⟩ : ∃ y : Int32, y = v2 + (1 : Int32) := ⟨_, rfl⟩
          replace hf := hf x25 ex25
          refine za_iinc o x25 4 [(3, .int x25), (4, .long x24), (6, .long x19), (0, .ref (G.2.2 + q)), (1, .long v1)] dX8_put_54 rfl (by rw [ex25]; rfl) (by decide) rfl ?_
          refine za_goto o 5 dX8_put_57 (by decide) ?_
          refine za_sub [3, 4, 0, 1] rfl ?_
          exact hk5 v1 x25 x24 μ  hf
        · replace hf := hf.2 c23
          refine za_sub [] rfl ?_
          exact tX8_put_44 o hq   μ  hf
theorem tX8_put_5 {p : Program} {l : Launch} {e : Env} {s : State} {m : MethodId} {args : Array Value} {below : List Frame} {meth : Method} {c : Code} {G : zG}  {K : Int32 → zMem → Prop} (o : za_Ok (z_rm 0 0) 0 0 p s m args meth c G RX8 cX8_put 8 (some .int)) {q : Nat} (hq : z_is q 8)  (n : Nat) : ∀ (v1 : Int64) (v2 : Int32) (v3 : Int64) (μ : zMem), fX8_put_5  K q n v1 v2 v3 μ → za_At p l e (z_rm 0 0) s m args below meth c (MQ below (zQi G K) args s 0 0 (zA G)) G 8 0 0 5 [(0, .ref (G.2.2 + q)), (1, .long v1), (3, .int v2), (4, .long v3)] [] μ := by
  induction n with
  | zero => intro _ _ _ _ hf; exact hf.elim
  | succ n ih => intro v1 v2 v3 μ  hf; exact tX8_put_5b o hq  ih v1 v2 v3 μ  hf
set_option maxRecDepth 100000 in
set_option maxHeartbeats 4000000 in
theorem ctX8_put (l : Launch) (G : zG) {q : Nat} (hq : z_is q 8) (a1 : Int64)  (μ : zMem) (K : Int32 → zMem → Prop) (hf : fX8_put q a1 μ K) : z_Met l G yX8_put cX8_put 8 (some .int) (z_rm 0 0) [.ref (G.2.2 + q), .long a1] μ K := by
  refine z_body (by decide) (Nat.le_of_ble_eq_true rfl) (fun p e s m args below meth c o => ?_)
  have o : za_Ok (z_rm 0 0) 0 0 p s m args meth c G RX8 cX8_put 8 (some .int) := o
  show za_At p l e (z_rm 0 0) s m args below meth c (MQ below (zQi G K) args s 0 0 (zA G)) G 8 0 0 0 [(0, .ref (G.2.2 + q)), (1, .long a1)] [] μ
  unfold fX8_put at hf
  refine za_iconst (v := (0 : Int32)) o dX8_put_0 (by decide) ?_
  refine za_istore_n o [(3, .int (0 : Int32)), (0, .ref (G.2.2 + q)), (1, .long a1)] dX8_put_1 rfl (by decide) rfl ?_
  refine za_lload_n o 2 dX8_put_2 rfl rfl ?_
  refine za_lstore o [(4, .long a1), (3, .int (0 : Int32)), (0, .ref (G.2.2 + q)), (1, .long a1)] dX8_put_3 (by decide) rfl ?_
  refine za_sub [2, 3, 1, 0] rfl ?_
  exact tX8_put_5 o hq  zFU a1 (0 : Int32) a1 μ  hf
def fX8_wipe (q : Nat)  (μ : zMem) (K : Int32 → zMem → Prop) : Prop :=
  (∀ m1 : zMem, m1 = z_up μ q 7 (0 : Int32) → K (μ q 7) m1)
set_option maxRecDepth 100000 in
set_option maxHeartbeats 4000000 in
theorem ctX8_wipe (l : Launch) (G : zG) {q : Nat} (hq : z_is q 8)   (μ : zMem) (K : Int32 → zMem → Prop) (hf : fX8_wipe q  μ K) : z_Met l G yX8_wipe cX8_wipe 2 (some .int) (z_rm 0 0) [.ref (G.2.2 + q)] μ K := by
  refine z_body (by decide) (Nat.le_of_ble_eq_true rfl) (fun p e s m args below meth c o => ?_)
  have o : za_Ok (z_rm 0 0) 0 0 p s m args meth c G RX8 cX8_wipe 2 (some .int) := o
  show za_At p l e (z_rm 0 0) s m args below meth c (MQ below (zQi G K) args s 0 0 (zA G)) G 2 0 0 0 [(0, .ref (G.2.2 + q))] [] μ
  unfold fX8_wipe at hf
  refine za_aload_n o 0 dX8_wipe_0 rfl rfl ?_
  refine za_getf o 7 zc8 hq (Nat.le_of_ble_eq_true rfl) wfX8_125 rfl dX8_wipe_1 ?_
  refine za_istore_n o [(1, .int (μ q 7)), (0, .ref (G.2.2 + q))] dX8_wipe_4 rfl (by decide) rfl ?_
  refine za_aload_n o 1 dX8_wipe_5 rfl rfl ?_
  refine za_iconst (v := (0 : Int32)) o dX8_wipe_6 (by decide) ?_
  refine za_putf (ty := .int) o 7 zc8 hq (Nat.le_of_ble_eq_true rfl) wfX8_125 rfl (by decide +kernel) rfl rfl (Nat.le_of_ble_eq_true rfl) rfl dX8_wipe_7 ?_
  refine za_mem (fun m1 em1 => ?_)
  replace hf := hf m1 em1
  refine za_iload_n o 0 dX8_wipe_10 rfl rfl ?_
  exact za_iret o rfl hf dX8_wipe_11
def fX8_fault_15  (K : Int32 → zMem → Prop) (q : Nat) (v1 : Int32) (μ : zMem) : Prop :=
  K v1 μ
def fX8_fault (q : Nat)  (μ : zMem) (K : Int32 → zMem → Prop) : Prop :=
  fX8_faultOf q  μ (fun r1 m2 => ((0 ≤ r1 → fX8_fault_15  K q r1 m2) ∧ (¬ 0 ≤ r1 → fX8_fault_15  K q (-6 : Int32) m2)))
set_option maxRecDepth 100000 in
set_option maxHeartbeats 4000000 in
theorem tX8_fault_15 {p : Program} {l : Launch} {e : Env} {s : State} {m : MethodId} {args : Array Value} {below : List Frame} {meth : Method} {c : Code} {G : zG}  {K : Int32 → zMem → Prop} (o : za_Ok (z_rm 4 89) 0 0 p s m args meth c G RX8 cX8_fault 2 (some .int)) {q : Nat} (hq : z_is q 8)  (v1 : Int32) (μ : zMem)  (hf : fX8_fault_15  K q v1 μ) : za_At p l e (z_rm 4 89) s m args below meth c (MQ below (zQi G K) args s 0 0 (zA G)) G 2 0 0 15 [] [.int v1] μ := by
  unfold fX8_fault_15 at hf
  exact za_iret o rfl hf dX8_fault_15
set_option maxRecDepth 100000 in
set_option maxHeartbeats 4000000 in
theorem ctX8_fault (l : Launch) (G : zG) {q : Nat} (hq : z_is q 8)   (μ : zMem) (K : Int32 → zMem → Prop) (hf : fX8_fault q  μ K) : z_Met l G yX8_fault cX8_fault 2 (some .int) (z_rm 4 89) [.ref (G.2.2 + q)] μ K := by
  refine z_body (by decide) (Nat.le_of_ble_eq_true rfl) (fun p e s m args below meth c o => ?_)
  have o : za_Ok (z_rm 4 89) 0 0 p s m args meth c G RX8 cX8_fault 2 (some .int) := o
  show za_At p l e (z_rm 4 89) s m args below meth c (MQ below (zQi G K) args s 0 0 (zA G)) G 2 0 0 0 [(0, .ref (G.2.2 + q))] [] μ
  unfold fX8_fault at hf
  refine za_aload_n o 0 dX8_fault_0 rfl rfl ?_
  refine za_callVi o [] (ctX8_faultOf l G hq   μ _ hf) zc8 hq mwX8_faultOf wmX8_160 wiX8_faultOf wsX8_faultOf rfl ⟨Nat.le_of_ble_eq_true rfl, Nat.le_of_ble_eq_true rfl⟩ rfl (Nat.le_of_ble_eq_true rfl) dX8_fault_1 (fun r1 m2 hf => ?_)
  refine za_istore_n o [(1, .int r1), (0, .ref (G.2.2 + q))] dX8_fault_4 rfl (by decide) rfl ?_
  refine za_iload_n o 0 dX8_fault_5 rfl rfl ?_
  refine za_if_ge o 14 dX8_fault_6 (by decide) (fun c3 => ?_) (fun c3 => ?_)
  · replace hf := hf.1 c3
    refine za_iload_n o 0 dX8_fault_14 rfl rfl ?_
    refine za_sub [] rfl ?_
    exact tX8_fault_15 o hq  r1 m2  hf
  · replace hf := hf.2 c3
    refine za_bipush (v := (-6 : Int32)) o dX8_fault_9 (by decide) ?_
    refine za_goto o 15 dX8_fault_11 (by decide) ?_
    refine za_sub [] rfl ?_
    exact tX8_fault_15 o hq  (-6 : Int32) m2  hf
def fX8_carryOut_54 (k18 : Int32 → Int32 → zMem → Prop) (K : Int32 → zMem → Prop) (q : Nat) (v1 : Int32) (v2 : Int32) (v3 : Int32) (μ : zMem) : Prop :=
  (∀ x1 : Int32, x1 = (v3 + v2) → k18 x1 v1 μ)
def fX8_carryOut_43 (k18 : Int32 → Int32 → zMem → Prop) (K : Int32 → zMem → Prop) (q : Nat) (v1 : Int32) (v2 : Int32) (μ : zMem) : Prop :=
  ((v2 = 0 → fX8_carryOut_54 k18 K q v2 (0 : Int32) v1 μ) ∧ (¬ v2 = 0 → fX8_carryOut_54 k18 K q v2 (1 : Int32) v1 μ))
def fX8_carryOut_59  (K : Int32 → zMem → Prop) (q : Nat) (v1 : Int32) (μ : zMem) : Prop :=
  (∀ m3 : zMem, m3 = z_up μ q 7 (0 : Int32) → fX8_recorded q v1 m3 (fun r4 m5 => K r4 m5))
def fX8_carryOut_18b (k18 : Int32 → Int32 → zMem → Prop) (K : Int32 → zMem → Prop) (q : Nat) (v1 : Int32) (v2 : Int32) (μ : zMem) : Prop :=
  ((v2 = 0 → fX8_carryOut_59  K q v1 μ) ∧ (¬ v2 = 0 → (((μ q 9) ≤ v1 → fX8_carryOut_59  K q v1 μ) ∧ (¬ (μ q 9) ≤ v1 → fX8_does q v1 μ (fun r8 m9 => ((r8 < 0 → fX8_carryOut_43 k18 K q v1 (0 : Int32) m9) ∧ (¬ r8 < 0 → fX8_carryOut_43 k18 K q v1 (1 : Int32) m9)))))))
def fX8_carryOut_18  (K : Int32 → zMem → Prop) (q : Nat) (n : Nat) : Int32 → Int32 → zMem → Prop := z_it (fun k => fX8_carryOut_18b  k K q ) (fun _ _ _ => False) n
def fX8_carryOut (q : Nat)  (μ : zMem) (K : Int32 → zMem → Prop) : Prop :=
  fX8_faultOf q  μ (fun r11 m12 => ((r11 < 0 → fX8_hold q  m12 (fun m15 => fX8_carryOut_18  K q zFU (0 : Int32) (1 : Int32) m15)) ∧ (¬ r11 < 0 → K (-3 : Int32) m12)))
set_option maxRecDepth 100000 in
set_option maxHeartbeats 4000000 in
theorem tX8_carryOut_54 {p : Program} {l : Launch} {e : Env} {s : State} {m : MethodId} {args : Array Value} {below : List Frame} {meth : Method} {c : Code} {G : zG} {k18 : Int32 → Int32 → zMem → Prop} {K : Int32 → zMem → Prop} (o : za_Ok (z_rm 5 113) 0 0 p s m args meth c G RX8 cX8_carryOut 3 (some .int)) {q : Nat} (hq : z_is q 8) (hk18 : ∀ (v1 : Int32) (v2 : Int32) (μ : zMem), k18 v1 v2 μ → za_At p l e (z_rm 5 113) s m args below meth c (MQ below (zQi G K) args s 0 0 (zA G)) G 3 0 0 18 [(0, .ref (G.2.2 + q)), (1, .int v1), (2, .int v2)] [] μ) (v1 : Int32) (v2 : Int32) (v3 : Int32) (μ : zMem)  (hf : fX8_carryOut_54 k18 K q v1 v2 v3 μ) : za_At p l e (z_rm 5 113) s m args below meth c (MQ below (zQi G K) args s 0 0 (zA G)) G 3 0 0 54 [(0, .ref (G.2.2 + q)), (2, .int v1)] [.int v2, .int v3] μ := by
  unfold fX8_carryOut_54 at hf
  refine za_iadd o dX8_carryOut_54 ?_
  refine za_topi (fun x1 ex1 => ?_)
  replace hf := hf x1 ex1
  refine za_istore_n o [(1, .int x1), (0, .ref (G.2.2 + q)), (2, .int v1)] dX8_carryOut_55 rfl (by decide) rfl ?_
  refine za_goto o 18 dX8_carryOut_56 (by decide) ?_
  refine za_sub [1, 0, 2] rfl ?_
  exact hk18 x1 v1 μ  hf
set_option maxRecDepth 100000 in
set_option maxHeartbeats 4000000 in
theorem tX8_carryOut_43 {p : Program} {l : Launch} {e : Env} {s : State} {m : MethodId} {args : Array Value} {below : List Frame} {meth : Method} {c : Code} {G : zG} {k18 : Int32 → Int32 → zMem → Prop} {K : Int32 → zMem → Prop} (o : za_Ok (z_rm 5 113) 0 0 p s m args meth c G RX8 cX8_carryOut 3 (some .int)) {q : Nat} (hq : z_is q 8) (hk18 : ∀ (v1 : Int32) (v2 : Int32) (μ : zMem), k18 v1 v2 μ → za_At p l e (z_rm 5 113) s m args below meth c (MQ below (zQi G K) args s 0 0 (zA G)) G 3 0 0 18 [(0, .ref (G.2.2 + q)), (1, .int v1), (2, .int v2)] [] μ) (v1 : Int32) (v2 : Int32) (μ : zMem)  (hf : fX8_carryOut_43 k18 K q v1 v2 μ) : za_At p l e (z_rm 5 113) s m args below meth c (MQ below (zQi G K) args s 0 0 (zA G)) G 3 0 0 43 [(0, .ref (G.2.2 + q)), (1, .int v1)] [.int v2] μ := by
  unfold fX8_carryOut_43 at hf
  refine za_istore_n o [(2, .int v2), (0, .ref (G.2.2 + q)), (1, .int v1)] dX8_carryOut_43 rfl (by decide) rfl ?_
  refine za_iload_n o 2 dX8_carryOut_44 rfl rfl ?_
  refine za_iload_n o 0 dX8_carryOut_45 rfl rfl ?_
  refine za_if_eq o 53 dX8_carryOut_46 (by decide) (fun c2 => ?_) (fun c2 => ?_)
  · replace hf := hf.1 c2
    refine za_iconst (v := (0 : Int32)) o dX8_carryOut_53 (by decide) ?_
    refine za_sub [1, 0] rfl ?_
    exact tX8_carryOut_54 o hq hk18 v2 (0 : Int32) v1 μ  hf
  · replace hf := hf.2 c2
    refine za_iconst (v := (1 : Int32)) o dX8_carryOut_49 (by decide) ?_
    refine za_goto o 54 dX8_carryOut_50 (by decide) ?_
    refine za_sub [1, 0] rfl ?_
    exact tX8_carryOut_54 o hq hk18 v2 (1 : Int32) v1 μ  hf
set_option maxRecDepth 100000 in
set_option maxHeartbeats 4000000 in
theorem tX8_carryOut_59 {p : Program} {l : Launch} {e : Env} {s : State} {m : MethodId} {args : Array Value} {below : List Frame} {meth : Method} {c : Code} {G : zG}  {K : Int32 → zMem → Prop} (o : za_Ok (z_rm 5 113) 0 0 p s m args meth c G RX8 cX8_carryOut 3 (some .int)) {q : Nat} (hq : z_is q 8)  (v1 : Int32) (μ : zMem)  (hf : fX8_carryOut_59  K q v1 μ) : za_At p l e (z_rm 5 113) s m args below meth c (MQ below (zQi G K) args s 0 0 (zA G)) G 3 0 0 59 [(0, .ref (G.2.2 + q)), (1, .int v1)] [] μ := by
  unfold fX8_carryOut_59 at hf
  refine za_aload_n o 0 dX8_carryOut_59 rfl rfl ?_
  refine za_iconst (v := (0 : Int32)) o dX8_carryOut_60 (by decide) ?_
  refine za_putf (ty := .int) o 7 zc8 hq (Nat.le_of_ble_eq_true rfl) wfX8_125 rfl (by decide +kernel) rfl rfl (Nat.le_of_ble_eq_true rfl) rfl dX8_carryOut_61 ?_
  refine za_mem (fun m3 em3 => ?_)
  replace hf := hf m3 em3
  refine za_aload_n o 0 dX8_carryOut_64 rfl rfl ?_
  refine za_iload_n o 1 dX8_carryOut_65 rfl rfl ?_
  refine za_callVi o [.int v1] (ctX8_recorded l G hq v1  m3 _ hf) zc8 hq mwX8_recorded wmX8_91 wiX8_recorded wsX8_recorded rfl ⟨Nat.le_of_ble_eq_true rfl, Nat.le_of_ble_eq_true rfl⟩ rfl (Nat.le_of_ble_eq_true rfl) dX8_carryOut_66 (fun r4 m5 hf => ?_)
  exact za_iret o rfl hf dX8_carryOut_69
set_option maxRecDepth 100000 in
set_option maxHeartbeats 4000000 in
theorem tX8_carryOut_18b {p : Program} {l : Launch} {e : Env} {s : State} {m : MethodId} {args : Array Value} {below : List Frame} {meth : Method} {c : Code} {G : zG} {k18 : Int32 → Int32 → zMem → Prop} {K : Int32 → zMem → Prop} (o : za_Ok (z_rm 5 113) 0 0 p s m args meth c G RX8 cX8_carryOut 3 (some .int)) {q : Nat} (hq : z_is q 8) (hk18 : ∀ (v1 : Int32) (v2 : Int32) (μ : zMem), k18 v1 v2 μ → za_At p l e (z_rm 5 113) s m args below meth c (MQ below (zQi G K) args s 0 0 (zA G)) G 3 0 0 18 [(0, .ref (G.2.2 + q)), (1, .int v1), (2, .int v2)] [] μ) (v1 : Int32) (v2 : Int32) (μ : zMem)  (hf : fX8_carryOut_18b k18 K q v1 v2 μ) : za_At p l e (z_rm 5 113) s m args below meth c (MQ below (zQi G K) args s 0 0 (zA G)) G 3 0 0 18 [(0, .ref (G.2.2 + q)), (1, .int v1), (2, .int v2)] [] μ := by
  unfold fX8_carryOut_18b at hf
  refine za_iload_n o 2 dX8_carryOut_18 rfl rfl ?_
  refine za_if_eq o 59 dX8_carryOut_19 (by decide) (fun c6 => ?_) (fun c6 => ?_)
  · replace hf := hf.1 c6
    refine za_sub [0, 1] rfl ?_
    exact tX8_carryOut_59 o hq  v1 μ  hf
  · replace hf := hf.2 c6
    refine za_iload_n o 1 dX8_carryOut_22 rfl rfl ?_
    refine za_aload_n o 0 dX8_carryOut_23 rfl rfl ?_
    refine za_getf o 9 zc8 hq (Nat.le_of_ble_eq_true rfl) wfX8_136 rfl dX8_carryOut_24 ?_
    refine za_icmp_ge o 59 dX8_carryOut_27 (by decide) (fun c7 => ?_) (fun c7 => ?_)
    · replace hf := hf.1 c7
      refine za_sub [0, 1] rfl ?_
      exact tX8_carryOut_59 o hq  v1 μ  hf
    · replace hf := hf.2 c7
      refine za_aload_n o 0 dX8_carryOut_30 rfl rfl ?_
      refine za_iload_n o 1 dX8_carryOut_31 rfl rfl ?_
      refine za_callVi o [.int v1] (ctX8_does l G hq v1  μ _ hf) zc8 hq mwX8_does wmX8_163 wiX8_does wsX8_does rfl ⟨Nat.le_of_ble_eq_true rfl, Nat.le_of_ble_eq_true rfl⟩ rfl (Nat.le_of_ble_eq_true rfl) dX8_carryOut_32 (fun r8 m9 hf => ?_)
      refine za_if_lt o 42 dX8_carryOut_35 (by decide) (fun c10 => ?_) (fun c10 => ?_)
      · replace hf := hf.1 c10
        refine za_iconst (v := (0 : Int32)) o dX8_carryOut_42 (by decide) ?_
        refine za_sub [0, 1] rfl ?_
        exact tX8_carryOut_43 o hq hk18 v1 (0 : Int32) m9  hf
      · replace hf := hf.2 c10
        refine za_iconst (v := (1 : Int32)) o dX8_carryOut_38 (by decide) ?_
        refine za_goto o 43 dX8_carryOut_39 (by decide) ?_
        refine za_sub [0, 1] rfl ?_
        exact tX8_carryOut_43 o hq hk18 v1 (1 : Int32) m9  hf
theorem tX8_carryOut_18 {p : Program} {l : Launch} {e : Env} {s : State} {m : MethodId} {args : Array Value} {below : List Frame} {meth : Method} {c : Code} {G : zG}  {K : Int32 → zMem → Prop} (o : za_Ok (z_rm 5 113) 0 0 p s m args meth c G RX8 cX8_carryOut 3 (some .int)) {q : Nat} (hq : z_is q 8)  (n : Nat) : ∀ (v1 : Int32) (v2 : Int32) (μ : zMem), fX8_carryOut_18  K q n v1 v2 μ → za_At p l e (z_rm 5 113) s m args below meth c (MQ below (zQi G K) args s 0 0 (zA G)) G 3 0 0 18 [(0, .ref (G.2.2 + q)), (1, .int v1), (2, .int v2)] [] μ := by
  induction n with
  | zero => intro _ _ _ hf; exact hf.elim
  | succ n ih => intro v1 v2 μ  hf; exact tX8_carryOut_18b o hq  ih v1 v2 μ  hf
set_option maxRecDepth 100000 in
set_option maxHeartbeats 4000000 in
theorem ctX8_carryOut (l : Launch) (G : zG) {q : Nat} (hq : z_is q 8)   (μ : zMem) (K : Int32 → zMem → Prop) (hf : fX8_carryOut q  μ K) : z_Met l G yX8_carryOut cX8_carryOut 3 (some .int) (z_rm 5 113) [.ref (G.2.2 + q)] μ K := by
  refine z_body (by decide) (Nat.le_of_ble_eq_true rfl) (fun p e s m args below meth c o => ?_)
  have o : za_Ok (z_rm 5 113) 0 0 p s m args meth c G RX8 cX8_carryOut 3 (some .int) := o
  show za_At p l e (z_rm 5 113) s m args below meth c (MQ below (zQi G K) args s 0 0 (zA G)) G 3 0 0 0 [(0, .ref (G.2.2 + q))] [] μ
  unfold fX8_carryOut at hf
  refine za_aload_n o 0 dX8_carryOut_0 rfl rfl ?_
  refine za_callVi o [] (ctX8_faultOf l G hq   μ _ hf) zc8 hq mwX8_faultOf wmX8_160 wiX8_faultOf wsX8_faultOf rfl ⟨Nat.le_of_ble_eq_true rfl, Nat.le_of_ble_eq_true rfl⟩ rfl (Nat.le_of_ble_eq_true rfl) dX8_carryOut_1 (fun r11 m12 hf => ?_)
  refine za_if_lt o 10 dX8_carryOut_4 (by decide) (fun c13 => ?_) (fun c13 => ?_)
  · replace hf := hf.1 c13
    refine za_aload_n o 0 dX8_carryOut_10 rfl rfl ?_
    refine za_callVv o [] (ctX8_hold l G hq   m12 _ hf) zc8 hq mwX8_hold wmX8_88 wiX8_hold wsX8_hold rfl ⟨Nat.le_of_ble_eq_true rfl, Nat.le_of_ble_eq_true rfl⟩ rfl (Nat.le_of_ble_eq_true rfl) dX8_carryOut_11 (fun m15 hf => ?_)
    refine za_iconst (v := (0 : Int32)) o dX8_carryOut_14 (by decide) ?_
    refine za_istore_n o [(1, .int (0 : Int32)), (0, .ref (G.2.2 + q))] dX8_carryOut_15 rfl (by decide) rfl ?_
    refine za_iconst (v := (1 : Int32)) o dX8_carryOut_16 (by decide) ?_
    refine za_istore_n o [(2, .int (1 : Int32)), (1, .int (0 : Int32)), (0, .ref (G.2.2 + q))] dX8_carryOut_17 rfl (by decide) rfl ?_
    refine za_sub [2, 1, 0] rfl ?_
    exact tX8_carryOut_18 o hq  zFU (0 : Int32) (1 : Int32) m15  hf
  · replace hf := hf.2 c13
    refine za_bipush (v := (-3 : Int32)) o dX8_carryOut_7 (by decide) ?_
    exact za_iret o rfl hf dX8_carryOut_9
def fX8_undo_22b (k22 : Int32 → zMem → Prop) (K : Int32 → zMem → Prop) (q : Nat) (v1 : Int32) (μ : zMem) : Prop :=
  (((276 : Int32) ≤ v1 → K (μ q 8) μ) ∧ (¬ (276 : Int32) ≤ v1 → (∀ x2 : Int32, x2 = ((276 : Int32) * (μ q 8)) → (∀ x3 : Int32, x3 = (x2 + v1) → (vp_in x3 1656 ∧ (∀ x5 : Int32, x5 = (μ 532 x3.toNatClampNeg) → (vp_in v1 276 ∧ (∀ m7 : zMem, m7 = z_up μ 530 v1.toNatClampNeg x5 → (∀ x8 : Int32, x8 = v1 + (1 : Int32) → k22 x8 m7)))))))))
def fX8_undo_22  (K : Int32 → zMem → Prop) (q : Nat) (n : Nat) : Int32 → zMem → Prop := z_it (fun k => fX8_undo_22b  k K q ) (fun _ _ => False) n
def fX8_undo (q : Nat)  (μ : zMem) (K : Int32 → zMem → Prop) : Prop :=
  ((¬ (μ q 8) = 0 → (∀ x10 : Int32, x10 = ((μ q 8) - (1 : Int32)) → (∀ m11 : zMem, m11 = z_up μ q 8 x10 → fX8_undo_22  K q zFU (0 : Int32) m11))) ∧ ((μ q 8) = 0 → K (-5 : Int32) μ))
set_option maxRecDepth 100000 in
set_option maxHeartbeats 4000000 in
theorem tX8_undo_22b {p : Program} {l : Launch} {e : Env} {s : State} {m : MethodId} {args : Array Value} {below : List Frame} {meth : Method} {c : Code} {G : zG} {k22 : Int32 → zMem → Prop} {K : Int32 → zMem → Prop} (o : za_Ok (z_rm 0 0) 0 0 p s m args meth c G RX8 cX8_undo 2 (some .int)) {q : Nat} (hq : z_is q 8) (hk22 : ∀ (v1 : Int32) (μ : zMem), k22 v1 μ → za_At p l e (z_rm 0 0) s m args below meth c (MQ below (zQi G K) args s 0 0 (zA G)) G 2 0 0 22 [(0, .ref (G.2.2 + q)), (1, .int v1)] [] μ) (v1 : Int32) (μ : zMem)  (hf : fX8_undo_22b k22 K q v1 μ) : za_At p l e (z_rm 0 0) s m args below meth c (MQ below (zQi G K) args s 0 0 (zA G)) G 2 0 0 22 [(0, .ref (G.2.2 + q)), (1, .int v1)] [] μ := by
  unfold fX8_undo_22b at hf
  refine za_iload_n o 1 dX8_undo_22 rfl rfl ?_
  refine za_sipush (v := (276 : Int32)) o dX8_undo_23 (by decide) ?_
  refine za_icmp_ge o 56 dX8_undo_26 (by decide) (fun c1 => ?_) (fun c1 => ?_)
  · replace hf := hf.1 c1
    refine za_aload_n o 0 dX8_undo_56 rfl rfl ?_
    refine za_getf o 8 zc8 hq (Nat.le_of_ble_eq_true rfl) wfX8_37 rfl dX8_undo_57 ?_
    exact za_iret o rfl hf dX8_undo_60
  · replace hf := hf.2 c1
    refine za_aload_n o 0 dX8_undo_29 rfl rfl ?_
    refine za_getf o 0 zc8 hq (Nat.le_of_ble_eq_true rfl) wfX8_7 rfl dX8_undo_30 ?_
    refine za_iload_n o 1 dX8_undo_33 rfl rfl ?_
    refine za_aload_n o 0 dX8_undo_34 rfl rfl ?_
    refine za_getf o 2 zc8 hq (Nat.le_of_ble_eq_true rfl) wfX8_16 rfl dX8_undo_35 ?_
    refine za_sipush (v := (276 : Int32)) o dX8_undo_38 (by decide) ?_
    refine za_aload_n o 0 dX8_undo_41 rfl rfl ?_
    refine za_getf o 8 zc8 hq (Nat.le_of_ble_eq_true rfl) wfX8_37 rfl dX8_undo_42 ?_
    refine za_imul o dX8_undo_45 ?_
    refine za_topi (fun x2 ex2 => ?_)
    replace hf := hf x2 ex2
    refine za_iload_n o 1 dX8_undo_46 rfl rfl ?_
    refine za_iadd o dX8_undo_47 ?_
    refine za_topi (fun x3 ex3 => ?_)
    replace hf := hf x3 ex3
    obtain ⟨g4, hf⟩ := hf
    refine za_iald o zk_m2 rfl g4 dX8_undo_48 ?_
    refine za_topi (fun x5 ex5 => ?_)
    replace hf := hf x5 ex5
    obtain ⟨g6, hf⟩ := hf
    refine za_iast o zk_m0 rfl g6 dX8_undo_49 ?_
    refine za_mem (fun m7 em7 => ?_)
    replace hf := hf m7 em7
    obtain ⟨x8, ex8⟩ : ∃ y : Int32, y = v1 + (1 : Int32) := ⟨_, rfl⟩
    replace hf := hf x8 ex8
    refine za_iinc o x8 1 [(1, .int x8), (0, .ref (G.2.2 + q))] dX8_undo_50 rfl (by rw [ex8]; rfl) (by decide) rfl ?_
    refine za_goto o 22 dX8_undo_53 (by decide) ?_
    refine za_sub [1, 0] rfl ?_
    exact hk22 x8 m7  hf
theorem tX8_undo_22 {p : Program} {l : Launch} {e : Env} {s : State} {m : MethodId} {args : Array Value} {below : List Frame} {meth : Method} {c : Code} {G : zG}  {K : Int32 → zMem → Prop} (o : za_Ok (z_rm 0 0) 0 0 p s m args meth c G RX8 cX8_undo 2 (some .int)) {q : Nat} (hq : z_is q 8)  (n : Nat) : ∀ (v1 : Int32) (μ : zMem), fX8_undo_22  K q n v1 μ → za_At p l e (z_rm 0 0) s m args below meth c (MQ below (zQi G K) args s 0 0 (zA G)) G 2 0 0 22 [(0, .ref (G.2.2 + q)), (1, .int v1)] [] μ := by
  induction n with
  | zero => intro _ _ hf; exact hf.elim
  | succ n ih => intro v1 μ  hf; exact tX8_undo_22b o hq  ih v1 μ  hf
set_option maxRecDepth 100000 in
set_option maxHeartbeats 4000000 in
theorem ctX8_undo (l : Launch) (G : zG) {q : Nat} (hq : z_is q 8)   (μ : zMem) (K : Int32 → zMem → Prop) (hf : fX8_undo q  μ K) : z_Met l G yX8_undo cX8_undo 2 (some .int) (z_rm 0 0) [.ref (G.2.2 + q)] μ K := by
  refine z_body (by decide) (Nat.le_of_ble_eq_true rfl) (fun p e s m args below meth c o => ?_)
  have o : za_Ok (z_rm 0 0) 0 0 p s m args meth c G RX8 cX8_undo 2 (some .int) := o
  show za_At p l e (z_rm 0 0) s m args below meth c (MQ below (zQi G K) args s 0 0 (zA G)) G 2 0 0 0 [(0, .ref (G.2.2 + q))] [] μ
  unfold fX8_undo at hf
  refine za_aload_n o 0 dX8_undo_0 rfl rfl ?_
  refine za_getf o 8 zc8 hq (Nat.le_of_ble_eq_true rfl) wfX8_37 rfl dX8_undo_1 ?_
  refine za_if_ne o 10 dX8_undo_4 (by decide) (fun c9 => ?_) (fun c9 => ?_)
  · replace hf := hf.1 c9
    refine za_aload_n o 0 dX8_undo_10 rfl rfl ?_
    refine za_dup o dX8_undo_11 rfl ?_
    refine za_getf o 8 zc8 hq (Nat.le_of_ble_eq_true rfl) wfX8_37 rfl dX8_undo_12 ?_
    refine za_iconst (v := (1 : Int32)) o dX8_undo_15 (by decide) ?_
    refine za_isub o dX8_undo_16 ?_
    refine za_topi (fun x10 ex10 => ?_)
    replace hf := hf x10 ex10
    refine za_putf (ty := .int) o 8 zc8 hq (Nat.le_of_ble_eq_true rfl) wfX8_37 rfl (by decide +kernel) rfl rfl (Nat.le_of_ble_eq_true rfl) rfl dX8_undo_17 ?_
    refine za_mem (fun m11 em11 => ?_)
    replace hf := hf m11 em11
    refine za_iconst (v := (0 : Int32)) o dX8_undo_20 (by decide) ?_
    refine za_istore_n o [(1, .int (0 : Int32)), (0, .ref (G.2.2 + q))] dX8_undo_21 rfl (by decide) rfl ?_
    refine za_sub [1, 0] rfl ?_
    exact tX8_undo_22 o hq  zFU (0 : Int32) m11  hf
  · replace hf := hf.2 c9
    refine za_bipush (v := (-5 : Int32)) o dX8_undo_7 (by decide) ?_
    exact za_iret o rfl hf dX8_undo_9
def fX8_save_14b (k14 : Int32 → Int32 → zMem → Prop) (K : Int32 → zMem → Prop) (q : Nat) (v1 : Int32) (v2 : Int32) (μ : zMem) : Prop :=
  (((276 : Int32) ≤ v2 → (vp_in v1 2 ∧ (∀ m3 : zMem, m3 = z_up μ 534 v1.toNatClampNeg (vp_nar .boolean (1 : Int32)) → (∀ x4 : Int32, x4 = (m3 530 5) → K x4 m3)))) ∧ (¬ (276 : Int32) ≤ v2 → (∀ x5 : Int32, x5 = ((276 : Int32) * v1) → (∀ x6 : Int32, x6 = (x5 + v2) → (vp_in v2 276 ∧ (∀ x8 : Int32, x8 = (μ 530 v2.toNatClampNeg) → (vp_in x6 552 ∧ (∀ m10 : zMem, m10 = z_up μ 533 x6.toNatClampNeg x8 → (∀ x11 : Int32, x11 = v2 + (1 : Int32) → k14 v1 x11 m10)))))))))
def fX8_save_14  (K : Int32 → zMem → Prop) (q : Nat) (n : Nat) : Int32 → Int32 → zMem → Prop := z_it (fun k => fX8_save_14b  k K q ) (fun _ _ _ => False) n
def fX8_save (q : Nat) (a1 : Int32) (μ : zMem) (K : Int32 → zMem → Prop) : Prop :=
  fX8_in a1 (0 : Int32) (1 : Int32) μ (fun r12 m13 => ((¬ r12 = 0 → fX8_save_14  K q zFU a1 (0 : Int32) m13) ∧ (r12 = 0 → K (-2 : Int32) m13)))
set_option maxRecDepth 100000 in
set_option maxHeartbeats 4000000 in
theorem tX8_save_14b {p : Program} {l : Launch} {e : Env} {s : State} {m : MethodId} {args : Array Value} {below : List Frame} {meth : Method} {c : Code} {G : zG} {k14 : Int32 → Int32 → zMem → Prop} {K : Int32 → zMem → Prop} (o : za_Ok (z_rm 1 22) 0 0 p s m args meth c G RX8 cX8_save 3 (some .int)) {q : Nat} (hq : z_is q 8) (hk14 : ∀ (v1 : Int32) (v2 : Int32) (μ : zMem), k14 v1 v2 μ → za_At p l e (z_rm 1 22) s m args below meth c (MQ below (zQi G K) args s 0 0 (zA G)) G 3 0 0 14 [(0, .ref (G.2.2 + q)), (1, .int v1), (2, .int v2)] [] μ) (v1 : Int32) (v2 : Int32) (μ : zMem)  (hf : fX8_save_14b k14 K q v1 v2 μ) : za_At p l e (z_rm 1 22) s m args below meth c (MQ below (zQi G K) args s 0 0 (zA G)) G 3 0 0 14 [(0, .ref (G.2.2 + q)), (1, .int v1), (2, .int v2)] [] μ := by
  unfold fX8_save_14b at hf
  refine za_iload_n o 2 dX8_save_14 rfl rfl ?_
  refine za_sipush (v := (276 : Int32)) o dX8_save_15 (by decide) ?_
  refine za_icmp_ge o 45 dX8_save_18 (by decide) (fun c1 => ?_) (fun c1 => ?_)
  · replace hf := hf.1 c1
    refine za_aload_n o 0 dX8_save_45 rfl rfl ?_
    refine za_getf o 4 zc8 hq (Nat.le_of_ble_eq_true rfl) wfX8_22 rfl dX8_save_46 ?_
    refine za_iload_n o 1 dX8_save_49 rfl rfl ?_
    refine za_iconst (v := (1 : Int32)) o dX8_save_50 (by decide) ?_
    obtain ⟨g2, hf⟩ := hf
    refine za_zast o zk_m4 rfl g2 dX8_save_51 ?_
    refine za_mem (fun m3 em3 => ?_)
    replace hf := hf m3 em3
    refine za_aload_n o 0 dX8_save_52 rfl rfl ?_
    refine za_getf o 0 zc8 hq (Nat.le_of_ble_eq_true rfl) wfX8_7 rfl dX8_save_53 ?_
    refine za_iconst (v := (5 : Int32)) o dX8_save_56 (by decide) ?_
    refine za_iald o zk_m0 rfl (by unfold vp_in; decide) dX8_save_57 ?_
    refine za_topi (fun x4 ex4 => ?_)
    replace hf := hf x4 ex4
    exact za_iret o rfl hf dX8_save_58
  · replace hf := hf.2 c1
    refine za_aload_n o 0 dX8_save_21 rfl rfl ?_
    refine za_getf o 3 zc8 hq (Nat.le_of_ble_eq_true rfl) wfX8_19 rfl dX8_save_22 ?_
    refine za_sipush (v := (276 : Int32)) o dX8_save_25 (by decide) ?_
    refine za_iload_n o 1 dX8_save_28 rfl rfl ?_
    refine za_imul o dX8_save_29 ?_
    refine za_topi (fun x5 ex5 => ?_)
    replace hf := hf x5 ex5
    refine za_iload_n o 2 dX8_save_30 rfl rfl ?_
    refine za_iadd o dX8_save_31 ?_
    refine za_topi (fun x6 ex6 => ?_)
    replace hf := hf x6 ex6
    refine za_aload_n o 0 dX8_save_32 rfl rfl ?_
    refine za_getf o 0 zc8 hq (Nat.le_of_ble_eq_true rfl) wfX8_7 rfl dX8_save_33 ?_
    refine za_iload_n o 2 dX8_save_36 rfl rfl ?_
    obtain ⟨g7, hf⟩ := hf
    refine za_iald o zk_m0 rfl g7 dX8_save_37 ?_
    refine za_topi (fun x8 ex8 => ?_)
    replace hf := hf x8 ex8
    obtain ⟨g9, hf⟩ := hf
    refine za_iast o zk_m3 rfl g9 dX8_save_38 ?_
    refine za_mem (fun m10 em10 => ?_)
    replace hf := hf m10 em10
    obtain ⟨x11, ex11⟩ : ∃ y : Int32, y = v2 + (1 : Int32) := ⟨_, rfl⟩
    replace hf := hf x11 ex11
    refine za_iinc o x11 2 [(2, .int x11), (0, .ref (G.2.2 + q)), (1, .int v1)] dX8_save_39 rfl (by rw [ex11]; rfl) (by decide) rfl ?_
    refine za_goto o 14 dX8_save_42 (by decide) ?_
    refine za_sub [1, 2, 0] rfl ?_
    exact hk14 v1 x11 m10  hf
theorem tX8_save_14 {p : Program} {l : Launch} {e : Env} {s : State} {m : MethodId} {args : Array Value} {below : List Frame} {meth : Method} {c : Code} {G : zG}  {K : Int32 → zMem → Prop} (o : za_Ok (z_rm 1 22) 0 0 p s m args meth c G RX8 cX8_save 3 (some .int)) {q : Nat} (hq : z_is q 8)  (n : Nat) : ∀ (v1 : Int32) (v2 : Int32) (μ : zMem), fX8_save_14  K q n v1 v2 μ → za_At p l e (z_rm 1 22) s m args below meth c (MQ below (zQi G K) args s 0 0 (zA G)) G 3 0 0 14 [(0, .ref (G.2.2 + q)), (1, .int v1), (2, .int v2)] [] μ := by
  induction n with
  | zero => intro _ _ _ hf; exact hf.elim
  | succ n ih => intro v1 v2 μ  hf; exact tX8_save_14b o hq  ih v1 v2 μ  hf
set_option maxRecDepth 100000 in
set_option maxHeartbeats 4000000 in
theorem ctX8_save (l : Launch) (G : zG) {q : Nat} (hq : z_is q 8) (a1 : Int32)  (μ : zMem) (K : Int32 → zMem → Prop) (hf : fX8_save q a1 μ K) : z_Met l G yX8_save cX8_save 3 (some .int) (z_rm 1 22) [.ref (G.2.2 + q), .int a1] μ K := by
  refine z_body (by decide) (Nat.le_of_ble_eq_true rfl) (fun p e s m args below meth c o => ?_)
  have o : za_Ok (z_rm 1 22) 0 0 p s m args meth c G RX8 cX8_save 3 (some .int) := o
  show za_At p l e (z_rm 1 22) s m args below meth c (MQ below (zQi G K) args s 0 0 (zA G)) G 3 0 0 0 [(0, .ref (G.2.2 + q)), (1, .int a1)] [] μ
  unfold fX8_save at hf
  refine za_iload_n o 1 dX8_save_0 rfl rfl ?_
  refine za_iconst (v := (0 : Int32)) o dX8_save_1 (by decide) ?_
  refine za_iconst (v := (1 : Int32)) o dX8_save_2 (by decide) ?_
  refine za_callSi o [.int a1, .int (0 : Int32), .int (1 : Int32)] (ctX8_in l G a1 (0 : Int32) (1 : Int32)  μ _ hf) mwX8_in wmX8_33 wtX8_in rfl ⟨Nat.le_of_ble_eq_true rfl, Nat.le_of_ble_eq_true rfl⟩ rfl (Nat.le_of_ble_eq_true rfl) dX8_save_3 (fun r12 m13 hf => ?_)
  refine za_if_ne o 12 dX8_save_6 (by decide) (fun c14 => ?_) (fun c14 => ?_)
  · replace hf := hf.1 c14
    refine za_iconst (v := (0 : Int32)) o dX8_save_12 (by decide) ?_
    refine za_istore_n o [(2, .int (0 : Int32)), (0, .ref (G.2.2 + q)), (1, .int a1)] dX8_save_13 rfl (by decide) rfl ?_
    refine za_sub [1, 2, 0] rfl ?_
    exact tX8_save_14 o hq  zFU a1 (0 : Int32) m13  hf
  · replace hf := hf.2 c14
    refine za_bipush (v := (-2 : Int32)) o dX8_save_9 (by decide) ?_
    exact za_iret o rfl hf dX8_save_11
def fX8_restore_30b (k30 : Int32 → Int32 → zMem → Prop) (K : Int32 → zMem → Prop) (q : Nat) (v1 : Int32) (v2 : Int32) (μ : zMem) : Prop :=
  (((276 : Int32) ≤ v2 → (∀ x2 : Int32, x2 = (μ 530 5) → fX8_recorded q x2 μ (fun r3 m4 => K r3 m4))) ∧ (¬ (276 : Int32) ≤ v2 → (∀ x5 : Int32, x5 = ((276 : Int32) * v1) → (∀ x6 : Int32, x6 = (x5 + v2) → (vp_in x6 552 ∧ (∀ x8 : Int32, x8 = (μ 533 x6.toNatClampNeg) → (vp_in v2 276 ∧ (∀ m10 : zMem, m10 = z_up μ 530 v2.toNatClampNeg x8 → (∀ x11 : Int32, x11 = v2 + (1 : Int32) → k30 v1 x11 m10)))))))))
def fX8_restore_30  (K : Int32 → zMem → Prop) (q : Nat) (n : Nat) : Int32 → Int32 → zMem → Prop := z_it (fun k => fX8_restore_30b  k K q ) (fun _ _ _ => False) n
def fX8_restore (q : Nat) (a1 : Int32) (μ : zMem) (K : Int32 → zMem → Prop) : Prop :=
  fX8_in a1 (0 : Int32) (1 : Int32) μ (fun r12 m13 => ((¬ r12 = 0 → (vp_in a1 2 ∧ (∀ x16 : Int32, x16 = (m13 534 a1.toNatClampNeg) → ((¬ x16 = 0 → fX8_hold q  m13 (fun m19 => fX8_restore_30  K q zFU a1 (0 : Int32) m19)) ∧ (x16 = 0 → K (-5 : Int32) m13))))) ∧ (r12 = 0 → K (-2 : Int32) m13)))
set_option maxRecDepth 100000 in
set_option maxHeartbeats 4000000 in
theorem tX8_restore_30b {p : Program} {l : Launch} {e : Env} {s : State} {m : MethodId} {args : Array Value} {below : List Frame} {meth : Method} {c : Code} {G : zG} {k30 : Int32 → Int32 → zMem → Prop} {K : Int32 → zMem → Prop} (o : za_Ok (z_rm 1 22) 0 0 p s m args meth c G RX8 cX8_restore 3 (some .int)) {q : Nat} (hq : z_is q 8) (hk30 : ∀ (v1 : Int32) (v2 : Int32) (μ : zMem), k30 v1 v2 μ → za_At p l e (z_rm 1 22) s m args below meth c (MQ below (zQi G K) args s 0 0 (zA G)) G 3 0 0 30 [(0, .ref (G.2.2 + q)), (1, .int v1), (2, .int v2)] [] μ) (v1 : Int32) (v2 : Int32) (μ : zMem)  (hf : fX8_restore_30b k30 K q v1 v2 μ) : za_At p l e (z_rm 1 22) s m args below meth c (MQ below (zQi G K) args s 0 0 (zA G)) G 3 0 0 30 [(0, .ref (G.2.2 + q)), (1, .int v1), (2, .int v2)] [] μ := by
  unfold fX8_restore_30b at hf
  refine za_iload_n o 2 dX8_restore_30 rfl rfl ?_
  refine za_sipush (v := (276 : Int32)) o dX8_restore_31 (by decide) ?_
  refine za_icmp_ge o 61 dX8_restore_34 (by decide) (fun c1 => ?_) (fun c1 => ?_)
  · replace hf := hf.1 c1
    refine za_aload_n o 0 dX8_restore_61 rfl rfl ?_
    refine za_aload_n o 0 dX8_restore_62 rfl rfl ?_
    refine za_getf o 0 zc8 hq (Nat.le_of_ble_eq_true rfl) wfX8_7 rfl dX8_restore_63 ?_
    refine za_iconst (v := (5 : Int32)) o dX8_restore_66 (by decide) ?_
    refine za_iald o zk_m0 rfl (by unfold vp_in; decide) dX8_restore_67 ?_
    refine za_topi (fun x2 ex2 => ?_)
    replace hf := hf x2 ex2
    refine za_callVi o [.int x2] (ctX8_recorded l G hq x2  μ _ hf) zc8 hq mwX8_recorded wmX8_91 wiX8_recorded wsX8_recorded rfl ⟨Nat.le_of_ble_eq_true rfl, Nat.le_of_ble_eq_true rfl⟩ rfl (Nat.le_of_ble_eq_true rfl) dX8_restore_68 (fun r3 m4 hf => ?_)
    exact za_iret o rfl hf dX8_restore_71
  · replace hf := hf.2 c1
    refine za_aload_n o 0 dX8_restore_37 rfl rfl ?_
    refine za_getf o 0 zc8 hq (Nat.le_of_ble_eq_true rfl) wfX8_7 rfl dX8_restore_38 ?_
    refine za_iload_n o 2 dX8_restore_41 rfl rfl ?_
    refine za_aload_n o 0 dX8_restore_42 rfl rfl ?_
    refine za_getf o 3 zc8 hq (Nat.le_of_ble_eq_true rfl) wfX8_19 rfl dX8_restore_43 ?_
    refine za_sipush (v := (276 : Int32)) o dX8_restore_46 (by decide) ?_
    refine za_iload_n o 1 dX8_restore_49 rfl rfl ?_
    refine za_imul o dX8_restore_50 ?_
    refine za_topi (fun x5 ex5 => ?_)
    replace hf := hf x5 ex5
    refine za_iload_n o 2 dX8_restore_51 rfl rfl ?_
    refine za_iadd o dX8_restore_52 ?_
    refine za_topi (fun x6 ex6 => ?_)
    replace hf := hf x6 ex6
    obtain ⟨g7, hf⟩ := hf
    refine za_iald o zk_m3 rfl g7 dX8_restore_53 ?_
    refine za_topi (fun x8 ex8 => ?_)
    replace hf := hf x8 ex8
    obtain ⟨g9, hf⟩ := hf
    refine za_iast o zk_m0 rfl g9 dX8_restore_54 ?_
    refine za_mem (fun m10 em10 => ?_)
    replace hf := hf m10 em10
    obtain ⟨x11, ex11⟩ : ∃ y : Int32, y = v2 + (1 : Int32) := ⟨_, rfl⟩
    replace hf := hf x11 ex11
    refine za_iinc o x11 2 [(2, .int x11), (0, .ref (G.2.2 + q)), (1, .int v1)] dX8_restore_55 rfl (by rw [ex11]; rfl) (by decide) rfl ?_
    refine za_goto o 30 dX8_restore_58 (by decide) ?_
    refine za_sub [1, 2, 0] rfl ?_
    exact hk30 v1 x11 m10  hf
theorem tX8_restore_30 {p : Program} {l : Launch} {e : Env} {s : State} {m : MethodId} {args : Array Value} {below : List Frame} {meth : Method} {c : Code} {G : zG}  {K : Int32 → zMem → Prop} (o : za_Ok (z_rm 1 22) 0 0 p s m args meth c G RX8 cX8_restore 3 (some .int)) {q : Nat} (hq : z_is q 8)  (n : Nat) : ∀ (v1 : Int32) (v2 : Int32) (μ : zMem), fX8_restore_30  K q n v1 v2 μ → za_At p l e (z_rm 1 22) s m args below meth c (MQ below (zQi G K) args s 0 0 (zA G)) G 3 0 0 30 [(0, .ref (G.2.2 + q)), (1, .int v1), (2, .int v2)] [] μ := by
  induction n with
  | zero => intro _ _ _ hf; exact hf.elim
  | succ n ih => intro v1 v2 μ  hf; exact tX8_restore_30b o hq  ih v1 v2 μ  hf
set_option maxRecDepth 100000 in
set_option maxHeartbeats 4000000 in
theorem ctX8_restore (l : Launch) (G : zG) {q : Nat} (hq : z_is q 8) (a1 : Int32)  (μ : zMem) (K : Int32 → zMem → Prop) (hf : fX8_restore q a1 μ K) : z_Met l G yX8_restore cX8_restore 3 (some .int) (z_rm 1 22) [.ref (G.2.2 + q), .int a1] μ K := by
  refine z_body (by decide) (Nat.le_of_ble_eq_true rfl) (fun p e s m args below meth c o => ?_)
  have o : za_Ok (z_rm 1 22) 0 0 p s m args meth c G RX8 cX8_restore 3 (some .int) := o
  show za_At p l e (z_rm 1 22) s m args below meth c (MQ below (zQi G K) args s 0 0 (zA G)) G 3 0 0 0 [(0, .ref (G.2.2 + q)), (1, .int a1)] [] μ
  unfold fX8_restore at hf
  refine za_iload_n o 1 dX8_restore_0 rfl rfl ?_
  refine za_iconst (v := (0 : Int32)) o dX8_restore_1 (by decide) ?_
  refine za_iconst (v := (1 : Int32)) o dX8_restore_2 (by decide) ?_
  refine za_callSi o [.int a1, .int (0 : Int32), .int (1 : Int32)] (ctX8_in l G a1 (0 : Int32) (1 : Int32)  μ _ hf) mwX8_in wmX8_33 wtX8_in rfl ⟨Nat.le_of_ble_eq_true rfl, Nat.le_of_ble_eq_true rfl⟩ rfl (Nat.le_of_ble_eq_true rfl) dX8_restore_3 (fun r12 m13 hf => ?_)
  refine za_if_ne o 12 dX8_restore_6 (by decide) (fun c14 => ?_) (fun c14 => ?_)
  · replace hf := hf.1 c14
    refine za_aload_n o 0 dX8_restore_12 rfl rfl ?_
    refine za_getf o 4 zc8 hq (Nat.le_of_ble_eq_true rfl) wfX8_22 rfl dX8_restore_13 ?_
    refine za_iload_n o 1 dX8_restore_16 rfl rfl ?_
    obtain ⟨g15, hf⟩ := hf
    refine za_zald o zk_m4 rfl g15 dX8_restore_17 ?_
    refine za_topi (fun x16 ex16 => ?_)
    replace hf := hf x16 ex16
    refine za_if_ne o 24 dX8_restore_18 (by decide) (fun c17 => ?_) (fun c17 => ?_)
    · replace hf := hf.1 c17
      refine za_aload_n o 0 dX8_restore_24 rfl rfl ?_
      refine za_callVv o [] (ctX8_hold l G hq   m13 _ hf) zc8 hq mwX8_hold wmX8_88 wiX8_hold wsX8_hold rfl ⟨Nat.le_of_ble_eq_true rfl, Nat.le_of_ble_eq_true rfl⟩ rfl (Nat.le_of_ble_eq_true rfl) dX8_restore_25 (fun m19 hf => ?_)
      refine za_iconst (v := (0 : Int32)) o dX8_restore_28 (by decide) ?_
      refine za_istore_n o [(2, .int (0 : Int32)), (0, .ref (G.2.2 + q)), (1, .int a1)] dX8_restore_29 rfl (by decide) rfl ?_
      refine za_sub [1, 2, 0] rfl ?_
      exact tX8_restore_30 o hq  zFU a1 (0 : Int32) m19  hf
    · replace hf := hf.2 c17
      refine za_bipush (v := (-5 : Int32)) o dX8_restore_21 (by decide) ?_
      exact za_iret o rfl hf dX8_restore_23
  · replace hf := hf.2 c14
    refine za_bipush (v := (-2 : Int32)) o dX8_restore_9 (by decide) ?_
    exact za_iret o rfl hf dX8_restore_11
