/-! X8_closes X8_set X8_price X8_person X8_vouchers X8_order X8_callOff X8_cook X8_come X8_buy X8_close X8_daysOf -/
def fX8_closes_22  (K : Int32 → zMem → Prop) (q : Nat)  (μ : zMem) : Prop :=
  K (-5 : Int32) μ
def fX8_closes_99 (k55 : Int32 → Int32 → zMem → Prop) (K : Int32 → zMem → Prop) (q : Nat) (v1 : Int32) (v2 : Int32) (v3 : Int32) (v4 : Int32) (μ : zMem) : Prop :=
  (∀ x1 : Int32, x1 = (v3 + (4 : Int32)) → (vp_in x1 276 ∧ (∀ x3 : Int32, x3 = (μ 530 x1.toNatClampNeg) → (∀ x4 : Int32, x4 = (v3 + (0 : Int32)) → (vp_in x4 276 ∧ (∀ x6 : Int32, x6 = (μ 530 x4.toNatClampNeg) → (∀ x7 : Int32, x7 = (v3 + (1 : Int32)) → (vp_in x7 276 ∧ (∀ x9 : Int32, x9 = (μ 530 x7.toNatClampNeg) → (∀ x10 : Int32, x10 = (x6 + x9) → (∀ x11 : Int32, x11 = (x10 - v4) → (∀ x12 : Int32, x12 = (x3 + x11) → (vp_in x1 276 ∧ (∀ m14 : zMem, m14 = z_up μ 530 x1.toNatClampNeg x12 → (∀ x15 : Int32, x15 = (v3 + (0 : Int32)) → (vp_in x15 276 ∧ (∀ m17 : zMem, m17 = z_up m14 530 x15.toNatClampNeg v4 → (∀ x18 : Int32, x18 = (v3 + (1 : Int32)) → (vp_in x18 276 ∧ (∀ m20 : zMem, m20 = z_up m17 530 x18.toNatClampNeg (0 : Int32) → (∀ x21 : Int32, x21 = v2 + (1 : Int32) → k55 v1 x21 m20)))))))))))))))))))))
def fX8_closes_55b (k55 : Int32 → Int32 → zMem → Prop) (K : Int32 → zMem → Prop) (q : Nat) (v1 : Int32) (v2 : Int32) (μ : zMem) : Prop :=
  (((3 : Int32) ≤ v2 → (∀ x23 : Int32, x23 = (μ 530 7) → (∀ x24 : Int32, x24 = (x23 + v1) → (∀ m25 : zMem, m25 = z_up μ 530 7 x24 → (∀ x26 : Int32, x26 = (m25 530 4) → (∀ x27 : Int32, x27 = (x26 + (1 : Int32)) → (∀ m28 : zMem, m28 = z_up m25 530 4 x27 → (∀ m29 : zMem, m29 = z_up m28 530 6 (0 : Int32) → K v1 m29)))))))) ∧ (¬ (3 : Int32) ≤ v2 → fX8_d v2 μ (fun r30 m31 => (∀ x32 : Int32, x32 = (r30 + (1 : Int32)) → (vp_in x32 276 ∧ (∀ x34 : Int32, x34 = (m31 530 x32.toNatClampNeg) → (∀ x35 : Int32, x35 = (m31 530 1) → ((x35 ≤ x34 → (∀ x37 : Int32, x37 = (m31 530 1) → fX8_closes_99 k55 K q v1 v2 r30 x37 m31)) ∧ (¬ x35 ≤ x34 → (∀ x38 : Int32, x38 = (r30 + (1 : Int32)) → (vp_in x38 276 ∧ (∀ x40 : Int32, x40 = (m31 530 x38.toNatClampNeg) → fX8_closes_99 k55 K q v1 v2 r30 x40 m31))))))))))))
def fX8_closes_55  (K : Int32 → zMem → Prop) (q : Nat) (n : Nat) : Int32 → Int32 → zMem → Prop := z_it (fun k => fX8_closes_55b  k K q ) (fun _ _ _ => False) n
def fX8_closes_29b (k29 : Int32 → Int32 → zMem → Prop) (K : Int32 → zMem → Prop) (q : Nat) (v1 : Int32) (v2 : Int32) (μ : zMem) : Prop :=
  (∀ x41 : Int32, x41 = (μ 530 5) → ((x41 ≤ v2 → fX8_closes_55  K q zFU v1 (0 : Int32) μ) ∧ (¬ x41 ≤ v2 → fX8_endsFor q v2 μ (fun r43 m44 => (∀ x45 : Int32, x45 = (v1 + r43) → (∀ x46 : Int32, x46 = v2 + (1 : Int32) → k29 x45 x46 m44))))))
def fX8_closes_29  (K : Int32 → zMem → Prop) (q : Nat) (n : Nat) : Int32 → Int32 → zMem → Prop := z_it (fun k => fX8_closes_29b  k K q ) (fun _ _ _ => False) n
def fX8_closes (q : Nat)  (μ : zMem) (K : Int32 → zMem → Prop) : Prop :=
  (∀ x47 : Int32, x47 = (μ 530 6) → ((x47 = 0 → fX8_closes_22  K q  μ) ∧ (¬ x47 = 0 → (∀ x49 : Int32, x49 = (μ 530 4) → ((¬ x49 = (9999 : Int32) → fX8_closes_29  K q zFU (0 : Int32) (0 : Int32) μ) ∧ (x49 = (9999 : Int32) → fX8_closes_22  K q  μ))))))
set_option maxRecDepth 100000 in
set_option maxHeartbeats 4000000 in
theorem tX8_closes_22 {p : Program} {l : Launch} {e : Env} {s : State} {m : MethodId} {args : Array Value} {below : List Frame} {meth : Method} {c : Code} {G : zG}  {K : Int32 → zMem → Prop} (o : za_Ok (z_rm 2 44) 0 0 p s m args meth c G RX8 cX8_closes 5 (some .int)) {q : Nat} (hq : z_is q 8)   (μ : zMem)  (hf : fX8_closes_22  K q  μ) : za_At p l e (z_rm 2 44) s m args below meth c (MQ below (zQi G K) args s 0 0 (zA G)) G 5 0 0 22 [] [] μ := by
  unfold fX8_closes_22 at hf
  refine za_bipush (v := (-5 : Int32)) o dX8_closes_22 (by decide) ?_
  exact za_iret o rfl hf dX8_closes_24
set_option maxRecDepth 100000 in
set_option maxHeartbeats 4000000 in
theorem tX8_closes_99 {p : Program} {l : Launch} {e : Env} {s : State} {m : MethodId} {args : Array Value} {below : List Frame} {meth : Method} {c : Code} {G : zG} {k55 : Int32 → Int32 → zMem → Prop} {K : Int32 → zMem → Prop} (o : za_Ok (z_rm 2 44) 0 0 p s m args meth c G RX8 cX8_closes 5 (some .int)) {q : Nat} (hq : z_is q 8) (hk55 : ∀ (v1 : Int32) (v2 : Int32) (μ : zMem), k55 v1 v2 μ → za_At p l e (z_rm 2 44) s m args below meth c (MQ below (zQi G K) args s 0 0 (zA G)) G 5 0 0 55 [(0, .ref (G.2.2 + q)), (1, .int v1), (2, .int v2)] [] μ) (v1 : Int32) (v2 : Int32) (v3 : Int32) (v4 : Int32) (μ : zMem)  (hf : fX8_closes_99 k55 K q v1 v2 v3 v4 μ) : za_At p l e (z_rm 2 44) s m args below meth c (MQ below (zQi G K) args s 0 0 (zA G)) G 5 0 0 99 [(0, .ref (G.2.2 + q)), (1, .int v1), (2, .int v2), (3, .int v3)] [.int v4] μ := by
  unfold fX8_closes_99 at hf
  refine za_istore o [(4, .int v4), (0, .ref (G.2.2 + q)), (1, .int v1), (2, .int v2), (3, .int v3)] dX8_closes_99 (by decide) rfl ?_
  refine za_aload_n o 1 dX8_closes_101 rfl rfl ?_
  refine za_getf o 0 zc8 hq (Nat.le_of_ble_eq_true rfl) wfX8_7 rfl dX8_closes_102 ?_
  refine za_iload_n o 4 dX8_closes_105 rfl rfl ?_
  refine za_iconst (v := (4 : Int32)) o dX8_closes_106 (by decide) ?_
  refine za_iadd o dX8_closes_107 ?_
  refine za_topi (fun x1 ex1 => ?_)
  replace hf := hf x1 ex1
  refine za_dup2 o dX8_closes_108 rfl rfl ?_
  obtain ⟨g2, hf⟩ := hf
  refine za_iald o zk_m0 rfl g2 dX8_closes_109 ?_
  refine za_topi (fun x3 ex3 => ?_)
  replace hf := hf x3 ex3
  refine za_aload_n o 1 dX8_closes_110 rfl rfl ?_
  refine za_getf o 0 zc8 hq (Nat.le_of_ble_eq_true rfl) wfX8_7 rfl dX8_closes_111 ?_
  refine za_iload_n o 4 dX8_closes_114 rfl rfl ?_
  refine za_iconst (v := (0 : Int32)) o dX8_closes_115 (by decide) ?_
  refine za_iadd o dX8_closes_116 ?_
  refine za_topi (fun x4 ex4 => ?_)
  replace hf := hf x4 ex4
  obtain ⟨g5, hf⟩ := hf
  refine za_iald o zk_m0 rfl g5 dX8_closes_117 ?_
  refine za_topi (fun x6 ex6 => ?_)
  replace hf := hf x6 ex6
  refine za_aload_n o 1 dX8_closes_118 rfl rfl ?_
  refine za_getf o 0 zc8 hq (Nat.le_of_ble_eq_true rfl) wfX8_7 rfl dX8_closes_119 ?_
  refine za_iload_n o 4 dX8_closes_122 rfl rfl ?_
  refine za_iconst (v := (1 : Int32)) o dX8_closes_123 (by decide) ?_
  refine za_iadd o dX8_closes_124 ?_
  refine za_topi (fun x7 ex7 => ?_)
  replace hf := hf x7 ex7
  obtain ⟨g8, hf⟩ := hf
  refine za_iald o zk_m0 rfl g8 dX8_closes_125 ?_
  refine za_topi (fun x9 ex9 => ?_)
  replace hf := hf x9 ex9
  refine za_iadd o dX8_closes_126 ?_
  refine za_topi (fun x10 ex10 => ?_)
  replace hf := hf x10 ex10
  refine za_iload o 0 dX8_closes_127 rfl ?_
  refine za_isub o dX8_closes_129 ?_
  refine za_topi (fun x11 ex11 => ?_)
  replace hf := hf x11 ex11
  refine za_iadd o dX8_closes_130 ?_
  refine za_topi (fun x12 ex12 => ?_)
  replace hf := hf x12 ex12
  obtain ⟨g13, hf⟩ := hf
  refine za_iast o zk_m0 rfl g13 dX8_closes_131 ?_
  refine za_mem (fun m14 em14 => ?_)
  replace hf := hf m14 em14
  refine za_aload_n o 1 dX8_closes_132 rfl rfl ?_
  refine za_getf o 0 zc8 hq (Nat.le_of_ble_eq_true rfl) wfX8_7 rfl dX8_closes_133 ?_
  refine za_iload_n o 4 dX8_closes_136 rfl rfl ?_
  refine za_iconst (v := (0 : Int32)) o dX8_closes_137 (by decide) ?_
  refine za_iadd o dX8_closes_138 ?_
  refine za_topi (fun x15 ex15 => ?_)
  replace hf := hf x15 ex15
  refine za_iload o 0 dX8_closes_139 rfl ?_
  obtain ⟨g16, hf⟩ := hf
  refine za_iast o zk_m0 rfl g16 dX8_closes_141 ?_
  refine za_mem (fun m17 em17 => ?_)
  replace hf := hf m17 em17
  refine za_aload_n o 1 dX8_closes_142 rfl rfl ?_
  refine za_getf o 0 zc8 hq (Nat.le_of_ble_eq_true rfl) wfX8_7 rfl dX8_closes_143 ?_
  refine za_iload_n o 4 dX8_closes_146 rfl rfl ?_
  refine za_iconst (v := (1 : Int32)) o dX8_closes_147 (by decide) ?_
  refine za_iadd o dX8_closes_148 ?_
  refine za_topi (fun x18 ex18 => ?_)
  replace hf := hf x18 ex18
  refine za_iconst (v := (0 : Int32)) o dX8_closes_149 (by decide) ?_
  obtain ⟨g19, hf⟩ := hf
  refine za_iast o zk_m0 rfl g19 dX8_closes_150 ?_
  refine za_mem (fun m20 em20 => ?_)
  replace hf := hf m20 em20
  obtain ⟨x21, ex21⟩ : ∃ y : Int32, y = v2 + (1 : Int32) := ⟨_, rfl⟩
  replace hf := hf x21 ex21
  refine za_iinc o x21 3 [(2, .int x21), (4, .int v4), (0, .ref (G.2.2 + q)), (1, .int v1), (3, .int v3)] dX8_closes_151 rfl (by rw [ex21]; rfl) (by decide) rfl ?_
  refine za_goto o 55 dX8_closes_154 (by decide) ?_
  refine za_sub [2, 3, 0] rfl ?_
  exact hk55 v1 x21 m20  hf
set_option maxRecDepth 100000 in
set_option maxHeartbeats 4000000 in
theorem tX8_closes_55b {p : Program} {l : Launch} {e : Env} {s : State} {m : MethodId} {args : Array Value} {below : List Frame} {meth : Method} {c : Code} {G : zG} {k55 : Int32 → Int32 → zMem → Prop} {K : Int32 → zMem → Prop} (o : za_Ok (z_rm 2 44) 0 0 p s m args meth c G RX8 cX8_closes 5 (some .int)) {q : Nat} (hq : z_is q 8) (hk55 : ∀ (v1 : Int32) (v2 : Int32) (μ : zMem), k55 v1 v2 μ → za_At p l e (z_rm 2 44) s m args below meth c (MQ below (zQi G K) args s 0 0 (zA G)) G 5 0 0 55 [(0, .ref (G.2.2 + q)), (1, .int v1), (2, .int v2)] [] μ) (v1 : Int32) (v2 : Int32) (μ : zMem)  (hf : fX8_closes_55b k55 K q v1 v2 μ) : za_At p l e (z_rm 2 44) s m args below meth c (MQ below (zQi G K) args s 0 0 (zA G)) G 5 0 0 55 [(0, .ref (G.2.2 + q)), (1, .int v1), (2, .int v2)] [] μ := by
  unfold fX8_closes_55b at hf
  refine za_iload_n o 2 dX8_closes_55 rfl rfl ?_
  refine za_iconst (v := (3 : Int32)) o dX8_closes_56 (by decide) ?_
  refine za_icmp_ge o 157 dX8_closes_57 (by decide) (fun c22 => ?_) (fun c22 => ?_)
  · replace hf := hf.1 c22
    refine za_aload_n o 0 dX8_closes_157 rfl rfl ?_
    refine za_getf o 0 zc8 hq (Nat.le_of_ble_eq_true rfl) wfX8_7 rfl dX8_closes_158 ?_
    refine za_bipush (v := (7 : Int32)) o dX8_closes_161 (by decide) ?_
    refine za_dup2 o dX8_closes_163 rfl rfl ?_
    refine za_iald o zk_m0 rfl (by unfold vp_in; decide) dX8_closes_164 ?_
    refine za_topi (fun x23 ex23 => ?_)
    replace hf := hf x23 ex23
    refine za_iload_n o 1 dX8_closes_165 rfl rfl ?_
    refine za_iadd o dX8_closes_166 ?_
    refine za_topi (fun x24 ex24 => ?_)
    replace hf := hf x24 ex24
    refine za_iast o zk_m0 rfl (by unfold vp_in; decide) dX8_closes_167 ?_
    refine za_mem (fun m25 em25 => ?_)
    replace hf := hf m25 em25
    refine za_aload_n o 0 dX8_closes_168 rfl rfl ?_
    refine za_getf o 0 zc8 hq (Nat.le_of_ble_eq_true rfl) wfX8_7 rfl dX8_closes_169 ?_
    refine za_iconst (v := (4 : Int32)) o dX8_closes_172 (by decide) ?_
    refine za_dup2 o dX8_closes_173 rfl rfl ?_
    refine za_iald o zk_m0 rfl (by unfold vp_in; decide) dX8_closes_174 ?_
    refine za_topi (fun x26 ex26 => ?_)
    replace hf := hf x26 ex26
    refine za_iconst (v := (1 : Int32)) o dX8_closes_175 (by decide) ?_
    refine za_iadd o dX8_closes_176 ?_
    refine za_topi (fun x27 ex27 => ?_)
    replace hf := hf x27 ex27
    refine za_iast o zk_m0 rfl (by unfold vp_in; decide) dX8_closes_177 ?_
    refine za_mem (fun m28 em28 => ?_)
    replace hf := hf m28 em28
    refine za_aload_n o 0 dX8_closes_178 rfl rfl ?_
    refine za_getf o 0 zc8 hq (Nat.le_of_ble_eq_true rfl) wfX8_7 rfl dX8_closes_179 ?_
    refine za_bipush (v := (6 : Int32)) o dX8_closes_182 (by decide) ?_
    refine za_iconst (v := (0 : Int32)) o dX8_closes_184 (by decide) ?_
    refine za_iast o zk_m0 rfl (by unfold vp_in; decide) dX8_closes_185 ?_
    refine za_mem (fun m29 em29 => ?_)
    replace hf := hf m29 em29
    refine za_iload_n o 1 dX8_closes_186 rfl rfl ?_
    exact za_iret o rfl hf dX8_closes_187
  · replace hf := hf.2 c22
    refine za_iload_n o 2 dX8_closes_60 rfl rfl ?_
    refine za_callSi o [.int v2] (ctX8_d l G v2  μ _ hf) mwX8_d wmX8_51 wtX8_d rfl ⟨Nat.le_of_ble_eq_true rfl, Nat.le_of_ble_eq_true rfl⟩ rfl (Nat.le_of_ble_eq_true rfl) dX8_closes_61 (fun r30 m31 hf => ?_)
    refine za_istore_n o [(3, .int r30), (0, .ref (G.2.2 + q)), (1, .int v1), (2, .int v2)] dX8_closes_64 rfl (by decide) rfl ?_
    refine za_aload_n o 1 dX8_closes_65 rfl rfl ?_
    refine za_getf o 0 zc8 hq (Nat.le_of_ble_eq_true rfl) wfX8_7 rfl dX8_closes_66 ?_
    refine za_iload_n o 0 dX8_closes_69 rfl rfl ?_
    refine za_iconst (v := (1 : Int32)) o dX8_closes_70 (by decide) ?_
    refine za_iadd o dX8_closes_71 ?_
    refine za_topi (fun x32 ex32 => ?_)
    replace hf := hf x32 ex32
    obtain ⟨g33, hf⟩ := hf
    refine za_iald o zk_m0 rfl g33 dX8_closes_72 ?_
    refine za_topi (fun x34 ex34 => ?_)
    replace hf := hf x34 ex34
    refine za_aload_n o 1 dX8_closes_73 rfl rfl ?_
    refine za_getf o 0 zc8 hq (Nat.le_of_ble_eq_true rfl) wfX8_7 rfl dX8_closes_74 ?_
    refine za_iconst (v := (1 : Int32)) o dX8_closes_77 (by decide) ?_
    refine za_iald o zk_m0 rfl (by unfold vp_in; decide) dX8_closes_78 ?_
    refine za_topi (fun x35 ex35 => ?_)
    replace hf := hf x35 ex35
    refine za_icmp_ge o 93 dX8_closes_79 (by decide) (fun c36 => ?_) (fun c36 => ?_)
    · replace hf := hf.1 c36
      refine za_aload_n o 1 dX8_closes_93 rfl rfl ?_
      refine za_getf o 0 zc8 hq (Nat.le_of_ble_eq_true rfl) wfX8_7 rfl dX8_closes_94 ?_
      refine za_iconst (v := (1 : Int32)) o dX8_closes_97 (by decide) ?_
      refine za_iald o zk_m0 rfl (by unfold vp_in; decide) dX8_closes_98 ?_
      refine za_topi (fun x37 ex37 => ?_)
      replace hf := hf x37 ex37
      refine za_sub [1, 2, 3, 0] rfl ?_
      exact tX8_closes_99 o hq hk55 v1 v2 r30 x37 m31  hf
    · replace hf := hf.2 c36
      refine za_aload_n o 1 dX8_closes_82 rfl rfl ?_
      refine za_getf o 0 zc8 hq (Nat.le_of_ble_eq_true rfl) wfX8_7 rfl dX8_closes_83 ?_
      refine za_iload_n o 0 dX8_closes_86 rfl rfl ?_
      refine za_iconst (v := (1 : Int32)) o dX8_closes_87 (by decide) ?_
      refine za_iadd o dX8_closes_88 ?_
      refine za_topi (fun x38 ex38 => ?_)
      replace hf := hf x38 ex38
      obtain ⟨g39, hf⟩ := hf
      refine za_iald o zk_m0 rfl g39 dX8_closes_89 ?_
      refine za_topi (fun x40 ex40 => ?_)
      replace hf := hf x40 ex40
      refine za_goto o 99 dX8_closes_90 (by decide) ?_
      refine za_sub [1, 2, 3, 0] rfl ?_
      exact tX8_closes_99 o hq hk55 v1 v2 r30 x40 m31  hf
theorem tX8_closes_55 {p : Program} {l : Launch} {e : Env} {s : State} {m : MethodId} {args : Array Value} {below : List Frame} {meth : Method} {c : Code} {G : zG}  {K : Int32 → zMem → Prop} (o : za_Ok (z_rm 2 44) 0 0 p s m args meth c G RX8 cX8_closes 5 (some .int)) {q : Nat} (hq : z_is q 8)  (n : Nat) : ∀ (v1 : Int32) (v2 : Int32) (μ : zMem), fX8_closes_55  K q n v1 v2 μ → za_At p l e (z_rm 2 44) s m args below meth c (MQ below (zQi G K) args s 0 0 (zA G)) G 5 0 0 55 [(0, .ref (G.2.2 + q)), (1, .int v1), (2, .int v2)] [] μ := by
  induction n with
  | zero => intro _ _ _ hf; exact hf.elim
  | succ n ih => intro v1 v2 μ  hf; exact tX8_closes_55b o hq  ih v1 v2 μ  hf
set_option maxRecDepth 100000 in
set_option maxHeartbeats 4000000 in
theorem tX8_closes_29b {p : Program} {l : Launch} {e : Env} {s : State} {m : MethodId} {args : Array Value} {below : List Frame} {meth : Method} {c : Code} {G : zG} {k29 : Int32 → Int32 → zMem → Prop} {K : Int32 → zMem → Prop} (o : za_Ok (z_rm 2 44) 0 0 p s m args meth c G RX8 cX8_closes 5 (some .int)) {q : Nat} (hq : z_is q 8) (hk29 : ∀ (v1 : Int32) (v2 : Int32) (μ : zMem), k29 v1 v2 μ → za_At p l e (z_rm 2 44) s m args below meth c (MQ below (zQi G K) args s 0 0 (zA G)) G 5 0 0 29 [(0, .ref (G.2.2 + q)), (1, .int v1), (2, .int v2)] [] μ) (v1 : Int32) (v2 : Int32) (μ : zMem)  (hf : fX8_closes_29b k29 K q v1 v2 μ) : za_At p l e (z_rm 2 44) s m args below meth c (MQ below (zQi G K) args s 0 0 (zA G)) G 5 0 0 29 [(0, .ref (G.2.2 + q)), (1, .int v1), (2, .int v2)] [] μ := by
  unfold fX8_closes_29b at hf
  refine za_iload_n o 2 dX8_closes_29 rfl rfl ?_
  refine za_aload_n o 0 dX8_closes_30 rfl rfl ?_
  refine za_getf o 0 zc8 hq (Nat.le_of_ble_eq_true rfl) wfX8_7 rfl dX8_closes_31 ?_
  refine za_iconst (v := (5 : Int32)) o dX8_closes_34 (by decide) ?_
  refine za_iald o zk_m0 rfl (by unfold vp_in; decide) dX8_closes_35 ?_
  refine za_topi (fun x41 ex41 => ?_)
  replace hf := hf x41 ex41
  refine za_icmp_ge o 53 dX8_closes_36 (by decide) (fun c42 => ?_) (fun c42 => ?_)
  · replace hf := hf.1 c42
    refine za_iconst (v := (0 : Int32)) o dX8_closes_53 (by decide) ?_
    refine za_istore_n o [(2, .int (0 : Int32)), (0, .ref (G.2.2 + q)), (1, .int v1)] dX8_closes_54 rfl (by decide) rfl ?_
    refine za_sub [1, 2, 0] rfl ?_
    exact tX8_closes_55 o hq  zFU v1 (0 : Int32) μ  hf
  · replace hf := hf.2 c42
    refine za_iload_n o 1 dX8_closes_39 rfl rfl ?_
    refine za_aload_n o 0 dX8_closes_40 rfl rfl ?_
    refine za_iload_n o 2 dX8_closes_41 rfl rfl ?_
    refine za_callVi o [.int v2] (ctX8_endsFor l G hq v2  μ _ hf) zc8 hq mwX8_endsFor wmX8_85 wiX8_endsFor wsX8_endsFor rfl ⟨Nat.le_of_ble_eq_true rfl, Nat.le_of_ble_eq_true rfl⟩ rfl (Nat.le_of_ble_eq_true rfl) dX8_closes_42 (fun r43 m44 hf => ?_)
    refine za_iadd o dX8_closes_45 ?_
    refine za_topi (fun x45 ex45 => ?_)
    replace hf := hf x45 ex45
    refine za_istore_n o [(1, .int x45), (0, .ref (G.2.2 + q)), (2, .int v2)] dX8_closes_46 rfl (by decide) rfl ?_
    obtain ⟨x46, ex46⟩ : ∃ y : Int32, y = v2 + (1 : Int32) := ⟨_, rfl⟩
    replace hf := hf x46 ex46
    refine za_iinc o x46 2 [(2, .int x46), (1, .int x45), (0, .ref (G.2.2 + q))] dX8_closes_47 rfl (by rw [ex46]; rfl) (by decide) rfl ?_
    refine za_goto o 29 dX8_closes_50 (by decide) ?_
    refine za_sub [2, 1, 0] rfl ?_
    exact hk29 x45 x46 m44  hf
theorem tX8_closes_29 {p : Program} {l : Launch} {e : Env} {s : State} {m : MethodId} {args : Array Value} {below : List Frame} {meth : Method} {c : Code} {G : zG}  {K : Int32 → zMem → Prop} (o : za_Ok (z_rm 2 44) 0 0 p s m args meth c G RX8 cX8_closes 5 (some .int)) {q : Nat} (hq : z_is q 8)  (n : Nat) : ∀ (v1 : Int32) (v2 : Int32) (μ : zMem), fX8_closes_29  K q n v1 v2 μ → za_At p l e (z_rm 2 44) s m args below meth c (MQ below (zQi G K) args s 0 0 (zA G)) G 5 0 0 29 [(0, .ref (G.2.2 + q)), (1, .int v1), (2, .int v2)] [] μ := by
  induction n with
  | zero => intro _ _ _ hf; exact hf.elim
  | succ n ih => intro v1 v2 μ  hf; exact tX8_closes_29b o hq  ih v1 v2 μ  hf
set_option maxRecDepth 100000 in
set_option maxHeartbeats 4000000 in
theorem ctX8_closes (l : Launch) (G : zG) {q : Nat} (hq : z_is q 8)   (μ : zMem) (K : Int32 → zMem → Prop) (hf : fX8_closes q  μ K) : z_Met l G yX8_closes cX8_closes 5 (some .int) (z_rm 2 44) [.ref (G.2.2 + q)] μ K := by
  refine z_body (by decide) (Nat.le_of_ble_eq_true rfl) (fun p e s m args below meth c o => ?_)
  have o : za_Ok (z_rm 2 44) 0 0 p s m args meth c G RX8 cX8_closes 5 (some .int) := o
  show za_At p l e (z_rm 2 44) s m args below meth c (MQ below (zQi G K) args s 0 0 (zA G)) G 5 0 0 0 [(0, .ref (G.2.2 + q))] [] μ
  unfold fX8_closes at hf
  refine za_aload_n o 0 dX8_closes_0 rfl rfl ?_
  refine za_getf o 0 zc8 hq (Nat.le_of_ble_eq_true rfl) wfX8_7 rfl dX8_closes_1 ?_
  refine za_bipush (v := (6 : Int32)) o dX8_closes_4 (by decide) ?_
  refine za_iald o zk_m0 rfl (by unfold vp_in; decide) dX8_closes_6 ?_
  refine za_topi (fun x47 ex47 => ?_)
  replace hf := hf x47 ex47
  refine za_if_eq o 22 dX8_closes_7 (by decide) (fun c48 => ?_) (fun c48 => ?_)
  · replace hf := hf.1 c48
    refine za_sub [] rfl ?_
    exact tX8_closes_22 o hq   μ  hf
  · replace hf := hf.2 c48
    refine za_aload_n o 0 dX8_closes_10 rfl rfl ?_
    refine za_getf o 0 zc8 hq (Nat.le_of_ble_eq_true rfl) wfX8_7 rfl dX8_closes_11 ?_
    refine za_iconst (v := (4 : Int32)) o dX8_closes_14 (by decide) ?_
    refine za_iald o zk_m0 rfl (by unfold vp_in; decide) dX8_closes_15 ?_
    refine za_topi (fun x49 ex49 => ?_)
    replace hf := hf x49 ex49
    refine za_sipush (v := (9999 : Int32)) o dX8_closes_16 (by decide) ?_
    refine za_icmp_ne o 25 dX8_closes_19 (by decide) (fun c50 => ?_) (fun c50 => ?_)
    · replace hf := hf.1 c50
      refine za_iconst (v := (0 : Int32)) o dX8_closes_25 (by decide) ?_
      refine za_istore_n o [(1, .int (0 : Int32)), (0, .ref (G.2.2 + q))] dX8_closes_26 rfl (by decide) rfl ?_
      refine za_iconst (v := (0 : Int32)) o dX8_closes_27 (by decide) ?_
      refine za_istore_n o [(2, .int (0 : Int32)), (1, .int (0 : Int32)), (0, .ref (G.2.2 + q))] dX8_closes_28 rfl (by decide) rfl ?_
      refine za_sub [2, 1, 0] rfl ?_
      exact tX8_closes_29 o hq  zFU (0 : Int32) (0 : Int32) μ  hf
    · replace hf := hf.2 c50
      refine za_sub [] rfl ?_
      exact tX8_closes_22 o hq   μ  hf
def fX8_set_64  (K : Int32 → zMem → Prop) (q : Nat) (v1 : Int32) (v2 : Int32) (v3 : Int32) (μ : zMem) : Prop :=
  ((¬ v3 = 0 → fX8_hold q  μ (fun m3 => (vp_in v1 276 ∧ (∀ x5 : Int32, x5 = (m3 530 v1.toNatClampNeg) → (vp_in v1 276 ∧ (∀ m7 : zMem, m7 = z_up m3 530 v1.toNatClampNeg v2 → fX8_recorded q x5 m7 (fun r8 m9 => K r8 m9))))))) ∧ (v3 = 0 → K (-2 : Int32) μ))
def fX8_set_63  (K : Int32 → zMem → Prop) (q : Nat) (v1 : Int32) (v2 : Int32) (μ : zMem) : Prop :=
  fX8_set_64  K q v1 v2 (0 : Int32) μ
def fX8_set (q : Nat) (a1 : Int32) (a2 : Int32) (μ : zMem) (K : Int32 → zMem → Prop) : Prop :=
  ((¬ a1 = 0 → ((¬ a1 = (1 : Int32) → ((¬ a1 = (2 : Int32) → ((¬ a1 = (3 : Int32) → fX8_set_63  K q a1 a2 μ) ∧ (a1 = (3 : Int32) → fX8_in a2 (1 : Int32) (20 : Int32) μ (fun r14 m15 => ((r14 = 0 → fX8_set_63  K q a1 a2 m15) ∧ (¬ r14 = 0 → fX8_set_64  K q a1 a2 (1 : Int32) m15)))))) ∧ (a1 = (2 : Int32) → fX8_in a2 (1 : Int32) (9 : Int32) μ (fun r17 m18 => fX8_set_64  K q a1 a2 r17 m18)))) ∧ (a1 = (1 : Int32) → fX8_in a2 (0 : Int32) (20 : Int32) μ (fun r19 m20 => fX8_set_64  K q a1 a2 r19 m20)))) ∧ (a1 = 0 → fX8_in a2 (0 : Int32) (9 : Int32) μ (fun r21 m22 => fX8_set_64  K q a1 a2 r21 m22)))
set_option maxRecDepth 100000 in
set_option maxHeartbeats 4000000 in
theorem tX8_set_64 {p : Program} {l : Launch} {e : Env} {s : State} {m : MethodId} {args : Array Value} {below : List Frame} {meth : Method} {c : Code} {G : zG}  {K : Int32 → zMem → Prop} (o : za_Ok (z_rm 1 22) 0 0 p s m args meth c G RX8 cX8_set 5 (some .int)) {q : Nat} (hq : z_is q 8)  (v1 : Int32) (v2 : Int32) (v3 : Int32) (μ : zMem)  (hf : fX8_set_64  K q v1 v2 v3 μ) : za_At p l e (z_rm 1 22) s m args below meth c (MQ below (zQi G K) args s 0 0 (zA G)) G 5 0 0 64 [(0, .ref (G.2.2 + q)), (1, .int v1), (2, .int v2)] [.int v3] μ := by
  unfold fX8_set_64 at hf
  refine za_istore_n o [(3, .int v3), (0, .ref (G.2.2 + q)), (1, .int v1), (2, .int v2)] dX8_set_64 rfl (by decide) rfl ?_
  refine za_iload_n o 0 dX8_set_65 rfl rfl ?_
  refine za_if_ne o 72 dX8_set_66 (by decide) (fun c1 => ?_) (fun c1 => ?_)
  · replace hf := hf.1 c1
    refine za_aload_n o 1 dX8_set_72 rfl rfl ?_
    refine za_callVv o [] (ctX8_hold l G hq   μ _ hf) zc8 hq mwX8_hold wmX8_88 wiX8_hold wsX8_hold rfl ⟨Nat.le_of_ble_eq_true rfl, Nat.le_of_ble_eq_true rfl⟩ rfl (Nat.le_of_ble_eq_true rfl) dX8_set_73 (fun m3 hf => ?_)
    refine za_aload_n o 1 dX8_set_76 rfl rfl ?_
    refine za_getf o 0 zc8 hq (Nat.le_of_ble_eq_true rfl) wfX8_7 rfl dX8_set_77 ?_
    refine za_iload_n o 2 dX8_set_80 rfl rfl ?_
    obtain ⟨g4, hf⟩ := hf
    refine za_iald o zk_m0 rfl g4 dX8_set_81 ?_
    refine za_topi (fun x5 ex5 => ?_)
    replace hf := hf x5 ex5
    refine za_istore o [(4, .int x5), (3, .int v3), (0, .ref (G.2.2 + q)), (1, .int v1), (2, .int v2)] dX8_set_82 (by decide) rfl ?_
    refine za_aload_n o 2 dX8_set_84 rfl rfl ?_
    refine za_getf o 0 zc8 hq (Nat.le_of_ble_eq_true rfl) wfX8_7 rfl dX8_set_85 ?_
    refine za_iload_n o 3 dX8_set_88 rfl rfl ?_
    refine za_iload_n o 4 dX8_set_89 rfl rfl ?_
    obtain ⟨g6, hf⟩ := hf
    refine za_iast o zk_m0 rfl g6 dX8_set_90 ?_
    refine za_mem (fun m7 em7 => ?_)
    replace hf := hf m7 em7
    refine za_aload_n o 2 dX8_set_91 rfl rfl ?_
    refine za_iload o 0 dX8_set_92 rfl ?_
    refine za_callVi o [.int x5] (ctX8_recorded l G hq x5  m7 _ hf) zc8 hq mwX8_recorded wmX8_91 wiX8_recorded wsX8_recorded rfl ⟨Nat.le_of_ble_eq_true rfl, Nat.le_of_ble_eq_true rfl⟩ rfl (Nat.le_of_ble_eq_true rfl) dX8_set_94 (fun r8 m9 hf => ?_)
    exact za_iret o rfl hf dX8_set_97
  · replace hf := hf.2 c1
    refine za_bipush (v := (-2 : Int32)) o dX8_set_69 (by decide) ?_
    exact za_iret o rfl hf dX8_set_71
set_option maxRecDepth 100000 in
set_option maxHeartbeats 4000000 in
theorem tX8_set_63 {p : Program} {l : Launch} {e : Env} {s : State} {m : MethodId} {args : Array Value} {below : List Frame} {meth : Method} {c : Code} {G : zG}  {K : Int32 → zMem → Prop} (o : za_Ok (z_rm 1 22) 0 0 p s m args meth c G RX8 cX8_set 5 (some .int)) {q : Nat} (hq : z_is q 8)  (v1 : Int32) (v2 : Int32) (μ : zMem)  (hf : fX8_set_63  K q v1 v2 μ) : za_At p l e (z_rm 1 22) s m args below meth c (MQ below (zQi G K) args s 0 0 (zA G)) G 5 0 0 63 [(0, .ref (G.2.2 + q)), (1, .int v1), (2, .int v2)] [] μ := by
  unfold fX8_set_63 at hf
  refine za_iconst (v := (0 : Int32)) o dX8_set_63 (by decide) ?_
  exact tX8_set_64 o hq  v1 v2 (0 : Int32) μ  hf
set_option maxRecDepth 100000 in
set_option maxHeartbeats 4000000 in
theorem ctX8_set (l : Launch) (G : zG) {q : Nat} (hq : z_is q 8) (a1 : Int32) (a2 : Int32)  (μ : zMem) (K : Int32 → zMem → Prop) (hf : fX8_set q a1 a2 μ K) : z_Met l G yX8_set cX8_set 5 (some .int) (z_rm 1 22) [.ref (G.2.2 + q), .int a1, .int a2] μ K := by
  refine z_body (by decide) (Nat.le_of_ble_eq_true rfl) (fun p e s m args below meth c o => ?_)
  have o : za_Ok (z_rm 1 22) 0 0 p s m args meth c G RX8 cX8_set 5 (some .int) := o
  show za_At p l e (z_rm 1 22) s m args below meth c (MQ below (zQi G K) args s 0 0 (zA G)) G 5 0 0 0 [(0, .ref (G.2.2 + q)), (1, .int a1), (2, .int a2)] [] μ
  unfold fX8_set at hf
  refine za_iload_n o 1 dX8_set_0 rfl rfl ?_
  refine za_if_ne o 14 dX8_set_1 (by decide) (fun c10 => ?_) (fun c10 => ?_)
  · replace hf := hf.1 c10
    refine za_iload_n o 1 dX8_set_14 rfl rfl ?_
    refine za_iconst (v := (1 : Int32)) o dX8_set_15 (by decide) ?_
    refine za_icmp_ne o 29 dX8_set_16 (by decide) (fun c11 => ?_) (fun c11 => ?_)
    · replace hf := hf.1 c11
      refine za_iload_n o 1 dX8_set_29 rfl rfl ?_
      refine za_iconst (v := (2 : Int32)) o dX8_set_30 (by decide) ?_
      refine za_icmp_ne o 44 dX8_set_31 (by decide) (fun c12 => ?_) (fun c12 => ?_)
      · replace hf := hf.1 c12
        refine za_iload_n o 1 dX8_set_44 rfl rfl ?_
        refine za_iconst (v := (3 : Int32)) o dX8_set_45 (by decide) ?_
        refine za_icmp_ne o 63 dX8_set_46 (by decide) (fun c13 => ?_) (fun c13 => ?_)
        · replace hf := hf.1 c13
          exact tX8_set_63 o hq  a1 a2 μ  hf
        · replace hf := hf.2 c13
          refine za_iload_n o 2 dX8_set_49 rfl rfl ?_
          refine za_iconst (v := (1 : Int32)) o dX8_set_50 (by decide) ?_
          refine za_bipush (v := (20 : Int32)) o dX8_set_51 (by decide) ?_
          refine za_callSi o [.int a2, .int (1 : Int32), .int (20 : Int32)] (ctX8_in l G a2 (1 : Int32) (20 : Int32)  μ _ hf) mwX8_in wmX8_33 wtX8_in rfl ⟨Nat.le_of_ble_eq_true rfl, Nat.le_of_ble_eq_true rfl⟩ rfl (Nat.le_of_ble_eq_true rfl) dX8_set_53 (fun r14 m15 hf => ?_)
          refine za_if_eq o 63 dX8_set_56 (by decide) (fun c16 => ?_) (fun c16 => ?_)
          · replace hf := hf.1 c16
            exact tX8_set_63 o hq  a1 a2 m15  hf
          · replace hf := hf.2 c16
            refine za_iconst (v := (1 : Int32)) o dX8_set_59 (by decide) ?_
            refine za_goto o 64 dX8_set_60 (by decide) ?_
            exact tX8_set_64 o hq  a1 a2 (1 : Int32) m15  hf
      · replace hf := hf.2 c12
        refine za_iload_n o 2 dX8_set_34 rfl rfl ?_
        refine za_iconst (v := (1 : Int32)) o dX8_set_35 (by decide) ?_
        refine za_bipush (v := (9 : Int32)) o dX8_set_36 (by decide) ?_
        refine za_callSi o [.int a2, .int (1 : Int32), .int (9 : Int32)] (ctX8_in l G a2 (1 : Int32) (9 : Int32)  μ _ hf) mwX8_in wmX8_33 wtX8_in rfl ⟨Nat.le_of_ble_eq_true rfl, Nat.le_of_ble_eq_true rfl⟩ rfl (Nat.le_of_ble_eq_true rfl) dX8_set_38 (fun r17 m18 hf => ?_)
        refine za_goto o 64 dX8_set_41 (by decide) ?_
        exact tX8_set_64 o hq  a1 a2 r17 m18  hf
    · replace hf := hf.2 c11
      refine za_iload_n o 2 dX8_set_19 rfl rfl ?_
      refine za_iconst (v := (0 : Int32)) o dX8_set_20 (by decide) ?_
      refine za_bipush (v := (20 : Int32)) o dX8_set_21 (by decide) ?_
      refine za_callSi o [.int a2, .int (0 : Int32), .int (20 : Int32)] (ctX8_in l G a2 (0 : Int32) (20 : Int32)  μ _ hf) mwX8_in wmX8_33 wtX8_in rfl ⟨Nat.le_of_ble_eq_true rfl, Nat.le_of_ble_eq_true rfl⟩ rfl (Nat.le_of_ble_eq_true rfl) dX8_set_23 (fun r19 m20 hf => ?_)
      refine za_goto o 64 dX8_set_26 (by decide) ?_
      exact tX8_set_64 o hq  a1 a2 r19 m20  hf
  · replace hf := hf.2 c10
    refine za_iload_n o 2 dX8_set_4 rfl rfl ?_
    refine za_iconst (v := (0 : Int32)) o dX8_set_5 (by decide) ?_
    refine za_bipush (v := (9 : Int32)) o dX8_set_6 (by decide) ?_
    refine za_callSi o [.int a2, .int (0 : Int32), .int (9 : Int32)] (ctX8_in l G a2 (0 : Int32) (9 : Int32)  μ _ hf) mwX8_in wmX8_33 wtX8_in rfl ⟨Nat.le_of_ble_eq_true rfl, Nat.le_of_ble_eq_true rfl⟩ rfl (Nat.le_of_ble_eq_true rfl) dX8_set_8 (fun r21 m22 hf => ?_)
    refine za_goto o 64 dX8_set_11 (by decide) ?_
    exact tX8_set_64 o hq  a1 a2 r21 m22  hf
def fX8_price_16  (K : Int32 → zMem → Prop) (q : Nat)  (μ : zMem) : Prop :=
  K (-1 : Int32) μ
def fX8_price (q : Nat) (a1 : Int32) (a2 : Int32) (a3 : Int32) (μ : zMem) (K : Int32 → zMem → Prop) : Prop :=
  fX8_in a1 (0 : Int32) (4 : Int32) μ (fun r1 m2 => ((r1 = 0 → fX8_price_16  K q  m2) ∧ (¬ r1 = 0 → fX8_isDish a2 m2 (fun r4 m5 => ((¬ r4 = 0 → fX8_in a3 (1 : Int32) (3 : Int32) m5 (fun r7 m8 => ((¬ r7 = 0 → fX8_hold q  m8 (fun m11 => (∀ x12 : Int32, x12 = ((3 : Int32) * a1) → (∀ x13 : Int32, x13 = ((8 : Int32) + x12) → (∀ x14 : Int32, x14 = (x13 + a2) → (vp_in x14 276 ∧ (∀ x16 : Int32, x16 = (m11 530 x14.toNatClampNeg) → (∀ x17 : Int32, x17 = ((3 : Int32) * a1) → (∀ x18 : Int32, x18 = ((8 : Int32) + x17) → (∀ x19 : Int32, x19 = (x18 + a2) → (vp_in x19 276 ∧ (∀ m21 : zMem, m21 = z_up m11 530 x19.toNatClampNeg a3 → fX8_recorded q x16 m21 (fun r22 m23 => K r22 m23))))))))))))) ∧ (r7 = 0 → K (-2 : Int32) m8)))) ∧ (r4 = 0 → fX8_price_16  K q  m5))))))
set_option maxRecDepth 100000 in
set_option maxHeartbeats 4000000 in
theorem tX8_price_16 {p : Program} {l : Launch} {e : Env} {s : State} {m : MethodId} {args : Array Value} {below : List Frame} {meth : Method} {c : Code} {G : zG}  {K : Int32 → zMem → Prop} (o : za_Ok (z_rm 2 42) 0 0 p s m args meth c G RX8 cX8_price 5 (some .int)) {q : Nat} (hq : z_is q 8)   (μ : zMem)  (hf : fX8_price_16  K q  μ) : za_At p l e (z_rm 2 42) s m args below meth c (MQ below (zQi G K) args s 0 0 (zA G)) G 5 0 0 16 [] [] μ := by
  unfold fX8_price_16 at hf
  refine za_iconst (v := (-1 : Int32)) o dX8_price_16 (by decide) ?_
  exact za_iret o rfl hf dX8_price_17
set_option maxRecDepth 100000 in
set_option maxHeartbeats 4000000 in
theorem ctX8_price (l : Launch) (G : zG) {q : Nat} (hq : z_is q 8) (a1 : Int32) (a2 : Int32) (a3 : Int32)  (μ : zMem) (K : Int32 → zMem → Prop) (hf : fX8_price q a1 a2 a3 μ K) : z_Met l G yX8_price cX8_price 5 (some .int) (z_rm 2 42) [.ref (G.2.2 + q), .int a1, .int a2, .int a3] μ K := by
  refine z_body (by decide) (Nat.le_of_ble_eq_true rfl) (fun p e s m args below meth c o => ?_)
  have o : za_Ok (z_rm 2 42) 0 0 p s m args meth c G RX8 cX8_price 5 (some .int) := o
  show za_At p l e (z_rm 2 42) s m args below meth c (MQ below (zQi G K) args s 0 0 (zA G)) G 5 0 0 0 [(0, .ref (G.2.2 + q)), (1, .int a1), (2, .int a2), (3, .int a3)] [] μ
  unfold fX8_price at hf
  refine za_iload_n o 1 dX8_price_0 rfl rfl ?_
  refine za_iconst (v := (0 : Int32)) o dX8_price_1 (by decide) ?_
  refine za_iconst (v := (4 : Int32)) o dX8_price_2 (by decide) ?_
  refine za_callSi o [.int a1, .int (0 : Int32), .int (4 : Int32)] (ctX8_in l G a1 (0 : Int32) (4 : Int32)  μ _ hf) mwX8_in wmX8_33 wtX8_in rfl ⟨Nat.le_of_ble_eq_true rfl, Nat.le_of_ble_eq_true rfl⟩ rfl (Nat.le_of_ble_eq_true rfl) dX8_price_3 (fun r1 m2 hf => ?_)
  refine za_if_eq o 16 dX8_price_6 (by decide) (fun c3 => ?_) (fun c3 => ?_)
  · replace hf := hf.1 c3
    refine za_sub [] rfl ?_
    exact tX8_price_16 o hq   m2  hf
  · replace hf := hf.2 c3
    refine za_iload_n o 2 dX8_price_9 rfl rfl ?_
    refine za_callSi o [.int a2] (ctX8_isDish l G a2  m2 _ hf) mwX8_isDish wmX8_66 wtX8_isDish rfl ⟨Nat.le_of_ble_eq_true rfl, Nat.le_of_ble_eq_true rfl⟩ rfl (Nat.le_of_ble_eq_true rfl) dX8_price_10 (fun r4 m5 hf => ?_)
    refine za_if_ne o 18 dX8_price_13 (by decide) (fun c6 => ?_) (fun c6 => ?_)
    · replace hf := hf.1 c6
      refine za_iload_n o 3 dX8_price_18 rfl rfl ?_
      refine za_iconst (v := (1 : Int32)) o dX8_price_19 (by decide) ?_
      refine za_iconst (v := (3 : Int32)) o dX8_price_20 (by decide) ?_
      refine za_callSi o [.int a3, .int (1 : Int32), .int (3 : Int32)] (ctX8_in l G a3 (1 : Int32) (3 : Int32)  m5 _ hf) mwX8_in wmX8_33 wtX8_in rfl ⟨Nat.le_of_ble_eq_true rfl, Nat.le_of_ble_eq_true rfl⟩ rfl (Nat.le_of_ble_eq_true rfl) dX8_price_21 (fun r7 m8 hf => ?_)
      refine za_if_ne o 30 dX8_price_24 (by decide) (fun c9 => ?_) (fun c9 => ?_)
      · replace hf := hf.1 c9
        refine za_aload_n o 0 dX8_price_30 rfl rfl ?_
        refine za_callVv o [] (ctX8_hold l G hq   m8 _ hf) zc8 hq mwX8_hold wmX8_88 wiX8_hold wsX8_hold rfl ⟨Nat.le_of_ble_eq_true rfl, Nat.le_of_ble_eq_true rfl⟩ rfl (Nat.le_of_ble_eq_true rfl) dX8_price_31 (fun m11 hf => ?_)
        refine za_aload_n o 0 dX8_price_34 rfl rfl ?_
        refine za_getf o 0 zc8 hq (Nat.le_of_ble_eq_true rfl) wfX8_7 rfl dX8_price_35 ?_
        refine za_bipush (v := (8 : Int32)) o dX8_price_38 (by decide) ?_
        refine za_iconst (v := (3 : Int32)) o dX8_price_40 (by decide) ?_
        refine za_iload_n o 1 dX8_price_41 rfl rfl ?_
        refine za_imul o dX8_price_42 ?_
        refine za_topi (fun x12 ex12 => ?_)
        replace hf := hf x12 ex12
        refine za_iadd o dX8_price_43 ?_
        refine za_topi (fun x13 ex13 => ?_)
        replace hf := hf x13 ex13
        refine za_iload_n o 2 dX8_price_44 rfl rfl ?_
        refine za_iadd o dX8_price_45 ?_
        refine za_topi (fun x14 ex14 => ?_)
        replace hf := hf x14 ex14
        obtain ⟨g15, hf⟩ := hf
        refine za_iald o zk_m0 rfl g15 dX8_price_46 ?_
        refine za_topi (fun x16 ex16 => ?_)
        replace hf := hf x16 ex16
        refine za_istore o [(4, .int x16), (0, .ref (G.2.2 + q)), (1, .int a1), (2, .int a2), (3, .int a3)] dX8_price_47 (by decide) rfl ?_
        refine za_aload_n o 1 dX8_price_49 rfl rfl ?_
        refine za_getf o 0 zc8 hq (Nat.le_of_ble_eq_true rfl) wfX8_7 rfl dX8_price_50 ?_
        refine za_bipush (v := (8 : Int32)) o dX8_price_53 (by decide) ?_
        refine za_iconst (v := (3 : Int32)) o dX8_price_55 (by decide) ?_
        refine za_iload_n o 2 dX8_price_56 rfl rfl ?_
        refine za_imul o dX8_price_57 ?_
        refine za_topi (fun x17 ex17 => ?_)
        replace hf := hf x17 ex17
        refine za_iadd o dX8_price_58 ?_
        refine za_topi (fun x18 ex18 => ?_)
        replace hf := hf x18 ex18
        refine za_iload_n o 3 dX8_price_59 rfl rfl ?_
        refine za_iadd o dX8_price_60 ?_
        refine za_topi (fun x19 ex19 => ?_)
        replace hf := hf x19 ex19
        refine za_iload_n o 4 dX8_price_61 rfl rfl ?_
        obtain ⟨g20, hf⟩ := hf
        refine za_iast o zk_m0 rfl g20 dX8_price_62 ?_
        refine za_mem (fun m21 em21 => ?_)
        replace hf := hf m21 em21
        refine za_aload_n o 1 dX8_price_63 rfl rfl ?_
        refine za_iload o 0 dX8_price_64 rfl ?_
        refine za_callVi o [.int x16] (ctX8_recorded l G hq x16  m21 _ hf) zc8 hq mwX8_recorded wmX8_91 wiX8_recorded wsX8_recorded rfl ⟨Nat.le_of_ble_eq_true rfl, Nat.le_of_ble_eq_true rfl⟩ rfl (Nat.le_of_ble_eq_true rfl) dX8_price_66 (fun r22 m23 hf => ?_)
        exact za_iret o rfl hf dX8_price_69
      · replace hf := hf.2 c9
        refine za_bipush (v := (-2 : Int32)) o dX8_price_27 (by decide) ?_
        exact za_iret o rfl hf dX8_price_29
    · replace hf := hf.2 c6
      refine za_sub [] rfl ?_
      exact tX8_price_16 o hq   m5  hf
def fX8_person (q : Nat)  (μ : zMem) (K : Int32 → zMem → Prop) : Prop :=
  fX8_hold q  μ (fun m2 => fX8_comesHere q  m2 (fun r3 m4 => fX8_recorded q r3 m4 (fun r5 m6 => K r5 m6)))
set_option maxRecDepth 100000 in
set_option maxHeartbeats 4000000 in
theorem ctX8_person (l : Launch) (G : zG) {q : Nat} (hq : z_is q 8)   (μ : zMem) (K : Int32 → zMem → Prop) (hf : fX8_person q  μ K) : z_Met l G yX8_person cX8_person 1 (some .int) (z_rm 2 42) [.ref (G.2.2 + q)] μ K := by
  refine z_body (by decide) (Nat.le_of_ble_eq_true rfl) (fun p e s m args below meth c o => ?_)
  have o : za_Ok (z_rm 2 42) 0 0 p s m args meth c G RX8 cX8_person 1 (some .int) := o
  show za_At p l e (z_rm 2 42) s m args below meth c (MQ below (zQi G K) args s 0 0 (zA G)) G 1 0 0 0 [(0, .ref (G.2.2 + q))] [] μ
  unfold fX8_person at hf
  refine za_aload_n o 0 dX8_person_0 rfl rfl ?_
  refine za_callVv o [] (ctX8_hold l G hq   μ _ hf) zc8 hq mwX8_hold wmX8_88 wiX8_hold wsX8_hold rfl ⟨Nat.le_of_ble_eq_true rfl, Nat.le_of_ble_eq_true rfl⟩ rfl (Nat.le_of_ble_eq_true rfl) dX8_person_1 (fun m2 hf => ?_)
  refine za_aload_n o 0 dX8_person_4 rfl rfl ?_
  refine za_aload_n o 0 dX8_person_5 rfl rfl ?_
  refine za_callVi o [] (ctX8_comesHere l G hq   m2 _ hf) zc8 hq mwX8_comesHere wmX8_94 wiX8_comesHere wsX8_comesHere rfl ⟨Nat.le_of_ble_eq_true rfl, Nat.le_of_ble_eq_true rfl⟩ rfl (Nat.le_of_ble_eq_true rfl) dX8_person_6 (fun r3 m4 hf => ?_)
  refine za_callVi o [.int r3] (ctX8_recorded l G hq r3  m4 _ hf) zc8 hq mwX8_recorded wmX8_91 wiX8_recorded wsX8_recorded rfl ⟨Nat.le_of_ble_eq_true rfl, Nat.le_of_ble_eq_true rfl⟩ rfl (Nat.le_of_ble_eq_true rfl) dX8_person_9 (fun r5 m6 hf => ?_)
  exact za_iret o rfl hf dX8_person_12
def fX8_vouchers (q : Nat) (a1 : Int32) (a2 : Int32) (μ : zMem) (K : Int32 → zMem → Prop) : Prop :=
  fX8_hold q  μ (fun m2 => fX8_gets q a1 a2 m2 (fun r3 m4 => fX8_recorded q r3 m4 (fun r5 m6 => K r5 m6)))
set_option maxRecDepth 100000 in
set_option maxHeartbeats 4000000 in
theorem ctX8_vouchers (l : Launch) (G : zG) {q : Nat} (hq : z_is q 8) (a1 : Int32) (a2 : Int32)  (μ : zMem) (K : Int32 → zMem → Prop) (hf : fX8_vouchers q a1 a2 μ K) : z_Met l G yX8_vouchers cX8_vouchers 3 (some .int) (z_rm 3 65) [.ref (G.2.2 + q), .int a1, .int a2] μ K := by
  refine z_body (by decide) (Nat.le_of_ble_eq_true rfl) (fun p e s m args below meth c o => ?_)
  have o : za_Ok (z_rm 3 65) 0 0 p s m args meth c G RX8 cX8_vouchers 3 (some .int) := o
  show za_At p l e (z_rm 3 65) s m args below meth c (MQ below (zQi G K) args s 0 0 (zA G)) G 3 0 0 0 [(0, .ref (G.2.2 + q)), (1, .int a1), (2, .int a2)] [] μ
  unfold fX8_vouchers at hf
  refine za_aload_n o 0 dX8_vouchers_0 rfl rfl ?_
  refine za_callVv o [] (ctX8_hold l G hq   μ _ hf) zc8 hq mwX8_hold wmX8_88 wiX8_hold wsX8_hold rfl ⟨Nat.le_of_ble_eq_true rfl, Nat.le_of_ble_eq_true rfl⟩ rfl (Nat.le_of_ble_eq_true rfl) dX8_vouchers_1 (fun m2 hf => ?_)
  refine za_aload_n o 0 dX8_vouchers_4 rfl rfl ?_
  refine za_aload_n o 0 dX8_vouchers_5 rfl rfl ?_
  refine za_iload_n o 1 dX8_vouchers_6 rfl rfl ?_
  refine za_iload_n o 2 dX8_vouchers_7 rfl rfl ?_
  refine za_callVi o [.int a1, .int a2] (ctX8_gets l G hq a1 a2  m2 _ hf) zc8 hq mwX8_gets wmX8_98 wiX8_gets wsX8_gets rfl ⟨Nat.le_of_ble_eq_true rfl, Nat.le_of_ble_eq_true rfl⟩ rfl (Nat.le_of_ble_eq_true rfl) dX8_vouchers_8 (fun r3 m4 hf => ?_)
  refine za_callVi o [.int r3] (ctX8_recorded l G hq r3  m4 _ hf) zc8 hq mwX8_recorded wmX8_91 wiX8_recorded wsX8_recorded rfl ⟨Nat.le_of_ble_eq_true rfl, Nat.le_of_ble_eq_true rfl⟩ rfl (Nat.le_of_ble_eq_true rfl) dX8_vouchers_11 (fun r5 m6 hf => ?_)
  exact za_iret o rfl hf dX8_vouchers_14
def fX8_order (q : Nat) (a1 : Int32) (a2 : Int32) (a3 : Int32) (μ : zMem) (K : Int32 → zMem → Prop) : Prop :=
  fX8_hold q  μ (fun m2 => fX8_ordersOf q a1 a2 a3 m2 (fun r3 m4 => fX8_recorded q r3 m4 (fun r5 m6 => K r5 m6)))
set_option maxRecDepth 100000 in
set_option maxHeartbeats 4000000 in
theorem ctX8_order (l : Launch) (G : zG) {q : Nat} (hq : z_is q 8) (a1 : Int32) (a2 : Int32) (a3 : Int32)  (μ : zMem) (K : Int32 → zMem → Prop) (hf : fX8_order q a1 a2 a3 μ K) : z_Met l G yX8_order cX8_order 4 (some .int) (z_rm 3 71) [.ref (G.2.2 + q), .int a1, .int a2, .int a3] μ K := by
  refine z_body (by decide) (Nat.le_of_ble_eq_true rfl) (fun p e s m args below meth c o => ?_)
  have o : za_Ok (z_rm 3 71) 0 0 p s m args meth c G RX8 cX8_order 4 (some .int) := o
  show za_At p l e (z_rm 3 71) s m args below meth c (MQ below (zQi G K) args s 0 0 (zA G)) G 4 0 0 0 [(0, .ref (G.2.2 + q)), (1, .int a1), (2, .int a2), (3, .int a3)] [] μ
  unfold fX8_order at hf
  refine za_aload_n o 0 dX8_order_0 rfl rfl ?_
  refine za_callVv o [] (ctX8_hold l G hq   μ _ hf) zc8 hq mwX8_hold wmX8_88 wiX8_hold wsX8_hold rfl ⟨Nat.le_of_ble_eq_true rfl, Nat.le_of_ble_eq_true rfl⟩ rfl (Nat.le_of_ble_eq_true rfl) dX8_order_1 (fun m2 hf => ?_)
  refine za_aload_n o 0 dX8_order_4 rfl rfl ?_
  refine za_aload_n o 0 dX8_order_5 rfl rfl ?_
  refine za_iload_n o 1 dX8_order_6 rfl rfl ?_
  refine za_iload_n o 2 dX8_order_7 rfl rfl ?_
  refine za_iload_n o 3 dX8_order_8 rfl rfl ?_
  refine za_callVi o [.int a1, .int a2, .int a3] (ctX8_ordersOf l G hq a1 a2 a3  m2 _ hf) zc8 hq mwX8_ordersOf wmX8_101 wiX8_ordersOf wsX8_ordersOf rfl ⟨Nat.le_of_ble_eq_true rfl, Nat.le_of_ble_eq_true rfl⟩ rfl (Nat.le_of_ble_eq_true rfl) dX8_order_9 (fun r3 m4 hf => ?_)
  refine za_callVi o [.int r3] (ctX8_recorded l G hq r3  m4 _ hf) zc8 hq mwX8_recorded wmX8_91 wiX8_recorded wsX8_recorded rfl ⟨Nat.le_of_ble_eq_true rfl, Nat.le_of_ble_eq_true rfl⟩ rfl (Nat.le_of_ble_eq_true rfl) dX8_order_12 (fun r5 m6 hf => ?_)
  exact za_iret o rfl hf dX8_order_15
def fX8_callOff (q : Nat) (a1 : Int32) (a2 : Int32) (μ : zMem) (K : Int32 → zMem → Prop) : Prop :=
  fX8_isPerson q a1 μ (fun r1 m2 => ((¬ r1 = 0 → fX8_in a2 (1 : Int32) (4 : Int32) m2 (fun r4 m5 => ((¬ r4 = 0 → fX8_p a1 m5 (fun r7 m8 => (∀ x9 : Int32, x9 = (r7 + (1 : Int32)) → (∀ x10 : Int32, x10 = (x9 + a2) → (vp_in x10 276 ∧ (∀ x12 : Int32, x12 = (m8 530 x10.toNatClampNeg) → ((¬ x12 = 0 → fX8_hold q  m8 (fun m15 => (∀ x16 : Int32, x16 = (r7 + (1 : Int32)) → (∀ x17 : Int32, x17 = (x16 + a2) → (vp_in x17 276 ∧ (∀ m19 : zMem, m19 = z_up m15 530 x17.toNatClampNeg (0 : Int32) → (∀ x20 : Int32, x20 = (r7 + (6 : Int32)) → (∀ x21 : Int32, x21 = (x20 + a2) → (vp_in x21 276 ∧ (∀ x23 : Int32, x23 = (m19 530 x21.toNatClampNeg) → fX8_gives q a1 x23 m19 (fun m25 => (∀ x26 : Int32, x26 = (r7 + (6 : Int32)) → (∀ x27 : Int32, x27 = (x26 + a2) → (vp_in x27 276 ∧ (∀ m29 : zMem, m29 = z_up m25 530 x27.toNatClampNeg (0 : Int32) → (∀ x30 : Int32, x30 = (r7 + (0 : Int32)) → (vp_in x30 276 ∧ (∀ x32 : Int32, x32 = (m29 530 x30.toNatClampNeg) → fX8_recorded q x32 m29 (fun r33 m34 => K r33 m34))))))))))))))))))) ∧ (x12 = 0 → K (-5 : Int32) m8)))))))) ∧ (r4 = 0 → K (-2 : Int32) m5)))) ∧ (r1 = 0 → K (-1 : Int32) m2)))
set_option maxRecDepth 100000 in
set_option maxHeartbeats 4000000 in
theorem ctX8_callOff (l : Launch) (G : zG) {q : Nat} (hq : z_is q 8) (a1 : Int32) (a2 : Int32)  (μ : zMem) (K : Int32 → zMem → Prop) (hf : fX8_callOff q a1 a2 μ K) : z_Met l G yX8_callOff cX8_callOff 4 (some .int) (z_rm 2 43) [.ref (G.2.2 + q), .int a1, .int a2] μ K := by
  refine z_body (by decide) (Nat.le_of_ble_eq_true rfl) (fun p e s m args below meth c o => ?_)
  have o : za_Ok (z_rm 2 43) 0 0 p s m args meth c G RX8 cX8_callOff 4 (some .int) := o
  show za_At p l e (z_rm 2 43) s m args below meth c (MQ below (zQi G K) args s 0 0 (zA G)) G 4 0 0 0 [(0, .ref (G.2.2 + q)), (1, .int a1), (2, .int a2)] [] μ
  unfold fX8_callOff at hf
  refine za_aload_n o 0 dX8_callOff_0 rfl rfl ?_
  refine za_iload_n o 1 dX8_callOff_1 rfl rfl ?_
  refine za_callVi o [.int a1] (ctX8_isPerson l G hq a1  μ _ hf) zc8 hq mwX8_isPerson wmX8_54 wiX8_isPerson wsX8_isPerson rfl ⟨Nat.le_of_ble_eq_true rfl, Nat.le_of_ble_eq_true rfl⟩ rfl (Nat.le_of_ble_eq_true rfl) dX8_callOff_2 (fun r1 m2 hf => ?_)
  refine za_if_ne o 10 dX8_callOff_5 (by decide) (fun c3 => ?_) (fun c3 => ?_)
  · replace hf := hf.1 c3
    refine za_iload_n o 2 dX8_callOff_10 rfl rfl ?_
    refine za_iconst (v := (1 : Int32)) o dX8_callOff_11 (by decide) ?_
    refine za_iconst (v := (4 : Int32)) o dX8_callOff_12 (by decide) ?_
    refine za_callSi o [.int a2, .int (1 : Int32), .int (4 : Int32)] (ctX8_in l G a2 (1 : Int32) (4 : Int32)  m2 _ hf) mwX8_in wmX8_33 wtX8_in rfl ⟨Nat.le_of_ble_eq_true rfl, Nat.le_of_ble_eq_true rfl⟩ rfl (Nat.le_of_ble_eq_true rfl) dX8_callOff_13 (fun r4 m5 hf => ?_)
    refine za_if_ne o 22 dX8_callOff_16 (by decide) (fun c6 => ?_) (fun c6 => ?_)
    · replace hf := hf.1 c6
      refine za_iload_n o 1 dX8_callOff_22 rfl rfl ?_
      refine za_callSi o [.int a1] (ctX8_p l G a1  m5 _ hf) mwX8_p wmX8_41 wtX8_p rfl ⟨Nat.le_of_ble_eq_true rfl, Nat.le_of_ble_eq_true rfl⟩ rfl (Nat.le_of_ble_eq_true rfl) dX8_callOff_23 (fun r7 m8 hf => ?_)
      refine za_istore_n o [(3, .int r7), (0, .ref (G.2.2 + q)), (1, .int a1), (2, .int a2)] dX8_callOff_26 rfl (by decide) rfl ?_
      refine za_aload_n o 1 dX8_callOff_27 rfl rfl ?_
      refine za_getf o 0 zc8 hq (Nat.le_of_ble_eq_true rfl) wfX8_7 rfl dX8_callOff_28 ?_
      refine za_iload_n o 0 dX8_callOff_31 rfl rfl ?_
      refine za_iconst (v := (1 : Int32)) o dX8_callOff_32 (by decide) ?_
      refine za_iadd o dX8_callOff_33 ?_
      refine za_topi (fun x9 ex9 => ?_)
      replace hf := hf x9 ex9
      refine za_iload_n o 3 dX8_callOff_34 rfl rfl ?_
      refine za_iadd o dX8_callOff_35 ?_
      refine za_topi (fun x10 ex10 => ?_)
      replace hf := hf x10 ex10
      obtain ⟨g11, hf⟩ := hf
      refine za_iald o zk_m0 rfl g11 dX8_callOff_36 ?_
      refine za_topi (fun x12 ex12 => ?_)
      replace hf := hf x12 ex12
      refine za_if_ne o 43 dX8_callOff_37 (by decide) (fun c13 => ?_) (fun c13 => ?_)
      · replace hf := hf.1 c13
        refine za_aload_n o 1 dX8_callOff_43 rfl rfl ?_
        refine za_callVv o [] (ctX8_hold l G hq   m8 _ hf) zc8 hq mwX8_hold wmX8_88 wiX8_hold wsX8_hold rfl ⟨Nat.le_of_ble_eq_true rfl, Nat.le_of_ble_eq_true rfl⟩ rfl (Nat.le_of_ble_eq_true rfl) dX8_callOff_44 (fun m15 hf => ?_)
        refine za_aload_n o 1 dX8_callOff_47 rfl rfl ?_
        refine za_getf o 0 zc8 hq (Nat.le_of_ble_eq_true rfl) wfX8_7 rfl dX8_callOff_48 ?_
        refine za_iload_n o 0 dX8_callOff_51 rfl rfl ?_
        refine za_iconst (v := (1 : Int32)) o dX8_callOff_52 (by decide) ?_
        refine za_iadd o dX8_callOff_53 ?_
        refine za_topi (fun x16 ex16 => ?_)
        replace hf := hf x16 ex16
        refine za_iload_n o 3 dX8_callOff_54 rfl rfl ?_
        refine za_iadd o dX8_callOff_55 ?_
        refine za_topi (fun x17 ex17 => ?_)
        replace hf := hf x17 ex17
        refine za_iconst (v := (0 : Int32)) o dX8_callOff_56 (by decide) ?_
        obtain ⟨g18, hf⟩ := hf
        refine za_iast o zk_m0 rfl g18 dX8_callOff_57 ?_
        refine za_mem (fun m19 em19 => ?_)
        replace hf := hf m19 em19
        refine za_aload_n o 1 dX8_callOff_58 rfl rfl ?_
        refine za_iload_n o 2 dX8_callOff_59 rfl rfl ?_
        refine za_aload_n o 1 dX8_callOff_60 rfl rfl ?_
        refine za_getf o 0 zc8 hq (Nat.le_of_ble_eq_true rfl) wfX8_7 rfl dX8_callOff_61 ?_
        refine za_iload_n o 0 dX8_callOff_64 rfl rfl ?_
        refine za_bipush (v := (6 : Int32)) o dX8_callOff_65 (by decide) ?_
        refine za_iadd o dX8_callOff_67 ?_
        refine za_topi (fun x20 ex20 => ?_)
        replace hf := hf x20 ex20
        refine za_iload_n o 3 dX8_callOff_68 rfl rfl ?_
        refine za_iadd o dX8_callOff_69 ?_
        refine za_topi (fun x21 ex21 => ?_)
        replace hf := hf x21 ex21
        obtain ⟨g22, hf⟩ := hf
        refine za_iald o zk_m0 rfl g22 dX8_callOff_70 ?_
        refine za_topi (fun x23 ex23 => ?_)
        replace hf := hf x23 ex23
        refine za_callVv o [.int a1, .int x23] (ctX8_gives l G hq a1 x23  m19 _ hf) zc8 hq mwX8_gives wmX8_58 wiX8_gives wsX8_gives rfl ⟨Nat.le_of_ble_eq_true rfl, Nat.le_of_ble_eq_true rfl⟩ rfl (Nat.le_of_ble_eq_true rfl) dX8_callOff_71 (fun m25 hf => ?_)
        refine za_aload_n o 1 dX8_callOff_74 rfl rfl ?_
        refine za_getf o 0 zc8 hq (Nat.le_of_ble_eq_true rfl) wfX8_7 rfl dX8_callOff_75 ?_
        refine za_iload_n o 0 dX8_callOff_78 rfl rfl ?_
        refine za_bipush (v := (6 : Int32)) o dX8_callOff_79 (by decide) ?_
        refine za_iadd o dX8_callOff_81 ?_
        refine za_topi (fun x26 ex26 => ?_)
        replace hf := hf x26 ex26
        refine za_iload_n o 3 dX8_callOff_82 rfl rfl ?_
        refine za_iadd o dX8_callOff_83 ?_
        refine za_topi (fun x27 ex27 => ?_)
        replace hf := hf x27 ex27
        refine za_iconst (v := (0 : Int32)) o dX8_callOff_84 (by decide) ?_
        obtain ⟨g28, hf⟩ := hf
        refine za_iast o zk_m0 rfl g28 dX8_callOff_85 ?_
        refine za_mem (fun m29 em29 => ?_)
        replace hf := hf m29 em29
        refine za_aload_n o 1 dX8_callOff_86 rfl rfl ?_
        refine za_aload_n o 1 dX8_callOff_87 rfl rfl ?_
        refine za_getf o 0 zc8 hq (Nat.le_of_ble_eq_true rfl) wfX8_7 rfl dX8_callOff_88 ?_
        refine za_iload_n o 0 dX8_callOff_91 rfl rfl ?_
        refine za_iconst (v := (0 : Int32)) o dX8_callOff_92 (by decide) ?_
        refine za_iadd o dX8_callOff_93 ?_
        refine za_topi (fun x30 ex30 => ?_)
        replace hf := hf x30 ex30
        obtain ⟨g31, hf⟩ := hf
        refine za_iald o zk_m0 rfl g31 dX8_callOff_94 ?_
        refine za_topi (fun x32 ex32 => ?_)
        replace hf := hf x32 ex32
        refine za_callVi o [.int x32] (ctX8_recorded l G hq x32  m29 _ hf) zc8 hq mwX8_recorded wmX8_91 wiX8_recorded wsX8_recorded rfl ⟨Nat.le_of_ble_eq_true rfl, Nat.le_of_ble_eq_true rfl⟩ rfl (Nat.le_of_ble_eq_true rfl) dX8_callOff_95 (fun r33 m34 hf => ?_)
        exact za_iret o rfl hf dX8_callOff_98
      · replace hf := hf.2 c13
        refine za_bipush (v := (-5 : Int32)) o dX8_callOff_40 (by decide) ?_
        exact za_iret o rfl hf dX8_callOff_42
    · replace hf := hf.2 c6
      refine za_bipush (v := (-2 : Int32)) o dX8_callOff_19 (by decide) ?_
      exact za_iret o rfl hf dX8_callOff_21
  · replace hf := hf.2 c3
    refine za_iconst (v := (-1 : Int32)) o dX8_callOff_8 (by decide) ?_
    exact za_iret o rfl hf dX8_callOff_9
def fX8_cook (q : Nat)  (μ : zMem) (K : Int32 → zMem → Prop) : Prop :=
  fX8_hold q  μ (fun m2 => fX8_cooks q  m2 (fun r3 m4 => fX8_recorded q r3 m4 (fun r5 m6 => K r5 m6)))
set_option maxRecDepth 100000 in
set_option maxHeartbeats 4000000 in
theorem ctX8_cook (l : Launch) (G : zG) {q : Nat} (hq : z_is q 8)   (μ : zMem) (K : Int32 → zMem → Prop) (hf : fX8_cook q  μ K) : z_Met l G yX8_cook cX8_cook 1 (some .int) (z_rm 4 89) [.ref (G.2.2 + q)] μ K := by
  refine z_body (by decide) (Nat.le_of_ble_eq_true rfl) (fun p e s m args below meth c o => ?_)
  have o : za_Ok (z_rm 4 89) 0 0 p s m args meth c G RX8 cX8_cook 1 (some .int) := o
  show za_At p l e (z_rm 4 89) s m args below meth c (MQ below (zQi G K) args s 0 0 (zA G)) G 1 0 0 0 [(0, .ref (G.2.2 + q))] [] μ
  unfold fX8_cook at hf
  refine za_aload_n o 0 dX8_cook_0 rfl rfl ?_
  refine za_callVv o [] (ctX8_hold l G hq   μ _ hf) zc8 hq mwX8_hold wmX8_88 wiX8_hold wsX8_hold rfl ⟨Nat.le_of_ble_eq_true rfl, Nat.le_of_ble_eq_true rfl⟩ rfl (Nat.le_of_ble_eq_true rfl) dX8_cook_1 (fun m2 hf => ?_)
  refine za_aload_n o 0 dX8_cook_4 rfl rfl ?_
  refine za_aload_n o 0 dX8_cook_5 rfl rfl ?_
  refine za_callVi o [] (ctX8_cooks l G hq   m2 _ hf) zc8 hq mwX8_cooks wmX8_104 wiX8_cooks wsX8_cooks rfl ⟨Nat.le_of_ble_eq_true rfl, Nat.le_of_ble_eq_true rfl⟩ rfl (Nat.le_of_ble_eq_true rfl) dX8_cook_6 (fun r3 m4 hf => ?_)
  refine za_callVi o [.int r3] (ctX8_recorded l G hq r3  m4 _ hf) zc8 hq mwX8_recorded wmX8_91 wiX8_recorded wsX8_recorded rfl ⟨Nat.le_of_ble_eq_true rfl, Nat.le_of_ble_eq_true rfl⟩ rfl (Nat.le_of_ble_eq_true rfl) dX8_cook_9 (fun r5 m6 hf => ?_)
  exact za_iret o rfl hf dX8_cook_12
def fX8_come (q : Nat) (a1 : Int32) (μ : zMem) (K : Int32 → zMem → Prop) : Prop :=
  fX8_hold q  μ (fun m2 => fX8_comes q a1 m2 (fun r3 m4 => fX8_recorded q r3 m4 (fun r5 m6 => K r5 m6)))
set_option maxRecDepth 100000 in
set_option maxHeartbeats 4000000 in
theorem ctX8_come (l : Launch) (G : zG) {q : Nat} (hq : z_is q 8) (a1 : Int32)  (μ : zMem) (K : Int32 → zMem → Prop) (hf : fX8_come q a1 μ K) : z_Met l G yX8_come cX8_come 2 (some .int) (z_rm 3 67) [.ref (G.2.2 + q), .int a1] μ K := by
  refine z_body (by decide) (Nat.le_of_ble_eq_true rfl) (fun p e s m args below meth c o => ?_)
  have o : za_Ok (z_rm 3 67) 0 0 p s m args meth c G RX8 cX8_come 2 (some .int) := o
  show za_At p l e (z_rm 3 67) s m args below meth c (MQ below (zQi G K) args s 0 0 (zA G)) G 2 0 0 0 [(0, .ref (G.2.2 + q)), (1, .int a1)] [] μ
  unfold fX8_come at hf
  refine za_aload_n o 0 dX8_come_0 rfl rfl ?_
  refine za_callVv o [] (ctX8_hold l G hq   μ _ hf) zc8 hq mwX8_hold wmX8_88 wiX8_hold wsX8_hold rfl ⟨Nat.le_of_ble_eq_true rfl, Nat.le_of_ble_eq_true rfl⟩ rfl (Nat.le_of_ble_eq_true rfl) dX8_come_1 (fun m2 hf => ?_)
  refine za_aload_n o 0 dX8_come_4 rfl rfl ?_
  refine za_aload_n o 0 dX8_come_5 rfl rfl ?_
  refine za_iload_n o 1 dX8_come_6 rfl rfl ?_
  refine za_callVi o [.int a1] (ctX8_comes l G hq a1  m2 _ hf) zc8 hq mwX8_comes wmX8_107 wiX8_comes wsX8_comes rfl ⟨Nat.le_of_ble_eq_true rfl, Nat.le_of_ble_eq_true rfl⟩ rfl (Nat.le_of_ble_eq_true rfl) dX8_come_7 (fun r3 m4 hf => ?_)
  refine za_callVi o [.int r3] (ctX8_recorded l G hq r3  m4 _ hf) zc8 hq mwX8_recorded wmX8_91 wiX8_recorded wsX8_recorded rfl ⟨Nat.le_of_ble_eq_true rfl, Nat.le_of_ble_eq_true rfl⟩ rfl (Nat.le_of_ble_eq_true rfl) dX8_come_10 (fun r5 m6 hf => ?_)
  exact za_iret o rfl hf dX8_come_13
def fX8_buy (q : Nat) (a1 : Int32) (a2 : Int32) (μ : zMem) (K : Int32 → zMem → Prop) : Prop :=
  fX8_hold q  μ (fun m2 => fX8_buys q a1 a2 m2 (fun r3 m4 => fX8_recorded q r3 m4 (fun r5 m6 => K r5 m6)))
set_option maxRecDepth 100000 in
set_option maxHeartbeats 4000000 in
theorem ctX8_buy (l : Launch) (G : zG) {q : Nat} (hq : z_is q 8) (a1 : Int32) (a2 : Int32)  (μ : zMem) (K : Int32 → zMem → Prop) (hf : fX8_buy q a1 a2 μ K) : z_Met l G yX8_buy cX8_buy 3 (some .int) (z_rm 4 91) [.ref (G.2.2 + q), .int a1, .int a2] μ K := by
  refine z_body (by decide) (Nat.le_of_ble_eq_true rfl) (fun p e s m args below meth c o => ?_)
  have o : za_Ok (z_rm 4 91) 0 0 p s m args meth c G RX8 cX8_buy 3 (some .int) := o
  show za_At p l e (z_rm 4 91) s m args below meth c (MQ below (zQi G K) args s 0 0 (zA G)) G 3 0 0 0 [(0, .ref (G.2.2 + q)), (1, .int a1), (2, .int a2)] [] μ
  unfold fX8_buy at hf
  refine za_aload_n o 0 dX8_buy_0 rfl rfl ?_
  refine za_callVv o [] (ctX8_hold l G hq   μ _ hf) zc8 hq mwX8_hold wmX8_88 wiX8_hold wsX8_hold rfl ⟨Nat.le_of_ble_eq_true rfl, Nat.le_of_ble_eq_true rfl⟩ rfl (Nat.le_of_ble_eq_true rfl) dX8_buy_1 (fun m2 hf => ?_)
  refine za_aload_n o 0 dX8_buy_4 rfl rfl ?_
  refine za_aload_n o 0 dX8_buy_5 rfl rfl ?_
  refine za_iload_n o 1 dX8_buy_6 rfl rfl ?_
  refine za_iload_n o 2 dX8_buy_7 rfl rfl ?_
  refine za_callVi o [.int a1, .int a2] (ctX8_buys l G hq a1 a2  m2 _ hf) zc8 hq mwX8_buys wmX8_110 wiX8_buys wsX8_buys rfl ⟨Nat.le_of_ble_eq_true rfl, Nat.le_of_ble_eq_true rfl⟩ rfl (Nat.le_of_ble_eq_true rfl) dX8_buy_8 (fun r3 m4 hf => ?_)
  refine za_callVi o [.int r3] (ctX8_recorded l G hq r3  m4 _ hf) zc8 hq mwX8_recorded wmX8_91 wiX8_recorded wsX8_recorded rfl ⟨Nat.le_of_ble_eq_true rfl, Nat.le_of_ble_eq_true rfl⟩ rfl (Nat.le_of_ble_eq_true rfl) dX8_buy_11 (fun r5 m6 hf => ?_)
  exact za_iret o rfl hf dX8_buy_14
def fX8_close (q : Nat)  (μ : zMem) (K : Int32 → zMem → Prop) : Prop :=
  fX8_hold q  μ (fun m2 => fX8_closes q  m2 (fun r3 m4 => fX8_recorded q r3 m4 (fun r5 m6 => K r5 m6)))
set_option maxRecDepth 100000 in
set_option maxHeartbeats 4000000 in
theorem ctX8_close (l : Launch) (G : zG) {q : Nat} (hq : z_is q 8)   (μ : zMem) (K : Int32 → zMem → Prop) (hf : fX8_close q  μ K) : z_Met l G yX8_close cX8_close 1 (some .int) (z_rm 3 68) [.ref (G.2.2 + q)] μ K := by
  refine z_body (by decide) (Nat.le_of_ble_eq_true rfl) (fun p e s m args below meth c o => ?_)
  have o : za_Ok (z_rm 3 68) 0 0 p s m args meth c G RX8 cX8_close 1 (some .int) := o
  show za_At p l e (z_rm 3 68) s m args below meth c (MQ below (zQi G K) args s 0 0 (zA G)) G 1 0 0 0 [(0, .ref (G.2.2 + q))] [] μ
  unfold fX8_close at hf
  refine za_aload_n o 0 dX8_close_0 rfl rfl ?_
  refine za_callVv o [] (ctX8_hold l G hq   μ _ hf) zc8 hq mwX8_hold wmX8_88 wiX8_hold wsX8_hold rfl ⟨Nat.le_of_ble_eq_true rfl, Nat.le_of_ble_eq_true rfl⟩ rfl (Nat.le_of_ble_eq_true rfl) dX8_close_1 (fun m2 hf => ?_)
  refine za_aload_n o 0 dX8_close_4 rfl rfl ?_
  refine za_aload_n o 0 dX8_close_5 rfl rfl ?_
  refine za_callVi o [] (ctX8_closes l G hq   m2 _ hf) zc8 hq mwX8_closes wmX8_113 wiX8_closes wsX8_closes rfl ⟨Nat.le_of_ble_eq_true rfl, Nat.le_of_ble_eq_true rfl⟩ rfl (Nat.le_of_ble_eq_true rfl) dX8_close_6 (fun r3 m4 hf => ?_)
  refine za_callVi o [.int r3] (ctX8_recorded l G hq r3  m4 _ hf) zc8 hq mwX8_recorded wmX8_91 wiX8_recorded wsX8_recorded rfl ⟨Nat.le_of_ble_eq_true rfl, Nat.le_of_ble_eq_true rfl⟩ rfl (Nat.le_of_ble_eq_true rfl) dX8_close_9 (fun r5 m6 hf => ?_)
  exact za_iret o rfl hf dX8_close_12
def fX8_daysOf_33 (k4 : Int32 → Int32 → Int32 → zMem → Prop) (K : Int32 → zMem → Prop) (q : Nat) (v1 : Int32) (v2 : Int32) (v3 : Int32) (v4 : Int32) (μ : zMem) : Prop :=
  (∀ x1 : Int32, x1 = (v4 ||| v3) → (∀ x2 : Int32, x2 = v2 + (1 : Int32) → k4 v1 x1 x2 μ))
def fX8_daysOf_4b (k4 : Int32 → Int32 → Int32 → zMem → Prop) (K : Int32 → zMem → Prop) (q : Nat) (v1 : Int32) (v2 : Int32) (v3 : Int32) (μ : zMem) : Prop :=
  (((5 : Int32) ≤ v3 → K v2 μ) ∧ (¬ (5 : Int32) ≤ v3 → fX8_p v1 μ (fun r4 m5 => (∀ x6 : Int32, x6 = (r4 + (1 : Int32)) → (∀ x7 : Int32, x7 = (x6 + v3) → (vp_in x7 276 ∧ (∀ x9 : Int32, x9 = (m5 530 x7.toNatClampNeg) → ((x9 ≤ 0 → fX8_daysOf_33 k4 K q v1 v3 (0 : Int32) v2 m5) ∧ (¬ x9 ≤ 0 → (∀ x11 : Int32, x11 = ((1 : Int32) <<< (v3 &&& 31)) → fX8_daysOf_33 k4 K q v1 v3 x11 v2 m5))))))))))
def fX8_daysOf_4  (K : Int32 → zMem → Prop) (q : Nat) (n : Nat) : Int32 → Int32 → Int32 → zMem → Prop := z_it (fun k => fX8_daysOf_4b  k K q ) (fun _ _ _ _ => False) n
def fX8_daysOf (q : Nat) (a1 : Int32) (μ : zMem) (K : Int32 → zMem → Prop) : Prop :=
  fX8_daysOf_4  K q zFU a1 (0 : Int32) (0 : Int32) μ
set_option maxRecDepth 100000 in
set_option maxHeartbeats 4000000 in
theorem tX8_daysOf_33 {p : Program} {l : Launch} {e : Env} {s : State} {m : MethodId} {args : Array Value} {below : List Frame} {meth : Method} {c : Code} {G : zG} {k4 : Int32 → Int32 → Int32 → zMem → Prop} {K : Int32 → zMem → Prop} (o : za_Ok (z_rm 1 20) 0 0 p s m args meth c G RX8 cX8_daysOf 4 (some .int)) {q : Nat} (hq : z_is q 8) (hk4 : ∀ (v1 : Int32) (v2 : Int32) (v3 : Int32) (μ : zMem), k4 v1 v2 v3 μ → za_At p l e (z_rm 1 20) s m args below meth c (MQ below (zQi G K) args s 0 0 (zA G)) G 4 0 0 4 [(0, .ref (G.2.2 + q)), (1, .int v1), (2, .int v2), (3, .int v3)] [] μ) (v1 : Int32) (v2 : Int32) (v3 : Int32) (v4 : Int32) (μ : zMem)  (hf : fX8_daysOf_33 k4 K q v1 v2 v3 v4 μ) : za_At p l e (z_rm 1 20) s m args below meth c (MQ below (zQi G K) args s 0 0 (zA G)) G 4 0 0 33 [(0, .ref (G.2.2 + q)), (1, .int v1), (3, .int v2)] [.int v3, .int v4] μ := by
  unfold fX8_daysOf_33 at hf
  refine za_ior o dX8_daysOf_33 ?_
  refine za_topi (fun x1 ex1 => ?_)
  replace hf := hf x1 ex1
  refine za_istore_n o [(2, .int x1), (0, .ref (G.2.2 + q)), (1, .int v1), (3, .int v2)] dX8_daysOf_34 rfl (by decide) rfl ?_
  obtain ⟨x2, ex2⟩ : ∃ y : Int32, y = v2 + (1 : Int32) := ⟨_, rfl⟩
  replace hf := hf x2 ex2
  refine za_iinc o x2 3 [(3, .int x2), (2, .int x1), (0, .ref (G.2.2 + q)), (1, .int v1)] dX8_daysOf_35 rfl (by rw [ex2]; rfl) (by decide) rfl ?_
  refine za_goto o 4 dX8_daysOf_38 (by decide) ?_
  refine za_sub [2, 3, 1, 0] rfl ?_
  exact hk4 v1 x1 x2 μ  hf
set_option maxRecDepth 100000 in
set_option maxHeartbeats 4000000 in
theorem tX8_daysOf_4b {p : Program} {l : Launch} {e : Env} {s : State} {m : MethodId} {args : Array Value} {below : List Frame} {meth : Method} {c : Code} {G : zG} {k4 : Int32 → Int32 → Int32 → zMem → Prop} {K : Int32 → zMem → Prop} (o : za_Ok (z_rm 1 20) 0 0 p s m args meth c G RX8 cX8_daysOf 4 (some .int)) {q : Nat} (hq : z_is q 8) (hk4 : ∀ (v1 : Int32) (v2 : Int32) (v3 : Int32) (μ : zMem), k4 v1 v2 v3 μ → za_At p l e (z_rm 1 20) s m args below meth c (MQ below (zQi G K) args s 0 0 (zA G)) G 4 0 0 4 [(0, .ref (G.2.2 + q)), (1, .int v1), (2, .int v2), (3, .int v3)] [] μ) (v1 : Int32) (v2 : Int32) (v3 : Int32) (μ : zMem)  (hf : fX8_daysOf_4b k4 K q v1 v2 v3 μ) : za_At p l e (z_rm 1 20) s m args below meth c (MQ below (zQi G K) args s 0 0 (zA G)) G 4 0 0 4 [(0, .ref (G.2.2 + q)), (1, .int v1), (2, .int v2), (3, .int v3)] [] μ := by
  unfold fX8_daysOf_4b at hf
  refine za_iload_n o 3 dX8_daysOf_4 rfl rfl ?_
  refine za_iconst (v := (5 : Int32)) o dX8_daysOf_5 (by decide) ?_
  refine za_icmp_ge o 41 dX8_daysOf_6 (by decide) (fun c3 => ?_) (fun c3 => ?_)
  · replace hf := hf.1 c3
    refine za_iload_n o 2 dX8_daysOf_41 rfl rfl ?_
    exact za_iret o rfl hf dX8_daysOf_42
  · replace hf := hf.2 c3
    refine za_iload_n o 2 dX8_daysOf_9 rfl rfl ?_
    refine za_aload_n o 0 dX8_daysOf_10 rfl rfl ?_
    refine za_getf o 0 zc8 hq (Nat.le_of_ble_eq_true rfl) wfX8_7 rfl dX8_daysOf_11 ?_
    refine za_iload_n o 1 dX8_daysOf_14 rfl rfl ?_
    refine za_callSi o [.int v1] (ctX8_p l G v1  μ _ hf) mwX8_p wmX8_41 wtX8_p rfl ⟨Nat.le_of_ble_eq_true rfl, Nat.le_of_ble_eq_true rfl⟩ rfl (Nat.le_of_ble_eq_true rfl) dX8_daysOf_15 (fun r4 m5 hf => ?_)
    refine za_iconst (v := (1 : Int32)) o dX8_daysOf_18 (by decide) ?_
    refine za_iadd o dX8_daysOf_19 ?_
    refine za_topi (fun x6 ex6 => ?_)
    replace hf := hf x6 ex6
    refine za_iload_n o 3 dX8_daysOf_20 rfl rfl ?_
    refine za_iadd o dX8_daysOf_21 ?_
    refine za_topi (fun x7 ex7 => ?_)
    replace hf := hf x7 ex7
    obtain ⟨g8, hf⟩ := hf
    refine za_iald o zk_m0 rfl g8 dX8_daysOf_22 ?_
    refine za_topi (fun x9 ex9 => ?_)
    replace hf := hf x9 ex9
    refine za_if_le o 32 dX8_daysOf_23 (by decide) (fun c10 => ?_) (fun c10 => ?_)
    · replace hf := hf.1 c10
      refine za_iconst (v := (0 : Int32)) o dX8_daysOf_32 (by decide) ?_
      refine za_sub [0, 1, 3] rfl ?_
      exact tX8_daysOf_33 o hq hk4 v1 v3 (0 : Int32) v2 m5  hf
    · replace hf := hf.2 c10
      refine za_iconst (v := (1 : Int32)) o dX8_daysOf_26 (by decide) ?_
      refine za_iload_n o 3 dX8_daysOf_27 rfl rfl ?_
      refine za_ishl o dX8_daysOf_28 ?_
      refine za_topi (fun x11 ex11 => ?_)
      replace hf := hf x11 ex11
      refine za_goto o 33 dX8_daysOf_29 (by decide) ?_
      refine za_sub [0, 1, 3] rfl ?_
      exact tX8_daysOf_33 o hq hk4 v1 v3 x11 v2 m5  hf
theorem tX8_daysOf_4 {p : Program} {l : Launch} {e : Env} {s : State} {m : MethodId} {args : Array Value} {below : List Frame} {meth : Method} {c : Code} {G : zG}  {K : Int32 → zMem → Prop} (o : za_Ok (z_rm 1 20) 0 0 p s m args meth c G RX8 cX8_daysOf 4 (some .int)) {q : Nat} (hq : z_is q 8)  (n : Nat) : ∀ (v1 : Int32) (v2 : Int32) (v3 : Int32) (μ : zMem), fX8_daysOf_4  K q n v1 v2 v3 μ → za_At p l e (z_rm 1 20) s m args below meth c (MQ below (zQi G K) args s 0 0 (zA G)) G 4 0 0 4 [(0, .ref (G.2.2 + q)), (1, .int v1), (2, .int v2), (3, .int v3)] [] μ := by
  induction n with
  | zero => intro _ _ _ _ hf; exact hf.elim
  | succ n ih => intro v1 v2 v3 μ  hf; exact tX8_daysOf_4b o hq  ih v1 v2 v3 μ  hf
set_option maxRecDepth 100000 in
set_option maxHeartbeats 4000000 in
theorem ctX8_daysOf (l : Launch) (G : zG) {q : Nat} (hq : z_is q 8) (a1 : Int32)  (μ : zMem) (K : Int32 → zMem → Prop) (hf : fX8_daysOf q a1 μ K) : z_Met l G yX8_daysOf cX8_daysOf 4 (some .int) (z_rm 1 20) [.ref (G.2.2 + q), .int a1] μ K := by
  refine z_body (by decide) (Nat.le_of_ble_eq_true rfl) (fun p e s m args below meth c o => ?_)
  have o : za_Ok (z_rm 1 20) 0 0 p s m args meth c G RX8 cX8_daysOf 4 (some .int) := o
  show za_At p l e (z_rm 1 20) s m args below meth c (MQ below (zQi G K) args s 0 0 (zA G)) G 4 0 0 0 [(0, .ref (G.2.2 + q)), (1, .int a1)] [] μ
  unfold fX8_daysOf at hf
  refine za_iconst (v := (0 : Int32)) o dX8_daysOf_0 (by decide) ?_
  refine za_istore_n o [(2, .int (0 : Int32)), (0, .ref (G.2.2 + q)), (1, .int a1)] dX8_daysOf_1 rfl (by decide) rfl ?_
  refine za_iconst (v := (0 : Int32)) o dX8_daysOf_2 (by decide) ?_
  refine za_istore_n o [(3, .int (0 : Int32)), (2, .int (0 : Int32)), (0, .ref (G.2.2 + q)), (1, .int a1)] dX8_daysOf_3 rfl (by decide) rfl ?_
  refine za_sub [2, 3, 1, 0] rfl ?_
  exact tX8_daysOf_4 o hq  zFU a1 (0 : Int32) (0 : Int32) μ  hf
