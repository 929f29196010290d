/-! X8_left X8_awaited X8_eats X8_comesHere X8_gets X8_reason X8_ordersOf X8_cooks -/
def fX8_left (q : Nat) (a1 : Int32) (μ : zMem) (K : Int32 → zMem → Prop) : Prop :=
  fX8_d a1 μ (fun r1 m2 => (∀ x3 : Int32, x3 = (r1 + (0 : Int32)) → (vp_in x3 276 ∧ (∀ x5 : Int32, x5 = (m2 530 x3.toNatClampNeg) → fX8_d a1 m2 (fun r6 m7 => (∀ x8 : Int32, x8 = (r6 + (1 : Int32)) → (vp_in x8 276 ∧ (∀ x10 : Int32, x10 = (m7 530 x8.toNatClampNeg) → (∀ x11 : Int32, x11 = (x5 + x10) → K x11 m7)))))))))
set_option maxRecDepth 100000 in
set_option maxHeartbeats 4000000 in
theorem ctX8_left (l : Launch) (G : zG) {q : Nat} (hq : z_is q 8) (a1 : Int32)  (μ : zMem) (K : Int32 → zMem → Prop) (hf : fX8_left q a1 μ K) : z_Met l G yX8_left cX8_left 2 (some .int) (z_rm 1 20) [.ref (G.2.2 + q), .int a1] μ K := by
  refine z_body (by decide) (Nat.le_of_ble_eq_true rfl) (fun p e s m args below meth c o => ?_)
  have o : za_Ok (z_rm 1 20) 0 0 p s m args meth c G RX8 cX8_left 2 (some .int) := o
  show za_At p l e (z_rm 1 20) s m args below meth c (MQ below (zQi G K) args s 0 0 (zA G)) G 2 0 0 0 [(0, .ref (G.2.2 + q)), (1, .int a1)] [] μ
  unfold fX8_left at hf
  refine za_aload_n o 0 dX8_left_0 rfl rfl ?_
  refine za_getf o 0 zc8 hq (Nat.le_of_ble_eq_true rfl) wfX8_7 rfl dX8_left_1 ?_
  refine za_iload_n o 1 dX8_left_4 rfl rfl ?_
  refine za_callSi o [.int a1] (ctX8_d l G a1  μ _ hf) mwX8_d wmX8_51 wtX8_d rfl ⟨Nat.le_of_ble_eq_true rfl, Nat.le_of_ble_eq_true rfl⟩ rfl (Nat.le_of_ble_eq_true rfl) dX8_left_5 (fun r1 m2 hf => ?_)
  refine za_iconst (v := (0 : Int32)) o dX8_left_8 (by decide) ?_
  refine za_iadd o dX8_left_9 ?_
  refine za_topi (fun x3 ex3 => ?_)
  replace hf := hf x3 ex3
  obtain ⟨g4, hf⟩ := hf
  refine za_iald o zk_m0 rfl g4 dX8_left_10 ?_
  refine za_topi (fun x5 ex5 => ?_)
  replace hf := hf x5 ex5
  refine za_aload_n o 0 dX8_left_11 rfl rfl ?_
  refine za_getf o 0 zc8 hq (Nat.le_of_ble_eq_true rfl) wfX8_7 rfl dX8_left_12 ?_
  refine za_iload_n o 1 dX8_left_15 rfl rfl ?_
  refine za_callSi o [.int a1] (ctX8_d l G a1  m2 _ hf) mwX8_d wmX8_51 wtX8_d rfl ⟨Nat.le_of_ble_eq_true rfl, Nat.le_of_ble_eq_true rfl⟩ rfl (Nat.le_of_ble_eq_true rfl) dX8_left_16 (fun r6 m7 hf => ?_)
  refine za_iconst (v := (1 : Int32)) o dX8_left_19 (by decide) ?_
  refine za_iadd o dX8_left_20 ?_
  refine za_topi (fun x8 ex8 => ?_)
  replace hf := hf x8 ex8
  obtain ⟨g9, hf⟩ := hf
  refine za_iald o zk_m0 rfl g9 dX8_left_21 ?_
  refine za_topi (fun x10 ex10 => ?_)
  replace hf := hf x10 ex10
  refine za_iadd o dX8_left_22 ?_
  refine za_topi (fun x11 ex11 => ?_)
  replace hf := hf x11 ex11
  exact za_iret o rfl hf dX8_left_23
def fX8_awaited_45 (k4 : Int32 → Int32 → Int32 → zMem → Prop) (K : Int32 → zMem → Prop) (q : Nat) (v1 : Int32) (v2 : Int32) (v3 : Int32) (v4 : Int32) (μ : zMem) : Prop :=
  (∀ x1 : Int32, x1 = (v4 + v3) → (∀ x2 : Int32, x2 = v2 + (1 : Int32) → k4 v1 x1 x2 μ))
def fX8_awaited_44 (k4 : Int32 → Int32 → Int32 → zMem → Prop) (K : Int32 → zMem → Prop) (q : Nat) (v1 : Int32) (v2 : Int32) (v3 : Int32) (μ : zMem) : Prop :=
  fX8_awaited_45 k4 K q v1 v2 (0 : Int32) v3 μ
def fX8_awaited_4b (k4 : Int32 → Int32 → Int32 → zMem → Prop) (K : Int32 → zMem → Prop) (q : Nat) (v1 : Int32) (v2 : Int32) (v3 : Int32) (μ : zMem) : Prop :=
  (∀ x3 : Int32, x3 = (μ 530 5) → ((x3 ≤ v3 → K v2 μ) ∧ (¬ x3 ≤ v3 → fX8_isFor q v3 (0 : Int32) v1 μ (fun r5 m6 => ((r5 = 0 → fX8_awaited_44 k4 K q v1 v3 v2 m6) ∧ (¬ r5 = 0 → fX8_p v3 m6 (fun r8 m9 => (∀ x10 : Int32, x10 = (r8 + (15 : Int32)) → (vp_in x10 276 ∧ (∀ x12 : Int32, x12 = (m9 530 x10.toNatClampNeg) → ((¬ x12 = 0 → fX8_awaited_44 k4 K q v1 v3 v2 m9) ∧ (x12 = 0 → fX8_awaited_45 k4 K q v1 v3 (1 : Int32) v2 m9))))))))))))
def fX8_awaited_4  (K : Int32 → zMem → Prop) (q : Nat) (n : Nat) : Int32 → Int32 → Int32 → zMem → Prop := z_it (fun k => fX8_awaited_4b  k K q ) (fun _ _ _ _ => False) n
def fX8_awaited (q : Nat) (a1 : Int32) (μ : zMem) (K : Int32 → zMem → Prop) : Prop :=
  fX8_awaited_4  K q zFU a1 (0 : Int32) (0 : Int32) μ
set_option maxRecDepth 100000 in
set_option maxHeartbeats 4000000 in
theorem tX8_awaited_45 {p : Program} {l : Launch} {e : Env} {s : State} {m : MethodId} {args : Array Value} {below : List Frame} {meth : Method} {c : Code} {G : zG} {k4 : Int32 → Int32 → Int32 → zMem → Prop} {K : Int32 → zMem → Prop} (o : za_Ok (z_rm 2 43) 0 0 p s m args meth c G RX8 cX8_awaited 4 (some .int)) {q : Nat} (hq : z_is q 8) (hk4 : ∀ (v1 : Int32) (v2 : Int32) (v3 : Int32) (μ : zMem), k4 v1 v2 v3 μ → za_At p l e (z_rm 2 43) s m args below meth c (MQ below (zQi G K) args s 0 0 (zA G)) G 4 0 0 4 [(0, .ref (G.2.2 + q)), (1, .int v1), (2, .int v2), (3, .int v3)] [] μ) (v1 : Int32) (v2 : Int32) (v3 : Int32) (v4 : Int32) (μ : zMem)  (hf : fX8_awaited_45 k4 K q v1 v2 v3 v4 μ) : za_At p l e (z_rm 2 43) s m args below meth c (MQ below (zQi G K) args s 0 0 (zA G)) G 4 0 0 45 [(0, .ref (G.2.2 + q)), (1, .int v1), (3, .int v2)] [.int v3, .int v4] μ := by
  unfold fX8_awaited_45 at hf
  refine za_iadd o dX8_awaited_45 ?_
  refine za_topi (fun x1 ex1 => ?_)
  replace hf := hf x1 ex1
  refine za_istore_n o [(2, .int x1), (0, .ref (G.2.2 + q)), (1, .int v1), (3, .int v2)] dX8_awaited_46 rfl (by decide) rfl ?_
  obtain ⟨x2, ex2⟩ : ∃ y : Int32, y = v2 + (1 : Int32) := ⟨_, rfl⟩
  replace hf := hf x2 ex2
  refine za_iinc o x2 3 [(3, .int x2), (2, .int x1), (0, .ref (G.2.2 + q)), (1, .int v1)] dX8_awaited_47 rfl (by rw [ex2]; rfl) (by decide) rfl ?_
  refine za_goto o 4 dX8_awaited_50 (by decide) ?_
  refine za_sub [2, 3, 1, 0] rfl ?_
  exact hk4 v1 x1 x2 μ  hf
set_option maxRecDepth 100000 in
set_option maxHeartbeats 4000000 in
theorem tX8_awaited_44 {p : Program} {l : Launch} {e : Env} {s : State} {m : MethodId} {args : Array Value} {below : List Frame} {meth : Method} {c : Code} {G : zG} {k4 : Int32 → Int32 → Int32 → zMem → Prop} {K : Int32 → zMem → Prop} (o : za_Ok (z_rm 2 43) 0 0 p s m args meth c G RX8 cX8_awaited 4 (some .int)) {q : Nat} (hq : z_is q 8) (hk4 : ∀ (v1 : Int32) (v2 : Int32) (v3 : Int32) (μ : zMem), k4 v1 v2 v3 μ → za_At p l e (z_rm 2 43) s m args below meth c (MQ below (zQi G K) args s 0 0 (zA G)) G 4 0 0 4 [(0, .ref (G.2.2 + q)), (1, .int v1), (2, .int v2), (3, .int v3)] [] μ) (v1 : Int32) (v2 : Int32) (v3 : Int32) (μ : zMem)  (hf : fX8_awaited_44 k4 K q v1 v2 v3 μ) : za_At p l e (z_rm 2 43) s m args below meth c (MQ below (zQi G K) args s 0 0 (zA G)) G 4 0 0 44 [(0, .ref (G.2.2 + q)), (1, .int v1), (3, .int v2)] [.int v3] μ := by
  unfold fX8_awaited_44 at hf
  refine za_iconst (v := (0 : Int32)) o dX8_awaited_44 (by decide) ?_
  exact tX8_awaited_45 o hq hk4 v1 v2 (0 : Int32) v3 μ  hf
set_option maxRecDepth 100000 in
set_option maxHeartbeats 4000000 in
theorem tX8_awaited_4b {p : Program} {l : Launch} {e : Env} {s : State} {m : MethodId} {args : Array Value} {below : List Frame} {meth : Method} {c : Code} {G : zG} {k4 : Int32 → Int32 → Int32 → zMem → Prop} {K : Int32 → zMem → Prop} (o : za_Ok (z_rm 2 43) 0 0 p s m args meth c G RX8 cX8_awaited 4 (some .int)) {q : Nat} (hq : z_is q 8) (hk4 : ∀ (v1 : Int32) (v2 : Int32) (v3 : Int32) (μ : zMem), k4 v1 v2 v3 μ → za_At p l e (z_rm 2 43) s m args below meth c (MQ below (zQi G K) args s 0 0 (zA G)) G 4 0 0 4 [(0, .ref (G.2.2 + q)), (1, .int v1), (2, .int v2), (3, .int v3)] [] μ) (v1 : Int32) (v2 : Int32) (v3 : Int32) (μ : zMem)  (hf : fX8_awaited_4b k4 K q v1 v2 v3 μ) : za_At p l e (z_rm 2 43) s m args below meth c (MQ below (zQi G K) args s 0 0 (zA G)) G 4 0 0 4 [(0, .ref (G.2.2 + q)), (1, .int v1), (2, .int v2), (3, .int v3)] [] μ := by
  unfold fX8_awaited_4b at hf
  refine za_iload_n o 3 dX8_awaited_4 rfl rfl ?_
  refine za_aload_n o 0 dX8_awaited_5 rfl rfl ?_
  refine za_getf o 0 zc8 hq (Nat.le_of_ble_eq_true rfl) wfX8_7 rfl dX8_awaited_6 ?_
  refine za_iconst (v := (5 : Int32)) o dX8_awaited_9 (by decide) ?_
  refine za_iald o zk_m0 rfl (by unfold vp_in; decide) dX8_awaited_10 ?_
  refine za_topi (fun x3 ex3 => ?_)
  replace hf := hf x3 ex3
  refine za_icmp_ge o 53 dX8_awaited_11 (by decide) (fun c4 => ?_) (fun c4 => ?_)
  · replace hf := hf.1 c4
    refine za_iload_n o 2 dX8_awaited_53 rfl rfl ?_
    exact za_iret o rfl hf dX8_awaited_54
  · replace hf := hf.2 c4
    refine za_iload_n o 2 dX8_awaited_14 rfl rfl ?_
    refine za_aload_n o 0 dX8_awaited_15 rfl rfl ?_
    refine za_iload_n o 3 dX8_awaited_16 rfl rfl ?_
    refine za_iconst (v := (0 : Int32)) o dX8_awaited_17 (by decide) ?_
    refine za_iload_n o 1 dX8_awaited_18 rfl rfl ?_
    refine za_callVi o [.int v3, .int (0 : Int32), .int v1] (ctX8_isFor l G hq v3 (0 : Int32) v1  μ _ hf) zc8 hq mwX8_isFor wmX8_45 wiX8_isFor wsX8_isFor rfl ⟨Nat.le_of_ble_eq_true rfl, Nat.le_of_ble_eq_true rfl⟩ rfl (Nat.le_of_ble_eq_true rfl) dX8_awaited_19 (fun r5 m6 hf => ?_)
    refine za_if_eq o 44 dX8_awaited_22 (by decide) (fun c7 => ?_) (fun c7 => ?_)
    · replace hf := hf.1 c7
      refine za_sub [0, 1, 3] rfl ?_
      exact tX8_awaited_44 o hq hk4 v1 v3 v2 m6  hf
    · replace hf := hf.2 c7
      refine za_aload_n o 0 dX8_awaited_25 rfl rfl ?_
      refine za_getf o 0 zc8 hq (Nat.le_of_ble_eq_true rfl) wfX8_7 rfl dX8_awaited_26 ?_
      refine za_iload_n o 3 dX8_awaited_29 rfl rfl ?_
      refine za_callSi o [.int v3] (ctX8_p l G v3  m6 _ hf) mwX8_p wmX8_41 wtX8_p rfl ⟨Nat.le_of_ble_eq_true rfl, Nat.le_of_ble_eq_true rfl⟩ rfl (Nat.le_of_ble_eq_true rfl) dX8_awaited_30 (fun r8 m9 hf => ?_)
      refine za_bipush (v := (15 : Int32)) o dX8_awaited_33 (by decide) ?_
      refine za_iadd o dX8_awaited_35 ?_
      refine za_topi (fun x10 ex10 => ?_)
      replace hf := hf x10 ex10
      obtain ⟨g11, hf⟩ := hf
      refine za_iald o zk_m0 rfl g11 dX8_awaited_36 ?_
      refine za_topi (fun x12 ex12 => ?_)
      replace hf := hf x12 ex12
      refine za_if_ne o 44 dX8_awaited_37 (by decide) (fun c13 => ?_) (fun c13 => ?_)
      · replace hf := hf.1 c13
        refine za_sub [0, 1, 3] rfl ?_
        exact tX8_awaited_44 o hq hk4 v1 v3 v2 m9  hf
      · replace hf := hf.2 c13
        refine za_iconst (v := (1 : Int32)) o dX8_awaited_40 (by decide) ?_
        refine za_goto o 45 dX8_awaited_41 (by decide) ?_
        refine za_sub [0, 1, 3] rfl ?_
        exact tX8_awaited_45 o hq hk4 v1 v3 (1 : Int32) v2 m9  hf
theorem tX8_awaited_4 {p : Program} {l : Launch} {e : Env} {s : State} {m : MethodId} {args : Array Value} {below : List Frame} {meth : Method} {c : Code} {G : zG}  {K : Int32 → zMem → Prop} (o : za_Ok (z_rm 2 43) 0 0 p s m args meth c G RX8 cX8_awaited 4 (some .int)) {q : Nat} (hq : z_is q 8)  (n : Nat) : ∀ (v1 : Int32) (v2 : Int32) (v3 : Int32) (μ : zMem), fX8_awaited_4  K q n v1 v2 v3 μ → za_At p l e (z_rm 2 43) s m args below meth c (MQ below (zQi G K) args s 0 0 (zA G)) G 4 0 0 4 [(0, .ref (G.2.2 + q)), (1, .int v1), (2, .int v2), (3, .int v3)] [] μ := by
  induction n with
  | zero => intro _ _ _ _ hf; exact hf.elim
  | succ n ih => intro v1 v2 v3 μ  hf; exact tX8_awaited_4b o hq  ih v1 v2 v3 μ  hf
set_option maxRecDepth 100000 in
set_option maxHeartbeats 4000000 in
theorem ctX8_awaited (l : Launch) (G : zG) {q : Nat} (hq : z_is q 8) (a1 : Int32)  (μ : zMem) (K : Int32 → zMem → Prop) (hf : fX8_awaited q a1 μ K) : z_Met l G yX8_awaited cX8_awaited 4 (some .int) (z_rm 2 43) [.ref (G.2.2 + q), .int a1] μ K := by
  refine z_body (by decide) (Nat.le_of_ble_eq_true rfl) (fun p e s m args below meth c o => ?_)
  have o : za_Ok (z_rm 2 43) 0 0 p s m args meth c G RX8 cX8_awaited 4 (some .int) := o
  show za_At p l e (z_rm 2 43) s m args below meth c (MQ below (zQi G K) args s 0 0 (zA G)) G 4 0 0 0 [(0, .ref (G.2.2 + q)), (1, .int a1)] [] μ
  unfold fX8_awaited at hf
  refine za_iconst (v := (0 : Int32)) o dX8_awaited_0 (by decide) ?_
  refine za_istore_n o [(2, .int (0 : Int32)), (0, .ref (G.2.2 + q)), (1, .int a1)] dX8_awaited_1 rfl (by decide) rfl ?_
  refine za_iconst (v := (0 : Int32)) o dX8_awaited_2 (by decide) ?_
  refine za_istore_n o [(3, .int (0 : Int32)), (2, .int (0 : Int32)), (0, .ref (G.2.2 + q)), (1, .int a1)] dX8_awaited_3 rfl (by decide) rfl ?_
  refine za_sub [2, 3, 1, 0] rfl ?_
  exact tX8_awaited_4 o hq  zFU a1 (0 : Int32) (0 : Int32) μ  hf
def fX8_eats_19  (K : zMem → Prop) (q : Nat) (v1 : Int32) (v2 : Int32) (v3 : Int32) (μ : zMem) : Prop :=
  fX8_d v2 μ (fun r1 m2 => (∀ x3 : Int32, x3 = (r1 + v3) → (vp_in x3 276 ∧ (∀ x5 : Int32, x5 = (m2 530 x3.toNatClampNeg) → (∀ x6 : Int32, x6 = (x5 - (1 : Int32)) → (vp_in x3 276 ∧ (∀ m8 : zMem, m8 = z_up m2 530 x3.toNatClampNeg x6 → fX8_d v2 m8 (fun r9 m10 => (∀ x11 : Int32, x11 = (r9 + (3 : Int32)) → (vp_in x11 276 ∧ (∀ x13 : Int32, x13 = (m10 530 x11.toNatClampNeg) → (∀ x14 : Int32, x14 = (x13 + (1 : Int32)) → (vp_in x11 276 ∧ (∀ m16 : zMem, m16 = z_up m10 530 x11.toNatClampNeg x14 → fX8_p v1 m16 (fun r17 m18 => (∀ x19 : Int32, x19 = (r17 + (16 : Int32)) → (vp_in x19 276 ∧ (∀ x21 : Int32, x21 = (m18 530 x19.toNatClampNeg) → (∀ x22 : Int32, x22 = (x21 + (1 : Int32)) → (vp_in x19 276 ∧ (∀ m24 : zMem, m24 = z_up m18 530 x19.toNatClampNeg x22 → K m24)))))))))))))))))))))
def fX8_eats (q : Nat) (a1 : Int32) (a2 : Int32) (μ : zMem) (K : zMem → Prop) : Prop :=
  fX8_d a2 μ (fun r25 m26 => (∀ x27 : Int32, x27 = (r25 + (0 : Int32)) → (vp_in x27 276 ∧ (∀ x29 : Int32, x29 = (m26 530 x27.toNatClampNeg) → ((x29 ≤ 0 → fX8_eats_19  K q a1 a2 (1 : Int32) m26) ∧ (¬ x29 ≤ 0 → fX8_eats_19  K q a1 a2 (0 : Int32) m26))))))
set_option maxRecDepth 100000 in
set_option maxHeartbeats 4000000 in
theorem tX8_eats_19 {p : Program} {l : Launch} {e : Env} {s : State} {m : MethodId} {args : Array Value} {below : List Frame} {meth : Method} {c : Code} {G : zG}  {K : zMem → Prop} (o : za_Ok (z_rm 1 20) 0 0 p s m args meth c G RX8 cX8_eats 4 none) {q : Nat} (hq : z_is q 8)  (v1 : Int32) (v2 : Int32) (v3 : Int32) (μ : zMem)  (hf : fX8_eats_19  K q v1 v2 v3 μ) : za_At p l e (z_rm 1 20) s m args below meth c (MQ below (zQv G K) args s 0 0 (zA G)) G 4 0 0 19 [(0, .ref (G.2.2 + q)), (1, .int v1), (2, .int v2)] [.int v3] μ := by
  unfold fX8_eats_19 at hf
  refine za_istore_n o [(3, .int v3), (0, .ref (G.2.2 + q)), (1, .int v1), (2, .int v2)] dX8_eats_19 rfl (by decide) rfl ?_
  refine za_aload_n o 1 dX8_eats_20 rfl rfl ?_
  refine za_getf o 0 zc8 hq (Nat.le_of_ble_eq_true rfl) wfX8_7 rfl dX8_eats_21 ?_
  refine za_iload_n o 3 dX8_eats_24 rfl rfl ?_
  refine za_callSi o [.int v2] (ctX8_d l G v2  μ _ hf) mwX8_d wmX8_51 wtX8_d rfl ⟨Nat.le_of_ble_eq_true rfl, Nat.le_of_ble_eq_true rfl⟩ rfl (Nat.le_of_ble_eq_true rfl) dX8_eats_25 (fun r1 m2 hf => ?_)
  refine za_iload_n o 0 dX8_eats_28 rfl rfl ?_
  refine za_iadd o dX8_eats_29 ?_
  refine za_topi (fun x3 ex3 => ?_)
  replace hf := hf x3 ex3
  refine za_dup2 o dX8_eats_30 rfl rfl ?_
  obtain ⟨g4, hf⟩ := hf
  refine za_iald o zk_m0 rfl g4 dX8_eats_31 ?_
  refine za_topi (fun x5 ex5 => ?_)
  replace hf := hf x5 ex5
  refine za_iconst (v := (1 : Int32)) o dX8_eats_32 (by decide) ?_
  refine za_isub o dX8_eats_33 ?_
  refine za_topi (fun x6 ex6 => ?_)
  replace hf := hf x6 ex6
  obtain ⟨g7, hf⟩ := hf
  refine za_iast o zk_m0 rfl g7 dX8_eats_34 ?_
  refine za_mem (fun m8 em8 => ?_)
  replace hf := hf m8 em8
  refine za_aload_n o 1 dX8_eats_35 rfl rfl ?_
  refine za_getf o 0 zc8 hq (Nat.le_of_ble_eq_true rfl) wfX8_7 rfl dX8_eats_36 ?_
  refine za_iload_n o 3 dX8_eats_39 rfl rfl ?_
  refine za_callSi o [.int v2] (ctX8_d l G v2  m8 _ hf) mwX8_d wmX8_51 wtX8_d rfl ⟨Nat.le_of_ble_eq_true rfl, Nat.le_of_ble_eq_true rfl⟩ rfl (Nat.le_of_ble_eq_true rfl) dX8_eats_40 (fun r9 m10 hf => ?_)
  refine za_iconst (v := (3 : Int32)) o dX8_eats_43 (by decide) ?_
  refine za_iadd o dX8_eats_44 ?_
  refine za_topi (fun x11 ex11 => ?_)
  replace hf := hf x11 ex11
  refine za_dup2 o dX8_eats_45 rfl rfl ?_
  obtain ⟨g12, hf⟩ := hf
  refine za_iald o zk_m0 rfl g12 dX8_eats_46 ?_
  refine za_topi (fun x13 ex13 => ?_)
  replace hf := hf x13 ex13
  refine za_iconst (v := (1 : Int32)) o dX8_eats_47 (by decide) ?_
  refine za_iadd o dX8_eats_48 ?_
  refine za_topi (fun x14 ex14 => ?_)
  replace hf := hf x14 ex14
  obtain ⟨g15, hf⟩ := hf
  refine za_iast o zk_m0 rfl g15 dX8_eats_49 ?_
  refine za_mem (fun m16 em16 => ?_)
  replace hf := hf m16 em16
  refine za_aload_n o 1 dX8_eats_50 rfl rfl ?_
  refine za_getf o 0 zc8 hq (Nat.le_of_ble_eq_true rfl) wfX8_7 rfl dX8_eats_51 ?_
  refine za_iload_n o 2 dX8_eats_54 rfl rfl ?_
  refine za_callSi o [.int v1] (ctX8_p l G v1  m16 _ hf) mwX8_p wmX8_41 wtX8_p rfl ⟨Nat.le_of_ble_eq_true rfl, Nat.le_of_ble_eq_true rfl⟩ rfl (Nat.le_of_ble_eq_true rfl) dX8_eats_55 (fun r17 m18 hf => ?_)
  refine za_bipush (v := (16 : Int32)) o dX8_eats_58 (by decide) ?_
  refine za_iadd o dX8_eats_60 ?_
  refine za_topi (fun x19 ex19 => ?_)
  replace hf := hf x19 ex19
  refine za_dup2 o dX8_eats_61 rfl rfl ?_
  obtain ⟨g20, hf⟩ := hf
  refine za_iald o zk_m0 rfl g20 dX8_eats_62 ?_
  refine za_topi (fun x21 ex21 => ?_)
  replace hf := hf x21 ex21
  refine za_iconst (v := (1 : Int32)) o dX8_eats_63 (by decide) ?_
  refine za_iadd o dX8_eats_64 ?_
  refine za_topi (fun x22 ex22 => ?_)
  replace hf := hf x22 ex22
  obtain ⟨g23, hf⟩ := hf
  refine za_iast o zk_m0 rfl g23 dX8_eats_65 ?_
  refine za_mem (fun m24 em24 => ?_)
  replace hf := hf m24 em24
  exact za_vret o rfl hf dX8_eats_66
set_option maxRecDepth 100000 in
set_option maxHeartbeats 4000000 in
theorem ctX8_eats (l : Launch) (G : zG) {q : Nat} (hq : z_is q 8) (a1 : Int32) (a2 : Int32)  (μ : zMem) (K : zMem → Prop) (hf : fX8_eats q a1 a2 μ K) : z_MetV l G yX8_eats cX8_eats 4 none (z_rm 1 20) [.ref (G.2.2 + q), .int a1, .int a2] μ K := by
  refine z_body (by decide) (Nat.le_of_ble_eq_true rfl) (fun p e s m args below meth c o => ?_)
  have o : za_Ok (z_rm 1 20) 0 0 p s m args meth c G RX8 cX8_eats 4 none := o
  show za_At p l e (z_rm 1 20) s m args below meth c (MQ below (zQv G K) args s 0 0 (zA G)) G 4 0 0 0 [(0, .ref (G.2.2 + q)), (1, .int a1), (2, .int a2)] [] μ
  unfold fX8_eats at hf
  refine za_aload_n o 0 dX8_eats_0 rfl rfl ?_
  refine za_getf o 0 zc8 hq (Nat.le_of_ble_eq_true rfl) wfX8_7 rfl dX8_eats_1 ?_
  refine za_iload_n o 2 dX8_eats_4 rfl rfl ?_
  refine za_callSi o [.int a2] (ctX8_d l G a2  μ _ hf) mwX8_d wmX8_51 wtX8_d rfl ⟨Nat.le_of_ble_eq_true rfl, Nat.le_of_ble_eq_true rfl⟩ rfl (Nat.le_of_ble_eq_true rfl) dX8_eats_5 (fun r25 m26 hf => ?_)
  refine za_iconst (v := (0 : Int32)) o dX8_eats_8 (by decide) ?_
  refine za_iadd o dX8_eats_9 ?_
  refine za_topi (fun x27 ex27 => ?_)
  replace hf := hf x27 ex27
  obtain ⟨g28, hf⟩ := hf
  refine za_iald o zk_m0 rfl g28 dX8_eats_10 ?_
  refine za_topi (fun x29 ex29 => ?_)
  replace hf := hf x29 ex29
  refine za_if_le o 18 dX8_eats_11 (by decide) (fun c30 => ?_) (fun c30 => ?_)
  · replace hf := hf.1 c30
    refine za_iconst (v := (1 : Int32)) o dX8_eats_18 (by decide) ?_
    exact tX8_eats_19 o hq  a1 a2 (1 : Int32) m26  hf
  · replace hf := hf.2 c30
    refine za_iconst (v := (0 : Int32)) o dX8_eats_14 (by decide) ?_
    refine za_goto o 19 dX8_eats_15 (by decide) ?_
    exact tX8_eats_19 o hq  a1 a2 (0 : Int32) m26  hf
def fX8_comesHere_23b (k23 : Int32 → Int32 → zMem → Prop) (K : Int32 → zMem → Prop) (q : Nat) (v1 : Int32) (v2 : Int32) (μ : zMem) : Prop :=
  (((17 : Int32) ≤ v2 → fX8_p v1 μ (fun r2 m3 => (∀ x4 : Int32, x4 = (r2 + (0 : Int32)) → (vp_in x4 276 ∧ (∀ m6 : zMem, m6 = z_up m3 530 x4.toNatClampNeg (5 : Int32) → (∀ x7 : Int32, x7 = (m6 530 5) → (∀ x8 : Int32, x8 = (x7 + (1 : Int32)) → (∀ m9 : zMem, m9 = z_up m6 530 5 x8 → K v1 m9)))))))) ∧ (¬ (17 : Int32) ≤ v2 → fX8_p v1 μ (fun r10 m11 => (∀ x12 : Int32, x12 = (r10 + v2) → (vp_in x12 276 ∧ (∀ m14 : zMem, m14 = z_up m11 530 x12.toNatClampNeg (0 : Int32) → (∀ x15 : Int32, x15 = v2 + (1 : Int32) → k23 v1 x15 m14)))))))
def fX8_comesHere_23  (K : Int32 → zMem → Prop) (q : Nat) (n : Nat) : Int32 → Int32 → zMem → Prop := z_it (fun k => fX8_comesHere_23b  k K q ) (fun _ _ _ => False) n
def fX8_comesHere (q : Nat)  (μ : zMem) (K : Int32 → zMem → Prop) : Prop :=
  (∀ x16 : Int32, x16 = (μ 530 5) → ((¬ x16 = (14 : Int32) → (∀ x18 : Int32, x18 = (μ 530 5) → fX8_comesHere_23  K q zFU x18 (0 : Int32) μ)) ∧ (x16 = (14 : Int32) → K (-4 : Int32) μ)))
set_option maxRecDepth 100000 in
set_option maxHeartbeats 4000000 in
theorem tX8_comesHere_23b {p : Program} {l : Launch} {e : Env} {s : State} {m : MethodId} {args : Array Value} {below : List Frame} {meth : Method} {c : Code} {G : zG} {k23 : Int32 → Int32 → zMem → Prop} {K : Int32 → zMem → Prop} (o : za_Ok (z_rm 1 20) 0 0 p s m args meth c G RX8 cX8_comesHere 3 (some .int)) {q : Nat} (hq : z_is q 8) (hk23 : ∀ (v1 : Int32) (v2 : Int32) (μ : zMem), k23 v1 v2 μ → za_At p l e (z_rm 1 20) s m args below meth c (MQ below (zQi G K) args s 0 0 (zA G)) G 3 0 0 23 [(0, .ref (G.2.2 + q)), (1, .int v1), (2, .int v2)] [] μ) (v1 : Int32) (v2 : Int32) (μ : zMem)  (hf : fX8_comesHere_23b k23 K q v1 v2 μ) : za_At p l e (z_rm 1 20) s m args below meth c (MQ below (zQi G K) args s 0 0 (zA G)) G 3 0 0 23 [(0, .ref (G.2.2 + q)), (1, .int v1), (2, .int v2)] [] μ := by
  unfold fX8_comesHere_23b at hf
  refine za_iload_n o 2 dX8_comesHere_23 rfl rfl ?_
  refine za_bipush (v := (17 : Int32)) o dX8_comesHere_24 (by decide) ?_
  refine za_icmp_ge o 47 dX8_comesHere_26 (by decide) (fun c1 => ?_) (fun c1 => ?_)
  · replace hf := hf.1 c1
    refine za_aload_n o 0 dX8_comesHere_47 rfl rfl ?_
    refine za_getf o 0 zc8 hq (Nat.le_of_ble_eq_true rfl) wfX8_7 rfl dX8_comesHere_48 ?_
    refine za_iload_n o 1 dX8_comesHere_51 rfl rfl ?_
    refine za_callSi o [.int v1] (ctX8_p l G v1  μ _ hf) mwX8_p wmX8_41 wtX8_p rfl ⟨Nat.le_of_ble_eq_true rfl, Nat.le_of_ble_eq_true rfl⟩ rfl (Nat.le_of_ble_eq_true rfl) dX8_comesHere_52 (fun r2 m3 hf => ?_)
    refine za_iconst (v := (0 : Int32)) o dX8_comesHere_55 (by decide) ?_
    refine za_iadd o dX8_comesHere_56 ?_
    refine za_topi (fun x4 ex4 => ?_)
    replace hf := hf x4 ex4
    refine za_iconst (v := (5 : Int32)) o dX8_comesHere_57 (by decide) ?_
    obtain ⟨g5, hf⟩ := hf
    refine za_iast o zk_m0 rfl g5 dX8_comesHere_58 ?_
    refine za_mem (fun m6 em6 => ?_)
    replace hf := hf m6 em6
    refine za_aload_n o 0 dX8_comesHere_59 rfl rfl ?_
    refine za_getf o 0 zc8 hq (Nat.le_of_ble_eq_true rfl) wfX8_7 rfl dX8_comesHere_60 ?_
    refine za_iconst (v := (5 : Int32)) o dX8_comesHere_63 (by decide) ?_
    refine za_dup2 o dX8_comesHere_64 rfl rfl ?_
    refine za_iald o zk_m0 rfl (by unfold vp_in; decide) dX8_comesHere_65 ?_
    refine za_topi (fun x7 ex7 => ?_)
    replace hf := hf x7 ex7
    refine za_iconst (v := (1 : Int32)) o dX8_comesHere_66 (by decide) ?_
    refine za_iadd o dX8_comesHere_67 ?_
    refine za_topi (fun x8 ex8 => ?_)
    replace hf := hf x8 ex8
    refine za_iast o zk_m0 rfl (by unfold vp_in; decide) dX8_comesHere_68 ?_
    refine za_mem (fun m9 em9 => ?_)
    replace hf := hf m9 em9
    refine za_iload_n o 1 dX8_comesHere_69 rfl rfl ?_
    exact za_iret o rfl hf dX8_comesHere_70
  · replace hf := hf.2 c1
    refine za_aload_n o 0 dX8_comesHere_29 rfl rfl ?_
    refine za_getf o 0 zc8 hq (Nat.le_of_ble_eq_true rfl) wfX8_7 rfl dX8_comesHere_30 ?_
    refine za_iload_n o 1 dX8_comesHere_33 rfl rfl ?_
    refine za_callSi o [.int v1] (ctX8_p l G v1  μ _ hf) mwX8_p wmX8_41 wtX8_p rfl ⟨Nat.le_of_ble_eq_true rfl, Nat.le_of_ble_eq_true rfl⟩ rfl (Nat.le_of_ble_eq_true rfl) dX8_comesHere_34 (fun r10 m11 hf => ?_)
    refine za_iload_n o 2 dX8_comesHere_37 rfl rfl ?_
    refine za_iadd o dX8_comesHere_38 ?_
    refine za_topi (fun x12 ex12 => ?_)
    replace hf := hf x12 ex12
    refine za_iconst (v := (0 : Int32)) o dX8_comesHere_39 (by decide) ?_
    obtain ⟨g13, hf⟩ := hf
    refine za_iast o zk_m0 rfl g13 dX8_comesHere_40 ?_
    refine za_mem (fun m14 em14 => ?_)
    replace hf := hf m14 em14
    obtain ⟨x15, ex15⟩ : ∃ y : Int32, y = v2 + (1 : Int32) := ⟨_, rfl⟩
    replace hf := hf x15 ex15
    refine za_iinc o x15 2 [(2, .int x15), (0, .ref (G.2.2 + q)), (1, .int v1)] dX8_comesHere_41 rfl (by rw [ex15]; rfl) (by decide) rfl ?_
    refine za_goto o 23 dX8_comesHere_44 (by decide) ?_
    refine za_sub [1, 2, 0] rfl ?_
    exact hk23 v1 x15 m14  hf
theorem tX8_comesHere_23 {p : Program} {l : Launch} {e : Env} {s : State} {m : MethodId} {args : Array Value} {below : List Frame} {meth : Method} {c : Code} {G : zG}  {K : Int32 → zMem → Prop} (o : za_Ok (z_rm 1 20) 0 0 p s m args meth c G RX8 cX8_comesHere 3 (some .int)) {q : Nat} (hq : z_is q 8)  (n : Nat) : ∀ (v1 : Int32) (v2 : Int32) (μ : zMem), fX8_comesHere_23  K q n v1 v2 μ → za_At p l e (z_rm 1 20) s m args below meth c (MQ below (zQi G K) args s 0 0 (zA G)) G 3 0 0 23 [(0, .ref (G.2.2 + q)), (1, .int v1), (2, .int v2)] [] μ := by
  induction n with
  | zero => intro _ _ _ hf; exact hf.elim
  | succ n ih => intro v1 v2 μ  hf; exact tX8_comesHere_23b o hq  ih v1 v2 μ  hf
set_option maxRecDepth 100000 in
set_option maxHeartbeats 4000000 in
theorem ctX8_comesHere (l : Launch) (G : zG) {q : Nat} (hq : z_is q 8)   (μ : zMem) (K : Int32 → zMem → Prop) (hf : fX8_comesHere q  μ K) : z_Met l G yX8_comesHere cX8_comesHere 3 (some .int) (z_rm 1 20) [.ref (G.2.2 + q)] μ K := by
  refine z_body (by decide) (Nat.le_of_ble_eq_true rfl) (fun p e s m args below meth c o => ?_)
  have o : za_Ok (z_rm 1 20) 0 0 p s m args meth c G RX8 cX8_comesHere 3 (some .int) := o
  show za_At p l e (z_rm 1 20) s m args below meth c (MQ below (zQi G K) args s 0 0 (zA G)) G 3 0 0 0 [(0, .ref (G.2.2 + q))] [] μ
  unfold fX8_comesHere at hf
  refine za_aload_n o 0 dX8_comesHere_0 rfl rfl ?_
  refine za_getf o 0 zc8 hq (Nat.le_of_ble_eq_true rfl) wfX8_7 rfl dX8_comesHere_1 ?_
  refine za_iconst (v := (5 : Int32)) o dX8_comesHere_4 (by decide) ?_
  refine za_iald o zk_m0 rfl (by unfold vp_in; decide) dX8_comesHere_5 ?_
  refine za_topi (fun x16 ex16 => ?_)
  replace hf := hf x16 ex16
  refine za_bipush (v := (14 : Int32)) o dX8_comesHere_6 (by decide) ?_
  refine za_icmp_ne o 14 dX8_comesHere_8 (by decide) (fun c17 => ?_) (fun c17 => ?_)
  · replace hf := hf.1 c17
    refine za_aload_n o 0 dX8_comesHere_14 rfl rfl ?_
    refine za_getf o 0 zc8 hq (Nat.le_of_ble_eq_true rfl) wfX8_7 rfl dX8_comesHere_15 ?_
    refine za_iconst (v := (5 : Int32)) o dX8_comesHere_18 (by decide) ?_
    refine za_iald o zk_m0 rfl (by unfold vp_in; decide) dX8_comesHere_19 ?_
    refine za_topi (fun x18 ex18 => ?_)
    replace hf := hf x18 ex18
    refine za_istore_n o [(1, .int x18), (0, .ref (G.2.2 + q))] dX8_comesHere_20 rfl (by decide) rfl ?_
    refine za_iconst (v := (0 : Int32)) o dX8_comesHere_21 (by decide) ?_
    refine za_istore_n o [(2, .int (0 : Int32)), (1, .int x18), (0, .ref (G.2.2 + q))] dX8_comesHere_22 rfl (by decide) rfl ?_
    refine za_sub [2, 1, 0] rfl ?_
    exact tX8_comesHere_23 o hq  zFU x18 (0 : Int32) μ  hf
  · replace hf := hf.2 c17
    refine za_bipush (v := (-4 : Int32)) o dX8_comesHere_11 (by decide) ?_
    exact za_iret o rfl hf dX8_comesHere_13
def fX8_gets (q : Nat) (a1 : Int32) (a2 : Int32) (μ : zMem) (K : Int32 → zMem → Prop) : Prop :=
  fX8_isPerson q a1 μ (fun r1 m2 => ((¬ r1 = 0 → fX8_in a2 (1 : Int32) (30 : Int32) m2 (fun r4 m5 => ((¬ r4 = 0 → fX8_gives q a1 a2 m5 (fun m8 => fX8_p a1 m8 (fun r9 m10 => (∀ x11 : Int32, x11 = (r9 + (0 : Int32)) → (vp_in x11 276 ∧ (∀ x13 : Int32, x13 = (m10 530 x11.toNatClampNeg) → K x13 m10)))))) ∧ (r4 = 0 → K (-2 : Int32) m5)))) ∧ (r1 = 0 → K (-1 : Int32) m2)))
set_option maxRecDepth 100000 in
set_option maxHeartbeats 4000000 in
theorem ctX8_gets (l : Launch) (G : zG) {q : Nat} (hq : z_is q 8) (a1 : Int32) (a2 : Int32)  (μ : zMem) (K : Int32 → zMem → Prop) (hf : fX8_gets q a1 a2 μ K) : z_Met l G yX8_gets cX8_gets 3 (some .int) (z_rm 2 43) [.ref (G.2.2 + q), .int a1, .int a2] μ K := by
  refine z_body (by decide) (Nat.le_of_ble_eq_true rfl) (fun p e s m args below meth c o => ?_)
  have o : za_Ok (z_rm 2 43) 0 0 p s m args meth c G RX8 cX8_gets 3 (some .int) := o
  show za_At p l e (z_rm 2 43) s m args below meth c (MQ below (zQi G K) args s 0 0 (zA G)) G 3 0 0 0 [(0, .ref (G.2.2 + q)), (1, .int a1), (2, .int a2)] [] μ
  unfold fX8_gets at hf
  refine za_aload_n o 0 dX8_gets_0 rfl rfl ?_
  refine za_iload_n o 1 dX8_gets_1 rfl rfl ?_
  refine za_callVi o [.int a1] (ctX8_isPerson l G hq a1  μ _ hf) zc8 hq mwX8_isPerson wmX8_54 wiX8_isPerson wsX8_isPerson rfl ⟨Nat.le_of_ble_eq_true rfl, Nat.le_of_ble_eq_true rfl⟩ rfl (Nat.le_of_ble_eq_true rfl) dX8_gets_2 (fun r1 m2 hf => ?_)
  refine za_if_ne o 10 dX8_gets_5 (by decide) (fun c3 => ?_) (fun c3 => ?_)
  · replace hf := hf.1 c3
    refine za_iload_n o 2 dX8_gets_10 rfl rfl ?_
    refine za_iconst (v := (1 : Int32)) o dX8_gets_11 (by decide) ?_
    refine za_bipush (v := (30 : Int32)) o dX8_gets_12 (by decide) ?_
    refine za_callSi o [.int a2, .int (1 : Int32), .int (30 : Int32)] (ctX8_in l G a2 (1 : Int32) (30 : Int32)  m2 _ hf) mwX8_in wmX8_33 wtX8_in rfl ⟨Nat.le_of_ble_eq_true rfl, Nat.le_of_ble_eq_true rfl⟩ rfl (Nat.le_of_ble_eq_true rfl) dX8_gets_14 (fun r4 m5 hf => ?_)
    refine za_if_ne o 23 dX8_gets_17 (by decide) (fun c6 => ?_) (fun c6 => ?_)
    · replace hf := hf.1 c6
      refine za_aload_n o 0 dX8_gets_23 rfl rfl ?_
      refine za_iload_n o 1 dX8_gets_24 rfl rfl ?_
      refine za_iload_n o 2 dX8_gets_25 rfl rfl ?_
      refine za_callVv o [.int a1, .int a2] (ctX8_gives l G hq a1 a2  m5 _ hf) zc8 hq mwX8_gives wmX8_58 wiX8_gives wsX8_gives rfl ⟨Nat.le_of_ble_eq_true rfl, Nat.le_of_ble_eq_true rfl⟩ rfl (Nat.le_of_ble_eq_true rfl) dX8_gets_26 (fun m8 hf => ?_)
      refine za_aload_n o 0 dX8_gets_29 rfl rfl ?_
      refine za_getf o 0 zc8 hq (Nat.le_of_ble_eq_true rfl) wfX8_7 rfl dX8_gets_30 ?_
      refine za_iload_n o 1 dX8_gets_33 rfl rfl ?_
      refine za_callSi o [.int a1] (ctX8_p l G a1  m8 _ hf) mwX8_p wmX8_41 wtX8_p rfl ⟨Nat.le_of_ble_eq_true rfl, Nat.le_of_ble_eq_true rfl⟩ rfl (Nat.le_of_ble_eq_true rfl) dX8_gets_34 (fun r9 m10 hf => ?_)
      refine za_iconst (v := (0 : Int32)) o dX8_gets_37 (by decide) ?_
      refine za_iadd o dX8_gets_38 ?_
      refine za_topi (fun x11 ex11 => ?_)
      replace hf := hf x11 ex11
      obtain ⟨g12, hf⟩ := hf
      refine za_iald o zk_m0 rfl g12 dX8_gets_39 ?_
      refine za_topi (fun x13 ex13 => ?_)
      replace hf := hf x13 ex13
      exact za_iret o rfl hf dX8_gets_40
    · replace hf := hf.2 c6
      refine za_bipush (v := (-2 : Int32)) o dX8_gets_20 (by decide) ?_
      exact za_iret o rfl hf dX8_gets_22
  · replace hf := hf.2 c3
    refine za_iconst (v := (-1 : Int32)) o dX8_gets_8 (by decide) ?_
    exact za_iret o rfl hf dX8_gets_9
def fX8_reason_96  (K : Int32 → zMem → Prop) (q : Nat) (v1 : Int32) (μ : zMem) : Prop :=
  K v1 μ
def fX8_reason_35  (K : Int32 → zMem → Prop) (q : Nat) (v1 : Int32) (v2 : Int32) (v3 : Int32) (v4 : Int32) (μ : zMem) : Prop :=
  (∀ x1 : Int32, x1 = (v3 + (12 : Int32)) → (vp_in x1 276 ∧ (∀ x3 : Int32, x3 = (μ 530 x1.toNatClampNeg) → ((x3 ≤ v4 → (∀ x5 : Int32, x5 = (v3 + (1 : Int32)) → (∀ x6 : Int32, x6 = (x5 + v1) → (vp_in x6 276 ∧ (∀ x8 : Int32, x8 = (μ 530 x6.toNatClampNeg) → ((x8 ≤ 0 → (∀ x10 : Int32, x10 = (v3 + (0 : Int32)) → (vp_in x10 276 ∧ (∀ x12 : Int32, x12 = (μ 530 x10.toNatClampNeg) → fX8_priceOn q v4 v2 μ (fun r13 m14 => ((r13 ≤ x12 → fX8_reason_96  K q (0 : Int32) m14) ∧ (¬ r13 ≤ x12 → fX8_reason_96  K q (4 : Int32) m14))))))) ∧ (¬ x8 ≤ 0 → fX8_reason_96  K q (3 : Int32) μ))))))) ∧ (¬ x3 ≤ v4 → fX8_reason_96  K q (2 : Int32) μ)))))
def fX8_reason (q : Nat) (a1 : Int32) (a2 : Int32) (a3 : Int32) (μ : zMem) (K : Int32 → zMem → Prop) : Prop :=
  fX8_p a1 μ (fun r16 m17 => (∀ x18 : Int32, x18 = (m17 530 4) → (∀ x19 : Int32, x19 = (x18 + a2) → ((¬ a2 = 0 → fX8_reason_35  K q a2 a3 r16 x19 m17) ∧ (a2 = 0 → (∀ x21 : Int32, x21 = (m17 530 6) → ((¬ x21 = (1 : Int32) → fX8_reason_35  K q a2 a3 r16 x19 m17) ∧ (x21 = (1 : Int32) → fX8_reason_96  K q (1 : Int32) m17))))))))
set_option maxRecDepth 100000 in
set_option maxHeartbeats 4000000 in
theorem tX8_reason_96 {p : Program} {l : Launch} {e : Env} {s : State} {m : MethodId} {args : Array Value} {below : List Frame} {meth : Method} {c : Code} {G : zG}  {K : Int32 → zMem → Prop} (o : za_Ok (z_rm 1 22) 0 0 p s m args meth c G RX8 cX8_reason 6 (some .int)) {q : Nat} (hq : z_is q 8)  (v1 : Int32) (μ : zMem)  (hf : fX8_reason_96  K q v1 μ) : za_At p l e (z_rm 1 22) s m args below meth c (MQ below (zQi G K) args s 0 0 (zA G)) G 6 0 0 96 [] [.int v1] μ := by
  unfold fX8_reason_96 at hf
  exact za_iret o rfl hf dX8_reason_96
set_option maxRecDepth 100000 in
set_option maxHeartbeats 4000000 in
theorem tX8_reason_35 {p : Program} {l : Launch} {e : Env} {s : State} {m : MethodId} {args : Array Value} {below : List Frame} {meth : Method} {c : Code} {G : zG}  {K : Int32 → zMem → Prop} (o : za_Ok (z_rm 1 22) 0 0 p s m args meth c G RX8 cX8_reason 6 (some .int)) {q : Nat} (hq : z_is q 8)  (v1 : Int32) (v2 : Int32) (v3 : Int32) (v4 : Int32) (μ : zMem)  (hf : fX8_reason_35  K q v1 v2 v3 v4 μ) : za_At p l e (z_rm 1 22) s m args below meth c (MQ below (zQi G K) args s 0 0 (zA G)) G 6 0 0 35 [(0, .ref (G.2.2 + q)), (2, .int v1), (3, .int v2), (4, .int v3), (5, .int v4)] [] μ := by
  unfold fX8_reason_35 at hf
  refine za_iload o 4 dX8_reason_35 rfl ?_
  refine za_aload_n o 0 dX8_reason_37 rfl rfl ?_
  refine za_getf o 0 zc8 hq (Nat.le_of_ble_eq_true rfl) wfX8_7 rfl dX8_reason_38 ?_
  refine za_iload o 3 dX8_reason_41 rfl ?_
  refine za_bipush (v := (12 : Int32)) o dX8_reason_43 (by decide) ?_
  refine za_iadd o dX8_reason_45 ?_
  refine za_topi (fun x1 ex1 => ?_)
  replace hf := hf x1 ex1
  obtain ⟨g2, hf⟩ := hf
  refine za_iald o zk_m0 rfl g2 dX8_reason_46 ?_
  refine za_topi (fun x3 ex3 => ?_)
  replace hf := hf x3 ex3
  refine za_icmp_ge o 54 dX8_reason_47 (by decide) (fun c4 => ?_) (fun c4 => ?_)
  · replace hf := hf.1 c4
    refine za_aload_n o 0 dX8_reason_54 rfl rfl ?_
    refine za_getf o 0 zc8 hq (Nat.le_of_ble_eq_true rfl) wfX8_7 rfl dX8_reason_55 ?_
    refine za_iload o 3 dX8_reason_58 rfl ?_
    refine za_iconst (v := (1 : Int32)) o dX8_reason_60 (by decide) ?_
    refine za_iadd o dX8_reason_61 ?_
    refine za_topi (fun x5 ex5 => ?_)
    replace hf := hf x5 ex5
    refine za_iload_n o 1 dX8_reason_62 rfl rfl ?_
    refine za_iadd o dX8_reason_63 ?_
    refine za_topi (fun x6 ex6 => ?_)
    replace hf := hf x6 ex6
    obtain ⟨g7, hf⟩ := hf
    refine za_iald o zk_m0 rfl g7 dX8_reason_64 ?_
    refine za_topi (fun x8 ex8 => ?_)
    replace hf := hf x8 ex8
    refine za_if_le o 72 dX8_reason_65 (by decide) (fun c9 => ?_) (fun c9 => ?_)
    · replace hf := hf.1 c9
      refine za_aload_n o 0 dX8_reason_72 rfl rfl ?_
      refine za_getf o 0 zc8 hq (Nat.le_of_ble_eq_true rfl) wfX8_7 rfl dX8_reason_73 ?_
      refine za_iload o 3 dX8_reason_76 rfl ?_
      refine za_iconst (v := (0 : Int32)) o dX8_reason_78 (by decide) ?_
      refine za_iadd o dX8_reason_79 ?_
      refine za_topi (fun x10 ex10 => ?_)
      replace hf := hf x10 ex10
      obtain ⟨g11, hf⟩ := hf
      refine za_iald o zk_m0 rfl g11 dX8_reason_80 ?_
      refine za_topi (fun x12 ex12 => ?_)
      replace hf := hf x12 ex12
      refine za_aload_n o 0 dX8_reason_81 rfl rfl ?_
      refine za_iload o 4 dX8_reason_82 rfl ?_
      refine za_iload_n o 2 dX8_reason_84 rfl rfl ?_
      refine za_callVi o [.int v4, .int v2] (ctX8_priceOn l G hq v4 v2  μ _ hf) zc8 hq mwX8_priceOn wmX8_62 wiX8_priceOn wsX8_priceOn rfl ⟨Nat.le_of_ble_eq_true rfl, Nat.le_of_ble_eq_true rfl⟩ rfl (Nat.le_of_ble_eq_true rfl) dX8_reason_85 (fun r13 m14 hf => ?_)
      refine za_icmp_ge o 95 dX8_reason_88 (by decide) (fun c15 => ?_) (fun c15 => ?_)
      · replace hf := hf.1 c15
        refine za_iconst (v := (0 : Int32)) o dX8_reason_95 (by decide) ?_
        refine za_sub [] rfl ?_
        exact tX8_reason_96 o hq  (0 : Int32) m14  hf
      · replace hf := hf.2 c15
        refine za_iconst (v := (4 : Int32)) o dX8_reason_91 (by decide) ?_
        refine za_goto o 96 dX8_reason_92 (by decide) ?_
        refine za_sub [] rfl ?_
        exact tX8_reason_96 o hq  (4 : Int32) m14  hf
    · replace hf := hf.2 c9
      refine za_iconst (v := (3 : Int32)) o dX8_reason_68 (by decide) ?_
      refine za_goto o 96 dX8_reason_69 (by decide) ?_
      refine za_sub [] rfl ?_
      exact tX8_reason_96 o hq  (3 : Int32) μ  hf
  · replace hf := hf.2 c4
    refine za_iconst (v := (2 : Int32)) o dX8_reason_50 (by decide) ?_
    refine za_goto o 96 dX8_reason_51 (by decide) ?_
    refine za_sub [] rfl ?_
    exact tX8_reason_96 o hq  (2 : Int32) μ  hf
set_option maxRecDepth 100000 in
set_option maxHeartbeats 4000000 in
theorem ctX8_reason (l : Launch) (G : zG) {q : Nat} (hq : z_is q 8) (a1 : Int32) (a2 : Int32) (a3 : Int32)  (μ : zMem) (K : Int32 → zMem → Prop) (hf : fX8_reason q a1 a2 a3 μ K) : z_Met l G yX8_reason cX8_reason 6 (some .int) (z_rm 1 22) [.ref (G.2.2 + q), .int a1, .int a2, .int a3] μ K := by
  refine z_body (by decide) (Nat.le_of_ble_eq_true rfl) (fun p e s m args below meth c o => ?_)
  have o : za_Ok (z_rm 1 22) 0 0 p s m args meth c G RX8 cX8_reason 6 (some .int) := o
  show za_At p l e (z_rm 1 22) s m args below meth c (MQ below (zQi G K) args s 0 0 (zA G)) G 6 0 0 0 [(0, .ref (G.2.2 + q)), (1, .int a1), (2, .int a2), (3, .int a3)] [] μ
  unfold fX8_reason at hf
  refine za_iload_n o 1 dX8_reason_0 rfl rfl ?_
  refine za_callSi o [.int a1] (ctX8_p l G a1  μ _ hf) mwX8_p wmX8_41 wtX8_p rfl ⟨Nat.le_of_ble_eq_true rfl, Nat.le_of_ble_eq_true rfl⟩ rfl (Nat.le_of_ble_eq_true rfl) dX8_reason_1 (fun r16 m17 hf => ?_)
  refine za_istore o [(4, .int r16), (0, .ref (G.2.2 + q)), (1, .int a1), (2, .int a2), (3, .int a3)] dX8_reason_4 (by decide) rfl ?_
  refine za_aload_n o 1 dX8_reason_6 rfl rfl ?_
  refine za_getf o 0 zc8 hq (Nat.le_of_ble_eq_true rfl) wfX8_7 rfl dX8_reason_7 ?_
  refine za_iconst (v := (4 : Int32)) o dX8_reason_10 (by decide) ?_
  refine za_iald o zk_m0 rfl (by unfold vp_in; decide) dX8_reason_11 ?_
  refine za_topi (fun x18 ex18 => ?_)
  replace hf := hf x18 ex18
  refine za_iload_n o 3 dX8_reason_12 rfl rfl ?_
  refine za_iadd o dX8_reason_13 ?_
  refine za_topi (fun x19 ex19 => ?_)
  replace hf := hf x19 ex19
  refine za_istore o [(5, .int x19), (4, .int r16), (0, .ref (G.2.2 + q)), (1, .int a1), (2, .int a2), (3, .int a3)] dX8_reason_14 (by decide) rfl ?_
  refine za_iload_n o 4 dX8_reason_16 rfl rfl ?_
  refine za_if_ne o 35 dX8_reason_17 (by decide) (fun c20 => ?_) (fun c20 => ?_)
  · replace hf := hf.1 c20
    refine za_sub [2, 4, 5, 1, 0] rfl ?_
    exact tX8_reason_35 o hq  a2 a3 r16 x19 m17  hf
  · replace hf := hf.2 c20
    refine za_aload_n o 2 dX8_reason_20 rfl rfl ?_
    refine za_getf o 0 zc8 hq (Nat.le_of_ble_eq_true rfl) wfX8_7 rfl dX8_reason_21 ?_
    refine za_bipush (v := (6 : Int32)) o dX8_reason_24 (by decide) ?_
    refine za_iald o zk_m0 rfl (by unfold vp_in; decide) dX8_reason_26 ?_
    refine za_topi (fun x21 ex21 => ?_)
    replace hf := hf x21 ex21
    refine za_iconst (v := (1 : Int32)) o dX8_reason_27 (by decide) ?_
    refine za_icmp_ne o 35 dX8_reason_28 (by decide) (fun c22 => ?_) (fun c22 => ?_)
    · replace hf := hf.1 c22
      refine za_sub [2, 4, 5, 1, 0] rfl ?_
      exact tX8_reason_35 o hq  a2 a3 r16 x19 m17  hf
    · replace hf := hf.2 c22
      refine za_iconst (v := (1 : Int32)) o dX8_reason_31 (by decide) ?_
      refine za_goto o 96 dX8_reason_32 (by decide) ?_
      refine za_sub [] rfl ?_
      exact tX8_reason_96 o hq  (1 : Int32) m17  hf
def fX8_ordersOf_15  (K : Int32 → zMem → Prop) (q : Nat)  (μ : zMem) : Prop :=
  K (-1 : Int32) μ
def fX8_ordersOf (q : Nat) (a1 : Int32) (a2 : Int32) (a3 : Int32) (μ : zMem) (K : Int32 → zMem → Prop) : Prop :=
  fX8_isPerson q a1 μ (fun r1 m2 => ((r1 = 0 → fX8_ordersOf_15  K q  m2) ∧ (¬ r1 = 0 → fX8_isDish a3 m2 (fun r4 m5 => ((¬ r4 = 0 → fX8_in a2 (0 : Int32) (4 : Int32) m5 (fun r7 m8 => ((¬ r7 = 0 → fX8_reason q a1 a2 a3 m8 (fun r10 m11 => ((r10 ≤ 0 → (∀ x13 : Int32, x13 = (m11 530 4) → (∀ x14 : Int32, x14 = (x13 + a2) → fX8_priceOn q x14 a3 m11 (fun r15 m16 => fX8_p a1 m16 (fun r17 m18 => (∀ x19 : Int32, x19 = (r17 + (1 : Int32)) → (∀ x20 : Int32, x20 = (x19 + a2) → (∀ x21 : Int32, x21 = (a3 + (1 : Int32)) → (vp_in x20 276 ∧ (∀ m23 : zMem, m23 = z_up m18 530 x20.toNatClampNeg x21 → fX8_p a1 m23 (fun r24 m25 => (∀ x26 : Int32, x26 = (r24 + (6 : Int32)) → (∀ x27 : Int32, x27 = (x26 + a2) → (vp_in x27 276 ∧ (∀ m29 : zMem, m29 = z_up m25 530 x27.toNatClampNeg r15 → fX8_p a1 m29 (fun r30 m31 => (∀ x32 : Int32, x32 = (r30 + (0 : Int32)) → (vp_in x32 276 ∧ (∀ x34 : Int32, x34 = (m31 530 x32.toNatClampNeg) → (∀ x35 : Int32, x35 = (x34 - r15) → (vp_in x32 276 ∧ (∀ m37 : zMem, m37 = z_up m31 530 x32.toNatClampNeg x35 → fX8_p a1 m37 (fun r38 m39 => (∀ x40 : Int32, x40 = (r38 + (0 : Int32)) → (vp_in x40 276 ∧ (∀ x42 : Int32, x42 = (m39 530 x40.toNatClampNeg) → K x42 m39)))))))))))))))))))))))))) ∧ (¬ r10 ≤ 0 → K (-5 : Int32) m11)))) ∧ (r7 = 0 → K (-2 : Int32) m8)))) ∧ (r4 = 0 → fX8_ordersOf_15  K q  m5))))))
set_option maxRecDepth 100000 in
set_option maxHeartbeats 4000000 in
theorem tX8_ordersOf_15 {p : Program} {l : Launch} {e : Env} {s : State} {m : MethodId} {args : Array Value} {below : List Frame} {meth : Method} {c : Code} {G : zG}  {K : Int32 → zMem → Prop} (o : za_Ok (z_rm 2 47) 0 0 p s m args meth c G RX8 cX8_ordersOf 5 (some .int)) {q : Nat} (hq : z_is q 8)   (μ : zMem)  (hf : fX8_ordersOf_15  K q  μ) : za_At p l e (z_rm 2 47) s m args below meth c (MQ below (zQi G K) args s 0 0 (zA G)) G 5 0 0 15 [] [] μ := by
  unfold fX8_ordersOf_15 at hf
  refine za_iconst (v := (-1 : Int32)) o dX8_ordersOf_15 (by decide) ?_
  exact za_iret o rfl hf dX8_ordersOf_16
set_option maxRecDepth 100000 in
set_option maxHeartbeats 4000000 in
theorem ctX8_ordersOf (l : Launch) (G : zG) {q : Nat} (hq : z_is q 8) (a1 : Int32) (a2 : Int32) (a3 : Int32)  (μ : zMem) (K : Int32 → zMem → Prop) (hf : fX8_ordersOf q a1 a2 a3 μ K) : z_Met l G yX8_ordersOf cX8_ordersOf 5 (some .int) (z_rm 2 47) [.ref (G.2.2 + q), .int a1, .int a2, .int a3] μ K := by
  refine z_body (by decide) (Nat.le_of_ble_eq_true rfl) (fun p e s m args below meth c o => ?_)
  have o : za_Ok (z_rm 2 47) 0 0 p s m args meth c G RX8 cX8_ordersOf 5 (some .int) := o
  show za_At p l e (z_rm 2 47) s m args below meth c (MQ below (zQi G K) args s 0 0 (zA G)) G 5 0 0 0 [(0, .ref (G.2.2 + q)), (1, .int a1), (2, .int a2), (3, .int a3)] [] μ
  unfold fX8_ordersOf at hf
  refine za_aload_n o 0 dX8_ordersOf_0 rfl rfl ?_
  refine za_iload_n o 1 dX8_ordersOf_1 rfl rfl ?_
  refine za_callVi o [.int a1] (ctX8_isPerson l G hq a1  μ _ hf) zc8 hq mwX8_isPerson wmX8_54 wiX8_isPerson wsX8_isPerson rfl ⟨Nat.le_of_ble_eq_true rfl, Nat.le_of_ble_eq_true rfl⟩ rfl (Nat.le_of_ble_eq_true rfl) dX8_ordersOf_2 (fun r1 m2 hf => ?_)
  refine za_if_eq o 15 dX8_ordersOf_5 (by decide) (fun c3 => ?_) (fun c3 => ?_)
  · replace hf := hf.1 c3
    refine za_sub [] rfl ?_
    exact tX8_ordersOf_15 o hq   m2  hf
  · replace hf := hf.2 c3
    refine za_iload_n o 3 dX8_ordersOf_8 rfl rfl ?_
    refine za_callSi o [.int a3] (ctX8_isDish l G a3  m2 _ hf) mwX8_isDish wmX8_66 wtX8_isDish rfl ⟨Nat.le_of_ble_eq_true rfl, Nat.le_of_ble_eq_true rfl⟩ rfl (Nat.le_of_ble_eq_true rfl) dX8_ordersOf_9 (fun r4 m5 hf => ?_)
    refine za_if_ne o 17 dX8_ordersOf_12 (by decide) (fun c6 => ?_) (fun c6 => ?_)
    · replace hf := hf.1 c6
      refine za_iload_n o 2 dX8_ordersOf_17 rfl rfl ?_
      refine za_iconst (v := (0 : Int32)) o dX8_ordersOf_18 (by decide) ?_
      refine za_iconst (v := (4 : Int32)) o dX8_ordersOf_19 (by decide) ?_
      refine za_callSi o [.int a2, .int (0 : Int32), .int (4 : Int32)] (ctX8_in l G a2 (0 : Int32) (4 : Int32)  m5 _ hf) mwX8_in wmX8_33 wtX8_in rfl ⟨Nat.le_of_ble_eq_true rfl, Nat.le_of_ble_eq_true rfl⟩ rfl (Nat.le_of_ble_eq_true rfl) dX8_ordersOf_20 (fun r7 m8 hf => ?_)
      refine za_if_ne o 29 dX8_ordersOf_23 (by decide) (fun c9 => ?_) (fun c9 => ?_)
      · replace hf := hf.1 c9
        refine za_aload_n o 0 dX8_ordersOf_29 rfl rfl ?_
        refine za_iload_n o 1 dX8_ordersOf_30 rfl rfl ?_
        refine za_iload_n o 2 dX8_ordersOf_31 rfl rfl ?_
        refine za_iload_n o 3 dX8_ordersOf_32 rfl rfl ?_
        refine za_callVi o [.int a1, .int a2, .int a3] (ctX8_reason l G hq a1 a2 a3  m8 _ hf) zc8 hq mwX8_reason wmX8_69 wiX8_reason wsX8_reason rfl ⟨Nat.le_of_ble_eq_true rfl, Nat.le_of_ble_eq_true rfl⟩ rfl (Nat.le_of_ble_eq_true rfl) dX8_ordersOf_33 (fun r10 m11 hf => ?_)
        refine za_if_le o 42 dX8_ordersOf_36 (by decide) (fun c12 => ?_) (fun c12 => ?_)
        · replace hf := hf.1 c12
          refine za_aload_n o 0 dX8_ordersOf_42 rfl rfl ?_
          refine za_aload_n o 0 dX8_ordersOf_43 rfl rfl ?_
          refine za_getf o 0 zc8 hq (Nat.le_of_ble_eq_true rfl) wfX8_7 rfl dX8_ordersOf_44 ?_
          refine za_iconst (v := (4 : Int32)) o dX8_ordersOf_47 (by decide) ?_
          refine za_iald o zk_m0 rfl (by unfold vp_in; decide) dX8_ordersOf_48 ?_
          refine za_topi (fun x13 ex13 => ?_)
          replace hf := hf x13 ex13
          refine za_iload_n o 2 dX8_ordersOf_49 rfl rfl ?_
          refine za_iadd o dX8_ordersOf_50 ?_
          refine za_topi (fun x14 ex14 => ?_)
          replace hf := hf x14 ex14
          refine za_iload_n o 3 dX8_ordersOf_51 rfl rfl ?_
          refine za_callVi o [.int x14, .int a3] (ctX8_priceOn l G hq x14 a3  m11 _ hf) zc8 hq mwX8_priceOn wmX8_62 wiX8_priceOn wsX8_priceOn rfl ⟨Nat.le_of_ble_eq_true rfl, Nat.le_of_ble_eq_true rfl⟩ rfl (Nat.le_of_ble_eq_true rfl) dX8_ordersOf_52 (fun r15 m16 hf => ?_)
          refine za_istore o [(4, .int r15), (0, .ref (G.2.2 + q)), (1, .int a1), (2, .int a2), (3, .int a3)] dX8_ordersOf_55 (by decide) rfl ?_
          refine za_aload_n o 1 dX8_ordersOf_57 rfl rfl ?_
          refine za_getf o 0 zc8 hq (Nat.le_of_ble_eq_true rfl) wfX8_7 rfl dX8_ordersOf_58 ?_
          refine za_iload_n o 2 dX8_ordersOf_61 rfl rfl ?_
          refine za_callSi o [.int a1] (ctX8_p l G a1  m16 _ hf) mwX8_p wmX8_41 wtX8_p rfl ⟨Nat.le_of_ble_eq_true rfl, Nat.le_of_ble_eq_true rfl⟩ rfl (Nat.le_of_ble_eq_true rfl) dX8_ordersOf_62 (fun r17 m18 hf => ?_)
          refine za_iconst (v := (1 : Int32)) o dX8_ordersOf_65 (by decide) ?_
          refine za_iadd o dX8_ordersOf_66 ?_
          refine za_topi (fun x19 ex19 => ?_)
          replace hf := hf x19 ex19
          refine za_iload_n o 3 dX8_ordersOf_67 rfl rfl ?_
          refine za_iadd o dX8_ordersOf_68 ?_
          refine za_topi (fun x20 ex20 => ?_)
          replace hf := hf x20 ex20
          refine za_iload_n o 4 dX8_ordersOf_69 rfl rfl ?_
          refine za_iconst (v := (1 : Int32)) o dX8_ordersOf_70 (by decide) ?_
          refine za_iadd o dX8_ordersOf_71 ?_
          refine za_topi (fun x21 ex21 => ?_)
          replace hf := hf x21 ex21
          obtain ⟨g22, hf⟩ := hf
          refine za_iast o zk_m0 rfl g22 dX8_ordersOf_72 ?_
          refine za_mem (fun m23 em23 => ?_)
          replace hf := hf m23 em23
          refine za_aload_n o 1 dX8_ordersOf_73 rfl rfl ?_
          refine za_getf o 0 zc8 hq (Nat.le_of_ble_eq_true rfl) wfX8_7 rfl dX8_ordersOf_74 ?_
          refine za_iload_n o 2 dX8_ordersOf_77 rfl rfl ?_
          refine za_callSi o [.int a1] (ctX8_p l G a1  m23 _ hf) mwX8_p wmX8_41 wtX8_p rfl ⟨Nat.le_of_ble_eq_true rfl, Nat.le_of_ble_eq_true rfl⟩ rfl (Nat.le_of_ble_eq_true rfl) dX8_ordersOf_78 (fun r24 m25 hf => ?_)
          refine za_bipush (v := (6 : Int32)) o dX8_ordersOf_81 (by decide) ?_
          refine za_iadd o dX8_ordersOf_83 ?_
          refine za_topi (fun x26 ex26 => ?_)
          replace hf := hf x26 ex26
          refine za_iload_n o 3 dX8_ordersOf_84 rfl rfl ?_
          refine za_iadd o dX8_ordersOf_85 ?_
          refine za_topi (fun x27 ex27 => ?_)
          replace hf := hf x27 ex27
          refine za_iload o 0 dX8_ordersOf_86 rfl ?_
          obtain ⟨g28, hf⟩ := hf
          refine za_iast o zk_m0 rfl g28 dX8_ordersOf_88 ?_
          refine za_mem (fun m29 em29 => ?_)
          replace hf := hf m29 em29
          refine za_aload_n o 1 dX8_ordersOf_89 rfl rfl ?_
          refine za_getf o 0 zc8 hq (Nat.le_of_ble_eq_true rfl) wfX8_7 rfl dX8_ordersOf_90 ?_
          refine za_iload_n o 2 dX8_ordersOf_93 rfl rfl ?_
          refine za_callSi o [.int a1] (ctX8_p l G a1  m29 _ hf) mwX8_p wmX8_41 wtX8_p rfl ⟨Nat.le_of_ble_eq_true rfl, Nat.le_of_ble_eq_true rfl⟩ rfl (Nat.le_of_ble_eq_true rfl) dX8_ordersOf_94 (fun r30 m31 hf => ?_)
          refine za_iconst (v := (0 : Int32)) o dX8_ordersOf_97 (by decide) ?_
          refine za_iadd o dX8_ordersOf_98 ?_
          refine za_topi (fun x32 ex32 => ?_)
          replace hf := hf x32 ex32
          refine za_dup2 o dX8_ordersOf_99 rfl rfl ?_
          obtain ⟨g33, hf⟩ := hf
          refine za_iald o zk_m0 rfl g33 dX8_ordersOf_100 ?_
          refine za_topi (fun x34 ex34 => ?_)
          replace hf := hf x34 ex34
          refine za_iload o 0 dX8_ordersOf_101 rfl ?_
          refine za_isub o dX8_ordersOf_103 ?_
          refine za_topi (fun x35 ex35 => ?_)
          replace hf := hf x35 ex35
          obtain ⟨g36, hf⟩ := hf
          refine za_iast o zk_m0 rfl g36 dX8_ordersOf_104 ?_
          refine za_mem (fun m37 em37 => ?_)
          replace hf := hf m37 em37
          refine za_aload_n o 1 dX8_ordersOf_105 rfl rfl ?_
          refine za_getf o 0 zc8 hq (Nat.le_of_ble_eq_true rfl) wfX8_7 rfl dX8_ordersOf_106 ?_
          refine za_iload_n o 2 dX8_ordersOf_109 rfl rfl ?_
          refine za_callSi o [.int a1] (ctX8_p l G a1  m37 _ hf) mwX8_p wmX8_41 wtX8_p rfl ⟨Nat.le_of_ble_eq_true rfl, Nat.le_of_ble_eq_true rfl⟩ rfl (Nat.le_of_ble_eq_true rfl) dX8_ordersOf_110 (fun r38 m39 hf => ?_)
          refine za_iconst (v := (0 : Int32)) o dX8_ordersOf_113 (by decide) ?_
          refine za_iadd o dX8_ordersOf_114 ?_
          refine za_topi (fun x40 ex40 => ?_)
          replace hf := hf x40 ex40
          obtain ⟨g41, hf⟩ := hf
          refine za_iald o zk_m0 rfl g41 dX8_ordersOf_115 ?_
          refine za_topi (fun x42 ex42 => ?_)
          replace hf := hf x42 ex42
          exact za_iret o rfl hf dX8_ordersOf_116
        · replace hf := hf.2 c12
          refine za_bipush (v := (-5 : Int32)) o dX8_ordersOf_39 (by decide) ?_
          exact za_iret o rfl hf dX8_ordersOf_41
      · replace hf := hf.2 c9
        refine za_bipush (v := (-2 : Int32)) o dX8_ordersOf_26 (by decide) ?_
        exact za_iret o rfl hf dX8_ordersOf_28
    · replace hf := hf.2 c6
      refine za_sub [] rfl ?_
      exact tX8_ordersOf_15 o hq   m5  hf
def fX8_cooks_18b (k18 : Int32 → Int32 → zMem → Prop) (K : Int32 → zMem → Prop) (q : Nat) (v1 : Int32) (v2 : Int32) (μ : zMem) : Prop :=
  (((3 : Int32) ≤ v2 → (∀ m2 : zMem, m2 = z_up μ 530 6 (1 : Int32) → K v1 m2)) ∧ (¬ (3 : Int32) ≤ v2 → fX8_toCook q v2 μ (fun r3 m4 => fX8_d v2 m4 (fun r5 m6 => (∀ x7 : Int32, x7 = (r5 + (1 : Int32)) → (vp_in x7 276 ∧ (∀ m9 : zMem, m9 = z_up m6 530 x7.toNatClampNeg r3 → fX8_d v2 m9 (fun r10 m11 => (∀ x12 : Int32, x12 = (r10 + (2 : Int32)) → (vp_in x12 276 ∧ (∀ x14 : Int32, x14 = (m11 530 x12.toNatClampNeg) → (∀ x15 : Int32, x15 = (x14 + r3) → (vp_in x12 276 ∧ (∀ m17 : zMem, m17 = z_up m11 530 x12.toNatClampNeg x15 → (∀ x18 : Int32, x18 = (v1 + r3) → (∀ x19 : Int32, x19 = v2 + (1 : Int32) → k18 x18 x19 m17))))))))))))))))
def fX8_cooks_18  (K : Int32 → zMem → Prop) (q : Nat) (n : Nat) : Int32 → Int32 → zMem → Prop := z_it (fun k => fX8_cooks_18b  k K q ) (fun _ _ _ => False) n
def fX8_cooks (q : Nat)  (μ : zMem) (K : Int32 → zMem → Prop) : Prop :=
  (∀ x20 : Int32, x20 = (μ 530 6) → ((¬ x20 = (1 : Int32) → fX8_cooks_18  K q zFU (0 : Int32) (0 : Int32) μ) ∧ (x20 = (1 : Int32) → K (-5 : Int32) μ)))
set_option maxRecDepth 100000 in
set_option maxHeartbeats 4000000 in
theorem tX8_cooks_18b {p : Program} {l : Launch} {e : Env} {s : State} {m : MethodId} {args : Array Value} {below : List Frame} {meth : Method} {c : Code} {G : zG} {k18 : Int32 → Int32 → zMem → Prop} {K : Int32 → zMem → Prop} (o : za_Ok (z_rm 3 66) 0 0 p s m args meth c G RX8 cX8_cooks 4 (some .int)) {q : Nat} (hq : z_is q 8) (hk18 : ∀ (v1 : Int32) (v2 : Int32) (μ : zMem), k18 v1 v2 μ → za_At p l e (z_rm 3 66) s m args below meth c (MQ below (zQi G K) args s 0 0 (zA G)) G 4 0 0 18 [(0, .ref (G.2.2 + q)), (1, .int v1), (2, .int v2)] [] μ) (v1 : Int32) (v2 : Int32) (μ : zMem)  (hf : fX8_cooks_18b k18 K q v1 v2 μ) : za_At p l e (z_rm 3 66) s m args below meth c (MQ below (zQi G K) args s 0 0 (zA G)) G 4 0 0 18 [(0, .ref (G.2.2 + q)), (1, .int v1), (2, .int v2)] [] μ := by
  unfold fX8_cooks_18b at hf
  refine za_iload_n o 2 dX8_cooks_18 rfl rfl ?_
  refine za_iconst (v := (3 : Int32)) o dX8_cooks_19 (by decide) ?_
  refine za_icmp_ge o 66 dX8_cooks_20 (by decide) (fun c1 => ?_) (fun c1 => ?_)
  · replace hf := hf.1 c1
    refine za_aload_n o 0 dX8_cooks_66 rfl rfl ?_
    refine za_getf o 0 zc8 hq (Nat.le_of_ble_eq_true rfl) wfX8_7 rfl dX8_cooks_67 ?_
    refine za_bipush (v := (6 : Int32)) o dX8_cooks_70 (by decide) ?_
    refine za_iconst (v := (1 : Int32)) o dX8_cooks_72 (by decide) ?_
    refine za_iast o zk_m0 rfl (by unfold vp_in; decide) dX8_cooks_73 ?_
    refine za_mem (fun m2 em2 => ?_)
    replace hf := hf m2 em2
    refine za_iload_n o 1 dX8_cooks_74 rfl rfl ?_
    exact za_iret o rfl hf dX8_cooks_75
  · replace hf := hf.2 c1
    refine za_aload_n o 0 dX8_cooks_23 rfl rfl ?_
    refine za_iload_n o 2 dX8_cooks_24 rfl rfl ?_
    refine za_callVi o [.int v2] (ctX8_toCook l G hq v2  μ _ hf) zc8 hq mwX8_toCook wmX8_73 wiX8_toCook wsX8_toCook rfl ⟨Nat.le_of_ble_eq_true rfl, Nat.le_of_ble_eq_true rfl⟩ rfl (Nat.le_of_ble_eq_true rfl) dX8_cooks_25 (fun r3 m4 hf => ?_)
    refine za_istore_n o [(3, .int r3), (0, .ref (G.2.2 + q)), (1, .int v1), (2, .int v2)] dX8_cooks_28 rfl (by decide) rfl ?_
    refine za_aload_n o 1 dX8_cooks_29 rfl rfl ?_
    refine za_getf o 0 zc8 hq (Nat.le_of_ble_eq_true rfl) wfX8_7 rfl dX8_cooks_30 ?_
    refine za_iload_n o 3 dX8_cooks_33 rfl rfl ?_
    refine za_callSi o [.int v2] (ctX8_d l G v2  m4 _ hf) mwX8_d wmX8_51 wtX8_d rfl ⟨Nat.le_of_ble_eq_true rfl, Nat.le_of_ble_eq_true rfl⟩ rfl (Nat.le_of_ble_eq_true rfl) dX8_cooks_34 (fun r5 m6 hf => ?_)
    refine za_iconst (v := (1 : Int32)) o dX8_cooks_37 (by decide) ?_
    refine za_iadd o dX8_cooks_38 ?_
    refine za_topi (fun x7 ex7 => ?_)
    replace hf := hf x7 ex7
    refine za_iload_n o 0 dX8_cooks_39 rfl rfl ?_
    obtain ⟨g8, hf⟩ := hf
    refine za_iast o zk_m0 rfl g8 dX8_cooks_40 ?_
    refine za_mem (fun m9 em9 => ?_)
    replace hf := hf m9 em9
    refine za_aload_n o 1 dX8_cooks_41 rfl rfl ?_
    refine za_getf o 0 zc8 hq (Nat.le_of_ble_eq_true rfl) wfX8_7 rfl dX8_cooks_42 ?_
    refine za_iload_n o 3 dX8_cooks_45 rfl rfl ?_
    refine za_callSi o [.int v2] (ctX8_d l G v2  m9 _ hf) mwX8_d wmX8_51 wtX8_d rfl ⟨Nat.le_of_ble_eq_true rfl, Nat.le_of_ble_eq_true rfl⟩ rfl (Nat.le_of_ble_eq_true rfl) dX8_cooks_46 (fun r10 m11 hf => ?_)
    refine za_iconst (v := (2 : Int32)) o dX8_cooks_49 (by decide) ?_
    refine za_iadd o dX8_cooks_50 ?_
    refine za_topi (fun x12 ex12 => ?_)
    replace hf := hf x12 ex12
    refine za_dup2 o dX8_cooks_51 rfl rfl ?_
    obtain ⟨g13, hf⟩ := hf
    refine za_iald o zk_m0 rfl g13 dX8_cooks_52 ?_
    refine za_topi (fun x14 ex14 => ?_)
    replace hf := hf x14 ex14
    refine za_iload_n o 0 dX8_cooks_53 rfl rfl ?_
    refine za_iadd o dX8_cooks_54 ?_
    refine za_topi (fun x15 ex15 => ?_)
    replace hf := hf x15 ex15
    obtain ⟨g16, hf⟩ := hf
    refine za_iast o zk_m0 rfl g16 dX8_cooks_55 ?_
    refine za_mem (fun m17 em17 => ?_)
    replace hf := hf m17 em17
    refine za_iload_n o 2 dX8_cooks_56 rfl rfl ?_
    refine za_iload_n o 0 dX8_cooks_57 rfl rfl ?_
    refine za_iadd o dX8_cooks_58 ?_
    refine za_topi (fun x18 ex18 => ?_)
    replace hf := hf x18 ex18
    refine za_istore_n o [(1, .int x18), (3, .int r3), (0, .ref (G.2.2 + q)), (2, .int v2)] dX8_cooks_59 rfl (by decide) rfl ?_
    obtain ⟨x19, ex19⟩ : ∃ y : Int32, y = v2 + (1 : Int32) := ⟨_, rfl⟩
    replace hf := hf x19 ex19
    refine za_iinc o x19 3 [(2, .int x19), (1, .int x18), (3, .int r3), (0, .ref (G.2.2 + q))] dX8_cooks_60 rfl (by rw [ex19]; rfl) (by decide) rfl ?_
    refine za_goto o 18 dX8_cooks_63 (by decide) ?_
    refine za_sub [3, 1, 0] rfl ?_
    exact hk18 x18 x19 m17  hf
theorem tX8_cooks_18 {p : Program} {l : Launch} {e : Env} {s : State} {m : MethodId} {args : Array Value} {below : List Frame} {meth : Method} {c : Code} {G : zG}  {K : Int32 → zMem → Prop} (o : za_Ok (z_rm 3 66) 0 0 p s m args meth c G RX8 cX8_cooks 4 (some .int)) {q : Nat} (hq : z_is q 8)  (n : Nat) : ∀ (v1 : Int32) (v2 : Int32) (μ : zMem), fX8_cooks_18  K q n v1 v2 μ → za_At p l e (z_rm 3 66) s m args below meth c (MQ below (zQi G K) args s 0 0 (zA G)) G 4 0 0 18 [(0, .ref (G.2.2 + q)), (1, .int v1), (2, .int v2)] [] μ := by
  induction n with
  | zero => intro _ _ _ hf; exact hf.elim
  | succ n ih => intro v1 v2 μ  hf; exact tX8_cooks_18b o hq  ih v1 v2 μ  hf
set_option maxRecDepth 100000 in
set_option maxHeartbeats 4000000 in
theorem ctX8_cooks (l : Launch) (G : zG) {q : Nat} (hq : z_is q 8)   (μ : zMem) (K : Int32 → zMem → Prop) (hf : fX8_cooks q  μ K) : z_Met l G yX8_cooks cX8_cooks 4 (some .int) (z_rm 3 66) [.ref (G.2.2 + q)] μ K := by
  refine z_body (by decide) (Nat.le_of_ble_eq_true rfl) (fun p e s m args below meth c o => ?_)
  have o : za_Ok (z_rm 3 66) 0 0 p s m args meth c G RX8 cX8_cooks 4 (some .int) := o
  show za_At p l e (z_rm 3 66) s m args below meth c (MQ below (zQi G K) args s 0 0 (zA G)) G 4 0 0 0 [(0, .ref (G.2.2 + q))] [] μ
  unfold fX8_cooks at hf
  refine za_aload_n o 0 dX8_cooks_0 rfl rfl ?_
  refine za_getf o 0 zc8 hq (Nat.le_of_ble_eq_true rfl) wfX8_7 rfl dX8_cooks_1 ?_
  refine za_bipush (v := (6 : Int32)) o dX8_cooks_4 (by decide) ?_
  refine za_iald o zk_m0 rfl (by unfold vp_in; decide) dX8_cooks_6 ?_
  refine za_topi (fun x20 ex20 => ?_)
  replace hf := hf x20 ex20
  refine za_iconst (v := (1 : Int32)) o dX8_cooks_7 (by decide) ?_
  refine za_icmp_ne o 14 dX8_cooks_8 (by decide) (fun c21 => ?_) (fun c21 => ?_)
  · replace hf := hf.1 c21
    refine za_iconst (v := (0 : Int32)) o dX8_cooks_14 (by decide) ?_
    refine za_istore_n o [(1, .int (0 : Int32)), (0, .ref (G.2.2 + q))] dX8_cooks_15 rfl (by decide) rfl ?_
    refine za_iconst (v := (0 : Int32)) o dX8_cooks_16 (by decide) ?_
    refine za_istore_n o [(2, .int (0 : Int32)), (1, .int (0 : Int32)), (0, .ref (G.2.2 + q))] dX8_cooks_17 rfl (by decide) rfl ?_
    refine za_sub [2, 1, 0] rfl ?_
    exact tX8_cooks_18 o hq  zFU (0 : Int32) (0 : Int32) μ  hf
  · replace hf := hf.2 c21
    refine za_bipush (v := (-5 : Int32)) o dX8_cooks_11 (by decide) ?_
    exact za_iret o rfl hf dX8_cooks_13
