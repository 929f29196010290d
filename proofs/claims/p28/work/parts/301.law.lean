def fL_law_127 (L : Nat) (xs : Nat → Int32) (k86 : Int32 → Int32 → zMem → Prop) (v1 : Int32) (v2 : Int32) (μ : zMem) : Prop :=
  (∀ x1 : Int32, x1 = v1 + (1 : Int32) → k86 v2 x1 μ)
def fL_law_122 (L : Nat) (xs : Nat → Int32) (k86 : Int32 → Int32 → zMem → Prop) (v1 : Int32) (μ : zMem) : Prop :=
  fL_law_127 L xs k86   v1 (1 : Int32) μ
def fL_law_126 (L : Nat) (xs : Nat → Int32) (k86 : Int32 → Int32 → zMem → Prop) (v1 : Int32) (μ : zMem) : Prop :=
  fL_law_127 L xs k86   v1 (0 : Int32) μ
def fL_law_264 (L : Nat) (xs : Nat → Int32)  (v1 : Int32) (μ : zMem) : Prop :=
  (v1 = (1 : Int32))
def fL_law_263 (L : Nat) (xs : Nat → Int32)   (μ : zMem) : Prop :=
  fL_law_264 L xs    (0 : Int32) μ
def fL_law_223 (L : Nat) (xs : Nat → Int32)  (v1 : Int32) (v2 : Int32) (μ : zMem) : Prop :=
  ((v2 = 0 → fL_law_263 L xs     μ) ∧ (¬ v2 = 0 → fX7_undo 0  μ (fun r3 m4 => ((r3 < 0 → fL_law_263 L xs     m4) ∧ (¬ r3 < 0 → fX7_of 0 (0 : Int32) (0 : Int32) m4 (fun r6 m7 => ((¬ r6 = (30 : Int32) → fL_law_263 L xs     m7) ∧ (r6 = (30 : Int32) → fX7_count 0 (8 : Int32) m7 (fun r9 m10 => fL_bits r9 m10 (fun r11 m12 => ((v1 < r11 → fL_law_263 L xs     m12) ∧ (¬ v1 < r11 → fL_law_264 L xs    (1 : Int32) m12))))))))))))
def fL_law_222 (L : Nat) (xs : Nat → Int32)  (v1 : Int32) (μ : zMem) : Prop :=
  fL_law_223 L xs    v1 (0 : Int32) μ
def fL_law_134 (L : Nat) (xs : Nat → Int32)  (v1 : Int32) (μ : zMem) : Prop :=
  fX7_count 0 (1 : Int32) μ (fun r14 m15 => fX7_count 0 (7 : Int32) m15 (fun r16 m17 => ((v1 = 0 → fL_law_222 L xs    r14 m17) ∧ (¬ v1 = 0 → fL_areOrders 0 m17 (fun r19 m20 => ((r19 = 0 → fL_law_222 L xs    r14 m20) ∧ (¬ r19 = 0 → fL_arePeople 0 m20 (fun r22 m23 => ((r22 = 0 → fL_law_222 L xs    r14 m23) ∧ (¬ r22 = 0 → fX7_save 0 (1 : Int32) m23 (fun r25 m26 => ((¬ r25 = r14 → fL_law_222 L xs    r14 m26) ∧ (r25 = r14 → fX7_vouchers 0 (0 : Int32) (30 : Int32) m26 (fun r28 m29 => ((¬ r28 = (30 : Int32) → fL_law_222 L xs    r14 m29) ∧ (r28 = (30 : Int32) → fX7_set 0 (2 : Int32) (9 : Int32) m29 (fun r31 m32 => ((r31 < (1 : Int32) → fL_law_222 L xs    r14 m32) ∧ (¬ r31 < (1 : Int32) → fX7_restore 0 (1 : Int32) m32 (fun r34 m35 => ((¬ r34 = r14 → fL_law_222 L xs    r14 m35) ∧ (r34 = r14 → fX7_count 0 (7 : Int32) m35 (fun r37 m38 => ((¬ r37 = r16 → fL_law_222 L xs    r14 m38) ∧ (r37 = r16 → fL_law_223 L xs    r14 (1 : Int32) m38)))))))))))))))))))))))))
def fL_law_86b (L : Nat) (xs : Nat → Int32) (k86 : Int32 → Int32 → zMem → Prop) (v1 : Int32) (v2 : Int32) (μ : zMem) : Prop :=
  (((50 : Int32) ≤ v2 → fL_law_134 L xs    v1 μ) ∧ (¬ (50 : Int32) ≤ v2 → ((v1 = 0 → fL_law_134 L xs    v1 μ) ∧ (¬ v1 = 0 → ((v2 < Int32.ofNat L → vp_in v2 L) ∧ (∀ x44 : Int32, x44 = (zCell L xs v2) → fL_acts 0 x44 μ (fun r45 m46 => ((r45 = 0 → fL_law_126 L xs k86   v2 m46) ∧ (¬ r45 = 0 → (∀ x48 : Int32, x48 = (v2 - v2 / (12 : Int32) * (12 : Int32)) → ((0 < x48 → fL_law_122 L xs k86   v2 m46) ∧ (¬ 0 < x48 → fL_areOrders 0 m46 (fun r50 m51 => ((r50 = 0 → fL_law_126 L xs k86   v2 m51) ∧ (¬ r50 = 0 → fL_law_122 L xs k86   v2 m51)))))))))))))))
def fL_law_86 (L : Nat) (xs : Nat → Int32)  (n : Nat) : Int32 → Int32 → zMem → Prop := z_it (fun k => fL_law_86b L xs  k ) (fun _ _ _ => False) n
def fL_law_83 (L : Nat) (xs : Nat → Int32)  (v1 : Int32) (μ : zMem) : Prop :=
  fL_law_86 L xs    zFU v1 (0 : Int32) μ
def fL_law_82 (L : Nat) (xs : Nat → Int32)   (μ : zMem) : Prop :=
  fL_law_83 L xs    (0 : Int32) μ
def fL_law_8 (L : Nat) (xs : Nat → Int32)   (μ : zMem) : Prop :=
  fX7_undo 0  μ (fun r53 m54 => ((¬ r53 = (-5 : Int32) → fL_law_82 L xs     m54) ∧ (r53 = (-5 : Int32) → fX7_restore 0 (1 : Int32) m54 (fun r56 m57 => ((¬ r56 = (-5 : Int32) → fL_law_82 L xs     m57) ∧ (r56 = (-5 : Int32) → fX7_unsurest 0 (0 : Int32) m57 (fun r59 m60 => ((¬ r59 = (-6 : Int32) → fL_law_82 L xs     m60) ∧ (r59 = (-6 : Int32) → fX7_wasted 0  m60 (fun r62 m63 => ((¬ r62 = (-6 : Int32) → fL_law_82 L xs     m63) ∧ (r62 = (-6 : Int32) → fX7_close 0  m63 (fun r65 m66 => ((¬ r65 = (-5 : Int32) → fL_law_82 L xs     m66) ∧ (r65 = (-5 : Int32) → fX7_person 0  m66 (fun r68 m69 => ((¬ r68 = 0 → fL_law_82 L xs     m69) ∧ (r68 = 0 → fX7_person 0  m69 (fun r71 m72 => ((¬ r71 = (1 : Int32) → fL_law_82 L xs     m72) ∧ (r71 = (1 : Int32) → fX7_firstOrder 0 (1 : Int32) m72 (fun r74 m75 => ((¬ r74 = 0 → fL_law_82 L xs     m75) ∧ (r74 = 0 → fL_law_83 L xs    (1 : Int32) m75))))))))))))))))))))))))
set_option maxRecDepth 100000 in
set_option maxHeartbeats 4000000 in
theorem tL_law_127 {p : Program} {l : Launch} {e : Env} {s : State} {m : MethodId} {below : List Frame} {meth : Method} {c : Code} {G : zG} {b L : Nat} {xs : Nat → Int32} {k86 : Int32 → Int32 → zMem → Prop} (o : za_Ok room_1 529 3370 p s m #[Value.ref b] meth c G RL cL_law 5 (some .boolean)) (hs : zScr b L xs s G) (hk86 : ∀ (v1 : Int32) (v2 : Int32) (μ : zMem), k86 v1 v2 μ → za_At p l e room_1 s m #[Value.ref b] below meth c (lw_Z below #[Value.ref b] s) G 5 529 3370 86 [(0, .ref b), (1, .ref (G.2.2 + 0)), (2, .int v1), (3, .int v2)] [] μ) (v1 : Int32) (v2 : Int32) (μ : zMem)  (hf : fL_law_127 L xs k86 v1 v2 μ) : za_At p l e room_1 s m #[Value.ref b] below meth c (lw_Z below #[Value.ref b] s) G 5 529 3370 127 [(0, .ref b), (1, .ref (G.2.2 + 0)), (3, .int v1)] [.int v2] μ := by
  unfold fL_law_127 at hf
  refine za_istore_n o [(2, .int v2), (0, .ref b), (1, .ref (G.2.2 + 0)), (3, .int v1)] dL_law_127 rfl (by decide) rfl ?_
  obtain ⟨x1, ex1⟩ : ∃ y : Int32, y = v1 + (1 : Int32) := ⟨_, rfl⟩
  replace hf := hf x1 ex1
  refine za_iinc o x1 3 [(3, .int x1), (2, .int v2), (0, .ref b), (1, .ref (G.2.2 + 0))] dL_law_128 rfl (by rw [ex1]; rfl) (by decide) rfl ?_
  refine za_goto o 86 dL_law_131 (by decide) ?_
  refine za_sub [2, 3, 1, 0] rfl ?_
  exact hk86 v2 x1 μ  hf
set_option maxRecDepth 100000 in
set_option maxHeartbeats 4000000 in
theorem tL_law_122 {p : Program} {l : Launch} {e : Env} {s : State} {m : MethodId} {below : List Frame} {meth : Method} {c : Code} {G : zG} {b L : Nat} {xs : Nat → Int32} {k86 : Int32 → Int32 → zMem → Prop} (o : za_Ok room_1 529 3370 p s m #[Value.ref b] meth c G RL cL_law 5 (some .boolean)) (hs : zScr b L xs s G) (hk86 : ∀ (v1 : Int32) (v2 : Int32) (μ : zMem), k86 v1 v2 μ → za_At p l e room_1 s m #[Value.ref b] below meth c (lw_Z below #[Value.ref b] s) G 5 529 3370 86 [(0, .ref b), (1, .ref (G.2.2 + 0)), (2, .int v1), (3, .int v2)] [] μ) (v1 : Int32) (μ : zMem)  (hf : fL_law_122 L xs k86 v1 μ) : za_At p l e room_1 s m #[Value.ref b] below meth c (lw_Z below #[Value.ref b] s) G 5 529 3370 122 [(0, .ref b), (1, .ref (G.2.2 + 0)), (3, .int v1)] [] μ := by
  unfold fL_law_122 at hf
  refine za_iconst (v := (1 : Int32)) o dL_law_122 (by decide) ?_
  refine za_goto o 127 dL_law_123 (by decide) ?_
  exact tL_law_127 o hs  hk86 v1 (1 : Int32) μ  hf
set_option maxRecDepth 100000 in
set_option maxHeartbeats 4000000 in
theorem tL_law_126 {p : Program} {l : Launch} {e : Env} {s : State} {m : MethodId} {below : List Frame} {meth : Method} {c : Code} {G : zG} {b L : Nat} {xs : Nat → Int32} {k86 : Int32 → Int32 → zMem → Prop} (o : za_Ok room_1 529 3370 p s m #[Value.ref b] meth c G RL cL_law 5 (some .boolean)) (hs : zScr b L xs s G) (hk86 : ∀ (v1 : Int32) (v2 : Int32) (μ : zMem), k86 v1 v2 μ → za_At p l e room_1 s m #[Value.ref b] below meth c (lw_Z below #[Value.ref b] s) G 5 529 3370 86 [(0, .ref b), (1, .ref (G.2.2 + 0)), (2, .int v1), (3, .int v2)] [] μ) (v1 : Int32) (μ : zMem)  (hf : fL_law_126 L xs k86 v1 μ) : za_At p l e room_1 s m #[Value.ref b] below meth c (lw_Z below #[Value.ref b] s) G 5 529 3370 126 [(0, .ref b), (1, .ref (G.2.2 + 0)), (3, .int v1)] [] μ := by
  unfold fL_law_126 at hf
  refine za_iconst (v := (0 : Int32)) o dL_law_126 (by decide) ?_
  exact tL_law_127 o hs  hk86 v1 (0 : Int32) μ  hf
set_option maxRecDepth 100000 in
set_option maxHeartbeats 4000000 in
theorem tL_law_264 {p : Program} {l : Launch} {e : Env} {s : State} {m : MethodId} {below : List Frame} {meth : Method} {c : Code} {G : zG} {b L : Nat} {xs : Nat → Int32}  (o : za_Ok room_1 529 3370 p s m #[Value.ref b] meth c G RL cL_law 5 (some .boolean)) (hs : zScr b L xs s G)  (v1 : Int32) (μ : zMem)  (hf : fL_law_264 L xs  v1 μ) : za_At p l e room_1 s m #[Value.ref b] below meth c (lw_Z below #[Value.ref b] s) G 5 529 3370 264 [] [.int v1] μ := by
  unfold fL_law_264 at hf
  rw [hf]
  exact za_lret o hs dL_law_264
set_option maxRecDepth 100000 in
set_option maxHeartbeats 4000000 in
theorem tL_law_263 {p : Program} {l : Launch} {e : Env} {s : State} {m : MethodId} {below : List Frame} {meth : Method} {c : Code} {G : zG} {b L : Nat} {xs : Nat → Int32}  (o : za_Ok room_1 529 3370 p s m #[Value.ref b] meth c G RL cL_law 5 (some .boolean)) (hs : zScr b L xs s G)   (μ : zMem)  (hf : fL_law_263 L xs   μ) : za_At p l e room_1 s m #[Value.ref b] below meth c (lw_Z below #[Value.ref b] s) G 5 529 3370 263 [] [] μ := by
  unfold fL_law_263 at hf
  refine za_iconst (v := (0 : Int32)) o dL_law_263 (by decide) ?_
  exact tL_law_264 o hs   (0 : Int32) μ  hf
set_option maxRecDepth 100000 in
set_option maxHeartbeats 4000000 in
theorem tL_law_223 {p : Program} {l : Launch} {e : Env} {s : State} {m : MethodId} {below : List Frame} {meth : Method} {c : Code} {G : zG} {b L : Nat} {xs : Nat → Int32}  (o : za_Ok room_1 529 3370 p s m #[Value.ref b] meth c G RL cL_law 5 (some .boolean)) (hs : zScr b L xs s G)  (v1 : Int32) (v2 : Int32) (μ : zMem)  (hf : fL_law_223 L xs  v1 v2 μ) : za_At p l e room_1 s m #[Value.ref b] below meth c (lw_Z below #[Value.ref b] s) G 5 529 3370 223 [(1, .ref (G.2.2 + 0)), (3, .int v1)] [.int v2] μ := by
  unfold fL_law_223 at hf
  refine za_istore_n o [(2, .int v2), (1, .ref (G.2.2 + 0)), (3, .int v1)] dL_law_223 rfl (by decide) rfl ?_
  refine za_iload_n o 0 dL_law_224 rfl rfl ?_
  refine za_if_eq o 263 dL_law_225 (by decide) (fun c2 => ?_) (fun c2 => ?_)
  · replace hf := hf.1 c2
    refine za_sub [] rfl ?_
    exact tL_law_263 o hs    μ  hf
  · replace hf := hf.2 c2
    refine za_aload_n o 1 dL_law_228 rfl rfl ?_
    refine za_callVi o [] (ctX7_undo l G zk_c7   μ _ hf) zc7 zk_c7 mwX7_undo wmL_73 wiX7_undo wsX7_undo rfl ⟨Nat.le_of_ble_eq_true rfl, Nat.le_of_ble_eq_true rfl⟩ rfl (Nat.le_of_ble_eq_true rfl) dL_law_229 (fun r3 m4 hf => ?_)
    refine za_if_lt o 263 dL_law_232 (by decide) (fun c5 => ?_) (fun c5 => ?_)
    · replace hf := hf.1 c5
      refine za_sub [] rfl ?_
      exact tL_law_263 o hs    m4  hf
    · replace hf := hf.2 c5
      refine za_aload_n o 1 dL_law_235 rfl rfl ?_
      refine za_iconst (v := (0 : Int32)) o dL_law_236 (by decide) ?_
      refine za_iconst (v := (0 : Int32)) o dL_law_237 (by decide) ?_
      refine za_callVi o [.int (0 : Int32), .int (0 : Int32)] (ctX7_of l G zk_c7 (0 : Int32) (0 : Int32)  m4 _ hf) zc7 zk_c7 mwX7_of wmL_9 wiX7_of wsX7_of rfl ⟨Nat.le_of_ble_eq_true rfl, Nat.le_of_ble_eq_true rfl⟩ rfl (Nat.le_of_ble_eq_true rfl) dL_law_238 (fun r6 m7 hf => ?_)
      refine za_bipush (v := (30 : Int32)) o dL_law_241 (by decide) ?_
      refine za_icmp_ne o 263 dL_law_243 (by decide) (fun c8 => ?_) (fun c8 => ?_)
      · replace hf := hf.1 c8
        refine za_sub [] rfl ?_
        exact tL_law_263 o hs    m7  hf
      · replace hf := hf.2 c8
        refine za_aload_n o 1 dL_law_246 rfl rfl ?_
        refine za_bipush (v := (8 : Int32)) o dL_law_247 (by decide) ?_
        refine za_callVi o [.int (8 : Int32)] (ctX7_count l G zk_c7 (8 : Int32)  m7 _ hf) zc7 zk_c7 mwX7_count wmL_18 wiX7_count wsX7_count rfl ⟨Nat.le_of_ble_eq_true rfl, Nat.le_of_ble_eq_true rfl⟩ rfl (Nat.le_of_ble_eq_true rfl) dL_law_249 (fun r9 m10 hf => ?_)
        refine za_callSi o [.int r9] (ctL_bits l G r9  m10 _ hf) mwL_bits wmL_100 wtL_bits rfl ⟨Nat.le_of_ble_eq_true rfl, Nat.le_of_ble_eq_true rfl⟩ rfl (Nat.le_of_ble_eq_true rfl) dL_law_252 (fun r11 m12 hf => ?_)
        refine za_iload_n o 2 dL_law_255 rfl rfl ?_
        refine za_icmp_gt o 263 dL_law_256 (by decide) (fun c13 => ?_) (fun c13 => ?_)
        · replace hf := hf.1 c13
          refine za_sub [] rfl ?_
          exact tL_law_263 o hs    m12  hf
        · replace hf := hf.2 c13
          refine za_iconst (v := (1 : Int32)) o dL_law_259 (by decide) ?_
          refine za_goto o 264 dL_law_260 (by decide) ?_
          refine za_sub [] rfl ?_
          exact tL_law_264 o hs   (1 : Int32) m12  hf
set_option maxRecDepth 100000 in
set_option maxHeartbeats 4000000 in
theorem tL_law_222 {p : Program} {l : Launch} {e : Env} {s : State} {m : MethodId} {below : List Frame} {meth : Method} {c : Code} {G : zG} {b L : Nat} {xs : Nat → Int32}  (o : za_Ok room_1 529 3370 p s m #[Value.ref b] meth c G RL cL_law 5 (some .boolean)) (hs : zScr b L xs s G)  (v1 : Int32) (μ : zMem)  (hf : fL_law_222 L xs  v1 μ) : za_At p l e room_1 s m #[Value.ref b] below meth c (lw_Z below #[Value.ref b] s) G 5 529 3370 222 [(1, .ref (G.2.2 + 0)), (3, .int v1)] [] μ := by
  unfold fL_law_222 at hf
  refine za_iconst (v := (0 : Int32)) o dL_law_222 (by decide) ?_
  exact tL_law_223 o hs   v1 (0 : Int32) μ  hf
set_option maxRecDepth 100000 in
set_option maxHeartbeats 4000000 in
theorem tL_law_134 {p : Program} {l : Launch} {e : Env} {s : State} {m : MethodId} {below : List Frame} {meth : Method} {c : Code} {G : zG} {b L : Nat} {xs : Nat → Int32}  (o : za_Ok room_1 529 3370 p s m #[Value.ref b] meth c G RL cL_law 5 (some .boolean)) (hs : zScr b L xs s G)  (v1 : Int32) (μ : zMem)  (hf : fL_law_134 L xs  v1 μ) : za_At p l e room_1 s m #[Value.ref b] below meth c (lw_Z below #[Value.ref b] s) G 5 529 3370 134 [(1, .ref (G.2.2 + 0)), (2, .int v1)] [] μ := by
  unfold fL_law_134 at hf
  refine za_aload_n o 0 dL_law_134 rfl rfl ?_
  refine za_iconst (v := (1 : Int32)) o dL_law_135 (by decide) ?_
  refine za_callVi o [.int (1 : Int32)] (ctX7_count l G zk_c7 (1 : Int32)  μ _ hf) zc7 zk_c7 mwX7_count wmL_18 wiX7_count wsX7_count rfl ⟨Nat.le_of_ble_eq_true rfl, Nat.le_of_ble_eq_true rfl⟩ rfl (Nat.le_of_ble_eq_true rfl) dL_law_136 (fun r14 m15 hf => ?_)
  refine za_istore_n o [(3, .int r14), (1, .ref (G.2.2 + 0)), (2, .int v1)] dL_law_139 rfl (by decide) rfl ?_
  refine za_aload_n o 1 dL_law_140 rfl rfl ?_
  refine za_bipush (v := (7 : Int32)) o dL_law_141 (by decide) ?_
  refine za_callVi o [.int (7 : Int32)] (ctX7_count l G zk_c7 (7 : Int32)  m15 _ hf) zc7 zk_c7 mwX7_count wmL_18 wiX7_count wsX7_count rfl ⟨Nat.le_of_ble_eq_true rfl, Nat.le_of_ble_eq_true rfl⟩ rfl (Nat.le_of_ble_eq_true rfl) dL_law_143 (fun r16 m17 hf => ?_)
  refine za_istore o [(4, .int r16), (3, .int r14), (1, .ref (G.2.2 + 0)), (2, .int v1)] dL_law_146 (by decide) rfl ?_
  refine za_iload_n o 3 dL_law_148 rfl rfl ?_
  refine za_if_eq o 222 dL_law_149 (by decide) (fun c18 => ?_) (fun c18 => ?_)
  · replace hf := hf.1 c18
    refine za_sub [2, 1] rfl ?_
    exact tL_law_222 o hs   r14 m17  hf
  · replace hf := hf.2 c18
    refine za_aload_n o 2 dL_law_152 rfl rfl ?_
    refine za_callSi o [.ref (G.2.2 + 0)] (ctL_areOrders l G 0 zk_c7 m17 _ hf) mwL_areOrders wmL_90 wtL_areOrders rfl ⟨Nat.le_of_ble_eq_true rfl, Nat.le_of_ble_eq_true rfl⟩ rfl (Nat.le_of_ble_eq_true rfl) dL_law_153 (fun r19 m20 hf => ?_)
    refine za_if_eq o 222 dL_law_156 (by decide) (fun c21 => ?_) (fun c21 => ?_)
    · replace hf := hf.1 c21
      refine za_sub [2, 1] rfl ?_
      exact tL_law_222 o hs   r14 m20  hf
    · replace hf := hf.2 c21
      refine za_aload_n o 2 dL_law_159 rfl rfl ?_
      refine za_callSi o [.ref (G.2.2 + 0)] (ctL_arePeople l G 0 zk_c7 m20 _ hf) mwL_arePeople wmL_94 wtL_arePeople rfl ⟨Nat.le_of_ble_eq_true rfl, Nat.le_of_ble_eq_true rfl⟩ rfl (Nat.le_of_ble_eq_true rfl) dL_law_160 (fun r22 m23 hf => ?_)
      refine za_if_eq o 222 dL_law_163 (by decide) (fun c24 => ?_) (fun c24 => ?_)
      · replace hf := hf.1 c24
        refine za_sub [2, 1] rfl ?_
        exact tL_law_222 o hs   r14 m23  hf
      · replace hf := hf.2 c24
        refine za_aload_n o 2 dL_law_166 rfl rfl ?_
        refine za_iconst (v := (1 : Int32)) o dL_law_167 (by decide) ?_
        refine za_callVi o [.int (1 : Int32)] (ctX7_save l G zk_c7 (1 : Int32)  m23 _ hf) zc7 zk_c7 mwX7_save wmL_97 wiX7_save wsX7_save rfl ⟨Nat.le_of_ble_eq_true rfl, Nat.le_of_ble_eq_true rfl⟩ rfl (Nat.le_of_ble_eq_true rfl) dL_law_168 (fun r25 m26 hf => ?_)
        refine za_iload_n o 1 dL_law_171 rfl rfl ?_
        refine za_icmp_ne o 222 dL_law_172 (by decide) (fun c27 => ?_) (fun c27 => ?_)
        · replace hf := hf.1 c27
          refine za_sub [2, 1] rfl ?_
          exact tL_law_222 o hs   r14 m26  hf
        · replace hf := hf.2 c27
          refine za_aload_n o 2 dL_law_175 rfl rfl ?_
          refine za_iconst (v := (0 : Int32)) o dL_law_176 (by decide) ?_
          refine za_bipush (v := (30 : Int32)) o dL_law_177 (by decide) ?_
          refine za_callVi o [.int (0 : Int32), .int (30 : Int32)] (ctX7_vouchers l G zk_c7 (0 : Int32) (30 : Int32)  m26 _ hf) zc7 zk_c7 mwX7_vouchers wmL_45 wiX7_vouchers wsX7_vouchers rfl ⟨Nat.le_of_ble_eq_true rfl, Nat.le_of_ble_eq_true rfl⟩ rfl (Nat.le_of_ble_eq_true rfl) dL_law_179 (fun r28 m29 hf => ?_)
          refine za_bipush (v := (30 : Int32)) o dL_law_182 (by decide) ?_
          refine za_icmp_ne o 222 dL_law_184 (by decide) (fun c30 => ?_) (fun c30 => ?_)
          · replace hf := hf.1 c30
            refine za_sub [2, 1] rfl ?_
            exact tL_law_222 o hs   r14 m29  hf
          · replace hf := hf.2 c30
            refine za_aload_n o 2 dL_law_187 rfl rfl ?_
            refine za_iconst (v := (2 : Int32)) o dL_law_188 (by decide) ?_
            refine za_bipush (v := (9 : Int32)) o dL_law_189 (by decide) ?_
            refine za_callVi o [.int (2 : Int32), .int (9 : Int32)] (ctX7_set l G zk_c7 (2 : Int32) (9 : Int32)  m29 _ hf) zc7 zk_c7 mwX7_set wmL_66 wiX7_set wsX7_set rfl ⟨Nat.le_of_ble_eq_true rfl, Nat.le_of_ble_eq_true rfl⟩ rfl (Nat.le_of_ble_eq_true rfl) dL_law_191 (fun r31 m32 hf => ?_)
            refine za_iconst (v := (1 : Int32)) o dL_law_194 (by decide) ?_
            refine za_icmp_lt o 222 dL_law_195 (by decide) (fun c33 => ?_) (fun c33 => ?_)
            · replace hf := hf.1 c33
              refine za_sub [2, 1] rfl ?_
              exact tL_law_222 o hs   r14 m32  hf
            · replace hf := hf.2 c33
              refine za_aload_n o 2 dL_law_198 rfl rfl ?_
              refine za_iconst (v := (1 : Int32)) o dL_law_199 (by decide) ?_
              refine za_callVi o [.int (1 : Int32)] (ctX7_restore l G zk_c7 (1 : Int32)  m32 _ hf) zc7 zk_c7 mwX7_restore wmL_76 wiX7_restore wsX7_restore rfl ⟨Nat.le_of_ble_eq_true rfl, Nat.le_of_ble_eq_true rfl⟩ rfl (Nat.le_of_ble_eq_true rfl) dL_law_200 (fun r34 m35 hf => ?_)
              refine za_iload_n o 1 dL_law_203 rfl rfl ?_
              refine za_icmp_ne o 222 dL_law_204 (by decide) (fun c36 => ?_) (fun c36 => ?_)
              · replace hf := hf.1 c36
                refine za_sub [2, 1] rfl ?_
                exact tL_law_222 o hs   r14 m35  hf
              · replace hf := hf.2 c36
                refine za_aload_n o 2 dL_law_207 rfl rfl ?_
                refine za_bipush (v := (7 : Int32)) o dL_law_208 (by decide) ?_
                refine za_callVi o [.int (7 : Int32)] (ctX7_count l G zk_c7 (7 : Int32)  m35 _ hf) zc7 zk_c7 mwX7_count wmL_18 wiX7_count wsX7_count rfl ⟨Nat.le_of_ble_eq_true rfl, Nat.le_of_ble_eq_true rfl⟩ rfl (Nat.le_of_ble_eq_true rfl) dL_law_210 (fun r37 m38 hf => ?_)
                refine za_iload o 0 dL_law_213 rfl ?_
                refine za_icmp_ne o 222 dL_law_215 (by decide) (fun c39 => ?_) (fun c39 => ?_)
                · replace hf := hf.1 c39
                  refine za_sub [2, 1] rfl ?_
                  exact tL_law_222 o hs   r14 m38  hf
                · replace hf := hf.2 c39
                  refine za_iconst (v := (1 : Int32)) o dL_law_218 (by decide) ?_
                  refine za_goto o 223 dL_law_219 (by decide) ?_
                  refine za_sub [2, 1] rfl ?_
                  exact tL_law_223 o hs   r14 (1 : Int32) m38  hf
set_option maxRecDepth 100000 in
set_option maxHeartbeats 4000000 in
theorem tL_law_86b {p : Program} {l : Launch} {e : Env} {s : State} {m : MethodId} {below : List Frame} {meth : Method} {c : Code} {G : zG} {b L : Nat} {xs : Nat → Int32} {k86 : Int32 → Int32 → zMem → Prop} (o : za_Ok room_1 529 3370 p s m #[Value.ref b] meth c G RL cL_law 5 (some .boolean)) (hs : zScr b L xs s G) (hk86 : ∀ (v1 : Int32) (v2 : Int32) (μ : zMem), k86 v1 v2 μ → za_At p l e room_1 s m #[Value.ref b] below meth c (lw_Z below #[Value.ref b] s) G 5 529 3370 86 [(0, .ref b), (1, .ref (G.2.2 + 0)), (2, .int v1), (3, .int v2)] [] μ) (v1 : Int32) (v2 : Int32) (μ : zMem)  (hf : fL_law_86b L xs k86 v1 v2 μ) : za_At p l e room_1 s m #[Value.ref b] below meth c (lw_Z below #[Value.ref b] s) G 5 529 3370 86 [(0, .ref b), (1, .ref (G.2.2 + 0)), (2, .int v1), (3, .int v2)] [] μ := by
  unfold fL_law_86b at hf
  refine za_iload_n o 3 dL_law_86 rfl rfl ?_
  refine za_bipush (v := (50 : Int32)) o dL_law_87 (by decide) ?_
  refine za_icmp_ge o 134 dL_law_89 (by decide) (fun c40 => ?_) (fun c40 => ?_)
  · replace hf := hf.1 c40
    refine za_sub [1, 2] rfl ?_
    exact tL_law_134 o hs   v1 μ  hf
  · replace hf := hf.2 c40
    refine za_iload_n o 2 dL_law_92 rfl rfl ?_
    refine za_if_eq o 134 dL_law_93 (by decide) (fun c41 => ?_) (fun c41 => ?_)
    · replace hf := hf.1 c41
      refine za_sub [1, 2] rfl ?_
      exact tL_law_134 o hs   v1 μ  hf
    · replace hf := hf.2 c41
      refine za_aload_n o 1 dL_law_96 rfl rfl ?_
      refine za_aload_n o 0 dL_law_97 rfl rfl ?_
      refine za_iload_n o 3 dL_law_98 rfl rfl ?_
      obtain ⟨g43, hf⟩ := hf
      refine za_callCell o hs wmL_82 g43 (Nat.le_of_ble_eq_true rfl) dL_law_99 ?_
      refine za_topi (fun x44 ex44 => ?_)
      replace hf := hf x44 ex44
      refine za_callSi o [.ref (G.2.2 + 0), .int x44] (ctL_acts l G 0 x44 zk_c7 μ _ hf) mwL_acts wmL_86 wtL_acts rfl ⟨Nat.le_of_ble_eq_true rfl, Nat.le_of_ble_eq_true rfl⟩ rfl (Nat.le_of_ble_eq_true rfl) dL_law_102 (fun r45 m46 hf => ?_)
      refine za_if_eq o 126 dL_law_105 (by decide) (fun c47 => ?_) (fun c47 => ?_)
      · replace hf := hf.1 c47
        refine za_sub [0, 1, 3] rfl ?_
        exact tL_law_126 o hs  hk86 v2 m46  hf
      · replace hf := hf.2 c47
        refine za_iload_n o 3 dL_law_108 rfl rfl ?_
        refine za_bipush (v := (12 : Int32)) o dL_law_109 (by decide) ?_
        refine za_irem o dL_law_111 (by decide) ?_
        refine za_topi (fun x48 ex48 => ?_)
        replace hf := hf x48 ex48
        refine za_if_gt o 122 dL_law_112 (by decide) (fun c49 => ?_) (fun c49 => ?_)
        · replace hf := hf.1 c49
          refine za_sub [0, 1, 3] rfl ?_
          exact tL_law_122 o hs  hk86 v2 m46  hf
        · replace hf := hf.2 c49
          refine za_aload_n o 1 dL_law_115 rfl rfl ?_
          refine za_callSi o [.ref (G.2.2 + 0)] (ctL_areOrders l G 0 zk_c7 m46 _ hf) mwL_areOrders wmL_90 wtL_areOrders rfl ⟨Nat.le_of_ble_eq_true rfl, Nat.le_of_ble_eq_true rfl⟩ rfl (Nat.le_of_ble_eq_true rfl) dL_law_116 (fun r50 m51 hf => ?_)
          refine za_if_eq o 126 dL_law_119 (by decide) (fun c52 => ?_) (fun c52 => ?_)
          · replace hf := hf.1 c52
            refine za_sub [0, 1, 3] rfl ?_
            exact tL_law_126 o hs  hk86 v2 m51  hf
          · replace hf := hf.2 c52
            refine za_sub [0, 1, 3] rfl ?_
            exact tL_law_122 o hs  hk86 v2 m51  hf
theorem tL_law_86 {p : Program} {l : Launch} {e : Env} {s : State} {m : MethodId} {below : List Frame} {meth : Method} {c : Code} {G : zG} {b L : Nat} {xs : Nat → Int32}  (o : za_Ok room_1 529 3370 p s m #[Value.ref b] meth c G RL cL_law 5 (some .boolean)) (hs : zScr b L xs s G)  (n : Nat) : ∀ (v1 : Int32) (v2 : Int32) (μ : zMem), fL_law_86 L xs  n v1 v2 μ → za_At p l e room_1 s m #[Value.ref b] below meth c (lw_Z below #[Value.ref b] s) G 5 529 3370 86 [(0, .ref b), (1, .ref (G.2.2 + 0)), (2, .int v1), (3, .int v2)] [] μ := by
  induction n with
  | zero => intro _ _ _ hf; exact hf.elim
  | succ n ih => intro v1 v2 μ  hf; exact tL_law_86b o hs  ih v1 v2 μ  hf
set_option maxRecDepth 100000 in
set_option maxHeartbeats 4000000 in
theorem tL_law_83 {p : Program} {l : Launch} {e : Env} {s : State} {m : MethodId} {below : List Frame} {meth : Method} {c : Code} {G : zG} {b L : Nat} {xs : Nat → Int32}  (o : za_Ok room_1 529 3370 p s m #[Value.ref b] meth c G RL cL_law 5 (some .boolean)) (hs : zScr b L xs s G)  (v1 : Int32) (μ : zMem)  (hf : fL_law_83 L xs  v1 μ) : za_At p l e room_1 s m #[Value.ref b] below meth c (lw_Z below #[Value.ref b] s) G 5 529 3370 83 [(0, .ref b), (1, .ref (G.2.2 + 0))] [.int v1] μ := by
  unfold fL_law_83 at hf
  refine za_istore_n o [(2, .int v1), (0, .ref b), (1, .ref (G.2.2 + 0))] dL_law_83 rfl (by decide) rfl ?_
  refine za_iconst (v := (0 : Int32)) o dL_law_84 (by decide) ?_
  refine za_istore_n o [(3, .int (0 : Int32)), (2, .int v1), (0, .ref b), (1, .ref (G.2.2 + 0))] dL_law_85 rfl (by decide) rfl ?_
  refine za_sub [2, 3, 1, 0] rfl ?_
  exact tL_law_86 o hs   zFU v1 (0 : Int32) μ  hf
set_option maxRecDepth 100000 in
set_option maxHeartbeats 4000000 in
theorem tL_law_82 {p : Program} {l : Launch} {e : Env} {s : State} {m : MethodId} {below : List Frame} {meth : Method} {c : Code} {G : zG} {b L : Nat} {xs : Nat → Int32}  (o : za_Ok room_1 529 3370 p s m #[Value.ref b] meth c G RL cL_law 5 (some .boolean)) (hs : zScr b L xs s G)   (μ : zMem)  (hf : fL_law_82 L xs   μ) : za_At p l e room_1 s m #[Value.ref b] below meth c (lw_Z below #[Value.ref b] s) G 5 529 3370 82 [(0, .ref b), (1, .ref (G.2.2 + 0))] [] μ := by
  unfold fL_law_82 at hf
  refine za_iconst (v := (0 : Int32)) o dL_law_82 (by decide) ?_
  exact tL_law_83 o hs   (0 : Int32) μ  hf
set_option maxRecDepth 100000 in
set_option maxHeartbeats 4000000 in
theorem tL_law_8 {p : Program} {l : Launch} {e : Env} {s : State} {m : MethodId} {below : List Frame} {meth : Method} {c : Code} {G : zG} {b L : Nat} {xs : Nat → Int32}  (o : za_Ok room_1 529 3370 p s m #[Value.ref b] meth c G RL cL_law 5 (some .boolean)) (hs : zScr b L xs s G)   (μ : zMem)  (hf : fL_law_8 L xs   μ) : za_At p l e room_1 s m #[Value.ref b] below meth c (lw_Z below #[Value.ref b] s) G 5 529 3370 8 [(0, .ref b), (1, .ref (G.2.2 + 0))] [] μ := by
  unfold fL_law_8 at hf
  refine za_aload_n o 1 dL_law_8 rfl rfl ?_
  refine za_callVi o [] (ctX7_undo l G zk_c7   μ _ hf) zc7 zk_c7 mwX7_undo wmL_73 wiX7_undo wsX7_undo rfl ⟨Nat.le_of_ble_eq_true rfl, Nat.le_of_ble_eq_true rfl⟩ rfl (Nat.le_of_ble_eq_true rfl) dL_law_9 (fun r53 m54 hf => ?_)
  refine za_bipush (v := (-5 : Int32)) o dL_law_12 (by decide) ?_
  refine za_icmp_ne o 82 dL_law_14 (by decide) (fun c55 => ?_) (fun c55 => ?_)
  · replace hf := hf.1 c55
    exact tL_law_82 o hs    m54  hf
  · replace hf := hf.2 c55
    refine za_aload_n o 1 dL_law_17 rfl rfl ?_
    refine za_iconst (v := (1 : Int32)) o dL_law_18 (by decide) ?_
    refine za_callVi o [.int (1 : Int32)] (ctX7_restore l G zk_c7 (1 : Int32)  m54 _ hf) zc7 zk_c7 mwX7_restore wmL_76 wiX7_restore wsX7_restore rfl ⟨Nat.le_of_ble_eq_true rfl, Nat.le_of_ble_eq_true rfl⟩ rfl (Nat.le_of_ble_eq_true rfl) dL_law_19 (fun r56 m57 hf => ?_)
    refine za_bipush (v := (-5 : Int32)) o dL_law_22 (by decide) ?_
    refine za_icmp_ne o 82 dL_law_24 (by decide) (fun c58 => ?_) (fun c58 => ?_)
    · replace hf := hf.1 c58
      exact tL_law_82 o hs    m57  hf
    · replace hf := hf.2 c58
      refine za_aload_n o 1 dL_law_27 rfl rfl ?_
      refine za_iconst (v := (0 : Int32)) o dL_law_28 (by decide) ?_
      refine za_callVi o [.int (0 : Int32)] (ctX7_unsurest l G zk_c7 (0 : Int32)  m57 _ hf) zc7 zk_c7 mwX7_unsurest wmL_38 wiX7_unsurest wsX7_unsurest rfl ⟨Nat.le_of_ble_eq_true rfl, Nat.le_of_ble_eq_true rfl⟩ rfl (Nat.le_of_ble_eq_true rfl) dL_law_29 (fun r59 m60 hf => ?_)
      refine za_bipush (v := (-6 : Int32)) o dL_law_32 (by decide) ?_
      refine za_icmp_ne o 82 dL_law_34 (by decide) (fun c61 => ?_) (fun c61 => ?_)
      · replace hf := hf.1 c61
        exact tL_law_82 o hs    m60  hf
      · replace hf := hf.2 c61
        refine za_aload_n o 1 dL_law_37 rfl rfl ?_
        refine za_callVi o [] (ctX7_wasted l G zk_c7   m60 _ hf) zc7 zk_c7 mwX7_wasted wmL_79 wiX7_wasted wsX7_wasted rfl ⟨Nat.le_of_ble_eq_true rfl, Nat.le_of_ble_eq_true rfl⟩ rfl (Nat.le_of_ble_eq_true rfl) dL_law_38 (fun r62 m63 hf => ?_)
        refine za_bipush (v := (-6 : Int32)) o dL_law_41 (by decide) ?_
        refine za_icmp_ne o 82 dL_law_43 (by decide) (fun c64 => ?_) (fun c64 => ?_)
        · replace hf := hf.1 c64
          exact tL_law_82 o hs    m63  hf
        · replace hf := hf.2 c64
          refine za_aload_n o 1 dL_law_46 rfl rfl ?_
          refine za_callVi o [] (ctX7_close l G zk_c7   m63 _ hf) zc7 zk_c7 mwX7_close wmL_63 wiX7_close wsX7_close rfl ⟨Nat.le_of_ble_eq_true rfl, Nat.le_of_ble_eq_true rfl⟩ rfl (Nat.le_of_ble_eq_true rfl) dL_law_47 (fun r65 m66 hf => ?_)
          refine za_bipush (v := (-5 : Int32)) o dL_law_50 (by decide) ?_
          refine za_icmp_ne o 82 dL_law_52 (by decide) (fun c67 => ?_) (fun c67 => ?_)
          · replace hf := hf.1 c67
            exact tL_law_82 o hs    m66  hf
          · replace hf := hf.2 c67
            refine za_aload_n o 1 dL_law_55 rfl rfl ?_
            refine za_callVi o [] (ctX7_person l G zk_c7   m66 _ hf) zc7 zk_c7 mwX7_person wmL_41 wiX7_person wsX7_person rfl ⟨Nat.le_of_ble_eq_true rfl, Nat.le_of_ble_eq_true rfl⟩ rfl (Nat.le_of_ble_eq_true rfl) dL_law_56 (fun r68 m69 hf => ?_)
            refine za_if_ne o 82 dL_law_59 (by decide) (fun c70 => ?_) (fun c70 => ?_)
            · replace hf := hf.1 c70
              exact tL_law_82 o hs    m69  hf
            · replace hf := hf.2 c70
              refine za_aload_n o 1 dL_law_62 rfl rfl ?_
              refine za_callVi o [] (ctX7_person l G zk_c7   m69 _ hf) zc7 zk_c7 mwX7_person wmL_41 wiX7_person wsX7_person rfl ⟨Nat.le_of_ble_eq_true rfl, Nat.le_of_ble_eq_true rfl⟩ rfl (Nat.le_of_ble_eq_true rfl) dL_law_63 (fun r71 m72 hf => ?_)
              refine za_iconst (v := (1 : Int32)) o dL_law_66 (by decide) ?_
              refine za_icmp_ne o 82 dL_law_67 (by decide) (fun c73 => ?_) (fun c73 => ?_)
              · replace hf := hf.1 c73
                exact tL_law_82 o hs    m72  hf
              · replace hf := hf.2 c73
                refine za_aload_n o 1 dL_law_70 rfl rfl ?_
                refine za_iconst (v := (1 : Int32)) o dL_law_71 (by decide) ?_
                refine za_callVi o [.int (1 : Int32)] (ctX7_firstOrder l G zk_c7 (1 : Int32)  m72 _ hf) zc7 zk_c7 mwX7_firstOrder wmL_35 wiX7_firstOrder wsX7_firstOrder rfl ⟨Nat.le_of_ble_eq_true rfl, Nat.le_of_ble_eq_true rfl⟩ rfl (Nat.le_of_ble_eq_true rfl) dL_law_72 (fun r74 m75 hf => ?_)
                refine za_if_ne o 82 dL_law_75 (by decide) (fun c76 => ?_) (fun c76 => ?_)
                · replace hf := hf.1 c76
                  exact tL_law_82 o hs    m75  hf
                · replace hf := hf.2 c76
                  refine za_iconst (v := (1 : Int32)) o dL_law_78 (by decide) ?_
                  refine za_goto o 83 dL_law_79 (by decide) ?_
                  exact tL_law_83 o hs   (1 : Int32) m75  hf
