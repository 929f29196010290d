/-! L_areOrders -/
def fL_areOrders_117 (k15 : Nat → Int32 → Int32 → Int32 → Int32 → Int32 → Int32 → zMem → Prop) (k43 : Nat → Int32 → Int32 → Int32 → Int32 → Int32 → Int32 → Int32 → Int32 → Int32 → zMem → Prop) (K : Int32 → zMem → Prop) (v1 : Nat) (v2 : Int32) (v3 : Int32) (v4 : Int32) (v5 : Int32) (v6 : Int32) (v7 : Int32) (v8 : Int32) (v9 : Int32) (v10 : Int32) (v11 : Int32) (μ : zMem) : Prop :=
  (∀ x1 : Int32, x1 = (v11 + v10) → (∀ x2 : Int32, x2 = v9 + (1 : Int32) → k43 v1 v2 v3 v4 v5 v6 v7 v8 x1 x2 μ))
def fL_areOrders_116 (k15 : Nat → Int32 → Int32 → Int32 → Int32 → Int32 → Int32 → zMem → Prop) (k43 : Nat → Int32 → Int32 → Int32 → Int32 → Int32 → Int32 → Int32 → Int32 → Int32 → zMem → Prop) (K : Int32 → zMem → Prop) (v1 : Nat) (v2 : Int32) (v3 : Int32) (v4 : Int32) (v5 : Int32) (v6 : Int32) (v7 : Int32) (v8 : Int32) (v9 : Int32) (v10 : Int32) (μ : zMem) : Prop :=
  fL_areOrders_117 k15 k43 K  v1 v2 v3 v4 v5 v6 v7 v8 v9 (0 : Int32) v10 μ
def fL_areOrders_91 (k15 : Nat → Int32 → Int32 → Int32 → Int32 → Int32 → Int32 → zMem → Prop) (k43 : Nat → Int32 → Int32 → Int32 → Int32 → Int32 → Int32 → Int32 → Int32 → Int32 → zMem → Prop) (K : Int32 → zMem → Prop) (v1 : Nat) (v2 : Int32) (v3 : Int32) (v4 : Int32) (v5 : Int32) (v6 : Int32) (v7 : Int32) (v8 : Int32) (v9 : Int32) (v10 : Int32) (v11 : Int32) (v12 : Int32) (μ : zMem) : Prop :=
  (∀ x3 : Int32, x3 = (v12 + v11) → ((v10 = 0 → fL_areOrders_116 k15 k43 K  v1 v2 v3 v4 v5 v6 v7 x3 v9 v8 μ) ∧ (¬ v10 = 0 → fX7_of v1 v9 (7 : Int32) μ (fun r5 m6 => ((¬ r5 = 0 → fL_areOrders_116 k15 k43 K  v1 v2 v3 v4 v5 v6 v7 x3 v9 v8 m6) ∧ (r5 = 0 → fL_areOrders_117 k15 k43 K  v1 v2 v3 v4 v5 v6 v7 x3 v9 (1 : Int32) v8 m6))))))
def fL_areOrders_69 (k15 : Nat → Int32 → Int32 → Int32 → Int32 → Int32 → Int32 → zMem → Prop) (k43 : Nat → Int32 → Int32 → Int32 → Int32 → Int32 → Int32 → Int32 → Int32 → Int32 → zMem → Prop) (K : Int32 → zMem → Prop) (v1 : Nat) (v2 : Int32) (v3 : Int32) (v4 : Int32) (v5 : Int32) (v6 : Int32) (v7 : Int32) (v8 : Int32) (v9 : Int32) (v10 : Int32) (v11 : Int32) (μ : zMem) : Prop :=
  ((v11 = 0 → fL_areOrders_91 k15 k43 K  v1 v2 v3 v4 v5 v6 v7 v9 v10 v11 (0 : Int32) v8 μ) ∧ (¬ v11 = 0 → fL_doubt v1 v10 μ (fun r9 m10 => (∀ x11 : Int32, x11 = ((100 : Int32) - r9) → fL_areOrders_91 k15 k43 K  v1 v2 v3 v4 v5 v6 v7 v9 v10 v11 x11 v8 m10))))
def fL_areOrders_340 (k15 : Nat → Int32 → Int32 → Int32 → Int32 → Int32 → Int32 → zMem → Prop) (K : Int32 → zMem → Prop) (v1 : Nat) (v2 : Int32) (v3 : Int32) (v4 : Int32) (v5 : Int32) (v6 : Int32) (v7 : Int32) (μ : zMem) : Prop :=
  (∀ x12 : Int32, x12 = v6 + (1 : Int32) → k15 v1 v7 v2 v3 v4 v5 x12 μ)
def fL_areOrders_335 (k15 : Nat → Int32 → Int32 → Int32 → Int32 → Int32 → Int32 → zMem → Prop) (K : Int32 → zMem → Prop) (v1 : Nat) (v2 : Int32) (v3 : Int32) (v4 : Int32) (v5 : Int32) (v6 : Int32) (μ : zMem) : Prop :=
  fL_areOrders_340 k15 K  v1 v2 v3 v4 v5 v6 (1 : Int32) μ
def fL_areOrders_339 (k15 : Nat → Int32 → Int32 → Int32 → Int32 → Int32 → Int32 → zMem → Prop) (K : Int32 → zMem → Prop) (v1 : Nat) (v2 : Int32) (v3 : Int32) (v4 : Int32) (v5 : Int32) (v6 : Int32) (μ : zMem) : Prop :=
  fL_areOrders_340 k15 K  v1 v2 v3 v4 v5 v6 (0 : Int32) μ
def fL_areOrders_258 (k15 : Nat → Int32 → Int32 → Int32 → Int32 → Int32 → Int32 → zMem → Prop) (K : Int32 → zMem → Prop) (v1 : Nat) (v2 : Int32) (v3 : Int32) (v4 : Int32) (v5 : Int32) (v6 : Int32) (v7 : Int32) (v8 : Int32) (v9 : Int32) (v10 : Int32) (μ : zMem) : Prop :=
  ((¬ v10 = v9 → fL_areOrders_339 k15 K  v1 v2 v3 v4 v5 v6 μ) ∧ (v10 = v9 → fX7_ofDish v1 v6 (2 : Int32) μ (fun r14 m15 => ((¬ r14 = v7 → fL_areOrders_339 k15 K  v1 v2 v3 v4 v5 v6 m15) ∧ (r14 = v7 → fX7_ofDish v1 v6 (3 : Int32) m15 (fun r17 m18 => fX7_ofDish v1 v6 (4 : Int32) m18 (fun r19 m20 => fX7_ofDish v1 v6 (5 : Int32) m20 (fun r21 m22 => (∀ x23 : Int32, x23 = (r19 + r21) → (∀ x24 : Int32, x24 = (x23 + v8) → fX7_ofDish v1 v6 (1 : Int32) m22 (fun r25 m26 => (∀ x27 : Int32, x27 = (x24 + r25) → ((¬ r17 = x27 → fL_areOrders_339 k15 K  v1 v2 v3 v4 v5 v6 m26) ∧ (r17 = x27 → fX7_count v1 (2 : Int32) m26 (fun r29 m30 => ((r29 = (1 : Int32) → fL_areOrders_335 k15 K  v1 v2 v3 v4 v5 v6 m30) ∧ (¬ r29 = (1 : Int32) → fX7_ofDish v1 v6 (1 : Int32) m30 (fun r32 m33 => ((¬ r32 = 0 → fL_areOrders_339 k15 K  v1 v2 v3 v4 v5 v6 m33) ∧ (r32 = 0 → (((20 : Int32) < v8 → fL_areOrders_339 k15 K  v1 v2 v3 v4 v5 v6 m33) ∧ (¬ (20 : Int32) < v8 → fL_areOrders_335 k15 K  v1 v2 v3 v4 v5 v6 m33))))))))))))))))))))))
def fL_areOrders_186 (k15 : Nat → Int32 → Int32 → Int32 → Int32 → Int32 → Int32 → zMem → Prop) (K : Int32 → zMem → Prop) (v1 : Nat) (v2 : Int32) (v3 : Int32) (v4 : Int32) (v5 : Int32) (v6 : Int32) (v7 : Int32) (v8 : Int32) (v9 : Int32) (μ : zMem) : Prop :=
  fX7_ofDish v1 v6 (3 : Int32) μ (fun r36 m37 => (∀ x38 : Int32, x38 = (v2 + r36) → fX7_ofDish v1 v6 (4 : Int32) m37 (fun r39 m40 => (∀ x41 : Int32, x41 = (v3 + r39) → fX7_ofDish v1 v6 (5 : Int32) m40 (fun r42 m43 => (∀ x44 : Int32, x44 = (v4 + r42) → fX7_ofDish v1 v6 (1 : Int32) m43 (fun r45 m46 => (∀ x47 : Int32, x47 = (v8 + r45) → (∀ x48 : Int32, x48 = (v5 + x47) → fX7_ofDish v1 v6 (7 : Int32) m46 (fun r49 m50 => fX7_count v1 (2 : Int32) m50 (fun r51 m52 => ((¬ r51 = (1 : Int32) → fL_areOrders_258 k15 K  v1 x38 x41 x44 x48 v6 v7 v8 v9 r49 m52) ∧ (r51 = (1 : Int32) → fL_areOrders_258 k15 K  v1 x38 x41 x44 x48 v6 v7 v8 (0 : Int32) r49 m52)))))))))))))
def fL_areOrders_144 (k15 : Nat → Int32 → Int32 → Int32 → Int32 → Int32 → Int32 → zMem → Prop) (K : Int32 → zMem → Prop) (v1 : Nat) (v2 : Int32) (v3 : Int32) (v4 : Int32) (v5 : Int32) (v6 : Int32) (v7 : Int32) (v8 : Int32) (v9 : Int32) (μ : zMem) : Prop :=
  (∀ x54 : Int32, x54 = (v9 + v8) → fX7_ofDish v1 v6 (0 : Int32) μ (fun r55 m56 => fX7_count v1 (10 : Int32) m56 (fun r57 m58 => (∀ x59 : Int32, x59 = (x54 + r57) → ((x59 ≤ r55 → fL_areOrders_186 k15 K  v1 v2 v3 v4 v5 v6 v7 r55 (0 : Int32) m58) ∧ (¬ x59 ≤ r55 → fX7_count v1 (10 : Int32) m58 (fun r61 m62 => (∀ x63 : Int32, x63 = (x54 + r61) → (∀ x64 : Int32, x64 = (x63 - r55) → fL_areOrders_186 k15 K  v1 v2 v3 v4 v5 v6 v7 r55 x64 m62)))))))))
def fL_areOrders_43b (k15 : Nat → Int32 → Int32 → Int32 → Int32 → Int32 → Int32 → zMem → Prop) (k43 : Nat → Int32 → Int32 → Int32 → Int32 → Int32 → Int32 → Int32 → Int32 → Int32 → zMem → Prop) (K : Int32 → zMem → Prop) (v1 : Nat) (v2 : Int32) (v3 : Int32) (v4 : Int32) (v5 : Int32) (v6 : Int32) (v7 : Int32) (v8 : Int32) (v9 : Int32) (v10 : Int32) (μ : zMem) : Prop :=
  fX7_count v1 (1 : Int32) μ (fun r65 m66 => ((r65 ≤ v10 → (∀ x68 : Int32, x68 = (v8 / (100 : Int32)) → (∀ x69 : Int32, x69 = (v8 - v8 / (100 : Int32) * (100 : Int32)) → ((x69 ≤ 0 → fL_areOrders_144 k15 K  v1 v2 v3 v4 v5 v6 v9 (0 : Int32) x68 m66) ∧ (¬ x69 ≤ 0 → fL_areOrders_144 k15 K  v1 v2 v3 v4 v5 v6 v9 (1 : Int32) x68 m66))))) ∧ (¬ r65 ≤ v10 → (∀ x71 : Int32, x71 = (v7 >>> (v10 &&& 31)) → (∀ x72 : Int32, x72 = (x71 &&& (1 : Int32)) → ((¬ x72 = (1 : Int32) → fL_areOrders_69 k15 k43 K  v1 v2 v3 v4 v5 v6 v7 v8 v9 v10 (0 : Int32) m66) ∧ (x72 = (1 : Int32) → fL_areOrders_69 k15 k43 K  v1 v2 v3 v4 v5 v6 v7 v8 v9 v10 (1 : Int32) m66)))))))
def fL_areOrders_43 (k15 : Nat → Int32 → Int32 → Int32 → Int32 → Int32 → Int32 → zMem → Prop) (K : Int32 → zMem → Prop) (n : Nat) : Nat → Int32 → Int32 → Int32 → Int32 → Int32 → Int32 → Int32 → Int32 → Int32 → zMem → Prop := z_it (fun k => fL_areOrders_43b k15 k K ) (fun _ _ _ _ _ _ _ _ _ _ _ => False) n
def fL_areOrders_395  (K : Int32 → zMem → Prop) (v1 : Int32) (μ : zMem) : Prop :=
  (z_b v1 ∧ K v1 μ)
def fL_areOrders_394  (K : Int32 → zMem → Prop)  (μ : zMem) : Prop :=
  fL_areOrders_395  K  (0 : Int32) μ
def fL_areOrders_347  (K : Int32 → zMem → Prop) (v1 : Nat) (v2 : Int32) (v3 : Int32) (v4 : Int32) (v5 : Int32) (v6 : Int32) (μ : zMem) : Prop :=
  ((v2 = 0 → fL_areOrders_394  K   μ) ∧ (¬ v2 = 0 → fX7_count v1 (3 : Int32) μ (fun r75 m76 => ((¬ v3 = r75 → fL_areOrders_394  K   m76) ∧ (v3 = r75 → fX7_count v1 (4 : Int32) m76 (fun r78 m79 => ((¬ v4 = r78 → fL_areOrders_394  K   m79) ∧ (v4 = r78 → fX7_count v1 (5 : Int32) m79 (fun r81 m82 => ((¬ v5 = r81 → fL_areOrders_394  K   m82) ∧ (v5 = r81 → fX7_count v1 (6 : Int32) m82 (fun r84 m85 => ((¬ v6 = r84 → fL_areOrders_394  K   m85) ∧ (v6 = r84 → fL_areOrders_395  K  (1 : Int32) m85))))))))))))))
def fL_areOrders_15b (k15 : Nat → Int32 → Int32 → Int32 → Int32 → Int32 → Int32 → zMem → Prop) (K : Int32 → zMem → Prop) (v1 : Nat) (v2 : Int32) (v3 : Int32) (v4 : Int32) (v5 : Int32) (v6 : Int32) (v7 : Int32) (μ : zMem) : Prop :=
  (((3 : Int32) ≤ v7 → fL_areOrders_347  K  v1 v2 v3 v4 v5 v6 μ) ∧ (¬ (3 : Int32) ≤ v7 → ((v2 = 0 → fL_areOrders_347  K  v1 v2 v3 v4 v5 v6 μ) ∧ (¬ v2 = 0 → fX7_ordered v1 (0 : Int32) v7 μ (fun r89 m90 => fL_areOrders_43 k15 K  zFU v1 v3 v4 v5 v6 v7 r89 (0 : Int32) (0 : Int32) (0 : Int32) m90)))))
def fL_areOrders_15  (K : Int32 → zMem → Prop) (n : Nat) : Nat → Int32 → Int32 → Int32 → Int32 → Int32 → Int32 → zMem → Prop := z_it (fun k => fL_areOrders_15b  k K ) (fun _ _ _ _ _ _ _ _ => False) n
def fL_areOrders (a1 : Nat) (μ : zMem) (K : Int32 → zMem → Prop) : Prop :=
  fL_areOrders_15  K  zFU a1 (1 : Int32) (0 : Int32) (0 : Int32) (0 : Int32) (0 : Int32) (0 : Int32) μ
set_option maxRecDepth 100000 in
set_option maxHeartbeats 4000000 in
theorem tL_areOrders_117 {p : Program} {l : Launch} {e : Env} {s : State} {m : MethodId} {args : Array Value} {below : List Frame} {meth : Method} {c : Code} {G : zG} {k15 : Nat → Int32 → Int32 → Int32 → Int32 → Int32 → Int32 → zMem → Prop} {k43 : Nat → Int32 → Int32 → Int32 → Int32 → Int32 → Int32 → Int32 → Int32 → Int32 → zMem → Prop} {K : Int32 → zMem → Prop} (o : za_Ok (z_rm 7 151) 0 0 p s m args meth c G RL cL_areOrders 13 (some .boolean)) (hk15 : ∀ (v1 : Nat) (v2 : Int32) (v3 : Int32) (v4 : Int32) (v5 : Int32) (v6 : Int32) (v7 : Int32) (μ : zMem), z_is v1 7 → k15 v1 v2 v3 v4 v5 v6 v7 μ → za_At p l e (z_rm 7 151) s m args below meth c (MQ below (zQi G K) args s 0 0 (zA G)) G 13 0 0 15 [(0, .ref (G.2.2 + v1)), (1, .int v2), (2, .int v3), (3, .int v4), (4, .int v5), (5, .int v6), (6, .int v7)] [] μ) (hk43 : ∀ (v1 : Nat) (v2 : Int32) (v3 : Int32) (v4 : Int32) (v5 : Int32) (v6 : Int32) (v7 : Int32) (v8 : Int32) (v9 : Int32) (v10 : Int32) (μ : zMem), z_is v1 7 → k43 v1 v2 v3 v4 v5 v6 v7 v8 v9 v10 μ → za_At p l e (z_rm 7 151) s m args below meth c (MQ below (zQi G K) args s 0 0 (zA G)) G 13 0 0 43 [(0, .ref (G.2.2 + v1)), (2, .int v2), (3, .int v3), (4, .int v4), (5, .int v5), (6, .int v6), (7, .int v7), (8, .int v8), (9, .int v9), (10, .int v10)] [] μ) (v1 : Nat) (v2 : Int32) (v3 : Int32) (v4 : Int32) (v5 : Int32) (v6 : Int32) (v7 : Int32) (v8 : Int32) (v9 : Int32) (v10 : Int32) (v11 : Int32) (μ : zMem) (hv1 : z_is v1 7) (hf : fL_areOrders_117 k15 k43 K v1 v2 v3 v4 v5 v6 v7 v8 v9 v10 v11 μ) : za_At p l e (z_rm 7 151) s m args below meth c (MQ below (zQi G K) args s 0 0 (zA G)) G 13 0 0 117 [(0, .ref (G.2.2 + v1)), (2, .int v2), (3, .int v3), (4, .int v4), (5, .int v5), (6, .int v6), (7, .int v7), (8, .int v8), (10, .int v9)] [.int v10, .int v11] μ := by
  unfold fL_areOrders_117 at hf
  refine za_iadd o dL_areOrders_117 ?_
  refine za_topi (fun x1 ex1 => ?_)
  replace hf := hf x1 ex1
  refine za_istore o [(9, .int x1), (0, .ref (G.2.2 + v1)), (2, .int v2), (3, .int v3), (4, .int v4), (5, .int v5), (6, .int v6), (7, .int v7), (8, .int v8), (10, .int v9)] dL_areOrders_118 (by decide) rfl ?_
  obtain ⟨x2, ex2⟩ : ∃ y : Int32, y = v9 + (1 : Int32) := ⟨_, rfl⟩
  replace hf := hf x2 ex2
  refine za_iinc o x2 9 [(10, .int x2), (9, .int x1), (0, .ref (G.2.2 + v1)), (2, .int v2), (3, .int v3), (4, .int v4), (5, .int v5), (6, .int v6), (7, .int v7), (8, .int v8)] dL_areOrders_120 rfl (by rw [ex2]; rfl) (by decide) rfl ?_
  refine za_goto o 43 dL_areOrders_123 (by decide) ?_
  refine za_sub [2, 3, 4, 5, 6, 7, 8, 9, 1, 0] rfl ?_
  exact hk43 v1 v2 v3 v4 v5 v6 v7 v8 x1 x2 μ hv1 hf
set_option maxRecDepth 100000 in
set_option maxHeartbeats 4000000 in
theorem tL_areOrders_116 {p : Program} {l : Launch} {e : Env} {s : State} {m : MethodId} {args : Array Value} {below : List Frame} {meth : Method} {c : Code} {G : zG} {k15 : Nat → Int32 → Int32 → Int32 → Int32 → Int32 → Int32 → zMem → Prop} {k43 : Nat → Int32 → Int32 → Int32 → Int32 → Int32 → Int32 → Int32 → Int32 → Int32 → zMem → Prop} {K : Int32 → zMem → Prop} (o : za_Ok (z_rm 7 151) 0 0 p s m args meth c G RL cL_areOrders 13 (some .boolean)) (hk15 : ∀ (v1 : Nat) (v2 : Int32) (v3 : Int32) (v4 : Int32) (v5 : Int32) (v6 : Int32) (v7 : Int32) (μ : zMem), z_is v1 7 → k15 v1 v2 v3 v4 v5 v6 v7 μ → za_At p l e (z_rm 7 151) s m args below meth c (MQ below (zQi G K) args s 0 0 (zA G)) G 13 0 0 15 [(0, .ref (G.2.2 + v1)), (1, .int v2), (2, .int v3), (3, .int v4), (4, .int v5), (5, .int v6), (6, .int v7)] [] μ) (hk43 : ∀ (v1 : Nat) (v2 : Int32) (v3 : Int32) (v4 : Int32) (v5 : Int32) (v6 : Int32) (v7 : Int32) (v8 : Int32) (v9 : Int32) (v10 : Int32) (μ : zMem), z_is v1 7 → k43 v1 v2 v3 v4 v5 v6 v7 v8 v9 v10 μ → za_At p l e (z_rm 7 151) s m args below meth c (MQ below (zQi G K) args s 0 0 (zA G)) G 13 0 0 43 [(0, .ref (G.2.2 + v1)), (2, .int v2), (3, .int v3), (4, .int v4), (5, .int v5), (6, .int v6), (7, .int v7), (8, .int v8), (9, .int v9), (10, .int v10)] [] μ) (v1 : Nat) (v2 : Int32) (v3 : Int32) (v4 : Int32) (v5 : Int32) (v6 : Int32) (v7 : Int32) (v8 : Int32) (v9 : Int32) (v10 : Int32) (μ : zMem) (hv1 : z_is v1 7) (hf : fL_areOrders_116 k15 k43 K v1 v2 v3 v4 v5 v6 v7 v8 v9 v10 μ) : za_At p l e (z_rm 7 151) s m args below meth c (MQ below (zQi G K) args s 0 0 (zA G)) G 13 0 0 116 [(0, .ref (G.2.2 + v1)), (2, .int v2), (3, .int v3), (4, .int v4), (5, .int v5), (6, .int v6), (7, .int v7), (8, .int v8), (10, .int v9)] [.int v10] μ := by
  unfold fL_areOrders_116 at hf
  refine za_iconst (v := (0 : Int32)) o dL_areOrders_116 (by decide) ?_
  exact tL_areOrders_117 o  hk15 hk43 v1 v2 v3 v4 v5 v6 v7 v8 v9 (0 : Int32) v10 μ hv1 hf
set_option maxRecDepth 100000 in
set_option maxHeartbeats 4000000 in
theorem tL_areOrders_91 {p : Program} {l : Launch} {e : Env} {s : State} {m : MethodId} {args : Array Value} {below : List Frame} {meth : Method} {c : Code} {G : zG} {k15 : Nat → Int32 → Int32 → Int32 → Int32 → Int32 → Int32 → zMem → Prop} {k43 : Nat → Int32 → Int32 → Int32 → Int32 → Int32 → Int32 → Int32 → Int32 → Int32 → zMem → Prop} {K : Int32 → zMem → Prop} (o : za_Ok (z_rm 7 151) 0 0 p s m args meth c G RL cL_areOrders 13 (some .boolean)) (hk15 : ∀ (v1 : Nat) (v2 : Int32) (v3 : Int32) (v4 : Int32) (v5 : Int32) (v6 : Int32) (v7 : Int32) (μ : zMem), z_is v1 7 → k15 v1 v2 v3 v4 v5 v6 v7 μ → za_At p l e (z_rm 7 151) s m args below meth c (MQ below (zQi G K) args s 0 0 (zA G)) G 13 0 0 15 [(0, .ref (G.2.2 + v1)), (1, .int v2), (2, .int v3), (3, .int v4), (4, .int v5), (5, .int v6), (6, .int v7)] [] μ) (hk43 : ∀ (v1 : Nat) (v2 : Int32) (v3 : Int32) (v4 : Int32) (v5 : Int32) (v6 : Int32) (v7 : Int32) (v8 : Int32) (v9 : Int32) (v10 : Int32) (μ : zMem), z_is v1 7 → k43 v1 v2 v3 v4 v5 v6 v7 v8 v9 v10 μ → za_At p l e (z_rm 7 151) s m args below meth c (MQ below (zQi G K) args s 0 0 (zA G)) G 13 0 0 43 [(0, .ref (G.2.2 + v1)), (2, .int v2), (3, .int v3), (4, .int v4), (5, .int v5), (6, .int v6), (7, .int v7), (8, .int v8), (9, .int v9), (10, .int v10)] [] μ) (v1 : Nat) (v2 : Int32) (v3 : Int32) (v4 : Int32) (v5 : Int32) (v6 : Int32) (v7 : Int32) (v8 : Int32) (v9 : Int32) (v10 : Int32) (v11 : Int32) (v12 : Int32) (μ : zMem) (hv1 : z_is v1 7) (hf : fL_areOrders_91 k15 k43 K v1 v2 v3 v4 v5 v6 v7 v8 v9 v10 v11 v12 μ) : za_At p l e (z_rm 7 151) s m args below meth c (MQ below (zQi G K) args s 0 0 (zA G)) G 13 0 0 91 [(0, .ref (G.2.2 + v1)), (2, .int v2), (3, .int v3), (4, .int v4), (5, .int v5), (6, .int v6), (7, .int v7), (9, .int v8), (10, .int v9), (11, .int v10)] [.int v11, .int v12] μ := by
  unfold fL_areOrders_91 at hf
  refine za_iadd o dL_areOrders_91 ?_
  refine za_topi (fun x3 ex3 => ?_)
  replace hf := hf x3 ex3
  refine za_istore o [(8, .int x3), (0, .ref (G.2.2 + v1)), (2, .int v2), (3, .int v3), (4, .int v4), (5, .int v5), (6, .int v6), (7, .int v7), (9, .int v8), (10, .int v9), (11, .int v10)] dL_areOrders_92 (by decide) rfl ?_
  refine za_iload o 8 dL_areOrders_94 rfl ?_
  refine za_iload o 10 dL_areOrders_96 rfl ?_
  refine za_if_eq o 116 dL_areOrders_98 (by decide) (fun c4 => ?_) (fun c4 => ?_)
  · replace hf := hf.1 c4
    refine za_sub [1, 2, 3, 4, 5, 6, 7, 0, 9] rfl ?_
    exact tL_areOrders_116 o  hk15 hk43 v1 v2 v3 v4 v5 v6 v7 x3 v9 v8 μ hv1 hf
  · replace hf := hf.2 c4
    refine za_aload_n o 1 dL_areOrders_101 rfl rfl ?_
    refine za_iload o 9 dL_areOrders_102 rfl ?_
    refine za_bipush (v := (7 : Int32)) o dL_areOrders_104 (by decide) ?_
    refine za_callVi o [.int v9, .int (7 : Int32)] (ctX7_of l G hv1 v9 (7 : Int32)  μ _ hf) zc7 hv1 mwX7_of wmL_9 wiX7_of wsX7_of rfl ⟨Nat.le_of_ble_eq_true rfl, Nat.le_of_ble_eq_true rfl⟩ rfl (Nat.le_of_ble_eq_true rfl) dL_areOrders_106 (fun r5 m6 hf => ?_)
    refine za_if_ne o 116 dL_areOrders_109 (by decide) (fun c7 => ?_) (fun c7 => ?_)
    · replace hf := hf.1 c7
      refine za_sub [1, 2, 3, 4, 5, 6, 7, 0, 9] rfl ?_
      exact tL_areOrders_116 o  hk15 hk43 v1 v2 v3 v4 v5 v6 v7 x3 v9 v8 m6 hv1 hf
    · replace hf := hf.2 c7
      refine za_iconst (v := (1 : Int32)) o dL_areOrders_112 (by decide) ?_
      refine za_goto o 117 dL_areOrders_113 (by decide) ?_
      refine za_sub [1, 2, 3, 4, 5, 6, 7, 0, 9] rfl ?_
      exact tL_areOrders_117 o  hk15 hk43 v1 v2 v3 v4 v5 v6 v7 x3 v9 (1 : Int32) v8 m6 hv1 hf
set_option maxRecDepth 100000 in
set_option maxHeartbeats 4000000 in
theorem tL_areOrders_69 {p : Program} {l : Launch} {e : Env} {s : State} {m : MethodId} {args : Array Value} {below : List Frame} {meth : Method} {c : Code} {G : zG} {k15 : Nat → Int32 → Int32 → Int32 → Int32 → Int32 → Int32 → zMem → Prop} {k43 : Nat → Int32 → Int32 → Int32 → Int32 → Int32 → Int32 → Int32 → Int32 → Int32 → zMem → Prop} {K : Int32 → zMem → Prop} (o : za_Ok (z_rm 7 151) 0 0 p s m args meth c G RL cL_areOrders 13 (some .boolean)) (hk15 : ∀ (v1 : Nat) (v2 : Int32) (v3 : Int32) (v4 : Int32) (v5 : Int32) (v6 : Int32) (v7 : Int32) (μ : zMem), z_is v1 7 → k15 v1 v2 v3 v4 v5 v6 v7 μ → za_At p l e (z_rm 7 151) s m args below meth c (MQ below (zQi G K) args s 0 0 (zA G)) G 13 0 0 15 [(0, .ref (G.2.2 + v1)), (1, .int v2), (2, .int v3), (3, .int v4), (4, .int v5), (5, .int v6), (6, .int v7)] [] μ) (hk43 : ∀ (v1 : Nat) (v2 : Int32) (v3 : Int32) (v4 : Int32) (v5 : Int32) (v6 : Int32) (v7 : Int32) (v8 : Int32) (v9 : Int32) (v10 : Int32) (μ : zMem), z_is v1 7 → k43 v1 v2 v3 v4 v5 v6 v7 v8 v9 v10 μ → za_At p l e (z_rm 7 151) s m args below meth c (MQ below (zQi G K) args s 0 0 (zA G)) G 13 0 0 43 [(0, .ref (G.2.2 + v1)), (2, .int v2), (3, .int v3), (4, .int v4), (5, .int v5), (6, .int v6), (7, .int v7), (8, .int v8), (9, .int v9), (10, .int v10)] [] μ) (v1 : Nat) (v2 : Int32) (v3 : Int32) (v4 : Int32) (v5 : Int32) (v6 : Int32) (v7 : Int32) (v8 : Int32) (v9 : Int32) (v10 : Int32) (v11 : Int32) (μ : zMem) (hv1 : z_is v1 7) (hf : fL_areOrders_69 k15 k43 K v1 v2 v3 v4 v5 v6 v7 v8 v9 v10 v11 μ) : za_At p l e (z_rm 7 151) s m args below meth c (MQ below (zQi G K) args s 0 0 (zA G)) G 13 0 0 69 [(0, .ref (G.2.2 + v1)), (2, .int v2), (3, .int v3), (4, .int v4), (5, .int v5), (6, .int v6), (7, .int v7), (8, .int v8), (9, .int v9), (10, .int v10)] [.int v11] μ := by
  unfold fL_areOrders_69 at hf
  refine za_istore o [(11, .int v11), (0, .ref (G.2.2 + v1)), (2, .int v2), (3, .int v3), (4, .int v4), (5, .int v5), (6, .int v6), (7, .int v7), (8, .int v8), (9, .int v9), (10, .int v10)] dL_areOrders_69 (by decide) rfl ?_
  refine za_iload o 8 dL_areOrders_71 rfl ?_
  refine za_iload o 0 dL_areOrders_73 rfl ?_
  refine za_if_eq o 90 dL_areOrders_75 (by decide) (fun c8 => ?_) (fun c8 => ?_)
  · replace hf := hf.1 c8
    refine za_iconst (v := (0 : Int32)) o dL_areOrders_90 (by decide) ?_
    refine za_sub [1, 2, 3, 4, 5, 6, 7, 9, 10, 0] rfl ?_
    exact tL_areOrders_91 o  hk15 hk43 v1 v2 v3 v4 v5 v6 v7 v9 v10 v11 (0 : Int32) v8 μ hv1 hf
  · replace hf := hf.2 c8
    refine za_bipush (v := (100 : Int32)) o dL_areOrders_78 (by decide) ?_
    refine za_aload_n o 1 dL_areOrders_80 rfl rfl ?_
    refine za_iload o 10 dL_areOrders_81 rfl ?_
    refine za_callSi o [.ref (G.2.2 + v1), .int v10] (ctL_doubt l G v1 v10 hv1 μ _ hf) mwL_doubt wmL_22 wtL_doubt rfl ⟨Nat.le_of_ble_eq_true rfl, Nat.le_of_ble_eq_true rfl⟩ rfl (Nat.le_of_ble_eq_true rfl) dL_areOrders_83 (fun r9 m10 hf => ?_)
    refine za_isub o dL_areOrders_86 ?_
    refine za_topi (fun x11 ex11 => ?_)
    replace hf := hf x11 ex11
    refine za_goto o 91 dL_areOrders_87 (by decide) ?_
    refine za_sub [1, 2, 3, 4, 5, 6, 7, 9, 10, 0] rfl ?_
    exact tL_areOrders_91 o  hk15 hk43 v1 v2 v3 v4 v5 v6 v7 v9 v10 v11 x11 v8 m10 hv1 hf
set_option maxRecDepth 100000 in
set_option maxHeartbeats 4000000 in
theorem tL_areOrders_340 {p : Program} {l : Launch} {e : Env} {s : State} {m : MethodId} {args : Array Value} {below : List Frame} {meth : Method} {c : Code} {G : zG} {k15 : Nat → Int32 → Int32 → Int32 → Int32 → Int32 → Int32 → zMem → Prop} {K : Int32 → zMem → Prop} (o : za_Ok (z_rm 7 151) 0 0 p s m args meth c G RL cL_areOrders 13 (some .boolean)) (hk15 : ∀ (v1 : Nat) (v2 : Int32) (v3 : Int32) (v4 : Int32) (v5 : Int32) (v6 : Int32) (v7 : Int32) (μ : zMem), z_is v1 7 → k15 v1 v2 v3 v4 v5 v6 v7 μ → za_At p l e (z_rm 7 151) s m args below meth c (MQ below (zQi G K) args s 0 0 (zA G)) G 13 0 0 15 [(0, .ref (G.2.2 + v1)), (1, .int v2), (2, .int v3), (3, .int v4), (4, .int v5), (5, .int v6), (6, .int v7)] [] μ) (v1 : Nat) (v2 : Int32) (v3 : Int32) (v4 : Int32) (v5 : Int32) (v6 : Int32) (v7 : Int32) (μ : zMem) (hv1 : z_is v1 7) (hf : fL_areOrders_340 k15 K v1 v2 v3 v4 v5 v6 v7 μ) : za_At p l e (z_rm 7 151) s m args below meth c (MQ below (zQi G K) args s 0 0 (zA G)) G 13 0 0 340 [(0, .ref (G.2.2 + v1)), (2, .int v2), (3, .int v3), (4, .int v4), (5, .int v5), (6, .int v6)] [.int v7] μ := by
  unfold fL_areOrders_340 at hf
  refine za_istore_n o [(1, .int v7), (0, .ref (G.2.2 + v1)), (2, .int v2), (3, .int v3), (4, .int v4), (5, .int v5), (6, .int v6)] dL_areOrders_340 rfl (by decide) rfl ?_
  obtain ⟨x12, ex12⟩ : ∃ y : Int32, y = v6 + (1 : Int32) := ⟨_, rfl⟩
  replace hf := hf x12 ex12
  refine za_iinc o x12 6 [(6, .int x12), (1, .int v7), (0, .ref (G.2.2 + v1)), (2, .int v2), (3, .int v3), (4, .int v4), (5, .int v5)] dL_areOrders_341 rfl (by rw [ex12]; rfl) (by decide) rfl ?_
  refine za_goto o 15 dL_areOrders_344 (by decide) ?_
  refine za_sub [2, 1, 3, 4, 5, 6, 0] rfl ?_
  exact hk15 v1 v7 v2 v3 v4 v5 x12 μ hv1 hf
set_option maxRecDepth 100000 in
set_option maxHeartbeats 4000000 in
theorem tL_areOrders_335 {p : Program} {l : Launch} {e : Env} {s : State} {m : MethodId} {args : Array Value} {below : List Frame} {meth : Method} {c : Code} {G : zG} {k15 : Nat → Int32 → Int32 → Int32 → Int32 → Int32 → Int32 → zMem → Prop} {K : Int32 → zMem → Prop} (o : za_Ok (z_rm 7 151) 0 0 p s m args meth c G RL cL_areOrders 13 (some .boolean)) (hk15 : ∀ (v1 : Nat) (v2 : Int32) (v3 : Int32) (v4 : Int32) (v5 : Int32) (v6 : Int32) (v7 : Int32) (μ : zMem), z_is v1 7 → k15 v1 v2 v3 v4 v5 v6 v7 μ → za_At p l e (z_rm 7 151) s m args below meth c (MQ below (zQi G K) args s 0 0 (zA G)) G 13 0 0 15 [(0, .ref (G.2.2 + v1)), (1, .int v2), (2, .int v3), (3, .int v4), (4, .int v5), (5, .int v6), (6, .int v7)] [] μ) (v1 : Nat) (v2 : Int32) (v3 : Int32) (v4 : Int32) (v5 : Int32) (v6 : Int32) (μ : zMem) (hv1 : z_is v1 7) (hf : fL_areOrders_335 k15 K v1 v2 v3 v4 v5 v6 μ) : za_At p l e (z_rm 7 151) s m args below meth c (MQ below (zQi G K) args s 0 0 (zA G)) G 13 0 0 335 [(0, .ref (G.2.2 + v1)), (2, .int v2), (3, .int v3), (4, .int v4), (5, .int v5), (6, .int v6)] [] μ := by
  unfold fL_areOrders_335 at hf
  refine za_iconst (v := (1 : Int32)) o dL_areOrders_335 (by decide) ?_
  refine za_goto o 340 dL_areOrders_336 (by decide) ?_
  exact tL_areOrders_340 o  hk15 v1 v2 v3 v4 v5 v6 (1 : Int32) μ hv1 hf
set_option maxRecDepth 100000 in
set_option maxHeartbeats 4000000 in
theorem tL_areOrders_339 {p : Program} {l : Launch} {e : Env} {s : State} {m : MethodId} {args : Array Value} {below : List Frame} {meth : Method} {c : Code} {G : zG} {k15 : Nat → Int32 → Int32 → Int32 → Int32 → Int32 → Int32 → zMem → Prop} {K : Int32 → zMem → Prop} (o : za_Ok (z_rm 7 151) 0 0 p s m args meth c G RL cL_areOrders 13 (some .boolean)) (hk15 : ∀ (v1 : Nat) (v2 : Int32) (v3 : Int32) (v4 : Int32) (v5 : Int32) (v6 : Int32) (v7 : Int32) (μ : zMem), z_is v1 7 → k15 v1 v2 v3 v4 v5 v6 v7 μ → za_At p l e (z_rm 7 151) s m args below meth c (MQ below (zQi G K) args s 0 0 (zA G)) G 13 0 0 15 [(0, .ref (G.2.2 + v1)), (1, .int v2), (2, .int v3), (3, .int v4), (4, .int v5), (5, .int v6), (6, .int v7)] [] μ) (v1 : Nat) (v2 : Int32) (v3 : Int32) (v4 : Int32) (v5 : Int32) (v6 : Int32) (μ : zMem) (hv1 : z_is v1 7) (hf : fL_areOrders_339 k15 K v1 v2 v3 v4 v5 v6 μ) : za_At p l e (z_rm 7 151) s m args below meth c (MQ below (zQi G K) args s 0 0 (zA G)) G 13 0 0 339 [(0, .ref (G.2.2 + v1)), (2, .int v2), (3, .int v3), (4, .int v4), (5, .int v5), (6, .int v6)] [] μ := by
  unfold fL_areOrders_339 at hf
  refine za_iconst (v := (0 : Int32)) o dL_areOrders_339 (by decide) ?_
  exact tL_areOrders_340 o  hk15 v1 v2 v3 v4 v5 v6 (0 : Int32) μ hv1 hf
set_option maxRecDepth 100000 in
set_option maxHeartbeats 4000000 in
theorem tL_areOrders_258 {p : Program} {l : Launch} {e : Env} {s : State} {m : MethodId} {args : Array Value} {below : List Frame} {meth : Method} {c : Code} {G : zG} {k15 : Nat → Int32 → Int32 → Int32 → Int32 → Int32 → Int32 → zMem → Prop} {K : Int32 → zMem → Prop} (o : za_Ok (z_rm 7 151) 0 0 p s m args meth c G RL cL_areOrders 13 (some .boolean)) (hk15 : ∀ (v1 : Nat) (v2 : Int32) (v3 : Int32) (v4 : Int32) (v5 : Int32) (v6 : Int32) (v7 : Int32) (μ : zMem), z_is v1 7 → k15 v1 v2 v3 v4 v5 v6 v7 μ → za_At p l e (z_rm 7 151) s m args below meth c (MQ below (zQi G K) args s 0 0 (zA G)) G 13 0 0 15 [(0, .ref (G.2.2 + v1)), (1, .int v2), (2, .int v3), (3, .int v4), (4, .int v5), (5, .int v6), (6, .int v7)] [] μ) (v1 : Nat) (v2 : Int32) (v3 : Int32) (v4 : Int32) (v5 : Int32) (v6 : Int32) (v7 : Int32) (v8 : Int32) (v9 : Int32) (v10 : Int32) (μ : zMem) (hv1 : z_is v1 7) (hf : fL_areOrders_258 k15 K v1 v2 v3 v4 v5 v6 v7 v8 v9 v10 μ) : za_At p l e (z_rm 7 151) s m args below meth c (MQ below (zQi G K) args s 0 0 (zA G)) G 13 0 0 258 [(0, .ref (G.2.2 + v1)), (2, .int v2), (3, .int v3), (4, .int v4), (5, .int v5), (6, .int v6), (9, .int v7), (11, .int v8)] [.int v9, .int v10] μ := by
  unfold fL_areOrders_258 at hf
  refine za_icmp_ne o 339 dL_areOrders_258 (by decide) (fun c13 => ?_) (fun c13 => ?_)
  · replace hf := hf.1 c13
    refine za_sub [0, 1, 2, 3, 4, 5] rfl ?_
    exact tL_areOrders_339 o  hk15 v1 v2 v3 v4 v5 v6 μ hv1 hf
  · replace hf := hf.2 c13
    refine za_aload_n o 0 dL_areOrders_261 rfl rfl ?_
    refine za_iload o 5 dL_areOrders_262 rfl ?_
    refine za_iconst (v := (2 : Int32)) o dL_areOrders_264 (by decide) ?_
    refine za_callVi o [.int v6, .int (2 : Int32)] (ctX7_ofDish l G hv1 v6 (2 : Int32)  μ _ hf) zc7 hv1 mwX7_ofDish wmL_28 wiX7_ofDish wsX7_ofDish rfl ⟨Nat.le_of_ble_eq_true rfl, Nat.le_of_ble_eq_true rfl⟩ rfl (Nat.le_of_ble_eq_true rfl) dL_areOrders_265 (fun r14 m15 hf => ?_)
    refine za_iload o 6 dL_areOrders_268 rfl ?_
    refine za_icmp_ne o 339 dL_areOrders_270 (by decide) (fun c16 => ?_) (fun c16 => ?_)
    · replace hf := hf.1 c16
      refine za_sub [0, 1, 2, 3, 4, 5] rfl ?_
      exact tL_areOrders_339 o  hk15 v1 v2 v3 v4 v5 v6 m15 hv1 hf
    · replace hf := hf.2 c16
      refine za_aload_n o 0 dL_areOrders_273 rfl rfl ?_
      refine za_iload o 5 dL_areOrders_274 rfl ?_
      refine za_iconst (v := (3 : Int32)) o dL_areOrders_276 (by decide) ?_
      refine za_callVi o [.int v6, .int (3 : Int32)] (ctX7_ofDish l G hv1 v6 (3 : Int32)  m15 _ hf) zc7 hv1 mwX7_ofDish wmL_28 wiX7_ofDish wsX7_ofDish rfl ⟨Nat.le_of_ble_eq_true rfl, Nat.le_of_ble_eq_true rfl⟩ rfl (Nat.le_of_ble_eq_true rfl) dL_areOrders_277 (fun r17 m18 hf => ?_)
      refine za_aload_n o 0 dL_areOrders_280 rfl rfl ?_
      refine za_iload o 5 dL_areOrders_281 rfl ?_
      refine za_iconst (v := (4 : Int32)) o dL_areOrders_283 (by decide) ?_
      refine za_callVi o [.int v6, .int (4 : Int32)] (ctX7_ofDish l G hv1 v6 (4 : Int32)  m18 _ hf) zc7 hv1 mwX7_ofDish wmL_28 wiX7_ofDish wsX7_ofDish rfl ⟨Nat.le_of_ble_eq_true rfl, Nat.le_of_ble_eq_true rfl⟩ rfl (Nat.le_of_ble_eq_true rfl) dL_areOrders_284 (fun r19 m20 hf => ?_)
      refine za_aload_n o 0 dL_areOrders_287 rfl rfl ?_
      refine za_iload o 5 dL_areOrders_288 rfl ?_
      refine za_iconst (v := (5 : Int32)) o dL_areOrders_290 (by decide) ?_
      refine za_callVi o [.int v6, .int (5 : Int32)] (ctX7_ofDish l G hv1 v6 (5 : Int32)  m20 _ hf) zc7 hv1 mwX7_ofDish wmL_28 wiX7_ofDish wsX7_ofDish rfl ⟨Nat.le_of_ble_eq_true rfl, Nat.le_of_ble_eq_true rfl⟩ rfl (Nat.le_of_ble_eq_true rfl) dL_areOrders_291 (fun r21 m22 hf => ?_)
      refine za_iadd o dL_areOrders_294 ?_
      refine za_topi (fun x23 ex23 => ?_)
      replace hf := hf x23 ex23
      refine za_iload o 7 dL_areOrders_295 rfl ?_
      refine za_iadd o dL_areOrders_297 ?_
      refine za_topi (fun x24 ex24 => ?_)
      replace hf := hf x24 ex24
      refine za_aload_n o 0 dL_areOrders_298 rfl rfl ?_
      refine za_iload o 5 dL_areOrders_299 rfl ?_
      refine za_iconst (v := (1 : Int32)) o dL_areOrders_301 (by decide) ?_
      refine za_callVi o [.int v6, .int (1 : Int32)] (ctX7_ofDish l G hv1 v6 (1 : Int32)  m22 _ hf) zc7 hv1 mwX7_ofDish wmL_28 wiX7_ofDish wsX7_ofDish rfl ⟨Nat.le_of_ble_eq_true rfl, Nat.le_of_ble_eq_true rfl⟩ rfl (Nat.le_of_ble_eq_true rfl) dL_areOrders_302 (fun r25 m26 hf => ?_)
      refine za_iadd o dL_areOrders_305 ?_
      refine za_topi (fun x27 ex27 => ?_)
      replace hf := hf x27 ex27
      refine za_icmp_ne o 339 dL_areOrders_306 (by decide) (fun c28 => ?_) (fun c28 => ?_)
      · replace hf := hf.1 c28
        refine za_sub [0, 1, 2, 3, 4, 5] rfl ?_
        exact tL_areOrders_339 o  hk15 v1 v2 v3 v4 v5 v6 m26 hv1 hf
      · replace hf := hf.2 c28
        refine za_aload_n o 0 dL_areOrders_309 rfl rfl ?_
        refine za_iconst (v := (2 : Int32)) o dL_areOrders_310 (by decide) ?_
        refine za_callVi o [.int (2 : Int32)] (ctX7_count l G hv1 (2 : Int32)  m26 _ hf) zc7 hv1 mwX7_count wmL_18 wiX7_count wsX7_count rfl ⟨Nat.le_of_ble_eq_true rfl, Nat.le_of_ble_eq_true rfl⟩ rfl (Nat.le_of_ble_eq_true rfl) dL_areOrders_311 (fun r29 m30 hf => ?_)
        refine za_iconst (v := (1 : Int32)) o dL_areOrders_314 (by decide) ?_
        refine za_icmp_eq o 335 dL_areOrders_315 (by decide) (fun c31 => ?_) (fun c31 => ?_)
        · replace hf := hf.1 c31
          refine za_sub [0, 1, 2, 3, 4, 5] rfl ?_
          exact tL_areOrders_335 o  hk15 v1 v2 v3 v4 v5 v6 m30 hv1 hf
        · replace hf := hf.2 c31
          refine za_aload_n o 0 dL_areOrders_318 rfl rfl ?_
          refine za_iload o 5 dL_areOrders_319 rfl ?_
          refine za_iconst (v := (1 : Int32)) o dL_areOrders_321 (by decide) ?_
          refine za_callVi o [.int v6, .int (1 : Int32)] (ctX7_ofDish l G hv1 v6 (1 : Int32)  m30 _ hf) zc7 hv1 mwX7_ofDish wmL_28 wiX7_ofDish wsX7_ofDish rfl ⟨Nat.le_of_ble_eq_true rfl, Nat.le_of_ble_eq_true rfl⟩ rfl (Nat.le_of_ble_eq_true rfl) dL_areOrders_322 (fun r32 m33 hf => ?_)
          refine za_if_ne o 339 dL_areOrders_325 (by decide) (fun c34 => ?_) (fun c34 => ?_)
          · replace hf := hf.1 c34
            refine za_sub [0, 1, 2, 3, 4, 5] rfl ?_
            exact tL_areOrders_339 o  hk15 v1 v2 v3 v4 v5 v6 m33 hv1 hf
          · replace hf := hf.2 c34
            refine za_iload o 7 dL_areOrders_328 rfl ?_
            refine za_bipush (v := (20 : Int32)) o dL_areOrders_330 (by decide) ?_
            refine za_icmp_gt o 339 dL_areOrders_332 (by decide) (fun c35 => ?_) (fun c35 => ?_)
            · replace hf := hf.1 c35
              refine za_sub [0, 1, 2, 3, 4, 5] rfl ?_
              exact tL_areOrders_339 o  hk15 v1 v2 v3 v4 v5 v6 m33 hv1 hf
            · replace hf := hf.2 c35
              refine za_sub [0, 1, 2, 3, 4, 5] rfl ?_
              exact tL_areOrders_335 o  hk15 v1 v2 v3 v4 v5 v6 m33 hv1 hf
set_option maxRecDepth 100000 in
set_option maxHeartbeats 4000000 in
theorem tL_areOrders_186 {p : Program} {l : Launch} {e : Env} {s : State} {m : MethodId} {args : Array Value} {below : List Frame} {meth : Method} {c : Code} {G : zG} {k15 : Nat → Int32 → Int32 → Int32 → Int32 → Int32 → Int32 → zMem → Prop} {K : Int32 → zMem → Prop} (o : za_Ok (z_rm 7 151) 0 0 p s m args meth c G RL cL_areOrders 13 (some .boolean)) (hk15 : ∀ (v1 : Nat) (v2 : Int32) (v3 : Int32) (v4 : Int32) (v5 : Int32) (v6 : Int32) (v7 : Int32) (μ : zMem), z_is v1 7 → k15 v1 v2 v3 v4 v5 v6 v7 μ → za_At p l e (z_rm 7 151) s m args below meth c (MQ below (zQi G K) args s 0 0 (zA G)) G 13 0 0 15 [(0, .ref (G.2.2 + v1)), (1, .int v2), (2, .int v3), (3, .int v4), (4, .int v5), (5, .int v6), (6, .int v7)] [] μ) (v1 : Nat) (v2 : Int32) (v3 : Int32) (v4 : Int32) (v5 : Int32) (v6 : Int32) (v7 : Int32) (v8 : Int32) (v9 : Int32) (μ : zMem) (hv1 : z_is v1 7) (hf : fL_areOrders_186 k15 K v1 v2 v3 v4 v5 v6 v7 v8 v9 μ) : za_At p l e (z_rm 7 151) s m args below meth c (MQ below (zQi G K) args s 0 0 (zA G)) G 13 0 0 186 [(0, .ref (G.2.2 + v1)), (2, .int v2), (3, .int v3), (4, .int v4), (5, .int v5), (6, .int v6), (9, .int v7), (11, .int v8)] [.int v9] μ := by
  unfold fL_areOrders_186 at hf
  refine za_istore o [(12, .int v9), (0, .ref (G.2.2 + v1)), (2, .int v2), (3, .int v3), (4, .int v4), (5, .int v5), (6, .int v6), (9, .int v7), (11, .int v8)] dL_areOrders_186 (by decide) rfl ?_
  refine za_iload_n o 2 dL_areOrders_188 rfl rfl ?_
  refine za_aload_n o 1 dL_areOrders_189 rfl rfl ?_
  refine za_iload o 6 dL_areOrders_190 rfl ?_
  refine za_iconst (v := (3 : Int32)) o dL_areOrders_192 (by decide) ?_
  refine za_callVi o [.int v6, .int (3 : Int32)] (ctX7_ofDish l G hv1 v6 (3 : Int32)  μ _ hf) zc7 hv1 mwX7_ofDish wmL_28 wiX7_ofDish wsX7_ofDish rfl ⟨Nat.le_of_ble_eq_true rfl, Nat.le_of_ble_eq_true rfl⟩ rfl (Nat.le_of_ble_eq_true rfl) dL_areOrders_193 (fun r36 m37 hf => ?_)
  refine za_iadd o dL_areOrders_196 ?_
  refine za_topi (fun x38 ex38 => ?_)
  replace hf := hf x38 ex38
  refine za_istore_n o [(2, .int x38), (12, .int v9), (0, .ref (G.2.2 + v1)), (3, .int v3), (4, .int v4), (5, .int v5), (6, .int v6), (9, .int v7), (11, .int v8)] dL_areOrders_197 rfl (by decide) rfl ?_
  refine za_iload_n o 3 dL_areOrders_198 rfl rfl ?_
  refine za_aload_n o 2 dL_areOrders_199 rfl rfl ?_
  refine za_iload o 6 dL_areOrders_200 rfl ?_
  refine za_iconst (v := (4 : Int32)) o dL_areOrders_202 (by decide) ?_
  refine za_callVi o [.int v6, .int (4 : Int32)] (ctX7_ofDish l G hv1 v6 (4 : Int32)  m37 _ hf) zc7 hv1 mwX7_ofDish wmL_28 wiX7_ofDish wsX7_ofDish rfl ⟨Nat.le_of_ble_eq_true rfl, Nat.le_of_ble_eq_true rfl⟩ rfl (Nat.le_of_ble_eq_true rfl) dL_areOrders_203 (fun r39 m40 hf => ?_)
  refine za_iadd o dL_areOrders_206 ?_
  refine za_topi (fun x41 ex41 => ?_)
  replace hf := hf x41 ex41
  refine za_istore_n o [(3, .int x41), (2, .int x38), (12, .int v9), (0, .ref (G.2.2 + v1)), (4, .int v4), (5, .int v5), (6, .int v6), (9, .int v7), (11, .int v8)] dL_areOrders_207 rfl (by decide) rfl ?_
  refine za_iload o 4 dL_areOrders_208 rfl ?_
  refine za_aload_n o 3 dL_areOrders_210 rfl rfl ?_
  refine za_iload o 6 dL_areOrders_211 rfl ?_
  refine za_iconst (v := (5 : Int32)) o dL_areOrders_213 (by decide) ?_
  refine za_callVi o [.int v6, .int (5 : Int32)] (ctX7_ofDish l G hv1 v6 (5 : Int32)  m40 _ hf) zc7 hv1 mwX7_ofDish wmL_28 wiX7_ofDish wsX7_ofDish rfl ⟨Nat.le_of_ble_eq_true rfl, Nat.le_of_ble_eq_true rfl⟩ rfl (Nat.le_of_ble_eq_true rfl) dL_areOrders_214 (fun r42 m43 hf => ?_)
  refine za_iadd o dL_areOrders_217 ?_
  refine za_topi (fun x44 ex44 => ?_)
  replace hf := hf x44 ex44
  refine za_istore o [(4, .int x44), (3, .int x41), (2, .int x38), (12, .int v9), (0, .ref (G.2.2 + v1)), (5, .int v5), (6, .int v6), (9, .int v7), (11, .int v8)] dL_areOrders_218 (by decide) rfl ?_
  refine za_iload o 5 dL_areOrders_220 rfl ?_
  refine za_iload o 8 dL_areOrders_222 rfl ?_
  refine za_aload_n o 4 dL_areOrders_224 rfl rfl ?_
  refine za_iload o 6 dL_areOrders_225 rfl ?_
  refine za_iconst (v := (1 : Int32)) o dL_areOrders_227 (by decide) ?_
  refine za_callVi o [.int v6, .int (1 : Int32)] (ctX7_ofDish l G hv1 v6 (1 : Int32)  m43 _ hf) zc7 hv1 mwX7_ofDish wmL_28 wiX7_ofDish wsX7_ofDish rfl ⟨Nat.le_of_ble_eq_true rfl, Nat.le_of_ble_eq_true rfl⟩ rfl (Nat.le_of_ble_eq_true rfl) dL_areOrders_228 (fun r45 m46 hf => ?_)
  refine za_iadd o dL_areOrders_231 ?_
  refine za_topi (fun x47 ex47 => ?_)
  replace hf := hf x47 ex47
  refine za_iadd o dL_areOrders_232 ?_
  refine za_topi (fun x48 ex48 => ?_)
  replace hf := hf x48 ex48
  refine za_istore o [(5, .int x48), (4, .int x44), (3, .int x41), (2, .int x38), (12, .int v9), (0, .ref (G.2.2 + v1)), (6, .int v6), (9, .int v7), (11, .int v8)] dL_areOrders_233 (by decide) rfl ?_
  refine za_aload_n o 5 dL_areOrders_235 rfl rfl ?_
  refine za_iload o 6 dL_areOrders_236 rfl ?_
  refine za_bipush (v := (7 : Int32)) o dL_areOrders_238 (by decide) ?_
  refine za_callVi o [.int v6, .int (7 : Int32)] (ctX7_ofDish l G hv1 v6 (7 : Int32)  m46 _ hf) zc7 hv1 mwX7_ofDish wmL_28 wiX7_ofDish wsX7_ofDish rfl ⟨Nat.le_of_ble_eq_true rfl, Nat.le_of_ble_eq_true rfl⟩ rfl (Nat.le_of_ble_eq_true rfl) dL_areOrders_240 (fun r49 m50 hf => ?_)
  refine za_aload_n o 5 dL_areOrders_243 rfl rfl ?_
  refine za_iconst (v := (2 : Int32)) o dL_areOrders_244 (by decide) ?_
  refine za_callVi o [.int (2 : Int32)] (ctX7_count l G hv1 (2 : Int32)  m50 _ hf) zc7 hv1 mwX7_count wmL_18 wiX7_count wsX7_count rfl ⟨Nat.le_of_ble_eq_true rfl, Nat.le_of_ble_eq_true rfl⟩ rfl (Nat.le_of_ble_eq_true rfl) dL_areOrders_245 (fun r51 m52 hf => ?_)
  refine za_iconst (v := (1 : Int32)) o dL_areOrders_248 (by decide) ?_
  refine za_icmp_ne o 256 dL_areOrders_249 (by decide) (fun c53 => ?_) (fun c53 => ?_)
  · replace hf := hf.1 c53
    refine za_iload o 4 dL_areOrders_256 rfl ?_
    refine za_sub [5, 3, 2, 1, 0, 6, 7, 8] rfl ?_
    exact tL_areOrders_258 o  hk15 v1 x38 x41 x44 x48 v6 v7 v8 v9 r49 m52 hv1 hf
  · replace hf := hf.2 c53
    refine za_iconst (v := (0 : Int32)) o dL_areOrders_252 (by decide) ?_
    refine za_goto o 258 dL_areOrders_253 (by decide) ?_
    refine za_sub [5, 3, 2, 1, 0, 6, 7, 8] rfl ?_
    exact tL_areOrders_258 o  hk15 v1 x38 x41 x44 x48 v6 v7 v8 (0 : Int32) r49 m52 hv1 hf
set_option maxRecDepth 100000 in
set_option maxHeartbeats 4000000 in
theorem tL_areOrders_144 {p : Program} {l : Launch} {e : Env} {s : State} {m : MethodId} {args : Array Value} {below : List Frame} {meth : Method} {c : Code} {G : zG} {k15 : Nat → Int32 → Int32 → Int32 → Int32 → Int32 → Int32 → zMem → Prop} {K : Int32 → zMem → Prop} (o : za_Ok (z_rm 7 151) 0 0 p s m args meth c G RL cL_areOrders 13 (some .boolean)) (hk15 : ∀ (v1 : Nat) (v2 : Int32) (v3 : Int32) (v4 : Int32) (v5 : Int32) (v6 : Int32) (v7 : Int32) (μ : zMem), z_is v1 7 → k15 v1 v2 v3 v4 v5 v6 v7 μ → za_At p l e (z_rm 7 151) s m args below meth c (MQ below (zQi G K) args s 0 0 (zA G)) G 13 0 0 15 [(0, .ref (G.2.2 + v1)), (1, .int v2), (2, .int v3), (3, .int v4), (4, .int v5), (5, .int v6), (6, .int v7)] [] μ) (v1 : Nat) (v2 : Int32) (v3 : Int32) (v4 : Int32) (v5 : Int32) (v6 : Int32) (v7 : Int32) (v8 : Int32) (v9 : Int32) (μ : zMem) (hv1 : z_is v1 7) (hf : fL_areOrders_144 k15 K v1 v2 v3 v4 v5 v6 v7 v8 v9 μ) : za_At p l e (z_rm 7 151) s m args below meth c (MQ below (zQi G K) args s 0 0 (zA G)) G 13 0 0 144 [(0, .ref (G.2.2 + v1)), (2, .int v2), (3, .int v3), (4, .int v4), (5, .int v5), (6, .int v6), (9, .int v7)] [.int v8, .int v9] μ := by
  unfold fL_areOrders_144 at hf
  refine za_iadd o dL_areOrders_144 ?_
  refine za_topi (fun x54 ex54 => ?_)
  replace hf := hf x54 ex54
  refine za_istore o [(10, .int x54), (0, .ref (G.2.2 + v1)), (2, .int v2), (3, .int v3), (4, .int v4), (5, .int v5), (6, .int v6), (9, .int v7)] dL_areOrders_145 (by decide) rfl ?_
  refine za_aload_n o 1 dL_areOrders_147 rfl rfl ?_
  refine za_iload o 6 dL_areOrders_148 rfl ?_
  refine za_iconst (v := (0 : Int32)) o dL_areOrders_150 (by decide) ?_
  refine za_callVi o [.int v6, .int (0 : Int32)] (ctX7_ofDish l G hv1 v6 (0 : Int32)  μ _ hf) zc7 hv1 mwX7_ofDish wmL_28 wiX7_ofDish wsX7_ofDish rfl ⟨Nat.le_of_ble_eq_true rfl, Nat.le_of_ble_eq_true rfl⟩ rfl (Nat.le_of_ble_eq_true rfl) dL_areOrders_151 (fun r55 m56 hf => ?_)
  refine za_istore o [(11, .int r55), (10, .int x54), (0, .ref (G.2.2 + v1)), (2, .int v2), (3, .int v3), (4, .int v4), (5, .int v5), (6, .int v6), (9, .int v7)] dL_areOrders_154 (by decide) rfl ?_
  refine za_iload o 1 dL_areOrders_156 rfl ?_
  refine za_aload_n o 2 dL_areOrders_158 rfl rfl ?_
  refine za_bipush (v := (10 : Int32)) o dL_areOrders_159 (by decide) ?_
  refine za_callVi o [.int (10 : Int32)] (ctX7_count l G hv1 (10 : Int32)  m56 _ hf) zc7 hv1 mwX7_count wmL_18 wiX7_count wsX7_count rfl ⟨Nat.le_of_ble_eq_true rfl, Nat.le_of_ble_eq_true rfl⟩ rfl (Nat.le_of_ble_eq_true rfl) dL_areOrders_161 (fun r57 m58 hf => ?_)
  refine za_iadd o dL_areOrders_164 ?_
  refine za_topi (fun x59 ex59 => ?_)
  replace hf := hf x59 ex59
  refine za_iload o 0 dL_areOrders_165 rfl ?_
  refine za_icmp_le o 185 dL_areOrders_167 (by decide) (fun c60 => ?_) (fun c60 => ?_)
  · replace hf := hf.1 c60
    refine za_iconst (v := (0 : Int32)) o dL_areOrders_185 (by decide) ?_
    refine za_sub [2, 3, 4, 5, 6, 7, 8, 0] rfl ?_
    exact tL_areOrders_186 o  hk15 v1 v2 v3 v4 v5 v6 v7 r55 (0 : Int32) m58 hv1 hf
  · replace hf := hf.2 c60
    refine za_iload o 1 dL_areOrders_170 rfl ?_
    refine za_aload_n o 2 dL_areOrders_172 rfl rfl ?_
    refine za_bipush (v := (10 : Int32)) o dL_areOrders_173 (by decide) ?_
    refine za_callVi o [.int (10 : Int32)] (ctX7_count l G hv1 (10 : Int32)  m58 _ hf) zc7 hv1 mwX7_count wmL_18 wiX7_count wsX7_count rfl ⟨Nat.le_of_ble_eq_true rfl, Nat.le_of_ble_eq_true rfl⟩ rfl (Nat.le_of_ble_eq_true rfl) dL_areOrders_175 (fun r61 m62 hf => ?_)
    refine za_iadd o dL_areOrders_178 ?_
    refine za_topi (fun x63 ex63 => ?_)
    replace hf := hf x63 ex63
    refine za_iload o 0 dL_areOrders_179 rfl ?_
    refine za_isub o dL_areOrders_181 ?_
    refine za_topi (fun x64 ex64 => ?_)
    replace hf := hf x64 ex64
    refine za_goto o 186 dL_areOrders_182 (by decide) ?_
    refine za_sub [2, 3, 4, 5, 6, 7, 8, 0] rfl ?_
    exact tL_areOrders_186 o  hk15 v1 v2 v3 v4 v5 v6 v7 r55 x64 m62 hv1 hf
set_option maxRecDepth 100000 in
set_option maxHeartbeats 4000000 in
theorem tL_areOrders_43b {p : Program} {l : Launch} {e : Env} {s : State} {m : MethodId} {args : Array Value} {below : List Frame} {meth : Method} {c : Code} {G : zG} {k15 : Nat → Int32 → Int32 → Int32 → Int32 → Int32 → Int32 → zMem → Prop} {k43 : Nat → Int32 → Int32 → Int32 → Int32 → Int32 → Int32 → Int32 → Int32 → Int32 → zMem → Prop} {K : Int32 → zMem → Prop} (o : za_Ok (z_rm 7 151) 0 0 p s m args meth c G RL cL_areOrders 13 (some .boolean)) (hk15 : ∀ (v1 : Nat) (v2 : Int32) (v3 : Int32) (v4 : Int32) (v5 : Int32) (v6 : Int32) (v7 : Int32) (μ : zMem), z_is v1 7 → k15 v1 v2 v3 v4 v5 v6 v7 μ → za_At p l e (z_rm 7 151) s m args below meth c (MQ below (zQi G K) args s 0 0 (zA G)) G 13 0 0 15 [(0, .ref (G.2.2 + v1)), (1, .int v2), (2, .int v3), (3, .int v4), (4, .int v5), (5, .int v6), (6, .int v7)] [] μ) (hk43 : ∀ (v1 : Nat) (v2 : Int32) (v3 : Int32) (v4 : Int32) (v5 : Int32) (v6 : Int32) (v7 : Int32) (v8 : Int32) (v9 : Int32) (v10 : Int32) (μ : zMem), z_is v1 7 → k43 v1 v2 v3 v4 v5 v6 v7 v8 v9 v10 μ → za_At p l e (z_rm 7 151) s m args below meth c (MQ below (zQi G K) args s 0 0 (zA G)) G 13 0 0 43 [(0, .ref (G.2.2 + v1)), (2, .int v2), (3, .int v3), (4, .int v4), (5, .int v5), (6, .int v6), (7, .int v7), (8, .int v8), (9, .int v9), (10, .int v10)] [] μ) (v1 : Nat) (v2 : Int32) (v3 : Int32) (v4 : Int32) (v5 : Int32) (v6 : Int32) (v7 : Int32) (v8 : Int32) (v9 : Int32) (v10 : Int32) (μ : zMem) (hv1 : z_is v1 7) (hf : fL_areOrders_43b k15 k43 K v1 v2 v3 v4 v5 v6 v7 v8 v9 v10 μ) : za_At p l e (z_rm 7 151) s m args below meth c (MQ below (zQi G K) args s 0 0 (zA G)) G 13 0 0 43 [(0, .ref (G.2.2 + v1)), (2, .int v2), (3, .int v3), (4, .int v4), (5, .int v5), (6, .int v6), (7, .int v7), (8, .int v8), (9, .int v9), (10, .int v10)] [] μ := by
  unfold fL_areOrders_43b at hf
  refine za_iload o 9 dL_areOrders_43 rfl ?_
  refine za_aload_n o 0 dL_areOrders_45 rfl rfl ?_
  refine za_iconst (v := (1 : Int32)) o dL_areOrders_46 (by decide) ?_
  refine za_callVi o [.int (1 : Int32)] (ctX7_count l G hv1 (1 : Int32)  μ _ hf) zc7 hv1 mwX7_count wmL_18 wiX7_count wsX7_count rfl ⟨Nat.le_of_ble_eq_true rfl, Nat.le_of_ble_eq_true rfl⟩ rfl (Nat.le_of_ble_eq_true rfl) dL_areOrders_47 (fun r65 m66 hf => ?_)
  refine za_icmp_ge o 126 dL_areOrders_50 (by decide) (fun c67 => ?_) (fun c67 => ?_)
  · replace hf := hf.1 c67
    refine za_iload o 7 dL_areOrders_126 rfl ?_
    refine za_bipush (v := (100 : Int32)) o dL_areOrders_128 (by decide) ?_
    refine za_idiv o dL_areOrders_130 (by decide) ?_
    refine za_topi (fun x68 ex68 => ?_)
    replace hf := hf x68 ex68
    refine za_iload o 7 dL_areOrders_131 rfl ?_
    refine za_bipush (v := (100 : Int32)) o dL_areOrders_133 (by decide) ?_
    refine za_irem o dL_areOrders_135 (by decide) ?_
    refine za_topi (fun x69 ex69 => ?_)
    replace hf := hf x69 ex69
    refine za_if_le o 143 dL_areOrders_136 (by decide) (fun c70 => ?_) (fun c70 => ?_)
    · replace hf := hf.1 c70
      refine za_iconst (v := (0 : Int32)) o dL_areOrders_143 (by decide) ?_
      refine za_sub [0, 1, 2, 3, 4, 5, 8] rfl ?_
      exact tL_areOrders_144 o  hk15 v1 v2 v3 v4 v5 v6 v9 (0 : Int32) x68 m66 hv1 hf
    · replace hf := hf.2 c70
      refine za_iconst (v := (1 : Int32)) o dL_areOrders_139 (by decide) ?_
      refine za_goto o 144 dL_areOrders_140 (by decide) ?_
      refine za_sub [0, 1, 2, 3, 4, 5, 8] rfl ?_
      exact tL_areOrders_144 o  hk15 v1 v2 v3 v4 v5 v6 v9 (1 : Int32) x68 m66 hv1 hf
  · replace hf := hf.2 c67
    refine za_iload o 6 dL_areOrders_53 rfl ?_
    refine za_iload o 9 dL_areOrders_55 rfl ?_
    refine za_ishr o dL_areOrders_57 ?_
    refine za_topi (fun x71 ex71 => ?_)
    replace hf := hf x71 ex71
    refine za_iconst (v := (1 : Int32)) o dL_areOrders_58 (by decide) ?_
    refine za_iand o dL_areOrders_59 ?_
    refine za_topi (fun x72 ex72 => ?_)
    replace hf := hf x72 ex72
    refine za_iconst (v := (1 : Int32)) o dL_areOrders_60 (by decide) ?_
    refine za_icmp_ne o 68 dL_areOrders_61 (by decide) (fun c73 => ?_) (fun c73 => ?_)
    · replace hf := hf.1 c73
      refine za_iconst (v := (0 : Int32)) o dL_areOrders_68 (by decide) ?_
      exact tL_areOrders_69 o  hk15 hk43 v1 v2 v3 v4 v5 v6 v7 v8 v9 v10 (0 : Int32) m66 hv1 hf
    · replace hf := hf.2 c73
      refine za_iconst (v := (1 : Int32)) o dL_areOrders_64 (by decide) ?_
      refine za_goto o 69 dL_areOrders_65 (by decide) ?_
      exact tL_areOrders_69 o  hk15 hk43 v1 v2 v3 v4 v5 v6 v7 v8 v9 v10 (1 : Int32) m66 hv1 hf
theorem tL_areOrders_43 {p : Program} {l : Launch} {e : Env} {s : State} {m : MethodId} {args : Array Value} {below : List Frame} {meth : Method} {c : Code} {G : zG} {k15 : Nat → Int32 → Int32 → Int32 → Int32 → Int32 → Int32 → zMem → Prop} {K : Int32 → zMem → Prop} (o : za_Ok (z_rm 7 151) 0 0 p s m args meth c G RL cL_areOrders 13 (some .boolean)) (hk15 : ∀ (v1 : Nat) (v2 : Int32) (v3 : Int32) (v4 : Int32) (v5 : Int32) (v6 : Int32) (v7 : Int32) (μ : zMem), z_is v1 7 → k15 v1 v2 v3 v4 v5 v6 v7 μ → za_At p l e (z_rm 7 151) s m args below meth c (MQ below (zQi G K) args s 0 0 (zA G)) G 13 0 0 15 [(0, .ref (G.2.2 + v1)), (1, .int v2), (2, .int v3), (3, .int v4), (4, .int v5), (5, .int v6), (6, .int v7)] [] μ) (n : Nat) : ∀ (v1 : Nat) (v2 : Int32) (v3 : Int32) (v4 : Int32) (v5 : Int32) (v6 : Int32) (v7 : Int32) (v8 : Int32) (v9 : Int32) (v10 : Int32) (μ : zMem), z_is v1 7 → fL_areOrders_43 k15 K n v1 v2 v3 v4 v5 v6 v7 v8 v9 v10 μ → za_At p l e (z_rm 7 151) s m args below meth c (MQ below (zQi G K) args s 0 0 (zA G)) G 13 0 0 43 [(0, .ref (G.2.2 + v1)), (2, .int v2), (3, .int v3), (4, .int v4), (5, .int v5), (6, .int v6), (7, .int v7), (8, .int v8), (9, .int v9), (10, .int v10)] [] μ := by
  induction n with
  | zero => intro _ _ _ _ _ _ _ _ _ _ _ _ hf; exact hf.elim
  | succ n ih => intro v1 v2 v3 v4 v5 v6 v7 v8 v9 v10 μ hv1 hf; exact tL_areOrders_43b o hk15 ih v1 v2 v3 v4 v5 v6 v7 v8 v9 v10 μ hv1 hf
set_option maxRecDepth 100000 in
set_option maxHeartbeats 4000000 in
theorem tL_areOrders_395 {p : Program} {l : Launch} {e : Env} {s : State} {m : MethodId} {args : Array Value} {below : List Frame} {meth : Method} {c : Code} {G : zG}  {K : Int32 → zMem → Prop} (o : za_Ok (z_rm 7 151) 0 0 p s m args meth c G RL cL_areOrders 13 (some .boolean))  (v1 : Int32) (μ : zMem)  (hf : fL_areOrders_395  K v1 μ) : za_At p l e (z_rm 7 151) s m args below meth c (MQ below (zQi G K) args s 0 0 (zA G)) G 13 0 0 395 [] [.int v1] μ := by
  unfold fL_areOrders_395 at hf
  exact za_zret o rfl hf.1 hf.2 dL_areOrders_395
set_option maxRecDepth 100000 in
set_option maxHeartbeats 4000000 in
theorem tL_areOrders_394 {p : Program} {l : Launch} {e : Env} {s : State} {m : MethodId} {args : Array Value} {below : List Frame} {meth : Method} {c : Code} {G : zG}  {K : Int32 → zMem → Prop} (o : za_Ok (z_rm 7 151) 0 0 p s m args meth c G RL cL_areOrders 13 (some .boolean))   (μ : zMem)  (hf : fL_areOrders_394  K  μ) : za_At p l e (z_rm 7 151) s m args below meth c (MQ below (zQi G K) args s 0 0 (zA G)) G 13 0 0 394 [] [] μ := by
  unfold fL_areOrders_394 at hf
  refine za_iconst (v := (0 : Int32)) o dL_areOrders_394 (by decide) ?_
  exact tL_areOrders_395 o   (0 : Int32) μ  hf
set_option maxRecDepth 100000 in
set_option maxHeartbeats 4000000 in
theorem tL_areOrders_347 {p : Program} {l : Launch} {e : Env} {s : State} {m : MethodId} {args : Array Value} {below : List Frame} {meth : Method} {c : Code} {G : zG}  {K : Int32 → zMem → Prop} (o : za_Ok (z_rm 7 151) 0 0 p s m args meth c G RL cL_areOrders 13 (some .boolean))  (v1 : Nat) (v2 : Int32) (v3 : Int32) (v4 : Int32) (v5 : Int32) (v6 : Int32) (μ : zMem) (hv1 : z_is v1 7) (hf : fL_areOrders_347  K v1 v2 v3 v4 v5 v6 μ) : za_At p l e (z_rm 7 151) s m args below meth c (MQ below (zQi G K) args s 0 0 (zA G)) G 13 0 0 347 [(0, .ref (G.2.2 + v1)), (1, .int v2), (2, .int v3), (3, .int v4), (4, .int v5), (5, .int v6)] [] μ := by
  unfold fL_areOrders_347 at hf
  refine za_iload_n o 1 dL_areOrders_347 rfl rfl ?_
  refine za_if_eq o 394 dL_areOrders_348 (by decide) (fun c74 => ?_) (fun c74 => ?_)
  · replace hf := hf.1 c74
    refine za_sub [] rfl ?_
    exact tL_areOrders_394 o    μ  hf
  · replace hf := hf.2 c74
    refine za_iload_n o 2 dL_areOrders_351 rfl rfl ?_
    refine za_aload_n o 0 dL_areOrders_352 rfl rfl ?_
    refine za_iconst (v := (3 : Int32)) o dL_areOrders_353 (by decide) ?_
    refine za_callVi o [.int (3 : Int32)] (ctX7_count l G hv1 (3 : Int32)  μ _ hf) zc7 hv1 mwX7_count wmL_18 wiX7_count wsX7_count rfl ⟨Nat.le_of_ble_eq_true rfl, Nat.le_of_ble_eq_true rfl⟩ rfl (Nat.le_of_ble_eq_true rfl) dL_areOrders_354 (fun r75 m76 hf => ?_)
    refine za_icmp_ne o 394 dL_areOrders_357 (by decide) (fun c77 => ?_) (fun c77 => ?_)
    · replace hf := hf.1 c77
      refine za_sub [] rfl ?_
      exact tL_areOrders_394 o    m76  hf
    · replace hf := hf.2 c77
      refine za_iload_n o 3 dL_areOrders_360 rfl rfl ?_
      refine za_aload_n o 0 dL_areOrders_361 rfl rfl ?_
      refine za_iconst (v := (4 : Int32)) o dL_areOrders_362 (by decide) ?_
      refine za_callVi o [.int (4 : Int32)] (ctX7_count l G hv1 (4 : Int32)  m76 _ hf) zc7 hv1 mwX7_count wmL_18 wiX7_count wsX7_count rfl ⟨Nat.le_of_ble_eq_true rfl, Nat.le_of_ble_eq_true rfl⟩ rfl (Nat.le_of_ble_eq_true rfl) dL_areOrders_363 (fun r78 m79 hf => ?_)
      refine za_icmp_ne o 394 dL_areOrders_366 (by decide) (fun c80 => ?_) (fun c80 => ?_)
      · replace hf := hf.1 c80
        refine za_sub [] rfl ?_
        exact tL_areOrders_394 o    m79  hf
      · replace hf := hf.2 c80
        refine za_iload o 4 dL_areOrders_369 rfl ?_
        refine za_aload_n o 0 dL_areOrders_371 rfl rfl ?_
        refine za_iconst (v := (5 : Int32)) o dL_areOrders_372 (by decide) ?_
        refine za_callVi o [.int (5 : Int32)] (ctX7_count l G hv1 (5 : Int32)  m79 _ hf) zc7 hv1 mwX7_count wmL_18 wiX7_count wsX7_count rfl ⟨Nat.le_of_ble_eq_true rfl, Nat.le_of_ble_eq_true rfl⟩ rfl (Nat.le_of_ble_eq_true rfl) dL_areOrders_373 (fun r81 m82 hf => ?_)
        refine za_icmp_ne o 394 dL_areOrders_376 (by decide) (fun c83 => ?_) (fun c83 => ?_)
        · replace hf := hf.1 c83
          refine za_sub [] rfl ?_
          exact tL_areOrders_394 o    m82  hf
        · replace hf := hf.2 c83
          refine za_iload o 5 dL_areOrders_379 rfl ?_
          refine za_aload_n o 0 dL_areOrders_381 rfl rfl ?_
          refine za_bipush (v := (6 : Int32)) o dL_areOrders_382 (by decide) ?_
          refine za_callVi o [.int (6 : Int32)] (ctX7_count l G hv1 (6 : Int32)  m82 _ hf) zc7 hv1 mwX7_count wmL_18 wiX7_count wsX7_count rfl ⟨Nat.le_of_ble_eq_true rfl, Nat.le_of_ble_eq_true rfl⟩ rfl (Nat.le_of_ble_eq_true rfl) dL_areOrders_384 (fun r84 m85 hf => ?_)
          refine za_icmp_ne o 394 dL_areOrders_387 (by decide) (fun c86 => ?_) (fun c86 => ?_)
          · replace hf := hf.1 c86
            refine za_sub [] rfl ?_
            exact tL_areOrders_394 o    m85  hf
          · replace hf := hf.2 c86
            refine za_iconst (v := (1 : Int32)) o dL_areOrders_390 (by decide) ?_
            refine za_goto o 395 dL_areOrders_391 (by decide) ?_
            refine za_sub [] rfl ?_
            exact tL_areOrders_395 o   (1 : Int32) m85  hf
set_option maxRecDepth 100000 in
set_option maxHeartbeats 4000000 in
theorem tL_areOrders_15b {p : Program} {l : Launch} {e : Env} {s : State} {m : MethodId} {args : Array Value} {below : List Frame} {meth : Method} {c : Code} {G : zG} {k15 : Nat → Int32 → Int32 → Int32 → Int32 → Int32 → Int32 → zMem → Prop} {K : Int32 → zMem → Prop} (o : za_Ok (z_rm 7 151) 0 0 p s m args meth c G RL cL_areOrders 13 (some .boolean)) (hk15 : ∀ (v1 : Nat) (v2 : Int32) (v3 : Int32) (v4 : Int32) (v5 : Int32) (v6 : Int32) (v7 : Int32) (μ : zMem), z_is v1 7 → k15 v1 v2 v3 v4 v5 v6 v7 μ → za_At p l e (z_rm 7 151) s m args below meth c (MQ below (zQi G K) args s 0 0 (zA G)) G 13 0 0 15 [(0, .ref (G.2.2 + v1)), (1, .int v2), (2, .int v3), (3, .int v4), (4, .int v5), (5, .int v6), (6, .int v7)] [] μ) (v1 : Nat) (v2 : Int32) (v3 : Int32) (v4 : Int32) (v5 : Int32) (v6 : Int32) (v7 : Int32) (μ : zMem) (hv1 : z_is v1 7) (hf : fL_areOrders_15b k15 K v1 v2 v3 v4 v5 v6 v7 μ) : za_At p l e (z_rm 7 151) s m args below meth c (MQ below (zQi G K) args s 0 0 (zA G)) G 13 0 0 15 [(0, .ref (G.2.2 + v1)), (1, .int v2), (2, .int v3), (3, .int v4), (4, .int v5), (5, .int v6), (6, .int v7)] [] μ := by
  unfold fL_areOrders_15b at hf
  refine za_iload o 6 dL_areOrders_15 rfl ?_
  refine za_iconst (v := (3 : Int32)) o dL_areOrders_17 (by decide) ?_
  refine za_icmp_ge o 347 dL_areOrders_18 (by decide) (fun c87 => ?_) (fun c87 => ?_)
  · replace hf := hf.1 c87
    refine za_sub [0, 1, 2, 3, 4, 5] rfl ?_
    exact tL_areOrders_347 o   v1 v2 v3 v4 v5 v6 μ hv1 hf
  · replace hf := hf.2 c87
    refine za_iload_n o 1 dL_areOrders_21 rfl rfl ?_
    refine za_if_eq o 347 dL_areOrders_22 (by decide) (fun c88 => ?_) (fun c88 => ?_)
    · replace hf := hf.1 c88
      refine za_sub [0, 1, 2, 3, 4, 5] rfl ?_
      exact tL_areOrders_347 o   v1 v2 v3 v4 v5 v6 μ hv1 hf
    · replace hf := hf.2 c88
      refine za_aload_n o 0 dL_areOrders_25 rfl rfl ?_
      refine za_iconst (v := (0 : Int32)) o dL_areOrders_26 (by decide) ?_
      refine za_iload o 6 dL_areOrders_27 rfl ?_
      refine za_callVi o [.int (0 : Int32), .int v7] (ctX7_ordered l G hv1 (0 : Int32) v7  μ _ hf) zc7 hv1 mwX7_ordered wmL_15 wiX7_ordered wsX7_ordered rfl ⟨Nat.le_of_ble_eq_true rfl, Nat.le_of_ble_eq_true rfl⟩ rfl (Nat.le_of_ble_eq_true rfl) dL_areOrders_29 (fun r89 m90 hf => ?_)
      refine za_istore o [(7, .int r89), (0, .ref (G.2.2 + v1)), (1, .int v2), (2, .int v3), (3, .int v4), (4, .int v5), (5, .int v6), (6, .int v7)] dL_areOrders_32 (by decide) rfl ?_
      refine za_iconst (v := (0 : Int32)) o dL_areOrders_34 (by decide) ?_
      refine za_istore o [(8, .int (0 : Int32)), (7, .int r89), (0, .ref (G.2.2 + v1)), (1, .int v2), (2, .int v3), (3, .int v4), (4, .int v5), (5, .int v6), (6, .int v7)] dL_areOrders_35 (by decide) rfl ?_
      refine za_iconst (v := (0 : Int32)) o dL_areOrders_37 (by decide) ?_
      refine za_istore o [(9, .int (0 : Int32)), (8, .int (0 : Int32)), (7, .int r89), (0, .ref (G.2.2 + v1)), (1, .int v2), (2, .int v3), (3, .int v4), (4, .int v5), (5, .int v6), (6, .int v7)] dL_areOrders_38 (by decide) rfl ?_
      refine za_iconst (v := (0 : Int32)) o dL_areOrders_40 (by decide) ?_
      refine za_istore o [(10, .int (0 : Int32)), (9, .int (0 : Int32)), (8, .int (0 : Int32)), (7, .int r89), (0, .ref (G.2.2 + v1)), (1, .int v2), (2, .int v3), (3, .int v4), (4, .int v5), (5, .int v6), (6, .int v7)] dL_areOrders_41 (by decide) rfl ?_
      refine za_sub [4, 6, 7, 8, 9, 10, 3, 2, 1, 0] rfl ?_
      exact tL_areOrders_43 o  hk15 zFU v1 v3 v4 v5 v6 v7 r89 (0 : Int32) (0 : Int32) (0 : Int32) m90 hv1 hf
theorem tL_areOrders_15 {p : Program} {l : Launch} {e : Env} {s : State} {m : MethodId} {args : Array Value} {below : List Frame} {meth : Method} {c : Code} {G : zG}  {K : Int32 → zMem → Prop} (o : za_Ok (z_rm 7 151) 0 0 p s m args meth c G RL cL_areOrders 13 (some .boolean))  (n : Nat) : ∀ (v1 : Nat) (v2 : Int32) (v3 : Int32) (v4 : Int32) (v5 : Int32) (v6 : Int32) (v7 : Int32) (μ : zMem), z_is v1 7 → fL_areOrders_15  K n v1 v2 v3 v4 v5 v6 v7 μ → za_At p l e (z_rm 7 151) s m args below meth c (MQ below (zQi G K) args s 0 0 (zA G)) G 13 0 0 15 [(0, .ref (G.2.2 + v1)), (1, .int v2), (2, .int v3), (3, .int v4), (4, .int v5), (5, .int v6), (6, .int v7)] [] μ := by
  induction n with
  | zero => intro _ _ _ _ _ _ _ _ _ hf; exact hf.elim
  | succ n ih => intro v1 v2 v3 v4 v5 v6 v7 μ hv1 hf; exact tL_areOrders_15b o  ih v1 v2 v3 v4 v5 v6 v7 μ hv1 hf
set_option maxRecDepth 100000 in
set_option maxHeartbeats 4000000 in
theorem ctL_areOrders (l : Launch) (G : zG) (a1 : Nat) (ha1 : z_is a1 7) (μ : zMem) (K : Int32 → zMem → Prop) (hf : fL_areOrders a1 μ K) : z_Met l G yL_areOrders cL_areOrders 13 (some .boolean) (z_rm 7 151) [.ref (G.2.2 + a1)] μ K := by
  refine z_body (by decide) (Nat.le_of_ble_eq_true rfl) (fun p e s m args below meth c o => ?_)
  have o : za_Ok (z_rm 7 151) 0 0 p s m args meth c G RL cL_areOrders 13 (some .boolean) := o
  show za_At p l e (z_rm 7 151) s m args below meth c (MQ below (zQi G K) args s 0 0 (zA G)) G 13 0 0 0 [(0, .ref (G.2.2 + a1))] [] μ
  unfold fL_areOrders at hf
  refine za_iconst (v := (1 : Int32)) o dL_areOrders_0 (by decide) ?_
  refine za_istore_n o [(1, .int (1 : Int32)), (0, .ref (G.2.2 + a1))] dL_areOrders_1 rfl (by decide) rfl ?_
  refine za_iconst (v := (0 : Int32)) o dL_areOrders_2 (by decide) ?_
  refine za_istore_n o [(2, .int (0 : Int32)), (1, .int (1 : Int32)), (0, .ref (G.2.2 + a1))] dL_areOrders_3 rfl (by decide) rfl ?_
  refine za_iconst (v := (0 : Int32)) o dL_areOrders_4 (by decide) ?_
  refine za_istore_n o [(3, .int (0 : Int32)), (2, .int (0 : Int32)), (1, .int (1 : Int32)), (0, .ref (G.2.2 + a1))] dL_areOrders_5 rfl (by decide) rfl ?_
  refine za_iconst (v := (0 : Int32)) o dL_areOrders_6 (by decide) ?_
  refine za_istore o [(4, .int (0 : Int32)), (3, .int (0 : Int32)), (2, .int (0 : Int32)), (1, .int (1 : Int32)), (0, .ref (G.2.2 + a1))] dL_areOrders_7 (by decide) rfl ?_
  refine za_iconst (v := (0 : Int32)) o dL_areOrders_9 (by decide) ?_
  refine za_istore o [(5, .int (0 : Int32)), (4, .int (0 : Int32)), (3, .int (0 : Int32)), (2, .int (0 : Int32)), (1, .int (1 : Int32)), (0, .ref (G.2.2 + a1))] dL_areOrders_10 (by decide) rfl ?_
  refine za_iconst (v := (0 : Int32)) o dL_areOrders_12 (by decide) ?_
  refine za_istore o [(6, .int (0 : Int32)), (5, .int (0 : Int32)), (4, .int (0 : Int32)), (3, .int (0 : Int32)), (2, .int (0 : Int32)), (1, .int (1 : Int32)), (0, .ref (G.2.2 + a1))] dL_areOrders_13 (by decide) rfl ?_
  refine za_sub [6, 5, 4, 3, 2, 1, 0] rfl ?_
  exact tL_areOrders_15 o   zFU a1 (1 : Int32) (0 : Int32) (0 : Int32) (0 : Int32) (0 : Int32) (0 : Int32) μ ha1 hf
