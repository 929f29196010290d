/-! L_arePeople -/
def fL_arePeople_103 (k19 : Nat → Int32 → Int32 → Int32 → Int32 → Int32 → Int32 → Int32 → zMem → Prop) (k44 : Nat → Int32 → Int32 → Int32 → Int32 → Int32 → Int32 → Int32 → Int32 → Int32 → zMem → Prop) (k52 : Nat → Int32 → Int32 → Int32 → Int32 → Int32 → Int32 → Int32 → Int32 → Int32 → Int32 → zMem → Prop) (K : Int32 → zMem → Prop) (v1 : Nat) (v2 : Int32) (v3 : Int32) (v4 : Int32) (v5 : Int32) (v6 : Int32) (v7 : Int32) (v8 : Int32) (v9 : Int32) (v10 : Int32) (v11 : Int32) (μ : zMem) : Prop :=
  (∀ x1 : Int32, x1 = v10 + (-1 : Int32) → k52 v1 v2 v3 v4 v5 v6 v7 v8 v11 v9 x1 μ)
def fL_arePeople_52b (k19 : Nat → Int32 → Int32 → Int32 → Int32 → Int32 → Int32 → Int32 → zMem → Prop) (k44 : Nat → Int32 → Int32 → Int32 → Int32 → Int32 → Int32 → Int32 → Int32 → Int32 → zMem → Prop) (k52 : Nat → Int32 → Int32 → Int32 → Int32 → Int32 → Int32 → Int32 → Int32 → Int32 → Int32 → zMem → Prop) (K : Int32 → zMem → Prop) (v1 : Nat) (v2 : Int32) (v3 : Int32) (v4 : Int32) (v5 : Int32) (v6 : Int32) (v7 : Int32) (v8 : Int32) (v9 : Int32) (v10 : Int32) (v11 : Int32) (μ : zMem) : Prop :=
  ((v11 < 0 → (∀ x3 : Int32, x3 = v10 + (-1 : Int32) → k44 v1 v2 v3 v4 v5 v6 v7 v8 v9 x3 μ)) ∧ (¬ v11 < 0 → fX7_ordered v1 v10 v11 μ (fun r4 m5 => (∀ x6 : Int32, x6 = (r4 >>> (v7 &&& 31)) → (∀ x7 : Int32, x7 = (x6 &&& (1 : Int32)) → (∀ x8 : Int32, x8 = (x7 <<< (v10 &&& 31)) → (∀ x9 : Int32, x9 = (v8 ||| x8) → fX7_why v1 v7 v10 v11 m5 (fun r10 m11 => ((¬ r10 = 0 → fL_arePeople_103 k19 k44 k52 K  v1 v2 v3 v4 v5 v6 v7 x9 v10 v11 v9 m11) ∧ (r10 = 0 → (∀ x13 : Int32, x13 = ((3 : Int32) * v10) → (∀ x14 : Int32, x14 = (x13 + v11) → fL_arePeople_103 k19 k44 k52 K  v1 v2 v3 v4 v5 v6 v7 x9 v10 v11 x14 m11))))))))))))
def fL_arePeople_52 (k19 : Nat → Int32 → Int32 → Int32 → Int32 → Int32 → Int32 → Int32 → zMem → Prop) (k44 : Nat → Int32 → Int32 → Int32 → Int32 → Int32 → Int32 → Int32 → Int32 → Int32 → zMem → Prop) (K : Int32 → zMem → Prop) (n : Nat) : Nat → Int32 → Int32 → Int32 → Int32 → Int32 → Int32 → Int32 → Int32 → Int32 → Int32 → zMem → Prop := z_it (fun k => fL_arePeople_52b k19 k44 k K ) (fun _ _ _ _ _ _ _ _ _ _ _ _ => False) n
def fL_arePeople_385 (k19 : Nat → Int32 → Int32 → Int32 → Int32 → Int32 → Int32 → Int32 → zMem → Prop) (K : Int32 → zMem → Prop) (v1 : Nat) (v2 : Int32) (v3 : Int32) (v4 : Int32) (v5 : Int32) (v6 : Int32) (v7 : Int32) (v8 : Int32) (μ : zMem) : Prop :=
  (∀ x15 : Int32, x15 = v7 + (1 : Int32) → k19 v1 v2 v3 v4 v5 v6 v8 x15 μ)
def fL_arePeople_384 (k19 : Nat → Int32 → Int32 → Int32 → Int32 → Int32 → Int32 → Int32 → zMem → Prop) (K : Int32 → zMem → Prop) (v1 : Nat) (v2 : Int32) (v3 : Int32) (v4 : Int32) (v5 : Int32) (v6 : Int32) (v7 : Int32) (μ : zMem) : Prop :=
  fL_arePeople_385 k19 K  v1 v2 v3 v4 v5 v6 v7 (0 : Int32) μ
def fL_arePeople_340 (k19 : Nat → Int32 → Int32 → Int32 → Int32 → Int32 → Int32 → Int32 → zMem → Prop) (K : Int32 → zMem → Prop) (v1 : Nat) (v2 : Int32) (v3 : Int32) (v4 : Int32) (v5 : Int32) (v6 : Int32) (v7 : Int32) (μ : zMem) : Prop :=
  fX7_of v1 v7 (0 : Int32) μ (fun r16 m17 => ((r16 < 0 → fL_arePeople_384 k19 K  v1 v2 v3 v4 v5 v6 v7 m17) ∧ (¬ r16 < 0 → fX7_of v1 v7 (0 : Int32) m17 (fun r19 m20 => (((30 : Int32) < r19 → fL_arePeople_384 k19 K  v1 v2 v3 v4 v5 v6 v7 m20) ∧ (¬ (30 : Int32) < r19 → fX7_of v1 v7 (3 : Int32) m20 (fun r22 m23 => fX7_of v1 v7 (6 : Int32) m23 (fun r24 m25 => ((r24 < r22 → fL_arePeople_384 k19 K  v1 v2 v3 v4 v5 v6 v7 m25) ∧ (¬ r24 < r22 → fL_arePeople_385 k19 K  v1 v2 v3 v4 v5 v6 v7 (1 : Int32) m25))))))))))
def fL_arePeople_284 (k19 : Nat → Int32 → Int32 → Int32 → Int32 → Int32 → Int32 → Int32 → zMem → Prop) (K : Int32 → zMem → Prop) (v1 : Nat) (v2 : Int32) (v3 : Int32) (v4 : Int32) (v5 : Int32) (v6 : Int32) (v7 : Int32) (v8 : Int32) (v9 : Int32) (v10 : Int32) (μ : zMem) : Prop :=
  fX7_of v1 v6 (2 : Int32) μ (fun r27 m28 => ((¬ v7 = r27 → fL_arePeople_384 k19 K  v1 v2 v3 v4 v5 v10 v6 m28) ∧ (v7 = r27 → fX7_firstOrder v1 v6 m28 (fun r30 m31 => ((¬ v8 = r30 → fL_arePeople_384 k19 K  v1 v2 v3 v4 v5 v10 v6 m31) ∧ (v8 = r30 → ((v9 < 0 → (∀ x34 : Int32, x34 = (v7 &&& (1 : Int32)) → ((¬ x34 = 0 → fL_arePeople_384 k19 K  v1 v2 v3 v4 v5 v10 v6 m31) ∧ (x34 = 0 → fL_arePeople_340 k19 K  v1 v2 v3 v4 v5 v10 v6 m31)))) ∧ (¬ v9 < 0 → fX7_ordered v1 (0 : Int32) v9 m31 (fun r36 m37 => (∀ x38 : Int32, x38 = (r36 >>> (v6 &&& 31)) → (∀ x39 : Int32, x39 = (x38 &&& (1 : Int32)) → ((¬ x39 = (1 : Int32) → fL_arePeople_384 k19 K  v1 v2 v3 v4 v5 v10 v6 m37) ∧ (x39 = (1 : Int32) → fL_arePeople_340 k19 K  v1 v2 v3 v4 v5 v10 v6 m37)))))))))))))
def fL_arePeople_282 (k19 : Nat → Int32 → Int32 → Int32 → Int32 → Int32 → Int32 → Int32 → zMem → Prop) (K : Int32 → zMem → Prop) (v1 : Nat) (v2 : Int32) (v3 : Int32) (v4 : Int32) (v5 : Int32) (v6 : Int32) (v7 : Int32) (v8 : Int32) (v9 : Int32) (v10 : Int32) (μ : zMem) : Prop :=
  fL_arePeople_284 k19 K  v1 v2 v3 v4 v5 v7 v8 v9 v10 v6 μ
def fL_arePeople_261 (k19 : Nat → Int32 → Int32 → Int32 → Int32 → Int32 → Int32 → Int32 → zMem → Prop) (K : Int32 → zMem → Prop) (v1 : Nat) (v2 : Int32) (v3 : Int32) (v4 : Int32) (v5 : Int32) (v6 : Int32) (v7 : Int32) (v8 : Int32) (v9 : Int32) (v10 : Int32) (v11 : Int32) (μ : zMem) : Prop :=
  fL_doubt v1 v7 μ (fun r41 m42 => ((r41 ≤ 0 → fL_arePeople_282 k19 K  v1 v2 v3 v4 v5 v6 v7 v8 v9 v10 m42) ∧ (¬ r41 ≤ 0 → ((v11 = 0 → fL_arePeople_282 k19 K  v1 v2 v3 v4 v5 v6 v7 v8 v9 v10 m42) ∧ (¬ v11 = 0 → fL_arePeople_284 k19 K  v1 v2 v3 v4 v5 v7 v8 v9 v10 v7 m42)))))
def fL_arePeople_256 (k19 : Nat → Int32 → Int32 → Int32 → Int32 → Int32 → Int32 → Int32 → zMem → Prop) (K : Int32 → zMem → Prop) (v1 : Nat) (v2 : Int32) (v3 : Int32) (v4 : Int32) (v5 : Int32) (v6 : Int32) (v7 : Int32) (v8 : Int32) (v9 : Int32) (v10 : Int32) (μ : zMem) : Prop :=
  fL_arePeople_261 k19 K  v1 v2 v3 v4 v5 v6 v7 v8 v9 v10 (1 : Int32) μ
def fL_arePeople_260 (k19 : Nat → Int32 → Int32 → Int32 → Int32 → Int32 → Int32 → Int32 → zMem → Prop) (K : Int32 → zMem → Prop) (v1 : Nat) (v2 : Int32) (v3 : Int32) (v4 : Int32) (v5 : Int32) (v6 : Int32) (v7 : Int32) (v8 : Int32) (v9 : Int32) (v10 : Int32) (μ : zMem) : Prop :=
  fL_arePeople_261 k19 K  v1 v2 v3 v4 v5 v6 v7 v8 v9 v10 (0 : Int32) μ
def fL_arePeople_183 (k19 : Nat → Int32 → Int32 → Int32 → Int32 → Int32 → Int32 → Int32 → zMem → Prop) (K : Int32 → zMem → Prop) (v1 : Nat) (v2 : Int32) (v3 : Int32) (v4 : Int32) (v5 : Int32) (v6 : Int32) (v7 : Int32) (v8 : Int32) (v9 : Int32) (v10 : Int32) (v11 : Int32) (μ : zMem) : Prop :=
  (∀ x45 : Int32, x45 = (v11 ||| v10) → ((v5 < 0 → fL_arePeople_256 k19 K  v1 v2 v3 v4 x45 v5 v6 v7 v8 v9 μ) ∧ (¬ v5 < 0 → fL_doubt v1 v6 μ (fun r47 m48 => fL_doubt v1 v5 m48 (fun r49 m50 => ((r49 < r47 → fL_arePeople_256 k19 K  v1 v2 v3 v4 x45 v5 v6 v7 v8 v9 m50) ∧ (¬ r49 < r47 → fL_doubt v1 v6 m50 (fun r52 m53 => fL_doubt v1 v5 m53 (fun r54 m55 => ((¬ r52 = r54 → fL_arePeople_260 k19 K  v1 v2 v3 v4 x45 v5 v6 v7 v8 v9 m55) ∧ (r52 = r54 → fX7_of v1 v6 (5 : Int32) m55 (fun r57 m58 => fX7_of v1 v6 (6 : Int32) m58 (fun r59 m60 => (∀ x61 : Int32, x61 = (r57 + r59) → fX7_of v1 v5 (5 : Int32) m60 (fun r62 m63 => fX7_of v1 v5 (6 : Int32) m63 (fun r64 m65 => (∀ x66 : Int32, x66 = (r62 + r64) → ((x61 ≤ x66 → fL_arePeople_260 k19 K  v1 v2 v3 v4 x45 v5 v6 v7 v8 v9 m65) ∧ (¬ x61 ≤ x66 → fL_arePeople_256 k19 K  v1 v2 v3 v4 x45 v5 v6 v7 v8 v9 m65)))))))))))))))))))
def fL_arePeople_44b (k19 : Nat → Int32 → Int32 → Int32 → Int32 → Int32 → Int32 → Int32 → zMem → Prop) (k44 : Nat → Int32 → Int32 → Int32 → Int32 → Int32 → Int32 → Int32 → Int32 → Int32 → zMem → Prop) (K : Int32 → zMem → Prop) (v1 : Nat) (v2 : Int32) (v3 : Int32) (v4 : Int32) (v5 : Int32) (v6 : Int32) (v7 : Int32) (v8 : Int32) (v9 : Int32) (v10 : Int32) (μ : zMem) : Prop :=
  ((v10 < 0 → fX7_of v1 v7 (1 : Int32) μ (fun r69 m70 => fX7_of v1 v7 (0 : Int32) m70 (fun r71 m72 => (∀ x73 : Int32, x73 = (v2 + r71) → fX7_of v1 v7 (6 : Int32) m72 (fun r74 m75 => (∀ x76 : Int32, x76 = (v3 + r74) → fX7_of v1 v7 (8 : Int32) m75 (fun r77 m78 => (∀ x79 : Int32, x79 = (v4 + r77) → fX7_count v1 (0 : Int32) m78 (fun r80 m81 => fX7_of v1 v7 (4 : Int32) m81 (fun r82 m83 => ((r82 ≤ r80 → fL_arePeople_183 k19 K  v1 x73 x76 x79 v6 v7 v8 v9 r69 (0 : Int32) v5 m83) ∧ (¬ r82 ≤ r80 → (∀ x85 : Int32, x85 = ((1 : Int32) <<< (v7 &&& 31)) → fL_arePeople_183 k19 K  v1 x73 x76 x79 v6 v7 v8 v9 r69 x85 v5 m83))))))))))))) ∧ (¬ v10 < 0 → fL_arePeople_52 k19 k44 K  zFU v1 v2 v3 v4 v5 v6 v7 v8 v9 v10 (2 : Int32) μ))
def fL_arePeople_44 (k19 : Nat → Int32 → Int32 → Int32 → Int32 → Int32 → Int32 → Int32 → zMem → Prop) (K : Int32 → zMem → Prop) (n : Nat) : Nat → Int32 → Int32 → Int32 → Int32 → Int32 → Int32 → Int32 → Int32 → Int32 → zMem → Prop := z_it (fun k => fL_arePeople_44b k19 k K ) (fun _ _ _ _ _ _ _ _ _ _ _ => False) n
def fL_arePeople_477  (K : Int32 → zMem → Prop) (v1 : Int32) (μ : zMem) : Prop :=
  (z_b v1 ∧ K v1 μ)
def fL_arePeople_476  (K : Int32 → zMem → Prop)  (μ : zMem) : Prop :=
  fL_arePeople_477  K  (0 : Int32) μ
def fL_arePeople_469  (K : Int32 → zMem → Prop) (v1 : Int32) (v2 : Int32) (μ : zMem) : Prop :=
  ((¬ v2 = v1 → fL_arePeople_476  K   μ) ∧ (v2 = v1 → fL_arePeople_477  K  (1 : Int32) μ))
def fL_arePeople_393  (K : Int32 → zMem → Prop) (v1 : Nat) (v2 : Int32) (v3 : Int32) (v4 : Int32) (v5 : Int32) (v6 : Int32) (v7 : Int32) (μ : zMem) : Prop :=
  ((v7 = 0 → fL_arePeople_476  K   μ) ∧ (¬ v7 = 0 → fX7_count v1 (7 : Int32) μ (fun r88 m89 => ((¬ v2 = r88 → fL_arePeople_476  K   m89) ∧ (v2 = r88 → fX7_count v1 (9 : Int32) m89 (fun r91 m92 => ((¬ v3 = r91 → fL_arePeople_476  K   m92) ∧ (v3 = r91 → fX7_count v1 (4 : Int32) m92 (fun r94 m95 => ((¬ v4 = r94 → fL_arePeople_476  K   m95) ∧ (v4 = r94 → fX7_count v1 (8 : Int32) m95 (fun r97 m98 => ((¬ v5 = r97 → fL_arePeople_476  K   m98) ∧ (v5 = r97 → fX7_unsurest v1 (0 : Int32) m98 (fun r100 m101 => ((¬ r100 = v6 → fL_arePeople_476  K   m101) ∧ (r100 = v6 → fX7_unsurest v1 (1 : Int32) m101 (fun r103 m104 => ((0 ≤ v6 → fL_doubt v1 v6 m104 (fun r106 m107 => fL_arePeople_469  K  r106 r103 m107)) ∧ (¬ 0 ≤ v6 → fL_arePeople_469  K  (-6 : Int32) r103 m104))))))))))))))))))))
def fL_arePeople_19b (k19 : Nat → Int32 → Int32 → Int32 → Int32 → Int32 → Int32 → Int32 → zMem → Prop) (K : Int32 → zMem → Prop) (v1 : Nat) (v2 : Int32) (v3 : Int32) (v4 : Int32) (v5 : Int32) (v6 : Int32) (v7 : Int32) (v8 : Int32) (μ : zMem) : Prop :=
  fX7_count v1 (1 : Int32) μ (fun r108 m109 => ((r108 ≤ v8 → fL_arePeople_393  K  v1 v2 v3 v4 v5 v6 v7 m109) ∧ (¬ r108 ≤ v8 → ((v7 = 0 → fL_arePeople_393  K  v1 v2 v3 v4 v5 v6 v7 m109) ∧ (¬ v7 = 0 → fL_arePeople_44 k19 K  zFU v1 v2 v3 v4 v5 v6 v8 (0 : Int32) (-6 : Int32) (4 : Int32) m109)))))
def fL_arePeople_19  (K : Int32 → zMem → Prop) (n : Nat) : Nat → Int32 → Int32 → Int32 → Int32 → Int32 → Int32 → Int32 → zMem → Prop := z_it (fun k => fL_arePeople_19b  k K ) (fun _ _ _ _ _ _ _ _ _ => False) n
def fL_arePeople (a1 : Nat) (μ : zMem) (K : Int32 → zMem → Prop) : Prop :=
  fL_arePeople_19  K  zFU a1 (0 : Int32) (0 : Int32) (0 : Int32) (0 : Int32) (-6 : Int32) (1 : Int32) (0 : Int32) μ
set_option maxRecDepth 100000 in
set_option maxHeartbeats 4000000 in
theorem tL_arePeople_103 {p : Program} {l : Launch} {e : Env} {s : State} {m : MethodId} {args : Array Value} {below : List Frame} {meth : Method} {c : Code} {G : zG} {k19 : Nat → Int32 → Int32 → Int32 → Int32 → Int32 → Int32 → Int32 → zMem → Prop} {k44 : Nat → Int32 → Int32 → Int32 → Int32 → Int32 → Int32 → Int32 → Int32 → Int32 → zMem → Prop} {k52 : Nat → Int32 → Int32 → Int32 → Int32 → Int32 → Int32 → Int32 → Int32 → Int32 → Int32 → zMem → Prop} {K : Int32 → zMem → Prop} (o : za_Ok (z_rm 7 151) 0 0 p s m args meth c G RL cL_arePeople 12 (some .boolean)) (hk19 : ∀ (v1 : Nat) (v2 : Int32) (v3 : Int32) (v4 : Int32) (v5 : Int32) (v6 : Int32) (v7 : Int32) (v8 : Int32) (μ : zMem), z_is v1 7 → k19 v1 v2 v3 v4 v5 v6 v7 v8 μ → za_At p l e (z_rm 7 151) s m args below meth c (MQ below (zQi G K) args s 0 0 (zA G)) G 12 0 0 19 [(0, .ref (G.2.2 + v1)), (1, .int v2), (2, .int v3), (3, .int v4), (4, .int v5), (5, .int v6), (6, .int v7), (7, .int v8)] [] μ) (hk44 : ∀ (v1 : Nat) (v2 : Int32) (v3 : Int32) (v4 : Int32) (v5 : Int32) (v6 : Int32) (v7 : Int32) (v8 : Int32) (v9 : Int32) (v10 : Int32) (μ : zMem), z_is v1 7 → k44 v1 v2 v3 v4 v5 v6 v7 v8 v9 v10 μ → za_At p l e (z_rm 7 151) s m args below meth c (MQ below (zQi G K) args s 0 0 (zA G)) G 12 0 0 44 [(0, .ref (G.2.2 + v1)), (1, .int v2), (2, .int v3), (3, .int v4), (4, .int v5), (5, .int v6), (7, .int v7), (8, .int v8), (9, .int v9), (10, .int v10)] [] μ) (hk52 : ∀ (v1 : Nat) (v2 : Int32) (v3 : Int32) (v4 : Int32) (v5 : Int32) (v6 : Int32) (v7 : Int32) (v8 : Int32) (v9 : Int32) (v10 : Int32) (v11 : Int32) (μ : zMem), z_is v1 7 → k52 v1 v2 v3 v4 v5 v6 v7 v8 v9 v10 v11 μ → za_At p l e (z_rm 7 151) s m args below meth c (MQ below (zQi G K) args s 0 0 (zA G)) G 12 0 0 52 [(0, .ref (G.2.2 + v1)), (1, .int v2), (2, .int v3), (3, .int v4), (4, .int v5), (5, .int v6), (7, .int v7), (8, .int v8), (9, .int v9), (10, .int v10), (11, .int v11)] [] μ) (v1 : Nat) (v2 : Int32) (v3 : Int32) (v4 : Int32) (v5 : Int32) (v6 : Int32) (v7 : Int32) (v8 : Int32) (v9 : Int32) (v10 : Int32) (v11 : Int32) (μ : zMem) (hv1 : z_is v1 7) (hf : fL_arePeople_103 k19 k44 k52 K v1 v2 v3 v4 v5 v6 v7 v8 v9 v10 v11 μ) : za_At p l e (z_rm 7 151) s m args below meth c (MQ below (zQi G K) args s 0 0 (zA G)) G 12 0 0 103 [(0, .ref (G.2.2 + v1)), (1, .int v2), (2, .int v3), (3, .int v4), (4, .int v5), (5, .int v6), (7, .int v7), (8, .int v8), (10, .int v9), (11, .int v10)] [.int v11] μ := by
  unfold fL_arePeople_103 at hf
  refine za_istore o [(9, .int v11), (0, .ref (G.2.2 + v1)), (1, .int v2), (2, .int v3), (3, .int v4), (4, .int v5), (5, .int v6), (7, .int v7), (8, .int v8), (10, .int v9), (11, .int v10)] dL_arePeople_103 (by decide) rfl ?_
  obtain ⟨x1, ex1⟩ : ∃ y : Int32, y = v10 + (-1 : Int32) := ⟨_, rfl⟩
  replace hf := hf x1 ex1
  refine za_iinc o x1 10 [(11, .int x1), (9, .int v11), (0, .ref (G.2.2 + v1)), (1, .int v2), (2, .int v3), (3, .int v4), (4, .int v5), (5, .int v6), (7, .int v7), (8, .int v8), (10, .int v9)] dL_arePeople_105 rfl (by rw [ex1]; rfl) (by decide) rfl ?_
  refine za_goto o 52 dL_arePeople_108 (by decide) ?_
  refine za_sub [2, 3, 4, 5, 6, 7, 8, 9, 1, 10, 0] rfl ?_
  exact hk52 v1 v2 v3 v4 v5 v6 v7 v8 v11 v9 x1 μ hv1 hf
set_option maxRecDepth 100000 in
set_option maxHeartbeats 4000000 in
theorem tL_arePeople_52b {p : Program} {l : Launch} {e : Env} {s : State} {m : MethodId} {args : Array Value} {below : List Frame} {meth : Method} {c : Code} {G : zG} {k19 : Nat → Int32 → Int32 → Int32 → Int32 → Int32 → Int32 → Int32 → zMem → Prop} {k44 : Nat → Int32 → Int32 → Int32 → Int32 → Int32 → Int32 → Int32 → Int32 → Int32 → zMem → Prop} {k52 : Nat → Int32 → Int32 → Int32 → Int32 → Int32 → Int32 → Int32 → Int32 → Int32 → Int32 → zMem → Prop} {K : Int32 → zMem → Prop} (o : za_Ok (z_rm 7 151) 0 0 p s m args meth c G RL cL_arePeople 12 (some .boolean)) (hk19 : ∀ (v1 : Nat) (v2 : Int32) (v3 : Int32) (v4 : Int32) (v5 : Int32) (v6 : Int32) (v7 : Int32) (v8 : Int32) (μ : zMem), z_is v1 7 → k19 v1 v2 v3 v4 v5 v6 v7 v8 μ → za_At p l e (z_rm 7 151) s m args below meth c (MQ below (zQi G K) args s 0 0 (zA G)) G 12 0 0 19 [(0, .ref (G.2.2 + v1)), (1, .int v2), (2, .int v3), (3, .int v4), (4, .int v5), (5, .int v6), (6, .int v7), (7, .int v8)] [] μ) (hk44 : ∀ (v1 : Nat) (v2 : Int32) (v3 : Int32) (v4 : Int32) (v5 : Int32) (v6 : Int32) (v7 : Int32) (v8 : Int32) (v9 : Int32) (v10 : Int32) (μ : zMem), z_is v1 7 → k44 v1 v2 v3 v4 v5 v6 v7 v8 v9 v10 μ → za_At p l e (z_rm 7 151) s m args below meth c (MQ below (zQi G K) args s 0 0 (zA G)) G 12 0 0 44 [(0, .ref (G.2.2 + v1)), (1, .int v2), (2, .int v3), (3, .int v4), (4, .int v5), (5, .int v6), (7, .int v7), (8, .int v8), (9, .int v9), (10, .int v10)] [] μ) (hk52 : ∀ (v1 : Nat) (v2 : Int32) (v3 : Int32) (v4 : Int32) (v5 : Int32) (v6 : Int32) (v7 : Int32) (v8 : Int32) (v9 : Int32) (v10 : Int32) (v11 : Int32) (μ : zMem), z_is v1 7 → k52 v1 v2 v3 v4 v5 v6 v7 v8 v9 v10 v11 μ → za_At p l e (z_rm 7 151) s m args below meth c (MQ below (zQi G K) args s 0 0 (zA G)) G 12 0 0 52 [(0, .ref (G.2.2 + v1)), (1, .int v2), (2, .int v3), (3, .int v4), (4, .int v5), (5, .int v6), (7, .int v7), (8, .int v8), (9, .int v9), (10, .int v10), (11, .int v11)] [] μ) (v1 : Nat) (v2 : Int32) (v3 : Int32) (v4 : Int32) (v5 : Int32) (v6 : Int32) (v7 : Int32) (v8 : Int32) (v9 : Int32) (v10 : Int32) (v11 : Int32) (μ : zMem) (hv1 : z_is v1 7) (hf : fL_arePeople_52b k19 k44 k52 K v1 v2 v3 v4 v5 v6 v7 v8 v9 v10 v11 μ) : za_At p l e (z_rm 7 151) s m args below meth c (MQ below (zQi G K) args s 0 0 (zA G)) G 12 0 0 52 [(0, .ref (G.2.2 + v1)), (1, .int v2), (2, .int v3), (3, .int v4), (4, .int v5), (5, .int v6), (7, .int v7), (8, .int v8), (9, .int v9), (10, .int v10), (11, .int v11)] [] μ := by
  unfold fL_arePeople_52b at hf
  refine za_iload o 10 dL_arePeople_52 rfl ?_
  refine za_if_lt o 111 dL_arePeople_54 (by decide) (fun c2 => ?_) (fun c2 => ?_)
  · replace hf := hf.1 c2
    obtain ⟨x3, ex3⟩ : ∃ y : Int32, y = v10 + (-1 : Int32) := ⟨_, rfl⟩
    replace hf := hf x3 ex3
    refine za_iinc o x3 9 [(10, .int x3), (0, .ref (G.2.2 + v1)), (1, .int v2), (2, .int v3), (3, .int v4), (4, .int v5), (5, .int v6), (7, .int v7), (8, .int v8), (9, .int v9), (11, .int v11)] dL_arePeople_111 rfl (by rw [ex3]; rfl) (by decide) rfl ?_
    refine za_goto o 44 dL_arePeople_114 (by decide) ?_
    refine za_sub [1, 2, 3, 4, 5, 6, 7, 8, 9, 0] rfl ?_
    exact hk44 v1 v2 v3 v4 v5 v6 v7 v8 v9 x3 μ hv1 hf
  · replace hf := hf.2 c2
    refine za_iload o 7 dL_arePeople_57 rfl ?_
    refine za_aload_n o 0 dL_arePeople_59 rfl rfl ?_
    refine za_iload o 9 dL_arePeople_60 rfl ?_
    refine za_iload o 10 dL_arePeople_62 rfl ?_
    refine za_callVi o [.int v10, .int v11] (ctX7_ordered l G hv1 v10 v11  μ _ hf) zc7 hv1 mwX7_ordered wmL_15 wiX7_ordered wsX7_ordered rfl ⟨Nat.le_of_ble_eq_true rfl, Nat.le_of_ble_eq_true rfl⟩ rfl (Nat.le_of_ble_eq_true rfl) dL_arePeople_64 (fun r4 m5 hf => ?_)
    refine za_iload o 6 dL_arePeople_67 rfl ?_
    refine za_ishr o dL_arePeople_69 ?_
    refine za_topi (fun x6 ex6 => ?_)
    replace hf := hf x6 ex6
    refine za_iconst (v := (1 : Int32)) o dL_arePeople_70 (by decide) ?_
    refine za_iand o dL_arePeople_71 ?_
    refine za_topi (fun x7 ex7 => ?_)
    replace hf := hf x7 ex7
    refine za_iload o 9 dL_arePeople_72 rfl ?_
    refine za_ishl o dL_arePeople_74 ?_
    refine za_topi (fun x8 ex8 => ?_)
    replace hf := hf x8 ex8
    refine za_ior o dL_arePeople_75 ?_
    refine za_topi (fun x9 ex9 => ?_)
    replace hf := hf x9 ex9
    refine za_istore o [(8, .int x9), (0, .ref (G.2.2 + v1)), (1, .int v2), (2, .int v3), (3, .int v4), (4, .int v5), (5, .int v6), (7, .int v7), (9, .int v9), (10, .int v10), (11, .int v11)] dL_arePeople_76 (by decide) rfl ?_
    refine za_aload_n o 1 dL_arePeople_78 rfl rfl ?_
    refine za_iload o 7 dL_arePeople_79 rfl ?_
    refine za_iload o 9 dL_arePeople_81 rfl ?_
    refine za_iload o 10 dL_arePeople_83 rfl ?_
    refine za_callVi o [.int v7, .int v10, .int v11] (ctX7_why l G hv1 v7 v10 v11  m5 _ hf) zc7 hv1 mwX7_why wmL_31 wiX7_why wsX7_why rfl ⟨Nat.le_of_ble_eq_true rfl, Nat.le_of_ble_eq_true rfl⟩ rfl (Nat.le_of_ble_eq_true rfl) dL_arePeople_85 (fun r10 m11 hf => ?_)
    refine za_if_ne o 101 dL_arePeople_88 (by decide) (fun c12 => ?_) (fun c12 => ?_)
    · replace hf := hf.1 c12
      refine za_iload o 8 dL_arePeople_101 rfl ?_
      refine za_sub [1, 2, 3, 4, 5, 6, 7, 0, 9, 10] rfl ?_
      exact tL_arePeople_103 o  hk19 hk44 hk52 v1 v2 v3 v4 v5 v6 v7 x9 v10 v11 v9 m11 hv1 hf
    · replace hf := hf.2 c12
      refine za_iconst (v := (3 : Int32)) o dL_arePeople_91 (by decide) ?_
      refine za_iload o 9 dL_arePeople_92 rfl ?_
      refine za_imul o dL_arePeople_94 ?_
      refine za_topi (fun x13 ex13 => ?_)
      replace hf := hf x13 ex13
      refine za_iload o 10 dL_arePeople_95 rfl ?_
      refine za_iadd o dL_arePeople_97 ?_
      refine za_topi (fun x14 ex14 => ?_)
      replace hf := hf x14 ex14
      refine za_goto o 103 dL_arePeople_98 (by decide) ?_
      refine za_sub [1, 2, 3, 4, 5, 6, 7, 0, 9, 10] rfl ?_
      exact tL_arePeople_103 o  hk19 hk44 hk52 v1 v2 v3 v4 v5 v6 v7 x9 v10 v11 x14 m11 hv1 hf
theorem tL_arePeople_52 {p : Program} {l : Launch} {e : Env} {s : State} {m : MethodId} {args : Array Value} {below : List Frame} {meth : Method} {c : Code} {G : zG} {k19 : Nat → Int32 → Int32 → Int32 → Int32 → Int32 → Int32 → Int32 → zMem → Prop} {k44 : Nat → Int32 → Int32 → Int32 → Int32 → Int32 → Int32 → Int32 → Int32 → Int32 → zMem → Prop} {K : Int32 → zMem → Prop} (o : za_Ok (z_rm 7 151) 0 0 p s m args meth c G RL cL_arePeople 12 (some .boolean)) (hk19 : ∀ (v1 : Nat) (v2 : Int32) (v3 : Int32) (v4 : Int32) (v5 : Int32) (v6 : Int32) (v7 : Int32) (v8 : Int32) (μ : zMem), z_is v1 7 → k19 v1 v2 v3 v4 v5 v6 v7 v8 μ → za_At p l e (z_rm 7 151) s m args below meth c (MQ below (zQi G K) args s 0 0 (zA G)) G 12 0 0 19 [(0, .ref (G.2.2 + v1)), (1, .int v2), (2, .int v3), (3, .int v4), (4, .int v5), (5, .int v6), (6, .int v7), (7, .int v8)] [] μ) (hk44 : ∀ (v1 : Nat) (v2 : Int32) (v3 : Int32) (v4 : Int32) (v5 : Int32) (v6 : Int32) (v7 : Int32) (v8 : Int32) (v9 : Int32) (v10 : Int32) (μ : zMem), z_is v1 7 → k44 v1 v2 v3 v4 v5 v6 v7 v8 v9 v10 μ → za_At p l e (z_rm 7 151) s m args below meth c (MQ below (zQi G K) args s 0 0 (zA G)) G 12 0 0 44 [(0, .ref (G.2.2 + v1)), (1, .int v2), (2, .int v3), (3, .int v4), (4, .int v5), (5, .int v6), (7, .int v7), (8, .int v8), (9, .int v9), (10, .int v10)] [] μ) (n : Nat) : ∀ (v1 : Nat) (v2 : Int32) (v3 : Int32) (v4 : Int32) (v5 : Int32) (v6 : Int32) (v7 : Int32) (v8 : Int32) (v9 : Int32) (v10 : Int32) (v11 : Int32) (μ : zMem), z_is v1 7 → fL_arePeople_52 k19 k44 K n v1 v2 v3 v4 v5 v6 v7 v8 v9 v10 v11 μ → za_At p l e (z_rm 7 151) s m args below meth c (MQ below (zQi G K) args s 0 0 (zA G)) G 12 0 0 52 [(0, .ref (G.2.2 + v1)), (1, .int v2), (2, .int v3), (3, .int v4), (4, .int v5), (5, .int v6), (7, .int v7), (8, .int v8), (9, .int v9), (10, .int v10), (11, .int v11)] [] μ := by
  induction n with
  | zero => intro _ _ _ _ _ _ _ _ _ _ _ _ _ hf; exact hf.elim
  | succ n ih => intro v1 v2 v3 v4 v5 v6 v7 v8 v9 v10 v11 μ hv1 hf; exact tL_arePeople_52b o hk19 hk44 ih v1 v2 v3 v4 v5 v6 v7 v8 v9 v10 v11 μ hv1 hf
set_option maxRecDepth 100000 in
set_option maxHeartbeats 4000000 in
theorem tL_arePeople_385 {p : Program} {l : Launch} {e : Env} {s : State} {m : MethodId} {args : Array Value} {below : List Frame} {meth : Method} {c : Code} {G : zG} {k19 : Nat → Int32 → Int32 → Int32 → Int32 → Int32 → Int32 → Int32 → zMem → Prop} {K : Int32 → zMem → Prop} (o : za_Ok (z_rm 7 151) 0 0 p s m args meth c G RL cL_arePeople 12 (some .boolean)) (hk19 : ∀ (v1 : Nat) (v2 : Int32) (v3 : Int32) (v4 : Int32) (v5 : Int32) (v6 : Int32) (v7 : Int32) (v8 : Int32) (μ : zMem), z_is v1 7 → k19 v1 v2 v3 v4 v5 v6 v7 v8 μ → za_At p l e (z_rm 7 151) s m args below meth c (MQ below (zQi G K) args s 0 0 (zA G)) G 12 0 0 19 [(0, .ref (G.2.2 + v1)), (1, .int v2), (2, .int v3), (3, .int v4), (4, .int v5), (5, .int v6), (6, .int v7), (7, .int v8)] [] μ) (v1 : Nat) (v2 : Int32) (v3 : Int32) (v4 : Int32) (v5 : Int32) (v6 : Int32) (v7 : Int32) (v8 : Int32) (μ : zMem) (hv1 : z_is v1 7) (hf : fL_arePeople_385 k19 K v1 v2 v3 v4 v5 v6 v7 v8 μ) : za_At p l e (z_rm 7 151) s m args below meth c (MQ below (zQi G K) args s 0 0 (zA G)) G 12 0 0 385 [(0, .ref (G.2.2 + v1)), (1, .int v2), (2, .int v3), (3, .int v4), (4, .int v5), (5, .int v6), (7, .int v7)] [.int v8] μ := by
  unfold fL_arePeople_385 at hf
  refine za_istore o [(6, .int v8), (0, .ref (G.2.2 + v1)), (1, .int v2), (2, .int v3), (3, .int v4), (4, .int v5), (5, .int v6), (7, .int v7)] dL_arePeople_385 (by decide) rfl ?_
  obtain ⟨x15, ex15⟩ : ∃ y : Int32, y = v7 + (1 : Int32) := ⟨_, rfl⟩
  replace hf := hf x15 ex15
  refine za_iinc o x15 7 [(7, .int x15), (6, .int v8), (0, .ref (G.2.2 + v1)), (1, .int v2), (2, .int v3), (3, .int v4), (4, .int v5), (5, .int v6)] dL_arePeople_387 rfl (by rw [ex15]; rfl) (by decide) rfl ?_
  refine za_goto o 19 dL_arePeople_390 (by decide) ?_
  refine za_sub [2, 3, 4, 5, 6, 7, 1, 0] rfl ?_
  exact hk19 v1 v2 v3 v4 v5 v6 v8 x15 μ hv1 hf
set_option maxRecDepth 100000 in
set_option maxHeartbeats 4000000 in
theorem tL_arePeople_384 {p : Program} {l : Launch} {e : Env} {s : State} {m : MethodId} {args : Array Value} {below : List Frame} {meth : Method} {c : Code} {G : zG} {k19 : Nat → Int32 → Int32 → Int32 → Int32 → Int32 → Int32 → Int32 → zMem → Prop} {K : Int32 → zMem → Prop} (o : za_Ok (z_rm 7 151) 0 0 p s m args meth c G RL cL_arePeople 12 (some .boolean)) (hk19 : ∀ (v1 : Nat) (v2 : Int32) (v3 : Int32) (v4 : Int32) (v5 : Int32) (v6 : Int32) (v7 : Int32) (v8 : Int32) (μ : zMem), z_is v1 7 → k19 v1 v2 v3 v4 v5 v6 v7 v8 μ → za_At p l e (z_rm 7 151) s m args below meth c (MQ below (zQi G K) args s 0 0 (zA G)) G 12 0 0 19 [(0, .ref (G.2.2 + v1)), (1, .int v2), (2, .int v3), (3, .int v4), (4, .int v5), (5, .int v6), (6, .int v7), (7, .int v8)] [] μ) (v1 : Nat) (v2 : Int32) (v3 : Int32) (v4 : Int32) (v5 : Int32) (v6 : Int32) (v7 : Int32) (μ : zMem) (hv1 : z_is v1 7) (hf : fL_arePeople_384 k19 K v1 v2 v3 v4 v5 v6 v7 μ) : za_At p l e (z_rm 7 151) s m args below meth c (MQ below (zQi G K) args s 0 0 (zA G)) G 12 0 0 384 [(0, .ref (G.2.2 + v1)), (1, .int v2), (2, .int v3), (3, .int v4), (4, .int v5), (5, .int v6), (7, .int v7)] [] μ := by
  unfold fL_arePeople_384 at hf
  refine za_iconst (v := (0 : Int32)) o dL_arePeople_384 (by decide) ?_
  exact tL_arePeople_385 o  hk19 v1 v2 v3 v4 v5 v6 v7 (0 : Int32) μ hv1 hf
set_option maxRecDepth 100000 in
set_option maxHeartbeats 4000000 in
theorem tL_arePeople_340 {p : Program} {l : Launch} {e : Env} {s : State} {m : MethodId} {args : Array Value} {below : List Frame} {meth : Method} {c : Code} {G : zG} {k19 : Nat → Int32 → Int32 → Int32 → Int32 → Int32 → Int32 → Int32 → zMem → Prop} {K : Int32 → zMem → Prop} (o : za_Ok (z_rm 7 151) 0 0 p s m args meth c G RL cL_arePeople 12 (some .boolean)) (hk19 : ∀ (v1 : Nat) (v2 : Int32) (v3 : Int32) (v4 : Int32) (v5 : Int32) (v6 : Int32) (v7 : Int32) (v8 : Int32) (μ : zMem), z_is v1 7 → k19 v1 v2 v3 v4 v5 v6 v7 v8 μ → za_At p l e (z_rm 7 151) s m args below meth c (MQ below (zQi G K) args s 0 0 (zA G)) G 12 0 0 19 [(0, .ref (G.2.2 + v1)), (1, .int v2), (2, .int v3), (3, .int v4), (4, .int v5), (5, .int v6), (6, .int v7), (7, .int v8)] [] μ) (v1 : Nat) (v2 : Int32) (v3 : Int32) (v4 : Int32) (v5 : Int32) (v6 : Int32) (v7 : Int32) (μ : zMem) (hv1 : z_is v1 7) (hf : fL_arePeople_340 k19 K v1 v2 v3 v4 v5 v6 v7 μ) : za_At p l e (z_rm 7 151) s m args below meth c (MQ below (zQi G K) args s 0 0 (zA G)) G 12 0 0 340 [(0, .ref (G.2.2 + v1)), (1, .int v2), (2, .int v3), (3, .int v4), (4, .int v5), (5, .int v6), (7, .int v7)] [] μ := by
  unfold fL_arePeople_340 at hf
  refine za_aload_n o 0 dL_arePeople_340 rfl rfl ?_
  refine za_iload o 6 dL_arePeople_341 rfl ?_
  refine za_iconst (v := (0 : Int32)) o dL_arePeople_343 (by decide) ?_
  refine za_callVi o [.int v7, .int (0 : Int32)] (ctX7_of l G hv1 v7 (0 : Int32)  μ _ hf) zc7 hv1 mwX7_of wmL_9 wiX7_of wsX7_of rfl ⟨Nat.le_of_ble_eq_true rfl, Nat.le_of_ble_eq_true rfl⟩ rfl (Nat.le_of_ble_eq_true rfl) dL_arePeople_344 (fun r16 m17 hf => ?_)
  refine za_if_lt o 384 dL_arePeople_347 (by decide) (fun c18 => ?_) (fun c18 => ?_)
  · replace hf := hf.1 c18
    exact tL_arePeople_384 o  hk19 v1 v2 v3 v4 v5 v6 v7 m17 hv1 hf
  · replace hf := hf.2 c18
    refine za_aload_n o 0 dL_arePeople_350 rfl rfl ?_
    refine za_iload o 6 dL_arePeople_351 rfl ?_
    refine za_iconst (v := (0 : Int32)) o dL_arePeople_353 (by decide) ?_
    refine za_callVi o [.int v7, .int (0 : Int32)] (ctX7_of l G hv1 v7 (0 : Int32)  m17 _ hf) zc7 hv1 mwX7_of wmL_9 wiX7_of wsX7_of rfl ⟨Nat.le_of_ble_eq_true rfl, Nat.le_of_ble_eq_true rfl⟩ rfl (Nat.le_of_ble_eq_true rfl) dL_arePeople_354 (fun r19 m20 hf => ?_)
    refine za_bipush (v := (30 : Int32)) o dL_arePeople_357 (by decide) ?_
    refine za_icmp_gt o 384 dL_arePeople_359 (by decide) (fun c21 => ?_) (fun c21 => ?_)
    · replace hf := hf.1 c21
      exact tL_arePeople_384 o  hk19 v1 v2 v3 v4 v5 v6 v7 m20 hv1 hf
    · replace hf := hf.2 c21
      refine za_aload_n o 0 dL_arePeople_362 rfl rfl ?_
      refine za_iload o 6 dL_arePeople_363 rfl ?_
      refine za_iconst (v := (3 : Int32)) o dL_arePeople_365 (by decide) ?_
      refine za_callVi o [.int v7, .int (3 : Int32)] (ctX7_of l G hv1 v7 (3 : Int32)  m20 _ hf) zc7 hv1 mwX7_of wmL_9 wiX7_of wsX7_of rfl ⟨Nat.le_of_ble_eq_true rfl, Nat.le_of_ble_eq_true rfl⟩ rfl (Nat.le_of_ble_eq_true rfl) dL_arePeople_366 (fun r22 m23 hf => ?_)
      refine za_aload_n o 0 dL_arePeople_369 rfl rfl ?_
      refine za_iload o 6 dL_arePeople_370 rfl ?_
      refine za_bipush (v := (6 : Int32)) o dL_arePeople_372 (by decide) ?_
      refine za_callVi o [.int v7, .int (6 : Int32)] (ctX7_of l G hv1 v7 (6 : Int32)  m23 _ hf) zc7 hv1 mwX7_of wmL_9 wiX7_of wsX7_of rfl ⟨Nat.le_of_ble_eq_true rfl, Nat.le_of_ble_eq_true rfl⟩ rfl (Nat.le_of_ble_eq_true rfl) dL_arePeople_374 (fun r24 m25 hf => ?_)
      refine za_icmp_gt o 384 dL_arePeople_377 (by decide) (fun c26 => ?_) (fun c26 => ?_)
      · replace hf := hf.1 c26
        exact tL_arePeople_384 o  hk19 v1 v2 v3 v4 v5 v6 v7 m25 hv1 hf
      · replace hf := hf.2 c26
        refine za_iconst (v := (1 : Int32)) o dL_arePeople_380 (by decide) ?_
        refine za_goto o 385 dL_arePeople_381 (by decide) ?_
        exact tL_arePeople_385 o  hk19 v1 v2 v3 v4 v5 v6 v7 (1 : Int32) m25 hv1 hf
set_option maxRecDepth 100000 in
set_option maxHeartbeats 4000000 in
theorem tL_arePeople_284 {p : Program} {l : Launch} {e : Env} {s : State} {m : MethodId} {args : Array Value} {below : List Frame} {meth : Method} {c : Code} {G : zG} {k19 : Nat → Int32 → Int32 → Int32 → Int32 → Int32 → Int32 → Int32 → zMem → Prop} {K : Int32 → zMem → Prop} (o : za_Ok (z_rm 7 151) 0 0 p s m args meth c G RL cL_arePeople 12 (some .boolean)) (hk19 : ∀ (v1 : Nat) (v2 : Int32) (v3 : Int32) (v4 : Int32) (v5 : Int32) (v6 : Int32) (v7 : Int32) (v8 : Int32) (μ : zMem), z_is v1 7 → k19 v1 v2 v3 v4 v5 v6 v7 v8 μ → za_At p l e (z_rm 7 151) s m args below meth c (MQ below (zQi G K) args s 0 0 (zA G)) G 12 0 0 19 [(0, .ref (G.2.2 + v1)), (1, .int v2), (2, .int v3), (3, .int v4), (4, .int v5), (5, .int v6), (6, .int v7), (7, .int v8)] [] μ) (v1 : Nat) (v2 : Int32) (v3 : Int32) (v4 : Int32) (v5 : Int32) (v6 : Int32) (v7 : Int32) (v8 : Int32) (v9 : Int32) (v10 : Int32) (μ : zMem) (hv1 : z_is v1 7) (hf : fL_arePeople_284 k19 K v1 v2 v3 v4 v5 v6 v7 v8 v9 v10 μ) : za_At p l e (z_rm 7 151) s m args below meth c (MQ below (zQi G K) args s 0 0 (zA G)) G 12 0 0 284 [(0, .ref (G.2.2 + v1)), (1, .int v2), (2, .int v3), (3, .int v4), (4, .int v5), (7, .int v6), (8, .int v7), (9, .int v8), (10, .int v9)] [.int v10] μ := by
  unfold fL_arePeople_284 at hf
  refine za_istore o [(5, .int v10), (0, .ref (G.2.2 + v1)), (1, .int v2), (2, .int v3), (3, .int v4), (4, .int v5), (7, .int v6), (8, .int v7), (9, .int v8), (10, .int v9)] dL_arePeople_284 (by decide) rfl ?_
  refine za_iload o 7 dL_arePeople_286 rfl ?_
  refine za_aload_n o 1 dL_arePeople_288 rfl rfl ?_
  refine za_iload o 6 dL_arePeople_289 rfl ?_
  refine za_iconst (v := (2 : Int32)) o dL_arePeople_291 (by decide) ?_
  refine za_callVi o [.int v6, .int (2 : Int32)] (ctX7_of l G hv1 v6 (2 : Int32)  μ _ hf) zc7 hv1 mwX7_of wmL_9 wiX7_of wsX7_of rfl ⟨Nat.le_of_ble_eq_true rfl, Nat.le_of_ble_eq_true rfl⟩ rfl (Nat.le_of_ble_eq_true rfl) dL_arePeople_292 (fun r27 m28 hf => ?_)
  refine za_icmp_ne o 384 dL_arePeople_295 (by decide) (fun c29 => ?_) (fun c29 => ?_)
  · replace hf := hf.1 c29
    refine za_sub [1, 2, 3, 4, 5, 0, 6] rfl ?_
    exact tL_arePeople_384 o  hk19 v1 v2 v3 v4 v5 v10 v6 m28 hv1 hf
  · replace hf := hf.2 c29
    refine za_iload o 8 dL_arePeople_298 rfl ?_
    refine za_aload_n o 1 dL_arePeople_300 rfl rfl ?_
    refine za_iload o 6 dL_arePeople_301 rfl ?_
    refine za_callVi o [.int v6] (ctX7_firstOrder l G hv1 v6  m28 _ hf) zc7 hv1 mwX7_firstOrder wmL_35 wiX7_firstOrder wsX7_firstOrder rfl ⟨Nat.le_of_ble_eq_true rfl, Nat.le_of_ble_eq_true rfl⟩ rfl (Nat.le_of_ble_eq_true rfl) dL_arePeople_303 (fun r30 m31 hf => ?_)
    refine za_icmp_ne o 384 dL_arePeople_306 (by decide) (fun c32 => ?_) (fun c32 => ?_)
    · replace hf := hf.1 c32
      refine za_sub [1, 2, 3, 4, 5, 0, 6] rfl ?_
      exact tL_arePeople_384 o  hk19 v1 v2 v3 v4 v5 v10 v6 m31 hv1 hf
    · replace hf := hf.2 c32
      refine za_iload o 9 dL_arePeople_309 rfl ?_
      refine za_if_lt o 333 dL_arePeople_311 (by decide) (fun c33 => ?_) (fun c33 => ?_)
      · replace hf := hf.1 c33
        refine za_iload o 7 dL_arePeople_333 rfl ?_
        refine za_iconst (v := (1 : Int32)) o dL_arePeople_335 (by decide) ?_
        refine za_iand o dL_arePeople_336 ?_
        refine za_topi (fun x34 ex34 => ?_)
        replace hf := hf x34 ex34
        refine za_if_ne o 384 dL_arePeople_337 (by decide) (fun c35 => ?_) (fun c35 => ?_)
        · replace hf := hf.1 c35
          refine za_sub [1, 2, 3, 4, 5, 0, 6] rfl ?_
          exact tL_arePeople_384 o  hk19 v1 v2 v3 v4 v5 v10 v6 m31 hv1 hf
        · replace hf := hf.2 c35
          refine za_sub [1, 2, 3, 4, 5, 0, 6] rfl ?_
          exact tL_arePeople_340 o  hk19 v1 v2 v3 v4 v5 v10 v6 m31 hv1 hf
      · replace hf := hf.2 c33
        refine za_aload_n o 1 dL_arePeople_314 rfl rfl ?_
        refine za_iconst (v := (0 : Int32)) o dL_arePeople_315 (by decide) ?_
        refine za_iload o 9 dL_arePeople_316 rfl ?_
        refine za_callVi o [.int (0 : Int32), .int v9] (ctX7_ordered l G hv1 (0 : Int32) v9  m31 _ hf) zc7 hv1 mwX7_ordered wmL_15 wiX7_ordered wsX7_ordered rfl ⟨Nat.le_of_ble_eq_true rfl, Nat.le_of_ble_eq_true rfl⟩ rfl (Nat.le_of_ble_eq_true rfl) dL_arePeople_318 (fun r36 m37 hf => ?_)
        refine za_iload o 6 dL_arePeople_321 rfl ?_
        refine za_ishr o dL_arePeople_323 ?_
        refine za_topi (fun x38 ex38 => ?_)
        replace hf := hf x38 ex38
        refine za_iconst (v := (1 : Int32)) o dL_arePeople_324 (by decide) ?_
        refine za_iand o dL_arePeople_325 ?_
        refine za_topi (fun x39 ex39 => ?_)
        replace hf := hf x39 ex39
        refine za_iconst (v := (1 : Int32)) o dL_arePeople_326 (by decide) ?_
        refine za_icmp_ne o 384 dL_arePeople_327 (by decide) (fun c40 => ?_) (fun c40 => ?_)
        · replace hf := hf.1 c40
          refine za_sub [1, 2, 3, 4, 5, 0, 6] rfl ?_
          exact tL_arePeople_384 o  hk19 v1 v2 v3 v4 v5 v10 v6 m37 hv1 hf
        · replace hf := hf.2 c40
          refine za_goto o 340 dL_arePeople_330 (by decide) ?_
          refine za_sub [1, 2, 3, 4, 5, 0, 6] rfl ?_
          exact tL_arePeople_340 o  hk19 v1 v2 v3 v4 v5 v10 v6 m37 hv1 hf
set_option maxRecDepth 100000 in
set_option maxHeartbeats 4000000 in
theorem tL_arePeople_282 {p : Program} {l : Launch} {e : Env} {s : State} {m : MethodId} {args : Array Value} {below : List Frame} {meth : Method} {c : Code} {G : zG} {k19 : Nat → Int32 → Int32 → Int32 → Int32 → Int32 → Int32 → Int32 → zMem → Prop} {K : Int32 → zMem → Prop} (o : za_Ok (z_rm 7 151) 0 0 p s m args meth c G RL cL_arePeople 12 (some .boolean)) (hk19 : ∀ (v1 : Nat) (v2 : Int32) (v3 : Int32) (v4 : Int32) (v5 : Int32) (v6 : Int32) (v7 : Int32) (v8 : Int32) (μ : zMem), z_is v1 7 → k19 v1 v2 v3 v4 v5 v6 v7 v8 μ → za_At p l e (z_rm 7 151) s m args below meth c (MQ below (zQi G K) args s 0 0 (zA G)) G 12 0 0 19 [(0, .ref (G.2.2 + v1)), (1, .int v2), (2, .int v3), (3, .int v4), (4, .int v5), (5, .int v6), (6, .int v7), (7, .int v8)] [] μ) (v1 : Nat) (v2 : Int32) (v3 : Int32) (v4 : Int32) (v5 : Int32) (v6 : Int32) (v7 : Int32) (v8 : Int32) (v9 : Int32) (v10 : Int32) (μ : zMem) (hv1 : z_is v1 7) (hf : fL_arePeople_282 k19 K v1 v2 v3 v4 v5 v6 v7 v8 v9 v10 μ) : za_At p l e (z_rm 7 151) s m args below meth c (MQ below (zQi G K) args s 0 0 (zA G)) G 12 0 0 282 [(0, .ref (G.2.2 + v1)), (1, .int v2), (2, .int v3), (3, .int v4), (4, .int v5), (5, .int v6), (7, .int v7), (8, .int v8), (9, .int v9), (10, .int v10)] [] μ := by
  unfold fL_arePeople_282 at hf
  refine za_iload o 5 dL_arePeople_282 rfl ?_
  refine za_sub [0, 1, 2, 3, 4, 6, 7, 8, 9] rfl ?_
  exact tL_arePeople_284 o  hk19 v1 v2 v3 v4 v5 v7 v8 v9 v10 v6 μ hv1 hf
set_option maxRecDepth 100000 in
set_option maxHeartbeats 4000000 in
theorem tL_arePeople_261 {p : Program} {l : Launch} {e : Env} {s : State} {m : MethodId} {args : Array Value} {below : List Frame} {meth : Method} {c : Code} {G : zG} {k19 : Nat → Int32 → Int32 → Int32 → Int32 → Int32 → Int32 → Int32 → zMem → Prop} {K : Int32 → zMem → Prop} (o : za_Ok (z_rm 7 151) 0 0 p s m args meth c G RL cL_arePeople 12 (some .boolean)) (hk19 : ∀ (v1 : Nat) (v2 : Int32) (v3 : Int32) (v4 : Int32) (v5 : Int32) (v6 : Int32) (v7 : Int32) (v8 : Int32) (μ : zMem), z_is v1 7 → k19 v1 v2 v3 v4 v5 v6 v7 v8 μ → za_At p l e (z_rm 7 151) s m args below meth c (MQ below (zQi G K) args s 0 0 (zA G)) G 12 0 0 19 [(0, .ref (G.2.2 + v1)), (1, .int v2), (2, .int v3), (3, .int v4), (4, .int v5), (5, .int v6), (6, .int v7), (7, .int v8)] [] μ) (v1 : Nat) (v2 : Int32) (v3 : Int32) (v4 : Int32) (v5 : Int32) (v6 : Int32) (v7 : Int32) (v8 : Int32) (v9 : Int32) (v10 : Int32) (v11 : Int32) (μ : zMem) (hv1 : z_is v1 7) (hf : fL_arePeople_261 k19 K v1 v2 v3 v4 v5 v6 v7 v8 v9 v10 v11 μ) : za_At p l e (z_rm 7 151) s m args below meth c (MQ below (zQi G K) args s 0 0 (zA G)) G 12 0 0 261 [(0, .ref (G.2.2 + v1)), (1, .int v2), (2, .int v3), (3, .int v4), (4, .int v5), (5, .int v6), (7, .int v7), (8, .int v8), (9, .int v9), (10, .int v10)] [.int v11] μ := by
  unfold fL_arePeople_261 at hf
  refine za_istore o [(11, .int v11), (0, .ref (G.2.2 + v1)), (1, .int v2), (2, .int v3), (3, .int v4), (4, .int v5), (5, .int v6), (7, .int v7), (8, .int v8), (9, .int v9), (10, .int v10)] dL_arePeople_261 (by decide) rfl ?_
  refine za_aload_n o 1 dL_arePeople_263 rfl rfl ?_
  refine za_iload o 7 dL_arePeople_264 rfl ?_
  refine za_callSi o [.ref (G.2.2 + v1), .int v7] (ctL_doubt l G v1 v7 hv1 μ _ hf) mwL_doubt wmL_22 wtL_doubt rfl ⟨Nat.le_of_ble_eq_true rfl, Nat.le_of_ble_eq_true rfl⟩ rfl (Nat.le_of_ble_eq_true rfl) dL_arePeople_266 (fun r41 m42 hf => ?_)
  refine za_if_le o 282 dL_arePeople_269 (by decide) (fun c43 => ?_) (fun c43 => ?_)
  · replace hf := hf.1 c43
    refine za_sub [1, 2, 3, 4, 5, 6, 7, 8, 9, 10] rfl ?_
    exact tL_arePeople_282 o  hk19 v1 v2 v3 v4 v5 v6 v7 v8 v9 v10 m42 hv1 hf
  · replace hf := hf.2 c43
    refine za_iload o 0 dL_arePeople_272 rfl ?_
    refine za_if_eq o 282 dL_arePeople_274 (by decide) (fun c44 => ?_) (fun c44 => ?_)
    · replace hf := hf.1 c44
      refine za_sub [1, 2, 3, 4, 5, 6, 7, 8, 9, 10] rfl ?_
      exact tL_arePeople_282 o  hk19 v1 v2 v3 v4 v5 v6 v7 v8 v9 v10 m42 hv1 hf
    · replace hf := hf.2 c44
      refine za_iload o 7 dL_arePeople_277 rfl ?_
      refine za_goto o 284 dL_arePeople_279 (by decide) ?_
      refine za_sub [1, 2, 3, 4, 5, 7, 8, 9, 10] rfl ?_
      exact tL_arePeople_284 o  hk19 v1 v2 v3 v4 v5 v7 v8 v9 v10 v7 m42 hv1 hf
set_option maxRecDepth 100000 in
set_option maxHeartbeats 4000000 in
theorem tL_arePeople_256 {p : Program} {l : Launch} {e : Env} {s : State} {m : MethodId} {args : Array Value} {below : List Frame} {meth : Method} {c : Code} {G : zG} {k19 : Nat → Int32 → Int32 → Int32 → Int32 → Int32 → Int32 → Int32 → zMem → Prop} {K : Int32 → zMem → Prop} (o : za_Ok (z_rm 7 151) 0 0 p s m args meth c G RL cL_arePeople 12 (some .boolean)) (hk19 : ∀ (v1 : Nat) (v2 : Int32) (v3 : Int32) (v4 : Int32) (v5 : Int32) (v6 : Int32) (v7 : Int32) (v8 : Int32) (μ : zMem), z_is v1 7 → k19 v1 v2 v3 v4 v5 v6 v7 v8 μ → za_At p l e (z_rm 7 151) s m args below meth c (MQ below (zQi G K) args s 0 0 (zA G)) G 12 0 0 19 [(0, .ref (G.2.2 + v1)), (1, .int v2), (2, .int v3), (3, .int v4), (4, .int v5), (5, .int v6), (6, .int v7), (7, .int v8)] [] μ) (v1 : Nat) (v2 : Int32) (v3 : Int32) (v4 : Int32) (v5 : Int32) (v6 : Int32) (v7 : Int32) (v8 : Int32) (v9 : Int32) (v10 : Int32) (μ : zMem) (hv1 : z_is v1 7) (hf : fL_arePeople_256 k19 K v1 v2 v3 v4 v5 v6 v7 v8 v9 v10 μ) : za_At p l e (z_rm 7 151) s m args below meth c (MQ below (zQi G K) args s 0 0 (zA G)) G 12 0 0 256 [(0, .ref (G.2.2 + v1)), (1, .int v2), (2, .int v3), (3, .int v4), (4, .int v5), (5, .int v6), (7, .int v7), (8, .int v8), (9, .int v9), (10, .int v10)] [] μ := by
  unfold fL_arePeople_256 at hf
  refine za_iconst (v := (1 : Int32)) o dL_arePeople_256 (by decide) ?_
  refine za_goto o 261 dL_arePeople_257 (by decide) ?_
  exact tL_arePeople_261 o  hk19 v1 v2 v3 v4 v5 v6 v7 v8 v9 v10 (1 : Int32) μ hv1 hf
set_option maxRecDepth 100000 in
set_option maxHeartbeats 4000000 in
theorem tL_arePeople_260 {p : Program} {l : Launch} {e : Env} {s : State} {m : MethodId} {args : Array Value} {below : List Frame} {meth : Method} {c : Code} {G : zG} {k19 : Nat → Int32 → Int32 → Int32 → Int32 → Int32 → Int32 → Int32 → zMem → Prop} {K : Int32 → zMem → Prop} (o : za_Ok (z_rm 7 151) 0 0 p s m args meth c G RL cL_arePeople 12 (some .boolean)) (hk19 : ∀ (v1 : Nat) (v2 : Int32) (v3 : Int32) (v4 : Int32) (v5 : Int32) (v6 : Int32) (v7 : Int32) (v8 : Int32) (μ : zMem), z_is v1 7 → k19 v1 v2 v3 v4 v5 v6 v7 v8 μ → za_At p l e (z_rm 7 151) s m args below meth c (MQ below (zQi G K) args s 0 0 (zA G)) G 12 0 0 19 [(0, .ref (G.2.2 + v1)), (1, .int v2), (2, .int v3), (3, .int v4), (4, .int v5), (5, .int v6), (6, .int v7), (7, .int v8)] [] μ) (v1 : Nat) (v2 : Int32) (v3 : Int32) (v4 : Int32) (v5 : Int32) (v6 : Int32) (v7 : Int32) (v8 : Int32) (v9 : Int32) (v10 : Int32) (μ : zMem) (hv1 : z_is v1 7) (hf : fL_arePeople_260 k19 K v1 v2 v3 v4 v5 v6 v7 v8 v9 v10 μ) : za_At p l e (z_rm 7 151) s m args below meth c (MQ below (zQi G K) args s 0 0 (zA G)) G 12 0 0 260 [(0, .ref (G.2.2 + v1)), (1, .int v2), (2, .int v3), (3, .int v4), (4, .int v5), (5, .int v6), (7, .int v7), (8, .int v8), (9, .int v9), (10, .int v10)] [] μ := by
  unfold fL_arePeople_260 at hf
  refine za_iconst (v := (0 : Int32)) o dL_arePeople_260 (by decide) ?_
  exact tL_arePeople_261 o  hk19 v1 v2 v3 v4 v5 v6 v7 v8 v9 v10 (0 : Int32) μ hv1 hf
set_option maxRecDepth 100000 in
set_option maxHeartbeats 4000000 in
theorem tL_arePeople_183 {p : Program} {l : Launch} {e : Env} {s : State} {m : MethodId} {args : Array Value} {below : List Frame} {meth : Method} {c : Code} {G : zG} {k19 : Nat → Int32 → Int32 → Int32 → Int32 → Int32 → Int32 → Int32 → zMem → Prop} {K : Int32 → zMem → Prop} (o : za_Ok (z_rm 7 151) 0 0 p s m args meth c G RL cL_arePeople 12 (some .boolean)) (hk19 : ∀ (v1 : Nat) (v2 : Int32) (v3 : Int32) (v4 : Int32) (v5 : Int32) (v6 : Int32) (v7 : Int32) (v8 : Int32) (μ : zMem), z_is v1 7 → k19 v1 v2 v3 v4 v5 v6 v7 v8 μ → za_At p l e (z_rm 7 151) s m args below meth c (MQ below (zQi G K) args s 0 0 (zA G)) G 12 0 0 19 [(0, .ref (G.2.2 + v1)), (1, .int v2), (2, .int v3), (3, .int v4), (4, .int v5), (5, .int v6), (6, .int v7), (7, .int v8)] [] μ) (v1 : Nat) (v2 : Int32) (v3 : Int32) (v4 : Int32) (v5 : Int32) (v6 : Int32) (v7 : Int32) (v8 : Int32) (v9 : Int32) (v10 : Int32) (v11 : Int32) (μ : zMem) (hv1 : z_is v1 7) (hf : fL_arePeople_183 k19 K v1 v2 v3 v4 v5 v6 v7 v8 v9 v10 v11 μ) : za_At p l e (z_rm 7 151) s m args below meth c (MQ below (zQi G K) args s 0 0 (zA G)) G 12 0 0 183 [(0, .ref (G.2.2 + v1)), (1, .int v2), (2, .int v3), (3, .int v4), (5, .int v5), (7, .int v6), (8, .int v7), (9, .int v8), (10, .int v9)] [.int v10, .int v11] μ := by
  unfold fL_arePeople_183 at hf
  refine za_ior o dL_arePeople_183 ?_
  refine za_topi (fun x45 ex45 => ?_)
  replace hf := hf x45 ex45
  refine za_istore o [(4, .int x45), (0, .ref (G.2.2 + v1)), (1, .int v2), (2, .int v3), (3, .int v4), (5, .int v5), (7, .int v6), (8, .int v7), (9, .int v8), (10, .int v9)] dL_arePeople_184 (by decide) rfl ?_
  refine za_iload o 5 dL_arePeople_186 rfl ?_
  refine za_if_lt o 256 dL_arePeople_188 (by decide) (fun c46 => ?_) (fun c46 => ?_)
  · replace hf := hf.1 c46
    refine za_sub [1, 2, 3, 4, 0, 5, 6, 7, 8, 9] rfl ?_
    exact tL_arePeople_256 o  hk19 v1 v2 v3 v4 x45 v5 v6 v7 v8 v9 μ hv1 hf
  · replace hf := hf.2 c46
    refine za_aload_n o 1 dL_arePeople_191 rfl rfl ?_
    refine za_iload o 6 dL_arePeople_192 rfl ?_
    refine za_callSi o [.ref (G.2.2 + v1), .int v6] (ctL_doubt l G v1 v6 hv1 μ _ hf) mwL_doubt wmL_22 wtL_doubt rfl ⟨Nat.le_of_ble_eq_true rfl, Nat.le_of_ble_eq_true rfl⟩ rfl (Nat.le_of_ble_eq_true rfl) dL_arePeople_194 (fun r47 m48 hf => ?_)
    refine za_aload_n o 1 dL_arePeople_197 rfl rfl ?_
    refine za_iload o 5 dL_arePeople_198 rfl ?_
    refine za_callSi o [.ref (G.2.2 + v1), .int v5] (ctL_doubt l G v1 v5 hv1 m48 _ hf) mwL_doubt wmL_22 wtL_doubt rfl ⟨Nat.le_of_ble_eq_true rfl, Nat.le_of_ble_eq_true rfl⟩ rfl (Nat.le_of_ble_eq_true rfl) dL_arePeople_200 (fun r49 m50 hf => ?_)
    refine za_icmp_gt o 256 dL_arePeople_203 (by decide) (fun c51 => ?_) (fun c51 => ?_)
    · replace hf := hf.1 c51
      refine za_sub [1, 2, 3, 4, 0, 5, 6, 7, 8, 9] rfl ?_
      exact tL_arePeople_256 o  hk19 v1 v2 v3 v4 x45 v5 v6 v7 v8 v9 m50 hv1 hf
    · replace hf := hf.2 c51
      refine za_aload_n o 1 dL_arePeople_206 rfl rfl ?_
      refine za_iload o 6 dL_arePeople_207 rfl ?_
      refine za_callSi o [.ref (G.2.2 + v1), .int v6] (ctL_doubt l G v1 v6 hv1 m50 _ hf) mwL_doubt wmL_22 wtL_doubt rfl ⟨Nat.le_of_ble_eq_true rfl, Nat.le_of_ble_eq_true rfl⟩ rfl (Nat.le_of_ble_eq_true rfl) dL_arePeople_209 (fun r52 m53 hf => ?_)
      refine za_aload_n o 1 dL_arePeople_212 rfl rfl ?_
      refine za_iload o 5 dL_arePeople_213 rfl ?_
      refine za_callSi o [.ref (G.2.2 + v1), .int v5] (ctL_doubt l G v1 v5 hv1 m53 _ hf) mwL_doubt wmL_22 wtL_doubt rfl ⟨Nat.le_of_ble_eq_true rfl, Nat.le_of_ble_eq_true rfl⟩ rfl (Nat.le_of_ble_eq_true rfl) dL_arePeople_215 (fun r54 m55 hf => ?_)
      refine za_icmp_ne o 260 dL_arePeople_218 (by decide) (fun c56 => ?_) (fun c56 => ?_)
      · replace hf := hf.1 c56
        refine za_sub [1, 2, 3, 4, 0, 5, 6, 7, 8, 9] rfl ?_
        exact tL_arePeople_260 o  hk19 v1 v2 v3 v4 x45 v5 v6 v7 v8 v9 m55 hv1 hf
      · replace hf := hf.2 c56
        refine za_aload_n o 1 dL_arePeople_221 rfl rfl ?_
        refine za_iload o 6 dL_arePeople_222 rfl ?_
        refine za_iconst (v := (5 : Int32)) o dL_arePeople_224 (by decide) ?_
        refine za_callVi o [.int v6, .int (5 : Int32)] (ctX7_of l G hv1 v6 (5 : Int32)  m55 _ hf) zc7 hv1 mwX7_of wmL_9 wiX7_of wsX7_of rfl ⟨Nat.le_of_ble_eq_true rfl, Nat.le_of_ble_eq_true rfl⟩ rfl (Nat.le_of_ble_eq_true rfl) dL_arePeople_225 (fun r57 m58 hf => ?_)
        refine za_aload_n o 1 dL_arePeople_228 rfl rfl ?_
        refine za_iload o 6 dL_arePeople_229 rfl ?_
        refine za_bipush (v := (6 : Int32)) o dL_arePeople_231 (by decide) ?_
        refine za_callVi o [.int v6, .int (6 : Int32)] (ctX7_of l G hv1 v6 (6 : Int32)  m58 _ hf) zc7 hv1 mwX7_of wmL_9 wiX7_of wsX7_of rfl ⟨Nat.le_of_ble_eq_true rfl, Nat.le_of_ble_eq_true rfl⟩ rfl (Nat.le_of_ble_eq_true rfl) dL_arePeople_233 (fun r59 m60 hf => ?_)
        refine za_iadd o dL_arePeople_236 ?_
        refine za_topi (fun x61 ex61 => ?_)
        replace hf := hf x61 ex61
        refine za_aload_n o 1 dL_arePeople_237 rfl rfl ?_
        refine za_iload o 5 dL_arePeople_238 rfl ?_
        refine za_iconst (v := (5 : Int32)) o dL_arePeople_240 (by decide) ?_
        refine za_callVi o [.int v5, .int (5 : Int32)] (ctX7_of l G hv1 v5 (5 : Int32)  m60 _ hf) zc7 hv1 mwX7_of wmL_9 wiX7_of wsX7_of rfl ⟨Nat.le_of_ble_eq_true rfl, Nat.le_of_ble_eq_true rfl⟩ rfl (Nat.le_of_ble_eq_true rfl) dL_arePeople_241 (fun r62 m63 hf => ?_)
        refine za_aload_n o 1 dL_arePeople_244 rfl rfl ?_
        refine za_iload o 5 dL_arePeople_245 rfl ?_
        refine za_bipush (v := (6 : Int32)) o dL_arePeople_247 (by decide) ?_
        refine za_callVi o [.int v5, .int (6 : Int32)] (ctX7_of l G hv1 v5 (6 : Int32)  m63 _ hf) zc7 hv1 mwX7_of wmL_9 wiX7_of wsX7_of rfl ⟨Nat.le_of_ble_eq_true rfl, Nat.le_of_ble_eq_true rfl⟩ rfl (Nat.le_of_ble_eq_true rfl) dL_arePeople_249 (fun r64 m65 hf => ?_)
        refine za_iadd o dL_arePeople_252 ?_
        refine za_topi (fun x66 ex66 => ?_)
        replace hf := hf x66 ex66
        refine za_icmp_le o 260 dL_arePeople_253 (by decide) (fun c67 => ?_) (fun c67 => ?_)
        · replace hf := hf.1 c67
          refine za_sub [1, 2, 3, 4, 0, 5, 6, 7, 8, 9] rfl ?_
          exact tL_arePeople_260 o  hk19 v1 v2 v3 v4 x45 v5 v6 v7 v8 v9 m65 hv1 hf
        · replace hf := hf.2 c67
          refine za_sub [1, 2, 3, 4, 0, 5, 6, 7, 8, 9] rfl ?_
          exact tL_arePeople_256 o  hk19 v1 v2 v3 v4 x45 v5 v6 v7 v8 v9 m65 hv1 hf
set_option maxRecDepth 100000 in
set_option maxHeartbeats 4000000 in
theorem tL_arePeople_44b {p : Program} {l : Launch} {e : Env} {s : State} {m : MethodId} {args : Array Value} {below : List Frame} {meth : Method} {c : Code} {G : zG} {k19 : Nat → Int32 → Int32 → Int32 → Int32 → Int32 → Int32 → Int32 → zMem → Prop} {k44 : Nat → Int32 → Int32 → Int32 → Int32 → Int32 → Int32 → Int32 → Int32 → Int32 → zMem → Prop} {K : Int32 → zMem → Prop} (o : za_Ok (z_rm 7 151) 0 0 p s m args meth c G RL cL_arePeople 12 (some .boolean)) (hk19 : ∀ (v1 : Nat) (v2 : Int32) (v3 : Int32) (v4 : Int32) (v5 : Int32) (v6 : Int32) (v7 : Int32) (v8 : Int32) (μ : zMem), z_is v1 7 → k19 v1 v2 v3 v4 v5 v6 v7 v8 μ → za_At p l e (z_rm 7 151) s m args below meth c (MQ below (zQi G K) args s 0 0 (zA G)) G 12 0 0 19 [(0, .ref (G.2.2 + v1)), (1, .int v2), (2, .int v3), (3, .int v4), (4, .int v5), (5, .int v6), (6, .int v7), (7, .int v8)] [] μ) (hk44 : ∀ (v1 : Nat) (v2 : Int32) (v3 : Int32) (v4 : Int32) (v5 : Int32) (v6 : Int32) (v7 : Int32) (v8 : Int32) (v9 : Int32) (v10 : Int32) (μ : zMem), z_is v1 7 → k44 v1 v2 v3 v4 v5 v6 v7 v8 v9 v10 μ → za_At p l e (z_rm 7 151) s m args below meth c (MQ below (zQi G K) args s 0 0 (zA G)) G 12 0 0 44 [(0, .ref (G.2.2 + v1)), (1, .int v2), (2, .int v3), (3, .int v4), (4, .int v5), (5, .int v6), (7, .int v7), (8, .int v8), (9, .int v9), (10, .int v10)] [] μ) (v1 : Nat) (v2 : Int32) (v3 : Int32) (v4 : Int32) (v5 : Int32) (v6 : Int32) (v7 : Int32) (v8 : Int32) (v9 : Int32) (v10 : Int32) (μ : zMem) (hv1 : z_is v1 7) (hf : fL_arePeople_44b k19 k44 K v1 v2 v3 v4 v5 v6 v7 v8 v9 v10 μ) : za_At p l e (z_rm 7 151) s m args below meth c (MQ below (zQi G K) args s 0 0 (zA G)) G 12 0 0 44 [(0, .ref (G.2.2 + v1)), (1, .int v2), (2, .int v3), (3, .int v4), (4, .int v5), (5, .int v6), (7, .int v7), (8, .int v8), (9, .int v9), (10, .int v10)] [] μ := by
  unfold fL_arePeople_44b at hf
  refine za_iload o 9 dL_arePeople_44 rfl ?_
  refine za_if_lt o 117 dL_arePeople_46 (by decide) (fun c68 => ?_) (fun c68 => ?_)
  · replace hf := hf.1 c68
    refine za_aload_n o 0 dL_arePeople_117 rfl rfl ?_
    refine za_iload o 6 dL_arePeople_118 rfl ?_
    refine za_iconst (v := (1 : Int32)) o dL_arePeople_120 (by decide) ?_
    refine za_callVi o [.int v7, .int (1 : Int32)] (ctX7_of l G hv1 v7 (1 : Int32)  μ _ hf) zc7 hv1 mwX7_of wmL_9 wiX7_of wsX7_of rfl ⟨Nat.le_of_ble_eq_true rfl, Nat.le_of_ble_eq_true rfl⟩ rfl (Nat.le_of_ble_eq_true rfl) dL_arePeople_121 (fun r69 m70 hf => ?_)
    refine za_istore o [(10, .int r69), (0, .ref (G.2.2 + v1)), (1, .int v2), (2, .int v3), (3, .int v4), (4, .int v5), (5, .int v6), (7, .int v7), (8, .int v8), (9, .int v9)] dL_arePeople_124 (by decide) rfl ?_
    refine za_iload_n o 2 dL_arePeople_126 rfl rfl ?_
    refine za_aload_n o 1 dL_arePeople_127 rfl rfl ?_
    refine za_iload o 7 dL_arePeople_128 rfl ?_
    refine za_iconst (v := (0 : Int32)) o dL_arePeople_130 (by decide) ?_
    refine za_callVi o [.int v7, .int (0 : Int32)] (ctX7_of l G hv1 v7 (0 : Int32)  m70 _ hf) zc7 hv1 mwX7_of wmL_9 wiX7_of wsX7_of rfl ⟨Nat.le_of_ble_eq_true rfl, Nat.le_of_ble_eq_true rfl⟩ rfl (Nat.le_of_ble_eq_true rfl) dL_arePeople_131 (fun r71 m72 hf => ?_)
    refine za_iadd o dL_arePeople_134 ?_
    refine za_topi (fun x73 ex73 => ?_)
    replace hf := hf x73 ex73
    refine za_istore_n o [(1, .int x73), (10, .int r69), (0, .ref (G.2.2 + v1)), (2, .int v3), (3, .int v4), (4, .int v5), (5, .int v6), (7, .int v7), (8, .int v8), (9, .int v9)] dL_arePeople_135 rfl (by decide) rfl ?_
    refine za_iload_n o 3 dL_arePeople_136 rfl rfl ?_
    refine za_aload_n o 2 dL_arePeople_137 rfl rfl ?_
    refine za_iload o 7 dL_arePeople_138 rfl ?_
    refine za_bipush (v := (6 : Int32)) o dL_arePeople_140 (by decide) ?_
    refine za_callVi o [.int v7, .int (6 : Int32)] (ctX7_of l G hv1 v7 (6 : Int32)  m72 _ hf) zc7 hv1 mwX7_of wmL_9 wiX7_of wsX7_of rfl ⟨Nat.le_of_ble_eq_true rfl, Nat.le_of_ble_eq_true rfl⟩ rfl (Nat.le_of_ble_eq_true rfl) dL_arePeople_142 (fun r74 m75 hf => ?_)
    refine za_iadd o dL_arePeople_145 ?_
    refine za_topi (fun x76 ex76 => ?_)
    replace hf := hf x76 ex76
    refine za_istore_n o [(2, .int x76), (1, .int x73), (10, .int r69), (0, .ref (G.2.2 + v1)), (3, .int v4), (4, .int v5), (5, .int v6), (7, .int v7), (8, .int v8), (9, .int v9)] dL_arePeople_146 rfl (by decide) rfl ?_
    refine za_iload_n o 4 dL_arePeople_147 rfl rfl ?_
    refine za_aload_n o 3 dL_arePeople_148 rfl rfl ?_
    refine za_iload o 7 dL_arePeople_149 rfl ?_
    refine za_bipush (v := (8 : Int32)) o dL_arePeople_151 (by decide) ?_
    refine za_callVi o [.int v7, .int (8 : Int32)] (ctX7_of l G hv1 v7 (8 : Int32)  m75 _ hf) zc7 hv1 mwX7_of wmL_9 wiX7_of wsX7_of rfl ⟨Nat.le_of_ble_eq_true rfl, Nat.le_of_ble_eq_true rfl⟩ rfl (Nat.le_of_ble_eq_true rfl) dL_arePeople_153 (fun r77 m78 hf => ?_)
    refine za_iadd o dL_arePeople_156 ?_
    refine za_topi (fun x79 ex79 => ?_)
    replace hf := hf x79 ex79
    refine za_istore_n o [(3, .int x79), (2, .int x76), (1, .int x73), (10, .int r69), (0, .ref (G.2.2 + v1)), (4, .int v5), (5, .int v6), (7, .int v7), (8, .int v8), (9, .int v9)] dL_arePeople_157 rfl (by decide) rfl ?_
    refine za_iload o 5 dL_arePeople_158 rfl ?_
    refine za_aload_n o 4 dL_arePeople_160 rfl rfl ?_
    refine za_iconst (v := (0 : Int32)) o dL_arePeople_161 (by decide) ?_
    refine za_callVi o [.int (0 : Int32)] (ctX7_count l G hv1 (0 : Int32)  m78 _ hf) zc7 hv1 mwX7_count wmL_18 wiX7_count wsX7_count rfl ⟨Nat.le_of_ble_eq_true rfl, Nat.le_of_ble_eq_true rfl⟩ rfl (Nat.le_of_ble_eq_true rfl) dL_arePeople_162 (fun r80 m81 hf => ?_)
    refine za_aload_n o 4 dL_arePeople_165 rfl rfl ?_
    refine za_iload o 7 dL_arePeople_166 rfl ?_
    refine za_iconst (v := (4 : Int32)) o dL_arePeople_168 (by decide) ?_
    refine za_callVi o [.int v7, .int (4 : Int32)] (ctX7_of l G hv1 v7 (4 : Int32)  m81 _ hf) zc7 hv1 mwX7_of wmL_9 wiX7_of wsX7_of rfl ⟨Nat.le_of_ble_eq_true rfl, Nat.le_of_ble_eq_true rfl⟩ rfl (Nat.le_of_ble_eq_true rfl) dL_arePeople_169 (fun r82 m83 hf => ?_)
    refine za_icmp_ge o 182 dL_arePeople_172 (by decide) (fun c84 => ?_) (fun c84 => ?_)
    · replace hf := hf.1 c84
      refine za_iconst (v := (0 : Int32)) o dL_arePeople_182 (by decide) ?_
      refine za_sub [4, 2, 1, 0, 6, 7, 8, 9, 3] rfl ?_
      exact tL_arePeople_183 o  hk19 v1 x73 x76 x79 v6 v7 v8 v9 r69 (0 : Int32) v5 m83 hv1 hf
    · replace hf := hf.2 c84
      refine za_iconst (v := (1 : Int32)) o dL_arePeople_175 (by decide) ?_
      refine za_iload o 7 dL_arePeople_176 rfl ?_
      refine za_ishl o dL_arePeople_178 ?_
      refine za_topi (fun x85 ex85 => ?_)
      replace hf := hf x85 ex85
      refine za_goto o 183 dL_arePeople_179 (by decide) ?_
      refine za_sub [4, 2, 1, 0, 6, 7, 8, 9, 3] rfl ?_
      exact tL_arePeople_183 o  hk19 v1 x73 x76 x79 v6 v7 v8 v9 r69 x85 v5 m83 hv1 hf
  · replace hf := hf.2 c68
    refine za_iconst (v := (2 : Int32)) o dL_arePeople_49 (by decide) ?_
    refine za_istore o [(11, .int (2 : Int32)), (0, .ref (G.2.2 + v1)), (1, .int v2), (2, .int v3), (3, .int v4), (4, .int v5), (5, .int v6), (7, .int v7), (8, .int v8), (9, .int v9), (10, .int v10)] dL_arePeople_50 (by decide) rfl ?_
    refine za_sub [1, 2, 3, 4, 5, 6, 7, 8, 9, 10, 0] rfl ?_
    exact tL_arePeople_52 o  hk19 hk44 zFU v1 v2 v3 v4 v5 v6 v7 v8 v9 v10 (2 : Int32) μ hv1 hf
theorem tL_arePeople_44 {p : Program} {l : Launch} {e : Env} {s : State} {m : MethodId} {args : Array Value} {below : List Frame} {meth : Method} {c : Code} {G : zG} {k19 : Nat → Int32 → Int32 → Int32 → Int32 → Int32 → Int32 → Int32 → zMem → Prop} {K : Int32 → zMem → Prop} (o : za_Ok (z_rm 7 151) 0 0 p s m args meth c G RL cL_arePeople 12 (some .boolean)) (hk19 : ∀ (v1 : Nat) (v2 : Int32) (v3 : Int32) (v4 : Int32) (v5 : Int32) (v6 : Int32) (v7 : Int32) (v8 : Int32) (μ : zMem), z_is v1 7 → k19 v1 v2 v3 v4 v5 v6 v7 v8 μ → za_At p l e (z_rm 7 151) s m args below meth c (MQ below (zQi G K) args s 0 0 (zA G)) G 12 0 0 19 [(0, .ref (G.2.2 + v1)), (1, .int v2), (2, .int v3), (3, .int v4), (4, .int v5), (5, .int v6), (6, .int v7), (7, .int v8)] [] μ) (n : Nat) : ∀ (v1 : Nat) (v2 : Int32) (v3 : Int32) (v4 : Int32) (v5 : Int32) (v6 : Int32) (v7 : Int32) (v8 : Int32) (v9 : Int32) (v10 : Int32) (μ : zMem), z_is v1 7 → fL_arePeople_44 k19 K n v1 v2 v3 v4 v5 v6 v7 v8 v9 v10 μ → za_At p l e (z_rm 7 151) s m args below meth c (MQ below (zQi G K) args s 0 0 (zA G)) G 12 0 0 44 [(0, .ref (G.2.2 + v1)), (1, .int v2), (2, .int v3), (3, .int v4), (4, .int v5), (5, .int v6), (7, .int v7), (8, .int v8), (9, .int v9), (10, .int v10)] [] μ := by
  induction n with
  | zero => intro _ _ _ _ _ _ _ _ _ _ _ _ hf; exact hf.elim
  | succ n ih => intro v1 v2 v3 v4 v5 v6 v7 v8 v9 v10 μ hv1 hf; exact tL_arePeople_44b o hk19 ih v1 v2 v3 v4 v5 v6 v7 v8 v9 v10 μ hv1 hf
set_option maxRecDepth 100000 in
set_option maxHeartbeats 4000000 in
theorem tL_arePeople_477 {p : Program} {l : Launch} {e : Env} {s : State} {m : MethodId} {args : Array Value} {below : List Frame} {meth : Method} {c : Code} {G : zG}  {K : Int32 → zMem → Prop} (o : za_Ok (z_rm 7 151) 0 0 p s m args meth c G RL cL_arePeople 12 (some .boolean))  (v1 : Int32) (μ : zMem)  (hf : fL_arePeople_477  K v1 μ) : za_At p l e (z_rm 7 151) s m args below meth c (MQ below (zQi G K) args s 0 0 (zA G)) G 12 0 0 477 [] [.int v1] μ := by
  unfold fL_arePeople_477 at hf
  exact za_zret o rfl hf.1 hf.2 dL_arePeople_477
set_option maxRecDepth 100000 in
set_option maxHeartbeats 4000000 in
theorem tL_arePeople_476 {p : Program} {l : Launch} {e : Env} {s : State} {m : MethodId} {args : Array Value} {below : List Frame} {meth : Method} {c : Code} {G : zG}  {K : Int32 → zMem → Prop} (o : za_Ok (z_rm 7 151) 0 0 p s m args meth c G RL cL_arePeople 12 (some .boolean))   (μ : zMem)  (hf : fL_arePeople_476  K  μ) : za_At p l e (z_rm 7 151) s m args below meth c (MQ below (zQi G K) args s 0 0 (zA G)) G 12 0 0 476 [] [] μ := by
  unfold fL_arePeople_476 at hf
  refine za_iconst (v := (0 : Int32)) o dL_arePeople_476 (by decide) ?_
  exact tL_arePeople_477 o   (0 : Int32) μ  hf
set_option maxRecDepth 100000 in
set_option maxHeartbeats 4000000 in
theorem tL_arePeople_469 {p : Program} {l : Launch} {e : Env} {s : State} {m : MethodId} {args : Array Value} {below : List Frame} {meth : Method} {c : Code} {G : zG}  {K : Int32 → zMem → Prop} (o : za_Ok (z_rm 7 151) 0 0 p s m args meth c G RL cL_arePeople 12 (some .boolean))  (v1 : Int32) (v2 : Int32) (μ : zMem)  (hf : fL_arePeople_469  K v1 v2 μ) : za_At p l e (z_rm 7 151) s m args below meth c (MQ below (zQi G K) args s 0 0 (zA G)) G 12 0 0 469 [] [.int v1, .int v2] μ := by
  unfold fL_arePeople_469 at hf
  refine za_icmp_ne o 476 dL_arePeople_469 (by decide) (fun c86 => ?_) (fun c86 => ?_)
  · replace hf := hf.1 c86
    exact tL_arePeople_476 o    μ  hf
  · replace hf := hf.2 c86
    refine za_iconst (v := (1 : Int32)) o dL_arePeople_472 (by decide) ?_
    refine za_goto o 477 dL_arePeople_473 (by decide) ?_
    exact tL_arePeople_477 o   (1 : Int32) μ  hf
set_option maxRecDepth 100000 in
set_option maxHeartbeats 4000000 in
theorem tL_arePeople_393 {p : Program} {l : Launch} {e : Env} {s : State} {m : MethodId} {args : Array Value} {below : List Frame} {meth : Method} {c : Code} {G : zG}  {K : Int32 → zMem → Prop} (o : za_Ok (z_rm 7 151) 0 0 p s m args meth c G RL cL_arePeople 12 (some .boolean))  (v1 : Nat) (v2 : Int32) (v3 : Int32) (v4 : Int32) (v5 : Int32) (v6 : Int32) (v7 : Int32) (μ : zMem) (hv1 : z_is v1 7) (hf : fL_arePeople_393  K v1 v2 v3 v4 v5 v6 v7 μ) : za_At p l e (z_rm 7 151) s m args below meth c (MQ below (zQi G K) args s 0 0 (zA G)) G 12 0 0 393 [(0, .ref (G.2.2 + v1)), (1, .int v2), (2, .int v3), (3, .int v4), (4, .int v5), (5, .int v6), (6, .int v7)] [] μ := by
  unfold fL_arePeople_393 at hf
  refine za_iload o 6 dL_arePeople_393 rfl ?_
  refine za_if_eq o 476 dL_arePeople_395 (by decide) (fun c87 => ?_) (fun c87 => ?_)
  · replace hf := hf.1 c87
    refine za_sub [] rfl ?_
    exact tL_arePeople_476 o    μ  hf
  · replace hf := hf.2 c87
    refine za_iload_n o 1 dL_arePeople_398 rfl rfl ?_
    refine za_aload_n o 0 dL_arePeople_399 rfl rfl ?_
    refine za_bipush (v := (7 : Int32)) o dL_arePeople_400 (by decide) ?_
    refine za_callVi o [.int (7 : Int32)] (ctX7_count l G hv1 (7 : Int32)  μ _ hf) zc7 hv1 mwX7_count wmL_18 wiX7_count wsX7_count rfl ⟨Nat.le_of_ble_eq_true rfl, Nat.le_of_ble_eq_true rfl⟩ rfl (Nat.le_of_ble_eq_true rfl) dL_arePeople_402 (fun r88 m89 hf => ?_)
    refine za_icmp_ne o 476 dL_arePeople_405 (by decide) (fun c90 => ?_) (fun c90 => ?_)
    · replace hf := hf.1 c90
      refine za_sub [] rfl ?_
      exact tL_arePeople_476 o    m89  hf
    · replace hf := hf.2 c90
      refine za_iload_n o 2 dL_arePeople_408 rfl rfl ?_
      refine za_aload_n o 0 dL_arePeople_409 rfl rfl ?_
      refine za_bipush (v := (9 : Int32)) o dL_arePeople_410 (by decide) ?_
      refine za_callVi o [.int (9 : Int32)] (ctX7_count l G hv1 (9 : Int32)  m89 _ hf) zc7 hv1 mwX7_count wmL_18 wiX7_count wsX7_count rfl ⟨Nat.le_of_ble_eq_true rfl, Nat.le_of_ble_eq_true rfl⟩ rfl (Nat.le_of_ble_eq_true rfl) dL_arePeople_412 (fun r91 m92 hf => ?_)
      refine za_icmp_ne o 476 dL_arePeople_415 (by decide) (fun c93 => ?_) (fun c93 => ?_)
      · replace hf := hf.1 c93
        refine za_sub [] rfl ?_
        exact tL_arePeople_476 o    m92  hf
      · replace hf := hf.2 c93
        refine za_iload_n o 3 dL_arePeople_418 rfl rfl ?_
        refine za_aload_n o 0 dL_arePeople_419 rfl rfl ?_
        refine za_iconst (v := (4 : Int32)) o dL_arePeople_420 (by decide) ?_
        refine za_callVi o [.int (4 : Int32)] (ctX7_count l G hv1 (4 : Int32)  m92 _ hf) zc7 hv1 mwX7_count wmL_18 wiX7_count wsX7_count rfl ⟨Nat.le_of_ble_eq_true rfl, Nat.le_of_ble_eq_true rfl⟩ rfl (Nat.le_of_ble_eq_true rfl) dL_arePeople_421 (fun r94 m95 hf => ?_)
        refine za_icmp_ne o 476 dL_arePeople_424 (by decide) (fun c96 => ?_) (fun c96 => ?_)
        · replace hf := hf.1 c96
          refine za_sub [] rfl ?_
          exact tL_arePeople_476 o    m95  hf
        · replace hf := hf.2 c96
          refine za_iload o 4 dL_arePeople_427 rfl ?_
          refine za_aload_n o 0 dL_arePeople_429 rfl rfl ?_
          refine za_bipush (v := (8 : Int32)) o dL_arePeople_430 (by decide) ?_
          refine za_callVi o [.int (8 : Int32)] (ctX7_count l G hv1 (8 : Int32)  m95 _ hf) zc7 hv1 mwX7_count wmL_18 wiX7_count wsX7_count rfl ⟨Nat.le_of_ble_eq_true rfl, Nat.le_of_ble_eq_true rfl⟩ rfl (Nat.le_of_ble_eq_true rfl) dL_arePeople_432 (fun r97 m98 hf => ?_)
          refine za_icmp_ne o 476 dL_arePeople_435 (by decide) (fun c99 => ?_) (fun c99 => ?_)
          · replace hf := hf.1 c99
            refine za_sub [] rfl ?_
            exact tL_arePeople_476 o    m98  hf
          · replace hf := hf.2 c99
            refine za_aload_n o 0 dL_arePeople_438 rfl rfl ?_
            refine za_iconst (v := (0 : Int32)) o dL_arePeople_439 (by decide) ?_
            refine za_callVi o [.int (0 : Int32)] (ctX7_unsurest l G hv1 (0 : Int32)  m98 _ hf) zc7 hv1 mwX7_unsurest wmL_38 wiX7_unsurest wsX7_unsurest rfl ⟨Nat.le_of_ble_eq_true rfl, Nat.le_of_ble_eq_true rfl⟩ rfl (Nat.le_of_ble_eq_true rfl) dL_arePeople_440 (fun r100 m101 hf => ?_)
            refine za_iload o 5 dL_arePeople_443 rfl ?_
            refine za_icmp_ne o 476 dL_arePeople_445 (by decide) (fun c102 => ?_) (fun c102 => ?_)
            · replace hf := hf.1 c102
              refine za_sub [] rfl ?_
              exact tL_arePeople_476 o    m101  hf
            · replace hf := hf.2 c102
              refine za_aload_n o 0 dL_arePeople_448 rfl rfl ?_
              refine za_iconst (v := (1 : Int32)) o dL_arePeople_449 (by decide) ?_
              refine za_callVi o [.int (1 : Int32)] (ctX7_unsurest l G hv1 (1 : Int32)  m101 _ hf) zc7 hv1 mwX7_unsurest wmL_38 wiX7_unsurest wsX7_unsurest rfl ⟨Nat.le_of_ble_eq_true rfl, Nat.le_of_ble_eq_true rfl⟩ rfl (Nat.le_of_ble_eq_true rfl) dL_arePeople_450 (fun r103 m104 hf => ?_)
              refine za_iload o 5 dL_arePeople_453 rfl ?_
              refine za_if_ge o 463 dL_arePeople_455 (by decide) (fun c105 => ?_) (fun c105 => ?_)
              · replace hf := hf.1 c105
                refine za_aload_n o 0 dL_arePeople_463 rfl rfl ?_
                refine za_iload o 5 dL_arePeople_464 rfl ?_
                refine za_callSi o [.ref (G.2.2 + v1), .int v6] (ctL_doubt l G v1 v6 hv1 m104 _ hf) mwL_doubt wmL_22 wtL_doubt rfl ⟨Nat.le_of_ble_eq_true rfl, Nat.le_of_ble_eq_true rfl⟩ rfl (Nat.le_of_ble_eq_true rfl) dL_arePeople_466 (fun r106 m107 hf => ?_)
                refine za_sub [] rfl ?_
                exact tL_arePeople_469 o   r106 r103 m107  hf
              · replace hf := hf.2 c105
                refine za_bipush (v := (-6 : Int32)) o dL_arePeople_458 (by decide) ?_
                refine za_goto o 469 dL_arePeople_460 (by decide) ?_
                refine za_sub [] rfl ?_
                exact tL_arePeople_469 o   (-6 : Int32) r103 m104  hf
set_option maxRecDepth 100000 in
set_option maxHeartbeats 4000000 in
theorem tL_arePeople_19b {p : Program} {l : Launch} {e : Env} {s : State} {m : MethodId} {args : Array Value} {below : List Frame} {meth : Method} {c : Code} {G : zG} {k19 : Nat → Int32 → Int32 → Int32 → Int32 → Int32 → Int32 → Int32 → zMem → Prop} {K : Int32 → zMem → Prop} (o : za_Ok (z_rm 7 151) 0 0 p s m args meth c G RL cL_arePeople 12 (some .boolean)) (hk19 : ∀ (v1 : Nat) (v2 : Int32) (v3 : Int32) (v4 : Int32) (v5 : Int32) (v6 : Int32) (v7 : Int32) (v8 : Int32) (μ : zMem), z_is v1 7 → k19 v1 v2 v3 v4 v5 v6 v7 v8 μ → za_At p l e (z_rm 7 151) s m args below meth c (MQ below (zQi G K) args s 0 0 (zA G)) G 12 0 0 19 [(0, .ref (G.2.2 + v1)), (1, .int v2), (2, .int v3), (3, .int v4), (4, .int v5), (5, .int v6), (6, .int v7), (7, .int v8)] [] μ) (v1 : Nat) (v2 : Int32) (v3 : Int32) (v4 : Int32) (v5 : Int32) (v6 : Int32) (v7 : Int32) (v8 : Int32) (μ : zMem) (hv1 : z_is v1 7) (hf : fL_arePeople_19b k19 K v1 v2 v3 v4 v5 v6 v7 v8 μ) : za_At p l e (z_rm 7 151) s m args below meth c (MQ below (zQi G K) args s 0 0 (zA G)) G 12 0 0 19 [(0, .ref (G.2.2 + v1)), (1, .int v2), (2, .int v3), (3, .int v4), (4, .int v5), (5, .int v6), (6, .int v7), (7, .int v8)] [] μ := by
  unfold fL_arePeople_19b at hf
  refine za_iload o 7 dL_arePeople_19 rfl ?_
  refine za_aload_n o 0 dL_arePeople_21 rfl rfl ?_
  refine za_iconst (v := (1 : Int32)) o dL_arePeople_22 (by decide) ?_
  refine za_callVi o [.int (1 : Int32)] (ctX7_count l G hv1 (1 : Int32)  μ _ hf) zc7 hv1 mwX7_count wmL_18 wiX7_count wsX7_count rfl ⟨Nat.le_of_ble_eq_true rfl, Nat.le_of_ble_eq_true rfl⟩ rfl (Nat.le_of_ble_eq_true rfl) dL_arePeople_23 (fun r108 m109 hf => ?_)
  refine za_icmp_ge o 393 dL_arePeople_26 (by decide) (fun c110 => ?_) (fun c110 => ?_)
  · replace hf := hf.1 c110
    refine za_sub [0, 1, 2, 3, 4, 5, 6] rfl ?_
    exact tL_arePeople_393 o   v1 v2 v3 v4 v5 v6 v7 m109 hv1 hf
  · replace hf := hf.2 c110
    refine za_iload o 6 dL_arePeople_29 rfl ?_
    refine za_if_eq o 393 dL_arePeople_31 (by decide) (fun c111 => ?_) (fun c111 => ?_)
    · replace hf := hf.1 c111
      refine za_sub [0, 1, 2, 3, 4, 5, 6] rfl ?_
      exact tL_arePeople_393 o   v1 v2 v3 v4 v5 v6 v7 m109 hv1 hf
    · replace hf := hf.2 c111
      refine za_iconst (v := (0 : Int32)) o dL_arePeople_34 (by decide) ?_
      refine za_istore o [(8, .int (0 : Int32)), (0, .ref (G.2.2 + v1)), (1, .int v2), (2, .int v3), (3, .int v4), (4, .int v5), (5, .int v6), (6, .int v7), (7, .int v8)] dL_arePeople_35 (by decide) rfl ?_
      refine za_bipush (v := (-6 : Int32)) o dL_arePeople_37 (by decide) ?_
      refine za_istore o [(9, .int (-6 : Int32)), (8, .int (0 : Int32)), (0, .ref (G.2.2 + v1)), (1, .int v2), (2, .int v3), (3, .int v4), (4, .int v5), (5, .int v6), (6, .int v7), (7, .int v8)] dL_arePeople_39 (by decide) rfl ?_
      refine za_iconst (v := (4 : Int32)) o dL_arePeople_41 (by decide) ?_
      refine za_istore o [(10, .int (4 : Int32)), (9, .int (-6 : Int32)), (8, .int (0 : Int32)), (0, .ref (G.2.2 + v1)), (1, .int v2), (2, .int v3), (3, .int v4), (4, .int v5), (5, .int v6), (6, .int v7), (7, .int v8)] dL_arePeople_42 (by decide) rfl ?_
      refine za_sub [3, 4, 5, 6, 7, 8, 10, 2, 1, 0] rfl ?_
      exact tL_arePeople_44 o  hk19 zFU v1 v2 v3 v4 v5 v6 v8 (0 : Int32) (-6 : Int32) (4 : Int32) m109 hv1 hf
theorem tL_arePeople_19 {p : Program} {l : Launch} {e : Env} {s : State} {m : MethodId} {args : Array Value} {below : List Frame} {meth : Method} {c : Code} {G : zG}  {K : Int32 → zMem → Prop} (o : za_Ok (z_rm 7 151) 0 0 p s m args meth c G RL cL_arePeople 12 (some .boolean))  (n : Nat) : ∀ (v1 : Nat) (v2 : Int32) (v3 : Int32) (v4 : Int32) (v5 : Int32) (v6 : Int32) (v7 : Int32) (v8 : Int32) (μ : zMem), z_is v1 7 → fL_arePeople_19  K n v1 v2 v3 v4 v5 v6 v7 v8 μ → za_At p l e (z_rm 7 151) s m args below meth c (MQ below (zQi G K) args s 0 0 (zA G)) G 12 0 0 19 [(0, .ref (G.2.2 + v1)), (1, .int v2), (2, .int v3), (3, .int v4), (4, .int v5), (5, .int v6), (6, .int v7), (7, .int v8)] [] μ := by
  induction n with
  | zero => intro _ _ _ _ _ _ _ _ _ _ hf; exact hf.elim
  | succ n ih => intro v1 v2 v3 v4 v5 v6 v7 v8 μ hv1 hf; exact tL_arePeople_19b o  ih v1 v2 v3 v4 v5 v6 v7 v8 μ hv1 hf
set_option maxRecDepth 100000 in
set_option maxHeartbeats 4000000 in
theorem ctL_arePeople (l : Launch) (G : zG) (a1 : Nat) (ha1 : z_is a1 7) (μ : zMem) (K : Int32 → zMem → Prop) (hf : fL_arePeople a1 μ K) : z_Met l G yL_arePeople cL_arePeople 12 (some .boolean) (z_rm 7 151) [.ref (G.2.2 + a1)] μ K := by
  refine z_body (by decide) (Nat.le_of_ble_eq_true rfl) (fun p e s m args below meth c o => ?_)
  have o : za_Ok (z_rm 7 151) 0 0 p s m args meth c G RL cL_arePeople 12 (some .boolean) := o
  show za_At p l e (z_rm 7 151) s m args below meth c (MQ below (zQi G K) args s 0 0 (zA G)) G 12 0 0 0 [(0, .ref (G.2.2 + a1))] [] μ
  unfold fL_arePeople at hf
  refine za_iconst (v := (0 : Int32)) o dL_arePeople_0 (by decide) ?_
  refine za_istore_n o [(1, .int (0 : Int32)), (0, .ref (G.2.2 + a1))] dL_arePeople_1 rfl (by decide) rfl ?_
  refine za_iconst (v := (0 : Int32)) o dL_arePeople_2 (by decide) ?_
  refine za_istore_n o [(2, .int (0 : Int32)), (1, .int (0 : Int32)), (0, .ref (G.2.2 + a1))] dL_arePeople_3 rfl (by decide) rfl ?_
  refine za_iconst (v := (0 : Int32)) o dL_arePeople_4 (by decide) ?_
  refine za_istore_n o [(3, .int (0 : Int32)), (2, .int (0 : Int32)), (1, .int (0 : Int32)), (0, .ref (G.2.2 + a1))] dL_arePeople_5 rfl (by decide) rfl ?_
  refine za_iconst (v := (0 : Int32)) o dL_arePeople_6 (by decide) ?_
  refine za_istore o [(4, .int (0 : Int32)), (3, .int (0 : Int32)), (2, .int (0 : Int32)), (1, .int (0 : Int32)), (0, .ref (G.2.2 + a1))] dL_arePeople_7 (by decide) rfl ?_
  refine za_bipush (v := (-6 : Int32)) o dL_arePeople_9 (by decide) ?_
  refine za_istore o [(5, .int (-6 : Int32)), (4, .int (0 : Int32)), (3, .int (0 : Int32)), (2, .int (0 : Int32)), (1, .int (0 : Int32)), (0, .ref (G.2.2 + a1))] dL_arePeople_11 (by decide) rfl ?_
  refine za_iconst (v := (1 : Int32)) o dL_arePeople_13 (by decide) ?_
  refine za_istore o [(6, .int (1 : Int32)), (5, .int (-6 : Int32)), (4, .int (0 : Int32)), (3, .int (0 : Int32)), (2, .int (0 : Int32)), (1, .int (0 : Int32)), (0, .ref (G.2.2 + a1))] dL_arePeople_14 (by decide) rfl ?_
  refine za_iconst (v := (0 : Int32)) o dL_arePeople_16 (by decide) ?_
  refine za_istore o [(7, .int (0 : Int32)), (6, .int (1 : Int32)), (5, .int (-6 : Int32)), (4, .int (0 : Int32)), (3, .int (0 : Int32)), (2, .int (0 : Int32)), (1, .int (0 : Int32)), (0, .ref (G.2.2 + a1))] dL_arePeople_17 (by decide) rfl ?_
  refine za_sub [7, 6, 5, 4, 3, 2, 1, 0] rfl ?_
  exact tL_arePeople_19 o   zFU a1 (0 : Int32) (0 : Int32) (0 : Int32) (0 : Int32) (-6 : Int32) (1 : Int32) (0 : Int32) μ ha1 hf
