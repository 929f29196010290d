/-! L_acts -/
def fL_acts_184  (K : Int32 → zMem → Prop) (v1 : Int32) (μ : zMem) : Prop :=
  (z_b v1 ∧ K v1 μ)
def fL_acts_183  (K : Int32 → zMem → Prop)  (μ : zMem) : Prop :=
  fL_acts_184  K  (0 : Int32) μ
def fL_acts_124  (K : Int32 → zMem → Prop) (v1 : Nat) (v2 : Int32) (μ : zMem) : Prop :=
  fX7_person v1  μ (fun r1 m2 => ((¬ v2 = (14 : Int32) → ((¬ r1 = v2 → fL_acts_183  K   m2) ∧ (r1 = v2 → fX7_of v1 r1 (0 : Int32) m2 (fun r5 m6 => ((¬ r5 = (5 : Int32) → fL_acts_183  K   m6) ∧ (r5 = (5 : Int32) → fX7_count v1 (1 : Int32) m6 (fun r8 m9 => (∀ x10 : Int32, x10 = (v2 + (1 : Int32)) → ((¬ r8 = x10 → fL_acts_183  K   m9) ∧ (r8 = x10 → fL_acts_184  K  (1 : Int32) m9)))))))))) ∧ (v2 = (14 : Int32) → ((¬ r1 = (-4 : Int32) → fL_acts_184  K  (0 : Int32) m2) ∧ (r1 = (-4 : Int32) → fL_acts_184  K  (1 : Int32) m2)))))
def fL_acts_253  (K : Int32 → zMem → Prop) (v1 : Int32) (μ : zMem) : Prop :=
  (z_b v1 ∧ K v1 μ)
def fL_acts_245  (K : Int32 → zMem → Prop) (v1 : Int32) (v2 : Int32) (μ : zMem) : Prop :=
  ((¬ v2 = v1 → fL_acts_253  K  (0 : Int32) μ) ∧ (v2 = v1 → fL_acts_253  K  (1 : Int32) μ))
def fL_acts_185  (K : Int32 → zMem → Prop) (v1 : Nat) (v2 : Int32) (v3 : Int32) (v4 : Int32) (v5 : Int32) (μ : zMem) : Prop :=
  (∀ x14 : Int32, x14 = (v2 >>> ((8 : Int32) &&& 31)) → (∀ x15 : Int32, x15 = (x14 - x14 / (30 : Int32) * (30 : Int32)) → (∀ x16 : Int32, x16 = ((1 : Int32) + x15) → fX7_vouchers v1 v4 x16 μ (fun r17 m18 => ((¬ v3 = 0 → (∀ x20 : Int32, x20 = (v5 + x16) → ((x20 ≤ (30 : Int32) → (∀ x22 : Int32, x22 = (v5 + x16) → fL_acts_245  K  x22 r17 m18)) ∧ (¬ x20 ≤ (30 : Int32) → fL_acts_245  K  (30 : Int32) r17 m18)))) ∧ (v3 = 0 → ((¬ r17 = (-1 : Int32) → fL_acts_253  K  (0 : Int32) m18) ∧ (r17 = (-1 : Int32) → fL_acts_253  K  (1 : Int32) m18))))))))
def fL_acts_375  (K : Int32 → zMem → Prop) (v1 : Int32) (μ : zMem) : Prop :=
  (z_b v1 ∧ K v1 μ)
def fL_acts_304  (K : Int32 → zMem → Prop)  (μ : zMem) : Prop :=
  fL_acts_375  K  (0 : Int32) μ
def fL_acts_374  (K : Int32 → zMem → Prop)  (μ : zMem) : Prop :=
  fL_acts_375  K  (0 : Int32) μ
def fL_acts_254  (K : Int32 → zMem → Prop) (v1 : Nat) (v2 : Int32) (v3 : Int32) (v4 : Int32) (v5 : Int32) (v6 : Int32) (μ : zMem) : Prop :=
  fX7_why v1 v3 v5 v4 μ (fun r24 m25 => fX7_order v1 v3 v5 v4 m25 (fun r26 m27 => (∀ x28 : Int32, x28 = (v6 - r26) → ((¬ v2 = 0 → ((r24 ≤ 0 → ((x28 < (1 : Int32) → fL_acts_374  K   m27) ∧ (¬ x28 < (1 : Int32) → (((3 : Int32) < x28 → fL_acts_374  K   m27) ∧ (¬ (3 : Int32) < x28 → fX7_ordered v1 v5 v4 m27 (fun r33 m34 => (∀ x35 : Int32, x35 = (r33 >>> (v3 &&& 31)) → (∀ x36 : Int32, x36 = (x35 &&& (1 : Int32)) → ((¬ x36 = (1 : Int32) → fL_acts_374  K   m34) ∧ (x36 = (1 : Int32) → fX7_why v1 v3 v5 (0 : Int32) m34 (fun r38 m39 => ((¬ r38 = (3 : Int32) → fL_acts_374  K   m39) ∧ (r38 = (3 : Int32) → fL_acts_375  K  (1 : Int32) m39))))))))))))) ∧ (¬ r24 ≤ 0 → (∀ x41 : Int32, x41 = (v6 + (5 : Int32)) → ((¬ x28 = x41 → fL_acts_375  K  (0 : Int32) m27) ∧ (x28 = x41 → fL_acts_375  K  (1 : Int32) m27)))))) ∧ (v2 = 0 → ((¬ r24 = (-1 : Int32) → fL_acts_304  K   m27) ∧ (r24 = (-1 : Int32) → fX7_order v1 (0 : Int32) (0 : Int32) (0 : Int32) m27 (fun r44 m45 => ((¬ r44 = (-1 : Int32) → fL_acts_304  K   m45) ∧ (r44 = (-1 : Int32) → fL_acts_375  K  (1 : Int32) m45))))))))))
def fL_acts_496  (K : Int32 → zMem → Prop) (v1 : Int32) (μ : zMem) : Prop :=
  (z_b v1 ∧ K v1 μ)
def fL_acts_495  (K : Int32 → zMem → Prop)  (μ : zMem) : Prop :=
  fL_acts_496  K  (0 : Int32) μ
def fL_acts_404  (K : Int32 → zMem → Prop) (v1 : Nat) (v2 : Int32) (v3 : Int32) (v4 : Int32) (v5 : Int32) (v6 : Int32) (μ : zMem) : Prop :=
  (∀ x47 : Int32, x47 = (v4 - v4 / (4 : Int32) * (4 : Int32)) → (∀ x48 : Int32, x48 = ((1 : Int32) + x47) → fX7_callOff v1 v3 x48 μ (fun r49 m50 => ((¬ v2 = 0 → ((¬ v6 = 0 → ((r49 < v5 → fL_acts_495  K   m50) ∧ (¬ r49 < v5 → (∀ x54 : Int32, x54 = (v5 + (3 : Int32)) → ((x54 < r49 → fL_acts_495  K   m50) ∧ (¬ x54 < r49 → fX7_of v1 v3 (2 : Int32) m50 (fun r56 m57 => (∀ x58 : Int32, x58 = (v4 - v4 / (4 : Int32) * (4 : Int32)) → (∀ x59 : Int32, x59 = ((1 : Int32) + x58) → (∀ x60 : Int32, x60 = (r56 >>> (x59 &&& 31)) → (∀ x61 : Int32, x61 = (x60 &&& (1 : Int32)) → ((¬ x61 = 0 → fL_acts_495  K   m57) ∧ (x61 = 0 → fL_acts_496  K  (1 : Int32) m57))))))))))))) ∧ (v6 = 0 → ((¬ r49 = (-5 : Int32) → fL_acts_496  K  (0 : Int32) m50) ∧ (r49 = (-5 : Int32) → fL_acts_496  K  (1 : Int32) m50))))) ∧ (v2 = 0 → ((¬ r49 = (-1 : Int32) → fL_acts_496  K  (0 : Int32) m50) ∧ (r49 = (-1 : Int32) → fL_acts_496  K  (1 : Int32) m50)))))))
def fL_acts_403  (K : Int32 → zMem → Prop) (v1 : Nat) (v2 : Int32) (v3 : Int32) (v4 : Int32) (v5 : Int32) (μ : zMem) : Prop :=
  fL_acts_404  K  v1 v2 v3 v4 v5 (0 : Int32) μ
def fL_acts_376  (K : Int32 → zMem → Prop) (v1 : Nat) (v2 : Int32) (v3 : Int32) (v4 : Int32) (v5 : Int32) (μ : zMem) : Prop :=
  ((v2 ≤ 0 → fL_acts_403  K  v1 v2 v3 v4 v5 μ) ∧ (¬ v2 ≤ 0 → fX7_of v1 v3 (2 : Int32) μ (fun r66 m67 => (∀ x68 : Int32, x68 = (v4 - v4 / (4 : Int32) * (4 : Int32)) → (∀ x69 : Int32, x69 = ((1 : Int32) + x68) → (∀ x70 : Int32, x70 = (r66 >>> (x69 &&& 31)) → (∀ x71 : Int32, x71 = (x70 &&& (1 : Int32)) → ((¬ x71 = (1 : Int32) → fL_acts_403  K  v1 v2 v3 v4 v5 m67) ∧ (x71 = (1 : Int32) → fL_acts_404  K  v1 v2 v3 v4 v5 (1 : Int32) m67)))))))))
def fL_acts_569  (K : Int32 → zMem → Prop) (v1 : Int32) (μ : zMem) : Prop :=
  (z_b v1 ∧ K v1 μ)
def fL_acts_568  (K : Int32 → zMem → Prop)  (μ : zMem) : Prop :=
  fL_acts_569  K  (0 : Int32) μ
def fL_acts_497  (K : Int32 → zMem → Prop) (v1 : Nat) (v2 : Int32) (μ : zMem) : Prop :=
  fX7_ofDish v1 (0 : Int32) (7 : Int32) μ (fun r73 m74 => fX7_ofDish v1 (1 : Int32) (7 : Int32) m74 (fun r75 m76 => (∀ x77 : Int32, x77 = (r73 + r75) → fX7_ofDish v1 (2 : Int32) (7 : Int32) m76 (fun r78 m79 => (∀ x80 : Int32, x80 = (x77 + r78) → fX7_cook v1  m79 (fun r81 m82 => ((v2 = 0 → ((¬ r81 = x80 → fL_acts_568  K   m82) ∧ (r81 = x80 → fX7_count v1 (2 : Int32) m82 (fun r85 m86 => ((¬ r85 = (1 : Int32) → fL_acts_568  K   m86) ∧ (r85 = (1 : Int32) → fL_acts_569  K  (1 : Int32) m86)))))) ∧ (¬ v2 = 0 → ((¬ r81 = (-5 : Int32) → fL_acts_569  K  (0 : Int32) m82) ∧ (r81 = (-5 : Int32) → fL_acts_569  K  (1 : Int32) m82))))))))))
def fL_acts_754  (K : Int32 → zMem → Prop) (v1 : Int32) (μ : zMem) : Prop :=
  (z_b v1 ∧ K v1 μ)
def fL_acts_749  (K : Int32 → zMem → Prop)  (μ : zMem) : Prop :=
  fL_acts_754  K  (1 : Int32) μ
def fL_acts_753  (K : Int32 → zMem → Prop)  (μ : zMem) : Prop :=
  fL_acts_754  K  (0 : Int32) μ
def fL_acts_697  (K : Int32 → zMem → Prop) (v1 : Nat) (v2 : Int32) (v3 : Int32) (v4 : Int32) (v5 : Int32) (v6 : Int32) (v7 : Int32) (μ : zMem) : Prop :=
  ((¬ v7 = v6 → fL_acts_753  K   μ) ∧ (v7 = v6 → fX7_of v1 v2 (5 : Int32) μ (fun r90 m91 => (∀ x92 : Int32, x92 = (v5 + (1 : Int32)) → ((¬ r90 = x92 → fL_acts_753  K   m91) ∧ (r90 = x92 → fX7_of v1 v2 (3 : Int32) m91 (fun r94 m95 => ((¬ r94 = 0 → fL_acts_753  K   m95) ∧ (r94 = 0 → fX7_of v1 v2 (7 : Int32) m95 (fun r97 m98 => ((¬ r97 = (1 : Int32) → fL_acts_753  K   m98) ∧ (r97 = (1 : Int32) → ((0 < v4 → fL_acts_749  K   m98) ∧ (¬ 0 < v4 → fX7_of v1 v2 (0 : Int32) m98 (fun r101 m102 => ((r101 < v3 → fL_acts_753  K   m102) ∧ (¬ r101 < v3 → fL_acts_749  K   m102)))))))))))))))))
def fL_acts_629  (K : Int32 → zMem → Prop) (v1 : Nat) (v2 : Int32) (v3 : Int32) (v4 : Int32) (v5 : Int32) (v6 : Int32) (v7 : Int32) (μ : zMem) : Prop :=
  fX7_of v1 v3 (5 : Int32) μ (fun r104 m105 => fX7_come v1 v3 m105 (fun r106 m107 => ((¬ v2 = 0 → ((¬ v6 = 0 → ((v7 ≤ 0 → fL_acts_697  K  v1 v3 v4 v7 r104 (3 : Int32) r106 m107) ∧ (¬ v7 ≤ 0 → fL_acts_697  K  v1 v3 v4 v7 r104 v5 r106 m107))) ∧ (v6 = 0 → ((¬ r106 = (-5 : Int32) → fL_acts_754  K  (0 : Int32) m107) ∧ (r106 = (-5 : Int32) → fL_acts_754  K  (1 : Int32) m107))))) ∧ (v2 = 0 → ((¬ r106 = (-1 : Int32) → fL_acts_754  K  (0 : Int32) m107) ∧ (r106 = (-1 : Int32) → fL_acts_754  K  (1 : Int32) m107))))))
def fL_acts_603  (K : Int32 → zMem → Prop) (v1 : Nat) (v2 : Int32) (v3 : Int32) (v4 : Int32) (v5 : Int32) (v6 : Int32) (μ : zMem) : Prop :=
  ((0 ≤ v5 → fX7_ofDish v1 v5 (0 : Int32) μ (fun r114 m115 => fX7_ofDish v1 v5 (1 : Int32) m115 (fun r116 m117 => (∀ x118 : Int32, x118 = (r114 + r116) → fL_acts_629  K  v1 v2 v3 v4 v5 v6 x118 m117)))) ∧ (¬ 0 ≤ v5 → fL_acts_629  K  v1 v2 v3 v4 v5 v6 (0 : Int32) μ))
def fL_acts_602  (K : Int32 → zMem → Prop) (v1 : Nat) (v2 : Int32) (v3 : Int32) (v4 : Int32) (v5 : Int32) (μ : zMem) : Prop :=
  fL_acts_603  K  v1 v2 v3 v4 v5 (0 : Int32) μ
def fL_acts_570  (K : Int32 → zMem → Prop) (v1 : Nat) (v2 : Int32) (v3 : Int32) (v4 : Int32) (v5 : Int32) (μ : zMem) : Prop :=
  fX7_of v1 v3 (1 : Int32) μ (fun r119 m120 => ((v5 = 0 → fL_acts_602  K  v1 v2 v3 v4 r119 m120) ∧ (¬ v5 = 0 → ((r119 < 0 → fL_acts_602  K  v1 v2 v3 v4 r119 m120) ∧ (¬ r119 < 0 → fX7_of v1 v3 (7 : Int32) m120 (fun r123 m124 => ((¬ r123 = 0 → fL_acts_602  K  v1 v2 v3 v4 r119 m124) ∧ (r123 = 0 → fL_acts_603  K  v1 v2 v3 v4 r119 (1 : Int32) m124))))))))
def fL_acts_905  (K : Int32 → zMem → Prop) (v1 : Int32) (μ : zMem) : Prop :=
  (z_b v1 ∧ K v1 μ)
def fL_acts_889  (K : Int32 → zMem → Prop)  (μ : zMem) : Prop :=
  fL_acts_905  K  (0 : Int32) μ
def fL_acts_830  (K : Int32 → zMem → Prop) (v1 : Nat) (v2 : Int32) (v3 : Int32) (v4 : Int32) (v5 : Int32) (v6 : Int32) (v7 : Int32) (μ : zMem) : Prop :=
  fX7_buy v1 v3 v4 μ (fun r126 m127 => ((¬ v2 = 0 → ((v7 = 0 → ((¬ r126 = (-5 : Int32) → fL_acts_905  K  (0 : Int32) m127) ∧ (r126 = (-5 : Int32) → fL_acts_905  K  (1 : Int32) m127))) ∧ (¬ v7 = 0 → (∀ x131 : Int32, x131 = (v5 - v6) → ((¬ r126 = x131 → fL_acts_889  K   m127) ∧ (r126 = x131 → fX7_of v1 v3 (7 : Int32) m127 (fun r133 m134 => ((¬ r133 = (1 : Int32) → fL_acts_889  K   m134) ∧ (r133 = (1 : Int32) → fL_acts_905  K  (1 : Int32) m134))))))))) ∧ (v2 = 0 → ((¬ r126 = (-1 : Int32) → fL_acts_905  K  (0 : Int32) m127) ∧ (r126 = (-1 : Int32) → fL_acts_905  K  (1 : Int32) m127)))))
def fL_acts_829  (K : Int32 → zMem → Prop) (v1 : Nat) (v2 : Int32) (v3 : Int32) (v4 : Int32) (v5 : Int32) (v6 : Int32) (μ : zMem) : Prop :=
  fL_acts_830  K  v1 v2 v3 v4 v5 v6 (0 : Int32) μ
def fL_acts_755  (K : Int32 → zMem → Prop) (v1 : Nat) (v2 : Int32) (v3 : Int32) (v4 : Int32) (v5 : Int32) (v6 : Int32) (μ : zMem) : Prop :=
  fX7_ofDish v1 v4 (6 : Int32) μ (fun r137 m138 => (∀ x139 : Int32, x139 = (r137 + (1 : Int32)) → ((v6 = 0 → fL_acts_829  K  v1 v2 v3 v4 v5 x139 m138) ∧ (¬ v6 = 0 → fX7_of v1 v3 (1 : Int32) m138 (fun r141 m142 => ((¬ r141 = (-6 : Int32) → fL_acts_829  K  v1 v2 v3 v4 v5 x139 m142) ∧ (r141 = (-6 : Int32) → fX7_of v1 v3 (7 : Int32) m142 (fun r144 m145 => ((¬ r144 = 0 → fL_acts_829  K  v1 v2 v3 v4 v5 x139 m145) ∧ (r144 = 0 → ((v5 < x139 → fL_acts_829  K  v1 v2 v3 v4 v5 x139 m145) ∧ (¬ v5 < x139 → fX7_ofDish v1 v4 (0 : Int32) m145 (fun r148 m149 => fX7_ofDish v1 v4 (1 : Int32) m149 (fun r150 m151 => (∀ x152 : Int32, x152 = (r148 + r150) → fX7_ofDish v1 v4 (2 : Int32) m151 (fun r153 m154 => ((x152 ≤ r153 → fL_acts_829  K  v1 v2 v3 v4 v5 x139 m154) ∧ (¬ x152 ≤ r153 → fL_acts_830  K  v1 v2 v3 v4 v5 x139 (1 : Int32) m154))))))))))))))))))
def fL_acts_1027  (K : Int32 → zMem → Prop) (v1 : Int32) (μ : zMem) : Prop :=
  (z_b v1 ∧ K v1 μ)
def fL_acts_1026  (K : Int32 → zMem → Prop)  (μ : zMem) : Prop :=
  fL_acts_1027  K  (0 : Int32) μ
def fL_acts_919b (k919 : Nat → Int32 → Int32 → Int32 → Int32 → Int32 → zMem → Prop) (K : Int32 → zMem → Prop) (v1 : Nat) (v2 : Int32) (v3 : Int32) (v4 : Int32) (v5 : Int32) (v6 : Int32) (μ : zMem) : Prop :=
  (((3 : Int32) ≤ v6 → fX7_close v1  μ (fun r157 m158 => ((¬ v3 = 0 → ((¬ r157 = v5 → fL_acts_1026  K   m158) ∧ (r157 = v5 → fX7_count v1 (0 : Int32) m158 (fun r161 m162 => (∀ x163 : Int32, x163 = (v4 + (1 : Int32)) → ((¬ r161 = x163 → fL_acts_1026  K   m162) ∧ (r161 = x163 → fX7_count v1 (2 : Int32) m162 (fun r165 m166 => ((¬ r165 = 0 → fL_acts_1026  K   m166) ∧ (r165 = 0 → fX7_ofDish v1 v2 (1 : Int32) m166 (fun r168 m169 => ((¬ r168 = 0 → fL_acts_1026  K   m169) ∧ (r168 = 0 → fX7_ofDish v1 v2 (0 : Int32) m169 (fun r171 m172 => fX7_count v1 (11 : Int32) m172 (fun r173 m174 => ((r173 < r171 → fL_acts_1026  K   m174) ∧ (¬ r173 < r171 → fL_acts_1027  K  (1 : Int32) m174))))))))))))))))) ∧ (v3 = 0 → ((¬ r157 = (-5 : Int32) → fL_acts_1027  K  (0 : Int32) m158) ∧ (r157 = (-5 : Int32) → fL_acts_1027  K  (1 : Int32) m158)))))) ∧ (¬ (3 : Int32) ≤ v6 → fX7_ofDish v1 v6 (2 : Int32) μ (fun r177 m178 => (∀ x179 : Int32, x179 = (v5 + r177) → (∀ x180 : Int32, x180 = v6 + (1 : Int32) → k919 v1 v2 v3 v4 x179 x180 m178)))))
def fL_acts_919  (K : Int32 → zMem → Prop) (n : Nat) : Nat → Int32 → Int32 → Int32 → Int32 → Int32 → zMem → Prop := z_it (fun k => fL_acts_919b  k K ) (fun _ _ _ _ _ _ _ => False) n
def fL_acts_906  (K : Int32 → zMem → Prop) (v1 : Nat) (v2 : Int32) (v3 : Int32) (μ : zMem) : Prop :=
  fX7_count v1 (0 : Int32) μ (fun r181 m182 => fL_acts_919  K  zFU v1 v2 v3 r181 (0 : Int32) (0 : Int32) m182)
def fL_acts_1197  (K : Int32 → zMem → Prop) (v1 : Int32) (μ : zMem) : Prop :=
  (z_b v1 ∧ K v1 μ)
def fL_acts_1192  (K : Int32 → zMem → Prop)  (μ : zMem) : Prop :=
  fL_acts_1197  K  (1 : Int32) μ
def fL_acts_1196  (K : Int32 → zMem → Prop)  (μ : zMem) : Prop :=
  fL_acts_1197  K  (0 : Int32) μ
def fL_acts_1093  (K : Int32 → zMem → Prop) (v1 : Nat) (v2 : Int32) (v3 : Int32) (v4 : Int32) (v5 : Int32) (μ : zMem) : Prop :=
  (∀ x183 : Int32, x183 = ((10 : Int32) + v4) → fX7_count v1 x183 μ (fun r184 m185 => (∀ x186 : Int32, x186 = (v2 >>> ((13 : Int32) &&& 31)) → (∀ x187 : Int32, x187 = (x186 - x186 / (5 : Int32) * (5 : Int32)) → fX7_set v1 v4 v5 m185 (fun r188 m189 => ((¬ r188 = r184 → fL_acts_1196  K   m189) ∧ (r188 = r184 → (∀ x191 : Int32, x191 = ((10 : Int32) + v4) → fX7_count v1 x191 m189 (fun r192 m193 => ((¬ r192 = v5 → fL_acts_1196  K   m193) ∧ (r192 = v5 → (∀ x195 : Int32, x195 = (v2 >>> ((16 : Int32) &&& 31)) → (∀ x196 : Int32, x196 = (x195 - x195 / (3 : Int32) * (3 : Int32)) → (∀ x197 : Int32, x197 = ((1 : Int32) + x196) → fX7_price v1 x187 v3 x197 m193 (fun r198 m199 => ((r198 < (1 : Int32) → fL_acts_1196  K   m199) ∧ (¬ r198 < (1 : Int32) → fX7_count v1 (0 : Int32) m199 (fun r201 m202 => (∀ x203 : Int32, x203 = (r201 - r201 / (5 : Int32) * (5 : Int32)) → ((¬ x203 = x187 → fL_acts_1192  K   m202) ∧ (x203 = x187 → fX7_ofDish v1 v3 (6 : Int32) m202 (fun r205 m206 => (∀ x207 : Int32, x207 = (v2 >>> ((16 : Int32) &&& 31)) → (∀ x208 : Int32, x208 = (x207 - x207 / (3 : Int32) * (3 : Int32)) → (∀ x209 : Int32, x209 = ((1 : Int32) + x208) → ((¬ r205 = x209 → fL_acts_1196  K   m206) ∧ (r205 = x209 → fL_acts_1192  K   m206)))))))))))))))))))))))))))
def fL_acts_58  (K : Int32 → zMem → Prop) (v1 : Nat) (v2 : Int32) (v3 : Int32) (v4 : Int32) (v5 : Int32) (v6 : Int32) (v7 : Int32) (v8 : Int32) (μ : zMem) : Prop :=
  (∀ x211 : Int32, x211 = (v2 - v2 / (12 : Int32) * (12 : Int32)) → ((x211 = (0 : Int32) → fL_acts_124  K  v1 v3 μ) ∧ (¬ x211 = (0 : Int32) → ((x211 = (1 : Int32) → fL_acts_185  K  v1 v2 v3 v4 v7 μ) ∧ (¬ x211 = (1 : Int32) → ((x211 = (2 : Int32) → fL_acts_254  K  v1 v3 v4 v5 v6 v7 μ) ∧ (¬ x211 = (2 : Int32) → ((x211 = (3 : Int32) → fL_acts_254  K  v1 v3 v4 v5 v6 v7 μ) ∧ (¬ x211 = (3 : Int32) → ((x211 = (4 : Int32) → fL_acts_254  K  v1 v3 v4 v5 v6 v7 μ) ∧ (¬ x211 = (4 : Int32) → ((x211 = (5 : Int32) → fL_acts_376  K  v1 v3 v4 v6 v7 μ) ∧ (¬ x211 = (5 : Int32) → ((x211 = (6 : Int32) → fL_acts_497  K  v1 v8 μ) ∧ (¬ x211 = (6 : Int32) → ((x211 = (7 : Int32) → fL_acts_570  K  v1 v3 v4 v7 v8 μ) ∧ (¬ x211 = (7 : Int32) → ((x211 = (8 : Int32) → fL_acts_570  K  v1 v3 v4 v7 v8 μ) ∧ (¬ x211 = (8 : Int32) → ((x211 = (9 : Int32) → fL_acts_755  K  v1 v3 v4 v5 v7 v8 μ) ∧ (¬ x211 = (9 : Int32) → ((x211 = (10 : Int32) → fL_acts_906  K  v1 v5 v8 μ) ∧ (¬ x211 = (10 : Int32) → (∀ x223 : Int32, x223 = (v2 >>> ((4 : Int32) &&& 31)) → (∀ x224 : Int32, x224 = (x223 - x223 / (4 : Int32) * (4 : Int32)) → ((¬ x224 = 0 → ((¬ x224 = (1 : Int32) → ((¬ x224 = (2 : Int32) → (∀ x228 : Int32, x228 = (v2 >>> ((8 : Int32) &&& 31)) → (∀ x229 : Int32, x229 = (x228 - x228 / (20 : Int32) * (20 : Int32)) → (∀ x230 : Int32, x230 = ((1 : Int32) + x229) → fL_acts_1093  K  v1 v2 v5 x224 x230 μ)))) ∧ (x224 = (2 : Int32) → (∀ x231 : Int32, x231 = (v2 >>> ((8 : Int32) &&& 31)) → (∀ x232 : Int32, x232 = (x231 - x231 / (9 : Int32) * (9 : Int32)) → (∀ x233 : Int32, x233 = ((1 : Int32) + x232) → fL_acts_1093  K  v1 v2 v5 x224 x233 μ)))))) ∧ (x224 = (1 : Int32) → (∀ x234 : Int32, x234 = (v2 >>> ((8 : Int32) &&& 31)) → (∀ x235 : Int32, x235 = (x234 - x234 / (21 : Int32) * (21 : Int32)) → fL_acts_1093  K  v1 v2 v5 x224 x235 μ))))) ∧ (x224 = 0 → (∀ x236 : Int32, x236 = (v2 >>> ((8 : Int32) &&& 31)) → (∀ x237 : Int32, x237 = (x236 - x236 / (10 : Int32) * (10 : Int32)) → fL_acts_1093  K  v1 v2 v5 x224 x237 μ)))))))))))))))))))))))))))))
def fL_acts_19  (K : Int32 → zMem → Prop) (v1 : Nat) (v2 : Int32) (v3 : Int32) (v4 : Int32) (μ : zMem) : Prop :=
  (∀ x238 : Int32, x238 = (v2 >>> ((8 : Int32) &&& 31)) → (∀ x239 : Int32, x239 = (x238 - x238 / (3 : Int32) * (3 : Int32)) → (∀ x240 : Int32, x240 = (v2 >>> ((10 : Int32) &&& 31)) → (∀ x241 : Int32, x241 = (x240 - x240 / (5 : Int32) * (5 : Int32)) → fX7_of v1 v4 (0 : Int32) μ (fun r242 m243 => fX7_count v1 (2 : Int32) m243 (fun r244 m245 => ((¬ r244 = (1 : Int32) → fL_acts_58  K  v1 v2 v3 v4 x239 x241 r242 (0 : Int32) m245) ∧ (r244 = (1 : Int32) → fL_acts_58  K  v1 v2 v3 v4 x239 x241 r242 (1 : Int32) m245))))))))
def fL_acts (a1 : Nat) (a2 : Int32) (μ : zMem) (K : Int32 → zMem → Prop) : Prop :=
  fX7_count a1 (1 : Int32) μ (fun r247 m248 => ((¬ r247 = 0 → (∀ x250 : Int32, x250 = (a2 >>> ((4 : Int32) &&& 31)) → ((¬ r247 = 0) ∧ (∀ x252 : Int32, x252 = (x250 - x250 / r247 * r247) → fL_acts_19  K  a1 a2 r247 x252 m248)))) ∧ (r247 = 0 → fL_acts_19  K  a1 a2 r247 (0 : Int32) m248)))
set_option maxRecDepth 100000 in
set_option maxHeartbeats 4000000 in
theorem tL_acts_184 {p : Program} {l : Launch} {e : Env} {s : State} {m : MethodId} {args : Array Value} {below : List Frame} {meth : Method} {c : Code} {G : zG}  {K : Int32 → zMem → Prop} (o : za_Ok (z_rm 7 151) 0 0 p s m args meth c G RL cL_acts 32 (some .boolean))  (v1 : Int32) (μ : zMem)  (hf : fL_acts_184  K v1 μ) : za_At p l e (z_rm 7 151) s m args below meth c (MQ below (zQi G K) args s 0 0 (zA G)) G 32 0 0 184 [] [.int v1] μ := by
  unfold fL_acts_184 at hf
  exact za_zret o rfl hf.1 hf.2 dL_acts_184
set_option maxRecDepth 100000 in
set_option maxHeartbeats 4000000 in
theorem tL_acts_183 {p : Program} {l : Launch} {e : Env} {s : State} {m : MethodId} {args : Array Value} {below : List Frame} {meth : Method} {c : Code} {G : zG}  {K : Int32 → zMem → Prop} (o : za_Ok (z_rm 7 151) 0 0 p s m args meth c G RL cL_acts 32 (some .boolean))   (μ : zMem)  (hf : fL_acts_183  K  μ) : za_At p l e (z_rm 7 151) s m args below meth c (MQ below (zQi G K) args s 0 0 (zA G)) G 32 0 0 183 [] [] μ := by
  unfold fL_acts_183 at hf
  refine za_iconst (v := (0 : Int32)) o dL_acts_183 (by decide) ?_
  exact tL_acts_184 o   (0 : Int32) μ  hf
set_option maxRecDepth 100000 in
set_option maxHeartbeats 4000000 in
theorem tL_acts_124 {p : Program} {l : Launch} {e : Env} {s : State} {m : MethodId} {args : Array Value} {below : List Frame} {meth : Method} {c : Code} {G : zG}  {K : Int32 → zMem → Prop} (o : za_Ok (z_rm 7 151) 0 0 p s m args meth c G RL cL_acts 32 (some .boolean))  (v1 : Nat) (v2 : Int32) (μ : zMem) (hv1 : z_is v1 7) (hf : fL_acts_124  K v1 v2 μ) : za_At p l e (z_rm 7 151) s m args below meth c (MQ below (zQi G K) args s 0 0 (zA G)) G 32 0 0 124 [(0, .ref (G.2.2 + v1)), (2, .int v2)] [] μ := by
  unfold fL_acts_124 at hf
  refine za_aload_n o 0 dL_acts_124 rfl rfl ?_
  refine za_callVi o [] (ctX7_person l G hv1   μ _ hf) zc7 hv1 mwX7_person wmL_41 wiX7_person wsX7_person rfl ⟨Nat.le_of_ble_eq_true rfl, Nat.le_of_ble_eq_true rfl⟩ rfl (Nat.le_of_ble_eq_true rfl) dL_acts_125 (fun r1 m2 hf => ?_)
  refine za_istore o [(8, .int r1), (0, .ref (G.2.2 + v1)), (2, .int v2)] dL_acts_128 (by decide) rfl ?_
  refine za_iload_n o 2 dL_acts_130 rfl rfl ?_
  refine za_bipush (v := (14 : Int32)) o dL_acts_131 (by decide) ?_
  refine za_icmp_ne o 151 dL_acts_133 (by decide) (fun c3 => ?_) (fun c3 => ?_)
  · replace hf := hf.1 c3
    refine za_iload o 0 dL_acts_151 rfl ?_
    refine za_iload_n o 2 dL_acts_153 rfl rfl ?_
    refine za_icmp_ne o 183 dL_acts_154 (by decide) (fun c4 => ?_) (fun c4 => ?_)
    · replace hf := hf.1 c4
      refine za_sub [] rfl ?_
      exact tL_acts_183 o    m2  hf
    · replace hf := hf.2 c4
      refine za_aload_n o 1 dL_acts_157 rfl rfl ?_
      refine za_iload o 0 dL_acts_158 rfl ?_
      refine za_iconst (v := (0 : Int32)) o dL_acts_160 (by decide) ?_
      refine za_callVi o [.int r1, .int (0 : Int32)] (ctX7_of l G hv1 r1 (0 : Int32)  m2 _ hf) zc7 hv1 mwX7_of wmL_9 wiX7_of wsX7_of rfl ⟨Nat.le_of_ble_eq_true rfl, Nat.le_of_ble_eq_true rfl⟩ rfl (Nat.le_of_ble_eq_true rfl) dL_acts_161 (fun r5 m6 hf => ?_)
      refine za_iconst (v := (5 : Int32)) o dL_acts_164 (by decide) ?_
      refine za_icmp_ne o 183 dL_acts_165 (by decide) (fun c7 => ?_) (fun c7 => ?_)
      · replace hf := hf.1 c7
        refine za_sub [] rfl ?_
        exact tL_acts_183 o    m6  hf
      · replace hf := hf.2 c7
        refine za_aload_n o 1 dL_acts_168 rfl rfl ?_
        refine za_iconst (v := (1 : Int32)) o dL_acts_169 (by decide) ?_
        refine za_callVi o [.int (1 : Int32)] (ctX7_count l G hv1 (1 : Int32)  m6 _ hf) zc7 hv1 mwX7_count wmL_18 wiX7_count wsX7_count rfl ⟨Nat.le_of_ble_eq_true rfl, Nat.le_of_ble_eq_true rfl⟩ rfl (Nat.le_of_ble_eq_true rfl) dL_acts_170 (fun r8 m9 hf => ?_)
        refine za_iload_n o 2 dL_acts_173 rfl rfl ?_
        refine za_iconst (v := (1 : Int32)) o dL_acts_174 (by decide) ?_
        refine za_iadd o dL_acts_175 ?_
        refine za_topi (fun x10 ex10 => ?_)
        replace hf := hf x10 ex10
        refine za_icmp_ne o 183 dL_acts_176 (by decide) (fun c11 => ?_) (fun c11 => ?_)
        · replace hf := hf.1 c11
          refine za_sub [] rfl ?_
          exact tL_acts_183 o    m9  hf
        · replace hf := hf.2 c11
          refine za_iconst (v := (1 : Int32)) o dL_acts_179 (by decide) ?_
          refine za_goto o 184 dL_acts_180 (by decide) ?_
          refine za_sub [] rfl ?_
          exact tL_acts_184 o   (1 : Int32) m9  hf
  · replace hf := hf.2 c3
    refine za_iload o 0 dL_acts_136 rfl ?_
    refine za_bipush (v := (-4 : Int32)) o dL_acts_138 (by decide) ?_
    refine za_icmp_ne o 147 dL_acts_140 (by decide) (fun c12 => ?_) (fun c12 => ?_)
    · replace hf := hf.1 c12
      refine za_iconst (v := (0 : Int32)) o dL_acts_147 (by decide) ?_
      refine za_goto o 184 dL_acts_148 (by decide) ?_
      refine za_sub [] rfl ?_
      exact tL_acts_184 o   (0 : Int32) m2  hf
    · replace hf := hf.2 c12
      refine za_iconst (v := (1 : Int32)) o dL_acts_143 (by decide) ?_
      refine za_goto o 184 dL_acts_144 (by decide) ?_
      refine za_sub [] rfl ?_
      exact tL_acts_184 o   (1 : Int32) m2  hf
set_option maxRecDepth 100000 in
set_option maxHeartbeats 4000000 in
theorem tL_acts_253 {p : Program} {l : Launch} {e : Env} {s : State} {m : MethodId} {args : Array Value} {below : List Frame} {meth : Method} {c : Code} {G : zG}  {K : Int32 → zMem → Prop} (o : za_Ok (z_rm 7 151) 0 0 p s m args meth c G RL cL_acts 32 (some .boolean))  (v1 : Int32) (μ : zMem)  (hf : fL_acts_253  K v1 μ) : za_At p l e (z_rm 7 151) s m args below meth c (MQ below (zQi G K) args s 0 0 (zA G)) G 32 0 0 253 [] [.int v1] μ := by
  unfold fL_acts_253 at hf
  exact za_zret o rfl hf.1 hf.2 dL_acts_253
set_option maxRecDepth 100000 in
set_option maxHeartbeats 4000000 in
theorem tL_acts_245 {p : Program} {l : Launch} {e : Env} {s : State} {m : MethodId} {args : Array Value} {below : List Frame} {meth : Method} {c : Code} {G : zG}  {K : Int32 → zMem → Prop} (o : za_Ok (z_rm 7 151) 0 0 p s m args meth c G RL cL_acts 32 (some .boolean))  (v1 : Int32) (v2 : Int32) (μ : zMem)  (hf : fL_acts_245  K v1 v2 μ) : za_At p l e (z_rm 7 151) s m args below meth c (MQ below (zQi G K) args s 0 0 (zA G)) G 32 0 0 245 [] [.int v1, .int v2] μ := by
  unfold fL_acts_245 at hf
  refine za_icmp_ne o 252 dL_acts_245 (by decide) (fun c13 => ?_) (fun c13 => ?_)
  · replace hf := hf.1 c13
    refine za_iconst (v := (0 : Int32)) o dL_acts_252 (by decide) ?_
    exact tL_acts_253 o   (0 : Int32) μ  hf
  · replace hf := hf.2 c13
    refine za_iconst (v := (1 : Int32)) o dL_acts_248 (by decide) ?_
    refine za_goto o 253 dL_acts_249 (by decide) ?_
    exact tL_acts_253 o   (1 : Int32) μ  hf
set_option maxRecDepth 100000 in
set_option maxHeartbeats 4000000 in
theorem tL_acts_185 {p : Program} {l : Launch} {e : Env} {s : State} {m : MethodId} {args : Array Value} {below : List Frame} {meth : Method} {c : Code} {G : zG}  {K : Int32 → zMem → Prop} (o : za_Ok (z_rm 7 151) 0 0 p s m args meth c G RL cL_acts 32 (some .boolean))  (v1 : Nat) (v2 : Int32) (v3 : Int32) (v4 : Int32) (v5 : Int32) (μ : zMem) (hv1 : z_is v1 7) (hf : fL_acts_185  K v1 v2 v3 v4 v5 μ) : za_At p l e (z_rm 7 151) s m args below meth c (MQ below (zQi G K) args s 0 0 (zA G)) G 32 0 0 185 [(0, .ref (G.2.2 + v1)), (1, .int v2), (2, .int v3), (3, .int v4), (6, .int v5)] [] μ := by
  unfold fL_acts_185 at hf
  refine za_iconst (v := (1 : Int32)) o dL_acts_185 (by decide) ?_
  refine za_iload_n o 1 dL_acts_186 rfl rfl ?_
  refine za_bipush (v := (8 : Int32)) o dL_acts_187 (by decide) ?_
  refine za_ishr o dL_acts_189 ?_
  refine za_topi (fun x14 ex14 => ?_)
  replace hf := hf x14 ex14
  refine za_bipush (v := (30 : Int32)) o dL_acts_190 (by decide) ?_
  refine za_irem o dL_acts_192 (by decide) ?_
  refine za_topi (fun x15 ex15 => ?_)
  replace hf := hf x15 ex15
  refine za_iadd o dL_acts_193 ?_
  refine za_topi (fun x16 ex16 => ?_)
  replace hf := hf x16 ex16
  refine za_istore o [(9, .int x16), (0, .ref (G.2.2 + v1)), (1, .int v2), (2, .int v3), (3, .int v4), (6, .int v5)] dL_acts_194 (by decide) rfl ?_
  refine za_aload_n o 1 dL_acts_196 rfl rfl ?_
  refine za_iload_n o 4 dL_acts_197 rfl rfl ?_
  refine za_iload o 0 dL_acts_198 rfl ?_
  refine za_callVi o [.int v4, .int x16] (ctX7_vouchers l G hv1 v4 x16  μ _ hf) zc7 hv1 mwX7_vouchers wmL_45 wiX7_vouchers wsX7_vouchers rfl ⟨Nat.le_of_ble_eq_true rfl, Nat.le_of_ble_eq_true rfl⟩ rfl (Nat.le_of_ble_eq_true rfl) dL_acts_200 (fun r17 m18 hf => ?_)
  refine za_istore o [(10, .int r17), (9, .int x16), (0, .ref (G.2.2 + v1)), (1, .int v2), (2, .int v3), (3, .int v4), (6, .int v5)] dL_acts_203 (by decide) rfl ?_
  refine za_iload_n o 4 dL_acts_205 rfl rfl ?_
  refine za_if_ne o 223 dL_acts_206 (by decide) (fun c19 => ?_) (fun c19 => ?_)
  · replace hf := hf.1 c19
    refine za_iload o 0 dL_acts_223 rfl ?_
    refine za_iload o 6 dL_acts_225 rfl ?_
    refine za_iload o 1 dL_acts_227 rfl ?_
    refine za_iadd o dL_acts_229 ?_
    refine za_topi (fun x20 ex20 => ?_)
    replace hf := hf x20 ex20
    refine za_bipush (v := (30 : Int32)) o dL_acts_230 (by decide) ?_
    refine za_icmp_le o 240 dL_acts_232 (by decide) (fun c21 => ?_) (fun c21 => ?_)
    · replace hf := hf.1 c21
      refine za_iload o 6 dL_acts_240 rfl ?_
      refine za_iload o 1 dL_acts_242 rfl ?_
      refine za_iadd o dL_acts_244 ?_
      refine za_topi (fun x22 ex22 => ?_)
      replace hf := hf x22 ex22
      refine za_sub [] rfl ?_
      exact tL_acts_245 o   x22 r17 m18  hf
    · replace hf := hf.2 c21
      refine za_bipush (v := (30 : Int32)) o dL_acts_235 (by decide) ?_
      refine za_goto o 245 dL_acts_237 (by decide) ?_
      refine za_sub [] rfl ?_
      exact tL_acts_245 o   (30 : Int32) r17 m18  hf
  · replace hf := hf.2 c19
    refine za_iload o 0 dL_acts_209 rfl ?_
    refine za_iconst (v := (-1 : Int32)) o dL_acts_211 (by decide) ?_
    refine za_icmp_ne o 219 dL_acts_212 (by decide) (fun c23 => ?_) (fun c23 => ?_)
    · replace hf := hf.1 c23
      refine za_iconst (v := (0 : Int32)) o dL_acts_219 (by decide) ?_
      refine za_goto o 253 dL_acts_220 (by decide) ?_
      refine za_sub [] rfl ?_
      exact tL_acts_253 o   (0 : Int32) m18  hf
    · replace hf := hf.2 c23
      refine za_iconst (v := (1 : Int32)) o dL_acts_215 (by decide) ?_
      refine za_goto o 253 dL_acts_216 (by decide) ?_
      refine za_sub [] rfl ?_
      exact tL_acts_253 o   (1 : Int32) m18  hf
set_option maxRecDepth 100000 in
set_option maxHeartbeats 4000000 in
theorem tL_acts_375 {p : Program} {l : Launch} {e : Env} {s : State} {m : MethodId} {args : Array Value} {below : List Frame} {meth : Method} {c : Code} {G : zG}  {K : Int32 → zMem → Prop} (o : za_Ok (z_rm 7 151) 0 0 p s m args meth c G RL cL_acts 32 (some .boolean))  (v1 : Int32) (μ : zMem)  (hf : fL_acts_375  K v1 μ) : za_At p l e (z_rm 7 151) s m args below meth c (MQ below (zQi G K) args s 0 0 (zA G)) G 32 0 0 375 [] [.int v1] μ := by
  unfold fL_acts_375 at hf
  exact za_zret o rfl hf.1 hf.2 dL_acts_375
set_option maxRecDepth 100000 in
set_option maxHeartbeats 4000000 in
theorem tL_acts_304 {p : Program} {l : Launch} {e : Env} {s : State} {m : MethodId} {args : Array Value} {below : List Frame} {meth : Method} {c : Code} {G : zG}  {K : Int32 → zMem → Prop} (o : za_Ok (z_rm 7 151) 0 0 p s m args meth c G RL cL_acts 32 (some .boolean))   (μ : zMem)  (hf : fL_acts_304  K  μ) : za_At p l e (z_rm 7 151) s m args below meth c (MQ below (zQi G K) args s 0 0 (zA G)) G 32 0 0 304 [] [] μ := by
  unfold fL_acts_304 at hf
  refine za_iconst (v := (0 : Int32)) o dL_acts_304 (by decide) ?_
  refine za_goto o 375 dL_acts_305 (by decide) ?_
  exact tL_acts_375 o   (0 : Int32) μ  hf
set_option maxRecDepth 100000 in
set_option maxHeartbeats 4000000 in
theorem tL_acts_374 {p : Program} {l : Launch} {e : Env} {s : State} {m : MethodId} {args : Array Value} {below : List Frame} {meth : Method} {c : Code} {G : zG}  {K : Int32 → zMem → Prop} (o : za_Ok (z_rm 7 151) 0 0 p s m args meth c G RL cL_acts 32 (some .boolean))   (μ : zMem)  (hf : fL_acts_374  K  μ) : za_At p l e (z_rm 7 151) s m args below meth c (MQ below (zQi G K) args s 0 0 (zA G)) G 32 0 0 374 [] [] μ := by
  unfold fL_acts_374 at hf
  refine za_iconst (v := (0 : Int32)) o dL_acts_374 (by decide) ?_
  exact tL_acts_375 o   (0 : Int32) μ  hf
set_option maxRecDepth 100000 in
set_option maxHeartbeats 4000000 in
theorem tL_acts_254 {p : Program} {l : Launch} {e : Env} {s : State} {m : MethodId} {args : Array Value} {below : List Frame} {meth : Method} {c : Code} {G : zG}  {K : Int32 → zMem → Prop} (o : za_Ok (z_rm 7 151) 0 0 p s m args meth c G RL cL_acts 32 (some .boolean))  (v1 : Nat) (v2 : Int32) (v3 : Int32) (v4 : Int32) (v5 : Int32) (v6 : Int32) (μ : zMem) (hv1 : z_is v1 7) (hf : fL_acts_254  K v1 v2 v3 v4 v5 v6 μ) : za_At p l e (z_rm 7 151) s m args below meth c (MQ below (zQi G K) args s 0 0 (zA G)) G 32 0 0 254 [(0, .ref (G.2.2 + v1)), (2, .int v2), (3, .int v3), (4, .int v4), (5, .int v5), (6, .int v6)] [] μ := by
  unfold fL_acts_254 at hf
  refine za_aload_n o 0 dL_acts_254 rfl rfl ?_
  refine za_iload_n o 2 dL_acts_255 rfl rfl ?_
  refine za_iload o 4 dL_acts_256 rfl ?_
  refine za_iload o 3 dL_acts_258 rfl ?_
  refine za_callVi o [.int v3, .int v5, .int v4] (ctX7_why l G hv1 v3 v5 v4  μ _ hf) zc7 hv1 mwX7_why wmL_31 wiX7_why wsX7_why rfl ⟨Nat.le_of_ble_eq_true rfl, Nat.le_of_ble_eq_true rfl⟩ rfl (Nat.le_of_ble_eq_true rfl) dL_acts_260 (fun r24 m25 hf => ?_)
  refine za_istore o [(11, .int r24), (0, .ref (G.2.2 + v1)), (2, .int v2), (3, .int v3), (4, .int v4), (5, .int v5), (6, .int v6)] dL_acts_263 (by decide) rfl ?_
  refine za_iload o 6 dL_acts_265 rfl ?_
  refine za_aload_n o 1 dL_acts_267 rfl rfl ?_
  refine za_iload_n o 3 dL_acts_268 rfl rfl ?_
  refine za_iload o 5 dL_acts_269 rfl ?_
  refine za_iload o 4 dL_acts_271 rfl ?_
  refine za_callVi o [.int v3, .int v5, .int v4] (ctX7_order l G hv1 v3 v5 v4  m25 _ hf) zc7 hv1 mwX7_order wmL_48 wiX7_order wsX7_order rfl ⟨Nat.le_of_ble_eq_true rfl, Nat.le_of_ble_eq_true rfl⟩ rfl (Nat.le_of_ble_eq_true rfl) dL_acts_273 (fun r26 m27 hf => ?_)
  refine za_isub o dL_acts_276 ?_
  refine za_topi (fun x28 ex28 => ?_)
  replace hf := hf x28 ex28
  refine za_istore o [(12, .int x28), (11, .int r24), (0, .ref (G.2.2 + v1)), (2, .int v2), (3, .int v3), (4, .int v4), (5, .int v5), (6, .int v6)] dL_acts_277 (by decide) rfl ?_
  refine za_iload_n o 3 dL_acts_279 rfl rfl ?_
  refine za_if_ne o 308 dL_acts_280 (by decide) (fun c29 => ?_) (fun c29 => ?_)
  · replace hf := hf.1 c29
    refine za_iload o 1 dL_acts_308 rfl ?_
    refine za_if_le o 330 dL_acts_310 (by decide) (fun c30 => ?_) (fun c30 => ?_)
    · replace hf := hf.1 c30
      refine za_iload o 0 dL_acts_330 rfl ?_
      refine za_iconst (v := (1 : Int32)) o dL_acts_332 (by decide) ?_
      refine za_icmp_lt o 374 dL_acts_333 (by decide) (fun c31 => ?_) (fun c31 => ?_)
      · replace hf := hf.1 c31
        refine za_sub [] rfl ?_
        exact tL_acts_374 o    m27  hf
      · replace hf := hf.2 c31
        refine za_iload o 0 dL_acts_336 rfl ?_
        refine za_iconst (v := (3 : Int32)) o dL_acts_338 (by decide) ?_
        refine za_icmp_gt o 374 dL_acts_339 (by decide) (fun c32 => ?_) (fun c32 => ?_)
        · replace hf := hf.1 c32
          refine za_sub [] rfl ?_
          exact tL_acts_374 o    m27  hf
        · replace hf := hf.2 c32
          refine za_aload_n o 2 dL_acts_342 rfl rfl ?_
          refine za_iload o 6 dL_acts_343 rfl ?_
          refine za_iload o 5 dL_acts_345 rfl ?_
          refine za_callVi o [.int v5, .int v4] (ctX7_ordered l G hv1 v5 v4  m27 _ hf) zc7 hv1 mwX7_ordered wmL_15 wiX7_ordered wsX7_ordered rfl ⟨Nat.le_of_ble_eq_true rfl, Nat.le_of_ble_eq_true rfl⟩ rfl (Nat.le_of_ble_eq_true rfl) dL_acts_347 (fun r33 m34 hf => ?_)
          refine za_iload_n o 4 dL_acts_350 rfl rfl ?_
          refine za_ishr o dL_acts_351 ?_
          refine za_topi (fun x35 ex35 => ?_)
          replace hf := hf x35 ex35
          refine za_iconst (v := (1 : Int32)) o dL_acts_352 (by decide) ?_
          refine za_iand o dL_acts_353 ?_
          refine za_topi (fun x36 ex36 => ?_)
          replace hf := hf x36 ex36
          refine za_iconst (v := (1 : Int32)) o dL_acts_354 (by decide) ?_
          refine za_icmp_ne o 374 dL_acts_355 (by decide) (fun c37 => ?_) (fun c37 => ?_)
          · replace hf := hf.1 c37
            refine za_sub [] rfl ?_
            exact tL_acts_374 o    m34  hf
          · replace hf := hf.2 c37
            refine za_aload_n o 2 dL_acts_358 rfl rfl ?_
            refine za_iload_n o 4 dL_acts_359 rfl rfl ?_
            refine za_iload o 6 dL_acts_360 rfl ?_
            refine za_iconst (v := (0 : Int32)) o dL_acts_362 (by decide) ?_
            refine za_callVi o [.int v3, .int v5, .int (0 : Int32)] (ctX7_why l G hv1 v3 v5 (0 : Int32)  m34 _ hf) zc7 hv1 mwX7_why wmL_31 wiX7_why wsX7_why rfl ⟨Nat.le_of_ble_eq_true rfl, Nat.le_of_ble_eq_true rfl⟩ rfl (Nat.le_of_ble_eq_true rfl) dL_acts_363 (fun r38 m39 hf => ?_)
            refine za_iconst (v := (3 : Int32)) o dL_acts_366 (by decide) ?_
            refine za_icmp_ne o 374 dL_acts_367 (by decide) (fun c40 => ?_) (fun c40 => ?_)
            · replace hf := hf.1 c40
              refine za_sub [] rfl ?_
              exact tL_acts_374 o    m39  hf
            · replace hf := hf.2 c40
              refine za_iconst (v := (1 : Int32)) o dL_acts_370 (by decide) ?_
              refine za_goto o 375 dL_acts_371 (by decide) ?_
              refine za_sub [] rfl ?_
              exact tL_acts_375 o   (1 : Int32) m39  hf
    · replace hf := hf.2 c30
      refine za_iload o 0 dL_acts_313 rfl ?_
      refine za_iload o 7 dL_acts_315 rfl ?_
      refine za_iconst (v := (5 : Int32)) o dL_acts_317 (by decide) ?_
      refine za_iadd o dL_acts_318 ?_
      refine za_topi (fun x41 ex41 => ?_)
      replace hf := hf x41 ex41
      refine za_icmp_ne o 326 dL_acts_319 (by decide) (fun c42 => ?_) (fun c42 => ?_)
      · replace hf := hf.1 c42
        refine za_iconst (v := (0 : Int32)) o dL_acts_326 (by decide) ?_
        refine za_goto o 375 dL_acts_327 (by decide) ?_
        refine za_sub [] rfl ?_
        exact tL_acts_375 o   (0 : Int32) m27  hf
      · replace hf := hf.2 c42
        refine za_iconst (v := (1 : Int32)) o dL_acts_322 (by decide) ?_
        refine za_goto o 375 dL_acts_323 (by decide) ?_
        refine za_sub [] rfl ?_
        exact tL_acts_375 o   (1 : Int32) m27  hf
  · replace hf := hf.2 c29
    refine za_iload o 1 dL_acts_283 rfl ?_
    refine za_iconst (v := (-1 : Int32)) o dL_acts_285 (by decide) ?_
    refine za_icmp_ne o 304 dL_acts_286 (by decide) (fun c43 => ?_) (fun c43 => ?_)
    · replace hf := hf.1 c43
      refine za_sub [] rfl ?_
      exact tL_acts_304 o    m27  hf
    · replace hf := hf.2 c43
      refine za_aload_n o 2 dL_acts_289 rfl rfl ?_
      refine za_iconst (v := (0 : Int32)) o dL_acts_290 (by decide) ?_
      refine za_iconst (v := (0 : Int32)) o dL_acts_291 (by decide) ?_
      refine za_iconst (v := (0 : Int32)) o dL_acts_292 (by decide) ?_
      refine za_callVi o [.int (0 : Int32), .int (0 : Int32), .int (0 : Int32)] (ctX7_order l G hv1 (0 : Int32) (0 : Int32) (0 : Int32)  m27 _ hf) zc7 hv1 mwX7_order wmL_48 wiX7_order wsX7_order rfl ⟨Nat.le_of_ble_eq_true rfl, Nat.le_of_ble_eq_true rfl⟩ rfl (Nat.le_of_ble_eq_true rfl) dL_acts_293 (fun r44 m45 hf => ?_)
      refine za_iconst (v := (-1 : Int32)) o dL_acts_296 (by decide) ?_
      refine za_icmp_ne o 304 dL_acts_297 (by decide) (fun c46 => ?_) (fun c46 => ?_)
      · replace hf := hf.1 c46
        refine za_sub [] rfl ?_
        exact tL_acts_304 o    m45  hf
      · replace hf := hf.2 c46
        refine za_iconst (v := (1 : Int32)) o dL_acts_300 (by decide) ?_
        refine za_goto o 375 dL_acts_301 (by decide) ?_
        refine za_sub [] rfl ?_
        exact tL_acts_375 o   (1 : Int32) m45  hf
set_option maxRecDepth 100000 in
set_option maxHeartbeats 4000000 in
theorem tL_acts_496 {p : Program} {l : Launch} {e : Env} {s : State} {m : MethodId} {args : Array Value} {below : List Frame} {meth : Method} {c : Code} {G : zG}  {K : Int32 → zMem → Prop} (o : za_Ok (z_rm 7 151) 0 0 p s m args meth c G RL cL_acts 32 (some .boolean))  (v1 : Int32) (μ : zMem)  (hf : fL_acts_496  K v1 μ) : za_At p l e (z_rm 7 151) s m args below meth c (MQ below (zQi G K) args s 0 0 (zA G)) G 32 0 0 496 [] [.int v1] μ := by
  unfold fL_acts_496 at hf
  exact za_zret o rfl hf.1 hf.2 dL_acts_496
set_option maxRecDepth 100000 in
set_option maxHeartbeats 4000000 in
theorem tL_acts_495 {p : Program} {l : Launch} {e : Env} {s : State} {m : MethodId} {args : Array Value} {below : List Frame} {meth : Method} {c : Code} {G : zG}  {K : Int32 → zMem → Prop} (o : za_Ok (z_rm 7 151) 0 0 p s m args meth c G RL cL_acts 32 (some .boolean))   (μ : zMem)  (hf : fL_acts_495  K  μ) : za_At p l e (z_rm 7 151) s m args below meth c (MQ below (zQi G K) args s 0 0 (zA G)) G 32 0 0 495 [] [] μ := by
  unfold fL_acts_495 at hf
  refine za_iconst (v := (0 : Int32)) o dL_acts_495 (by decide) ?_
  exact tL_acts_496 o   (0 : Int32) μ  hf
set_option maxRecDepth 100000 in
set_option maxHeartbeats 4000000 in
theorem tL_acts_404 {p : Program} {l : Launch} {e : Env} {s : State} {m : MethodId} {args : Array Value} {below : List Frame} {meth : Method} {c : Code} {G : zG}  {K : Int32 → zMem → Prop} (o : za_Ok (z_rm 7 151) 0 0 p s m args meth c G RL cL_acts 32 (some .boolean))  (v1 : Nat) (v2 : Int32) (v3 : Int32) (v4 : Int32) (v5 : Int32) (v6 : Int32) (μ : zMem) (hv1 : z_is v1 7) (hf : fL_acts_404  K v1 v2 v3 v4 v5 v6 μ) : za_At p l e (z_rm 7 151) s m args below meth c (MQ below (zQi G K) args s 0 0 (zA G)) G 32 0 0 404 [(0, .ref (G.2.2 + v1)), (2, .int v2), (3, .int v3), (5, .int v4), (6, .int v5)] [.int v6] μ := by
  unfold fL_acts_404 at hf
  refine za_istore o [(13, .int v6), (0, .ref (G.2.2 + v1)), (2, .int v2), (3, .int v3), (5, .int v4), (6, .int v5)] dL_acts_404 (by decide) rfl ?_
  refine za_aload_n o 1 dL_acts_406 rfl rfl ?_
  refine za_iload_n o 3 dL_acts_407 rfl rfl ?_
  refine za_iconst (v := (1 : Int32)) o dL_acts_408 (by decide) ?_
  refine za_iload o 4 dL_acts_409 rfl ?_
  refine za_iconst (v := (4 : Int32)) o dL_acts_411 (by decide) ?_
  refine za_irem o dL_acts_412 (by decide) ?_
  refine za_topi (fun x47 ex47 => ?_)
  replace hf := hf x47 ex47
  refine za_iadd o dL_acts_413 ?_
  refine za_topi (fun x48 ex48 => ?_)
  replace hf := hf x48 ex48
  refine za_callVi o [.int v3, .int x48] (ctX7_callOff l G hv1 v3 x48  μ _ hf) zc7 hv1 mwX7_callOff wmL_51 wiX7_callOff wsX7_callOff rfl ⟨Nat.le_of_ble_eq_true rfl, Nat.le_of_ble_eq_true rfl⟩ rfl (Nat.le_of_ble_eq_true rfl) dL_acts_414 (fun r49 m50 hf => ?_)
  refine za_istore o [(14, .int r49), (13, .int v6), (0, .ref (G.2.2 + v1)), (2, .int v2), (3, .int v3), (5, .int v4), (6, .int v5)] dL_acts_417 (by decide) rfl ?_
  refine za_iload_n o 3 dL_acts_419 rfl rfl ?_
  refine za_if_ne o 437 dL_acts_420 (by decide) (fun c51 => ?_) (fun c51 => ?_)
  · replace hf := hf.1 c51
    refine za_iload o 1 dL_acts_437 rfl ?_
    refine za_if_ne o 457 dL_acts_439 (by decide) (fun c52 => ?_) (fun c52 => ?_)
    · replace hf := hf.1 c52
      refine za_iload o 0 dL_acts_457 rfl ?_
      refine za_iload o 6 dL_acts_459 rfl ?_
      refine za_icmp_lt o 495 dL_acts_461 (by decide) (fun c53 => ?_) (fun c53 => ?_)
      · replace hf := hf.1 c53
        refine za_sub [] rfl ?_
        exact tL_acts_495 o    m50  hf
      · replace hf := hf.2 c53
        refine za_iload o 0 dL_acts_464 rfl ?_
        refine za_iload o 6 dL_acts_466 rfl ?_
        refine za_iconst (v := (3 : Int32)) o dL_acts_468 (by decide) ?_
        refine za_iadd o dL_acts_469 ?_
        refine za_topi (fun x54 ex54 => ?_)
        replace hf := hf x54 ex54
        refine za_icmp_gt o 495 dL_acts_470 (by decide) (fun c55 => ?_) (fun c55 => ?_)
        · replace hf := hf.1 c55
          refine za_sub [] rfl ?_
          exact tL_acts_495 o    m50  hf
        · replace hf := hf.2 c55
          refine za_aload_n o 2 dL_acts_473 rfl rfl ?_
          refine za_iload_n o 4 dL_acts_474 rfl rfl ?_
          refine za_iconst (v := (2 : Int32)) o dL_acts_475 (by decide) ?_
          refine za_callVi o [.int v3, .int (2 : Int32)] (ctX7_of l G hv1 v3 (2 : Int32)  m50 _ hf) zc7 hv1 mwX7_of wmL_9 wiX7_of wsX7_of rfl ⟨Nat.le_of_ble_eq_true rfl, Nat.le_of_ble_eq_true rfl⟩ rfl (Nat.le_of_ble_eq_true rfl) dL_acts_476 (fun r56 m57 hf => ?_)
          refine za_iconst (v := (1 : Int32)) o dL_acts_479 (by decide) ?_
          refine za_iload o 5 dL_acts_480 rfl ?_
          refine za_iconst (v := (4 : Int32)) o dL_acts_482 (by decide) ?_
          refine za_irem o dL_acts_483 (by decide) ?_
          refine za_topi (fun x58 ex58 => ?_)
          replace hf := hf x58 ex58
          refine za_iadd o dL_acts_484 ?_
          refine za_topi (fun x59 ex59 => ?_)
          replace hf := hf x59 ex59
          refine za_ishr o dL_acts_485 ?_
          refine za_topi (fun x60 ex60 => ?_)
          replace hf := hf x60 ex60
          refine za_iconst (v := (1 : Int32)) o dL_acts_486 (by decide) ?_
          refine za_iand o dL_acts_487 ?_
          refine za_topi (fun x61 ex61 => ?_)
          replace hf := hf x61 ex61
          refine za_if_ne o 495 dL_acts_488 (by decide) (fun c62 => ?_) (fun c62 => ?_)
          · replace hf := hf.1 c62
            refine za_sub [] rfl ?_
            exact tL_acts_495 o    m57  hf
          · replace hf := hf.2 c62
            refine za_iconst (v := (1 : Int32)) o dL_acts_491 (by decide) ?_
            refine za_goto o 496 dL_acts_492 (by decide) ?_
            refine za_sub [] rfl ?_
            exact tL_acts_496 o   (1 : Int32) m57  hf
    · replace hf := hf.2 c52
      refine za_iload o 0 dL_acts_442 rfl ?_
      refine za_bipush (v := (-5 : Int32)) o dL_acts_444 (by decide) ?_
      refine za_icmp_ne o 453 dL_acts_446 (by decide) (fun c63 => ?_) (fun c63 => ?_)
      · replace hf := hf.1 c63
        refine za_iconst (v := (0 : Int32)) o dL_acts_453 (by decide) ?_
        refine za_goto o 496 dL_acts_454 (by decide) ?_
        refine za_sub [] rfl ?_
        exact tL_acts_496 o   (0 : Int32) m50  hf
      · replace hf := hf.2 c63
        refine za_iconst (v := (1 : Int32)) o dL_acts_449 (by decide) ?_
        refine za_goto o 496 dL_acts_450 (by decide) ?_
        refine za_sub [] rfl ?_
        exact tL_acts_496 o   (1 : Int32) m50  hf
  · replace hf := hf.2 c51
    refine za_iload o 0 dL_acts_423 rfl ?_
    refine za_iconst (v := (-1 : Int32)) o dL_acts_425 (by decide) ?_
    refine za_icmp_ne o 433 dL_acts_426 (by decide) (fun c64 => ?_) (fun c64 => ?_)
    · replace hf := hf.1 c64
      refine za_iconst (v := (0 : Int32)) o dL_acts_433 (by decide) ?_
      refine za_goto o 496 dL_acts_434 (by decide) ?_
      refine za_sub [] rfl ?_
      exact tL_acts_496 o   (0 : Int32) m50  hf
    · replace hf := hf.2 c64
      refine za_iconst (v := (1 : Int32)) o dL_acts_429 (by decide) ?_
      refine za_goto o 496 dL_acts_430 (by decide) ?_
      refine za_sub [] rfl ?_
      exact tL_acts_496 o   (1 : Int32) m50  hf
set_option maxRecDepth 100000 in
set_option maxHeartbeats 4000000 in
theorem tL_acts_403 {p : Program} {l : Launch} {e : Env} {s : State} {m : MethodId} {args : Array Value} {below : List Frame} {meth : Method} {c : Code} {G : zG}  {K : Int32 → zMem → Prop} (o : za_Ok (z_rm 7 151) 0 0 p s m args meth c G RL cL_acts 32 (some .boolean))  (v1 : Nat) (v2 : Int32) (v3 : Int32) (v4 : Int32) (v5 : Int32) (μ : zMem) (hv1 : z_is v1 7) (hf : fL_acts_403  K v1 v2 v3 v4 v5 μ) : za_At p l e (z_rm 7 151) s m args below meth c (MQ below (zQi G K) args s 0 0 (zA G)) G 32 0 0 403 [(0, .ref (G.2.2 + v1)), (2, .int v2), (3, .int v3), (5, .int v4), (6, .int v5)] [] μ := by
  unfold fL_acts_403 at hf
  refine za_iconst (v := (0 : Int32)) o dL_acts_403 (by decide) ?_
  exact tL_acts_404 o   v1 v2 v3 v4 v5 (0 : Int32) μ hv1 hf
set_option maxRecDepth 100000 in
set_option maxHeartbeats 4000000 in
theorem tL_acts_376 {p : Program} {l : Launch} {e : Env} {s : State} {m : MethodId} {args : Array Value} {below : List Frame} {meth : Method} {c : Code} {G : zG}  {K : Int32 → zMem → Prop} (o : za_Ok (z_rm 7 151) 0 0 p s m args meth c G RL cL_acts 32 (some .boolean))  (v1 : Nat) (v2 : Int32) (v3 : Int32) (v4 : Int32) (v5 : Int32) (μ : zMem) (hv1 : z_is v1 7) (hf : fL_acts_376  K v1 v2 v3 v4 v5 μ) : za_At p l e (z_rm 7 151) s m args below meth c (MQ below (zQi G K) args s 0 0 (zA G)) G 32 0 0 376 [(0, .ref (G.2.2 + v1)), (2, .int v2), (3, .int v3), (5, .int v4), (6, .int v5)] [] μ := by
  unfold fL_acts_376 at hf
  refine za_iload_n o 1 dL_acts_376 rfl rfl ?_
  refine za_if_le o 403 dL_acts_377 (by decide) (fun c65 => ?_) (fun c65 => ?_)
  · replace hf := hf.1 c65
    exact tL_acts_403 o   v1 v2 v3 v4 v5 μ hv1 hf
  · replace hf := hf.2 c65
    refine za_aload_n o 0 dL_acts_380 rfl rfl ?_
    refine za_iload_n o 2 dL_acts_381 rfl rfl ?_
    refine za_iconst (v := (2 : Int32)) o dL_acts_382 (by decide) ?_
    refine za_callVi o [.int v3, .int (2 : Int32)] (ctX7_of l G hv1 v3 (2 : Int32)  μ _ hf) zc7 hv1 mwX7_of wmL_9 wiX7_of wsX7_of rfl ⟨Nat.le_of_ble_eq_true rfl, Nat.le_of_ble_eq_true rfl⟩ rfl (Nat.le_of_ble_eq_true rfl) dL_acts_383 (fun r66 m67 hf => ?_)
    refine za_iconst (v := (1 : Int32)) o dL_acts_386 (by decide) ?_
    refine za_iload o 3 dL_acts_387 rfl ?_
    refine za_iconst (v := (4 : Int32)) o dL_acts_389 (by decide) ?_
    refine za_irem o dL_acts_390 (by decide) ?_
    refine za_topi (fun x68 ex68 => ?_)
    replace hf := hf x68 ex68
    refine za_iadd o dL_acts_391 ?_
    refine za_topi (fun x69 ex69 => ?_)
    replace hf := hf x69 ex69
    refine za_ishr o dL_acts_392 ?_
    refine za_topi (fun x70 ex70 => ?_)
    replace hf := hf x70 ex70
    refine za_iconst (v := (1 : Int32)) o dL_acts_393 (by decide) ?_
    refine za_iand o dL_acts_394 ?_
    refine za_topi (fun x71 ex71 => ?_)
    replace hf := hf x71 ex71
    refine za_iconst (v := (1 : Int32)) o dL_acts_395 (by decide) ?_
    refine za_icmp_ne o 403 dL_acts_396 (by decide) (fun c72 => ?_) (fun c72 => ?_)
    · replace hf := hf.1 c72
      exact tL_acts_403 o   v1 v2 v3 v4 v5 m67 hv1 hf
    · replace hf := hf.2 c72
      refine za_iconst (v := (1 : Int32)) o dL_acts_399 (by decide) ?_
      refine za_goto o 404 dL_acts_400 (by decide) ?_
      exact tL_acts_404 o   v1 v2 v3 v4 v5 (1 : Int32) m67 hv1 hf
set_option maxRecDepth 100000 in
set_option maxHeartbeats 4000000 in
theorem tL_acts_569 {p : Program} {l : Launch} {e : Env} {s : State} {m : MethodId} {args : Array Value} {below : List Frame} {meth : Method} {c : Code} {G : zG}  {K : Int32 → zMem → Prop} (o : za_Ok (z_rm 7 151) 0 0 p s m args meth c G RL cL_acts 32 (some .boolean))  (v1 : Int32) (μ : zMem)  (hf : fL_acts_569  K v1 μ) : za_At p l e (z_rm 7 151) s m args below meth c (MQ below (zQi G K) args s 0 0 (zA G)) G 32 0 0 569 [] [.int v1] μ := by
  unfold fL_acts_569 at hf
  exact za_zret o rfl hf.1 hf.2 dL_acts_569
set_option maxRecDepth 100000 in
set_option maxHeartbeats 4000000 in
theorem tL_acts_568 {p : Program} {l : Launch} {e : Env} {s : State} {m : MethodId} {args : Array Value} {below : List Frame} {meth : Method} {c : Code} {G : zG}  {K : Int32 → zMem → Prop} (o : za_Ok (z_rm 7 151) 0 0 p s m args meth c G RL cL_acts 32 (some .boolean))   (μ : zMem)  (hf : fL_acts_568  K  μ) : za_At p l e (z_rm 7 151) s m args below meth c (MQ below (zQi G K) args s 0 0 (zA G)) G 32 0 0 568 [] [] μ := by
  unfold fL_acts_568 at hf
  refine za_iconst (v := (0 : Int32)) o dL_acts_568 (by decide) ?_
  exact tL_acts_569 o   (0 : Int32) μ  hf
set_option maxRecDepth 100000 in
set_option maxHeartbeats 4000000 in
theorem tL_acts_497 {p : Program} {l : Launch} {e : Env} {s : State} {m : MethodId} {args : Array Value} {below : List Frame} {meth : Method} {c : Code} {G : zG}  {K : Int32 → zMem → Prop} (o : za_Ok (z_rm 7 151) 0 0 p s m args meth c G RL cL_acts 32 (some .boolean))  (v1 : Nat) (v2 : Int32) (μ : zMem) (hv1 : z_is v1 7) (hf : fL_acts_497  K v1 v2 μ) : za_At p l e (z_rm 7 151) s m args below meth c (MQ below (zQi G K) args s 0 0 (zA G)) G 32 0 0 497 [(0, .ref (G.2.2 + v1)), (7, .int v2)] [] μ := by
  unfold fL_acts_497 at hf
  refine za_aload_n o 0 dL_acts_497 rfl rfl ?_
  refine za_iconst (v := (0 : Int32)) o dL_acts_498 (by decide) ?_
  refine za_bipush (v := (7 : Int32)) o dL_acts_499 (by decide) ?_
  refine za_callVi o [.int (0 : Int32), .int (7 : Int32)] (ctX7_ofDish l G hv1 (0 : Int32) (7 : Int32)  μ _ hf) zc7 hv1 mwX7_ofDish wmL_28 wiX7_ofDish wsX7_ofDish rfl ⟨Nat.le_of_ble_eq_true rfl, Nat.le_of_ble_eq_true rfl⟩ rfl (Nat.le_of_ble_eq_true rfl) dL_acts_501 (fun r73 m74 hf => ?_)
  refine za_aload_n o 0 dL_acts_504 rfl rfl ?_
  refine za_iconst (v := (1 : Int32)) o dL_acts_505 (by decide) ?_
  refine za_bipush (v := (7 : Int32)) o dL_acts_506 (by decide) ?_
  refine za_callVi o [.int (1 : Int32), .int (7 : Int32)] (ctX7_ofDish l G hv1 (1 : Int32) (7 : Int32)  m74 _ hf) zc7 hv1 mwX7_ofDish wmL_28 wiX7_ofDish wsX7_ofDish rfl ⟨Nat.le_of_ble_eq_true rfl, Nat.le_of_ble_eq_true rfl⟩ rfl (Nat.le_of_ble_eq_true rfl) dL_acts_508 (fun r75 m76 hf => ?_)
  refine za_iadd o dL_acts_511 ?_
  refine za_topi (fun x77 ex77 => ?_)
  replace hf := hf x77 ex77
  refine za_aload_n o 0 dL_acts_512 rfl rfl ?_
  refine za_iconst (v := (2 : Int32)) o dL_acts_513 (by decide) ?_
  refine za_bipush (v := (7 : Int32)) o dL_acts_514 (by decide) ?_
  refine za_callVi o [.int (2 : Int32), .int (7 : Int32)] (ctX7_ofDish l G hv1 (2 : Int32) (7 : Int32)  m76 _ hf) zc7 hv1 mwX7_ofDish wmL_28 wiX7_ofDish wsX7_ofDish rfl ⟨Nat.le_of_ble_eq_true rfl, Nat.le_of_ble_eq_true rfl⟩ rfl (Nat.le_of_ble_eq_true rfl) dL_acts_516 (fun r78 m79 hf => ?_)
  refine za_iadd o dL_acts_519 ?_
  refine za_topi (fun x80 ex80 => ?_)
  replace hf := hf x80 ex80
  refine za_istore o [(15, .int x80), (0, .ref (G.2.2 + v1)), (7, .int v2)] dL_acts_520 (by decide) rfl ?_
  refine za_aload_n o 1 dL_acts_522 rfl rfl ?_
  refine za_callVi o [] (ctX7_cook l G hv1   m79 _ hf) zc7 hv1 mwX7_cook wmL_54 wiX7_cook wsX7_cook rfl ⟨Nat.le_of_ble_eq_true rfl, Nat.le_of_ble_eq_true rfl⟩ rfl (Nat.le_of_ble_eq_true rfl) dL_acts_523 (fun r81 m82 hf => ?_)
  refine za_istore o [(16, .int r81), (15, .int x80), (0, .ref (G.2.2 + v1)), (7, .int v2)] dL_acts_526 (by decide) rfl ?_
  refine za_iload o 3 dL_acts_528 rfl ?_
  refine za_if_eq o 548 dL_acts_530 (by decide) (fun c83 => ?_) (fun c83 => ?_)
  · replace hf := hf.1 c83
    refine za_iload o 0 dL_acts_548 rfl ?_
    refine za_iload o 1 dL_acts_550 rfl ?_
    refine za_icmp_ne o 568 dL_acts_552 (by decide) (fun c84 => ?_) (fun c84 => ?_)
    · replace hf := hf.1 c84
      refine za_sub [] rfl ?_
      exact tL_acts_568 o    m82  hf
    · replace hf := hf.2 c84
      refine za_aload_n o 2 dL_acts_555 rfl rfl ?_
      refine za_iconst (v := (2 : Int32)) o dL_acts_556 (by decide) ?_
      refine za_callVi o [.int (2 : Int32)] (ctX7_count l G hv1 (2 : Int32)  m82 _ hf) zc7 hv1 mwX7_count wmL_18 wiX7_count wsX7_count rfl ⟨Nat.le_of_ble_eq_true rfl, Nat.le_of_ble_eq_true rfl⟩ rfl (Nat.le_of_ble_eq_true rfl) dL_acts_557 (fun r85 m86 hf => ?_)
      refine za_iconst (v := (1 : Int32)) o dL_acts_560 (by decide) ?_
      refine za_icmp_ne o 568 dL_acts_561 (by decide) (fun c87 => ?_) (fun c87 => ?_)
      · replace hf := hf.1 c87
        refine za_sub [] rfl ?_
        exact tL_acts_568 o    m86  hf
      · replace hf := hf.2 c87
        refine za_iconst (v := (1 : Int32)) o dL_acts_564 (by decide) ?_
        refine za_goto o 569 dL_acts_565 (by decide) ?_
        refine za_sub [] rfl ?_
        exact tL_acts_569 o   (1 : Int32) m86  hf
  · replace hf := hf.2 c83
    refine za_iload o 0 dL_acts_533 rfl ?_
    refine za_bipush (v := (-5 : Int32)) o dL_acts_535 (by decide) ?_
    refine za_icmp_ne o 544 dL_acts_537 (by decide) (fun c88 => ?_) (fun c88 => ?_)
    · replace hf := hf.1 c88
      refine za_iconst (v := (0 : Int32)) o dL_acts_544 (by decide) ?_
      refine za_goto o 569 dL_acts_545 (by decide) ?_
      refine za_sub [] rfl ?_
      exact tL_acts_569 o   (0 : Int32) m82  hf
    · replace hf := hf.2 c88
      refine za_iconst (v := (1 : Int32)) o dL_acts_540 (by decide) ?_
      refine za_goto o 569 dL_acts_541 (by decide) ?_
      refine za_sub [] rfl ?_
      exact tL_acts_569 o   (1 : Int32) m82  hf
set_option maxRecDepth 100000 in
set_option maxHeartbeats 4000000 in
theorem tL_acts_754 {p : Program} {l : Launch} {e : Env} {s : State} {m : MethodId} {args : Array Value} {below : List Frame} {meth : Method} {c : Code} {G : zG}  {K : Int32 → zMem → Prop} (o : za_Ok (z_rm 7 151) 0 0 p s m args meth c G RL cL_acts 32 (some .boolean))  (v1 : Int32) (μ : zMem)  (hf : fL_acts_754  K v1 μ) : za_At p l e (z_rm 7 151) s m args below meth c (MQ below (zQi G K) args s 0 0 (zA G)) G 32 0 0 754 [] [.int v1] μ := by
  unfold fL_acts_754 at hf
  exact za_zret o rfl hf.1 hf.2 dL_acts_754
set_option maxRecDepth 100000 in
set_option maxHeartbeats 4000000 in
theorem tL_acts_749 {p : Program} {l : Launch} {e : Env} {s : State} {m : MethodId} {args : Array Value} {below : List Frame} {meth : Method} {c : Code} {G : zG}  {K : Int32 → zMem → Prop} (o : za_Ok (z_rm 7 151) 0 0 p s m args meth c G RL cL_acts 32 (some .boolean))   (μ : zMem)  (hf : fL_acts_749  K  μ) : za_At p l e (z_rm 7 151) s m args below meth c (MQ below (zQi G K) args s 0 0 (zA G)) G 32 0 0 749 [] [] μ := by
  unfold fL_acts_749 at hf
  refine za_iconst (v := (1 : Int32)) o dL_acts_749 (by decide) ?_
  refine za_goto o 754 dL_acts_750 (by decide) ?_
  exact tL_acts_754 o   (1 : Int32) μ  hf
set_option maxRecDepth 100000 in
set_option maxHeartbeats 4000000 in
theorem tL_acts_753 {p : Program} {l : Launch} {e : Env} {s : State} {m : MethodId} {args : Array Value} {below : List Frame} {meth : Method} {c : Code} {G : zG}  {K : Int32 → zMem → Prop} (o : za_Ok (z_rm 7 151) 0 0 p s m args meth c G RL cL_acts 32 (some .boolean))   (μ : zMem)  (hf : fL_acts_753  K  μ) : za_At p l e (z_rm 7 151) s m args below meth c (MQ below (zQi G K) args s 0 0 (zA G)) G 32 0 0 753 [] [] μ := by
  unfold fL_acts_753 at hf
  refine za_iconst (v := (0 : Int32)) o dL_acts_753 (by decide) ?_
  exact tL_acts_754 o   (0 : Int32) μ  hf
set_option maxRecDepth 100000 in
set_option maxHeartbeats 4000000 in
theorem tL_acts_697 {p : Program} {l : Launch} {e : Env} {s : State} {m : MethodId} {args : Array Value} {below : List Frame} {meth : Method} {c : Code} {G : zG}  {K : Int32 → zMem → Prop} (o : za_Ok (z_rm 7 151) 0 0 p s m args meth c G RL cL_acts 32 (some .boolean))  (v1 : Nat) (v2 : Int32) (v3 : Int32) (v4 : Int32) (v5 : Int32) (v6 : Int32) (v7 : Int32) (μ : zMem) (hv1 : z_is v1 7) (hf : fL_acts_697  K v1 v2 v3 v4 v5 v6 v7 μ) : za_At p l e (z_rm 7 151) s m args below meth c (MQ below (zQi G K) args s 0 0 (zA G)) G 32 0 0 697 [(0, .ref (G.2.2 + v1)), (3, .int v2), (6, .int v3), (19, .int v4), (20, .int v5)] [.int v6, .int v7] μ := by
  unfold fL_acts_697 at hf
  refine za_icmp_ne o 753 dL_acts_697 (by decide) (fun c89 => ?_) (fun c89 => ?_)
  · replace hf := hf.1 c89
    refine za_sub [] rfl ?_
    exact tL_acts_753 o    μ  hf
  · replace hf := hf.2 c89
    refine za_aload_n o 0 dL_acts_700 rfl rfl ?_
    refine za_iload_n o 1 dL_acts_701 rfl rfl ?_
    refine za_iconst (v := (5 : Int32)) o dL_acts_702 (by decide) ?_
    refine za_callVi o [.int v2, .int (5 : Int32)] (ctX7_of l G hv1 v2 (5 : Int32)  μ _ hf) zc7 hv1 mwX7_of wmL_9 wiX7_of wsX7_of rfl ⟨Nat.le_of_ble_eq_true rfl, Nat.le_of_ble_eq_true rfl⟩ rfl (Nat.le_of_ble_eq_true rfl) dL_acts_703 (fun r90 m91 hf => ?_)
    refine za_iload o 4 dL_acts_706 rfl ?_
    refine za_iconst (v := (1 : Int32)) o dL_acts_708 (by decide) ?_
    refine za_iadd o dL_acts_709 ?_
    refine za_topi (fun x92 ex92 => ?_)
    replace hf := hf x92 ex92
    refine za_icmp_ne o 753 dL_acts_710 (by decide) (fun c93 => ?_) (fun c93 => ?_)
    · replace hf := hf.1 c93
      refine za_sub [] rfl ?_
      exact tL_acts_753 o    m91  hf
    · replace hf := hf.2 c93
      refine za_aload_n o 0 dL_acts_713 rfl rfl ?_
      refine za_iload_n o 1 dL_acts_714 rfl rfl ?_
      refine za_iconst (v := (3 : Int32)) o dL_acts_715 (by decide) ?_
      refine za_callVi o [.int v2, .int (3 : Int32)] (ctX7_of l G hv1 v2 (3 : Int32)  m91 _ hf) zc7 hv1 mwX7_of wmL_9 wiX7_of wsX7_of rfl ⟨Nat.le_of_ble_eq_true rfl, Nat.le_of_ble_eq_true rfl⟩ rfl (Nat.le_of_ble_eq_true rfl) dL_acts_716 (fun r94 m95 hf => ?_)
      refine za_if_ne o 753 dL_acts_719 (by decide) (fun c96 => ?_) (fun c96 => ?_)
      · replace hf := hf.1 c96
        refine za_sub [] rfl ?_
        exact tL_acts_753 o    m95  hf
      · replace hf := hf.2 c96
        refine za_aload_n o 0 dL_acts_722 rfl rfl ?_
        refine za_iload_n o 1 dL_acts_723 rfl rfl ?_
        refine za_bipush (v := (7 : Int32)) o dL_acts_724 (by decide) ?_
        refine za_callVi o [.int v2, .int (7 : Int32)] (ctX7_of l G hv1 v2 (7 : Int32)  m95 _ hf) zc7 hv1 mwX7_of wmL_9 wiX7_of wsX7_of rfl ⟨Nat.le_of_ble_eq_true rfl, Nat.le_of_ble_eq_true rfl⟩ rfl (Nat.le_of_ble_eq_true rfl) dL_acts_726 (fun r97 m98 hf => ?_)
        refine za_iconst (v := (1 : Int32)) o dL_acts_729 (by decide) ?_
        refine za_icmp_ne o 753 dL_acts_730 (by decide) (fun c99 => ?_) (fun c99 => ?_)
        · replace hf := hf.1 c99
          refine za_sub [] rfl ?_
          exact tL_acts_753 o    m98  hf
        · replace hf := hf.2 c99
          refine za_iload o 3 dL_acts_733 rfl ?_
          refine za_if_gt o 749 dL_acts_735 (by decide) (fun c100 => ?_) (fun c100 => ?_)
          · replace hf := hf.1 c100
            refine za_sub [] rfl ?_
            exact tL_acts_749 o    m98  hf
          · replace hf := hf.2 c100
            refine za_aload_n o 0 dL_acts_738 rfl rfl ?_
            refine za_iload_n o 1 dL_acts_739 rfl rfl ?_
            refine za_iconst (v := (0 : Int32)) o dL_acts_740 (by decide) ?_
            refine za_callVi o [.int v2, .int (0 : Int32)] (ctX7_of l G hv1 v2 (0 : Int32)  m98 _ hf) zc7 hv1 mwX7_of wmL_9 wiX7_of wsX7_of rfl ⟨Nat.le_of_ble_eq_true rfl, Nat.le_of_ble_eq_true rfl⟩ rfl (Nat.le_of_ble_eq_true rfl) dL_acts_741 (fun r101 m102 hf => ?_)
            refine za_iload o 2 dL_acts_744 rfl ?_
            refine za_icmp_lt o 753 dL_acts_746 (by decide) (fun c103 => ?_) (fun c103 => ?_)
            · replace hf := hf.1 c103
              refine za_sub [] rfl ?_
              exact tL_acts_753 o    m102  hf
            · replace hf := hf.2 c103
              refine za_sub [] rfl ?_
              exact tL_acts_749 o    m102  hf
set_option maxRecDepth 100000 in
set_option maxHeartbeats 4000000 in
theorem tL_acts_629 {p : Program} {l : Launch} {e : Env} {s : State} {m : MethodId} {args : Array Value} {below : List Frame} {meth : Method} {c : Code} {G : zG}  {K : Int32 → zMem → Prop} (o : za_Ok (z_rm 7 151) 0 0 p s m args meth c G RL cL_acts 32 (some .boolean))  (v1 : Nat) (v2 : Int32) (v3 : Int32) (v4 : Int32) (v5 : Int32) (v6 : Int32) (v7 : Int32) (μ : zMem) (hv1 : z_is v1 7) (hf : fL_acts_629  K v1 v2 v3 v4 v5 v6 v7 μ) : za_At p l e (z_rm 7 151) s m args below meth c (MQ below (zQi G K) args s 0 0 (zA G)) G 32 0 0 629 [(0, .ref (G.2.2 + v1)), (2, .int v2), (3, .int v3), (6, .int v4), (17, .int v5), (18, .int v6)] [.int v7] μ := by
  unfold fL_acts_629 at hf
  refine za_istore o [(19, .int v7), (0, .ref (G.2.2 + v1)), (2, .int v2), (3, .int v3), (6, .int v4), (17, .int v5), (18, .int v6)] dL_acts_629 (by decide) rfl ?_
  refine za_aload_n o 1 dL_acts_631 rfl rfl ?_
  refine za_iload_n o 3 dL_acts_632 rfl rfl ?_
  refine za_iconst (v := (5 : Int32)) o dL_acts_633 (by decide) ?_
  refine za_callVi o [.int v3, .int (5 : Int32)] (ctX7_of l G hv1 v3 (5 : Int32)  μ _ hf) zc7 hv1 mwX7_of wmL_9 wiX7_of wsX7_of rfl ⟨Nat.le_of_ble_eq_true rfl, Nat.le_of_ble_eq_true rfl⟩ rfl (Nat.le_of_ble_eq_true rfl) dL_acts_634 (fun r104 m105 hf => ?_)
  refine za_istore o [(20, .int r104), (19, .int v7), (0, .ref (G.2.2 + v1)), (2, .int v2), (3, .int v3), (6, .int v4), (17, .int v5), (18, .int v6)] dL_acts_637 (by decide) rfl ?_
  refine za_aload_n o 2 dL_acts_639 rfl rfl ?_
  refine za_iload_n o 4 dL_acts_640 rfl rfl ?_
  refine za_callVi o [.int v3] (ctX7_come l G hv1 v3  m105 _ hf) zc7 hv1 mwX7_come wmL_57 wiX7_come wsX7_come rfl ⟨Nat.le_of_ble_eq_true rfl, Nat.le_of_ble_eq_true rfl⟩ rfl (Nat.le_of_ble_eq_true rfl) dL_acts_641 (fun r106 m107 hf => ?_)
  refine za_istore o [(21, .int r106), (20, .int r104), (19, .int v7), (0, .ref (G.2.2 + v1)), (2, .int v2), (3, .int v3), (6, .int v4), (17, .int v5), (18, .int v6)] dL_acts_644 (by decide) rfl ?_
  refine za_iload_n o 4 dL_acts_646 rfl rfl ?_
  refine za_if_ne o 664 dL_acts_647 (by decide) (fun c108 => ?_) (fun c108 => ?_)
  · replace hf := hf.1 c108
    refine za_iload o 8 dL_acts_664 rfl ?_
    refine za_if_ne o 684 dL_acts_666 (by decide) (fun c109 => ?_) (fun c109 => ?_)
    · replace hf := hf.1 c109
      refine za_iload o 0 dL_acts_684 rfl ?_
      refine za_iload o 2 dL_acts_686 rfl ?_
      refine za_if_le o 696 dL_acts_688 (by decide) (fun c110 => ?_) (fun c110 => ?_)
      · replace hf := hf.1 c110
        refine za_iconst (v := (3 : Int32)) o dL_acts_696 (by decide) ?_
        refine za_sub [3, 5, 6, 2, 1] rfl ?_
        exact tL_acts_697 o   v1 v3 v4 v7 r104 (3 : Int32) r106 m107 hv1 hf
      · replace hf := hf.2 c110
        refine za_iload o 7 dL_acts_691 rfl ?_
        refine za_goto o 697 dL_acts_693 (by decide) ?_
        refine za_sub [3, 5, 6, 2, 1] rfl ?_
        exact tL_acts_697 o   v1 v3 v4 v7 r104 v5 r106 m107 hv1 hf
    · replace hf := hf.2 c109
      refine za_iload o 0 dL_acts_669 rfl ?_
      refine za_bipush (v := (-5 : Int32)) o dL_acts_671 (by decide) ?_
      refine za_icmp_ne o 680 dL_acts_673 (by decide) (fun c111 => ?_) (fun c111 => ?_)
      · replace hf := hf.1 c111
        refine za_iconst (v := (0 : Int32)) o dL_acts_680 (by decide) ?_
        refine za_goto o 754 dL_acts_681 (by decide) ?_
        refine za_sub [] rfl ?_
        exact tL_acts_754 o   (0 : Int32) m107  hf
      · replace hf := hf.2 c111
        refine za_iconst (v := (1 : Int32)) o dL_acts_676 (by decide) ?_
        refine za_goto o 754 dL_acts_677 (by decide) ?_
        refine za_sub [] rfl ?_
        exact tL_acts_754 o   (1 : Int32) m107  hf
  · replace hf := hf.2 c108
    refine za_iload o 0 dL_acts_650 rfl ?_
    refine za_iconst (v := (-1 : Int32)) o dL_acts_652 (by decide) ?_
    refine za_icmp_ne o 660 dL_acts_653 (by decide) (fun c112 => ?_) (fun c112 => ?_)
    · replace hf := hf.1 c112
      refine za_iconst (v := (0 : Int32)) o dL_acts_660 (by decide) ?_
      refine za_goto o 754 dL_acts_661 (by decide) ?_
      refine za_sub [] rfl ?_
      exact tL_acts_754 o   (0 : Int32) m107  hf
    · replace hf := hf.2 c112
      refine za_iconst (v := (1 : Int32)) o dL_acts_656 (by decide) ?_
      refine za_goto o 754 dL_acts_657 (by decide) ?_
      refine za_sub [] rfl ?_
      exact tL_acts_754 o   (1 : Int32) m107  hf
set_option maxRecDepth 100000 in
set_option maxHeartbeats 4000000 in
theorem tL_acts_603 {p : Program} {l : Launch} {e : Env} {s : State} {m : MethodId} {args : Array Value} {below : List Frame} {meth : Method} {c : Code} {G : zG}  {K : Int32 → zMem → Prop} (o : za_Ok (z_rm 7 151) 0 0 p s m args meth c G RL cL_acts 32 (some .boolean))  (v1 : Nat) (v2 : Int32) (v3 : Int32) (v4 : Int32) (v5 : Int32) (v6 : Int32) (μ : zMem) (hv1 : z_is v1 7) (hf : fL_acts_603  K v1 v2 v3 v4 v5 v6 μ) : za_At p l e (z_rm 7 151) s m args below meth c (MQ below (zQi G K) args s 0 0 (zA G)) G 32 0 0 603 [(0, .ref (G.2.2 + v1)), (2, .int v2), (3, .int v3), (6, .int v4), (17, .int v5)] [.int v6] μ := by
  unfold fL_acts_603 at hf
  refine za_istore o [(18, .int v6), (0, .ref (G.2.2 + v1)), (2, .int v2), (3, .int v3), (6, .int v4), (17, .int v5)] dL_acts_603 (by decide) rfl ?_
  refine za_iload o 5 dL_acts_605 rfl ?_
  refine za_if_ge o 614 dL_acts_607 (by decide) (fun c113 => ?_) (fun c113 => ?_)
  · replace hf := hf.1 c113
    refine za_aload_n o 1 dL_acts_614 rfl rfl ?_
    refine za_iload o 5 dL_acts_615 rfl ?_
    refine za_iconst (v := (0 : Int32)) o dL_acts_617 (by decide) ?_
    refine za_callVi o [.int v5, .int (0 : Int32)] (ctX7_ofDish l G hv1 v5 (0 : Int32)  μ _ hf) zc7 hv1 mwX7_ofDish wmL_28 wiX7_ofDish wsX7_ofDish rfl ⟨Nat.le_of_ble_eq_true rfl, Nat.le_of_ble_eq_true rfl⟩ rfl (Nat.le_of_ble_eq_true rfl) dL_acts_618 (fun r114 m115 hf => ?_)
    refine za_aload_n o 1 dL_acts_621 rfl rfl ?_
    refine za_iload o 5 dL_acts_622 rfl ?_
    refine za_iconst (v := (1 : Int32)) o dL_acts_624 (by decide) ?_
    refine za_callVi o [.int v5, .int (1 : Int32)] (ctX7_ofDish l G hv1 v5 (1 : Int32)  m115 _ hf) zc7 hv1 mwX7_ofDish wmL_28 wiX7_ofDish wsX7_ofDish rfl ⟨Nat.le_of_ble_eq_true rfl, Nat.le_of_ble_eq_true rfl⟩ rfl (Nat.le_of_ble_eq_true rfl) dL_acts_625 (fun r116 m117 hf => ?_)
    refine za_iadd o dL_acts_628 ?_
    refine za_topi (fun x118 ex118 => ?_)
    replace hf := hf x118 ex118
    refine za_sub [1, 2, 3, 4, 5, 0] rfl ?_
    exact tL_acts_629 o   v1 v2 v3 v4 v5 v6 x118 m117 hv1 hf
  · replace hf := hf.2 c113
    refine za_iconst (v := (0 : Int32)) o dL_acts_610 (by decide) ?_
    refine za_goto o 629 dL_acts_611 (by decide) ?_
    refine za_sub [1, 2, 3, 4, 5, 0] rfl ?_
    exact tL_acts_629 o   v1 v2 v3 v4 v5 v6 (0 : Int32) μ hv1 hf
set_option maxRecDepth 100000 in
set_option maxHeartbeats 4000000 in
theorem tL_acts_602 {p : Program} {l : Launch} {e : Env} {s : State} {m : MethodId} {args : Array Value} {below : List Frame} {meth : Method} {c : Code} {G : zG}  {K : Int32 → zMem → Prop} (o : za_Ok (z_rm 7 151) 0 0 p s m args meth c G RL cL_acts 32 (some .boolean))  (v1 : Nat) (v2 : Int32) (v3 : Int32) (v4 : Int32) (v5 : Int32) (μ : zMem) (hv1 : z_is v1 7) (hf : fL_acts_602  K v1 v2 v3 v4 v5 μ) : za_At p l e (z_rm 7 151) s m args below meth c (MQ below (zQi G K) args s 0 0 (zA G)) G 32 0 0 602 [(0, .ref (G.2.2 + v1)), (2, .int v2), (3, .int v3), (6, .int v4), (17, .int v5)] [] μ := by
  unfold fL_acts_602 at hf
  refine za_iconst (v := (0 : Int32)) o dL_acts_602 (by decide) ?_
  exact tL_acts_603 o   v1 v2 v3 v4 v5 (0 : Int32) μ hv1 hf
set_option maxRecDepth 100000 in
set_option maxHeartbeats 4000000 in
theorem tL_acts_570 {p : Program} {l : Launch} {e : Env} {s : State} {m : MethodId} {args : Array Value} {below : List Frame} {meth : Method} {c : Code} {G : zG}  {K : Int32 → zMem → Prop} (o : za_Ok (z_rm 7 151) 0 0 p s m args meth c G RL cL_acts 32 (some .boolean))  (v1 : Nat) (v2 : Int32) (v3 : Int32) (v4 : Int32) (v5 : Int32) (μ : zMem) (hv1 : z_is v1 7) (hf : fL_acts_570  K v1 v2 v3 v4 v5 μ) : za_At p l e (z_rm 7 151) s m args below meth c (MQ below (zQi G K) args s 0 0 (zA G)) G 32 0 0 570 [(0, .ref (G.2.2 + v1)), (2, .int v2), (3, .int v3), (6, .int v4), (7, .int v5)] [] μ := by
  unfold fL_acts_570 at hf
  refine za_aload_n o 0 dL_acts_570 rfl rfl ?_
  refine za_iload_n o 2 dL_acts_571 rfl rfl ?_
  refine za_iconst (v := (1 : Int32)) o dL_acts_572 (by decide) ?_
  refine za_callVi o [.int v3, .int (1 : Int32)] (ctX7_of l G hv1 v3 (1 : Int32)  μ _ hf) zc7 hv1 mwX7_of wmL_9 wiX7_of wsX7_of rfl ⟨Nat.le_of_ble_eq_true rfl, Nat.le_of_ble_eq_true rfl⟩ rfl (Nat.le_of_ble_eq_true rfl) dL_acts_573 (fun r119 m120 hf => ?_)
  refine za_istore o [(17, .int r119), (0, .ref (G.2.2 + v1)), (2, .int v2), (3, .int v3), (6, .int v4), (7, .int v5)] dL_acts_576 (by decide) rfl ?_
  refine za_iload o 5 dL_acts_578 rfl ?_
  refine za_if_eq o 602 dL_acts_580 (by decide) (fun c121 => ?_) (fun c121 => ?_)
  · replace hf := hf.1 c121
    refine za_sub [1, 2, 3, 4, 0] rfl ?_
    exact tL_acts_602 o   v1 v2 v3 v4 r119 m120 hv1 hf
  · replace hf := hf.2 c121
    refine za_iload o 0 dL_acts_583 rfl ?_
    refine za_if_lt o 602 dL_acts_585 (by decide) (fun c122 => ?_) (fun c122 => ?_)
    · replace hf := hf.1 c122
      refine za_sub [1, 2, 3, 4, 0] rfl ?_
      exact tL_acts_602 o   v1 v2 v3 v4 r119 m120 hv1 hf
    · replace hf := hf.2 c122
      refine za_aload_n o 1 dL_acts_588 rfl rfl ?_
      refine za_iload_n o 3 dL_acts_589 rfl rfl ?_
      refine za_bipush (v := (7 : Int32)) o dL_acts_590 (by decide) ?_
      refine za_callVi o [.int v3, .int (7 : Int32)] (ctX7_of l G hv1 v3 (7 : Int32)  m120 _ hf) zc7 hv1 mwX7_of wmL_9 wiX7_of wsX7_of rfl ⟨Nat.le_of_ble_eq_true rfl, Nat.le_of_ble_eq_true rfl⟩ rfl (Nat.le_of_ble_eq_true rfl) dL_acts_592 (fun r123 m124 hf => ?_)
      refine za_if_ne o 602 dL_acts_595 (by decide) (fun c125 => ?_) (fun c125 => ?_)
      · replace hf := hf.1 c125
        refine za_sub [1, 2, 3, 4, 0] rfl ?_
        exact tL_acts_602 o   v1 v2 v3 v4 r119 m124 hv1 hf
      · replace hf := hf.2 c125
        refine za_iconst (v := (1 : Int32)) o dL_acts_598 (by decide) ?_
        refine za_goto o 603 dL_acts_599 (by decide) ?_
        refine za_sub [1, 2, 3, 4, 0] rfl ?_
        exact tL_acts_603 o   v1 v2 v3 v4 r119 (1 : Int32) m124 hv1 hf
set_option maxRecDepth 100000 in
set_option maxHeartbeats 4000000 in
theorem tL_acts_905 {p : Program} {l : Launch} {e : Env} {s : State} {m : MethodId} {args : Array Value} {below : List Frame} {meth : Method} {c : Code} {G : zG}  {K : Int32 → zMem → Prop} (o : za_Ok (z_rm 7 151) 0 0 p s m args meth c G RL cL_acts 32 (some .boolean))  (v1 : Int32) (μ : zMem)  (hf : fL_acts_905  K v1 μ) : za_At p l e (z_rm 7 151) s m args below meth c (MQ below (zQi G K) args s 0 0 (zA G)) G 32 0 0 905 [] [.int v1] μ := by
  unfold fL_acts_905 at hf
  exact za_zret o rfl hf.1 hf.2 dL_acts_905
set_option maxRecDepth 100000 in
set_option maxHeartbeats 4000000 in
theorem tL_acts_889 {p : Program} {l : Launch} {e : Env} {s : State} {m : MethodId} {args : Array Value} {below : List Frame} {meth : Method} {c : Code} {G : zG}  {K : Int32 → zMem → Prop} (o : za_Ok (z_rm 7 151) 0 0 p s m args meth c G RL cL_acts 32 (some .boolean))   (μ : zMem)  (hf : fL_acts_889  K  μ) : za_At p l e (z_rm 7 151) s m args below meth c (MQ below (zQi G K) args s 0 0 (zA G)) G 32 0 0 889 [] [] μ := by
  unfold fL_acts_889 at hf
  refine za_iconst (v := (0 : Int32)) o dL_acts_889 (by decide) ?_
  refine za_goto o 905 dL_acts_890 (by decide) ?_
  exact tL_acts_905 o   (0 : Int32) μ  hf
set_option maxRecDepth 100000 in
set_option maxHeartbeats 4000000 in
theorem tL_acts_830 {p : Program} {l : Launch} {e : Env} {s : State} {m : MethodId} {args : Array Value} {below : List Frame} {meth : Method} {c : Code} {G : zG}  {K : Int32 → zMem → Prop} (o : za_Ok (z_rm 7 151) 0 0 p s m args meth c G RL cL_acts 32 (some .boolean))  (v1 : Nat) (v2 : Int32) (v3 : Int32) (v4 : Int32) (v5 : Int32) (v6 : Int32) (v7 : Int32) (μ : zMem) (hv1 : z_is v1 7) (hf : fL_acts_830  K v1 v2 v3 v4 v5 v6 v7 μ) : za_At p l e (z_rm 7 151) s m args below meth c (MQ below (zQi G K) args s 0 0 (zA G)) G 32 0 0 830 [(0, .ref (G.2.2 + v1)), (2, .int v2), (3, .int v3), (4, .int v4), (6, .int v5), (22, .int v6)] [.int v7] μ := by
  unfold fL_acts_830 at hf
  refine za_istore o [(23, .int v7), (0, .ref (G.2.2 + v1)), (2, .int v2), (3, .int v3), (4, .int v4), (6, .int v5), (22, .int v6)] dL_acts_830 (by decide) rfl ?_
  refine za_aload_n o 1 dL_acts_832 rfl rfl ?_
  refine za_iload_n o 3 dL_acts_833 rfl rfl ?_
  refine za_iload o 4 dL_acts_834 rfl ?_
  refine za_callVi o [.int v3, .int v4] (ctX7_buy l G hv1 v3 v4  μ _ hf) zc7 hv1 mwX7_buy wmL_60 wiX7_buy wsX7_buy rfl ⟨Nat.le_of_ble_eq_true rfl, Nat.le_of_ble_eq_true rfl⟩ rfl (Nat.le_of_ble_eq_true rfl) dL_acts_836 (fun r126 m127 hf => ?_)
  refine za_istore o [(24, .int r126), (23, .int v7), (0, .ref (G.2.2 + v1)), (2, .int v2), (3, .int v3), (4, .int v4), (6, .int v5), (22, .int v6)] dL_acts_839 (by decide) rfl ?_
  refine za_iload_n o 3 dL_acts_841 rfl rfl ?_
  refine za_if_ne o 859 dL_acts_842 (by decide) (fun c128 => ?_) (fun c128 => ?_)
  · replace hf := hf.1 c128
    refine za_iload o 1 dL_acts_859 rfl ?_
    refine za_if_eq o 893 dL_acts_861 (by decide) (fun c129 => ?_) (fun c129 => ?_)
    · replace hf := hf.1 c129
      refine za_iload o 0 dL_acts_893 rfl ?_
      refine za_bipush (v := (-5 : Int32)) o dL_acts_895 (by decide) ?_
      refine za_icmp_ne o 904 dL_acts_897 (by decide) (fun c130 => ?_) (fun c130 => ?_)
      · replace hf := hf.1 c130
        refine za_iconst (v := (0 : Int32)) o dL_acts_904 (by decide) ?_
        refine za_sub [] rfl ?_
        exact tL_acts_905 o   (0 : Int32) m127  hf
      · replace hf := hf.2 c130
        refine za_iconst (v := (1 : Int32)) o dL_acts_900 (by decide) ?_
        refine za_goto o 905 dL_acts_901 (by decide) ?_
        refine za_sub [] rfl ?_
        exact tL_acts_905 o   (1 : Int32) m127  hf
    · replace hf := hf.2 c129
      refine za_iload o 0 dL_acts_864 rfl ?_
      refine za_iload o 6 dL_acts_866 rfl ?_
      refine za_iload o 7 dL_acts_868 rfl ?_
      refine za_isub o dL_acts_870 ?_
      refine za_topi (fun x131 ex131 => ?_)
      replace hf := hf x131 ex131
      refine za_icmp_ne o 889 dL_acts_871 (by decide) (fun c132 => ?_) (fun c132 => ?_)
      · replace hf := hf.1 c132
        refine za_sub [] rfl ?_
        exact tL_acts_889 o    m127  hf
      · replace hf := hf.2 c132
        refine za_aload_n o 2 dL_acts_874 rfl rfl ?_
        refine za_iload_n o 4 dL_acts_875 rfl rfl ?_
        refine za_bipush (v := (7 : Int32)) o dL_acts_876 (by decide) ?_
        refine za_callVi o [.int v3, .int (7 : Int32)] (ctX7_of l G hv1 v3 (7 : Int32)  m127 _ hf) zc7 hv1 mwX7_of wmL_9 wiX7_of wsX7_of rfl ⟨Nat.le_of_ble_eq_true rfl, Nat.le_of_ble_eq_true rfl⟩ rfl (Nat.le_of_ble_eq_true rfl) dL_acts_878 (fun r133 m134 hf => ?_)
        refine za_iconst (v := (1 : Int32)) o dL_acts_881 (by decide) ?_
        refine za_icmp_ne o 889 dL_acts_882 (by decide) (fun c135 => ?_) (fun c135 => ?_)
        · replace hf := hf.1 c135
          refine za_sub [] rfl ?_
          exact tL_acts_889 o    m134  hf
        · replace hf := hf.2 c135
          refine za_iconst (v := (1 : Int32)) o dL_acts_885 (by decide) ?_
          refine za_goto o 905 dL_acts_886 (by decide) ?_
          refine za_sub [] rfl ?_
          exact tL_acts_905 o   (1 : Int32) m134  hf
  · replace hf := hf.2 c128
    refine za_iload o 0 dL_acts_845 rfl ?_
    refine za_iconst (v := (-1 : Int32)) o dL_acts_847 (by decide) ?_
    refine za_icmp_ne o 855 dL_acts_848 (by decide) (fun c136 => ?_) (fun c136 => ?_)
    · replace hf := hf.1 c136
      refine za_iconst (v := (0 : Int32)) o dL_acts_855 (by decide) ?_
      refine za_goto o 905 dL_acts_856 (by decide) ?_
      refine za_sub [] rfl ?_
      exact tL_acts_905 o   (0 : Int32) m127  hf
    · replace hf := hf.2 c136
      refine za_iconst (v := (1 : Int32)) o dL_acts_851 (by decide) ?_
      refine za_goto o 905 dL_acts_852 (by decide) ?_
      refine za_sub [] rfl ?_
      exact tL_acts_905 o   (1 : Int32) m127  hf
set_option maxRecDepth 100000 in
set_option maxHeartbeats 4000000 in
theorem tL_acts_829 {p : Program} {l : Launch} {e : Env} {s : State} {m : MethodId} {args : Array Value} {below : List Frame} {meth : Method} {c : Code} {G : zG}  {K : Int32 → zMem → Prop} (o : za_Ok (z_rm 7 151) 0 0 p s m args meth c G RL cL_acts 32 (some .boolean))  (v1 : Nat) (v2 : Int32) (v3 : Int32) (v4 : Int32) (v5 : Int32) (v6 : Int32) (μ : zMem) (hv1 : z_is v1 7) (hf : fL_acts_829  K v1 v2 v3 v4 v5 v6 μ) : za_At p l e (z_rm 7 151) s m args below meth c (MQ below (zQi G K) args s 0 0 (zA G)) G 32 0 0 829 [(0, .ref (G.2.2 + v1)), (2, .int v2), (3, .int v3), (4, .int v4), (6, .int v5), (22, .int v6)] [] μ := by
  unfold fL_acts_829 at hf
  refine za_iconst (v := (0 : Int32)) o dL_acts_829 (by decide) ?_
  exact tL_acts_830 o   v1 v2 v3 v4 v5 v6 (0 : Int32) μ hv1 hf
set_option maxRecDepth 100000 in
set_option maxHeartbeats 4000000 in
theorem tL_acts_755 {p : Program} {l : Launch} {e : Env} {s : State} {m : MethodId} {args : Array Value} {below : List Frame} {meth : Method} {c : Code} {G : zG}  {K : Int32 → zMem → Prop} (o : za_Ok (z_rm 7 151) 0 0 p s m args meth c G RL cL_acts 32 (some .boolean))  (v1 : Nat) (v2 : Int32) (v3 : Int32) (v4 : Int32) (v5 : Int32) (v6 : Int32) (μ : zMem) (hv1 : z_is v1 7) (hf : fL_acts_755  K v1 v2 v3 v4 v5 v6 μ) : za_At p l e (z_rm 7 151) s m args below meth c (MQ below (zQi G K) args s 0 0 (zA G)) G 32 0 0 755 [(0, .ref (G.2.2 + v1)), (2, .int v2), (3, .int v3), (4, .int v4), (6, .int v5), (7, .int v6)] [] μ := by
  unfold fL_acts_755 at hf
  refine za_aload_n o 0 dL_acts_755 rfl rfl ?_
  refine za_iload o 3 dL_acts_756 rfl ?_
  refine za_bipush (v := (6 : Int32)) o dL_acts_758 (by decide) ?_
  refine za_callVi o [.int v4, .int (6 : Int32)] (ctX7_ofDish l G hv1 v4 (6 : Int32)  μ _ hf) zc7 hv1 mwX7_ofDish wmL_28 wiX7_ofDish wsX7_ofDish rfl ⟨Nat.le_of_ble_eq_true rfl, Nat.le_of_ble_eq_true rfl⟩ rfl (Nat.le_of_ble_eq_true rfl) dL_acts_760 (fun r137 m138 hf => ?_)
  refine za_iconst (v := (1 : Int32)) o dL_acts_763 (by decide) ?_
  refine za_iadd o dL_acts_764 ?_
  refine za_topi (fun x139 ex139 => ?_)
  replace hf := hf x139 ex139
  refine za_istore o [(22, .int x139), (0, .ref (G.2.2 + v1)), (2, .int v2), (3, .int v3), (4, .int v4), (6, .int v5), (7, .int v6)] dL_acts_765 (by decide) rfl ?_
  refine za_iload o 6 dL_acts_767 rfl ?_
  refine za_if_eq o 829 dL_acts_769 (by decide) (fun c140 => ?_) (fun c140 => ?_)
  · replace hf := hf.1 c140
    refine za_sub [1, 2, 3, 4, 5, 0] rfl ?_
    exact tL_acts_829 o   v1 v2 v3 v4 v5 x139 m138 hv1 hf
  · replace hf := hf.2 c140
    refine za_aload_n o 1 dL_acts_772 rfl rfl ?_
    refine za_iload_n o 3 dL_acts_773 rfl rfl ?_
    refine za_iconst (v := (1 : Int32)) o dL_acts_774 (by decide) ?_
    refine za_callVi o [.int v3, .int (1 : Int32)] (ctX7_of l G hv1 v3 (1 : Int32)  m138 _ hf) zc7 hv1 mwX7_of wmL_9 wiX7_of wsX7_of rfl ⟨Nat.le_of_ble_eq_true rfl, Nat.le_of_ble_eq_true rfl⟩ rfl (Nat.le_of_ble_eq_true rfl) dL_acts_775 (fun r141 m142 hf => ?_)
    refine za_bipush (v := (-6 : Int32)) o dL_acts_778 (by decide) ?_
    refine za_icmp_ne o 829 dL_acts_780 (by decide) (fun c143 => ?_) (fun c143 => ?_)
    · replace hf := hf.1 c143
      refine za_sub [1, 2, 3, 4, 5, 0] rfl ?_
      exact tL_acts_829 o   v1 v2 v3 v4 v5 x139 m142 hv1 hf
    · replace hf := hf.2 c143
      refine za_aload_n o 1 dL_acts_783 rfl rfl ?_
      refine za_iload_n o 3 dL_acts_784 rfl rfl ?_
      refine za_bipush (v := (7 : Int32)) o dL_acts_785 (by decide) ?_
      refine za_callVi o [.int v3, .int (7 : Int32)] (ctX7_of l G hv1 v3 (7 : Int32)  m142 _ hf) zc7 hv1 mwX7_of wmL_9 wiX7_of wsX7_of rfl ⟨Nat.le_of_ble_eq_true rfl, Nat.le_of_ble_eq_true rfl⟩ rfl (Nat.le_of_ble_eq_true rfl) dL_acts_787 (fun r144 m145 hf => ?_)
      refine za_if_ne o 829 dL_acts_790 (by decide) (fun c146 => ?_) (fun c146 => ?_)
      · replace hf := hf.1 c146
        refine za_sub [1, 2, 3, 4, 5, 0] rfl ?_
        exact tL_acts_829 o   v1 v2 v3 v4 v5 x139 m145 hv1 hf
      · replace hf := hf.2 c146
        refine za_iload o 5 dL_acts_793 rfl ?_
        refine za_iload o 0 dL_acts_795 rfl ?_
        refine za_icmp_lt o 829 dL_acts_797 (by decide) (fun c147 => ?_) (fun c147 => ?_)
        · replace hf := hf.1 c147
          refine za_sub [1, 2, 3, 4, 5, 0] rfl ?_
          exact tL_acts_829 o   v1 v2 v3 v4 v5 x139 m145 hv1 hf
        · replace hf := hf.2 c147
          refine za_aload_n o 1 dL_acts_800 rfl rfl ?_
          refine za_iload o 4 dL_acts_801 rfl ?_
          refine za_iconst (v := (0 : Int32)) o dL_acts_803 (by decide) ?_
          refine za_callVi o [.int v4, .int (0 : Int32)] (ctX7_ofDish l G hv1 v4 (0 : Int32)  m145 _ hf) zc7 hv1 mwX7_ofDish wmL_28 wiX7_ofDish wsX7_ofDish rfl ⟨Nat.le_of_ble_eq_true rfl, Nat.le_of_ble_eq_true rfl⟩ rfl (Nat.le_of_ble_eq_true rfl) dL_acts_804 (fun r148 m149 hf => ?_)
          refine za_aload_n o 1 dL_acts_807 rfl rfl ?_
          refine za_iload o 4 dL_acts_808 rfl ?_
          refine za_iconst (v := (1 : Int32)) o dL_acts_810 (by decide) ?_
          refine za_callVi o [.int v4, .int (1 : Int32)] (ctX7_ofDish l G hv1 v4 (1 : Int32)  m149 _ hf) zc7 hv1 mwX7_ofDish wmL_28 wiX7_ofDish wsX7_ofDish rfl ⟨Nat.le_of_ble_eq_true rfl, Nat.le_of_ble_eq_true rfl⟩ rfl (Nat.le_of_ble_eq_true rfl) dL_acts_811 (fun r150 m151 hf => ?_)
          refine za_iadd o dL_acts_814 ?_
          refine za_topi (fun x152 ex152 => ?_)
          replace hf := hf x152 ex152
          refine za_aload_n o 1 dL_acts_815 rfl rfl ?_
          refine za_iload o 4 dL_acts_816 rfl ?_
          refine za_iconst (v := (2 : Int32)) o dL_acts_818 (by decide) ?_
          refine za_callVi o [.int v4, .int (2 : Int32)] (ctX7_ofDish l G hv1 v4 (2 : Int32)  m151 _ hf) zc7 hv1 mwX7_ofDish wmL_28 wiX7_ofDish wsX7_ofDish rfl ⟨Nat.le_of_ble_eq_true rfl, Nat.le_of_ble_eq_true rfl⟩ rfl (Nat.le_of_ble_eq_true rfl) dL_acts_819 (fun r153 m154 hf => ?_)
          refine za_icmp_le o 829 dL_acts_822 (by decide) (fun c155 => ?_) (fun c155 => ?_)
          · replace hf := hf.1 c155
            refine za_sub [1, 2, 3, 4, 5, 0] rfl ?_
            exact tL_acts_829 o   v1 v2 v3 v4 v5 x139 m154 hv1 hf
          · replace hf := hf.2 c155
            refine za_iconst (v := (1 : Int32)) o dL_acts_825 (by decide) ?_
            refine za_goto o 830 dL_acts_826 (by decide) ?_
            refine za_sub [1, 2, 3, 4, 5, 0] rfl ?_
            exact tL_acts_830 o   v1 v2 v3 v4 v5 x139 (1 : Int32) m154 hv1 hf
set_option maxRecDepth 100000 in
set_option maxHeartbeats 4000000 in
theorem tL_acts_1027 {p : Program} {l : Launch} {e : Env} {s : State} {m : MethodId} {args : Array Value} {below : List Frame} {meth : Method} {c : Code} {G : zG}  {K : Int32 → zMem → Prop} (o : za_Ok (z_rm 7 151) 0 0 p s m args meth c G RL cL_acts 32 (some .boolean))  (v1 : Int32) (μ : zMem)  (hf : fL_acts_1027  K v1 μ) : za_At p l e (z_rm 7 151) s m args below meth c (MQ below (zQi G K) args s 0 0 (zA G)) G 32 0 0 1027 [] [.int v1] μ := by
  unfold fL_acts_1027 at hf
  exact za_zret o rfl hf.1 hf.2 dL_acts_1027
set_option maxRecDepth 100000 in
set_option maxHeartbeats 4000000 in
theorem tL_acts_1026 {p : Program} {l : Launch} {e : Env} {s : State} {m : MethodId} {args : Array Value} {below : List Frame} {meth : Method} {c : Code} {G : zG}  {K : Int32 → zMem → Prop} (o : za_Ok (z_rm 7 151) 0 0 p s m args meth c G RL cL_acts 32 (some .boolean))   (μ : zMem)  (hf : fL_acts_1026  K  μ) : za_At p l e (z_rm 7 151) s m args below meth c (MQ below (zQi G K) args s 0 0 (zA G)) G 32 0 0 1026 [] [] μ := by
  unfold fL_acts_1026 at hf
  refine za_iconst (v := (0 : Int32)) o dL_acts_1026 (by decide) ?_
  exact tL_acts_1027 o   (0 : Int32) μ  hf
set_option maxRecDepth 100000 in
set_option maxHeartbeats 4000000 in
theorem tL_acts_919b {p : Program} {l : Launch} {e : Env} {s : State} {m : MethodId} {args : Array Value} {below : List Frame} {meth : Method} {c : Code} {G : zG} {k919 : Nat → Int32 → Int32 → Int32 → Int32 → Int32 → zMem → Prop} {K : Int32 → zMem → Prop} (o : za_Ok (z_rm 7 151) 0 0 p s m args meth c G RL cL_acts 32 (some .boolean)) (hk919 : ∀ (v1 : Nat) (v2 : Int32) (v3 : Int32) (v4 : Int32) (v5 : Int32) (v6 : Int32) (μ : zMem), z_is v1 7 → k919 v1 v2 v3 v4 v5 v6 μ → za_At p l e (z_rm 7 151) s m args below meth c (MQ below (zQi G K) args s 0 0 (zA G)) G 32 0 0 919 [(0, .ref (G.2.2 + v1)), (4, .int v2), (7, .int v3), (25, .int v4), (26, .int v5), (27, .int v6)] [] μ) (v1 : Nat) (v2 : Int32) (v3 : Int32) (v4 : Int32) (v5 : Int32) (v6 : Int32) (μ : zMem) (hv1 : z_is v1 7) (hf : fL_acts_919b k919 K v1 v2 v3 v4 v5 v6 μ) : za_At p l e (z_rm 7 151) s m args below meth c (MQ below (zQi G K) args s 0 0 (zA G)) G 32 0 0 919 [(0, .ref (G.2.2 + v1)), (4, .int v2), (7, .int v3), (25, .int v4), (26, .int v5), (27, .int v6)] [] μ := by
  unfold fL_acts_919b at hf
  refine za_iload o 5 dL_acts_919 rfl ?_
  refine za_iconst (v := (3 : Int32)) o dL_acts_921 (by decide) ?_
  refine za_icmp_ge o 943 dL_acts_922 (by decide) (fun c156 => ?_) (fun c156 => ?_)
  · replace hf := hf.1 c156
    refine za_aload_n o 0 dL_acts_943 rfl rfl ?_
    refine za_callVi o [] (ctX7_close l G hv1   μ _ hf) zc7 hv1 mwX7_close wmL_63 wiX7_close wsX7_close rfl ⟨Nat.le_of_ble_eq_true rfl, Nat.le_of_ble_eq_true rfl⟩ rfl (Nat.le_of_ble_eq_true rfl) dL_acts_944 (fun r157 m158 hf => ?_)
    refine za_istore o [(27, .int r157), (0, .ref (G.2.2 + v1)), (4, .int v2), (7, .int v3), (25, .int v4), (26, .int v5)] dL_acts_947 (by decide) rfl ?_
    refine za_iload o 3 dL_acts_949 rfl ?_
    refine za_if_ne o 969 dL_acts_951 (by decide) (fun c159 => ?_) (fun c159 => ?_)
    · replace hf := hf.1 c159
      refine za_iload o 0 dL_acts_969 rfl ?_
      refine za_iload o 5 dL_acts_971 rfl ?_
      refine za_icmp_ne o 1026 dL_acts_973 (by decide) (fun c160 => ?_) (fun c160 => ?_)
      · replace hf := hf.1 c160
        refine za_sub [] rfl ?_
        exact tL_acts_1026 o    m158  hf
      · replace hf := hf.2 c160
        refine za_aload_n o 1 dL_acts_976 rfl rfl ?_
        refine za_iconst (v := (0 : Int32)) o dL_acts_977 (by decide) ?_
        refine za_callVi o [.int (0 : Int32)] (ctX7_count l G hv1 (0 : Int32)  m158 _ hf) zc7 hv1 mwX7_count wmL_18 wiX7_count wsX7_count rfl ⟨Nat.le_of_ble_eq_true rfl, Nat.le_of_ble_eq_true rfl⟩ rfl (Nat.le_of_ble_eq_true rfl) dL_acts_978 (fun r161 m162 hf => ?_)
        refine za_iload o 4 dL_acts_981 rfl ?_
        refine za_iconst (v := (1 : Int32)) o dL_acts_983 (by decide) ?_
        refine za_iadd o dL_acts_984 ?_
        refine za_topi (fun x163 ex163 => ?_)
        replace hf := hf x163 ex163
        refine za_icmp_ne o 1026 dL_acts_985 (by decide) (fun c164 => ?_) (fun c164 => ?_)
        · replace hf := hf.1 c164
          refine za_sub [] rfl ?_
          exact tL_acts_1026 o    m162  hf
        · replace hf := hf.2 c164
          refine za_aload_n o 1 dL_acts_988 rfl rfl ?_
          refine za_iconst (v := (2 : Int32)) o dL_acts_989 (by decide) ?_
          refine za_callVi o [.int (2 : Int32)] (ctX7_count l G hv1 (2 : Int32)  m162 _ hf) zc7 hv1 mwX7_count wmL_18 wiX7_count wsX7_count rfl ⟨Nat.le_of_ble_eq_true rfl, Nat.le_of_ble_eq_true rfl⟩ rfl (Nat.le_of_ble_eq_true rfl) dL_acts_990 (fun r165 m166 hf => ?_)
          refine za_if_ne o 1026 dL_acts_993 (by decide) (fun c167 => ?_) (fun c167 => ?_)
          · replace hf := hf.1 c167
            refine za_sub [] rfl ?_
            exact tL_acts_1026 o    m166  hf
          · replace hf := hf.2 c167
            refine za_aload_n o 1 dL_acts_996 rfl rfl ?_
            refine za_iload o 2 dL_acts_997 rfl ?_
            refine za_iconst (v := (1 : Int32)) o dL_acts_999 (by decide) ?_
            refine za_callVi o [.int v2, .int (1 : Int32)] (ctX7_ofDish l G hv1 v2 (1 : Int32)  m166 _ hf) zc7 hv1 mwX7_ofDish wmL_28 wiX7_ofDish wsX7_ofDish rfl ⟨Nat.le_of_ble_eq_true rfl, Nat.le_of_ble_eq_true rfl⟩ rfl (Nat.le_of_ble_eq_true rfl) dL_acts_1000 (fun r168 m169 hf => ?_)
            refine za_if_ne o 1026 dL_acts_1003 (by decide) (fun c170 => ?_) (fun c170 => ?_)
            · replace hf := hf.1 c170
              refine za_sub [] rfl ?_
              exact tL_acts_1026 o    m169  hf
            · replace hf := hf.2 c170
              refine za_aload_n o 1 dL_acts_1006 rfl rfl ?_
              refine za_iload o 2 dL_acts_1007 rfl ?_
              refine za_iconst (v := (0 : Int32)) o dL_acts_1009 (by decide) ?_
              refine za_callVi o [.int v2, .int (0 : Int32)] (ctX7_ofDish l G hv1 v2 (0 : Int32)  m169 _ hf) zc7 hv1 mwX7_ofDish wmL_28 wiX7_ofDish wsX7_ofDish rfl ⟨Nat.le_of_ble_eq_true rfl, Nat.le_of_ble_eq_true rfl⟩ rfl (Nat.le_of_ble_eq_true rfl) dL_acts_1010 (fun r171 m172 hf => ?_)
              refine za_aload_n o 1 dL_acts_1013 rfl rfl ?_
              refine za_bipush (v := (11 : Int32)) o dL_acts_1014 (by decide) ?_
              refine za_callVi o [.int (11 : Int32)] (ctX7_count l G hv1 (11 : Int32)  m172 _ hf) zc7 hv1 mwX7_count wmL_18 wiX7_count wsX7_count rfl ⟨Nat.le_of_ble_eq_true rfl, Nat.le_of_ble_eq_true rfl⟩ rfl (Nat.le_of_ble_eq_true rfl) dL_acts_1016 (fun r173 m174 hf => ?_)
              refine za_icmp_gt o 1026 dL_acts_1019 (by decide) (fun c175 => ?_) (fun c175 => ?_)
              · replace hf := hf.1 c175
                refine za_sub [] rfl ?_
                exact tL_acts_1026 o    m174  hf
              · replace hf := hf.2 c175
                refine za_iconst (v := (1 : Int32)) o dL_acts_1022 (by decide) ?_
                refine za_goto o 1027 dL_acts_1023 (by decide) ?_
                refine za_sub [] rfl ?_
                exact tL_acts_1027 o   (1 : Int32) m174  hf
    · replace hf := hf.2 c159
      refine za_iload o 0 dL_acts_954 rfl ?_
      refine za_bipush (v := (-5 : Int32)) o dL_acts_956 (by decide) ?_
      refine za_icmp_ne o 965 dL_acts_958 (by decide) (fun c176 => ?_) (fun c176 => ?_)
      · replace hf := hf.1 c176
        refine za_iconst (v := (0 : Int32)) o dL_acts_965 (by decide) ?_
        refine za_goto o 1027 dL_acts_966 (by decide) ?_
        refine za_sub [] rfl ?_
        exact tL_acts_1027 o   (0 : Int32) m158  hf
      · replace hf := hf.2 c176
        refine za_iconst (v := (1 : Int32)) o dL_acts_961 (by decide) ?_
        refine za_goto o 1027 dL_acts_962 (by decide) ?_
        refine za_sub [] rfl ?_
        exact tL_acts_1027 o   (1 : Int32) m158  hf
  · replace hf := hf.2 c156
    refine za_iload o 4 dL_acts_925 rfl ?_
    refine za_aload_n o 0 dL_acts_927 rfl rfl ?_
    refine za_iload o 5 dL_acts_928 rfl ?_
    refine za_iconst (v := (2 : Int32)) o dL_acts_930 (by decide) ?_
    refine za_callVi o [.int v6, .int (2 : Int32)] (ctX7_ofDish l G hv1 v6 (2 : Int32)  μ _ hf) zc7 hv1 mwX7_ofDish wmL_28 wiX7_ofDish wsX7_ofDish rfl ⟨Nat.le_of_ble_eq_true rfl, Nat.le_of_ble_eq_true rfl⟩ rfl (Nat.le_of_ble_eq_true rfl) dL_acts_931 (fun r177 m178 hf => ?_)
    refine za_iadd o dL_acts_934 ?_
    refine za_topi (fun x179 ex179 => ?_)
    replace hf := hf x179 ex179
    refine za_istore o [(26, .int x179), (0, .ref (G.2.2 + v1)), (4, .int v2), (7, .int v3), (25, .int v4), (27, .int v6)] dL_acts_935 (by decide) rfl ?_
    obtain ⟨x180, ex180⟩ : ∃ y : Int32, y = v6 + (1 : Int32) := ⟨_, rfl⟩
    replace hf := hf x180 ex180
    refine za_iinc o x180 5 [(27, .int x180), (26, .int x179), (0, .ref (G.2.2 + v1)), (4, .int v2), (7, .int v3), (25, .int v4)] dL_acts_937 rfl (by rw [ex180]; rfl) (by decide) rfl ?_
    refine za_goto o 919 dL_acts_940 (by decide) ?_
    refine za_sub [2, 3, 4, 5, 1, 0] rfl ?_
    exact hk919 v1 v2 v3 v4 x179 x180 m178 hv1 hf
theorem tL_acts_919 {p : Program} {l : Launch} {e : Env} {s : State} {m : MethodId} {args : Array Value} {below : List Frame} {meth : Method} {c : Code} {G : zG}  {K : Int32 → zMem → Prop} (o : za_Ok (z_rm 7 151) 0 0 p s m args meth c G RL cL_acts 32 (some .boolean))  (n : Nat) : ∀ (v1 : Nat) (v2 : Int32) (v3 : Int32) (v4 : Int32) (v5 : Int32) (v6 : Int32) (μ : zMem), z_is v1 7 → fL_acts_919  K n v1 v2 v3 v4 v5 v6 μ → za_At p l e (z_rm 7 151) s m args below meth c (MQ below (zQi G K) args s 0 0 (zA G)) G 32 0 0 919 [(0, .ref (G.2.2 + v1)), (4, .int v2), (7, .int v3), (25, .int v4), (26, .int v5), (27, .int v6)] [] μ := by
  induction n with
  | zero => intro _ _ _ _ _ _ _ _ hf; exact hf.elim
  | succ n ih => intro v1 v2 v3 v4 v5 v6 μ hv1 hf; exact tL_acts_919b o  ih v1 v2 v3 v4 v5 v6 μ hv1 hf
set_option maxRecDepth 100000 in
set_option maxHeartbeats 4000000 in
theorem tL_acts_906 {p : Program} {l : Launch} {e : Env} {s : State} {m : MethodId} {args : Array Value} {below : List Frame} {meth : Method} {c : Code} {G : zG}  {K : Int32 → zMem → Prop} (o : za_Ok (z_rm 7 151) 0 0 p s m args meth c G RL cL_acts 32 (some .boolean))  (v1 : Nat) (v2 : Int32) (v3 : Int32) (μ : zMem) (hv1 : z_is v1 7) (hf : fL_acts_906  K v1 v2 v3 μ) : za_At p l e (z_rm 7 151) s m args below meth c (MQ below (zQi G K) args s 0 0 (zA G)) G 32 0 0 906 [(0, .ref (G.2.2 + v1)), (4, .int v2), (7, .int v3)] [] μ := by
  unfold fL_acts_906 at hf
  refine za_aload_n o 0 dL_acts_906 rfl rfl ?_
  refine za_iconst (v := (0 : Int32)) o dL_acts_907 (by decide) ?_
  refine za_callVi o [.int (0 : Int32)] (ctX7_count l G hv1 (0 : Int32)  μ _ hf) zc7 hv1 mwX7_count wmL_18 wiX7_count wsX7_count rfl ⟨Nat.le_of_ble_eq_true rfl, Nat.le_of_ble_eq_true rfl⟩ rfl (Nat.le_of_ble_eq_true rfl) dL_acts_908 (fun r181 m182 hf => ?_)
  refine za_istore o [(25, .int r181), (0, .ref (G.2.2 + v1)), (4, .int v2), (7, .int v3)] dL_acts_911 (by decide) rfl ?_
  refine za_iconst (v := (0 : Int32)) o dL_acts_913 (by decide) ?_
  refine za_istore o [(26, .int (0 : Int32)), (25, .int r181), (0, .ref (G.2.2 + v1)), (4, .int v2), (7, .int v3)] dL_acts_914 (by decide) rfl ?_
  refine za_iconst (v := (0 : Int32)) o dL_acts_916 (by decide) ?_
  refine za_istore o [(27, .int (0 : Int32)), (26, .int (0 : Int32)), (25, .int r181), (0, .ref (G.2.2 + v1)), (4, .int v2), (7, .int v3)] dL_acts_917 (by decide) rfl ?_
  refine za_sub [3, 4, 5, 2, 1, 0] rfl ?_
  exact tL_acts_919 o   zFU v1 v2 v3 r181 (0 : Int32) (0 : Int32) m182 hv1 hf
set_option maxRecDepth 100000 in
set_option maxHeartbeats 4000000 in
theorem tL_acts_1197 {p : Program} {l : Launch} {e : Env} {s : State} {m : MethodId} {args : Array Value} {below : List Frame} {meth : Method} {c : Code} {G : zG}  {K : Int32 → zMem → Prop} (o : za_Ok (z_rm 7 151) 0 0 p s m args meth c G RL cL_acts 32 (some .boolean))  (v1 : Int32) (μ : zMem)  (hf : fL_acts_1197  K v1 μ) : za_At p l e (z_rm 7 151) s m args below meth c (MQ below (zQi G K) args s 0 0 (zA G)) G 32 0 0 1197 [] [.int v1] μ := by
  unfold fL_acts_1197 at hf
  exact za_zret o rfl hf.1 hf.2 dL_acts_1197
set_option maxRecDepth 100000 in
set_option maxHeartbeats 4000000 in
theorem tL_acts_1192 {p : Program} {l : Launch} {e : Env} {s : State} {m : MethodId} {args : Array Value} {below : List Frame} {meth : Method} {c : Code} {G : zG}  {K : Int32 → zMem → Prop} (o : za_Ok (z_rm 7 151) 0 0 p s m args meth c G RL cL_acts 32 (some .boolean))   (μ : zMem)  (hf : fL_acts_1192  K  μ) : za_At p l e (z_rm 7 151) s m args below meth c (MQ below (zQi G K) args s 0 0 (zA G)) G 32 0 0 1192 [] [] μ := by
  unfold fL_acts_1192 at hf
  refine za_iconst (v := (1 : Int32)) o dL_acts_1192 (by decide) ?_
  refine za_goto o 1197 dL_acts_1193 (by decide) ?_
  exact tL_acts_1197 o   (1 : Int32) μ  hf
set_option maxRecDepth 100000 in
set_option maxHeartbeats 4000000 in
theorem tL_acts_1196 {p : Program} {l : Launch} {e : Env} {s : State} {m : MethodId} {args : Array Value} {below : List Frame} {meth : Method} {c : Code} {G : zG}  {K : Int32 → zMem → Prop} (o : za_Ok (z_rm 7 151) 0 0 p s m args meth c G RL cL_acts 32 (some .boolean))   (μ : zMem)  (hf : fL_acts_1196  K  μ) : za_At p l e (z_rm 7 151) s m args below meth c (MQ below (zQi G K) args s 0 0 (zA G)) G 32 0 0 1196 [] [] μ := by
  unfold fL_acts_1196 at hf
  refine za_iconst (v := (0 : Int32)) o dL_acts_1196 (by decide) ?_
  exact tL_acts_1197 o   (0 : Int32) μ  hf
set_option maxRecDepth 100000 in
set_option maxHeartbeats 4000000 in
theorem tL_acts_1093 {p : Program} {l : Launch} {e : Env} {s : State} {m : MethodId} {args : Array Value} {below : List Frame} {meth : Method} {c : Code} {G : zG}  {K : Int32 → zMem → Prop} (o : za_Ok (z_rm 7 151) 0 0 p s m args meth c G RL cL_acts 32 (some .boolean))  (v1 : Nat) (v2 : Int32) (v3 : Int32) (v4 : Int32) (v5 : Int32) (μ : zMem) (hv1 : z_is v1 7) (hf : fL_acts_1093  K v1 v2 v3 v4 v5 μ) : za_At p l e (z_rm 7 151) s m args below meth c (MQ below (zQi G K) args s 0 0 (zA G)) G 32 0 0 1093 [(0, .ref (G.2.2 + v1)), (1, .int v2), (4, .int v3), (28, .int v4)] [.int v5] μ := by
  unfold fL_acts_1093 at hf
  refine za_istore o [(29, .int v5), (0, .ref (G.2.2 + v1)), (1, .int v2), (4, .int v3), (28, .int v4)] dL_acts_1093 (by decide) rfl ?_
  refine za_aload_n o 1 dL_acts_1095 rfl rfl ?_
  refine za_bipush (v := (10 : Int32)) o dL_acts_1096 (by decide) ?_
  refine za_iload o 4 dL_acts_1098 rfl ?_
  refine za_iadd o dL_acts_1100 ?_
  refine za_topi (fun x183 ex183 => ?_)
  replace hf := hf x183 ex183
  refine za_callVi o [.int x183] (ctX7_count l G hv1 x183  μ _ hf) zc7 hv1 mwX7_count wmL_18 wiX7_count wsX7_count rfl ⟨Nat.le_of_ble_eq_true rfl, Nat.le_of_ble_eq_true rfl⟩ rfl (Nat.le_of_ble_eq_true rfl) dL_acts_1101 (fun r184 m185 hf => ?_)
  refine za_istore o [(30, .int r184), (29, .int v5), (0, .ref (G.2.2 + v1)), (1, .int v2), (4, .int v3), (28, .int v4)] dL_acts_1104 (by decide) rfl ?_
  refine za_iload_n o 3 dL_acts_1106 rfl rfl ?_
  refine za_bipush (v := (13 : Int32)) o dL_acts_1107 (by decide) ?_
  refine za_ishr o dL_acts_1109 ?_
  refine za_topi (fun x186 ex186 => ?_)
  replace hf := hf x186 ex186
  refine za_iconst (v := (5 : Int32)) o dL_acts_1110 (by decide) ?_
  refine za_irem o dL_acts_1111 (by decide) ?_
  refine za_topi (fun x187 ex187 => ?_)
  replace hf := hf x187 ex187
  refine za_istore o [(31, .int x187), (30, .int r184), (29, .int v5), (0, .ref (G.2.2 + v1)), (1, .int v2), (4, .int v3), (28, .int v4)] dL_acts_1112 (by decide) rfl ?_
  refine za_aload_n o 3 dL_acts_1114 rfl rfl ?_
  refine za_iload o 6 dL_acts_1115 rfl ?_
  refine za_iload o 2 dL_acts_1117 rfl ?_
  refine za_callVi o [.int v4, .int v5] (ctX7_set l G hv1 v4 v5  m185 _ hf) zc7 hv1 mwX7_set wmL_66 wiX7_set wsX7_set rfl ⟨Nat.le_of_ble_eq_true rfl, Nat.le_of_ble_eq_true rfl⟩ rfl (Nat.le_of_ble_eq_true rfl) dL_acts_1119 (fun r188 m189 hf => ?_)
  refine za_iload o 1 dL_acts_1122 rfl ?_
  refine za_icmp_ne o 1196 dL_acts_1124 (by decide) (fun c190 => ?_) (fun c190 => ?_)
  · replace hf := hf.1 c190
    refine za_sub [] rfl ?_
    exact tL_acts_1196 o    m189  hf
  · replace hf := hf.2 c190
    refine za_aload_n o 3 dL_acts_1127 rfl rfl ?_
    refine za_bipush (v := (10 : Int32)) o dL_acts_1128 (by decide) ?_
    refine za_iload o 6 dL_acts_1130 rfl ?_
    refine za_iadd o dL_acts_1132 ?_
    refine za_topi (fun x191 ex191 => ?_)
    replace hf := hf x191 ex191
    refine za_callVi o [.int x191] (ctX7_count l G hv1 x191  m189 _ hf) zc7 hv1 mwX7_count wmL_18 wiX7_count wsX7_count rfl ⟨Nat.le_of_ble_eq_true rfl, Nat.le_of_ble_eq_true rfl⟩ rfl (Nat.le_of_ble_eq_true rfl) dL_acts_1133 (fun r192 m193 hf => ?_)
    refine za_iload o 2 dL_acts_1136 rfl ?_
    refine za_icmp_ne o 1196 dL_acts_1138 (by decide) (fun c194 => ?_) (fun c194 => ?_)
    · replace hf := hf.1 c194
      refine za_sub [] rfl ?_
      exact tL_acts_1196 o    m193  hf
    · replace hf := hf.2 c194
      refine za_aload_n o 3 dL_acts_1141 rfl rfl ?_
      refine za_iload o 0 dL_acts_1142 rfl ?_
      refine za_iload o 5 dL_acts_1144 rfl ?_
      refine za_iconst (v := (1 : Int32)) o dL_acts_1146 (by decide) ?_
      refine za_iload_n o 4 dL_acts_1147 rfl rfl ?_
      refine za_bipush (v := (16 : Int32)) o dL_acts_1148 (by decide) ?_
      refine za_ishr o dL_acts_1150 ?_
      refine za_topi (fun x195 ex195 => ?_)
      replace hf := hf x195 ex195
      refine za_iconst (v := (3 : Int32)) o dL_acts_1151 (by decide) ?_
      refine za_irem o dL_acts_1152 (by decide) ?_
      refine za_topi (fun x196 ex196 => ?_)
      replace hf := hf x196 ex196
      refine za_iadd o dL_acts_1153 ?_
      refine za_topi (fun x197 ex197 => ?_)
      replace hf := hf x197 ex197
      refine za_callVi o [.int x187, .int v3, .int x197] (ctX7_price l G hv1 x187 v3 x197  m193 _ hf) zc7 hv1 mwX7_price wmL_69 wiX7_price wsX7_price rfl ⟨Nat.le_of_ble_eq_true rfl, Nat.le_of_ble_eq_true rfl⟩ rfl (Nat.le_of_ble_eq_true rfl) dL_acts_1154 (fun r198 m199 hf => ?_)
      refine za_iconst (v := (1 : Int32)) o dL_acts_1157 (by decide) ?_
      refine za_icmp_lt o 1196 dL_acts_1158 (by decide) (fun c200 => ?_) (fun c200 => ?_)
      · replace hf := hf.1 c200
        refine za_sub [] rfl ?_
        exact tL_acts_1196 o    m199  hf
      · replace hf := hf.2 c200
        refine za_aload_n o 3 dL_acts_1161 rfl rfl ?_
        refine za_iconst (v := (0 : Int32)) o dL_acts_1162 (by decide) ?_
        refine za_callVi o [.int (0 : Int32)] (ctX7_count l G hv1 (0 : Int32)  m199 _ hf) zc7 hv1 mwX7_count wmL_18 wiX7_count wsX7_count rfl ⟨Nat.le_of_ble_eq_true rfl, Nat.le_of_ble_eq_true rfl⟩ rfl (Nat.le_of_ble_eq_true rfl) dL_acts_1163 (fun r201 m202 hf => ?_)
        refine za_iconst (v := (5 : Int32)) o dL_acts_1166 (by decide) ?_
        refine za_irem o dL_acts_1167 (by decide) ?_
        refine za_topi (fun x203 ex203 => ?_)
        replace hf := hf x203 ex203
        refine za_iload o 0 dL_acts_1168 rfl ?_
        refine za_icmp_ne o 1192 dL_acts_1170 (by decide) (fun c204 => ?_) (fun c204 => ?_)
        · replace hf := hf.1 c204
          refine za_sub [] rfl ?_
          exact tL_acts_1192 o    m202  hf
        · replace hf := hf.2 c204
          refine za_aload_n o 3 dL_acts_1173 rfl rfl ?_
          refine za_iload o 5 dL_acts_1174 rfl ?_
          refine za_bipush (v := (6 : Int32)) o dL_acts_1176 (by decide) ?_
          refine za_callVi o [.int v3, .int (6 : Int32)] (ctX7_ofDish l G hv1 v3 (6 : Int32)  m202 _ hf) zc7 hv1 mwX7_ofDish wmL_28 wiX7_ofDish wsX7_ofDish rfl ⟨Nat.le_of_ble_eq_true rfl, Nat.le_of_ble_eq_true rfl⟩ rfl (Nat.le_of_ble_eq_true rfl) dL_acts_1178 (fun r205 m206 hf => ?_)
          refine za_iconst (v := (1 : Int32)) o dL_acts_1181 (by decide) ?_
          refine za_iload_n o 4 dL_acts_1182 rfl rfl ?_
          refine za_bipush (v := (16 : Int32)) o dL_acts_1183 (by decide) ?_
          refine za_ishr o dL_acts_1185 ?_
          refine za_topi (fun x207 ex207 => ?_)
          replace hf := hf x207 ex207
          refine za_iconst (v := (3 : Int32)) o dL_acts_1186 (by decide) ?_
          refine za_irem o dL_acts_1187 (by decide) ?_
          refine za_topi (fun x208 ex208 => ?_)
          replace hf := hf x208 ex208
          refine za_iadd o dL_acts_1188 ?_
          refine za_topi (fun x209 ex209 => ?_)
          replace hf := hf x209 ex209
          refine za_icmp_ne o 1196 dL_acts_1189 (by decide) (fun c210 => ?_) (fun c210 => ?_)
          · replace hf := hf.1 c210
            refine za_sub [] rfl ?_
            exact tL_acts_1196 o    m206  hf
          · replace hf := hf.2 c210
            refine za_sub [] rfl ?_
            exact tL_acts_1192 o    m206  hf
set_option maxRecDepth 100000 in
set_option maxHeartbeats 4000000 in
theorem tL_acts_58 {p : Program} {l : Launch} {e : Env} {s : State} {m : MethodId} {args : Array Value} {below : List Frame} {meth : Method} {c : Code} {G : zG}  {K : Int32 → zMem → Prop} (o : za_Ok (z_rm 7 151) 0 0 p s m args meth c G RL cL_acts 32 (some .boolean))  (v1 : Nat) (v2 : Int32) (v3 : Int32) (v4 : Int32) (v5 : Int32) (v6 : Int32) (v7 : Int32) (v8 : Int32) (μ : zMem) (hv1 : z_is v1 7) (hf : fL_acts_58  K v1 v2 v3 v4 v5 v6 v7 v8 μ) : za_At p l e (z_rm 7 151) s m args below meth c (MQ below (zQi G K) args s 0 0 (zA G)) G 32 0 0 58 [(0, .ref (G.2.2 + v1)), (1, .int v2), (2, .int v3), (3, .int v4), (4, .int v5), (5, .int v6), (6, .int v7)] [.int v8] μ := by
  unfold fL_acts_58 at hf
  refine za_istore o [(7, .int v8), (0, .ref (G.2.2 + v1)), (1, .int v2), (2, .int v3), (3, .int v4), (4, .int v5), (5, .int v6), (6, .int v7)] dL_acts_58 (by decide) rfl ?_
  refine za_iload_n o 2 dL_acts_60 rfl rfl ?_
  refine za_bipush (v := (12 : Int32)) o dL_acts_61 (by decide) ?_
  refine za_irem o dL_acts_63 (by decide) ?_
  refine za_topi (fun x211 ex211 => ?_)
  replace hf := hf x211 ex211
  by_cases c212 : x211 = (0 : Int32)
  · replace hf := hf.1 c212
    refine za_tswE o 124 c212 dL_acts_64 (by decide) (by decide) rfl (by decide) ?_
    refine za_sub [1, 3] rfl ?_
    exact tL_acts_124 o   v1 v3 μ hv1 hf
  · replace hf := hf.2 c212
    by_cases c213 : x211 = (1 : Int32)
    · replace hf := hf.1 c213
      refine za_tswE o 185 c213 dL_acts_64 (by decide) (by decide) rfl (by decide) ?_
      refine za_sub [1, 2, 3, 4, 7] rfl ?_
      exact tL_acts_185 o   v1 v2 v3 v4 v7 μ hv1 hf
    · replace hf := hf.2 c213
      by_cases c214 : x211 = (2 : Int32)
      · replace hf := hf.1 c214
        refine za_tswE o 254 c214 dL_acts_64 (by decide) (by decide) rfl (by decide) ?_
        refine za_sub [1, 3, 4, 5, 6, 7] rfl ?_
        exact tL_acts_254 o   v1 v3 v4 v5 v6 v7 μ hv1 hf
      · replace hf := hf.2 c214
        by_cases c215 : x211 = (3 : Int32)
        · replace hf := hf.1 c215
          refine za_tswE o 254 c215 dL_acts_64 (by decide) (by decide) rfl (by decide) ?_
          refine za_sub [1, 3, 4, 5, 6, 7] rfl ?_
          exact tL_acts_254 o   v1 v3 v4 v5 v6 v7 μ hv1 hf
        · replace hf := hf.2 c215
          by_cases c216 : x211 = (4 : Int32)
          · replace hf := hf.1 c216
            refine za_tswE o 254 c216 dL_acts_64 (by decide) (by decide) rfl (by decide) ?_
            refine za_sub [1, 3, 4, 5, 6, 7] rfl ?_
            exact tL_acts_254 o   v1 v3 v4 v5 v6 v7 μ hv1 hf
          · replace hf := hf.2 c216
            by_cases c217 : x211 = (5 : Int32)
            · replace hf := hf.1 c217
              refine za_tswE o 376 c217 dL_acts_64 (by decide) (by decide) rfl (by decide) ?_
              refine za_sub [1, 3, 4, 6, 7] rfl ?_
              exact tL_acts_376 o   v1 v3 v4 v6 v7 μ hv1 hf
            · replace hf := hf.2 c217
              by_cases c218 : x211 = (6 : Int32)
              · replace hf := hf.1 c218
                refine za_tswE o 497 c218 dL_acts_64 (by decide) (by decide) rfl (by decide) ?_
                refine za_sub [1, 0] rfl ?_
                exact tL_acts_497 o   v1 v8 μ hv1 hf
              · replace hf := hf.2 c218
                by_cases c219 : x211 = (7 : Int32)
                · replace hf := hf.1 c219
                  refine za_tswE o 570 c219 dL_acts_64 (by decide) (by decide) rfl (by decide) ?_
                  refine za_sub [1, 3, 4, 7, 0] rfl ?_
                  exact tL_acts_570 o   v1 v3 v4 v7 v8 μ hv1 hf
                · replace hf := hf.2 c219
                  by_cases c220 : x211 = (8 : Int32)
                  · replace hf := hf.1 c220
                    refine za_tswE o 570 c220 dL_acts_64 (by decide) (by decide) rfl (by decide) ?_
                    refine za_sub [1, 3, 4, 7, 0] rfl ?_
                    exact tL_acts_570 o   v1 v3 v4 v7 v8 μ hv1 hf
                  · replace hf := hf.2 c220
                    by_cases c221 : x211 = (9 : Int32)
                    · replace hf := hf.1 c221
                      refine za_tswE o 755 c221 dL_acts_64 (by decide) (by decide) rfl (by decide) ?_
                      refine za_sub [1, 3, 4, 5, 7, 0] rfl ?_
                      exact tL_acts_755 o   v1 v3 v4 v5 v7 v8 μ hv1 hf
                    · replace hf := hf.2 c221
                      by_cases c222 : x211 = (10 : Int32)
                      · replace hf := hf.1 c222
                        refine za_tswE o 906 c222 dL_acts_64 (by decide) (by decide) rfl (by decide) ?_
                        refine za_sub [1, 5, 0] rfl ?_
                        exact tL_acts_906 o   v1 v5 v8 μ hv1 hf
                      · replace hf := hf.2 c222
                        refine za_tswD o 1028 dL_acts_64 (fun z1 z2 => ?_) (by decide) ?_
                        · have z1 := Int.not_lt.mp z1
                          have z2 := Int.not_lt.mp z2
                          have z3 : (x211).toInt = 0 ∨ (x211).toInt = 1 ∨ (x211).toInt = 2 ∨ (x211).toInt = 3 ∨ (x211).toInt = 4 ∨ (x211).toInt = 5 ∨ (x211).toInt = 6 ∨ (x211).toInt = 7 ∨ (x211).toInt = 8 ∨ (x211).toInt = 9 ∨ (x211).toInt = 10 := by omega
                          rcases z3 with z3 | z3 | z3 | z3 | z3 | z3 | z3 | z3 | z3 | z3 | z3
                          · exact c212 (Int32.toInt_inj.mp (z3.trans rfl))
                          · exact c213 (Int32.toInt_inj.mp (z3.trans rfl))
                          · exact c214 (Int32.toInt_inj.mp (z3.trans rfl))
                          · exact c215 (Int32.toInt_inj.mp (z3.trans rfl))
                          · exact c216 (Int32.toInt_inj.mp (z3.trans rfl))
                          · exact c217 (Int32.toInt_inj.mp (z3.trans rfl))
                          · exact c218 (Int32.toInt_inj.mp (z3.trans rfl))
                          · exact c219 (Int32.toInt_inj.mp (z3.trans rfl))
                          · exact c220 (Int32.toInt_inj.mp (z3.trans rfl))
                          · exact c221 (Int32.toInt_inj.mp (z3.trans rfl))
                          · exact c222 (Int32.toInt_inj.mp (z3.trans rfl))
                        · skip
                          refine za_iload_n o 2 dL_acts_1028 rfl rfl ?_
                          refine za_iconst (v := (4 : Int32)) o dL_acts_1029 (by decide) ?_
                          refine za_ishr o dL_acts_1030 ?_
                          refine za_topi (fun x223 ex223 => ?_)
                          replace hf := hf x223 ex223
                          refine za_iconst (v := (4 : Int32)) o dL_acts_1031 (by decide) ?_
                          refine za_irem o dL_acts_1032 (by decide) ?_
                          refine za_topi (fun x224 ex224 => ?_)
                          replace hf := hf x224 ex224
                          refine za_istore o [(28, .int x224), (7, .int v8), (0, .ref (G.2.2 + v1)), (1, .int v2), (2, .int v3), (3, .int v4), (4, .int v5), (5, .int v6), (6, .int v7)] dL_acts_1033 (by decide) rfl ?_
                          refine za_iload o 0 dL_acts_1035 rfl ?_
                          refine za_if_ne o 1050 dL_acts_1037 (by decide) (fun c225 => ?_) (fun c225 => ?_)
                          · replace hf := hf.1 c225
                            refine za_iload o 0 dL_acts_1050 rfl ?_
                            refine za_iconst (v := (1 : Int32)) o dL_acts_1052 (by decide) ?_
                            refine za_icmp_ne o 1066 dL_acts_1053 (by decide) (fun c226 => ?_) (fun c226 => ?_)
                            · replace hf := hf.1 c226
                              refine za_iload o 0 dL_acts_1066 rfl ?_
                              refine za_iconst (v := (2 : Int32)) o dL_acts_1068 (by decide) ?_
                              refine za_icmp_ne o 1084 dL_acts_1069 (by decide) (fun c227 => ?_) (fun c227 => ?_)
                              · replace hf := hf.1 c227
                                refine za_iconst (v := (1 : Int32)) o dL_acts_1084 (by decide) ?_
                                refine za_iload_n o 3 dL_acts_1085 rfl rfl ?_
                                refine za_bipush (v := (8 : Int32)) o dL_acts_1086 (by decide) ?_
                                refine za_ishr o dL_acts_1088 ?_
                                refine za_topi (fun x228 ex228 => ?_)
                                replace hf := hf x228 ex228
                                refine za_bipush (v := (20 : Int32)) o dL_acts_1089 (by decide) ?_
                                refine za_irem o dL_acts_1091 (by decide) ?_
                                refine za_topi (fun x229 ex229 => ?_)
                                replace hf := hf x229 ex229
                                refine za_iadd o dL_acts_1092 ?_
                                refine za_topi (fun x230 ex230 => ?_)
                                replace hf := hf x230 ex230
                                refine za_sub [2, 3, 6, 0] rfl ?_
                                exact tL_acts_1093 o   v1 v2 v5 x224 x230 μ hv1 hf
                              · replace hf := hf.2 c227
                                refine za_iconst (v := (1 : Int32)) o dL_acts_1072 (by decide) ?_
                                refine za_iload_n o 3 dL_acts_1073 rfl rfl ?_
                                refine za_bipush (v := (8 : Int32)) o dL_acts_1074 (by decide) ?_
                                refine za_ishr o dL_acts_1076 ?_
                                refine za_topi (fun x231 ex231 => ?_)
                                replace hf := hf x231 ex231
                                refine za_bipush (v := (9 : Int32)) o dL_acts_1077 (by decide) ?_
                                refine za_irem o dL_acts_1079 (by decide) ?_
                                refine za_topi (fun x232 ex232 => ?_)
                                replace hf := hf x232 ex232
                                refine za_iadd o dL_acts_1080 ?_
                                refine za_topi (fun x233 ex233 => ?_)
                                replace hf := hf x233 ex233
                                refine za_goto o 1093 dL_acts_1081 (by decide) ?_
                                refine za_sub [2, 3, 6, 0] rfl ?_
                                exact tL_acts_1093 o   v1 v2 v5 x224 x233 μ hv1 hf
                            · replace hf := hf.2 c226
                              refine za_iload_n o 3 dL_acts_1056 rfl rfl ?_
                              refine za_bipush (v := (8 : Int32)) o dL_acts_1057 (by decide) ?_
                              refine za_ishr o dL_acts_1059 ?_
                              refine za_topi (fun x234 ex234 => ?_)
                              replace hf := hf x234 ex234
                              refine za_bipush (v := (21 : Int32)) o dL_acts_1060 (by decide) ?_
                              refine za_irem o dL_acts_1062 (by decide) ?_
                              refine za_topi (fun x235 ex235 => ?_)
                              replace hf := hf x235 ex235
                              refine za_goto o 1093 dL_acts_1063 (by decide) ?_
                              refine za_sub [2, 3, 6, 0] rfl ?_
                              exact tL_acts_1093 o   v1 v2 v5 x224 x235 μ hv1 hf
                          · replace hf := hf.2 c225
                            refine za_iload_n o 3 dL_acts_1040 rfl rfl ?_
                            refine za_bipush (v := (8 : Int32)) o dL_acts_1041 (by decide) ?_
                            refine za_ishr o dL_acts_1043 ?_
                            refine za_topi (fun x236 ex236 => ?_)
                            replace hf := hf x236 ex236
                            refine za_bipush (v := (10 : Int32)) o dL_acts_1044 (by decide) ?_
                            refine za_irem o dL_acts_1046 (by decide) ?_
                            refine za_topi (fun x237 ex237 => ?_)
                            replace hf := hf x237 ex237
                            refine za_goto o 1093 dL_acts_1047 (by decide) ?_
                            refine za_sub [2, 3, 6, 0] rfl ?_
                            exact tL_acts_1093 o   v1 v2 v5 x224 x237 μ hv1 hf
set_option maxRecDepth 100000 in
set_option maxHeartbeats 4000000 in
theorem tL_acts_19 {p : Program} {l : Launch} {e : Env} {s : State} {m : MethodId} {args : Array Value} {below : List Frame} {meth : Method} {c : Code} {G : zG}  {K : Int32 → zMem → Prop} (o : za_Ok (z_rm 7 151) 0 0 p s m args meth c G RL cL_acts 32 (some .boolean))  (v1 : Nat) (v2 : Int32) (v3 : Int32) (v4 : Int32) (μ : zMem) (hv1 : z_is v1 7) (hf : fL_acts_19  K v1 v2 v3 v4 μ) : za_At p l e (z_rm 7 151) s m args below meth c (MQ below (zQi G K) args s 0 0 (zA G)) G 32 0 0 19 [(0, .ref (G.2.2 + v1)), (1, .int v2), (2, .int v3)] [.int v4] μ := by
  unfold fL_acts_19 at hf
  refine za_istore_n o [(3, .int v4), (0, .ref (G.2.2 + v1)), (1, .int v2), (2, .int v3)] dL_acts_19 rfl (by decide) rfl ?_
  refine za_iload_n o 2 dL_acts_20 rfl rfl ?_
  refine za_bipush (v := (8 : Int32)) o dL_acts_21 (by decide) ?_
  refine za_ishr o dL_acts_23 ?_
  refine za_topi (fun x238 ex238 => ?_)
  replace hf := hf x238 ex238
  refine za_iconst (v := (3 : Int32)) o dL_acts_24 (by decide) ?_
  refine za_irem o dL_acts_25 (by decide) ?_
  refine za_topi (fun x239 ex239 => ?_)
  replace hf := hf x239 ex239
  refine za_istore o [(4, .int x239), (3, .int v4), (0, .ref (G.2.2 + v1)), (1, .int v2), (2, .int v3)] dL_acts_26 (by decide) rfl ?_
  refine za_iload_n o 3 dL_acts_28 rfl rfl ?_
  refine za_bipush (v := (10 : Int32)) o dL_acts_29 (by decide) ?_
  refine za_ishr o dL_acts_31 ?_
  refine za_topi (fun x240 ex240 => ?_)
  replace hf := hf x240 ex240
  refine za_iconst (v := (5 : Int32)) o dL_acts_32 (by decide) ?_
  refine za_irem o dL_acts_33 (by decide) ?_
  refine za_topi (fun x241 ex241 => ?_)
  replace hf := hf x241 ex241
  refine za_istore o [(5, .int x241), (4, .int x239), (3, .int v4), (0, .ref (G.2.2 + v1)), (1, .int v2), (2, .int v3)] dL_acts_34 (by decide) rfl ?_
  refine za_aload_n o 3 dL_acts_36 rfl rfl ?_
  refine za_iload_n o 2 dL_acts_37 rfl rfl ?_
  refine za_iconst (v := (0 : Int32)) o dL_acts_38 (by decide) ?_
  refine za_callVi o [.int v4, .int (0 : Int32)] (ctX7_of l G hv1 v4 (0 : Int32)  μ _ hf) zc7 hv1 mwX7_of wmL_9 wiX7_of wsX7_of rfl ⟨Nat.le_of_ble_eq_true rfl, Nat.le_of_ble_eq_true rfl⟩ rfl (Nat.le_of_ble_eq_true rfl) dL_acts_39 (fun r242 m243 hf => ?_)
  refine za_istore o [(6, .int r242), (5, .int x241), (4, .int x239), (3, .int v4), (0, .ref (G.2.2 + v1)), (1, .int v2), (2, .int v3)] dL_acts_42 (by decide) rfl ?_
  refine za_aload_n o 4 dL_acts_44 rfl rfl ?_
  refine za_iconst (v := (2 : Int32)) o dL_acts_45 (by decide) ?_
  refine za_callVi o [.int (2 : Int32)] (ctX7_count l G hv1 (2 : Int32)  m243 _ hf) zc7 hv1 mwX7_count wmL_18 wiX7_count wsX7_count rfl ⟨Nat.le_of_ble_eq_true rfl, Nat.le_of_ble_eq_true rfl⟩ rfl (Nat.le_of_ble_eq_true rfl) dL_acts_46 (fun r244 m245 hf => ?_)
  refine za_iconst (v := (1 : Int32)) o dL_acts_49 (by decide) ?_
  refine za_icmp_ne o 57 dL_acts_50 (by decide) (fun c246 => ?_) (fun c246 => ?_)
  · replace hf := hf.1 c246
    refine za_iconst (v := (0 : Int32)) o dL_acts_57 (by decide) ?_
    refine za_sub [4, 5, 6, 3, 2, 1, 0] rfl ?_
    exact tL_acts_58 o   v1 v2 v3 v4 x239 x241 r242 (0 : Int32) m245 hv1 hf
  · replace hf := hf.2 c246
    refine za_iconst (v := (1 : Int32)) o dL_acts_53 (by decide) ?_
    refine za_goto o 58 dL_acts_54 (by decide) ?_
    refine za_sub [4, 5, 6, 3, 2, 1, 0] rfl ?_
    exact tL_acts_58 o   v1 v2 v3 v4 x239 x241 r242 (1 : Int32) m245 hv1 hf
set_option maxRecDepth 100000 in
set_option maxHeartbeats 4000000 in
theorem ctL_acts (l : Launch) (G : zG) (a1 : Nat) (a2 : Int32) (ha1 : z_is a1 7) (μ : zMem) (K : Int32 → zMem → Prop) (hf : fL_acts a1 a2 μ K) : z_Met l G yL_acts cL_acts 32 (some .boolean) (z_rm 7 151) [.ref (G.2.2 + a1), .int a2] μ K := by
  refine z_body (by decide) (Nat.le_of_ble_eq_true rfl) (fun p e s m args below meth c o => ?_)
  have o : za_Ok (z_rm 7 151) 0 0 p s m args meth c G RL cL_acts 32 (some .boolean) := o
  show za_At p l e (z_rm 7 151) s m args below meth c (MQ below (zQi G K) args s 0 0 (zA G)) G 32 0 0 0 [(0, .ref (G.2.2 + a1)), (1, .int a2)] [] μ
  unfold fL_acts at hf
  refine za_aload_n o 0 dL_acts_0 rfl rfl ?_
  refine za_iconst (v := (1 : Int32)) o dL_acts_1 (by decide) ?_
  refine za_callVi o [.int (1 : Int32)] (ctX7_count l G ha1 (1 : Int32)  μ _ hf) zc7 ha1 mwX7_count wmL_18 wiX7_count wsX7_count rfl ⟨Nat.le_of_ble_eq_true rfl, Nat.le_of_ble_eq_true rfl⟩ rfl (Nat.le_of_ble_eq_true rfl) dL_acts_2 (fun r247 m248 hf => ?_)
  refine za_istore_n o [(2, .int r247), (0, .ref (G.2.2 + a1)), (1, .int a2)] dL_acts_5 rfl (by decide) rfl ?_
  refine za_iload_n o 0 dL_acts_6 rfl rfl ?_
  refine za_if_ne o 14 dL_acts_7 (by decide) (fun c249 => ?_) (fun c249 => ?_)
  · replace hf := hf.1 c249
    refine za_iload_n o 2 dL_acts_14 rfl rfl ?_
    refine za_iconst (v := (4 : Int32)) o dL_acts_15 (by decide) ?_
    refine za_ishr o dL_acts_16 ?_
    refine za_topi (fun x250 ex250 => ?_)
    replace hf := hf x250 ex250
    refine za_iload_n o 0 dL_acts_17 rfl rfl ?_
    obtain ⟨g251, hf⟩ := hf
    refine za_irem o dL_acts_18 g251 ?_
    refine za_topi (fun x252 ex252 => ?_)
    replace hf := hf x252 ex252
    refine za_sub [1, 2, 0] rfl ?_
    exact tL_acts_19 o   a1 a2 r247 x252 m248 ha1 hf
  · replace hf := hf.2 c249
    refine za_iconst (v := (0 : Int32)) o dL_acts_10 (by decide) ?_
    refine za_goto o 19 dL_acts_11 (by decide) ?_
    refine za_sub [1, 2, 0] rfl ?_
    exact tL_acts_19 o   a1 a2 r247 (0 : Int32) m248 ha1 hf
