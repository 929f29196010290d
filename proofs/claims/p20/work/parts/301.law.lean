def fL_law_803 (L : Nat) (xs : Nat → Int32) (k18 : Int32 → zMem → Prop) (v1 : Int32) (μ : zMem) : Prop :=
  (∀ x1 : Int32, x1 = v1 + (4 : Int32) → k18 x1 μ)
def fL_law_148 (L : Nat) (xs : Nat → Int32) (k18 : Int32 → zMem → Prop) (v1 : Int32) (μ : zMem) : Prop :=
  (∀ x2 : Int32, x2 = (v1 + (1 : Int32)) → (vp_in x2 L ∧ (∀ x4 : Int32, x4 = (xs x2.toNatClampNeg) → (∀ x5 : Int32, x5 = (v1 + (2 : Int32)) → (vp_in x5 L ∧ (∀ x7 : Int32, x7 = (xs x5.toNatClampNeg) → fX7_set 0 x4 x7 μ (fun r8 m9 => (∀ x10 : Int32, x10 = (v1 + (1 : Int32)) → (vp_in x10 L ∧ (∀ x12 : Int32, x12 = (xs x10.toNatClampNeg) → (∀ x13 : Int32, x13 = (v1 + (2 : Int32)) → (vp_in x13 L ∧ (∀ x15 : Int32, x15 = (xs x13.toNatClampNeg) → fX8_set 529 x12 x15 m9 (fun r16 m17 => fL_law_803 L xs k18   v1 m17))))))))))))))
def fL_law_181 (L : Nat) (xs : Nat → Int32) (k18 : Int32 → zMem → Prop) (v1 : Int32) (μ : zMem) : Prop :=
  (∀ x18 : Int32, x18 = (v1 + (1 : Int32)) → (vp_in x18 L ∧ (∀ x20 : Int32, x20 = (xs x18.toNatClampNeg) → (∀ x21 : Int32, x21 = (v1 + (2 : Int32)) → (vp_in x21 L ∧ (∀ x23 : Int32, x23 = (xs x21.toNatClampNeg) → (∀ x24 : Int32, x24 = (v1 + (3 : Int32)) → (vp_in x24 L ∧ (∀ x26 : Int32, x26 = (xs x24.toNatClampNeg) → fX7_price 0 x20 x23 x26 μ (fun r27 m28 => (∀ x29 : Int32, x29 = (v1 + (1 : Int32)) → (vp_in x29 L ∧ (∀ x31 : Int32, x31 = (xs x29.toNatClampNeg) → (∀ x32 : Int32, x32 = (v1 + (2 : Int32)) → (vp_in x32 L ∧ (∀ x34 : Int32, x34 = (xs x32.toNatClampNeg) → (∀ x35 : Int32, x35 = (v1 + (3 : Int32)) → (vp_in x35 L ∧ (∀ x37 : Int32, x37 = (xs x35.toNatClampNeg) → fX8_price 529 x31 x34 x37 m28 (fun r38 m39 => fL_law_803 L xs k18   v1 m39))))))))))))))))))))
def fL_law_224 (L : Nat) (xs : Nat → Int32) (k18 : Int32 → zMem → Prop) (v1 : Int32) (μ : zMem) : Prop :=
  fX7_person 0  μ (fun r40 m41 => fX8_person 529  m41 (fun r42 m43 => fL_law_803 L xs k18   v1 m43))
def fL_law_237 (L : Nat) (xs : Nat → Int32) (k18 : Int32 → zMem → Prop) (v1 : Int32) (μ : zMem) : Prop :=
  (∀ x44 : Int32, x44 = (v1 + (1 : Int32)) → (vp_in x44 L ∧ (∀ x46 : Int32, x46 = (xs x44.toNatClampNeg) → (∀ x47 : Int32, x47 = (v1 + (2 : Int32)) → (vp_in x47 L ∧ (∀ x49 : Int32, x49 = (xs x47.toNatClampNeg) → fX7_vouchers 0 x46 x49 μ (fun r50 m51 => (∀ x52 : Int32, x52 = (v1 + (1 : Int32)) → (vp_in x52 L ∧ (∀ x54 : Int32, x54 = (xs x52.toNatClampNeg) → (∀ x55 : Int32, x55 = (v1 + (2 : Int32)) → (vp_in x55 L ∧ (∀ x57 : Int32, x57 = (xs x55.toNatClampNeg) → fX8_vouchers 529 x54 x57 m51 (fun r58 m59 => fL_law_803 L xs k18   v1 m59))))))))))))))
def fL_law_270 (L : Nat) (xs : Nat → Int32) (k18 : Int32 → zMem → Prop) (v1 : Int32) (μ : zMem) : Prop :=
  (∀ x60 : Int32, x60 = (v1 + (1 : Int32)) → (vp_in x60 L ∧ (∀ x62 : Int32, x62 = (xs x60.toNatClampNeg) → (∀ x63 : Int32, x63 = (v1 + (2 : Int32)) → (vp_in x63 L ∧ (∀ x65 : Int32, x65 = (xs x63.toNatClampNeg) → (∀ x66 : Int32, x66 = (v1 + (3 : Int32)) → (vp_in x66 L ∧ (∀ x68 : Int32, x68 = (xs x66.toNatClampNeg) → fX7_order 0 x62 x65 x68 μ (fun r69 m70 => (∀ x71 : Int32, x71 = (v1 + (1 : Int32)) → (vp_in x71 L ∧ (∀ x73 : Int32, x73 = (xs x71.toNatClampNeg) → (∀ x74 : Int32, x74 = (v1 + (2 : Int32)) → (vp_in x74 L ∧ (∀ x76 : Int32, x76 = (xs x74.toNatClampNeg) → (∀ x77 : Int32, x77 = (v1 + (3 : Int32)) → (vp_in x77 L ∧ (∀ x79 : Int32, x79 = (xs x77.toNatClampNeg) → fX8_order 529 x73 x76 x79 m70 (fun r80 m81 => fL_law_803 L xs k18   v1 m81))))))))))))))))))))
def fL_law_313 (L : Nat) (xs : Nat → Int32) (k18 : Int32 → zMem → Prop) (v1 : Int32) (μ : zMem) : Prop :=
  (∀ x82 : Int32, x82 = (v1 + (1 : Int32)) → (vp_in x82 L ∧ (∀ x84 : Int32, x84 = (xs x82.toNatClampNeg) → (∀ x85 : Int32, x85 = (v1 + (2 : Int32)) → (vp_in x85 L ∧ (∀ x87 : Int32, x87 = (xs x85.toNatClampNeg) → fX7_callOff 0 x84 x87 μ (fun r88 m89 => (∀ x90 : Int32, x90 = (v1 + (1 : Int32)) → (vp_in x90 L ∧ (∀ x92 : Int32, x92 = (xs x90.toNatClampNeg) → (∀ x93 : Int32, x93 = (v1 + (2 : Int32)) → (vp_in x93 L ∧ (∀ x95 : Int32, x95 = (xs x93.toNatClampNeg) → fX8_callOff 529 x92 x95 m89 (fun r96 m97 => fL_law_803 L xs k18   v1 m97))))))))))))))
def fL_law_346 (L : Nat) (xs : Nat → Int32) (k18 : Int32 → zMem → Prop) (v1 : Int32) (μ : zMem) : Prop :=
  fX7_cook 0  μ (fun r98 m99 => fX8_cook 529  m99 (fun r100 m101 => fL_law_803 L xs k18   v1 m101))
def fL_law_359 (L : Nat) (xs : Nat → Int32) (k18 : Int32 → zMem → Prop) (v1 : Int32) (μ : zMem) : Prop :=
  (∀ x102 : Int32, x102 = (v1 + (1 : Int32)) → (vp_in x102 L ∧ (∀ x104 : Int32, x104 = (xs x102.toNatClampNeg) → fX7_come 0 x104 μ (fun r105 m106 => (∀ x107 : Int32, x107 = (v1 + (1 : Int32)) → (vp_in x107 L ∧ (∀ x109 : Int32, x109 = (xs x107.toNatClampNeg) → fX8_come 529 x109 m106 (fun r110 m111 => fL_law_803 L xs k18   v1 m111))))))))
def fL_law_382 (L : Nat) (xs : Nat → Int32) (k18 : Int32 → zMem → Prop) (v1 : Int32) (μ : zMem) : Prop :=
  (∀ x112 : Int32, x112 = (v1 + (1 : Int32)) → (vp_in x112 L ∧ (∀ x114 : Int32, x114 = (xs x112.toNatClampNeg) → (∀ x115 : Int32, x115 = (v1 + (2 : Int32)) → (vp_in x115 L ∧ (∀ x117 : Int32, x117 = (xs x115.toNatClampNeg) → fX7_buy 0 x114 x117 μ (fun r118 m119 => (∀ x120 : Int32, x120 = (v1 + (1 : Int32)) → (vp_in x120 L ∧ (∀ x122 : Int32, x122 = (xs x120.toNatClampNeg) → (∀ x123 : Int32, x123 = (v1 + (2 : Int32)) → (vp_in x123 L ∧ (∀ x125 : Int32, x125 = (xs x123.toNatClampNeg) → fX8_buy 529 x122 x125 m119 (fun r126 m127 => fL_law_803 L xs k18   v1 m127))))))))))))))
def fL_law_415 (L : Nat) (xs : Nat → Int32) (k18 : Int32 → zMem → Prop) (v1 : Int32) (μ : zMem) : Prop :=
  fX7_close 0  μ (fun r128 m129 => fX8_close 529  m129 (fun r130 m131 => fL_law_803 L xs k18   v1 m131))
def fL_law_428 (L : Nat) (xs : Nat → Int32) (k18 : Int32 → zMem → Prop) (v1 : Int32) (μ : zMem) : Prop :=
  (∀ x132 : Int32, x132 = (v1 + (1 : Int32)) → (vp_in x132 L ∧ (∀ x134 : Int32, x134 = (xs x132.toNatClampNeg) → (∀ x135 : Int32, x135 = (v1 + (2 : Int32)) → (vp_in x135 L ∧ (∀ x137 : Int32, x137 = (xs x135.toNatClampNeg) → fX7_of 0 x134 x137 μ (fun r138 m139 => (∀ x140 : Int32, x140 = (v1 + (1 : Int32)) → (vp_in x140 L ∧ (∀ x142 : Int32, x142 = (xs x140.toNatClampNeg) → (∀ x143 : Int32, x143 = (v1 + (2 : Int32)) → (vp_in x143 L ∧ (∀ x145 : Int32, x145 = (xs x143.toNatClampNeg) → fX8_of 529 x142 x145 m139 (fun r146 m147 => fL_law_803 L xs k18   v1 m147))))))))))))))
def fL_law_461 (L : Nat) (xs : Nat → Int32) (k18 : Int32 → zMem → Prop) (v1 : Int32) (μ : zMem) : Prop :=
  (∀ x148 : Int32, x148 = (v1 + (1 : Int32)) → (vp_in x148 L ∧ (∀ x150 : Int32, x150 = (xs x148.toNatClampNeg) → (∀ x151 : Int32, x151 = (v1 + (2 : Int32)) → (vp_in x151 L ∧ (∀ x153 : Int32, x153 = (xs x151.toNatClampNeg) → fX7_ofDish 0 x150 x153 μ (fun r154 m155 => (∀ x156 : Int32, x156 = (v1 + (1 : Int32)) → (vp_in x156 L ∧ (∀ x158 : Int32, x158 = (xs x156.toNatClampNeg) → (∀ x159 : Int32, x159 = (v1 + (2 : Int32)) → (vp_in x159 L ∧ (∀ x161 : Int32, x161 = (xs x159.toNatClampNeg) → fX8_ofDish 529 x158 x161 m155 (fun r162 m163 => fL_law_803 L xs k18   v1 m163))))))))))))))
def fL_law_494 (L : Nat) (xs : Nat → Int32) (k18 : Int32 → zMem → Prop) (v1 : Int32) (μ : zMem) : Prop :=
  (∀ x164 : Int32, x164 = (v1 + (1 : Int32)) → (vp_in x164 L ∧ (∀ x166 : Int32, x166 = (xs x164.toNatClampNeg) → (∀ x167 : Int32, x167 = (v1 + (2 : Int32)) → (vp_in x167 L ∧ (∀ x169 : Int32, x169 = (xs x167.toNatClampNeg) → fX7_ordered 0 x166 x169 μ (fun r170 m171 => (∀ x172 : Int32, x172 = (v1 + (1 : Int32)) → (vp_in x172 L ∧ (∀ x174 : Int32, x174 = (xs x172.toNatClampNeg) → (∀ x175 : Int32, x175 = (v1 + (2 : Int32)) → (vp_in x175 L ∧ (∀ x177 : Int32, x177 = (xs x175.toNatClampNeg) → fX8_ordered 529 x174 x177 m171 (fun r178 m179 => fL_law_803 L xs k18   v1 m179))))))))))))))
def fL_law_527 (L : Nat) (xs : Nat → Int32) (k18 : Int32 → zMem → Prop) (v1 : Int32) (μ : zMem) : Prop :=
  (∀ x180 : Int32, x180 = (v1 + (1 : Int32)) → (vp_in x180 L ∧ (∀ x182 : Int32, x182 = (xs x180.toNatClampNeg) → fX7_count 0 x182 μ (fun r183 m184 => (∀ x185 : Int32, x185 = (v1 + (1 : Int32)) → (vp_in x185 L ∧ (∀ x187 : Int32, x187 = (xs x185.toNatClampNeg) → fX8_count 529 x187 m184 (fun r188 m189 => fL_law_803 L xs k18   v1 m189))))))))
def fL_law_550 (L : Nat) (xs : Nat → Int32) (k18 : Int32 → zMem → Prop) (v1 : Int32) (μ : zMem) : Prop :=
  (∀ x190 : Int32, x190 = (v1 + (1 : Int32)) → (vp_in x190 L ∧ (∀ x192 : Int32, x192 = (xs x190.toNatClampNeg) → (∀ x193 : Int32, x193 = (v1 + (2 : Int32)) → (vp_in x193 L ∧ (∀ x195 : Int32, x195 = (xs x193.toNatClampNeg) → (∀ x196 : Int32, x196 = (v1 + (3 : Int32)) → (vp_in x196 L ∧ (∀ x198 : Int32, x198 = (xs x196.toNatClampNeg) → fX7_why 0 x192 x195 x198 μ (fun r199 m200 => (∀ x201 : Int32, x201 = (v1 + (1 : Int32)) → (vp_in x201 L ∧ (∀ x203 : Int32, x203 = (xs x201.toNatClampNeg) → (∀ x204 : Int32, x204 = (v1 + (2 : Int32)) → (vp_in x204 L ∧ (∀ x206 : Int32, x206 = (xs x204.toNatClampNeg) → (∀ x207 : Int32, x207 = (v1 + (3 : Int32)) → (vp_in x207 L ∧ (∀ x209 : Int32, x209 = (xs x207.toNatClampNeg) → fX8_why 529 x203 x206 x209 m200 (fun r210 m211 => fL_law_803 L xs k18   v1 m211))))))))))))))))))))
def fL_law_593 (L : Nat) (xs : Nat → Int32) (k18 : Int32 → zMem → Prop) (v1 : Int32) (μ : zMem) : Prop :=
  (∀ x212 : Int32, x212 = (v1 + (1 : Int32)) → (vp_in x212 L ∧ (∀ x214 : Int32, x214 = (xs x212.toNatClampNeg) → fX7_unsurest 0 x214 μ (fun r215 m216 => (∀ x217 : Int32, x217 = (v1 + (1 : Int32)) → (vp_in x217 L ∧ (∀ x219 : Int32, x219 = (xs x217.toNatClampNeg) → fX8_unsurest 529 x219 m216 (fun r220 m221 => fL_law_803 L xs k18   v1 m221))))))))
def fL_law_616 (L : Nat) (xs : Nat → Int32) (k18 : Int32 → zMem → Prop) (v1 : Int32) (μ : zMem) : Prop :=
  (∀ x222 : Int32, x222 = (v1 + (1 : Int32)) → (vp_in x222 L ∧ (∀ x224 : Int32, x224 = (xs x222.toNatClampNeg) → fX7_firstOrder 0 x224 μ (fun r225 m226 => (∀ x227 : Int32, x227 = (v1 + (1 : Int32)) → (vp_in x227 L ∧ (∀ x229 : Int32, x229 = (xs x227.toNatClampNeg) → fX8_firstOrder 529 x229 m226 (fun r230 m231 => fL_law_803 L xs k18   v1 m231))))))))
def fL_law_639 (L : Nat) (xs : Nat → Int32) (k18 : Int32 → zMem → Prop) (v1 : Int32) (μ : zMem) : Prop :=
  fX7_wasted 0  μ (fun r232 m233 => fX8_wasted 529  m233 (fun r234 m235 => fL_law_803 L xs k18   v1 m235))
def fL_law_652 (L : Nat) (xs : Nat → Int32) (k18 : Int32 → zMem → Prop) (v1 : Int32) (μ : zMem) : Prop :=
  (∀ x236 : Int32, x236 = (v1 + (1 : Int32)) → (vp_in x236 L ∧ (∀ x238 : Int32, x238 = (xs x236.toNatClampNeg) → (∀ x239 : Int64, x239 = (x238).toInt64 → (∀ x240 : Int64, x240 = (z_lshl x239 (32 : Int32)) → (∀ x241 : Int32, x241 = (v1 + (2 : Int32)) → (vp_in x241 L ∧ (∀ x243 : Int32, x243 = (xs x241.toNatClampNeg) → (∀ x244 : Int64, x244 = (x243).toInt64 → (∀ x245 : Int64, x245 = (x244 &&& (4294967295 : Int64)) → (∀ x246 : Int64, x246 = (x240 ||| x245) → fX7_put 0 x246 μ (fun r247 m248 => (∀ x249 : Int32, x249 = (v1 + (1 : Int32)) → (vp_in x249 L ∧ (∀ x251 : Int32, x251 = (xs x249.toNatClampNeg) → (∀ x252 : Int64, x252 = (x251).toInt64 → (∀ x253 : Int64, x253 = (z_lshl x252 (32 : Int32)) → (∀ x254 : Int32, x254 = (v1 + (2 : Int32)) → (vp_in x254 L ∧ (∀ x256 : Int32, x256 = (xs x254.toNatClampNeg) → (∀ x257 : Int64, x257 = (x256).toInt64 → (∀ x258 : Int64, x258 = (x257 &&& (4294967295 : Int64)) → (∀ x259 : Int64, x259 = (x253 ||| x258) → fX8_put 529 x259 m248 (fun r260 m261 => ((r247 = r260 → fL_law_803 L xs k18   v1 m261) ∧ (¬ r247 = r260 → False))))))))))))))))))))))))))
def fL_law_705 (L : Nat) (xs : Nat → Int32) (k18 : Int32 → zMem → Prop) (v1 : Int32) (μ : zMem) : Prop :=
  fX7_wipe 0  μ (fun r263 m264 => fX8_wipe 529  m264 (fun r265 m266 => fL_law_803 L xs k18   v1 m266))
def fL_law_718 (L : Nat) (xs : Nat → Int32) (k18 : Int32 → zMem → Prop) (v1 : Int32) (μ : zMem) : Prop :=
  fX7_fault 0  μ (fun r267 m268 => fX8_fault 529  m268 (fun r269 m270 => fL_law_803 L xs k18   v1 m270))
def fL_law_731 (L : Nat) (xs : Nat → Int32) (k18 : Int32 → zMem → Prop) (v1 : Int32) (μ : zMem) : Prop :=
  fX7_carryOut 0  μ (fun r271 m272 => fX8_carryOut 529  m272 (fun r273 m274 => fL_law_803 L xs k18   v1 m274))
def fL_law_744 (L : Nat) (xs : Nat → Int32) (k18 : Int32 → zMem → Prop) (v1 : Int32) (μ : zMem) : Prop :=
  fX7_undo 0  μ (fun r275 m276 => fX8_undo 529  m276 (fun r277 m278 => fL_law_803 L xs k18   v1 m278))
def fL_law_757 (L : Nat) (xs : Nat → Int32) (k18 : Int32 → zMem → Prop) (v1 : Int32) (μ : zMem) : Prop :=
  (∀ x279 : Int32, x279 = (v1 + (1 : Int32)) → (vp_in x279 L ∧ (∀ x281 : Int32, x281 = (xs x279.toNatClampNeg) → fX7_save 0 x281 μ (fun r282 m283 => (∀ x284 : Int32, x284 = (v1 + (1 : Int32)) → (vp_in x284 L ∧ (∀ x286 : Int32, x286 = (xs x284.toNatClampNeg) → fX8_save 529 x286 m283 (fun r287 m288 => fL_law_803 L xs k18   v1 m288))))))))
def fL_law_780 (L : Nat) (xs : Nat → Int32) (k18 : Int32 → zMem → Prop) (v1 : Int32) (μ : zMem) : Prop :=
  (∀ x289 : Int32, x289 = (v1 + (1 : Int32)) → (vp_in x289 L ∧ (∀ x291 : Int32, x291 = (xs x289.toNatClampNeg) → fX7_restore 0 x291 μ (fun r292 m293 => (∀ x294 : Int32, x294 = (v1 + (1 : Int32)) → (vp_in x294 L ∧ (∀ x296 : Int32, x296 = (xs x294.toNatClampNeg) → fX8_restore 529 x296 m293 (fun r297 m298 => fL_law_803 L xs k18   v1 m298))))))))
def fL_law_18b (L : Nat) (xs : Nat → Int32) (k18 : Int32 → zMem → Prop) (v1 : Int32) (μ : zMem) : Prop :=
  (∀ x299 : Int32, x299 = (Int32.ofNat L) → (∀ x300 : Int32, x300 = (x299 - (4 : Int32)) → ((x300 < v1 → True) ∧ (¬ x300 < v1 → (vp_in v1 L ∧ (∀ x303 : Int32, x303 = (xs v1.toNatClampNeg) → (∀ x304 : Int32, x304 = (x303 &&& (31 : Int32)) → ((x304 = (0 : Int32) → fL_law_148 L xs k18   v1 μ) ∧ (¬ x304 = (0 : Int32) → ((x304 = (1 : Int32) → fL_law_181 L xs k18   v1 μ) ∧ (¬ x304 = (1 : Int32) → ((x304 = (2 : Int32) → fL_law_224 L xs k18   v1 μ) ∧ (¬ x304 = (2 : Int32) → ((x304 = (3 : Int32) → fL_law_237 L xs k18   v1 μ) ∧ (¬ x304 = (3 : Int32) → ((x304 = (4 : Int32) → fL_law_270 L xs k18   v1 μ) ∧ (¬ x304 = (4 : Int32) → ((x304 = (5 : Int32) → fL_law_313 L xs k18   v1 μ) ∧ (¬ x304 = (5 : Int32) → ((x304 = (6 : Int32) → fL_law_346 L xs k18   v1 μ) ∧ (¬ x304 = (6 : Int32) → ((x304 = (7 : Int32) → fL_law_359 L xs k18   v1 μ) ∧ (¬ x304 = (7 : Int32) → ((x304 = (8 : Int32) → fL_law_382 L xs k18   v1 μ) ∧ (¬ x304 = (8 : Int32) → ((x304 = (9 : Int32) → fL_law_415 L xs k18   v1 μ) ∧ (¬ x304 = (9 : Int32) → ((x304 = (10 : Int32) → fL_law_428 L xs k18   v1 μ) ∧ (¬ x304 = (10 : Int32) → ((x304 = (11 : Int32) → fL_law_461 L xs k18   v1 μ) ∧ (¬ x304 = (11 : Int32) → ((x304 = (12 : Int32) → fL_law_494 L xs k18   v1 μ) ∧ (¬ x304 = (12 : Int32) → ((x304 = (13 : Int32) → fL_law_527 L xs k18   v1 μ) ∧ (¬ x304 = (13 : Int32) → ((x304 = (14 : Int32) → fL_law_550 L xs k18   v1 μ) ∧ (¬ x304 = (14 : Int32) → ((x304 = (15 : Int32) → fL_law_593 L xs k18   v1 μ) ∧ (¬ x304 = (15 : Int32) → ((x304 = (16 : Int32) → fL_law_616 L xs k18   v1 μ) ∧ (¬ x304 = (16 : Int32) → ((x304 = (17 : Int32) → fL_law_639 L xs k18   v1 μ) ∧ (¬ x304 = (17 : Int32) → ((x304 = (18 : Int32) → fL_law_652 L xs k18   v1 μ) ∧ (¬ x304 = (18 : Int32) → ((x304 = (19 : Int32) → fL_law_705 L xs k18   v1 μ) ∧ (¬ x304 = (19 : Int32) → ((x304 = (20 : Int32) → fL_law_718 L xs k18   v1 μ) ∧ (¬ x304 = (20 : Int32) → ((x304 = (21 : Int32) → fL_law_731 L xs k18   v1 μ) ∧ (¬ x304 = (21 : Int32) → ((x304 = (22 : Int32) → fL_law_744 L xs k18   v1 μ) ∧ (¬ x304 = (22 : Int32) → ((x304 = (23 : Int32) → fL_law_757 L xs k18   v1 μ) ∧ (¬ x304 = (23 : Int32) → ((x304 = (24 : Int32) → fL_law_780 L xs k18   v1 μ) ∧ (¬ x304 = (24 : Int32) → fL_law_803 L xs k18   v1 μ)))))))))))))))))))))))))))))))))))))))))))))))))))))))))
def fL_law_18 (L : Nat) (xs : Nat → Int32)  (n : Nat) : Int32 → zMem → Prop := z_it (fun k => fL_law_18b L xs  k ) (fun _ _ => False) n
set_option maxRecDepth 100000 in
set_option maxHeartbeats 4000000 in
theorem tL_law_803 {p : Program} {l : Launch} {e : Env} {s : State} {m : MethodId} {below : List Frame} {meth : Method} {c : Code} {G : zG} {b L : Nat} {xs : Nat → Int32} {k18 : Int32 → zMem → Prop} (o : za_Ok room_1 537 6387 p s m #[Value.ref b] meth c G RL cL_law 4 (some .boolean)) (hs : zScr b L xs s G) (hk18 : ∀ (v1 : Int32) (μ : zMem), k18 v1 μ → za_At p l e room_1 s m #[Value.ref b] below meth c (lw_Z below #[Value.ref b] s) G 4 537 6387 18 [(0, .ref b), (1, .ref (G.2.2 + 0)), (2, .ref (G.2.2 + 529)), (3, .int v1)] [] μ) (v1 : Int32) (μ : zMem)  (hf : fL_law_803 L xs k18 v1 μ) : za_At p l e room_1 s m #[Value.ref b] below meth c (lw_Z below #[Value.ref b] s) G 4 537 6387 803 [(0, .ref b), (1, .ref (G.2.2 + 0)), (2, .ref (G.2.2 + 529)), (3, .int v1)] [] μ := by
  unfold fL_law_803 at hf
  obtain ⟨x1, ex1⟩ : ∃ y : Int32, y = v1 + (4 : Int32) := ⟨_, rfl⟩
  replace hf := hf x1 ex1
  refine za_iinc o x1 3 [(3, .int x1), (0, .ref b), (1, .ref (G.2.2 + 0)), (2, .ref (G.2.2 + 529))] dL_law_803 rfl (by rw [ex1]; rfl) (by decide) rfl ?_
  refine za_goto o 18 dL_law_806 (by decide) ?_
  refine za_sub [1, 2, 3, 0] rfl ?_
  exact hk18 x1 μ  hf
set_option maxRecDepth 100000 in
set_option maxHeartbeats 4000000 in
theorem tL_law_148 {p : Program} {l : Launch} {e : Env} {s : State} {m : MethodId} {below : List Frame} {meth : Method} {c : Code} {G : zG} {b L : Nat} {xs : Nat → Int32} {k18 : Int32 → zMem → Prop} (o : za_Ok room_1 537 6387 p s m #[Value.ref b] meth c G RL cL_law 4 (some .boolean)) (hs : zScr b L xs s G) (hk18 : ∀ (v1 : Int32) (μ : zMem), k18 v1 μ → za_At p l e room_1 s m #[Value.ref b] below meth c (lw_Z below #[Value.ref b] s) G 4 537 6387 18 [(0, .ref b), (1, .ref (G.2.2 + 0)), (2, .ref (G.2.2 + 529)), (3, .int v1)] [] μ) (v1 : Int32) (μ : zMem)  (hf : fL_law_148 L xs k18 v1 μ) : za_At p l e room_1 s m #[Value.ref b] below meth c (lw_Z below #[Value.ref b] s) G 4 537 6387 148 [(0, .ref b), (1, .ref (G.2.2 + 0)), (2, .ref (G.2.2 + 529)), (3, .int v1)] [] μ := by
  unfold fL_law_148 at hf
  refine za_aload_n o 1 dL_law_148 rfl rfl ?_
  refine za_aload_n o 0 dL_law_149 rfl rfl ?_
  refine za_iload_n o 3 dL_law_150 rfl rfl ?_
  refine za_iconst (v := (1 : Int32)) o dL_law_151 (by decide) ?_
  refine za_iadd o dL_law_152 ?_
  refine za_topi (fun x2 ex2 => ?_)
  replace hf := hf x2 ex2
  obtain ⟨g3, hf⟩ := hf
  refine za_sld o hs g3 dL_law_153 ?_
  refine za_topi (fun x4 ex4 => ?_)
  replace hf := hf x4 ex4
  refine za_aload_n o 0 dL_law_154 rfl rfl ?_
  refine za_iload_n o 3 dL_law_155 rfl rfl ?_
  refine za_iconst (v := (2 : Int32)) o dL_law_156 (by decide) ?_
  refine za_iadd o dL_law_157 ?_
  refine za_topi (fun x5 ex5 => ?_)
  replace hf := hf x5 ex5
  obtain ⟨g6, hf⟩ := hf
  refine za_sld o hs g6 dL_law_158 ?_
  refine za_topi (fun x7 ex7 => ?_)
  replace hf := hf x7 ex7
  refine za_callVi o [.int x4, .int x7] (ctX7_set l G zk_c7 x4 x7  μ _ hf) zc7 zk_c7 mwX7_set wmL_13 wiX7_set wsX7_set rfl ⟨Nat.le_of_ble_eq_true rfl, Nat.le_of_ble_eq_true rfl⟩ rfl (Nat.le_of_ble_eq_true rfl) dL_law_159 (fun r8 m9 hf => ?_)
  refine za_pop o dL_law_162 rfl ?_
  refine za_aload_n o 2 dL_law_163 rfl rfl ?_
  refine za_aload_n o 0 dL_law_164 rfl rfl ?_
  refine za_iload_n o 3 dL_law_165 rfl rfl ?_
  refine za_iconst (v := (1 : Int32)) o dL_law_166 (by decide) ?_
  refine za_iadd o dL_law_167 ?_
  refine za_topi (fun x10 ex10 => ?_)
  replace hf := hf x10 ex10
  obtain ⟨g11, hf⟩ := hf
  refine za_sld o hs g11 dL_law_168 ?_
  refine za_topi (fun x12 ex12 => ?_)
  replace hf := hf x12 ex12
  refine za_aload_n o 0 dL_law_169 rfl rfl ?_
  refine za_iload_n o 3 dL_law_170 rfl rfl ?_
  refine za_iconst (v := (2 : Int32)) o dL_law_171 (by decide) ?_
  refine za_iadd o dL_law_172 ?_
  refine za_topi (fun x13 ex13 => ?_)
  replace hf := hf x13 ex13
  obtain ⟨g14, hf⟩ := hf
  refine za_sld o hs g14 dL_law_173 ?_
  refine za_topi (fun x15 ex15 => ?_)
  replace hf := hf x15 ex15
  refine za_callVi o [.int x12, .int x15] (ctX8_set l G zk_c8 x12 x15  m9 _ hf) zc8 zk_c8 mwX8_set wmL_17 wiX8_set wsX8_set rfl ⟨Nat.le_of_ble_eq_true rfl, Nat.le_of_ble_eq_true rfl⟩ rfl (Nat.le_of_ble_eq_true rfl) dL_law_174 (fun r16 m17 hf => ?_)
  refine za_pop o dL_law_177 rfl ?_
  refine za_goto o 803 dL_law_178 (by decide) ?_
  exact tL_law_803 o hs  hk18 v1 m17  hf
set_option maxRecDepth 100000 in
set_option maxHeartbeats 4000000 in
theorem tL_law_181 {p : Program} {l : Launch} {e : Env} {s : State} {m : MethodId} {below : List Frame} {meth : Method} {c : Code} {G : zG} {b L : Nat} {xs : Nat → Int32} {k18 : Int32 → zMem → Prop} (o : za_Ok room_1 537 6387 p s m #[Value.ref b] meth c G RL cL_law 4 (some .boolean)) (hs : zScr b L xs s G) (hk18 : ∀ (v1 : Int32) (μ : zMem), k18 v1 μ → za_At p l e room_1 s m #[Value.ref b] below meth c (lw_Z below #[Value.ref b] s) G 4 537 6387 18 [(0, .ref b), (1, .ref (G.2.2 + 0)), (2, .ref (G.2.2 + 529)), (3, .int v1)] [] μ) (v1 : Int32) (μ : zMem)  (hf : fL_law_181 L xs k18 v1 μ) : za_At p l e room_1 s m #[Value.ref b] below meth c (lw_Z below #[Value.ref b] s) G 4 537 6387 181 [(0, .ref b), (1, .ref (G.2.2 + 0)), (2, .ref (G.2.2 + 529)), (3, .int v1)] [] μ := by
  unfold fL_law_181 at hf
  refine za_aload_n o 1 dL_law_181 rfl rfl ?_
  refine za_aload_n o 0 dL_law_182 rfl rfl ?_
  refine za_iload_n o 3 dL_law_183 rfl rfl ?_
  refine za_iconst (v := (1 : Int32)) o dL_law_184 (by decide) ?_
  refine za_iadd o dL_law_185 ?_
  refine za_topi (fun x18 ex18 => ?_)
  replace hf := hf x18 ex18
  obtain ⟨g19, hf⟩ := hf
  refine za_sld o hs g19 dL_law_186 ?_
  refine za_topi (fun x20 ex20 => ?_)
  replace hf := hf x20 ex20
  refine za_aload_n o 0 dL_law_187 rfl rfl ?_
  refine za_iload_n o 3 dL_law_188 rfl rfl ?_
  refine za_iconst (v := (2 : Int32)) o dL_law_189 (by decide) ?_
  refine za_iadd o dL_law_190 ?_
  refine za_topi (fun x21 ex21 => ?_)
  replace hf := hf x21 ex21
  obtain ⟨g22, hf⟩ := hf
  refine za_sld o hs g22 dL_law_191 ?_
  refine za_topi (fun x23 ex23 => ?_)
  replace hf := hf x23 ex23
  refine za_aload_n o 0 dL_law_192 rfl rfl ?_
  refine za_iload_n o 3 dL_law_193 rfl rfl ?_
  refine za_iconst (v := (3 : Int32)) o dL_law_194 (by decide) ?_
  refine za_iadd o dL_law_195 ?_
  refine za_topi (fun x24 ex24 => ?_)
  replace hf := hf x24 ex24
  obtain ⟨g25, hf⟩ := hf
  refine za_sld o hs g25 dL_law_196 ?_
  refine za_topi (fun x26 ex26 => ?_)
  replace hf := hf x26 ex26
  refine za_callVi o [.int x20, .int x23, .int x26] (ctX7_price l G zk_c7 x20 x23 x26  μ _ hf) zc7 zk_c7 mwX7_price wmL_18 wiX7_price wsX7_price rfl ⟨Nat.le_of_ble_eq_true rfl, Nat.le_of_ble_eq_true rfl⟩ rfl (Nat.le_of_ble_eq_true rfl) dL_law_197 (fun r27 m28 hf => ?_)
  refine za_pop o dL_law_200 rfl ?_
  refine za_aload_n o 2 dL_law_201 rfl rfl ?_
  refine za_aload_n o 0 dL_law_202 rfl rfl ?_
  refine za_iload_n o 3 dL_law_203 rfl rfl ?_
  refine za_iconst (v := (1 : Int32)) o dL_law_204 (by decide) ?_
  refine za_iadd o dL_law_205 ?_
  refine za_topi (fun x29 ex29 => ?_)
  replace hf := hf x29 ex29
  obtain ⟨g30, hf⟩ := hf
  refine za_sld o hs g30 dL_law_206 ?_
  refine za_topi (fun x31 ex31 => ?_)
  replace hf := hf x31 ex31
  refine za_aload_n o 0 dL_law_207 rfl rfl ?_
  refine za_iload_n o 3 dL_law_208 rfl rfl ?_
  refine za_iconst (v := (2 : Int32)) o dL_law_209 (by decide) ?_
  refine za_iadd o dL_law_210 ?_
  refine za_topi (fun x32 ex32 => ?_)
  replace hf := hf x32 ex32
  obtain ⟨g33, hf⟩ := hf
  refine za_sld o hs g33 dL_law_211 ?_
  refine za_topi (fun x34 ex34 => ?_)
  replace hf := hf x34 ex34
  refine za_aload_n o 0 dL_law_212 rfl rfl ?_
  refine za_iload_n o 3 dL_law_213 rfl rfl ?_
  refine za_iconst (v := (3 : Int32)) o dL_law_214 (by decide) ?_
  refine za_iadd o dL_law_215 ?_
  refine za_topi (fun x35 ex35 => ?_)
  replace hf := hf x35 ex35
  obtain ⟨g36, hf⟩ := hf
  refine za_sld o hs g36 dL_law_216 ?_
  refine za_topi (fun x37 ex37 => ?_)
  replace hf := hf x37 ex37
  refine za_callVi o [.int x31, .int x34, .int x37] (ctX8_price l G zk_c8 x31 x34 x37  m28 _ hf) zc8 zk_c8 mwX8_price wmL_22 wiX8_price wsX8_price rfl ⟨Nat.le_of_ble_eq_true rfl, Nat.le_of_ble_eq_true rfl⟩ rfl (Nat.le_of_ble_eq_true rfl) dL_law_217 (fun r38 m39 hf => ?_)
  refine za_pop o dL_law_220 rfl ?_
  refine za_goto o 803 dL_law_221 (by decide) ?_
  exact tL_law_803 o hs  hk18 v1 m39  hf
set_option maxRecDepth 100000 in
set_option maxHeartbeats 4000000 in
theorem tL_law_224 {p : Program} {l : Launch} {e : Env} {s : State} {m : MethodId} {below : List Frame} {meth : Method} {c : Code} {G : zG} {b L : Nat} {xs : Nat → Int32} {k18 : Int32 → zMem → Prop} (o : za_Ok room_1 537 6387 p s m #[Value.ref b] meth c G RL cL_law 4 (some .boolean)) (hs : zScr b L xs s G) (hk18 : ∀ (v1 : Int32) (μ : zMem), k18 v1 μ → za_At p l e room_1 s m #[Value.ref b] below meth c (lw_Z below #[Value.ref b] s) G 4 537 6387 18 [(0, .ref b), (1, .ref (G.2.2 + 0)), (2, .ref (G.2.2 + 529)), (3, .int v1)] [] μ) (v1 : Int32) (μ : zMem)  (hf : fL_law_224 L xs k18 v1 μ) : za_At p l e room_1 s m #[Value.ref b] below meth c (lw_Z below #[Value.ref b] s) G 4 537 6387 224 [(0, .ref b), (1, .ref (G.2.2 + 0)), (2, .ref (G.2.2 + 529)), (3, .int v1)] [] μ := by
  unfold fL_law_224 at hf
  refine za_aload_n o 1 dL_law_224 rfl rfl ?_
  refine za_callVi o [] (ctX7_person l G zk_c7   μ _ hf) zc7 zk_c7 mwX7_person wmL_23 wiX7_person wsX7_person rfl ⟨Nat.le_of_ble_eq_true rfl, Nat.le_of_ble_eq_true rfl⟩ rfl (Nat.le_of_ble_eq_true rfl) dL_law_225 (fun r40 m41 hf => ?_)
  refine za_pop o dL_law_228 rfl ?_
  refine za_aload_n o 2 dL_law_229 rfl rfl ?_
  refine za_callVi o [] (ctX8_person l G zk_c8   m41 _ hf) zc8 zk_c8 mwX8_person wmL_27 wiX8_person wsX8_person rfl ⟨Nat.le_of_ble_eq_true rfl, Nat.le_of_ble_eq_true rfl⟩ rfl (Nat.le_of_ble_eq_true rfl) dL_law_230 (fun r42 m43 hf => ?_)
  refine za_pop o dL_law_233 rfl ?_
  refine za_goto o 803 dL_law_234 (by decide) ?_
  exact tL_law_803 o hs  hk18 v1 m43  hf
set_option maxRecDepth 100000 in
set_option maxHeartbeats 4000000 in
theorem tL_law_237 {p : Program} {l : Launch} {e : Env} {s : State} {m : MethodId} {below : List Frame} {meth : Method} {c : Code} {G : zG} {b L : Nat} {xs : Nat → Int32} {k18 : Int32 → zMem → Prop} (o : za_Ok room_1 537 6387 p s m #[Value.ref b] meth c G RL cL_law 4 (some .boolean)) (hs : zScr b L xs s G) (hk18 : ∀ (v1 : Int32) (μ : zMem), k18 v1 μ → za_At p l e room_1 s m #[Value.ref b] below meth c (lw_Z below #[Value.ref b] s) G 4 537 6387 18 [(0, .ref b), (1, .ref (G.2.2 + 0)), (2, .ref (G.2.2 + 529)), (3, .int v1)] [] μ) (v1 : Int32) (μ : zMem)  (hf : fL_law_237 L xs k18 v1 μ) : za_At p l e room_1 s m #[Value.ref b] below meth c (lw_Z below #[Value.ref b] s) G 4 537 6387 237 [(0, .ref b), (1, .ref (G.2.2 + 0)), (2, .ref (G.2.2 + 529)), (3, .int v1)] [] μ := by
  unfold fL_law_237 at hf
  refine za_aload_n o 1 dL_law_237 rfl rfl ?_
  refine za_aload_n o 0 dL_law_238 rfl rfl ?_
  refine za_iload_n o 3 dL_law_239 rfl rfl ?_
  refine za_iconst (v := (1 : Int32)) o dL_law_240 (by decide) ?_
  refine za_iadd o dL_law_241 ?_
  refine za_topi (fun x44 ex44 => ?_)
  replace hf := hf x44 ex44
  obtain ⟨g45, hf⟩ := hf
  refine za_sld o hs g45 dL_law_242 ?_
  refine za_topi (fun x46 ex46 => ?_)
  replace hf := hf x46 ex46
  refine za_aload_n o 0 dL_law_243 rfl rfl ?_
  refine za_iload_n o 3 dL_law_244 rfl rfl ?_
  refine za_iconst (v := (2 : Int32)) o dL_law_245 (by decide) ?_
  refine za_iadd o dL_law_246 ?_
  refine za_topi (fun x47 ex47 => ?_)
  replace hf := hf x47 ex47
  obtain ⟨g48, hf⟩ := hf
  refine za_sld o hs g48 dL_law_247 ?_
  refine za_topi (fun x49 ex49 => ?_)
  replace hf := hf x49 ex49
  refine za_callVi o [.int x46, .int x49] (ctX7_vouchers l G zk_c7 x46 x49  μ _ hf) zc7 zk_c7 mwX7_vouchers wmL_28 wiX7_vouchers wsX7_vouchers rfl ⟨Nat.le_of_ble_eq_true rfl, Nat.le_of_ble_eq_true rfl⟩ rfl (Nat.le_of_ble_eq_true rfl) dL_law_248 (fun r50 m51 hf => ?_)
  refine za_pop o dL_law_251 rfl ?_
  refine za_aload_n o 2 dL_law_252 rfl rfl ?_
  refine za_aload_n o 0 dL_law_253 rfl rfl ?_
  refine za_iload_n o 3 dL_law_254 rfl rfl ?_
  refine za_iconst (v := (1 : Int32)) o dL_law_255 (by decide) ?_
  refine za_iadd o dL_law_256 ?_
  refine za_topi (fun x52 ex52 => ?_)
  replace hf := hf x52 ex52
  obtain ⟨g53, hf⟩ := hf
  refine za_sld o hs g53 dL_law_257 ?_
  refine za_topi (fun x54 ex54 => ?_)
  replace hf := hf x54 ex54
  refine za_aload_n o 0 dL_law_258 rfl rfl ?_
  refine za_iload_n o 3 dL_law_259 rfl rfl ?_
  refine za_iconst (v := (2 : Int32)) o dL_law_260 (by decide) ?_
  refine za_iadd o dL_law_261 ?_
  refine za_topi (fun x55 ex55 => ?_)
  replace hf := hf x55 ex55
  obtain ⟨g56, hf⟩ := hf
  refine za_sld o hs g56 dL_law_262 ?_
  refine za_topi (fun x57 ex57 => ?_)
  replace hf := hf x57 ex57
  refine za_callVi o [.int x54, .int x57] (ctX8_vouchers l G zk_c8 x54 x57  m51 _ hf) zc8 zk_c8 mwX8_vouchers wmL_31 wiX8_vouchers wsX8_vouchers rfl ⟨Nat.le_of_ble_eq_true rfl, Nat.le_of_ble_eq_true rfl⟩ rfl (Nat.le_of_ble_eq_true rfl) dL_law_263 (fun r58 m59 hf => ?_)
  refine za_pop o dL_law_266 rfl ?_
  refine za_goto o 803 dL_law_267 (by decide) ?_
  exact tL_law_803 o hs  hk18 v1 m59  hf
set_option maxRecDepth 100000 in
set_option maxHeartbeats 4000000 in
theorem tL_law_270 {p : Program} {l : Launch} {e : Env} {s : State} {m : MethodId} {below : List Frame} {meth : Method} {c : Code} {G : zG} {b L : Nat} {xs : Nat → Int32} {k18 : Int32 → zMem → Prop} (o : za_Ok room_1 537 6387 p s m #[Value.ref b] meth c G RL cL_law 4 (some .boolean)) (hs : zScr b L xs s G) (hk18 : ∀ (v1 : Int32) (μ : zMem), k18 v1 μ → za_At p l e room_1 s m #[Value.ref b] below meth c (lw_Z below #[Value.ref b] s) G 4 537 6387 18 [(0, .ref b), (1, .ref (G.2.2 + 0)), (2, .ref (G.2.2 + 529)), (3, .int v1)] [] μ) (v1 : Int32) (μ : zMem)  (hf : fL_law_270 L xs k18 v1 μ) : za_At p l e room_1 s m #[Value.ref b] below meth c (lw_Z below #[Value.ref b] s) G 4 537 6387 270 [(0, .ref b), (1, .ref (G.2.2 + 0)), (2, .ref (G.2.2 + 529)), (3, .int v1)] [] μ := by
  unfold fL_law_270 at hf
  refine za_aload_n o 1 dL_law_270 rfl rfl ?_
  refine za_aload_n o 0 dL_law_271 rfl rfl ?_
  refine za_iload_n o 3 dL_law_272 rfl rfl ?_
  refine za_iconst (v := (1 : Int32)) o dL_law_273 (by decide) ?_
  refine za_iadd o dL_law_274 ?_
  refine za_topi (fun x60 ex60 => ?_)
  replace hf := hf x60 ex60
  obtain ⟨g61, hf⟩ := hf
  refine za_sld o hs g61 dL_law_275 ?_
  refine za_topi (fun x62 ex62 => ?_)
  replace hf := hf x62 ex62
  refine za_aload_n o 0 dL_law_276 rfl rfl ?_
  refine za_iload_n o 3 dL_law_277 rfl rfl ?_
  refine za_iconst (v := (2 : Int32)) o dL_law_278 (by decide) ?_
  refine za_iadd o dL_law_279 ?_
  refine za_topi (fun x63 ex63 => ?_)
  replace hf := hf x63 ex63
  obtain ⟨g64, hf⟩ := hf
  refine za_sld o hs g64 dL_law_280 ?_
  refine za_topi (fun x65 ex65 => ?_)
  replace hf := hf x65 ex65
  refine za_aload_n o 0 dL_law_281 rfl rfl ?_
  refine za_iload_n o 3 dL_law_282 rfl rfl ?_
  refine za_iconst (v := (3 : Int32)) o dL_law_283 (by decide) ?_
  refine za_iadd o dL_law_284 ?_
  refine za_topi (fun x66 ex66 => ?_)
  replace hf := hf x66 ex66
  obtain ⟨g67, hf⟩ := hf
  refine za_sld o hs g67 dL_law_285 ?_
  refine za_topi (fun x68 ex68 => ?_)
  replace hf := hf x68 ex68
  refine za_callVi o [.int x62, .int x65, .int x68] (ctX7_order l G zk_c7 x62 x65 x68  μ _ hf) zc7 zk_c7 mwX7_order wmL_32 wiX7_order wsX7_order rfl ⟨Nat.le_of_ble_eq_true rfl, Nat.le_of_ble_eq_true rfl⟩ rfl (Nat.le_of_ble_eq_true rfl) dL_law_286 (fun r69 m70 hf => ?_)
  refine za_pop o dL_law_289 rfl ?_
  refine za_aload_n o 2 dL_law_290 rfl rfl ?_
  refine za_aload_n o 0 dL_law_291 rfl rfl ?_
  refine za_iload_n o 3 dL_law_292 rfl rfl ?_
  refine za_iconst (v := (1 : Int32)) o dL_law_293 (by decide) ?_
  refine za_iadd o dL_law_294 ?_
  refine za_topi (fun x71 ex71 => ?_)
  replace hf := hf x71 ex71
  obtain ⟨g72, hf⟩ := hf
  refine za_sld o hs g72 dL_law_295 ?_
  refine za_topi (fun x73 ex73 => ?_)
  replace hf := hf x73 ex73
  refine za_aload_n o 0 dL_law_296 rfl rfl ?_
  refine za_iload_n o 3 dL_law_297 rfl rfl ?_
  refine za_iconst (v := (2 : Int32)) o dL_law_298 (by decide) ?_
  refine za_iadd o dL_law_299 ?_
  refine za_topi (fun x74 ex74 => ?_)
  replace hf := hf x74 ex74
  obtain ⟨g75, hf⟩ := hf
  refine za_sld o hs g75 dL_law_300 ?_
  refine za_topi (fun x76 ex76 => ?_)
  replace hf := hf x76 ex76
  refine za_aload_n o 0 dL_law_301 rfl rfl ?_
  refine za_iload_n o 3 dL_law_302 rfl rfl ?_
  refine za_iconst (v := (3 : Int32)) o dL_law_303 (by decide) ?_
  refine za_iadd o dL_law_304 ?_
  refine za_topi (fun x77 ex77 => ?_)
  replace hf := hf x77 ex77
  obtain ⟨g78, hf⟩ := hf
  refine za_sld o hs g78 dL_law_305 ?_
  refine za_topi (fun x79 ex79 => ?_)
  replace hf := hf x79 ex79
  refine za_callVi o [.int x73, .int x76, .int x79] (ctX8_order l G zk_c8 x73 x76 x79  m70 _ hf) zc8 zk_c8 mwX8_order wmL_35 wiX8_order wsX8_order rfl ⟨Nat.le_of_ble_eq_true rfl, Nat.le_of_ble_eq_true rfl⟩ rfl (Nat.le_of_ble_eq_true rfl) dL_law_306 (fun r80 m81 hf => ?_)
  refine za_pop o dL_law_309 rfl ?_
  refine za_goto o 803 dL_law_310 (by decide) ?_
  exact tL_law_803 o hs  hk18 v1 m81  hf
set_option maxRecDepth 100000 in
set_option maxHeartbeats 4000000 in
theorem tL_law_313 {p : Program} {l : Launch} {e : Env} {s : State} {m : MethodId} {below : List Frame} {meth : Method} {c : Code} {G : zG} {b L : Nat} {xs : Nat → Int32} {k18 : Int32 → zMem → Prop} (o : za_Ok room_1 537 6387 p s m #[Value.ref b] meth c G RL cL_law 4 (some .boolean)) (hs : zScr b L xs s G) (hk18 : ∀ (v1 : Int32) (μ : zMem), k18 v1 μ → za_At p l e room_1 s m #[Value.ref b] below meth c (lw_Z below #[Value.ref b] s) G 4 537 6387 18 [(0, .ref b), (1, .ref (G.2.2 + 0)), (2, .ref (G.2.2 + 529)), (3, .int v1)] [] μ) (v1 : Int32) (μ : zMem)  (hf : fL_law_313 L xs k18 v1 μ) : za_At p l e room_1 s m #[Value.ref b] below meth c (lw_Z below #[Value.ref b] s) G 4 537 6387 313 [(0, .ref b), (1, .ref (G.2.2 + 0)), (2, .ref (G.2.2 + 529)), (3, .int v1)] [] μ := by
  unfold fL_law_313 at hf
  refine za_aload_n o 1 dL_law_313 rfl rfl ?_
  refine za_aload_n o 0 dL_law_314 rfl rfl ?_
  refine za_iload_n o 3 dL_law_315 rfl rfl ?_
  refine za_iconst (v := (1 : Int32)) o dL_law_316 (by decide) ?_
  refine za_iadd o dL_law_317 ?_
  refine za_topi (fun x82 ex82 => ?_)
  replace hf := hf x82 ex82
  obtain ⟨g83, hf⟩ := hf
  refine za_sld o hs g83 dL_law_318 ?_
  refine za_topi (fun x84 ex84 => ?_)
  replace hf := hf x84 ex84
  refine za_aload_n o 0 dL_law_319 rfl rfl ?_
  refine za_iload_n o 3 dL_law_320 rfl rfl ?_
  refine za_iconst (v := (2 : Int32)) o dL_law_321 (by decide) ?_
  refine za_iadd o dL_law_322 ?_
  refine za_topi (fun x85 ex85 => ?_)
  replace hf := hf x85 ex85
  obtain ⟨g86, hf⟩ := hf
  refine za_sld o hs g86 dL_law_323 ?_
  refine za_topi (fun x87 ex87 => ?_)
  replace hf := hf x87 ex87
  refine za_callVi o [.int x84, .int x87] (ctX7_callOff l G zk_c7 x84 x87  μ _ hf) zc7 zk_c7 mwX7_callOff wmL_36 wiX7_callOff wsX7_callOff rfl ⟨Nat.le_of_ble_eq_true rfl, Nat.le_of_ble_eq_true rfl⟩ rfl (Nat.le_of_ble_eq_true rfl) dL_law_324 (fun r88 m89 hf => ?_)
  refine za_pop o dL_law_327 rfl ?_
  refine za_aload_n o 2 dL_law_328 rfl rfl ?_
  refine za_aload_n o 0 dL_law_329 rfl rfl ?_
  refine za_iload_n o 3 dL_law_330 rfl rfl ?_
  refine za_iconst (v := (1 : Int32)) o dL_law_331 (by decide) ?_
  refine za_iadd o dL_law_332 ?_
  refine za_topi (fun x90 ex90 => ?_)
  replace hf := hf x90 ex90
  obtain ⟨g91, hf⟩ := hf
  refine za_sld o hs g91 dL_law_333 ?_
  refine za_topi (fun x92 ex92 => ?_)
  replace hf := hf x92 ex92
  refine za_aload_n o 0 dL_law_334 rfl rfl ?_
  refine za_iload_n o 3 dL_law_335 rfl rfl ?_
  refine za_iconst (v := (2 : Int32)) o dL_law_336 (by decide) ?_
  refine za_iadd o dL_law_337 ?_
  refine za_topi (fun x93 ex93 => ?_)
  replace hf := hf x93 ex93
  obtain ⟨g94, hf⟩ := hf
  refine za_sld o hs g94 dL_law_338 ?_
  refine za_topi (fun x95 ex95 => ?_)
  replace hf := hf x95 ex95
  refine za_callVi o [.int x92, .int x95] (ctX8_callOff l G zk_c8 x92 x95  m89 _ hf) zc8 zk_c8 mwX8_callOff wmL_39 wiX8_callOff wsX8_callOff rfl ⟨Nat.le_of_ble_eq_true rfl, Nat.le_of_ble_eq_true rfl⟩ rfl (Nat.le_of_ble_eq_true rfl) dL_law_339 (fun r96 m97 hf => ?_)
  refine za_pop o dL_law_342 rfl ?_
  refine za_goto o 803 dL_law_343 (by decide) ?_
  exact tL_law_803 o hs  hk18 v1 m97  hf
set_option maxRecDepth 100000 in
set_option maxHeartbeats 4000000 in
theorem tL_law_346 {p : Program} {l : Launch} {e : Env} {s : State} {m : MethodId} {below : List Frame} {meth : Method} {c : Code} {G : zG} {b L : Nat} {xs : Nat → Int32} {k18 : Int32 → zMem → Prop} (o : za_Ok room_1 537 6387 p s m #[Value.ref b] meth c G RL cL_law 4 (some .boolean)) (hs : zScr b L xs s G) (hk18 : ∀ (v1 : Int32) (μ : zMem), k18 v1 μ → za_At p l e room_1 s m #[Value.ref b] below meth c (lw_Z below #[Value.ref b] s) G 4 537 6387 18 [(0, .ref b), (1, .ref (G.2.2 + 0)), (2, .ref (G.2.2 + 529)), (3, .int v1)] [] μ) (v1 : Int32) (μ : zMem)  (hf : fL_law_346 L xs k18 v1 μ) : za_At p l e room_1 s m #[Value.ref b] below meth c (lw_Z below #[Value.ref b] s) G 4 537 6387 346 [(0, .ref b), (1, .ref (G.2.2 + 0)), (2, .ref (G.2.2 + 529)), (3, .int v1)] [] μ := by
  unfold fL_law_346 at hf
  refine za_aload_n o 1 dL_law_346 rfl rfl ?_
  refine za_callVi o [] (ctX7_cook l G zk_c7   μ _ hf) zc7 zk_c7 mwX7_cook wmL_40 wiX7_cook wsX7_cook rfl ⟨Nat.le_of_ble_eq_true rfl, Nat.le_of_ble_eq_true rfl⟩ rfl (Nat.le_of_ble_eq_true rfl) dL_law_347 (fun r98 m99 hf => ?_)
  refine za_pop o dL_law_350 rfl ?_
  refine za_aload_n o 2 dL_law_351 rfl rfl ?_
  refine za_callVi o [] (ctX8_cook l G zk_c8   m99 _ hf) zc8 zk_c8 mwX8_cook wmL_43 wiX8_cook wsX8_cook rfl ⟨Nat.le_of_ble_eq_true rfl, Nat.le_of_ble_eq_true rfl⟩ rfl (Nat.le_of_ble_eq_true rfl) dL_law_352 (fun r100 m101 hf => ?_)
  refine za_pop o dL_law_355 rfl ?_
  refine za_goto o 803 dL_law_356 (by decide) ?_
  exact tL_law_803 o hs  hk18 v1 m101  hf
set_option maxRecDepth 100000 in
set_option maxHeartbeats 4000000 in
theorem tL_law_359 {p : Program} {l : Launch} {e : Env} {s : State} {m : MethodId} {below : List Frame} {meth : Method} {c : Code} {G : zG} {b L : Nat} {xs : Nat → Int32} {k18 : Int32 → zMem → Prop} (o : za_Ok room_1 537 6387 p s m #[Value.ref b] meth c G RL cL_law 4 (some .boolean)) (hs : zScr b L xs s G) (hk18 : ∀ (v1 : Int32) (μ : zMem), k18 v1 μ → za_At p l e room_1 s m #[Value.ref b] below meth c (lw_Z below #[Value.ref b] s) G 4 537 6387 18 [(0, .ref b), (1, .ref (G.2.2 + 0)), (2, .ref (G.2.2 + 529)), (3, .int v1)] [] μ) (v1 : Int32) (μ : zMem)  (hf : fL_law_359 L xs k18 v1 μ) : za_At p l e room_1 s m #[Value.ref b] below meth c (lw_Z below #[Value.ref b] s) G 4 537 6387 359 [(0, .ref b), (1, .ref (G.2.2 + 0)), (2, .ref (G.2.2 + 529)), (3, .int v1)] [] μ := by
  unfold fL_law_359 at hf
  refine za_aload_n o 1 dL_law_359 rfl rfl ?_
  refine za_aload_n o 0 dL_law_360 rfl rfl ?_
  refine za_iload_n o 3 dL_law_361 rfl rfl ?_
  refine za_iconst (v := (1 : Int32)) o dL_law_362 (by decide) ?_
  refine za_iadd o dL_law_363 ?_
  refine za_topi (fun x102 ex102 => ?_)
  replace hf := hf x102 ex102
  obtain ⟨g103, hf⟩ := hf
  refine za_sld o hs g103 dL_law_364 ?_
  refine za_topi (fun x104 ex104 => ?_)
  replace hf := hf x104 ex104
  refine za_callVi o [.int x104] (ctX7_come l G zk_c7 x104  μ _ hf) zc7 zk_c7 mwX7_come wmL_44 wiX7_come wsX7_come rfl ⟨Nat.le_of_ble_eq_true rfl, Nat.le_of_ble_eq_true rfl⟩ rfl (Nat.le_of_ble_eq_true rfl) dL_law_365 (fun r105 m106 hf => ?_)
  refine za_pop o dL_law_368 rfl ?_
  refine za_aload_n o 2 dL_law_369 rfl rfl ?_
  refine za_aload_n o 0 dL_law_370 rfl rfl ?_
  refine za_iload_n o 3 dL_law_371 rfl rfl ?_
  refine za_iconst (v := (1 : Int32)) o dL_law_372 (by decide) ?_
  refine za_iadd o dL_law_373 ?_
  refine za_topi (fun x107 ex107 => ?_)
  replace hf := hf x107 ex107
  obtain ⟨g108, hf⟩ := hf
  refine za_sld o hs g108 dL_law_374 ?_
  refine za_topi (fun x109 ex109 => ?_)
  replace hf := hf x109 ex109
  refine za_callVi o [.int x109] (ctX8_come l G zk_c8 x109  m106 _ hf) zc8 zk_c8 mwX8_come wmL_48 wiX8_come wsX8_come rfl ⟨Nat.le_of_ble_eq_true rfl, Nat.le_of_ble_eq_true rfl⟩ rfl (Nat.le_of_ble_eq_true rfl) dL_law_375 (fun r110 m111 hf => ?_)
  refine za_pop o dL_law_378 rfl ?_
  refine za_goto o 803 dL_law_379 (by decide) ?_
  exact tL_law_803 o hs  hk18 v1 m111  hf
set_option maxRecDepth 100000 in
set_option maxHeartbeats 4000000 in
theorem tL_law_382 {p : Program} {l : Launch} {e : Env} {s : State} {m : MethodId} {below : List Frame} {meth : Method} {c : Code} {G : zG} {b L : Nat} {xs : Nat → Int32} {k18 : Int32 → zMem → Prop} (o : za_Ok room_1 537 6387 p s m #[Value.ref b] meth c G RL cL_law 4 (some .boolean)) (hs : zScr b L xs s G) (hk18 : ∀ (v1 : Int32) (μ : zMem), k18 v1 μ → za_At p l e room_1 s m #[Value.ref b] below meth c (lw_Z below #[Value.ref b] s) G 4 537 6387 18 [(0, .ref b), (1, .ref (G.2.2 + 0)), (2, .ref (G.2.2 + 529)), (3, .int v1)] [] μ) (v1 : Int32) (μ : zMem)  (hf : fL_law_382 L xs k18 v1 μ) : za_At p l e room_1 s m #[Value.ref b] below meth c (lw_Z below #[Value.ref b] s) G 4 537 6387 382 [(0, .ref b), (1, .ref (G.2.2 + 0)), (2, .ref (G.2.2 + 529)), (3, .int v1)] [] μ := by
  unfold fL_law_382 at hf
  refine za_aload_n o 1 dL_law_382 rfl rfl ?_
  refine za_aload_n o 0 dL_law_383 rfl rfl ?_
  refine za_iload_n o 3 dL_law_384 rfl rfl ?_
  refine za_iconst (v := (1 : Int32)) o dL_law_385 (by decide) ?_
  refine za_iadd o dL_law_386 ?_
  refine za_topi (fun x112 ex112 => ?_)
  replace hf := hf x112 ex112
  obtain ⟨g113, hf⟩ := hf
  refine za_sld o hs g113 dL_law_387 ?_
  refine za_topi (fun x114 ex114 => ?_)
  replace hf := hf x114 ex114
  refine za_aload_n o 0 dL_law_388 rfl rfl ?_
  refine za_iload_n o 3 dL_law_389 rfl rfl ?_
  refine za_iconst (v := (2 : Int32)) o dL_law_390 (by decide) ?_
  refine za_iadd o dL_law_391 ?_
  refine za_topi (fun x115 ex115 => ?_)
  replace hf := hf x115 ex115
  obtain ⟨g116, hf⟩ := hf
  refine za_sld o hs g116 dL_law_392 ?_
  refine za_topi (fun x117 ex117 => ?_)
  replace hf := hf x117 ex117
  refine za_callVi o [.int x114, .int x117] (ctX7_buy l G zk_c7 x114 x117  μ _ hf) zc7 zk_c7 mwX7_buy wmL_49 wiX7_buy wsX7_buy rfl ⟨Nat.le_of_ble_eq_true rfl, Nat.le_of_ble_eq_true rfl⟩ rfl (Nat.le_of_ble_eq_true rfl) dL_law_393 (fun r118 m119 hf => ?_)
  refine za_pop o dL_law_396 rfl ?_
  refine za_aload_n o 2 dL_law_397 rfl rfl ?_
  refine za_aload_n o 0 dL_law_398 rfl rfl ?_
  refine za_iload_n o 3 dL_law_399 rfl rfl ?_
  refine za_iconst (v := (1 : Int32)) o dL_law_400 (by decide) ?_
  refine za_iadd o dL_law_401 ?_
  refine za_topi (fun x120 ex120 => ?_)
  replace hf := hf x120 ex120
  obtain ⟨g121, hf⟩ := hf
  refine za_sld o hs g121 dL_law_402 ?_
  refine za_topi (fun x122 ex122 => ?_)
  replace hf := hf x122 ex122
  refine za_aload_n o 0 dL_law_403 rfl rfl ?_
  refine za_iload_n o 3 dL_law_404 rfl rfl ?_
  refine za_iconst (v := (2 : Int32)) o dL_law_405 (by decide) ?_
  refine za_iadd o dL_law_406 ?_
  refine za_topi (fun x123 ex123 => ?_)
  replace hf := hf x123 ex123
  obtain ⟨g124, hf⟩ := hf
  refine za_sld o hs g124 dL_law_407 ?_
  refine za_topi (fun x125 ex125 => ?_)
  replace hf := hf x125 ex125
  refine za_callVi o [.int x122, .int x125] (ctX8_buy l G zk_c8 x122 x125  m119 _ hf) zc8 zk_c8 mwX8_buy wmL_52 wiX8_buy wsX8_buy rfl ⟨Nat.le_of_ble_eq_true rfl, Nat.le_of_ble_eq_true rfl⟩ rfl (Nat.le_of_ble_eq_true rfl) dL_law_408 (fun r126 m127 hf => ?_)
  refine za_pop o dL_law_411 rfl ?_
  refine za_goto o 803 dL_law_412 (by decide) ?_
  exact tL_law_803 o hs  hk18 v1 m127  hf
set_option maxRecDepth 100000 in
set_option maxHeartbeats 4000000 in
theorem tL_law_415 {p : Program} {l : Launch} {e : Env} {s : State} {m : MethodId} {below : List Frame} {meth : Method} {c : Code} {G : zG} {b L : Nat} {xs : Nat → Int32} {k18 : Int32 → zMem → Prop} (o : za_Ok room_1 537 6387 p s m #[Value.ref b] meth c G RL cL_law 4 (some .boolean)) (hs : zScr b L xs s G) (hk18 : ∀ (v1 : Int32) (μ : zMem), k18 v1 μ → za_At p l e room_1 s m #[Value.ref b] below meth c (lw_Z below #[Value.ref b] s) G 4 537 6387 18 [(0, .ref b), (1, .ref (G.2.2 + 0)), (2, .ref (G.2.2 + 529)), (3, .int v1)] [] μ) (v1 : Int32) (μ : zMem)  (hf : fL_law_415 L xs k18 v1 μ) : za_At p l e room_1 s m #[Value.ref b] below meth c (lw_Z below #[Value.ref b] s) G 4 537 6387 415 [(0, .ref b), (1, .ref (G.2.2 + 0)), (2, .ref (G.2.2 + 529)), (3, .int v1)] [] μ := by
  unfold fL_law_415 at hf
  refine za_aload_n o 1 dL_law_415 rfl rfl ?_
  refine za_callVi o [] (ctX7_close l G zk_c7   μ _ hf) zc7 zk_c7 mwX7_close wmL_53 wiX7_close wsX7_close rfl ⟨Nat.le_of_ble_eq_true rfl, Nat.le_of_ble_eq_true rfl⟩ rfl (Nat.le_of_ble_eq_true rfl) dL_law_416 (fun r128 m129 hf => ?_)
  refine za_pop o dL_law_419 rfl ?_
  refine za_aload_n o 2 dL_law_420 rfl rfl ?_
  refine za_callVi o [] (ctX8_close l G zk_c8   m129 _ hf) zc8 zk_c8 mwX8_close wmL_56 wiX8_close wsX8_close rfl ⟨Nat.le_of_ble_eq_true rfl, Nat.le_of_ble_eq_true rfl⟩ rfl (Nat.le_of_ble_eq_true rfl) dL_law_421 (fun r130 m131 hf => ?_)
  refine za_pop o dL_law_424 rfl ?_
  refine za_goto o 803 dL_law_425 (by decide) ?_
  exact tL_law_803 o hs  hk18 v1 m131  hf
set_option maxRecDepth 100000 in
set_option maxHeartbeats 4000000 in
theorem tL_law_428 {p : Program} {l : Launch} {e : Env} {s : State} {m : MethodId} {below : List Frame} {meth : Method} {c : Code} {G : zG} {b L : Nat} {xs : Nat → Int32} {k18 : Int32 → zMem → Prop} (o : za_Ok room_1 537 6387 p s m #[Value.ref b] meth c G RL cL_law 4 (some .boolean)) (hs : zScr b L xs s G) (hk18 : ∀ (v1 : Int32) (μ : zMem), k18 v1 μ → za_At p l e room_1 s m #[Value.ref b] below meth c (lw_Z below #[Value.ref b] s) G 4 537 6387 18 [(0, .ref b), (1, .ref (G.2.2 + 0)), (2, .ref (G.2.2 + 529)), (3, .int v1)] [] μ) (v1 : Int32) (μ : zMem)  (hf : fL_law_428 L xs k18 v1 μ) : za_At p l e room_1 s m #[Value.ref b] below meth c (lw_Z below #[Value.ref b] s) G 4 537 6387 428 [(0, .ref b), (1, .ref (G.2.2 + 0)), (2, .ref (G.2.2 + 529)), (3, .int v1)] [] μ := by
  unfold fL_law_428 at hf
  refine za_aload_n o 1 dL_law_428 rfl rfl ?_
  refine za_aload_n o 0 dL_law_429 rfl rfl ?_
  refine za_iload_n o 3 dL_law_430 rfl rfl ?_
  refine za_iconst (v := (1 : Int32)) o dL_law_431 (by decide) ?_
  refine za_iadd o dL_law_432 ?_
  refine za_topi (fun x132 ex132 => ?_)
  replace hf := hf x132 ex132
  obtain ⟨g133, hf⟩ := hf
  refine za_sld o hs g133 dL_law_433 ?_
  refine za_topi (fun x134 ex134 => ?_)
  replace hf := hf x134 ex134
  refine za_aload_n o 0 dL_law_434 rfl rfl ?_
  refine za_iload_n o 3 dL_law_435 rfl rfl ?_
  refine za_iconst (v := (2 : Int32)) o dL_law_436 (by decide) ?_
  refine za_iadd o dL_law_437 ?_
  refine za_topi (fun x135 ex135 => ?_)
  replace hf := hf x135 ex135
  obtain ⟨g136, hf⟩ := hf
  refine za_sld o hs g136 dL_law_438 ?_
  refine za_topi (fun x137 ex137 => ?_)
  replace hf := hf x137 ex137
  refine za_callVi o [.int x134, .int x137] (ctX7_of l G zk_c7 x134 x137  μ _ hf) zc7 zk_c7 mwX7_of wmL_57 wiX7_of wsX7_of rfl ⟨Nat.le_of_ble_eq_true rfl, Nat.le_of_ble_eq_true rfl⟩ rfl (Nat.le_of_ble_eq_true rfl) dL_law_439 (fun r138 m139 hf => ?_)
  refine za_pop o dL_law_442 rfl ?_
  refine za_aload_n o 2 dL_law_443 rfl rfl ?_
  refine za_aload_n o 0 dL_law_444 rfl rfl ?_
  refine za_iload_n o 3 dL_law_445 rfl rfl ?_
  refine za_iconst (v := (1 : Int32)) o dL_law_446 (by decide) ?_
  refine za_iadd o dL_law_447 ?_
  refine za_topi (fun x140 ex140 => ?_)
  replace hf := hf x140 ex140
  obtain ⟨g141, hf⟩ := hf
  refine za_sld o hs g141 dL_law_448 ?_
  refine za_topi (fun x142 ex142 => ?_)
  replace hf := hf x142 ex142
  refine za_aload_n o 0 dL_law_449 rfl rfl ?_
  refine za_iload_n o 3 dL_law_450 rfl rfl ?_
  refine za_iconst (v := (2 : Int32)) o dL_law_451 (by decide) ?_
  refine za_iadd o dL_law_452 ?_
  refine za_topi (fun x143 ex143 => ?_)
  replace hf := hf x143 ex143
  obtain ⟨g144, hf⟩ := hf
  refine za_sld o hs g144 dL_law_453 ?_
  refine za_topi (fun x145 ex145 => ?_)
  replace hf := hf x145 ex145
  refine za_callVi o [.int x142, .int x145] (ctX8_of l G zk_c8 x142 x145  m139 _ hf) zc8 zk_c8 mwX8_of wmL_60 wiX8_of wsX8_of rfl ⟨Nat.le_of_ble_eq_true rfl, Nat.le_of_ble_eq_true rfl⟩ rfl (Nat.le_of_ble_eq_true rfl) dL_law_454 (fun r146 m147 hf => ?_)
  refine za_pop o dL_law_457 rfl ?_
  refine za_goto o 803 dL_law_458 (by decide) ?_
  exact tL_law_803 o hs  hk18 v1 m147  hf
set_option maxRecDepth 100000 in
set_option maxHeartbeats 4000000 in
theorem tL_law_461 {p : Program} {l : Launch} {e : Env} {s : State} {m : MethodId} {below : List Frame} {meth : Method} {c : Code} {G : zG} {b L : Nat} {xs : Nat → Int32} {k18 : Int32 → zMem → Prop} (o : za_Ok room_1 537 6387 p s m #[Value.ref b] meth c G RL cL_law 4 (some .boolean)) (hs : zScr b L xs s G) (hk18 : ∀ (v1 : Int32) (μ : zMem), k18 v1 μ → za_At p l e room_1 s m #[Value.ref b] below meth c (lw_Z below #[Value.ref b] s) G 4 537 6387 18 [(0, .ref b), (1, .ref (G.2.2 + 0)), (2, .ref (G.2.2 + 529)), (3, .int v1)] [] μ) (v1 : Int32) (μ : zMem)  (hf : fL_law_461 L xs k18 v1 μ) : za_At p l e room_1 s m #[Value.ref b] below meth c (lw_Z below #[Value.ref b] s) G 4 537 6387 461 [(0, .ref b), (1, .ref (G.2.2 + 0)), (2, .ref (G.2.2 + 529)), (3, .int v1)] [] μ := by
  unfold fL_law_461 at hf
  refine za_aload_n o 1 dL_law_461 rfl rfl ?_
  refine za_aload_n o 0 dL_law_462 rfl rfl ?_
  refine za_iload_n o 3 dL_law_463 rfl rfl ?_
  refine za_iconst (v := (1 : Int32)) o dL_law_464 (by decide) ?_
  refine za_iadd o dL_law_465 ?_
  refine za_topi (fun x148 ex148 => ?_)
  replace hf := hf x148 ex148
  obtain ⟨g149, hf⟩ := hf
  refine za_sld o hs g149 dL_law_466 ?_
  refine za_topi (fun x150 ex150 => ?_)
  replace hf := hf x150 ex150
  refine za_aload_n o 0 dL_law_467 rfl rfl ?_
  refine za_iload_n o 3 dL_law_468 rfl rfl ?_
  refine za_iconst (v := (2 : Int32)) o dL_law_469 (by decide) ?_
  refine za_iadd o dL_law_470 ?_
  refine za_topi (fun x151 ex151 => ?_)
  replace hf := hf x151 ex151
  obtain ⟨g152, hf⟩ := hf
  refine za_sld o hs g152 dL_law_471 ?_
  refine za_topi (fun x153 ex153 => ?_)
  replace hf := hf x153 ex153
  refine za_callVi o [.int x150, .int x153] (ctX7_ofDish l G zk_c7 x150 x153  μ _ hf) zc7 zk_c7 mwX7_ofDish wmL_61 wiX7_ofDish wsX7_ofDish rfl ⟨Nat.le_of_ble_eq_true rfl, Nat.le_of_ble_eq_true rfl⟩ rfl (Nat.le_of_ble_eq_true rfl) dL_law_472 (fun r154 m155 hf => ?_)
  refine za_pop o dL_law_475 rfl ?_
  refine za_aload_n o 2 dL_law_476 rfl rfl ?_
  refine za_aload_n o 0 dL_law_477 rfl rfl ?_
  refine za_iload_n o 3 dL_law_478 rfl rfl ?_
  refine za_iconst (v := (1 : Int32)) o dL_law_479 (by decide) ?_
  refine za_iadd o dL_law_480 ?_
  refine za_topi (fun x156 ex156 => ?_)
  replace hf := hf x156 ex156
  obtain ⟨g157, hf⟩ := hf
  refine za_sld o hs g157 dL_law_481 ?_
  refine za_topi (fun x158 ex158 => ?_)
  replace hf := hf x158 ex158
  refine za_aload_n o 0 dL_law_482 rfl rfl ?_
  refine za_iload_n o 3 dL_law_483 rfl rfl ?_
  refine za_iconst (v := (2 : Int32)) o dL_law_484 (by decide) ?_
  refine za_iadd o dL_law_485 ?_
  refine za_topi (fun x159 ex159 => ?_)
  replace hf := hf x159 ex159
  obtain ⟨g160, hf⟩ := hf
  refine za_sld o hs g160 dL_law_486 ?_
  refine za_topi (fun x161 ex161 => ?_)
  replace hf := hf x161 ex161
  refine za_callVi o [.int x158, .int x161] (ctX8_ofDish l G zk_c8 x158 x161  m155 _ hf) zc8 zk_c8 mwX8_ofDish wmL_64 wiX8_ofDish wsX8_ofDish rfl ⟨Nat.le_of_ble_eq_true rfl, Nat.le_of_ble_eq_true rfl⟩ rfl (Nat.le_of_ble_eq_true rfl) dL_law_487 (fun r162 m163 hf => ?_)
  refine za_pop o dL_law_490 rfl ?_
  refine za_goto o 803 dL_law_491 (by decide) ?_
  exact tL_law_803 o hs  hk18 v1 m163  hf
set_option maxRecDepth 100000 in
set_option maxHeartbeats 4000000 in
theorem tL_law_494 {p : Program} {l : Launch} {e : Env} {s : State} {m : MethodId} {below : List Frame} {meth : Method} {c : Code} {G : zG} {b L : Nat} {xs : Nat → Int32} {k18 : Int32 → zMem → Prop} (o : za_Ok room_1 537 6387 p s m #[Value.ref b] meth c G RL cL_law 4 (some .boolean)) (hs : zScr b L xs s G) (hk18 : ∀ (v1 : Int32) (μ : zMem), k18 v1 μ → za_At p l e room_1 s m #[Value.ref b] below meth c (lw_Z below #[Value.ref b] s) G 4 537 6387 18 [(0, .ref b), (1, .ref (G.2.2 + 0)), (2, .ref (G.2.2 + 529)), (3, .int v1)] [] μ) (v1 : Int32) (μ : zMem)  (hf : fL_law_494 L xs k18 v1 μ) : za_At p l e room_1 s m #[Value.ref b] below meth c (lw_Z below #[Value.ref b] s) G 4 537 6387 494 [(0, .ref b), (1, .ref (G.2.2 + 0)), (2, .ref (G.2.2 + 529)), (3, .int v1)] [] μ := by
  unfold fL_law_494 at hf
  refine za_aload_n o 1 dL_law_494 rfl rfl ?_
  refine za_aload_n o 0 dL_law_495 rfl rfl ?_
  refine za_iload_n o 3 dL_law_496 rfl rfl ?_
  refine za_iconst (v := (1 : Int32)) o dL_law_497 (by decide) ?_
  refine za_iadd o dL_law_498 ?_
  refine za_topi (fun x164 ex164 => ?_)
  replace hf := hf x164 ex164
  obtain ⟨g165, hf⟩ := hf
  refine za_sld o hs g165 dL_law_499 ?_
  refine za_topi (fun x166 ex166 => ?_)
  replace hf := hf x166 ex166
  refine za_aload_n o 0 dL_law_500 rfl rfl ?_
  refine za_iload_n o 3 dL_law_501 rfl rfl ?_
  refine za_iconst (v := (2 : Int32)) o dL_law_502 (by decide) ?_
  refine za_iadd o dL_law_503 ?_
  refine za_topi (fun x167 ex167 => ?_)
  replace hf := hf x167 ex167
  obtain ⟨g168, hf⟩ := hf
  refine za_sld o hs g168 dL_law_504 ?_
  refine za_topi (fun x169 ex169 => ?_)
  replace hf := hf x169 ex169
  refine za_callVi o [.int x166, .int x169] (ctX7_ordered l G zk_c7 x166 x169  μ _ hf) zc7 zk_c7 mwX7_ordered wmL_65 wiX7_ordered wsX7_ordered rfl ⟨Nat.le_of_ble_eq_true rfl, Nat.le_of_ble_eq_true rfl⟩ rfl (Nat.le_of_ble_eq_true rfl) dL_law_505 (fun r170 m171 hf => ?_)
  refine za_pop o dL_law_508 rfl ?_
  refine za_aload_n o 2 dL_law_509 rfl rfl ?_
  refine za_aload_n o 0 dL_law_510 rfl rfl ?_
  refine za_iload_n o 3 dL_law_511 rfl rfl ?_
  refine za_iconst (v := (1 : Int32)) o dL_law_512 (by decide) ?_
  refine za_iadd o dL_law_513 ?_
  refine za_topi (fun x172 ex172 => ?_)
  replace hf := hf x172 ex172
  obtain ⟨g173, hf⟩ := hf
  refine za_sld o hs g173 dL_law_514 ?_
  refine za_topi (fun x174 ex174 => ?_)
  replace hf := hf x174 ex174
  refine za_aload_n o 0 dL_law_515 rfl rfl ?_
  refine za_iload_n o 3 dL_law_516 rfl rfl ?_
  refine za_iconst (v := (2 : Int32)) o dL_law_517 (by decide) ?_
  refine za_iadd o dL_law_518 ?_
  refine za_topi (fun x175 ex175 => ?_)
  replace hf := hf x175 ex175
  obtain ⟨g176, hf⟩ := hf
  refine za_sld o hs g176 dL_law_519 ?_
  refine za_topi (fun x177 ex177 => ?_)
  replace hf := hf x177 ex177
  refine za_callVi o [.int x174, .int x177] (ctX8_ordered l G zk_c8 x174 x177  m171 _ hf) zc8 zk_c8 mwX8_ordered wmL_68 wiX8_ordered wsX8_ordered rfl ⟨Nat.le_of_ble_eq_true rfl, Nat.le_of_ble_eq_true rfl⟩ rfl (Nat.le_of_ble_eq_true rfl) dL_law_520 (fun r178 m179 hf => ?_)
  refine za_pop o dL_law_523 rfl ?_
  refine za_goto o 803 dL_law_524 (by decide) ?_
  exact tL_law_803 o hs  hk18 v1 m179  hf
set_option maxRecDepth 100000 in
set_option maxHeartbeats 4000000 in
theorem tL_law_527 {p : Program} {l : Launch} {e : Env} {s : State} {m : MethodId} {below : List Frame} {meth : Method} {c : Code} {G : zG} {b L : Nat} {xs : Nat → Int32} {k18 : Int32 → zMem → Prop} (o : za_Ok room_1 537 6387 p s m #[Value.ref b] meth c G RL cL_law 4 (some .boolean)) (hs : zScr b L xs s G) (hk18 : ∀ (v1 : Int32) (μ : zMem), k18 v1 μ → za_At p l e room_1 s m #[Value.ref b] below meth c (lw_Z below #[Value.ref b] s) G 4 537 6387 18 [(0, .ref b), (1, .ref (G.2.2 + 0)), (2, .ref (G.2.2 + 529)), (3, .int v1)] [] μ) (v1 : Int32) (μ : zMem)  (hf : fL_law_527 L xs k18 v1 μ) : za_At p l e room_1 s m #[Value.ref b] below meth c (lw_Z below #[Value.ref b] s) G 4 537 6387 527 [(0, .ref b), (1, .ref (G.2.2 + 0)), (2, .ref (G.2.2 + 529)), (3, .int v1)] [] μ := by
  unfold fL_law_527 at hf
  refine za_aload_n o 1 dL_law_527 rfl rfl ?_
  refine za_aload_n o 0 dL_law_528 rfl rfl ?_
  refine za_iload_n o 3 dL_law_529 rfl rfl ?_
  refine za_iconst (v := (1 : Int32)) o dL_law_530 (by decide) ?_
  refine za_iadd o dL_law_531 ?_
  refine za_topi (fun x180 ex180 => ?_)
  replace hf := hf x180 ex180
  obtain ⟨g181, hf⟩ := hf
  refine za_sld o hs g181 dL_law_532 ?_
  refine za_topi (fun x182 ex182 => ?_)
  replace hf := hf x182 ex182
  refine za_callVi o [.int x182] (ctX7_count l G zk_c7 x182  μ _ hf) zc7 zk_c7 mwX7_count wmL_69 wiX7_count wsX7_count rfl ⟨Nat.le_of_ble_eq_true rfl, Nat.le_of_ble_eq_true rfl⟩ rfl (Nat.le_of_ble_eq_true rfl) dL_law_533 (fun r183 m184 hf => ?_)
  refine za_pop o dL_law_536 rfl ?_
  refine za_aload_n o 2 dL_law_537 rfl rfl ?_
  refine za_aload_n o 0 dL_law_538 rfl rfl ?_
  refine za_iload_n o 3 dL_law_539 rfl rfl ?_
  refine za_iconst (v := (1 : Int32)) o dL_law_540 (by decide) ?_
  refine za_iadd o dL_law_541 ?_
  refine za_topi (fun x185 ex185 => ?_)
  replace hf := hf x185 ex185
  obtain ⟨g186, hf⟩ := hf
  refine za_sld o hs g186 dL_law_542 ?_
  refine za_topi (fun x187 ex187 => ?_)
  replace hf := hf x187 ex187
  refine za_callVi o [.int x187] (ctX8_count l G zk_c8 x187  m184 _ hf) zc8 zk_c8 mwX8_count wmL_72 wiX8_count wsX8_count rfl ⟨Nat.le_of_ble_eq_true rfl, Nat.le_of_ble_eq_true rfl⟩ rfl (Nat.le_of_ble_eq_true rfl) dL_law_543 (fun r188 m189 hf => ?_)
  refine za_pop o dL_law_546 rfl ?_
  refine za_goto o 803 dL_law_547 (by decide) ?_
  exact tL_law_803 o hs  hk18 v1 m189  hf
set_option maxRecDepth 100000 in
set_option maxHeartbeats 4000000 in
theorem tL_law_550 {p : Program} {l : Launch} {e : Env} {s : State} {m : MethodId} {below : List Frame} {meth : Method} {c : Code} {G : zG} {b L : Nat} {xs : Nat → Int32} {k18 : Int32 → zMem → Prop} (o : za_Ok room_1 537 6387 p s m #[Value.ref b] meth c G RL cL_law 4 (some .boolean)) (hs : zScr b L xs s G) (hk18 : ∀ (v1 : Int32) (μ : zMem), k18 v1 μ → za_At p l e room_1 s m #[Value.ref b] below meth c (lw_Z below #[Value.ref b] s) G 4 537 6387 18 [(0, .ref b), (1, .ref (G.2.2 + 0)), (2, .ref (G.2.2 + 529)), (3, .int v1)] [] μ) (v1 : Int32) (μ : zMem)  (hf : fL_law_550 L xs k18 v1 μ) : za_At p l e room_1 s m #[Value.ref b] below meth c (lw_Z below #[Value.ref b] s) G 4 537 6387 550 [(0, .ref b), (1, .ref (G.2.2 + 0)), (2, .ref (G.2.2 + 529)), (3, .int v1)] [] μ := by
  unfold fL_law_550 at hf
  refine za_aload_n o 1 dL_law_550 rfl rfl ?_
  refine za_aload_n o 0 dL_law_551 rfl rfl ?_
  refine za_iload_n o 3 dL_law_552 rfl rfl ?_
  refine za_iconst (v := (1 : Int32)) o dL_law_553 (by decide) ?_
  refine za_iadd o dL_law_554 ?_
  refine za_topi (fun x190 ex190 => ?_)
  replace hf := hf x190 ex190
  obtain ⟨g191, hf⟩ := hf
  refine za_sld o hs g191 dL_law_555 ?_
  refine za_topi (fun x192 ex192 => ?_)
  replace hf := hf x192 ex192
  refine za_aload_n o 0 dL_law_556 rfl rfl ?_
  refine za_iload_n o 3 dL_law_557 rfl rfl ?_
  refine za_iconst (v := (2 : Int32)) o dL_law_558 (by decide) ?_
  refine za_iadd o dL_law_559 ?_
  refine za_topi (fun x193 ex193 => ?_)
  replace hf := hf x193 ex193
  obtain ⟨g194, hf⟩ := hf
  refine za_sld o hs g194 dL_law_560 ?_
  refine za_topi (fun x195 ex195 => ?_)
  replace hf := hf x195 ex195
  refine za_aload_n o 0 dL_law_561 rfl rfl ?_
  refine za_iload_n o 3 dL_law_562 rfl rfl ?_
  refine za_iconst (v := (3 : Int32)) o dL_law_563 (by decide) ?_
  refine za_iadd o dL_law_564 ?_
  refine za_topi (fun x196 ex196 => ?_)
  replace hf := hf x196 ex196
  obtain ⟨g197, hf⟩ := hf
  refine za_sld o hs g197 dL_law_565 ?_
  refine za_topi (fun x198 ex198 => ?_)
  replace hf := hf x198 ex198
  refine za_callVi o [.int x192, .int x195, .int x198] (ctX7_why l G zk_c7 x192 x195 x198  μ _ hf) zc7 zk_c7 mwX7_why wmL_73 wiX7_why wsX7_why rfl ⟨Nat.le_of_ble_eq_true rfl, Nat.le_of_ble_eq_true rfl⟩ rfl (Nat.le_of_ble_eq_true rfl) dL_law_566 (fun r199 m200 hf => ?_)
  refine za_pop o dL_law_569 rfl ?_
  refine za_aload_n o 2 dL_law_570 rfl rfl ?_
  refine za_aload_n o 0 dL_law_571 rfl rfl ?_
  refine za_iload_n o 3 dL_law_572 rfl rfl ?_
  refine za_iconst (v := (1 : Int32)) o dL_law_573 (by decide) ?_
  refine za_iadd o dL_law_574 ?_
  refine za_topi (fun x201 ex201 => ?_)
  replace hf := hf x201 ex201
  obtain ⟨g202, hf⟩ := hf
  refine za_sld o hs g202 dL_law_575 ?_
  refine za_topi (fun x203 ex203 => ?_)
  replace hf := hf x203 ex203
  refine za_aload_n o 0 dL_law_576 rfl rfl ?_
  refine za_iload_n o 3 dL_law_577 rfl rfl ?_
  refine za_iconst (v := (2 : Int32)) o dL_law_578 (by decide) ?_
  refine za_iadd o dL_law_579 ?_
  refine za_topi (fun x204 ex204 => ?_)
  replace hf := hf x204 ex204
  obtain ⟨g205, hf⟩ := hf
  refine za_sld o hs g205 dL_law_580 ?_
  refine za_topi (fun x206 ex206 => ?_)
  replace hf := hf x206 ex206
  refine za_aload_n o 0 dL_law_581 rfl rfl ?_
  refine za_iload_n o 3 dL_law_582 rfl rfl ?_
  refine za_iconst (v := (3 : Int32)) o dL_law_583 (by decide) ?_
  refine za_iadd o dL_law_584 ?_
  refine za_topi (fun x207 ex207 => ?_)
  replace hf := hf x207 ex207
  obtain ⟨g208, hf⟩ := hf
  refine za_sld o hs g208 dL_law_585 ?_
  refine za_topi (fun x209 ex209 => ?_)
  replace hf := hf x209 ex209
  refine za_callVi o [.int x203, .int x206, .int x209] (ctX8_why l G zk_c8 x203 x206 x209  m200 _ hf) zc8 zk_c8 mwX8_why wmL_76 wiX8_why wsX8_why rfl ⟨Nat.le_of_ble_eq_true rfl, Nat.le_of_ble_eq_true rfl⟩ rfl (Nat.le_of_ble_eq_true rfl) dL_law_586 (fun r210 m211 hf => ?_)
  refine za_pop o dL_law_589 rfl ?_
  refine za_goto o 803 dL_law_590 (by decide) ?_
  exact tL_law_803 o hs  hk18 v1 m211  hf
set_option maxRecDepth 100000 in
set_option maxHeartbeats 4000000 in
theorem tL_law_593 {p : Program} {l : Launch} {e : Env} {s : State} {m : MethodId} {below : List Frame} {meth : Method} {c : Code} {G : zG} {b L : Nat} {xs : Nat → Int32} {k18 : Int32 → zMem → Prop} (o : za_Ok room_1 537 6387 p s m #[Value.ref b] meth c G RL cL_law 4 (some .boolean)) (hs : zScr b L xs s G) (hk18 : ∀ (v1 : Int32) (μ : zMem), k18 v1 μ → za_At p l e room_1 s m #[Value.ref b] below meth c (lw_Z below #[Value.ref b] s) G 4 537 6387 18 [(0, .ref b), (1, .ref (G.2.2 + 0)), (2, .ref (G.2.2 + 529)), (3, .int v1)] [] μ) (v1 : Int32) (μ : zMem)  (hf : fL_law_593 L xs k18 v1 μ) : za_At p l e room_1 s m #[Value.ref b] below meth c (lw_Z below #[Value.ref b] s) G 4 537 6387 593 [(0, .ref b), (1, .ref (G.2.2 + 0)), (2, .ref (G.2.2 + 529)), (3, .int v1)] [] μ := by
  unfold fL_law_593 at hf
  refine za_aload_n o 1 dL_law_593 rfl rfl ?_
  refine za_aload_n o 0 dL_law_594 rfl rfl ?_
  refine za_iload_n o 3 dL_law_595 rfl rfl ?_
  refine za_iconst (v := (1 : Int32)) o dL_law_596 (by decide) ?_
  refine za_iadd o dL_law_597 ?_
  refine za_topi (fun x212 ex212 => ?_)
  replace hf := hf x212 ex212
  obtain ⟨g213, hf⟩ := hf
  refine za_sld o hs g213 dL_law_598 ?_
  refine za_topi (fun x214 ex214 => ?_)
  replace hf := hf x214 ex214
  refine za_callVi o [.int x214] (ctX7_unsurest l G zk_c7 x214  μ _ hf) zc7 zk_c7 mwX7_unsurest wmL_77 wiX7_unsurest wsX7_unsurest rfl ⟨Nat.le_of_ble_eq_true rfl, Nat.le_of_ble_eq_true rfl⟩ rfl (Nat.le_of_ble_eq_true rfl) dL_law_599 (fun r215 m216 hf => ?_)
  refine za_pop o dL_law_602 rfl ?_
  refine za_aload_n o 2 dL_law_603 rfl rfl ?_
  refine za_aload_n o 0 dL_law_604 rfl rfl ?_
  refine za_iload_n o 3 dL_law_605 rfl rfl ?_
  refine za_iconst (v := (1 : Int32)) o dL_law_606 (by decide) ?_
  refine za_iadd o dL_law_607 ?_
  refine za_topi (fun x217 ex217 => ?_)
  replace hf := hf x217 ex217
  obtain ⟨g218, hf⟩ := hf
  refine za_sld o hs g218 dL_law_608 ?_
  refine za_topi (fun x219 ex219 => ?_)
  replace hf := hf x219 ex219
  refine za_callVi o [.int x219] (ctX8_unsurest l G zk_c8 x219  m216 _ hf) zc8 zk_c8 mwX8_unsurest wmL_80 wiX8_unsurest wsX8_unsurest rfl ⟨Nat.le_of_ble_eq_true rfl, Nat.le_of_ble_eq_true rfl⟩ rfl (Nat.le_of_ble_eq_true rfl) dL_law_609 (fun r220 m221 hf => ?_)
  refine za_pop o dL_law_612 rfl ?_
  refine za_goto o 803 dL_law_613 (by decide) ?_
  exact tL_law_803 o hs  hk18 v1 m221  hf
set_option maxRecDepth 100000 in
set_option maxHeartbeats 4000000 in
theorem tL_law_616 {p : Program} {l : Launch} {e : Env} {s : State} {m : MethodId} {below : List Frame} {meth : Method} {c : Code} {G : zG} {b L : Nat} {xs : Nat → Int32} {k18 : Int32 → zMem → Prop} (o : za_Ok room_1 537 6387 p s m #[Value.ref b] meth c G RL cL_law 4 (some .boolean)) (hs : zScr b L xs s G) (hk18 : ∀ (v1 : Int32) (μ : zMem), k18 v1 μ → za_At p l e room_1 s m #[Value.ref b] below meth c (lw_Z below #[Value.ref b] s) G 4 537 6387 18 [(0, .ref b), (1, .ref (G.2.2 + 0)), (2, .ref (G.2.2 + 529)), (3, .int v1)] [] μ) (v1 : Int32) (μ : zMem)  (hf : fL_law_616 L xs k18 v1 μ) : za_At p l e room_1 s m #[Value.ref b] below meth c (lw_Z below #[Value.ref b] s) G 4 537 6387 616 [(0, .ref b), (1, .ref (G.2.2 + 0)), (2, .ref (G.2.2 + 529)), (3, .int v1)] [] μ := by
  unfold fL_law_616 at hf
  refine za_aload_n o 1 dL_law_616 rfl rfl ?_
  refine za_aload_n o 0 dL_law_617 rfl rfl ?_
  refine za_iload_n o 3 dL_law_618 rfl rfl ?_
  refine za_iconst (v := (1 : Int32)) o dL_law_619 (by decide) ?_
  refine za_iadd o dL_law_620 ?_
  refine za_topi (fun x222 ex222 => ?_)
  replace hf := hf x222 ex222
  obtain ⟨g223, hf⟩ := hf
  refine za_sld o hs g223 dL_law_621 ?_
  refine za_topi (fun x224 ex224 => ?_)
  replace hf := hf x224 ex224
  refine za_callVi o [.int x224] (ctX7_firstOrder l G zk_c7 x224  μ _ hf) zc7 zk_c7 mwX7_firstOrder wmL_81 wiX7_firstOrder wsX7_firstOrder rfl ⟨Nat.le_of_ble_eq_true rfl, Nat.le_of_ble_eq_true rfl⟩ rfl (Nat.le_of_ble_eq_true rfl) dL_law_622 (fun r225 m226 hf => ?_)
  refine za_pop o dL_law_625 rfl ?_
  refine za_aload_n o 2 dL_law_626 rfl rfl ?_
  refine za_aload_n o 0 dL_law_627 rfl rfl ?_
  refine za_iload_n o 3 dL_law_628 rfl rfl ?_
  refine za_iconst (v := (1 : Int32)) o dL_law_629 (by decide) ?_
  refine za_iadd o dL_law_630 ?_
  refine za_topi (fun x227 ex227 => ?_)
  replace hf := hf x227 ex227
  obtain ⟨g228, hf⟩ := hf
  refine za_sld o hs g228 dL_law_631 ?_
  refine za_topi (fun x229 ex229 => ?_)
  replace hf := hf x229 ex229
  refine za_callVi o [.int x229] (ctX8_firstOrder l G zk_c8 x229  m226 _ hf) zc8 zk_c8 mwX8_firstOrder wmL_84 wiX8_firstOrder wsX8_firstOrder rfl ⟨Nat.le_of_ble_eq_true rfl, Nat.le_of_ble_eq_true rfl⟩ rfl (Nat.le_of_ble_eq_true rfl) dL_law_632 (fun r230 m231 hf => ?_)
  refine za_pop o dL_law_635 rfl ?_
  refine za_goto o 803 dL_law_636 (by decide) ?_
  exact tL_law_803 o hs  hk18 v1 m231  hf
set_option maxRecDepth 100000 in
set_option maxHeartbeats 4000000 in
theorem tL_law_639 {p : Program} {l : Launch} {e : Env} {s : State} {m : MethodId} {below : List Frame} {meth : Method} {c : Code} {G : zG} {b L : Nat} {xs : Nat → Int32} {k18 : Int32 → zMem → Prop} (o : za_Ok room_1 537 6387 p s m #[Value.ref b] meth c G RL cL_law 4 (some .boolean)) (hs : zScr b L xs s G) (hk18 : ∀ (v1 : Int32) (μ : zMem), k18 v1 μ → za_At p l e room_1 s m #[Value.ref b] below meth c (lw_Z below #[Value.ref b] s) G 4 537 6387 18 [(0, .ref b), (1, .ref (G.2.2 + 0)), (2, .ref (G.2.2 + 529)), (3, .int v1)] [] μ) (v1 : Int32) (μ : zMem)  (hf : fL_law_639 L xs k18 v1 μ) : za_At p l e room_1 s m #[Value.ref b] below meth c (lw_Z below #[Value.ref b] s) G 4 537 6387 639 [(0, .ref b), (1, .ref (G.2.2 + 0)), (2, .ref (G.2.2 + 529)), (3, .int v1)] [] μ := by
  unfold fL_law_639 at hf
  refine za_aload_n o 1 dL_law_639 rfl rfl ?_
  refine za_callVi o [] (ctX7_wasted l G zk_c7   μ _ hf) zc7 zk_c7 mwX7_wasted wmL_85 wiX7_wasted wsX7_wasted rfl ⟨Nat.le_of_ble_eq_true rfl, Nat.le_of_ble_eq_true rfl⟩ rfl (Nat.le_of_ble_eq_true rfl) dL_law_640 (fun r232 m233 hf => ?_)
  refine za_pop o dL_law_643 rfl ?_
  refine za_aload_n o 2 dL_law_644 rfl rfl ?_
  refine za_callVi o [] (ctX8_wasted l G zk_c8   m233 _ hf) zc8 zk_c8 mwX8_wasted wmL_88 wiX8_wasted wsX8_wasted rfl ⟨Nat.le_of_ble_eq_true rfl, Nat.le_of_ble_eq_true rfl⟩ rfl (Nat.le_of_ble_eq_true rfl) dL_law_645 (fun r234 m235 hf => ?_)
  refine za_pop o dL_law_648 rfl ?_
  refine za_goto o 803 dL_law_649 (by decide) ?_
  exact tL_law_803 o hs  hk18 v1 m235  hf
set_option maxRecDepth 100000 in
set_option maxHeartbeats 4000000 in
theorem tL_law_652 {p : Program} {l : Launch} {e : Env} {s : State} {m : MethodId} {below : List Frame} {meth : Method} {c : Code} {G : zG} {b L : Nat} {xs : Nat → Int32} {k18 : Int32 → zMem → Prop} (o : za_Ok room_1 537 6387 p s m #[Value.ref b] meth c G RL cL_law 4 (some .boolean)) (hs : zScr b L xs s G) (hk18 : ∀ (v1 : Int32) (μ : zMem), k18 v1 μ → za_At p l e room_1 s m #[Value.ref b] below meth c (lw_Z below #[Value.ref b] s) G 4 537 6387 18 [(0, .ref b), (1, .ref (G.2.2 + 0)), (2, .ref (G.2.2 + 529)), (3, .int v1)] [] μ) (v1 : Int32) (μ : zMem)  (hf : fL_law_652 L xs k18 v1 μ) : za_At p l e room_1 s m #[Value.ref b] below meth c (lw_Z below #[Value.ref b] s) G 4 537 6387 652 [(0, .ref b), (1, .ref (G.2.2 + 0)), (2, .ref (G.2.2 + 529)), (3, .int v1)] [] μ := by
  unfold fL_law_652 at hf
  refine za_aload_n o 1 dL_law_652 rfl rfl ?_
  refine za_aload_n o 0 dL_law_653 rfl rfl ?_
  refine za_iload_n o 3 dL_law_654 rfl rfl ?_
  refine za_iconst (v := (1 : Int32)) o dL_law_655 (by decide) ?_
  refine za_iadd o dL_law_656 ?_
  refine za_topi (fun x236 ex236 => ?_)
  replace hf := hf x236 ex236
  obtain ⟨g237, hf⟩ := hf
  refine za_sld o hs g237 dL_law_657 ?_
  refine za_topi (fun x238 ex238 => ?_)
  replace hf := hf x238 ex238
  refine za_i2l o dL_law_658 ?_
  refine za_topl (fun x239 ex239 => ?_)
  replace hf := hf x239 ex239
  refine za_bipush (v := (32 : Int32)) o dL_law_659 (by decide) ?_
  refine za_lshl o dL_law_661 ?_
  refine za_topl (fun x240 ex240 => ?_)
  replace hf := hf x240 ex240
  refine za_aload_n o 0 dL_law_662 rfl rfl ?_
  refine za_iload_n o 3 dL_law_663 rfl rfl ?_
  refine za_iconst (v := (2 : Int32)) o dL_law_664 (by decide) ?_
  refine za_iadd o dL_law_665 ?_
  refine za_topi (fun x241 ex241 => ?_)
  replace hf := hf x241 ex241
  obtain ⟨g242, hf⟩ := hf
  refine za_sld o hs g242 dL_law_666 ?_
  refine za_topi (fun x243 ex243 => ?_)
  replace hf := hf x243 ex243
  refine za_i2l o dL_law_667 ?_
  refine za_topl (fun x244 ex244 => ?_)
  replace hf := hf x244 ex244
  refine za_ldc2 (v := (4294967295 : Int64)) o wkL_89 dL_law_668 ?_
  refine za_land o dL_law_671 ?_
  refine za_topl (fun x245 ex245 => ?_)
  replace hf := hf x245 ex245
  refine za_lor o dL_law_672 ?_
  refine za_topl (fun x246 ex246 => ?_)
  replace hf := hf x246 ex246
  refine za_callVi o [.long x246] (ctX7_put l G zk_c7 x246  μ _ hf) zc7 zk_c7 mwX7_put wmL_91 wiX7_put wsX7_put rfl ⟨Nat.le_of_ble_eq_true rfl, Nat.le_of_ble_eq_true rfl⟩ rfl (Nat.le_of_ble_eq_true rfl) dL_law_673 (fun r247 m248 hf => ?_)
  refine za_aload_n o 2 dL_law_676 rfl rfl ?_
  refine za_aload_n o 0 dL_law_677 rfl rfl ?_
  refine za_iload_n o 3 dL_law_678 rfl rfl ?_
  refine za_iconst (v := (1 : Int32)) o dL_law_679 (by decide) ?_
  refine za_iadd o dL_law_680 ?_
  refine za_topi (fun x249 ex249 => ?_)
  replace hf := hf x249 ex249
  obtain ⟨g250, hf⟩ := hf
  refine za_sld o hs g250 dL_law_681 ?_
  refine za_topi (fun x251 ex251 => ?_)
  replace hf := hf x251 ex251
  refine za_i2l o dL_law_682 ?_
  refine za_topl (fun x252 ex252 => ?_)
  replace hf := hf x252 ex252
  refine za_bipush (v := (32 : Int32)) o dL_law_683 (by decide) ?_
  refine za_lshl o dL_law_685 ?_
  refine za_topl (fun x253 ex253 => ?_)
  replace hf := hf x253 ex253
  refine za_aload_n o 0 dL_law_686 rfl rfl ?_
  refine za_iload_n o 3 dL_law_687 rfl rfl ?_
  refine za_iconst (v := (2 : Int32)) o dL_law_688 (by decide) ?_
  refine za_iadd o dL_law_689 ?_
  refine za_topi (fun x254 ex254 => ?_)
  replace hf := hf x254 ex254
  obtain ⟨g255, hf⟩ := hf
  refine za_sld o hs g255 dL_law_690 ?_
  refine za_topi (fun x256 ex256 => ?_)
  replace hf := hf x256 ex256
  refine za_i2l o dL_law_691 ?_
  refine za_topl (fun x257 ex257 => ?_)
  replace hf := hf x257 ex257
  refine za_ldc2 (v := (4294967295 : Int64)) o wkL_89 dL_law_692 ?_
  refine za_land o dL_law_695 ?_
  refine za_topl (fun x258 ex258 => ?_)
  replace hf := hf x258 ex258
  refine za_lor o dL_law_696 ?_
  refine za_topl (fun x259 ex259 => ?_)
  replace hf := hf x259 ex259
  refine za_callVi o [.long x259] (ctX8_put l G zk_c8 x259  m248 _ hf) zc8 zk_c8 mwX8_put wmL_95 wiX8_put wsX8_put rfl ⟨Nat.le_of_ble_eq_true rfl, Nat.le_of_ble_eq_true rfl⟩ rfl (Nat.le_of_ble_eq_true rfl) dL_law_697 (fun r260 m261 hf => ?_)
  refine za_icmp_eq o 803 dL_law_700 (by decide) (fun c262 => ?_) (fun c262 => ?_)
  · replace hf := hf.1 c262
    exact tL_law_803 o hs  hk18 v1 m261  hf
  · replace hf := hf.2 c262
    refine za_iconst (v := (0 : Int32)) o dL_law_703 (by decide) ?_
    exact hf.elim
set_option maxRecDepth 100000 in
set_option maxHeartbeats 4000000 in
theorem tL_law_705 {p : Program} {l : Launch} {e : Env} {s : State} {m : MethodId} {below : List Frame} {meth : Method} {c : Code} {G : zG} {b L : Nat} {xs : Nat → Int32} {k18 : Int32 → zMem → Prop} (o : za_Ok room_1 537 6387 p s m #[Value.ref b] meth c G RL cL_law 4 (some .boolean)) (hs : zScr b L xs s G) (hk18 : ∀ (v1 : Int32) (μ : zMem), k18 v1 μ → za_At p l e room_1 s m #[Value.ref b] below meth c (lw_Z below #[Value.ref b] s) G 4 537 6387 18 [(0, .ref b), (1, .ref (G.2.2 + 0)), (2, .ref (G.2.2 + 529)), (3, .int v1)] [] μ) (v1 : Int32) (μ : zMem)  (hf : fL_law_705 L xs k18 v1 μ) : za_At p l e room_1 s m #[Value.ref b] below meth c (lw_Z below #[Value.ref b] s) G 4 537 6387 705 [(0, .ref b), (1, .ref (G.2.2 + 0)), (2, .ref (G.2.2 + 529)), (3, .int v1)] [] μ := by
  unfold fL_law_705 at hf
  refine za_aload_n o 1 dL_law_705 rfl rfl ?_
  refine za_callVi o [] (ctX7_wipe l G zk_c7   μ _ hf) zc7 zk_c7 mwX7_wipe wmL_96 wiX7_wipe wsX7_wipe rfl ⟨Nat.le_of_ble_eq_true rfl, Nat.le_of_ble_eq_true rfl⟩ rfl (Nat.le_of_ble_eq_true rfl) dL_law_706 (fun r263 m264 hf => ?_)
  refine za_pop o dL_law_709 rfl ?_
  refine za_aload_n o 2 dL_law_710 rfl rfl ?_
  refine za_callVi o [] (ctX8_wipe l G zk_c8   m264 _ hf) zc8 zk_c8 mwX8_wipe wmL_99 wiX8_wipe wsX8_wipe rfl ⟨Nat.le_of_ble_eq_true rfl, Nat.le_of_ble_eq_true rfl⟩ rfl (Nat.le_of_ble_eq_true rfl) dL_law_711 (fun r265 m266 hf => ?_)
  refine za_pop o dL_law_714 rfl ?_
  refine za_goto o 803 dL_law_715 (by decide) ?_
  exact tL_law_803 o hs  hk18 v1 m266  hf
set_option maxRecDepth 100000 in
set_option maxHeartbeats 4000000 in
theorem tL_law_718 {p : Program} {l : Launch} {e : Env} {s : State} {m : MethodId} {below : List Frame} {meth : Method} {c : Code} {G : zG} {b L : Nat} {xs : Nat → Int32} {k18 : Int32 → zMem → Prop} (o : za_Ok room_1 537 6387 p s m #[Value.ref b] meth c G RL cL_law 4 (some .boolean)) (hs : zScr b L xs s G) (hk18 : ∀ (v1 : Int32) (μ : zMem), k18 v1 μ → za_At p l e room_1 s m #[Value.ref b] below meth c (lw_Z below #[Value.ref b] s) G 4 537 6387 18 [(0, .ref b), (1, .ref (G.2.2 + 0)), (2, .ref (G.2.2 + 529)), (3, .int v1)] [] μ) (v1 : Int32) (μ : zMem)  (hf : fL_law_718 L xs k18 v1 μ) : za_At p l e room_1 s m #[Value.ref b] below meth c (lw_Z below #[Value.ref b] s) G 4 537 6387 718 [(0, .ref b), (1, .ref (G.2.2 + 0)), (2, .ref (G.2.2 + 529)), (3, .int v1)] [] μ := by
  unfold fL_law_718 at hf
  refine za_aload_n o 1 dL_law_718 rfl rfl ?_
  refine za_callVi o [] (ctX7_fault l G zk_c7   μ _ hf) zc7 zk_c7 mwX7_fault wmL_100 wiX7_fault wsX7_fault rfl ⟨Nat.le_of_ble_eq_true rfl, Nat.le_of_ble_eq_true rfl⟩ rfl (Nat.le_of_ble_eq_true rfl) dL_law_719 (fun r267 m268 hf => ?_)
  refine za_pop o dL_law_722 rfl ?_
  refine za_aload_n o 2 dL_law_723 rfl rfl ?_
  refine za_callVi o [] (ctX8_fault l G zk_c8   m268 _ hf) zc8 zk_c8 mwX8_fault wmL_103 wiX8_fault wsX8_fault rfl ⟨Nat.le_of_ble_eq_true rfl, Nat.le_of_ble_eq_true rfl⟩ rfl (Nat.le_of_ble_eq_true rfl) dL_law_724 (fun r269 m270 hf => ?_)
  refine za_pop o dL_law_727 rfl ?_
  refine za_goto o 803 dL_law_728 (by decide) ?_
  exact tL_law_803 o hs  hk18 v1 m270  hf
set_option maxRecDepth 100000 in
set_option maxHeartbeats 4000000 in
theorem tL_law_731 {p : Program} {l : Launch} {e : Env} {s : State} {m : MethodId} {below : List Frame} {meth : Method} {c : Code} {G : zG} {b L : Nat} {xs : Nat → Int32} {k18 : Int32 → zMem → Prop} (o : za_Ok room_1 537 6387 p s m #[Value.ref b] meth c G RL cL_law 4 (some .boolean)) (hs : zScr b L xs s G) (hk18 : ∀ (v1 : Int32) (μ : zMem), k18 v1 μ → za_At p l e room_1 s m #[Value.ref b] below meth c (lw_Z below #[Value.ref b] s) G 4 537 6387 18 [(0, .ref b), (1, .ref (G.2.2 + 0)), (2, .ref (G.2.2 + 529)), (3, .int v1)] [] μ) (v1 : Int32) (μ : zMem)  (hf : fL_law_731 L xs k18 v1 μ) : za_At p l e room_1 s m #[Value.ref b] below meth c (lw_Z below #[Value.ref b] s) G 4 537 6387 731 [(0, .ref b), (1, .ref (G.2.2 + 0)), (2, .ref (G.2.2 + 529)), (3, .int v1)] [] μ := by
  unfold fL_law_731 at hf
  refine za_aload_n o 1 dL_law_731 rfl rfl ?_
  refine za_callVi o [] (ctX7_carryOut l G zk_c7   μ _ hf) zc7 zk_c7 mwX7_carryOut wmL_104 wiX7_carryOut wsX7_carryOut rfl ⟨Nat.le_of_ble_eq_true rfl, Nat.le_of_ble_eq_true rfl⟩ rfl (Nat.le_of_ble_eq_true rfl) dL_law_732 (fun r271 m272 hf => ?_)
  refine za_pop o dL_law_735 rfl ?_
  refine za_aload_n o 2 dL_law_736 rfl rfl ?_
  refine za_callVi o [] (ctX8_carryOut l G zk_c8   m272 _ hf) zc8 zk_c8 mwX8_carryOut wmL_107 wiX8_carryOut wsX8_carryOut rfl ⟨Nat.le_of_ble_eq_true rfl, Nat.le_of_ble_eq_true rfl⟩ rfl (Nat.le_of_ble_eq_true rfl) dL_law_737 (fun r273 m274 hf => ?_)
  refine za_pop o dL_law_740 rfl ?_
  refine za_goto o 803 dL_law_741 (by decide) ?_
  exact tL_law_803 o hs  hk18 v1 m274  hf
set_option maxRecDepth 100000 in
set_option maxHeartbeats 4000000 in
theorem tL_law_744 {p : Program} {l : Launch} {e : Env} {s : State} {m : MethodId} {below : List Frame} {meth : Method} {c : Code} {G : zG} {b L : Nat} {xs : Nat → Int32} {k18 : Int32 → zMem → Prop} (o : za_Ok room_1 537 6387 p s m #[Value.ref b] meth c G RL cL_law 4 (some .boolean)) (hs : zScr b L xs s G) (hk18 : ∀ (v1 : Int32) (μ : zMem), k18 v1 μ → za_At p l e room_1 s m #[Value.ref b] below meth c (lw_Z below #[Value.ref b] s) G 4 537 6387 18 [(0, .ref b), (1, .ref (G.2.2 + 0)), (2, .ref (G.2.2 + 529)), (3, .int v1)] [] μ) (v1 : Int32) (μ : zMem)  (hf : fL_law_744 L xs k18 v1 μ) : za_At p l e room_1 s m #[Value.ref b] below meth c (lw_Z below #[Value.ref b] s) G 4 537 6387 744 [(0, .ref b), (1, .ref (G.2.2 + 0)), (2, .ref (G.2.2 + 529)), (3, .int v1)] [] μ := by
  unfold fL_law_744 at hf
  refine za_aload_n o 1 dL_law_744 rfl rfl ?_
  refine za_callVi o [] (ctX7_undo l G zk_c7   μ _ hf) zc7 zk_c7 mwX7_undo wmL_108 wiX7_undo wsX7_undo rfl ⟨Nat.le_of_ble_eq_true rfl, Nat.le_of_ble_eq_true rfl⟩ rfl (Nat.le_of_ble_eq_true rfl) dL_law_745 (fun r275 m276 hf => ?_)
  refine za_pop o dL_law_748 rfl ?_
  refine za_aload_n o 2 dL_law_749 rfl rfl ?_
  refine za_callVi o [] (ctX8_undo l G zk_c8   m276 _ hf) zc8 zk_c8 mwX8_undo wmL_111 wiX8_undo wsX8_undo rfl ⟨Nat.le_of_ble_eq_true rfl, Nat.le_of_ble_eq_true rfl⟩ rfl (Nat.le_of_ble_eq_true rfl) dL_law_750 (fun r277 m278 hf => ?_)
  refine za_pop o dL_law_753 rfl ?_
  refine za_goto o 803 dL_law_754 (by decide) ?_
  exact tL_law_803 o hs  hk18 v1 m278  hf
set_option maxRecDepth 100000 in
set_option maxHeartbeats 4000000 in
theorem tL_law_757 {p : Program} {l : Launch} {e : Env} {s : State} {m : MethodId} {below : List Frame} {meth : Method} {c : Code} {G : zG} {b L : Nat} {xs : Nat → Int32} {k18 : Int32 → zMem → Prop} (o : za_Ok room_1 537 6387 p s m #[Value.ref b] meth c G RL cL_law 4 (some .boolean)) (hs : zScr b L xs s G) (hk18 : ∀ (v1 : Int32) (μ : zMem), k18 v1 μ → za_At p l e room_1 s m #[Value.ref b] below meth c (lw_Z below #[Value.ref b] s) G 4 537 6387 18 [(0, .ref b), (1, .ref (G.2.2 + 0)), (2, .ref (G.2.2 + 529)), (3, .int v1)] [] μ) (v1 : Int32) (μ : zMem)  (hf : fL_law_757 L xs k18 v1 μ) : za_At p l e room_1 s m #[Value.ref b] below meth c (lw_Z below #[Value.ref b] s) G 4 537 6387 757 [(0, .ref b), (1, .ref (G.2.2 + 0)), (2, .ref (G.2.2 + 529)), (3, .int v1)] [] μ := by
  unfold fL_law_757 at hf
  refine za_aload_n o 1 dL_law_757 rfl rfl ?_
  refine za_aload_n o 0 dL_law_758 rfl rfl ?_
  refine za_iload_n o 3 dL_law_759 rfl rfl ?_
  refine za_iconst (v := (1 : Int32)) o dL_law_760 (by decide) ?_
  refine za_iadd o dL_law_761 ?_
  refine za_topi (fun x279 ex279 => ?_)
  replace hf := hf x279 ex279
  obtain ⟨g280, hf⟩ := hf
  refine za_sld o hs g280 dL_law_762 ?_
  refine za_topi (fun x281 ex281 => ?_)
  replace hf := hf x281 ex281
  refine za_callVi o [.int x281] (ctX7_save l G zk_c7 x281  μ _ hf) zc7 zk_c7 mwX7_save wmL_112 wiX7_save wsX7_save rfl ⟨Nat.le_of_ble_eq_true rfl, Nat.le_of_ble_eq_true rfl⟩ rfl (Nat.le_of_ble_eq_true rfl) dL_law_763 (fun r282 m283 hf => ?_)
  refine za_pop o dL_law_766 rfl ?_
  refine za_aload_n o 2 dL_law_767 rfl rfl ?_
  refine za_aload_n o 0 dL_law_768 rfl rfl ?_
  refine za_iload_n o 3 dL_law_769 rfl rfl ?_
  refine za_iconst (v := (1 : Int32)) o dL_law_770 (by decide) ?_
  refine za_iadd o dL_law_771 ?_
  refine za_topi (fun x284 ex284 => ?_)
  replace hf := hf x284 ex284
  obtain ⟨g285, hf⟩ := hf
  refine za_sld o hs g285 dL_law_772 ?_
  refine za_topi (fun x286 ex286 => ?_)
  replace hf := hf x286 ex286
  refine za_callVi o [.int x286] (ctX8_save l G zk_c8 x286  m283 _ hf) zc8 zk_c8 mwX8_save wmL_115 wiX8_save wsX8_save rfl ⟨Nat.le_of_ble_eq_true rfl, Nat.le_of_ble_eq_true rfl⟩ rfl (Nat.le_of_ble_eq_true rfl) dL_law_773 (fun r287 m288 hf => ?_)
  refine za_pop o dL_law_776 rfl ?_
  refine za_goto o 803 dL_law_777 (by decide) ?_
  exact tL_law_803 o hs  hk18 v1 m288  hf
set_option maxRecDepth 100000 in
set_option maxHeartbeats 4000000 in
theorem tL_law_780 {p : Program} {l : Launch} {e : Env} {s : State} {m : MethodId} {below : List Frame} {meth : Method} {c : Code} {G : zG} {b L : Nat} {xs : Nat → Int32} {k18 : Int32 → zMem → Prop} (o : za_Ok room_1 537 6387 p s m #[Value.ref b] meth c G RL cL_law 4 (some .boolean)) (hs : zScr b L xs s G) (hk18 : ∀ (v1 : Int32) (μ : zMem), k18 v1 μ → za_At p l e room_1 s m #[Value.ref b] below meth c (lw_Z below #[Value.ref b] s) G 4 537 6387 18 [(0, .ref b), (1, .ref (G.2.2 + 0)), (2, .ref (G.2.2 + 529)), (3, .int v1)] [] μ) (v1 : Int32) (μ : zMem)  (hf : fL_law_780 L xs k18 v1 μ) : za_At p l e room_1 s m #[Value.ref b] below meth c (lw_Z below #[Value.ref b] s) G 4 537 6387 780 [(0, .ref b), (1, .ref (G.2.2 + 0)), (2, .ref (G.2.2 + 529)), (3, .int v1)] [] μ := by
  unfold fL_law_780 at hf
  refine za_aload_n o 1 dL_law_780 rfl rfl ?_
  refine za_aload_n o 0 dL_law_781 rfl rfl ?_
  refine za_iload_n o 3 dL_law_782 rfl rfl ?_
  refine za_iconst (v := (1 : Int32)) o dL_law_783 (by decide) ?_
  refine za_iadd o dL_law_784 ?_
  refine za_topi (fun x289 ex289 => ?_)
  replace hf := hf x289 ex289
  obtain ⟨g290, hf⟩ := hf
  refine za_sld o hs g290 dL_law_785 ?_
  refine za_topi (fun x291 ex291 => ?_)
  replace hf := hf x291 ex291
  refine za_callVi o [.int x291] (ctX7_restore l G zk_c7 x291  μ _ hf) zc7 zk_c7 mwX7_restore wmL_116 wiX7_restore wsX7_restore rfl ⟨Nat.le_of_ble_eq_true rfl, Nat.le_of_ble_eq_true rfl⟩ rfl (Nat.le_of_ble_eq_true rfl) dL_law_786 (fun r292 m293 hf => ?_)
  refine za_pop o dL_law_789 rfl ?_
  refine za_aload_n o 2 dL_law_790 rfl rfl ?_
  refine za_aload_n o 0 dL_law_791 rfl rfl ?_
  refine za_iload_n o 3 dL_law_792 rfl rfl ?_
  refine za_iconst (v := (1 : Int32)) o dL_law_793 (by decide) ?_
  refine za_iadd o dL_law_794 ?_
  refine za_topi (fun x294 ex294 => ?_)
  replace hf := hf x294 ex294
  obtain ⟨g295, hf⟩ := hf
  refine za_sld o hs g295 dL_law_795 ?_
  refine za_topi (fun x296 ex296 => ?_)
  replace hf := hf x296 ex296
  refine za_callVi o [.int x296] (ctX8_restore l G zk_c8 x296  m293 _ hf) zc8 zk_c8 mwX8_restore wmL_119 wiX8_restore wsX8_restore rfl ⟨Nat.le_of_ble_eq_true rfl, Nat.le_of_ble_eq_true rfl⟩ rfl (Nat.le_of_ble_eq_true rfl) dL_law_796 (fun r297 m298 hf => ?_)
  refine za_pop o dL_law_799 rfl ?_
  refine za_goto o 803 dL_law_800 (by decide) ?_
  exact tL_law_803 o hs  hk18 v1 m298  hf
set_option maxRecDepth 100000 in
set_option maxHeartbeats 4000000 in
theorem tL_law_18b {p : Program} {l : Launch} {e : Env} {s : State} {m : MethodId} {below : List Frame} {meth : Method} {c : Code} {G : zG} {b L : Nat} {xs : Nat → Int32} {k18 : Int32 → zMem → Prop} (o : za_Ok room_1 537 6387 p s m #[Value.ref b] meth c G RL cL_law 4 (some .boolean)) (hs : zScr b L xs s G) (hk18 : ∀ (v1 : Int32) (μ : zMem), k18 v1 μ → za_At p l e room_1 s m #[Value.ref b] below meth c (lw_Z below #[Value.ref b] s) G 4 537 6387 18 [(0, .ref b), (1, .ref (G.2.2 + 0)), (2, .ref (G.2.2 + 529)), (3, .int v1)] [] μ) (v1 : Int32) (μ : zMem)  (hf : fL_law_18b L xs k18 v1 μ) : za_At p l e room_1 s m #[Value.ref b] below meth c (lw_Z below #[Value.ref b] s) G 4 537 6387 18 [(0, .ref b), (1, .ref (G.2.2 + 0)), (2, .ref (G.2.2 + 529)), (3, .int v1)] [] μ := by
  unfold fL_law_18b at hf
  refine za_iload_n o 3 dL_law_18 rfl rfl ?_
  refine za_aload_n o 0 dL_law_19 rfl rfl ?_
  refine za_slen o hs dL_law_20 ?_
  refine za_topi (fun x299 ex299 => ?_)
  replace hf := hf x299 ex299
  refine za_iconst (v := (4 : Int32)) o dL_law_21 (by decide) ?_
  refine za_isub o dL_law_22 ?_
  refine za_topi (fun x300 ex300 => ?_)
  replace hf := hf x300 ex300
  refine za_icmp_gt o 809 dL_law_23 (by decide) (fun c301 => ?_) (fun c301 => ?_)
  · replace hf := hf.1 c301
    refine za_iconst (v := (1 : Int32)) o dL_law_809 (by decide) ?_
    exact za_lret o hs dL_law_810
  · replace hf := hf.2 c301
    refine za_aload_n o 0 dL_law_26 rfl rfl ?_
    refine za_iload_n o 3 dL_law_27 rfl rfl ?_
    obtain ⟨g302, hf⟩ := hf
    refine za_sld o hs g302 dL_law_28 ?_
    refine za_topi (fun x303 ex303 => ?_)
    replace hf := hf x303 ex303
    refine za_bipush (v := (31 : Int32)) o dL_law_29 (by decide) ?_
    refine za_iand o dL_law_31 ?_
    refine za_topi (fun x304 ex304 => ?_)
    replace hf := hf x304 ex304
    by_cases c305 : x304 = (0 : Int32)
    · replace hf := hf.1 c305
      refine za_tswE o 148 c305 dL_law_32 (by decide) (by decide) rfl (by decide) ?_
      exact tL_law_148 o hs  hk18 v1 μ  hf
    · replace hf := hf.2 c305
      by_cases c306 : x304 = (1 : Int32)
      · replace hf := hf.1 c306
        refine za_tswE o 181 c306 dL_law_32 (by decide) (by decide) rfl (by decide) ?_
        exact tL_law_181 o hs  hk18 v1 μ  hf
      · replace hf := hf.2 c306
        by_cases c307 : x304 = (2 : Int32)
        · replace hf := hf.1 c307
          refine za_tswE o 224 c307 dL_law_32 (by decide) (by decide) rfl (by decide) ?_
          exact tL_law_224 o hs  hk18 v1 μ  hf
        · replace hf := hf.2 c307
          by_cases c308 : x304 = (3 : Int32)
          · replace hf := hf.1 c308
            refine za_tswE o 237 c308 dL_law_32 (by decide) (by decide) rfl (by decide) ?_
            exact tL_law_237 o hs  hk18 v1 μ  hf
          · replace hf := hf.2 c308
            by_cases c309 : x304 = (4 : Int32)
            · replace hf := hf.1 c309
              refine za_tswE o 270 c309 dL_law_32 (by decide) (by decide) rfl (by decide) ?_
              exact tL_law_270 o hs  hk18 v1 μ  hf
            · replace hf := hf.2 c309
              by_cases c310 : x304 = (5 : Int32)
              · replace hf := hf.1 c310
                refine za_tswE o 313 c310 dL_law_32 (by decide) (by decide) rfl (by decide) ?_
                exact tL_law_313 o hs  hk18 v1 μ  hf
              · replace hf := hf.2 c310
                by_cases c311 : x304 = (6 : Int32)
                · replace hf := hf.1 c311
                  refine za_tswE o 346 c311 dL_law_32 (by decide) (by decide) rfl (by decide) ?_
                  exact tL_law_346 o hs  hk18 v1 μ  hf
                · replace hf := hf.2 c311
                  by_cases c312 : x304 = (7 : Int32)
                  · replace hf := hf.1 c312
                    refine za_tswE o 359 c312 dL_law_32 (by decide) (by decide) rfl (by decide) ?_
                    exact tL_law_359 o hs  hk18 v1 μ  hf
                  · replace hf := hf.2 c312
                    by_cases c313 : x304 = (8 : Int32)
                    · replace hf := hf.1 c313
                      refine za_tswE o 382 c313 dL_law_32 (by decide) (by decide) rfl (by decide) ?_
                      exact tL_law_382 o hs  hk18 v1 μ  hf
                    · replace hf := hf.2 c313
                      by_cases c314 : x304 = (9 : Int32)
                      · replace hf := hf.1 c314
                        refine za_tswE o 415 c314 dL_law_32 (by decide) (by decide) rfl (by decide) ?_
                        exact tL_law_415 o hs  hk18 v1 μ  hf
                      · replace hf := hf.2 c314
                        by_cases c315 : x304 = (10 : Int32)
                        · replace hf := hf.1 c315
                          refine za_tswE o 428 c315 dL_law_32 (by decide) (by decide) rfl (by decide) ?_
                          exact tL_law_428 o hs  hk18 v1 μ  hf
                        · replace hf := hf.2 c315
                          by_cases c316 : x304 = (11 : Int32)
                          · replace hf := hf.1 c316
                            refine za_tswE o 461 c316 dL_law_32 (by decide) (by decide) rfl (by decide) ?_
                            exact tL_law_461 o hs  hk18 v1 μ  hf
                          · replace hf := hf.2 c316
                            by_cases c317 : x304 = (12 : Int32)
                            · replace hf := hf.1 c317
                              refine za_tswE o 494 c317 dL_law_32 (by decide) (by decide) rfl (by decide) ?_
                              exact tL_law_494 o hs  hk18 v1 μ  hf
                            · replace hf := hf.2 c317
                              by_cases c318 : x304 = (13 : Int32)
                              · replace hf := hf.1 c318
                                refine za_tswE o 527 c318 dL_law_32 (by decide) (by decide) rfl (by decide) ?_
                                exact tL_law_527 o hs  hk18 v1 μ  hf
                              · replace hf := hf.2 c318
                                by_cases c319 : x304 = (14 : Int32)
                                · replace hf := hf.1 c319
                                  refine za_tswE o 550 c319 dL_law_32 (by decide) (by decide) rfl (by decide) ?_
                                  exact tL_law_550 o hs  hk18 v1 μ  hf
                                · replace hf := hf.2 c319
                                  by_cases c320 : x304 = (15 : Int32)
                                  · replace hf := hf.1 c320
                                    refine za_tswE o 593 c320 dL_law_32 (by decide) (by decide) rfl (by decide) ?_
                                    exact tL_law_593 o hs  hk18 v1 μ  hf
                                  · replace hf := hf.2 c320
                                    by_cases c321 : x304 = (16 : Int32)
                                    · replace hf := hf.1 c321
                                      refine za_tswE o 616 c321 dL_law_32 (by decide) (by decide) rfl (by decide) ?_
                                      exact tL_law_616 o hs  hk18 v1 μ  hf
                                    · replace hf := hf.2 c321
                                      by_cases c322 : x304 = (17 : Int32)
                                      · replace hf := hf.1 c322
                                        refine za_tswE o 639 c322 dL_law_32 (by decide) (by decide) rfl (by decide) ?_
                                        exact tL_law_639 o hs  hk18 v1 μ  hf
                                      · replace hf := hf.2 c322
                                        by_cases c323 : x304 = (18 : Int32)
                                        · replace hf := hf.1 c323
                                          refine za_tswE o 652 c323 dL_law_32 (by decide) (by decide) rfl (by decide) ?_
                                          exact tL_law_652 o hs  hk18 v1 μ  hf
                                        · replace hf := hf.2 c323
                                          by_cases c324 : x304 = (19 : Int32)
                                          · replace hf := hf.1 c324
                                            refine za_tswE o 705 c324 dL_law_32 (by decide) (by decide) rfl (by decide) ?_
                                            exact tL_law_705 o hs  hk18 v1 μ  hf
                                          · replace hf := hf.2 c324
                                            by_cases c325 : x304 = (20 : Int32)
                                            · replace hf := hf.1 c325
                                              refine za_tswE o 718 c325 dL_law_32 (by decide) (by decide) rfl (by decide) ?_
                                              exact tL_law_718 o hs  hk18 v1 μ  hf
                                            · replace hf := hf.2 c325
                                              by_cases c326 : x304 = (21 : Int32)
                                              · replace hf := hf.1 c326
                                                refine za_tswE o 731 c326 dL_law_32 (by decide) (by decide) rfl (by decide) ?_
                                                exact tL_law_731 o hs  hk18 v1 μ  hf
                                              · replace hf := hf.2 c326
                                                by_cases c327 : x304 = (22 : Int32)
                                                · replace hf := hf.1 c327
                                                  refine za_tswE o 744 c327 dL_law_32 (by decide) (by decide) rfl (by decide) ?_
                                                  exact tL_law_744 o hs  hk18 v1 μ  hf
                                                · replace hf := hf.2 c327
                                                  by_cases c328 : x304 = (23 : Int32)
                                                  · replace hf := hf.1 c328
                                                    refine za_tswE o 757 c328 dL_law_32 (by decide) (by decide) rfl (by decide) ?_
                                                    exact tL_law_757 o hs  hk18 v1 μ  hf
                                                  · replace hf := hf.2 c328
                                                    by_cases c329 : x304 = (24 : Int32)
                                                    · replace hf := hf.1 c329
                                                      refine za_tswE o 780 c329 dL_law_32 (by decide) (by decide) rfl (by decide) ?_
                                                      exact tL_law_780 o hs  hk18 v1 μ  hf
                                                    · replace hf := hf.2 c329
                                                      refine za_tswD o 803 dL_law_32 (fun z1 z2 => ?_) (by decide) ?_
                                                      · have z1 := Int.not_lt.mp z1
                                                        have z2 := Int.not_lt.mp z2
                                                        have z3 : (x304).toInt = 0 ∨ (x304).toInt = 1 ∨ (x304).toInt = 2 ∨ (x304).toInt = 3 ∨ (x304).toInt = 4 ∨ (x304).toInt = 5 ∨ (x304).toInt = 6 ∨ (x304).toInt = 7 ∨ (x304).toInt = 8 ∨ (x304).toInt = 9 ∨ (x304).toInt = 10 ∨ (x304).toInt = 11 ∨ (x304).toInt = 12 ∨ (x304).toInt = 13 ∨ (x304).toInt = 14 ∨ (x304).toInt = 15 ∨ (x304).toInt = 16 ∨ (x304).toInt = 17 ∨ (x304).toInt = 18 ∨ (x304).toInt = 19 ∨ (x304).toInt = 20 ∨ (x304).toInt = 21 ∨ (x304).toInt = 22 ∨ (x304).toInt = 23 ∨ (x304).toInt = 24 := by omega
                                                        rcases z3 with z3 | z3 | z3 | z3 | z3 | z3 | z3 | z3 | z3 | z3 | z3 | z3 | z3 | z3 | z3 | z3 | z3 | z3 | z3 | z3 | z3 | z3 | z3 | z3 | z3
                                                        · exact c305 (Int32.toInt_inj.mp (z3.trans rfl))
                                                        · exact c306 (Int32.toInt_inj.mp (z3.trans rfl))
                                                        · exact c307 (Int32.toInt_inj.mp (z3.trans rfl))
                                                        · exact c308 (Int32.toInt_inj.mp (z3.trans rfl))
                                                        · exact c309 (Int32.toInt_inj.mp (z3.trans rfl))
                                                        · exact c310 (Int32.toInt_inj.mp (z3.trans rfl))
                                                        · exact c311 (Int32.toInt_inj.mp (z3.trans rfl))
                                                        · exact c312 (Int32.toInt_inj.mp (z3.trans rfl))
                                                        · exact c313 (Int32.toInt_inj.mp (z3.trans rfl))
                                                        · exact c314 (Int32.toInt_inj.mp (z3.trans rfl))
                                                        · exact c315 (Int32.toInt_inj.mp (z3.trans rfl))
                                                        · exact c316 (Int32.toInt_inj.mp (z3.trans rfl))
                                                        · exact c317 (Int32.toInt_inj.mp (z3.trans rfl))
                                                        · exact c318 (Int32.toInt_inj.mp (z3.trans rfl))
                                                        · exact c319 (Int32.toInt_inj.mp (z3.trans rfl))
                                                        · exact c320 (Int32.toInt_inj.mp (z3.trans rfl))
                                                        · exact c321 (Int32.toInt_inj.mp (z3.trans rfl))
                                                        · exact c322 (Int32.toInt_inj.mp (z3.trans rfl))
                                                        · exact c323 (Int32.toInt_inj.mp (z3.trans rfl))
                                                        · exact c324 (Int32.toInt_inj.mp (z3.trans rfl))
                                                        · exact c325 (Int32.toInt_inj.mp (z3.trans rfl))
                                                        · exact c326 (Int32.toInt_inj.mp (z3.trans rfl))
                                                        · exact c327 (Int32.toInt_inj.mp (z3.trans rfl))
                                                        · exact c328 (Int32.toInt_inj.mp (z3.trans rfl))
                                                        · exact c329 (Int32.toInt_inj.mp (z3.trans rfl))
                                                      · skip
                                                        exact tL_law_803 o hs  hk18 v1 μ  hf
theorem tL_law_18 {p : Program} {l : Launch} {e : Env} {s : State} {m : MethodId} {below : List Frame} {meth : Method} {c : Code} {G : zG} {b L : Nat} {xs : Nat → Int32}  (o : za_Ok room_1 537 6387 p s m #[Value.ref b] meth c G RL cL_law 4 (some .boolean)) (hs : zScr b L xs s G)  (n : Nat) : ∀ (v1 : Int32) (μ : zMem), fL_law_18 L xs  n v1 μ → za_At p l e room_1 s m #[Value.ref b] below meth c (lw_Z below #[Value.ref b] s) G 4 537 6387 18 [(0, .ref b), (1, .ref (G.2.2 + 0)), (2, .ref (G.2.2 + 529)), (3, .int v1)] [] μ := by
  induction n with
  | zero => intro _ _ hf; exact hf.elim
  | succ n ih => intro v1 μ  hf; exact tL_law_18b o hs  ih v1 μ  hf
