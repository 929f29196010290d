def fL_law_803 (L : Nat) (xs : Nat → Int32) (k18 : Int32 → zMem → Prop) (v1 : Int32) (μ : zMem) : Prop :=
  (∀ x1 : Int32, x1 = v1 + (4 : Int32) → k18 x1 μ)
def fL_law_148 (L : Nat) (xs : Nat → Int32) (k18 : Int32 → zMem → Prop) (v1 : Int32) (μ : zMem) : Prop :=
  (∀ x2 : Int32, x2 = (v1 + (1 : Int32)) → (vp_in x2 L ∧ (∀ x4 : Int32, x4 = (xs x2.toNatClampNeg) → (∀ x5 : Int32, x5 = (v1 + (2 : Int32)) → (vp_in x5 L ∧ (∀ x7 : Int32, x7 = (xs x5.toNatClampNeg) → fX7_set 0 x4 x7 μ (fun r8 m9 => (∀ x10 : Int32, x10 = (v1 + (1 : Int32)) → (vp_in x10 L ∧ (∀ x12 : Int32, x12 = (xs x10.toNatClampNeg) → (∀ x13 : Int32, x13 = (v1 + (2 : Int32)) → (vp_in x13 L ∧ (∀ x15 : Int32, x15 = (xs x13.toNatClampNeg) → fX8_set 529 x12 x15 m9 (fun r16 m17 => ((r8 = r16 → fL_law_803 L xs k18   v1 m17) ∧ (¬ r8 = r16 → False))))))))))))))))
def fL_law_181 (L : Nat) (xs : Nat → Int32) (k18 : Int32 → zMem → Prop) (v1 : Int32) (μ : zMem) : Prop :=
  (∀ x19 : Int32, x19 = (v1 + (1 : Int32)) → (vp_in x19 L ∧ (∀ x21 : Int32, x21 = (xs x19.toNatClampNeg) → (∀ x22 : Int32, x22 = (v1 + (2 : Int32)) → (vp_in x22 L ∧ (∀ x24 : Int32, x24 = (xs x22.toNatClampNeg) → (∀ x25 : Int32, x25 = (v1 + (3 : Int32)) → (vp_in x25 L ∧ (∀ x27 : Int32, x27 = (xs x25.toNatClampNeg) → fX7_price 0 x21 x24 x27 μ (fun r28 m29 => (∀ x30 : Int32, x30 = (v1 + (1 : Int32)) → (vp_in x30 L ∧ (∀ x32 : Int32, x32 = (xs x30.toNatClampNeg) → (∀ x33 : Int32, x33 = (v1 + (2 : Int32)) → (vp_in x33 L ∧ (∀ x35 : Int32, x35 = (xs x33.toNatClampNeg) → (∀ x36 : Int32, x36 = (v1 + (3 : Int32)) → (vp_in x36 L ∧ (∀ x38 : Int32, x38 = (xs x36.toNatClampNeg) → fX8_price 529 x32 x35 x38 m29 (fun r39 m40 => ((r28 = r39 → fL_law_803 L xs k18   v1 m40) ∧ (¬ r28 = r39 → False))))))))))))))))))))))
def fL_law_224 (L : Nat) (xs : Nat → Int32) (k18 : Int32 → zMem → Prop) (v1 : Int32) (μ : zMem) : Prop :=
  fX7_person 0  μ (fun r42 m43 => fX8_person 529  m43 (fun r44 m45 => ((r42 = r44 → fL_law_803 L xs k18   v1 m45) ∧ (¬ r42 = r44 → False))))
def fL_law_237 (L : Nat) (xs : Nat → Int32) (k18 : Int32 → zMem → Prop) (v1 : Int32) (μ : zMem) : Prop :=
  (∀ x47 : Int32, x47 = (v1 + (1 : Int32)) → (vp_in x47 L ∧ (∀ x49 : Int32, x49 = (xs x47.toNatClampNeg) → (∀ x50 : Int32, x50 = (v1 + (2 : Int32)) → (vp_in x50 L ∧ (∀ x52 : Int32, x52 = (xs x50.toNatClampNeg) → fX7_vouchers 0 x49 x52 μ (fun r53 m54 => (∀ x55 : Int32, x55 = (v1 + (1 : Int32)) → (vp_in x55 L ∧ (∀ x57 : Int32, x57 = (xs x55.toNatClampNeg) → (∀ x58 : Int32, x58 = (v1 + (2 : Int32)) → (vp_in x58 L ∧ (∀ x60 : Int32, x60 = (xs x58.toNatClampNeg) → fX8_vouchers 529 x57 x60 m54 (fun r61 m62 => ((r53 = r61 → fL_law_803 L xs k18   v1 m62) ∧ (¬ r53 = r61 → False))))))))))))))))
def fL_law_270 (L : Nat) (xs : Nat → Int32) (k18 : Int32 → zMem → Prop) (v1 : Int32) (μ : zMem) : Prop :=
  (∀ x64 : Int32, x64 = (v1 + (1 : Int32)) → (vp_in x64 L ∧ (∀ x66 : Int32, x66 = (xs x64.toNatClampNeg) → (∀ x67 : Int32, x67 = (v1 + (2 : Int32)) → (vp_in x67 L ∧ (∀ x69 : Int32, x69 = (xs x67.toNatClampNeg) → (∀ x70 : Int32, x70 = (v1 + (3 : Int32)) → (vp_in x70 L ∧ (∀ x72 : Int32, x72 = (xs x70.toNatClampNeg) → fX7_order 0 x66 x69 x72 μ (fun r73 m74 => (∀ x75 : Int32, x75 = (v1 + (1 : Int32)) → (vp_in x75 L ∧ (∀ x77 : Int32, x77 = (xs x75.toNatClampNeg) → (∀ x78 : Int32, x78 = (v1 + (2 : Int32)) → (vp_in x78 L ∧ (∀ x80 : Int32, x80 = (xs x78.toNatClampNeg) → (∀ x81 : Int32, x81 = (v1 + (3 : Int32)) → (vp_in x81 L ∧ (∀ x83 : Int32, x83 = (xs x81.toNatClampNeg) → fX8_order 529 x77 x80 x83 m74 (fun r84 m85 => ((r73 = r84 → fL_law_803 L xs k18   v1 m85) ∧ (¬ r73 = r84 → False))))))))))))))))))))))
def fL_law_313 (L : Nat) (xs : Nat → Int32) (k18 : Int32 → zMem → Prop) (v1 : Int32) (μ : zMem) : Prop :=
  (∀ x87 : Int32, x87 = (v1 + (1 : Int32)) → (vp_in x87 L ∧ (∀ x89 : Int32, x89 = (xs x87.toNatClampNeg) → (∀ x90 : Int32, x90 = (v1 + (2 : Int32)) → (vp_in x90 L ∧ (∀ x92 : Int32, x92 = (xs x90.toNatClampNeg) → fX7_callOff 0 x89 x92 μ (fun r93 m94 => (∀ x95 : Int32, x95 = (v1 + (1 : Int32)) → (vp_in x95 L ∧ (∀ x97 : Int32, x97 = (xs x95.toNatClampNeg) → (∀ x98 : Int32, x98 = (v1 + (2 : Int32)) → (vp_in x98 L ∧ (∀ x100 : Int32, x100 = (xs x98.toNatClampNeg) → fX8_callOff 529 x97 x100 m94 (fun r101 m102 => ((r93 = r101 → fL_law_803 L xs k18   v1 m102) ∧ (¬ r93 = r101 → False))))))))))))))))
def fL_law_346 (L : Nat) (xs : Nat → Int32) (k18 : Int32 → zMem → Prop) (v1 : Int32) (μ : zMem) : Prop :=
  fX7_cook 0  μ (fun r104 m105 => fX8_cook 529  m105 (fun r106 m107 => ((r104 = r106 → fL_law_803 L xs k18   v1 m107) ∧ (¬ r104 = r106 → False))))
def fL_law_359 (L : Nat) (xs : Nat → Int32) (k18 : Int32 → zMem → Prop) (v1 : Int32) (μ : zMem) : Prop :=
  (∀ x109 : Int32, x109 = (v1 + (1 : Int32)) → (vp_in x109 L ∧ (∀ x111 : Int32, x111 = (xs x109.toNatClampNeg) → fX7_come 0 x111 μ (fun r112 m113 => (∀ x114 : Int32, x114 = (v1 + (1 : Int32)) → (vp_in x114 L ∧ (∀ x116 : Int32, x116 = (xs x114.toNatClampNeg) → fX8_come 529 x116 m113 (fun r117 m118 => ((r112 = r117 → fL_law_803 L xs k18   v1 m118) ∧ (¬ r112 = r117 → False))))))))))
def fL_law_382 (L : Nat) (xs : Nat → Int32) (k18 : Int32 → zMem → Prop) (v1 : Int32) (μ : zMem) : Prop :=
  (∀ x120 : Int32, x120 = (v1 + (1 : Int32)) → (vp_in x120 L ∧ (∀ x122 : Int32, x122 = (xs x120.toNatClampNeg) → (∀ x123 : Int32, x123 = (v1 + (2 : Int32)) → (vp_in x123 L ∧ (∀ x125 : Int32, x125 = (xs x123.toNatClampNeg) → fX7_buy 0 x122 x125 μ (fun r126 m127 => (∀ x128 : Int32, x128 = (v1 + (1 : Int32)) → (vp_in x128 L ∧ (∀ x130 : Int32, x130 = (xs x128.toNatClampNeg) → (∀ x131 : Int32, x131 = (v1 + (2 : Int32)) → (vp_in x131 L ∧ (∀ x133 : Int32, x133 = (xs x131.toNatClampNeg) → fX8_buy 529 x130 x133 m127 (fun r134 m135 => ((r126 = r134 → fL_law_803 L xs k18   v1 m135) ∧ (¬ r126 = r134 → False))))))))))))))))
def fL_law_415 (L : Nat) (xs : Nat → Int32) (k18 : Int32 → zMem → Prop) (v1 : Int32) (μ : zMem) : Prop :=
  fX7_close 0  μ (fun r137 m138 => fX8_close 529  m138 (fun r139 m140 => ((r137 = r139 → fL_law_803 L xs k18   v1 m140) ∧ (¬ r137 = r139 → False))))
def fL_law_428 (L : Nat) (xs : Nat → Int32) (k18 : Int32 → zMem → Prop) (v1 : Int32) (μ : zMem) : Prop :=
  (∀ x142 : Int32, x142 = (v1 + (1 : Int32)) → (vp_in x142 L ∧ (∀ x144 : Int32, x144 = (xs x142.toNatClampNeg) → (∀ x145 : Int32, x145 = (v1 + (2 : Int32)) → (vp_in x145 L ∧ (∀ x147 : Int32, x147 = (xs x145.toNatClampNeg) → fX7_of 0 x144 x147 μ (fun r148 m149 => (∀ x150 : Int32, x150 = (v1 + (1 : Int32)) → (vp_in x150 L ∧ (∀ x152 : Int32, x152 = (xs x150.toNatClampNeg) → (∀ x153 : Int32, x153 = (v1 + (2 : Int32)) → (vp_in x153 L ∧ (∀ x155 : Int32, x155 = (xs x153.toNatClampNeg) → fX8_of 529 x152 x155 m149 (fun r156 m157 => ((r148 = r156 → fL_law_803 L xs k18   v1 m157) ∧ (¬ r148 = r156 → False))))))))))))))))
def fL_law_461 (L : Nat) (xs : Nat → Int32) (k18 : Int32 → zMem → Prop) (v1 : Int32) (μ : zMem) : Prop :=
  (∀ x159 : Int32, x159 = (v1 + (1 : Int32)) → (vp_in x159 L ∧ (∀ x161 : Int32, x161 = (xs x159.toNatClampNeg) → (∀ x162 : Int32, x162 = (v1 + (2 : Int32)) → (vp_in x162 L ∧ (∀ x164 : Int32, x164 = (xs x162.toNatClampNeg) → fX7_ofDish 0 x161 x164 μ (fun r165 m166 => (∀ x167 : Int32, x167 = (v1 + (1 : Int32)) → (vp_in x167 L ∧ (∀ x169 : Int32, x169 = (xs x167.toNatClampNeg) → (∀ x170 : Int32, x170 = (v1 + (2 : Int32)) → (vp_in x170 L ∧ (∀ x172 : Int32, x172 = (xs x170.toNatClampNeg) → fX8_ofDish 529 x169 x172 m166 (fun r173 m174 => ((r165 = r173 → fL_law_803 L xs k18   v1 m174) ∧ (¬ r165 = r173 → False))))))))))))))))
def fL_law_494 (L : Nat) (xs : Nat → Int32) (k18 : Int32 → zMem → Prop) (v1 : Int32) (μ : zMem) : Prop :=
  (∀ x176 : Int32, x176 = (v1 + (1 : Int32)) → (vp_in x176 L ∧ (∀ x178 : Int32, x178 = (xs x176.toNatClampNeg) → (∀ x179 : Int32, x179 = (v1 + (2 : Int32)) → (vp_in x179 L ∧ (∀ x181 : Int32, x181 = (xs x179.toNatClampNeg) → fX7_ordered 0 x178 x181 μ (fun r182 m183 => (∀ x184 : Int32, x184 = (v1 + (1 : Int32)) → (vp_in x184 L ∧ (∀ x186 : Int32, x186 = (xs x184.toNatClampNeg) → (∀ x187 : Int32, x187 = (v1 + (2 : Int32)) → (vp_in x187 L ∧ (∀ x189 : Int32, x189 = (xs x187.toNatClampNeg) → fX8_ordered 529 x186 x189 m183 (fun r190 m191 => ((r182 = r190 → fL_law_803 L xs k18   v1 m191) ∧ (¬ r182 = r190 → False))))))))))))))))
def fL_law_527 (L : Nat) (xs : Nat → Int32) (k18 : Int32 → zMem → Prop) (v1 : Int32) (μ : zMem) : Prop :=
  (∀ x193 : Int32, x193 = (v1 + (1 : Int32)) → (vp_in x193 L ∧ (∀ x195 : Int32, x195 = (xs x193.toNatClampNeg) → fX7_count 0 x195 μ (fun r196 m197 => (∀ x198 : Int32, x198 = (v1 + (1 : Int32)) → (vp_in x198 L ∧ (∀ x200 : Int32, x200 = (xs x198.toNatClampNeg) → fX8_count 529 x200 m197 (fun r201 m202 => ((r196 = r201 → fL_law_803 L xs k18   v1 m202) ∧ (¬ r196 = r201 → False))))))))))
def fL_law_550 (L : Nat) (xs : Nat → Int32) (k18 : Int32 → zMem → Prop) (v1 : Int32) (μ : zMem) : Prop :=
  (∀ x204 : Int32, x204 = (v1 + (1 : Int32)) → (vp_in x204 L ∧ (∀ x206 : Int32, x206 = (xs x204.toNatClampNeg) → (∀ x207 : Int32, x207 = (v1 + (2 : Int32)) → (vp_in x207 L ∧ (∀ x209 : Int32, x209 = (xs x207.toNatClampNeg) → (∀ x210 : Int32, x210 = (v1 + (3 : Int32)) → (vp_in x210 L ∧ (∀ x212 : Int32, x212 = (xs x210.toNatClampNeg) → fX7_why 0 x206 x209 x212 μ (fun r213 m214 => (∀ x215 : Int32, x215 = (v1 + (1 : Int32)) → (vp_in x215 L ∧ (∀ x217 : Int32, x217 = (xs x215.toNatClampNeg) → (∀ x218 : Int32, x218 = (v1 + (2 : Int32)) → (vp_in x218 L ∧ (∀ x220 : Int32, x220 = (xs x218.toNatClampNeg) → (∀ x221 : Int32, x221 = (v1 + (3 : Int32)) → (vp_in x221 L ∧ (∀ x223 : Int32, x223 = (xs x221.toNatClampNeg) → fX8_why 529 x217 x220 x223 m214 (fun r224 m225 => ((r213 = r224 → fL_law_803 L xs k18   v1 m225) ∧ (¬ r213 = r224 → False))))))))))))))))))))))
def fL_law_593 (L : Nat) (xs : Nat → Int32) (k18 : Int32 → zMem → Prop) (v1 : Int32) (μ : zMem) : Prop :=
  (∀ x227 : Int32, x227 = (v1 + (1 : Int32)) → (vp_in x227 L ∧ (∀ x229 : Int32, x229 = (xs x227.toNatClampNeg) → fX7_unsurest 0 x229 μ (fun r230 m231 => (∀ x232 : Int32, x232 = (v1 + (1 : Int32)) → (vp_in x232 L ∧ (∀ x234 : Int32, x234 = (xs x232.toNatClampNeg) → fX8_unsurest 529 x234 m231 (fun r235 m236 => ((r230 = r235 → fL_law_803 L xs k18   v1 m236) ∧ (¬ r230 = r235 → False))))))))))
def fL_law_616 (L : Nat) (xs : Nat → Int32) (k18 : Int32 → zMem → Prop) (v1 : Int32) (μ : zMem) : Prop :=
  (∀ x238 : Int32, x238 = (v1 + (1 : Int32)) → (vp_in x238 L ∧ (∀ x240 : Int32, x240 = (xs x238.toNatClampNeg) → fX7_firstOrder 0 x240 μ (fun r241 m242 => (∀ x243 : Int32, x243 = (v1 + (1 : Int32)) → (vp_in x243 L ∧ (∀ x245 : Int32, x245 = (xs x243.toNatClampNeg) → fX8_firstOrder 529 x245 m242 (fun r246 m247 => ((r241 = r246 → fL_law_803 L xs k18   v1 m247) ∧ (¬ r241 = r246 → False))))))))))
def fL_law_639 (L : Nat) (xs : Nat → Int32) (k18 : Int32 → zMem → Prop) (v1 : Int32) (μ : zMem) : Prop :=
  fX7_wasted 0  μ (fun r249 m250 => fX8_wasted 529  m250 (fun r251 m252 => ((r249 = r251 → fL_law_803 L xs k18   v1 m252) ∧ (¬ r249 = r251 → False))))
def fL_law_652 (L : Nat) (xs : Nat → Int32) (k18 : Int32 → zMem → Prop) (v1 : Int32) (μ : zMem) : Prop :=
  (∀ x254 : Int32, x254 = (v1 + (1 : Int32)) → (vp_in x254 L ∧ (∀ x256 : Int32, x256 = (xs x254.toNatClampNeg) → (∀ x257 : Int64, x257 = (x256).toInt64 → (∀ x258 : Int64, x258 = (z_lshl x257 (32 : Int32)) → (∀ x259 : Int32, x259 = (v1 + (2 : Int32)) → (vp_in x259 L ∧ (∀ x261 : Int32, x261 = (xs x259.toNatClampNeg) → (∀ x262 : Int64, x262 = (x261).toInt64 → (∀ x263 : Int64, x263 = (x262 &&& (4294967295 : Int64)) → (∀ x264 : Int64, x264 = (x258 ||| x263) → fX7_put 0 x264 μ (fun r265 m266 => (∀ x267 : Int32, x267 = (v1 + (1 : Int32)) → (vp_in x267 L ∧ (∀ x269 : Int32, x269 = (xs x267.toNatClampNeg) → (∀ x270 : Int64, x270 = (x269).toInt64 → (∀ x271 : Int64, x271 = (z_lshl x270 (32 : Int32)) → (∀ x272 : Int32, x272 = (v1 + (2 : Int32)) → (vp_in x272 L ∧ (∀ x274 : Int32, x274 = (xs x272.toNatClampNeg) → (∀ x275 : Int64, x275 = (x274).toInt64 → (∀ x276 : Int64, x276 = (x275 &&& (4294967295 : Int64)) → (∀ x277 : Int64, x277 = (x271 ||| x276) → fX8_put 529 x277 m266 (fun r278 m279 => ((r265 = r278 → fL_law_803 L xs k18   v1 m279) ∧ (¬ r265 = r278 → False))))))))))))))))))))))))))
def fL_law_705 (L : Nat) (xs : Nat → Int32) (k18 : Int32 → zMem → Prop) (v1 : Int32) (μ : zMem) : Prop :=
  fX7_wipe 0  μ (fun r281 m282 => fX8_wipe 529  m282 (fun r283 m284 => ((r281 = r283 → fL_law_803 L xs k18   v1 m284) ∧ (¬ r281 = r283 → False))))
def fL_law_718 (L : Nat) (xs : Nat → Int32) (k18 : Int32 → zMem → Prop) (v1 : Int32) (μ : zMem) : Prop :=
  fX7_fault 0  μ (fun r286 m287 => fX8_fault 529  m287 (fun r288 m289 => ((r286 = r288 → fL_law_803 L xs k18   v1 m289) ∧ (¬ r286 = r288 → False))))
def fL_law_731 (L : Nat) (xs : Nat → Int32) (k18 : Int32 → zMem → Prop) (v1 : Int32) (μ : zMem) : Prop :=
  fX7_carryOut 0  μ (fun r291 m292 => fX8_carryOut 529  m292 (fun r293 m294 => ((r291 = r293 → fL_law_803 L xs k18   v1 m294) ∧ (¬ r291 = r293 → False))))
def fL_law_744 (L : Nat) (xs : Nat → Int32) (k18 : Int32 → zMem → Prop) (v1 : Int32) (μ : zMem) : Prop :=
  fX7_undo 0  μ (fun r296 m297 => fX8_undo 529  m297 (fun r298 m299 => ((r296 = r298 → fL_law_803 L xs k18   v1 m299) ∧ (¬ r296 = r298 → False))))
def fL_law_757 (L : Nat) (xs : Nat → Int32) (k18 : Int32 → zMem → Prop) (v1 : Int32) (μ : zMem) : Prop :=
  (∀ x301 : Int32, x301 = (v1 + (1 : Int32)) → (vp_in x301 L ∧ (∀ x303 : Int32, x303 = (xs x301.toNatClampNeg) → fX7_save 0 x303 μ (fun r304 m305 => (∀ x306 : Int32, x306 = (v1 + (1 : Int32)) → (vp_in x306 L ∧ (∀ x308 : Int32, x308 = (xs x306.toNatClampNeg) → fX8_save 529 x308 m305 (fun r309 m310 => ((r304 = r309 → fL_law_803 L xs k18   v1 m310) ∧ (¬ r304 = r309 → False))))))))))
def fL_law_780 (L : Nat) (xs : Nat → Int32) (k18 : Int32 → zMem → Prop) (v1 : Int32) (μ : zMem) : Prop :=
  (∀ x312 : Int32, x312 = (v1 + (1 : Int32)) → (vp_in x312 L ∧ (∀ x314 : Int32, x314 = (xs x312.toNatClampNeg) → fX7_restore 0 x314 μ (fun r315 m316 => (∀ x317 : Int32, x317 = (v1 + (1 : Int32)) → (vp_in x317 L ∧ (∀ x319 : Int32, x319 = (xs x317.toNatClampNeg) → fX8_restore 529 x319 m316 (fun r320 m321 => ((r315 = r320 → fL_law_803 L xs k18   v1 m321) ∧ (¬ r315 = r320 → False))))))))))
def fL_law_18b (L : Nat) (xs : Nat → Int32) (k18 : Int32 → zMem → Prop) (v1 : Int32) (μ : zMem) : Prop :=
  (∀ x323 : Int32, x323 = (Int32.ofNat L) → (∀ x324 : Int32, x324 = (x323 - (4 : Int32)) → ((x324 < v1 → True) ∧ (¬ x324 < v1 → (vp_in v1 L ∧ (∀ x327 : Int32, x327 = (xs v1.toNatClampNeg) → (∀ x328 : Int32, x328 = (x327 &&& (31 : Int32)) → ((x328 = (0 : Int32) → fL_law_148 L xs k18   v1 μ) ∧ (¬ x328 = (0 : Int32) → ((x328 = (1 : Int32) → fL_law_181 L xs k18   v1 μ) ∧ (¬ x328 = (1 : Int32) → ((x328 = (2 : Int32) → fL_law_224 L xs k18   v1 μ) ∧ (¬ x328 = (2 : Int32) → ((x328 = (3 : Int32) → fL_law_237 L xs k18   v1 μ) ∧ (¬ x328 = (3 : Int32) → ((x328 = (4 : Int32) → fL_law_270 L xs k18   v1 μ) ∧ (¬ x328 = (4 : Int32) → ((x328 = (5 : Int32) → fL_law_313 L xs k18   v1 μ) ∧ (¬ x328 = (5 : Int32) → ((x328 = (6 : Int32) → fL_law_346 L xs k18   v1 μ) ∧ (¬ x328 = (6 : Int32) → ((x328 = (7 : Int32) → fL_law_359 L xs k18   v1 μ) ∧ (¬ x328 = (7 : Int32) → ((x328 = (8 : Int32) → fL_law_382 L xs k18   v1 μ) ∧ (¬ x328 = (8 : Int32) → ((x328 = (9 : Int32) → fL_law_415 L xs k18   v1 μ) ∧ (¬ x328 = (9 : Int32) → ((x328 = (10 : Int32) → fL_law_428 L xs k18   v1 μ) ∧ (¬ x328 = (10 : Int32) → ((x328 = (11 : Int32) → fL_law_461 L xs k18   v1 μ) ∧ (¬ x328 = (11 : Int32) → ((x328 = (12 : Int32) → fL_law_494 L xs k18   v1 μ) ∧ (¬ x328 = (12 : Int32) → ((x328 = (13 : Int32) → fL_law_527 L xs k18   v1 μ) ∧ (¬ x328 = (13 : Int32) → ((x328 = (14 : Int32) → fL_law_550 L xs k18   v1 μ) ∧ (¬ x328 = (14 : Int32) → ((x328 = (15 : Int32) → fL_law_593 L xs k18   v1 μ) ∧ (¬ x328 = (15 : Int32) → ((x328 = (16 : Int32) → fL_law_616 L xs k18   v1 μ) ∧ (¬ x328 = (16 : Int32) → ((x328 = (17 : Int32) → fL_law_639 L xs k18   v1 μ) ∧ (¬ x328 = (17 : Int32) → ((x328 = (18 : Int32) → fL_law_652 L xs k18   v1 μ) ∧ (¬ x328 = (18 : Int32) → ((x328 = (19 : Int32) → fL_law_705 L xs k18   v1 μ) ∧ (¬ x328 = (19 : Int32) → ((x328 = (20 : Int32) → fL_law_718 L xs k18   v1 μ) ∧ (¬ x328 = (20 : Int32) → ((x328 = (21 : Int32) → fL_law_731 L xs k18   v1 μ) ∧ (¬ x328 = (21 : Int32) → ((x328 = (22 : Int32) → fL_law_744 L xs k18   v1 μ) ∧ (¬ x328 = (22 : Int32) → ((x328 = (23 : Int32) → fL_law_757 L xs k18   v1 μ) ∧ (¬ x328 = (23 : Int32) → ((x328 = (24 : Int32) → fL_law_780 L xs k18   v1 μ) ∧ (¬ x328 = (24 : Int32) → fL_law_803 L xs k18   v1 μ)))))))))))))))))))))))))))))))))))))))))))))))))))))))))
def fL_law_18 (L : Nat) (xs : Nat → Int32)  (n : Nat) : Int32 → zMem → Prop := z_it (fun k => fL_law_18b L xs  k ) (fun _ _ => False) n
set_option maxRecDepth 100000 in
set_option maxHeartbeats 4000000 in
theorem tL_law_803 {p : Program} {l : Launch} {e : Env} {s : State} {m : MethodId} {below : List Frame} {meth : Method} {c : Code} {G : zG} {b L : Nat} {xs : Nat → Int32} {k18 : Int32 → zMem → Prop} (o : za_Ok room_1 537 6387 p s m #[Value.ref b] meth c G RL cL_law 4 (some .boolean)) (hs : zScr b L xs s G) (hk18 : ∀ (v1 : Int32) (μ : zMem), k18 v1 μ → za_At p l e room_1 s m #[Value.ref b] below meth c (lw_Z below #[Value.ref b] s) G 4 537 6387 18 [(0, .ref b), (1, .ref (G.2.2 + 0)), (2, .ref (G.2.2 + 529)), (3, .int v1)] [] μ) (v1 : Int32) (μ : zMem)  (hf : fL_law_803 L xs k18 v1 μ) : za_At p l e room_1 s m #[Value.ref b] below meth c (lw_Z below #[Value.ref b] s) G 4 537 6387 803 [(0, .ref b), (1, .ref (G.2.2 + 0)), (2, .ref (G.2.2 + 529)), (3, .int v1)] [] μ := by
  unfold fL_law_803 at hf
  obtain ⟨x1, ex1⟩ : ∃ y : Int32, y = v1 + (4 : Int32) := ⟨_, rfl⟩
  replace hf := hf x1 ex1
  refine za_iinc o x1 3 [(3, .int x1), (0, .ref b), (1, .ref (G.2.2 + 0)), (2, .ref (G.2.2 + 529))] dL_law_803 rfl (by rw [ex1]; rfl) (by decide) rfl ?_
  refine za_goto o 18 dL_law_806 (by decide) ?_
  refine za_sub [1, 2, 3, 0] rfl ?_
  exact hk18 x1 μ  hf
set_option maxRecDepth 100000 in
set_option maxHeartbeats 4000000 in
theorem tL_law_148 {p : Program} {l : Launch} {e : Env} {s : State} {m : MethodId} {below : List Frame} {meth : Method} {c : Code} {G : zG} {b L : Nat} {xs : Nat → Int32} {k18 : Int32 → zMem → Prop} (o : za_Ok room_1 537 6387 p s m #[Value.ref b] meth c G RL cL_law 4 (some .boolean)) (hs : zScr b L xs s G) (hk18 : ∀ (v1 : Int32) (μ : zMem), k18 v1 μ → za_At p l e room_1 s m #[Value.ref b] below meth c (lw_Z below #[Value.ref b] s) G 4 537 6387 18 [(0, .ref b), (1, .ref (G.2.2 + 0)), (2, .ref (G.2.2 + 529)), (3, .int v1)] [] μ) (v1 : Int32) (μ : zMem)  (hf : fL_law_148 L xs k18 v1 μ) : za_At p l e room_1 s m #[Value.ref b] below meth c (lw_Z below #[Value.ref b] s) G 4 537 6387 148 [(0, .ref b), (1, .ref (G.2.2 + 0)), (2, .ref (G.2.2 + 529)), (3, .int v1)] [] μ := by
  unfold fL_law_148 at hf
  refine za_aload_n o 1 dL_law_148 rfl rfl ?_
  refine za_aload_n o 0 dL_law_149 rfl rfl ?_
  refine za_iload_n o 3 dL_law_150 rfl rfl ?_
  refine za_iconst (v := (1 : Int32)) o dL_law_151 (by decide) ?_
  refine za_iadd o dL_law_152 ?_
  refine za_topi (fun x2 ex2 => ?_)
  replace hf := hf x2 ex2
  obtain ⟨g3, hf⟩ := hf
  refine za_sld o hs g3 dL_law_153 ?_
  refine za_topi (fun x4 ex4 => ?_)
  replace hf := hf x4 ex4
  refine za_aload_n o 0 dL_law_154 rfl rfl ?_
  refine za_iload_n o 3 dL_law_155 rfl rfl ?_
  refine za_iconst (v := (2 : Int32)) o dL_law_156 (by decide) ?_
  refine za_iadd o dL_law_157 ?_
  refine za_topi (fun x5 ex5 => ?_)
  replace hf := hf x5 ex5
  obtain ⟨g6, hf⟩ := hf
  refine za_sld o hs g6 dL_law_158 ?_
  refine za_topi (fun x7 ex7 => ?_)
  replace hf := hf x7 ex7
  refine za_callVi o [.int x4, .int x7] (ctX7_set l G zk_c7 x4 x7  μ _ hf) zc7 zk_c7 mwX7_set wmL_13 wiX7_set wsX7_set rfl ⟨Nat.le_of_ble_eq_true rfl, Nat.le_of_ble_eq_true rfl⟩ rfl (Nat.le_of_ble_eq_true rfl) dL_law_159 (fun r8 m9 hf => ?_)
  refine za_aload_n o 2 dL_law_162 rfl rfl ?_
  refine za_aload_n o 0 dL_law_163 rfl rfl ?_
  refine za_iload_n o 3 dL_law_164 rfl rfl ?_
  refine za_iconst (v := (1 : Int32)) o dL_law_165 (by decide) ?_
  refine za_iadd o dL_law_166 ?_
  refine za_topi (fun x10 ex10 => ?_)
  replace hf := hf x10 ex10
  obtain ⟨g11, hf⟩ := hf
  refine za_sld o hs g11 dL_law_167 ?_
  refine za_topi (fun x12 ex12 => ?_)
  replace hf := hf x12 ex12
  refine za_aload_n o 0 dL_law_168 rfl rfl ?_
  refine za_iload_n o 3 dL_law_169 rfl rfl ?_
  refine za_iconst (v := (2 : Int32)) o dL_law_170 (by decide) ?_
  refine za_iadd o dL_law_171 ?_
  refine za_topi (fun x13 ex13 => ?_)
  replace hf := hf x13 ex13
  obtain ⟨g14, hf⟩ := hf
  refine za_sld o hs g14 dL_law_172 ?_
  refine za_topi (fun x15 ex15 => ?_)
  replace hf := hf x15 ex15
  refine za_callVi o [.int x12, .int x15] (ctX8_set l G zk_c8 x12 x15  m9 _ hf) zc8 zk_c8 mwX8_set wmL_17 wiX8_set wsX8_set rfl ⟨Nat.le_of_ble_eq_true rfl, Nat.le_of_ble_eq_true rfl⟩ rfl (Nat.le_of_ble_eq_true rfl) dL_law_173 (fun r16 m17 hf => ?_)
  refine za_icmp_eq o 803 dL_law_176 (by decide) (fun c18 => ?_) (fun c18 => ?_)
  · replace hf := hf.1 c18
    exact tL_law_803 o hs  hk18 v1 m17  hf
  · replace hf := hf.2 c18
    refine za_iconst (v := (0 : Int32)) o dL_law_179 (by decide) ?_
    exact hf.elim
set_option maxRecDepth 100000 in
set_option maxHeartbeats 4000000 in
theorem tL_law_181 {p : Program} {l : Launch} {e : Env} {s : State} {m : MethodId} {below : List Frame} {meth : Method} {c : Code} {G : zG} {b L : Nat} {xs : Nat → Int32} {k18 : Int32 → zMem → Prop} (o : za_Ok room_1 537 6387 p s m #[Value.ref b] meth c G RL cL_law 4 (some .boolean)) (hs : zScr b L xs s G) (hk18 : ∀ (v1 : Int32) (μ : zMem), k18 v1 μ → za_At p l e room_1 s m #[Value.ref b] below meth c (lw_Z below #[Value.ref b] s) G 4 537 6387 18 [(0, .ref b), (1, .ref (G.2.2 + 0)), (2, .ref (G.2.2 + 529)), (3, .int v1)] [] μ) (v1 : Int32) (μ : zMem)  (hf : fL_law_181 L xs k18 v1 μ) : za_At p l e room_1 s m #[Value.ref b] below meth c (lw_Z below #[Value.ref b] s) G 4 537 6387 181 [(0, .ref b), (1, .ref (G.2.2 + 0)), (2, .ref (G.2.2 + 529)), (3, .int v1)] [] μ := by
  unfold fL_law_181 at hf
  refine za_aload_n o 1 dL_law_181 rfl rfl ?_
  refine za_aload_n o 0 dL_law_182 rfl rfl ?_
  refine za_iload_n o 3 dL_law_183 rfl rfl ?_
  refine za_iconst (v := (1 : Int32)) o dL_law_184 (by decide) ?_
  refine za_iadd o dL_law_185 ?_
  refine za_topi (fun x19 ex19 => ?_)
  replace hf := hf x19 ex19
  obtain ⟨g20, hf⟩ := hf
  refine za_sld o hs g20 dL_law_186 ?_
  refine za_topi (fun x21 ex21 => ?_)
  replace hf := hf x21 ex21
  refine za_aload_n o 0 dL_law_187 rfl rfl ?_
  refine za_iload_n o 3 dL_law_188 rfl rfl ?_
  refine za_iconst (v := (2 : Int32)) o dL_law_189 (by decide) ?_
  refine za_iadd o dL_law_190 ?_
  refine za_topi (fun x22 ex22 => ?_)
  replace hf := hf x22 ex22
  obtain ⟨g23, hf⟩ := hf
  refine za_sld o hs g23 dL_law_191 ?_
  refine za_topi (fun x24 ex24 => ?_)
  replace hf := hf x24 ex24
  refine za_aload_n o 0 dL_law_192 rfl rfl ?_
  refine za_iload_n o 3 dL_law_193 rfl rfl ?_
  refine za_iconst (v := (3 : Int32)) o dL_law_194 (by decide) ?_
  refine za_iadd o dL_law_195 ?_
  refine za_topi (fun x25 ex25 => ?_)
  replace hf := hf x25 ex25
  obtain ⟨g26, hf⟩ := hf
  refine za_sld o hs g26 dL_law_196 ?_
  refine za_topi (fun x27 ex27 => ?_)
  replace hf := hf x27 ex27
  refine za_callVi o [.int x21, .int x24, .int x27] (ctX7_price l G zk_c7 x21 x24 x27  μ _ hf) zc7 zk_c7 mwX7_price wmL_18 wiX7_price wsX7_price rfl ⟨Nat.le_of_ble_eq_true rfl, Nat.le_of_ble_eq_true rfl⟩ rfl (Nat.le_of_ble_eq_true rfl) dL_law_197 (fun r28 m29 hf => ?_)
  refine za_aload_n o 2 dL_law_200 rfl rfl ?_
  refine za_aload_n o 0 dL_law_201 rfl rfl ?_
  refine za_iload_n o 3 dL_law_202 rfl rfl ?_
  refine za_iconst (v := (1 : Int32)) o dL_law_203 (by decide) ?_
  refine za_iadd o dL_law_204 ?_
  refine za_topi (fun x30 ex30 => ?_)
  replace hf := hf x30 ex30
  obtain ⟨g31, hf⟩ := hf
  refine za_sld o hs g31 dL_law_205 ?_
  refine za_topi (fun x32 ex32 => ?_)
  replace hf := hf x32 ex32
  refine za_aload_n o 0 dL_law_206 rfl rfl ?_
  refine za_iload_n o 3 dL_law_207 rfl rfl ?_
  refine za_iconst (v := (2 : Int32)) o dL_law_208 (by decide) ?_
  refine za_iadd o dL_law_209 ?_
  refine za_topi (fun x33 ex33 => ?_)
  replace hf := hf x33 ex33
  obtain ⟨g34, hf⟩ := hf
  refine za_sld o hs g34 dL_law_210 ?_
  refine za_topi (fun x35 ex35 => ?_)
  replace hf := hf x35 ex35
  refine za_aload_n o 0 dL_law_211 rfl rfl ?_
  refine za_iload_n o 3 dL_law_212 rfl rfl ?_
  refine za_iconst (v := (3 : Int32)) o dL_law_213 (by decide) ?_
  refine za_iadd o dL_law_214 ?_
  refine za_topi (fun x36 ex36 => ?_)
  replace hf := hf x36 ex36
  obtain ⟨g37, hf⟩ := hf
  refine za_sld o hs g37 dL_law_215 ?_
  refine za_topi (fun x38 ex38 => ?_)
  replace hf := hf x38 ex38
  refine za_callVi o [.int x32, .int x35, .int x38] (ctX8_price l G zk_c8 x32 x35 x38  m29 _ hf) zc8 zk_c8 mwX8_price wmL_22 wiX8_price wsX8_price rfl ⟨Nat.le_of_ble_eq_true rfl, Nat.le_of_ble_eq_true rfl⟩ rfl (Nat.le_of_ble_eq_true rfl) dL_law_216 (fun r39 m40 hf => ?_)
  refine za_icmp_eq o 803 dL_law_219 (by decide) (fun c41 => ?_) (fun c41 => ?_)
  · replace hf := hf.1 c41
    exact tL_law_803 o hs  hk18 v1 m40  hf
  · replace hf := hf.2 c41
    refine za_iconst (v := (0 : Int32)) o dL_law_222 (by decide) ?_
    exact hf.elim
set_option maxRecDepth 100000 in
set_option maxHeartbeats 4000000 in
theorem tL_law_224 {p : Program} {l : Launch} {e : Env} {s : State} {m : MethodId} {below : List Frame} {meth : Method} {c : Code} {G : zG} {b L : Nat} {xs : Nat → Int32} {k18 : Int32 → zMem → Prop} (o : za_Ok room_1 537 6387 p s m #[Value.ref b] meth c G RL cL_law 4 (some .boolean)) (hs : zScr b L xs s G) (hk18 : ∀ (v1 : Int32) (μ : zMem), k18 v1 μ → za_At p l e room_1 s m #[Value.ref b] below meth c (lw_Z below #[Value.ref b] s) G 4 537 6387 18 [(0, .ref b), (1, .ref (G.2.2 + 0)), (2, .ref (G.2.2 + 529)), (3, .int v1)] [] μ) (v1 : Int32) (μ : zMem)  (hf : fL_law_224 L xs k18 v1 μ) : za_At p l e room_1 s m #[Value.ref b] below meth c (lw_Z below #[Value.ref b] s) G 4 537 6387 224 [(0, .ref b), (1, .ref (G.2.2 + 0)), (2, .ref (G.2.2 + 529)), (3, .int v1)] [] μ := by
  unfold fL_law_224 at hf
  refine za_aload_n o 1 dL_law_224 rfl rfl ?_
  refine za_callVi o [] (ctX7_person l G zk_c7   μ _ hf) zc7 zk_c7 mwX7_person wmL_23 wiX7_person wsX7_person rfl ⟨Nat.le_of_ble_eq_true rfl, Nat.le_of_ble_eq_true rfl⟩ rfl (Nat.le_of_ble_eq_true rfl) dL_law_225 (fun r42 m43 hf => ?_)
  refine za_aload_n o 2 dL_law_228 rfl rfl ?_
  refine za_callVi o [] (ctX8_person l G zk_c8   m43 _ hf) zc8 zk_c8 mwX8_person wmL_27 wiX8_person wsX8_person rfl ⟨Nat.le_of_ble_eq_true rfl, Nat.le_of_ble_eq_true rfl⟩ rfl (Nat.le_of_ble_eq_true rfl) dL_law_229 (fun r44 m45 hf => ?_)
  refine za_icmp_eq o 803 dL_law_232 (by decide) (fun c46 => ?_) (fun c46 => ?_)
  · replace hf := hf.1 c46
    exact tL_law_803 o hs  hk18 v1 m45  hf
  · replace hf := hf.2 c46
    refine za_iconst (v := (0 : Int32)) o dL_law_235 (by decide) ?_
    exact hf.elim
set_option maxRecDepth 100000 in
set_option maxHeartbeats 4000000 in
theorem tL_law_237 {p : Program} {l : Launch} {e : Env} {s : State} {m : MethodId} {below : List Frame} {meth : Method} {c : Code} {G : zG} {b L : Nat} {xs : Nat → Int32} {k18 : Int32 → zMem → Prop} (o : za_Ok room_1 537 6387 p s m #[Value.ref b] meth c G RL cL_law 4 (some .boolean)) (hs : zScr b L xs s G) (hk18 : ∀ (v1 : Int32) (μ : zMem), k18 v1 μ → za_At p l e room_1 s m #[Value.ref b] below meth c (lw_Z below #[Value.ref b] s) G 4 537 6387 18 [(0, .ref b), (1, .ref (G.2.2 + 0)), (2, .ref (G.2.2 + 529)), (3, .int v1)] [] μ) (v1 : Int32) (μ : zMem)  (hf : fL_law_237 L xs k18 v1 μ) : za_At p l e room_1 s m #[Value.ref b] below meth c (lw_Z below #[Value.ref b] s) G 4 537 6387 237 [(0, .ref b), (1, .ref (G.2.2 + 0)), (2, .ref (G.2.2 + 529)), (3, .int v1)] [] μ := by
  unfold fL_law_237 at hf
  refine za_aload_n o 1 dL_law_237 rfl rfl ?_
  refine za_aload_n o 0 dL_law_238 rfl rfl ?_
  refine za_iload_n o 3 dL_law_239 rfl rfl ?_
  refine za_iconst (v := (1 : Int32)) o dL_law_240 (by decide) ?_
  refine za_iadd o dL_law_241 ?_
  refine za_topi (fun x47 ex47 => ?_)
  replace hf := hf x47 ex47
  obtain ⟨g48, hf⟩ := hf
  refine za_sld o hs g48 dL_law_242 ?_
  refine za_topi (fun x49 ex49 => ?_)
  replace hf := hf x49 ex49
  refine za_aload_n o 0 dL_law_243 rfl rfl ?_
  refine za_iload_n o 3 dL_law_244 rfl rfl ?_
  refine za_iconst (v := (2 : Int32)) o dL_law_245 (by decide) ?_
  refine za_iadd o dL_law_246 ?_
  refine za_topi (fun x50 ex50 => ?_)
  replace hf := hf x50 ex50
  obtain ⟨g51, hf⟩ := hf
  refine za_sld o hs g51 dL_law_247 ?_
  refine za_topi (fun x52 ex52 => ?_)
  replace hf := hf x52 ex52
  refine za_callVi o [.int x49, .int x52] (ctX7_vouchers l G zk_c7 x49 x52  μ _ hf) zc7 zk_c7 mwX7_vouchers wmL_28 wiX7_vouchers wsX7_vouchers rfl ⟨Nat.le_of_ble_eq_true rfl, Nat.le_of_ble_eq_true rfl⟩ rfl (Nat.le_of_ble_eq_true rfl) dL_law_248 (fun r53 m54 hf => ?_)
  refine za_aload_n o 2 dL_law_251 rfl rfl ?_
  refine za_aload_n o 0 dL_law_252 rfl rfl ?_
  refine za_iload_n o 3 dL_law_253 rfl rfl ?_
  refine za_iconst (v := (1 : Int32)) o dL_law_254 (by decide) ?_
  refine za_iadd o dL_law_255 ?_
  refine za_topi (fun x55 ex55 => ?_)
  replace hf := hf x55 ex55
  obtain ⟨g56, hf⟩ := hf
  refine za_sld o hs g56 dL_law_256 ?_
  refine za_topi (fun x57 ex57 => ?_)
  replace hf := hf x57 ex57
  refine za_aload_n o 0 dL_law_257 rfl rfl ?_
  refine za_iload_n o 3 dL_law_258 rfl rfl ?_
  refine za_iconst (v := (2 : Int32)) o dL_law_259 (by decide) ?_
  refine za_iadd o dL_law_260 ?_
  refine za_topi (fun x58 ex58 => ?_)
  replace hf := hf x58 ex58
  obtain ⟨g59, hf⟩ := hf
  refine za_sld o hs g59 dL_law_261 ?_
  refine za_topi (fun x60 ex60 => ?_)
  replace hf := hf x60 ex60
  refine za_callVi o [.int x57, .int x60] (ctX8_vouchers l G zk_c8 x57 x60  m54 _ hf) zc8 zk_c8 mwX8_vouchers wmL_31 wiX8_vouchers wsX8_vouchers rfl ⟨Nat.le_of_ble_eq_true rfl, Nat.le_of_ble_eq_true rfl⟩ rfl (Nat.le_of_ble_eq_true rfl) dL_law_262 (fun r61 m62 hf => ?_)
  refine za_icmp_eq o 803 dL_law_265 (by decide) (fun c63 => ?_) (fun c63 => ?_)
  · replace hf := hf.1 c63
    exact tL_law_803 o hs  hk18 v1 m62  hf
  · replace hf := hf.2 c63
    refine za_iconst (v := (0 : Int32)) o dL_law_268 (by decide) ?_
    exact hf.elim
set_option maxRecDepth 100000 in
set_option maxHeartbeats 4000000 in
theorem tL_law_270 {p : Program} {l : Launch} {e : Env} {s : State} {m : MethodId} {below : List Frame} {meth : Method} {c : Code} {G : zG} {b L : Nat} {xs : Nat → Int32} {k18 : Int32 → zMem → Prop} (o : za_Ok room_1 537 6387 p s m #[Value.ref b] meth c G RL cL_law 4 (some .boolean)) (hs : zScr b L xs s G) (hk18 : ∀ (v1 : Int32) (μ : zMem), k18 v1 μ → za_At p l e room_1 s m #[Value.ref b] below meth c (lw_Z below #[Value.ref b] s) G 4 537 6387 18 [(0, .ref b), (1, .ref (G.2.2 + 0)), (2, .ref (G.2.2 + 529)), (3, .int v1)] [] μ) (v1 : Int32) (μ : zMem)  (hf : fL_law_270 L xs k18 v1 μ) : za_At p l e room_1 s m #[Value.ref b] below meth c (lw_Z below #[Value.ref b] s) G 4 537 6387 270 [(0, .ref b), (1, .ref (G.2.2 + 0)), (2, .ref (G.2.2 + 529)), (3, .int v1)] [] μ := by
  unfold fL_law_270 at hf
  refine za_aload_n o 1 dL_law_270 rfl rfl ?_
  refine za_aload_n o 0 dL_law_271 rfl rfl ?_
  refine za_iload_n o 3 dL_law_272 rfl rfl ?_
  refine za_iconst (v := (1 : Int32)) o dL_law_273 (by decide) ?_
  refine za_iadd o dL_law_274 ?_
  refine za_topi (fun x64 ex64 => ?_)
  replace hf := hf x64 ex64
  obtain ⟨g65, hf⟩ := hf
  refine za_sld o hs g65 dL_law_275 ?_
  refine za_topi (fun x66 ex66 => ?_)
  replace hf := hf x66 ex66
  refine za_aload_n o 0 dL_law_276 rfl rfl ?_
  refine za_iload_n o 3 dL_law_277 rfl rfl ?_
  refine za_iconst (v := (2 : Int32)) o dL_law_278 (by decide) ?_
  refine za_iadd o dL_law_279 ?_
  refine za_topi (fun x67 ex67 => ?_)
  replace hf := hf x67 ex67
  obtain ⟨g68, hf⟩ := hf
  refine za_sld o hs g68 dL_law_280 ?_
  refine za_topi (fun x69 ex69 => ?_)
  replace hf := hf x69 ex69
  refine za_aload_n o 0 dL_law_281 rfl rfl ?_
  refine za_iload_n o 3 dL_law_282 rfl rfl ?_
  refine za_iconst (v := (3 : Int32)) o dL_law_283 (by decide) ?_
  refine za_iadd o dL_law_284 ?_
  refine za_topi (fun x70 ex70 => ?_)
  replace hf := hf x70 ex70
  obtain ⟨g71, hf⟩ := hf
  refine za_sld o hs g71 dL_law_285 ?_
  refine za_topi (fun x72 ex72 => ?_)
  replace hf := hf x72 ex72
  refine za_callVi o [.int x66, .int x69, .int x72] (ctX7_order l G zk_c7 x66 x69 x72  μ _ hf) zc7 zk_c7 mwX7_order wmL_32 wiX7_order wsX7_order rfl ⟨Nat.le_of_ble_eq_true rfl, Nat.le_of_ble_eq_true rfl⟩ rfl (Nat.le_of_ble_eq_true rfl) dL_law_286 (fun r73 m74 hf => ?_)
  refine za_aload_n o 2 dL_law_289 rfl rfl ?_
  refine za_aload_n o 0 dL_law_290 rfl rfl ?_
  refine za_iload_n o 3 dL_law_291 rfl rfl ?_
  refine za_iconst (v := (1 : Int32)) o dL_law_292 (by decide) ?_
  refine za_iadd o dL_law_293 ?_
  refine za_topi (fun x75 ex75 => ?_)
  replace hf := hf x75 ex75
  obtain ⟨g76, hf⟩ := hf
  refine za_sld o hs g76 dL_law_294 ?_
  refine za_topi (fun x77 ex77 => ?_)
  replace hf := hf x77 ex77
  refine za_aload_n o 0 dL_law_295 rfl rfl ?_
  refine za_iload_n o 3 dL_law_296 rfl rfl ?_
  refine za_iconst (v := (2 : Int32)) o dL_law_297 (by decide) ?_
  refine za_iadd o dL_law_298 ?_
  refine za_topi (fun x78 ex78 => ?_)
  replace hf := hf x78 ex78
  obtain ⟨g79, hf⟩ := hf
  refine za_sld o hs g79 dL_law_299 ?_
  refine za_topi (fun x80 ex80 => ?_)
  replace hf := hf x80 ex80
  refine za_aload_n o 0 dL_law_300 rfl rfl ?_
  refine za_iload_n o 3 dL_law_301 rfl rfl ?_
  refine za_iconst (v := (3 : Int32)) o dL_law_302 (by decide) ?_
  refine za_iadd o dL_law_303 ?_
  refine za_topi (fun x81 ex81 => ?_)
  replace hf := hf x81 ex81
  obtain ⟨g82, hf⟩ := hf
  refine za_sld o hs g82 dL_law_304 ?_
  refine za_topi (fun x83 ex83 => ?_)
  replace hf := hf x83 ex83
  refine za_callVi o [.int x77, .int x80, .int x83] (ctX8_order l G zk_c8 x77 x80 x83  m74 _ hf) zc8 zk_c8 mwX8_order wmL_35 wiX8_order wsX8_order rfl ⟨Nat.le_of_ble_eq_true rfl, Nat.le_of_ble_eq_true rfl⟩ rfl (Nat.le_of_ble_eq_true rfl) dL_law_305 (fun r84 m85 hf => ?_)
  refine za_icmp_eq o 803 dL_law_308 (by decide) (fun c86 => ?_) (fun c86 => ?_)
  · replace hf := hf.1 c86
    exact tL_law_803 o hs  hk18 v1 m85  hf
  · replace hf := hf.2 c86
    refine za_iconst (v := (0 : Int32)) o dL_law_311 (by decide) ?_
    exact hf.elim
set_option maxRecDepth 100000 in
set_option maxHeartbeats 4000000 in
theorem tL_law_313 {p : Program} {l : Launch} {e : Env} {s : State} {m : MethodId} {below : List Frame} {meth : Method} {c : Code} {G : zG} {b L : Nat} {xs : Nat → Int32} {k18 : Int32 → zMem → Prop} (o : za_Ok room_1 537 6387 p s m #[Value.ref b] meth c G RL cL_law 4 (some .boolean)) (hs : zScr b L xs s G) (hk18 : ∀ (v1 : Int32) (μ : zMem), k18 v1 μ → za_At p l e room_1 s m #[Value.ref b] below meth c (lw_Z below #[Value.ref b] s) G 4 537 6387 18 [(0, .ref b), (1, .ref (G.2.2 + 0)), (2, .ref (G.2.2 + 529)), (3, .int v1)] [] μ) (v1 : Int32) (μ : zMem)  (hf : fL_law_313 L xs k18 v1 μ) : za_At p l e room_1 s m #[Value.ref b] below meth c (lw_Z below #[Value.ref b] s) G 4 537 6387 313 [(0, .ref b), (1, .ref (G.2.2 + 0)), (2, .ref (G.2.2 + 529)), (3, .int v1)] [] μ := by
  unfold fL_law_313 at hf
  refine za_aload_n o 1 dL_law_313 rfl rfl ?_
  refine za_aload_n o 0 dL_law_314 rfl rfl ?_
  refine za_iload_n o 3 dL_law_315 rfl rfl ?_
  refine za_iconst (v := (1 : Int32)) o dL_law_316 (by decide) ?_
  refine za_iadd o dL_law_317 ?_
  refine za_topi (fun x87 ex87 => ?_)
  replace hf := hf x87 ex87
  obtain ⟨g88, hf⟩ := hf
  refine za_sld o hs g88 dL_law_318 ?_
  refine za_topi (fun x89 ex89 => ?_)
  replace hf := hf x89 ex89
  refine za_aload_n o 0 dL_law_319 rfl rfl ?_
  refine za_iload_n o 3 dL_law_320 rfl rfl ?_
  refine za_iconst (v := (2 : Int32)) o dL_law_321 (by decide) ?_
  refine za_iadd o dL_law_322 ?_
  refine za_topi (fun x90 ex90 => ?_)
  replace hf := hf x90 ex90
  obtain ⟨g91, hf⟩ := hf
  refine za_sld o hs g91 dL_law_323 ?_
  refine za_topi (fun x92 ex92 => ?_)
  replace hf := hf x92 ex92
  refine za_callVi o [.int x89, .int x92] (ctX7_callOff l G zk_c7 x89 x92  μ _ hf) zc7 zk_c7 mwX7_callOff wmL_36 wiX7_callOff wsX7_callOff rfl ⟨Nat.le_of_ble_eq_true rfl, Nat.le_of_ble_eq_true rfl⟩ rfl (Nat.le_of_ble_eq_true rfl) dL_law_324 (fun r93 m94 hf => ?_)
  refine za_aload_n o 2 dL_law_327 rfl rfl ?_
  refine za_aload_n o 0 dL_law_328 rfl rfl ?_
  refine za_iload_n o 3 dL_law_329 rfl rfl ?_
  refine za_iconst (v := (1 : Int32)) o dL_law_330 (by decide) ?_
  refine za_iadd o dL_law_331 ?_
  refine za_topi (fun x95 ex95 => ?_)
  replace hf := hf x95 ex95
  obtain ⟨g96, hf⟩ := hf
  refine za_sld o hs g96 dL_law_332 ?_
  refine za_topi (fun x97 ex97 => ?_)
  replace hf := hf x97 ex97
  refine za_aload_n o 0 dL_law_333 rfl rfl ?_
  refine za_iload_n o 3 dL_law_334 rfl rfl ?_
  refine za_iconst (v := (2 : Int32)) o dL_law_335 (by decide) ?_
  refine za_iadd o dL_law_336 ?_
  refine za_topi (fun x98 ex98 => ?_)
  replace hf := hf x98 ex98
  obtain ⟨g99, hf⟩ := hf
  refine za_sld o hs g99 dL_law_337 ?_
  refine za_topi (fun x100 ex100 => ?_)
  replace hf := hf x100 ex100
  refine za_callVi o [.int x97, .int x100] (ctX8_callOff l G zk_c8 x97 x100  m94 _ hf) zc8 zk_c8 mwX8_callOff wmL_39 wiX8_callOff wsX8_callOff rfl ⟨Nat.le_of_ble_eq_true rfl, Nat.le_of_ble_eq_true rfl⟩ rfl (Nat.le_of_ble_eq_true rfl) dL_law_338 (fun r101 m102 hf => ?_)
  refine za_icmp_eq o 803 dL_law_341 (by decide) (fun c103 => ?_) (fun c103 => ?_)
  · replace hf := hf.1 c103
    exact tL_law_803 o hs  hk18 v1 m102  hf
  · replace hf := hf.2 c103
    refine za_iconst (v := (0 : Int32)) o dL_law_344 (by decide) ?_
    exact hf.elim
set_option maxRecDepth 100000 in
set_option maxHeartbeats 4000000 in
theorem tL_law_346 {p : Program} {l : Launch} {e : Env} {s : State} {m : MethodId} {below : List Frame} {meth : Method} {c : Code} {G : zG} {b L : Nat} {xs : Nat → Int32} {k18 : Int32 → zMem → Prop} (o : za_Ok room_1 537 6387 p s m #[Value.ref b] meth c G RL cL_law 4 (some .boolean)) (hs : zScr b L xs s G) (hk18 : ∀ (v1 : Int32) (μ : zMem), k18 v1 μ → za_At p l e room_1 s m #[Value.ref b] below meth c (lw_Z below #[Value.ref b] s) G 4 537 6387 18 [(0, .ref b), (1, .ref (G.2.2 + 0)), (2, .ref (G.2.2 + 529)), (3, .int v1)] [] μ) (v1 : Int32) (μ : zMem)  (hf : fL_law_346 L xs k18 v1 μ) : za_At p l e room_1 s m #[Value.ref b] below meth c (lw_Z below #[Value.ref b] s) G 4 537 6387 346 [(0, .ref b), (1, .ref (G.2.2 + 0)), (2, .ref (G.2.2 + 529)), (3, .int v1)] [] μ := by
  unfold fL_law_346 at hf
  refine za_aload_n o 1 dL_law_346 rfl rfl ?_
  refine za_callVi o [] (ctX7_cook l G zk_c7   μ _ hf) zc7 zk_c7 mwX7_cook wmL_40 wiX7_cook wsX7_cook rfl ⟨Nat.le_of_ble_eq_true rfl, Nat.le_of_ble_eq_true rfl⟩ rfl (Nat.le_of_ble_eq_true rfl) dL_law_347 (fun r104 m105 hf => ?_)
  refine za_aload_n o 2 dL_law_350 rfl rfl ?_
  refine za_callVi o [] (ctX8_cook l G zk_c8   m105 _ hf) zc8 zk_c8 mwX8_cook wmL_43 wiX8_cook wsX8_cook rfl ⟨Nat.le_of_ble_eq_true rfl, Nat.le_of_ble_eq_true rfl⟩ rfl (Nat.le_of_ble_eq_true rfl) dL_law_351 (fun r106 m107 hf => ?_)
  refine za_icmp_eq o 803 dL_law_354 (by decide) (fun c108 => ?_) (fun c108 => ?_)
  · replace hf := hf.1 c108
    exact tL_law_803 o hs  hk18 v1 m107  hf
  · replace hf := hf.2 c108
    refine za_iconst (v := (0 : Int32)) o dL_law_357 (by decide) ?_
    exact hf.elim
set_option maxRecDepth 100000 in
set_option maxHeartbeats 4000000 in
theorem tL_law_359 {p : Program} {l : Launch} {e : Env} {s : State} {m : MethodId} {below : List Frame} {meth : Method} {c : Code} {G : zG} {b L : Nat} {xs : Nat → Int32} {k18 : Int32 → zMem → Prop} (o : za_Ok room_1 537 6387 p s m #[Value.ref b] meth c G RL cL_law 4 (some .boolean)) (hs : zScr b L xs s G) (hk18 : ∀ (v1 : Int32) (μ : zMem), k18 v1 μ → za_At p l e room_1 s m #[Value.ref b] below meth c (lw_Z below #[Value.ref b] s) G 4 537 6387 18 [(0, .ref b), (1, .ref (G.2.2 + 0)), (2, .ref (G.2.2 + 529)), (3, .int v1)] [] μ) (v1 : Int32) (μ : zMem)  (hf : fL_law_359 L xs k18 v1 μ) : za_At p l e room_1 s m #[Value.ref b] below meth c (lw_Z below #[Value.ref b] s) G 4 537 6387 359 [(0, .ref b), (1, .ref (G.2.2 + 0)), (2, .ref (G.2.2 + 529)), (3, .int v1)] [] μ := by
  unfold fL_law_359 at hf
  refine za_aload_n o 1 dL_law_359 rfl rfl ?_
  refine za_aload_n o 0 dL_law_360 rfl rfl ?_
  refine za_iload_n o 3 dL_law_361 rfl rfl ?_
  refine za_iconst (v := (1 : Int32)) o dL_law_362 (by decide) ?_
  refine za_iadd o dL_law_363 ?_
  refine za_topi (fun x109 ex109 => ?_)
  replace hf := hf x109 ex109
  obtain ⟨g110, hf⟩ := hf
  refine za_sld o hs g110 dL_law_364 ?_
  refine za_topi (fun x111 ex111 => ?_)
  replace hf := hf x111 ex111
  refine za_callVi o [.int x111] (ctX7_come l G zk_c7 x111  μ _ hf) zc7 zk_c7 mwX7_come wmL_44 wiX7_come wsX7_come rfl ⟨Nat.le_of_ble_eq_true rfl, Nat.le_of_ble_eq_true rfl⟩ rfl (Nat.le_of_ble_eq_true rfl) dL_law_365 (fun r112 m113 hf => ?_)
  refine za_aload_n o 2 dL_law_368 rfl rfl ?_
  refine za_aload_n o 0 dL_law_369 rfl rfl ?_
  refine za_iload_n o 3 dL_law_370 rfl rfl ?_
  refine za_iconst (v := (1 : Int32)) o dL_law_371 (by decide) ?_
  refine za_iadd o dL_law_372 ?_
  refine za_topi (fun x114 ex114 => ?_)
  replace hf := hf x114 ex114
  obtain ⟨g115, hf⟩ := hf
  refine za_sld o hs g115 dL_law_373 ?_
  refine za_topi (fun x116 ex116 => ?_)
  replace hf := hf x116 ex116
  refine za_callVi o [.int x116] (ctX8_come l G zk_c8 x116  m113 _ hf) zc8 zk_c8 mwX8_come wmL_48 wiX8_come wsX8_come rfl ⟨Nat.le_of_ble_eq_true rfl, Nat.le_of_ble_eq_true rfl⟩ rfl (Nat.le_of_ble_eq_true rfl) dL_law_374 (fun r117 m118 hf => ?_)
  refine za_icmp_eq o 803 dL_law_377 (by decide) (fun c119 => ?_) (fun c119 => ?_)
  · replace hf := hf.1 c119
    exact tL_law_803 o hs  hk18 v1 m118  hf
  · replace hf := hf.2 c119
    refine za_iconst (v := (0 : Int32)) o dL_law_380 (by decide) ?_
    exact hf.elim
set_option maxRecDepth 100000 in
set_option maxHeartbeats 4000000 in
theorem tL_law_382 {p : Program} {l : Launch} {e : Env} {s : State} {m : MethodId} {below : List Frame} {meth : Method} {c : Code} {G : zG} {b L : Nat} {xs : Nat → Int32} {k18 : Int32 → zMem → Prop} (o : za_Ok room_1 537 6387 p s m #[Value.ref b] meth c G RL cL_law 4 (some .boolean)) (hs : zScr b L xs s G) (hk18 : ∀ (v1 : Int32) (μ : zMem), k18 v1 μ → za_At p l e room_1 s m #[Value.ref b] below meth c (lw_Z below #[Value.ref b] s) G 4 537 6387 18 [(0, .ref b), (1, .ref (G.2.2 + 0)), (2, .ref (G.2.2 + 529)), (3, .int v1)] [] μ) (v1 : Int32) (μ : zMem)  (hf : fL_law_382 L xs k18 v1 μ) : za_At p l e room_1 s m #[Value.ref b] below meth c (lw_Z below #[Value.ref b] s) G 4 537 6387 382 [(0, .ref b), (1, .ref (G.2.2 + 0)), (2, .ref (G.2.2 + 529)), (3, .int v1)] [] μ := by
  unfold fL_law_382 at hf
  refine za_aload_n o 1 dL_law_382 rfl rfl ?_
  refine za_aload_n o 0 dL_law_383 rfl rfl ?_
  refine za_iload_n o 3 dL_law_384 rfl rfl ?_
  refine za_iconst (v := (1 : Int32)) o dL_law_385 (by decide) ?_
  refine za_iadd o dL_law_386 ?_
  refine za_topi (fun x120 ex120 => ?_)
  replace hf := hf x120 ex120
  obtain ⟨g121, hf⟩ := hf
  refine za_sld o hs g121 dL_law_387 ?_
  refine za_topi (fun x122 ex122 => ?_)
  replace hf := hf x122 ex122
  refine za_aload_n o 0 dL_law_388 rfl rfl ?_
  refine za_iload_n o 3 dL_law_389 rfl rfl ?_
  refine za_iconst (v := (2 : Int32)) o dL_law_390 (by decide) ?_
  refine za_iadd o dL_law_391 ?_
  refine za_topi (fun x123 ex123 => ?_)
  replace hf := hf x123 ex123
  obtain ⟨g124, hf⟩ := hf
  refine za_sld o hs g124 dL_law_392 ?_
  refine za_topi (fun x125 ex125 => ?_)
  replace hf := hf x125 ex125
  refine za_callVi o [.int x122, .int x125] (ctX7_buy l G zk_c7 x122 x125  μ _ hf) zc7 zk_c7 mwX7_buy wmL_49 wiX7_buy wsX7_buy rfl ⟨Nat.le_of_ble_eq_true rfl, Nat.le_of_ble_eq_true rfl⟩ rfl (Nat.le_of_ble_eq_true rfl) dL_law_393 (fun r126 m127 hf => ?_)
  refine za_aload_n o 2 dL_law_396 rfl rfl ?_
  refine za_aload_n o 0 dL_law_397 rfl rfl ?_
  refine za_iload_n o 3 dL_law_398 rfl rfl ?_
  refine za_iconst (v := (1 : Int32)) o dL_law_399 (by decide) ?_
  refine za_iadd o dL_law_400 ?_
  refine za_topi (fun x128 ex128 => ?_)
  replace hf := hf x128 ex128
  obtain ⟨g129, hf⟩ := hf
  refine za_sld o hs g129 dL_law_401 ?_
  refine za_topi (fun x130 ex130 => ?_)
  replace hf := hf x130 ex130
  refine za_aload_n o 0 dL_law_402 rfl rfl ?_
  refine za_iload_n o 3 dL_law_403 rfl rfl ?_
  refine za_iconst (v := (2 : Int32)) o dL_law_404 (by decide) ?_
  refine za_iadd o dL_law_405 ?_
  refine za_topi (fun x131 ex131 => ?_)
  replace hf := hf x131 ex131
  obtain ⟨g132, hf⟩ := hf
  refine za_sld o hs g132 dL_law_406 ?_
  refine za_topi (fun x133 ex133 => ?_)
  replace hf := hf x133 ex133
  refine za_callVi o [.int x130, .int x133] (ctX8_buy l G zk_c8 x130 x133  m127 _ hf) zc8 zk_c8 mwX8_buy wmL_52 wiX8_buy wsX8_buy rfl ⟨Nat.le_of_ble_eq_true rfl, Nat.le_of_ble_eq_true rfl⟩ rfl (Nat.le_of_ble_eq_true rfl) dL_law_407 (fun r134 m135 hf => ?_)
  refine za_icmp_eq o 803 dL_law_410 (by decide) (fun c136 => ?_) (fun c136 => ?_)
  · replace hf := hf.1 c136
    exact tL_law_803 o hs  hk18 v1 m135  hf
  · replace hf := hf.2 c136
    refine za_iconst (v := (0 : Int32)) o dL_law_413 (by decide) ?_
    exact hf.elim
set_option maxRecDepth 100000 in
set_option maxHeartbeats 4000000 in
theorem tL_law_415 {p : Program} {l : Launch} {e : Env} {s : State} {m : MethodId} {below : List Frame} {meth : Method} {c : Code} {G : zG} {b L : Nat} {xs : Nat → Int32} {k18 : Int32 → zMem → Prop} (o : za_Ok room_1 537 6387 p s m #[Value.ref b] meth c G RL cL_law 4 (some .boolean)) (hs : zScr b L xs s G) (hk18 : ∀ (v1 : Int32) (μ : zMem), k18 v1 μ → za_At p l e room_1 s m #[Value.ref b] below meth c (lw_Z below #[Value.ref b] s) G 4 537 6387 18 [(0, .ref b), (1, .ref (G.2.2 + 0)), (2, .ref (G.2.2 + 529)), (3, .int v1)] [] μ) (v1 : Int32) (μ : zMem)  (hf : fL_law_415 L xs k18 v1 μ) : za_At p l e room_1 s m #[Value.ref b] below meth c (lw_Z below #[Value.ref b] s) G 4 537 6387 415 [(0, .ref b), (1, .ref (G.2.2 + 0)), (2, .ref (G.2.2 + 529)), (3, .int v1)] [] μ := by
  unfold fL_law_415 at hf
  refine za_aload_n o 1 dL_law_415 rfl rfl ?_
  refine za_callVi o [] (ctX7_close l G zk_c7   μ _ hf) zc7 zk_c7 mwX7_close wmL_53 wiX7_close wsX7_close rfl ⟨Nat.le_of_ble_eq_true rfl, Nat.le_of_ble_eq_true rfl⟩ rfl (Nat.le_of_ble_eq_true rfl) dL_law_416 (fun r137 m138 hf => ?_)
  refine za_aload_n o 2 dL_law_419 rfl rfl ?_
  refine za_callVi o [] (ctX8_close l G zk_c8   m138 _ hf) zc8 zk_c8 mwX8_close wmL_56 wiX8_close wsX8_close rfl ⟨Nat.le_of_ble_eq_true rfl, Nat.le_of_ble_eq_true rfl⟩ rfl (Nat.le_of_ble_eq_true rfl) dL_law_420 (fun r139 m140 hf => ?_)
  refine za_icmp_eq o 803 dL_law_423 (by decide) (fun c141 => ?_) (fun c141 => ?_)
  · replace hf := hf.1 c141
    exact tL_law_803 o hs  hk18 v1 m140  hf
  · replace hf := hf.2 c141
    refine za_iconst (v := (0 : Int32)) o dL_law_426 (by decide) ?_
    exact hf.elim
set_option maxRecDepth 100000 in
set_option maxHeartbeats 4000000 in
theorem tL_law_428 {p : Program} {l : Launch} {e : Env} {s : State} {m : MethodId} {below : List Frame} {meth : Method} {c : Code} {G : zG} {b L : Nat} {xs : Nat → Int32} {k18 : Int32 → zMem → Prop} (o : za_Ok room_1 537 6387 p s m #[Value.ref b] meth c G RL cL_law 4 (some .boolean)) (hs : zScr b L xs s G) (hk18 : ∀ (v1 : Int32) (μ : zMem), k18 v1 μ → za_At p l e room_1 s m #[Value.ref b] below meth c (lw_Z below #[Value.ref b] s) G 4 537 6387 18 [(0, .ref b), (1, .ref (G.2.2 + 0)), (2, .ref (G.2.2 + 529)), (3, .int v1)] [] μ) (v1 : Int32) (μ : zMem)  (hf : fL_law_428 L xs k18 v1 μ) : za_At p l e room_1 s m #[Value.ref b] below meth c (lw_Z below #[Value.ref b] s) G 4 537 6387 428 [(0, .ref b), (1, .ref (G.2.2 + 0)), (2, .ref (G.2.2 + 529)), (3, .int v1)] [] μ := by
  unfold fL_law_428 at hf
  refine za_aload_n o 1 dL_law_428 rfl rfl ?_
  refine za_aload_n o 0 dL_law_429 rfl rfl ?_
  refine za_iload_n o 3 dL_law_430 rfl rfl ?_
  refine za_iconst (v := (1 : Int32)) o dL_law_431 (by decide) ?_
  refine za_iadd o dL_law_432 ?_
  refine za_topi (fun x142 ex142 => ?_)
  replace hf := hf x142 ex142
  obtain ⟨g143, hf⟩ := hf
  refine za_sld o hs g143 dL_law_433 ?_
  refine za_topi (fun x144 ex144 => ?_)
  replace hf := hf x144 ex144
  refine za_aload_n o 0 dL_law_434 rfl rfl ?_
  refine za_iload_n o 3 dL_law_435 rfl rfl ?_
  refine za_iconst (v := (2 : Int32)) o dL_law_436 (by decide) ?_
  refine za_iadd o dL_law_437 ?_
  refine za_topi (fun x145 ex145 => ?_)
  replace hf := hf x145 ex145
  obtain ⟨g146, hf⟩ := hf
  refine za_sld o hs g146 dL_law_438 ?_
  refine za_topi (fun x147 ex147 => ?_)
  replace hf := hf x147 ex147
  refine za_callVi o [.int x144, .int x147] (ctX7_of l G zk_c7 x144 x147  μ _ hf) zc7 zk_c7 mwX7_of wmL_57 wiX7_of wsX7_of rfl ⟨Nat.le_of_ble_eq_true rfl, Nat.le_of_ble_eq_true rfl⟩ rfl (Nat.le_of_ble_eq_true rfl) dL_law_439 (fun r148 m149 hf => ?_)
  refine za_aload_n o 2 dL_law_442 rfl rfl ?_
  refine za_aload_n o 0 dL_law_443 rfl rfl ?_
  refine za_iload_n o 3 dL_law_444 rfl rfl ?_
  refine za_iconst (v := (1 : Int32)) o dL_law_445 (by decide) ?_
  refine za_iadd o dL_law_446 ?_
  refine za_topi (fun x150 ex150 => ?_)
  replace hf := hf x150 ex150
  obtain ⟨g151, hf⟩ := hf
  refine za_sld o hs g151 dL_law_447 ?_
  refine za_topi (fun x152 ex152 => ?_)
  replace hf := hf x152 ex152
  refine za_aload_n o 0 dL_law_448 rfl rfl ?_
  refine za_iload_n o 3 dL_law_449 rfl rfl ?_
  refine za_iconst (v := (2 : Int32)) o dL_law_450 (by decide) ?_
  refine za_iadd o dL_law_451 ?_
  refine za_topi (fun x153 ex153 => ?_)
  replace hf := hf x153 ex153
  obtain ⟨g154, hf⟩ := hf
  refine za_sld o hs g154 dL_law_452 ?_
  refine za_topi (fun x155 ex155 => ?_)
  replace hf := hf x155 ex155
  refine za_callVi o [.int x152, .int x155] (ctX8_of l G zk_c8 x152 x155  m149 _ hf) zc8 zk_c8 mwX8_of wmL_60 wiX8_of wsX8_of rfl ⟨Nat.le_of_ble_eq_true rfl, Nat.le_of_ble_eq_true rfl⟩ rfl (Nat.le_of_ble_eq_true rfl) dL_law_453 (fun r156 m157 hf => ?_)
  refine za_icmp_eq o 803 dL_law_456 (by decide) (fun c158 => ?_) (fun c158 => ?_)
  · replace hf := hf.1 c158
    exact tL_law_803 o hs  hk18 v1 m157  hf
  · replace hf := hf.2 c158
    refine za_iconst (v := (0 : Int32)) o dL_law_459 (by decide) ?_
    exact hf.elim
set_option maxRecDepth 100000 in
set_option maxHeartbeats 4000000 in
theorem tL_law_461 {p : Program} {l : Launch} {e : Env} {s : State} {m : MethodId} {below : List Frame} {meth : Method} {c : Code} {G : zG} {b L : Nat} {xs : Nat → Int32} {k18 : Int32 → zMem → Prop} (o : za_Ok room_1 537 6387 p s m #[Value.ref b] meth c G RL cL_law 4 (some .boolean)) (hs : zScr b L xs s G) (hk18 : ∀ (v1 : Int32) (μ : zMem), k18 v1 μ → za_At p l e room_1 s m #[Value.ref b] below meth c (lw_Z below #[Value.ref b] s) G 4 537 6387 18 [(0, .ref b), (1, .ref (G.2.2 + 0)), (2, .ref (G.2.2 + 529)), (3, .int v1)] [] μ) (v1 : Int32) (μ : zMem)  (hf : fL_law_461 L xs k18 v1 μ) : za_At p l e room_1 s m #[Value.ref b] below meth c (lw_Z below #[Value.ref b] s) G 4 537 6387 461 [(0, .ref b), (1, .ref (G.2.2 + 0)), (2, .ref (G.2.2 + 529)), (3, .int v1)] [] μ := by
  unfold fL_law_461 at hf
  refine za_aload_n o 1 dL_law_461 rfl rfl ?_
  refine za_aload_n o 0 dL_law_462 rfl rfl ?_
  refine za_iload_n o 3 dL_law_463 rfl rfl ?_
  refine za_iconst (v := (1 : Int32)) o dL_law_464 (by decide) ?_
  refine za_iadd o dL_law_465 ?_
  refine za_topi (fun x159 ex159 => ?_)
  replace hf := hf x159 ex159
  obtain ⟨g160, hf⟩ := hf
  refine za_sld o hs g160 dL_law_466 ?_
  refine za_topi (fun x161 ex161 => ?_)
  replace hf := hf x161 ex161
  refine za_aload_n o 0 dL_law_467 rfl rfl ?_
  refine za_iload_n o 3 dL_law_468 rfl rfl ?_
  refine za_iconst (v := (2 : Int32)) o dL_law_469 (by decide) ?_
  refine za_iadd o dL_law_470 ?_
  refine za_topi (fun x162 ex162 => ?_)
  replace hf := hf x162 ex162
  obtain ⟨g163, hf⟩ := hf
  refine za_sld o hs g163 dL_law_471 ?_
  refine za_topi (fun x164 ex164 => ?_)
  replace hf := hf x164 ex164
  refine za_callVi o [.int x161, .int x164] (ctX7_ofDish l G zk_c7 x161 x164  μ _ hf) zc7 zk_c7 mwX7_ofDish wmL_61 wiX7_ofDish wsX7_ofDish rfl ⟨Nat.le_of_ble_eq_true rfl, Nat.le_of_ble_eq_true rfl⟩ rfl (Nat.le_of_ble_eq_true rfl) dL_law_472 (fun r165 m166 hf => ?_)
  refine za_aload_n o 2 dL_law_475 rfl rfl ?_
  refine za_aload_n o 0 dL_law_476 rfl rfl ?_
  refine za_iload_n o 3 dL_law_477 rfl rfl ?_
  refine za_iconst (v := (1 : Int32)) o dL_law_478 (by decide) ?_
  refine za_iadd o dL_law_479 ?_
  refine za_topi (fun x167 ex167 => ?_)
  replace hf := hf x167 ex167
  obtain ⟨g168, hf⟩ := hf
  refine za_sld o hs g168 dL_law_480 ?_
  refine za_topi (fun x169 ex169 => ?_)
  replace hf := hf x169 ex169
  refine za_aload_n o 0 dL_law_481 rfl rfl ?_
  refine za_iload_n o 3 dL_law_482 rfl rfl ?_
  refine za_iconst (v := (2 : Int32)) o dL_law_483 (by decide) ?_
  refine za_iadd o dL_law_484 ?_
  refine za_topi (fun x170 ex170 => ?_)
  replace hf := hf x170 ex170
  obtain ⟨g171, hf⟩ := hf
  refine za_sld o hs g171 dL_law_485 ?_
  refine za_topi (fun x172 ex172 => ?_)
  replace hf := hf x172 ex172
  refine za_callVi o [.int x169, .int x172] (ctX8_ofDish l G zk_c8 x169 x172  m166 _ hf) zc8 zk_c8 mwX8_ofDish wmL_64 wiX8_ofDish wsX8_ofDish rfl ⟨Nat.le_of_ble_eq_true rfl, Nat.le_of_ble_eq_true rfl⟩ rfl (Nat.le_of_ble_eq_true rfl) dL_law_486 (fun r173 m174 hf => ?_)
  refine za_icmp_eq o 803 dL_law_489 (by decide) (fun c175 => ?_) (fun c175 => ?_)
  · replace hf := hf.1 c175
    exact tL_law_803 o hs  hk18 v1 m174  hf
  · replace hf := hf.2 c175
    refine za_iconst (v := (0 : Int32)) o dL_law_492 (by decide) ?_
    exact hf.elim
set_option maxRecDepth 100000 in
set_option maxHeartbeats 4000000 in
theorem tL_law_494 {p : Program} {l : Launch} {e : Env} {s : State} {m : MethodId} {below : List Frame} {meth : Method} {c : Code} {G : zG} {b L : Nat} {xs : Nat → Int32} {k18 : Int32 → zMem → Prop} (o : za_Ok room_1 537 6387 p s m #[Value.ref b] meth c G RL cL_law 4 (some .boolean)) (hs : zScr b L xs s G) (hk18 : ∀ (v1 : Int32) (μ : zMem), k18 v1 μ → za_At p l e room_1 s m #[Value.ref b] below meth c (lw_Z below #[Value.ref b] s) G 4 537 6387 18 [(0, .ref b), (1, .ref (G.2.2 + 0)), (2, .ref (G.2.2 + 529)), (3, .int v1)] [] μ) (v1 : Int32) (μ : zMem)  (hf : fL_law_494 L xs k18 v1 μ) : za_At p l e room_1 s m #[Value.ref b] below meth c (lw_Z below #[Value.ref b] s) G 4 537 6387 494 [(0, .ref b), (1, .ref (G.2.2 + 0)), (2, .ref (G.2.2 + 529)), (3, .int v1)] [] μ := by
  unfold fL_law_494 at hf
  refine za_aload_n o 1 dL_law_494 rfl rfl ?_
  refine za_aload_n o 0 dL_law_495 rfl rfl ?_
  refine za_iload_n o 3 dL_law_496 rfl rfl ?_
  refine za_iconst (v := (1 : Int32)) o dL_law_497 (by decide) ?_
  refine za_iadd o dL_law_498 ?_
  refine za_topi (fun x176 ex176 => ?_)
  replace hf := hf x176 ex176
  obtain ⟨g177, hf⟩ := hf
  refine za_sld o hs g177 dL_law_499 ?_
  refine za_topi (fun x178 ex178 => ?_)
  replace hf := hf x178 ex178
  refine za_aload_n o 0 dL_law_500 rfl rfl ?_
  refine za_iload_n o 3 dL_law_501 rfl rfl ?_
  refine za_iconst (v := (2 : Int32)) o dL_law_502 (by decide) ?_
  refine za_iadd o dL_law_503 ?_
  refine za_topi (fun x179 ex179 => ?_)
  replace hf := hf x179 ex179
  obtain ⟨g180, hf⟩ := hf
  refine za_sld o hs g180 dL_law_504 ?_
  refine za_topi (fun x181 ex181 => ?_)
  replace hf := hf x181 ex181
  refine za_callVi o [.int x178, .int x181] (ctX7_ordered l G zk_c7 x178 x181  μ _ hf) zc7 zk_c7 mwX7_ordered wmL_65 wiX7_ordered wsX7_ordered rfl ⟨Nat.le_of_ble_eq_true rfl, Nat.le_of_ble_eq_true rfl⟩ rfl (Nat.le_of_ble_eq_true rfl) dL_law_505 (fun r182 m183 hf => ?_)
  refine za_aload_n o 2 dL_law_508 rfl rfl ?_
  refine za_aload_n o 0 dL_law_509 rfl rfl ?_
  refine za_iload_n o 3 dL_law_510 rfl rfl ?_
  refine za_iconst (v := (1 : Int32)) o dL_law_511 (by decide) ?_
  refine za_iadd o dL_law_512 ?_
  refine za_topi (fun x184 ex184 => ?_)
  replace hf := hf x184 ex184
  obtain ⟨g185, hf⟩ := hf
  refine za_sld o hs g185 dL_law_513 ?_
  refine za_topi (fun x186 ex186 => ?_)
  replace hf := hf x186 ex186
  refine za_aload_n o 0 dL_law_514 rfl rfl ?_
  refine za_iload_n o 3 dL_law_515 rfl rfl ?_
  refine za_iconst (v := (2 : Int32)) o dL_law_516 (by decide) ?_
  refine za_iadd o dL_law_517 ?_
  refine za_topi (fun x187 ex187 => ?_)
  replace hf := hf x187 ex187
  obtain ⟨g188, hf⟩ := hf
  refine za_sld o hs g188 dL_law_518 ?_
  refine za_topi (fun x189 ex189 => ?_)
  replace hf := hf x189 ex189
  refine za_callVi o [.int x186, .int x189] (ctX8_ordered l G zk_c8 x186 x189  m183 _ hf) zc8 zk_c8 mwX8_ordered wmL_68 wiX8_ordered wsX8_ordered rfl ⟨Nat.le_of_ble_eq_true rfl, Nat.le_of_ble_eq_true rfl⟩ rfl (Nat.le_of_ble_eq_true rfl) dL_law_519 (fun r190 m191 hf => ?_)
  refine za_icmp_eq o 803 dL_law_522 (by decide) (fun c192 => ?_) (fun c192 => ?_)
  · replace hf := hf.1 c192
    exact tL_law_803 o hs  hk18 v1 m191  hf
  · replace hf := hf.2 c192
    refine za_iconst (v := (0 : Int32)) o dL_law_525 (by decide) ?_
    exact hf.elim
set_option maxRecDepth 100000 in
set_option maxHeartbeats 4000000 in
theorem tL_law_527 {p : Program} {l : Launch} {e : Env} {s : State} {m : MethodId} {below : List Frame} {meth : Method} {c : Code} {G : zG} {b L : Nat} {xs : Nat → Int32} {k18 : Int32 → zMem → Prop} (o : za_Ok room_1 537 6387 p s m #[Value.ref b] meth c G RL cL_law 4 (some .boolean)) (hs : zScr b L xs s G) (hk18 : ∀ (v1 : Int32) (μ : zMem), k18 v1 μ → za_At p l e room_1 s m #[Value.ref b] below meth c (lw_Z below #[Value.ref b] s) G 4 537 6387 18 [(0, .ref b), (1, .ref (G.2.2 + 0)), (2, .ref (G.2.2 + 529)), (3, .int v1)] [] μ) (v1 : Int32) (μ : zMem)  (hf : fL_law_527 L xs k18 v1 μ) : za_At p l e room_1 s m #[Value.ref b] below meth c (lw_Z below #[Value.ref b] s) G 4 537 6387 527 [(0, .ref b), (1, .ref (G.2.2 + 0)), (2, .ref (G.2.2 + 529)), (3, .int v1)] [] μ := by
  unfold fL_law_527 at hf
  refine za_aload_n o 1 dL_law_527 rfl rfl ?_
  refine za_aload_n o 0 dL_law_528 rfl rfl ?_
  refine za_iload_n o 3 dL_law_529 rfl rfl ?_
  refine za_iconst (v := (1 : Int32)) o dL_law_530 (by decide) ?_
  refine za_iadd o dL_law_531 ?_
  refine za_topi (fun x193 ex193 => ?_)
  replace hf := hf x193 ex193
  obtain ⟨g194, hf⟩ := hf
  refine za_sld o hs g194 dL_law_532 ?_
  refine za_topi (fun x195 ex195 => ?_)
  replace hf := hf x195 ex195
  refine za_callVi o [.int x195] (ctX7_count l G zk_c7 x195  μ _ hf) zc7 zk_c7 mwX7_count wmL_69 wiX7_count wsX7_count rfl ⟨Nat.le_of_ble_eq_true rfl, Nat.le_of_ble_eq_true rfl⟩ rfl (Nat.le_of_ble_eq_true rfl) dL_law_533 (fun r196 m197 hf => ?_)
  refine za_aload_n o 2 dL_law_536 rfl rfl ?_
  refine za_aload_n o 0 dL_law_537 rfl rfl ?_
  refine za_iload_n o 3 dL_law_538 rfl rfl ?_
  refine za_iconst (v := (1 : Int32)) o dL_law_539 (by decide) ?_
  refine za_iadd o dL_law_540 ?_
  refine za_topi (fun x198 ex198 => ?_)
  replace hf := hf x198 ex198
  obtain ⟨g199, hf⟩ := hf
  refine za_sld o hs g199 dL_law_541 ?_
  refine za_topi (fun x200 ex200 => ?_)
  replace hf := hf x200 ex200
  refine za_callVi o [.int x200] (ctX8_count l G zk_c8 x200  m197 _ hf) zc8 zk_c8 mwX8_count wmL_72 wiX8_count wsX8_count rfl ⟨Nat.le_of_ble_eq_true rfl, Nat.le_of_ble_eq_true rfl⟩ rfl (Nat.le_of_ble_eq_true rfl) dL_law_542 (fun r201 m202 hf => ?_)
  refine za_icmp_eq o 803 dL_law_545 (by decide) (fun c203 => ?_) (fun c203 => ?_)
  · replace hf := hf.1 c203
    exact tL_law_803 o hs  hk18 v1 m202  hf
  · replace hf := hf.2 c203
    refine za_iconst (v := (0 : Int32)) o dL_law_548 (by decide) ?_
    exact hf.elim
set_option maxRecDepth 100000 in
set_option maxHeartbeats 4000000 in
theorem tL_law_550 {p : Program} {l : Launch} {e : Env} {s : State} {m : MethodId} {below : List Frame} {meth : Method} {c : Code} {G : zG} {b L : Nat} {xs : Nat → Int32} {k18 : Int32 → zMem → Prop} (o : za_Ok room_1 537 6387 p s m #[Value.ref b] meth c G RL cL_law 4 (some .boolean)) (hs : zScr b L xs s G) (hk18 : ∀ (v1 : Int32) (μ : zMem), k18 v1 μ → za_At p l e room_1 s m #[Value.ref b] below meth c (lw_Z below #[Value.ref b] s) G 4 537 6387 18 [(0, .ref b), (1, .ref (G.2.2 + 0)), (2, .ref (G.2.2 + 529)), (3, .int v1)] [] μ) (v1 : Int32) (μ : zMem)  (hf : fL_law_550 L xs k18 v1 μ) : za_At p l e room_1 s m #[Value.ref b] below meth c (lw_Z below #[Value.ref b] s) G 4 537 6387 550 [(0, .ref b), (1, .ref (G.2.2 + 0)), (2, .ref (G.2.2 + 529)), (3, .int v1)] [] μ := by
  unfold fL_law_550 at hf
  refine za_aload_n o 1 dL_law_550 rfl rfl ?_
  refine za_aload_n o 0 dL_law_551 rfl rfl ?_
  refine za_iload_n o 3 dL_law_552 rfl rfl ?_
  refine za_iconst (v := (1 : Int32)) o dL_law_553 (by decide) ?_
  refine za_iadd o dL_law_554 ?_
  refine za_topi (fun x204 ex204 => ?_)
  replace hf := hf x204 ex204
  obtain ⟨g205, hf⟩ := hf
  refine za_sld o hs g205 dL_law_555 ?_
  refine za_topi (fun x206 ex206 => ?_)
  replace hf := hf x206 ex206
  refine za_aload_n o 0 dL_law_556 rfl rfl ?_
  refine za_iload_n o 3 dL_law_557 rfl rfl ?_
  refine za_iconst (v := (2 : Int32)) o dL_law_558 (by decide) ?_
  refine za_iadd o dL_law_559 ?_
  refine za_topi (fun x207 ex207 => ?_)
  replace hf := hf x207 ex207
  obtain ⟨g208, hf⟩ := hf
  refine za_sld o hs g208 dL_law_560 ?_
  refine za_topi (fun x209 ex209 => ?_)
  replace hf := hf x209 ex209
  refine za_aload_n o 0 dL_law_561 rfl rfl ?_
  refine za_iload_n o 3 dL_law_562 rfl rfl ?_
  refine za_iconst (v := (3 : Int32)) o dL_law_563 (by decide) ?_
  refine za_iadd o dL_law_564 ?_
  refine za_topi (fun x210 ex210 => ?_)
  replace hf := hf x210 ex210
  obtain ⟨g211, hf⟩ := hf
  refine za_sld o hs g211 dL_law_565 ?_
  refine za_topi (fun x212 ex212 => ?_)
  replace hf := hf x212 ex212
  refine za_callVi o [.int x206, .int x209, .int x212] (ctX7_why l G zk_c7 x206 x209 x212  μ _ hf) zc7 zk_c7 mwX7_why wmL_73 wiX7_why wsX7_why rfl ⟨Nat.le_of_ble_eq_true rfl, Nat.le_of_ble_eq_true rfl⟩ rfl (Nat.le_of_ble_eq_true rfl) dL_law_566 (fun r213 m214 hf => ?_)
  refine za_aload_n o 2 dL_law_569 rfl rfl ?_
  refine za_aload_n o 0 dL_law_570 rfl rfl ?_
  refine za_iload_n o 3 dL_law_571 rfl rfl ?_
  refine za_iconst (v := (1 : Int32)) o dL_law_572 (by decide) ?_
  refine za_iadd o dL_law_573 ?_
  refine za_topi (fun x215 ex215 => ?_)
  replace hf := hf x215 ex215
  obtain ⟨g216, hf⟩ := hf
  refine za_sld o hs g216 dL_law_574 ?_
  refine za_topi (fun x217 ex217 => ?_)
  replace hf := hf x217 ex217
  refine za_aload_n o 0 dL_law_575 rfl rfl ?_
  refine za_iload_n o 3 dL_law_576 rfl rfl ?_
  refine za_iconst (v := (2 : Int32)) o dL_law_577 (by decide) ?_
  refine za_iadd o dL_law_578 ?_
  refine za_topi (fun x218 ex218 => ?_)
  replace hf := hf x218 ex218
  obtain ⟨g219, hf⟩ := hf
  refine za_sld o hs g219 dL_law_579 ?_
  refine za_topi (fun x220 ex220 => ?_)
  replace hf := hf x220 ex220
  refine za_aload_n o 0 dL_law_580 rfl rfl ?_
  refine za_iload_n o 3 dL_law_581 rfl rfl ?_
  refine za_iconst (v := (3 : Int32)) o dL_law_582 (by decide) ?_
  refine za_iadd o dL_law_583 ?_
  refine za_topi (fun x221 ex221 => ?_)
  replace hf := hf x221 ex221
  obtain ⟨g222, hf⟩ := hf
  refine za_sld o hs g222 dL_law_584 ?_
  refine za_topi (fun x223 ex223 => ?_)
  replace hf := hf x223 ex223
  refine za_callVi o [.int x217, .int x220, .int x223] (ctX8_why l G zk_c8 x217 x220 x223  m214 _ hf) zc8 zk_c8 mwX8_why wmL_76 wiX8_why wsX8_why rfl ⟨Nat.le_of_ble_eq_true rfl, Nat.le_of_ble_eq_true rfl⟩ rfl (Nat.le_of_ble_eq_true rfl) dL_law_585 (fun r224 m225 hf => ?_)
  refine za_icmp_eq o 803 dL_law_588 (by decide) (fun c226 => ?_) (fun c226 => ?_)
  · replace hf := hf.1 c226
    exact tL_law_803 o hs  hk18 v1 m225  hf
  · replace hf := hf.2 c226
    refine za_iconst (v := (0 : Int32)) o dL_law_591 (by decide) ?_
    exact hf.elim
set_option maxRecDepth 100000 in
set_option maxHeartbeats 4000000 in
theorem tL_law_593 {p : Program} {l : Launch} {e : Env} {s : State} {m : MethodId} {below : List Frame} {meth : Method} {c : Code} {G : zG} {b L : Nat} {xs : Nat → Int32} {k18 : Int32 → zMem → Prop} (o : za_Ok room_1 537 6387 p s m #[Value.ref b] meth c G RL cL_law 4 (some .boolean)) (hs : zScr b L xs s G) (hk18 : ∀ (v1 : Int32) (μ : zMem), k18 v1 μ → za_At p l e room_1 s m #[Value.ref b] below meth c (lw_Z below #[Value.ref b] s) G 4 537 6387 18 [(0, .ref b), (1, .ref (G.2.2 + 0)), (2, .ref (G.2.2 + 529)), (3, .int v1)] [] μ) (v1 : Int32) (μ : zMem)  (hf : fL_law_593 L xs k18 v1 μ) : za_At p l e room_1 s m #[Value.ref b] below meth c (lw_Z below #[Value.ref b] s) G 4 537 6387 593 [(0, .ref b), (1, .ref (G.2.2 + 0)), (2, .ref (G.2.2 + 529)), (3, .int v1)] [] μ := by
  unfold fL_law_593 at hf
  refine za_aload_n o 1 dL_law_593 rfl rfl ?_
  refine za_aload_n o 0 dL_law_594 rfl rfl ?_
  refine za_iload_n o 3 dL_law_595 rfl rfl ?_
  refine za_iconst (v := (1 : Int32)) o dL_law_596 (by decide) ?_
  refine za_iadd o dL_law_597 ?_
  refine za_topi (fun x227 ex227 => ?_)
  replace hf := hf x227 ex227
  obtain ⟨g228, hf⟩ := hf
  refine za_sld o hs g228 dL_law_598 ?_
  refine za_topi (fun x229 ex229 => ?_)
  replace hf := hf x229 ex229
  refine za_callVi o [.int x229] (ctX7_unsurest l G zk_c7 x229  μ _ hf) zc7 zk_c7 mwX7_unsurest wmL_77 wiX7_unsurest wsX7_unsurest rfl ⟨Nat.le_of_ble_eq_true rfl, Nat.le_of_ble_eq_true rfl⟩ rfl (Nat.le_of_ble_eq_true rfl) dL_law_599 (fun r230 m231 hf => ?_)
  refine za_aload_n o 2 dL_law_602 rfl rfl ?_
  refine za_aload_n o 0 dL_law_603 rfl rfl ?_
  refine za_iload_n o 3 dL_law_604 rfl rfl ?_
  refine za_iconst (v := (1 : Int32)) o dL_law_605 (by decide) ?_
  refine za_iadd o dL_law_606 ?_
  refine za_topi (fun x232 ex232 => ?_)
  replace hf := hf x232 ex232
  obtain ⟨g233, hf⟩ := hf
  refine za_sld o hs g233 dL_law_607 ?_
  refine za_topi (fun x234 ex234 => ?_)
  replace hf := hf x234 ex234
  refine za_callVi o [.int x234] (ctX8_unsurest l G zk_c8 x234  m231 _ hf) zc8 zk_c8 mwX8_unsurest wmL_80 wiX8_unsurest wsX8_unsurest rfl ⟨Nat.le_of_ble_eq_true rfl, Nat.le_of_ble_eq_true rfl⟩ rfl (Nat.le_of_ble_eq_true rfl) dL_law_608 (fun r235 m236 hf => ?_)
  refine za_icmp_eq o 803 dL_law_611 (by decide) (fun c237 => ?_) (fun c237 => ?_)
  · replace hf := hf.1 c237
    exact tL_law_803 o hs  hk18 v1 m236  hf
  · replace hf := hf.2 c237
    refine za_iconst (v := (0 : Int32)) o dL_law_614 (by decide) ?_
    exact hf.elim
set_option maxRecDepth 100000 in
set_option maxHeartbeats 4000000 in
theorem tL_law_616 {p : Program} {l : Launch} {e : Env} {s : State} {m : MethodId} {below : List Frame} {meth : Method} {c : Code} {G : zG} {b L : Nat} {xs : Nat → Int32} {k18 : Int32 → zMem → Prop} (o : za_Ok room_1 537 6387 p s m #[Value.ref b] meth c G RL cL_law 4 (some .boolean)) (hs : zScr b L xs s G) (hk18 : ∀ (v1 : Int32) (μ : zMem), k18 v1 μ → za_At p l e room_1 s m #[Value.ref b] below meth c (lw_Z below #[Value.ref b] s) G 4 537 6387 18 [(0, .ref b), (1, .ref (G.2.2 + 0)), (2, .ref (G.2.2 + 529)), (3, .int v1)] [] μ) (v1 : Int32) (μ : zMem)  (hf : fL_law_616 L xs k18 v1 μ) : za_At p l e room_1 s m #[Value.ref b] below meth c (lw_Z below #[Value.ref b] s) G 4 537 6387 616 [(0, .ref b), (1, .ref (G.2.2 + 0)), (2, .ref (G.2.2 + 529)), (3, .int v1)] [] μ := by
  unfold fL_law_616 at hf
  refine za_aload_n o 1 dL_law_616 rfl rfl ?_
  refine za_aload_n o 0 dL_law_617 rfl rfl ?_
  refine za_iload_n o 3 dL_law_618 rfl rfl ?_
  refine za_iconst (v := (1 : Int32)) o dL_law_619 (by decide) ?_
  refine za_iadd o dL_law_620 ?_
  refine za_topi (fun x238 ex238 => ?_)
  replace hf := hf x238 ex238
  obtain ⟨g239, hf⟩ := hf
  refine za_sld o hs g239 dL_law_621 ?_
  refine za_topi (fun x240 ex240 => ?_)
  replace hf := hf x240 ex240
  refine za_callVi o [.int x240] (ctX7_firstOrder l G zk_c7 x240  μ _ hf) zc7 zk_c7 mwX7_firstOrder wmL_81 wiX7_firstOrder wsX7_firstOrder rfl ⟨Nat.le_of_ble_eq_true rfl, Nat.le_of_ble_eq_true rfl⟩ rfl (Nat.le_of_ble_eq_true rfl) dL_law_622 (fun r241 m242 hf => ?_)
  refine za_aload_n o 2 dL_law_625 rfl rfl ?_
  refine za_aload_n o 0 dL_law_626 rfl rfl ?_
  refine za_iload_n o 3 dL_law_627 rfl rfl ?_
  refine za_iconst (v := (1 : Int32)) o dL_law_628 (by decide) ?_
  refine za_iadd o dL_law_629 ?_
  refine za_topi (fun x243 ex243 => ?_)
  replace hf := hf x243 ex243
  obtain ⟨g244, hf⟩ := hf
  refine za_sld o hs g244 dL_law_630 ?_
  refine za_topi (fun x245 ex245 => ?_)
  replace hf := hf x245 ex245
  refine za_callVi o [.int x245] (ctX8_firstOrder l G zk_c8 x245  m242 _ hf) zc8 zk_c8 mwX8_firstOrder wmL_84 wiX8_firstOrder wsX8_firstOrder rfl ⟨Nat.le_of_ble_eq_true rfl, Nat.le_of_ble_eq_true rfl⟩ rfl (Nat.le_of_ble_eq_true rfl) dL_law_631 (fun r246 m247 hf => ?_)
  refine za_icmp_eq o 803 dL_law_634 (by decide) (fun c248 => ?_) (fun c248 => ?_)
  · replace hf := hf.1 c248
    exact tL_law_803 o hs  hk18 v1 m247  hf
  · replace hf := hf.2 c248
    refine za_iconst (v := (0 : Int32)) o dL_law_637 (by decide) ?_
    exact hf.elim
set_option maxRecDepth 100000 in
set_option maxHeartbeats 4000000 in
theorem tL_law_639 {p : Program} {l : Launch} {e : Env} {s : State} {m : MethodId} {below : List Frame} {meth : Method} {c : Code} {G : zG} {b L : Nat} {xs : Nat → Int32} {k18 : Int32 → zMem → Prop} (o : za_Ok room_1 537 6387 p s m #[Value.ref b] meth c G RL cL_law 4 (some .boolean)) (hs : zScr b L xs s G) (hk18 : ∀ (v1 : Int32) (μ : zMem), k18 v1 μ → za_At p l e room_1 s m #[Value.ref b] below meth c (lw_Z below #[Value.ref b] s) G 4 537 6387 18 [(0, .ref b), (1, .ref (G.2.2 + 0)), (2, .ref (G.2.2 + 529)), (3, .int v1)] [] μ) (v1 : Int32) (μ : zMem)  (hf : fL_law_639 L xs k18 v1 μ) : za_At p l e room_1 s m #[Value.ref b] below meth c (lw_Z below #[Value.ref b] s) G 4 537 6387 639 [(0, .ref b), (1, .ref (G.2.2 + 0)), (2, .ref (G.2.2 + 529)), (3, .int v1)] [] μ := by
  unfold fL_law_639 at hf
  refine za_aload_n o 1 dL_law_639 rfl rfl ?_
  refine za_callVi o [] (ctX7_wasted l G zk_c7   μ _ hf) zc7 zk_c7 mwX7_wasted wmL_85 wiX7_wasted wsX7_wasted rfl ⟨Nat.le_of_ble_eq_true rfl, Nat.le_of_ble_eq_true rfl⟩ rfl (Nat.le_of_ble_eq_true rfl) dL_law_640 (fun r249 m250 hf => ?_)
  refine za_aload_n o 2 dL_law_643 rfl rfl ?_
  refine za_callVi o [] (ctX8_wasted l G zk_c8   m250 _ hf) zc8 zk_c8 mwX8_wasted wmL_88 wiX8_wasted wsX8_wasted rfl ⟨Nat.le_of_ble_eq_true rfl, Nat.le_of_ble_eq_true rfl⟩ rfl (Nat.le_of_ble_eq_true rfl) dL_law_644 (fun r251 m252 hf => ?_)
  refine za_icmp_eq o 803 dL_law_647 (by decide) (fun c253 => ?_) (fun c253 => ?_)
  · replace hf := hf.1 c253
    exact tL_law_803 o hs  hk18 v1 m252  hf
  · replace hf := hf.2 c253
    refine za_iconst (v := (0 : Int32)) o dL_law_650 (by decide) ?_
    exact hf.elim
set_option maxRecDepth 100000 in
set_option maxHeartbeats 4000000 in
theorem tL_law_652 {p : Program} {l : Launch} {e : Env} {s : State} {m : MethodId} {below : List Frame} {meth : Method} {c : Code} {G : zG} {b L : Nat} {xs : Nat → Int32} {k18 : Int32 → zMem → Prop} (o : za_Ok room_1 537 6387 p s m #[Value.ref b] meth c G RL cL_law 4 (some .boolean)) (hs : zScr b L xs s G) (hk18 : ∀ (v1 : Int32) (μ : zMem), k18 v1 μ → za_At p l e room_1 s m #[Value.ref b] below meth c (lw_Z below #[Value.ref b] s) G 4 537 6387 18 [(0, .ref b), (1, .ref (G.2.2 + 0)), (2, .ref (G.2.2 + 529)), (3, .int v1)] [] μ) (v1 : Int32) (μ : zMem)  (hf : fL_law_652 L xs k18 v1 μ) : za_At p l e room_1 s m #[Value.ref b] below meth c (lw_Z below #[Value.ref b] s) G 4 537 6387 652 [(0, .ref b), (1, .ref (G.2.2 + 0)), (2, .ref (G.2.2 + 529)), (3, .int v1)] [] μ := by
  unfold fL_law_652 at hf
  refine za_aload_n o 1 dL_law_652 rfl rfl ?_
  refine za_aload_n o 0 dL_law_653 rfl rfl ?_
  refine za_iload_n o 3 dL_law_654 rfl rfl ?_
  refine za_iconst (v := (1 : Int32)) o dL_law_655 (by decide) ?_
  refine za_iadd o dL_law_656 ?_
  refine za_topi (fun x254 ex254 => ?_)
  replace hf := hf x254 ex254
  obtain ⟨g255, hf⟩ := hf
  refine za_sld o hs g255 dL_law_657 ?_
  refine za_topi (fun x256 ex256 => ?_)
  replace hf := hf x256 ex256
  refine za_i2l o dL_law_658 ?_
  refine za_topl (fun x257 ex257 => ?_)
  replace hf := hf x257 ex257
  refine za_bipush (v := (32 : Int32)) o dL_law_659 (by decide) ?_
  refine za_lshl o dL_law_661 ?_
  refine za_topl (fun x258 ex258 => ?_)
  replace hf := hf x258 ex258
  refine za_aload_n o 0 dL_law_662 rfl rfl ?_
  refine za_iload_n o 3 dL_law_663 rfl rfl ?_
  refine za_iconst (v := (2 : Int32)) o dL_law_664 (by decide) ?_
  refine za_iadd o dL_law_665 ?_
  refine za_topi (fun x259 ex259 => ?_)
  replace hf := hf x259 ex259
  obtain ⟨g260, hf⟩ := hf
  refine za_sld o hs g260 dL_law_666 ?_
  refine za_topi (fun x261 ex261 => ?_)
  replace hf := hf x261 ex261
  refine za_i2l o dL_law_667 ?_
  refine za_topl (fun x262 ex262 => ?_)
  replace hf := hf x262 ex262
  refine za_ldc2 (v := (4294967295 : Int64)) o wkL_89 dL_law_668 ?_
  refine za_land o dL_law_671 ?_
  refine za_topl (fun x263 ex263 => ?_)
  replace hf := hf x263 ex263
  refine za_lor o dL_law_672 ?_
  refine za_topl (fun x264 ex264 => ?_)
  replace hf := hf x264 ex264
  refine za_callVi o [.long x264] (ctX7_put l G zk_c7 x264  μ _ hf) zc7 zk_c7 mwX7_put wmL_91 wiX7_put wsX7_put rfl ⟨Nat.le_of_ble_eq_true rfl, Nat.le_of_ble_eq_true rfl⟩ rfl (Nat.le_of_ble_eq_true rfl) dL_law_673 (fun r265 m266 hf => ?_)
  refine za_aload_n o 2 dL_law_676 rfl rfl ?_
  refine za_aload_n o 0 dL_law_677 rfl rfl ?_
  refine za_iload_n o 3 dL_law_678 rfl rfl ?_
  refine za_iconst (v := (1 : Int32)) o dL_law_679 (by decide) ?_
  refine za_iadd o dL_law_680 ?_
  refine za_topi (fun x267 ex267 => ?_)
  replace hf := hf x267 ex267
  obtain ⟨g268, hf⟩ := hf
  refine za_sld o hs g268 dL_law_681 ?_
  refine za_topi (fun x269 ex269 => ?_)
  replace hf := hf x269 ex269
  refine za_i2l o dL_law_682 ?_
  refine za_topl (fun x270 ex270 => ?_)
  replace hf := hf x270 ex270
  refine za_bipush (v := (32 : Int32)) o dL_law_683 (by decide) ?_
  refine za_lshl o dL_law_685 ?_
  refine za_topl (fun x271 ex271 => ?_)
  replace hf := hf x271 ex271
  refine za_aload_n o 0 dL_law_686 rfl rfl ?_
  refine za_iload_n o 3 dL_law_687 rfl rfl ?_
  refine za_iconst (v := (2 : Int32)) o dL_law_688 (by decide) ?_
  refine za_iadd o dL_law_689 ?_
  refine za_topi (fun x272 ex272 => ?_)
  replace hf := hf x272 ex272
  obtain ⟨g273, hf⟩ := hf
  refine za_sld o hs g273 dL_law_690 ?_
  refine za_topi (fun x274 ex274 => ?_)
  replace hf := hf x274 ex274
  refine za_i2l o dL_law_691 ?_
  refine za_topl (fun x275 ex275 => ?_)
  replace hf := hf x275 ex275
  refine za_ldc2 (v := (4294967295 : Int64)) o wkL_89 dL_law_692 ?_
  refine za_land o dL_law_695 ?_
  refine za_topl (fun x276 ex276 => ?_)
  replace hf := hf x276 ex276
  refine za_lor o dL_law_696 ?_
  refine za_topl (fun x277 ex277 => ?_)
  replace hf := hf x277 ex277
  refine za_callVi o [.long x277] (ctX8_put l G zk_c8 x277  m266 _ hf) zc8 zk_c8 mwX8_put wmL_95 wiX8_put wsX8_put rfl ⟨Nat.le_of_ble_eq_true rfl, Nat.le_of_ble_eq_true rfl⟩ rfl (Nat.le_of_ble_eq_true rfl) dL_law_697 (fun r278 m279 hf => ?_)
  refine za_icmp_eq o 803 dL_law_700 (by decide) (fun c280 => ?_) (fun c280 => ?_)
  · replace hf := hf.1 c280
    exact tL_law_803 o hs  hk18 v1 m279  hf
  · replace hf := hf.2 c280
    refine za_iconst (v := (0 : Int32)) o dL_law_703 (by decide) ?_
    exact hf.elim
set_option maxRecDepth 100000 in
set_option maxHeartbeats 4000000 in
theorem tL_law_705 {p : Program} {l : Launch} {e : Env} {s : State} {m : MethodId} {below : List Frame} {meth : Method} {c : Code} {G : zG} {b L : Nat} {xs : Nat → Int32} {k18 : Int32 → zMem → Prop} (o : za_Ok room_1 537 6387 p s m #[Value.ref b] meth c G RL cL_law 4 (some .boolean)) (hs : zScr b L xs s G) (hk18 : ∀ (v1 : Int32) (μ : zMem), k18 v1 μ → za_At p l e room_1 s m #[Value.ref b] below meth c (lw_Z below #[Value.ref b] s) G 4 537 6387 18 [(0, .ref b), (1, .ref (G.2.2 + 0)), (2, .ref (G.2.2 + 529)), (3, .int v1)] [] μ) (v1 : Int32) (μ : zMem)  (hf : fL_law_705 L xs k18 v1 μ) : za_At p l e room_1 s m #[Value.ref b] below meth c (lw_Z below #[Value.ref b] s) G 4 537 6387 705 [(0, .ref b), (1, .ref (G.2.2 + 0)), (2, .ref (G.2.2 + 529)), (3, .int v1)] [] μ := by
  unfold fL_law_705 at hf
  refine za_aload_n o 1 dL_law_705 rfl rfl ?_
  refine za_callVi o [] (ctX7_wipe l G zk_c7   μ _ hf) zc7 zk_c7 mwX7_wipe wmL_96 wiX7_wipe wsX7_wipe rfl ⟨Nat.le_of_ble_eq_true rfl, Nat.le_of_ble_eq_true rfl⟩ rfl (Nat.le_of_ble_eq_true rfl) dL_law_706 (fun r281 m282 hf => ?_)
  refine za_aload_n o 2 dL_law_709 rfl rfl ?_
  refine za_callVi o [] (ctX8_wipe l G zk_c8   m282 _ hf) zc8 zk_c8 mwX8_wipe wmL_99 wiX8_wipe wsX8_wipe rfl ⟨Nat.le_of_ble_eq_true rfl, Nat.le_of_ble_eq_true rfl⟩ rfl (Nat.le_of_ble_eq_true rfl) dL_law_710 (fun r283 m284 hf => ?_)
  refine za_icmp_eq o 803 dL_law_713 (by decide) (fun c285 => ?_) (fun c285 => ?_)
  · replace hf := hf.1 c285
    exact tL_law_803 o hs  hk18 v1 m284  hf
  · replace hf := hf.2 c285
    refine za_iconst (v := (0 : Int32)) o dL_law_716 (by decide) ?_
    exact hf.elim
set_option maxRecDepth 100000 in
set_option maxHeartbeats 4000000 in
theorem tL_law_718 {p : Program} {l : Launch} {e : Env} {s : State} {m : MethodId} {below : List Frame} {meth : Method} {c : Code} {G : zG} {b L : Nat} {xs : Nat → Int32} {k18 : Int32 → zMem → Prop} (o : za_Ok room_1 537 6387 p s m #[Value.ref b] meth c G RL cL_law 4 (some .boolean)) (hs : zScr b L xs s G) (hk18 : ∀ (v1 : Int32) (μ : zMem), k18 v1 μ → za_At p l e room_1 s m #[Value.ref b] below meth c (lw_Z below #[Value.ref b] s) G 4 537 6387 18 [(0, .ref b), (1, .ref (G.2.2 + 0)), (2, .ref (G.2.2 + 529)), (3, .int v1)] [] μ) (v1 : Int32) (μ : zMem)  (hf : fL_law_718 L xs k18 v1 μ) : za_At p l e room_1 s m #[Value.ref b] below meth c (lw_Z below #[Value.ref b] s) G 4 537 6387 718 [(0, .ref b), (1, .ref (G.2.2 + 0)), (2, .ref (G.2.2 + 529)), (3, .int v1)] [] μ := by
  unfold fL_law_718 at hf
  refine za_aload_n o 1 dL_law_718 rfl rfl ?_
  refine za_callVi o [] (ctX7_fault l G zk_c7   μ _ hf) zc7 zk_c7 mwX7_fault wmL_100 wiX7_fault wsX7_fault rfl ⟨Nat.le_of_ble_eq_true rfl, Nat.le_of_ble_eq_true rfl⟩ rfl (Nat.le_of_ble_eq_true rfl) dL_law_719 (fun r286 m287 hf => ?_)
  refine za_aload_n o 2 dL_law_722 rfl rfl ?_
  refine za_callVi o [] (ctX8_fault l G zk_c8   m287 _ hf) zc8 zk_c8 mwX8_fault wmL_103 wiX8_fault wsX8_fault rfl ⟨Nat.le_of_ble_eq_true rfl, Nat.le_of_ble_eq_true rfl⟩ rfl (Nat.le_of_ble_eq_true rfl) dL_law_723 (fun r288 m289 hf => ?_)
  refine za_icmp_eq o 803 dL_law_726 (by decide) (fun c290 => ?_) (fun c290 => ?_)
  · replace hf := hf.1 c290
    exact tL_law_803 o hs  hk18 v1 m289  hf
  · replace hf := hf.2 c290
    refine za_iconst (v := (0 : Int32)) o dL_law_729 (by decide) ?_
    exact hf.elim
set_option maxRecDepth 100000 in
set_option maxHeartbeats 4000000 in
theorem tL_law_731 {p : Program} {l : Launch} {e : Env} {s : State} {m : MethodId} {below : List Frame} {meth : Method} {c : Code} {G : zG} {b L : Nat} {xs : Nat → Int32} {k18 : Int32 → zMem → Prop} (o : za_Ok room_1 537 6387 p s m #[Value.ref b] meth c G RL cL_law 4 (some .boolean)) (hs : zScr b L xs s G) (hk18 : ∀ (v1 : Int32) (μ : zMem), k18 v1 μ → za_At p l e room_1 s m #[Value.ref b] below meth c (lw_Z below #[Value.ref b] s) G 4 537 6387 18 [(0, .ref b), (1, .ref (G.2.2 + 0)), (2, .ref (G.2.2 + 529)), (3, .int v1)] [] μ) (v1 : Int32) (μ : zMem)  (hf : fL_law_731 L xs k18 v1 μ) : za_At p l e room_1 s m #[Value.ref b] below meth c (lw_Z below #[Value.ref b] s) G 4 537 6387 731 [(0, .ref b), (1, .ref (G.2.2 + 0)), (2, .ref (G.2.2 + 529)), (3, .int v1)] [] μ := by
  unfold fL_law_731 at hf
  refine za_aload_n o 1 dL_law_731 rfl rfl ?_
  refine za_callVi o [] (ctX7_carryOut l G zk_c7   μ _ hf) zc7 zk_c7 mwX7_carryOut wmL_104 wiX7_carryOut wsX7_carryOut rfl ⟨Nat.le_of_ble_eq_true rfl, Nat.le_of_ble_eq_true rfl⟩ rfl (Nat.le_of_ble_eq_true rfl) dL_law_732 (fun r291 m292 hf => ?_)
  refine za_aload_n o 2 dL_law_735 rfl rfl ?_
  refine za_callVi o [] (ctX8_carryOut l G zk_c8   m292 _ hf) zc8 zk_c8 mwX8_carryOut wmL_107 wiX8_carryOut wsX8_carryOut rfl ⟨Nat.le_of_ble_eq_true rfl, Nat.le_of_ble_eq_true rfl⟩ rfl (Nat.le_of_ble_eq_true rfl) dL_law_736 (fun r293 m294 hf => ?_)
  refine za_icmp_eq o 803 dL_law_739 (by decide) (fun c295 => ?_) (fun c295 => ?_)
  · replace hf := hf.1 c295
    exact tL_law_803 o hs  hk18 v1 m294  hf
  · replace hf := hf.2 c295
    refine za_iconst (v := (0 : Int32)) o dL_law_742 (by decide) ?_
    exact hf.elim
set_option maxRecDepth 100000 in
set_option maxHeartbeats 4000000 in
theorem tL_law_744 {p : Program} {l : Launch} {e : Env} {s : State} {m : MethodId} {below : List Frame} {meth : Method} {c : Code} {G : zG} {b L : Nat} {xs : Nat → Int32} {k18 : Int32 → zMem → Prop} (o : za_Ok room_1 537 6387 p s m #[Value.ref b] meth c G RL cL_law 4 (some .boolean)) (hs : zScr b L xs s G) (hk18 : ∀ (v1 : Int32) (μ : zMem), k18 v1 μ → za_At p l e room_1 s m #[Value.ref b] below meth c (lw_Z below #[Value.ref b] s) G 4 537 6387 18 [(0, .ref b), (1, .ref (G.2.2 + 0)), (2, .ref (G.2.2 + 529)), (3, .int v1)] [] μ) (v1 : Int32) (μ : zMem)  (hf : fL_law_744 L xs k18 v1 μ) : za_At p l e room_1 s m #[Value.ref b] below meth c (lw_Z below #[Value.ref b] s) G 4 537 6387 744 [(0, .ref b), (1, .ref (G.2.2 + 0)), (2, .ref (G.2.2 + 529)), (3, .int v1)] [] μ := by
  unfold fL_law_744 at hf
  refine za_aload_n o 1 dL_law_744 rfl rfl ?_
  refine za_callVi o [] (ctX7_undo l G zk_c7   μ _ hf) zc7 zk_c7 mwX7_undo wmL_108 wiX7_undo wsX7_undo rfl ⟨Nat.le_of_ble_eq_true rfl, Nat.le_of_ble_eq_true rfl⟩ rfl (Nat.le_of_ble_eq_true rfl) dL_law_745 (fun r296 m297 hf => ?_)
  refine za_aload_n o 2 dL_law_748 rfl rfl ?_
  refine za_callVi o [] (ctX8_undo l G zk_c8   m297 _ hf) zc8 zk_c8 mwX8_undo wmL_111 wiX8_undo wsX8_undo rfl ⟨Nat.le_of_ble_eq_true rfl, Nat.le_of_ble_eq_true rfl⟩ rfl (Nat.le_of_ble_eq_true rfl) dL_law_749 (fun r298 m299 hf => ?_)
  refine za_icmp_eq o 803 dL_law_752 (by decide) (fun c300 => ?_) (fun c300 => ?_)
  · replace hf := hf.1 c300
    exact tL_law_803 o hs  hk18 v1 m299  hf
  · replace hf := hf.2 c300
    refine za_iconst (v := (0 : Int32)) o dL_law_755 (by decide) ?_
    exact hf.elim
set_option maxRecDepth 100000 in
set_option maxHeartbeats 4000000 in
theorem tL_law_757 {p : Program} {l : Launch} {e : Env} {s : State} {m : MethodId} {below : List Frame} {meth : Method} {c : Code} {G : zG} {b L : Nat} {xs : Nat → Int32} {k18 : Int32 → zMem → Prop} (o : za_Ok room_1 537 6387 p s m #[Value.ref b] meth c G RL cL_law 4 (some .boolean)) (hs : zScr b L xs s G) (hk18 : ∀ (v1 : Int32) (μ : zMem), k18 v1 μ → za_At p l e room_1 s m #[Value.ref b] below meth c (lw_Z below #[Value.ref b] s) G 4 537 6387 18 [(0, .ref b), (1, .ref (G.2.2 + 0)), (2, .ref (G.2.2 + 529)), (3, .int v1)] [] μ) (v1 : Int32) (μ : zMem)  (hf : fL_law_757 L xs k18 v1 μ) : za_At p l e room_1 s m #[Value.ref b] below meth c (lw_Z below #[Value.ref b] s) G 4 537 6387 757 [(0, .ref b), (1, .ref (G.2.2 + 0)), (2, .ref (G.2.2 + 529)), (3, .int v1)] [] μ := by
  unfold fL_law_757 at hf
  refine za_aload_n o 1 dL_law_757 rfl rfl ?_
  refine za_aload_n o 0 dL_law_758 rfl rfl ?_
  refine za_iload_n o 3 dL_law_759 rfl rfl ?_
  refine za_iconst (v := (1 : Int32)) o dL_law_760 (by decide) ?_
  refine za_iadd o dL_law_761 ?_
  refine za_topi (fun x301 ex301 => ?_)
  replace hf := hf x301 ex301
  obtain ⟨g302, hf⟩ := hf
  refine za_sld o hs g302 dL_law_762 ?_
  refine za_topi (fun x303 ex303 => ?_)
  replace hf := hf x303 ex303
  refine za_callVi o [.int x303] (ctX7_save l G zk_c7 x303  μ _ hf) zc7 zk_c7 mwX7_save wmL_112 wiX7_save wsX7_save rfl ⟨Nat.le_of_ble_eq_true rfl, Nat.le_of_ble_eq_true rfl⟩ rfl (Nat.le_of_ble_eq_true rfl) dL_law_763 (fun r304 m305 hf => ?_)
  refine za_aload_n o 2 dL_law_766 rfl rfl ?_
  refine za_aload_n o 0 dL_law_767 rfl rfl ?_
  refine za_iload_n o 3 dL_law_768 rfl rfl ?_
  refine za_iconst (v := (1 : Int32)) o dL_law_769 (by decide) ?_
  refine za_iadd o dL_law_770 ?_
  refine za_topi (fun x306 ex306 => ?_)
  replace hf := hf x306 ex306
  obtain ⟨g307, hf⟩ := hf
  refine za_sld o hs g307 dL_law_771 ?_
  refine za_topi (fun x308 ex308 => ?_)
  replace hf := hf x308 ex308
  refine za_callVi o [.int x308] (ctX8_save l G zk_c8 x308  m305 _ hf) zc8 zk_c8 mwX8_save wmL_115 wiX8_save wsX8_save rfl ⟨Nat.le_of_ble_eq_true rfl, Nat.le_of_ble_eq_true rfl⟩ rfl (Nat.le_of_ble_eq_true rfl) dL_law_772 (fun r309 m310 hf => ?_)
  refine za_icmp_eq o 803 dL_law_775 (by decide) (fun c311 => ?_) (fun c311 => ?_)
  · replace hf := hf.1 c311
    exact tL_law_803 o hs  hk18 v1 m310  hf
  · replace hf := hf.2 c311
    refine za_iconst (v := (0 : Int32)) o dL_law_778 (by decide) ?_
    exact hf.elim
set_option maxRecDepth 100000 in
set_option maxHeartbeats 4000000 in
theorem tL_law_780 {p : Program} {l : Launch} {e : Env} {s : State} {m : MethodId} {below : List Frame} {meth : Method} {c : Code} {G : zG} {b L : Nat} {xs : Nat → Int32} {k18 : Int32 → zMem → Prop} (o : za_Ok room_1 537 6387 p s m #[Value.ref b] meth c G RL cL_law 4 (some .boolean)) (hs : zScr b L xs s G) (hk18 : ∀ (v1 : Int32) (μ : zMem), k18 v1 μ → za_At p l e room_1 s m #[Value.ref b] below meth c (lw_Z below #[Value.ref b] s) G 4 537 6387 18 [(0, .ref b), (1, .ref (G.2.2 + 0)), (2, .ref (G.2.2 + 529)), (3, .int v1)] [] μ) (v1 : Int32) (μ : zMem)  (hf : fL_law_780 L xs k18 v1 μ) : za_At p l e room_1 s m #[Value.ref b] below meth c (lw_Z below #[Value.ref b] s) G 4 537 6387 780 [(0, .ref b), (1, .ref (G.2.2 + 0)), (2, .ref (G.2.2 + 529)), (3, .int v1)] [] μ := by
  unfold fL_law_780 at hf
  refine za_aload_n o 1 dL_law_780 rfl rfl ?_
  refine za_aload_n o 0 dL_law_781 rfl rfl ?_
  refine za_iload_n o 3 dL_law_782 rfl rfl ?_
  refine za_iconst (v := (1 : Int32)) o dL_law_783 (by decide) ?_
  refine za_iadd o dL_law_784 ?_
  refine za_topi (fun x312 ex312 => ?_)
  replace hf := hf x312 ex312
  obtain ⟨g313, hf⟩ := hf
  refine za_sld o hs g313 dL_law_785 ?_
  refine za_topi (fun x314 ex314 => ?_)
  replace hf := hf x314 ex314
  refine za_callVi o [.int x314] (ctX7_restore l G zk_c7 x314  μ _ hf) zc7 zk_c7 mwX7_restore wmL_116 wiX7_restore wsX7_restore rfl ⟨Nat.le_of_ble_eq_true rfl, Nat.le_of_ble_eq_true rfl⟩ rfl (Nat.le_of_ble_eq_true rfl) dL_law_786 (fun r315 m316 hf => ?_)
  refine za_aload_n o 2 dL_law_789 rfl rfl ?_
  refine za_aload_n o 0 dL_law_790 rfl rfl ?_
  refine za_iload_n o 3 dL_law_791 rfl rfl ?_
  refine za_iconst (v := (1 : Int32)) o dL_law_792 (by decide) ?_
  refine za_iadd o dL_law_793 ?_
  refine za_topi (fun x317 ex317 => ?_)
  replace hf := hf x317 ex317
  obtain ⟨g318, hf⟩ := hf
  refine za_sld o hs g318 dL_law_794 ?_
  refine za_topi (fun x319 ex319 => ?_)
  replace hf := hf x319 ex319
  refine za_callVi o [.int x319] (ctX8_restore l G zk_c8 x319  m316 _ hf) zc8 zk_c8 mwX8_restore wmL_119 wiX8_restore wsX8_restore rfl ⟨Nat.le_of_ble_eq_true rfl, Nat.le_of_ble_eq_true rfl⟩ rfl (Nat.le_of_ble_eq_true rfl) dL_law_795 (fun r320 m321 hf => ?_)
  refine za_icmp_eq o 803 dL_law_798 (by decide) (fun c322 => ?_) (fun c322 => ?_)
  · replace hf := hf.1 c322
    exact tL_law_803 o hs  hk18 v1 m321  hf
  · replace hf := hf.2 c322
    refine za_iconst (v := (0 : Int32)) o dL_law_801 (by decide) ?_
    exact hf.elim
set_option maxRecDepth 100000 in
set_option maxHeartbeats 4000000 in
theorem tL_law_18b {p : Program} {l : Launch} {e : Env} {s : State} {m : MethodId} {below : List Frame} {meth : Method} {c : Code} {G : zG} {b L : Nat} {xs : Nat → Int32} {k18 : Int32 → zMem → Prop} (o : za_Ok room_1 537 6387 p s m #[Value.ref b] meth c G RL cL_law 4 (some .boolean)) (hs : zScr b L xs s G) (hk18 : ∀ (v1 : Int32) (μ : zMem), k18 v1 μ → za_At p l e room_1 s m #[Value.ref b] below meth c (lw_Z below #[Value.ref b] s) G 4 537 6387 18 [(0, .ref b), (1, .ref (G.2.2 + 0)), (2, .ref (G.2.2 + 529)), (3, .int v1)] [] μ) (v1 : Int32) (μ : zMem)  (hf : fL_law_18b L xs k18 v1 μ) : za_At p l e room_1 s m #[Value.ref b] below meth c (lw_Z below #[Value.ref b] s) G 4 537 6387 18 [(0, .ref b), (1, .ref (G.2.2 + 0)), (2, .ref (G.2.2 + 529)), (3, .int v1)] [] μ := by
  unfold fL_law_18b at hf
  refine za_iload_n o 3 dL_law_18 rfl rfl ?_
  refine za_aload_n o 0 dL_law_19 rfl rfl ?_
  refine za_slen o hs dL_law_20 ?_
  refine za_topi (fun x323 ex323 => ?_)
  replace hf := hf x323 ex323
  refine za_iconst (v := (4 : Int32)) o dL_law_21 (by decide) ?_
  refine za_isub o dL_law_22 ?_
  refine za_topi (fun x324 ex324 => ?_)
  replace hf := hf x324 ex324
  refine za_icmp_gt o 809 dL_law_23 (by decide) (fun c325 => ?_) (fun c325 => ?_)
  · replace hf := hf.1 c325
    refine za_iconst (v := (1 : Int32)) o dL_law_809 (by decide) ?_
    exact za_lret o hs dL_law_810
  · replace hf := hf.2 c325
    refine za_aload_n o 0 dL_law_26 rfl rfl ?_
    refine za_iload_n o 3 dL_law_27 rfl rfl ?_
    obtain ⟨g326, hf⟩ := hf
    refine za_sld o hs g326 dL_law_28 ?_
    refine za_topi (fun x327 ex327 => ?_)
    replace hf := hf x327 ex327
    refine za_bipush (v := (31 : Int32)) o dL_law_29 (by decide) ?_
    refine za_iand o dL_law_31 ?_
    refine za_topi (fun x328 ex328 => ?_)
    replace hf := hf x328 ex328
    by_cases c329 : x328 = (0 : Int32)
    · replace hf := hf.1 c329
      refine za_tswE o 148 c329 dL_law_32 (by decide) (by decide) rfl (by decide) ?_
      exact tL_law_148 o hs  hk18 v1 μ  hf
    · replace hf := hf.2 c329
      by_cases c330 : x328 = (1 : Int32)
      · replace hf := hf.1 c330
        refine za_tswE o 181 c330 dL_law_32 (by decide) (by decide) rfl (by decide) ?_
        exact tL_law_181 o hs  hk18 v1 μ  hf
      · replace hf := hf.2 c330
        by_cases c331 : x328 = (2 : Int32)
        · replace hf := hf.1 c331
          refine za_tswE o 224 c331 dL_law_32 (by decide) (by decide) rfl (by decide) ?_
          exact tL_law_224 o hs  hk18 v1 μ  hf
        · replace hf := hf.2 c331
          by_cases c332 : x328 = (3 : Int32)
          · replace hf := hf.1 c332
            refine za_tswE o 237 c332 dL_law_32 (by decide) (by decide) rfl (by decide) ?_
            exact tL_law_237 o hs  hk18 v1 μ  hf
          · replace hf := hf.2 c332
            by_cases c333 : x328 = (4 : Int32)
            · replace hf := hf.1 c333
              refine za_tswE o 270 c333 dL_law_32 (by decide) (by decide) rfl (by decide) ?_
              exact tL_law_270 o hs  hk18 v1 μ  hf
            · replace hf := hf.2 c333
              by_cases c334 : x328 = (5 : Int32)
              · replace hf := hf.1 c334
                refine za_tswE o 313 c334 dL_law_32 (by decide) (by decide) rfl (by decide) ?_
                exact tL_law_313 o hs  hk18 v1 μ  hf
              · replace hf := hf.2 c334
                by_cases c335 : x328 = (6 : Int32)
                · replace hf := hf.1 c335
                  refine za_tswE o 346 c335 dL_law_32 (by decide) (by decide) rfl (by decide) ?_
                  exact tL_law_346 o hs  hk18 v1 μ  hf
                · replace hf := hf.2 c335
                  by_cases c336 : x328 = (7 : Int32)
                  · replace hf := hf.1 c336
                    refine za_tswE o 359 c336 dL_law_32 (by decide) (by decide) rfl (by decide) ?_
                    exact tL_law_359 o hs  hk18 v1 μ  hf
                  · replace hf := hf.2 c336
                    by_cases c337 : x328 = (8 : Int32)
                    · replace hf := hf.1 c337
                      refine za_tswE o 382 c337 dL_law_32 (by decide) (by decide) rfl (by decide) ?_
                      exact tL_law_382 o hs  hk18 v1 μ  hf
                    · replace hf := hf.2 c337
                      by_cases c338 : x328 = (9 : Int32)
                      · replace hf := hf.1 c338
                        refine za_tswE o 415 c338 dL_law_32 (by decide) (by decide) rfl (by decide) ?_
                        exact tL_law_415 o hs  hk18 v1 μ  hf
                      · replace hf := hf.2 c338
                        by_cases c339 : x328 = (10 : Int32)
                        · replace hf := hf.1 c339
                          refine za_tswE o 428 c339 dL_law_32 (by decide) (by decide) rfl (by decide) ?_
                          exact tL_law_428 o hs  hk18 v1 μ  hf
                        · replace hf := hf.2 c339
                          by_cases c340 : x328 = (11 : Int32)
                          · replace hf := hf.1 c340
                            refine za_tswE o 461 c340 dL_law_32 (by decide) (by decide) rfl (by decide) ?_
                            exact tL_law_461 o hs  hk18 v1 μ  hf
                          · replace hf := hf.2 c340
                            by_cases c341 : x328 = (12 : Int32)
                            · replace hf := hf.1 c341
                              refine za_tswE o 494 c341 dL_law_32 (by decide) (by decide) rfl (by decide) ?_
                              exact tL_law_494 o hs  hk18 v1 μ  hf
                            · replace hf := hf.2 c341
                              by_cases c342 : x328 = (13 : Int32)
                              · replace hf := hf.1 c342
                                refine za_tswE o 527 c342 dL_law_32 (by decide) (by decide) rfl (by decide) ?_
                                exact tL_law_527 o hs  hk18 v1 μ  hf
                              · replace hf := hf.2 c342
                                by_cases c343 : x328 = (14 : Int32)
                                · replace hf := hf.1 c343
                                  refine za_tswE o 550 c343 dL_law_32 (by decide) (by decide) rfl (by decide) ?_
                                  exact tL_law_550 o hs  hk18 v1 μ  hf
                                · replace hf := hf.2 c343
                                  by_cases c344 : x328 = (15 : Int32)
                                  · replace hf := hf.1 c344
                                    refine za_tswE o 593 c344 dL_law_32 (by decide) (by decide) rfl (by decide) ?_
                                    exact tL_law_593 o hs  hk18 v1 μ  hf
                                  · replace hf := hf.2 c344
                                    by_cases c345 : x328 = (16 : Int32)
                                    · replace hf := hf.1 c345
                                      refine za_tswE o 616 c345 dL_law_32 (by decide) (by decide) rfl (by decide) ?_
                                      exact tL_law_616 o hs  hk18 v1 μ  hf
                                    · replace hf := hf.2 c345
                                      by_cases c346 : x328 = (17 : Int32)
                                      · replace hf := hf.1 c346
                                        refine za_tswE o 639 c346 dL_law_32 (by decide) (by decide) rfl (by decide) ?_
                                        exact tL_law_639 o hs  hk18 v1 μ  hf
                                      · replace hf := hf.2 c346
                                        by_cases c347 : x328 = (18 : Int32)
                                        · replace hf := hf.1 c347
                                          refine za_tswE o 652 c347 dL_law_32 (by decide) (by decide) rfl (by decide) ?_
                                          exact tL_law_652 o hs  hk18 v1 μ  hf
                                        · replace hf := hf.2 c347
                                          by_cases c348 : x328 = (19 : Int32)
                                          · replace hf := hf.1 c348
                                            refine za_tswE o 705 c348 dL_law_32 (by decide) (by decide) rfl (by decide) ?_
                                            exact tL_law_705 o hs  hk18 v1 μ  hf
                                          · replace hf := hf.2 c348
                                            by_cases c349 : x328 = (20 : Int32)
                                            · replace hf := hf.1 c349
                                              refine za_tswE o 718 c349 dL_law_32 (by decide) (by decide) rfl (by decide) ?_
                                              exact tL_law_718 o hs  hk18 v1 μ  hf
                                            · replace hf := hf.2 c349
                                              by_cases c350 : x328 = (21 : Int32)
                                              · replace hf := hf.1 c350
                                                refine za_tswE o 731 c350 dL_law_32 (by decide) (by decide) rfl (by decide) ?_
                                                exact tL_law_731 o hs  hk18 v1 μ  hf
                                              · replace hf := hf.2 c350
                                                by_cases c351 : x328 = (22 : Int32)
                                                · replace hf := hf.1 c351
                                                  refine za_tswE o 744 c351 dL_law_32 (by decide) (by decide) rfl (by decide) ?_
                                                  exact tL_law_744 o hs  hk18 v1 μ  hf
                                                · replace hf := hf.2 c351
                                                  by_cases c352 : x328 = (23 : Int32)
                                                  · replace hf := hf.1 c352
                                                    refine za_tswE o 757 c352 dL_law_32 (by decide) (by decide) rfl (by decide) ?_
                                                    exact tL_law_757 o hs  hk18 v1 μ  hf
                                                  · replace hf := hf.2 c352
                                                    by_cases c353 : x328 = (24 : Int32)
                                                    · replace hf := hf.1 c353
                                                      refine za_tswE o 780 c353 dL_law_32 (by decide) (by decide) rfl (by decide) ?_
                                                      exact tL_law_780 o hs  hk18 v1 μ  hf
                                                    · replace hf := hf.2 c353
                                                      refine za_tswD o 803 dL_law_32 (fun z1 z2 => ?_) (by decide) ?_
                                                      · have z1 := Int.not_lt.mp z1
                                                        have z2 := Int.not_lt.mp z2
                                                        have z3 : (x328).toInt = 0 ∨ (x328).toInt = 1 ∨ (x328).toInt = 2 ∨ (x328).toInt = 3 ∨ (x328).toInt = 4 ∨ (x328).toInt = 5 ∨ (x328).toInt = 6 ∨ (x328).toInt = 7 ∨ (x328).toInt = 8 ∨ (x328).toInt = 9 ∨ (x328).toInt = 10 ∨ (x328).toInt = 11 ∨ (x328).toInt = 12 ∨ (x328).toInt = 13 ∨ (x328).toInt = 14 ∨ (x328).toInt = 15 ∨ (x328).toInt = 16 ∨ (x328).toInt = 17 ∨ (x328).toInt = 18 ∨ (x328).toInt = 19 ∨ (x328).toInt = 20 ∨ (x328).toInt = 21 ∨ (x328).toInt = 22 ∨ (x328).toInt = 23 ∨ (x328).toInt = 24 := by omega
                                                        rcases z3 with z3 | z3 | z3 | z3 | z3 | z3 | z3 | z3 | z3 | z3 | z3 | z3 | z3 | z3 | z3 | z3 | z3 | z3 | z3 | z3 | z3 | z3 | z3 | z3 | z3
                                                        · exact c329 (Int32.toInt_inj.mp (z3.trans rfl))
                                                        · exact c330 (Int32.toInt_inj.mp (z3.trans rfl))
                                                        · exact c331 (Int32.toInt_inj.mp (z3.trans rfl))
                                                        · exact c332 (Int32.toInt_inj.mp (z3.trans rfl))
                                                        · exact c333 (Int32.toInt_inj.mp (z3.trans rfl))
                                                        · exact c334 (Int32.toInt_inj.mp (z3.trans rfl))
                                                        · exact c335 (Int32.toInt_inj.mp (z3.trans rfl))
                                                        · exact c336 (Int32.toInt_inj.mp (z3.trans rfl))
                                                        · exact c337 (Int32.toInt_inj.mp (z3.trans rfl))
                                                        · exact c338 (Int32.toInt_inj.mp (z3.trans rfl))
                                                        · exact c339 (Int32.toInt_inj.mp (z3.trans rfl))
                                                        · exact c340 (Int32.toInt_inj.mp (z3.trans rfl))
                                                        · exact c341 (Int32.toInt_inj.mp (z3.trans rfl))
                                                        · exact c342 (Int32.toInt_inj.mp (z3.trans rfl))
                                                        · exact c343 (Int32.toInt_inj.mp (z3.trans rfl))
                                                        · exact c344 (Int32.toInt_inj.mp (z3.trans rfl))
                                                        · exact c345 (Int32.toInt_inj.mp (z3.trans rfl))
                                                        · exact c346 (Int32.toInt_inj.mp (z3.trans rfl))
                                                        · exact c347 (Int32.toInt_inj.mp (z3.trans rfl))
                                                        · exact c348 (Int32.toInt_inj.mp (z3.trans rfl))
                                                        · exact c349 (Int32.toInt_inj.mp (z3.trans rfl))
                                                        · exact c350 (Int32.toInt_inj.mp (z3.trans rfl))
                                                        · exact c351 (Int32.toInt_inj.mp (z3.trans rfl))
                                                        · exact c352 (Int32.toInt_inj.mp (z3.trans rfl))
                                                        · exact c353 (Int32.toInt_inj.mp (z3.trans rfl))
                                                      · skip
                                                        exact tL_law_803 o hs  hk18 v1 μ  hf
theorem tL_law_18 {p : Program} {l : Launch} {e : Env} {s : State} {m : MethodId} {below : List Frame} {meth : Method} {c : Code} {G : zG} {b L : Nat} {xs : Nat → Int32}  (o : za_Ok room_1 537 6387 p s m #[Value.ref b] meth c G RL cL_law 4 (some .boolean)) (hs : zScr b L xs s G)  (n : Nat) : ∀ (v1 : Int32) (μ : zMem), fL_law_18 L xs  n v1 μ → za_At p l e room_1 s m #[Value.ref b] below meth c (lw_Z below #[Value.ref b] s) G 4 537 6387 18 [(0, .ref b), (1, .ref (G.2.2 + 0)), (2, .ref (G.2.2 + 529)), (3, .int v1)] [] μ := by
  induction n with
  | zero => intro _ _ hf; exact hf.elim
  | succ n ih => intro v1 μ  hf; exact tL_law_18b o hs  ih v1 μ  hf
