theorem wc_oi : Cond.instanceMethod Lib.objectInit ∈ zW := List.mem_filter.mpr ⟨List.mem_of_getElem? (i := 20) (by decide +kernel), by decide +kernel⟩
theorem wc_oc : Cond.code Lib.objectInit ⟨#[0xb1]⟩ 1 none ∈ zW := List.mem_filter.mpr ⟨List.mem_of_getElem? (i := 21) (by decide +kernel), by decide +kernel⟩
theorem wc_aint : Cond.arrayClass .int ∈ zW := List.mem_filter.mpr ⟨List.mem_of_getElem? (i := 72) (by decide +kernel), by decide +kernel⟩
theorem wc_achar : Cond.arrayClass .char ∈ zW := List.mem_filter.mpr ⟨List.mem_of_getElem? (i := 171) (by decide +kernel), by decide +kernel⟩
theorem wc_aboolean : Cond.arrayClass .boolean ∈ zW := List.mem_filter.mpr ⟨List.mem_of_getElem? (i := 157) (by decide +kernel), by decide +kernel⟩
theorem woX5 : Cond.methodLink RX5 3 Lib.objectInit ∈ zW := List.mem_filter.mpr ⟨List.mem_of_getElem? (i := 36) (by decide +kernel), by decide +kernel⟩
theorem wvX5_9 : Cond.fieldLink RX5 9 "CanteenPlates$Person" "dishes" "[I" ∈ zW := List.mem_filter.mpr ⟨List.mem_of_getElem? (i := 37) (by decide +kernel), by decide +kernel⟩
theorem wvX5_15 : Cond.fieldLink RX5 15 "CanteenPlates$Person" "paid" "[I" ∈ zW := List.mem_filter.mpr ⟨List.mem_of_getElem? (i := 39) (by decide +kernel), by decide +kernel⟩
theorem woX1 : Cond.methodLink RX1 3 Lib.objectInit ∈ zW := List.mem_filter.mpr ⟨List.mem_of_getElem? (i := 77) (by decide +kernel), by decide +kernel⟩
theorem wvX1_9 : Cond.fieldLink RX1 9 "CanteenPlates$Dish" "prices" "[I" ∈ zW := List.mem_filter.mpr ⟨List.mem_of_getElem? (i := 78) (by decide +kernel), by decide +kernel⟩
theorem woX4 : Cond.methodLink RX4 3 Lib.objectInit ∈ zW := List.mem_filter.mpr ⟨List.mem_of_getElem? (i := 163) (by decide +kernel), by decide +kernel⟩
theorem wvX4_9 : Cond.fieldLink RX4 9 "CanteenPlates$Pad" "text" "[C" ∈ zW := List.mem_filter.mpr ⟨List.mem_of_getElem? (i := 164) (by decide +kernel), by decide +kernel⟩
theorem woX3 : Cond.methodLink RX3 3 Lib.objectInit ∈ zW := List.mem_filter.mpr ⟨List.mem_of_getElem? (i := 177) (by decide +kernel), by decide +kernel⟩
theorem wvX3_9 : Cond.fieldLink RX3 9 "CanteenPlates$OrderReader" "pad" "LCanteenPlates$Pad;" ∈ zW := List.mem_filter.mpr ⟨List.mem_of_getElem? (i := 178) (by decide +kernel), by decide +kernel⟩
theorem wvX0_17 : Cond.fieldLink RX0 17 "CanteenPlates$Canteen" "staff" "[LCanteenPlates$Person;" ∈ zW := List.mem_filter.mpr ⟨List.mem_of_getElem? (i := 104) (by decide +kernel), by decide +kernel⟩
theorem wlX0_15 : Cond.classLink RX0 15 RX5 ∈ zW := List.mem_filter.mpr ⟨List.mem_of_getElem? (i := 28) (by decide +kernel), by decide +kernel⟩
theorem wzX5 : Cond.instantiable RX5 9 ∈ zW := List.mem_filter.mpr ⟨List.mem_of_getElem? (i := 32) (by decide +kernel), by decide +kernel⟩
theorem wyX5 : Cond.initialized RX5 ∈ zW := List.mem_filter.mpr ⟨List.mem_of_getElem? (i := 6) (by decide +kernel), by decide +kernel⟩
theorem wmX0_27 : Cond.methodLinkNest RX0 27 yX5_init "CanteenPlates" ∈ zNw := List.mem_filter.mpr ⟨List.mem_of_getElem? (i := 33) (by decide +kernel), by decide +kernel⟩
theorem wiX5_init : Cond.instanceMethod yX5_init ∈ zW := List.mem_filter.mpr ⟨List.mem_of_getElem? (i := 34) (by decide +kernel), by decide +kernel⟩
theorem mwX5_init : zMw yX5_init cX5_init 1 none 0 := ⟨List.mem_filter.mpr ⟨List.mem_of_getElem? (i := 35) (by decide +kernel), by decide +kernel⟩, List.mem_filter.mpr ⟨List.mem_of_getElem? (i := 6) (by decide +kernel), by decide +kernel⟩, by decide +kernel⟩
theorem wvX0_23 : Cond.fieldLink RX0 23 "CanteenPlates$Canteen" "dishes" "[LCanteenPlates$Dish;" ∈ zW := List.mem_filter.mpr ⟨List.mem_of_getElem? (i := 105) (by decide +kernel), by decide +kernel⟩
theorem wlX0_21 : Cond.classLink RX0 21 RX1 ∈ zW := List.mem_filter.mpr ⟨List.mem_of_getElem? (i := 30) (by decide +kernel), by decide +kernel⟩
theorem wzX1 : Cond.instantiable RX1 6 ∈ zW := List.mem_filter.mpr ⟨List.mem_of_getElem? (i := 73) (by decide +kernel), by decide +kernel⟩
theorem wyX1 : Cond.initialized RX1 ∈ zW := List.mem_filter.mpr ⟨List.mem_of_getElem? (i := 7) (by decide +kernel), by decide +kernel⟩
theorem wmX0_28 : Cond.methodLinkNest RX0 28 yX1_init "CanteenPlates" ∈ zNw := List.mem_filter.mpr ⟨List.mem_of_getElem? (i := 74) (by decide +kernel), by decide +kernel⟩
theorem wiX1_init : Cond.instanceMethod yX1_init ∈ zW := List.mem_filter.mpr ⟨List.mem_of_getElem? (i := 75) (by decide +kernel), by decide +kernel⟩
theorem mwX1_init : zMw yX1_init cX1_init 1 none 0 := ⟨List.mem_filter.mpr ⟨List.mem_of_getElem? (i := 76) (by decide +kernel), by decide +kernel⟩, List.mem_filter.mpr ⟨List.mem_of_getElem? (i := 7) (by decide +kernel), by decide +kernel⟩, by decide +kernel⟩
theorem woX0 : Cond.methodLink RX0 3 Lib.objectInit ∈ zW := List.mem_filter.mpr ⟨List.mem_of_getElem? (i := 27) (by decide +kernel), by decide +kernel⟩
theorem wvX0_9 : Cond.fieldLink RX0 9 "CanteenPlates$Canteen" "settings" "[I" ∈ zW := List.mem_filter.mpr ⟨List.mem_of_getElem? (i := 103) (by decide +kernel), by decide +kernel⟩
theorem wvX2_11 : Cond.fieldLink RX2 11 "CanteenPlates$History" "states" "[LCanteenPlates$Canteen;" ∈ zW := List.mem_filter.mpr ⟨List.mem_of_getElem? (i := 132) (by decide +kernel), by decide +kernel⟩
theorem wlX2_9 : Cond.classLink RX2 9 RX0 ∈ zW := List.mem_filter.mpr ⟨List.mem_of_getElem? (i := 129) (by decide +kernel), by decide +kernel⟩
theorem wzX0 : Cond.instantiable RX0 6 ∈ zW := List.mem_filter.mpr ⟨List.mem_of_getElem? (i := 23) (by decide +kernel), by decide +kernel⟩
theorem wyX0 : Cond.initialized RX0 ∈ zW := List.mem_filter.mpr ⟨List.mem_of_getElem? (i := 5) (by decide +kernel), by decide +kernel⟩
theorem wmX2_17 : Cond.methodLink RX2 17 yX0_init ∈ zW := List.mem_filter.mpr ⟨List.mem_of_getElem? (i := 131) (by decide +kernel), by decide +kernel⟩
theorem wiX0_init : Cond.instanceMethod yX0_init ∈ zW := List.mem_filter.mpr ⟨List.mem_of_getElem? (i := 25) (by decide +kernel), by decide +kernel⟩
theorem mwX0_init : zMw yX0_init cX0_init 2 none 0 := ⟨List.mem_filter.mpr ⟨List.mem_of_getElem? (i := 26) (by decide +kernel), by decide +kernel⟩, List.mem_filter.mpr ⟨List.mem_of_getElem? (i := 5) (by decide +kernel), by decide +kernel⟩, by decide +kernel⟩
theorem woX2 : Cond.methodLink RX2 3 Lib.objectInit ∈ zW := List.mem_filter.mpr ⟨List.mem_of_getElem? (i := 128) (by decide +kernel), by decide +kernel⟩
theorem wvX6_11 : Cond.fieldLink RX6 11 "CanteenPlates$Slots" "saved" "[LCanteenPlates$Canteen;" ∈ zW := List.mem_filter.mpr ⟨List.mem_of_getElem? (i := 150) (by decide +kernel), by decide +kernel⟩
theorem wlX6_9 : Cond.classLink RX6 9 RX0 ∈ zW := List.mem_filter.mpr ⟨List.mem_of_getElem? (i := 148) (by decide +kernel), by decide +kernel⟩
theorem wmX6_21 : Cond.methodLink RX6 21 yX0_init ∈ zW := List.mem_filter.mpr ⟨List.mem_of_getElem? (i := 149) (by decide +kernel), by decide +kernel⟩
theorem woX6 : Cond.methodLink RX6 3 Lib.objectInit ∈ zW := List.mem_filter.mpr ⟨List.mem_of_getElem? (i := 147) (by decide +kernel), by decide +kernel⟩
theorem wvX6_17 : Cond.fieldLink RX6 17 "CanteenPlates$Slots" "used" "[Z" ∈ zW := List.mem_filter.mpr ⟨List.mem_of_getElem? (i := 151) (by decide +kernel), by decide +kernel⟩
theorem woX7 : Cond.methodLink RX7 1 Lib.objectInit ∈ zW := List.mem_filter.mpr ⟨List.mem_of_getElem? (i := 19) (by decide +kernel), by decide +kernel⟩
theorem wlX7_7 : Cond.classLink RX7 7 RX0 ∈ zW := List.mem_filter.mpr ⟨List.mem_of_getElem? (i := 22) (by decide +kernel), by decide +kernel⟩
theorem wmX7_9 : Cond.methodLink RX7 9 yX0_init ∈ zW := List.mem_filter.mpr ⟨List.mem_of_getElem? (i := 24) (by decide +kernel), by decide +kernel⟩
theorem wvX7_10 : Cond.fieldLink RX7 10 "CanteenPlates" "now" "LCanteenPlates$Canteen;" ∈ zW := List.mem_filter.mpr ⟨List.mem_of_getElem? (i := 194) (by decide +kernel), by decide +kernel⟩
theorem wlX7_16 : Cond.classLink RX7 16 RX2 ∈ zW := List.mem_filter.mpr ⟨List.mem_of_getElem? (i := 123) (by decide +kernel), by decide +kernel⟩
theorem wzX2 : Cond.instantiable RX2 3 ∈ zW := List.mem_filter.mpr ⟨List.mem_of_getElem? (i := 124) (by decide +kernel), by decide +kernel⟩
theorem wyX2 : Cond.initialized RX2 ∈ zW := List.mem_filter.mpr ⟨List.mem_of_getElem? (i := 8) (by decide +kernel), by decide +kernel⟩
theorem wmX7_18 : Cond.methodLink RX7 18 yX2_init ∈ zW := List.mem_filter.mpr ⟨List.mem_of_getElem? (i := 125) (by decide +kernel), by decide +kernel⟩
theorem wiX2_init : Cond.instanceMethod yX2_init ∈ zW := List.mem_filter.mpr ⟨List.mem_of_getElem? (i := 126) (by decide +kernel), by decide +kernel⟩
theorem mwX2_init : zMw yX2_init cX2_init 2 none 0 := ⟨List.mem_filter.mpr ⟨List.mem_of_getElem? (i := 127) (by decide +kernel), by decide +kernel⟩, List.mem_filter.mpr ⟨List.mem_of_getElem? (i := 8) (by decide +kernel), by decide +kernel⟩, by decide +kernel⟩
theorem wvX7_19 : Cond.fieldLink RX7 19 "CanteenPlates" "history" "LCanteenPlates$History;" ∈ zW := List.mem_filter.mpr ⟨List.mem_of_getElem? (i := 195) (by decide +kernel), by decide +kernel⟩
theorem wlX7_23 : Cond.classLink RX7 23 RX6 ∈ zW := List.mem_filter.mpr ⟨List.mem_of_getElem? (i := 142) (by decide +kernel), by decide +kernel⟩
theorem wzX6 : Cond.instantiable RX6 2 ∈ zW := List.mem_filter.mpr ⟨List.mem_of_getElem? (i := 143) (by decide +kernel), by decide +kernel⟩
theorem wyX6 : Cond.initialized RX6 ∈ zW := List.mem_filter.mpr ⟨List.mem_of_getElem? (i := 9) (by decide +kernel), by decide +kernel⟩
theorem wmX7_25 : Cond.methodLink RX7 25 yX6_init ∈ zW := List.mem_filter.mpr ⟨List.mem_of_getElem? (i := 144) (by decide +kernel), by decide +kernel⟩
theorem wiX6_init : Cond.instanceMethod yX6_init ∈ zW := List.mem_filter.mpr ⟨List.mem_of_getElem? (i := 145) (by decide +kernel), by decide +kernel⟩
theorem mwX6_init : zMw yX6_init cX6_init 2 none 0 := ⟨List.mem_filter.mpr ⟨List.mem_of_getElem? (i := 146) (by decide +kernel), by decide +kernel⟩, List.mem_filter.mpr ⟨List.mem_of_getElem? (i := 9) (by decide +kernel), by decide +kernel⟩, by decide +kernel⟩
theorem wvX7_26 : Cond.fieldLink RX7 26 "CanteenPlates" "slots" "LCanteenPlates$Slots;" ∈ zW := List.mem_filter.mpr ⟨List.mem_of_getElem? (i := 196) (by decide +kernel), by decide +kernel⟩
theorem wlX7_30 : Cond.classLink RX7 30 RX4 ∈ zW := List.mem_filter.mpr ⟨List.mem_of_getElem? (i := 158) (by decide +kernel), by decide +kernel⟩
theorem wzX4 : Cond.instantiable RX4 2 ∈ zW := List.mem_filter.mpr ⟨List.mem_of_getElem? (i := 159) (by decide +kernel), by decide +kernel⟩
theorem wyX4 : Cond.initialized RX4 ∈ zW := List.mem_filter.mpr ⟨List.mem_of_getElem? (i := 10) (by decide +kernel), by decide +kernel⟩
theorem wmX7_32 : Cond.methodLinkNest RX7 32 yX4_init "CanteenPlates" ∈ zNw := List.mem_filter.mpr ⟨List.mem_of_getElem? (i := 160) (by decide +kernel), by decide +kernel⟩
theorem wiX4_init : Cond.instanceMethod yX4_init ∈ zW := List.mem_filter.mpr ⟨List.mem_of_getElem? (i := 161) (by decide +kernel), by decide +kernel⟩
theorem mwX4_init : zMw yX4_init cX4_init 1 none 0 := ⟨List.mem_filter.mpr ⟨List.mem_of_getElem? (i := 162) (by decide +kernel), by decide +kernel⟩, List.mem_filter.mpr ⟨List.mem_of_getElem? (i := 10) (by decide +kernel), by decide +kernel⟩, by decide +kernel⟩
theorem wvX7_33 : Cond.fieldLink RX7 33 "CanteenPlates" "pad" "LCanteenPlates$Pad;" ∈ zW := List.mem_filter.mpr ⟨List.mem_of_getElem? (i := 197) (by decide +kernel), by decide +kernel⟩
theorem wlX7_37 : Cond.classLink RX7 37 RX3 ∈ zW := List.mem_filter.mpr ⟨List.mem_of_getElem? (i := 172) (by decide +kernel), by decide +kernel⟩
theorem wzX3 : Cond.instantiable RX3 7 ∈ zW := List.mem_filter.mpr ⟨List.mem_of_getElem? (i := 173) (by decide +kernel), by decide +kernel⟩
theorem wyX3 : Cond.initialized RX3 ∈ zW := List.mem_filter.mpr ⟨List.mem_of_getElem? (i := 11) (by decide +kernel), by decide +kernel⟩
theorem wmX7_39 : Cond.methodLink RX7 39 yX3_init ∈ zW := List.mem_filter.mpr ⟨List.mem_of_getElem? (i := 174) (by decide +kernel), by decide +kernel⟩
theorem wiX3_init : Cond.instanceMethod yX3_init ∈ zW := List.mem_filter.mpr ⟨List.mem_of_getElem? (i := 175) (by decide +kernel), by decide +kernel⟩
theorem mwX3_init : zMw yX3_init cX3_init 2 none 1 := ⟨List.mem_filter.mpr ⟨List.mem_of_getElem? (i := 176) (by decide +kernel), by decide +kernel⟩, List.mem_filter.mpr ⟨List.mem_of_getElem? (i := 11) (by decide +kernel), by decide +kernel⟩, by decide +kernel⟩
theorem wvX7_42 : Cond.fieldLink RX7 42 "CanteenPlates" "reader" "LCanteenPlates$OrderReader;" ∈ zW := List.mem_filter.mpr ⟨List.mem_of_getElem? (i := 198) (by decide +kernel), by decide +kernel⟩
