theorem wc_oi : Cond.instanceMethod Lib.objectInit ∈ zW := List.mem_filter.mpr ⟨List.mem_of_getElem? (i := 60) (by decide +kernel), by decide +kernel⟩
theorem wc_oc : Cond.code Lib.objectInit ⟨#[0xb1]⟩ 1 none ∈ zW := List.mem_filter.mpr ⟨List.mem_of_getElem? (i := 61) (by decide +kernel), by decide +kernel⟩
theorem wc_aint : Cond.arrayClass .int ∈ zW := List.mem_filter.mpr ⟨List.mem_of_getElem? (i := 112) (by decide +kernel), by decide +kernel⟩
theorem wc_achar : Cond.arrayClass .char ∈ zW := List.mem_filter.mpr ⟨List.mem_of_getElem? (i := 211) (by decide +kernel), by decide +kernel⟩
theorem wc_aboolean : Cond.arrayClass .boolean ∈ zW := List.mem_filter.mpr ⟨List.mem_of_getElem? (i := 197) (by decide +kernel), by decide +kernel⟩
theorem woX5 : Cond.methodLink RX5 3 Lib.objectInit ∈ zW := List.mem_filter.mpr ⟨List.mem_of_getElem? (i := 76) (by decide +kernel), by decide +kernel⟩
theorem wvX5_9 : Cond.fieldLink RX5 9 "CanteenPlates$Person" "dishes" "[I" ∈ zW := List.mem_filter.mpr ⟨List.mem_of_getElem? (i := 77) (by decide +kernel), by decide +kernel⟩
theorem wvX5_15 : Cond.fieldLink RX5 15 "CanteenPlates$Person" "paid" "[I" ∈ zW := List.mem_filter.mpr ⟨List.mem_of_getElem? (i := 79) (by decide +kernel), by decide +kernel⟩
theorem woX1 : Cond.methodLink RX1 3 Lib.objectInit ∈ zW := List.mem_filter.mpr ⟨List.mem_of_getElem? (i := 117) (by decide +kernel), by decide +kernel⟩
theorem wvX1_9 : Cond.fieldLink RX1 9 "CanteenPlates$Dish" "prices" "[I" ∈ zW := List.mem_filter.mpr ⟨List.mem_of_getElem? (i := 118) (by decide +kernel), by decide +kernel⟩
theorem woX4 : Cond.methodLink RX4 3 Lib.objectInit ∈ zW := List.mem_filter.mpr ⟨List.mem_of_getElem? (i := 203) (by decide +kernel), by decide +kernel⟩
theorem wvX4_9 : Cond.fieldLink RX4 9 "CanteenPlates$Pad" "text" "[C" ∈ zW := List.mem_filter.mpr ⟨List.mem_of_getElem? (i := 204) (by decide +kernel), by decide +kernel⟩
theorem woX3 : Cond.methodLink RX3 3 Lib.objectInit ∈ zW := List.mem_filter.mpr ⟨List.mem_of_getElem? (i := 217) (by decide +kernel), by decide +kernel⟩
theorem wvX3_9 : Cond.fieldLink RX3 9 "CanteenPlates$OrderReader" "pad" "LCanteenPlates$Pad;" ∈ zW := List.mem_filter.mpr ⟨List.mem_of_getElem? (i := 218) (by decide +kernel), by decide +kernel⟩
theorem wvX0_17 : Cond.fieldLink RX0 17 "CanteenPlates$Canteen" "staff" "[LCanteenPlates$Person;" ∈ zW := List.mem_filter.mpr ⟨List.mem_of_getElem? (i := 144) (by decide +kernel), by decide +kernel⟩
theorem wlX0_15 : Cond.classLink RX0 15 RX5 ∈ zW := List.mem_filter.mpr ⟨List.mem_of_getElem? (i := 68) (by decide +kernel), by decide +kernel⟩
theorem wzX5 : Cond.instantiable RX5 9 ∈ zW := List.mem_filter.mpr ⟨List.mem_of_getElem? (i := 72) (by decide +kernel), by decide +kernel⟩
theorem wyX5 : Cond.initialized RX5 ∈ zW := List.mem_filter.mpr ⟨List.mem_of_getElem? (i := 45) (by decide +kernel), by decide +kernel⟩
theorem wmX0_27 : Cond.methodLinkNest RX0 27 yX5_init "CanteenPlates" ∈ zNw := List.mem_filter.mpr ⟨List.mem_of_getElem? (i := 73) (by decide +kernel), by decide +kernel⟩
theorem wiX5_init : Cond.instanceMethod yX5_init ∈ zW := List.mem_filter.mpr ⟨List.mem_of_getElem? (i := 74) (by decide +kernel), by decide +kernel⟩
theorem mwX5_init : zMw yX5_init cX5_init 1 none 0 := ⟨List.mem_filter.mpr ⟨List.mem_of_getElem? (i := 75) (by decide +kernel), by decide +kernel⟩, List.mem_filter.mpr ⟨List.mem_of_getElem? (i := 45) (by decide +kernel), by decide +kernel⟩, by decide +kernel⟩
theorem wvX0_23 : Cond.fieldLink RX0 23 "CanteenPlates$Canteen" "dishes" "[LCanteenPlates$Dish;" ∈ zW := List.mem_filter.mpr ⟨List.mem_of_getElem? (i := 145) (by decide +kernel), by decide +kernel⟩
theorem wlX0_21 : Cond.classLink RX0 21 RX1 ∈ zW := List.mem_filter.mpr ⟨List.mem_of_getElem? (i := 70) (by decide +kernel), by decide +kernel⟩
theorem wzX1 : Cond.instantiable RX1 6 ∈ zW := List.mem_filter.mpr ⟨List.mem_of_getElem? (i := 113) (by decide +kernel), by decide +kernel⟩
theorem wyX1 : Cond.initialized RX1 ∈ zW := List.mem_filter.mpr ⟨List.mem_of_getElem? (i := 46) (by decide +kernel), by decide +kernel⟩
theorem wmX0_28 : Cond.methodLinkNest RX0 28 yX1_init "CanteenPlates" ∈ zNw := List.mem_filter.mpr ⟨List.mem_of_getElem? (i := 114) (by decide +kernel), by decide +kernel⟩
theorem wiX1_init : Cond.instanceMethod yX1_init ∈ zW := List.mem_filter.mpr ⟨List.mem_of_getElem? (i := 115) (by decide +kernel), by decide +kernel⟩
theorem mwX1_init : zMw yX1_init cX1_init 1 none 0 := ⟨List.mem_filter.mpr ⟨List.mem_of_getElem? (i := 116) (by decide +kernel), by decide +kernel⟩, List.mem_filter.mpr ⟨List.mem_of_getElem? (i := 46) (by decide +kernel), by decide +kernel⟩, by decide +kernel⟩
theorem woX0 : Cond.methodLink RX0 3 Lib.objectInit ∈ zW := List.mem_filter.mpr ⟨List.mem_of_getElem? (i := 67) (by decide +kernel), by decide +kernel⟩
theorem wvX0_9 : Cond.fieldLink RX0 9 "CanteenPlates$Canteen" "settings" "[I" ∈ zW := List.mem_filter.mpr ⟨List.mem_of_getElem? (i := 143) (by decide +kernel), by decide +kernel⟩
theorem wvX2_11 : Cond.fieldLink RX2 11 "CanteenPlates$History" "states" "[LCanteenPlates$Canteen;" ∈ zW := List.mem_filter.mpr ⟨List.mem_of_getElem? (i := 172) (by decide +kernel), by decide +kernel⟩
theorem wlX2_9 : Cond.classLink RX2 9 RX0 ∈ zW := List.mem_filter.mpr ⟨List.mem_of_getElem? (i := 169) (by decide +kernel), by decide +kernel⟩
theorem wzX0 : Cond.instantiable RX0 6 ∈ zW := List.mem_filter.mpr ⟨List.mem_of_getElem? (i := 63) (by decide +kernel), by decide +kernel⟩
theorem wyX0 : Cond.initialized RX0 ∈ zW := List.mem_filter.mpr ⟨List.mem_of_getElem? (i := 44) (by decide +kernel), by decide +kernel⟩
theorem wmX2_17 : Cond.methodLink RX2 17 yX0_init ∈ zW := List.mem_filter.mpr ⟨List.mem_of_getElem? (i := 171) (by decide +kernel), by decide +kernel⟩
theorem wiX0_init : Cond.instanceMethod yX0_init ∈ zW := List.mem_filter.mpr ⟨List.mem_of_getElem? (i := 65) (by decide +kernel), by decide +kernel⟩
theorem mwX0_init : zMw yX0_init cX0_init 2 none 0 := ⟨List.mem_filter.mpr ⟨List.mem_of_getElem? (i := 66) (by decide +kernel), by decide +kernel⟩, List.mem_filter.mpr ⟨List.mem_of_getElem? (i := 44) (by decide +kernel), by decide +kernel⟩, by decide +kernel⟩
theorem woX2 : Cond.methodLink RX2 3 Lib.objectInit ∈ zW := List.mem_filter.mpr ⟨List.mem_of_getElem? (i := 168) (by decide +kernel), by decide +kernel⟩
theorem wvX6_11 : Cond.fieldLink RX6 11 "CanteenPlates$Slots" "saved" "[LCanteenPlates$Canteen;" ∈ zW := List.mem_filter.mpr ⟨List.mem_of_getElem? (i := 190) (by decide +kernel), by decide +kernel⟩
theorem wlX6_9 : Cond.classLink RX6 9 RX0 ∈ zW := List.mem_filter.mpr ⟨List.mem_of_getElem? (i := 188) (by decide +kernel), by decide +kernel⟩
theorem wmX6_21 : Cond.methodLink RX6 21 yX0_init ∈ zW := List.mem_filter.mpr ⟨List.mem_of_getElem? (i := 189) (by decide +kernel), by decide +kernel⟩
theorem woX6 : Cond.methodLink RX6 3 Lib.objectInit ∈ zW := List.mem_filter.mpr ⟨List.mem_of_getElem? (i := 187) (by decide +kernel), by decide +kernel⟩
theorem wvX6_17 : Cond.fieldLink RX6 17 "CanteenPlates$Slots" "used" "[Z" ∈ zW := List.mem_filter.mpr ⟨List.mem_of_getElem? (i := 191) (by decide +kernel), by decide +kernel⟩
theorem woX7 : Cond.methodLink RX7 1 Lib.objectInit ∈ zW := List.mem_filter.mpr ⟨List.mem_of_getElem? (i := 59) (by decide +kernel), by decide +kernel⟩
theorem wlX7_7 : Cond.classLink RX7 7 RX0 ∈ zW := List.mem_filter.mpr ⟨List.mem_of_getElem? (i := 62) (by decide +kernel), by decide +kernel⟩
theorem wmX7_9 : Cond.methodLink RX7 9 yX0_init ∈ zW := List.mem_filter.mpr ⟨List.mem_of_getElem? (i := 64) (by decide +kernel), by decide +kernel⟩
theorem wvX7_10 : Cond.fieldLink RX7 10 "CanteenPlates" "now" "LCanteenPlates$Canteen;" ∈ zW := List.mem_filter.mpr ⟨List.mem_of_getElem? (i := 245) (by decide +kernel), by decide +kernel⟩
theorem wlX7_16 : Cond.classLink RX7 16 RX2 ∈ zW := List.mem_filter.mpr ⟨List.mem_of_getElem? (i := 163) (by decide +kernel), by decide +kernel⟩
theorem wzX2 : Cond.instantiable RX2 3 ∈ zW := List.mem_filter.mpr ⟨List.mem_of_getElem? (i := 164) (by decide +kernel), by decide +kernel⟩
theorem wyX2 : Cond.initialized RX2 ∈ zW := List.mem_filter.mpr ⟨List.mem_of_getElem? (i := 47) (by decide +kernel), by decide +kernel⟩
theorem wmX7_18 : Cond.methodLink RX7 18 yX2_init ∈ zW := List.mem_filter.mpr ⟨List.mem_of_getElem? (i := 165) (by decide +kernel), by decide +kernel⟩
theorem wiX2_init : Cond.instanceMethod yX2_init ∈ zW := List.mem_filter.mpr ⟨List.mem_of_getElem? (i := 166) (by decide +kernel), by decide +kernel⟩
theorem mwX2_init : zMw yX2_init cX2_init 2 none 0 := ⟨List.mem_filter.mpr ⟨List.mem_of_getElem? (i := 167) (by decide +kernel), by decide +kernel⟩, List.mem_filter.mpr ⟨List.mem_of_getElem? (i := 47) (by decide +kernel), by decide +kernel⟩, by decide +kernel⟩
theorem wvX7_19 : Cond.fieldLink RX7 19 "CanteenPlates" "history" "LCanteenPlates$History;" ∈ zW := List.mem_filter.mpr ⟨List.mem_of_getElem? (i := 246) (by decide +kernel), by decide +kernel⟩
theorem wlX7_23 : Cond.classLink RX7 23 RX6 ∈ zW := List.mem_filter.mpr ⟨List.mem_of_getElem? (i := 182) (by decide +kernel), by decide +kernel⟩
theorem wzX6 : Cond.instantiable RX6 2 ∈ zW := List.mem_filter.mpr ⟨List.mem_of_getElem? (i := 183) (by decide +kernel), by decide +kernel⟩
theorem wyX6 : Cond.initialized RX6 ∈ zW := List.mem_filter.mpr ⟨List.mem_of_getElem? (i := 48) (by decide +kernel), by decide +kernel⟩
theorem wmX7_25 : Cond.methodLink RX7 25 yX6_init ∈ zW := List.mem_filter.mpr ⟨List.mem_of_getElem? (i := 184) (by decide +kernel), by decide +kernel⟩
theorem wiX6_init : Cond.instanceMethod yX6_init ∈ zW := List.mem_filter.mpr ⟨List.mem_of_getElem? (i := 185) (by decide +kernel), by decide +kernel⟩
theorem mwX6_init : zMw yX6_init cX6_init 2 none 0 := ⟨List.mem_filter.mpr ⟨List.mem_of_getElem? (i := 186) (by decide +kernel), by decide +kernel⟩, List.mem_filter.mpr ⟨List.mem_of_getElem? (i := 48) (by decide +kernel), by decide +kernel⟩, by decide +kernel⟩
theorem wvX7_26 : Cond.fieldLink RX7 26 "CanteenPlates" "slots" "LCanteenPlates$Slots;" ∈ zW := List.mem_filter.mpr ⟨List.mem_of_getElem? (i := 247) (by decide +kernel), by decide +kernel⟩
theorem wlX7_30 : Cond.classLink RX7 30 RX4 ∈ zW := List.mem_filter.mpr ⟨List.mem_of_getElem? (i := 198) (by decide +kernel), by decide +kernel⟩
theorem wzX4 : Cond.instantiable RX4 2 ∈ zW := List.mem_filter.mpr ⟨List.mem_of_getElem? (i := 199) (by decide +kernel), by decide +kernel⟩
theorem wyX4 : Cond.initialized RX4 ∈ zW := List.mem_filter.mpr ⟨List.mem_of_getElem? (i := 49) (by decide +kernel), by decide +kernel⟩
theorem wmX7_32 : Cond.methodLinkNest RX7 32 yX4_init "CanteenPlates" ∈ zNw := List.mem_filter.mpr ⟨List.mem_of_getElem? (i := 200) (by decide +kernel), by decide +kernel⟩
theorem wiX4_init : Cond.instanceMethod yX4_init ∈ zW := List.mem_filter.mpr ⟨List.mem_of_getElem? (i := 201) (by decide +kernel), by decide +kernel⟩
theorem mwX4_init : zMw yX4_init cX4_init 1 none 0 := ⟨List.mem_filter.mpr ⟨List.mem_of_getElem? (i := 202) (by decide +kernel), by decide +kernel⟩, List.mem_filter.mpr ⟨List.mem_of_getElem? (i := 49) (by decide +kernel), by decide +kernel⟩, by decide +kernel⟩
theorem wvX7_33 : Cond.fieldLink RX7 33 "CanteenPlates" "pad" "LCanteenPlates$Pad;" ∈ zW := List.mem_filter.mpr ⟨List.mem_of_getElem? (i := 248) (by decide +kernel), by decide +kernel⟩
theorem wlX7_37 : Cond.classLink RX7 37 RX3 ∈ zW := List.mem_filter.mpr ⟨List.mem_of_getElem? (i := 212) (by decide +kernel), by decide +kernel⟩
theorem wzX3 : Cond.instantiable RX3 7 ∈ zW := List.mem_filter.mpr ⟨List.mem_of_getElem? (i := 213) (by decide +kernel), by decide +kernel⟩
theorem wyX3 : Cond.initialized RX3 ∈ zW := List.mem_filter.mpr ⟨List.mem_of_getElem? (i := 50) (by decide +kernel), by decide +kernel⟩
theorem wmX7_39 : Cond.methodLink RX7 39 yX3_init ∈ zW := List.mem_filter.mpr ⟨List.mem_of_getElem? (i := 214) (by decide +kernel), by decide +kernel⟩
theorem wiX3_init : Cond.instanceMethod yX3_init ∈ zW := List.mem_filter.mpr ⟨List.mem_of_getElem? (i := 215) (by decide +kernel), by decide +kernel⟩
theorem mwX3_init : zMw yX3_init cX3_init 2 none 1 := ⟨List.mem_filter.mpr ⟨List.mem_of_getElem? (i := 216) (by decide +kernel), by decide +kernel⟩, List.mem_filter.mpr ⟨List.mem_of_getElem? (i := 50) (by decide +kernel), by decide +kernel⟩, by decide +kernel⟩
theorem wvX7_42 : Cond.fieldLink RX7 42 "CanteenPlates" "reader" "LCanteenPlates$OrderReader;" ∈ zW := List.mem_filter.mpr ⟨List.mem_of_getElem? (i := 249) (by decide +kernel), by decide +kernel⟩
theorem woX8 : Cond.methodLink RX8 1 Lib.objectInit ∈ zW := List.mem_filter.mpr ⟨List.mem_of_getElem? (i := 687) (by decide +kernel), by decide +kernel⟩
theorem wvX8_7 : Cond.fieldLink RX8 7 "CanteenPlatesModel" "s" "[I" ∈ zW := List.mem_filter.mpr ⟨List.mem_of_getElem? (i := 688) (by decide +kernel), by decide +kernel⟩
theorem wvX8_13 : Cond.fieldLink RX8 13 "CanteenPlatesModel" "spare" "[I" ∈ zW := List.mem_filter.mpr ⟨List.mem_of_getElem? (i := 689) (by decide +kernel), by decide +kernel⟩
theorem wvX8_16 : Cond.fieldLink RX8 16 "CanteenPlatesModel" "before" "[I" ∈ zW := List.mem_filter.mpr ⟨List.mem_of_getElem? (i := 690) (by decide +kernel), by decide +kernel⟩
theorem wvX8_19 : Cond.fieldLink RX8 19 "CanteenPlatesModel" "saved" "[I" ∈ zW := List.mem_filter.mpr ⟨List.mem_of_getElem? (i := 691) (by decide +kernel), by decide +kernel⟩
theorem wvX8_22 : Cond.fieldLink RX8 22 "CanteenPlatesModel" "isSaved" "[Z" ∈ zW := List.mem_filter.mpr ⟨List.mem_of_getElem? (i := 692) (by decide +kernel), by decide +kernel⟩
theorem wvX8_26 : Cond.fieldLink RX8 26 "CanteenPlatesModel" "read" "[I" ∈ zW := List.mem_filter.mpr ⟨List.mem_of_getElem? (i := 693) (by decide +kernel), by decide +kernel⟩
theorem wvX8_29 : Cond.fieldLink RX8 29 "CanteenPlatesModel" "pad" "[C" ∈ zW := List.mem_filter.mpr ⟨List.mem_of_getElem? (i := 694) (by decide +kernel), by decide +kernel⟩
