theorem wc_oi : Cond.instanceMethod Lib.objectInit ∈ zW := List.mem_filter.mpr ⟨List.mem_of_getElem? (i := 60) (by decide +kernel), by decide +kernel⟩
theorem wc_oc : Cond.code Lib.objectInit ⟨#[0xb1]⟩ 1 none ∈ zW := List.mem_filter.mpr ⟨List.mem_of_getElem? (i := 61) (by decide +kernel), by decide +kernel⟩
theorem wc_aint : Cond.arrayClass .int ∈ zW := List.mem_filter.mpr ⟨List.mem_of_getElem? (i := 112) (by decide +kernel), by decide +kernel⟩
theorem wc_achar : Cond.arrayClass .char ∈ zW := List.mem_filter.mpr ⟨List.mem_of_getElem? (i := 211) (by decide +kernel), by decide +kernel⟩
theorem wc_aboolean : Cond.arrayClass .boolean ∈ zW := List.mem_filter.mpr ⟨List.mem_of_getElem? (i := 197) (by decide +kernel), by decide +kernel⟩
theorem woX5 : Cond.methodLink RX5 3 Lib.objectInit ∈ zW := List.mem_filter.mpr ⟨List.mem_of_getElem? (i := 76) (by decide +kernel), by decide +kernel⟩
theorem wvX5_9 : Cond.fieldLink RX5 9 "CanteenPlates$Person" "dishes" "[I" ∈ zW := List.mem_filter.mpr ⟨List.mem_of_getElem? (i := 77) (by decide +kernel), by decide +kernel⟩
theorem wvX5_15 : Cond.fieldLink RX5 15 "CanteenPlates$Person" "paid" "[I" ∈ zW := List.mem_filter.mpr ⟨List.mem_of_getElem? (i := 79) (by decide +kernel), by decide +kernel⟩
theorem woX1 : Cond.methodLink RX1 3 Lib.objectInit ∈ zW := List.mem_filter.mpr ⟨List.mem_of_getElem? (i := 117) (by decide +kernel), by decide +kernel⟩
theorem wvX1_9 : Cond.fieldLink RX1 9 "CanteenPlates$Dish" "prices" "[I" ∈ zW := List.mem_filter.mpr ⟨List.mem_of_getElem? (i := 118) (by decide +kernel), by decide +kernel⟩
theorem woX4 : Cond.methodLink RX4 3 Lib.objectInit ∈ zW := List.mem_filter.mpr ⟨List.mem_of_getElem? (i := 203) (by decide +kernel), by decide +kernel⟩
theorem wvX4_9 : Cond.fieldLink RX4 9 "CanteenPlates$Pad" "text" "[C" ∈ zW := List.mem_filter.mpr ⟨List.mem_of_getElem? (i := 204) (by decide +kernel), by decide +kernel⟩
theorem woX3 : Cond.methodLink RX3 3 Lib.objectInit ∈ zW := List.mem_filter.mpr ⟨List.mem_of_getElem? (i := 217) (by decide +kernel), by decide +kernel⟩
theorem wvX3_9 : Cond.fieldLink RX3 9 "CanteenPlates$OrderReader" "pad" "LCanteenPlates$Pad;" ∈ zW := List.mem_filter.mpr ⟨List.mem_of_getElem? (i := 218) (by decide +kernel), by decide +kernel⟩
theorem wvX0_17 : Cond.fieldLink RX0 17 "CanteenPlates$Canteen" "staff" "[LCanteenPlates$Person;" ∈ zW := List.mem_filter.mpr ⟨List.mem_of_getElem? (i := 144) (by decide +kernel), by decide +kernel⟩
theorem wlX0_15 : Cond.classLink RX0 15 RX5 ∈ zW := List.mem_filter.mpr ⟨List.mem_of_getElem? (i := 68) (by decide +kernel), by decide +kernel⟩
theorem wzX5 : Cond.instantiable RX5 9 ∈ zW := List.mem_filter.mpr ⟨List.mem_of_getElem? (i := 72) (by decide +kernel), by decide +kernel⟩
theorem wyX5 : Cond.initialized RX5 ∈ zW := List.mem_filter.mpr ⟨List.mem_of_getElem? (i := 45) (by decide +kernel), by decide +kernel⟩
theorem wmX0_27 : Cond.methodLinkNest RX0 27 yX5_init "CanteenPlates" ∈ zNw := List.mem_filter.mpr ⟨List.mem_of_getElem? (i := 73) (by decide +kernel), by decide +kernel⟩
theorem wiX5_init : Cond.instanceMethod yX5_init ∈ zW := List.mem_filter.mpr ⟨List.mem_of_getElem? (i := 74) (by decide +kernel), by decide +kernel⟩
theorem mwX5_init : zMw yX5_init cX5_init 1 none 0 := ⟨List.mem_filter.mpr ⟨List.mem_of_getElem? (i := 75) (by decide +kernel), by decide +kernel⟩, List.mem_filter.mpr ⟨List.mem_of_getElem? (i := 45) (by decide +kernel), by decide +kernel⟩, by decide +kernel⟩
theorem wvX0_23 : Cond.fieldLink RX0 23 "CanteenPlates$Canteen" "dishes" "[LCanteenPlates$Dish;" ∈ zW := List.mem_filter.mpr ⟨List.mem_of_getElem? (i := 145) (by decide +kernel), by decide +kernel⟩
theorem wlX0_21 : Cond.classLink RX0 21 RX1 ∈ zW := List.mem_filter.mpr ⟨List.mem_of_getElem? (i := 70) (by decide +kernel), by decide +kernel⟩
theorem wzX1 : Cond.instantiable RX1 6 ∈ zW := List.mem_filter.mpr ⟨List.mem_of_getElem? (i := 113) (by decide +kernel), by decide +kernel⟩
theorem wyX1 : Cond.initialized RX1 ∈ zW := List.mem_filter.mpr ⟨List.mem_of_getElem? (i := 46) (by decide +kernel), by decide +kernel⟩
theorem wmX0_28 : Cond.methodLinkNest RX0 28 yX1_init "CanteenPlates" ∈ zNw := List.mem_filter.mpr ⟨List.mem_of_getElem? (i := 114) (by decide +kernel), by decide +kernel⟩
theorem wiX1_init : Cond.instanceMethod yX1_init ∈ zW := List.mem_filter.mpr ⟨List.mem_of_getElem? (i := 115) (by decide +kernel), by decide +kernel⟩
theorem mwX1_init : zMw yX1_init cX1_init 1 none 0 := ⟨List.mem_filter.mpr ⟨List.mem_of_getElem? (i := 116) (by decide +kernel), by decide +kernel⟩, List.mem_filter.mpr ⟨List.mem_of_getElem? (i := 46) (by decide +kernel), by decide +kernel⟩, by decide +kernel⟩
theorem woX0 : Cond.methodLink RX0 3 Lib.objectInit ∈ zW := List.mem_filter.mpr ⟨List.mem_of_getElem? (i := 67) (by decide +kernel), by decide +kernel⟩
theorem wvX0_9 : Cond.fieldLink RX0 9 "CanteenPlates$Canteen" "settings" "[I" ∈ zW := List.mem_filter.mpr ⟨List.mem_of_getElem? (i := 143) (by decide +kernel), by decide +kernel⟩
theorem wvX2_11 : Cond.fieldLink RX2 11 "CanteenPlates$History" "states" "[LCanteenPlates$Canteen;" ∈ zW := List.mem_filter.mpr ⟨List.mem_of_getElem? (i := 172) (by decide +kernel), by decide +kernel⟩
theorem wlX2_9 : Cond.classLink RX2 9 RX0 ∈ zW := List.mem_filter.mpr ⟨List.mem_of_getElem? (i := 169) (by decide +kernel), by decide +kernel⟩
theorem wzX0 : Cond.instantiable RX0 6 ∈ zW := List.mem_filter.mpr ⟨List.mem_of_getElem? (i := 63) (by decide +kernel), by decide +kernel⟩
theorem wyX0 : Cond.initialized RX0 ∈ zW := List.mem_filter.mpr ⟨List.mem_of_getElem? (i := 44) (by decide +kernel), by decide +kernel⟩
theorem wmX2_17 : Cond.methodLink RX2 17 yX0_init ∈ zW := List.mem_filter.mpr ⟨List.mem_of_getElem? (i := 171) (by decide +kernel), by decide +kernel⟩
theorem wiX0_init : Cond.instanceMethod yX0_init ∈ zW := List.mem_filter.mpr ⟨List.mem_of_getElem? (i := 65) (by decide +kernel), by decide +kernel⟩
theorem mwX0_init : zMw yX0_init cX0_init 2 none 0 := ⟨List.mem_filter.mpr ⟨List.mem_of_getElem? (i := 66) (by decide +kernel), by decide +kernel⟩, List.mem_filter.mpr ⟨List.mem_of_getElem? (i := 44) (by decide +kernel), by decide +kernel⟩, by decide +kernel⟩
theorem woX2 : Cond.methodLink RX2 3 Lib.objectInit ∈ zW := List.mem_filter.mpr ⟨List.mem_of_getElem? (i := 168) (by decide +kernel), by decide +kernel⟩
theorem wvX6_11 : Cond.fieldLink RX6 11 "CanteenPlates$Slots" "saved" "[LCanteenPlates$Canteen;" ∈ zW := List.mem_filter.mpr ⟨List.mem_of_getElem? (i := 190) (by decide +kernel), by decide +kernel⟩
theorem wlX6_9 : Cond.classLink RX6 9 RX0 ∈ zW := List.mem_filter.mpr ⟨List.mem_of_getElem? (i := 188) (by decide +kernel), by decide +kernel⟩
theorem wmX6_21 : Cond.methodLink RX6 21 yX0_init ∈ zW := List.mem_filter.mpr ⟨List.mem_of_getElem? (i := 189) (by decide +kernel), by decide +kernel⟩
theorem woX6 : Cond.methodLink RX6 3 Lib.objectInit ∈ zW := List.mem_filter.mpr ⟨List.mem_of_getElem? (i := 187) (by decide +kernel), by decide +kernel⟩
theorem wvX6_17 : Cond.fieldLink RX6 17 "CanteenPlates$Slots" "used" "[Z" ∈ zW := List.mem_filter.mpr ⟨List.mem_of_getElem? (i := 191) (by decide +kernel), by decide +kernel⟩
