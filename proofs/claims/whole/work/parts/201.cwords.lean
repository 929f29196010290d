theorem wc_oi : Cond.instanceMethod Lib.objectInit ∈ zW := List.mem_filter.mpr ⟨List.mem_of_getElem? (i := 60) (by decide +kernel), by decide +kernel⟩
theorem wc_oc : Cond.code Lib.objectInit ⟨#[0xb1]⟩ 1 none ∈ zW := List.mem_filter.mpr ⟨List.mem_of_getElem? (i := 61) (by decide +kernel), by decide +kernel⟩
theorem wc_aint : Cond.arrayClass .int ∈ zW := List.mem_filter.mpr ⟨List.mem_of_getElem? (i := 112) (by decide +kernel), by decide +kernel⟩
theorem wc_achar : Cond.arrayClass .char ∈ zW := List.mem_filter.mpr ⟨List.mem_of_getElem? (i := 211) (by decide +kernel), by decide +kernel⟩
theorem wc_aboolean : Cond.arrayClass .boolean ∈ zW := List.mem_filter.mpr ⟨List.mem_of_getElem? (i := 197) (by decide +kernel), by decide +kernel⟩
theorem woX5 : Cond.methodLink RX5 3 Lib.objectInit ∈ zW := List.mem_filter.mpr ⟨List.mem_of_getElem? (i := 76) (by decide +kernel), by decide +kernel⟩
theorem wvX5_9 : Cond.fieldLink RX5 9 "CanteenPlates$Person" "dishes" "[I" ∈ zW := List.mem_filter.mpr ⟨List.mem_of_getElem? (i := 77) (by decide +kernel), by decide +kernel⟩
theorem wvX5_15 : Cond.fieldLink RX5 15 "CanteenPlates$Person" "paid" "[I" ∈ zW := List.mem_filter.mpr ⟨List.mem_of_getElem? (i := 79) (by decide +kernel), by decide +kernel⟩
theorem woX1 : Cond.methodLink RX1 3 Lib.objectInit ∈ zW := List.mem_filter.mpr ⟨List.mem_of_getElem? (i := 117) (by decide +kernel), by decide +kernel⟩
theorem wvX1_9 : Cond.fieldLink RX1 9 "CanteenPlates$Dish" "prices" "[I" ∈ zW := List.mem_filter.mpr ⟨List.mem_of_getElem? (i := 118) (by decide +kernel), by decide +kernel⟩
theorem woX4 : Cond.methodLink RX4 3 Lib.objectInit ∈ zW := List.mem_filter.mpr ⟨List.mem_of_getElem? (i := 203) (by decide +kernel), by decide +kernel⟩
theorem wvX4_9 : Cond.fieldLink RX4 9 "CanteenPlates$Pad" "text" "[C" ∈ zW := List.mem_filter.mpr ⟨List.mem_of_getElem? (i := 204) (by decide +kernel), by decide +kernel⟩
theorem woX3 : Cond.methodLink RX3 3 Lib.objectInit ∈ zW := List.mem_filter.mpr ⟨List.mem_of_getElem? (i := 217) (by decide +kernel), by decide +kernel⟩
theorem wvX3_9 : Cond.fieldLink RX3 9 "CanteenPlates$OrderReader" "pad" "LCanteenPlates$Pad;" ∈ zW := List.mem_filter.mpr ⟨List.mem_of_getElem? (i := 218) (by decide +kernel), by decide +kernel⟩
