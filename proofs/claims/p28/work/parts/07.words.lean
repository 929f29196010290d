/-! the words that the rows take, by their places in the tables -/
theorem wnX0_56 : Cond.fieldLinkNest RX0 56 "CanteenPlates" "LOWEST_VALUE" "[I" "CanteenPlates" ∈ zNw := List.mem_filter.mpr ⟨List.mem_of_getElem? (i := 239) (by decide +kernel), by decide +kernel⟩
theorem wnX0_59 : Cond.fieldLinkNest RX0 59 "CanteenPlates" "HIGHEST_VALUE" "[I" "CanteenPlates" ∈ zNw := List.mem_filter.mpr ⟨List.mem_of_getElem? (i := 241) (by decide +kernel), by decide +kernel⟩
theorem wfX0_9 : Cond.fieldLink RX0 9 "CanteenPlates$Canteen" "settings" "[I" ∈ zW := List.mem_filter.mpr ⟨List.mem_of_getElem? (i := 103) (by decide +kernel), by decide +kernel⟩
theorem wfX2_22 : Cond.fieldLink RX2 22 "CanteenPlates$History" "next" "I" ∈ zW := List.mem_filter.mpr ⟨List.mem_of_getElem? (i := 133) (by decide +kernel), by decide +kernel⟩
theorem wfX2_18 : Cond.fieldLink RX2 18 "CanteenPlates$History" "kept" "I" ∈ zW := List.mem_filter.mpr ⟨List.mem_of_getElem? (i := 134) (by decide +kernel), by decide +kernel⟩
theorem wmX2_29 : Cond.methodLink RX2 29 Lib.Math.min.name ∈ zW := List.mem_filter.mpr ⟨List.mem_of_getElem? (i := 247) (by decide +kernel), by decide +kernel⟩
theorem wfX1_9 : Cond.fieldLink RX1 9 "CanteenPlates$Dish" "prices" "[I" ∈ zW := List.mem_filter.mpr ⟨List.mem_of_getElem? (i := 78) (by decide +kernel), by decide +kernel⟩
theorem wmX1_15 : Cond.methodLink RX1 15 arraycopyName ∈ zW := List.mem_filter.mpr ⟨List.mem_of_getElem? (i := 229) (by decide +kernel), by decide +kernel⟩
theorem wfX1_21 : Cond.fieldLink RX1 21 "CanteenPlates$Dish" "kept" "I" ∈ zW := List.mem_filter.mpr ⟨List.mem_of_getElem? (i := 80) (by decide +kernel), by decide +kernel⟩
theorem wfX1_25 : Cond.fieldLink RX1 25 "CanteenPlates$Dish" "fresh" "I" ∈ zW := List.mem_filter.mpr ⟨List.mem_of_getElem? (i := 82) (by decide +kernel), by decide +kernel⟩
theorem wfX1_28 : Cond.fieldLink RX1 28 "CanteenPlates$Dish" "cooked" "I" ∈ zW := List.mem_filter.mpr ⟨List.mem_of_getElem? (i := 84) (by decide +kernel), by decide +kernel⟩
theorem wfX1_31 : Cond.fieldLink RX1 31 "CanteenPlates$Dish" "eaten" "I" ∈ zW := List.mem_filter.mpr ⟨List.mem_of_getElem? (i := 86) (by decide +kernel), by decide +kernel⟩
theorem wfX1_34 : Cond.fieldLink RX1 34 "CanteenPlates$Dish" "thrown" "I" ∈ zW := List.mem_filter.mpr ⟨List.mem_of_getElem? (i := 88) (by decide +kernel), by decide +kernel⟩
theorem wfX5_9 : Cond.fieldLink RX5 9 "CanteenPlates$Person" "dishes" "[I" ∈ zW := List.mem_filter.mpr ⟨List.mem_of_getElem? (i := 37) (by decide +kernel), by decide +kernel⟩
theorem wmX5_41 : Cond.methodLink RX5 41 arraycopyName ∈ zW := List.mem_filter.mpr ⟨List.mem_of_getElem? (i := 234) (by decide +kernel), by decide +kernel⟩
theorem wfX5_15 : Cond.fieldLink RX5 15 "CanteenPlates$Person" "paid" "[I" ∈ zW := List.mem_filter.mpr ⟨List.mem_of_getElem? (i := 39) (by decide +kernel), by decide +kernel⟩
theorem wfX5_18 : Cond.fieldLink RX5 18 "CanteenPlates$Person" "vouchers" "I" ∈ zW := List.mem_filter.mpr ⟨List.mem_of_getElem? (i := 41) (by decide +kernel), by decide +kernel⟩
theorem wfX5_22 : Cond.fieldLink RX5 22 "CanteenPlates$Person" "strikes" "I" ∈ zW := List.mem_filter.mpr ⟨List.mem_of_getElem? (i := 43) (by decide +kernel), by decide +kernel⟩
theorem wfX5_25 : Cond.fieldLink RX5 25 "CanteenPlates$Person" "freeFrom" "I" ∈ zW := List.mem_filter.mpr ⟨List.mem_of_getElem? (i := 44) (by decide +kernel), by decide +kernel⟩
theorem wfX5_28 : Cond.fieldLink RX5 28 "CanteenPlates$Person" "timesCome" "I" ∈ zW := List.mem_filter.mpr ⟨List.mem_of_getElem? (i := 46) (by decide +kernel), by decide +kernel⟩
theorem wfX5_31 : Cond.fieldLink RX5 31 "CanteenPlates$Person" "timesAway" "I" ∈ zW := List.mem_filter.mpr ⟨List.mem_of_getElem? (i := 47) (by decide +kernel), by decide +kernel⟩
theorem wfX5_34 : Cond.fieldLink RX5 34 "CanteenPlates$Person" "plates" "I" ∈ zW := List.mem_filter.mpr ⟨List.mem_of_getElem? (i := 49) (by decide +kernel), by decide +kernel⟩
theorem wfX5_37 : Cond.fieldLink RX5 37 "CanteenPlates$Person" "here" "Z" ∈ zW := List.mem_filter.mpr ⟨List.mem_of_getElem? (i := 51) (by decide +kernel), by decide +kernel⟩
theorem wfX0_39 : Cond.fieldLink RX0 39 "CanteenPlates$Canteen" "people" "I" ∈ zW := List.mem_filter.mpr ⟨List.mem_of_getElem? (i := 107) (by decide +kernel), by decide +kernel⟩
theorem wfX0_46 : Cond.fieldLink RX0 46 "CanteenPlates$Canteen" "day" "I" ∈ zW := List.mem_filter.mpr ⟨List.mem_of_getElem? (i := 108) (by decide +kernel), by decide +kernel⟩
theorem wfX0_49 : Cond.fieldLink RX0 49 "CanteenPlates$Canteen" "cooked" "Z" ∈ zW := List.mem_filter.mpr ⟨List.mem_of_getElem? (i := 109) (by decide +kernel), by decide +kernel⟩
theorem wfX0_17 : Cond.fieldLink RX0 17 "CanteenPlates$Canteen" "staff" "[LCanteenPlates$Person;" ∈ zW := List.mem_filter.mpr ⟨List.mem_of_getElem? (i := 104) (by decide +kernel), by decide +kernel⟩
theorem wmX0_43 : Cond.methodLink RX0 43 yX5_become ∈ zW := List.mem_filter.mpr ⟨List.mem_of_getElem? (i := 230) (by decide +kernel), by decide +kernel⟩
theorem wiX5_become : Cond.instanceMethod yX5_become ∈ zW := List.mem_filter.mpr ⟨List.mem_of_getElem? (i := 231) (by decide +kernel), by decide +kernel⟩
theorem wsX5_become : Cond.selects RX5 yX5_become yX5_become ∈ zW := List.mem_filter.mpr ⟨List.mem_of_getElem? (i := 232) (by decide +kernel), by decide +kernel⟩
theorem mwX5_become : zMw yX5_become cX5_become 2 none 1 := ⟨List.mem_filter.mpr ⟨List.mem_of_getElem? (i := 233) (by decide +kernel), by decide +kernel⟩, List.mem_filter.mpr ⟨List.mem_of_getElem? (i := 6) (by decide +kernel), by decide +kernel⟩, by decide +kernel⟩
theorem wfX0_23 : Cond.fieldLink RX0 23 "CanteenPlates$Canteen" "dishes" "[LCanteenPlates$Dish;" ∈ zW := List.mem_filter.mpr ⟨List.mem_of_getElem? (i := 105) (by decide +kernel), by decide +kernel⟩
theorem wmX0_35 : Cond.methodLink RX0 35 yX1_become ∈ zW := List.mem_filter.mpr ⟨List.mem_of_getElem? (i := 225) (by decide +kernel), by decide +kernel⟩
theorem wiX1_become : Cond.instanceMethod yX1_become ∈ zW := List.mem_filter.mpr ⟨List.mem_of_getElem? (i := 226) (by decide +kernel), by decide +kernel⟩
theorem wsX1_become : Cond.selects RX1 yX1_become yX1_become ∈ zW := List.mem_filter.mpr ⟨List.mem_of_getElem? (i := 227) (by decide +kernel), by decide +kernel⟩
theorem mwX1_become : zMw yX1_become cX1_become 2 none 1 := ⟨List.mem_filter.mpr ⟨List.mem_of_getElem? (i := 228) (by decide +kernel), by decide +kernel⟩, List.mem_filter.mpr ⟨List.mem_of_getElem? (i := 7) (by decide +kernel), by decide +kernel⟩, by decide +kernel⟩
theorem wmX0_29 : Cond.methodLink RX0 29 arraycopyName ∈ zW := List.mem_filter.mpr ⟨List.mem_of_getElem? (i := 222) (by decide +kernel), by decide +kernel⟩
theorem wfX2_11 : Cond.fieldLink RX2 11 "CanteenPlates$History" "states" "[LCanteenPlates$Canteen;" ∈ zW := List.mem_filter.mpr ⟨List.mem_of_getElem? (i := 132) (by decide +kernel), by decide +kernel⟩
theorem wmX2_25 : Cond.methodLink RX2 25 yX0_become ∈ zW := List.mem_filter.mpr ⟨List.mem_of_getElem? (i := 218) (by decide +kernel), by decide +kernel⟩
theorem wiX0_become : Cond.instanceMethod yX0_become ∈ zW := List.mem_filter.mpr ⟨List.mem_of_getElem? (i := 219) (by decide +kernel), by decide +kernel⟩
theorem wsX0_become : Cond.selects RX0 yX0_become yX0_become ∈ zW := List.mem_filter.mpr ⟨List.mem_of_getElem? (i := 220) (by decide +kernel), by decide +kernel⟩
theorem mwX0_become : zMw yX0_become cX0_become 3 none 1 := ⟨List.mem_filter.mpr ⟨List.mem_of_getElem? (i := 221) (by decide +kernel), by decide +kernel⟩, List.mem_filter.mpr ⟨List.mem_of_getElem? (i := 5) (by decide +kernel), by decide +kernel⟩, by decide +kernel⟩
theorem wfX7_19 : Cond.fieldLink RX7 19 "CanteenPlates" "history" "LCanteenPlates$History;" ∈ zW := List.mem_filter.mpr ⟨List.mem_of_getElem? (i := 195) (by decide +kernel), by decide +kernel⟩
theorem wfX7_10 : Cond.fieldLink RX7 10 "CanteenPlates" "now" "LCanteenPlates$Canteen;" ∈ zW := List.mem_filter.mpr ⟨List.mem_of_getElem? (i := 194) (by decide +kernel), by decide +kernel⟩
theorem wmX7_46 : Cond.methodLink RX7 46 yX2_note ∈ zW := List.mem_filter.mpr ⟨List.mem_of_getElem? (i := 214) (by decide +kernel), by decide +kernel⟩
theorem wiX2_note : Cond.instanceMethod yX2_note ∈ zW := List.mem_filter.mpr ⟨List.mem_of_getElem? (i := 215) (by decide +kernel), by decide +kernel⟩
theorem wsX2_note : Cond.selects RX2 yX2_note yX2_note ∈ zW := List.mem_filter.mpr ⟨List.mem_of_getElem? (i := 216) (by decide +kernel), by decide +kernel⟩
theorem mwX2_note : zMw yX2_note cX2_note 2 none 1 := ⟨List.mem_filter.mpr ⟨List.mem_of_getElem? (i := 217) (by decide +kernel), by decide +kernel⟩, List.mem_filter.mpr ⟨List.mem_of_getElem? (i := 8) (by decide +kernel), by decide +kernel⟩, by decide +kernel⟩
theorem wmX7_50 : Cond.methodLink RX7 50 yX0_changeSetting ∈ zW := List.mem_filter.mpr ⟨List.mem_of_getElem? (i := 235) (by decide +kernel), by decide +kernel⟩
theorem wiX0_changeSetting : Cond.instanceMethod yX0_changeSetting ∈ zW := List.mem_filter.mpr ⟨List.mem_of_getElem? (i := 236) (by decide +kernel), by decide +kernel⟩
theorem wsX0_changeSetting : Cond.selects RX0 yX0_changeSetting yX0_changeSetting ∈ zW := List.mem_filter.mpr ⟨List.mem_of_getElem? (i := 237) (by decide +kernel), by decide +kernel⟩
theorem mwX0_changeSetting : zMw yX0_changeSetting cX0_changeSetting 4 (some .int) 2 := ⟨List.mem_filter.mpr ⟨List.mem_of_getElem? (i := 238) (by decide +kernel), by decide +kernel⟩, List.mem_filter.mpr ⟨List.mem_of_getElem? (i := 5) (by decide +kernel), by decide +kernel⟩, by decide +kernel⟩
theorem wmX7_54 : Cond.methodLink RX7 54 yX2_keep ∈ zW := List.mem_filter.mpr ⟨List.mem_of_getElem? (i := 243) (by decide +kernel), by decide +kernel⟩
theorem wiX2_keep : Cond.instanceMethod yX2_keep ∈ zW := List.mem_filter.mpr ⟨List.mem_of_getElem? (i := 244) (by decide +kernel), by decide +kernel⟩
theorem wsX2_keep : Cond.selects RX2 yX2_keep yX2_keep ∈ zW := List.mem_filter.mpr ⟨List.mem_of_getElem? (i := 245) (by decide +kernel), by decide +kernel⟩
theorem mwX2_keep : zMw yX2_keep cX2_keep 2 (some .int) 1 := ⟨List.mem_filter.mpr ⟨List.mem_of_getElem? (i := 246) (by decide +kernel), by decide +kernel⟩, List.mem_filter.mpr ⟨List.mem_of_getElem? (i := 8) (by decide +kernel), by decide +kernel⟩, by decide +kernel⟩
theorem wmX0_62 : Cond.methodLink RX0 62 yX0_hasDish ∈ zW := List.mem_filter.mpr ⟨List.mem_of_getElem? (i := 359) (by decide +kernel), by decide +kernel⟩
theorem wiX0_hasDish : Cond.instanceMethod yX0_hasDish ∈ zW := List.mem_filter.mpr ⟨List.mem_of_getElem? (i := 360) (by decide +kernel), by decide +kernel⟩
theorem wsX0_hasDish : Cond.selects RX0 yX0_hasDish yX0_hasDish ∈ zW := List.mem_filter.mpr ⟨List.mem_of_getElem? (i := 361) (by decide +kernel), by decide +kernel⟩
theorem mwX0_hasDish : zMw yX0_hasDish cX0_hasDish 2 (some .boolean) 1 := ⟨List.mem_filter.mpr ⟨List.mem_of_getElem? (i := 362) (by decide +kernel), by decide +kernel⟩, List.mem_filter.mpr ⟨List.mem_of_getElem? (i := 5) (by decide +kernel), by decide +kernel⟩, by decide +kernel⟩
theorem wnX0_53 : Cond.fieldLinkNest RX0 53 "CanteenPlates$Dish" "prices" "[I" "CanteenPlates" ∈ zNw := List.mem_filter.mpr ⟨List.mem_of_getElem? (i := 79) (by decide +kernel), by decide +kernel⟩
theorem wmX7_58 : Cond.methodLink RX7 58 yX0_changePrice ∈ zW := List.mem_filter.mpr ⟨List.mem_of_getElem? (i := 557) (by decide +kernel), by decide +kernel⟩
theorem wiX0_changePrice : Cond.instanceMethod yX0_changePrice ∈ zW := List.mem_filter.mpr ⟨List.mem_of_getElem? (i := 558) (by decide +kernel), by decide +kernel⟩
theorem wsX0_changePrice : Cond.selects RX0 yX0_changePrice yX0_changePrice ∈ zW := List.mem_filter.mpr ⟨List.mem_of_getElem? (i := 559) (by decide +kernel), by decide +kernel⟩
theorem mwX0_changePrice : zMw yX0_changePrice cX0_changePrice 5 (some .int) 3 := ⟨List.mem_filter.mpr ⟨List.mem_of_getElem? (i := 560) (by decide +kernel), by decide +kernel⟩, List.mem_filter.mpr ⟨List.mem_of_getElem? (i := 5) (by decide +kernel), by decide +kernel⟩, by decide +kernel⟩
theorem wmX0_66 : Cond.methodLink RX0 66 yX5_start ∈ zW := List.mem_filter.mpr ⟨List.mem_of_getElem? (i := 258) (by decide +kernel), by decide +kernel⟩
theorem wiX5_start : Cond.instanceMethod yX5_start ∈ zW := List.mem_filter.mpr ⟨List.mem_of_getElem? (i := 259) (by decide +kernel), by decide +kernel⟩
theorem wsX5_start : Cond.selects RX5 yX5_start yX5_start ∈ zW := List.mem_filter.mpr ⟨List.mem_of_getElem? (i := 260) (by decide +kernel), by decide +kernel⟩
theorem mwX5_start : zMw yX5_start cX5_start 2 none 0 := ⟨List.mem_filter.mpr ⟨List.mem_of_getElem? (i := 261) (by decide +kernel), by decide +kernel⟩, List.mem_filter.mpr ⟨List.mem_of_getElem? (i := 6) (by decide +kernel), by decide +kernel⟩, by decide +kernel⟩
theorem wmX7_62 : Cond.methodLink RX7 62 yX0_addPerson ∈ zW := List.mem_filter.mpr ⟨List.mem_of_getElem? (i := 254) (by decide +kernel), by decide +kernel⟩
theorem wiX0_addPerson : Cond.instanceMethod yX0_addPerson ∈ zW := List.mem_filter.mpr ⟨List.mem_of_getElem? (i := 255) (by decide +kernel), by decide +kernel⟩
theorem wsX0_addPerson : Cond.selects RX0 yX0_addPerson yX0_addPerson ∈ zW := List.mem_filter.mpr ⟨List.mem_of_getElem? (i := 256) (by decide +kernel), by decide +kernel⟩
theorem mwX0_addPerson : zMw yX0_addPerson cX0_addPerson 1 (some .int) 0 := ⟨List.mem_filter.mpr ⟨List.mem_of_getElem? (i := 257) (by decide +kernel), by decide +kernel⟩, List.mem_filter.mpr ⟨List.mem_of_getElem? (i := 5) (by decide +kernel), by decide +kernel⟩, by decide +kernel⟩
theorem wmX5_51 : Cond.methodLink RX5 51 Lib.Math.min.name ∈ zW := List.mem_filter.mpr ⟨List.mem_of_getElem? (i := 278) (by decide +kernel), by decide +kernel⟩
theorem wmX0_69 : Cond.methodLink RX0 69 yX0_hasPerson ∈ zW := List.mem_filter.mpr ⟨List.mem_of_getElem? (i := 270) (by decide +kernel), by decide +kernel⟩
theorem wiX0_hasPerson : Cond.instanceMethod yX0_hasPerson ∈ zW := List.mem_filter.mpr ⟨List.mem_of_getElem? (i := 271) (by decide +kernel), by decide +kernel⟩
theorem wsX0_hasPerson : Cond.selects RX0 yX0_hasPerson yX0_hasPerson ∈ zW := List.mem_filter.mpr ⟨List.mem_of_getElem? (i := 272) (by decide +kernel), by decide +kernel⟩
theorem mwX0_hasPerson : zMw yX0_hasPerson cX0_hasPerson 2 (some .boolean) 1 := ⟨List.mem_filter.mpr ⟨List.mem_of_getElem? (i := 273) (by decide +kernel), by decide +kernel⟩, List.mem_filter.mpr ⟨List.mem_of_getElem? (i := 5) (by decide +kernel), by decide +kernel⟩, by decide +kernel⟩
theorem wmX0_72 : Cond.methodLink RX0 72 yX5_receive ∈ zW := List.mem_filter.mpr ⟨List.mem_of_getElem? (i := 274) (by decide +kernel), by decide +kernel⟩
theorem wiX5_receive : Cond.instanceMethod yX5_receive ∈ zW := List.mem_filter.mpr ⟨List.mem_of_getElem? (i := 275) (by decide +kernel), by decide +kernel⟩
theorem wsX5_receive : Cond.selects RX5 yX5_receive yX5_receive ∈ zW := List.mem_filter.mpr ⟨List.mem_of_getElem? (i := 276) (by decide +kernel), by decide +kernel⟩
theorem mwX5_receive : zMw yX5_receive cX5_receive 2 (some .int) 1 := ⟨List.mem_filter.mpr ⟨List.mem_of_getElem? (i := 277) (by decide +kernel), by decide +kernel⟩, List.mem_filter.mpr ⟨List.mem_of_getElem? (i := 6) (by decide +kernel), by decide +kernel⟩, by decide +kernel⟩
theorem wmX7_66 : Cond.methodLink RX7 66 yX0_giveVouchers ∈ zW := List.mem_filter.mpr ⟨List.mem_of_getElem? (i := 266) (by decide +kernel), by decide +kernel⟩
theorem wiX0_giveVouchers : Cond.instanceMethod yX0_giveVouchers ∈ zW := List.mem_filter.mpr ⟨List.mem_of_getElem? (i := 267) (by decide +kernel), by decide +kernel⟩
theorem wsX0_giveVouchers : Cond.selects RX0 yX0_giveVouchers yX0_giveVouchers ∈ zW := List.mem_filter.mpr ⟨List.mem_of_getElem? (i := 268) (by decide +kernel), by decide +kernel⟩
theorem mwX0_giveVouchers : zMw yX0_giveVouchers cX0_giveVouchers 3 (some .int) 2 := ⟨List.mem_filter.mpr ⟨List.mem_of_getElem? (i := 269) (by decide +kernel), by decide +kernel⟩, List.mem_filter.mpr ⟨List.mem_of_getElem? (i := 5) (by decide +kernel), by decide +kernel⟩, by decide +kernel⟩
theorem wnX0_184 : Cond.fieldLinkNest RX0 184 "CanteenPlates$Person" "freeFrom" "I" "CanteenPlates" ∈ zNw := List.mem_filter.mpr ⟨List.mem_of_getElem? (i := 45) (by decide +kernel), by decide +kernel⟩
theorem wmX0_90 : Cond.methodLink RX0 90 yX5_hasOrder ∈ zW := List.mem_filter.mpr ⟨List.mem_of_getElem? (i := 421) (by decide +kernel), by decide +kernel⟩
theorem wiX5_hasOrder : Cond.instanceMethod yX5_hasOrder ∈ zW := List.mem_filter.mpr ⟨List.mem_of_getElem? (i := 292) (by decide +kernel), by decide +kernel⟩
theorem wsX5_hasOrder : Cond.selects RX5 yX5_hasOrder yX5_hasOrder ∈ zW := List.mem_filter.mpr ⟨List.mem_of_getElem? (i := 293) (by decide +kernel), by decide +kernel⟩
theorem mwX5_hasOrder : zMw yX5_hasOrder cX5_hasOrder 2 (some .boolean) 1 := ⟨List.mem_filter.mpr ⟨List.mem_of_getElem? (i := 294) (by decide +kernel), by decide +kernel⟩, List.mem_filter.mpr ⟨List.mem_of_getElem? (i := 6) (by decide +kernel), by decide +kernel⟩, by decide +kernel⟩
theorem wnX0_132 : Cond.fieldLinkNest RX0 132 "CanteenPlates$Person" "vouchers" "I" "CanteenPlates" ∈ zNw := List.mem_filter.mpr ⟨List.mem_of_getElem? (i := 42) (by decide +kernel), by decide +kernel⟩
theorem wmX0_80 : Cond.methodLink RX0 80 yX0_priceOf ∈ zW := List.mem_filter.mpr ⟨List.mem_of_getElem? (i := 367) (by decide +kernel), by decide +kernel⟩
theorem wiX0_priceOf : Cond.instanceMethod yX0_priceOf ∈ zW := List.mem_filter.mpr ⟨List.mem_of_getElem? (i := 368) (by decide +kernel), by decide +kernel⟩
theorem wsX0_priceOf : Cond.selects RX0 yX0_priceOf yX0_priceOf ∈ zW := List.mem_filter.mpr ⟨List.mem_of_getElem? (i := 369) (by decide +kernel), by decide +kernel⟩
theorem mwX0_priceOf : zMw yX0_priceOf cX0_priceOf 3 (some .int) 2 := ⟨List.mem_filter.mpr ⟨List.mem_of_getElem? (i := 370) (by decide +kernel), by decide +kernel⟩, List.mem_filter.mpr ⟨List.mem_of_getElem? (i := 5) (by decide +kernel), by decide +kernel⟩, by decide +kernel⟩
theorem wmX0_87 : Cond.methodLink RX0 87 yX0_isAhead ∈ zW := List.mem_filter.mpr ⟨List.mem_of_getElem? (i := 417) (by decide +kernel), by decide +kernel⟩
theorem wiX0_isAhead : Cond.instanceMethod yX0_isAhead ∈ zW := List.mem_filter.mpr ⟨List.mem_of_getElem? (i := 418) (by decide +kernel), by decide +kernel⟩
theorem wsX0_isAhead : Cond.selects RX0 yX0_isAhead yX0_isAhead ∈ zW := List.mem_filter.mpr ⟨List.mem_of_getElem? (i := 419) (by decide +kernel), by decide +kernel⟩
theorem mwX0_isAhead : zMw yX0_isAhead cX0_isAhead 2 (some .boolean) 1 := ⟨List.mem_filter.mpr ⟨List.mem_of_getElem? (i := 420) (by decide +kernel), by decide +kernel⟩, List.mem_filter.mpr ⟨List.mem_of_getElem? (i := 5) (by decide +kernel), by decide +kernel⟩, by decide +kernel⟩
theorem wmX0_76 : Cond.methodLink RX0 76 yX0_reasonAgainst ∈ zW := List.mem_filter.mpr ⟨List.mem_of_getElem? (i := 413) (by decide +kernel), by decide +kernel⟩
theorem wiX0_reasonAgainst : Cond.instanceMethod yX0_reasonAgainst ∈ zW := List.mem_filter.mpr ⟨List.mem_of_getElem? (i := 414) (by decide +kernel), by decide +kernel⟩
theorem wsX0_reasonAgainst : Cond.selects RX0 yX0_reasonAgainst yX0_reasonAgainst ∈ zW := List.mem_filter.mpr ⟨List.mem_of_getElem? (i := 415) (by decide +kernel), by decide +kernel⟩
theorem mwX0_reasonAgainst : zMw yX0_reasonAgainst cX0_reasonAgainst 4 (some .int) 3 := ⟨List.mem_filter.mpr ⟨List.mem_of_getElem? (i := 416) (by decide +kernel), by decide +kernel⟩, List.mem_filter.mpr ⟨List.mem_of_getElem? (i := 5) (by decide +kernel), by decide +kernel⟩, by decide +kernel⟩
theorem wmX0_84 : Cond.methodLink RX0 84 yX5_pay ∈ zW := List.mem_filter.mpr ⟨List.mem_of_getElem? (i := 505) (by decide +kernel), by decide +kernel⟩
theorem wiX5_pay : Cond.instanceMethod yX5_pay ∈ zW := List.mem_filter.mpr ⟨List.mem_of_getElem? (i := 506) (by decide +kernel), by decide +kernel⟩
theorem wsX5_pay : Cond.selects RX5 yX5_pay yX5_pay ∈ zW := List.mem_filter.mpr ⟨List.mem_of_getElem? (i := 507) (by decide +kernel), by decide +kernel⟩
theorem mwX5_pay : zMw yX5_pay cX5_pay 4 (some .int) 3 := ⟨List.mem_filter.mpr ⟨List.mem_of_getElem? (i := 508) (by decide +kernel), by decide +kernel⟩, List.mem_filter.mpr ⟨List.mem_of_getElem? (i := 6) (by decide +kernel), by decide +kernel⟩, by decide +kernel⟩
theorem wmX7_69 : Cond.methodLink RX7 69 yX0_takeOrder ∈ zW := List.mem_filter.mpr ⟨List.mem_of_getElem? (i := 501) (by decide +kernel), by decide +kernel⟩
theorem wiX0_takeOrder : Cond.instanceMethod yX0_takeOrder ∈ zW := List.mem_filter.mpr ⟨List.mem_of_getElem? (i := 502) (by decide +kernel), by decide +kernel⟩
theorem wsX0_takeOrder : Cond.selects RX0 yX0_takeOrder yX0_takeOrder ∈ zW := List.mem_filter.mpr ⟨List.mem_of_getElem? (i := 503) (by decide +kernel), by decide +kernel⟩
theorem mwX0_takeOrder : zMw yX0_takeOrder cX0_takeOrder 5 (some .int) 3 := ⟨List.mem_filter.mpr ⟨List.mem_of_getElem? (i := 504) (by decide +kernel), by decide +kernel⟩, List.mem_filter.mpr ⟨List.mem_of_getElem? (i := 5) (by decide +kernel), by decide +kernel⟩, by decide +kernel⟩
theorem wnX0_93 : Cond.fieldLinkNest RX0 93 "CanteenPlates$Person" "dishes" "[I" "CanteenPlates" ∈ zNw := List.mem_filter.mpr ⟨List.mem_of_getElem? (i := 38) (by decide +kernel), by decide +kernel⟩
theorem wnX0_95 : Cond.fieldLinkNest RX0 95 "CanteenPlates$Person" "paid" "[I" "CanteenPlates" ∈ zNw := List.mem_filter.mpr ⟨List.mem_of_getElem? (i := 40) (by decide +kernel), by decide +kernel⟩
theorem wmX7_72 : Cond.methodLink RX7 72 yX0_cancelOrder ∈ zW := List.mem_filter.mpr ⟨List.mem_of_getElem? (i := 513) (by decide +kernel), by decide +kernel⟩
theorem wiX0_cancelOrder : Cond.instanceMethod yX0_cancelOrder ∈ zW := List.mem_filter.mpr ⟨List.mem_of_getElem? (i := 514) (by decide +kernel), by decide +kernel⟩
theorem wsX0_cancelOrder : Cond.selects RX0 yX0_cancelOrder yX0_cancelOrder ∈ zW := List.mem_filter.mpr ⟨List.mem_of_getElem? (i := 515) (by decide +kernel), by decide +kernel⟩
theorem mwX0_cancelOrder : zMw yX0_cancelOrder cX0_cancelOrder 3 (some .int) 2 := ⟨List.mem_filter.mpr ⟨List.mem_of_getElem? (i := 516) (by decide +kernel), by decide +kernel⟩, List.mem_filter.mpr ⟨List.mem_of_getElem? (i := 5) (by decide +kernel), by decide +kernel⟩, by decide +kernel⟩
theorem wmX5_60 : Cond.methodLink RX5 60 yX5_timesOrdered ∈ zW := List.mem_filter.mpr ⟨List.mem_of_getElem? (i := 379) (by decide +kernel), by decide +kernel⟩
theorem wiX5_timesOrdered : Cond.instanceMethod yX5_timesOrdered ∈ zW := List.mem_filter.mpr ⟨List.mem_of_getElem? (i := 380) (by decide +kernel), by decide +kernel⟩
theorem wsX5_timesOrdered : Cond.selects RX5 yX5_timesOrdered yX5_timesOrdered ∈ zW := List.mem_filter.mpr ⟨List.mem_of_getElem? (i := 381) (by decide +kernel), by decide +kernel⟩
theorem mwX5_timesOrdered : zMw yX5_timesOrdered cX5_timesOrdered 1 (some .int) 0 := ⟨List.mem_filter.mpr ⟨List.mem_of_getElem? (i := 382) (by decide +kernel), by decide +kernel⟩, List.mem_filter.mpr ⟨List.mem_of_getElem? (i := 6) (by decide +kernel), by decide +kernel⟩, by decide +kernel⟩
theorem wnX0_109 : Cond.fieldLinkNest RX0 109 "CanteenPlates$Dish" "kept" "I" "CanteenPlates" ∈ zNw := List.mem_filter.mpr ⟨List.mem_of_getElem? (i := 81) (by decide +kernel), by decide +kernel⟩
theorem wmX0_112 : Cond.methodLink RX0 112 Lib.Math.max.name ∈ zW := List.mem_filter.mpr ⟨List.mem_of_getElem? (i := 383) (by decide +kernel), by decide +kernel⟩
theorem wmX0_105 : Cond.methodLink RX0 105 yX5_doubt ∈ zW := List.mem_filter.mpr ⟨List.mem_of_getElem? (i := 375) (by decide +kernel), by decide +kernel⟩
theorem wiX5_doubt : Cond.instanceMethod yX5_doubt ∈ zW := List.mem_filter.mpr ⟨List.mem_of_getElem? (i := 376) (by decide +kernel), by decide +kernel⟩
theorem wsX5_doubt : Cond.selects RX5 yX5_doubt yX5_doubt ∈ zW := List.mem_filter.mpr ⟨List.mem_of_getElem? (i := 377) (by decide +kernel), by decide +kernel⟩
theorem mwX5_doubt : zMw yX5_doubt cX5_doubt 2 (some .int) 0 := ⟨List.mem_filter.mpr ⟨List.mem_of_getElem? (i := 378) (by decide +kernel), by decide +kernel⟩, List.mem_filter.mpr ⟨List.mem_of_getElem? (i := 6) (by decide +kernel), by decide +kernel⟩, by decide +kernel⟩
theorem wmX0_98 : Cond.methodLink RX0 98 yX0_platesToCook ∈ zW := List.mem_filter.mpr ⟨List.mem_of_getElem? (i := 371) (by decide +kernel), by decide +kernel⟩
theorem wiX0_platesToCook : Cond.instanceMethod yX0_platesToCook ∈ zW := List.mem_filter.mpr ⟨List.mem_of_getElem? (i := 372) (by decide +kernel), by decide +kernel⟩
theorem wsX0_platesToCook : Cond.selects RX0 yX0_platesToCook yX0_platesToCook ∈ zW := List.mem_filter.mpr ⟨List.mem_of_getElem? (i := 373) (by decide +kernel), by decide +kernel⟩
theorem mwX0_platesToCook : zMw yX0_platesToCook cX0_platesToCook 4 (some .int) 1 := ⟨List.mem_filter.mpr ⟨List.mem_of_getElem? (i := 374) (by decide +kernel), by decide +kernel⟩, List.mem_filter.mpr ⟨List.mem_of_getElem? (i := 5) (by decide +kernel), by decide +kernel⟩, by decide +kernel⟩
theorem wmX0_101 : Cond.methodLink RX0 101 yX1_fill ∈ zW := List.mem_filter.mpr ⟨List.mem_of_getElem? (i := 525) (by decide +kernel), by decide +kernel⟩
theorem wiX1_fill : Cond.instanceMethod yX1_fill ∈ zW := List.mem_filter.mpr ⟨List.mem_of_getElem? (i := 526) (by decide +kernel), by decide +kernel⟩
theorem wsX1_fill : Cond.selects RX1 yX1_fill yX1_fill ∈ zW := List.mem_filter.mpr ⟨List.mem_of_getElem? (i := 527) (by decide +kernel), by decide +kernel⟩
theorem mwX1_fill : zMw yX1_fill cX1_fill 2 none 1 := ⟨List.mem_filter.mpr ⟨List.mem_of_getElem? (i := 528) (by decide +kernel), by decide +kernel⟩, List.mem_filter.mpr ⟨List.mem_of_getElem? (i := 7) (by decide +kernel), by decide +kernel⟩, by decide +kernel⟩
theorem wmX7_75 : Cond.methodLink RX7 75 yX0_cookToday ∈ zW := List.mem_filter.mpr ⟨List.mem_of_getElem? (i := 521) (by decide +kernel), by decide +kernel⟩
theorem wiX0_cookToday : Cond.instanceMethod yX0_cookToday ∈ zW := List.mem_filter.mpr ⟨List.mem_of_getElem? (i := 522) (by decide +kernel), by decide +kernel⟩
theorem wsX0_cookToday : Cond.selects RX0 yX0_cookToday yX0_cookToday ∈ zW := List.mem_filter.mpr ⟨List.mem_of_getElem? (i := 523) (by decide +kernel), by decide +kernel⟩
theorem mwX0_cookToday : zMw yX0_cookToday cX0_cookToday 4 (some .int) 0 := ⟨List.mem_filter.mpr ⟨List.mem_of_getElem? (i := 524) (by decide +kernel), by decide +kernel⟩, List.mem_filter.mpr ⟨List.mem_of_getElem? (i := 5) (by decide +kernel), by decide +kernel⟩, by decide +kernel⟩
theorem wnX0_117 : Cond.fieldLinkNest RX0 117 "CanteenPlates$Person" "here" "Z" "CanteenPlates" ∈ zNw := List.mem_filter.mpr ⟨List.mem_of_getElem? (i := 52) (by decide +kernel), by decide +kernel⟩
theorem wmX0_120 : Cond.methodLink RX0 120 yX5_comeWithOrder ∈ zW := List.mem_filter.mpr ⟨List.mem_of_getElem? (i := 537) (by decide +kernel), by decide +kernel⟩
theorem wiX5_comeWithOrder : Cond.instanceMethod yX5_comeWithOrder ∈ zW := List.mem_filter.mpr ⟨List.mem_of_getElem? (i := 538) (by decide +kernel), by decide +kernel⟩
theorem wsX5_comeWithOrder : Cond.selects RX5 yX5_comeWithOrder yX5_comeWithOrder ∈ zW := List.mem_filter.mpr ⟨List.mem_of_getElem? (i := 539) (by decide +kernel), by decide +kernel⟩
theorem mwX5_comeWithOrder : zMw yX5_comeWithOrder cX5_comeWithOrder 1 none 0 := ⟨List.mem_filter.mpr ⟨List.mem_of_getElem? (i := 540) (by decide +kernel), by decide +kernel⟩, List.mem_filter.mpr ⟨List.mem_of_getElem? (i := 6) (by decide +kernel), by decide +kernel⟩, by decide +kernel⟩
theorem wmX0_123 : Cond.methodLink RX0 123 yX1_left ∈ zW := List.mem_filter.mpr ⟨List.mem_of_getElem? (i := 351) (by decide +kernel), by decide +kernel⟩
theorem wiX1_left : Cond.instanceMethod yX1_left ∈ zW := List.mem_filter.mpr ⟨List.mem_of_getElem? (i := 352) (by decide +kernel), by decide +kernel⟩
theorem wsX1_left : Cond.selects RX1 yX1_left yX1_left ∈ zW := List.mem_filter.mpr ⟨List.mem_of_getElem? (i := 353) (by decide +kernel), by decide +kernel⟩
theorem mwX1_left : zMw yX1_left cX1_left 1 (some .int) 0 := ⟨List.mem_filter.mpr ⟨List.mem_of_getElem? (i := 354) (by decide +kernel), by decide +kernel⟩, List.mem_filter.mpr ⟨List.mem_of_getElem? (i := 7) (by decide +kernel), by decide +kernel⟩, by decide +kernel⟩
theorem wmX0_126 : Cond.methodLink RX0 126 yX1_give ∈ zW := List.mem_filter.mpr ⟨List.mem_of_getElem? (i := 541) (by decide +kernel), by decide +kernel⟩
theorem wiX1_give : Cond.instanceMethod yX1_give ∈ zW := List.mem_filter.mpr ⟨List.mem_of_getElem? (i := 542) (by decide +kernel), by decide +kernel⟩
theorem wsX1_give : Cond.selects RX1 yX1_give yX1_give ∈ zW := List.mem_filter.mpr ⟨List.mem_of_getElem? (i := 543) (by decide +kernel), by decide +kernel⟩
theorem mwX1_give : zMw yX1_give cX1_give 1 none 0 := ⟨List.mem_filter.mpr ⟨List.mem_of_getElem? (i := 544) (by decide +kernel), by decide +kernel⟩, List.mem_filter.mpr ⟨List.mem_of_getElem? (i := 7) (by decide +kernel), by decide +kernel⟩, by decide +kernel⟩
theorem wnX0_129 : Cond.fieldLinkNest RX0 129 "CanteenPlates$Person" "plates" "I" "CanteenPlates" ∈ zNw := List.mem_filter.mpr ⟨List.mem_of_getElem? (i := 50) (by decide +kernel), by decide +kernel⟩
theorem wmX7_78 : Cond.methodLink RX7 78 yX0_serve ∈ zW := List.mem_filter.mpr ⟨List.mem_of_getElem? (i := 533) (by decide +kernel), by decide +kernel⟩
theorem wiX0_serve : Cond.instanceMethod yX0_serve ∈ zW := List.mem_filter.mpr ⟨List.mem_of_getElem? (i := 534) (by decide +kernel), by decide +kernel⟩
theorem wsX0_serve : Cond.selects RX0 yX0_serve yX0_serve ∈ zW := List.mem_filter.mpr ⟨List.mem_of_getElem? (i := 535) (by decide +kernel), by decide +kernel⟩
theorem mwX0_serve : zMw yX0_serve cX0_serve 4 (some .int) 1 := ⟨List.mem_filter.mpr ⟨List.mem_of_getElem? (i := 536) (by decide +kernel), by decide +kernel⟩, List.mem_filter.mpr ⟨List.mem_of_getElem? (i := 5) (by decide +kernel), by decide +kernel⟩, by decide +kernel⟩
theorem wmX0_135 : Cond.methodLink RX0 135 yX0_awaited ∈ zW := List.mem_filter.mpr ⟨List.mem_of_getElem? (i := 363) (by decide +kernel), by decide +kernel⟩
theorem wiX0_awaited : Cond.instanceMethod yX0_awaited ∈ zW := List.mem_filter.mpr ⟨List.mem_of_getElem? (i := 364) (by decide +kernel), by decide +kernel⟩
theorem wsX0_awaited : Cond.selects RX0 yX0_awaited yX0_awaited ∈ zW := List.mem_filter.mpr ⟨List.mem_of_getElem? (i := 365) (by decide +kernel), by decide +kernel⟩
theorem mwX0_awaited : zMw yX0_awaited cX0_awaited 4 (some .int) 1 := ⟨List.mem_filter.mpr ⟨List.mem_of_getElem? (i := 366) (by decide +kernel), by decide +kernel⟩, List.mem_filter.mpr ⟨List.mem_of_getElem? (i := 5) (by decide +kernel), by decide +kernel⟩, by decide +kernel⟩
theorem wmX7_81 : Cond.methodLink RX7 81 yX0_sell ∈ zW := List.mem_filter.mpr ⟨List.mem_of_getElem? (i := 549) (by decide +kernel), by decide +kernel⟩
theorem wiX0_sell : Cond.instanceMethod yX0_sell ∈ zW := List.mem_filter.mpr ⟨List.mem_of_getElem? (i := 550) (by decide +kernel), by decide +kernel⟩
theorem wsX0_sell : Cond.selects RX0 yX0_sell yX0_sell ∈ zW := List.mem_filter.mpr ⟨List.mem_of_getElem? (i := 551) (by decide +kernel), by decide +kernel⟩
theorem mwX0_sell : zMw yX0_sell cX0_sell 5 (some .int) 2 := ⟨List.mem_filter.mpr ⟨List.mem_of_getElem? (i := 552) (by decide +kernel), by decide +kernel⟩, List.mem_filter.mpr ⟨List.mem_of_getElem? (i := 5) (by decide +kernel), by decide +kernel⟩, by decide +kernel⟩
theorem wmX1_37 : Cond.methodLink RX1 37 Lib.Math.min.name ∈ zW := List.mem_filter.mpr ⟨List.mem_of_getElem? (i := 314) (by decide +kernel), by decide +kernel⟩
theorem wmX5_47 : Cond.methodLink RX5 47 yX5_hasOrder ∈ zW := List.mem_filter.mpr ⟨List.mem_of_getElem? (i := 291) (by decide +kernel), by decide +kernel⟩
theorem wmX5_57 : Cond.methodLink RX5 57 Lib.Math.max.name ∈ zW := List.mem_filter.mpr ⟨List.mem_of_getElem? (i := 303) (by decide +kernel), by decide +kernel⟩
theorem wmX0_145 : Cond.methodLink RX0 145 yX5_judge ∈ zW := List.mem_filter.mpr ⟨List.mem_of_getElem? (i := 299) (by decide +kernel), by decide +kernel⟩
theorem wiX5_judge : Cond.instanceMethod yX5_judge ∈ zW := List.mem_filter.mpr ⟨List.mem_of_getElem? (i := 300) (by decide +kernel), by decide +kernel⟩
theorem wsX5_judge : Cond.selects RX5 yX5_judge yX5_judge ∈ zW := List.mem_filter.mpr ⟨List.mem_of_getElem? (i := 301) (by decide +kernel), by decide +kernel⟩
theorem mwX5_judge : zMw yX5_judge cX5_judge 3 none 2 := ⟨List.mem_filter.mpr ⟨List.mem_of_getElem? (i := 302) (by decide +kernel), by decide +kernel⟩, List.mem_filter.mpr ⟨List.mem_of_getElem? (i := 6) (by decide +kernel), by decide +kernel⟩, by decide +kernel⟩
theorem wmX0_149 : Cond.methodLink RX0 149 yX5_startDay ∈ zW := List.mem_filter.mpr ⟨List.mem_of_getElem? (i := 306) (by decide +kernel), by decide +kernel⟩
theorem wiX5_startDay : Cond.instanceMethod yX5_startDay ∈ zW := List.mem_filter.mpr ⟨List.mem_of_getElem? (i := 307) (by decide +kernel), by decide +kernel⟩
theorem wsX5_startDay : Cond.selects RX5 yX5_startDay yX5_startDay ∈ zW := List.mem_filter.mpr ⟨List.mem_of_getElem? (i := 308) (by decide +kernel), by decide +kernel⟩
theorem mwX5_startDay : zMw yX5_startDay cX5_startDay 2 none 0 := ⟨List.mem_filter.mpr ⟨List.mem_of_getElem? (i := 309) (by decide +kernel), by decide +kernel⟩, List.mem_filter.mpr ⟨List.mem_of_getElem? (i := 6) (by decide +kernel), by decide +kernel⟩, by decide +kernel⟩
theorem wmX0_152 : Cond.methodLink RX0 152 yX1_clearUp ∈ zW := List.mem_filter.mpr ⟨List.mem_of_getElem? (i := 310) (by decide +kernel), by decide +kernel⟩
theorem wiX1_clearUp : Cond.instanceMethod yX1_clearUp ∈ zW := List.mem_filter.mpr ⟨List.mem_of_getElem? (i := 311) (by decide +kernel), by decide +kernel⟩
theorem wsX1_clearUp : Cond.selects RX1 yX1_clearUp yX1_clearUp ∈ zW := List.mem_filter.mpr ⟨List.mem_of_getElem? (i := 312) (by decide +kernel), by decide +kernel⟩
theorem mwX1_clearUp : zMw yX1_clearUp cX1_clearUp 3 none 1 := ⟨List.mem_filter.mpr ⟨List.mem_of_getElem? (i := 313) (by decide +kernel), by decide +kernel⟩, List.mem_filter.mpr ⟨List.mem_of_getElem? (i := 7) (by decide +kernel), by decide +kernel⟩, by decide +kernel⟩
theorem wmX0_138 : Cond.methodLink RX0 138 yX5_isMissing ∈ zW := List.mem_filter.mpr ⟨List.mem_of_getElem? (i := 287) (by decide +kernel), by decide +kernel⟩
theorem wiX5_isMissing : Cond.instanceMethod yX5_isMissing ∈ zW := List.mem_filter.mpr ⟨List.mem_of_getElem? (i := 288) (by decide +kernel), by decide +kernel⟩
theorem wsX5_isMissing : Cond.selects RX5 yX5_isMissing yX5_isMissing ∈ zW := List.mem_filter.mpr ⟨List.mem_of_getElem? (i := 289) (by decide +kernel), by decide +kernel⟩
theorem mwX5_isMissing : zMw yX5_isMissing cX5_isMissing 1 (some .boolean) 0 := ⟨List.mem_filter.mpr ⟨List.mem_of_getElem? (i := 290) (by decide +kernel), by decide +kernel⟩, List.mem_filter.mpr ⟨List.mem_of_getElem? (i := 6) (by decide +kernel), by decide +kernel⟩, by decide +kernel⟩
theorem wmX0_142 : Cond.methodLink RX0 142 yX5_stayAway ∈ zW := List.mem_filter.mpr ⟨List.mem_of_getElem? (i := 295) (by decide +kernel), by decide +kernel⟩
theorem wiX5_stayAway : Cond.instanceMethod yX5_stayAway ∈ zW := List.mem_filter.mpr ⟨List.mem_of_getElem? (i := 296) (by decide +kernel), by decide +kernel⟩
theorem wsX5_stayAway : Cond.selects RX5 yX5_stayAway yX5_stayAway ∈ zW := List.mem_filter.mpr ⟨List.mem_of_getElem? (i := 297) (by decide +kernel), by decide +kernel⟩
theorem mwX5_stayAway : zMw yX5_stayAway cX5_stayAway 1 none 0 := ⟨List.mem_filter.mpr ⟨List.mem_of_getElem? (i := 298) (by decide +kernel), by decide +kernel⟩, List.mem_filter.mpr ⟨List.mem_of_getElem? (i := 6) (by decide +kernel), by decide +kernel⟩, by decide +kernel⟩
theorem wmX7_84 : Cond.methodLink RX7 84 yX0_endDay ∈ zW := List.mem_filter.mpr ⟨List.mem_of_getElem? (i := 283) (by decide +kernel), by decide +kernel⟩
theorem wiX0_endDay : Cond.instanceMethod yX0_endDay ∈ zW := List.mem_filter.mpr ⟨List.mem_of_getElem? (i := 284) (by decide +kernel), by decide +kernel⟩
theorem wsX0_endDay : Cond.selects RX0 yX0_endDay yX0_endDay ∈ zW := List.mem_filter.mpr ⟨List.mem_of_getElem? (i := 285) (by decide +kernel), by decide +kernel⟩
theorem mwX0_endDay : zMw yX0_endDay cX0_endDay 3 (some .int) 0 := ⟨List.mem_filter.mpr ⟨List.mem_of_getElem? (i := 286) (by decide +kernel), by decide +kernel⟩, List.mem_filter.mpr ⟨List.mem_of_getElem? (i := 5) (by decide +kernel), by decide +kernel⟩, by decide +kernel⟩
theorem wmX5_67 : Cond.methodLink RX5 67 yX5_daysWithOrder ∈ zW := List.mem_filter.mpr ⟨List.mem_of_getElem? (i := 327) (by decide +kernel), by decide +kernel⟩
theorem wiX5_daysWithOrder : Cond.instanceMethod yX5_daysWithOrder ∈ zW := List.mem_filter.mpr ⟨List.mem_of_getElem? (i := 328) (by decide +kernel), by decide +kernel⟩
theorem wsX5_daysWithOrder : Cond.selects RX5 yX5_daysWithOrder yX5_daysWithOrder ∈ zW := List.mem_filter.mpr ⟨List.mem_of_getElem? (i := 329) (by decide +kernel), by decide +kernel⟩
theorem mwX5_daysWithOrder : zMw yX5_daysWithOrder cX5_daysWithOrder 3 (some .int) 0 := ⟨List.mem_filter.mpr ⟨List.mem_of_getElem? (i := 330) (by decide +kernel), by decide +kernel⟩, List.mem_filter.mpr ⟨List.mem_of_getElem? (i := 6) (by decide +kernel), by decide +kernel⟩, by decide +kernel⟩
theorem wmX0_155 : Cond.methodLink RX0 155 yX5_number ∈ zW := List.mem_filter.mpr ⟨List.mem_of_getElem? (i := 323) (by decide +kernel), by decide +kernel⟩
theorem wiX5_number : Cond.instanceMethod yX5_number ∈ zW := List.mem_filter.mpr ⟨List.mem_of_getElem? (i := 324) (by decide +kernel), by decide +kernel⟩
theorem wsX5_number : Cond.selects RX5 yX5_number yX5_number ∈ zW := List.mem_filter.mpr ⟨List.mem_of_getElem? (i := 325) (by decide +kernel), by decide +kernel⟩
theorem mwX5_number : zMw yX5_number cX5_number 2 (some .int) 1 := ⟨List.mem_filter.mpr ⟨List.mem_of_getElem? (i := 326) (by decide +kernel), by decide +kernel⟩, List.mem_filter.mpr ⟨List.mem_of_getElem? (i := 6) (by decide +kernel), by decide +kernel⟩, by decide +kernel⟩
theorem wmX7_87 : Cond.methodLink RX7 87 yX0_aboutPerson ∈ zW := List.mem_filter.mpr ⟨List.mem_of_getElem? (i := 319) (by decide +kernel), by decide +kernel⟩
theorem wiX0_aboutPerson : Cond.instanceMethod yX0_aboutPerson ∈ zW := List.mem_filter.mpr ⟨List.mem_of_getElem? (i := 320) (by decide +kernel), by decide +kernel⟩
theorem wsX0_aboutPerson : Cond.selects RX0 yX0_aboutPerson yX0_aboutPerson ∈ zW := List.mem_filter.mpr ⟨List.mem_of_getElem? (i := 321) (by decide +kernel), by decide +kernel⟩
theorem mwX0_aboutPerson : zMw yX0_aboutPerson cX0_aboutPerson 3 (some .int) 2 := ⟨List.mem_filter.mpr ⟨List.mem_of_getElem? (i := 322) (by decide +kernel), by decide +kernel⟩, List.mem_filter.mpr ⟨List.mem_of_getElem? (i := 5) (by decide +kernel), by decide +kernel⟩, by decide +kernel⟩
theorem wnX0_158 : Cond.fieldLinkNest RX0 158 "CanteenPlates$Dish" "fresh" "I" "CanteenPlates" ∈ zNw := List.mem_filter.mpr ⟨List.mem_of_getElem? (i := 83) (by decide +kernel), by decide +kernel⟩
theorem wnX0_161 : Cond.fieldLinkNest RX0 161 "CanteenPlates$Dish" "cooked" "I" "CanteenPlates" ∈ zNw := List.mem_filter.mpr ⟨List.mem_of_getElem? (i := 85) (by decide +kernel), by decide +kernel⟩
theorem wnX0_163 : Cond.fieldLinkNest RX0 163 "CanteenPlates$Dish" "eaten" "I" "CanteenPlates" ∈ zNw := List.mem_filter.mpr ⟨List.mem_of_getElem? (i := 87) (by decide +kernel), by decide +kernel⟩
theorem wnX0_166 : Cond.fieldLinkNest RX0 166 "CanteenPlates$Dish" "thrown" "I" "CanteenPlates" ∈ zNw := List.mem_filter.mpr ⟨List.mem_of_getElem? (i := 89) (by decide +kernel), by decide +kernel⟩
theorem wmX7_90 : Cond.methodLink RX7 90 yX0_aboutDish ∈ zW := List.mem_filter.mpr ⟨List.mem_of_getElem? (i := 485) (by decide +kernel), by decide +kernel⟩
theorem wiX0_aboutDish : Cond.instanceMethod yX0_aboutDish ∈ zW := List.mem_filter.mpr ⟨List.mem_of_getElem? (i := 356) (by decide +kernel), by decide +kernel⟩
theorem wsX0_aboutDish : Cond.selects RX0 yX0_aboutDish yX0_aboutDish ∈ zW := List.mem_filter.mpr ⟨List.mem_of_getElem? (i := 357) (by decide +kernel), by decide +kernel⟩
theorem mwX0_aboutDish : zMw yX0_aboutDish cX0_aboutDish 3 (some .int) 2 := ⟨List.mem_filter.mpr ⟨List.mem_of_getElem? (i := 358) (by decide +kernel), by decide +kernel⟩, List.mem_filter.mpr ⟨List.mem_of_getElem? (i := 5) (by decide +kernel), by decide +kernel⟩, by decide +kernel⟩
theorem wmX7_93 : Cond.methodLink RX7 93 yX0_peopleWithOrder ∈ zW := List.mem_filter.mpr ⟨List.mem_of_getElem? (i := 474) (by decide +kernel), by decide +kernel⟩
theorem wiX0_peopleWithOrder : Cond.instanceMethod yX0_peopleWithOrder ∈ zW := List.mem_filter.mpr ⟨List.mem_of_getElem? (i := 475) (by decide +kernel), by decide +kernel⟩
theorem wsX0_peopleWithOrder : Cond.selects RX0 yX0_peopleWithOrder yX0_peopleWithOrder ∈ zW := List.mem_filter.mpr ⟨List.mem_of_getElem? (i := 476) (by decide +kernel), by decide +kernel⟩
theorem mwX0_peopleWithOrder : zMw yX0_peopleWithOrder cX0_peopleWithOrder 5 (some .int) 2 := ⟨List.mem_filter.mpr ⟨List.mem_of_getElem? (i := 477) (by decide +kernel), by decide +kernel⟩, List.mem_filter.mpr ⟨List.mem_of_getElem? (i := 5) (by decide +kernel), by decide +kernel⟩, by decide +kernel⟩
theorem wmX0_178 : Cond.methodLink RX0 178 yX0_aboutDish ∈ zW := List.mem_filter.mpr ⟨List.mem_of_getElem? (i := 355) (by decide +kernel), by decide +kernel⟩
theorem wnX0_181 : Cond.fieldLinkNest RX0 181 "CanteenPlates$Person" "timesAway" "I" "CanteenPlates" ∈ zNw := List.mem_filter.mpr ⟨List.mem_of_getElem? (i := 48) (by decide +kernel), by decide +kernel⟩
theorem wmX0_169 : Cond.methodLink RX0 169 yX0_sumOfDishes ∈ zW := List.mem_filter.mpr ⟨List.mem_of_getElem? (i := 347) (by decide +kernel), by decide +kernel⟩
theorem wiX0_sumOfDishes : Cond.instanceMethod yX0_sumOfDishes ∈ zW := List.mem_filter.mpr ⟨List.mem_of_getElem? (i := 349) (by decide +kernel), by decide +kernel⟩
theorem wsX0_sumOfDishes : Cond.selects RX0 yX0_sumOfDishes yX0_sumOfDishes ∈ zW := List.mem_filter.mpr ⟨List.mem_of_getElem? (i := 0) (by decide +kernel), by decide +kernel⟩
theorem mwX0_sumOfDishes : zMw yX0_sumOfDishes cX0_sumOfDishes 4 (some .int) 1 := ⟨List.mem_filter.mpr ⟨List.mem_of_getElem? (i := 350) (by decide +kernel), by decide +kernel⟩, List.mem_filter.mpr ⟨List.mem_of_getElem? (i := 5) (by decide +kernel), by decide +kernel⟩, by decide +kernel⟩
theorem wmX0_172 : Cond.methodLink RX0 172 yX0_sumOfPeople ∈ zW := List.mem_filter.mpr ⟨List.mem_of_getElem? (i := 384) (by decide +kernel), by decide +kernel⟩
theorem wiX0_sumOfPeople : Cond.instanceMethod yX0_sumOfPeople ∈ zW := List.mem_filter.mpr ⟨List.mem_of_getElem? (i := 386) (by decide +kernel), by decide +kernel⟩
theorem wsX0_sumOfPeople : Cond.selects RX0 yX0_sumOfPeople yX0_sumOfPeople ∈ zW := List.mem_filter.mpr ⟨List.mem_of_getElem? (i := 1) (by decide +kernel), by decide +kernel⟩
theorem mwX0_sumOfPeople : zMw yX0_sumOfPeople cX0_sumOfPeople 4 (some .int) 1 := ⟨List.mem_filter.mpr ⟨List.mem_of_getElem? (i := 387) (by decide +kernel), by decide +kernel⟩, List.mem_filter.mpr ⟨List.mem_of_getElem? (i := 5) (by decide +kernel), by decide +kernel⟩, by decide +kernel⟩
theorem wmX0_175 : Cond.methodLink RX0 175 yX0_bannedToday ∈ zW := List.mem_filter.mpr ⟨List.mem_of_getElem? (i := 388) (by decide +kernel), by decide +kernel⟩
theorem wiX0_bannedToday : Cond.instanceMethod yX0_bannedToday ∈ zW := List.mem_filter.mpr ⟨List.mem_of_getElem? (i := 390) (by decide +kernel), by decide +kernel⟩
theorem wsX0_bannedToday : Cond.selects RX0 yX0_bannedToday yX0_bannedToday ∈ zW := List.mem_filter.mpr ⟨List.mem_of_getElem? (i := 2) (by decide +kernel), by decide +kernel⟩
theorem mwX0_bannedToday : zMw yX0_bannedToday cX0_bannedToday 3 (some .int) 0 := ⟨List.mem_filter.mpr ⟨List.mem_of_getElem? (i := 391) (by decide +kernel), by decide +kernel⟩, List.mem_filter.mpr ⟨List.mem_of_getElem? (i := 5) (by decide +kernel), by decide +kernel⟩, by decide +kernel⟩
theorem wfX4_15 : Cond.fieldLink RX4 15 "CanteenPlates$Pad" "length" "I" ∈ zW := List.mem_filter.mpr ⟨List.mem_of_getElem? (i := 165) (by decide +kernel), by decide +kernel⟩
theorem wmX7_100 : Cond.methodLink RX7 100 yX0_number ∈ zW := List.mem_filter.mpr ⟨List.mem_of_getElem? (i := 343) (by decide +kernel), by decide +kernel⟩
theorem wiX0_number : Cond.instanceMethod yX0_number ∈ zW := List.mem_filter.mpr ⟨List.mem_of_getElem? (i := 344) (by decide +kernel), by decide +kernel⟩
theorem wsX0_number : Cond.selects RX0 yX0_number yX0_number ∈ zW := List.mem_filter.mpr ⟨List.mem_of_getElem? (i := 345) (by decide +kernel), by decide +kernel⟩
theorem mwX0_number : zMw yX0_number cX0_number 2 (some .int) 1 := ⟨List.mem_filter.mpr ⟨List.mem_of_getElem? (i := 346) (by decide +kernel), by decide +kernel⟩, List.mem_filter.mpr ⟨List.mem_of_getElem? (i := 5) (by decide +kernel), by decide +kernel⟩, by decide +kernel⟩
theorem wmX7_99 : Cond.methodLink RX7 99 yX2_length ∈ zW := List.mem_filter.mpr ⟨List.mem_of_getElem? (i := 339) (by decide +kernel), by decide +kernel⟩
theorem wiX2_length : Cond.instanceMethod yX2_length ∈ zW := List.mem_filter.mpr ⟨List.mem_of_getElem? (i := 340) (by decide +kernel), by decide +kernel⟩
theorem wsX2_length : Cond.selects RX2 yX2_length yX2_length ∈ zW := List.mem_filter.mpr ⟨List.mem_of_getElem? (i := 341) (by decide +kernel), by decide +kernel⟩
theorem mwX2_length : zMw yX2_length cX2_length 1 (some .int) 0 := ⟨List.mem_filter.mpr ⟨List.mem_of_getElem? (i := 342) (by decide +kernel), by decide +kernel⟩, List.mem_filter.mpr ⟨List.mem_of_getElem? (i := 8) (by decide +kernel), by decide +kernel⟩, by decide +kernel⟩
theorem wfX7_33 : Cond.fieldLink RX7 33 "CanteenPlates" "pad" "LCanteenPlates$Pad;" ∈ zW := List.mem_filter.mpr ⟨List.mem_of_getElem? (i := 197) (by decide +kernel), by decide +kernel⟩
theorem wmX7_96 : Cond.methodLink RX7 96 yX4_length ∈ zW := List.mem_filter.mpr ⟨List.mem_of_getElem? (i := 335) (by decide +kernel), by decide +kernel⟩
theorem wiX4_length : Cond.instanceMethod yX4_length ∈ zW := List.mem_filter.mpr ⟨List.mem_of_getElem? (i := 336) (by decide +kernel), by decide +kernel⟩
theorem wsX4_length : Cond.selects RX4 yX4_length yX4_length ∈ zW := List.mem_filter.mpr ⟨List.mem_of_getElem? (i := 337) (by decide +kernel), by decide +kernel⟩
theorem mwX4_length : zMw yX4_length cX4_length 1 (some .int) 0 := ⟨List.mem_filter.mpr ⟨List.mem_of_getElem? (i := 338) (by decide +kernel), by decide +kernel⟩, List.mem_filter.mpr ⟨List.mem_of_getElem? (i := 10) (by decide +kernel), by decide +kernel⟩, by decide +kernel⟩
theorem wmX7_103 : Cond.methodLink RX7 103 yX0_reasonAgainst ∈ zW := List.mem_filter.mpr ⟨List.mem_of_getElem? (i := 493) (by decide +kernel), by decide +kernel⟩
theorem wmX5_64 : Cond.methodLink RX5 64 yX5_doubt ∈ zW := List.mem_filter.mpr ⟨List.mem_of_getElem? (i := 404) (by decide +kernel), by decide +kernel⟩
theorem wmX0_187 : Cond.methodLink RX0 187 yX5_isLessSureThan ∈ zW := List.mem_filter.mpr ⟨List.mem_of_getElem? (i := 400) (by decide +kernel), by decide +kernel⟩
theorem wiX5_isLessSureThan : Cond.instanceMethod yX5_isLessSureThan ∈ zW := List.mem_filter.mpr ⟨List.mem_of_getElem? (i := 401) (by decide +kernel), by decide +kernel⟩
theorem wsX5_isLessSureThan : Cond.selects RX5 yX5_isLessSureThan yX5_isLessSureThan ∈ zW := List.mem_filter.mpr ⟨List.mem_of_getElem? (i := 402) (by decide +kernel), by decide +kernel⟩
theorem mwX5_isLessSureThan : zMw yX5_isLessSureThan cX5_isLessSureThan 2 (some .boolean) 1 := ⟨List.mem_filter.mpr ⟨List.mem_of_getElem? (i := 403) (by decide +kernel), by decide +kernel⟩, List.mem_filter.mpr ⟨List.mem_of_getElem? (i := 6) (by decide +kernel), by decide +kernel⟩, by decide +kernel⟩
theorem wmX7_106 : Cond.methodLink RX7 106 yX0_greatestDoubt ∈ zW := List.mem_filter.mpr ⟨List.mem_of_getElem? (i := 396) (by decide +kernel), by decide +kernel⟩
theorem wiX0_greatestDoubt : Cond.instanceMethod yX0_greatestDoubt ∈ zW := List.mem_filter.mpr ⟨List.mem_of_getElem? (i := 397) (by decide +kernel), by decide +kernel⟩
theorem wsX0_greatestDoubt : Cond.selects RX0 yX0_greatestDoubt yX0_greatestDoubt ∈ zW := List.mem_filter.mpr ⟨List.mem_of_getElem? (i := 398) (by decide +kernel), by decide +kernel⟩
theorem mwX0_greatestDoubt : zMw yX0_greatestDoubt cX0_greatestDoubt 4 (some .int) 1 := ⟨List.mem_filter.mpr ⟨List.mem_of_getElem? (i := 399) (by decide +kernel), by decide +kernel⟩, List.mem_filter.mpr ⟨List.mem_of_getElem? (i := 5) (by decide +kernel), by decide +kernel⟩, by decide +kernel⟩
theorem wmX7_109 : Cond.methodLink RX7 109 yX0_firstPossible ∈ zW := List.mem_filter.mpr ⟨List.mem_of_getElem? (i := 409) (by decide +kernel), by decide +kernel⟩
theorem wiX0_firstPossible : Cond.instanceMethod yX0_firstPossible ∈ zW := List.mem_filter.mpr ⟨List.mem_of_getElem? (i := 410) (by decide +kernel), by decide +kernel⟩
theorem wsX0_firstPossible : Cond.selects RX0 yX0_firstPossible yX0_firstPossible ∈ zW := List.mem_filter.mpr ⟨List.mem_of_getElem? (i := 411) (by decide +kernel), by decide +kernel⟩
theorem mwX0_firstPossible : zMw yX0_firstPossible cX0_firstPossible 4 (some .int) 1 := ⟨List.mem_filter.mpr ⟨List.mem_of_getElem? (i := 412) (by decide +kernel), by decide +kernel⟩, List.mem_filter.mpr ⟨List.mem_of_getElem? (i := 5) (by decide +kernel), by decide +kernel⟩, by decide +kernel⟩
theorem wmX0_191 : Cond.methodLink RX0 191 yX1_waste ∈ zW := List.mem_filter.mpr ⟨List.mem_of_getElem? (i := 430) (by decide +kernel), by decide +kernel⟩
theorem wiX1_waste : Cond.instanceMethod yX1_waste ∈ zW := List.mem_filter.mpr ⟨List.mem_of_getElem? (i := 431) (by decide +kernel), by decide +kernel⟩
theorem wsX1_waste : Cond.selects RX1 yX1_waste yX1_waste ∈ zW := List.mem_filter.mpr ⟨List.mem_of_getElem? (i := 432) (by decide +kernel), by decide +kernel⟩
theorem mwX1_waste : zMw yX1_waste cX1_waste 1 (some .int) 0 := ⟨List.mem_filter.mpr ⟨List.mem_of_getElem? (i := 433) (by decide +kernel), by decide +kernel⟩, List.mem_filter.mpr ⟨List.mem_of_getElem? (i := 7) (by decide +kernel), by decide +kernel⟩, by decide +kernel⟩
theorem wmX7_112 : Cond.methodLink RX7 112 yX0_mostThrown ∈ zW := List.mem_filter.mpr ⟨List.mem_of_getElem? (i := 426) (by decide +kernel), by decide +kernel⟩
theorem wiX0_mostThrown : Cond.instanceMethod yX0_mostThrown ∈ zW := List.mem_filter.mpr ⟨List.mem_of_getElem? (i := 427) (by decide +kernel), by decide +kernel⟩
theorem wsX0_mostThrown : Cond.selects RX0 yX0_mostThrown yX0_mostThrown ∈ zW := List.mem_filter.mpr ⟨List.mem_of_getElem? (i := 428) (by decide +kernel), by decide +kernel⟩
theorem mwX0_mostThrown : zMw yX0_mostThrown cX0_mostThrown 3 (some .int) 0 := ⟨List.mem_filter.mpr ⟨List.mem_of_getElem? (i := 429) (by decide +kernel), by decide +kernel⟩, List.mem_filter.mpr ⟨List.mem_of_getElem? (i := 5) (by decide +kernel), by decide +kernel⟩, by decide +kernel⟩
theorem wmX7_128 : Cond.methodLink RX7 128 yX2_takeBack ∈ zW := List.mem_filter.mpr ⟨List.mem_of_getElem? (i := 438) (by decide +kernel), by decide +kernel⟩
theorem wiX2_takeBack : Cond.instanceMethod yX2_takeBack ∈ zW := List.mem_filter.mpr ⟨List.mem_of_getElem? (i := 439) (by decide +kernel), by decide +kernel⟩
theorem wsX2_takeBack : Cond.selects RX2 yX2_takeBack yX2_takeBack ∈ zW := List.mem_filter.mpr ⟨List.mem_of_getElem? (i := 440) (by decide +kernel), by decide +kernel⟩
theorem mwX2_takeBack : zMw yX2_takeBack cX2_takeBack 2 (some .int) 1 := ⟨List.mem_filter.mpr ⟨List.mem_of_getElem? (i := 441) (by decide +kernel), by decide +kernel⟩, List.mem_filter.mpr ⟨List.mem_of_getElem? (i := 8) (by decide +kernel), by decide +kernel⟩, by decide +kernel⟩
theorem wfX6_11 : Cond.fieldLink RX6 11 "CanteenPlates$Slots" "saved" "[LCanteenPlates$Canteen;" ∈ zW := List.mem_filter.mpr ⟨List.mem_of_getElem? (i := 150) (by decide +kernel), by decide +kernel⟩
theorem wmX6_22 : Cond.methodLink RX6 22 yX0_become ∈ zW := List.mem_filter.mpr ⟨List.mem_of_getElem? (i := 450) (by decide +kernel), by decide +kernel⟩
theorem wfX6_17 : Cond.fieldLink RX6 17 "CanteenPlates$Slots" "used" "[Z" ∈ zW := List.mem_filter.mpr ⟨List.mem_of_getElem? (i := 151) (by decide +kernel), by decide +kernel⟩
theorem wnX6_26 : Cond.fieldLinkNest RX6 26 "CanteenPlates$Canteen" "people" "I" "CanteenPlates" ∈ zNw := List.mem_filter.mpr ⟨List.mem_of_getElem? (i := 106) (by decide +kernel), by decide +kernel⟩
theorem wfX7_26 : Cond.fieldLink RX7 26 "CanteenPlates" "slots" "LCanteenPlates$Slots;" ∈ zW := List.mem_filter.mpr ⟨List.mem_of_getElem? (i := 196) (by decide +kernel), by decide +kernel⟩
theorem wmX7_132 : Cond.methodLink RX7 132 yX6_store ∈ zW := List.mem_filter.mpr ⟨List.mem_of_getElem? (i := 446) (by decide +kernel), by decide +kernel⟩
theorem wiX6_store : Cond.instanceMethod yX6_store ∈ zW := List.mem_filter.mpr ⟨List.mem_of_getElem? (i := 447) (by decide +kernel), by decide +kernel⟩
theorem wsX6_store : Cond.selects RX6 yX6_store yX6_store ∈ zW := List.mem_filter.mpr ⟨List.mem_of_getElem? (i := 448) (by decide +kernel), by decide +kernel⟩
theorem mwX6_store : zMw yX6_store cX6_store 3 (some .int) 2 := ⟨List.mem_filter.mpr ⟨List.mem_of_getElem? (i := 449) (by decide +kernel), by decide +kernel⟩, List.mem_filter.mpr ⟨List.mem_of_getElem? (i := 9) (by decide +kernel), by decide +kernel⟩, by decide +kernel⟩
theorem wmX7_136 : Cond.methodLink RX7 136 yX6_fetch ∈ zW := List.mem_filter.mpr ⟨List.mem_of_getElem? (i := 455) (by decide +kernel), by decide +kernel⟩
theorem wiX6_fetch : Cond.instanceMethod yX6_fetch ∈ zW := List.mem_filter.mpr ⟨List.mem_of_getElem? (i := 456) (by decide +kernel), by decide +kernel⟩
theorem wsX6_fetch : Cond.selects RX6 yX6_fetch yX6_fetch ∈ zW := List.mem_filter.mpr ⟨List.mem_of_getElem? (i := 457) (by decide +kernel), by decide +kernel⟩
theorem mwX6_fetch : zMw yX6_fetch cX6_fetch 3 (some .int) 2 := ⟨List.mem_filter.mpr ⟨List.mem_of_getElem? (i := 458) (by decide +kernel), by decide +kernel⟩, List.mem_filter.mpr ⟨List.mem_of_getElem? (i := 9) (by decide +kernel), by decide +kernel⟩, by decide +kernel⟩
theorem wmL_9 : Cond.methodLink RL 9 yX7_of ∈ zW := List.mem_filter.mpr ⟨List.mem_of_getElem? (i := 315) (by decide +kernel), by decide +kernel⟩
theorem wiX7_of : Cond.instanceMethod yX7_of ∈ zW := List.mem_filter.mpr ⟨List.mem_of_getElem? (i := 316) (by decide +kernel), by decide +kernel⟩
theorem wsX7_of : Cond.selects RX7 yX7_of yX7_of ∈ zW := List.mem_filter.mpr ⟨List.mem_of_getElem? (i := 317) (by decide +kernel), by decide +kernel⟩
theorem mwX7_of : zMw yX7_of cX7_of 3 (some .int) 2 := ⟨List.mem_filter.mpr ⟨List.mem_of_getElem? (i := 318) (by decide +kernel), by decide +kernel⟩, List.mem_filter.mpr ⟨List.mem_of_getElem? (i := 4) (by decide +kernel), by decide +kernel⟩, by decide +kernel⟩
theorem wmL_22 : Cond.methodLink RL 22 yL_doubt ∈ zW := List.mem_filter.mpr ⟨List.mem_of_getElem? (i := 478) (by decide +kernel), by decide +kernel⟩
theorem wtL_doubt : Cond.static yL_doubt ∈ zW := List.mem_filter.mpr ⟨List.mem_of_getElem? (i := 479) (by decide +kernel), by decide +kernel⟩
theorem mwL_doubt : zMw yL_doubt cL_doubt 3 (some .int) 2 := ⟨List.mem_filter.mpr ⟨List.mem_of_getElem? (i := 480) (by decide +kernel), by decide +kernel⟩, List.mem_filter.mpr ⟨List.mem_of_getElem? (i := 3) (by decide +kernel), by decide +kernel⟩, by decide +kernel⟩
theorem wmL_28 : Cond.methodLink RL 28 yX7_ofDish ∈ zW := List.mem_filter.mpr ⟨List.mem_of_getElem? (i := 481) (by decide +kernel), by decide +kernel⟩
theorem wiX7_ofDish : Cond.instanceMethod yX7_ofDish ∈ zW := List.mem_filter.mpr ⟨List.mem_of_getElem? (i := 482) (by decide +kernel), by decide +kernel⟩
theorem wsX7_ofDish : Cond.selects RX7 yX7_ofDish yX7_ofDish ∈ zW := List.mem_filter.mpr ⟨List.mem_of_getElem? (i := 483) (by decide +kernel), by decide +kernel⟩
theorem mwX7_ofDish : zMw yX7_ofDish cX7_ofDish 3 (some .int) 2 := ⟨List.mem_filter.mpr ⟨List.mem_of_getElem? (i := 484) (by decide +kernel), by decide +kernel⟩, List.mem_filter.mpr ⟨List.mem_of_getElem? (i := 4) (by decide +kernel), by decide +kernel⟩, by decide +kernel⟩
theorem wmL_18 : Cond.methodLink RL 18 yX7_count ∈ zW := List.mem_filter.mpr ⟨List.mem_of_getElem? (i := 331) (by decide +kernel), by decide +kernel⟩
theorem wiX7_count : Cond.instanceMethod yX7_count ∈ zW := List.mem_filter.mpr ⟨List.mem_of_getElem? (i := 332) (by decide +kernel), by decide +kernel⟩
theorem wsX7_count : Cond.selects RX7 yX7_count yX7_count ∈ zW := List.mem_filter.mpr ⟨List.mem_of_getElem? (i := 333) (by decide +kernel), by decide +kernel⟩
theorem mwX7_count : zMw yX7_count cX7_count 2 (some .int) 1 := ⟨List.mem_filter.mpr ⟨List.mem_of_getElem? (i := 334) (by decide +kernel), by decide +kernel⟩, List.mem_filter.mpr ⟨List.mem_of_getElem? (i := 4) (by decide +kernel), by decide +kernel⟩, by decide +kernel⟩
theorem wmL_15 : Cond.methodLink RL 15 yX7_ordered ∈ zW := List.mem_filter.mpr ⟨List.mem_of_getElem? (i := 470) (by decide +kernel), by decide +kernel⟩
theorem wiX7_ordered : Cond.instanceMethod yX7_ordered ∈ zW := List.mem_filter.mpr ⟨List.mem_of_getElem? (i := 471) (by decide +kernel), by decide +kernel⟩
theorem wsX7_ordered : Cond.selects RX7 yX7_ordered yX7_ordered ∈ zW := List.mem_filter.mpr ⟨List.mem_of_getElem? (i := 472) (by decide +kernel), by decide +kernel⟩
theorem mwX7_ordered : zMw yX7_ordered cX7_ordered 3 (some .int) 2 := ⟨List.mem_filter.mpr ⟨List.mem_of_getElem? (i := 473) (by decide +kernel), by decide +kernel⟩, List.mem_filter.mpr ⟨List.mem_of_getElem? (i := 4) (by decide +kernel), by decide +kernel⟩, by decide +kernel⟩
theorem wmL_31 : Cond.methodLink RL 31 yX7_why ∈ zW := List.mem_filter.mpr ⟨List.mem_of_getElem? (i := 489) (by decide +kernel), by decide +kernel⟩
theorem wiX7_why : Cond.instanceMethod yX7_why ∈ zW := List.mem_filter.mpr ⟨List.mem_of_getElem? (i := 490) (by decide +kernel), by decide +kernel⟩
theorem wsX7_why : Cond.selects RX7 yX7_why yX7_why ∈ zW := List.mem_filter.mpr ⟨List.mem_of_getElem? (i := 491) (by decide +kernel), by decide +kernel⟩
theorem mwX7_why : zMw yX7_why cX7_why 4 (some .int) 3 := ⟨List.mem_filter.mpr ⟨List.mem_of_getElem? (i := 492) (by decide +kernel), by decide +kernel⟩, List.mem_filter.mpr ⟨List.mem_of_getElem? (i := 4) (by decide +kernel), by decide +kernel⟩, by decide +kernel⟩
theorem wmL_35 : Cond.methodLink RL 35 yX7_firstOrder ∈ zW := List.mem_filter.mpr ⟨List.mem_of_getElem? (i := 405) (by decide +kernel), by decide +kernel⟩
theorem wiX7_firstOrder : Cond.instanceMethod yX7_firstOrder ∈ zW := List.mem_filter.mpr ⟨List.mem_of_getElem? (i := 406) (by decide +kernel), by decide +kernel⟩
theorem wsX7_firstOrder : Cond.selects RX7 yX7_firstOrder yX7_firstOrder ∈ zW := List.mem_filter.mpr ⟨List.mem_of_getElem? (i := 407) (by decide +kernel), by decide +kernel⟩
theorem mwX7_firstOrder : zMw yX7_firstOrder cX7_firstOrder 2 (some .int) 1 := ⟨List.mem_filter.mpr ⟨List.mem_of_getElem? (i := 408) (by decide +kernel), by decide +kernel⟩, List.mem_filter.mpr ⟨List.mem_of_getElem? (i := 4) (by decide +kernel), by decide +kernel⟩, by decide +kernel⟩
theorem wmL_38 : Cond.methodLink RL 38 yX7_unsurest ∈ zW := List.mem_filter.mpr ⟨List.mem_of_getElem? (i := 392) (by decide +kernel), by decide +kernel⟩
theorem wiX7_unsurest : Cond.instanceMethod yX7_unsurest ∈ zW := List.mem_filter.mpr ⟨List.mem_of_getElem? (i := 393) (by decide +kernel), by decide +kernel⟩
theorem wsX7_unsurest : Cond.selects RX7 yX7_unsurest yX7_unsurest ∈ zW := List.mem_filter.mpr ⟨List.mem_of_getElem? (i := 394) (by decide +kernel), by decide +kernel⟩
theorem mwX7_unsurest : zMw yX7_unsurest cX7_unsurest 2 (some .int) 1 := ⟨List.mem_filter.mpr ⟨List.mem_of_getElem? (i := 395) (by decide +kernel), by decide +kernel⟩, List.mem_filter.mpr ⟨List.mem_of_getElem? (i := 4) (by decide +kernel), by decide +kernel⟩, by decide +kernel⟩
theorem wmL_41 : Cond.methodLink RL 41 yX7_person ∈ zW := List.mem_filter.mpr ⟨List.mem_of_getElem? (i := 250) (by decide +kernel), by decide +kernel⟩
theorem wiX7_person : Cond.instanceMethod yX7_person ∈ zW := List.mem_filter.mpr ⟨List.mem_of_getElem? (i := 251) (by decide +kernel), by decide +kernel⟩
theorem wsX7_person : Cond.selects RX7 yX7_person yX7_person ∈ zW := List.mem_filter.mpr ⟨List.mem_of_getElem? (i := 252) (by decide +kernel), by decide +kernel⟩
theorem mwX7_person : zMw yX7_person cX7_person 1 (some .int) 0 := ⟨List.mem_filter.mpr ⟨List.mem_of_getElem? (i := 253) (by decide +kernel), by decide +kernel⟩, List.mem_filter.mpr ⟨List.mem_of_getElem? (i := 4) (by decide +kernel), by decide +kernel⟩, by decide +kernel⟩
theorem wmL_45 : Cond.methodLink RL 45 yX7_vouchers ∈ zW := List.mem_filter.mpr ⟨List.mem_of_getElem? (i := 262) (by decide +kernel), by decide +kernel⟩
theorem wiX7_vouchers : Cond.instanceMethod yX7_vouchers ∈ zW := List.mem_filter.mpr ⟨List.mem_of_getElem? (i := 263) (by decide +kernel), by decide +kernel⟩
theorem wsX7_vouchers : Cond.selects RX7 yX7_vouchers yX7_vouchers ∈ zW := List.mem_filter.mpr ⟨List.mem_of_getElem? (i := 264) (by decide +kernel), by decide +kernel⟩
theorem mwX7_vouchers : zMw yX7_vouchers cX7_vouchers 3 (some .int) 2 := ⟨List.mem_filter.mpr ⟨List.mem_of_getElem? (i := 265) (by decide +kernel), by decide +kernel⟩, List.mem_filter.mpr ⟨List.mem_of_getElem? (i := 4) (by decide +kernel), by decide +kernel⟩, by decide +kernel⟩
theorem wmL_48 : Cond.methodLink RL 48 yX7_order ∈ zW := List.mem_filter.mpr ⟨List.mem_of_getElem? (i := 497) (by decide +kernel), by decide +kernel⟩
theorem wiX7_order : Cond.instanceMethod yX7_order ∈ zW := List.mem_filter.mpr ⟨List.mem_of_getElem? (i := 498) (by decide +kernel), by decide +kernel⟩
theorem wsX7_order : Cond.selects RX7 yX7_order yX7_order ∈ zW := List.mem_filter.mpr ⟨List.mem_of_getElem? (i := 499) (by decide +kernel), by decide +kernel⟩
theorem mwX7_order : zMw yX7_order cX7_order 4 (some .int) 3 := ⟨List.mem_filter.mpr ⟨List.mem_of_getElem? (i := 500) (by decide +kernel), by decide +kernel⟩, List.mem_filter.mpr ⟨List.mem_of_getElem? (i := 4) (by decide +kernel), by decide +kernel⟩, by decide +kernel⟩
theorem wmL_51 : Cond.methodLink RL 51 yX7_callOff ∈ zW := List.mem_filter.mpr ⟨List.mem_of_getElem? (i := 509) (by decide +kernel), by decide +kernel⟩
theorem wiX7_callOff : Cond.instanceMethod yX7_callOff ∈ zW := List.mem_filter.mpr ⟨List.mem_of_getElem? (i := 510) (by decide +kernel), by decide +kernel⟩
theorem wsX7_callOff : Cond.selects RX7 yX7_callOff yX7_callOff ∈ zW := List.mem_filter.mpr ⟨List.mem_of_getElem? (i := 511) (by decide +kernel), by decide +kernel⟩
theorem mwX7_callOff : zMw yX7_callOff cX7_callOff 3 (some .int) 2 := ⟨List.mem_filter.mpr ⟨List.mem_of_getElem? (i := 512) (by decide +kernel), by decide +kernel⟩, List.mem_filter.mpr ⟨List.mem_of_getElem? (i := 4) (by decide +kernel), by decide +kernel⟩, by decide +kernel⟩
theorem wmL_54 : Cond.methodLink RL 54 yX7_cook ∈ zW := List.mem_filter.mpr ⟨List.mem_of_getElem? (i := 517) (by decide +kernel), by decide +kernel⟩
theorem wiX7_cook : Cond.instanceMethod yX7_cook ∈ zW := List.mem_filter.mpr ⟨List.mem_of_getElem? (i := 518) (by decide +kernel), by decide +kernel⟩
theorem wsX7_cook : Cond.selects RX7 yX7_cook yX7_cook ∈ zW := List.mem_filter.mpr ⟨List.mem_of_getElem? (i := 519) (by decide +kernel), by decide +kernel⟩
theorem mwX7_cook : zMw yX7_cook cX7_cook 1 (some .int) 0 := ⟨List.mem_filter.mpr ⟨List.mem_of_getElem? (i := 520) (by decide +kernel), by decide +kernel⟩, List.mem_filter.mpr ⟨List.mem_of_getElem? (i := 4) (by decide +kernel), by decide +kernel⟩, by decide +kernel⟩
theorem wmL_57 : Cond.methodLink RL 57 yX7_come ∈ zW := List.mem_filter.mpr ⟨List.mem_of_getElem? (i := 529) (by decide +kernel), by decide +kernel⟩
theorem wiX7_come : Cond.instanceMethod yX7_come ∈ zW := List.mem_filter.mpr ⟨List.mem_of_getElem? (i := 530) (by decide +kernel), by decide +kernel⟩
theorem wsX7_come : Cond.selects RX7 yX7_come yX7_come ∈ zW := List.mem_filter.mpr ⟨List.mem_of_getElem? (i := 531) (by decide +kernel), by decide +kernel⟩
theorem mwX7_come : zMw yX7_come cX7_come 2 (some .int) 1 := ⟨List.mem_filter.mpr ⟨List.mem_of_getElem? (i := 532) (by decide +kernel), by decide +kernel⟩, List.mem_filter.mpr ⟨List.mem_of_getElem? (i := 4) (by decide +kernel), by decide +kernel⟩, by decide +kernel⟩
theorem wmL_60 : Cond.methodLink RL 60 yX7_buy ∈ zW := List.mem_filter.mpr ⟨List.mem_of_getElem? (i := 545) (by decide +kernel), by decide +kernel⟩
theorem wiX7_buy : Cond.instanceMethod yX7_buy ∈ zW := List.mem_filter.mpr ⟨List.mem_of_getElem? (i := 546) (by decide +kernel), by decide +kernel⟩
theorem wsX7_buy : Cond.selects RX7 yX7_buy yX7_buy ∈ zW := List.mem_filter.mpr ⟨List.mem_of_getElem? (i := 547) (by decide +kernel), by decide +kernel⟩
theorem mwX7_buy : zMw yX7_buy cX7_buy 3 (some .int) 2 := ⟨List.mem_filter.mpr ⟨List.mem_of_getElem? (i := 548) (by decide +kernel), by decide +kernel⟩, List.mem_filter.mpr ⟨List.mem_of_getElem? (i := 4) (by decide +kernel), by decide +kernel⟩, by decide +kernel⟩
theorem wmL_63 : Cond.methodLink RL 63 yX7_close ∈ zW := List.mem_filter.mpr ⟨List.mem_of_getElem? (i := 279) (by decide +kernel), by decide +kernel⟩
theorem wiX7_close : Cond.instanceMethod yX7_close ∈ zW := List.mem_filter.mpr ⟨List.mem_of_getElem? (i := 280) (by decide +kernel), by decide +kernel⟩
theorem wsX7_close : Cond.selects RX7 yX7_close yX7_close ∈ zW := List.mem_filter.mpr ⟨List.mem_of_getElem? (i := 281) (by decide +kernel), by decide +kernel⟩
theorem mwX7_close : zMw yX7_close cX7_close 1 (some .int) 0 := ⟨List.mem_filter.mpr ⟨List.mem_of_getElem? (i := 282) (by decide +kernel), by decide +kernel⟩, List.mem_filter.mpr ⟨List.mem_of_getElem? (i := 4) (by decide +kernel), by decide +kernel⟩, by decide +kernel⟩
theorem wmL_66 : Cond.methodLink RL 66 yX7_set ∈ zW := List.mem_filter.mpr ⟨List.mem_of_getElem? (i := 210) (by decide +kernel), by decide +kernel⟩
theorem wiX7_set : Cond.instanceMethod yX7_set ∈ zW := List.mem_filter.mpr ⟨List.mem_of_getElem? (i := 211) (by decide +kernel), by decide +kernel⟩
theorem wsX7_set : Cond.selects RX7 yX7_set yX7_set ∈ zW := List.mem_filter.mpr ⟨List.mem_of_getElem? (i := 212) (by decide +kernel), by decide +kernel⟩
theorem mwX7_set : zMw yX7_set cX7_set 3 (some .int) 2 := ⟨List.mem_filter.mpr ⟨List.mem_of_getElem? (i := 213) (by decide +kernel), by decide +kernel⟩, List.mem_filter.mpr ⟨List.mem_of_getElem? (i := 4) (by decide +kernel), by decide +kernel⟩, by decide +kernel⟩
theorem wmL_69 : Cond.methodLink RL 69 yX7_price ∈ zW := List.mem_filter.mpr ⟨List.mem_of_getElem? (i := 553) (by decide +kernel), by decide +kernel⟩
theorem wiX7_price : Cond.instanceMethod yX7_price ∈ zW := List.mem_filter.mpr ⟨List.mem_of_getElem? (i := 554) (by decide +kernel), by decide +kernel⟩
theorem wsX7_price : Cond.selects RX7 yX7_price yX7_price ∈ zW := List.mem_filter.mpr ⟨List.mem_of_getElem? (i := 555) (by decide +kernel), by decide +kernel⟩
theorem mwX7_price : zMw yX7_price cX7_price 4 (some .int) 3 := ⟨List.mem_filter.mpr ⟨List.mem_of_getElem? (i := 556) (by decide +kernel), by decide +kernel⟩, List.mem_filter.mpr ⟨List.mem_of_getElem? (i := 4) (by decide +kernel), by decide +kernel⟩, by decide +kernel⟩
theorem wmL_73 : Cond.methodLink RL 73 yX7_undo ∈ zW := List.mem_filter.mpr ⟨List.mem_of_getElem? (i := 434) (by decide +kernel), by decide +kernel⟩
theorem wiX7_undo : Cond.instanceMethod yX7_undo ∈ zW := List.mem_filter.mpr ⟨List.mem_of_getElem? (i := 435) (by decide +kernel), by decide +kernel⟩
theorem wsX7_undo : Cond.selects RX7 yX7_undo yX7_undo ∈ zW := List.mem_filter.mpr ⟨List.mem_of_getElem? (i := 436) (by decide +kernel), by decide +kernel⟩
theorem mwX7_undo : zMw yX7_undo cX7_undo 1 (some .int) 0 := ⟨List.mem_filter.mpr ⟨List.mem_of_getElem? (i := 437) (by decide +kernel), by decide +kernel⟩, List.mem_filter.mpr ⟨List.mem_of_getElem? (i := 4) (by decide +kernel), by decide +kernel⟩, by decide +kernel⟩
theorem wmL_100 : Cond.methodLink RL 100 yL_bits ∈ zW := List.mem_filter.mpr ⟨List.mem_of_getElem? (i := 464) (by decide +kernel), by decide +kernel⟩
theorem wtL_bits : Cond.static yL_bits ∈ zW := List.mem_filter.mpr ⟨List.mem_of_getElem? (i := 465) (by decide +kernel), by decide +kernel⟩
theorem mwL_bits : zMw yL_bits cL_bits 3 (some .int) 1 := ⟨List.mem_filter.mpr ⟨List.mem_of_getElem? (i := 466) (by decide +kernel), by decide +kernel⟩, List.mem_filter.mpr ⟨List.mem_of_getElem? (i := 3) (by decide +kernel), by decide +kernel⟩, by decide +kernel⟩
theorem wmL_90 : Cond.methodLink RL 90 yL_areOrders ∈ zW := List.mem_filter.mpr ⟨List.mem_of_getElem? (i := 467) (by decide +kernel), by decide +kernel⟩
theorem wtL_areOrders : Cond.static yL_areOrders ∈ zW := List.mem_filter.mpr ⟨List.mem_of_getElem? (i := 468) (by decide +kernel), by decide +kernel⟩
theorem mwL_areOrders : zMw yL_areOrders cL_areOrders 13 (some .boolean) 1 := ⟨List.mem_filter.mpr ⟨List.mem_of_getElem? (i := 469) (by decide +kernel), by decide +kernel⟩, List.mem_filter.mpr ⟨List.mem_of_getElem? (i := 3) (by decide +kernel), by decide +kernel⟩, by decide +kernel⟩
theorem wmL_94 : Cond.methodLink RL 94 yL_arePeople ∈ zW := List.mem_filter.mpr ⟨List.mem_of_getElem? (i := 486) (by decide +kernel), by decide +kernel⟩
theorem wtL_arePeople : Cond.static yL_arePeople ∈ zW := List.mem_filter.mpr ⟨List.mem_of_getElem? (i := 487) (by decide +kernel), by decide +kernel⟩
theorem mwL_arePeople : zMw yL_arePeople cL_arePeople 12 (some .boolean) 1 := ⟨List.mem_filter.mpr ⟨List.mem_of_getElem? (i := 488) (by decide +kernel), by decide +kernel⟩, List.mem_filter.mpr ⟨List.mem_of_getElem? (i := 3) (by decide +kernel), by decide +kernel⟩, by decide +kernel⟩
theorem wmL_97 : Cond.methodLink RL 97 yX7_save ∈ zW := List.mem_filter.mpr ⟨List.mem_of_getElem? (i := 442) (by decide +kernel), by decide +kernel⟩
theorem wiX7_save : Cond.instanceMethod yX7_save ∈ zW := List.mem_filter.mpr ⟨List.mem_of_getElem? (i := 443) (by decide +kernel), by decide +kernel⟩
theorem wsX7_save : Cond.selects RX7 yX7_save yX7_save ∈ zW := List.mem_filter.mpr ⟨List.mem_of_getElem? (i := 444) (by decide +kernel), by decide +kernel⟩
theorem mwX7_save : zMw yX7_save cX7_save 2 (some .int) 1 := ⟨List.mem_filter.mpr ⟨List.mem_of_getElem? (i := 445) (by decide +kernel), by decide +kernel⟩, List.mem_filter.mpr ⟨List.mem_of_getElem? (i := 4) (by decide +kernel), by decide +kernel⟩, by decide +kernel⟩
theorem wmL_76 : Cond.methodLink RL 76 yX7_restore ∈ zW := List.mem_filter.mpr ⟨List.mem_of_getElem? (i := 451) (by decide +kernel), by decide +kernel⟩
theorem wiX7_restore : Cond.instanceMethod yX7_restore ∈ zW := List.mem_filter.mpr ⟨List.mem_of_getElem? (i := 452) (by decide +kernel), by decide +kernel⟩
theorem wsX7_restore : Cond.selects RX7 yX7_restore yX7_restore ∈ zW := List.mem_filter.mpr ⟨List.mem_of_getElem? (i := 453) (by decide +kernel), by decide +kernel⟩
theorem mwX7_restore : zMw yX7_restore cX7_restore 2 (some .int) 1 := ⟨List.mem_filter.mpr ⟨List.mem_of_getElem? (i := 454) (by decide +kernel), by decide +kernel⟩, List.mem_filter.mpr ⟨List.mem_of_getElem? (i := 4) (by decide +kernel), by decide +kernel⟩, by decide +kernel⟩
theorem wmL_82 : Cond.methodLink RL 82 yL_cell ∈ zW := List.mem_filter.mpr ⟨List.mem_of_getElem? (i := 459) (by decide +kernel), by decide +kernel⟩
theorem wtL_cell : Cond.static yL_cell ∈ zW := List.mem_filter.mpr ⟨List.mem_of_getElem? (i := 460) (by decide +kernel), by decide +kernel⟩
theorem mwL_cell : zMw yL_cell cL_cell 2 (some .int) 2 := ⟨List.mem_filter.mpr ⟨List.mem_of_getElem? (i := 461) (by decide +kernel), by decide +kernel⟩, List.mem_filter.mpr ⟨List.mem_of_getElem? (i := 3) (by decide +kernel), by decide +kernel⟩, by decide +kernel⟩
theorem wmL_86 : Cond.methodLink RL 86 yL_acts ∈ zW := List.mem_filter.mpr ⟨List.mem_of_getElem? (i := 494) (by decide +kernel), by decide +kernel⟩
theorem wtL_acts : Cond.static yL_acts ∈ zW := List.mem_filter.mpr ⟨List.mem_of_getElem? (i := 495) (by decide +kernel), by decide +kernel⟩
theorem zt_acts : Cond.code yL_acts cL_acts 32 (some .boolean) ∈ lw_tbl := by
  unfold lw_tbl tables_1
  exact List.mem_append_right _ (List.mem_append_right _ (List.mem_append_right _ (List.mem_of_getElem? (i := 13) rfl)))
theorem mwL_acts : zMw yL_acts cL_acts 32 (some .boolean) 2 := ⟨List.mem_filter.mpr ⟨zt_acts, by decide +kernel⟩, List.mem_filter.mpr ⟨List.mem_of_getElem? (i := 3) (by decide +kernel), by decide +kernel⟩, by decide +kernel⟩
theorem wmL_79 : Cond.methodLink RL 79 yX7_wasted ∈ zW := List.mem_filter.mpr ⟨List.mem_of_getElem? (i := 422) (by decide +kernel), by decide +kernel⟩
theorem wiX7_wasted : Cond.instanceMethod yX7_wasted ∈ zW := List.mem_filter.mpr ⟨List.mem_of_getElem? (i := 423) (by decide +kernel), by decide +kernel⟩
theorem wsX7_wasted : Cond.selects RX7 yX7_wasted yX7_wasted ∈ zW := List.mem_filter.mpr ⟨List.mem_of_getElem? (i := 424) (by decide +kernel), by decide +kernel⟩
theorem mwX7_wasted : zMw yX7_wasted cX7_wasted 1 (some .int) 0 := ⟨List.mem_filter.mpr ⟨List.mem_of_getElem? (i := 425) (by decide +kernel), by decide +kernel⟩, List.mem_filter.mpr ⟨List.mem_of_getElem? (i := 4) (by decide +kernel), by decide +kernel⟩, by decide +kernel⟩
theorem wkL_7 : Jvm.Cond.constant RL 7 (15485959 : Int32) ∈ zW := List.mem_filter.mpr ⟨List.mem_of_getElem? (i := 462) (by decide +kernel), by decide +kernel⟩
theorem wkL_8 : Jvm.Cond.constant RL 8 (2147483647 : Int32) ∈ zW := List.mem_filter.mpr ⟨List.mem_of_getElem? (i := 463) (by decide +kernel), by decide +kernel⟩
theorem wt_max : Cond.static Lib.Math.max.name ∈ zW := List.mem_filter.mpr ⟨List.mem_of_getElem? (i := 304) (by decide +kernel), by decide +kernel⟩
theorem wk_max : Cond.code Lib.Math.max.name Lib.Math.max.code 2 (some .int) ∈ zW := List.mem_filter.mpr ⟨List.mem_of_getElem? (i := 305) (by decide +kernel), by decide +kernel⟩
theorem wt_min : Cond.static Lib.Math.min.name ∈ zW := List.mem_filter.mpr ⟨List.mem_of_getElem? (i := 248) (by decide +kernel), by decide +kernel⟩
theorem wk_min : Cond.code Lib.Math.min.name Lib.Math.min.code 2 (some .int) ∈ zW := List.mem_filter.mpr ⟨List.mem_of_getElem? (i := 249) (by decide +kernel), by decide +kernel⟩
theorem wc_Math : Cond.initialized "java/lang/Math" ∈ zW := List.mem_filter.mpr ⟨List.mem_of_getElem? (i := 13) (by decide +kernel), by decide +kernel⟩
theorem wc_Sys : Cond.initialized "java/lang/System" ∈ zW := List.mem_filter.mpr ⟨List.mem_of_getElem? (i := 12) (by decide +kernel), by decide +kernel⟩
theorem wc_anat : Cond.native arraycopyName ∈ zW := List.mem_filter.mpr ⟨List.mem_of_getElem? (i := 224) (by decide +kernel), by decide +kernel⟩
theorem wc_asta : Cond.static arraycopyName ∈ zW := List.mem_filter.mpr ⟨List.mem_of_getElem? (i := 223) (by decide +kernel), by decide +kernel⟩
theorem zc0 : zCls 0 RX0 TX0 6 tyX0 := ⟨rfl, fun w hw => List.mem_filter.mpr ((by decide +kernel : ∀ w ∈ u_ws RX0 TX0 6, w ∈ lw_tbl ∧ goodWord w = true) w hw), tyX0_ok, nmX0, rfl, rfl⟩
theorem zc1 : zCls 1 RX1 TX1 6 tyX1 := ⟨rfl, fun w hw => List.mem_filter.mpr ((by decide +kernel : ∀ w ∈ u_ws RX1 TX1 6, w ∈ lw_tbl ∧ goodWord w = true) w hw), tyX1_ok, nmX1, rfl, rfl⟩
theorem zc2 : zCls 2 RX2 TX2 3 tyX2 := ⟨rfl, fun w hw => List.mem_filter.mpr ((by decide +kernel : ∀ w ∈ u_ws RX2 TX2 3, w ∈ lw_tbl ∧ goodWord w = true) w hw), tyX2_ok, nmX2, rfl, rfl⟩
theorem zc3 : zCls 3 RX3 TX3 7 tyX3 := ⟨rfl, fun w hw => List.mem_filter.mpr ((by decide +kernel : ∀ w ∈ u_ws RX3 TX3 7, w ∈ lw_tbl ∧ goodWord w = true) w hw), tyX3_ok, nmX3, rfl, rfl⟩
theorem zc4 : zCls 4 RX4 TX4 2 tyX4 := ⟨rfl, fun w hw => List.mem_filter.mpr ((by decide +kernel : ∀ w ∈ u_ws RX4 TX4 2, w ∈ lw_tbl ∧ goodWord w = true) w hw), tyX4_ok, nmX4, rfl, rfl⟩
theorem zc5 : zCls 5 RX5 TX5 9 tyX5 := ⟨rfl, fun w hw => List.mem_filter.mpr ((by decide +kernel : ∀ w ∈ u_ws RX5 TX5 9, w ∈ lw_tbl ∧ goodWord w = true) w hw), tyX5_ok, nmX5, rfl, rfl⟩
theorem zc6 : zCls 6 RX6 TX6 2 tyX6 := ⟨rfl, fun w hw => List.mem_filter.mpr ((by decide +kernel : ∀ w ∈ u_ws RX6 TX6 2, w ∈ lw_tbl ∧ goodWord w = true) w hw), tyX6_ok, nmX6, rfl, rfl⟩
theorem zc7 : zCls 7 RX7 TX7 5 tyX7 := ⟨rfl, fun w hw => List.mem_filter.mpr ((by decide +kernel : ∀ w ∈ u_ws RX7 TX7 5, w ∈ lw_tbl ∧ goodWord w = true) w hw), tyX7_ok, nmX7, rfl, rfl⟩
