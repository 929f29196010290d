/-! the words that the rows take, by their places in the tables -/
theorem wnX0_56 : Cond.fieldLinkNest RX0 56 "CanteenPlates" "LOWEST_VALUE" "[I" "CanteenPlates" ∈ zNw := List.mem_filter.mpr ⟨List.mem_of_getElem? (i := 290) (by decide +kernel), by decide +kernel⟩
theorem wnX0_59 : Cond.fieldLinkNest RX0 59 "CanteenPlates" "HIGHEST_VALUE" "[I" "CanteenPlates" ∈ zNw := List.mem_filter.mpr ⟨List.mem_of_getElem? (i := 292) (by decide +kernel), by decide +kernel⟩
theorem wfX0_9 : Cond.fieldLink RX0 9 "CanteenPlates$Canteen" "settings" "[I" ∈ zW := List.mem_filter.mpr ⟨List.mem_of_getElem? (i := 143) (by decide +kernel), by decide +kernel⟩
theorem wfX2_22 : Cond.fieldLink RX2 22 "CanteenPlates$History" "next" "I" ∈ zW := List.mem_filter.mpr ⟨List.mem_of_getElem? (i := 173) (by decide +kernel), by decide +kernel⟩
theorem wfX2_18 : Cond.fieldLink RX2 18 "CanteenPlates$History" "kept" "I" ∈ zW := List.mem_filter.mpr ⟨List.mem_of_getElem? (i := 174) (by decide +kernel), by decide +kernel⟩
theorem wmX2_29 : Cond.methodLink RX2 29 Lib.Math.min.name ∈ zW := List.mem_filter.mpr ⟨List.mem_of_getElem? (i := 298) (by decide +kernel), by decide +kernel⟩
theorem wfX1_9 : Cond.fieldLink RX1 9 "CanteenPlates$Dish" "prices" "[I" ∈ zW := List.mem_filter.mpr ⟨List.mem_of_getElem? (i := 118) (by decide +kernel), by decide +kernel⟩
theorem wmX1_15 : Cond.methodLink RX1 15 arraycopyName ∈ zW := List.mem_filter.mpr ⟨List.mem_of_getElem? (i := 280) (by decide +kernel), by decide +kernel⟩
theorem wfX1_21 : Cond.fieldLink RX1 21 "CanteenPlates$Dish" "kept" "I" ∈ zW := List.mem_filter.mpr ⟨List.mem_of_getElem? (i := 120) (by decide +kernel), by decide +kernel⟩
theorem wfX1_25 : Cond.fieldLink RX1 25 "CanteenPlates$Dish" "fresh" "I" ∈ zW := List.mem_filter.mpr ⟨List.mem_of_getElem? (i := 122) (by decide +kernel), by decide +kernel⟩
theorem wfX1_28 : Cond.fieldLink RX1 28 "CanteenPlates$Dish" "cooked" "I" ∈ zW := List.mem_filter.mpr ⟨List.mem_of_getElem? (i := 124) (by decide +kernel), by decide +kernel⟩
theorem wfX1_31 : Cond.fieldLink RX1 31 "CanteenPlates$Dish" "eaten" "I" ∈ zW := List.mem_filter.mpr ⟨List.mem_of_getElem? (i := 126) (by decide +kernel), by decide +kernel⟩
theorem wfX1_34 : Cond.fieldLink RX1 34 "CanteenPlates$Dish" "thrown" "I" ∈ zW := List.mem_filter.mpr ⟨List.mem_of_getElem? (i := 128) (by decide +kernel), by decide +kernel⟩
theorem wfX5_9 : Cond.fieldLink RX5 9 "CanteenPlates$Person" "dishes" "[I" ∈ zW := List.mem_filter.mpr ⟨List.mem_of_getElem? (i := 77) (by decide +kernel), by decide +kernel⟩
theorem wmX5_41 : Cond.methodLink RX5 41 arraycopyName ∈ zW := List.mem_filter.mpr ⟨List.mem_of_getElem? (i := 285) (by decide +kernel), by decide +kernel⟩
theorem wfX5_15 : Cond.fieldLink RX5 15 "CanteenPlates$Person" "paid" "[I" ∈ zW := List.mem_filter.mpr ⟨List.mem_of_getElem? (i := 79) (by decide +kernel), by decide +kernel⟩
theorem wfX5_18 : Cond.fieldLink RX5 18 "CanteenPlates$Person" "vouchers" "I" ∈ zW := List.mem_filter.mpr ⟨List.mem_of_getElem? (i := 81) (by decide +kernel), by decide +kernel⟩
theorem wfX5_22 : Cond.fieldLink RX5 22 "CanteenPlates$Person" "strikes" "I" ∈ zW := List.mem_filter.mpr ⟨List.mem_of_getElem? (i := 83) (by decide +kernel), by decide +kernel⟩
theorem wfX5_25 : Cond.fieldLink RX5 25 "CanteenPlates$Person" "freeFrom" "I" ∈ zW := List.mem_filter.mpr ⟨List.mem_of_getElem? (i := 84) (by decide +kernel), by decide +kernel⟩
theorem wfX5_28 : Cond.fieldLink RX5 28 "CanteenPlates$Person" "timesCome" "I" ∈ zW := List.mem_filter.mpr ⟨List.mem_of_getElem? (i := 86) (by decide +kernel), by decide +kernel⟩
theorem wfX5_31 : Cond.fieldLink RX5 31 "CanteenPlates$Person" "timesAway" "I" ∈ zW := List.mem_filter.mpr ⟨List.mem_of_getElem? (i := 87) (by decide +kernel), by decide +kernel⟩
theorem wfX5_34 : Cond.fieldLink RX5 34 "CanteenPlates$Person" "plates" "I" ∈ zW := List.mem_filter.mpr ⟨List.mem_of_getElem? (i := 89) (by decide +kernel), by decide +kernel⟩
theorem wfX5_37 : Cond.fieldLink RX5 37 "CanteenPlates$Person" "here" "Z" ∈ zW := List.mem_filter.mpr ⟨List.mem_of_getElem? (i := 91) (by decide +kernel), by decide +kernel⟩
theorem wfX0_39 : Cond.fieldLink RX0 39 "CanteenPlates$Canteen" "people" "I" ∈ zW := List.mem_filter.mpr ⟨List.mem_of_getElem? (i := 147) (by decide +kernel), by decide +kernel⟩
theorem wfX0_46 : Cond.fieldLink RX0 46 "CanteenPlates$Canteen" "day" "I" ∈ zW := List.mem_filter.mpr ⟨List.mem_of_getElem? (i := 148) (by decide +kernel), by decide +kernel⟩
theorem wfX0_49 : Cond.fieldLink RX0 49 "CanteenPlates$Canteen" "cooked" "Z" ∈ zW := List.mem_filter.mpr ⟨List.mem_of_getElem? (i := 149) (by decide +kernel), by decide +kernel⟩
theorem wfX0_17 : Cond.fieldLink RX0 17 "CanteenPlates$Canteen" "staff" "[LCanteenPlates$Person;" ∈ zW := List.mem_filter.mpr ⟨List.mem_of_getElem? (i := 144) (by decide +kernel), by decide +kernel⟩
theorem wmX0_43 : Cond.methodLink RX0 43 yX5_become ∈ zW := List.mem_filter.mpr ⟨List.mem_of_getElem? (i := 281) (by decide +kernel), by decide +kernel⟩
theorem wiX5_become : Cond.instanceMethod yX5_become ∈ zW := List.mem_filter.mpr ⟨List.mem_of_getElem? (i := 282) (by decide +kernel), by decide +kernel⟩
theorem wsX5_become : Cond.selects RX5 yX5_become yX5_become ∈ zW := List.mem_filter.mpr ⟨List.mem_of_getElem? (i := 283) (by decide +kernel), by decide +kernel⟩
theorem mwX5_become : zMw yX5_become cX5_become 2 none 1 := ⟨List.mem_filter.mpr ⟨List.mem_of_getElem? (i := 284) (by decide +kernel), by decide +kernel⟩, List.mem_filter.mpr ⟨List.mem_of_getElem? (i := 45) (by decide +kernel), by decide +kernel⟩, by decide +kernel⟩
theorem wfX0_23 : Cond.fieldLink RX0 23 "CanteenPlates$Canteen" "dishes" "[LCanteenPlates$Dish;" ∈ zW := List.mem_filter.mpr ⟨List.mem_of_getElem? (i := 145) (by decide +kernel), by decide +kernel⟩
theorem wmX0_35 : Cond.methodLink RX0 35 yX1_become ∈ zW := List.mem_filter.mpr ⟨List.mem_of_getElem? (i := 276) (by decide +kernel), by decide +kernel⟩
theorem wiX1_become : Cond.instanceMethod yX1_become ∈ zW := List.mem_filter.mpr ⟨List.mem_of_getElem? (i := 277) (by decide +kernel), by decide +kernel⟩
theorem wsX1_become : Cond.selects RX1 yX1_become yX1_become ∈ zW := List.mem_filter.mpr ⟨List.mem_of_getElem? (i := 278) (by decide +kernel), by decide +kernel⟩
theorem mwX1_become : zMw yX1_become cX1_become 2 none 1 := ⟨List.mem_filter.mpr ⟨List.mem_of_getElem? (i := 279) (by decide +kernel), by decide +kernel⟩, List.mem_filter.mpr ⟨List.mem_of_getElem? (i := 46) (by decide +kernel), by decide +kernel⟩, by decide +kernel⟩
theorem wmX0_29 : Cond.methodLink RX0 29 arraycopyName ∈ zW := List.mem_filter.mpr ⟨List.mem_of_getElem? (i := 273) (by decide +kernel), by decide +kernel⟩
theorem wfX2_11 : Cond.fieldLink RX2 11 "CanteenPlates$History" "states" "[LCanteenPlates$Canteen;" ∈ zW := List.mem_filter.mpr ⟨List.mem_of_getElem? (i := 172) (by decide +kernel), by decide +kernel⟩
theorem wmX2_25 : Cond.methodLink RX2 25 yX0_become ∈ zW := List.mem_filter.mpr ⟨List.mem_of_getElem? (i := 269) (by decide +kernel), by decide +kernel⟩
theorem wiX0_become : Cond.instanceMethod yX0_become ∈ zW := List.mem_filter.mpr ⟨List.mem_of_getElem? (i := 270) (by decide +kernel), by decide +kernel⟩
theorem wsX0_become : Cond.selects RX0 yX0_become yX0_become ∈ zW := List.mem_filter.mpr ⟨List.mem_of_getElem? (i := 271) (by decide +kernel), by decide +kernel⟩
theorem mwX0_become : zMw yX0_become cX0_become 3 none 1 := ⟨List.mem_filter.mpr ⟨List.mem_of_getElem? (i := 272) (by decide +kernel), by decide +kernel⟩, List.mem_filter.mpr ⟨List.mem_of_getElem? (i := 44) (by decide +kernel), by decide +kernel⟩, by decide +kernel⟩
theorem wfX7_19 : Cond.fieldLink RX7 19 "CanteenPlates" "history" "LCanteenPlates$History;" ∈ zW := List.mem_filter.mpr ⟨List.mem_of_getElem? (i := 246) (by decide +kernel), by decide +kernel⟩
theorem wfX7_10 : Cond.fieldLink RX7 10 "CanteenPlates" "now" "LCanteenPlates$Canteen;" ∈ zW := List.mem_filter.mpr ⟨List.mem_of_getElem? (i := 245) (by decide +kernel), by decide +kernel⟩
theorem wmX7_46 : Cond.methodLink RX7 46 yX2_note ∈ zW := List.mem_filter.mpr ⟨List.mem_of_getElem? (i := 265) (by decide +kernel), by decide +kernel⟩
theorem wiX2_note : Cond.instanceMethod yX2_note ∈ zW := List.mem_filter.mpr ⟨List.mem_of_getElem? (i := 266) (by decide +kernel), by decide +kernel⟩
theorem wsX2_note : Cond.selects RX2 yX2_note yX2_note ∈ zW := List.mem_filter.mpr ⟨List.mem_of_getElem? (i := 267) (by decide +kernel), by decide +kernel⟩
theorem mwX2_note : zMw yX2_note cX2_note 2 none 1 := ⟨List.mem_filter.mpr ⟨List.mem_of_getElem? (i := 268) (by decide +kernel), by decide +kernel⟩, List.mem_filter.mpr ⟨List.mem_of_getElem? (i := 47) (by decide +kernel), by decide +kernel⟩, by decide +kernel⟩
theorem wmX7_50 : Cond.methodLink RX7 50 yX0_changeSetting ∈ zW := List.mem_filter.mpr ⟨List.mem_of_getElem? (i := 286) (by decide +kernel), by decide +kernel⟩
theorem wiX0_changeSetting : Cond.instanceMethod yX0_changeSetting ∈ zW := List.mem_filter.mpr ⟨List.mem_of_getElem? (i := 287) (by decide +kernel), by decide +kernel⟩
theorem wsX0_changeSetting : Cond.selects RX0 yX0_changeSetting yX0_changeSetting ∈ zW := List.mem_filter.mpr ⟨List.mem_of_getElem? (i := 288) (by decide +kernel), by decide +kernel⟩
theorem mwX0_changeSetting : zMw yX0_changeSetting cX0_changeSetting 4 (some .int) 2 := ⟨List.mem_filter.mpr ⟨List.mem_of_getElem? (i := 289) (by decide +kernel), by decide +kernel⟩, List.mem_filter.mpr ⟨List.mem_of_getElem? (i := 44) (by decide +kernel), by decide +kernel⟩, by decide +kernel⟩
theorem wmX7_54 : Cond.methodLink RX7 54 yX2_keep ∈ zW := List.mem_filter.mpr ⟨List.mem_of_getElem? (i := 294) (by decide +kernel), by decide +kernel⟩
theorem wiX2_keep : Cond.instanceMethod yX2_keep ∈ zW := List.mem_filter.mpr ⟨List.mem_of_getElem? (i := 295) (by decide +kernel), by decide +kernel⟩
theorem wsX2_keep : Cond.selects RX2 yX2_keep yX2_keep ∈ zW := List.mem_filter.mpr ⟨List.mem_of_getElem? (i := 296) (by decide +kernel), by decide +kernel⟩
theorem mwX2_keep : zMw yX2_keep cX2_keep 2 (some .int) 1 := ⟨List.mem_filter.mpr ⟨List.mem_of_getElem? (i := 297) (by decide +kernel), by decide +kernel⟩, List.mem_filter.mpr ⟨List.mem_of_getElem? (i := 47) (by decide +kernel), by decide +kernel⟩, by decide +kernel⟩
theorem wmX0_62 : Cond.methodLink RX0 62 yX0_hasDish ∈ zW := List.mem_filter.mpr ⟨List.mem_of_getElem? (i := 309) (by decide +kernel), by decide +kernel⟩
theorem wiX0_hasDish : Cond.instanceMethod yX0_hasDish ∈ zW := List.mem_filter.mpr ⟨List.mem_of_getElem? (i := 310) (by decide +kernel), by decide +kernel⟩
theorem wsX0_hasDish : Cond.selects RX0 yX0_hasDish yX0_hasDish ∈ zW := List.mem_filter.mpr ⟨List.mem_of_getElem? (i := 311) (by decide +kernel), by decide +kernel⟩
theorem mwX0_hasDish : zMw yX0_hasDish cX0_hasDish 2 (some .boolean) 1 := ⟨List.mem_filter.mpr ⟨List.mem_of_getElem? (i := 312) (by decide +kernel), by decide +kernel⟩, List.mem_filter.mpr ⟨List.mem_of_getElem? (i := 44) (by decide +kernel), by decide +kernel⟩, by decide +kernel⟩
theorem wnX0_53 : Cond.fieldLinkNest RX0 53 "CanteenPlates$Dish" "prices" "[I" "CanteenPlates" ∈ zNw := List.mem_filter.mpr ⟨List.mem_of_getElem? (i := 119) (by decide +kernel), by decide +kernel⟩
theorem wmX7_58 : Cond.methodLink RX7 58 yX0_changePrice ∈ zW := List.mem_filter.mpr ⟨List.mem_of_getElem? (i := 305) (by decide +kernel), by decide +kernel⟩
theorem wiX0_changePrice : Cond.instanceMethod yX0_changePrice ∈ zW := List.mem_filter.mpr ⟨List.mem_of_getElem? (i := 306) (by decide +kernel), by decide +kernel⟩
theorem wsX0_changePrice : Cond.selects RX0 yX0_changePrice yX0_changePrice ∈ zW := List.mem_filter.mpr ⟨List.mem_of_getElem? (i := 307) (by decide +kernel), by decide +kernel⟩
theorem mwX0_changePrice : zMw yX0_changePrice cX0_changePrice 5 (some .int) 3 := ⟨List.mem_filter.mpr ⟨List.mem_of_getElem? (i := 308) (by decide +kernel), by decide +kernel⟩, List.mem_filter.mpr ⟨List.mem_of_getElem? (i := 44) (by decide +kernel), by decide +kernel⟩, by decide +kernel⟩
theorem wmX0_66 : Cond.methodLink RX0 66 yX5_start ∈ zW := List.mem_filter.mpr ⟨List.mem_of_getElem? (i := 321) (by decide +kernel), by decide +kernel⟩
theorem wiX5_start : Cond.instanceMethod yX5_start ∈ zW := List.mem_filter.mpr ⟨List.mem_of_getElem? (i := 322) (by decide +kernel), by decide +kernel⟩
theorem wsX5_start : Cond.selects RX5 yX5_start yX5_start ∈ zW := List.mem_filter.mpr ⟨List.mem_of_getElem? (i := 323) (by decide +kernel), by decide +kernel⟩
theorem mwX5_start : zMw yX5_start cX5_start 2 none 0 := ⟨List.mem_filter.mpr ⟨List.mem_of_getElem? (i := 324) (by decide +kernel), by decide +kernel⟩, List.mem_filter.mpr ⟨List.mem_of_getElem? (i := 45) (by decide +kernel), by decide +kernel⟩, by decide +kernel⟩
theorem wmX7_62 : Cond.methodLink RX7 62 yX0_addPerson ∈ zW := List.mem_filter.mpr ⟨List.mem_of_getElem? (i := 317) (by decide +kernel), by decide +kernel⟩
theorem wiX0_addPerson : Cond.instanceMethod yX0_addPerson ∈ zW := List.mem_filter.mpr ⟨List.mem_of_getElem? (i := 318) (by decide +kernel), by decide +kernel⟩
theorem wsX0_addPerson : Cond.selects RX0 yX0_addPerson yX0_addPerson ∈ zW := List.mem_filter.mpr ⟨List.mem_of_getElem? (i := 319) (by decide +kernel), by decide +kernel⟩
theorem mwX0_addPerson : zMw yX0_addPerson cX0_addPerson 1 (some .int) 0 := ⟨List.mem_filter.mpr ⟨List.mem_of_getElem? (i := 320) (by decide +kernel), by decide +kernel⟩, List.mem_filter.mpr ⟨List.mem_of_getElem? (i := 44) (by decide +kernel), by decide +kernel⟩, by decide +kernel⟩
theorem wmX5_51 : Cond.methodLink RX5 51 Lib.Math.min.name ∈ zW := List.mem_filter.mpr ⟨List.mem_of_getElem? (i := 341) (by decide +kernel), by decide +kernel⟩
theorem wmX0_69 : Cond.methodLink RX0 69 yX0_hasPerson ∈ zW := List.mem_filter.mpr ⟨List.mem_of_getElem? (i := 333) (by decide +kernel), by decide +kernel⟩
theorem wiX0_hasPerson : Cond.instanceMethod yX0_hasPerson ∈ zW := List.mem_filter.mpr ⟨List.mem_of_getElem? (i := 334) (by decide +kernel), by decide +kernel⟩
theorem wsX0_hasPerson : Cond.selects RX0 yX0_hasPerson yX0_hasPerson ∈ zW := List.mem_filter.mpr ⟨List.mem_of_getElem? (i := 335) (by decide +kernel), by decide +kernel⟩
theorem mwX0_hasPerson : zMw yX0_hasPerson cX0_hasPerson 2 (some .boolean) 1 := ⟨List.mem_filter.mpr ⟨List.mem_of_getElem? (i := 336) (by decide +kernel), by decide +kernel⟩, List.mem_filter.mpr ⟨List.mem_of_getElem? (i := 44) (by decide +kernel), by decide +kernel⟩, by decide +kernel⟩
theorem wmX0_72 : Cond.methodLink RX0 72 yX5_receive ∈ zW := List.mem_filter.mpr ⟨List.mem_of_getElem? (i := 337) (by decide +kernel), by decide +kernel⟩
theorem wiX5_receive : Cond.instanceMethod yX5_receive ∈ zW := List.mem_filter.mpr ⟨List.mem_of_getElem? (i := 338) (by decide +kernel), by decide +kernel⟩
theorem wsX5_receive : Cond.selects RX5 yX5_receive yX5_receive ∈ zW := List.mem_filter.mpr ⟨List.mem_of_getElem? (i := 339) (by decide +kernel), by decide +kernel⟩
theorem mwX5_receive : zMw yX5_receive cX5_receive 2 (some .int) 1 := ⟨List.mem_filter.mpr ⟨List.mem_of_getElem? (i := 340) (by decide +kernel), by decide +kernel⟩, List.mem_filter.mpr ⟨List.mem_of_getElem? (i := 45) (by decide +kernel), by decide +kernel⟩, by decide +kernel⟩
theorem wmX7_66 : Cond.methodLink RX7 66 yX0_giveVouchers ∈ zW := List.mem_filter.mpr ⟨List.mem_of_getElem? (i := 329) (by decide +kernel), by decide +kernel⟩
theorem wiX0_giveVouchers : Cond.instanceMethod yX0_giveVouchers ∈ zW := List.mem_filter.mpr ⟨List.mem_of_getElem? (i := 330) (by decide +kernel), by decide +kernel⟩
theorem wsX0_giveVouchers : Cond.selects RX0 yX0_giveVouchers yX0_giveVouchers ∈ zW := List.mem_filter.mpr ⟨List.mem_of_getElem? (i := 331) (by decide +kernel), by decide +kernel⟩
theorem mwX0_giveVouchers : zMw yX0_giveVouchers cX0_giveVouchers 3 (some .int) 2 := ⟨List.mem_filter.mpr ⟨List.mem_of_getElem? (i := 332) (by decide +kernel), by decide +kernel⟩, List.mem_filter.mpr ⟨List.mem_of_getElem? (i := 44) (by decide +kernel), by decide +kernel⟩, by decide +kernel⟩
theorem wnX0_184 : Cond.fieldLinkNest RX0 184 "CanteenPlates$Person" "freeFrom" "I" "CanteenPlates" ∈ zNw := List.mem_filter.mpr ⟨List.mem_of_getElem? (i := 85) (by decide +kernel), by decide +kernel⟩
theorem wmX0_90 : Cond.methodLink RX0 90 yX5_hasOrder ∈ zW := List.mem_filter.mpr ⟨List.mem_of_getElem? (i := 358) (by decide +kernel), by decide +kernel⟩
theorem wiX5_hasOrder : Cond.instanceMethod yX5_hasOrder ∈ zW := List.mem_filter.mpr ⟨List.mem_of_getElem? (i := 359) (by decide +kernel), by decide +kernel⟩
theorem wsX5_hasOrder : Cond.selects RX5 yX5_hasOrder yX5_hasOrder ∈ zW := List.mem_filter.mpr ⟨List.mem_of_getElem? (i := 360) (by decide +kernel), by decide +kernel⟩
theorem mwX5_hasOrder : zMw yX5_hasOrder cX5_hasOrder 2 (some .boolean) 1 := ⟨List.mem_filter.mpr ⟨List.mem_of_getElem? (i := 361) (by decide +kernel), by decide +kernel⟩, List.mem_filter.mpr ⟨List.mem_of_getElem? (i := 45) (by decide +kernel), by decide +kernel⟩, by decide +kernel⟩
theorem wnX0_132 : Cond.fieldLinkNest RX0 132 "CanteenPlates$Person" "vouchers" "I" "CanteenPlates" ∈ zNw := List.mem_filter.mpr ⟨List.mem_of_getElem? (i := 82) (by decide +kernel), by decide +kernel⟩
theorem wmX0_80 : Cond.methodLink RX0 80 yX0_priceOf ∈ zW := List.mem_filter.mpr ⟨List.mem_of_getElem? (i := 362) (by decide +kernel), by decide +kernel⟩
theorem wiX0_priceOf : Cond.instanceMethod yX0_priceOf ∈ zW := List.mem_filter.mpr ⟨List.mem_of_getElem? (i := 363) (by decide +kernel), by decide +kernel⟩
theorem wsX0_priceOf : Cond.selects RX0 yX0_priceOf yX0_priceOf ∈ zW := List.mem_filter.mpr ⟨List.mem_of_getElem? (i := 364) (by decide +kernel), by decide +kernel⟩
theorem mwX0_priceOf : zMw yX0_priceOf cX0_priceOf 3 (some .int) 2 := ⟨List.mem_filter.mpr ⟨List.mem_of_getElem? (i := 365) (by decide +kernel), by decide +kernel⟩, List.mem_filter.mpr ⟨List.mem_of_getElem? (i := 44) (by decide +kernel), by decide +kernel⟩, by decide +kernel⟩
theorem wmX0_87 : Cond.methodLink RX0 87 yX0_isAhead ∈ zW := List.mem_filter.mpr ⟨List.mem_of_getElem? (i := 354) (by decide +kernel), by decide +kernel⟩
theorem wiX0_isAhead : Cond.instanceMethod yX0_isAhead ∈ zW := List.mem_filter.mpr ⟨List.mem_of_getElem? (i := 355) (by decide +kernel), by decide +kernel⟩
theorem wsX0_isAhead : Cond.selects RX0 yX0_isAhead yX0_isAhead ∈ zW := List.mem_filter.mpr ⟨List.mem_of_getElem? (i := 356) (by decide +kernel), by decide +kernel⟩
theorem mwX0_isAhead : zMw yX0_isAhead cX0_isAhead 2 (some .boolean) 1 := ⟨List.mem_filter.mpr ⟨List.mem_of_getElem? (i := 357) (by decide +kernel), by decide +kernel⟩, List.mem_filter.mpr ⟨List.mem_of_getElem? (i := 44) (by decide +kernel), by decide +kernel⟩, by decide +kernel⟩
theorem wmX0_76 : Cond.methodLink RX0 76 yX0_reasonAgainst ∈ zW := List.mem_filter.mpr ⟨List.mem_of_getElem? (i := 350) (by decide +kernel), by decide +kernel⟩
theorem wiX0_reasonAgainst : Cond.instanceMethod yX0_reasonAgainst ∈ zW := List.mem_filter.mpr ⟨List.mem_of_getElem? (i := 351) (by decide +kernel), by decide +kernel⟩
theorem wsX0_reasonAgainst : Cond.selects RX0 yX0_reasonAgainst yX0_reasonAgainst ∈ zW := List.mem_filter.mpr ⟨List.mem_of_getElem? (i := 352) (by decide +kernel), by decide +kernel⟩
theorem mwX0_reasonAgainst : zMw yX0_reasonAgainst cX0_reasonAgainst 4 (some .int) 3 := ⟨List.mem_filter.mpr ⟨List.mem_of_getElem? (i := 353) (by decide +kernel), by decide +kernel⟩, List.mem_filter.mpr ⟨List.mem_of_getElem? (i := 44) (by decide +kernel), by decide +kernel⟩, by decide +kernel⟩
theorem wmX0_84 : Cond.methodLink RX0 84 yX5_pay ∈ zW := List.mem_filter.mpr ⟨List.mem_of_getElem? (i := 366) (by decide +kernel), by decide +kernel⟩
theorem wiX5_pay : Cond.instanceMethod yX5_pay ∈ zW := List.mem_filter.mpr ⟨List.mem_of_getElem? (i := 367) (by decide +kernel), by decide +kernel⟩
theorem wsX5_pay : Cond.selects RX5 yX5_pay yX5_pay ∈ zW := List.mem_filter.mpr ⟨List.mem_of_getElem? (i := 368) (by decide +kernel), by decide +kernel⟩
theorem mwX5_pay : zMw yX5_pay cX5_pay 4 (some .int) 3 := ⟨List.mem_filter.mpr ⟨List.mem_of_getElem? (i := 369) (by decide +kernel), by decide +kernel⟩, List.mem_filter.mpr ⟨List.mem_of_getElem? (i := 45) (by decide +kernel), by decide +kernel⟩, by decide +kernel⟩
theorem wmX7_69 : Cond.methodLink RX7 69 yX0_takeOrder ∈ zW := List.mem_filter.mpr ⟨List.mem_of_getElem? (i := 346) (by decide +kernel), by decide +kernel⟩
theorem wiX0_takeOrder : Cond.instanceMethod yX0_takeOrder ∈ zW := List.mem_filter.mpr ⟨List.mem_of_getElem? (i := 347) (by decide +kernel), by decide +kernel⟩
theorem wsX0_takeOrder : Cond.selects RX0 yX0_takeOrder yX0_takeOrder ∈ zW := List.mem_filter.mpr ⟨List.mem_of_getElem? (i := 348) (by decide +kernel), by decide +kernel⟩
theorem mwX0_takeOrder : zMw yX0_takeOrder cX0_takeOrder 5 (some .int) 3 := ⟨List.mem_filter.mpr ⟨List.mem_of_getElem? (i := 349) (by decide +kernel), by decide +kernel⟩, List.mem_filter.mpr ⟨List.mem_of_getElem? (i := 44) (by decide +kernel), by decide +kernel⟩, by decide +kernel⟩
theorem wnX0_93 : Cond.fieldLinkNest RX0 93 "CanteenPlates$Person" "dishes" "[I" "CanteenPlates" ∈ zNw := List.mem_filter.mpr ⟨List.mem_of_getElem? (i := 78) (by decide +kernel), by decide +kernel⟩
theorem wnX0_95 : Cond.fieldLinkNest RX0 95 "CanteenPlates$Person" "paid" "[I" "CanteenPlates" ∈ zNw := List.mem_filter.mpr ⟨List.mem_of_getElem? (i := 80) (by decide +kernel), by decide +kernel⟩
theorem wmX7_72 : Cond.methodLink RX7 72 yX0_cancelOrder ∈ zW := List.mem_filter.mpr ⟨List.mem_of_getElem? (i := 374) (by decide +kernel), by decide +kernel⟩
theorem wiX0_cancelOrder : Cond.instanceMethod yX0_cancelOrder ∈ zW := List.mem_filter.mpr ⟨List.mem_of_getElem? (i := 375) (by decide +kernel), by decide +kernel⟩
theorem wsX0_cancelOrder : Cond.selects RX0 yX0_cancelOrder yX0_cancelOrder ∈ zW := List.mem_filter.mpr ⟨List.mem_of_getElem? (i := 376) (by decide +kernel), by decide +kernel⟩
theorem mwX0_cancelOrder : zMw yX0_cancelOrder cX0_cancelOrder 3 (some .int) 2 := ⟨List.mem_filter.mpr ⟨List.mem_of_getElem? (i := 377) (by decide +kernel), by decide +kernel⟩, List.mem_filter.mpr ⟨List.mem_of_getElem? (i := 44) (by decide +kernel), by decide +kernel⟩, by decide +kernel⟩
theorem wmX5_60 : Cond.methodLink RX5 60 yX5_timesOrdered ∈ zW := List.mem_filter.mpr ⟨List.mem_of_getElem? (i := 394) (by decide +kernel), by decide +kernel⟩
theorem wiX5_timesOrdered : Cond.instanceMethod yX5_timesOrdered ∈ zW := List.mem_filter.mpr ⟨List.mem_of_getElem? (i := 395) (by decide +kernel), by decide +kernel⟩
theorem wsX5_timesOrdered : Cond.selects RX5 yX5_timesOrdered yX5_timesOrdered ∈ zW := List.mem_filter.mpr ⟨List.mem_of_getElem? (i := 396) (by decide +kernel), by decide +kernel⟩
theorem mwX5_timesOrdered : zMw yX5_timesOrdered cX5_timesOrdered 1 (some .int) 0 := ⟨List.mem_filter.mpr ⟨List.mem_of_getElem? (i := 397) (by decide +kernel), by decide +kernel⟩, List.mem_filter.mpr ⟨List.mem_of_getElem? (i := 45) (by decide +kernel), by decide +kernel⟩, by decide +kernel⟩
theorem wnX0_109 : Cond.fieldLinkNest RX0 109 "CanteenPlates$Dish" "kept" "I" "CanteenPlates" ∈ zNw := List.mem_filter.mpr ⟨List.mem_of_getElem? (i := 121) (by decide +kernel), by decide +kernel⟩
theorem wmX0_112 : Cond.methodLink RX0 112 Lib.Math.max.name ∈ zW := List.mem_filter.mpr ⟨List.mem_of_getElem? (i := 398) (by decide +kernel), by decide +kernel⟩
theorem wmX0_105 : Cond.methodLink RX0 105 yX5_doubt ∈ zW := List.mem_filter.mpr ⟨List.mem_of_getElem? (i := 390) (by decide +kernel), by decide +kernel⟩
theorem wiX5_doubt : Cond.instanceMethod yX5_doubt ∈ zW := List.mem_filter.mpr ⟨List.mem_of_getElem? (i := 391) (by decide +kernel), by decide +kernel⟩
theorem wsX5_doubt : Cond.selects RX5 yX5_doubt yX5_doubt ∈ zW := List.mem_filter.mpr ⟨List.mem_of_getElem? (i := 392) (by decide +kernel), by decide +kernel⟩
theorem mwX5_doubt : zMw yX5_doubt cX5_doubt 2 (some .int) 0 := ⟨List.mem_filter.mpr ⟨List.mem_of_getElem? (i := 393) (by decide +kernel), by decide +kernel⟩, List.mem_filter.mpr ⟨List.mem_of_getElem? (i := 45) (by decide +kernel), by decide +kernel⟩, by decide +kernel⟩
theorem wmX0_98 : Cond.methodLink RX0 98 yX0_platesToCook ∈ zW := List.mem_filter.mpr ⟨List.mem_of_getElem? (i := 386) (by decide +kernel), by decide +kernel⟩
theorem wiX0_platesToCook : Cond.instanceMethod yX0_platesToCook ∈ zW := List.mem_filter.mpr ⟨List.mem_of_getElem? (i := 387) (by decide +kernel), by decide +kernel⟩
theorem wsX0_platesToCook : Cond.selects RX0 yX0_platesToCook yX0_platesToCook ∈ zW := List.mem_filter.mpr ⟨List.mem_of_getElem? (i := 388) (by decide +kernel), by decide +kernel⟩
theorem mwX0_platesToCook : zMw yX0_platesToCook cX0_platesToCook 4 (some .int) 1 := ⟨List.mem_filter.mpr ⟨List.mem_of_getElem? (i := 389) (by decide +kernel), by decide +kernel⟩, List.mem_filter.mpr ⟨List.mem_of_getElem? (i := 44) (by decide +kernel), by decide +kernel⟩, by decide +kernel⟩
theorem wmX0_101 : Cond.methodLink RX0 101 yX1_fill ∈ zW := List.mem_filter.mpr ⟨List.mem_of_getElem? (i := 401) (by decide +kernel), by decide +kernel⟩
theorem wiX1_fill : Cond.instanceMethod yX1_fill ∈ zW := List.mem_filter.mpr ⟨List.mem_of_getElem? (i := 402) (by decide +kernel), by decide +kernel⟩
theorem wsX1_fill : Cond.selects RX1 yX1_fill yX1_fill ∈ zW := List.mem_filter.mpr ⟨List.mem_of_getElem? (i := 403) (by decide +kernel), by decide +kernel⟩
theorem mwX1_fill : zMw yX1_fill cX1_fill 2 none 1 := ⟨List.mem_filter.mpr ⟨List.mem_of_getElem? (i := 404) (by decide +kernel), by decide +kernel⟩, List.mem_filter.mpr ⟨List.mem_of_getElem? (i := 46) (by decide +kernel), by decide +kernel⟩, by decide +kernel⟩
theorem wmX7_75 : Cond.methodLink RX7 75 yX0_cookToday ∈ zW := List.mem_filter.mpr ⟨List.mem_of_getElem? (i := 382) (by decide +kernel), by decide +kernel⟩
theorem wiX0_cookToday : Cond.instanceMethod yX0_cookToday ∈ zW := List.mem_filter.mpr ⟨List.mem_of_getElem? (i := 383) (by decide +kernel), by decide +kernel⟩
theorem wsX0_cookToday : Cond.selects RX0 yX0_cookToday yX0_cookToday ∈ zW := List.mem_filter.mpr ⟨List.mem_of_getElem? (i := 384) (by decide +kernel), by decide +kernel⟩
theorem mwX0_cookToday : zMw yX0_cookToday cX0_cookToday 4 (some .int) 0 := ⟨List.mem_filter.mpr ⟨List.mem_of_getElem? (i := 385) (by decide +kernel), by decide +kernel⟩, List.mem_filter.mpr ⟨List.mem_of_getElem? (i := 44) (by decide +kernel), by decide +kernel⟩, by decide +kernel⟩
theorem wnX0_117 : Cond.fieldLinkNest RX0 117 "CanteenPlates$Person" "here" "Z" "CanteenPlates" ∈ zNw := List.mem_filter.mpr ⟨List.mem_of_getElem? (i := 92) (by decide +kernel), by decide +kernel⟩
theorem wmX0_120 : Cond.methodLink RX0 120 yX5_comeWithOrder ∈ zW := List.mem_filter.mpr ⟨List.mem_of_getElem? (i := 413) (by decide +kernel), by decide +kernel⟩
theorem wiX5_comeWithOrder : Cond.instanceMethod yX5_comeWithOrder ∈ zW := List.mem_filter.mpr ⟨List.mem_of_getElem? (i := 414) (by decide +kernel), by decide +kernel⟩
theorem wsX5_comeWithOrder : Cond.selects RX5 yX5_comeWithOrder yX5_comeWithOrder ∈ zW := List.mem_filter.mpr ⟨List.mem_of_getElem? (i := 415) (by decide +kernel), by decide +kernel⟩
theorem mwX5_comeWithOrder : zMw yX5_comeWithOrder cX5_comeWithOrder 1 none 0 := ⟨List.mem_filter.mpr ⟨List.mem_of_getElem? (i := 416) (by decide +kernel), by decide +kernel⟩, List.mem_filter.mpr ⟨List.mem_of_getElem? (i := 45) (by decide +kernel), by decide +kernel⟩, by decide +kernel⟩
theorem wmX0_123 : Cond.methodLink RX0 123 yX1_left ∈ zW := List.mem_filter.mpr ⟨List.mem_of_getElem? (i := 417) (by decide +kernel), by decide +kernel⟩
theorem wiX1_left : Cond.instanceMethod yX1_left ∈ zW := List.mem_filter.mpr ⟨List.mem_of_getElem? (i := 418) (by decide +kernel), by decide +kernel⟩
theorem wsX1_left : Cond.selects RX1 yX1_left yX1_left ∈ zW := List.mem_filter.mpr ⟨List.mem_of_getElem? (i := 419) (by decide +kernel), by decide +kernel⟩
theorem mwX1_left : zMw yX1_left cX1_left 1 (some .int) 0 := ⟨List.mem_filter.mpr ⟨List.mem_of_getElem? (i := 420) (by decide +kernel), by decide +kernel⟩, List.mem_filter.mpr ⟨List.mem_of_getElem? (i := 46) (by decide +kernel), by decide +kernel⟩, by decide +kernel⟩
theorem wmX0_126 : Cond.methodLink RX0 126 yX1_give ∈ zW := List.mem_filter.mpr ⟨List.mem_of_getElem? (i := 421) (by decide +kernel), by decide +kernel⟩
theorem wiX1_give : Cond.instanceMethod yX1_give ∈ zW := List.mem_filter.mpr ⟨List.mem_of_getElem? (i := 422) (by decide +kernel), by decide +kernel⟩
theorem wsX1_give : Cond.selects RX1 yX1_give yX1_give ∈ zW := List.mem_filter.mpr ⟨List.mem_of_getElem? (i := 423) (by decide +kernel), by decide +kernel⟩
theorem mwX1_give : zMw yX1_give cX1_give 1 none 0 := ⟨List.mem_filter.mpr ⟨List.mem_of_getElem? (i := 424) (by decide +kernel), by decide +kernel⟩, List.mem_filter.mpr ⟨List.mem_of_getElem? (i := 46) (by decide +kernel), by decide +kernel⟩, by decide +kernel⟩
theorem wnX0_129 : Cond.fieldLinkNest RX0 129 "CanteenPlates$Person" "plates" "I" "CanteenPlates" ∈ zNw := List.mem_filter.mpr ⟨List.mem_of_getElem? (i := 90) (by decide +kernel), by decide +kernel⟩
theorem wmX7_78 : Cond.methodLink RX7 78 yX0_serve ∈ zW := List.mem_filter.mpr ⟨List.mem_of_getElem? (i := 409) (by decide +kernel), by decide +kernel⟩
theorem wiX0_serve : Cond.instanceMethod yX0_serve ∈ zW := List.mem_filter.mpr ⟨List.mem_of_getElem? (i := 410) (by decide +kernel), by decide +kernel⟩
theorem wsX0_serve : Cond.selects RX0 yX0_serve yX0_serve ∈ zW := List.mem_filter.mpr ⟨List.mem_of_getElem? (i := 411) (by decide +kernel), by decide +kernel⟩
theorem mwX0_serve : zMw yX0_serve cX0_serve 4 (some .int) 1 := ⟨List.mem_filter.mpr ⟨List.mem_of_getElem? (i := 412) (by decide +kernel), by decide +kernel⟩, List.mem_filter.mpr ⟨List.mem_of_getElem? (i := 44) (by decide +kernel), by decide +kernel⟩, by decide +kernel⟩
theorem wmX0_135 : Cond.methodLink RX0 135 yX0_awaited ∈ zW := List.mem_filter.mpr ⟨List.mem_of_getElem? (i := 433) (by decide +kernel), by decide +kernel⟩
theorem wiX0_awaited : Cond.instanceMethod yX0_awaited ∈ zW := List.mem_filter.mpr ⟨List.mem_of_getElem? (i := 434) (by decide +kernel), by decide +kernel⟩
theorem wsX0_awaited : Cond.selects RX0 yX0_awaited yX0_awaited ∈ zW := List.mem_filter.mpr ⟨List.mem_of_getElem? (i := 435) (by decide +kernel), by decide +kernel⟩
theorem mwX0_awaited : zMw yX0_awaited cX0_awaited 4 (some .int) 1 := ⟨List.mem_filter.mpr ⟨List.mem_of_getElem? (i := 436) (by decide +kernel), by decide +kernel⟩, List.mem_filter.mpr ⟨List.mem_of_getElem? (i := 44) (by decide +kernel), by decide +kernel⟩, by decide +kernel⟩
theorem wmX7_81 : Cond.methodLink RX7 81 yX0_sell ∈ zW := List.mem_filter.mpr ⟨List.mem_of_getElem? (i := 429) (by decide +kernel), by decide +kernel⟩
theorem wiX0_sell : Cond.instanceMethod yX0_sell ∈ zW := List.mem_filter.mpr ⟨List.mem_of_getElem? (i := 430) (by decide +kernel), by decide +kernel⟩
theorem wsX0_sell : Cond.selects RX0 yX0_sell yX0_sell ∈ zW := List.mem_filter.mpr ⟨List.mem_of_getElem? (i := 431) (by decide +kernel), by decide +kernel⟩
theorem mwX0_sell : zMw yX0_sell cX0_sell 5 (some .int) 2 := ⟨List.mem_filter.mpr ⟨List.mem_of_getElem? (i := 432) (by decide +kernel), by decide +kernel⟩, List.mem_filter.mpr ⟨List.mem_of_getElem? (i := 44) (by decide +kernel), by decide +kernel⟩, by decide +kernel⟩
theorem wmX1_37 : Cond.methodLink RX1 37 Lib.Math.min.name ∈ zW := List.mem_filter.mpr ⟨List.mem_of_getElem? (i := 467) (by decide +kernel), by decide +kernel⟩
theorem wmX5_47 : Cond.methodLink RX5 47 yX5_hasOrder ∈ zW := List.mem_filter.mpr ⟨List.mem_of_getElem? (i := 449) (by decide +kernel), by decide +kernel⟩
theorem wmX5_57 : Cond.methodLink RX5 57 Lib.Math.max.name ∈ zW := List.mem_filter.mpr ⟨List.mem_of_getElem? (i := 458) (by decide +kernel), by decide +kernel⟩
theorem wmX0_145 : Cond.methodLink RX0 145 yX5_judge ∈ zW := List.mem_filter.mpr ⟨List.mem_of_getElem? (i := 454) (by decide +kernel), by decide +kernel⟩
theorem wiX5_judge : Cond.instanceMethod yX5_judge ∈ zW := List.mem_filter.mpr ⟨List.mem_of_getElem? (i := 455) (by decide +kernel), by decide +kernel⟩
theorem wsX5_judge : Cond.selects RX5 yX5_judge yX5_judge ∈ zW := List.mem_filter.mpr ⟨List.mem_of_getElem? (i := 456) (by decide +kernel), by decide +kernel⟩
theorem mwX5_judge : zMw yX5_judge cX5_judge 3 none 2 := ⟨List.mem_filter.mpr ⟨List.mem_of_getElem? (i := 457) (by decide +kernel), by decide +kernel⟩, List.mem_filter.mpr ⟨List.mem_of_getElem? (i := 45) (by decide +kernel), by decide +kernel⟩, by decide +kernel⟩
theorem wmX0_149 : Cond.methodLink RX0 149 yX5_startDay ∈ zW := List.mem_filter.mpr ⟨List.mem_of_getElem? (i := 459) (by decide +kernel), by decide +kernel⟩
theorem wiX5_startDay : Cond.instanceMethod yX5_startDay ∈ zW := List.mem_filter.mpr ⟨List.mem_of_getElem? (i := 460) (by decide +kernel), by decide +kernel⟩
theorem wsX5_startDay : Cond.selects RX5 yX5_startDay yX5_startDay ∈ zW := List.mem_filter.mpr ⟨List.mem_of_getElem? (i := 461) (by decide +kernel), by decide +kernel⟩
theorem mwX5_startDay : zMw yX5_startDay cX5_startDay 2 none 0 := ⟨List.mem_filter.mpr ⟨List.mem_of_getElem? (i := 462) (by decide +kernel), by decide +kernel⟩, List.mem_filter.mpr ⟨List.mem_of_getElem? (i := 45) (by decide +kernel), by decide +kernel⟩, by decide +kernel⟩
theorem wmX0_152 : Cond.methodLink RX0 152 yX1_clearUp ∈ zW := List.mem_filter.mpr ⟨List.mem_of_getElem? (i := 463) (by decide +kernel), by decide +kernel⟩
theorem wiX1_clearUp : Cond.instanceMethod yX1_clearUp ∈ zW := List.mem_filter.mpr ⟨List.mem_of_getElem? (i := 464) (by decide +kernel), by decide +kernel⟩
theorem wsX1_clearUp : Cond.selects RX1 yX1_clearUp yX1_clearUp ∈ zW := List.mem_filter.mpr ⟨List.mem_of_getElem? (i := 465) (by decide +kernel), by decide +kernel⟩
theorem mwX1_clearUp : zMw yX1_clearUp cX1_clearUp 3 none 1 := ⟨List.mem_filter.mpr ⟨List.mem_of_getElem? (i := 466) (by decide +kernel), by decide +kernel⟩, List.mem_filter.mpr ⟨List.mem_of_getElem? (i := 46) (by decide +kernel), by decide +kernel⟩, by decide +kernel⟩
theorem wmX0_138 : Cond.methodLink RX0 138 yX5_isMissing ∈ zW := List.mem_filter.mpr ⟨List.mem_of_getElem? (i := 445) (by decide +kernel), by decide +kernel⟩
theorem wiX5_isMissing : Cond.instanceMethod yX5_isMissing ∈ zW := List.mem_filter.mpr ⟨List.mem_of_getElem? (i := 446) (by decide +kernel), by decide +kernel⟩
theorem wsX5_isMissing : Cond.selects RX5 yX5_isMissing yX5_isMissing ∈ zW := List.mem_filter.mpr ⟨List.mem_of_getElem? (i := 447) (by decide +kernel), by decide +kernel⟩
theorem mwX5_isMissing : zMw yX5_isMissing cX5_isMissing 1 (some .boolean) 0 := ⟨List.mem_filter.mpr ⟨List.mem_of_getElem? (i := 448) (by decide +kernel), by decide +kernel⟩, List.mem_filter.mpr ⟨List.mem_of_getElem? (i := 45) (by decide +kernel), by decide +kernel⟩, by decide +kernel⟩
theorem wmX0_142 : Cond.methodLink RX0 142 yX5_stayAway ∈ zW := List.mem_filter.mpr ⟨List.mem_of_getElem? (i := 450) (by decide +kernel), by decide +kernel⟩
theorem wiX5_stayAway : Cond.instanceMethod yX5_stayAway ∈ zW := List.mem_filter.mpr ⟨List.mem_of_getElem? (i := 451) (by decide +kernel), by decide +kernel⟩
theorem wsX5_stayAway : Cond.selects RX5 yX5_stayAway yX5_stayAway ∈ zW := List.mem_filter.mpr ⟨List.mem_of_getElem? (i := 452) (by decide +kernel), by decide +kernel⟩
theorem mwX5_stayAway : zMw yX5_stayAway cX5_stayAway 1 none 0 := ⟨List.mem_filter.mpr ⟨List.mem_of_getElem? (i := 453) (by decide +kernel), by decide +kernel⟩, List.mem_filter.mpr ⟨List.mem_of_getElem? (i := 45) (by decide +kernel), by decide +kernel⟩, by decide +kernel⟩
theorem wmX7_84 : Cond.methodLink RX7 84 yX0_endDay ∈ zW := List.mem_filter.mpr ⟨List.mem_of_getElem? (i := 441) (by decide +kernel), by decide +kernel⟩
theorem wiX0_endDay : Cond.instanceMethod yX0_endDay ∈ zW := List.mem_filter.mpr ⟨List.mem_of_getElem? (i := 442) (by decide +kernel), by decide +kernel⟩
theorem wsX0_endDay : Cond.selects RX0 yX0_endDay yX0_endDay ∈ zW := List.mem_filter.mpr ⟨List.mem_of_getElem? (i := 443) (by decide +kernel), by decide +kernel⟩
theorem mwX0_endDay : zMw yX0_endDay cX0_endDay 3 (some .int) 0 := ⟨List.mem_filter.mpr ⟨List.mem_of_getElem? (i := 444) (by decide +kernel), by decide +kernel⟩, List.mem_filter.mpr ⟨List.mem_of_getElem? (i := 44) (by decide +kernel), by decide +kernel⟩, by decide +kernel⟩
theorem wmX5_67 : Cond.methodLink RX5 67 yX5_daysWithOrder ∈ zW := List.mem_filter.mpr ⟨List.mem_of_getElem? (i := 480) (by decide +kernel), by decide +kernel⟩
theorem wiX5_daysWithOrder : Cond.instanceMethod yX5_daysWithOrder ∈ zW := List.mem_filter.mpr ⟨List.mem_of_getElem? (i := 481) (by decide +kernel), by decide +kernel⟩
theorem wsX5_daysWithOrder : Cond.selects RX5 yX5_daysWithOrder yX5_daysWithOrder ∈ zW := List.mem_filter.mpr ⟨List.mem_of_getElem? (i := 482) (by decide +kernel), by decide +kernel⟩
theorem mwX5_daysWithOrder : zMw yX5_daysWithOrder cX5_daysWithOrder 3 (some .int) 0 := ⟨List.mem_filter.mpr ⟨List.mem_of_getElem? (i := 483) (by decide +kernel), by decide +kernel⟩, List.mem_filter.mpr ⟨List.mem_of_getElem? (i := 45) (by decide +kernel), by decide +kernel⟩, by decide +kernel⟩
theorem wmX0_155 : Cond.methodLink RX0 155 yX5_number ∈ zW := List.mem_filter.mpr ⟨List.mem_of_getElem? (i := 476) (by decide +kernel), by decide +kernel⟩
theorem wiX5_number : Cond.instanceMethod yX5_number ∈ zW := List.mem_filter.mpr ⟨List.mem_of_getElem? (i := 477) (by decide +kernel), by decide +kernel⟩
theorem wsX5_number : Cond.selects RX5 yX5_number yX5_number ∈ zW := List.mem_filter.mpr ⟨List.mem_of_getElem? (i := 478) (by decide +kernel), by decide +kernel⟩
theorem mwX5_number : zMw yX5_number cX5_number 2 (some .int) 1 := ⟨List.mem_filter.mpr ⟨List.mem_of_getElem? (i := 479) (by decide +kernel), by decide +kernel⟩, List.mem_filter.mpr ⟨List.mem_of_getElem? (i := 45) (by decide +kernel), by decide +kernel⟩, by decide +kernel⟩
theorem wmX7_87 : Cond.methodLink RX7 87 yX0_aboutPerson ∈ zW := List.mem_filter.mpr ⟨List.mem_of_getElem? (i := 472) (by decide +kernel), by decide +kernel⟩
theorem wiX0_aboutPerson : Cond.instanceMethod yX0_aboutPerson ∈ zW := List.mem_filter.mpr ⟨List.mem_of_getElem? (i := 473) (by decide +kernel), by decide +kernel⟩
theorem wsX0_aboutPerson : Cond.selects RX0 yX0_aboutPerson yX0_aboutPerson ∈ zW := List.mem_filter.mpr ⟨List.mem_of_getElem? (i := 474) (by decide +kernel), by decide +kernel⟩
theorem mwX0_aboutPerson : zMw yX0_aboutPerson cX0_aboutPerson 3 (some .int) 2 := ⟨List.mem_filter.mpr ⟨List.mem_of_getElem? (i := 475) (by decide +kernel), by decide +kernel⟩, List.mem_filter.mpr ⟨List.mem_of_getElem? (i := 44) (by decide +kernel), by decide +kernel⟩, by decide +kernel⟩
theorem wnX0_158 : Cond.fieldLinkNest RX0 158 "CanteenPlates$Dish" "fresh" "I" "CanteenPlates" ∈ zNw := List.mem_filter.mpr ⟨List.mem_of_getElem? (i := 123) (by decide +kernel), by decide +kernel⟩
theorem wnX0_161 : Cond.fieldLinkNest RX0 161 "CanteenPlates$Dish" "cooked" "I" "CanteenPlates" ∈ zNw := List.mem_filter.mpr ⟨List.mem_of_getElem? (i := 125) (by decide +kernel), by decide +kernel⟩
theorem wnX0_163 : Cond.fieldLinkNest RX0 163 "CanteenPlates$Dish" "eaten" "I" "CanteenPlates" ∈ zNw := List.mem_filter.mpr ⟨List.mem_of_getElem? (i := 127) (by decide +kernel), by decide +kernel⟩
theorem wnX0_166 : Cond.fieldLinkNest RX0 166 "CanteenPlates$Dish" "thrown" "I" "CanteenPlates" ∈ zNw := List.mem_filter.mpr ⟨List.mem_of_getElem? (i := 129) (by decide +kernel), by decide +kernel⟩
theorem wmX7_90 : Cond.methodLink RX7 90 yX0_aboutDish ∈ zW := List.mem_filter.mpr ⟨List.mem_of_getElem? (i := 488) (by decide +kernel), by decide +kernel⟩
theorem wiX0_aboutDish : Cond.instanceMethod yX0_aboutDish ∈ zW := List.mem_filter.mpr ⟨List.mem_of_getElem? (i := 489) (by decide +kernel), by decide +kernel⟩
theorem wsX0_aboutDish : Cond.selects RX0 yX0_aboutDish yX0_aboutDish ∈ zW := List.mem_filter.mpr ⟨List.mem_of_getElem? (i := 490) (by decide +kernel), by decide +kernel⟩
theorem mwX0_aboutDish : zMw yX0_aboutDish cX0_aboutDish 3 (some .int) 2 := ⟨List.mem_filter.mpr ⟨List.mem_of_getElem? (i := 491) (by decide +kernel), by decide +kernel⟩, List.mem_filter.mpr ⟨List.mem_of_getElem? (i := 44) (by decide +kernel), by decide +kernel⟩, by decide +kernel⟩
theorem wmX7_93 : Cond.methodLink RX7 93 yX0_peopleWithOrder ∈ zW := List.mem_filter.mpr ⟨List.mem_of_getElem? (i := 496) (by decide +kernel), by decide +kernel⟩
theorem wiX0_peopleWithOrder : Cond.instanceMethod yX0_peopleWithOrder ∈ zW := List.mem_filter.mpr ⟨List.mem_of_getElem? (i := 497) (by decide +kernel), by decide +kernel⟩
theorem wsX0_peopleWithOrder : Cond.selects RX0 yX0_peopleWithOrder yX0_peopleWithOrder ∈ zW := List.mem_filter.mpr ⟨List.mem_of_getElem? (i := 498) (by decide +kernel), by decide +kernel⟩
theorem mwX0_peopleWithOrder : zMw yX0_peopleWithOrder cX0_peopleWithOrder 5 (some .int) 2 := ⟨List.mem_filter.mpr ⟨List.mem_of_getElem? (i := 499) (by decide +kernel), by decide +kernel⟩, List.mem_filter.mpr ⟨List.mem_of_getElem? (i := 44) (by decide +kernel), by decide +kernel⟩, by decide +kernel⟩
theorem wmX0_178 : Cond.methodLink RX0 178 yX0_aboutDish ∈ zW := List.mem_filter.mpr ⟨List.mem_of_getElem? (i := 520) (by decide +kernel), by decide +kernel⟩
theorem wnX0_181 : Cond.fieldLinkNest RX0 181 "CanteenPlates$Person" "timesAway" "I" "CanteenPlates" ∈ zNw := List.mem_filter.mpr ⟨List.mem_of_getElem? (i := 88) (by decide +kernel), by decide +kernel⟩
theorem wmX0_169 : Cond.methodLink RX0 169 yX0_sumOfDishes ∈ zW := List.mem_filter.mpr ⟨List.mem_of_getElem? (i := 516) (by decide +kernel), by decide +kernel⟩
theorem wiX0_sumOfDishes : Cond.instanceMethod yX0_sumOfDishes ∈ zW := List.mem_filter.mpr ⟨List.mem_of_getElem? (i := 518) (by decide +kernel), by decide +kernel⟩
theorem wsX0_sumOfDishes : Cond.selects RX0 yX0_sumOfDishes yX0_sumOfDishes ∈ zW := List.mem_filter.mpr ⟨List.mem_of_getElem? (i := 0) (by decide +kernel), by decide +kernel⟩
theorem mwX0_sumOfDishes : zMw yX0_sumOfDishes cX0_sumOfDishes 4 (some .int) 1 := ⟨List.mem_filter.mpr ⟨List.mem_of_getElem? (i := 519) (by decide +kernel), by decide +kernel⟩, List.mem_filter.mpr ⟨List.mem_of_getElem? (i := 44) (by decide +kernel), by decide +kernel⟩, by decide +kernel⟩
theorem wmX0_172 : Cond.methodLink RX0 172 yX0_sumOfPeople ∈ zW := List.mem_filter.mpr ⟨List.mem_of_getElem? (i := 521) (by decide +kernel), by decide +kernel⟩
theorem wiX0_sumOfPeople : Cond.instanceMethod yX0_sumOfPeople ∈ zW := List.mem_filter.mpr ⟨List.mem_of_getElem? (i := 523) (by decide +kernel), by decide +kernel⟩
theorem wsX0_sumOfPeople : Cond.selects RX0 yX0_sumOfPeople yX0_sumOfPeople ∈ zW := List.mem_filter.mpr ⟨List.mem_of_getElem? (i := 1) (by decide +kernel), by decide +kernel⟩
theorem mwX0_sumOfPeople : zMw yX0_sumOfPeople cX0_sumOfPeople 4 (some .int) 1 := ⟨List.mem_filter.mpr ⟨List.mem_of_getElem? (i := 524) (by decide +kernel), by decide +kernel⟩, List.mem_filter.mpr ⟨List.mem_of_getElem? (i := 44) (by decide +kernel), by decide +kernel⟩, by decide +kernel⟩
theorem wmX0_175 : Cond.methodLink RX0 175 yX0_bannedToday ∈ zW := List.mem_filter.mpr ⟨List.mem_of_getElem? (i := 525) (by decide +kernel), by decide +kernel⟩
theorem wiX0_bannedToday : Cond.instanceMethod yX0_bannedToday ∈ zW := List.mem_filter.mpr ⟨List.mem_of_getElem? (i := 527) (by decide +kernel), by decide +kernel⟩
theorem wsX0_bannedToday : Cond.selects RX0 yX0_bannedToday yX0_bannedToday ∈ zW := List.mem_filter.mpr ⟨List.mem_of_getElem? (i := 2) (by decide +kernel), by decide +kernel⟩
theorem mwX0_bannedToday : zMw yX0_bannedToday cX0_bannedToday 3 (some .int) 0 := ⟨List.mem_filter.mpr ⟨List.mem_of_getElem? (i := 528) (by decide +kernel), by decide +kernel⟩, List.mem_filter.mpr ⟨List.mem_of_getElem? (i := 44) (by decide +kernel), by decide +kernel⟩, by decide +kernel⟩
theorem wfX4_15 : Cond.fieldLink RX4 15 "CanteenPlates$Pad" "length" "I" ∈ zW := List.mem_filter.mpr ⟨List.mem_of_getElem? (i := 205) (by decide +kernel), by decide +kernel⟩
theorem wmX7_100 : Cond.methodLink RX7 100 yX0_number ∈ zW := List.mem_filter.mpr ⟨List.mem_of_getElem? (i := 512) (by decide +kernel), by decide +kernel⟩
theorem wiX0_number : Cond.instanceMethod yX0_number ∈ zW := List.mem_filter.mpr ⟨List.mem_of_getElem? (i := 513) (by decide +kernel), by decide +kernel⟩
theorem wsX0_number : Cond.selects RX0 yX0_number yX0_number ∈ zW := List.mem_filter.mpr ⟨List.mem_of_getElem? (i := 514) (by decide +kernel), by decide +kernel⟩
theorem mwX0_number : zMw yX0_number cX0_number 2 (some .int) 1 := ⟨List.mem_filter.mpr ⟨List.mem_of_getElem? (i := 515) (by decide +kernel), by decide +kernel⟩, List.mem_filter.mpr ⟨List.mem_of_getElem? (i := 44) (by decide +kernel), by decide +kernel⟩, by decide +kernel⟩
theorem wmX7_99 : Cond.methodLink RX7 99 yX2_length ∈ zW := List.mem_filter.mpr ⟨List.mem_of_getElem? (i := 508) (by decide +kernel), by decide +kernel⟩
theorem wiX2_length : Cond.instanceMethod yX2_length ∈ zW := List.mem_filter.mpr ⟨List.mem_of_getElem? (i := 509) (by decide +kernel), by decide +kernel⟩
theorem wsX2_length : Cond.selects RX2 yX2_length yX2_length ∈ zW := List.mem_filter.mpr ⟨List.mem_of_getElem? (i := 510) (by decide +kernel), by decide +kernel⟩
theorem mwX2_length : zMw yX2_length cX2_length 1 (some .int) 0 := ⟨List.mem_filter.mpr ⟨List.mem_of_getElem? (i := 511) (by decide +kernel), by decide +kernel⟩, List.mem_filter.mpr ⟨List.mem_of_getElem? (i := 47) (by decide +kernel), by decide +kernel⟩, by decide +kernel⟩
theorem wfX7_33 : Cond.fieldLink RX7 33 "CanteenPlates" "pad" "LCanteenPlates$Pad;" ∈ zW := List.mem_filter.mpr ⟨List.mem_of_getElem? (i := 248) (by decide +kernel), by decide +kernel⟩
theorem wmX7_96 : Cond.methodLink RX7 96 yX4_length ∈ zW := List.mem_filter.mpr ⟨List.mem_of_getElem? (i := 504) (by decide +kernel), by decide +kernel⟩
theorem wiX4_length : Cond.instanceMethod yX4_length ∈ zW := List.mem_filter.mpr ⟨List.mem_of_getElem? (i := 505) (by decide +kernel), by decide +kernel⟩
theorem wsX4_length : Cond.selects RX4 yX4_length yX4_length ∈ zW := List.mem_filter.mpr ⟨List.mem_of_getElem? (i := 506) (by decide +kernel), by decide +kernel⟩
theorem mwX4_length : zMw yX4_length cX4_length 1 (some .int) 0 := ⟨List.mem_filter.mpr ⟨List.mem_of_getElem? (i := 507) (by decide +kernel), by decide +kernel⟩, List.mem_filter.mpr ⟨List.mem_of_getElem? (i := 49) (by decide +kernel), by decide +kernel⟩, by decide +kernel⟩
theorem wmX7_103 : Cond.methodLink RX7 103 yX0_reasonAgainst ∈ zW := List.mem_filter.mpr ⟨List.mem_of_getElem? (i := 533) (by decide +kernel), by decide +kernel⟩
theorem wmX5_64 : Cond.methodLink RX5 64 yX5_doubt ∈ zW := List.mem_filter.mpr ⟨List.mem_of_getElem? (i := 546) (by decide +kernel), by decide +kernel⟩
theorem wmX0_187 : Cond.methodLink RX0 187 yX5_isLessSureThan ∈ zW := List.mem_filter.mpr ⟨List.mem_of_getElem? (i := 542) (by decide +kernel), by decide +kernel⟩
theorem wiX5_isLessSureThan : Cond.instanceMethod yX5_isLessSureThan ∈ zW := List.mem_filter.mpr ⟨List.mem_of_getElem? (i := 543) (by decide +kernel), by decide +kernel⟩
theorem wsX5_isLessSureThan : Cond.selects RX5 yX5_isLessSureThan yX5_isLessSureThan ∈ zW := List.mem_filter.mpr ⟨List.mem_of_getElem? (i := 544) (by decide +kernel), by decide +kernel⟩
theorem mwX5_isLessSureThan : zMw yX5_isLessSureThan cX5_isLessSureThan 2 (some .boolean) 1 := ⟨List.mem_filter.mpr ⟨List.mem_of_getElem? (i := 545) (by decide +kernel), by decide +kernel⟩, List.mem_filter.mpr ⟨List.mem_of_getElem? (i := 45) (by decide +kernel), by decide +kernel⟩, by decide +kernel⟩
theorem wmX7_106 : Cond.methodLink RX7 106 yX0_greatestDoubt ∈ zW := List.mem_filter.mpr ⟨List.mem_of_getElem? (i := 538) (by decide +kernel), by decide +kernel⟩
theorem wiX0_greatestDoubt : Cond.instanceMethod yX0_greatestDoubt ∈ zW := List.mem_filter.mpr ⟨List.mem_of_getElem? (i := 539) (by decide +kernel), by decide +kernel⟩
theorem wsX0_greatestDoubt : Cond.selects RX0 yX0_greatestDoubt yX0_greatestDoubt ∈ zW := List.mem_filter.mpr ⟨List.mem_of_getElem? (i := 540) (by decide +kernel), by decide +kernel⟩
theorem mwX0_greatestDoubt : zMw yX0_greatestDoubt cX0_greatestDoubt 4 (some .int) 1 := ⟨List.mem_filter.mpr ⟨List.mem_of_getElem? (i := 541) (by decide +kernel), by decide +kernel⟩, List.mem_filter.mpr ⟨List.mem_of_getElem? (i := 44) (by decide +kernel), by decide +kernel⟩, by decide +kernel⟩
theorem wmX7_109 : Cond.methodLink RX7 109 yX0_firstPossible ∈ zW := List.mem_filter.mpr ⟨List.mem_of_getElem? (i := 551) (by decide +kernel), by decide +kernel⟩
theorem wiX0_firstPossible : Cond.instanceMethod yX0_firstPossible ∈ zW := List.mem_filter.mpr ⟨List.mem_of_getElem? (i := 552) (by decide +kernel), by decide +kernel⟩
theorem wsX0_firstPossible : Cond.selects RX0 yX0_firstPossible yX0_firstPossible ∈ zW := List.mem_filter.mpr ⟨List.mem_of_getElem? (i := 553) (by decide +kernel), by decide +kernel⟩
theorem mwX0_firstPossible : zMw yX0_firstPossible cX0_firstPossible 4 (some .int) 1 := ⟨List.mem_filter.mpr ⟨List.mem_of_getElem? (i := 554) (by decide +kernel), by decide +kernel⟩, List.mem_filter.mpr ⟨List.mem_of_getElem? (i := 44) (by decide +kernel), by decide +kernel⟩, by decide +kernel⟩
theorem wmX0_191 : Cond.methodLink RX0 191 yX1_waste ∈ zW := List.mem_filter.mpr ⟨List.mem_of_getElem? (i := 563) (by decide +kernel), by decide +kernel⟩
theorem wiX1_waste : Cond.instanceMethod yX1_waste ∈ zW := List.mem_filter.mpr ⟨List.mem_of_getElem? (i := 564) (by decide +kernel), by decide +kernel⟩
theorem wsX1_waste : Cond.selects RX1 yX1_waste yX1_waste ∈ zW := List.mem_filter.mpr ⟨List.mem_of_getElem? (i := 565) (by decide +kernel), by decide +kernel⟩
theorem mwX1_waste : zMw yX1_waste cX1_waste 1 (some .int) 0 := ⟨List.mem_filter.mpr ⟨List.mem_of_getElem? (i := 566) (by decide +kernel), by decide +kernel⟩, List.mem_filter.mpr ⟨List.mem_of_getElem? (i := 46) (by decide +kernel), by decide +kernel⟩, by decide +kernel⟩
theorem wmX7_112 : Cond.methodLink RX7 112 yX0_mostThrown ∈ zW := List.mem_filter.mpr ⟨List.mem_of_getElem? (i := 559) (by decide +kernel), by decide +kernel⟩
theorem wiX0_mostThrown : Cond.instanceMethod yX0_mostThrown ∈ zW := List.mem_filter.mpr ⟨List.mem_of_getElem? (i := 560) (by decide +kernel), by decide +kernel⟩
theorem wsX0_mostThrown : Cond.selects RX0 yX0_mostThrown yX0_mostThrown ∈ zW := List.mem_filter.mpr ⟨List.mem_of_getElem? (i := 561) (by decide +kernel), by decide +kernel⟩
theorem mwX0_mostThrown : zMw yX0_mostThrown cX0_mostThrown 3 (some .int) 0 := ⟨List.mem_filter.mpr ⟨List.mem_of_getElem? (i := 562) (by decide +kernel), by decide +kernel⟩, List.mem_filter.mpr ⟨List.mem_of_getElem? (i := 44) (by decide +kernel), by decide +kernel⟩, by decide +kernel⟩
theorem wkX4_23 : Jvm.Cond.constantLong RX4 23 (255 : Int64) ∈ zW := List.mem_filter.mpr ⟨List.mem_of_getElem? (i := 578) (by decide +kernel), by decide +kernel⟩
theorem wkX4_25 : Jvm.Cond.constantLong RX4 25 (33 : Int64) ∈ zW := List.mem_filter.mpr ⟨List.mem_of_getElem? (i := 579) (by decide +kernel), by decide +kernel⟩
theorem wkX4_27 : Jvm.Cond.constantLong RX4 27 (126 : Int64) ∈ zW := List.mem_filter.mpr ⟨List.mem_of_getElem? (i := 580) (by decide +kernel), by decide +kernel⟩
theorem wfX4_9 : Cond.fieldLink RX4 9 "CanteenPlates$Pad" "text" "[C" ∈ zW := List.mem_filter.mpr ⟨List.mem_of_getElem? (i := 204) (by decide +kernel), by decide +kernel⟩
theorem wmX4_19 : Cond.methodLink RX4 19 yX4_goodCharacters ∈ zW := List.mem_filter.mpr ⟨List.mem_of_getElem? (i := 575) (by decide +kernel), by decide +kernel⟩
theorem wtX4_goodCharacters : Cond.static yX4_goodCharacters ∈ zW := List.mem_filter.mpr ⟨List.mem_of_getElem? (i := 576) (by decide +kernel), by decide +kernel⟩
theorem mwX4_goodCharacters : zMw yX4_goodCharacters cX4_goodCharacters 7 (some .int) 1 := ⟨List.mem_filter.mpr ⟨List.mem_of_getElem? (i := 577) (by decide +kernel), by decide +kernel⟩, List.mem_filter.mpr ⟨List.mem_of_getElem? (i := 49) (by decide +kernel), by decide +kernel⟩, by decide +kernel⟩
theorem wmX7_115 : Cond.methodLink RX7 115 yX4_append ∈ zW := List.mem_filter.mpr ⟨List.mem_of_getElem? (i := 571) (by decide +kernel), by decide +kernel⟩
theorem wiX4_append : Cond.instanceMethod yX4_append ∈ zW := List.mem_filter.mpr ⟨List.mem_of_getElem? (i := 572) (by decide +kernel), by decide +kernel⟩
theorem wsX4_append : Cond.selects RX4 yX4_append yX4_append ∈ zW := List.mem_filter.mpr ⟨List.mem_of_getElem? (i := 573) (by decide +kernel), by decide +kernel⟩
theorem mwX4_append : zMw yX4_append cX4_append 5 (some .int) 1 := ⟨List.mem_filter.mpr ⟨List.mem_of_getElem? (i := 574) (by decide +kernel), by decide +kernel⟩, List.mem_filter.mpr ⟨List.mem_of_getElem? (i := 49) (by decide +kernel), by decide +kernel⟩, by decide +kernel⟩
theorem wmX7_119 : Cond.methodLink RX7 119 yX4_clear ∈ zW := List.mem_filter.mpr ⟨List.mem_of_getElem? (i := 585) (by decide +kernel), by decide +kernel⟩
theorem wiX4_clear : Cond.instanceMethod yX4_clear ∈ zW := List.mem_filter.mpr ⟨List.mem_of_getElem? (i := 586) (by decide +kernel), by decide +kernel⟩
theorem wsX4_clear : Cond.selects RX4 yX4_clear yX4_clear ∈ zW := List.mem_filter.mpr ⟨List.mem_of_getElem? (i := 587) (by decide +kernel), by decide +kernel⟩
theorem mwX4_clear : zMw yX4_clear cX4_clear 2 (some .int) 0 := ⟨List.mem_filter.mpr ⟨List.mem_of_getElem? (i := 588) (by decide +kernel), by decide +kernel⟩, List.mem_filter.mpr ⟨List.mem_of_getElem? (i := 49) (by decide +kernel), by decide +kernel⟩, by decide +kernel⟩
theorem wfX3_15 : Cond.fieldLink RX3 15 "CanteenPlates$OrderReader" "place" "I" ∈ zW := List.mem_filter.mpr ⟨List.mem_of_getElem? (i := 219) (by decide +kernel), by decide +kernel⟩
theorem wfX3_9 : Cond.fieldLink RX3 9 "CanteenPlates$OrderReader" "pad" "LCanteenPlates$Pad;" ∈ zW := List.mem_filter.mpr ⟨List.mem_of_getElem? (i := 218) (by decide +kernel), by decide +kernel⟩
theorem wmX3_26 : Cond.methodLink RX3 26 yX4_length ∈ zW := List.mem_filter.mpr ⟨List.mem_of_getElem? (i := 641) (by decide +kernel), by decide +kernel⟩
theorem wmX3_36 : Cond.methodLink RX3 36 yX4_at ∈ zW := List.mem_filter.mpr ⟨List.mem_of_getElem? (i := 605) (by decide +kernel), by decide +kernel⟩
theorem wiX4_at : Cond.instanceMethod yX4_at ∈ zW := List.mem_filter.mpr ⟨List.mem_of_getElem? (i := 606) (by decide +kernel), by decide +kernel⟩
theorem wsX4_at : Cond.selects RX4 yX4_at yX4_at ∈ zW := List.mem_filter.mpr ⟨List.mem_of_getElem? (i := 607) (by decide +kernel), by decide +kernel⟩
theorem mwX4_at : zMw yX4_at cX4_at 2 (some .int) 1 := ⟨List.mem_filter.mpr ⟨List.mem_of_getElem? (i := 608) (by decide +kernel), by decide +kernel⟩, List.mem_filter.mpr ⟨List.mem_of_getElem? (i := 49) (by decide +kernel), by decide +kernel⟩, by decide +kernel⟩
theorem wmX3_32 : Cond.methodLink RX3 32 yX3_take ∈ zW := List.mem_filter.mpr ⟨List.mem_of_getElem? (i := 621) (by decide +kernel), by decide +kernel⟩
theorem wiX3_take : Cond.instanceMethod yX3_take ∈ zW := List.mem_filter.mpr ⟨List.mem_of_getElem? (i := 622) (by decide +kernel), by decide +kernel⟩
theorem wsX3_take : Cond.selects RX3 yX3_take yX3_take ∈ zW := List.mem_filter.mpr ⟨List.mem_of_getElem? (i := 623) (by decide +kernel), by decide +kernel⟩
theorem mwX3_take : zMw yX3_take cX3_take 2 (some .boolean) 1 := ⟨List.mem_filter.mpr ⟨List.mem_of_getElem? (i := 624) (by decide +kernel), by decide +kernel⟩, List.mem_filter.mpr ⟨List.mem_of_getElem? (i := 50) (by decide +kernel), by decide +kernel⟩, by decide +kernel⟩
theorem wmX3_73 : Cond.methodLink RX3 73 yX3_readDigit ∈ zW := List.mem_filter.mpr ⟨List.mem_of_getElem? (i := 617) (by decide +kernel), by decide +kernel⟩
theorem wiX3_readDigit : Cond.instanceMethod yX3_readDigit ∈ zW := List.mem_filter.mpr ⟨List.mem_of_getElem? (i := 619) (by decide +kernel), by decide +kernel⟩
theorem wsX3_readDigit : Cond.selects RX3 yX3_readDigit yX3_readDigit ∈ zW := List.mem_filter.mpr ⟨List.mem_of_getElem? (i := 5) (by decide +kernel), by decide +kernel⟩
theorem mwX3_readDigit : zMw yX3_readDigit cX3_readDigit 2 (some .int) 0 := ⟨List.mem_filter.mpr ⟨List.mem_of_getElem? (i := 620) (by decide +kernel), by decide +kernel⟩, List.mem_filter.mpr ⟨List.mem_of_getElem? (i := 50) (by decide +kernel), by decide +kernel⟩, by decide +kernel⟩
theorem wfX3_46 : Cond.fieldLink RX3 46 "CanteenPlates$OrderReader" "ahead" "I" ∈ zW := List.mem_filter.mpr ⟨List.mem_of_getElem? (i := 228) (by decide +kernel), by decide +kernel⟩
theorem wfX3_43 : Cond.fieldLink RX3 43 "CanteenPlates$OrderReader" "dish" "I" ∈ zW := List.mem_filter.mpr ⟨List.mem_of_getElem? (i := 226) (by decide +kernel), by decide +kernel⟩
theorem wmX3_64 : Cond.methodLink RX3 64 yX3_readNumber ∈ zW := List.mem_filter.mpr ⟨List.mem_of_getElem? (i := 613) (by decide +kernel), by decide +kernel⟩
theorem wiX3_readNumber : Cond.instanceMethod yX3_readNumber ∈ zW := List.mem_filter.mpr ⟨List.mem_of_getElem? (i := 615) (by decide +kernel), by decide +kernel⟩
theorem wsX3_readNumber : Cond.selects RX3 yX3_readNumber yX3_readNumber ∈ zW := List.mem_filter.mpr ⟨List.mem_of_getElem? (i := 4) (by decide +kernel), by decide +kernel⟩
theorem mwX3_readNumber : zMw yX3_readNumber cX3_readNumber 3 (some .int) 0 := ⟨List.mem_filter.mpr ⟨List.mem_of_getElem? (i := 616) (by decide +kernel), by decide +kernel⟩, List.mem_filter.mpr ⟨List.mem_of_getElem? (i := 50) (by decide +kernel), by decide +kernel⟩, by decide +kernel⟩
theorem wfX3_70 : Cond.fieldLink RX3 70 "CanteenPlates$OrderReader" "many" "I" ∈ zW := List.mem_filter.mpr ⟨List.mem_of_getElem? (i := 224) (by decide +kernel), by decide +kernel⟩
theorem wfX3_67 : Cond.fieldLink RX3 67 "CanteenPlates$OrderReader" "person" "I" ∈ zW := List.mem_filter.mpr ⟨List.mem_of_getElem? (i := 222) (by decide +kernel), by decide +kernel⟩
theorem wfX3_40 : Cond.fieldLink RX3 40 "CanteenPlates$OrderReader" "letter" "I" ∈ zW := List.mem_filter.mpr ⟨List.mem_of_getElem? (i := 220) (by decide +kernel), by decide +kernel⟩
theorem wmX3_49 : Cond.methodLink RX3 49 yX3_readPerson ∈ zW := List.mem_filter.mpr ⟨List.mem_of_getElem? (i := 609) (by decide +kernel), by decide +kernel⟩
theorem wiX3_readPerson : Cond.instanceMethod yX3_readPerson ∈ zW := List.mem_filter.mpr ⟨List.mem_of_getElem? (i := 611) (by decide +kernel), by decide +kernel⟩
theorem wsX3_readPerson : Cond.selects RX3 yX3_readPerson yX3_readPerson ∈ zW := List.mem_filter.mpr ⟨List.mem_of_getElem? (i := 3) (by decide +kernel), by decide +kernel⟩
theorem mwX3_readPerson : zMw yX3_readPerson cX3_readPerson 1 (some .boolean) 0 := ⟨List.mem_filter.mpr ⟨List.mem_of_getElem? (i := 612) (by decide +kernel), by decide +kernel⟩, List.mem_filter.mpr ⟨List.mem_of_getElem? (i := 50) (by decide +kernel), by decide +kernel⟩, by decide +kernel⟩
theorem wmX3_61 : Cond.methodLink RX3 61 yX3_isOrderOver ∈ zW := List.mem_filter.mpr ⟨List.mem_of_getElem? (i := 637) (by decide +kernel), by decide +kernel⟩
theorem wiX3_isOrderOver : Cond.instanceMethod yX3_isOrderOver ∈ zW := List.mem_filter.mpr ⟨List.mem_of_getElem? (i := 639) (by decide +kernel), by decide +kernel⟩
theorem wsX3_isOrderOver : Cond.selects RX3 yX3_isOrderOver yX3_isOrderOver ∈ zW := List.mem_filter.mpr ⟨List.mem_of_getElem? (i := 9) (by decide +kernel), by decide +kernel⟩
theorem mwX3_isOrderOver : zMw yX3_isOrderOver cX3_isOrderOver 1 (some .boolean) 0 := ⟨List.mem_filter.mpr ⟨List.mem_of_getElem? (i := 640) (by decide +kernel), by decide +kernel⟩, List.mem_filter.mpr ⟨List.mem_of_getElem? (i := 50) (by decide +kernel), by decide +kernel⟩, by decide +kernel⟩
theorem wmX3_55 : Cond.methodLink RX3 55 yX3_readDish ∈ zW := List.mem_filter.mpr ⟨List.mem_of_getElem? (i := 629) (by decide +kernel), by decide +kernel⟩
theorem wiX3_readDish : Cond.instanceMethod yX3_readDish ∈ zW := List.mem_filter.mpr ⟨List.mem_of_getElem? (i := 631) (by decide +kernel), by decide +kernel⟩
theorem wsX3_readDish : Cond.selects RX3 yX3_readDish yX3_readDish ∈ zW := List.mem_filter.mpr ⟨List.mem_of_getElem? (i := 7) (by decide +kernel), by decide +kernel⟩
theorem mwX3_readDish : zMw yX3_readDish cX3_readDish 2 (some .boolean) 0 := ⟨List.mem_filter.mpr ⟨List.mem_of_getElem? (i := 632) (by decide +kernel), by decide +kernel⟩, List.mem_filter.mpr ⟨List.mem_of_getElem? (i := 50) (by decide +kernel), by decide +kernel⟩, by decide +kernel⟩
theorem wmX3_58 : Cond.methodLink RX3 58 yX3_readAhead ∈ zW := List.mem_filter.mpr ⟨List.mem_of_getElem? (i := 633) (by decide +kernel), by decide +kernel⟩
theorem wiX3_readAhead : Cond.instanceMethod yX3_readAhead ∈ zW := List.mem_filter.mpr ⟨List.mem_of_getElem? (i := 635) (by decide +kernel), by decide +kernel⟩
theorem wsX3_readAhead : Cond.selects RX3 yX3_readAhead yX3_readAhead ∈ zW := List.mem_filter.mpr ⟨List.mem_of_getElem? (i := 8) (by decide +kernel), by decide +kernel⟩
theorem mwX3_readAhead : zMw yX3_readAhead cX3_readAhead 1 (some .boolean) 0 := ⟨List.mem_filter.mpr ⟨List.mem_of_getElem? (i := 636) (by decide +kernel), by decide +kernel⟩, List.mem_filter.mpr ⟨List.mem_of_getElem? (i := 50) (by decide +kernel), by decide +kernel⟩, by decide +kernel⟩
theorem wmX3_52 : Cond.methodLink RX3 52 yX3_readMany ∈ zW := List.mem_filter.mpr ⟨List.mem_of_getElem? (i := 625) (by decide +kernel), by decide +kernel⟩
theorem wiX3_readMany : Cond.instanceMethod yX3_readMany ∈ zW := List.mem_filter.mpr ⟨List.mem_of_getElem? (i := 627) (by decide +kernel), by decide +kernel⟩
theorem wsX3_readMany : Cond.selects RX3 yX3_readMany yX3_readMany ∈ zW := List.mem_filter.mpr ⟨List.mem_of_getElem? (i := 6) (by decide +kernel), by decide +kernel⟩
theorem mwX3_readMany : zMw yX3_readMany cX3_readMany 1 (some .boolean) 0 := ⟨List.mem_filter.mpr ⟨List.mem_of_getElem? (i := 628) (by decide +kernel), by decide +kernel⟩, List.mem_filter.mpr ⟨List.mem_of_getElem? (i := 50) (by decide +kernel), by decide +kernel⟩, by decide +kernel⟩
theorem wmX3_22 : Cond.methodLink RX3 22 yX3_readOrder ∈ zW := List.mem_filter.mpr ⟨List.mem_of_getElem? (i := 601) (by decide +kernel), by decide +kernel⟩
theorem wiX3_readOrder : Cond.instanceMethod yX3_readOrder ∈ zW := List.mem_filter.mpr ⟨List.mem_of_getElem? (i := 602) (by decide +kernel), by decide +kernel⟩
theorem wsX3_readOrder : Cond.selects RX3 yX3_readOrder yX3_readOrder ∈ zW := List.mem_filter.mpr ⟨List.mem_of_getElem? (i := 603) (by decide +kernel), by decide +kernel⟩
theorem mwX3_readOrder : zMw yX3_readOrder cX3_readOrder 1 (some .boolean) 0 := ⟨List.mem_filter.mpr ⟨List.mem_of_getElem? (i := 604) (by decide +kernel), by decide +kernel⟩, List.mem_filter.mpr ⟨List.mem_of_getElem? (i := 50) (by decide +kernel), by decide +kernel⟩, by decide +kernel⟩
theorem wmX3_19 : Cond.methodLink RX3 19 yX3_start ∈ zW := List.mem_filter.mpr ⟨List.mem_of_getElem? (i := 597) (by decide +kernel), by decide +kernel⟩
theorem wiX3_start : Cond.instanceMethod yX3_start ∈ zW := List.mem_filter.mpr ⟨List.mem_of_getElem? (i := 598) (by decide +kernel), by decide +kernel⟩
theorem wsX3_start : Cond.selects RX3 yX3_start yX3_start ∈ zW := List.mem_filter.mpr ⟨List.mem_of_getElem? (i := 599) (by decide +kernel), by decide +kernel⟩
theorem mwX3_start : zMw yX3_start cX3_start 1 none 0 := ⟨List.mem_filter.mpr ⟨List.mem_of_getElem? (i := 600) (by decide +kernel), by decide +kernel⟩, List.mem_filter.mpr ⟨List.mem_of_getElem? (i := 50) (by decide +kernel), by decide +kernel⟩, by decide +kernel⟩
theorem wfX7_42 : Cond.fieldLink RX7 42 "CanteenPlates" "reader" "LCanteenPlates$OrderReader;" ∈ zW := List.mem_filter.mpr ⟨List.mem_of_getElem? (i := 249) (by decide +kernel), by decide +kernel⟩
theorem wmX7_122 : Cond.methodLink RX7 122 yX3_firstFault ∈ zW := List.mem_filter.mpr ⟨List.mem_of_getElem? (i := 593) (by decide +kernel), by decide +kernel⟩
theorem wiX3_firstFault : Cond.instanceMethod yX3_firstFault ∈ zW := List.mem_filter.mpr ⟨List.mem_of_getElem? (i := 594) (by decide +kernel), by decide +kernel⟩
theorem wsX3_firstFault : Cond.selects RX3 yX3_firstFault yX3_firstFault ∈ zW := List.mem_filter.mpr ⟨List.mem_of_getElem? (i := 595) (by decide +kernel), by decide +kernel⟩
theorem mwX3_firstFault : zMw yX3_firstFault cX3_firstFault 2 (some .int) 0 := ⟨List.mem_filter.mpr ⟨List.mem_of_getElem? (i := 596) (by decide +kernel), by decide +kernel⟩, List.mem_filter.mpr ⟨List.mem_of_getElem? (i := 50) (by decide +kernel), by decide +kernel⟩, by decide +kernel⟩
theorem wnX7_153 : Cond.fieldLinkNest RX7 153 "CanteenPlates$OrderReader" "letter" "I" "CanteenPlates" ∈ zNw := List.mem_filter.mpr ⟨List.mem_of_getElem? (i := 221) (by decide +kernel), by decide +kernel⟩
theorem wnX7_166 : Cond.fieldLinkNest RX7 166 "CanteenPlates$OrderReader" "dish" "I" "CanteenPlates" ∈ zNw := List.mem_filter.mpr ⟨List.mem_of_getElem? (i := 227) (by decide +kernel), by decide +kernel⟩
theorem wnX7_157 : Cond.fieldLinkNest RX7 157 "CanteenPlates$OrderReader" "person" "I" "CanteenPlates" ∈ zNw := List.mem_filter.mpr ⟨List.mem_of_getElem? (i := 223) (by decide +kernel), by decide +kernel⟩
theorem wnX7_163 : Cond.fieldLinkNest RX7 163 "CanteenPlates$OrderReader" "ahead" "I" "CanteenPlates" ∈ zNw := List.mem_filter.mpr ⟨List.mem_of_getElem? (i := 229) (by decide +kernel), by decide +kernel⟩
theorem wnX7_160 : Cond.fieldLinkNest RX7 160 "CanteenPlates$OrderReader" "many" "I" "CanteenPlates" ∈ zNw := List.mem_filter.mpr ⟨List.mem_of_getElem? (i := 225) (by decide +kernel), by decide +kernel⟩
theorem wmX7_146 : Cond.methodLink RX7 146 yX3_readOrder ∈ zW := List.mem_filter.mpr ⟨List.mem_of_getElem? (i := 652) (by decide +kernel), by decide +kernel⟩
theorem wmX7_150 : Cond.methodLink RX7 150 yX7_carryOutOne ∈ zW := List.mem_filter.mpr ⟨List.mem_of_getElem? (i := 653) (by decide +kernel), by decide +kernel⟩
theorem wiX7_carryOutOne : Cond.instanceMethod yX7_carryOutOne ∈ zW := List.mem_filter.mpr ⟨List.mem_of_getElem? (i := 655) (by decide +kernel), by decide +kernel⟩
theorem wsX7_carryOutOne : Cond.selects RX7 yX7_carryOutOne yX7_carryOutOne ∈ zW := List.mem_filter.mpr ⟨List.mem_of_getElem? (i := 11) (by decide +kernel), by decide +kernel⟩
theorem mwX7_carryOutOne : zMw yX7_carryOutOne cX7_carryOutOne 1 (some .int) 0 := ⟨List.mem_filter.mpr ⟨List.mem_of_getElem? (i := 656) (by decide +kernel), by decide +kernel⟩, List.mem_filter.mpr ⟨List.mem_of_getElem? (i := 43) (by decide +kernel), by decide +kernel⟩, by decide +kernel⟩
theorem wmX7_142 : Cond.methodLink RX7 142 yX3_take ∈ zW := List.mem_filter.mpr ⟨List.mem_of_getElem? (i := 651) (by decide +kernel), by decide +kernel⟩
theorem wmX7_139 : Cond.methodLink RX7 139 yX3_start ∈ zW := List.mem_filter.mpr ⟨List.mem_of_getElem? (i := 650) (by decide +kernel), by decide +kernel⟩
theorem wmX7_125 : Cond.methodLink RX7 125 yX7_carryOutAll ∈ zW := List.mem_filter.mpr ⟨List.mem_of_getElem? (i := 646) (by decide +kernel), by decide +kernel⟩
theorem wiX7_carryOutAll : Cond.instanceMethod yX7_carryOutAll ∈ zW := List.mem_filter.mpr ⟨List.mem_of_getElem? (i := 648) (by decide +kernel), by decide +kernel⟩
theorem wsX7_carryOutAll : Cond.selects RX7 yX7_carryOutAll yX7_carryOutAll ∈ zW := List.mem_filter.mpr ⟨List.mem_of_getElem? (i := 10) (by decide +kernel), by decide +kernel⟩
theorem mwX7_carryOutAll : zMw yX7_carryOutAll cX7_carryOutAll 3 (some .int) 0 := ⟨List.mem_filter.mpr ⟨List.mem_of_getElem? (i := 649) (by decide +kernel), by decide +kernel⟩, List.mem_filter.mpr ⟨List.mem_of_getElem? (i := 43) (by decide +kernel), by decide +kernel⟩, by decide +kernel⟩
theorem wmX7_128 : Cond.methodLink RX7 128 yX2_takeBack ∈ zW := List.mem_filter.mpr ⟨List.mem_of_getElem? (i := 661) (by decide +kernel), by decide +kernel⟩
theorem wiX2_takeBack : Cond.instanceMethod yX2_takeBack ∈ zW := List.mem_filter.mpr ⟨List.mem_of_getElem? (i := 662) (by decide +kernel), by decide +kernel⟩
theorem wsX2_takeBack : Cond.selects RX2 yX2_takeBack yX2_takeBack ∈ zW := List.mem_filter.mpr ⟨List.mem_of_getElem? (i := 663) (by decide +kernel), by decide +kernel⟩
theorem mwX2_takeBack : zMw yX2_takeBack cX2_takeBack 2 (some .int) 1 := ⟨List.mem_filter.mpr ⟨List.mem_of_getElem? (i := 664) (by decide +kernel), by decide +kernel⟩, List.mem_filter.mpr ⟨List.mem_of_getElem? (i := 47) (by decide +kernel), by decide +kernel⟩, by decide +kernel⟩
theorem wfX6_11 : Cond.fieldLink RX6 11 "CanteenPlates$Slots" "saved" "[LCanteenPlates$Canteen;" ∈ zW := List.mem_filter.mpr ⟨List.mem_of_getElem? (i := 190) (by decide +kernel), by decide +kernel⟩
theorem wmX6_22 : Cond.methodLink RX6 22 yX0_become ∈ zW := List.mem_filter.mpr ⟨List.mem_of_getElem? (i := 673) (by decide +kernel), by decide +kernel⟩
theorem wfX6_17 : Cond.fieldLink RX6 17 "CanteenPlates$Slots" "used" "[Z" ∈ zW := List.mem_filter.mpr ⟨List.mem_of_getElem? (i := 191) (by decide +kernel), by decide +kernel⟩
theorem wnX6_26 : Cond.fieldLinkNest RX6 26 "CanteenPlates$Canteen" "people" "I" "CanteenPlates" ∈ zNw := List.mem_filter.mpr ⟨List.mem_of_getElem? (i := 146) (by decide +kernel), by decide +kernel⟩
theorem wfX7_26 : Cond.fieldLink RX7 26 "CanteenPlates" "slots" "LCanteenPlates$Slots;" ∈ zW := List.mem_filter.mpr ⟨List.mem_of_getElem? (i := 247) (by decide +kernel), by decide +kernel⟩
theorem wmX7_132 : Cond.methodLink RX7 132 yX6_store ∈ zW := List.mem_filter.mpr ⟨List.mem_of_getElem? (i := 669) (by decide +kernel), by decide +kernel⟩
theorem wiX6_store : Cond.instanceMethod yX6_store ∈ zW := List.mem_filter.mpr ⟨List.mem_of_getElem? (i := 670) (by decide +kernel), by decide +kernel⟩
theorem wsX6_store : Cond.selects RX6 yX6_store yX6_store ∈ zW := List.mem_filter.mpr ⟨List.mem_of_getElem? (i := 671) (by decide +kernel), by decide +kernel⟩
theorem mwX6_store : zMw yX6_store cX6_store 3 (some .int) 2 := ⟨List.mem_filter.mpr ⟨List.mem_of_getElem? (i := 672) (by decide +kernel), by decide +kernel⟩, List.mem_filter.mpr ⟨List.mem_of_getElem? (i := 48) (by decide +kernel), by decide +kernel⟩, by decide +kernel⟩
theorem wmX7_136 : Cond.methodLink RX7 136 yX6_fetch ∈ zW := List.mem_filter.mpr ⟨List.mem_of_getElem? (i := 678) (by decide +kernel), by decide +kernel⟩
theorem wiX6_fetch : Cond.instanceMethod yX6_fetch ∈ zW := List.mem_filter.mpr ⟨List.mem_of_getElem? (i := 679) (by decide +kernel), by decide +kernel⟩
theorem wsX6_fetch : Cond.selects RX6 yX6_fetch yX6_fetch ∈ zW := List.mem_filter.mpr ⟨List.mem_of_getElem? (i := 680) (by decide +kernel), by decide +kernel⟩
theorem mwX6_fetch : zMw yX6_fetch cX6_fetch 3 (some .int) 2 := ⟨List.mem_filter.mpr ⟨List.mem_of_getElem? (i := 681) (by decide +kernel), by decide +kernel⟩, List.mem_filter.mpr ⟨List.mem_of_getElem? (i := 48) (by decide +kernel), by decide +kernel⟩, by decide +kernel⟩
theorem wfX8_7 : Cond.fieldLink RX8 7 "CanteenPlatesModel" "s" "[I" ∈ zW := List.mem_filter.mpr ⟨List.mem_of_getElem? (i := 688) (by decide +kernel), by decide +kernel⟩
theorem wmX8_33 : Cond.methodLink RX8 33 yX8_in ∈ zW := List.mem_filter.mpr ⟨List.mem_of_getElem? (i := 726) (by decide +kernel), by decide +kernel⟩
theorem wtX8_in : Cond.static yX8_in ∈ zW := List.mem_filter.mpr ⟨List.mem_of_getElem? (i := 727) (by decide +kernel), by decide +kernel⟩
theorem mwX8_in : zMw yX8_in cX8_in 3 (some .boolean) 3 := ⟨List.mem_filter.mpr ⟨List.mem_of_getElem? (i := 728) (by decide +kernel), by decide +kernel⟩, List.mem_filter.mpr ⟨List.mem_of_getElem? (i := 51) (by decide +kernel), by decide +kernel⟩, by decide +kernel⟩
theorem wfX8_13 : Cond.fieldLink RX8 13 "CanteenPlatesModel" "spare" "[I" ∈ zW := List.mem_filter.mpr ⟨List.mem_of_getElem? (i := 689) (by decide +kernel), by decide +kernel⟩
theorem wfX8_37 : Cond.fieldLink RX8 37 "CanteenPlatesModel" "states" "I" ∈ zW := List.mem_filter.mpr ⟨List.mem_of_getElem? (i := 696) (by decide +kernel), by decide +kernel⟩
theorem wfX8_16 : Cond.fieldLink RX8 16 "CanteenPlatesModel" "before" "[I" ∈ zW := List.mem_filter.mpr ⟨List.mem_of_getElem? (i := 690) (by decide +kernel), by decide +kernel⟩
theorem wmX8_41 : Cond.methodLink RX8 41 yX8_p ∈ zW := List.mem_filter.mpr ⟨List.mem_of_getElem? (i := 752) (by decide +kernel), by decide +kernel⟩
theorem wtX8_p : Cond.static yX8_p ∈ zW := List.mem_filter.mpr ⟨List.mem_of_getElem? (i := 753) (by decide +kernel), by decide +kernel⟩
theorem mwX8_p : zMw yX8_p cX8_p 1 (some .int) 1 := ⟨List.mem_filter.mpr ⟨List.mem_of_getElem? (i := 754) (by decide +kernel), by decide +kernel⟩, List.mem_filter.mpr ⟨List.mem_of_getElem? (i := 51) (by decide +kernel), by decide +kernel⟩, by decide +kernel⟩
theorem wmX8_51 : Cond.methodLink RX8 51 yX8_d ∈ zW := List.mem_filter.mpr ⟨List.mem_of_getElem? (i := 811) (by decide +kernel), by decide +kernel⟩
theorem wtX8_d : Cond.static yX8_d ∈ zW := List.mem_filter.mpr ⟨List.mem_of_getElem? (i := 812) (by decide +kernel), by decide +kernel⟩
theorem mwX8_d : zMw yX8_d cX8_d 1 (some .int) 1 := ⟨List.mem_filter.mpr ⟨List.mem_of_getElem? (i := 813) (by decide +kernel), by decide +kernel⟩, List.mem_filter.mpr ⟨List.mem_of_getElem? (i := 51) (by decide +kernel), by decide +kernel⟩, by decide +kernel⟩
theorem wmX8_45 : Cond.methodLink RX8 45 yX8_isFor ∈ zW := List.mem_filter.mpr ⟨List.mem_of_getElem? (i := 803) (by decide +kernel), by decide +kernel⟩
theorem wiX8_isFor : Cond.instanceMethod yX8_isFor ∈ zW := List.mem_filter.mpr ⟨List.mem_of_getElem? (i := 805) (by decide +kernel), by decide +kernel⟩
theorem wsX8_isFor : Cond.selects RX8 yX8_isFor yX8_isFor ∈ zW := List.mem_filter.mpr ⟨List.mem_of_getElem? (i := 23) (by decide +kernel), by decide +kernel⟩
theorem mwX8_isFor : zMw yX8_isFor cX8_isFor 4 (some .boolean) 3 := ⟨List.mem_filter.mpr ⟨List.mem_of_getElem? (i := 806) (by decide +kernel), by decide +kernel⟩, List.mem_filter.mpr ⟨List.mem_of_getElem? (i := 51) (by decide +kernel), by decide +kernel⟩, by decide +kernel⟩
theorem wmX8_48 : Cond.methodLink RX8 48 yX8_doubt ∈ zW := List.mem_filter.mpr ⟨List.mem_of_getElem? (i := 807) (by decide +kernel), by decide +kernel⟩
theorem wiX8_doubt : Cond.instanceMethod yX8_doubt ∈ zW := List.mem_filter.mpr ⟨List.mem_of_getElem? (i := 809) (by decide +kernel), by decide +kernel⟩
theorem wsX8_doubt : Cond.selects RX8 yX8_doubt yX8_doubt ∈ zW := List.mem_filter.mpr ⟨List.mem_of_getElem? (i := 24) (by decide +kernel), by decide +kernel⟩
theorem mwX8_doubt : zMw yX8_doubt cX8_doubt 3 (some .int) 1 := ⟨List.mem_filter.mpr ⟨List.mem_of_getElem? (i := 810) (by decide +kernel), by decide +kernel⟩, List.mem_filter.mpr ⟨List.mem_of_getElem? (i := 51) (by decide +kernel), by decide +kernel⟩, by decide +kernel⟩
theorem wmX8_54 : Cond.methodLink RX8 54 yX8_isPerson ∈ zW := List.mem_filter.mpr ⟨List.mem_of_getElem? (i := 763) (by decide +kernel), by decide +kernel⟩
theorem wiX8_isPerson : Cond.instanceMethod yX8_isPerson ∈ zW := List.mem_filter.mpr ⟨List.mem_of_getElem? (i := 765) (by decide +kernel), by decide +kernel⟩
theorem wsX8_isPerson : Cond.selects RX8 yX8_isPerson yX8_isPerson ∈ zW := List.mem_filter.mpr ⟨List.mem_of_getElem? (i := 16) (by decide +kernel), by decide +kernel⟩
theorem mwX8_isPerson : zMw yX8_isPerson cX8_isPerson 2 (some .boolean) 1 := ⟨List.mem_filter.mpr ⟨List.mem_of_getElem? (i := 766) (by decide +kernel), by decide +kernel⟩, List.mem_filter.mpr ⟨List.mem_of_getElem? (i := 51) (by decide +kernel), by decide +kernel⟩, by decide +kernel⟩
theorem wmX8_58 : Cond.methodLink RX8 58 yX8_gives ∈ zW := List.mem_filter.mpr ⟨List.mem_of_getElem? (i := 767) (by decide +kernel), by decide +kernel⟩
theorem wiX8_gives : Cond.instanceMethod yX8_gives ∈ zW := List.mem_filter.mpr ⟨List.mem_of_getElem? (i := 769) (by decide +kernel), by decide +kernel⟩
theorem wsX8_gives : Cond.selects RX8 yX8_gives yX8_gives ∈ zW := List.mem_filter.mpr ⟨List.mem_of_getElem? (i := 17) (by decide +kernel), by decide +kernel⟩
theorem mwX8_gives : zMw yX8_gives cX8_gives 4 none 2 := ⟨List.mem_filter.mpr ⟨List.mem_of_getElem? (i := 770) (by decide +kernel), by decide +kernel⟩, List.mem_filter.mpr ⟨List.mem_of_getElem? (i := 51) (by decide +kernel), by decide +kernel⟩, by decide +kernel⟩
theorem wmX8_62 : Cond.methodLink RX8 62 yX8_priceOn ∈ zW := List.mem_filter.mpr ⟨List.mem_of_getElem? (i := 783) (by decide +kernel), by decide +kernel⟩
theorem wiX8_priceOn : Cond.instanceMethod yX8_priceOn ∈ zW := List.mem_filter.mpr ⟨List.mem_of_getElem? (i := 785) (by decide +kernel), by decide +kernel⟩
theorem wsX8_priceOn : Cond.selects RX8 yX8_priceOn yX8_priceOn ∈ zW := List.mem_filter.mpr ⟨List.mem_of_getElem? (i := 20) (by decide +kernel), by decide +kernel⟩
theorem mwX8_priceOn : zMw yX8_priceOn cX8_priceOn 3 (some .int) 2 := ⟨List.mem_filter.mpr ⟨List.mem_of_getElem? (i := 786) (by decide +kernel), by decide +kernel⟩, List.mem_filter.mpr ⟨List.mem_of_getElem? (i := 51) (by decide +kernel), by decide +kernel⟩, by decide +kernel⟩
theorem wmX8_66 : Cond.methodLink RX8 66 yX8_isDish ∈ zW := List.mem_filter.mpr ⟨List.mem_of_getElem? (i := 741) (by decide +kernel), by decide +kernel⟩
theorem wtX8_isDish : Cond.static yX8_isDish ∈ zW := List.mem_filter.mpr ⟨List.mem_of_getElem? (i := 742) (by decide +kernel), by decide +kernel⟩
theorem mwX8_isDish : zMw yX8_isDish cX8_isDish 1 (some .boolean) 1 := ⟨List.mem_filter.mpr ⟨List.mem_of_getElem? (i := 743) (by decide +kernel), by decide +kernel⟩, List.mem_filter.mpr ⟨List.mem_of_getElem? (i := 51) (by decide +kernel), by decide +kernel⟩, by decide +kernel⟩
theorem wmX8_69 : Cond.methodLink RX8 69 yX8_reason ∈ zW := List.mem_filter.mpr ⟨List.mem_of_getElem? (i := 779) (by decide +kernel), by decide +kernel⟩
theorem wiX8_reason : Cond.instanceMethod yX8_reason ∈ zW := List.mem_filter.mpr ⟨List.mem_of_getElem? (i := 781) (by decide +kernel), by decide +kernel⟩
theorem wsX8_reason : Cond.selects RX8 yX8_reason yX8_reason ∈ zW := List.mem_filter.mpr ⟨List.mem_of_getElem? (i := 19) (by decide +kernel), by decide +kernel⟩
theorem mwX8_reason : zMw yX8_reason cX8_reason 6 (some .int) 3 := ⟨List.mem_filter.mpr ⟨List.mem_of_getElem? (i := 782) (by decide +kernel), by decide +kernel⟩, List.mem_filter.mpr ⟨List.mem_of_getElem? (i := 51) (by decide +kernel), by decide +kernel⟩, by decide +kernel⟩
theorem wmX8_73 : Cond.methodLink RX8 73 yX8_toCook ∈ zW := List.mem_filter.mpr ⟨List.mem_of_getElem? (i := 799) (by decide +kernel), by decide +kernel⟩
theorem wiX8_toCook : Cond.instanceMethod yX8_toCook ∈ zW := List.mem_filter.mpr ⟨List.mem_of_getElem? (i := 801) (by decide +kernel), by decide +kernel⟩
theorem wsX8_toCook : Cond.selects RX8 yX8_toCook yX8_toCook ∈ zW := List.mem_filter.mpr ⟨List.mem_of_getElem? (i := 22) (by decide +kernel), by decide +kernel⟩
theorem mwX8_toCook : zMw yX8_toCook cX8_toCook 4 (some .int) 1 := ⟨List.mem_filter.mpr ⟨List.mem_of_getElem? (i := 802) (by decide +kernel), by decide +kernel⟩, List.mem_filter.mpr ⟨List.mem_of_getElem? (i := 51) (by decide +kernel), by decide +kernel⟩, by decide +kernel⟩
theorem wmX8_79 : Cond.methodLink RX8 79 yX8_eats ∈ zW := List.mem_filter.mpr ⟨List.mem_of_getElem? (i := 826) (by decide +kernel), by decide +kernel⟩
theorem wiX8_eats : Cond.instanceMethod yX8_eats ∈ zW := List.mem_filter.mpr ⟨List.mem_of_getElem? (i := 828) (by decide +kernel), by decide +kernel⟩
theorem wsX8_eats : Cond.selects RX8 yX8_eats yX8_eats ∈ zW := List.mem_filter.mpr ⟨List.mem_of_getElem? (i := 27) (by decide +kernel), by decide +kernel⟩
theorem mwX8_eats : zMw yX8_eats cX8_eats 4 none 2 := ⟨List.mem_filter.mpr ⟨List.mem_of_getElem? (i := 829) (by decide +kernel), by decide +kernel⟩, List.mem_filter.mpr ⟨List.mem_of_getElem? (i := 51) (by decide +kernel), by decide +kernel⟩, by decide +kernel⟩
theorem wmX8_76 : Cond.methodLink RX8 76 yX8_left ∈ zW := List.mem_filter.mpr ⟨List.mem_of_getElem? (i := 822) (by decide +kernel), by decide +kernel⟩
theorem wiX8_left : Cond.instanceMethod yX8_left ∈ zW := List.mem_filter.mpr ⟨List.mem_of_getElem? (i := 824) (by decide +kernel), by decide +kernel⟩
theorem wsX8_left : Cond.selects RX8 yX8_left yX8_left ∈ zW := List.mem_filter.mpr ⟨List.mem_of_getElem? (i := 26) (by decide +kernel), by decide +kernel⟩
theorem mwX8_left : zMw yX8_left cX8_left 2 (some .int) 1 := ⟨List.mem_filter.mpr ⟨List.mem_of_getElem? (i := 825) (by decide +kernel), by decide +kernel⟩, List.mem_filter.mpr ⟨List.mem_of_getElem? (i := 51) (by decide +kernel), by decide +kernel⟩, by decide +kernel⟩
theorem wmX8_82 : Cond.methodLink RX8 82 yX8_awaited ∈ zW := List.mem_filter.mpr ⟨List.mem_of_getElem? (i := 838) (by decide +kernel), by decide +kernel⟩
theorem wiX8_awaited : Cond.instanceMethod yX8_awaited ∈ zW := List.mem_filter.mpr ⟨List.mem_of_getElem? (i := 840) (by decide +kernel), by decide +kernel⟩
theorem wsX8_awaited : Cond.selects RX8 yX8_awaited yX8_awaited ∈ zW := List.mem_filter.mpr ⟨List.mem_of_getElem? (i := 29) (by decide +kernel), by decide +kernel⟩
theorem mwX8_awaited : zMw yX8_awaited cX8_awaited 4 (some .int) 1 := ⟨List.mem_filter.mpr ⟨List.mem_of_getElem? (i := 841) (by decide +kernel), by decide +kernel⟩, List.mem_filter.mpr ⟨List.mem_of_getElem? (i := 51) (by decide +kernel), by decide +kernel⟩, by decide +kernel⟩
theorem wmX8_85 : Cond.methodLink RX8 85 yX8_endsFor ∈ zW := List.mem_filter.mpr ⟨List.mem_of_getElem? (i := 850) (by decide +kernel), by decide +kernel⟩
theorem wiX8_endsFor : Cond.instanceMethod yX8_endsFor ∈ zW := List.mem_filter.mpr ⟨List.mem_of_getElem? (i := 852) (by decide +kernel), by decide +kernel⟩
theorem wsX8_endsFor : Cond.selects RX8 yX8_endsFor yX8_endsFor ∈ zW := List.mem_filter.mpr ⟨List.mem_of_getElem? (i := 31) (by decide +kernel), by decide +kernel⟩
theorem mwX8_endsFor : zMw yX8_endsFor cX8_endsFor 5 (some .int) 1 := ⟨List.mem_filter.mpr ⟨List.mem_of_getElem? (i := 853) (by decide +kernel), by decide +kernel⟩, List.mem_filter.mpr ⟨List.mem_of_getElem? (i := 51) (by decide +kernel), by decide +kernel⟩, by decide +kernel⟩
theorem wmX8_88 : Cond.methodLink RX8 88 yX8_hold ∈ zW := List.mem_filter.mpr ⟨List.mem_of_getElem? (i := 729) (by decide +kernel), by decide +kernel⟩
theorem wiX8_hold : Cond.instanceMethod yX8_hold ∈ zW := List.mem_filter.mpr ⟨List.mem_of_getElem? (i := 731) (by decide +kernel), by decide +kernel⟩
theorem wsX8_hold : Cond.selects RX8 yX8_hold yX8_hold ∈ zW := List.mem_filter.mpr ⟨List.mem_of_getElem? (i := 12) (by decide +kernel), by decide +kernel⟩
theorem mwX8_hold : zMw yX8_hold cX8_hold 2 none 0 := ⟨List.mem_filter.mpr ⟨List.mem_of_getElem? (i := 732) (by decide +kernel), by decide +kernel⟩, List.mem_filter.mpr ⟨List.mem_of_getElem? (i := 51) (by decide +kernel), by decide +kernel⟩, by decide +kernel⟩
theorem wmX8_91 : Cond.methodLink RX8 91 yX8_recorded ∈ zW := List.mem_filter.mpr ⟨List.mem_of_getElem? (i := 733) (by decide +kernel), by decide +kernel⟩
theorem wiX8_recorded : Cond.instanceMethod yX8_recorded ∈ zW := List.mem_filter.mpr ⟨List.mem_of_getElem? (i := 735) (by decide +kernel), by decide +kernel⟩
theorem wsX8_recorded : Cond.selects RX8 yX8_recorded yX8_recorded ∈ zW := List.mem_filter.mpr ⟨List.mem_of_getElem? (i := 13) (by decide +kernel), by decide +kernel⟩
theorem mwX8_recorded : zMw yX8_recorded cX8_recorded 3 (some .int) 1 := ⟨List.mem_filter.mpr ⟨List.mem_of_getElem? (i := 736) (by decide +kernel), by decide +kernel⟩, List.mem_filter.mpr ⟨List.mem_of_getElem? (i := 51) (by decide +kernel), by decide +kernel⟩, by decide +kernel⟩
theorem wmX8_94 : Cond.methodLink RX8 94 yX8_comesHere ∈ zW := List.mem_filter.mpr ⟨List.mem_of_getElem? (i := 748) (by decide +kernel), by decide +kernel⟩
theorem wiX8_comesHere : Cond.instanceMethod yX8_comesHere ∈ zW := List.mem_filter.mpr ⟨List.mem_of_getElem? (i := 750) (by decide +kernel), by decide +kernel⟩
theorem wsX8_comesHere : Cond.selects RX8 yX8_comesHere yX8_comesHere ∈ zW := List.mem_filter.mpr ⟨List.mem_of_getElem? (i := 14) (by decide +kernel), by decide +kernel⟩
theorem mwX8_comesHere : zMw yX8_comesHere cX8_comesHere 3 (some .int) 0 := ⟨List.mem_filter.mpr ⟨List.mem_of_getElem? (i := 751) (by decide +kernel), by decide +kernel⟩, List.mem_filter.mpr ⟨List.mem_of_getElem? (i := 51) (by decide +kernel), by decide +kernel⟩, by decide +kernel⟩
theorem wmX8_98 : Cond.methodLink RX8 98 yX8_gets ∈ zW := List.mem_filter.mpr ⟨List.mem_of_getElem? (i := 759) (by decide +kernel), by decide +kernel⟩
theorem wiX8_gets : Cond.instanceMethod yX8_gets ∈ zW := List.mem_filter.mpr ⟨List.mem_of_getElem? (i := 761) (by decide +kernel), by decide +kernel⟩
theorem wsX8_gets : Cond.selects RX8 yX8_gets yX8_gets ∈ zW := List.mem_filter.mpr ⟨List.mem_of_getElem? (i := 15) (by decide +kernel), by decide +kernel⟩
theorem mwX8_gets : zMw yX8_gets cX8_gets 3 (some .int) 2 := ⟨List.mem_filter.mpr ⟨List.mem_of_getElem? (i := 762) (by decide +kernel), by decide +kernel⟩, List.mem_filter.mpr ⟨List.mem_of_getElem? (i := 51) (by decide +kernel), by decide +kernel⟩, by decide +kernel⟩
theorem wmX8_101 : Cond.methodLink RX8 101 yX8_ordersOf ∈ zW := List.mem_filter.mpr ⟨List.mem_of_getElem? (i := 775) (by decide +kernel), by decide +kernel⟩
theorem wiX8_ordersOf : Cond.instanceMethod yX8_ordersOf ∈ zW := List.mem_filter.mpr ⟨List.mem_of_getElem? (i := 777) (by decide +kernel), by decide +kernel⟩
theorem wsX8_ordersOf : Cond.selects RX8 yX8_ordersOf yX8_ordersOf ∈ zW := List.mem_filter.mpr ⟨List.mem_of_getElem? (i := 18) (by decide +kernel), by decide +kernel⟩
theorem mwX8_ordersOf : zMw yX8_ordersOf cX8_ordersOf 5 (some .int) 3 := ⟨List.mem_filter.mpr ⟨List.mem_of_getElem? (i := 778) (by decide +kernel), by decide +kernel⟩, List.mem_filter.mpr ⟨List.mem_of_getElem? (i := 51) (by decide +kernel), by decide +kernel⟩, by decide +kernel⟩
theorem wmX8_104 : Cond.methodLink RX8 104 yX8_cooks ∈ zW := List.mem_filter.mpr ⟨List.mem_of_getElem? (i := 795) (by decide +kernel), by decide +kernel⟩
theorem wiX8_cooks : Cond.instanceMethod yX8_cooks ∈ zW := List.mem_filter.mpr ⟨List.mem_of_getElem? (i := 797) (by decide +kernel), by decide +kernel⟩
theorem wsX8_cooks : Cond.selects RX8 yX8_cooks yX8_cooks ∈ zW := List.mem_filter.mpr ⟨List.mem_of_getElem? (i := 21) (by decide +kernel), by decide +kernel⟩
theorem mwX8_cooks : zMw yX8_cooks cX8_cooks 4 (some .int) 0 := ⟨List.mem_filter.mpr ⟨List.mem_of_getElem? (i := 798) (by decide +kernel), by decide +kernel⟩, List.mem_filter.mpr ⟨List.mem_of_getElem? (i := 51) (by decide +kernel), by decide +kernel⟩, by decide +kernel⟩
theorem wmX8_107 : Cond.methodLink RX8 107 yX8_comes ∈ zW := List.mem_filter.mpr ⟨List.mem_of_getElem? (i := 818) (by decide +kernel), by decide +kernel⟩
theorem wiX8_comes : Cond.instanceMethod yX8_comes ∈ zW := List.mem_filter.mpr ⟨List.mem_of_getElem? (i := 820) (by decide +kernel), by decide +kernel⟩
theorem wsX8_comes : Cond.selects RX8 yX8_comes yX8_comes ∈ zW := List.mem_filter.mpr ⟨List.mem_of_getElem? (i := 25) (by decide +kernel), by decide +kernel⟩
theorem mwX8_comes : zMw yX8_comes cX8_comes 5 (some .int) 1 := ⟨List.mem_filter.mpr ⟨List.mem_of_getElem? (i := 821) (by decide +kernel), by decide +kernel⟩, List.mem_filter.mpr ⟨List.mem_of_getElem? (i := 51) (by decide +kernel), by decide +kernel⟩, by decide +kernel⟩
theorem wmX8_110 : Cond.methodLink RX8 110 yX8_buys ∈ zW := List.mem_filter.mpr ⟨List.mem_of_getElem? (i := 834) (by decide +kernel), by decide +kernel⟩
theorem wiX8_buys : Cond.instanceMethod yX8_buys ∈ zW := List.mem_filter.mpr ⟨List.mem_of_getElem? (i := 836) (by decide +kernel), by decide +kernel⟩
theorem wsX8_buys : Cond.selects RX8 yX8_buys yX8_buys ∈ zW := List.mem_filter.mpr ⟨List.mem_of_getElem? (i := 28) (by decide +kernel), by decide +kernel⟩
theorem mwX8_buys : zMw yX8_buys cX8_buys 6 (some .int) 2 := ⟨List.mem_filter.mpr ⟨List.mem_of_getElem? (i := 837) (by decide +kernel), by decide +kernel⟩, List.mem_filter.mpr ⟨List.mem_of_getElem? (i := 51) (by decide +kernel), by decide +kernel⟩, by decide +kernel⟩
theorem wmX8_113 : Cond.methodLink RX8 113 yX8_closes ∈ zW := List.mem_filter.mpr ⟨List.mem_of_getElem? (i := 846) (by decide +kernel), by decide +kernel⟩
theorem wiX8_closes : Cond.instanceMethod yX8_closes ∈ zW := List.mem_filter.mpr ⟨List.mem_of_getElem? (i := 848) (by decide +kernel), by decide +kernel⟩
theorem wsX8_closes : Cond.selects RX8 yX8_closes yX8_closes ∈ zW := List.mem_filter.mpr ⟨List.mem_of_getElem? (i := 30) (by decide +kernel), by decide +kernel⟩
theorem mwX8_closes : zMw yX8_closes cX8_closes 5 (some .int) 0 := ⟨List.mem_filter.mpr ⟨List.mem_of_getElem? (i := 849) (by decide +kernel), by decide +kernel⟩, List.mem_filter.mpr ⟨List.mem_of_getElem? (i := 51) (by decide +kernel), by decide +kernel⟩, by decide +kernel⟩
theorem wmX8_116 : Cond.methodLink RX8 116 yX8_daysOf ∈ zW := List.mem_filter.mpr ⟨List.mem_of_getElem? (i := 858) (by decide +kernel), by decide +kernel⟩
theorem wiX8_daysOf : Cond.instanceMethod yX8_daysOf ∈ zW := List.mem_filter.mpr ⟨List.mem_of_getElem? (i := 860) (by decide +kernel), by decide +kernel⟩
theorem wsX8_daysOf : Cond.selects RX8 yX8_daysOf yX8_daysOf ∈ zW := List.mem_filter.mpr ⟨List.mem_of_getElem? (i := 32) (by decide +kernel), by decide +kernel⟩
theorem mwX8_daysOf : zMw yX8_daysOf cX8_daysOf 4 (some .int) 1 := ⟨List.mem_filter.mpr ⟨List.mem_of_getElem? (i := 861) (by decide +kernel), by decide +kernel⟩, List.mem_filter.mpr ⟨List.mem_of_getElem? (i := 51) (by decide +kernel), by decide +kernel⟩, by decide +kernel⟩
theorem wmX8_119 : Cond.methodLink RX8 119 yX8_ofDishes ∈ zW := List.mem_filter.mpr ⟨List.mem_of_getElem? (i := 874) (by decide +kernel), by decide +kernel⟩
theorem wiX8_ofDishes : Cond.instanceMethod yX8_ofDishes ∈ zW := List.mem_filter.mpr ⟨List.mem_of_getElem? (i := 876) (by decide +kernel), by decide +kernel⟩
theorem wsX8_ofDishes : Cond.selects RX8 yX8_ofDishes yX8_ofDishes ∈ zW := List.mem_filter.mpr ⟨List.mem_of_getElem? (i := 33) (by decide +kernel), by decide +kernel⟩
theorem mwX8_ofDishes : zMw yX8_ofDishes cX8_ofDishes 4 (some .int) 1 := ⟨List.mem_filter.mpr ⟨List.mem_of_getElem? (i := 877) (by decide +kernel), by decide +kernel⟩, List.mem_filter.mpr ⟨List.mem_of_getElem? (i := 51) (by decide +kernel), by decide +kernel⟩, by decide +kernel⟩
theorem wmX8_122 : Cond.methodLink RX8 122 yX8_ofPeople ∈ zW := List.mem_filter.mpr ⟨List.mem_of_getElem? (i := 878) (by decide +kernel), by decide +kernel⟩
theorem wiX8_ofPeople : Cond.instanceMethod yX8_ofPeople ∈ zW := List.mem_filter.mpr ⟨List.mem_of_getElem? (i := 880) (by decide +kernel), by decide +kernel⟩
theorem wsX8_ofPeople : Cond.selects RX8 yX8_ofPeople yX8_ofPeople ∈ zW := List.mem_filter.mpr ⟨List.mem_of_getElem? (i := 34) (by decide +kernel), by decide +kernel⟩
theorem mwX8_ofPeople : zMw yX8_ofPeople cX8_ofPeople 5 (some .int) 1 := ⟨List.mem_filter.mpr ⟨List.mem_of_getElem? (i := 881) (by decide +kernel), by decide +kernel⟩, List.mem_filter.mpr ⟨List.mem_of_getElem? (i := 51) (by decide +kernel), by decide +kernel⟩, by decide +kernel⟩
theorem wfX8_125 : Cond.fieldLink RX8 125 "CanteenPlatesModel" "length" "I" ∈ zW := List.mem_filter.mpr ⟨List.mem_of_getElem? (i := 695) (by decide +kernel), by decide +kernel⟩
theorem wkX8_128 : Jvm.Cond.constant RX8 128 (100000 : Int32) ∈ zW := List.mem_filter.mpr ⟨List.mem_of_getElem? (i := 890) (by decide +kernel), by decide +kernel⟩
theorem wfX8_129 : Cond.fieldLink RX8 129 "CanteenPlatesModel" "at" "I" ∈ zW := List.mem_filter.mpr ⟨List.mem_of_getElem? (i := 698) (by decide +kernel), by decide +kernel⟩
theorem wfX8_29 : Cond.fieldLink RX8 29 "CanteenPlatesModel" "pad" "[C" ∈ zW := List.mem_filter.mpr ⟨List.mem_of_getElem? (i := 694) (by decide +kernel), by decide +kernel⟩
theorem wmX8_132 : Cond.methodLink RX8 132 yX8_isSign ∈ zW := List.mem_filter.mpr ⟨List.mem_of_getElem? (i := 926) (by decide +kernel), by decide +kernel⟩
theorem wiX8_isSign : Cond.instanceMethod yX8_isSign ∈ zW := List.mem_filter.mpr ⟨List.mem_of_getElem? (i := 928) (by decide +kernel), by decide +kernel⟩
theorem wsX8_isSign : Cond.selects RX8 yX8_isSign yX8_isSign ∈ zW := List.mem_filter.mpr ⟨List.mem_of_getElem? (i := 38) (by decide +kernel), by decide +kernel⟩
theorem mwX8_isSign : zMw yX8_isSign cX8_isSign 3 (some .boolean) 2 := ⟨List.mem_filter.mpr ⟨List.mem_of_getElem? (i := 929) (by decide +kernel), by decide +kernel⟩, List.mem_filter.mpr ⟨List.mem_of_getElem? (i := 51) (by decide +kernel), by decide +kernel⟩, by decide +kernel⟩
theorem wfX8_136 : Cond.fieldLink RX8 136 "CanteenPlatesModel" "orders" "I" ∈ zW := List.mem_filter.mpr ⟨List.mem_of_getElem? (i := 697) (by decide +kernel), by decide +kernel⟩
theorem wfX8_26 : Cond.fieldLink RX8 26 "CanteenPlatesModel" "read" "[I" ∈ zW := List.mem_filter.mpr ⟨List.mem_of_getElem? (i := 693) (by decide +kernel), by decide +kernel⟩
theorem wmX8_139 : Cond.methodLink RX8 139 yX8_accepts ∈ zW := List.mem_filter.mpr ⟨List.mem_of_getElem? (i := 922) (by decide +kernel), by decide +kernel⟩
theorem wiX8_accepts : Cond.instanceMethod yX8_accepts ∈ zW := List.mem_filter.mpr ⟨List.mem_of_getElem? (i := 924) (by decide +kernel), by decide +kernel⟩
theorem wsX8_accepts : Cond.selects RX8 yX8_accepts yX8_accepts ∈ zW := List.mem_filter.mpr ⟨List.mem_of_getElem? (i := 37) (by decide +kernel), by decide +kernel⟩
theorem mwX8_accepts : zMw yX8_accepts cX8_accepts 3 (some .boolean) 1 := ⟨List.mem_filter.mpr ⟨List.mem_of_getElem? (i := 925) (by decide +kernel), by decide +kernel⟩, List.mem_filter.mpr ⟨List.mem_of_getElem? (i := 51) (by decide +kernel), by decide +kernel⟩, by decide +kernel⟩
theorem wmX8_143 : Cond.methodLink RX8 143 yX8_number ∈ zW := List.mem_filter.mpr ⟨List.mem_of_getElem? (i := 930) (by decide +kernel), by decide +kernel⟩
theorem wiX8_number : Cond.instanceMethod yX8_number ∈ zW := List.mem_filter.mpr ⟨List.mem_of_getElem? (i := 932) (by decide +kernel), by decide +kernel⟩
theorem wsX8_number : Cond.selects RX8 yX8_number yX8_number ∈ zW := List.mem_filter.mpr ⟨List.mem_of_getElem? (i := 39) (by decide +kernel), by decide +kernel⟩
theorem mwX8_number : zMw yX8_number cX8_number 3 (some .boolean) 1 := ⟨List.mem_filter.mpr ⟨List.mem_of_getElem? (i := 933) (by decide +kernel), by decide +kernel⟩, List.mem_filter.mpr ⟨List.mem_of_getElem? (i := 51) (by decide +kernel), by decide +kernel⟩, by decide +kernel⟩
theorem wmX8_146 : Cond.methodLink RX8 146 yX8_sign ∈ zW := List.mem_filter.mpr ⟨List.mem_of_getElem? (i := 934) (by decide +kernel), by decide +kernel⟩
theorem wiX8_sign : Cond.instanceMethod yX8_sign ∈ zW := List.mem_filter.mpr ⟨List.mem_of_getElem? (i := 936) (by decide +kernel), by decide +kernel⟩
theorem wsX8_sign : Cond.selects RX8 yX8_sign yX8_sign ∈ zW := List.mem_filter.mpr ⟨List.mem_of_getElem? (i := 40) (by decide +kernel), by decide +kernel⟩
theorem mwX8_sign : zMw yX8_sign cX8_sign 5 (some .boolean) 3 := ⟨List.mem_filter.mpr ⟨List.mem_of_getElem? (i := 937) (by decide +kernel), by decide +kernel⟩, List.mem_filter.mpr ⟨List.mem_of_getElem? (i := 51) (by decide +kernel), by decide +kernel⟩, by decide +kernel⟩
theorem wmX8_150 : Cond.methodLink RX8 150 yX8_readsOrder ∈ zW := List.mem_filter.mpr ⟨List.mem_of_getElem? (i := 918) (by decide +kernel), by decide +kernel⟩
theorem wiX8_readsOrder : Cond.instanceMethod yX8_readsOrder ∈ zW := List.mem_filter.mpr ⟨List.mem_of_getElem? (i := 920) (by decide +kernel), by decide +kernel⟩
theorem wsX8_readsOrder : Cond.selects RX8 yX8_readsOrder yX8_readsOrder ∈ zW := List.mem_filter.mpr ⟨List.mem_of_getElem? (i := 36) (by decide +kernel), by decide +kernel⟩
theorem mwX8_readsOrder : zMw yX8_readsOrder cX8_readsOrder 3 (some .boolean) 0 := ⟨List.mem_filter.mpr ⟨List.mem_of_getElem? (i := 921) (by decide +kernel), by decide +kernel⟩, List.mem_filter.mpr ⟨List.mem_of_getElem? (i := 51) (by decide +kernel), by decide +kernel⟩, by decide +kernel⟩
theorem wkX8_154 : Jvm.Cond.constantLong RX8 154 (255 : Int64) ∈ zW := List.mem_filter.mpr ⟨List.mem_of_getElem? (i := 903) (by decide +kernel), by decide +kernel⟩
theorem wkX8_156 : Jvm.Cond.constantLong RX8 156 (33 : Int64) ∈ zW := List.mem_filter.mpr ⟨List.mem_of_getElem? (i := 904) (by decide +kernel), by decide +kernel⟩
theorem wkX8_158 : Jvm.Cond.constantLong RX8 158 (126 : Int64) ∈ zW := List.mem_filter.mpr ⟨List.mem_of_getElem? (i := 905) (by decide +kernel), by decide +kernel⟩
theorem wmX8_160 : Cond.methodLink RX8 160 yX8_faultOf ∈ zW := List.mem_filter.mpr ⟨List.mem_of_getElem? (i := 914) (by decide +kernel), by decide +kernel⟩
theorem wiX8_faultOf : Cond.instanceMethod yX8_faultOf ∈ zW := List.mem_filter.mpr ⟨List.mem_of_getElem? (i := 916) (by decide +kernel), by decide +kernel⟩
theorem wsX8_faultOf : Cond.selects RX8 yX8_faultOf yX8_faultOf ∈ zW := List.mem_filter.mpr ⟨List.mem_of_getElem? (i := 35) (by decide +kernel), by decide +kernel⟩
theorem mwX8_faultOf : zMw yX8_faultOf cX8_faultOf 2 (some .int) 0 := ⟨List.mem_filter.mpr ⟨List.mem_of_getElem? (i := 917) (by decide +kernel), by decide +kernel⟩, List.mem_filter.mpr ⟨List.mem_of_getElem? (i := 51) (by decide +kernel), by decide +kernel⟩, by decide +kernel⟩
theorem wmX8_163 : Cond.methodLink RX8 163 yX8_does ∈ zW := List.mem_filter.mpr ⟨List.mem_of_getElem? (i := 942) (by decide +kernel), by decide +kernel⟩
theorem wiX8_does : Cond.instanceMethod yX8_does ∈ zW := List.mem_filter.mpr ⟨List.mem_of_getElem? (i := 944) (by decide +kernel), by decide +kernel⟩
theorem wsX8_does : Cond.selects RX8 yX8_does yX8_does ∈ zW := List.mem_filter.mpr ⟨List.mem_of_getElem? (i := 41) (by decide +kernel), by decide +kernel⟩
theorem mwX8_does : zMw yX8_does cX8_does 3 (some .int) 1 := ⟨List.mem_filter.mpr ⟨List.mem_of_getElem? (i := 945) (by decide +kernel), by decide +kernel⟩, List.mem_filter.mpr ⟨List.mem_of_getElem? (i := 51) (by decide +kernel), by decide +kernel⟩, by decide +kernel⟩
theorem wfX8_22 : Cond.fieldLink RX8 22 "CanteenPlatesModel" "isSaved" "[Z" ∈ zW := List.mem_filter.mpr ⟨List.mem_of_getElem? (i := 692) (by decide +kernel), by decide +kernel⟩
theorem wfX8_19 : Cond.fieldLink RX8 19 "CanteenPlatesModel" "saved" "[I" ∈ zW := List.mem_filter.mpr ⟨List.mem_of_getElem? (i := 691) (by decide +kernel), by decide +kernel⟩
theorem wmL_13 : Cond.methodLink RL 13 yX7_set ∈ zW := List.mem_filter.mpr ⟨List.mem_of_getElem? (i := 261) (by decide +kernel), by decide +kernel⟩
theorem wiX7_set : Cond.instanceMethod yX7_set ∈ zW := List.mem_filter.mpr ⟨List.mem_of_getElem? (i := 262) (by decide +kernel), by decide +kernel⟩
theorem wsX7_set : Cond.selects RX7 yX7_set yX7_set ∈ zW := List.mem_filter.mpr ⟨List.mem_of_getElem? (i := 263) (by decide +kernel), by decide +kernel⟩
theorem mwX7_set : zMw yX7_set cX7_set 3 (some .int) 2 := ⟨List.mem_filter.mpr ⟨List.mem_of_getElem? (i := 264) (by decide +kernel), by decide +kernel⟩, List.mem_filter.mpr ⟨List.mem_of_getElem? (i := 43) (by decide +kernel), by decide +kernel⟩, by decide +kernel⟩
theorem wmL_17 : Cond.methodLink RL 17 yX8_set ∈ zW := List.mem_filter.mpr ⟨List.mem_of_getElem? (i := 722) (by decide +kernel), by decide +kernel⟩
theorem wiX8_set : Cond.instanceMethod yX8_set ∈ zW := List.mem_filter.mpr ⟨List.mem_of_getElem? (i := 723) (by decide +kernel), by decide +kernel⟩
theorem wsX8_set : Cond.selects RX8 yX8_set yX8_set ∈ zW := List.mem_filter.mpr ⟨List.mem_of_getElem? (i := 724) (by decide +kernel), by decide +kernel⟩
theorem mwX8_set : zMw yX8_set cX8_set 5 (some .int) 2 := ⟨List.mem_filter.mpr ⟨List.mem_of_getElem? (i := 725) (by decide +kernel), by decide +kernel⟩, List.mem_filter.mpr ⟨List.mem_of_getElem? (i := 51) (by decide +kernel), by decide +kernel⟩, by decide +kernel⟩
theorem wmL_18 : Cond.methodLink RL 18 yX7_price ∈ zW := List.mem_filter.mpr ⟨List.mem_of_getElem? (i := 301) (by decide +kernel), by decide +kernel⟩
theorem wiX7_price : Cond.instanceMethod yX7_price ∈ zW := List.mem_filter.mpr ⟨List.mem_of_getElem? (i := 302) (by decide +kernel), by decide +kernel⟩
theorem wsX7_price : Cond.selects RX7 yX7_price yX7_price ∈ zW := List.mem_filter.mpr ⟨List.mem_of_getElem? (i := 303) (by decide +kernel), by decide +kernel⟩
theorem mwX7_price : zMw yX7_price cX7_price 4 (some .int) 3 := ⟨List.mem_filter.mpr ⟨List.mem_of_getElem? (i := 304) (by decide +kernel), by decide +kernel⟩, List.mem_filter.mpr ⟨List.mem_of_getElem? (i := 43) (by decide +kernel), by decide +kernel⟩, by decide +kernel⟩
theorem wmL_22 : Cond.methodLink RL 22 yX8_price ∈ zW := List.mem_filter.mpr ⟨List.mem_of_getElem? (i := 737) (by decide +kernel), by decide +kernel⟩
theorem wiX8_price : Cond.instanceMethod yX8_price ∈ zW := List.mem_filter.mpr ⟨List.mem_of_getElem? (i := 738) (by decide +kernel), by decide +kernel⟩
theorem wsX8_price : Cond.selects RX8 yX8_price yX8_price ∈ zW := List.mem_filter.mpr ⟨List.mem_of_getElem? (i := 739) (by decide +kernel), by decide +kernel⟩
theorem mwX8_price : zMw yX8_price cX8_price 5 (some .int) 3 := ⟨List.mem_filter.mpr ⟨List.mem_of_getElem? (i := 740) (by decide +kernel), by decide +kernel⟩, List.mem_filter.mpr ⟨List.mem_of_getElem? (i := 51) (by decide +kernel), by decide +kernel⟩, by decide +kernel⟩
theorem wmL_23 : Cond.methodLink RL 23 yX7_person ∈ zW := List.mem_filter.mpr ⟨List.mem_of_getElem? (i := 313) (by decide +kernel), by decide +kernel⟩
theorem wiX7_person : Cond.instanceMethod yX7_person ∈ zW := List.mem_filter.mpr ⟨List.mem_of_getElem? (i := 314) (by decide +kernel), by decide +kernel⟩
theorem wsX7_person : Cond.selects RX7 yX7_person yX7_person ∈ zW := List.mem_filter.mpr ⟨List.mem_of_getElem? (i := 315) (by decide +kernel), by decide +kernel⟩
theorem mwX7_person : zMw yX7_person cX7_person 1 (some .int) 0 := ⟨List.mem_filter.mpr ⟨List.mem_of_getElem? (i := 316) (by decide +kernel), by decide +kernel⟩, List.mem_filter.mpr ⟨List.mem_of_getElem? (i := 43) (by decide +kernel), by decide +kernel⟩, by decide +kernel⟩
theorem wmL_27 : Cond.methodLink RL 27 yX8_person ∈ zW := List.mem_filter.mpr ⟨List.mem_of_getElem? (i := 744) (by decide +kernel), by decide +kernel⟩
theorem wiX8_person : Cond.instanceMethod yX8_person ∈ zW := List.mem_filter.mpr ⟨List.mem_of_getElem? (i := 745) (by decide +kernel), by decide +kernel⟩
theorem wsX8_person : Cond.selects RX8 yX8_person yX8_person ∈ zW := List.mem_filter.mpr ⟨List.mem_of_getElem? (i := 746) (by decide +kernel), by decide +kernel⟩
theorem mwX8_person : zMw yX8_person cX8_person 1 (some .int) 0 := ⟨List.mem_filter.mpr ⟨List.mem_of_getElem? (i := 747) (by decide +kernel), by decide +kernel⟩, List.mem_filter.mpr ⟨List.mem_of_getElem? (i := 51) (by decide +kernel), by decide +kernel⟩, by decide +kernel⟩
theorem wmL_28 : Cond.methodLink RL 28 yX7_vouchers ∈ zW := List.mem_filter.mpr ⟨List.mem_of_getElem? (i := 325) (by decide +kernel), by decide +kernel⟩
theorem wiX7_vouchers : Cond.instanceMethod yX7_vouchers ∈ zW := List.mem_filter.mpr ⟨List.mem_of_getElem? (i := 326) (by decide +kernel), by decide +kernel⟩
theorem wsX7_vouchers : Cond.selects RX7 yX7_vouchers yX7_vouchers ∈ zW := List.mem_filter.mpr ⟨List.mem_of_getElem? (i := 327) (by decide +kernel), by decide +kernel⟩
theorem mwX7_vouchers : zMw yX7_vouchers cX7_vouchers 3 (some .int) 2 := ⟨List.mem_filter.mpr ⟨List.mem_of_getElem? (i := 328) (by decide +kernel), by decide +kernel⟩, List.mem_filter.mpr ⟨List.mem_of_getElem? (i := 43) (by decide +kernel), by decide +kernel⟩, by decide +kernel⟩
theorem wmL_31 : Cond.methodLink RL 31 yX8_vouchers ∈ zW := List.mem_filter.mpr ⟨List.mem_of_getElem? (i := 755) (by decide +kernel), by decide +kernel⟩
theorem wiX8_vouchers : Cond.instanceMethod yX8_vouchers ∈ zW := List.mem_filter.mpr ⟨List.mem_of_getElem? (i := 756) (by decide +kernel), by decide +kernel⟩
theorem wsX8_vouchers : Cond.selects RX8 yX8_vouchers yX8_vouchers ∈ zW := List.mem_filter.mpr ⟨List.mem_of_getElem? (i := 757) (by decide +kernel), by decide +kernel⟩
theorem mwX8_vouchers : zMw yX8_vouchers cX8_vouchers 3 (some .int) 2 := ⟨List.mem_filter.mpr ⟨List.mem_of_getElem? (i := 758) (by decide +kernel), by decide +kernel⟩, List.mem_filter.mpr ⟨List.mem_of_getElem? (i := 51) (by decide +kernel), by decide +kernel⟩, by decide +kernel⟩
theorem wmL_32 : Cond.methodLink RL 32 yX7_order ∈ zW := List.mem_filter.mpr ⟨List.mem_of_getElem? (i := 342) (by decide +kernel), by decide +kernel⟩
theorem wiX7_order : Cond.instanceMethod yX7_order ∈ zW := List.mem_filter.mpr ⟨List.mem_of_getElem? (i := 343) (by decide +kernel), by decide +kernel⟩
theorem wsX7_order : Cond.selects RX7 yX7_order yX7_order ∈ zW := List.mem_filter.mpr ⟨List.mem_of_getElem? (i := 344) (by decide +kernel), by decide +kernel⟩
theorem mwX7_order : zMw yX7_order cX7_order 4 (some .int) 3 := ⟨List.mem_filter.mpr ⟨List.mem_of_getElem? (i := 345) (by decide +kernel), by decide +kernel⟩, List.mem_filter.mpr ⟨List.mem_of_getElem? (i := 43) (by decide +kernel), by decide +kernel⟩, by decide +kernel⟩
theorem wmL_35 : Cond.methodLink RL 35 yX8_order ∈ zW := List.mem_filter.mpr ⟨List.mem_of_getElem? (i := 771) (by decide +kernel), by decide +kernel⟩
theorem wiX8_order : Cond.instanceMethod yX8_order ∈ zW := List.mem_filter.mpr ⟨List.mem_of_getElem? (i := 772) (by decide +kernel), by decide +kernel⟩
theorem wsX8_order : Cond.selects RX8 yX8_order yX8_order ∈ zW := List.mem_filter.mpr ⟨List.mem_of_getElem? (i := 773) (by decide +kernel), by decide +kernel⟩
theorem mwX8_order : zMw yX8_order cX8_order 4 (some .int) 3 := ⟨List.mem_filter.mpr ⟨List.mem_of_getElem? (i := 774) (by decide +kernel), by decide +kernel⟩, List.mem_filter.mpr ⟨List.mem_of_getElem? (i := 51) (by decide +kernel), by decide +kernel⟩, by decide +kernel⟩
theorem wmL_36 : Cond.methodLink RL 36 yX7_callOff ∈ zW := List.mem_filter.mpr ⟨List.mem_of_getElem? (i := 370) (by decide +kernel), by decide +kernel⟩
theorem wiX7_callOff : Cond.instanceMethod yX7_callOff ∈ zW := List.mem_filter.mpr ⟨List.mem_of_getElem? (i := 371) (by decide +kernel), by decide +kernel⟩
theorem wsX7_callOff : Cond.selects RX7 yX7_callOff yX7_callOff ∈ zW := List.mem_filter.mpr ⟨List.mem_of_getElem? (i := 372) (by decide +kernel), by decide +kernel⟩
theorem mwX7_callOff : zMw yX7_callOff cX7_callOff 3 (some .int) 2 := ⟨List.mem_filter.mpr ⟨List.mem_of_getElem? (i := 373) (by decide +kernel), by decide +kernel⟩, List.mem_filter.mpr ⟨List.mem_of_getElem? (i := 43) (by decide +kernel), by decide +kernel⟩, by decide +kernel⟩
theorem wmL_39 : Cond.methodLink RL 39 yX8_callOff ∈ zW := List.mem_filter.mpr ⟨List.mem_of_getElem? (i := 787) (by decide +kernel), by decide +kernel⟩
theorem wiX8_callOff : Cond.instanceMethod yX8_callOff ∈ zW := List.mem_filter.mpr ⟨List.mem_of_getElem? (i := 788) (by decide +kernel), by decide +kernel⟩
theorem wsX8_callOff : Cond.selects RX8 yX8_callOff yX8_callOff ∈ zW := List.mem_filter.mpr ⟨List.mem_of_getElem? (i := 789) (by decide +kernel), by decide +kernel⟩
theorem mwX8_callOff : zMw yX8_callOff cX8_callOff 4 (some .int) 2 := ⟨List.mem_filter.mpr ⟨List.mem_of_getElem? (i := 790) (by decide +kernel), by decide +kernel⟩, List.mem_filter.mpr ⟨List.mem_of_getElem? (i := 51) (by decide +kernel), by decide +kernel⟩, by decide +kernel⟩
theorem wmL_40 : Cond.methodLink RL 40 yX7_cook ∈ zW := List.mem_filter.mpr ⟨List.mem_of_getElem? (i := 378) (by decide +kernel), by decide +kernel⟩
theorem wiX7_cook : Cond.instanceMethod yX7_cook ∈ zW := List.mem_filter.mpr ⟨List.mem_of_getElem? (i := 379) (by decide +kernel), by decide +kernel⟩
theorem wsX7_cook : Cond.selects RX7 yX7_cook yX7_cook ∈ zW := List.mem_filter.mpr ⟨List.mem_of_getElem? (i := 380) (by decide +kernel), by decide +kernel⟩
theorem mwX7_cook : zMw yX7_cook cX7_cook 1 (some .int) 0 := ⟨List.mem_filter.mpr ⟨List.mem_of_getElem? (i := 381) (by decide +kernel), by decide +kernel⟩, List.mem_filter.mpr ⟨List.mem_of_getElem? (i := 43) (by decide +kernel), by decide +kernel⟩, by decide +kernel⟩
theorem wmL_43 : Cond.methodLink RL 43 yX8_cook ∈ zW := List.mem_filter.mpr ⟨List.mem_of_getElem? (i := 791) (by decide +kernel), by decide +kernel⟩
theorem wiX8_cook : Cond.instanceMethod yX8_cook ∈ zW := List.mem_filter.mpr ⟨List.mem_of_getElem? (i := 792) (by decide +kernel), by decide +kernel⟩
theorem wsX8_cook : Cond.selects RX8 yX8_cook yX8_cook ∈ zW := List.mem_filter.mpr ⟨List.mem_of_getElem? (i := 793) (by decide +kernel), by decide +kernel⟩
theorem mwX8_cook : zMw yX8_cook cX8_cook 1 (some .int) 0 := ⟨List.mem_filter.mpr ⟨List.mem_of_getElem? (i := 794) (by decide +kernel), by decide +kernel⟩, List.mem_filter.mpr ⟨List.mem_of_getElem? (i := 51) (by decide +kernel), by decide +kernel⟩, by decide +kernel⟩
theorem wmL_44 : Cond.methodLink RL 44 yX7_come ∈ zW := List.mem_filter.mpr ⟨List.mem_of_getElem? (i := 405) (by decide +kernel), by decide +kernel⟩
theorem wiX7_come : Cond.instanceMethod yX7_come ∈ zW := List.mem_filter.mpr ⟨List.mem_of_getElem? (i := 406) (by decide +kernel), by decide +kernel⟩
theorem wsX7_come : Cond.selects RX7 yX7_come yX7_come ∈ zW := List.mem_filter.mpr ⟨List.mem_of_getElem? (i := 407) (by decide +kernel), by decide +kernel⟩
theorem mwX7_come : zMw yX7_come cX7_come 2 (some .int) 1 := ⟨List.mem_filter.mpr ⟨List.mem_of_getElem? (i := 408) (by decide +kernel), by decide +kernel⟩, List.mem_filter.mpr ⟨List.mem_of_getElem? (i := 43) (by decide +kernel), by decide +kernel⟩, by decide +kernel⟩
theorem wmL_48 : Cond.methodLink RL 48 yX8_come ∈ zW := List.mem_filter.mpr ⟨List.mem_of_getElem? (i := 814) (by decide +kernel), by decide +kernel⟩
theorem wiX8_come : Cond.instanceMethod yX8_come ∈ zW := List.mem_filter.mpr ⟨List.mem_of_getElem? (i := 815) (by decide +kernel), by decide +kernel⟩
theorem wsX8_come : Cond.selects RX8 yX8_come yX8_come ∈ zW := List.mem_filter.mpr ⟨List.mem_of_getElem? (i := 816) (by decide +kernel), by decide +kernel⟩
theorem mwX8_come : zMw yX8_come cX8_come 2 (some .int) 1 := ⟨List.mem_filter.mpr ⟨List.mem_of_getElem? (i := 817) (by decide +kernel), by decide +kernel⟩, List.mem_filter.mpr ⟨List.mem_of_getElem? (i := 51) (by decide +kernel), by decide +kernel⟩, by decide +kernel⟩
theorem wmL_49 : Cond.methodLink RL 49 yX7_buy ∈ zW := List.mem_filter.mpr ⟨List.mem_of_getElem? (i := 425) (by decide +kernel), by decide +kernel⟩
theorem wiX7_buy : Cond.instanceMethod yX7_buy ∈ zW := List.mem_filter.mpr ⟨List.mem_of_getElem? (i := 426) (by decide +kernel), by decide +kernel⟩
theorem wsX7_buy : Cond.selects RX7 yX7_buy yX7_buy ∈ zW := List.mem_filter.mpr ⟨List.mem_of_getElem? (i := 427) (by decide +kernel), by decide +kernel⟩
theorem mwX7_buy : zMw yX7_buy cX7_buy 3 (some .int) 2 := ⟨List.mem_filter.mpr ⟨List.mem_of_getElem? (i := 428) (by decide +kernel), by decide +kernel⟩, List.mem_filter.mpr ⟨List.mem_of_getElem? (i := 43) (by decide +kernel), by decide +kernel⟩, by decide +kernel⟩
theorem wmL_52 : Cond.methodLink RL 52 yX8_buy ∈ zW := List.mem_filter.mpr ⟨List.mem_of_getElem? (i := 830) (by decide +kernel), by decide +kernel⟩
theorem wiX8_buy : Cond.instanceMethod yX8_buy ∈ zW := List.mem_filter.mpr ⟨List.mem_of_getElem? (i := 831) (by decide +kernel), by decide +kernel⟩
theorem wsX8_buy : Cond.selects RX8 yX8_buy yX8_buy ∈ zW := List.mem_filter.mpr ⟨List.mem_of_getElem? (i := 832) (by decide +kernel), by decide +kernel⟩
theorem mwX8_buy : zMw yX8_buy cX8_buy 3 (some .int) 2 := ⟨List.mem_filter.mpr ⟨List.mem_of_getElem? (i := 833) (by decide +kernel), by decide +kernel⟩, List.mem_filter.mpr ⟨List.mem_of_getElem? (i := 51) (by decide +kernel), by decide +kernel⟩, by decide +kernel⟩
theorem wmL_53 : Cond.methodLink RL 53 yX7_close ∈ zW := List.mem_filter.mpr ⟨List.mem_of_getElem? (i := 437) (by decide +kernel), by decide +kernel⟩
theorem wiX7_close : Cond.instanceMethod yX7_close ∈ zW := List.mem_filter.mpr ⟨List.mem_of_getElem? (i := 438) (by decide +kernel), by decide +kernel⟩
theorem wsX7_close : Cond.selects RX7 yX7_close yX7_close ∈ zW := List.mem_filter.mpr ⟨List.mem_of_getElem? (i := 439) (by decide +kernel), by decide +kernel⟩
theorem mwX7_close : zMw yX7_close cX7_close 1 (some .int) 0 := ⟨List.mem_filter.mpr ⟨List.mem_of_getElem? (i := 440) (by decide +kernel), by decide +kernel⟩, List.mem_filter.mpr ⟨List.mem_of_getElem? (i := 43) (by decide +kernel), by decide +kernel⟩, by decide +kernel⟩
theorem wmL_56 : Cond.methodLink RL 56 yX8_close ∈ zW := List.mem_filter.mpr ⟨List.mem_of_getElem? (i := 842) (by decide +kernel), by decide +kernel⟩
theorem wiX8_close : Cond.instanceMethod yX8_close ∈ zW := List.mem_filter.mpr ⟨List.mem_of_getElem? (i := 843) (by decide +kernel), by decide +kernel⟩
theorem wsX8_close : Cond.selects RX8 yX8_close yX8_close ∈ zW := List.mem_filter.mpr ⟨List.mem_of_getElem? (i := 844) (by decide +kernel), by decide +kernel⟩
theorem mwX8_close : zMw yX8_close cX8_close 1 (some .int) 0 := ⟨List.mem_filter.mpr ⟨List.mem_of_getElem? (i := 845) (by decide +kernel), by decide +kernel⟩, List.mem_filter.mpr ⟨List.mem_of_getElem? (i := 51) (by decide +kernel), by decide +kernel⟩, by decide +kernel⟩
theorem wmL_57 : Cond.methodLink RL 57 yX7_of ∈ zW := List.mem_filter.mpr ⟨List.mem_of_getElem? (i := 468) (by decide +kernel), by decide +kernel⟩
theorem wiX7_of : Cond.instanceMethod yX7_of ∈ zW := List.mem_filter.mpr ⟨List.mem_of_getElem? (i := 469) (by decide +kernel), by decide +kernel⟩
theorem wsX7_of : Cond.selects RX7 yX7_of yX7_of ∈ zW := List.mem_filter.mpr ⟨List.mem_of_getElem? (i := 470) (by decide +kernel), by decide +kernel⟩
theorem mwX7_of : zMw yX7_of cX7_of 3 (some .int) 2 := ⟨List.mem_filter.mpr ⟨List.mem_of_getElem? (i := 471) (by decide +kernel), by decide +kernel⟩, List.mem_filter.mpr ⟨List.mem_of_getElem? (i := 43) (by decide +kernel), by decide +kernel⟩, by decide +kernel⟩
theorem wmL_60 : Cond.methodLink RL 60 yX8_of ∈ zW := List.mem_filter.mpr ⟨List.mem_of_getElem? (i := 854) (by decide +kernel), by decide +kernel⟩
theorem wiX8_of : Cond.instanceMethod yX8_of ∈ zW := List.mem_filter.mpr ⟨List.mem_of_getElem? (i := 855) (by decide +kernel), by decide +kernel⟩
theorem wsX8_of : Cond.selects RX8 yX8_of yX8_of ∈ zW := List.mem_filter.mpr ⟨List.mem_of_getElem? (i := 856) (by decide +kernel), by decide +kernel⟩
theorem mwX8_of : zMw yX8_of cX8_of 4 (some .int) 2 := ⟨List.mem_filter.mpr ⟨List.mem_of_getElem? (i := 857) (by decide +kernel), by decide +kernel⟩, List.mem_filter.mpr ⟨List.mem_of_getElem? (i := 51) (by decide +kernel), by decide +kernel⟩, by decide +kernel⟩
theorem wmL_61 : Cond.methodLink RL 61 yX7_ofDish ∈ zW := List.mem_filter.mpr ⟨List.mem_of_getElem? (i := 484) (by decide +kernel), by decide +kernel⟩
theorem wiX7_ofDish : Cond.instanceMethod yX7_ofDish ∈ zW := List.mem_filter.mpr ⟨List.mem_of_getElem? (i := 485) (by decide +kernel), by decide +kernel⟩
theorem wsX7_ofDish : Cond.selects RX7 yX7_ofDish yX7_ofDish ∈ zW := List.mem_filter.mpr ⟨List.mem_of_getElem? (i := 486) (by decide +kernel), by decide +kernel⟩
theorem mwX7_ofDish : zMw yX7_ofDish cX7_ofDish 3 (some .int) 2 := ⟨List.mem_filter.mpr ⟨List.mem_of_getElem? (i := 487) (by decide +kernel), by decide +kernel⟩, List.mem_filter.mpr ⟨List.mem_of_getElem? (i := 43) (by decide +kernel), by decide +kernel⟩, by decide +kernel⟩
theorem wmL_64 : Cond.methodLink RL 64 yX8_ofDish ∈ zW := List.mem_filter.mpr ⟨List.mem_of_getElem? (i := 862) (by decide +kernel), by decide +kernel⟩
theorem wiX8_ofDish : Cond.instanceMethod yX8_ofDish ∈ zW := List.mem_filter.mpr ⟨List.mem_of_getElem? (i := 863) (by decide +kernel), by decide +kernel⟩
theorem wsX8_ofDish : Cond.selects RX8 yX8_ofDish yX8_ofDish ∈ zW := List.mem_filter.mpr ⟨List.mem_of_getElem? (i := 864) (by decide +kernel), by decide +kernel⟩
theorem mwX8_ofDish : zMw yX8_ofDish cX8_ofDish 3 (some .int) 2 := ⟨List.mem_filter.mpr ⟨List.mem_of_getElem? (i := 865) (by decide +kernel), by decide +kernel⟩, List.mem_filter.mpr ⟨List.mem_of_getElem? (i := 51) (by decide +kernel), by decide +kernel⟩, by decide +kernel⟩
theorem wmL_65 : Cond.methodLink RL 65 yX7_ordered ∈ zW := List.mem_filter.mpr ⟨List.mem_of_getElem? (i := 492) (by decide +kernel), by decide +kernel⟩
theorem wiX7_ordered : Cond.instanceMethod yX7_ordered ∈ zW := List.mem_filter.mpr ⟨List.mem_of_getElem? (i := 493) (by decide +kernel), by decide +kernel⟩
theorem wsX7_ordered : Cond.selects RX7 yX7_ordered yX7_ordered ∈ zW := List.mem_filter.mpr ⟨List.mem_of_getElem? (i := 494) (by decide +kernel), by decide +kernel⟩
theorem mwX7_ordered : zMw yX7_ordered cX7_ordered 3 (some .int) 2 := ⟨List.mem_filter.mpr ⟨List.mem_of_getElem? (i := 495) (by decide +kernel), by decide +kernel⟩, List.mem_filter.mpr ⟨List.mem_of_getElem? (i := 43) (by decide +kernel), by decide +kernel⟩, by decide +kernel⟩
theorem wmL_68 : Cond.methodLink RL 68 yX8_ordered ∈ zW := List.mem_filter.mpr ⟨List.mem_of_getElem? (i := 866) (by decide +kernel), by decide +kernel⟩
theorem wiX8_ordered : Cond.instanceMethod yX8_ordered ∈ zW := List.mem_filter.mpr ⟨List.mem_of_getElem? (i := 867) (by decide +kernel), by decide +kernel⟩
theorem wsX8_ordered : Cond.selects RX8 yX8_ordered yX8_ordered ∈ zW := List.mem_filter.mpr ⟨List.mem_of_getElem? (i := 868) (by decide +kernel), by decide +kernel⟩
theorem mwX8_ordered : zMw yX8_ordered cX8_ordered 5 (some .int) 2 := ⟨List.mem_filter.mpr ⟨List.mem_of_getElem? (i := 869) (by decide +kernel), by decide +kernel⟩, List.mem_filter.mpr ⟨List.mem_of_getElem? (i := 51) (by decide +kernel), by decide +kernel⟩, by decide +kernel⟩
theorem wmL_69 : Cond.methodLink RL 69 yX7_count ∈ zW := List.mem_filter.mpr ⟨List.mem_of_getElem? (i := 500) (by decide +kernel), by decide +kernel⟩
theorem wiX7_count : Cond.instanceMethod yX7_count ∈ zW := List.mem_filter.mpr ⟨List.mem_of_getElem? (i := 501) (by decide +kernel), by decide +kernel⟩
theorem wsX7_count : Cond.selects RX7 yX7_count yX7_count ∈ zW := List.mem_filter.mpr ⟨List.mem_of_getElem? (i := 502) (by decide +kernel), by decide +kernel⟩
theorem mwX7_count : zMw yX7_count cX7_count 2 (some .int) 1 := ⟨List.mem_filter.mpr ⟨List.mem_of_getElem? (i := 503) (by decide +kernel), by decide +kernel⟩, List.mem_filter.mpr ⟨List.mem_of_getElem? (i := 43) (by decide +kernel), by decide +kernel⟩, by decide +kernel⟩
theorem wmL_72 : Cond.methodLink RL 72 yX8_count ∈ zW := List.mem_filter.mpr ⟨List.mem_of_getElem? (i := 870) (by decide +kernel), by decide +kernel⟩
theorem wiX8_count : Cond.instanceMethod yX8_count ∈ zW := List.mem_filter.mpr ⟨List.mem_of_getElem? (i := 871) (by decide +kernel), by decide +kernel⟩
theorem wsX8_count : Cond.selects RX8 yX8_count yX8_count ∈ zW := List.mem_filter.mpr ⟨List.mem_of_getElem? (i := 872) (by decide +kernel), by decide +kernel⟩
theorem mwX8_count : zMw yX8_count cX8_count 2 (some .int) 1 := ⟨List.mem_filter.mpr ⟨List.mem_of_getElem? (i := 873) (by decide +kernel), by decide +kernel⟩, List.mem_filter.mpr ⟨List.mem_of_getElem? (i := 51) (by decide +kernel), by decide +kernel⟩, by decide +kernel⟩
theorem wmL_73 : Cond.methodLink RL 73 yX7_why ∈ zW := List.mem_filter.mpr ⟨List.mem_of_getElem? (i := 529) (by decide +kernel), by decide +kernel⟩
theorem wiX7_why : Cond.instanceMethod yX7_why ∈ zW := List.mem_filter.mpr ⟨List.mem_of_getElem? (i := 530) (by decide +kernel), by decide +kernel⟩
theorem wsX7_why : Cond.selects RX7 yX7_why yX7_why ∈ zW := List.mem_filter.mpr ⟨List.mem_of_getElem? (i := 531) (by decide +kernel), by decide +kernel⟩
theorem mwX7_why : zMw yX7_why cX7_why 4 (some .int) 3 := ⟨List.mem_filter.mpr ⟨List.mem_of_getElem? (i := 532) (by decide +kernel), by decide +kernel⟩, List.mem_filter.mpr ⟨List.mem_of_getElem? (i := 43) (by decide +kernel), by decide +kernel⟩, by decide +kernel⟩
theorem wmL_76 : Cond.methodLink RL 76 yX8_why ∈ zW := List.mem_filter.mpr ⟨List.mem_of_getElem? (i := 882) (by decide +kernel), by decide +kernel⟩
theorem wiX8_why : Cond.instanceMethod yX8_why ∈ zW := List.mem_filter.mpr ⟨List.mem_of_getElem? (i := 883) (by decide +kernel), by decide +kernel⟩
theorem wsX8_why : Cond.selects RX8 yX8_why yX8_why ∈ zW := List.mem_filter.mpr ⟨List.mem_of_getElem? (i := 884) (by decide +kernel), by decide +kernel⟩
theorem mwX8_why : zMw yX8_why cX8_why 4 (some .int) 3 := ⟨List.mem_filter.mpr ⟨List.mem_of_getElem? (i := 885) (by decide +kernel), by decide +kernel⟩, List.mem_filter.mpr ⟨List.mem_of_getElem? (i := 51) (by decide +kernel), by decide +kernel⟩, by decide +kernel⟩
theorem wmL_77 : Cond.methodLink RL 77 yX7_unsurest ∈ zW := List.mem_filter.mpr ⟨List.mem_of_getElem? (i := 534) (by decide +kernel), by decide +kernel⟩
theorem wiX7_unsurest : Cond.instanceMethod yX7_unsurest ∈ zW := List.mem_filter.mpr ⟨List.mem_of_getElem? (i := 535) (by decide +kernel), by decide +kernel⟩
theorem wsX7_unsurest : Cond.selects RX7 yX7_unsurest yX7_unsurest ∈ zW := List.mem_filter.mpr ⟨List.mem_of_getElem? (i := 536) (by decide +kernel), by decide +kernel⟩
theorem mwX7_unsurest : zMw yX7_unsurest cX7_unsurest 2 (some .int) 1 := ⟨List.mem_filter.mpr ⟨List.mem_of_getElem? (i := 537) (by decide +kernel), by decide +kernel⟩, List.mem_filter.mpr ⟨List.mem_of_getElem? (i := 43) (by decide +kernel), by decide +kernel⟩, by decide +kernel⟩
theorem wmL_80 : Cond.methodLink RL 80 yX8_unsurest ∈ zW := List.mem_filter.mpr ⟨List.mem_of_getElem? (i := 886) (by decide +kernel), by decide +kernel⟩
theorem wiX8_unsurest : Cond.instanceMethod yX8_unsurest ∈ zW := List.mem_filter.mpr ⟨List.mem_of_getElem? (i := 887) (by decide +kernel), by decide +kernel⟩
theorem wsX8_unsurest : Cond.selects RX8 yX8_unsurest yX8_unsurest ∈ zW := List.mem_filter.mpr ⟨List.mem_of_getElem? (i := 888) (by decide +kernel), by decide +kernel⟩
theorem mwX8_unsurest : zMw yX8_unsurest cX8_unsurest 7 (some .int) 1 := ⟨List.mem_filter.mpr ⟨List.mem_of_getElem? (i := 889) (by decide +kernel), by decide +kernel⟩, List.mem_filter.mpr ⟨List.mem_of_getElem? (i := 51) (by decide +kernel), by decide +kernel⟩, by decide +kernel⟩
theorem wmL_81 : Cond.methodLink RL 81 yX7_firstOrder ∈ zW := List.mem_filter.mpr ⟨List.mem_of_getElem? (i := 547) (by decide +kernel), by decide +kernel⟩
theorem wiX7_firstOrder : Cond.instanceMethod yX7_firstOrder ∈ zW := List.mem_filter.mpr ⟨List.mem_of_getElem? (i := 548) (by decide +kernel), by decide +kernel⟩
theorem wsX7_firstOrder : Cond.selects RX7 yX7_firstOrder yX7_firstOrder ∈ zW := List.mem_filter.mpr ⟨List.mem_of_getElem? (i := 549) (by decide +kernel), by decide +kernel⟩
theorem mwX7_firstOrder : zMw yX7_firstOrder cX7_firstOrder 2 (some .int) 1 := ⟨List.mem_filter.mpr ⟨List.mem_of_getElem? (i := 550) (by decide +kernel), by decide +kernel⟩, List.mem_filter.mpr ⟨List.mem_of_getElem? (i := 43) (by decide +kernel), by decide +kernel⟩, by decide +kernel⟩
theorem wmL_84 : Cond.methodLink RL 84 yX8_firstOrder ∈ zW := List.mem_filter.mpr ⟨List.mem_of_getElem? (i := 891) (by decide +kernel), by decide +kernel⟩
theorem wiX8_firstOrder : Cond.instanceMethod yX8_firstOrder ∈ zW := List.mem_filter.mpr ⟨List.mem_of_getElem? (i := 892) (by decide +kernel), by decide +kernel⟩
theorem wsX8_firstOrder : Cond.selects RX8 yX8_firstOrder yX8_firstOrder ∈ zW := List.mem_filter.mpr ⟨List.mem_of_getElem? (i := 893) (by decide +kernel), by decide +kernel⟩
theorem mwX8_firstOrder : zMw yX8_firstOrder cX8_firstOrder 4 (some .int) 1 := ⟨List.mem_filter.mpr ⟨List.mem_of_getElem? (i := 894) (by decide +kernel), by decide +kernel⟩, List.mem_filter.mpr ⟨List.mem_of_getElem? (i := 51) (by decide +kernel), by decide +kernel⟩, by decide +kernel⟩
theorem wmL_85 : Cond.methodLink RL 85 yX7_wasted ∈ zW := List.mem_filter.mpr ⟨List.mem_of_getElem? (i := 555) (by decide +kernel), by decide +kernel⟩
theorem wiX7_wasted : Cond.instanceMethod yX7_wasted ∈ zW := List.mem_filter.mpr ⟨List.mem_of_getElem? (i := 556) (by decide +kernel), by decide +kernel⟩
theorem wsX7_wasted : Cond.selects RX7 yX7_wasted yX7_wasted ∈ zW := List.mem_filter.mpr ⟨List.mem_of_getElem? (i := 557) (by decide +kernel), by decide +kernel⟩
theorem mwX7_wasted : zMw yX7_wasted cX7_wasted 1 (some .int) 0 := ⟨List.mem_filter.mpr ⟨List.mem_of_getElem? (i := 558) (by decide +kernel), by decide +kernel⟩, List.mem_filter.mpr ⟨List.mem_of_getElem? (i := 43) (by decide +kernel), by decide +kernel⟩, by decide +kernel⟩
theorem wmL_88 : Cond.methodLink RL 88 yX8_wasted ∈ zW := List.mem_filter.mpr ⟨List.mem_of_getElem? (i := 895) (by decide +kernel), by decide +kernel⟩
theorem wiX8_wasted : Cond.instanceMethod yX8_wasted ∈ zW := List.mem_filter.mpr ⟨List.mem_of_getElem? (i := 896) (by decide +kernel), by decide +kernel⟩
theorem wsX8_wasted : Cond.selects RX8 yX8_wasted yX8_wasted ∈ zW := List.mem_filter.mpr ⟨List.mem_of_getElem? (i := 897) (by decide +kernel), by decide +kernel⟩
theorem mwX8_wasted : zMw yX8_wasted cX8_wasted 6 (some .int) 0 := ⟨List.mem_filter.mpr ⟨List.mem_of_getElem? (i := 898) (by decide +kernel), by decide +kernel⟩, List.mem_filter.mpr ⟨List.mem_of_getElem? (i := 51) (by decide +kernel), by decide +kernel⟩, by decide +kernel⟩
theorem wkL_89 : Jvm.Cond.constantLong RL 89 (4294967295 : Int64) ∈ zW := List.mem_filter.mpr ⟨List.mem_of_getElem? (i := 958) (by decide +kernel), by decide +kernel⟩
theorem wmL_91 : Cond.methodLink RL 91 yX7_put ∈ zW := List.mem_filter.mpr ⟨List.mem_of_getElem? (i := 567) (by decide +kernel), by decide +kernel⟩
theorem wiX7_put : Cond.instanceMethod yX7_put ∈ zW := List.mem_filter.mpr ⟨List.mem_of_getElem? (i := 568) (by decide +kernel), by decide +kernel⟩
theorem wsX7_put : Cond.selects RX7 yX7_put yX7_put ∈ zW := List.mem_filter.mpr ⟨List.mem_of_getElem? (i := 569) (by decide +kernel), by decide +kernel⟩
theorem mwX7_put : zMw yX7_put cX7_put 3 (some .int) 1 := ⟨List.mem_filter.mpr ⟨List.mem_of_getElem? (i := 570) (by decide +kernel), by decide +kernel⟩, List.mem_filter.mpr ⟨List.mem_of_getElem? (i := 43) (by decide +kernel), by decide +kernel⟩, by decide +kernel⟩
theorem wmL_95 : Cond.methodLink RL 95 yX8_put ∈ zW := List.mem_filter.mpr ⟨List.mem_of_getElem? (i := 899) (by decide +kernel), by decide +kernel⟩
theorem wiX8_put : Cond.instanceMethod yX8_put ∈ zW := List.mem_filter.mpr ⟨List.mem_of_getElem? (i := 900) (by decide +kernel), by decide +kernel⟩
theorem wsX8_put : Cond.selects RX8 yX8_put yX8_put ∈ zW := List.mem_filter.mpr ⟨List.mem_of_getElem? (i := 901) (by decide +kernel), by decide +kernel⟩
theorem mwX8_put : zMw yX8_put cX8_put 8 (some .int) 1 := ⟨List.mem_filter.mpr ⟨List.mem_of_getElem? (i := 902) (by decide +kernel), by decide +kernel⟩, List.mem_filter.mpr ⟨List.mem_of_getElem? (i := 51) (by decide +kernel), by decide +kernel⟩, by decide +kernel⟩
theorem wmL_96 : Cond.methodLink RL 96 yX7_wipe ∈ zW := List.mem_filter.mpr ⟨List.mem_of_getElem? (i := 581) (by decide +kernel), by decide +kernel⟩
theorem wiX7_wipe : Cond.instanceMethod yX7_wipe ∈ zW := List.mem_filter.mpr ⟨List.mem_of_getElem? (i := 582) (by decide +kernel), by decide +kernel⟩
theorem wsX7_wipe : Cond.selects RX7 yX7_wipe yX7_wipe ∈ zW := List.mem_filter.mpr ⟨List.mem_of_getElem? (i := 583) (by decide +kernel), by decide +kernel⟩
theorem mwX7_wipe : zMw yX7_wipe cX7_wipe 1 (some .int) 0 := ⟨List.mem_filter.mpr ⟨List.mem_of_getElem? (i := 584) (by decide +kernel), by decide +kernel⟩, List.mem_filter.mpr ⟨List.mem_of_getElem? (i := 43) (by decide +kernel), by decide +kernel⟩, by decide +kernel⟩
theorem wmL_99 : Cond.methodLink RL 99 yX8_wipe ∈ zW := List.mem_filter.mpr ⟨List.mem_of_getElem? (i := 906) (by decide +kernel), by decide +kernel⟩
theorem wiX8_wipe : Cond.instanceMethod yX8_wipe ∈ zW := List.mem_filter.mpr ⟨List.mem_of_getElem? (i := 907) (by decide +kernel), by decide +kernel⟩
theorem wsX8_wipe : Cond.selects RX8 yX8_wipe yX8_wipe ∈ zW := List.mem_filter.mpr ⟨List.mem_of_getElem? (i := 908) (by decide +kernel), by decide +kernel⟩
theorem mwX8_wipe : zMw yX8_wipe cX8_wipe 2 (some .int) 0 := ⟨List.mem_filter.mpr ⟨List.mem_of_getElem? (i := 909) (by decide +kernel), by decide +kernel⟩, List.mem_filter.mpr ⟨List.mem_of_getElem? (i := 51) (by decide +kernel), by decide +kernel⟩, by decide +kernel⟩
theorem wmL_100 : Cond.methodLink RL 100 yX7_fault ∈ zW := List.mem_filter.mpr ⟨List.mem_of_getElem? (i := 589) (by decide +kernel), by decide +kernel⟩
theorem wiX7_fault : Cond.instanceMethod yX7_fault ∈ zW := List.mem_filter.mpr ⟨List.mem_of_getElem? (i := 590) (by decide +kernel), by decide +kernel⟩
theorem wsX7_fault : Cond.selects RX7 yX7_fault yX7_fault ∈ zW := List.mem_filter.mpr ⟨List.mem_of_getElem? (i := 591) (by decide +kernel), by decide +kernel⟩
theorem mwX7_fault : zMw yX7_fault cX7_fault 1 (some .int) 0 := ⟨List.mem_filter.mpr ⟨List.mem_of_getElem? (i := 592) (by decide +kernel), by decide +kernel⟩, List.mem_filter.mpr ⟨List.mem_of_getElem? (i := 43) (by decide +kernel), by decide +kernel⟩, by decide +kernel⟩
theorem wmL_103 : Cond.methodLink RL 103 yX8_fault ∈ zW := List.mem_filter.mpr ⟨List.mem_of_getElem? (i := 910) (by decide +kernel), by decide +kernel⟩
theorem wiX8_fault : Cond.instanceMethod yX8_fault ∈ zW := List.mem_filter.mpr ⟨List.mem_of_getElem? (i := 911) (by decide +kernel), by decide +kernel⟩
theorem wsX8_fault : Cond.selects RX8 yX8_fault yX8_fault ∈ zW := List.mem_filter.mpr ⟨List.mem_of_getElem? (i := 912) (by decide +kernel), by decide +kernel⟩
theorem mwX8_fault : zMw yX8_fault cX8_fault 2 (some .int) 0 := ⟨List.mem_filter.mpr ⟨List.mem_of_getElem? (i := 913) (by decide +kernel), by decide +kernel⟩, List.mem_filter.mpr ⟨List.mem_of_getElem? (i := 51) (by decide +kernel), by decide +kernel⟩, by decide +kernel⟩
theorem wmL_104 : Cond.methodLink RL 104 yX7_carryOut ∈ zW := List.mem_filter.mpr ⟨List.mem_of_getElem? (i := 642) (by decide +kernel), by decide +kernel⟩
theorem wiX7_carryOut : Cond.instanceMethod yX7_carryOut ∈ zW := List.mem_filter.mpr ⟨List.mem_of_getElem? (i := 643) (by decide +kernel), by decide +kernel⟩
theorem wsX7_carryOut : Cond.selects RX7 yX7_carryOut yX7_carryOut ∈ zW := List.mem_filter.mpr ⟨List.mem_of_getElem? (i := 644) (by decide +kernel), by decide +kernel⟩
theorem mwX7_carryOut : zMw yX7_carryOut cX7_carryOut 2 (some .int) 0 := ⟨List.mem_filter.mpr ⟨List.mem_of_getElem? (i := 645) (by decide +kernel), by decide +kernel⟩, List.mem_filter.mpr ⟨List.mem_of_getElem? (i := 43) (by decide +kernel), by decide +kernel⟩, by decide +kernel⟩
theorem wmL_107 : Cond.methodLink RL 107 yX8_carryOut ∈ zW := List.mem_filter.mpr ⟨List.mem_of_getElem? (i := 938) (by decide +kernel), by decide +kernel⟩
theorem wiX8_carryOut : Cond.instanceMethod yX8_carryOut ∈ zW := List.mem_filter.mpr ⟨List.mem_of_getElem? (i := 939) (by decide +kernel), by decide +kernel⟩
theorem wsX8_carryOut : Cond.selects RX8 yX8_carryOut yX8_carryOut ∈ zW := List.mem_filter.mpr ⟨List.mem_of_getElem? (i := 940) (by decide +kernel), by decide +kernel⟩
theorem mwX8_carryOut : zMw yX8_carryOut cX8_carryOut 3 (some .int) 0 := ⟨List.mem_filter.mpr ⟨List.mem_of_getElem? (i := 941) (by decide +kernel), by decide +kernel⟩, List.mem_filter.mpr ⟨List.mem_of_getElem? (i := 51) (by decide +kernel), by decide +kernel⟩, by decide +kernel⟩
theorem wmL_108 : Cond.methodLink RL 108 yX7_undo ∈ zW := List.mem_filter.mpr ⟨List.mem_of_getElem? (i := 657) (by decide +kernel), by decide +kernel⟩
theorem wiX7_undo : Cond.instanceMethod yX7_undo ∈ zW := List.mem_filter.mpr ⟨List.mem_of_getElem? (i := 658) (by decide +kernel), by decide +kernel⟩
theorem wsX7_undo : Cond.selects RX7 yX7_undo yX7_undo ∈ zW := List.mem_filter.mpr ⟨List.mem_of_getElem? (i := 659) (by decide +kernel), by decide +kernel⟩
theorem mwX7_undo : zMw yX7_undo cX7_undo 1 (some .int) 0 := ⟨List.mem_filter.mpr ⟨List.mem_of_getElem? (i := 660) (by decide +kernel), by decide +kernel⟩, List.mem_filter.mpr ⟨List.mem_of_getElem? (i := 43) (by decide +kernel), by decide +kernel⟩, by decide +kernel⟩
theorem wmL_111 : Cond.methodLink RL 111 yX8_undo ∈ zW := List.mem_filter.mpr ⟨List.mem_of_getElem? (i := 946) (by decide +kernel), by decide +kernel⟩
theorem wiX8_undo : Cond.instanceMethod yX8_undo ∈ zW := List.mem_filter.mpr ⟨List.mem_of_getElem? (i := 947) (by decide +kernel), by decide +kernel⟩
theorem wsX8_undo : Cond.selects RX8 yX8_undo yX8_undo ∈ zW := List.mem_filter.mpr ⟨List.mem_of_getElem? (i := 948) (by decide +kernel), by decide +kernel⟩
theorem mwX8_undo : zMw yX8_undo cX8_undo 2 (some .int) 0 := ⟨List.mem_filter.mpr ⟨List.mem_of_getElem? (i := 949) (by decide +kernel), by decide +kernel⟩, List.mem_filter.mpr ⟨List.mem_of_getElem? (i := 51) (by decide +kernel), by decide +kernel⟩, by decide +kernel⟩
theorem wmL_112 : Cond.methodLink RL 112 yX7_save ∈ zW := List.mem_filter.mpr ⟨List.mem_of_getElem? (i := 665) (by decide +kernel), by decide +kernel⟩
theorem wiX7_save : Cond.instanceMethod yX7_save ∈ zW := List.mem_filter.mpr ⟨List.mem_of_getElem? (i := 666) (by decide +kernel), by decide +kernel⟩
theorem wsX7_save : Cond.selects RX7 yX7_save yX7_save ∈ zW := List.mem_filter.mpr ⟨List.mem_of_getElem? (i := 667) (by decide +kernel), by decide +kernel⟩
theorem mwX7_save : zMw yX7_save cX7_save 2 (some .int) 1 := ⟨List.mem_filter.mpr ⟨List.mem_of_getElem? (i := 668) (by decide +kernel), by decide +kernel⟩, List.mem_filter.mpr ⟨List.mem_of_getElem? (i := 43) (by decide +kernel), by decide +kernel⟩, by decide +kernel⟩
theorem wmL_115 : Cond.methodLink RL 115 yX8_save ∈ zW := List.mem_filter.mpr ⟨List.mem_of_getElem? (i := 950) (by decide +kernel), by decide +kernel⟩
theorem wiX8_save : Cond.instanceMethod yX8_save ∈ zW := List.mem_filter.mpr ⟨List.mem_of_getElem? (i := 951) (by decide +kernel), by decide +kernel⟩
theorem wsX8_save : Cond.selects RX8 yX8_save yX8_save ∈ zW := List.mem_filter.mpr ⟨List.mem_of_getElem? (i := 952) (by decide +kernel), by decide +kernel⟩
theorem mwX8_save : zMw yX8_save cX8_save 3 (some .int) 1 := ⟨List.mem_filter.mpr ⟨List.mem_of_getElem? (i := 953) (by decide +kernel), by decide +kernel⟩, List.mem_filter.mpr ⟨List.mem_of_getElem? (i := 51) (by decide +kernel), by decide +kernel⟩, by decide +kernel⟩
theorem wmL_116 : Cond.methodLink RL 116 yX7_restore ∈ zW := List.mem_filter.mpr ⟨List.mem_of_getElem? (i := 674) (by decide +kernel), by decide +kernel⟩
theorem wiX7_restore : Cond.instanceMethod yX7_restore ∈ zW := List.mem_filter.mpr ⟨List.mem_of_getElem? (i := 675) (by decide +kernel), by decide +kernel⟩
theorem wsX7_restore : Cond.selects RX7 yX7_restore yX7_restore ∈ zW := List.mem_filter.mpr ⟨List.mem_of_getElem? (i := 676) (by decide +kernel), by decide +kernel⟩
theorem mwX7_restore : zMw yX7_restore cX7_restore 2 (some .int) 1 := ⟨List.mem_filter.mpr ⟨List.mem_of_getElem? (i := 677) (by decide +kernel), by decide +kernel⟩, List.mem_filter.mpr ⟨List.mem_of_getElem? (i := 43) (by decide +kernel), by decide +kernel⟩, by decide +kernel⟩
theorem wmL_119 : Cond.methodLink RL 119 yX8_restore ∈ zW := List.mem_filter.mpr ⟨List.mem_of_getElem? (i := 954) (by decide +kernel), by decide +kernel⟩
theorem wiX8_restore : Cond.instanceMethod yX8_restore ∈ zW := List.mem_filter.mpr ⟨List.mem_of_getElem? (i := 955) (by decide +kernel), by decide +kernel⟩
theorem wsX8_restore : Cond.selects RX8 yX8_restore yX8_restore ∈ zW := List.mem_filter.mpr ⟨List.mem_of_getElem? (i := 956) (by decide +kernel), by decide +kernel⟩
theorem mwX8_restore : zMw yX8_restore cX8_restore 3 (some .int) 1 := ⟨List.mem_filter.mpr ⟨List.mem_of_getElem? (i := 957) (by decide +kernel), by decide +kernel⟩, List.mem_filter.mpr ⟨List.mem_of_getElem? (i := 51) (by decide +kernel), by decide +kernel⟩, by decide +kernel⟩
theorem wt_max : Cond.static Lib.Math.max.name ∈ zW := List.mem_filter.mpr ⟨List.mem_of_getElem? (i := 399) (by decide +kernel), by decide +kernel⟩
theorem wk_max : Cond.code Lib.Math.max.name Lib.Math.max.code 2 (some .int) ∈ zW := List.mem_filter.mpr ⟨List.mem_of_getElem? (i := 400) (by decide +kernel), by decide +kernel⟩
theorem wt_min : Cond.static Lib.Math.min.name ∈ zW := List.mem_filter.mpr ⟨List.mem_of_getElem? (i := 299) (by decide +kernel), by decide +kernel⟩
theorem wk_min : Cond.code Lib.Math.min.name Lib.Math.min.code 2 (some .int) ∈ zW := List.mem_filter.mpr ⟨List.mem_of_getElem? (i := 300) (by decide +kernel), by decide +kernel⟩
theorem wc_Math : Cond.initialized "java/lang/Math" ∈ zW := List.mem_filter.mpr ⟨List.mem_of_getElem? (i := 53) (by decide +kernel), by decide +kernel⟩
theorem wc_Sys : Cond.initialized "java/lang/System" ∈ zW := List.mem_filter.mpr ⟨List.mem_of_getElem? (i := 52) (by decide +kernel), by decide +kernel⟩
theorem wc_anat : Cond.native arraycopyName ∈ zW := List.mem_filter.mpr ⟨List.mem_of_getElem? (i := 275) (by decide +kernel), by decide +kernel⟩
theorem wc_asta : Cond.static arraycopyName ∈ zW := List.mem_filter.mpr ⟨List.mem_of_getElem? (i := 274) (by decide +kernel), by decide +kernel⟩
theorem zc0 : zCls 0 RX0 TX0 6 tyX0 := ⟨rfl, fun w hw => List.mem_filter.mpr ((by decide +kernel : ∀ w ∈ u_ws RX0 TX0 6, w ∈ lw_tbl ∧ goodWord w = true) w hw), tyX0_ok, nmX0, rfl, rfl⟩
theorem zc1 : zCls 1 RX1 TX1 6 tyX1 := ⟨rfl, fun w hw => List.mem_filter.mpr ((by decide +kernel : ∀ w ∈ u_ws RX1 TX1 6, w ∈ lw_tbl ∧ goodWord w = true) w hw), tyX1_ok, nmX1, rfl, rfl⟩
theorem zc2 : zCls 2 RX2 TX2 3 tyX2 := ⟨rfl, fun w hw => List.mem_filter.mpr ((by decide +kernel : ∀ w ∈ u_ws RX2 TX2 3, w ∈ lw_tbl ∧ goodWord w = true) w hw), tyX2_ok, nmX2, rfl, rfl⟩
theorem zc3 : zCls 3 RX3 TX3 7 tyX3 := ⟨rfl, fun w hw => List.mem_filter.mpr ((by decide +kernel : ∀ w ∈ u_ws RX3 TX3 7, w ∈ lw_tbl ∧ goodWord w = true) w hw), tyX3_ok, nmX3, rfl, rfl⟩
theorem zc4 : zCls 4 RX4 TX4 2 tyX4 := ⟨rfl, fun w hw => List.mem_filter.mpr ((by decide +kernel : ∀ w ∈ u_ws RX4 TX4 2, w ∈ lw_tbl ∧ goodWord w = true) w hw), tyX4_ok, nmX4, rfl, rfl⟩
theorem zc5 : zCls 5 RX5 TX5 9 tyX5 := ⟨rfl, fun w hw => List.mem_filter.mpr ((by decide +kernel : ∀ w ∈ u_ws RX5 TX5 9, w ∈ lw_tbl ∧ goodWord w = true) w hw), tyX5_ok, nmX5, rfl, rfl⟩
theorem zc6 : zCls 6 RX6 TX6 2 tyX6 := ⟨rfl, fun w hw => List.mem_filter.mpr ((by decide +kernel : ∀ w ∈ u_ws RX6 TX6 2, w ∈ lw_tbl ∧ goodWord w = true) w hw), tyX6_ok, nmX6, rfl, rfl⟩
theorem zc7 : zCls 7 RX7 TX7 5 tyX7 := ⟨rfl, fun w hw => List.mem_filter.mpr ((by decide +kernel : ∀ w ∈ u_ws RX7 TX7 5, w ∈ lw_tbl ∧ goodWord w = true) w hw), tyX7_ok, nmX7, rfl, rfl⟩
theorem zc8 : zCls 8 RX8 TX8 11 tyX8 := ⟨rfl, fun w hw => List.mem_filter.mpr ((by decide +kernel : ∀ w ∈ u_ws RX8 TX8 11, w ∈ lw_tbl ∧ goodWord w = true) w hw), tyX8_ok, nmX8, rfl, rfl⟩
