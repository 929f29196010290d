theorem wmL_13 : Cond.methodLink RL 13 yX7_set ∈ zW := List.mem_filter.mpr ⟨List.mem_of_getElem? (i := 261) (by decide +kernel), by decide +kernel⟩
theorem wiX7_set : Cond.instanceMethod yX7_set ∈ zW := List.mem_filter.mpr ⟨List.mem_of_getElem? (i := 262) (by decide +kernel), by decide +kernel⟩
theorem wsX7_set : Cond.selects RX7 yX7_set yX7_set ∈ zW := List.mem_filter.mpr ⟨List.mem_of_getElem? (i := 263) (by decide +kernel), by decide +kernel⟩
theorem mwX7_set : zMw yX7_set cX7_set 3 (some .int) 2 := ⟨List.mem_filter.mpr ⟨List.mem_of_getElem? (i := 264) (by decide +kernel), by decide +kernel⟩, List.mem_filter.mpr ⟨List.mem_of_getElem? (i := 43) (by decide +kernel), by decide +kernel⟩, by decide +kernel⟩
theorem wmL_17 : Cond.methodLink RL 17 yX8_set ∈ zW := List.mem_filter.mpr ⟨List.mem_of_getElem? (i := 722) (by decide +kernel), by decide +kernel⟩
theorem wiX8_set : Cond.instanceMethod yX8_set ∈ zW := List.mem_filter.mpr ⟨List.mem_of_getElem? (i := 723) (by decide +kernel), by decide +kernel⟩
theorem wsX8_set : Cond.selects RX8 yX8_set yX8_set ∈ zW := List.mem_filter.mpr ⟨List.mem_of_getElem? (i := 724) (by decide +kernel), by decide +kernel⟩
theorem mwX8_set : zMw yX8_set cX8_set 5 (some .int) 2 := ⟨List.mem_filter.mpr ⟨List.mem_of_getElem? (i := 725) (by decide +kernel), by decide +kernel⟩, List.mem_filter.mpr ⟨List.mem_of_getElem? (i := 51) (by decide +kernel), by decide +kernel⟩, by decide +kernel⟩
theorem wmL_18 : Cond.methodLink RL 18 yX7_price ∈ zW := List.mem_filter.mpr ⟨List.mem_of_getElem? (i := 301) (by decide +kernel), by decide +kernel⟩
theorem wiX7_price : Cond.instanceMethod yX7_price ∈ zW := List.mem_filter.mpr ⟨List.mem_of_getElem? (i := 302) (by decide +kernel), by decide +kernel⟩
theorem wsX7_price : Cond.selects RX7 yX7_price yX7_price ∈ zW := List.mem_filter.mpr ⟨List.mem_of_getElem? (i := 303) (by decide +kernel), by decide +kernel⟩
theorem mwX7_price : zMw yX7_price cX7_price 4 (some .int) 3 := ⟨List.mem_filter.mpr ⟨List.mem_of_getElem? (i := 304) (by decide +kernel), by decide +kernel⟩, List.mem_filter.mpr ⟨List.mem_of_getElem? (i := 43) (by decide +kernel), by decide +kernel⟩, by decide +kernel⟩
theorem wmL_22 : Cond.methodLink RL 22 yX8_price ∈ zW := List.mem_filter.mpr ⟨List.mem_of_getElem? (i := 737) (by decide +kernel), by decide +kernel⟩
theorem wiX8_price : Cond.instanceMethod yX8_price ∈ zW := List.mem_filter.mpr ⟨List.mem_of_getElem? (i := 738) (by decide +kernel), by decide +kernel⟩
theorem wsX8_price : Cond.selects RX8 yX8_price yX8_price ∈ zW := List.mem_filter.mpr ⟨List.mem_of_getElem? (i := 739) (by decide +kernel), by decide +kernel⟩
theorem mwX8_price : zMw yX8_price cX8_price 5 (some .int) 3 := ⟨List.mem_filter.mpr ⟨List.mem_of_getElem? (i := 740) (by decide +kernel), by decide +kernel⟩, List.mem_filter.mpr ⟨List.mem_of_getElem? (i := 51) (by decide +kernel), by decide +kernel⟩, by decide +kernel⟩
theorem wmL_23 : Cond.methodLink RL 23 yX7_person ∈ zW := List.mem_filter.mpr ⟨List.mem_of_getElem? (i := 313) (by decide +kernel), by decide +kernel⟩
theorem wiX7_person : Cond.instanceMethod yX7_person ∈ zW := List.mem_filter.mpr ⟨List.mem_of_getElem? (i := 314) (by decide +kernel), by decide +kernel⟩
theorem wsX7_person : Cond.selects RX7 yX7_person yX7_person ∈ zW := List.mem_filter.mpr ⟨List.mem_of_getElem? (i := 315) (by decide +kernel), by decide +kernel⟩
theorem mwX7_person : zMw yX7_person cX7_person 1 (some .int) 0 := ⟨List.mem_filter.mpr ⟨List.mem_of_getElem? (i := 316) (by decide +kernel), by decide +kernel⟩, List.mem_filter.mpr ⟨List.mem_of_getElem? (i := 43) (by decide +kernel), by decide +kernel⟩, by decide +kernel⟩
theorem wmL_27 : Cond.methodLink RL 27 yX8_person ∈ zW := List.mem_filter.mpr ⟨List.mem_of_getElem? (i := 744) (by decide +kernel), by decide +kernel⟩
theorem wiX8_person : Cond.instanceMethod yX8_person ∈ zW := List.mem_filter.mpr ⟨List.mem_of_getElem? (i := 745) (by decide +kernel), by decide +kernel⟩
theorem wsX8_person : Cond.selects RX8 yX8_person yX8_person ∈ zW := List.mem_filter.mpr ⟨List.mem_of_getElem? (i := 746) (by decide +kernel), by decide +kernel⟩
theorem mwX8_person : zMw yX8_person cX8_person 1 (some .int) 0 := ⟨List.mem_filter.mpr ⟨List.mem_of_getElem? (i := 747) (by decide +kernel), by decide +kernel⟩, List.mem_filter.mpr ⟨List.mem_of_getElem? (i := 51) (by decide +kernel), by decide +kernel⟩, by decide +kernel⟩
theorem wmL_28 : Cond.methodLink RL 28 yX7_vouchers ∈ zW := List.mem_filter.mpr ⟨List.mem_of_getElem? (i := 325) (by decide +kernel), by decide +kernel⟩
theorem wiX7_vouchers : Cond.instanceMethod yX7_vouchers ∈ zW := List.mem_filter.mpr ⟨List.mem_of_getElem? (i := 326) (by decide +kernel), by decide +kernel⟩
theorem wsX7_vouchers : Cond.selects RX7 yX7_vouchers yX7_vouchers ∈ zW := List.mem_filter.mpr ⟨List.mem_of_getElem? (i := 327) (by decide +kernel), by decide +kernel⟩
theorem mwX7_vouchers : zMw yX7_vouchers cX7_vouchers 3 (some .int) 2 := ⟨List.mem_filter.mpr ⟨List.mem_of_getElem? (i := 328) (by decide +kernel), by decide +kernel⟩, List.mem_filter.mpr ⟨List.mem_of_getElem? (i := 43) (by decide +kernel), by decide +kernel⟩, by decide +kernel⟩
theorem wmL_31 : Cond.methodLink RL 31 yX8_vouchers ∈ zW := List.mem_filter.mpr ⟨List.mem_of_getElem? (i := 755) (by decide +kernel), by decide +kernel⟩
theorem wiX8_vouchers : Cond.instanceMethod yX8_vouchers ∈ zW := List.mem_filter.mpr ⟨List.mem_of_getElem? (i := 756) (by decide +kernel), by decide +kernel⟩
theorem wsX8_vouchers : Cond.selects RX8 yX8_vouchers yX8_vouchers ∈ zW := List.mem_filter.mpr ⟨List.mem_of_getElem? (i := 757) (by decide +kernel), by decide +kernel⟩
theorem mwX8_vouchers : zMw yX8_vouchers cX8_vouchers 3 (some .int) 2 := ⟨List.mem_filter.mpr ⟨List.mem_of_getElem? (i := 758) (by decide +kernel), by decide +kernel⟩, List.mem_filter.mpr ⟨List.mem_of_getElem? (i := 51) (by decide +kernel), by decide +kernel⟩, by decide +kernel⟩
theorem wmL_32 : Cond.methodLink RL 32 yX7_order ∈ zW := List.mem_filter.mpr ⟨List.mem_of_getElem? (i := 342) (by decide +kernel), by decide +kernel⟩
theorem wiX7_order : Cond.instanceMethod yX7_order ∈ zW := List.mem_filter.mpr ⟨List.mem_of_getElem? (i := 343) (by decide +kernel), by decide +kernel⟩
theorem wsX7_order : Cond.selects RX7 yX7_order yX7_order ∈ zW := List.mem_filter.mpr ⟨List.mem_of_getElem? (i := 344) (by decide +kernel), by decide +kernel⟩
theorem mwX7_order : zMw yX7_order cX7_order 4 (some .int) 3 := ⟨List.mem_filter.mpr ⟨List.mem_of_getElem? (i := 345) (by decide +kernel), by decide +kernel⟩, List.mem_filter.mpr ⟨List.mem_of_getElem? (i := 43) (by decide +kernel), by decide +kernel⟩, by decide +kernel⟩
theorem wmL_35 : Cond.methodLink RL 35 yX8_order ∈ zW := List.mem_filter.mpr ⟨List.mem_of_getElem? (i := 771) (by decide +kernel), by decide +kernel⟩
theorem wiX8_order : Cond.instanceMethod yX8_order ∈ zW := List.mem_filter.mpr ⟨List.mem_of_getElem? (i := 772) (by decide +kernel), by decide +kernel⟩
theorem wsX8_order : Cond.selects RX8 yX8_order yX8_order ∈ zW := List.mem_filter.mpr ⟨List.mem_of_getElem? (i := 773) (by decide +kernel), by decide +kernel⟩
theorem mwX8_order : zMw yX8_order cX8_order 4 (some .int) 3 := ⟨List.mem_filter.mpr ⟨List.mem_of_getElem? (i := 774) (by decide +kernel), by decide +kernel⟩, List.mem_filter.mpr ⟨List.mem_of_getElem? (i := 51) (by decide +kernel), by decide +kernel⟩, by decide +kernel⟩
theorem wmL_36 : Cond.methodLink RL 36 yX7_callOff ∈ zW := List.mem_filter.mpr ⟨List.mem_of_getElem? (i := 370) (by decide +kernel), by decide +kernel⟩
theorem wiX7_callOff : Cond.instanceMethod yX7_callOff ∈ zW := List.mem_filter.mpr ⟨List.mem_of_getElem? (i := 371) (by decide +kernel), by decide +kernel⟩
theorem wsX7_callOff : Cond.selects RX7 yX7_callOff yX7_callOff ∈ zW := List.mem_filter.mpr ⟨List.mem_of_getElem? (i := 372) (by decide +kernel), by decide +kernel⟩
theorem mwX7_callOff : zMw yX7_callOff cX7_callOff 3 (some .int) 2 := ⟨List.mem_filter.mpr ⟨List.mem_of_getElem? (i := 373) (by decide +kernel), by decide +kernel⟩, List.mem_filter.mpr ⟨List.mem_of_getElem? (i := 43) (by decide +kernel), by decide +kernel⟩, by decide +kernel⟩
theorem wmL_39 : Cond.methodLink RL 39 yX8_callOff ∈ zW := List.mem_filter.mpr ⟨List.mem_of_getElem? (i := 787) (by decide +kernel), by decide +kernel⟩
theorem wiX8_callOff : Cond.instanceMethod yX8_callOff ∈ zW := List.mem_filter.mpr ⟨List.mem_of_getElem? (i := 788) (by decide +kernel), by decide +kernel⟩
theorem wsX8_callOff : Cond.selects RX8 yX8_callOff yX8_callOff ∈ zW := List.mem_filter.mpr ⟨List.mem_of_getElem? (i := 789) (by decide +kernel), by decide +kernel⟩
theorem mwX8_callOff : zMw yX8_callOff cX8_callOff 4 (some .int) 2 := ⟨List.mem_filter.mpr ⟨List.mem_of_getElem? (i := 790) (by decide +kernel), by decide +kernel⟩, List.mem_filter.mpr ⟨List.mem_of_getElem? (i := 51) (by decide +kernel), by decide +kernel⟩, by decide +kernel⟩
theorem wmL_40 : Cond.methodLink RL 40 yX7_cook ∈ zW := List.mem_filter.mpr ⟨List.mem_of_getElem? (i := 378) (by decide +kernel), by decide +kernel⟩
theorem wiX7_cook : Cond.instanceMethod yX7_cook ∈ zW := List.mem_filter.mpr ⟨List.mem_of_getElem? (i := 379) (by decide +kernel), by decide +kernel⟩
theorem wsX7_cook : Cond.selects RX7 yX7_cook yX7_cook ∈ zW := List.mem_filter.mpr ⟨List.mem_of_getElem? (i := 380) (by decide +kernel), by decide +kernel⟩
theorem mwX7_cook : zMw yX7_cook cX7_cook 1 (some .int) 0 := ⟨List.mem_filter.mpr ⟨List.mem_of_getElem? (i := 381) (by decide +kernel), by decide +kernel⟩, List.mem_filter.mpr ⟨List.mem_of_getElem? (i := 43) (by decide +kernel), by decide +kernel⟩, by decide +kernel⟩
theorem wmL_43 : Cond.methodLink RL 43 yX8_cook ∈ zW := List.mem_filter.mpr ⟨List.mem_of_getElem? (i := 791) (by decide +kernel), by decide +kernel⟩
theorem wiX8_cook : Cond.instanceMethod yX8_cook ∈ zW := List.mem_filter.mpr ⟨List.mem_of_getElem? (i := 792) (by decide +kernel), by decide +kernel⟩
theorem wsX8_cook : Cond.selects RX8 yX8_cook yX8_cook ∈ zW := List.mem_filter.mpr ⟨List.mem_of_getElem? (i := 793) (by decide +kernel), by decide +kernel⟩
theorem mwX8_cook : zMw yX8_cook cX8_cook 1 (some .int) 0 := ⟨List.mem_filter.mpr ⟨List.mem_of_getElem? (i := 794) (by decide +kernel), by decide +kernel⟩, List.mem_filter.mpr ⟨List.mem_of_getElem? (i := 51) (by decide +kernel), by decide +kernel⟩, by decide +kernel⟩
theorem wmL_44 : Cond.methodLink RL 44 yX7_come ∈ zW := List.mem_filter.mpr ⟨List.mem_of_getElem? (i := 405) (by decide +kernel), by decide +kernel⟩
theorem wiX7_come : Cond.instanceMethod yX7_come ∈ zW := List.mem_filter.mpr ⟨List.mem_of_getElem? (i := 406) (by decide +kernel), by decide +kernel⟩
theorem wsX7_come : Cond.selects RX7 yX7_come yX7_come ∈ zW := List.mem_filter.mpr ⟨List.mem_of_getElem? (i := 407) (by decide +kernel), by decide +kernel⟩
theorem mwX7_come : zMw yX7_come cX7_come 2 (some .int) 1 := ⟨List.mem_filter.mpr ⟨List.mem_of_getElem? (i := 408) (by decide +kernel), by decide +kernel⟩, List.mem_filter.mpr ⟨List.mem_of_getElem? (i := 43) (by decide +kernel), by decide +kernel⟩, by decide +kernel⟩
theorem wmL_48 : Cond.methodLink RL 48 yX8_come ∈ zW := List.mem_filter.mpr ⟨List.mem_of_getElem? (i := 814) (by decide +kernel), by decide +kernel⟩
theorem wiX8_come : Cond.instanceMethod yX8_come ∈ zW := List.mem_filter.mpr ⟨List.mem_of_getElem? (i := 815) (by decide +kernel), by decide +kernel⟩
theorem wsX8_come : Cond.selects RX8 yX8_come yX8_come ∈ zW := List.mem_filter.mpr ⟨List.mem_of_getElem? (i := 816) (by decide +kernel), by decide +kernel⟩
theorem mwX8_come : zMw yX8_come cX8_come 2 (some .int) 1 := ⟨List.mem_filter.mpr ⟨List.mem_of_getElem? (i := 817) (by decide +kernel), by decide +kernel⟩, List.mem_filter.mpr ⟨List.mem_of_getElem? (i := 51) (by decide +kernel), by decide +kernel⟩, by decide +kernel⟩
theorem wmL_49 : Cond.methodLink RL 49 yX7_buy ∈ zW := List.mem_filter.mpr ⟨List.mem_of_getElem? (i := 425) (by decide +kernel), by decide +kernel⟩
theorem wiX7_buy : Cond.instanceMethod yX7_buy ∈ zW := List.mem_filter.mpr ⟨List.mem_of_getElem? (i := 426) (by decide +kernel), by decide +kernel⟩
theorem wsX7_buy : Cond.selects RX7 yX7_buy yX7_buy ∈ zW := List.mem_filter.mpr ⟨List.mem_of_getElem? (i := 427) (by decide +kernel), by decide +kernel⟩
theorem mwX7_buy : zMw yX7_buy cX7_buy 3 (some .int) 2 := ⟨List.mem_filter.mpr ⟨List.mem_of_getElem? (i := 428) (by decide +kernel), by decide +kernel⟩, List.mem_filter.mpr ⟨List.mem_of_getElem? (i := 43) (by decide +kernel), by decide +kernel⟩, by decide +kernel⟩
theorem wmL_52 : Cond.methodLink RL 52 yX8_buy ∈ zW := List.mem_filter.mpr ⟨List.mem_of_getElem? (i := 830) (by decide +kernel), by decide +kernel⟩
theorem wiX8_buy : Cond.instanceMethod yX8_buy ∈ zW := List.mem_filter.mpr ⟨List.mem_of_getElem? (i := 831) (by decide +kernel), by decide +kernel⟩
theorem wsX8_buy : Cond.selects RX8 yX8_buy yX8_buy ∈ zW := List.mem_filter.mpr ⟨List.mem_of_getElem? (i := 832) (by decide +kernel), by decide +kernel⟩
theorem mwX8_buy : zMw yX8_buy cX8_buy 3 (some .int) 2 := ⟨List.mem_filter.mpr ⟨List.mem_of_getElem? (i := 833) (by decide +kernel), by decide +kernel⟩, List.mem_filter.mpr ⟨List.mem_of_getElem? (i := 51) (by decide +kernel), by decide +kernel⟩, by decide +kernel⟩
theorem wmL_53 : Cond.methodLink RL 53 yX7_close ∈ zW := List.mem_filter.mpr ⟨List.mem_of_getElem? (i := 437) (by decide +kernel), by decide +kernel⟩
theorem wiX7_close : Cond.instanceMethod yX7_close ∈ zW := List.mem_filter.mpr ⟨List.mem_of_getElem? (i := 438) (by decide +kernel), by decide +kernel⟩
theorem wsX7_close : Cond.selects RX7 yX7_close yX7_close ∈ zW := List.mem_filter.mpr ⟨List.mem_of_getElem? (i := 439) (by decide +kernel), by decide +kernel⟩
theorem mwX7_close : zMw yX7_close cX7_close 1 (some .int) 0 := ⟨List.mem_filter.mpr ⟨List.mem_of_getElem? (i := 440) (by decide +kernel), by decide +kernel⟩, List.mem_filter.mpr ⟨List.mem_of_getElem? (i := 43) (by decide +kernel), by decide +kernel⟩, by decide +kernel⟩
theorem wmL_56 : Cond.methodLink RL 56 yX8_close ∈ zW := List.mem_filter.mpr ⟨List.mem_of_getElem? (i := 842) (by decide +kernel), by decide +kernel⟩
theorem wiX8_close : Cond.instanceMethod yX8_close ∈ zW := List.mem_filter.mpr ⟨List.mem_of_getElem? (i := 843) (by decide +kernel), by decide +kernel⟩
theorem wsX8_close : Cond.selects RX8 yX8_close yX8_close ∈ zW := List.mem_filter.mpr ⟨List.mem_of_getElem? (i := 844) (by decide +kernel), by decide +kernel⟩
theorem mwX8_close : zMw yX8_close cX8_close 1 (some .int) 0 := ⟨List.mem_filter.mpr ⟨List.mem_of_getElem? (i := 845) (by decide +kernel), by decide +kernel⟩, List.mem_filter.mpr ⟨List.mem_of_getElem? (i := 51) (by decide +kernel), by decide +kernel⟩, by decide +kernel⟩
theorem wmL_57 : Cond.methodLink RL 57 yX7_of ∈ zW := List.mem_filter.mpr ⟨List.mem_of_getElem? (i := 468) (by decide +kernel), by decide +kernel⟩
theorem wiX7_of : Cond.instanceMethod yX7_of ∈ zW := List.mem_filter.mpr ⟨List.mem_of_getElem? (i := 469) (by decide +kernel), by decide +kernel⟩
theorem wsX7_of : Cond.selects RX7 yX7_of yX7_of ∈ zW := List.mem_filter.mpr ⟨List.mem_of_getElem? (i := 470) (by decide +kernel), by decide +kernel⟩
theorem mwX7_of : zMw yX7_of cX7_of 3 (some .int) 2 := ⟨List.mem_filter.mpr ⟨List.mem_of_getElem? (i := 471) (by decide +kernel), by decide +kernel⟩, List.mem_filter.mpr ⟨List.mem_of_getElem? (i := 43) (by decide +kernel), by decide +kernel⟩, by decide +kernel⟩
theorem wmL_60 : Cond.methodLink RL 60 yX8_of ∈ zW := List.mem_filter.mpr ⟨List.mem_of_getElem? (i := 854) (by decide +kernel), by decide +kernel⟩
theorem wiX8_of : Cond.instanceMethod yX8_of ∈ zW := List.mem_filter.mpr ⟨List.mem_of_getElem? (i := 855) (by decide +kernel), by decide +kernel⟩
theorem wsX8_of : Cond.selects RX8 yX8_of yX8_of ∈ zW := List.mem_filter.mpr ⟨List.mem_of_getElem? (i := 856) (by decide +kernel), by decide +kernel⟩
theorem mwX8_of : zMw yX8_of cX8_of 4 (some .int) 2 := ⟨List.mem_filter.mpr ⟨List.mem_of_getElem? (i := 857) (by decide +kernel), by decide +kernel⟩, List.mem_filter.mpr ⟨List.mem_of_getElem? (i := 51) (by decide +kernel), by decide +kernel⟩, by decide +kernel⟩
theorem wmL_61 : Cond.methodLink RL 61 yX7_ofDish ∈ zW := List.mem_filter.mpr ⟨List.mem_of_getElem? (i := 484) (by decide +kernel), by decide +kernel⟩
theorem wiX7_ofDish : Cond.instanceMethod yX7_ofDish ∈ zW := List.mem_filter.mpr ⟨List.mem_of_getElem? (i := 485) (by decide +kernel), by decide +kernel⟩
theorem wsX7_ofDish : Cond.selects RX7 yX7_ofDish yX7_ofDish ∈ zW := List.mem_filter.mpr ⟨List.mem_of_getElem? (i := 486) (by decide +kernel), by decide +kernel⟩
theorem mwX7_ofDish : zMw yX7_ofDish cX7_ofDish 3 (some .int) 2 := ⟨List.mem_filter.mpr ⟨List.mem_of_getElem? (i := 487) (by decide +kernel), by decide +kernel⟩, List.mem_filter.mpr ⟨List.mem_of_getElem? (i := 43) (by decide +kernel), by decide +kernel⟩, by decide +kernel⟩
theorem wmL_64 : Cond.methodLink RL 64 yX8_ofDish ∈ zW := List.mem_filter.mpr ⟨List.mem_of_getElem? (i := 862) (by decide +kernel), by decide +kernel⟩
theorem wiX8_ofDish : Cond.instanceMethod yX8_ofDish ∈ zW := List.mem_filter.mpr ⟨List.mem_of_getElem? (i := 863) (by decide +kernel), by decide +kernel⟩
theorem wsX8_ofDish : Cond.selects RX8 yX8_ofDish yX8_ofDish ∈ zW := List.mem_filter.mpr ⟨List.mem_of_getElem? (i := 864) (by decide +kernel), by decide +kernel⟩
theorem mwX8_ofDish : zMw yX8_ofDish cX8_ofDish 3 (some .int) 2 := ⟨List.mem_filter.mpr ⟨List.mem_of_getElem? (i := 865) (by decide +kernel), by decide +kernel⟩, List.mem_filter.mpr ⟨List.mem_of_getElem? (i := 51) (by decide +kernel), by decide +kernel⟩, by decide +kernel⟩
theorem wmL_65 : Cond.methodLink RL 65 yX7_ordered ∈ zW := List.mem_filter.mpr ⟨List.mem_of_getElem? (i := 492) (by decide +kernel), by decide +kernel⟩
theorem wiX7_ordered : Cond.instanceMethod yX7_ordered ∈ zW := List.mem_filter.mpr ⟨List.mem_of_getElem? (i := 493) (by decide +kernel), by decide +kernel⟩
theorem wsX7_ordered : Cond.selects RX7 yX7_ordered yX7_ordered ∈ zW := List.mem_filter.mpr ⟨List.mem_of_getElem? (i := 494) (by decide +kernel), by decide +kernel⟩
theorem mwX7_ordered : zMw yX7_ordered cX7_ordered 3 (some .int) 2 := ⟨List.mem_filter.mpr ⟨List.mem_of_getElem? (i := 495) (by decide +kernel), by decide +kernel⟩, List.mem_filter.mpr ⟨List.mem_of_getElem? (i := 43) (by decide +kernel), by decide +kernel⟩, by decide +kernel⟩
theorem wmL_68 : Cond.methodLink RL 68 yX8_ordered ∈ zW := List.mem_filter.mpr ⟨List.mem_of_getElem? (i := 866) (by decide +kernel), by decide +kernel⟩
theorem wiX8_ordered : Cond.instanceMethod yX8_ordered ∈ zW := List.mem_filter.mpr ⟨List.mem_of_getElem? (i := 867) (by decide +kernel), by decide +kernel⟩
theorem wsX8_ordered : Cond.selects RX8 yX8_ordered yX8_ordered ∈ zW := List.mem_filter.mpr ⟨List.mem_of_getElem? (i := 868) (by decide +kernel), by decide +kernel⟩
theorem mwX8_ordered : zMw yX8_ordered cX8_ordered 5 (some .int) 2 := ⟨List.mem_filter.mpr ⟨List.mem_of_getElem? (i := 869) (by decide +kernel), by decide +kernel⟩, List.mem_filter.mpr ⟨List.mem_of_getElem? (i := 51) (by decide +kernel), by decide +kernel⟩, by decide +kernel⟩
theorem wmL_69 : Cond.methodLink RL 69 yX7_count ∈ zW := List.mem_filter.mpr ⟨List.mem_of_getElem? (i := 500) (by decide +kernel), by decide +kernel⟩
theorem wiX7_count : Cond.instanceMethod yX7_count ∈ zW := List.mem_filter.mpr ⟨List.mem_of_getElem? (i := 501) (by decide +kernel), by decide +kernel⟩
theorem wsX7_count : Cond.selects RX7 yX7_count yX7_count ∈ zW := List.mem_filter.mpr ⟨List.mem_of_getElem? (i := 502) (by decide +kernel), by decide +kernel⟩
theorem mwX7_count : zMw yX7_count cX7_count 2 (some .int) 1 := ⟨List.mem_filter.mpr ⟨List.mem_of_getElem? (i := 503) (by decide +kernel), by decide +kernel⟩, List.mem_filter.mpr ⟨List.mem_of_getElem? (i := 43) (by decide +kernel), by decide +kernel⟩, by decide +kernel⟩
theorem wmL_72 : Cond.methodLink RL 72 yX8_count ∈ zW := List.mem_filter.mpr ⟨List.mem_of_getElem? (i := 870) (by decide +kernel), by decide +kernel⟩
theorem wiX8_count : Cond.instanceMethod yX8_count ∈ zW := List.mem_filter.mpr ⟨List.mem_of_getElem? (i := 871) (by decide +kernel), by decide +kernel⟩
theorem wsX8_count : Cond.selects RX8 yX8_count yX8_count ∈ zW := List.mem_filter.mpr ⟨List.mem_of_getElem? (i := 872) (by decide +kernel), by decide +kernel⟩
theorem mwX8_count : zMw yX8_count cX8_count 2 (some .int) 1 := ⟨List.mem_filter.mpr ⟨List.mem_of_getElem? (i := 873) (by decide +kernel), by decide +kernel⟩, List.mem_filter.mpr ⟨List.mem_of_getElem? (i := 51) (by decide +kernel), by decide +kernel⟩, by decide +kernel⟩
theorem wmL_73 : Cond.methodLink RL 73 yX7_why ∈ zW := List.mem_filter.mpr ⟨List.mem_of_getElem? (i := 529) (by decide +kernel), by decide +kernel⟩
theorem wiX7_why : Cond.instanceMethod yX7_why ∈ zW := List.mem_filter.mpr ⟨List.mem_of_getElem? (i := 530) (by decide +kernel), by decide +kernel⟩
theorem wsX7_why : Cond.selects RX7 yX7_why yX7_why ∈ zW := List.mem_filter.mpr ⟨List.mem_of_getElem? (i := 531) (by decide +kernel), by decide +kernel⟩
theorem mwX7_why : zMw yX7_why cX7_why 4 (some .int) 3 := ⟨List.mem_filter.mpr ⟨List.mem_of_getElem? (i := 532) (by decide +kernel), by decide +kernel⟩, List.mem_filter.mpr ⟨List.mem_of_getElem? (i := 43) (by decide +kernel), by decide +kernel⟩, by decide +kernel⟩
theorem wmL_76 : Cond.methodLink RL 76 yX8_why ∈ zW := List.mem_filter.mpr ⟨List.mem_of_getElem? (i := 882) (by decide +kernel), by decide +kernel⟩
theorem wiX8_why : Cond.instanceMethod yX8_why ∈ zW := List.mem_filter.mpr ⟨List.mem_of_getElem? (i := 883) (by decide +kernel), by decide +kernel⟩
theorem wsX8_why : Cond.selects RX8 yX8_why yX8_why ∈ zW := List.mem_filter.mpr ⟨List.mem_of_getElem? (i := 884) (by decide +kernel), by decide +kernel⟩
theorem mwX8_why : zMw yX8_why cX8_why 4 (some .int) 3 := ⟨List.mem_filter.mpr ⟨List.mem_of_getElem? (i := 885) (by decide +kernel), by decide +kernel⟩, List.mem_filter.mpr ⟨List.mem_of_getElem? (i := 51) (by decide +kernel), by decide +kernel⟩, by decide +kernel⟩
theorem wmL_77 : Cond.methodLink RL 77 yX7_unsurest ∈ zW := List.mem_filter.mpr ⟨List.mem_of_getElem? (i := 534) (by decide +kernel), by decide +kernel⟩
theorem wiX7_unsurest : Cond.instanceMethod yX7_unsurest ∈ zW := List.mem_filter.mpr ⟨List.mem_of_getElem? (i := 535) (by decide +kernel), by decide +kernel⟩
theorem wsX7_unsurest : Cond.selects RX7 yX7_unsurest yX7_unsurest ∈ zW := List.mem_filter.mpr ⟨List.mem_of_getElem? (i := 536) (by decide +kernel), by decide +kernel⟩
theorem mwX7_unsurest : zMw yX7_unsurest cX7_unsurest 2 (some .int) 1 := ⟨List.mem_filter.mpr ⟨List.mem_of_getElem? (i := 537) (by decide +kernel), by decide +kernel⟩, List.mem_filter.mpr ⟨List.mem_of_getElem? (i := 43) (by decide +kernel), by decide +kernel⟩, by decide +kernel⟩
theorem wmL_80 : Cond.methodLink RL 80 yX8_unsurest ∈ zW := List.mem_filter.mpr ⟨List.mem_of_getElem? (i := 886) (by decide +kernel), by decide +kernel⟩
theorem wiX8_unsurest : Cond.instanceMethod yX8_unsurest ∈ zW := List.mem_filter.mpr ⟨List.mem_of_getElem? (i := 887) (by decide +kernel), by decide +kernel⟩
theorem wsX8_unsurest : Cond.selects RX8 yX8_unsurest yX8_unsurest ∈ zW := List.mem_filter.mpr ⟨List.mem_of_getElem? (i := 888) (by decide +kernel), by decide +kernel⟩
theorem mwX8_unsurest : zMw yX8_unsurest cX8_unsurest 7 (some .int) 1 := ⟨List.mem_filter.mpr ⟨List.mem_of_getElem? (i := 889) (by decide +kernel), by decide +kernel⟩, List.mem_filter.mpr ⟨List.mem_of_getElem? (i := 51) (by decide +kernel), by decide +kernel⟩, by decide +kernel⟩
theorem wmL_81 : Cond.methodLink RL 81 yX7_firstOrder ∈ zW := List.mem_filter.mpr ⟨List.mem_of_getElem? (i := 547) (by decide +kernel), by decide +kernel⟩
theorem wiX7_firstOrder : Cond.instanceMethod yX7_firstOrder ∈ zW := List.mem_filter.mpr ⟨List.mem_of_getElem? (i := 548) (by decide +kernel), by decide +kernel⟩
theorem wsX7_firstOrder : Cond.selects RX7 yX7_firstOrder yX7_firstOrder ∈ zW := List.mem_filter.mpr ⟨List.mem_of_getElem? (i := 549) (by decide +kernel), by decide +kernel⟩
theorem mwX7_firstOrder : zMw yX7_firstOrder cX7_firstOrder 2 (some .int) 1 := ⟨List.mem_filter.mpr ⟨List.mem_of_getElem? (i := 550) (by decide +kernel), by decide +kernel⟩, List.mem_filter.mpr ⟨List.mem_of_getElem? (i := 43) (by decide +kernel), by decide +kernel⟩, by decide +kernel⟩
theorem wmL_84 : Cond.methodLink RL 84 yX8_firstOrder ∈ zW := List.mem_filter.mpr ⟨List.mem_of_getElem? (i := 891) (by decide +kernel), by decide +kernel⟩
theorem wiX8_firstOrder : Cond.instanceMethod yX8_firstOrder ∈ zW := List.mem_filter.mpr ⟨List.mem_of_getElem? (i := 892) (by decide +kernel), by decide +kernel⟩
theorem wsX8_firstOrder : Cond.selects RX8 yX8_firstOrder yX8_firstOrder ∈ zW := List.mem_filter.mpr ⟨List.mem_of_getElem? (i := 893) (by decide +kernel), by decide +kernel⟩
theorem mwX8_firstOrder : zMw yX8_firstOrder cX8_firstOrder 4 (some .int) 1 := ⟨List.mem_filter.mpr ⟨List.mem_of_getElem? (i := 894) (by decide +kernel), by decide +kernel⟩, List.mem_filter.mpr ⟨List.mem_of_getElem? (i := 51) (by decide +kernel), by decide +kernel⟩, by decide +kernel⟩
theorem wmL_85 : Cond.methodLink RL 85 yX7_wasted ∈ zW := List.mem_filter.mpr ⟨List.mem_of_getElem? (i := 555) (by decide +kernel), by decide +kernel⟩
theorem wiX7_wasted : Cond.instanceMethod yX7_wasted ∈ zW := List.mem_filter.mpr ⟨List.mem_of_getElem? (i := 556) (by decide +kernel), by decide +kernel⟩
theorem wsX7_wasted : Cond.selects RX7 yX7_wasted yX7_wasted ∈ zW := List.mem_filter.mpr ⟨List.mem_of_getElem? (i := 557) (by decide +kernel), by decide +kernel⟩
theorem mwX7_wasted : zMw yX7_wasted cX7_wasted 1 (some .int) 0 := ⟨List.mem_filter.mpr ⟨List.mem_of_getElem? (i := 558) (by decide +kernel), by decide +kernel⟩, List.mem_filter.mpr ⟨List.mem_of_getElem? (i := 43) (by decide +kernel), by decide +kernel⟩, by decide +kernel⟩
theorem wmL_88 : Cond.methodLink RL 88 yX8_wasted ∈ zW := List.mem_filter.mpr ⟨List.mem_of_getElem? (i := 895) (by decide +kernel), by decide +kernel⟩
theorem wiX8_wasted : Cond.instanceMethod yX8_wasted ∈ zW := List.mem_filter.mpr ⟨List.mem_of_getElem? (i := 896) (by decide +kernel), by decide +kernel⟩
theorem wsX8_wasted : Cond.selects RX8 yX8_wasted yX8_wasted ∈ zW := List.mem_filter.mpr ⟨List.mem_of_getElem? (i := 897) (by decide +kernel), by decide +kernel⟩
theorem mwX8_wasted : zMw yX8_wasted cX8_wasted 6 (some .int) 0 := ⟨List.mem_filter.mpr ⟨List.mem_of_getElem? (i := 898) (by decide +kernel), by decide +kernel⟩, List.mem_filter.mpr ⟨List.mem_of_getElem? (i := 51) (by decide +kernel), by decide +kernel⟩, by decide +kernel⟩
theorem wkL_89 : Jvm.Cond.constantLong RL 89 (4294967295 : Int64) ∈ zW := List.mem_filter.mpr ⟨List.mem_of_getElem? (i := 958) (by decide +kernel), by decide +kernel⟩
theorem wmL_91 : Cond.methodLink RL 91 yX7_put ∈ zW := List.mem_filter.mpr ⟨List.mem_of_getElem? (i := 567) (by decide +kernel), by decide +kernel⟩
theorem wiX7_put : Cond.instanceMethod yX7_put ∈ zW := List.mem_filter.mpr ⟨List.mem_of_getElem? (i := 568) (by decide +kernel), by decide +kernel⟩
theorem wsX7_put : Cond.selects RX7 yX7_put yX7_put ∈ zW := List.mem_filter.mpr ⟨List.mem_of_getElem? (i := 569) (by decide +kernel), by decide +kernel⟩
theorem mwX7_put : zMw yX7_put cX7_put 3 (some .int) 1 := ⟨List.mem_filter.mpr ⟨List.mem_of_getElem? (i := 570) (by decide +kernel), by decide +kernel⟩, List.mem_filter.mpr ⟨List.mem_of_getElem? (i := 43) (by decide +kernel), by decide +kernel⟩, by decide +kernel⟩
theorem wmL_95 : Cond.methodLink RL 95 yX8_put ∈ zW := List.mem_filter.mpr ⟨List.mem_of_getElem? (i := 899) (by decide +kernel), by decide +kernel⟩
theorem wiX8_put : Cond.instanceMethod yX8_put ∈ zW := List.mem_filter.mpr ⟨List.mem_of_getElem? (i := 900) (by decide +kernel), by decide +kernel⟩
theorem wsX8_put : Cond.selects RX8 yX8_put yX8_put ∈ zW := List.mem_filter.mpr ⟨List.mem_of_getElem? (i := 901) (by decide +kernel), by decide +kernel⟩
theorem mwX8_put : zMw yX8_put cX8_put 8 (some .int) 1 := ⟨List.mem_filter.mpr ⟨List.mem_of_getElem? (i := 902) (by decide +kernel), by decide +kernel⟩, List.mem_filter.mpr ⟨List.mem_of_getElem? (i := 51) (by decide +kernel), by decide +kernel⟩, by decide +kernel⟩
theorem wmL_96 : Cond.methodLink RL 96 yX7_wipe ∈ zW := List.mem_filter.mpr ⟨List.mem_of_getElem? (i := 581) (by decide +kernel), by decide +kernel⟩
theorem wiX7_wipe : Cond.instanceMethod yX7_wipe ∈ zW := List.mem_filter.mpr ⟨List.mem_of_getElem? (i := 582) (by decide +kernel), by decide +kernel⟩
theorem wsX7_wipe : Cond.selects RX7 yX7_wipe yX7_wipe ∈ zW := List.mem_filter.mpr ⟨List.mem_of_getElem? (i := 583) (by decide +kernel), by decide +kernel⟩
theorem mwX7_wipe : zMw yX7_wipe cX7_wipe 1 (some .int) 0 := ⟨List.mem_filter.mpr ⟨List.mem_of_getElem? (i := 584) (by decide +kernel), by decide +kernel⟩, List.mem_filter.mpr ⟨List.mem_of_getElem? (i := 43) (by decide +kernel), by decide +kernel⟩, by decide +kernel⟩
theorem wmL_99 : Cond.methodLink RL 99 yX8_wipe ∈ zW := List.mem_filter.mpr ⟨List.mem_of_getElem? (i := 906) (by decide +kernel), by decide +kernel⟩
theorem wiX8_wipe : Cond.instanceMethod yX8_wipe ∈ zW := List.mem_filter.mpr ⟨List.mem_of_getElem? (i := 907) (by decide +kernel), by decide +kernel⟩
theorem wsX8_wipe : Cond.selects RX8 yX8_wipe yX8_wipe ∈ zW := List.mem_filter.mpr ⟨List.mem_of_getElem? (i := 908) (by decide +kernel), by decide +kernel⟩
theorem mwX8_wipe : zMw yX8_wipe cX8_wipe 2 (some .int) 0 := ⟨List.mem_filter.mpr ⟨List.mem_of_getElem? (i := 909) (by decide +kernel), by decide +kernel⟩, List.mem_filter.mpr ⟨List.mem_of_getElem? (i := 51) (by decide +kernel), by decide +kernel⟩, by decide +kernel⟩
theorem wmL_100 : Cond.methodLink RL 100 yX7_fault ∈ zW := List.mem_filter.mpr ⟨List.mem_of_getElem? (i := 589) (by decide +kernel), by decide +kernel⟩
theorem wiX7_fault : Cond.instanceMethod yX7_fault ∈ zW := List.mem_filter.mpr ⟨List.mem_of_getElem? (i := 590) (by decide +kernel), by decide +kernel⟩
theorem wsX7_fault : Cond.selects RX7 yX7_fault yX7_fault ∈ zW := List.mem_filter.mpr ⟨List.mem_of_getElem? (i := 591) (by decide +kernel), by decide +kernel⟩
theorem mwX7_fault : zMw yX7_fault cX7_fault 1 (some .int) 0 := ⟨List.mem_filter.mpr ⟨List.mem_of_getElem? (i := 592) (by decide +kernel), by decide +kernel⟩, List.mem_filter.mpr ⟨List.mem_of_getElem? (i := 43) (by decide +kernel), by decide +kernel⟩, by decide +kernel⟩
theorem wmL_103 : Cond.methodLink RL 103 yX8_fault ∈ zW := List.mem_filter.mpr ⟨List.mem_of_getElem? (i := 910) (by decide +kernel), by decide +kernel⟩
theorem wiX8_fault : Cond.instanceMethod yX8_fault ∈ zW := List.mem_filter.mpr ⟨List.mem_of_getElem? (i := 911) (by decide +kernel), by decide +kernel⟩
theorem wsX8_fault : Cond.selects RX8 yX8_fault yX8_fault ∈ zW := List.mem_filter.mpr ⟨List.mem_of_getElem? (i := 912) (by decide +kernel), by decide +kernel⟩
theorem mwX8_fault : zMw yX8_fault cX8_fault 2 (some .int) 0 := ⟨List.mem_filter.mpr ⟨List.mem_of_getElem? (i := 913) (by decide +kernel), by decide +kernel⟩, List.mem_filter.mpr ⟨List.mem_of_getElem? (i := 51) (by decide +kernel), by decide +kernel⟩, by decide +kernel⟩
theorem wmL_104 : Cond.methodLink RL 104 yX7_carryOut ∈ zW := List.mem_filter.mpr ⟨List.mem_of_getElem? (i := 642) (by decide +kernel), by decide +kernel⟩
theorem wiX7_carryOut : Cond.instanceMethod yX7_carryOut ∈ zW := List.mem_filter.mpr ⟨List.mem_of_getElem? (i := 643) (by decide +kernel), by decide +kernel⟩
theorem wsX7_carryOut : Cond.selects RX7 yX7_carryOut yX7_carryOut ∈ zW := List.mem_filter.mpr ⟨List.mem_of_getElem? (i := 644) (by decide +kernel), by decide +kernel⟩
theorem mwX7_carryOut : zMw yX7_carryOut cX7_carryOut 2 (some .int) 0 := ⟨List.mem_filter.mpr ⟨List.mem_of_getElem? (i := 645) (by decide +kernel), by decide +kernel⟩, List.mem_filter.mpr ⟨List.mem_of_getElem? (i := 43) (by decide +kernel), by decide +kernel⟩, by decide +kernel⟩
theorem wmL_107 : Cond.methodLink RL 107 yX8_carryOut ∈ zW := List.mem_filter.mpr ⟨List.mem_of_getElem? (i := 938) (by decide +kernel), by decide +kernel⟩
theorem wiX8_carryOut : Cond.instanceMethod yX8_carryOut ∈ zW := List.mem_filter.mpr ⟨List.mem_of_getElem? (i := 939) (by decide +kernel), by decide +kernel⟩
theorem wsX8_carryOut : Cond.selects RX8 yX8_carryOut yX8_carryOut ∈ zW := List.mem_filter.mpr ⟨List.mem_of_getElem? (i := 940) (by decide +kernel), by decide +kernel⟩
theorem mwX8_carryOut : zMw yX8_carryOut cX8_carryOut 3 (some .int) 0 := ⟨List.mem_filter.mpr ⟨List.mem_of_getElem? (i := 941) (by decide +kernel), by decide +kernel⟩, List.mem_filter.mpr ⟨List.mem_of_getElem? (i := 51) (by decide +kernel), by decide +kernel⟩, by decide +kernel⟩
theorem wmL_108 : Cond.methodLink RL 108 yX7_undo ∈ zW := List.mem_filter.mpr ⟨List.mem_of_getElem? (i := 657) (by decide +kernel), by decide +kernel⟩
theorem wiX7_undo : Cond.instanceMethod yX7_undo ∈ zW := List.mem_filter.mpr ⟨List.mem_of_getElem? (i := 658) (by decide +kernel), by decide +kernel⟩
theorem wsX7_undo : Cond.selects RX7 yX7_undo yX7_undo ∈ zW := List.mem_filter.mpr ⟨List.mem_of_getElem? (i := 659) (by decide +kernel), by decide +kernel⟩
theorem mwX7_undo : zMw yX7_undo cX7_undo 1 (some .int) 0 := ⟨List.mem_filter.mpr ⟨List.mem_of_getElem? (i := 660) (by decide +kernel), by decide +kernel⟩, List.mem_filter.mpr ⟨List.mem_of_getElem? (i := 43) (by decide +kernel), by decide +kernel⟩, by decide +kernel⟩
theorem wmL_111 : Cond.methodLink RL 111 yX8_undo ∈ zW := List.mem_filter.mpr ⟨List.mem_of_getElem? (i := 946) (by decide +kernel), by decide +kernel⟩
theorem wiX8_undo : Cond.instanceMethod yX8_undo ∈ zW := List.mem_filter.mpr ⟨List.mem_of_getElem? (i := 947) (by decide +kernel), by decide +kernel⟩
theorem wsX8_undo : Cond.selects RX8 yX8_undo yX8_undo ∈ zW := List.mem_filter.mpr ⟨List.mem_of_getElem? (i := 948) (by decide +kernel), by decide +kernel⟩
theorem mwX8_undo : zMw yX8_undo cX8_undo 2 (some .int) 0 := ⟨List.mem_filter.mpr ⟨List.mem_of_getElem? (i := 949) (by decide +kernel), by decide +kernel⟩, List.mem_filter.mpr ⟨List.mem_of_getElem? (i := 51) (by decide +kernel), by decide +kernel⟩, by decide +kernel⟩
theorem wmL_112 : Cond.methodLink RL 112 yX7_save ∈ zW := List.mem_filter.mpr ⟨List.mem_of_getElem? (i := 665) (by decide +kernel), by decide +kernel⟩
theorem wiX7_save : Cond.instanceMethod yX7_save ∈ zW := List.mem_filter.mpr ⟨List.mem_of_getElem? (i := 666) (by decide +kernel), by decide +kernel⟩
theorem wsX7_save : Cond.selects RX7 yX7_save yX7_save ∈ zW := List.mem_filter.mpr ⟨List.mem_of_getElem? (i := 667) (by decide +kernel), by decide +kernel⟩
theorem mwX7_save : zMw yX7_save cX7_save 2 (some .int) 1 := ⟨List.mem_filter.mpr ⟨List.mem_of_getElem? (i := 668) (by decide +kernel), by decide +kernel⟩, List.mem_filter.mpr ⟨List.mem_of_getElem? (i := 43) (by decide +kernel), by decide +kernel⟩, by decide +kernel⟩
theorem wmL_115 : Cond.methodLink RL 115 yX8_save ∈ zW := List.mem_filter.mpr ⟨List.mem_of_getElem? (i := 950) (by decide +kernel), by decide +kernel⟩
theorem wiX8_save : Cond.instanceMethod yX8_save ∈ zW := List.mem_filter.mpr ⟨List.mem_of_getElem? (i := 951) (by decide +kernel), by decide +kernel⟩
theorem wsX8_save : Cond.selects RX8 yX8_save yX8_save ∈ zW := List.mem_filter.mpr ⟨List.mem_of_getElem? (i := 952) (by decide +kernel), by decide +kernel⟩
theorem mwX8_save : zMw yX8_save cX8_save 3 (some .int) 1 := ⟨List.mem_filter.mpr ⟨List.mem_of_getElem? (i := 953) (by decide +kernel), by decide +kernel⟩, List.mem_filter.mpr ⟨List.mem_of_getElem? (i := 51) (by decide +kernel), by decide +kernel⟩, by decide +kernel⟩
theorem wmL_116 : Cond.methodLink RL 116 yX7_restore ∈ zW := List.mem_filter.mpr ⟨List.mem_of_getElem? (i := 674) (by decide +kernel), by decide +kernel⟩
theorem wiX7_restore : Cond.instanceMethod yX7_restore ∈ zW := List.mem_filter.mpr ⟨List.mem_of_getElem? (i := 675) (by decide +kernel), by decide +kernel⟩
theorem wsX7_restore : Cond.selects RX7 yX7_restore yX7_restore ∈ zW := List.mem_filter.mpr ⟨List.mem_of_getElem? (i := 676) (by decide +kernel), by decide +kernel⟩
theorem mwX7_restore : zMw yX7_restore cX7_restore 2 (some .int) 1 := ⟨List.mem_filter.mpr ⟨List.mem_of_getElem? (i := 677) (by decide +kernel), by decide +kernel⟩, List.mem_filter.mpr ⟨List.mem_of_getElem? (i := 43) (by decide +kernel), by decide +kernel⟩, by decide +kernel⟩
theorem wmL_119 : Cond.methodLink RL 119 yX8_restore ∈ zW := List.mem_filter.mpr ⟨List.mem_of_getElem? (i := 954) (by decide +kernel), by decide +kernel⟩
theorem wiX8_restore : Cond.instanceMethod yX8_restore ∈ zW := List.mem_filter.mpr ⟨List.mem_of_getElem? (i := 955) (by decide +kernel), by decide +kernel⟩
theorem wsX8_restore : Cond.selects RX8 yX8_restore yX8_restore ∈ zW := List.mem_filter.mpr ⟨List.mem_of_getElem? (i := 956) (by decide +kernel), by decide +kernel⟩
theorem mwX8_restore : zMw yX8_restore cX8_restore 3 (some .int) 1 := ⟨List.mem_filter.mpr ⟨List.mem_of_getElem? (i := 957) (by decide +kernel), by decide +kernel⟩, List.mem_filter.mpr ⟨List.mem_of_getElem? (i := 51) (by decide +kernel), by decide +kernel⟩, by decide +kernel⟩
