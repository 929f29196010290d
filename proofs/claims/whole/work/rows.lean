section
-- ===== PART A: goes FIRST, ahead of the names: the tables' words, and 'selects' of the private methods out of them =====
/-- a private method of a class that the tables say can be made, by its rows of tables_1 -/
def lw_okq (q : MethodName × Nat) : Prop := (q.1.cls ≠ "java/lang/invoke/MethodHandle" ∧ q.1.cls ≠ "java/lang/invoke/VarHandle") ∧ Cond.instantiable q.1.cls q.2 ∈ tables_1 ∧ Cond.privateMethod q.1 ∈ tables_1 ∧ Cond.instanceMethod q.1 ∈ tables_1
theorem lw_p0 : lw_okq (⟨"CanteenPlates$Canteen", "sumOfDishes", "(I)I"⟩, 6) := ⟨⟨by decide +kernel, by decide +kernel⟩, List.mem_of_getElem? (i := 21) (by decide +kernel), List.mem_of_getElem? (i := 475) (by decide +kernel), List.mem_of_getElem? (i := 476) (by decide +kernel)⟩
theorem lw_p1 : lw_okq (⟨"CanteenPlates$Canteen", "sumOfPeople", "(I)I"⟩, 6) := ⟨⟨by decide +kernel, by decide +kernel⟩, List.mem_of_getElem? (i := 21) (by decide +kernel), List.mem_of_getElem? (i := 480) (by decide +kernel), List.mem_of_getElem? (i := 481) (by decide +kernel)⟩
theorem lw_p2 : lw_okq (⟨"CanteenPlates$Canteen", "bannedToday", "()I"⟩, 6) := ⟨⟨by decide +kernel, by decide +kernel⟩, List.mem_of_getElem? (i := 21) (by decide +kernel), List.mem_of_getElem? (i := 484) (by decide +kernel), List.mem_of_getElem? (i := 485) (by decide +kernel)⟩
theorem lw_p3 : lw_okq (⟨"CanteenPlates$OrderReader", "readPerson", "()Z"⟩, 7) := ⟨⟨by decide +kernel, by decide +kernel⟩, List.mem_of_getElem? (i := 171) (by decide +kernel), List.mem_of_getElem? (i := 568) (by decide +kernel), List.mem_of_getElem? (i := 569) (by decide +kernel)⟩
theorem lw_p4 : lw_okq (⟨"CanteenPlates$OrderReader", "readNumber", "()I"⟩, 7) := ⟨⟨by decide +kernel, by decide +kernel⟩, List.mem_of_getElem? (i := 171) (by decide +kernel), List.mem_of_getElem? (i := 572) (by decide +kernel), List.mem_of_getElem? (i := 573) (by decide +kernel)⟩
theorem lw_p5 : lw_okq (⟨"CanteenPlates$OrderReader", "readDigit", "()I"⟩, 7) := ⟨⟨by decide +kernel, by decide +kernel⟩, List.mem_of_getElem? (i := 171) (by decide +kernel), List.mem_of_getElem? (i := 576) (by decide +kernel), List.mem_of_getElem? (i := 577) (by decide +kernel)⟩
theorem lw_p6 : lw_okq (⟨"CanteenPlates$OrderReader", "readMany", "()Z"⟩, 7) := ⟨⟨by decide +kernel, by decide +kernel⟩, List.mem_of_getElem? (i := 171) (by decide +kernel), List.mem_of_getElem? (i := 584) (by decide +kernel), List.mem_of_getElem? (i := 585) (by decide +kernel)⟩
theorem lw_p7 : lw_okq (⟨"CanteenPlates$OrderReader", "readDish", "()Z"⟩, 7) := ⟨⟨by decide +kernel, by decide +kernel⟩, List.mem_of_getElem? (i := 171) (by decide +kernel), List.mem_of_getElem? (i := 588) (by decide +kernel), List.mem_of_getElem? (i := 589) (by decide +kernel)⟩
theorem lw_p8 : lw_okq (⟨"CanteenPlates$OrderReader", "readAhead", "()Z"⟩, 7) := ⟨⟨by decide +kernel, by decide +kernel⟩, List.mem_of_getElem? (i := 171) (by decide +kernel), List.mem_of_getElem? (i := 592) (by decide +kernel), List.mem_of_getElem? (i := 593) (by decide +kernel)⟩
theorem lw_p9 : lw_okq (⟨"CanteenPlates$OrderReader", "isOrderOver", "()Z"⟩, 7) := ⟨⟨by decide +kernel, by decide +kernel⟩, List.mem_of_getElem? (i := 171) (by decide +kernel), List.mem_of_getElem? (i := 596) (by decide +kernel), List.mem_of_getElem? (i := 597) (by decide +kernel)⟩
theorem lw_p10 : lw_okq (⟨"CanteenPlates", "carryOutAll", "()I"⟩, 5) := ⟨⟨by decide +kernel, by decide +kernel⟩, List.mem_of_getElem? (i := 13) (by decide +kernel), List.mem_of_getElem? (i := 605) (by decide +kernel), List.mem_of_getElem? (i := 606) (by decide +kernel)⟩
theorem lw_p11 : lw_okq (⟨"CanteenPlates", "carryOutOne", "()I"⟩, 5) := ⟨⟨by decide +kernel, by decide +kernel⟩, List.mem_of_getElem? (i := 13) (by decide +kernel), List.mem_of_getElem? (i := 612) (by decide +kernel), List.mem_of_getElem? (i := 613) (by decide +kernel)⟩
theorem lw_p12 : lw_okq (⟨"CanteenPlatesModel", "hold", "()V"⟩, 11) := ⟨⟨by decide +kernel, by decide +kernel⟩, List.mem_of_getElem? (i := 641) (by decide +kernel), List.mem_of_getElem? (i := 688) (by decide +kernel), List.mem_of_getElem? (i := 689) (by decide +kernel)⟩
theorem lw_p13 : lw_okq (⟨"CanteenPlatesModel", "recorded", "(I)I"⟩, 11) := ⟨⟨by decide +kernel, by decide +kernel⟩, List.mem_of_getElem? (i := 641) (by decide +kernel), List.mem_of_getElem? (i := 692) (by decide +kernel), List.mem_of_getElem? (i := 693) (by decide +kernel)⟩
theorem lw_p14 : lw_okq (⟨"CanteenPlatesModel", "comesHere", "()I"⟩, 11) := ⟨⟨by decide +kernel, by decide +kernel⟩, List.mem_of_getElem? (i := 641) (by decide +kernel), List.mem_of_getElem? (i := 707) (by decide +kernel), List.mem_of_getElem? (i := 708) (by decide +kernel)⟩
theorem lw_p15 : lw_okq (⟨"CanteenPlatesModel", "gets", "(II)I"⟩, 11) := ⟨⟨by decide +kernel, by decide +kernel⟩, List.mem_of_getElem? (i := 641) (by decide +kernel), List.mem_of_getElem? (i := 718) (by decide +kernel), List.mem_of_getElem? (i := 719) (by decide +kernel)⟩
def lw_privs_1 : List (MethodName × Nat) := [(⟨"CanteenPlates$Canteen", "sumOfDishes", "(I)I"⟩, 6), (⟨"CanteenPlates$Canteen", "sumOfPeople", "(I)I"⟩, 6), (⟨"CanteenPlates$Canteen", "bannedToday", "()I"⟩, 6), (⟨"CanteenPlates$OrderReader", "readPerson", "()Z"⟩, 7), (⟨"CanteenPlates$OrderReader", "readNumber", "()I"⟩, 7), (⟨"CanteenPlates$OrderReader", "readDigit", "()I"⟩, 7), (⟨"CanteenPlates$OrderReader", "readMany", "()Z"⟩, 7), (⟨"CanteenPlates$OrderReader", "readDish", "()Z"⟩, 7), (⟨"CanteenPlates$OrderReader", "readAhead", "()Z"⟩, 7), (⟨"CanteenPlates$OrderReader", "isOrderOver", "()Z"⟩, 7), (⟨"CanteenPlates", "carryOutAll", "()I"⟩, 5), (⟨"CanteenPlates", "carryOutOne", "()I"⟩, 5), (⟨"CanteenPlatesModel", "hold", "()V"⟩, 11), (⟨"CanteenPlatesModel", "recorded", "(I)I"⟩, 11), (⟨"CanteenPlatesModel", "comesHere", "()I"⟩, 11), (⟨"CanteenPlatesModel", "gets", "(II)I"⟩, 11)]
theorem lw_r1 : ∀ q ∈ lw_privs_1, lw_okq q := List.forall_mem_cons.mpr ⟨lw_p0, List.forall_mem_cons.mpr ⟨lw_p1, List.forall_mem_cons.mpr ⟨lw_p2, List.forall_mem_cons.mpr ⟨lw_p3, List.forall_mem_cons.mpr ⟨lw_p4, List.forall_mem_cons.mpr ⟨lw_p5, List.forall_mem_cons.mpr ⟨lw_p6, List.forall_mem_cons.mpr ⟨lw_p7, List.forall_mem_cons.mpr ⟨lw_p8, List.forall_mem_cons.mpr ⟨lw_p9, List.forall_mem_cons.mpr ⟨lw_p10, List.forall_mem_cons.mpr ⟨lw_p11, List.forall_mem_cons.mpr ⟨lw_p12, List.forall_mem_cons.mpr ⟨lw_p13, List.forall_mem_cons.mpr ⟨lw_p14, List.forall_mem_cons.mpr ⟨lw_p15, fun _ h => absurd h List.not_mem_nil⟩⟩⟩⟩⟩⟩⟩⟩⟩⟩⟩⟩⟩⟩⟩⟩
theorem lw_p16 : lw_okq (⟨"CanteenPlatesModel", "isPerson", "(I)Z"⟩, 11) := ⟨⟨by decide +kernel, by decide +kernel⟩, List.mem_of_getElem? (i := 641) (by decide +kernel), List.mem_of_getElem? (i := 722) (by decide +kernel), List.mem_of_getElem? (i := 723) (by decide +kernel)⟩
theorem lw_p17 : lw_okq (⟨"CanteenPlatesModel", "gives", "(II)V"⟩, 11) := ⟨⟨by decide +kernel, by decide +kernel⟩, List.mem_of_getElem? (i := 641) (by decide +kernel), List.mem_of_getElem? (i := 726) (by decide +kernel), List.mem_of_getElem? (i := 727) (by decide +kernel)⟩
theorem lw_p18 : lw_okq (⟨"CanteenPlatesModel", "ordersOf", "(III)I"⟩, 11) := ⟨⟨by decide +kernel, by decide +kernel⟩, List.mem_of_getElem? (i := 641) (by decide +kernel), List.mem_of_getElem? (i := 734) (by decide +kernel), List.mem_of_getElem? (i := 735) (by decide +kernel)⟩
theorem lw_p19 : lw_okq (⟨"CanteenPlatesModel", "reason", "(III)I"⟩, 11) := ⟨⟨by decide +kernel, by decide +kernel⟩, List.mem_of_getElem? (i := 641) (by decide +kernel), List.mem_of_getElem? (i := 738) (by decide +kernel), List.mem_of_getElem? (i := 739) (by decide +kernel)⟩
theorem lw_p20 : lw_okq (⟨"CanteenPlatesModel", "priceOn", "(II)I"⟩, 11) := ⟨⟨by decide +kernel, by decide +kernel⟩, List.mem_of_getElem? (i := 641) (by decide +kernel), List.mem_of_getElem? (i := 742) (by decide +kernel), List.mem_of_getElem? (i := 743) (by decide +kernel)⟩
theorem lw_p21 : lw_okq (⟨"CanteenPlatesModel", "cooks", "()I"⟩, 11) := ⟨⟨by decide +kernel, by decide +kernel⟩, List.mem_of_getElem? (i := 641) (by decide +kernel), List.mem_of_getElem? (i := 754) (by decide +kernel), List.mem_of_getElem? (i := 755) (by decide +kernel)⟩
theorem lw_p22 : lw_okq (⟨"CanteenPlatesModel", "toCook", "(I)I"⟩, 11) := ⟨⟨by decide +kernel, by decide +kernel⟩, List.mem_of_getElem? (i := 641) (by decide +kernel), List.mem_of_getElem? (i := 758) (by decide +kernel), List.mem_of_getElem? (i := 759) (by decide +kernel)⟩
theorem lw_p23 : lw_okq (⟨"CanteenPlatesModel", "isFor", "(III)Z"⟩, 11) := ⟨⟨by decide +kernel, by decide +kernel⟩, List.mem_of_getElem? (i := 641) (by decide +kernel), List.mem_of_getElem? (i := 762) (by decide +kernel), List.mem_of_getElem? (i := 763) (by decide +kernel)⟩
theorem lw_p24 : lw_okq (⟨"CanteenPlatesModel", "doubt", "(I)I"⟩, 11) := ⟨⟨by decide +kernel, by decide +kernel⟩, List.mem_of_getElem? (i := 641) (by decide +kernel), List.mem_of_getElem? (i := 766) (by decide +kernel), List.mem_of_getElem? (i := 767) (by decide +kernel)⟩
theorem lw_p25 : lw_okq (⟨"CanteenPlatesModel", "comes", "(I)I"⟩, 11) := ⟨⟨by decide +kernel, by decide +kernel⟩, List.mem_of_getElem? (i := 641) (by decide +kernel), List.mem_of_getElem? (i := 777) (by decide +kernel), List.mem_of_getElem? (i := 778) (by decide +kernel)⟩
theorem lw_p26 : lw_okq (⟨"CanteenPlatesModel", "left", "(I)I"⟩, 11) := ⟨⟨by decide +kernel, by decide +kernel⟩, List.mem_of_getElem? (i := 641) (by decide +kernel), List.mem_of_getElem? (i := 781) (by decide +kernel), List.mem_of_getElem? (i := 782) (by decide +kernel)⟩
theorem lw_p27 : lw_okq (⟨"CanteenPlatesModel", "eats", "(II)V"⟩, 11) := ⟨⟨by decide +kernel, by decide +kernel⟩, List.mem_of_getElem? (i := 641) (by decide +kernel), List.mem_of_getElem? (i := 785) (by decide +kernel), List.mem_of_getElem? (i := 786) (by decide +kernel)⟩
theorem lw_p28 : lw_okq (⟨"CanteenPlatesModel", "buys", "(II)I"⟩, 11) := ⟨⟨by decide +kernel, by decide +kernel⟩, List.mem_of_getElem? (i := 641) (by decide +kernel), List.mem_of_getElem? (i := 793) (by decide +kernel), List.mem_of_getElem? (i := 794) (by decide +kernel)⟩
theorem lw_p29 : lw_okq (⟨"CanteenPlatesModel", "awaited", "(I)I"⟩, 11) := ⟨⟨by decide +kernel, by decide +kernel⟩, List.mem_of_getElem? (i := 641) (by decide +kernel), List.mem_of_getElem? (i := 797) (by decide +kernel), List.mem_of_getElem? (i := 798) (by decide +kernel)⟩
theorem lw_p30 : lw_okq (⟨"CanteenPlatesModel", "closes", "()I"⟩, 11) := ⟨⟨by decide +kernel, by decide +kernel⟩, List.mem_of_getElem? (i := 641) (by decide +kernel), List.mem_of_getElem? (i := 805) (by decide +kernel), List.mem_of_getElem? (i := 806) (by decide +kernel)⟩
theorem lw_p31 : lw_okq (⟨"CanteenPlatesModel", "endsFor", "(I)I"⟩, 11) := ⟨⟨by decide +kernel, by decide +kernel⟩, List.mem_of_getElem? (i := 641) (by decide +kernel), List.mem_of_getElem? (i := 809) (by decide +kernel), List.mem_of_getElem? (i := 810) (by decide +kernel)⟩
def lw_privs_2 : List (MethodName × Nat) := [(⟨"CanteenPlatesModel", "isPerson", "(I)Z"⟩, 11), (⟨"CanteenPlatesModel", "gives", "(II)V"⟩, 11), (⟨"CanteenPlatesModel", "ordersOf", "(III)I"⟩, 11), (⟨"CanteenPlatesModel", "reason", "(III)I"⟩, 11), (⟨"CanteenPlatesModel", "priceOn", "(II)I"⟩, 11), (⟨"CanteenPlatesModel", "cooks", "()I"⟩, 11), (⟨"CanteenPlatesModel", "toCook", "(I)I"⟩, 11), (⟨"CanteenPlatesModel", "isFor", "(III)Z"⟩, 11), (⟨"CanteenPlatesModel", "doubt", "(I)I"⟩, 11), (⟨"CanteenPlatesModel", "comes", "(I)I"⟩, 11), (⟨"CanteenPlatesModel", "left", "(I)I"⟩, 11), (⟨"CanteenPlatesModel", "eats", "(II)V"⟩, 11), (⟨"CanteenPlatesModel", "buys", "(II)I"⟩, 11), (⟨"CanteenPlatesModel", "awaited", "(I)I"⟩, 11), (⟨"CanteenPlatesModel", "closes", "()I"⟩, 11), (⟨"CanteenPlatesModel", "endsFor", "(I)I"⟩, 11)]
theorem lw_r2 : ∀ q ∈ lw_privs_2, lw_okq q := List.forall_mem_cons.mpr ⟨lw_p16, List.forall_mem_cons.mpr ⟨lw_p17, List.forall_mem_cons.mpr ⟨lw_p18, List.forall_mem_cons.mpr ⟨lw_p19, List.forall_mem_cons.mpr ⟨lw_p20, List.forall_mem_cons.mpr ⟨lw_p21, List.forall_mem_cons.mpr ⟨lw_p22, List.forall_mem_cons.mpr ⟨lw_p23, List.forall_mem_cons.mpr ⟨lw_p24, List.forall_mem_cons.mpr ⟨lw_p25, List.forall_mem_cons.mpr ⟨lw_p26, List.forall_mem_cons.mpr ⟨lw_p27, List.forall_mem_cons.mpr ⟨lw_p28, List.forall_mem_cons.mpr ⟨lw_p29, List.forall_mem_cons.mpr ⟨lw_p30, List.forall_mem_cons.mpr ⟨lw_p31, fun _ h => absurd h List.not_mem_nil⟩⟩⟩⟩⟩⟩⟩⟩⟩⟩⟩⟩⟩⟩⟩⟩
theorem lw_p32 : lw_okq (⟨"CanteenPlatesModel", "daysOf", "(I)I"⟩, 11) := ⟨⟨by decide +kernel, by decide +kernel⟩, List.mem_of_getElem? (i := 641) (by decide +kernel), List.mem_of_getElem? (i := 817) (by decide +kernel), List.mem_of_getElem? (i := 818) (by decide +kernel)⟩
theorem lw_p33 : lw_okq (⟨"CanteenPlatesModel", "ofDishes", "(I)I"⟩, 11) := ⟨⟨by decide +kernel, by decide +kernel⟩, List.mem_of_getElem? (i := 641) (by decide +kernel), List.mem_of_getElem? (i := 833) (by decide +kernel), List.mem_of_getElem? (i := 834) (by decide +kernel)⟩
theorem lw_p34 : lw_okq (⟨"CanteenPlatesModel", "ofPeople", "(I)I"⟩, 11) := ⟨⟨by decide +kernel, by decide +kernel⟩, List.mem_of_getElem? (i := 641) (by decide +kernel), List.mem_of_getElem? (i := 837) (by decide +kernel), List.mem_of_getElem? (i := 838) (by decide +kernel)⟩
theorem lw_p35 : lw_okq (⟨"CanteenPlatesModel", "faultOf", "()I"⟩, 11) := ⟨⟨by decide +kernel, by decide +kernel⟩, List.mem_of_getElem? (i := 641) (by decide +kernel), List.mem_of_getElem? (i := 873) (by decide +kernel), List.mem_of_getElem? (i := 874) (by decide +kernel)⟩
theorem lw_p36 : lw_okq (⟨"CanteenPlatesModel", "readsOrder", "()Z"⟩, 11) := ⟨⟨by decide +kernel, by decide +kernel⟩, List.mem_of_getElem? (i := 641) (by decide +kernel), List.mem_of_getElem? (i := 877) (by decide +kernel), List.mem_of_getElem? (i := 878) (by decide +kernel)⟩
theorem lw_p37 : lw_okq (⟨"CanteenPlatesModel", "accepts", "(C)Z"⟩, 11) := ⟨⟨by decide +kernel, by decide +kernel⟩, List.mem_of_getElem? (i := 641) (by decide +kernel), List.mem_of_getElem? (i := 881) (by decide +kernel), List.mem_of_getElem? (i := 882) (by decide +kernel)⟩
theorem lw_p38 : lw_okq (⟨"CanteenPlatesModel", "isSign", "(CC)Z"⟩, 11) := ⟨⟨by decide +kernel, by decide +kernel⟩, List.mem_of_getElem? (i := 641) (by decide +kernel), List.mem_of_getElem? (i := 885) (by decide +kernel), List.mem_of_getElem? (i := 886) (by decide +kernel)⟩
theorem lw_p39 : lw_okq (⟨"CanteenPlatesModel", "number", "(I)Z"⟩, 11) := ⟨⟨by decide +kernel, by decide +kernel⟩, List.mem_of_getElem? (i := 641) (by decide +kernel), List.mem_of_getElem? (i := 889) (by decide +kernel), List.mem_of_getElem? (i := 890) (by decide +kernel)⟩
theorem lw_p40 : lw_okq (⟨"CanteenPlatesModel", "sign", "(ICC)Z"⟩, 11) := ⟨⟨by decide +kernel, by decide +kernel⟩, List.mem_of_getElem? (i := 641) (by decide +kernel), List.mem_of_getElem? (i := 893) (by decide +kernel), List.mem_of_getElem? (i := 894) (by decide +kernel)⟩
theorem lw_p41 : lw_okq (⟨"CanteenPlatesModel", "does", "(I)I"⟩, 11) := ⟨⟨by decide +kernel, by decide +kernel⟩, List.mem_of_getElem? (i := 641) (by decide +kernel), List.mem_of_getElem? (i := 901) (by decide +kernel), List.mem_of_getElem? (i := 902) (by decide +kernel)⟩
def lw_privs_3 : List (MethodName × Nat) := [(⟨"CanteenPlatesModel", "daysOf", "(I)I"⟩, 11), (⟨"CanteenPlatesModel", "ofDishes", "(I)I"⟩, 11), (⟨"CanteenPlatesModel", "ofPeople", "(I)I"⟩, 11), (⟨"CanteenPlatesModel", "faultOf", "()I"⟩, 11), (⟨"CanteenPlatesModel", "readsOrder", "()Z"⟩, 11), (⟨"CanteenPlatesModel", "accepts", "(C)Z"⟩, 11), (⟨"CanteenPlatesModel", "isSign", "(CC)Z"⟩, 11), (⟨"CanteenPlatesModel", "number", "(I)Z"⟩, 11), (⟨"CanteenPlatesModel", "sign", "(ICC)Z"⟩, 11), (⟨"CanteenPlatesModel", "does", "(I)I"⟩, 11)]
theorem lw_r3 : ∀ q ∈ lw_privs_3, lw_okq q := List.forall_mem_cons.mpr ⟨lw_p32, List.forall_mem_cons.mpr ⟨lw_p33, List.forall_mem_cons.mpr ⟨lw_p34, List.forall_mem_cons.mpr ⟨lw_p35, List.forall_mem_cons.mpr ⟨lw_p36, List.forall_mem_cons.mpr ⟨lw_p37, List.forall_mem_cons.mpr ⟨lw_p38, List.forall_mem_cons.mpr ⟨lw_p39, List.forall_mem_cons.mpr ⟨lw_p40, List.forall_mem_cons.mpr ⟨lw_p41, fun _ h => absurd h List.not_mem_nil⟩⟩⟩⟩⟩⟩⟩⟩⟩⟩
def lw_privs : List (MethodName × Nat) := lw_privs_1 ++ (lw_privs_2 ++ (lw_privs_3))
def lw_tbl : List Cond := k2_sels lw_privs ++ tables_1
theorem lw_privs_ok : ∀ q ∈ lw_privs, lw_okq q := by
  show ∀ q ∈ lw_privs_1 ++ (lw_privs_2 ++ (lw_privs_3)), lw_okq q
  exact List.forall_mem_append.mpr ⟨lw_r1, List.forall_mem_append.mpr ⟨lw_r2, lw_r3⟩⟩
end
section
def RX0 : String := "CanteenPlates$Canteen"
def TX0 : u_T := fun k => match k with
  | 0 => ("CanteenPlates$Canteen", "settings", "[I", true)
  | 1 => ("CanteenPlates$Canteen", "staff", "[LCanteenPlates$Person;", true)
  | 2 => ("CanteenPlates$Canteen", "dishes", "[LCanteenPlates$Dish;", true)
  | 3 => ("CanteenPlates$Canteen", "people", "I", false)
  | 4 => ("CanteenPlates$Canteen", "day", "I", false)
  | _ => ("CanteenPlates$Canteen", "cooked", "Z", false)
def tyX0 : Nat → FieldType := fun k => match k with
  | 0 => .array .int
  | 1 => .array (.object "CanteenPlates$Person")
  | 2 => .array (.object "CanteenPlates$Dish")
  | 3 => .int
  | 4 => .int
  | _ => .boolean
abbrev wsX00 : List Cond := u_ws RX0 TX0 6
theorem nmX0 : ∀ a, a < 6 → ∀ b, b < 6 → a ≠ b → (TX0 a).2.1 ≠ (TX0 b).2.1 := by decide +kernel
theorem tyX0_ok : ∀ k, k < 6 → parseFieldDescriptor (TX0 k).2.2.1 = some (tyX0 k) := by decide +kernel
abbrev cX0_init : ByteArray := prog_2_method_1_code
def yX0_init : MethodName := ⟨RX0, "<init>", "()V"⟩
abbrev cX0_become : ByteArray := prog_2_method_2_code
def yX0_become : MethodName := ⟨RX0, "become", "(LCanteenPlates$Canteen;)V"⟩
abbrev cX0_hasPerson : ByteArray := prog_2_method_3_code
def yX0_hasPerson : MethodName := ⟨RX0, "hasPerson", "(I)Z"⟩
abbrev cX0_hasDish : ByteArray := prog_2_method_4_code
def yX0_hasDish : MethodName := ⟨RX0, "hasDish", "(I)Z"⟩
abbrev cX0_isAhead : ByteArray := prog_2_method_5_code
def yX0_isAhead : MethodName := ⟨RX0, "isAhead", "(I)Z"⟩
abbrev cX0_priceOf : ByteArray := prog_2_method_6_code
def yX0_priceOf : MethodName := ⟨RX0, "priceOf", "(II)I"⟩
abbrev cX0_changeSetting : ByteArray := prog_2_method_7_code
def yX0_changeSetting : MethodName := ⟨RX0, "changeSetting", "(II)I"⟩
abbrev cX0_changePrice : ByteArray := prog_2_method_8_code
def yX0_changePrice : MethodName := ⟨RX0, "changePrice", "(III)I"⟩
abbrev cX0_addPerson : ByteArray := prog_2_method_9_code
def yX0_addPerson : MethodName := ⟨RX0, "addPerson", "()I"⟩
abbrev cX0_giveVouchers : ByteArray := prog_2_method_10_code
def yX0_giveVouchers : MethodName := ⟨RX0, "giveVouchers", "(II)I"⟩
abbrev cX0_takeOrder : ByteArray := prog_2_method_11_code
def yX0_takeOrder : MethodName := ⟨RX0, "takeOrder", "(III)I"⟩
abbrev cX0_cancelOrder : ByteArray := prog_2_method_12_code
def yX0_cancelOrder : MethodName := ⟨RX0, "cancelOrder", "(II)I"⟩
abbrev cX0_cookToday : ByteArray := prog_2_method_13_code
def yX0_cookToday : MethodName := ⟨RX0, "cookToday", "()I"⟩
abbrev cX0_platesToCook : ByteArray := prog_2_method_14_code
def yX0_platesToCook : MethodName := ⟨RX0, "platesToCook", "(I)I"⟩
abbrev cX0_serve : ByteArray := prog_2_method_15_code
def yX0_serve : MethodName := ⟨RX0, "serve", "(I)I"⟩
abbrev cX0_sell : ByteArray := prog_2_method_16_code
def yX0_sell : MethodName := ⟨RX0, "sell", "(II)I"⟩
abbrev cX0_awaited : ByteArray := prog_2_method_17_code
def yX0_awaited : MethodName := ⟨RX0, "awaited", "(I)I"⟩
abbrev cX0_endDay : ByteArray := prog_2_method_18_code
def yX0_endDay : MethodName := ⟨RX0, "endDay", "()I"⟩
abbrev cX0_aboutPerson : ByteArray := prog_2_method_19_code
def yX0_aboutPerson : MethodName := ⟨RX0, "aboutPerson", "(II)I"⟩
abbrev cX0_aboutDish : ByteArray := prog_2_method_20_code
def yX0_aboutDish : MethodName := ⟨RX0, "aboutDish", "(II)I"⟩
abbrev cX0_peopleWithOrder : ByteArray := prog_2_method_21_code
def yX0_peopleWithOrder : MethodName := ⟨RX0, "peopleWithOrder", "(II)I"⟩
abbrev cX0_number : ByteArray := prog_2_method_22_code
def yX0_number : MethodName := ⟨RX0, "number", "(I)I"⟩
abbrev cX0_sumOfDishes : ByteArray := prog_2_method_23_code
def yX0_sumOfDishes : MethodName := ⟨RX0, "sumOfDishes", "(I)I"⟩
abbrev cX0_sumOfPeople : ByteArray := prog_2_method_24_code
def yX0_sumOfPeople : MethodName := ⟨RX0, "sumOfPeople", "(I)I"⟩
abbrev cX0_bannedToday : ByteArray := prog_2_method_25_code
def yX0_bannedToday : MethodName := ⟨RX0, "bannedToday", "()I"⟩
abbrev cX0_reasonAgainst : ByteArray := prog_2_method_26_code
def yX0_reasonAgainst : MethodName := ⟨RX0, "reasonAgainst", "(III)I"⟩
abbrev cX0_greatestDoubt : ByteArray := prog_2_method_27_code
def yX0_greatestDoubt : MethodName := ⟨RX0, "greatestDoubt", "(I)I"⟩
abbrev cX0_firstPossible : ByteArray := prog_2_method_28_code
def yX0_firstPossible : MethodName := ⟨RX0, "firstPossible", "(I)I"⟩
abbrev cX0_mostThrown : ByteArray := prog_2_method_29_code
def yX0_mostThrown : MethodName := ⟨RX0, "mostThrown", "()I"⟩
def RX1 : String := "CanteenPlates$Dish"
def TX1 : u_T := fun k => match k with
  | 0 => ("CanteenPlates$Dish", "prices", "[I", true)
  | 1 => ("CanteenPlates$Dish", "kept", "I", false)
  | 2 => ("CanteenPlates$Dish", "fresh", "I", false)
  | 3 => ("CanteenPlates$Dish", "cooked", "I", false)
  | 4 => ("CanteenPlates$Dish", "eaten", "I", false)
  | _ => ("CanteenPlates$Dish", "thrown", "I", false)
def tyX1 : Nat → FieldType := fun k => match k with
  | 0 => .array .int
  | 1 => .int
  | 2 => .int
  | 3 => .int
  | 4 => .int
  | _ => .int
abbrev wsX10 : List Cond := u_ws RX1 TX1 6
theorem nmX1 : ∀ a, a < 6 → ∀ b, b < 6 → a ≠ b → (TX1 a).2.1 ≠ (TX1 b).2.1 := by decide +kernel
theorem tyX1_ok : ∀ k, k < 6 → parseFieldDescriptor (TX1 k).2.2.1 = some (tyX1 k) := by decide +kernel
abbrev cX1_init : ByteArray := prog_3_method_1_code
def yX1_init : MethodName := ⟨RX1, "<init>", "()V"⟩
abbrev cX1_become : ByteArray := prog_3_method_2_code
def yX1_become : MethodName := ⟨RX1, "become", "(LCanteenPlates$Dish;)V"⟩
abbrev cX1_left : ByteArray := prog_3_method_3_code
def yX1_left : MethodName := ⟨RX1, "left", "()I"⟩
abbrev cX1_fill : ByteArray := prog_3_method_4_code
def yX1_fill : MethodName := ⟨RX1, "fill", "(I)V"⟩
abbrev cX1_give : ByteArray := prog_3_method_5_code
def yX1_give : MethodName := ⟨RX1, "give", "()V"⟩
abbrev cX1_clearUp : ByteArray := prog_3_method_6_code
def yX1_clearUp : MethodName := ⟨RX1, "clearUp", "(I)V"⟩
abbrev cX1_waste : ByteArray := prog_3_method_7_code
def yX1_waste : MethodName := ⟨RX1, "waste", "()I"⟩
def RX2 : String := "CanteenPlates$History"
def TX2 : u_T := fun k => match k with
  | 0 => ("CanteenPlates$History", "states", "[LCanteenPlates$Canteen;", true)
  | 1 => ("CanteenPlates$History", "next", "I", false)
  | _ => ("CanteenPlates$History", "kept", "I", false)
def tyX2 : Nat → FieldType := fun k => match k with
  | 0 => .array (.object "CanteenPlates$Canteen")
  | 1 => .int
  | _ => .int
abbrev wsX20 : List Cond := u_ws RX2 TX2 3
theorem nmX2 : ∀ a, a < 3 → ∀ b, b < 3 → a ≠ b → (TX2 a).2.1 ≠ (TX2 b).2.1 := by decide +kernel
theorem tyX2_ok : ∀ k, k < 3 → parseFieldDescriptor (TX2 k).2.2.1 = some (tyX2 k) := by decide +kernel
abbrev cX2_init : ByteArray := prog_4_method_1_code
def yX2_init : MethodName := ⟨RX2, "<init>", "()V"⟩
abbrev cX2_length : ByteArray := prog_4_method_2_code
def yX2_length : MethodName := ⟨RX2, "length", "()I"⟩
abbrev cX2_note : ByteArray := prog_4_method_3_code
def yX2_note : MethodName := ⟨RX2, "note", "(LCanteenPlates$Canteen;)V"⟩
abbrev cX2_keep : ByteArray := prog_4_method_4_code
def yX2_keep : MethodName := ⟨RX2, "keep", "(I)I"⟩
abbrev cX2_takeBack : ByteArray := prog_4_method_5_code
def yX2_takeBack : MethodName := ⟨RX2, "takeBack", "(LCanteenPlates$Canteen;)I"⟩
def RX3 : String := "CanteenPlates$OrderReader"
def TX3 : u_T := fun k => match k with
  | 0 => ("CanteenPlates$OrderReader", "pad", "LCanteenPlates$Pad;", true)
  | 1 => ("CanteenPlates$OrderReader", "place", "I", false)
  | 2 => ("CanteenPlates$OrderReader", "letter", "I", false)
  | 3 => ("CanteenPlates$OrderReader", "person", "I", false)
  | 4 => ("CanteenPlates$OrderReader", "many", "I", false)
  | 5 => ("CanteenPlates$OrderReader", "dish", "I", false)
  | _ => ("CanteenPlates$OrderReader", "ahead", "I", false)
def tyX3 : Nat → FieldType := fun k => match k with
  | 0 => .object "CanteenPlates$Pad"
  | 1 => .int
  | 2 => .int
  | 3 => .int
  | 4 => .int
  | 5 => .int
  | _ => .int
abbrev wsX30 : List Cond := u_ws RX3 TX3 7
theorem nmX3 : ∀ a, a < 7 → ∀ b, b < 7 → a ≠ b → (TX3 a).2.1 ≠ (TX3 b).2.1 := by decide +kernel
theorem tyX3_ok : ∀ k, k < 7 → parseFieldDescriptor (TX3 k).2.2.1 = some (tyX3 k) := by decide +kernel
abbrev cX3_init : ByteArray := prog_5_method_1_code
def yX3_init : MethodName := ⟨RX3, "<init>", "(LCanteenPlates$Pad;)V"⟩
abbrev cX3_start : ByteArray := prog_5_method_2_code
def yX3_start : MethodName := ⟨RX3, "start", "()V"⟩
abbrev cX3_firstFault : ByteArray := prog_5_method_3_code
def yX3_firstFault : MethodName := ⟨RX3, "firstFault", "()I"⟩
abbrev cX3_take : ByteArray := prog_5_method_4_code
def yX3_take : MethodName := ⟨RX3, "take", "(C)Z"⟩
abbrev cX3_readOrder : ByteArray := prog_5_method_5_code
def yX3_readOrder : MethodName := ⟨RX3, "readOrder", "()Z"⟩
abbrev cX3_isOrderOver : ByteArray := prog_5_method_6_code
def yX3_isOrderOver : MethodName := ⟨RX3, "isOrderOver", "()Z"⟩
abbrev cX3_readPerson : ByteArray := prog_5_method_7_code
def yX3_readPerson : MethodName := ⟨RX3, "readPerson", "()Z"⟩
abbrev cX3_readMany : ByteArray := prog_5_method_8_code
def yX3_readMany : MethodName := ⟨RX3, "readMany", "()Z"⟩
abbrev cX3_readDish : ByteArray := prog_5_method_9_code
def yX3_readDish : MethodName := ⟨RX3, "readDish", "()Z"⟩
abbrev cX3_readAhead : ByteArray := prog_5_method_10_code
def yX3_readAhead : MethodName := ⟨RX3, "readAhead", "()Z"⟩
abbrev cX3_readNumber : ByteArray := prog_5_method_11_code
def yX3_readNumber : MethodName := ⟨RX3, "readNumber", "()I"⟩
abbrev cX3_readDigit : ByteArray := prog_5_method_12_code
def yX3_readDigit : MethodName := ⟨RX3, "readDigit", "()I"⟩
def RX4 : String := "CanteenPlates$Pad"
def TX4 : u_T := fun k => match k with
  | 0 => ("CanteenPlates$Pad", "text", "[C", true)
  | _ => ("CanteenPlates$Pad", "length", "I", false)
def tyX4 : Nat → FieldType := fun k => match k with
  | 0 => .array .char
  | _ => .int
abbrev wsX40 : List Cond := u_ws RX4 TX4 2
theorem nmX4 : ∀ a, a < 2 → ∀ b, b < 2 → a ≠ b → (TX4 a).2.1 ≠ (TX4 b).2.1 := by decide +kernel
theorem tyX4_ok : ∀ k, k < 2 → parseFieldDescriptor (TX4 k).2.2.1 = some (tyX4 k) := by decide +kernel
abbrev cX4_init : ByteArray := prog_6_method_1_code
def yX4_init : MethodName := ⟨RX4, "<init>", "()V"⟩
abbrev cX4_length : ByteArray := prog_6_method_2_code
def yX4_length : MethodName := ⟨RX4, "length", "()I"⟩
abbrev cX4_at : ByteArray := prog_6_method_3_code
def yX4_at : MethodName := ⟨RX4, "at", "(I)I"⟩
abbrev cX4_append : ByteArray := prog_6_method_4_code
def yX4_append : MethodName := ⟨RX4, "append", "(J)I"⟩
abbrev cX4_goodCharacters : ByteArray := prog_6_method_5_code
def yX4_goodCharacters : MethodName := ⟨RX4, "goodCharacters", "(J)I"⟩
abbrev cX4_clear : ByteArray := prog_6_method_6_code
def yX4_clear : MethodName := ⟨RX4, "clear", "()I"⟩
def RX5 : String := "CanteenPlates$Person"
def TX5 : u_T := fun k => match k with
  | 0 => ("CanteenPlates$Person", "dishes", "[I", true)
  | 1 => ("CanteenPlates$Person", "paid", "[I", true)
  | 2 => ("CanteenPlates$Person", "vouchers", "I", false)
  | 3 => ("CanteenPlates$Person", "strikes", "I", false)
  | 4 => ("CanteenPlates$Person", "freeFrom", "I", false)
  | 5 => ("CanteenPlates$Person", "timesCome", "I", false)
  | 6 => ("CanteenPlates$Person", "timesAway", "I", false)
  | 7 => ("CanteenPlates$Person", "plates", "I", false)
  | _ => ("CanteenPlates$Person", "here", "Z", false)
def tyX5 : Nat → FieldType := fun k => match k with
  | 0 => .array .int
  | 1 => .array .int
  | 2 => .int
  | 3 => .int
  | 4 => .int
  | 5 => .int
  | 6 => .int
  | 7 => .int
  | _ => .boolean
abbrev wsX50 : List Cond := u_ws RX5 TX5 9
theorem nmX5 : ∀ a, a < 9 → ∀ b, b < 9 → a ≠ b → (TX5 a).2.1 ≠ (TX5 b).2.1 := by decide +kernel
theorem tyX5_ok : ∀ k, k < 9 → parseFieldDescriptor (TX5 k).2.2.1 = some (tyX5 k) := by decide +kernel
abbrev cX5_init : ByteArray := prog_7_method_1_code
def yX5_init : MethodName := ⟨RX5, "<init>", "()V"⟩
abbrev cX5_start : ByteArray := prog_7_method_2_code
def yX5_start : MethodName := ⟨RX5, "start", "()V"⟩
abbrev cX5_become : ByteArray := prog_7_method_3_code
def yX5_become : MethodName := ⟨RX5, "become", "(LCanteenPlates$Person;)V"⟩
abbrev cX5_hasOrder : ByteArray := prog_7_method_4_code
def yX5_hasOrder : MethodName := ⟨RX5, "hasOrder", "(I)Z"⟩
abbrev cX5_isMissing : ByteArray := prog_7_method_5_code
def yX5_isMissing : MethodName := ⟨RX5, "isMissing", "()Z"⟩
abbrev cX5_receive : ByteArray := prog_7_method_6_code
def yX5_receive : MethodName := ⟨RX5, "receive", "(I)I"⟩
abbrev cX5_pay : ByteArray := prog_7_method_7_code
def yX5_pay : MethodName := ⟨RX5, "pay", "(III)I"⟩
abbrev cX5_comeWithOrder : ByteArray := prog_7_method_8_code
def yX5_comeWithOrder : MethodName := ⟨RX5, "comeWithOrder", "()V"⟩
abbrev cX5_stayAway : ByteArray := prog_7_method_9_code
def yX5_stayAway : MethodName := ⟨RX5, "stayAway", "()V"⟩
abbrev cX5_judge : ByteArray := prog_7_method_10_code
def yX5_judge : MethodName := ⟨RX5, "judge", "(II)V"⟩
abbrev cX5_startDay : ByteArray := prog_7_method_11_code
def yX5_startDay : MethodName := ⟨RX5, "startDay", "()V"⟩
abbrev cX5_timesOrdered : ByteArray := prog_7_method_12_code
def yX5_timesOrdered : MethodName := ⟨RX5, "timesOrdered", "()I"⟩
abbrev cX5_doubt : ByteArray := prog_7_method_13_code
def yX5_doubt : MethodName := ⟨RX5, "doubt", "()I"⟩
abbrev cX5_isLessSureThan : ByteArray := prog_7_method_14_code
def yX5_isLessSureThan : MethodName := ⟨RX5, "isLessSureThan", "(LCanteenPlates$Person;)Z"⟩
abbrev cX5_daysWithOrder : ByteArray := prog_7_method_15_code
def yX5_daysWithOrder : MethodName := ⟨RX5, "daysWithOrder", "()I"⟩
abbrev cX5_number : ByteArray := prog_7_method_16_code
def yX5_number : MethodName := ⟨RX5, "number", "(I)I"⟩
def RX6 : String := "CanteenPlates$Slots"
def TX6 : u_T := fun k => match k with
  | 0 => ("CanteenPlates$Slots", "saved", "[LCanteenPlates$Canteen;", true)
  | _ => ("CanteenPlates$Slots", "used", "[Z", true)
def tyX6 : Nat → FieldType := fun k => match k with
  | 0 => .array (.object "CanteenPlates$Canteen")
  | _ => .array .boolean
abbrev wsX60 : List Cond := u_ws RX6 TX6 2
theorem nmX6 : ∀ a, a < 2 → ∀ b, b < 2 → a ≠ b → (TX6 a).2.1 ≠ (TX6 b).2.1 := by decide +kernel
theorem tyX6_ok : ∀ k, k < 2 → parseFieldDescriptor (TX6 k).2.2.1 = some (tyX6 k) := by decide +kernel
abbrev cX6_init : ByteArray := prog_8_method_1_code
def yX6_init : MethodName := ⟨RX6, "<init>", "()V"⟩
abbrev cX6_store : ByteArray := prog_8_method_2_code
def yX6_store : MethodName := ⟨RX6, "store", "(ILCanteenPlates$Canteen;)I"⟩
abbrev cX6_fetch : ByteArray := prog_8_method_3_code
def yX6_fetch : MethodName := ⟨RX6, "fetch", "(ILCanteenPlates$Canteen;)I"⟩
def RX7 : String := "CanteenPlates"
def TX7 : u_T := fun k => match k with
  | 0 => ("CanteenPlates", "now", "LCanteenPlates$Canteen;", true)
  | 1 => ("CanteenPlates", "history", "LCanteenPlates$History;", true)
  | 2 => ("CanteenPlates", "slots", "LCanteenPlates$Slots;", true)
  | 3 => ("CanteenPlates", "pad", "LCanteenPlates$Pad;", true)
  | _ => ("CanteenPlates", "reader", "LCanteenPlates$OrderReader;", true)
def tyX7 : Nat → FieldType := fun k => match k with
  | 0 => .object "CanteenPlates$Canteen"
  | 1 => .object "CanteenPlates$History"
  | 2 => .object "CanteenPlates$Slots"
  | 3 => .object "CanteenPlates$Pad"
  | _ => .object "CanteenPlates$OrderReader"
abbrev wsX70 : List Cond := u_ws RX7 TX7 5
theorem nmX7 : ∀ a, a < 5 → ∀ b, b < 5 → a ≠ b → (TX7 a).2.1 ≠ (TX7 b).2.1 := by decide +kernel
theorem tyX7_ok : ∀ k, k < 5 → parseFieldDescriptor (TX7 k).2.2.1 = some (tyX7 k) := by decide +kernel
abbrev cX7_init : ByteArray := prog_1_method_1_code
def yX7_init : MethodName := ⟨RX7, "<init>", "()V"⟩
abbrev cX7_set : ByteArray := prog_1_method_2_code
def yX7_set : MethodName := ⟨RX7, "set", "(II)I"⟩
abbrev cX7_price : ByteArray := prog_1_method_3_code
def yX7_price : MethodName := ⟨RX7, "price", "(III)I"⟩
abbrev cX7_person : ByteArray := prog_1_method_4_code
def yX7_person : MethodName := ⟨RX7, "person", "()I"⟩
abbrev cX7_vouchers : ByteArray := prog_1_method_5_code
def yX7_vouchers : MethodName := ⟨RX7, "vouchers", "(II)I"⟩
abbrev cX7_order : ByteArray := prog_1_method_6_code
def yX7_order : MethodName := ⟨RX7, "order", "(III)I"⟩
abbrev cX7_callOff : ByteArray := prog_1_method_7_code
def yX7_callOff : MethodName := ⟨RX7, "callOff", "(II)I"⟩
abbrev cX7_cook : ByteArray := prog_1_method_8_code
def yX7_cook : MethodName := ⟨RX7, "cook", "()I"⟩
abbrev cX7_come : ByteArray := prog_1_method_9_code
def yX7_come : MethodName := ⟨RX7, "come", "(I)I"⟩
abbrev cX7_buy : ByteArray := prog_1_method_10_code
def yX7_buy : MethodName := ⟨RX7, "buy", "(II)I"⟩
abbrev cX7_close : ByteArray := prog_1_method_11_code
def yX7_close : MethodName := ⟨RX7, "close", "()I"⟩
abbrev cX7_of : ByteArray := prog_1_method_12_code
def yX7_of : MethodName := ⟨RX7, "of", "(II)I"⟩
abbrev cX7_ofDish : ByteArray := prog_1_method_13_code
def yX7_ofDish : MethodName := ⟨RX7, "ofDish", "(II)I"⟩
abbrev cX7_ordered : ByteArray := prog_1_method_14_code
def yX7_ordered : MethodName := ⟨RX7, "ordered", "(II)I"⟩
abbrev cX7_count : ByteArray := prog_1_method_15_code
def yX7_count : MethodName := ⟨RX7, "count", "(I)I"⟩
abbrev cX7_why : ByteArray := prog_1_method_16_code
def yX7_why : MethodName := ⟨RX7, "why", "(III)I"⟩
abbrev cX7_unsurest : ByteArray := prog_1_method_17_code
def yX7_unsurest : MethodName := ⟨RX7, "unsurest", "(I)I"⟩
abbrev cX7_firstOrder : ByteArray := prog_1_method_18_code
def yX7_firstOrder : MethodName := ⟨RX7, "firstOrder", "(I)I"⟩
abbrev cX7_wasted : ByteArray := prog_1_method_19_code
def yX7_wasted : MethodName := ⟨RX7, "wasted", "()I"⟩
abbrev cX7_put : ByteArray := prog_1_method_20_code
def yX7_put : MethodName := ⟨RX7, "put", "(J)I"⟩
abbrev cX7_wipe : ByteArray := prog_1_method_21_code
def yX7_wipe : MethodName := ⟨RX7, "wipe", "()I"⟩
abbrev cX7_fault : ByteArray := prog_1_method_22_code
def yX7_fault : MethodName := ⟨RX7, "fault", "()I"⟩
abbrev cX7_carryOut : ByteArray := prog_1_method_23_code
def yX7_carryOut : MethodName := ⟨RX7, "carryOut", "()I"⟩
abbrev cX7_undo : ByteArray := prog_1_method_24_code
def yX7_undo : MethodName := ⟨RX7, "undo", "()I"⟩
abbrev cX7_save : ByteArray := prog_1_method_25_code
def yX7_save : MethodName := ⟨RX7, "save", "(I)I"⟩
abbrev cX7_restore : ByteArray := prog_1_method_26_code
def yX7_restore : MethodName := ⟨RX7, "restore", "(I)I"⟩
abbrev cX7_carryOutAll : ByteArray := prog_1_method_27_code
def yX7_carryOutAll : MethodName := ⟨RX7, "carryOutAll", "()I"⟩
abbrev cX7_carryOutOne : ByteArray := prog_1_method_28_code
def yX7_carryOutOne : MethodName := ⟨RX7, "carryOutOne", "()I"⟩
def RX8 : String := "CanteenPlatesModel"
def TX8 : u_T := fun k => match k with
  | 0 => ("CanteenPlatesModel", "s", "[I", true)
  | 1 => ("CanteenPlatesModel", "spare", "[I", true)
  | 2 => ("CanteenPlatesModel", "before", "[I", true)
  | 3 => ("CanteenPlatesModel", "saved", "[I", true)
  | 4 => ("CanteenPlatesModel", "isSaved", "[Z", true)
  | 5 => ("CanteenPlatesModel", "read", "[I", true)
  | 6 => ("CanteenPlatesModel", "pad", "[C", true)
  | 7 => ("CanteenPlatesModel", "length", "I", false)
  | 8 => ("CanteenPlatesModel", "states", "I", false)
  | 9 => ("CanteenPlatesModel", "orders", "I", false)
  | _ => ("CanteenPlatesModel", "at", "I", false)
def tyX8 : Nat → FieldType := fun k => match k with
  | 0 => .array .int
  | 1 => .array .int
  | 2 => .array .int
  | 3 => .array .int
  | 4 => .array .boolean
  | 5 => .array .int
  | 6 => .array .char
  | 7 => .int
  | 8 => .int
  | 9 => .int
  | _ => .int
abbrev wsX80 : List Cond := u_ws RX8 TX8 11
theorem nmX8 : ∀ a, a < 11 → ∀ b, b < 11 → a ≠ b → (TX8 a).2.1 ≠ (TX8 b).2.1 := by decide +kernel
theorem tyX8_ok : ∀ k, k < 11 → parseFieldDescriptor (TX8 k).2.2.1 = some (tyX8 k) := by decide +kernel
abbrev cX8_init : ByteArray := prog_10_method_1_code
def yX8_init : MethodName := ⟨RX8, "<init>", "()V"⟩
abbrev cX8_in : ByteArray := prog_10_method_2_code
def yX8_in : MethodName := ⟨RX8, "in", "(III)Z"⟩
abbrev cX8_p : ByteArray := prog_10_method_3_code
def yX8_p : MethodName := ⟨RX8, "p", "(I)I"⟩
abbrev cX8_d : ByteArray := prog_10_method_4_code
def yX8_d : MethodName := ⟨RX8, "d", "(I)I"⟩
abbrev cX8_isPerson : ByteArray := prog_10_method_5_code
def yX8_isPerson : MethodName := ⟨RX8, "isPerson", "(I)Z"⟩
abbrev cX8_isDish : ByteArray := prog_10_method_6_code
def yX8_isDish : MethodName := ⟨RX8, "isDish", "(I)Z"⟩
abbrev cX8_hold : ByteArray := prog_10_method_7_code
def yX8_hold : MethodName := ⟨RX8, "hold", "()V"⟩
abbrev cX8_recorded : ByteArray := prog_10_method_8_code
def yX8_recorded : MethodName := ⟨RX8, "recorded", "(I)I"⟩
abbrev cX8_priceOn : ByteArray := prog_10_method_9_code
def yX8_priceOn : MethodName := ⟨RX8, "priceOn", "(II)I"⟩
abbrev cX8_gives : ByteArray := prog_10_method_10_code
def yX8_gives : MethodName := ⟨RX8, "gives", "(II)V"⟩
abbrev cX8_isFor : ByteArray := prog_10_method_11_code
def yX8_isFor : MethodName := ⟨RX8, "isFor", "(III)Z"⟩
abbrev cX8_doubt : ByteArray := prog_10_method_12_code
def yX8_doubt : MethodName := ⟨RX8, "doubt", "(I)I"⟩
abbrev cX8_toCook : ByteArray := prog_10_method_13_code
def yX8_toCook : MethodName := ⟨RX8, "toCook", "(I)I"⟩
abbrev cX8_left : ByteArray := prog_10_method_14_code
def yX8_left : MethodName := ⟨RX8, "left", "(I)I"⟩
abbrev cX8_awaited : ByteArray := prog_10_method_15_code
def yX8_awaited : MethodName := ⟨RX8, "awaited", "(I)I"⟩
abbrev cX8_eats : ByteArray := prog_10_method_16_code
def yX8_eats : MethodName := ⟨RX8, "eats", "(II)V"⟩
abbrev cX8_comesHere : ByteArray := prog_10_method_17_code
def yX8_comesHere : MethodName := ⟨RX8, "comesHere", "()I"⟩
abbrev cX8_gets : ByteArray := prog_10_method_18_code
def yX8_gets : MethodName := ⟨RX8, "gets", "(II)I"⟩
abbrev cX8_reason : ByteArray := prog_10_method_19_code
def yX8_reason : MethodName := ⟨RX8, "reason", "(III)I"⟩
abbrev cX8_ordersOf : ByteArray := prog_10_method_20_code
def yX8_ordersOf : MethodName := ⟨RX8, "ordersOf", "(III)I"⟩
abbrev cX8_cooks : ByteArray := prog_10_method_21_code
def yX8_cooks : MethodName := ⟨RX8, "cooks", "()I"⟩
abbrev cX8_comes : ByteArray := prog_10_method_22_code
def yX8_comes : MethodName := ⟨RX8, "comes", "(I)I"⟩
abbrev cX8_buys : ByteArray := prog_10_method_23_code
def yX8_buys : MethodName := ⟨RX8, "buys", "(II)I"⟩
abbrev cX8_endsFor : ByteArray := prog_10_method_24_code
def yX8_endsFor : MethodName := ⟨RX8, "endsFor", "(I)I"⟩
abbrev cX8_closes : ByteArray := prog_10_method_25_code
def yX8_closes : MethodName := ⟨RX8, "closes", "()I"⟩
abbrev cX8_set : ByteArray := prog_10_method_26_code
def yX8_set : MethodName := ⟨RX8, "set", "(II)I"⟩
abbrev cX8_price : ByteArray := prog_10_method_27_code
def yX8_price : MethodName := ⟨RX8, "price", "(III)I"⟩
abbrev cX8_person : ByteArray := prog_10_method_28_code
def yX8_person : MethodName := ⟨RX8, "person", "()I"⟩
abbrev cX8_vouchers : ByteArray := prog_10_method_29_code
def yX8_vouchers : MethodName := ⟨RX8, "vouchers", "(II)I"⟩
abbrev cX8_order : ByteArray := prog_10_method_30_code
def yX8_order : MethodName := ⟨RX8, "order", "(III)I"⟩
abbrev cX8_callOff : ByteArray := prog_10_method_31_code
def yX8_callOff : MethodName := ⟨RX8, "callOff", "(II)I"⟩
abbrev cX8_cook : ByteArray := prog_10_method_32_code
def yX8_cook : MethodName := ⟨RX8, "cook", "()I"⟩
abbrev cX8_come : ByteArray := prog_10_method_33_code
def yX8_come : MethodName := ⟨RX8, "come", "(I)I"⟩
abbrev cX8_buy : ByteArray := prog_10_method_34_code
def yX8_buy : MethodName := ⟨RX8, "buy", "(II)I"⟩
abbrev cX8_close : ByteArray := prog_10_method_35_code
def yX8_close : MethodName := ⟨RX8, "close", "()I"⟩
abbrev cX8_daysOf : ByteArray := prog_10_method_36_code
def yX8_daysOf : MethodName := ⟨RX8, "daysOf", "(I)I"⟩
abbrev cX8_of : ByteArray := prog_10_method_37_code
def yX8_of : MethodName := ⟨RX8, "of", "(II)I"⟩
abbrev cX8_ofDish : ByteArray := prog_10_method_38_code
def yX8_ofDish : MethodName := ⟨RX8, "ofDish", "(II)I"⟩
abbrev cX8_ordered : ByteArray := prog_10_method_39_code
def yX8_ordered : MethodName := ⟨RX8, "ordered", "(II)I"⟩
abbrev cX8_ofDishes : ByteArray := prog_10_method_40_code
def yX8_ofDishes : MethodName := ⟨RX8, "ofDishes", "(I)I"⟩
abbrev cX8_ofPeople : ByteArray := prog_10_method_41_code
def yX8_ofPeople : MethodName := ⟨RX8, "ofPeople", "(I)I"⟩
abbrev cX8_count : ByteArray := prog_10_method_42_code
def yX8_count : MethodName := ⟨RX8, "count", "(I)I"⟩
abbrev cX8_why : ByteArray := prog_10_method_43_code
def yX8_why : MethodName := ⟨RX8, "why", "(III)I"⟩
abbrev cX8_unsurest : ByteArray := prog_10_method_44_code
def yX8_unsurest : MethodName := ⟨RX8, "unsurest", "(I)I"⟩
abbrev cX8_firstOrder : ByteArray := prog_10_method_45_code
def yX8_firstOrder : MethodName := ⟨RX8, "firstOrder", "(I)I"⟩
abbrev cX8_wasted : ByteArray := prog_10_method_46_code
def yX8_wasted : MethodName := ⟨RX8, "wasted", "()I"⟩
abbrev cX8_isSign : ByteArray := prog_10_method_47_code
def yX8_isSign : MethodName := ⟨RX8, "isSign", "(CC)Z"⟩
abbrev cX8_accepts : ByteArray := prog_10_method_48_code
def yX8_accepts : MethodName := ⟨RX8, "accepts", "(C)Z"⟩
abbrev cX8_number : ByteArray := prog_10_method_49_code
def yX8_number : MethodName := ⟨RX8, "number", "(I)Z"⟩
abbrev cX8_sign : ByteArray := prog_10_method_50_code
def yX8_sign : MethodName := ⟨RX8, "sign", "(ICC)Z"⟩
abbrev cX8_readsOrder : ByteArray := prog_10_method_51_code
def yX8_readsOrder : MethodName := ⟨RX8, "readsOrder", "()Z"⟩
abbrev cX8_faultOf : ByteArray := prog_10_method_52_code
def yX8_faultOf : MethodName := ⟨RX8, "faultOf", "()I"⟩
abbrev cX8_does : ByteArray := prog_10_method_53_code
def yX8_does : MethodName := ⟨RX8, "does", "(I)I"⟩
abbrev cX8_put : ByteArray := prog_10_method_54_code
def yX8_put : MethodName := ⟨RX8, "put", "(J)I"⟩
abbrev cX8_wipe : ByteArray := prog_10_method_55_code
def yX8_wipe : MethodName := ⟨RX8, "wipe", "()I"⟩
abbrev cX8_fault : ByteArray := prog_10_method_56_code
def yX8_fault : MethodName := ⟨RX8, "fault", "()I"⟩
abbrev cX8_carryOut : ByteArray := prog_10_method_57_code
def yX8_carryOut : MethodName := ⟨RX8, "carryOut", "()I"⟩
abbrev cX8_undo : ByteArray := prog_10_method_58_code
def yX8_undo : MethodName := ⟨RX8, "undo", "()I"⟩
abbrev cX8_save : ByteArray := prog_10_method_59_code
def yX8_save : MethodName := ⟨RX8, "save", "(I)I"⟩
abbrev cX8_restore : ByteArray := prog_10_method_60_code
def yX8_restore : MethodName := ⟨RX8, "restore", "(I)I"⟩
def RJ9 : String := "java/lang/Math"
def TJ9 : u_T := fun k => match k with
  | _ => ("", "", "", false)
def tyJ9 : Nat → FieldType := fun k => match k with
  | _ => .int
abbrev wsJ90 : List Cond := u_ws RJ9 TJ9 0
theorem nmJ9 : ∀ a, a < 0 → ∀ b, b < 0 → a ≠ b → (TJ9 a).2.1 ≠ (TJ9 b).2.1 := by decide +kernel
theorem tyJ9_ok : ∀ k, k < 0 → parseFieldDescriptor (TJ9 k).2.2.1 = some (tyJ9 k) := by decide +kernel
abbrev cJ9_max_7cf53 : ByteArray := prog_11_method_65_code
def yJ9_max_7cf53 : MethodName := ⟨RJ9, "max", "(II)I"⟩
abbrev cJ9_min_7cf53 : ByteArray := prog_11_method_69_code
def yJ9_min_7cf53 : MethodName := ⟨RJ9, "min", "(II)I"⟩
def RJ10 : String := "java/lang/System"
def TJ10 : u_T := fun k => match k with
  | _ => ("", "", "", false)
def tyJ10 : Nat → FieldType := fun k => match k with
  | _ => .int
abbrev wsJ100 : List Cond := u_ws RJ10 TJ10 0
theorem nmJ10 : ∀ a, a < 0 → ∀ b, b < 0 → a ≠ b → (TJ10 a).2.1 ≠ (TJ10 b).2.1 := by decide +kernel
theorem tyJ10_ok : ∀ k, k < 0 → parseFieldDescriptor (TJ10 k).2.2.1 = some (tyJ10 k) := by decide +kernel
def RL : String := "CanteenPlatesLaw"
abbrev cL_law : ByteArray := code
def yL_law : MethodName := ⟨RL, "law", "([I)Z"⟩
abbrev vwCl : List vw_C := [(RX0, TX0, 6), (RX1, TX1, 6), (RX2, TX2, 3), (RX3, TX3, 7), (RX4, TX4, 2), (RX5, TX5, 9), (RX6, TX6, 2), (RX7, TX7, 5), (RX8, TX8, 11)]
end
section
theorem dX0_init_0 : decode cX0_init 0 = .ok (.aload_n 0, 1) := by decide +kernel
theorem dX0_init_1 : decode cX0_init 1 = .ok (.invokespecial 3, 3) := by decide +kernel
theorem dX0_init_4 : decode cX0_init 4 = .ok (.aload_n 0, 1) := by decide +kernel
theorem dX0_init_5 : decode cX0_init 5 = .ok (.iconst 4, 1) := by decide +kernel
theorem dX0_init_6 : decode cX0_init 6 = .ok (.newarray .int, 2) := by decide +kernel
theorem dX0_init_8 : decode cX0_init 8 = .ok (.dup, 1) := by decide +kernel
theorem dX0_init_9 : decode cX0_init 9 = .ok (.iconst 0, 1) := by decide +kernel
theorem dX0_init_10 : decode cX0_init 10 = .ok (.iconst 1, 1) := by decide +kernel
theorem dX0_init_11 : decode cX0_init 11 = .ok (.iastore, 1) := by decide +kernel
theorem dX0_init_12 : decode cX0_init 12 = .ok (.dup, 1) := by decide +kernel
theorem dX0_init_13 : decode cX0_init 13 = .ok (.iconst 1, 1) := by decide +kernel
theorem dX0_init_14 : decode cX0_init 14 = .ok (.iconst 4, 1) := by decide +kernel
theorem dX0_init_15 : decode cX0_init 15 = .ok (.iastore, 1) := by decide +kernel
theorem dX0_init_16 : decode cX0_init 16 = .ok (.dup, 1) := by decide +kernel
theorem dX0_init_17 : decode cX0_init 17 = .ok (.iconst 2, 1) := by decide +kernel
theorem dX0_init_18 : decode cX0_init 18 = .ok (.iconst 3, 1) := by decide +kernel
theorem dX0_init_19 : decode cX0_init 19 = .ok (.iastore, 1) := by decide +kernel
theorem dX0_init_20 : decode cX0_init 20 = .ok (.dup, 1) := by decide +kernel
theorem dX0_init_21 : decode cX0_init 21 = .ok (.iconst 3, 1) := by decide +kernel
theorem dX0_init_22 : decode cX0_init 22 = .ok (.iconst 5, 1) := by decide +kernel
theorem dX0_init_23 : decode cX0_init 23 = .ok (.iastore, 1) := by decide +kernel
theorem dX0_init_24 : decode cX0_init 24 = .ok (.putfield 9, 3) := by decide +kernel
theorem dX0_init_27 : decode cX0_init 27 = .ok (.aload_n 0, 1) := by decide +kernel
theorem dX0_init_28 : decode cX0_init 28 = .ok (.bipush 14, 2) := by decide +kernel
theorem dX0_init_30 : decode cX0_init 30 = .ok (.anewarray 15, 3) := by decide +kernel
theorem dX0_init_33 : decode cX0_init 33 = .ok (.putfield 17, 3) := by decide +kernel
theorem dX0_init_36 : decode cX0_init 36 = .ok (.aload_n 0, 1) := by decide +kernel
theorem dX0_init_37 : decode cX0_init 37 = .ok (.iconst 3, 1) := by decide +kernel
theorem dX0_init_38 : decode cX0_init 38 = .ok (.anewarray 21, 3) := by decide +kernel
theorem dX0_init_41 : decode cX0_init 41 = .ok (.putfield 23, 3) := by decide +kernel
theorem dX0_init_44 : decode cX0_init 44 = .ok (.iconst 0, 1) := by decide +kernel
theorem dX0_init_45 : decode cX0_init 45 = .ok (.istore_n 1, 1) := by decide +kernel
theorem dX0_init_46 : decode cX0_init 46 = .ok (.iload_n 1, 1) := by decide +kernel
theorem dX0_init_47 : decode cX0_init 47 = .ok (.bipush 14, 2) := by decide +kernel
theorem dX0_init_49 : decode cX0_init 49 = .ok (.if_icmp .ge 22, 3) := by decide +kernel
theorem dX0_init_52 : decode cX0_init 52 = .ok (.aload_n 0, 1) := by decide +kernel
theorem dX0_init_53 : decode cX0_init 53 = .ok (.getfield 17, 3) := by decide +kernel
theorem dX0_init_56 : decode cX0_init 56 = .ok (.iload_n 1, 1) := by decide +kernel
theorem dX0_init_57 : decode cX0_init 57 = .ok (.new 15, 3) := by decide +kernel
theorem dX0_init_60 : decode cX0_init 60 = .ok (.dup, 1) := by decide +kernel
theorem dX0_init_61 : decode cX0_init 61 = .ok (.invokespecial 27, 3) := by decide +kernel
theorem dX0_init_64 : decode cX0_init 64 = .ok (.aastore, 1) := by decide +kernel
theorem dX0_init_65 : decode cX0_init 65 = .ok (.iinc 1 1, 3) := by decide +kernel
theorem dX0_init_68 : decode cX0_init 68 = .ok (.goto (-22), 3) := by decide +kernel
theorem dX0_init_71 : decode cX0_init 71 = .ok (.iconst 0, 1) := by decide +kernel
theorem dX0_init_72 : decode cX0_init 72 = .ok (.istore_n 1, 1) := by decide +kernel
theorem dX0_init_73 : decode cX0_init 73 = .ok (.iload_n 1, 1) := by decide +kernel
theorem dX0_init_74 : decode cX0_init 74 = .ok (.iconst 3, 1) := by decide +kernel
theorem dX0_init_75 : decode cX0_init 75 = .ok (.if_icmp .ge 22, 3) := by decide +kernel
theorem dX0_init_78 : decode cX0_init 78 = .ok (.aload_n 0, 1) := by decide +kernel
theorem dX0_init_79 : decode cX0_init 79 = .ok (.getfield 23, 3) := by decide +kernel
theorem dX0_init_82 : decode cX0_init 82 = .ok (.iload_n 1, 1) := by decide +kernel
theorem dX0_init_83 : decode cX0_init 83 = .ok (.new 21, 3) := by decide +kernel
theorem dX0_init_86 : decode cX0_init 86 = .ok (.dup, 1) := by decide +kernel
theorem dX0_init_87 : decode cX0_init 87 = .ok (.invokespecial 28, 3) := by decide +kernel
theorem dX0_init_90 : decode cX0_init 90 = .ok (.aastore, 1) := by decide +kernel
theorem dX0_init_91 : decode cX0_init 91 = .ok (.iinc 1 1, 3) := by decide +kernel
theorem dX0_init_94 : decode cX0_init 94 = .ok (.goto (-21), 3) := by decide +kernel
theorem dX0_init_97 : decode cX0_init 97 = .ok (.return_, 1) := by decide +kernel
theorem dX0_become_0 : decode cX0_become 0 = .ok (.aload_n 1, 1) := by decide +kernel
theorem dX0_become_1 : decode cX0_become 1 = .ok (.getfield 9, 3) := by decide +kernel
theorem dX0_become_4 : decode cX0_become 4 = .ok (.iconst 0, 1) := by decide +kernel
theorem dX0_become_5 : decode cX0_become 5 = .ok (.aload_n 0, 1) := by decide +kernel
theorem dX0_become_6 : decode cX0_become 6 = .ok (.getfield 9, 3) := by decide +kernel
theorem dX0_become_9 : decode cX0_become 9 = .ok (.iconst 0, 1) := by decide +kernel
theorem dX0_become_10 : decode cX0_become 10 = .ok (.iconst 4, 1) := by decide +kernel
theorem dX0_become_11 : decode cX0_become 11 = .ok (.invokestatic 29, 3) := by decide +kernel
theorem dX0_become_14 : decode cX0_become 14 = .ok (.iconst 0, 1) := by decide +kernel
theorem dX0_become_15 : decode cX0_become 15 = .ok (.istore_n 2, 1) := by decide +kernel
theorem dX0_become_16 : decode cX0_become 16 = .ok (.iload_n 2, 1) := by decide +kernel
theorem dX0_become_17 : decode cX0_become 17 = .ok (.iconst 3, 1) := by decide +kernel
theorem dX0_become_18 : decode cX0_become 18 = .ok (.if_icmp .ge 24, 3) := by decide +kernel
theorem dX0_become_21 : decode cX0_become 21 = .ok (.aload_n 0, 1) := by decide +kernel
theorem dX0_become_22 : decode cX0_become 22 = .ok (.getfield 23, 3) := by decide +kernel
theorem dX0_become_25 : decode cX0_become 25 = .ok (.iload_n 2, 1) := by decide +kernel
theorem dX0_become_26 : decode cX0_become 26 = .ok (.aaload, 1) := by decide +kernel
theorem dX0_become_27 : decode cX0_become 27 = .ok (.aload_n 1, 1) := by decide +kernel
theorem dX0_become_28 : decode cX0_become 28 = .ok (.getfield 23, 3) := by decide +kernel
theorem dX0_become_31 : decode cX0_become 31 = .ok (.iload_n 2, 1) := by decide +kernel
theorem dX0_become_32 : decode cX0_become 32 = .ok (.aaload, 1) := by decide +kernel
theorem dX0_become_33 : decode cX0_become 33 = .ok (.invokevirtual 35, 3) := by decide +kernel
theorem dX0_become_36 : decode cX0_become 36 = .ok (.iinc 2 1, 3) := by decide +kernel
theorem dX0_become_39 : decode cX0_become 39 = .ok (.goto (-23), 3) := by decide +kernel
theorem dX0_become_42 : decode cX0_become 42 = .ok (.iconst 0, 1) := by decide +kernel
theorem dX0_become_43 : decode cX0_become 43 = .ok (.istore_n 2, 1) := by decide +kernel
theorem dX0_become_44 : decode cX0_become 44 = .ok (.iload_n 2, 1) := by decide +kernel
theorem dX0_become_45 : decode cX0_become 45 = .ok (.aload_n 1, 1) := by decide +kernel
theorem dX0_become_46 : decode cX0_become 46 = .ok (.getfield 39, 3) := by decide +kernel
theorem dX0_become_49 : decode cX0_become 49 = .ok (.if_icmp .ge 24, 3) := by decide +kernel
theorem dX0_become_52 : decode cX0_become 52 = .ok (.aload_n 0, 1) := by decide +kernel
theorem dX0_become_53 : decode cX0_become 53 = .ok (.getfield 17, 3) := by decide +kernel
theorem dX0_become_56 : decode cX0_become 56 = .ok (.iload_n 2, 1) := by decide +kernel
theorem dX0_become_57 : decode cX0_become 57 = .ok (.aaload, 1) := by decide +kernel
theorem dX0_become_58 : decode cX0_become 58 = .ok (.aload_n 1, 1) := by decide +kernel
theorem dX0_become_59 : decode cX0_become 59 = .ok (.getfield 17, 3) := by decide +kernel
theorem dX0_become_62 : decode cX0_become 62 = .ok (.iload_n 2, 1) := by decide +kernel
theorem dX0_become_63 : decode cX0_become 63 = .ok (.aaload, 1) := by decide +kernel
theorem dX0_become_64 : decode cX0_become 64 = .ok (.invokevirtual 43, 3) := by decide +kernel
theorem dX0_become_67 : decode cX0_become 67 = .ok (.iinc 2 1, 3) := by decide +kernel
theorem dX0_become_70 : decode cX0_become 70 = .ok (.goto (-26), 3) := by decide +kernel
theorem dX0_become_73 : decode cX0_become 73 = .ok (.aload_n 0, 1) := by decide +kernel
theorem dX0_become_74 : decode cX0_become 74 = .ok (.aload_n 1, 1) := by decide +kernel
theorem dX0_become_75 : decode cX0_become 75 = .ok (.getfield 39, 3) := by decide +kernel
theorem dX0_become_78 : decode cX0_become 78 = .ok (.putfield 39, 3) := by decide +kernel
theorem dX0_become_81 : decode cX0_become 81 = .ok (.aload_n 0, 1) := by decide +kernel
theorem dX0_become_82 : decode cX0_become 82 = .ok (.aload_n 1, 1) := by decide +kernel
theorem dX0_become_83 : decode cX0_become 83 = .ok (.getfield 46, 3) := by decide +kernel
theorem dX0_become_86 : decode cX0_become 86 = .ok (.putfield 46, 3) := by decide +kernel
theorem dX0_become_89 : decode cX0_become 89 = .ok (.aload_n 0, 1) := by decide +kernel
theorem dX0_become_90 : decode cX0_become 90 = .ok (.aload_n 1, 1) := by decide +kernel
theorem dX0_become_91 : decode cX0_become 91 = .ok (.getfield 49, 3) := by decide +kernel
theorem dX0_become_94 : decode cX0_become 94 = .ok (.putfield 49, 3) := by decide +kernel
theorem dX0_become_97 : decode cX0_become 97 = .ok (.return_, 1) := by decide +kernel
theorem dX0_hasPerson_0 : decode cX0_hasPerson 0 = .ok (.iload_n 1, 1) := by decide +kernel
theorem dX0_hasPerson_1 : decode cX0_hasPerson 1 = .ok (.ifCond .lt 15, 3) := by decide +kernel
theorem dX0_hasPerson_4 : decode cX0_hasPerson 4 = .ok (.iload_n 1, 1) := by decide +kernel
theorem dX0_hasPerson_5 : decode cX0_hasPerson 5 = .ok (.aload_n 0, 1) := by decide +kernel
theorem dX0_hasPerson_6 : decode cX0_hasPerson 6 = .ok (.getfield 39, 3) := by decide +kernel
theorem dX0_hasPerson_9 : decode cX0_hasPerson 9 = .ok (.if_icmp .ge 7, 3) := by decide +kernel
theorem dX0_hasPerson_12 : decode cX0_hasPerson 12 = .ok (.iconst 1, 1) := by decide +kernel
theorem dX0_hasPerson_13 : decode cX0_hasPerson 13 = .ok (.goto 4, 3) := by decide +kernel
theorem dX0_hasPerson_16 : decode cX0_hasPerson 16 = .ok (.iconst 0, 1) := by decide +kernel
theorem dX0_hasPerson_17 : decode cX0_hasPerson 17 = .ok (.ireturn, 1) := by decide +kernel
theorem dX0_hasDish_0 : decode cX0_hasDish 0 = .ok (.iload_n 1, 1) := by decide +kernel
theorem dX0_hasDish_1 : decode cX0_hasDish 1 = .ok (.ifCond .lt 12, 3) := by decide +kernel
theorem dX0_hasDish_4 : decode cX0_hasDish 4 = .ok (.iload_n 1, 1) := by decide +kernel
theorem dX0_hasDish_5 : decode cX0_hasDish 5 = .ok (.iconst 3, 1) := by decide +kernel
theorem dX0_hasDish_6 : decode cX0_hasDish 6 = .ok (.if_icmp .ge 7, 3) := by decide +kernel
theorem dX0_hasDish_9 : decode cX0_hasDish 9 = .ok (.iconst 1, 1) := by decide +kernel
theorem dX0_hasDish_10 : decode cX0_hasDish 10 = .ok (.goto 4, 3) := by decide +kernel
theorem dX0_hasDish_13 : decode cX0_hasDish 13 = .ok (.iconst 0, 1) := by decide +kernel
theorem dX0_hasDish_14 : decode cX0_hasDish 14 = .ok (.ireturn, 1) := by decide +kernel
theorem dX0_isAhead_0 : decode cX0_isAhead 0 = .ok (.iload_n 1, 1) := by decide +kernel
theorem dX0_isAhead_1 : decode cX0_isAhead 1 = .ok (.ifCond .lt 12, 3) := by decide +kernel
theorem dX0_isAhead_4 : decode cX0_isAhead 4 = .ok (.iload_n 1, 1) := by decide +kernel
theorem dX0_isAhead_5 : decode cX0_isAhead 5 = .ok (.iconst 5, 1) := by decide +kernel
theorem dX0_isAhead_6 : decode cX0_isAhead 6 = .ok (.if_icmp .ge 7, 3) := by decide +kernel
theorem dX0_isAhead_9 : decode cX0_isAhead 9 = .ok (.iconst 1, 1) := by decide +kernel
theorem dX0_isAhead_10 : decode cX0_isAhead 10 = .ok (.goto 4, 3) := by decide +kernel
theorem dX0_isAhead_13 : decode cX0_isAhead 13 = .ok (.iconst 0, 1) := by decide +kernel
theorem dX0_isAhead_14 : decode cX0_isAhead 14 = .ok (.ireturn, 1) := by decide +kernel
theorem dX0_priceOf_0 : decode cX0_priceOf 0 = .ok (.aload_n 0, 1) := by decide +kernel
theorem dX0_priceOf_1 : decode cX0_priceOf 1 = .ok (.getfield 23, 3) := by decide +kernel
theorem dX0_priceOf_4 : decode cX0_priceOf 4 = .ok (.iload_n 1, 1) := by decide +kernel
theorem dX0_priceOf_5 : decode cX0_priceOf 5 = .ok (.aaload, 1) := by decide +kernel
theorem dX0_priceOf_6 : decode cX0_priceOf 6 = .ok (.getfield 53, 3) := by decide +kernel
theorem dX0_priceOf_9 : decode cX0_priceOf 9 = .ok (.aload_n 0, 1) := by decide +kernel
theorem dX0_priceOf_10 : decode cX0_priceOf 10 = .ok (.getfield 46, 3) := by decide +kernel
theorem dX0_priceOf_13 : decode cX0_priceOf 13 = .ok (.iload_n 2, 1) := by decide +kernel
theorem dX0_priceOf_14 : decode cX0_priceOf 14 = .ok (.iadd, 1) := by decide +kernel
theorem dX0_priceOf_15 : decode cX0_priceOf 15 = .ok (.iconst 5, 1) := by decide +kernel
theorem dX0_priceOf_16 : decode cX0_priceOf 16 = .ok (.irem, 1) := by decide +kernel
theorem dX0_priceOf_17 : decode cX0_priceOf 17 = .ok (.iaload, 1) := by decide +kernel
theorem dX0_priceOf_18 : decode cX0_priceOf 18 = .ok (.ireturn, 1) := by decide +kernel
theorem dX0_changeSetting_0 : decode cX0_changeSetting 0 = .ok (.iload_n 1, 1) := by decide +kernel
theorem dX0_changeSetting_1 : decode cX0_changeSetting 1 = .ok (.ifCond .lt 8, 3) := by decide +kernel
theorem dX0_changeSetting_4 : decode cX0_changeSetting 4 = .ok (.iload_n 1, 1) := by decide +kernel
theorem dX0_changeSetting_5 : decode cX0_changeSetting 5 = .ok (.iconst 4, 1) := by decide +kernel
theorem dX0_changeSetting_6 : decode cX0_changeSetting 6 = .ok (.if_icmp .lt 6, 3) := by decide +kernel
theorem dX0_changeSetting_9 : decode cX0_changeSetting 9 = .ok (.bipush (-2), 2) := by decide +kernel
theorem dX0_changeSetting_11 : decode cX0_changeSetting 11 = .ok (.ireturn, 1) := by decide +kernel
theorem dX0_changeSetting_12 : decode cX0_changeSetting 12 = .ok (.iload_n 2, 1) := by decide +kernel
theorem dX0_changeSetting_13 : decode cX0_changeSetting 13 = .ok (.getstatic 56, 3) := by decide +kernel
theorem dX0_changeSetting_16 : decode cX0_changeSetting 16 = .ok (.iload_n 1, 1) := by decide +kernel
theorem dX0_changeSetting_17 : decode cX0_changeSetting 17 = .ok (.iaload, 1) := by decide +kernel
theorem dX0_changeSetting_18 : decode cX0_changeSetting 18 = .ok (.if_icmp .lt 12, 3) := by decide +kernel
theorem dX0_changeSetting_21 : decode cX0_changeSetting 21 = .ok (.iload_n 2, 1) := by decide +kernel
theorem dX0_changeSetting_22 : decode cX0_changeSetting 22 = .ok (.getstatic 59, 3) := by decide +kernel
theorem dX0_changeSetting_25 : decode cX0_changeSetting 25 = .ok (.iload_n 1, 1) := by decide +kernel
theorem dX0_changeSetting_26 : decode cX0_changeSetting 26 = .ok (.iaload, 1) := by decide +kernel
theorem dX0_changeSetting_27 : decode cX0_changeSetting 27 = .ok (.if_icmp .le 6, 3) := by decide +kernel
theorem dX0_changeSetting_30 : decode cX0_changeSetting 30 = .ok (.bipush (-2), 2) := by decide +kernel
theorem dX0_changeSetting_32 : decode cX0_changeSetting 32 = .ok (.ireturn, 1) := by decide +kernel
theorem dX0_changeSetting_33 : decode cX0_changeSetting 33 = .ok (.aload_n 0, 1) := by decide +kernel
theorem dX0_changeSetting_34 : decode cX0_changeSetting 34 = .ok (.getfield 9, 3) := by decide +kernel
theorem dX0_changeSetting_37 : decode cX0_changeSetting 37 = .ok (.iload_n 1, 1) := by decide +kernel
theorem dX0_changeSetting_38 : decode cX0_changeSetting 38 = .ok (.iaload, 1) := by decide +kernel
theorem dX0_changeSetting_39 : decode cX0_changeSetting 39 = .ok (.istore_n 3, 1) := by decide +kernel
theorem dX0_changeSetting_40 : decode cX0_changeSetting 40 = .ok (.aload_n 0, 1) := by decide +kernel
theorem dX0_changeSetting_41 : decode cX0_changeSetting 41 = .ok (.getfield 9, 3) := by decide +kernel
theorem dX0_changeSetting_44 : decode cX0_changeSetting 44 = .ok (.iload_n 1, 1) := by decide +kernel
theorem dX0_changeSetting_45 : decode cX0_changeSetting 45 = .ok (.iload_n 2, 1) := by decide +kernel
theorem dX0_changeSetting_46 : decode cX0_changeSetting 46 = .ok (.iastore, 1) := by decide +kernel
theorem dX0_changeSetting_47 : decode cX0_changeSetting 47 = .ok (.iload_n 3, 1) := by decide +kernel
theorem dX0_changeSetting_48 : decode cX0_changeSetting 48 = .ok (.ireturn, 1) := by decide +kernel
theorem dX0_changePrice_0 : decode cX0_changePrice 0 = .ok (.iload_n 1, 1) := by decide +kernel
theorem dX0_changePrice_1 : decode cX0_changePrice 1 = .ok (.ifCond .lt 16, 3) := by decide +kernel
theorem dX0_changePrice_4 : decode cX0_changePrice 4 = .ok (.iload_n 1, 1) := by decide +kernel
theorem dX0_changePrice_5 : decode cX0_changePrice 5 = .ok (.iconst 5, 1) := by decide +kernel
theorem dX0_changePrice_6 : decode cX0_changePrice 6 = .ok (.if_icmp .ge 11, 3) := by decide +kernel
theorem dX0_changePrice_9 : decode cX0_changePrice 9 = .ok (.aload_n 0, 1) := by decide +kernel
theorem dX0_changePrice_10 : decode cX0_changePrice 10 = .ok (.iload_n 2, 1) := by decide +kernel
theorem dX0_changePrice_11 : decode cX0_changePrice 11 = .ok (.invokevirtual 62, 3) := by decide +kernel
theorem dX0_changePrice_14 : decode cX0_changePrice 14 = .ok (.ifCond .ne 5, 3) := by decide +kernel
theorem dX0_changePrice_17 : decode cX0_changePrice 17 = .ok (.iconst (-1), 1) := by decide +kernel
theorem dX0_changePrice_18 : decode cX0_changePrice 18 = .ok (.ireturn, 1) := by decide +kernel
theorem dX0_changePrice_19 : decode cX0_changePrice 19 = .ok (.iload_n 3, 1) := by decide +kernel
theorem dX0_changePrice_20 : decode cX0_changePrice 20 = .ok (.iconst 1, 1) := by decide +kernel
theorem dX0_changePrice_21 : decode cX0_changePrice 21 = .ok (.if_icmp .lt 8, 3) := by decide +kernel
theorem dX0_changePrice_24 : decode cX0_changePrice 24 = .ok (.iload_n 3, 1) := by decide +kernel
theorem dX0_changePrice_25 : decode cX0_changePrice 25 = .ok (.iconst 3, 1) := by decide +kernel
theorem dX0_changePrice_26 : decode cX0_changePrice 26 = .ok (.if_icmp .le 6, 3) := by decide +kernel
theorem dX0_changePrice_29 : decode cX0_changePrice 29 = .ok (.bipush (-2), 2) := by decide +kernel
theorem dX0_changePrice_31 : decode cX0_changePrice 31 = .ok (.ireturn, 1) := by decide +kernel
theorem dX0_changePrice_32 : decode cX0_changePrice 32 = .ok (.aload_n 0, 1) := by decide +kernel
theorem dX0_changePrice_33 : decode cX0_changePrice 33 = .ok (.getfield 23, 3) := by decide +kernel
theorem dX0_changePrice_36 : decode cX0_changePrice 36 = .ok (.iload_n 2, 1) := by decide +kernel
theorem dX0_changePrice_37 : decode cX0_changePrice 37 = .ok (.aaload, 1) := by decide +kernel
theorem dX0_changePrice_38 : decode cX0_changePrice 38 = .ok (.getfield 53, 3) := by decide +kernel
theorem dX0_changePrice_41 : decode cX0_changePrice 41 = .ok (.iload_n 1, 1) := by decide +kernel
theorem dX0_changePrice_42 : decode cX0_changePrice 42 = .ok (.iaload, 1) := by decide +kernel
theorem dX0_changePrice_43 : decode cX0_changePrice 43 = .ok (.istore 4, 2) := by decide +kernel
theorem dX0_changePrice_45 : decode cX0_changePrice 45 = .ok (.aload_n 0, 1) := by decide +kernel
theorem dX0_changePrice_46 : decode cX0_changePrice 46 = .ok (.getfield 23, 3) := by decide +kernel
theorem dX0_changePrice_49 : decode cX0_changePrice 49 = .ok (.iload_n 2, 1) := by decide +kernel
theorem dX0_changePrice_50 : decode cX0_changePrice 50 = .ok (.aaload, 1) := by decide +kernel
theorem dX0_changePrice_51 : decode cX0_changePrice 51 = .ok (.getfield 53, 3) := by decide +kernel
theorem dX0_changePrice_54 : decode cX0_changePrice 54 = .ok (.iload_n 1, 1) := by decide +kernel
theorem dX0_changePrice_55 : decode cX0_changePrice 55 = .ok (.iload_n 3, 1) := by decide +kernel
theorem dX0_changePrice_56 : decode cX0_changePrice 56 = .ok (.iastore, 1) := by decide +kernel
theorem dX0_changePrice_57 : decode cX0_changePrice 57 = .ok (.iload 4, 2) := by decide +kernel
theorem dX0_changePrice_59 : decode cX0_changePrice 59 = .ok (.ireturn, 1) := by decide +kernel
theorem dX0_addPerson_0 : decode cX0_addPerson 0 = .ok (.aload_n 0, 1) := by decide +kernel
theorem dX0_addPerson_1 : decode cX0_addPerson 1 = .ok (.getfield 39, 3) := by decide +kernel
theorem dX0_addPerson_4 : decode cX0_addPerson 4 = .ok (.bipush 14, 2) := by decide +kernel
theorem dX0_addPerson_6 : decode cX0_addPerson 6 = .ok (.if_icmp .lt 6, 3) := by decide +kernel
theorem dX0_addPerson_9 : decode cX0_addPerson 9 = .ok (.bipush (-4), 2) := by decide +kernel
theorem dX0_addPerson_11 : decode cX0_addPerson 11 = .ok (.ireturn, 1) := by decide +kernel
theorem dX0_addPerson_12 : decode cX0_addPerson 12 = .ok (.aload_n 0, 1) := by decide +kernel
theorem dX0_addPerson_13 : decode cX0_addPerson 13 = .ok (.getfield 17, 3) := by decide +kernel
theorem dX0_addPerson_16 : decode cX0_addPerson 16 = .ok (.aload_n 0, 1) := by decide +kernel
theorem dX0_addPerson_17 : decode cX0_addPerson 17 = .ok (.getfield 39, 3) := by decide +kernel
theorem dX0_addPerson_20 : decode cX0_addPerson 20 = .ok (.aaload, 1) := by decide +kernel
theorem dX0_addPerson_21 : decode cX0_addPerson 21 = .ok (.invokevirtual 66, 3) := by decide +kernel
theorem dX0_addPerson_24 : decode cX0_addPerson 24 = .ok (.aload_n 0, 1) := by decide +kernel
theorem dX0_addPerson_25 : decode cX0_addPerson 25 = .ok (.dup, 1) := by decide +kernel
theorem dX0_addPerson_26 : decode cX0_addPerson 26 = .ok (.getfield 39, 3) := by decide +kernel
theorem dX0_addPerson_29 : decode cX0_addPerson 29 = .ok (.iconst 1, 1) := by decide +kernel
theorem dX0_addPerson_30 : decode cX0_addPerson 30 = .ok (.iadd, 1) := by decide +kernel
theorem dX0_addPerson_31 : decode cX0_addPerson 31 = .ok (.putfield 39, 3) := by decide +kernel
theorem dX0_addPerson_34 : decode cX0_addPerson 34 = .ok (.aload_n 0, 1) := by decide +kernel
theorem dX0_addPerson_35 : decode cX0_addPerson 35 = .ok (.getfield 39, 3) := by decide +kernel
theorem dX0_addPerson_38 : decode cX0_addPerson 38 = .ok (.iconst 1, 1) := by decide +kernel
theorem dX0_addPerson_39 : decode cX0_addPerson 39 = .ok (.isub, 1) := by decide +kernel
theorem dX0_addPerson_40 : decode cX0_addPerson 40 = .ok (.ireturn, 1) := by decide +kernel
theorem dX0_giveVouchers_0 : decode cX0_giveVouchers 0 = .ok (.aload_n 0, 1) := by decide +kernel
theorem dX0_giveVouchers_1 : decode cX0_giveVouchers 1 = .ok (.iload_n 1, 1) := by decide +kernel
theorem dX0_giveVouchers_2 : decode cX0_giveVouchers 2 = .ok (.invokevirtual 69, 3) := by decide +kernel
theorem dX0_giveVouchers_5 : decode cX0_giveVouchers 5 = .ok (.ifCond .ne 5, 3) := by decide +kernel
theorem dX0_giveVouchers_8 : decode cX0_giveVouchers 8 = .ok (.iconst (-1), 1) := by decide +kernel
theorem dX0_giveVouchers_9 : decode cX0_giveVouchers 9 = .ok (.ireturn, 1) := by decide +kernel
theorem dX0_giveVouchers_10 : decode cX0_giveVouchers 10 = .ok (.iload_n 2, 1) := by decide +kernel
theorem dX0_giveVouchers_11 : decode cX0_giveVouchers 11 = .ok (.iconst 1, 1) := by decide +kernel
theorem dX0_giveVouchers_12 : decode cX0_giveVouchers 12 = .ok (.if_icmp .lt 9, 3) := by decide +kernel
theorem dX0_giveVouchers_15 : decode cX0_giveVouchers 15 = .ok (.iload_n 2, 1) := by decide +kernel
theorem dX0_giveVouchers_16 : decode cX0_giveVouchers 16 = .ok (.bipush 30, 2) := by decide +kernel
theorem dX0_giveVouchers_18 : decode cX0_giveVouchers 18 = .ok (.if_icmp .le 6, 3) := by decide +kernel
theorem dX0_giveVouchers_21 : decode cX0_giveVouchers 21 = .ok (.bipush (-2), 2) := by decide +kernel
theorem dX0_giveVouchers_23 : decode cX0_giveVouchers 23 = .ok (.ireturn, 1) := by decide +kernel
theorem dX0_giveVouchers_24 : decode cX0_giveVouchers 24 = .ok (.aload_n 0, 1) := by decide +kernel
theorem dX0_giveVouchers_25 : decode cX0_giveVouchers 25 = .ok (.getfield 17, 3) := by decide +kernel
theorem dX0_giveVouchers_28 : decode cX0_giveVouchers 28 = .ok (.iload_n 1, 1) := by decide +kernel
theorem dX0_giveVouchers_29 : decode cX0_giveVouchers 29 = .ok (.aaload, 1) := by decide +kernel
theorem dX0_giveVouchers_30 : decode cX0_giveVouchers 30 = .ok (.iload_n 2, 1) := by decide +kernel
theorem dX0_giveVouchers_31 : decode cX0_giveVouchers 31 = .ok (.invokevirtual 72, 3) := by decide +kernel
theorem dX0_giveVouchers_34 : decode cX0_giveVouchers 34 = .ok (.ireturn, 1) := by decide +kernel
theorem dX0_takeOrder_0 : decode cX0_takeOrder 0 = .ok (.aload_n 0, 1) := by decide +kernel
theorem dX0_takeOrder_1 : decode cX0_takeOrder 1 = .ok (.iload_n 1, 1) := by decide +kernel
theorem dX0_takeOrder_2 : decode cX0_takeOrder 2 = .ok (.iload_n 2, 1) := by decide +kernel
theorem dX0_takeOrder_3 : decode cX0_takeOrder 3 = .ok (.iload_n 3, 1) := by decide +kernel
theorem dX0_takeOrder_4 : decode cX0_takeOrder 4 = .ok (.invokevirtual 76, 3) := by decide +kernel
theorem dX0_takeOrder_7 : decode cX0_takeOrder 7 = .ok (.istore 4, 2) := by decide +kernel
theorem dX0_takeOrder_9 : decode cX0_takeOrder 9 = .ok (.iload 4, 2) := by decide +kernel
theorem dX0_takeOrder_11 : decode cX0_takeOrder 11 = .ok (.ifCond .ge 6, 3) := by decide +kernel
theorem dX0_takeOrder_14 : decode cX0_takeOrder 14 = .ok (.iload 4, 2) := by decide +kernel
theorem dX0_takeOrder_16 : decode cX0_takeOrder 16 = .ok (.ireturn, 1) := by decide +kernel
theorem dX0_takeOrder_17 : decode cX0_takeOrder 17 = .ok (.iload 4, 2) := by decide +kernel
theorem dX0_takeOrder_19 : decode cX0_takeOrder 19 = .ok (.ifCond .le 6, 3) := by decide +kernel
theorem dX0_takeOrder_22 : decode cX0_takeOrder 22 = .ok (.bipush (-5), 2) := by decide +kernel
theorem dX0_takeOrder_24 : decode cX0_takeOrder 24 = .ok (.ireturn, 1) := by decide +kernel
theorem dX0_takeOrder_25 : decode cX0_takeOrder 25 = .ok (.aload_n 0, 1) := by decide +kernel
theorem dX0_takeOrder_26 : decode cX0_takeOrder 26 = .ok (.getfield 17, 3) := by decide +kernel
theorem dX0_takeOrder_29 : decode cX0_takeOrder 29 = .ok (.iload_n 1, 1) := by decide +kernel
theorem dX0_takeOrder_30 : decode cX0_takeOrder 30 = .ok (.aaload, 1) := by decide +kernel
theorem dX0_takeOrder_31 : decode cX0_takeOrder 31 = .ok (.iload_n 2, 1) := by decide +kernel
theorem dX0_takeOrder_32 : decode cX0_takeOrder 32 = .ok (.iload_n 3, 1) := by decide +kernel
theorem dX0_takeOrder_33 : decode cX0_takeOrder 33 = .ok (.aload_n 0, 1) := by decide +kernel
theorem dX0_takeOrder_34 : decode cX0_takeOrder 34 = .ok (.iload_n 3, 1) := by decide +kernel
theorem dX0_takeOrder_35 : decode cX0_takeOrder 35 = .ok (.iload_n 2, 1) := by decide +kernel
theorem dX0_takeOrder_36 : decode cX0_takeOrder 36 = .ok (.invokevirtual 80, 3) := by decide +kernel
theorem dX0_takeOrder_39 : decode cX0_takeOrder 39 = .ok (.invokevirtual 84, 3) := by decide +kernel
theorem dX0_takeOrder_42 : decode cX0_takeOrder 42 = .ok (.ireturn, 1) := by decide +kernel
theorem dX0_cancelOrder_0 : decode cX0_cancelOrder 0 = .ok (.aload_n 0, 1) := by decide +kernel
theorem dX0_cancelOrder_1 : decode cX0_cancelOrder 1 = .ok (.iload_n 1, 1) := by decide +kernel
theorem dX0_cancelOrder_2 : decode cX0_cancelOrder 2 = .ok (.invokevirtual 69, 3) := by decide +kernel
theorem dX0_cancelOrder_5 : decode cX0_cancelOrder 5 = .ok (.ifCond .ne 5, 3) := by decide +kernel
theorem dX0_cancelOrder_8 : decode cX0_cancelOrder 8 = .ok (.iconst (-1), 1) := by decide +kernel
theorem dX0_cancelOrder_9 : decode cX0_cancelOrder 9 = .ok (.ireturn, 1) := by decide +kernel
theorem dX0_cancelOrder_10 : decode cX0_cancelOrder 10 = .ok (.iload_n 2, 1) := by decide +kernel
theorem dX0_cancelOrder_11 : decode cX0_cancelOrder 11 = .ok (.iconst 1, 1) := by decide +kernel
theorem dX0_cancelOrder_12 : decode cX0_cancelOrder 12 = .ok (.if_icmp .lt 11, 3) := by decide +kernel
theorem dX0_cancelOrder_15 : decode cX0_cancelOrder 15 = .ok (.aload_n 0, 1) := by decide +kernel
theorem dX0_cancelOrder_16 : decode cX0_cancelOrder 16 = .ok (.iload_n 2, 1) := by decide +kernel
theorem dX0_cancelOrder_17 : decode cX0_cancelOrder 17 = .ok (.invokevirtual 87, 3) := by decide +kernel
theorem dX0_cancelOrder_20 : decode cX0_cancelOrder 20 = .ok (.ifCond .ne 6, 3) := by decide +kernel
theorem dX0_cancelOrder_23 : decode cX0_cancelOrder 23 = .ok (.bipush (-2), 2) := by decide +kernel
theorem dX0_cancelOrder_25 : decode cX0_cancelOrder 25 = .ok (.ireturn, 1) := by decide +kernel
theorem dX0_cancelOrder_26 : decode cX0_cancelOrder 26 = .ok (.aload_n 0, 1) := by decide +kernel
theorem dX0_cancelOrder_27 : decode cX0_cancelOrder 27 = .ok (.getfield 17, 3) := by decide +kernel
theorem dX0_cancelOrder_30 : decode cX0_cancelOrder 30 = .ok (.iload_n 1, 1) := by decide +kernel
theorem dX0_cancelOrder_31 : decode cX0_cancelOrder 31 = .ok (.aaload, 1) := by decide +kernel
theorem dX0_cancelOrder_32 : decode cX0_cancelOrder 32 = .ok (.iload_n 2, 1) := by decide +kernel
theorem dX0_cancelOrder_33 : decode cX0_cancelOrder 33 = .ok (.invokevirtual 90, 3) := by decide +kernel
theorem dX0_cancelOrder_36 : decode cX0_cancelOrder 36 = .ok (.ifCond .ne 6, 3) := by decide +kernel
theorem dX0_cancelOrder_39 : decode cX0_cancelOrder 39 = .ok (.bipush (-5), 2) := by decide +kernel
theorem dX0_cancelOrder_41 : decode cX0_cancelOrder 41 = .ok (.ireturn, 1) := by decide +kernel
theorem dX0_cancelOrder_42 : decode cX0_cancelOrder 42 = .ok (.aload_n 0, 1) := by decide +kernel
theorem dX0_cancelOrder_43 : decode cX0_cancelOrder 43 = .ok (.getfield 17, 3) := by decide +kernel
theorem dX0_cancelOrder_46 : decode cX0_cancelOrder 46 = .ok (.iload_n 1, 1) := by decide +kernel
theorem dX0_cancelOrder_47 : decode cX0_cancelOrder 47 = .ok (.aaload, 1) := by decide +kernel
theorem dX0_cancelOrder_48 : decode cX0_cancelOrder 48 = .ok (.getfield 93, 3) := by decide +kernel
theorem dX0_cancelOrder_51 : decode cX0_cancelOrder 51 = .ok (.iload_n 2, 1) := by decide +kernel
theorem dX0_cancelOrder_52 : decode cX0_cancelOrder 52 = .ok (.bipush (-6), 2) := by decide +kernel
theorem dX0_cancelOrder_54 : decode cX0_cancelOrder 54 = .ok (.iastore, 1) := by decide +kernel
theorem dX0_cancelOrder_55 : decode cX0_cancelOrder 55 = .ok (.aload_n 0, 1) := by decide +kernel
theorem dX0_cancelOrder_56 : decode cX0_cancelOrder 56 = .ok (.getfield 17, 3) := by decide +kernel
theorem dX0_cancelOrder_59 : decode cX0_cancelOrder 59 = .ok (.iload_n 1, 1) := by decide +kernel
theorem dX0_cancelOrder_60 : decode cX0_cancelOrder 60 = .ok (.aaload, 1) := by decide +kernel
theorem dX0_cancelOrder_61 : decode cX0_cancelOrder 61 = .ok (.aload_n 0, 1) := by decide +kernel
theorem dX0_cancelOrder_62 : decode cX0_cancelOrder 62 = .ok (.getfield 17, 3) := by decide +kernel
theorem dX0_cancelOrder_65 : decode cX0_cancelOrder 65 = .ok (.iload_n 1, 1) := by decide +kernel
theorem dX0_cancelOrder_66 : decode cX0_cancelOrder 66 = .ok (.aaload, 1) := by decide +kernel
theorem dX0_cancelOrder_67 : decode cX0_cancelOrder 67 = .ok (.getfield 95, 3) := by decide +kernel
theorem dX0_cancelOrder_70 : decode cX0_cancelOrder 70 = .ok (.iload_n 2, 1) := by decide +kernel
theorem dX0_cancelOrder_71 : decode cX0_cancelOrder 71 = .ok (.iaload, 1) := by decide +kernel
theorem dX0_cancelOrder_72 : decode cX0_cancelOrder 72 = .ok (.invokevirtual 72, 3) := by decide +kernel
theorem dX0_cancelOrder_75 : decode cX0_cancelOrder 75 = .ok (.ireturn, 1) := by decide +kernel
theorem dX0_cookToday_0 : decode cX0_cookToday 0 = .ok (.aload_n 0, 1) := by decide +kernel
theorem dX0_cookToday_1 : decode cX0_cookToday 1 = .ok (.getfield 49, 3) := by decide +kernel
theorem dX0_cookToday_4 : decode cX0_cookToday 4 = .ok (.ifCond .eq 6, 3) := by decide +kernel
theorem dX0_cookToday_7 : decode cX0_cookToday 7 = .ok (.bipush (-5), 2) := by decide +kernel
theorem dX0_cookToday_9 : decode cX0_cookToday 9 = .ok (.ireturn, 1) := by decide +kernel
theorem dX0_cookToday_10 : decode cX0_cookToday 10 = .ok (.iconst 0, 1) := by decide +kernel
theorem dX0_cookToday_11 : decode cX0_cookToday 11 = .ok (.istore_n 1, 1) := by decide +kernel
theorem dX0_cookToday_12 : decode cX0_cookToday 12 = .ok (.iconst 0, 1) := by decide +kernel
theorem dX0_cookToday_13 : decode cX0_cookToday 13 = .ok (.istore_n 2, 1) := by decide +kernel
theorem dX0_cookToday_14 : decode cX0_cookToday 14 = .ok (.iload_n 2, 1) := by decide +kernel
theorem dX0_cookToday_15 : decode cX0_cookToday 15 = .ok (.iconst 3, 1) := by decide +kernel
theorem dX0_cookToday_16 : decode cX0_cookToday 16 = .ok (.if_icmp .ge 29, 3) := by decide +kernel
theorem dX0_cookToday_19 : decode cX0_cookToday 19 = .ok (.aload_n 0, 1) := by decide +kernel
theorem dX0_cookToday_20 : decode cX0_cookToday 20 = .ok (.iload_n 2, 1) := by decide +kernel
theorem dX0_cookToday_21 : decode cX0_cookToday 21 = .ok (.invokevirtual 98, 3) := by decide +kernel
theorem dX0_cookToday_24 : decode cX0_cookToday 24 = .ok (.istore_n 3, 1) := by decide +kernel
theorem dX0_cookToday_25 : decode cX0_cookToday 25 = .ok (.aload_n 0, 1) := by decide +kernel
theorem dX0_cookToday_26 : decode cX0_cookToday 26 = .ok (.getfield 23, 3) := by decide +kernel
theorem dX0_cookToday_29 : decode cX0_cookToday 29 = .ok (.iload_n 2, 1) := by decide +kernel
theorem dX0_cookToday_30 : decode cX0_cookToday 30 = .ok (.aaload, 1) := by decide +kernel
theorem dX0_cookToday_31 : decode cX0_cookToday 31 = .ok (.iload_n 3, 1) := by decide +kernel
theorem dX0_cookToday_32 : decode cX0_cookToday 32 = .ok (.invokevirtual 101, 3) := by decide +kernel
theorem dX0_cookToday_35 : decode cX0_cookToday 35 = .ok (.iload_n 1, 1) := by decide +kernel
theorem dX0_cookToday_36 : decode cX0_cookToday 36 = .ok (.iload_n 3, 1) := by decide +kernel
theorem dX0_cookToday_37 : decode cX0_cookToday 37 = .ok (.iadd, 1) := by decide +kernel
theorem dX0_cookToday_38 : decode cX0_cookToday 38 = .ok (.istore_n 1, 1) := by decide +kernel
theorem dX0_cookToday_39 : decode cX0_cookToday 39 = .ok (.iinc 2 1, 3) := by decide +kernel
theorem dX0_cookToday_42 : decode cX0_cookToday 42 = .ok (.goto (-28), 3) := by decide +kernel
theorem dX0_cookToday_45 : decode cX0_cookToday 45 = .ok (.aload_n 0, 1) := by decide +kernel
theorem dX0_cookToday_46 : decode cX0_cookToday 46 = .ok (.iconst 1, 1) := by decide +kernel
theorem dX0_cookToday_47 : decode cX0_cookToday 47 = .ok (.putfield 49, 3) := by decide +kernel
theorem dX0_cookToday_50 : decode cX0_cookToday 50 = .ok (.iload_n 1, 1) := by decide +kernel
theorem dX0_cookToday_51 : decode cX0_cookToday 51 = .ok (.ireturn, 1) := by decide +kernel
theorem dX0_platesToCook_0 : decode cX0_platesToCook 0 = .ok (.iconst 0, 1) := by decide +kernel
theorem dX0_platesToCook_1 : decode cX0_platesToCook 1 = .ok (.istore_n 2, 1) := by decide +kernel
theorem dX0_platesToCook_2 : decode cX0_platesToCook 2 = .ok (.iconst 0, 1) := by decide +kernel
theorem dX0_platesToCook_3 : decode cX0_platesToCook 3 = .ok (.istore_n 3, 1) := by decide +kernel
theorem dX0_platesToCook_4 : decode cX0_platesToCook 4 = .ok (.iload_n 3, 1) := by decide +kernel
theorem dX0_platesToCook_5 : decode cX0_platesToCook 5 = .ok (.aload_n 0, 1) := by decide +kernel
theorem dX0_platesToCook_6 : decode cX0_platesToCook 6 = .ok (.getfield 39, 3) := by decide +kernel
theorem dX0_platesToCook_9 : decode cX0_platesToCook 9 = .ok (.if_icmp .ge 39, 3) := by decide +kernel
theorem dX0_platesToCook_12 : decode cX0_platesToCook 12 = .ok (.aload_n 0, 1) := by decide +kernel
theorem dX0_platesToCook_13 : decode cX0_platesToCook 13 = .ok (.getfield 17, 3) := by decide +kernel
theorem dX0_platesToCook_16 : decode cX0_platesToCook 16 = .ok (.iload_n 3, 1) := by decide +kernel
theorem dX0_platesToCook_17 : decode cX0_platesToCook 17 = .ok (.aaload, 1) := by decide +kernel
theorem dX0_platesToCook_18 : decode cX0_platesToCook 18 = .ok (.getfield 93, 3) := by decide +kernel
theorem dX0_platesToCook_21 : decode cX0_platesToCook 21 = .ok (.iconst 0, 1) := by decide +kernel
theorem dX0_platesToCook_22 : decode cX0_platesToCook 22 = .ok (.iaload, 1) := by decide +kernel
theorem dX0_platesToCook_23 : decode cX0_platesToCook 23 = .ok (.iload_n 1, 1) := by decide +kernel
theorem dX0_platesToCook_24 : decode cX0_platesToCook 24 = .ok (.if_icmp .ne 18, 3) := by decide +kernel
theorem dX0_platesToCook_27 : decode cX0_platesToCook 27 = .ok (.iload_n 2, 1) := by decide +kernel
theorem dX0_platesToCook_28 : decode cX0_platesToCook 28 = .ok (.bipush 100, 2) := by decide +kernel
theorem dX0_platesToCook_30 : decode cX0_platesToCook 30 = .ok (.aload_n 0, 1) := by decide +kernel
theorem dX0_platesToCook_31 : decode cX0_platesToCook 31 = .ok (.getfield 17, 3) := by decide +kernel
theorem dX0_platesToCook_34 : decode cX0_platesToCook 34 = .ok (.iload_n 3, 1) := by decide +kernel
theorem dX0_platesToCook_35 : decode cX0_platesToCook 35 = .ok (.aaload, 1) := by decide +kernel
theorem dX0_platesToCook_36 : decode cX0_platesToCook 36 = .ok (.invokevirtual 105, 3) := by decide +kernel
theorem dX0_platesToCook_39 : decode cX0_platesToCook 39 = .ok (.isub, 1) := by decide +kernel
theorem dX0_platesToCook_40 : decode cX0_platesToCook 40 = .ok (.iadd, 1) := by decide +kernel
theorem dX0_platesToCook_41 : decode cX0_platesToCook 41 = .ok (.istore_n 2, 1) := by decide +kernel
theorem dX0_platesToCook_42 : decode cX0_platesToCook 42 = .ok (.iinc 3 1, 3) := by decide +kernel
theorem dX0_platesToCook_45 : decode cX0_platesToCook 45 = .ok (.goto (-41), 3) := by decide +kernel
theorem dX0_platesToCook_48 : decode cX0_platesToCook 48 = .ok (.iload_n 2, 1) := by decide +kernel
theorem dX0_platesToCook_49 : decode cX0_platesToCook 49 = .ok (.bipush 99, 2) := by decide +kernel
theorem dX0_platesToCook_51 : decode cX0_platesToCook 51 = .ok (.iadd, 1) := by decide +kernel
theorem dX0_platesToCook_52 : decode cX0_platesToCook 52 = .ok (.bipush 100, 2) := by decide +kernel
theorem dX0_platesToCook_54 : decode cX0_platesToCook 54 = .ok (.idiv, 1) := by decide +kernel
theorem dX0_platesToCook_55 : decode cX0_platesToCook 55 = .ok (.istore_n 3, 1) := by decide +kernel
theorem dX0_platesToCook_56 : decode cX0_platesToCook 56 = .ok (.iconst 0, 1) := by decide +kernel
theorem dX0_platesToCook_57 : decode cX0_platesToCook 57 = .ok (.iload_n 3, 1) := by decide +kernel
theorem dX0_platesToCook_58 : decode cX0_platesToCook 58 = .ok (.aload_n 0, 1) := by decide +kernel
theorem dX0_platesToCook_59 : decode cX0_platesToCook 59 = .ok (.getfield 9, 3) := by decide +kernel
theorem dX0_platesToCook_62 : decode cX0_platesToCook 62 = .ok (.iconst 0, 1) := by decide +kernel
theorem dX0_platesToCook_63 : decode cX0_platesToCook 63 = .ok (.iaload, 1) := by decide +kernel
theorem dX0_platesToCook_64 : decode cX0_platesToCook 64 = .ok (.iadd, 1) := by decide +kernel
theorem dX0_platesToCook_65 : decode cX0_platesToCook 65 = .ok (.aload_n 0, 1) := by decide +kernel
theorem dX0_platesToCook_66 : decode cX0_platesToCook 66 = .ok (.getfield 23, 3) := by decide +kernel
theorem dX0_platesToCook_69 : decode cX0_platesToCook 69 = .ok (.iload_n 1, 1) := by decide +kernel
theorem dX0_platesToCook_70 : decode cX0_platesToCook 70 = .ok (.aaload, 1) := by decide +kernel
theorem dX0_platesToCook_71 : decode cX0_platesToCook 71 = .ok (.getfield 109, 3) := by decide +kernel
theorem dX0_platesToCook_74 : decode cX0_platesToCook 74 = .ok (.isub, 1) := by decide +kernel
theorem dX0_platesToCook_75 : decode cX0_platesToCook 75 = .ok (.invokestatic 112, 3) := by decide +kernel
theorem dX0_platesToCook_78 : decode cX0_platesToCook 78 = .ok (.ireturn, 1) := by decide +kernel
theorem dX0_serve_0 : decode cX0_serve 0 = .ok (.aload_n 0, 1) := by decide +kernel
theorem dX0_serve_1 : decode cX0_serve 1 = .ok (.iload_n 1, 1) := by decide +kernel
theorem dX0_serve_2 : decode cX0_serve 2 = .ok (.invokevirtual 69, 3) := by decide +kernel
theorem dX0_serve_5 : decode cX0_serve 5 = .ok (.ifCond .ne 5, 3) := by decide +kernel
theorem dX0_serve_8 : decode cX0_serve 8 = .ok (.iconst (-1), 1) := by decide +kernel
theorem dX0_serve_9 : decode cX0_serve 9 = .ok (.ireturn, 1) := by decide +kernel
theorem dX0_serve_10 : decode cX0_serve 10 = .ok (.aload_n 0, 1) := by decide +kernel
theorem dX0_serve_11 : decode cX0_serve 11 = .ok (.getfield 17, 3) := by decide +kernel
theorem dX0_serve_14 : decode cX0_serve 14 = .ok (.iload_n 1, 1) := by decide +kernel
theorem dX0_serve_15 : decode cX0_serve 15 = .ok (.aaload, 1) := by decide +kernel
theorem dX0_serve_16 : decode cX0_serve 16 = .ok (.astore_n 2, 1) := by decide +kernel
theorem dX0_serve_17 : decode cX0_serve 17 = .ok (.aload_n 0, 1) := by decide +kernel
theorem dX0_serve_18 : decode cX0_serve 18 = .ok (.getfield 49, 3) := by decide +kernel
theorem dX0_serve_21 : decode cX0_serve 21 = .ok (.ifCond .eq 18, 3) := by decide +kernel
theorem dX0_serve_24 : decode cX0_serve 24 = .ok (.aload_n 2, 1) := by decide +kernel
theorem dX0_serve_25 : decode cX0_serve 25 = .ok (.iconst 0, 1) := by decide +kernel
theorem dX0_serve_26 : decode cX0_serve 26 = .ok (.invokevirtual 90, 3) := by decide +kernel
theorem dX0_serve_29 : decode cX0_serve 29 = .ok (.ifCond .eq 10, 3) := by decide +kernel
theorem dX0_serve_32 : decode cX0_serve 32 = .ok (.aload_n 2, 1) := by decide +kernel
theorem dX0_serve_33 : decode cX0_serve 33 = .ok (.getfield 117, 3) := by decide +kernel
theorem dX0_serve_36 : decode cX0_serve 36 = .ok (.ifCond .eq 6, 3) := by decide +kernel
theorem dX0_serve_39 : decode cX0_serve 39 = .ok (.bipush (-5), 2) := by decide +kernel
theorem dX0_serve_41 : decode cX0_serve 41 = .ok (.ireturn, 1) := by decide +kernel
theorem dX0_serve_42 : decode cX0_serve 42 = .ok (.aload_n 2, 1) := by decide +kernel
theorem dX0_serve_43 : decode cX0_serve 43 = .ok (.invokevirtual 120, 3) := by decide +kernel
theorem dX0_serve_46 : decode cX0_serve 46 = .ok (.aload_n 2, 1) := by decide +kernel
theorem dX0_serve_47 : decode cX0_serve 47 = .ok (.getfield 93, 3) := by decide +kernel
theorem dX0_serve_50 : decode cX0_serve 50 = .ok (.iconst 0, 1) := by decide +kernel
theorem dX0_serve_51 : decode cX0_serve 51 = .ok (.iaload, 1) := by decide +kernel
theorem dX0_serve_52 : decode cX0_serve 52 = .ok (.istore_n 3, 1) := by decide +kernel
theorem dX0_serve_53 : decode cX0_serve 53 = .ok (.aload_n 0, 1) := by decide +kernel
theorem dX0_serve_54 : decode cX0_serve 54 = .ok (.iload_n 3, 1) := by decide +kernel
theorem dX0_serve_55 : decode cX0_serve 55 = .ok (.invokevirtual 62, 3) := by decide +kernel
theorem dX0_serve_58 : decode cX0_serve 58 = .ok (.ifCond .eq 15, 3) := by decide +kernel
theorem dX0_serve_61 : decode cX0_serve 61 = .ok (.aload_n 0, 1) := by decide +kernel
theorem dX0_serve_62 : decode cX0_serve 62 = .ok (.getfield 23, 3) := by decide +kernel
theorem dX0_serve_65 : decode cX0_serve 65 = .ok (.iload_n 3, 1) := by decide +kernel
theorem dX0_serve_66 : decode cX0_serve 66 = .ok (.aaload, 1) := by decide +kernel
theorem dX0_serve_67 : decode cX0_serve 67 = .ok (.invokevirtual 123, 3) := by decide +kernel
theorem dX0_serve_70 : decode cX0_serve 70 = .ok (.ifCond .ne 16, 3) := by decide +kernel
theorem dX0_serve_73 : decode cX0_serve 73 = .ok (.aload_n 2, 1) := by decide +kernel
theorem dX0_serve_74 : decode cX0_serve 74 = .ok (.aload_n 2, 1) := by decide +kernel
theorem dX0_serve_75 : decode cX0_serve 75 = .ok (.getfield 95, 3) := by decide +kernel
theorem dX0_serve_78 : decode cX0_serve 78 = .ok (.iconst 0, 1) := by decide +kernel
theorem dX0_serve_79 : decode cX0_serve 79 = .ok (.iaload, 1) := by decide +kernel
theorem dX0_serve_80 : decode cX0_serve 80 = .ok (.invokevirtual 72, 3) := by decide +kernel
theorem dX0_serve_83 : decode cX0_serve 83 = .ok (.pop, 1) := by decide +kernel
theorem dX0_serve_84 : decode cX0_serve 84 = .ok (.iconst 3, 1) := by decide +kernel
theorem dX0_serve_85 : decode cX0_serve 85 = .ok (.ireturn, 1) := by decide +kernel
theorem dX0_serve_86 : decode cX0_serve 86 = .ok (.aload_n 0, 1) := by decide +kernel
theorem dX0_serve_87 : decode cX0_serve 87 = .ok (.getfield 23, 3) := by decide +kernel
theorem dX0_serve_90 : decode cX0_serve 90 = .ok (.iload_n 3, 1) := by decide +kernel
theorem dX0_serve_91 : decode cX0_serve 91 = .ok (.aaload, 1) := by decide +kernel
theorem dX0_serve_92 : decode cX0_serve 92 = .ok (.invokevirtual 126, 3) := by decide +kernel
theorem dX0_serve_95 : decode cX0_serve 95 = .ok (.aload_n 2, 1) := by decide +kernel
theorem dX0_serve_96 : decode cX0_serve 96 = .ok (.dup, 1) := by decide +kernel
theorem dX0_serve_97 : decode cX0_serve 97 = .ok (.getfield 129, 3) := by decide +kernel
theorem dX0_serve_100 : decode cX0_serve 100 = .ok (.iconst 1, 1) := by decide +kernel
theorem dX0_serve_101 : decode cX0_serve 101 = .ok (.iadd, 1) := by decide +kernel
theorem dX0_serve_102 : decode cX0_serve 102 = .ok (.putfield 129, 3) := by decide +kernel
theorem dX0_serve_105 : decode cX0_serve 105 = .ok (.iload_n 3, 1) := by decide +kernel
theorem dX0_serve_106 : decode cX0_serve 106 = .ok (.ireturn, 1) := by decide +kernel
theorem dX0_sell_0 : decode cX0_sell 0 = .ok (.aload_n 0, 1) := by decide +kernel
theorem dX0_sell_1 : decode cX0_sell 1 = .ok (.iload_n 1, 1) := by decide +kernel
theorem dX0_sell_2 : decode cX0_sell 2 = .ok (.invokevirtual 69, 3) := by decide +kernel
theorem dX0_sell_5 : decode cX0_sell 5 = .ok (.ifCond .eq 11, 3) := by decide +kernel
theorem dX0_sell_8 : decode cX0_sell 8 = .ok (.aload_n 0, 1) := by decide +kernel
theorem dX0_sell_9 : decode cX0_sell 9 = .ok (.iload_n 2, 1) := by decide +kernel
theorem dX0_sell_10 : decode cX0_sell 10 = .ok (.invokevirtual 62, 3) := by decide +kernel
theorem dX0_sell_13 : decode cX0_sell 13 = .ok (.ifCond .ne 5, 3) := by decide +kernel
theorem dX0_sell_16 : decode cX0_sell 16 = .ok (.iconst (-1), 1) := by decide +kernel
theorem dX0_sell_17 : decode cX0_sell 17 = .ok (.ireturn, 1) := by decide +kernel
theorem dX0_sell_18 : decode cX0_sell 18 = .ok (.aload_n 0, 1) := by decide +kernel
theorem dX0_sell_19 : decode cX0_sell 19 = .ok (.getfield 17, 3) := by decide +kernel
theorem dX0_sell_22 : decode cX0_sell 22 = .ok (.iload_n 1, 1) := by decide +kernel
theorem dX0_sell_23 : decode cX0_sell 23 = .ok (.aaload, 1) := by decide +kernel
theorem dX0_sell_24 : decode cX0_sell 24 = .ok (.astore_n 3, 1) := by decide +kernel
theorem dX0_sell_25 : decode cX0_sell 25 = .ok (.aload_n 0, 1) := by decide +kernel
theorem dX0_sell_26 : decode cX0_sell 26 = .ok (.getfield 49, 3) := by decide +kernel
theorem dX0_sell_29 : decode cX0_sell 29 = .ok (.ifCond .eq 18, 3) := by decide +kernel
theorem dX0_sell_32 : decode cX0_sell 32 = .ok (.aload_n 3, 1) := by decide +kernel
theorem dX0_sell_33 : decode cX0_sell 33 = .ok (.iconst 0, 1) := by decide +kernel
theorem dX0_sell_34 : decode cX0_sell 34 = .ok (.invokevirtual 90, 3) := by decide +kernel
theorem dX0_sell_37 : decode cX0_sell 37 = .ok (.ifCond .ne 10, 3) := by decide +kernel
theorem dX0_sell_40 : decode cX0_sell 40 = .ok (.aload_n 3, 1) := by decide +kernel
theorem dX0_sell_41 : decode cX0_sell 41 = .ok (.getfield 117, 3) := by decide +kernel
theorem dX0_sell_44 : decode cX0_sell 44 = .ok (.ifCond .eq 6, 3) := by decide +kernel
theorem dX0_sell_47 : decode cX0_sell 47 = .ok (.bipush (-5), 2) := by decide +kernel
theorem dX0_sell_49 : decode cX0_sell 49 = .ok (.ireturn, 1) := by decide +kernel
theorem dX0_sell_50 : decode cX0_sell 50 = .ok (.aload_n 0, 1) := by decide +kernel
theorem dX0_sell_51 : decode cX0_sell 51 = .ok (.iload_n 2, 1) := by decide +kernel
theorem dX0_sell_52 : decode cX0_sell 52 = .ok (.iconst 0, 1) := by decide +kernel
theorem dX0_sell_53 : decode cX0_sell 53 = .ok (.invokevirtual 80, 3) := by decide +kernel
theorem dX0_sell_56 : decode cX0_sell 56 = .ok (.iconst 1, 1) := by decide +kernel
theorem dX0_sell_57 : decode cX0_sell 57 = .ok (.iadd, 1) := by decide +kernel
theorem dX0_sell_58 : decode cX0_sell 58 = .ok (.istore 4, 2) := by decide +kernel
theorem dX0_sell_60 : decode cX0_sell 60 = .ok (.aload_n 3, 1) := by decide +kernel
theorem dX0_sell_61 : decode cX0_sell 61 = .ok (.getfield 132, 3) := by decide +kernel
theorem dX0_sell_64 : decode cX0_sell 64 = .ok (.iload 4, 2) := by decide +kernel
theorem dX0_sell_66 : decode cX0_sell 66 = .ok (.if_icmp .lt 20, 3) := by decide +kernel
theorem dX0_sell_69 : decode cX0_sell 69 = .ok (.aload_n 0, 1) := by decide +kernel
theorem dX0_sell_70 : decode cX0_sell 70 = .ok (.getfield 23, 3) := by decide +kernel
theorem dX0_sell_73 : decode cX0_sell 73 = .ok (.iload_n 2, 1) := by decide +kernel
theorem dX0_sell_74 : decode cX0_sell 74 = .ok (.aaload, 1) := by decide +kernel
theorem dX0_sell_75 : decode cX0_sell 75 = .ok (.invokevirtual 123, 3) := by decide +kernel
theorem dX0_sell_78 : decode cX0_sell 78 = .ok (.aload_n 0, 1) := by decide +kernel
theorem dX0_sell_79 : decode cX0_sell 79 = .ok (.iload_n 2, 1) := by decide +kernel
theorem dX0_sell_80 : decode cX0_sell 80 = .ok (.invokevirtual 135, 3) := by decide +kernel
theorem dX0_sell_83 : decode cX0_sell 83 = .ok (.if_icmp .gt 6, 3) := by decide +kernel
theorem dX0_sell_86 : decode cX0_sell 86 = .ok (.bipush (-5), 2) := by decide +kernel
theorem dX0_sell_88 : decode cX0_sell 88 = .ok (.ireturn, 1) := by decide +kernel
theorem dX0_sell_89 : decode cX0_sell 89 = .ok (.aload_n 0, 1) := by decide +kernel
theorem dX0_sell_90 : decode cX0_sell 90 = .ok (.getfield 23, 3) := by decide +kernel
theorem dX0_sell_93 : decode cX0_sell 93 = .ok (.iload_n 2, 1) := by decide +kernel
theorem dX0_sell_94 : decode cX0_sell 94 = .ok (.aaload, 1) := by decide +kernel
theorem dX0_sell_95 : decode cX0_sell 95 = .ok (.invokevirtual 126, 3) := by decide +kernel
theorem dX0_sell_98 : decode cX0_sell 98 = .ok (.aload_n 3, 1) := by decide +kernel
theorem dX0_sell_99 : decode cX0_sell 99 = .ok (.dup, 1) := by decide +kernel
theorem dX0_sell_100 : decode cX0_sell 100 = .ok (.getfield 129, 3) := by decide +kernel
theorem dX0_sell_103 : decode cX0_sell 103 = .ok (.iconst 1, 1) := by decide +kernel
theorem dX0_sell_104 : decode cX0_sell 104 = .ok (.iadd, 1) := by decide +kernel
theorem dX0_sell_105 : decode cX0_sell 105 = .ok (.putfield 129, 3) := by decide +kernel
theorem dX0_sell_108 : decode cX0_sell 108 = .ok (.aload_n 3, 1) := by decide +kernel
theorem dX0_sell_109 : decode cX0_sell 109 = .ok (.iconst 1, 1) := by decide +kernel
theorem dX0_sell_110 : decode cX0_sell 110 = .ok (.putfield 117, 3) := by decide +kernel
theorem dX0_sell_113 : decode cX0_sell 113 = .ok (.aload_n 3, 1) := by decide +kernel
theorem dX0_sell_114 : decode cX0_sell 114 = .ok (.dup, 1) := by decide +kernel
theorem dX0_sell_115 : decode cX0_sell 115 = .ok (.getfield 132, 3) := by decide +kernel
theorem dX0_sell_118 : decode cX0_sell 118 = .ok (.iload 4, 2) := by decide +kernel
theorem dX0_sell_120 : decode cX0_sell 120 = .ok (.isub, 1) := by decide +kernel
theorem dX0_sell_121 : decode cX0_sell 121 = .ok (.putfield 132, 3) := by decide +kernel
theorem dX0_sell_124 : decode cX0_sell 124 = .ok (.aload_n 3, 1) := by decide +kernel
theorem dX0_sell_125 : decode cX0_sell 125 = .ok (.getfield 132, 3) := by decide +kernel
theorem dX0_sell_128 : decode cX0_sell 128 = .ok (.ireturn, 1) := by decide +kernel
theorem dX0_awaited_0 : decode cX0_awaited 0 = .ok (.iconst 0, 1) := by decide +kernel
theorem dX0_awaited_1 : decode cX0_awaited 1 = .ok (.istore_n 2, 1) := by decide +kernel
theorem dX0_awaited_2 : decode cX0_awaited 2 = .ok (.iconst 0, 1) := by decide +kernel
theorem dX0_awaited_3 : decode cX0_awaited 3 = .ok (.istore_n 3, 1) := by decide +kernel
theorem dX0_awaited_4 : decode cX0_awaited 4 = .ok (.iload_n 3, 1) := by decide +kernel
theorem dX0_awaited_5 : decode cX0_awaited 5 = .ok (.aload_n 0, 1) := by decide +kernel
theorem dX0_awaited_6 : decode cX0_awaited 6 = .ok (.getfield 39, 3) := by decide +kernel
theorem dX0_awaited_9 : decode cX0_awaited 9 = .ok (.if_icmp .ge 39, 3) := by decide +kernel
theorem dX0_awaited_12 : decode cX0_awaited 12 = .ok (.aload_n 0, 1) := by decide +kernel
theorem dX0_awaited_13 : decode cX0_awaited 13 = .ok (.getfield 17, 3) := by decide +kernel
theorem dX0_awaited_16 : decode cX0_awaited 16 = .ok (.iload_n 3, 1) := by decide +kernel
theorem dX0_awaited_17 : decode cX0_awaited 17 = .ok (.aaload, 1) := by decide +kernel
theorem dX0_awaited_18 : decode cX0_awaited 18 = .ok (.getfield 93, 3) := by decide +kernel
theorem dX0_awaited_21 : decode cX0_awaited 21 = .ok (.iconst 0, 1) := by decide +kernel
theorem dX0_awaited_22 : decode cX0_awaited 22 = .ok (.iaload, 1) := by decide +kernel
theorem dX0_awaited_23 : decode cX0_awaited 23 = .ok (.iload_n 1, 1) := by decide +kernel
theorem dX0_awaited_24 : decode cX0_awaited 24 = .ok (.if_icmp .ne 18, 3) := by decide +kernel
theorem dX0_awaited_27 : decode cX0_awaited 27 = .ok (.aload_n 0, 1) := by decide +kernel
theorem dX0_awaited_28 : decode cX0_awaited 28 = .ok (.getfield 17, 3) := by decide +kernel
theorem dX0_awaited_31 : decode cX0_awaited 31 = .ok (.iload_n 3, 1) := by decide +kernel
theorem dX0_awaited_32 : decode cX0_awaited 32 = .ok (.aaload, 1) := by decide +kernel
theorem dX0_awaited_33 : decode cX0_awaited 33 = .ok (.getfield 117, 3) := by decide +kernel
theorem dX0_awaited_36 : decode cX0_awaited 36 = .ok (.ifCond .ne 6, 3) := by decide +kernel
theorem dX0_awaited_39 : decode cX0_awaited 39 = .ok (.iinc 2 1, 3) := by decide +kernel
theorem dX0_awaited_42 : decode cX0_awaited 42 = .ok (.iinc 3 1, 3) := by decide +kernel
theorem dX0_awaited_45 : decode cX0_awaited 45 = .ok (.goto (-41), 3) := by decide +kernel
theorem dX0_awaited_48 : decode cX0_awaited 48 = .ok (.iload_n 2, 1) := by decide +kernel
theorem dX0_awaited_49 : decode cX0_awaited 49 = .ok (.ireturn, 1) := by decide +kernel
theorem dX0_endDay_0 : decode cX0_endDay 0 = .ok (.aload_n 0, 1) := by decide +kernel
theorem dX0_endDay_1 : decode cX0_endDay 1 = .ok (.getfield 49, 3) := by decide +kernel
theorem dX0_endDay_4 : decode cX0_endDay 4 = .ok (.ifCond .eq 13, 3) := by decide +kernel
theorem dX0_endDay_7 : decode cX0_endDay 7 = .ok (.aload_n 0, 1) := by decide +kernel
theorem dX0_endDay_8 : decode cX0_endDay 8 = .ok (.getfield 46, 3) := by decide +kernel
theorem dX0_endDay_11 : decode cX0_endDay 11 = .ok (.sipush 9999, 3) := by decide +kernel
theorem dX0_endDay_14 : decode cX0_endDay 14 = .ok (.if_icmp .lt 6, 3) := by decide +kernel
theorem dX0_endDay_17 : decode cX0_endDay 17 = .ok (.bipush (-5), 2) := by decide +kernel
theorem dX0_endDay_19 : decode cX0_endDay 19 = .ok (.ireturn, 1) := by decide +kernel
theorem dX0_endDay_20 : decode cX0_endDay 20 = .ok (.iconst 0, 1) := by decide +kernel
theorem dX0_endDay_21 : decode cX0_endDay 21 = .ok (.istore_n 1, 1) := by decide +kernel
theorem dX0_endDay_22 : decode cX0_endDay 22 = .ok (.iconst 0, 1) := by decide +kernel
theorem dX0_endDay_23 : decode cX0_endDay 23 = .ok (.istore_n 2, 1) := by decide +kernel
theorem dX0_endDay_24 : decode cX0_endDay 24 = .ok (.iload_n 2, 1) := by decide +kernel
theorem dX0_endDay_25 : decode cX0_endDay 25 = .ok (.aload_n 0, 1) := by decide +kernel
theorem dX0_endDay_26 : decode cX0_endDay 26 = .ok (.getfield 39, 3) := by decide +kernel
theorem dX0_endDay_29 : decode cX0_endDay 29 = .ok (.if_icmp .ge 70, 3) := by decide +kernel
theorem dX0_endDay_32 : decode cX0_endDay 32 = .ok (.aload_n 0, 1) := by decide +kernel
theorem dX0_endDay_33 : decode cX0_endDay 33 = .ok (.getfield 17, 3) := by decide +kernel
theorem dX0_endDay_36 : decode cX0_endDay 36 = .ok (.iload_n 2, 1) := by decide +kernel
theorem dX0_endDay_37 : decode cX0_endDay 37 = .ok (.aaload, 1) := by decide +kernel
theorem dX0_endDay_38 : decode cX0_endDay 38 = .ok (.invokevirtual 138, 3) := by decide +kernel
theorem dX0_endDay_41 : decode cX0_endDay 41 = .ok (.ifCond .eq 15, 3) := by decide +kernel
theorem dX0_endDay_44 : decode cX0_endDay 44 = .ok (.aload_n 0, 1) := by decide +kernel
theorem dX0_endDay_45 : decode cX0_endDay 45 = .ok (.getfield 17, 3) := by decide +kernel
theorem dX0_endDay_48 : decode cX0_endDay 48 = .ok (.iload_n 2, 1) := by decide +kernel
theorem dX0_endDay_49 : decode cX0_endDay 49 = .ok (.aaload, 1) := by decide +kernel
theorem dX0_endDay_50 : decode cX0_endDay 50 = .ok (.invokevirtual 142, 3) := by decide +kernel
theorem dX0_endDay_53 : decode cX0_endDay 53 = .ok (.iinc 1 1, 3) := by decide +kernel
theorem dX0_endDay_56 : decode cX0_endDay 56 = .ok (.aload_n 0, 1) := by decide +kernel
theorem dX0_endDay_57 : decode cX0_endDay 57 = .ok (.getfield 17, 3) := by decide +kernel
theorem dX0_endDay_60 : decode cX0_endDay 60 = .ok (.iload_n 2, 1) := by decide +kernel
theorem dX0_endDay_61 : decode cX0_endDay 61 = .ok (.aaload, 1) := by decide +kernel
theorem dX0_endDay_62 : decode cX0_endDay 62 = .ok (.aload_n 0, 1) := by decide +kernel
theorem dX0_endDay_63 : decode cX0_endDay 63 = .ok (.getfield 9, 3) := by decide +kernel
theorem dX0_endDay_66 : decode cX0_endDay 66 = .ok (.iconst 2, 1) := by decide +kernel
theorem dX0_endDay_67 : decode cX0_endDay 67 = .ok (.iaload, 1) := by decide +kernel
theorem dX0_endDay_68 : decode cX0_endDay 68 = .ok (.aload_n 0, 1) := by decide +kernel
theorem dX0_endDay_69 : decode cX0_endDay 69 = .ok (.getfield 46, 3) := by decide +kernel
theorem dX0_endDay_72 : decode cX0_endDay 72 = .ok (.iconst 1, 1) := by decide +kernel
theorem dX0_endDay_73 : decode cX0_endDay 73 = .ok (.iadd, 1) := by decide +kernel
theorem dX0_endDay_74 : decode cX0_endDay 74 = .ok (.aload_n 0, 1) := by decide +kernel
theorem dX0_endDay_75 : decode cX0_endDay 75 = .ok (.getfield 9, 3) := by decide +kernel
theorem dX0_endDay_78 : decode cX0_endDay 78 = .ok (.iconst 3, 1) := by decide +kernel
theorem dX0_endDay_79 : decode cX0_endDay 79 = .ok (.iaload, 1) := by decide +kernel
theorem dX0_endDay_80 : decode cX0_endDay 80 = .ok (.iadd, 1) := by decide +kernel
theorem dX0_endDay_81 : decode cX0_endDay 81 = .ok (.invokevirtual 145, 3) := by decide +kernel
theorem dX0_endDay_84 : decode cX0_endDay 84 = .ok (.aload_n 0, 1) := by decide +kernel
theorem dX0_endDay_85 : decode cX0_endDay 85 = .ok (.getfield 17, 3) := by decide +kernel
theorem dX0_endDay_88 : decode cX0_endDay 88 = .ok (.iload_n 2, 1) := by decide +kernel
theorem dX0_endDay_89 : decode cX0_endDay 89 = .ok (.aaload, 1) := by decide +kernel
theorem dX0_endDay_90 : decode cX0_endDay 90 = .ok (.invokevirtual 149, 3) := by decide +kernel
theorem dX0_endDay_93 : decode cX0_endDay 93 = .ok (.iinc 2 1, 3) := by decide +kernel
theorem dX0_endDay_96 : decode cX0_endDay 96 = .ok (.goto (-72), 3) := by decide +kernel
theorem dX0_endDay_99 : decode cX0_endDay 99 = .ok (.iconst 0, 1) := by decide +kernel
theorem dX0_endDay_100 : decode cX0_endDay 100 = .ok (.istore_n 2, 1) := by decide +kernel
theorem dX0_endDay_101 : decode cX0_endDay 101 = .ok (.iload_n 2, 1) := by decide +kernel
theorem dX0_endDay_102 : decode cX0_endDay 102 = .ok (.iconst 3, 1) := by decide +kernel
theorem dX0_endDay_103 : decode cX0_endDay 103 = .ok (.if_icmp .ge 24, 3) := by decide +kernel
theorem dX0_endDay_106 : decode cX0_endDay 106 = .ok (.aload_n 0, 1) := by decide +kernel
theorem dX0_endDay_107 : decode cX0_endDay 107 = .ok (.getfield 23, 3) := by decide +kernel
theorem dX0_endDay_110 : decode cX0_endDay 110 = .ok (.iload_n 2, 1) := by decide +kernel
theorem dX0_endDay_111 : decode cX0_endDay 111 = .ok (.aaload, 1) := by decide +kernel
theorem dX0_endDay_112 : decode cX0_endDay 112 = .ok (.aload_n 0, 1) := by decide +kernel
theorem dX0_endDay_113 : decode cX0_endDay 113 = .ok (.getfield 9, 3) := by decide +kernel
theorem dX0_endDay_116 : decode cX0_endDay 116 = .ok (.iconst 1, 1) := by decide +kernel
theorem dX0_endDay_117 : decode cX0_endDay 117 = .ok (.iaload, 1) := by decide +kernel
theorem dX0_endDay_118 : decode cX0_endDay 118 = .ok (.invokevirtual 152, 3) := by decide +kernel
theorem dX0_endDay_121 : decode cX0_endDay 121 = .ok (.iinc 2 1, 3) := by decide +kernel
theorem dX0_endDay_124 : decode cX0_endDay 124 = .ok (.goto (-23), 3) := by decide +kernel
theorem dX0_endDay_127 : decode cX0_endDay 127 = .ok (.aload_n 0, 1) := by decide +kernel
theorem dX0_endDay_128 : decode cX0_endDay 128 = .ok (.dup, 1) := by decide +kernel
theorem dX0_endDay_129 : decode cX0_endDay 129 = .ok (.getfield 46, 3) := by decide +kernel
theorem dX0_endDay_132 : decode cX0_endDay 132 = .ok (.iconst 1, 1) := by decide +kernel
theorem dX0_endDay_133 : decode cX0_endDay 133 = .ok (.iadd, 1) := by decide +kernel
theorem dX0_endDay_134 : decode cX0_endDay 134 = .ok (.putfield 46, 3) := by decide +kernel
theorem dX0_endDay_137 : decode cX0_endDay 137 = .ok (.aload_n 0, 1) := by decide +kernel
theorem dX0_endDay_138 : decode cX0_endDay 138 = .ok (.iconst 0, 1) := by decide +kernel
theorem dX0_endDay_139 : decode cX0_endDay 139 = .ok (.putfield 49, 3) := by decide +kernel
theorem dX0_endDay_142 : decode cX0_endDay 142 = .ok (.iload_n 1, 1) := by decide +kernel
theorem dX0_endDay_143 : decode cX0_endDay 143 = .ok (.ireturn, 1) := by decide +kernel
theorem dX0_aboutPerson_0 : decode cX0_aboutPerson 0 = .ok (.aload_n 0, 1) := by decide +kernel
theorem dX0_aboutPerson_1 : decode cX0_aboutPerson 1 = .ok (.iload_n 1, 1) := by decide +kernel
theorem dX0_aboutPerson_2 : decode cX0_aboutPerson 2 = .ok (.invokevirtual 69, 3) := by decide +kernel
theorem dX0_aboutPerson_5 : decode cX0_aboutPerson 5 = .ok (.ifCond .ne 5, 3) := by decide +kernel
theorem dX0_aboutPerson_8 : decode cX0_aboutPerson 8 = .ok (.iconst (-1), 1) := by decide +kernel
theorem dX0_aboutPerson_9 : decode cX0_aboutPerson 9 = .ok (.ireturn, 1) := by decide +kernel
theorem dX0_aboutPerson_10 : decode cX0_aboutPerson 10 = .ok (.aload_n 0, 1) := by decide +kernel
theorem dX0_aboutPerson_11 : decode cX0_aboutPerson 11 = .ok (.getfield 17, 3) := by decide +kernel
theorem dX0_aboutPerson_14 : decode cX0_aboutPerson 14 = .ok (.iload_n 1, 1) := by decide +kernel
theorem dX0_aboutPerson_15 : decode cX0_aboutPerson 15 = .ok (.aaload, 1) := by decide +kernel
theorem dX0_aboutPerson_16 : decode cX0_aboutPerson 16 = .ok (.iload_n 2, 1) := by decide +kernel
theorem dX0_aboutPerson_17 : decode cX0_aboutPerson 17 = .ok (.invokevirtual 155, 3) := by decide +kernel
theorem dX0_aboutPerson_20 : decode cX0_aboutPerson 20 = .ok (.ireturn, 1) := by decide +kernel
theorem dX0_aboutDish_0 : decode cX0_aboutDish 0 = .ok (.aload_n 0, 1) := by decide +kernel
theorem dX0_aboutDish_1 : decode cX0_aboutDish 1 = .ok (.iload_n 1, 1) := by decide +kernel
theorem dX0_aboutDish_2 : decode cX0_aboutDish 2 = .ok (.invokevirtual 62, 3) := by decide +kernel
theorem dX0_aboutDish_5 : decode cX0_aboutDish 5 = .ok (.ifCond .ne 5, 3) := by decide +kernel
theorem dX0_aboutDish_8 : decode cX0_aboutDish 8 = .ok (.iconst (-1), 1) := by decide +kernel
theorem dX0_aboutDish_9 : decode cX0_aboutDish 9 = .ok (.ireturn, 1) := by decide +kernel
theorem dX0_aboutDish_10 : decode cX0_aboutDish 10 = .ok (.iload_n 2, 1) := by decide +kernel
theorem dX0_aboutDish_11 : decode cX0_aboutDish 11 = .ok (.tableswitch 125 0 7 #[45, 55, 65, 71, 81, 91, 101, 108], 45) := by decide +kernel
theorem dX0_aboutDish_56 : decode cX0_aboutDish 56 = .ok (.aload_n 0, 1) := by decide +kernel
theorem dX0_aboutDish_57 : decode cX0_aboutDish 57 = .ok (.getfield 23, 3) := by decide +kernel
theorem dX0_aboutDish_60 : decode cX0_aboutDish 60 = .ok (.iload_n 1, 1) := by decide +kernel
theorem dX0_aboutDish_61 : decode cX0_aboutDish 61 = .ok (.aaload, 1) := by decide +kernel
theorem dX0_aboutDish_62 : decode cX0_aboutDish 62 = .ok (.getfield 109, 3) := by decide +kernel
theorem dX0_aboutDish_65 : decode cX0_aboutDish 65 = .ok (.ireturn, 1) := by decide +kernel
theorem dX0_aboutDish_66 : decode cX0_aboutDish 66 = .ok (.aload_n 0, 1) := by decide +kernel
theorem dX0_aboutDish_67 : decode cX0_aboutDish 67 = .ok (.getfield 23, 3) := by decide +kernel
theorem dX0_aboutDish_70 : decode cX0_aboutDish 70 = .ok (.iload_n 1, 1) := by decide +kernel
theorem dX0_aboutDish_71 : decode cX0_aboutDish 71 = .ok (.aaload, 1) := by decide +kernel
theorem dX0_aboutDish_72 : decode cX0_aboutDish 72 = .ok (.getfield 158, 3) := by decide +kernel
theorem dX0_aboutDish_75 : decode cX0_aboutDish 75 = .ok (.ireturn, 1) := by decide +kernel
theorem dX0_aboutDish_76 : decode cX0_aboutDish 76 = .ok (.aload_n 0, 1) := by decide +kernel
theorem dX0_aboutDish_77 : decode cX0_aboutDish 77 = .ok (.iload_n 1, 1) := by decide +kernel
theorem dX0_aboutDish_78 : decode cX0_aboutDish 78 = .ok (.invokevirtual 135, 3) := by decide +kernel
theorem dX0_aboutDish_81 : decode cX0_aboutDish 81 = .ok (.ireturn, 1) := by decide +kernel
theorem dX0_aboutDish_82 : decode cX0_aboutDish 82 = .ok (.aload_n 0, 1) := by decide +kernel
theorem dX0_aboutDish_83 : decode cX0_aboutDish 83 = .ok (.getfield 23, 3) := by decide +kernel
theorem dX0_aboutDish_86 : decode cX0_aboutDish 86 = .ok (.iload_n 1, 1) := by decide +kernel
theorem dX0_aboutDish_87 : decode cX0_aboutDish 87 = .ok (.aaload, 1) := by decide +kernel
theorem dX0_aboutDish_88 : decode cX0_aboutDish 88 = .ok (.getfield 161, 3) := by decide +kernel
theorem dX0_aboutDish_91 : decode cX0_aboutDish 91 = .ok (.ireturn, 1) := by decide +kernel
theorem dX0_aboutDish_92 : decode cX0_aboutDish 92 = .ok (.aload_n 0, 1) := by decide +kernel
theorem dX0_aboutDish_93 : decode cX0_aboutDish 93 = .ok (.getfield 23, 3) := by decide +kernel
theorem dX0_aboutDish_96 : decode cX0_aboutDish 96 = .ok (.iload_n 1, 1) := by decide +kernel
theorem dX0_aboutDish_97 : decode cX0_aboutDish 97 = .ok (.aaload, 1) := by decide +kernel
theorem dX0_aboutDish_98 : decode cX0_aboutDish 98 = .ok (.getfield 163, 3) := by decide +kernel
theorem dX0_aboutDish_101 : decode cX0_aboutDish 101 = .ok (.ireturn, 1) := by decide +kernel
theorem dX0_aboutDish_102 : decode cX0_aboutDish 102 = .ok (.aload_n 0, 1) := by decide +kernel
theorem dX0_aboutDish_103 : decode cX0_aboutDish 103 = .ok (.getfield 23, 3) := by decide +kernel
theorem dX0_aboutDish_106 : decode cX0_aboutDish 106 = .ok (.iload_n 1, 1) := by decide +kernel
theorem dX0_aboutDish_107 : decode cX0_aboutDish 107 = .ok (.aaload, 1) := by decide +kernel
theorem dX0_aboutDish_108 : decode cX0_aboutDish 108 = .ok (.getfield 166, 3) := by decide +kernel
theorem dX0_aboutDish_111 : decode cX0_aboutDish 111 = .ok (.ireturn, 1) := by decide +kernel
theorem dX0_aboutDish_112 : decode cX0_aboutDish 112 = .ok (.aload_n 0, 1) := by decide +kernel
theorem dX0_aboutDish_113 : decode cX0_aboutDish 113 = .ok (.iload_n 1, 1) := by decide +kernel
theorem dX0_aboutDish_114 : decode cX0_aboutDish 114 = .ok (.iconst 0, 1) := by decide +kernel
theorem dX0_aboutDish_115 : decode cX0_aboutDish 115 = .ok (.invokevirtual 80, 3) := by decide +kernel
theorem dX0_aboutDish_118 : decode cX0_aboutDish 118 = .ok (.ireturn, 1) := by decide +kernel
theorem dX0_aboutDish_119 : decode cX0_aboutDish 119 = .ok (.aload_n 0, 1) := by decide +kernel
theorem dX0_aboutDish_120 : decode cX0_aboutDish 120 = .ok (.getfield 49, 3) := by decide +kernel
theorem dX0_aboutDish_123 : decode cX0_aboutDish 123 = .ok (.ifCond .eq 7, 3) := by decide +kernel
theorem dX0_aboutDish_126 : decode cX0_aboutDish 126 = .ok (.iconst 0, 1) := by decide +kernel
theorem dX0_aboutDish_127 : decode cX0_aboutDish 127 = .ok (.goto 8, 3) := by decide +kernel
theorem dX0_aboutDish_130 : decode cX0_aboutDish 130 = .ok (.aload_n 0, 1) := by decide +kernel
theorem dX0_aboutDish_131 : decode cX0_aboutDish 131 = .ok (.iload_n 1, 1) := by decide +kernel
theorem dX0_aboutDish_132 : decode cX0_aboutDish 132 = .ok (.invokevirtual 98, 3) := by decide +kernel
theorem dX0_aboutDish_135 : decode cX0_aboutDish 135 = .ok (.ireturn, 1) := by decide +kernel
theorem dX0_aboutDish_136 : decode cX0_aboutDish 136 = .ok (.bipush (-2), 2) := by decide +kernel
theorem dX0_aboutDish_138 : decode cX0_aboutDish 138 = .ok (.ireturn, 1) := by decide +kernel
theorem dX0_peopleWithOrder_0 : decode cX0_peopleWithOrder 0 = .ok (.aload_n 0, 1) := by decide +kernel
theorem dX0_peopleWithOrder_1 : decode cX0_peopleWithOrder 1 = .ok (.iload_n 2, 1) := by decide +kernel
theorem dX0_peopleWithOrder_2 : decode cX0_peopleWithOrder 2 = .ok (.invokevirtual 62, 3) := by decide +kernel
theorem dX0_peopleWithOrder_5 : decode cX0_peopleWithOrder 5 = .ok (.ifCond .ne 5, 3) := by decide +kernel
theorem dX0_peopleWithOrder_8 : decode cX0_peopleWithOrder 8 = .ok (.iconst (-1), 1) := by decide +kernel
theorem dX0_peopleWithOrder_9 : decode cX0_peopleWithOrder 9 = .ok (.ireturn, 1) := by decide +kernel
theorem dX0_peopleWithOrder_10 : decode cX0_peopleWithOrder 10 = .ok (.aload_n 0, 1) := by decide +kernel
theorem dX0_peopleWithOrder_11 : decode cX0_peopleWithOrder 11 = .ok (.iload_n 1, 1) := by decide +kernel
theorem dX0_peopleWithOrder_12 : decode cX0_peopleWithOrder 12 = .ok (.invokevirtual 87, 3) := by decide +kernel
theorem dX0_peopleWithOrder_15 : decode cX0_peopleWithOrder 15 = .ok (.ifCond .ne 6, 3) := by decide +kernel
theorem dX0_peopleWithOrder_18 : decode cX0_peopleWithOrder 18 = .ok (.bipush (-2), 2) := by decide +kernel
theorem dX0_peopleWithOrder_20 : decode cX0_peopleWithOrder 20 = .ok (.ireturn, 1) := by decide +kernel
theorem dX0_peopleWithOrder_21 : decode cX0_peopleWithOrder 21 = .ok (.iconst 0, 1) := by decide +kernel
theorem dX0_peopleWithOrder_22 : decode cX0_peopleWithOrder 22 = .ok (.istore_n 3, 1) := by decide +kernel
theorem dX0_peopleWithOrder_23 : decode cX0_peopleWithOrder 23 = .ok (.iconst 0, 1) := by decide +kernel
theorem dX0_peopleWithOrder_24 : decode cX0_peopleWithOrder 24 = .ok (.istore 4, 2) := by decide +kernel
theorem dX0_peopleWithOrder_26 : decode cX0_peopleWithOrder 26 = .ok (.iload 4, 2) := by decide +kernel
theorem dX0_peopleWithOrder_28 : decode cX0_peopleWithOrder 28 = .ok (.aload_n 0, 1) := by decide +kernel
theorem dX0_peopleWithOrder_29 : decode cX0_peopleWithOrder 29 = .ok (.getfield 39, 3) := by decide +kernel
theorem dX0_peopleWithOrder_32 : decode cX0_peopleWithOrder 32 = .ok (.if_icmp .ge 32, 3) := by decide +kernel
theorem dX0_peopleWithOrder_35 : decode cX0_peopleWithOrder 35 = .ok (.aload_n 0, 1) := by decide +kernel
theorem dX0_peopleWithOrder_36 : decode cX0_peopleWithOrder 36 = .ok (.getfield 17, 3) := by decide +kernel
theorem dX0_peopleWithOrder_39 : decode cX0_peopleWithOrder 39 = .ok (.iload 4, 2) := by decide +kernel
theorem dX0_peopleWithOrder_41 : decode cX0_peopleWithOrder 41 = .ok (.aaload, 1) := by decide +kernel
theorem dX0_peopleWithOrder_42 : decode cX0_peopleWithOrder 42 = .ok (.getfield 93, 3) := by decide +kernel
theorem dX0_peopleWithOrder_45 : decode cX0_peopleWithOrder 45 = .ok (.iload_n 1, 1) := by decide +kernel
theorem dX0_peopleWithOrder_46 : decode cX0_peopleWithOrder 46 = .ok (.iaload, 1) := by decide +kernel
theorem dX0_peopleWithOrder_47 : decode cX0_peopleWithOrder 47 = .ok (.iload_n 2, 1) := by decide +kernel
theorem dX0_peopleWithOrder_48 : decode cX0_peopleWithOrder 48 = .ok (.if_icmp .ne 10, 3) := by decide +kernel
theorem dX0_peopleWithOrder_51 : decode cX0_peopleWithOrder 51 = .ok (.iload_n 3, 1) := by decide +kernel
theorem dX0_peopleWithOrder_52 : decode cX0_peopleWithOrder 52 = .ok (.iconst 1, 1) := by decide +kernel
theorem dX0_peopleWithOrder_53 : decode cX0_peopleWithOrder 53 = .ok (.iload 4, 2) := by decide +kernel
theorem dX0_peopleWithOrder_55 : decode cX0_peopleWithOrder 55 = .ok (.ishl, 1) := by decide +kernel
theorem dX0_peopleWithOrder_56 : decode cX0_peopleWithOrder 56 = .ok (.ior, 1) := by decide +kernel
theorem dX0_peopleWithOrder_57 : decode cX0_peopleWithOrder 57 = .ok (.istore_n 3, 1) := by decide +kernel
theorem dX0_peopleWithOrder_58 : decode cX0_peopleWithOrder 58 = .ok (.iinc 4 1, 3) := by decide +kernel
theorem dX0_peopleWithOrder_61 : decode cX0_peopleWithOrder 61 = .ok (.goto (-35), 3) := by decide +kernel
theorem dX0_peopleWithOrder_64 : decode cX0_peopleWithOrder 64 = .ok (.iload_n 3, 1) := by decide +kernel
theorem dX0_peopleWithOrder_65 : decode cX0_peopleWithOrder 65 = .ok (.ireturn, 1) := by decide +kernel
theorem dX0_number_0 : decode cX0_number 0 = .ok (.iload_n 1, 1) := by decide +kernel
theorem dX0_number_1 : decode cX0_number 1 = .ok (.tableswitch 121 0 13 #[71, 76, 81, 94, 94, 94, 94, 100, 106, 100, 111, 111, 111, 111], 71) := by decide +kernel
theorem dX0_number_72 : decode cX0_number 72 = .ok (.aload_n 0, 1) := by decide +kernel
theorem dX0_number_73 : decode cX0_number 73 = .ok (.getfield 46, 3) := by decide +kernel
theorem dX0_number_76 : decode cX0_number 76 = .ok (.ireturn, 1) := by decide +kernel
theorem dX0_number_77 : decode cX0_number 77 = .ok (.aload_n 0, 1) := by decide +kernel
theorem dX0_number_78 : decode cX0_number 78 = .ok (.getfield 39, 3) := by decide +kernel
theorem dX0_number_81 : decode cX0_number 81 = .ok (.ireturn, 1) := by decide +kernel
theorem dX0_number_82 : decode cX0_number 82 = .ok (.aload_n 0, 1) := by decide +kernel
theorem dX0_number_83 : decode cX0_number 83 = .ok (.getfield 49, 3) := by decide +kernel
theorem dX0_number_86 : decode cX0_number 86 = .ok (.ifCond .eq 7, 3) := by decide +kernel
theorem dX0_number_89 : decode cX0_number 89 = .ok (.iconst 1, 1) := by decide +kernel
theorem dX0_number_90 : decode cX0_number 90 = .ok (.goto 4, 3) := by decide +kernel
theorem dX0_number_93 : decode cX0_number 93 = .ok (.iconst 0, 1) := by decide +kernel
theorem dX0_number_94 : decode cX0_number 94 = .ok (.ireturn, 1) := by decide +kernel
theorem dX0_number_95 : decode cX0_number 95 = .ok (.aload_n 0, 1) := by decide +kernel
theorem dX0_number_96 : decode cX0_number 96 = .ok (.iload_n 1, 1) := by decide +kernel
theorem dX0_number_97 : decode cX0_number 97 = .ok (.invokevirtual 169, 3) := by decide +kernel
theorem dX0_number_100 : decode cX0_number 100 = .ok (.ireturn, 1) := by decide +kernel
theorem dX0_number_101 : decode cX0_number 101 = .ok (.aload_n 0, 1) := by decide +kernel
theorem dX0_number_102 : decode cX0_number 102 = .ok (.iload_n 1, 1) := by decide +kernel
theorem dX0_number_103 : decode cX0_number 103 = .ok (.invokevirtual 172, 3) := by decide +kernel
theorem dX0_number_106 : decode cX0_number 106 = .ok (.ireturn, 1) := by decide +kernel
theorem dX0_number_107 : decode cX0_number 107 = .ok (.aload_n 0, 1) := by decide +kernel
theorem dX0_number_108 : decode cX0_number 108 = .ok (.invokevirtual 175, 3) := by decide +kernel
theorem dX0_number_111 : decode cX0_number 111 = .ok (.ireturn, 1) := by decide +kernel
theorem dX0_number_112 : decode cX0_number 112 = .ok (.aload_n 0, 1) := by decide +kernel
theorem dX0_number_113 : decode cX0_number 113 = .ok (.getfield 9, 3) := by decide +kernel
theorem dX0_number_116 : decode cX0_number 116 = .ok (.iload_n 1, 1) := by decide +kernel
theorem dX0_number_117 : decode cX0_number 117 = .ok (.bipush 10, 2) := by decide +kernel
theorem dX0_number_119 : decode cX0_number 119 = .ok (.isub, 1) := by decide +kernel
theorem dX0_number_120 : decode cX0_number 120 = .ok (.iaload, 1) := by decide +kernel
theorem dX0_number_121 : decode cX0_number 121 = .ok (.ireturn, 1) := by decide +kernel
theorem dX0_number_122 : decode cX0_number 122 = .ok (.bipush (-2), 2) := by decide +kernel
theorem dX0_number_124 : decode cX0_number 124 = .ok (.ireturn, 1) := by decide +kernel
theorem dX0_sumOfDishes_0 : decode cX0_sumOfDishes 0 = .ok (.iconst 0, 1) := by decide +kernel
theorem dX0_sumOfDishes_1 : decode cX0_sumOfDishes 1 = .ok (.istore_n 2, 1) := by decide +kernel
theorem dX0_sumOfDishes_2 : decode cX0_sumOfDishes 2 = .ok (.iconst 0, 1) := by decide +kernel
theorem dX0_sumOfDishes_3 : decode cX0_sumOfDishes 3 = .ok (.istore_n 3, 1) := by decide +kernel
theorem dX0_sumOfDishes_4 : decode cX0_sumOfDishes 4 = .ok (.iload_n 3, 1) := by decide +kernel
theorem dX0_sumOfDishes_5 : decode cX0_sumOfDishes 5 = .ok (.iconst 3, 1) := by decide +kernel
theorem dX0_sumOfDishes_6 : decode cX0_sumOfDishes 6 = .ok (.if_icmp .ge 36, 3) := by decide +kernel
theorem dX0_sumOfDishes_9 : decode cX0_sumOfDishes 9 = .ok (.iload_n 2, 1) := by decide +kernel
theorem dX0_sumOfDishes_10 : decode cX0_sumOfDishes 10 = .ok (.iload_n 1, 1) := by decide +kernel
theorem dX0_sumOfDishes_11 : decode cX0_sumOfDishes 11 = .ok (.bipush 6, 2) := by decide +kernel
theorem dX0_sumOfDishes_13 : decode cX0_sumOfDishes 13 = .ok (.if_icmp .ne 15, 3) := by decide +kernel
theorem dX0_sumOfDishes_16 : decode cX0_sumOfDishes 16 = .ok (.aload_n 0, 1) := by decide +kernel
theorem dX0_sumOfDishes_17 : decode cX0_sumOfDishes 17 = .ok (.getfield 23, 3) := by decide +kernel
theorem dX0_sumOfDishes_20 : decode cX0_sumOfDishes 20 = .ok (.iload_n 3, 1) := by decide +kernel
theorem dX0_sumOfDishes_21 : decode cX0_sumOfDishes 21 = .ok (.aaload, 1) := by decide +kernel
theorem dX0_sumOfDishes_22 : decode cX0_sumOfDishes 22 = .ok (.invokevirtual 123, 3) := by decide +kernel
theorem dX0_sumOfDishes_25 : decode cX0_sumOfDishes 25 = .ok (.goto 9, 3) := by decide +kernel
theorem dX0_sumOfDishes_28 : decode cX0_sumOfDishes 28 = .ok (.aload_n 0, 1) := by decide +kernel
theorem dX0_sumOfDishes_29 : decode cX0_sumOfDishes 29 = .ok (.iload_n 3, 1) := by decide +kernel
theorem dX0_sumOfDishes_30 : decode cX0_sumOfDishes 30 = .ok (.iload_n 1, 1) := by decide +kernel
theorem dX0_sumOfDishes_31 : decode cX0_sumOfDishes 31 = .ok (.invokevirtual 178, 3) := by decide +kernel
theorem dX0_sumOfDishes_34 : decode cX0_sumOfDishes 34 = .ok (.iadd, 1) := by decide +kernel
theorem dX0_sumOfDishes_35 : decode cX0_sumOfDishes 35 = .ok (.istore_n 2, 1) := by decide +kernel
theorem dX0_sumOfDishes_36 : decode cX0_sumOfDishes 36 = .ok (.iinc 3 1, 3) := by decide +kernel
theorem dX0_sumOfDishes_39 : decode cX0_sumOfDishes 39 = .ok (.goto (-35), 3) := by decide +kernel
theorem dX0_sumOfDishes_42 : decode cX0_sumOfDishes 42 = .ok (.iload_n 2, 1) := by decide +kernel
theorem dX0_sumOfDishes_43 : decode cX0_sumOfDishes 43 = .ok (.ireturn, 1) := by decide +kernel
theorem dX0_sumOfPeople_0 : decode cX0_sumOfPeople 0 = .ok (.iconst 0, 1) := by decide +kernel
theorem dX0_sumOfPeople_1 : decode cX0_sumOfPeople 1 = .ok (.istore_n 2, 1) := by decide +kernel
theorem dX0_sumOfPeople_2 : decode cX0_sumOfPeople 2 = .ok (.iconst 0, 1) := by decide +kernel
theorem dX0_sumOfPeople_3 : decode cX0_sumOfPeople 3 = .ok (.istore_n 3, 1) := by decide +kernel
theorem dX0_sumOfPeople_4 : decode cX0_sumOfPeople 4 = .ok (.iload_n 3, 1) := by decide +kernel
theorem dX0_sumOfPeople_5 : decode cX0_sumOfPeople 5 = .ok (.aload_n 0, 1) := by decide +kernel
theorem dX0_sumOfPeople_6 : decode cX0_sumOfPeople 6 = .ok (.getfield 39, 3) := by decide +kernel
theorem dX0_sumOfPeople_9 : decode cX0_sumOfPeople 9 = .ok (.if_icmp .ge 39, 3) := by decide +kernel
theorem dX0_sumOfPeople_12 : decode cX0_sumOfPeople 12 = .ok (.iload_n 2, 1) := by decide +kernel
theorem dX0_sumOfPeople_13 : decode cX0_sumOfPeople 13 = .ok (.iload_n 1, 1) := by decide +kernel
theorem dX0_sumOfPeople_14 : decode cX0_sumOfPeople 14 = .ok (.bipush 7, 2) := by decide +kernel
theorem dX0_sumOfPeople_16 : decode cX0_sumOfPeople 16 = .ok (.if_icmp .ne 15, 3) := by decide +kernel
theorem dX0_sumOfPeople_19 : decode cX0_sumOfPeople 19 = .ok (.aload_n 0, 1) := by decide +kernel
theorem dX0_sumOfPeople_20 : decode cX0_sumOfPeople 20 = .ok (.getfield 17, 3) := by decide +kernel
theorem dX0_sumOfPeople_23 : decode cX0_sumOfPeople 23 = .ok (.iload_n 3, 1) := by decide +kernel
theorem dX0_sumOfPeople_24 : decode cX0_sumOfPeople 24 = .ok (.aaload, 1) := by decide +kernel
theorem dX0_sumOfPeople_25 : decode cX0_sumOfPeople 25 = .ok (.getfield 132, 3) := by decide +kernel
theorem dX0_sumOfPeople_28 : decode cX0_sumOfPeople 28 = .ok (.goto 12, 3) := by decide +kernel
theorem dX0_sumOfPeople_31 : decode cX0_sumOfPeople 31 = .ok (.aload_n 0, 1) := by decide +kernel
theorem dX0_sumOfPeople_32 : decode cX0_sumOfPeople 32 = .ok (.getfield 17, 3) := by decide +kernel
theorem dX0_sumOfPeople_35 : decode cX0_sumOfPeople 35 = .ok (.iload_n 3, 1) := by decide +kernel
theorem dX0_sumOfPeople_36 : decode cX0_sumOfPeople 36 = .ok (.aaload, 1) := by decide +kernel
theorem dX0_sumOfPeople_37 : decode cX0_sumOfPeople 37 = .ok (.getfield 181, 3) := by decide +kernel
theorem dX0_sumOfPeople_40 : decode cX0_sumOfPeople 40 = .ok (.iadd, 1) := by decide +kernel
theorem dX0_sumOfPeople_41 : decode cX0_sumOfPeople 41 = .ok (.istore_n 2, 1) := by decide +kernel
theorem dX0_sumOfPeople_42 : decode cX0_sumOfPeople 42 = .ok (.iinc 3 1, 3) := by decide +kernel
theorem dX0_sumOfPeople_45 : decode cX0_sumOfPeople 45 = .ok (.goto (-41), 3) := by decide +kernel
theorem dX0_sumOfPeople_48 : decode cX0_sumOfPeople 48 = .ok (.iload_n 2, 1) := by decide +kernel
theorem dX0_sumOfPeople_49 : decode cX0_sumOfPeople 49 = .ok (.ireturn, 1) := by decide +kernel
theorem dX0_bannedToday_0 : decode cX0_bannedToday 0 = .ok (.iconst 0, 1) := by decide +kernel
theorem dX0_bannedToday_1 : decode cX0_bannedToday 1 = .ok (.istore_n 1, 1) := by decide +kernel
theorem dX0_bannedToday_2 : decode cX0_bannedToday 2 = .ok (.iconst 0, 1) := by decide +kernel
theorem dX0_bannedToday_3 : decode cX0_bannedToday 3 = .ok (.istore_n 2, 1) := by decide +kernel
theorem dX0_bannedToday_4 : decode cX0_bannedToday 4 = .ok (.iload_n 2, 1) := by decide +kernel
theorem dX0_bannedToday_5 : decode cX0_bannedToday 5 = .ok (.aload_n 0, 1) := by decide +kernel
theorem dX0_bannedToday_6 : decode cX0_bannedToday 6 = .ok (.getfield 39, 3) := by decide +kernel
theorem dX0_bannedToday_9 : decode cX0_bannedToday 9 = .ok (.if_icmp .ge 31, 3) := by decide +kernel
theorem dX0_bannedToday_12 : decode cX0_bannedToday 12 = .ok (.aload_n 0, 1) := by decide +kernel
theorem dX0_bannedToday_13 : decode cX0_bannedToday 13 = .ok (.getfield 46, 3) := by decide +kernel
theorem dX0_bannedToday_16 : decode cX0_bannedToday 16 = .ok (.aload_n 0, 1) := by decide +kernel
theorem dX0_bannedToday_17 : decode cX0_bannedToday 17 = .ok (.getfield 17, 3) := by decide +kernel
theorem dX0_bannedToday_20 : decode cX0_bannedToday 20 = .ok (.iload_n 2, 1) := by decide +kernel
theorem dX0_bannedToday_21 : decode cX0_bannedToday 21 = .ok (.aaload, 1) := by decide +kernel
theorem dX0_bannedToday_22 : decode cX0_bannedToday 22 = .ok (.getfield 184, 3) := by decide +kernel
theorem dX0_bannedToday_25 : decode cX0_bannedToday 25 = .ok (.if_icmp .ge 9, 3) := by decide +kernel
theorem dX0_bannedToday_28 : decode cX0_bannedToday 28 = .ok (.iload_n 1, 1) := by decide +kernel
theorem dX0_bannedToday_29 : decode cX0_bannedToday 29 = .ok (.iconst 1, 1) := by decide +kernel
theorem dX0_bannedToday_30 : decode cX0_bannedToday 30 = .ok (.iload_n 2, 1) := by decide +kernel
theorem dX0_bannedToday_31 : decode cX0_bannedToday 31 = .ok (.ishl, 1) := by decide +kernel
theorem dX0_bannedToday_32 : decode cX0_bannedToday 32 = .ok (.ior, 1) := by decide +kernel
theorem dX0_bannedToday_33 : decode cX0_bannedToday 33 = .ok (.istore_n 1, 1) := by decide +kernel
theorem dX0_bannedToday_34 : decode cX0_bannedToday 34 = .ok (.iinc 2 1, 3) := by decide +kernel
theorem dX0_bannedToday_37 : decode cX0_bannedToday 37 = .ok (.goto (-33), 3) := by decide +kernel
theorem dX0_bannedToday_40 : decode cX0_bannedToday 40 = .ok (.iload_n 1, 1) := by decide +kernel
theorem dX0_bannedToday_41 : decode cX0_bannedToday 41 = .ok (.ireturn, 1) := by decide +kernel
theorem dX0_reasonAgainst_0 : decode cX0_reasonAgainst 0 = .ok (.aload_n 0, 1) := by decide +kernel
theorem dX0_reasonAgainst_1 : decode cX0_reasonAgainst 1 = .ok (.iload_n 1, 1) := by decide +kernel
theorem dX0_reasonAgainst_2 : decode cX0_reasonAgainst 2 = .ok (.invokevirtual 69, 3) := by decide +kernel
theorem dX0_reasonAgainst_5 : decode cX0_reasonAgainst 5 = .ok (.ifCond .eq 11, 3) := by decide +kernel
theorem dX0_reasonAgainst_8 : decode cX0_reasonAgainst 8 = .ok (.aload_n 0, 1) := by decide +kernel
theorem dX0_reasonAgainst_9 : decode cX0_reasonAgainst 9 = .ok (.iload_n 3, 1) := by decide +kernel
theorem dX0_reasonAgainst_10 : decode cX0_reasonAgainst 10 = .ok (.invokevirtual 62, 3) := by decide +kernel
theorem dX0_reasonAgainst_13 : decode cX0_reasonAgainst 13 = .ok (.ifCond .ne 5, 3) := by decide +kernel
theorem dX0_reasonAgainst_16 : decode cX0_reasonAgainst 16 = .ok (.iconst (-1), 1) := by decide +kernel
theorem dX0_reasonAgainst_17 : decode cX0_reasonAgainst 17 = .ok (.ireturn, 1) := by decide +kernel
theorem dX0_reasonAgainst_18 : decode cX0_reasonAgainst 18 = .ok (.aload_n 0, 1) := by decide +kernel
theorem dX0_reasonAgainst_19 : decode cX0_reasonAgainst 19 = .ok (.iload_n 2, 1) := by decide +kernel
theorem dX0_reasonAgainst_20 : decode cX0_reasonAgainst 20 = .ok (.invokevirtual 87, 3) := by decide +kernel
theorem dX0_reasonAgainst_23 : decode cX0_reasonAgainst 23 = .ok (.ifCond .ne 6, 3) := by decide +kernel
theorem dX0_reasonAgainst_26 : decode cX0_reasonAgainst 26 = .ok (.bipush (-2), 2) := by decide +kernel
theorem dX0_reasonAgainst_28 : decode cX0_reasonAgainst 28 = .ok (.ireturn, 1) := by decide +kernel
theorem dX0_reasonAgainst_29 : decode cX0_reasonAgainst 29 = .ok (.iload_n 2, 1) := by decide +kernel
theorem dX0_reasonAgainst_30 : decode cX0_reasonAgainst 30 = .ok (.ifCond .ne 12, 3) := by decide +kernel
theorem dX0_reasonAgainst_33 : decode cX0_reasonAgainst 33 = .ok (.aload_n 0, 1) := by decide +kernel
theorem dX0_reasonAgainst_34 : decode cX0_reasonAgainst 34 = .ok (.getfield 49, 3) := by decide +kernel
theorem dX0_reasonAgainst_37 : decode cX0_reasonAgainst 37 = .ok (.ifCond .eq 5, 3) := by decide +kernel
theorem dX0_reasonAgainst_40 : decode cX0_reasonAgainst 40 = .ok (.iconst 1, 1) := by decide +kernel
theorem dX0_reasonAgainst_41 : decode cX0_reasonAgainst 41 = .ok (.ireturn, 1) := by decide +kernel
theorem dX0_reasonAgainst_42 : decode cX0_reasonAgainst 42 = .ok (.aload_n 0, 1) := by decide +kernel
theorem dX0_reasonAgainst_43 : decode cX0_reasonAgainst 43 = .ok (.getfield 46, 3) := by decide +kernel
theorem dX0_reasonAgainst_46 : decode cX0_reasonAgainst 46 = .ok (.iload_n 2, 1) := by decide +kernel
theorem dX0_reasonAgainst_47 : decode cX0_reasonAgainst 47 = .ok (.iadd, 1) := by decide +kernel
theorem dX0_reasonAgainst_48 : decode cX0_reasonAgainst 48 = .ok (.aload_n 0, 1) := by decide +kernel
theorem dX0_reasonAgainst_49 : decode cX0_reasonAgainst 49 = .ok (.getfield 17, 3) := by decide +kernel
theorem dX0_reasonAgainst_52 : decode cX0_reasonAgainst 52 = .ok (.iload_n 1, 1) := by decide +kernel
theorem dX0_reasonAgainst_53 : decode cX0_reasonAgainst 53 = .ok (.aaload, 1) := by decide +kernel
theorem dX0_reasonAgainst_54 : decode cX0_reasonAgainst 54 = .ok (.getfield 184, 3) := by decide +kernel
theorem dX0_reasonAgainst_57 : decode cX0_reasonAgainst 57 = .ok (.if_icmp .ge 5, 3) := by decide +kernel
theorem dX0_reasonAgainst_60 : decode cX0_reasonAgainst 60 = .ok (.iconst 2, 1) := by decide +kernel
theorem dX0_reasonAgainst_61 : decode cX0_reasonAgainst 61 = .ok (.ireturn, 1) := by decide +kernel
theorem dX0_reasonAgainst_62 : decode cX0_reasonAgainst 62 = .ok (.aload_n 0, 1) := by decide +kernel
theorem dX0_reasonAgainst_63 : decode cX0_reasonAgainst 63 = .ok (.getfield 17, 3) := by decide +kernel
theorem dX0_reasonAgainst_66 : decode cX0_reasonAgainst 66 = .ok (.iload_n 1, 1) := by decide +kernel
theorem dX0_reasonAgainst_67 : decode cX0_reasonAgainst 67 = .ok (.aaload, 1) := by decide +kernel
theorem dX0_reasonAgainst_68 : decode cX0_reasonAgainst 68 = .ok (.iload_n 2, 1) := by decide +kernel
theorem dX0_reasonAgainst_69 : decode cX0_reasonAgainst 69 = .ok (.invokevirtual 90, 3) := by decide +kernel
theorem dX0_reasonAgainst_72 : decode cX0_reasonAgainst 72 = .ok (.ifCond .eq 5, 3) := by decide +kernel
theorem dX0_reasonAgainst_75 : decode cX0_reasonAgainst 75 = .ok (.iconst 3, 1) := by decide +kernel
theorem dX0_reasonAgainst_76 : decode cX0_reasonAgainst 76 = .ok (.ireturn, 1) := by decide +kernel
theorem dX0_reasonAgainst_77 : decode cX0_reasonAgainst 77 = .ok (.aload_n 0, 1) := by decide +kernel
theorem dX0_reasonAgainst_78 : decode cX0_reasonAgainst 78 = .ok (.getfield 17, 3) := by decide +kernel
theorem dX0_reasonAgainst_81 : decode cX0_reasonAgainst 81 = .ok (.iload_n 1, 1) := by decide +kernel
theorem dX0_reasonAgainst_82 : decode cX0_reasonAgainst 82 = .ok (.aaload, 1) := by decide +kernel
theorem dX0_reasonAgainst_83 : decode cX0_reasonAgainst 83 = .ok (.getfield 132, 3) := by decide +kernel
theorem dX0_reasonAgainst_86 : decode cX0_reasonAgainst 86 = .ok (.aload_n 0, 1) := by decide +kernel
theorem dX0_reasonAgainst_87 : decode cX0_reasonAgainst 87 = .ok (.iload_n 3, 1) := by decide +kernel
theorem dX0_reasonAgainst_88 : decode cX0_reasonAgainst 88 = .ok (.iload_n 2, 1) := by decide +kernel
theorem dX0_reasonAgainst_89 : decode cX0_reasonAgainst 89 = .ok (.invokevirtual 80, 3) := by decide +kernel
theorem dX0_reasonAgainst_92 : decode cX0_reasonAgainst 92 = .ok (.if_icmp .ge 7, 3) := by decide +kernel
theorem dX0_reasonAgainst_95 : decode cX0_reasonAgainst 95 = .ok (.iconst 4, 1) := by decide +kernel
theorem dX0_reasonAgainst_96 : decode cX0_reasonAgainst 96 = .ok (.goto 4, 3) := by decide +kernel
theorem dX0_reasonAgainst_99 : decode cX0_reasonAgainst 99 = .ok (.iconst 0, 1) := by decide +kernel
theorem dX0_reasonAgainst_100 : decode cX0_reasonAgainst 100 = .ok (.ireturn, 1) := by decide +kernel
theorem dX0_greatestDoubt_0 : decode cX0_greatestDoubt 0 = .ok (.iload_n 1, 1) := by decide +kernel
theorem dX0_greatestDoubt_1 : decode cX0_greatestDoubt 1 = .ok (.ifCond .eq 11, 3) := by decide +kernel
theorem dX0_greatestDoubt_4 : decode cX0_greatestDoubt 4 = .ok (.iload_n 1, 1) := by decide +kernel
theorem dX0_greatestDoubt_5 : decode cX0_greatestDoubt 5 = .ok (.iconst 1, 1) := by decide +kernel
theorem dX0_greatestDoubt_6 : decode cX0_greatestDoubt 6 = .ok (.if_icmp .eq 6, 3) := by decide +kernel
theorem dX0_greatestDoubt_9 : decode cX0_greatestDoubt 9 = .ok (.bipush (-2), 2) := by decide +kernel
theorem dX0_greatestDoubt_11 : decode cX0_greatestDoubt 11 = .ok (.ireturn, 1) := by decide +kernel
theorem dX0_greatestDoubt_12 : decode cX0_greatestDoubt 12 = .ok (.bipush (-6), 2) := by decide +kernel
theorem dX0_greatestDoubt_14 : decode cX0_greatestDoubt 14 = .ok (.istore_n 2, 1) := by decide +kernel
theorem dX0_greatestDoubt_15 : decode cX0_greatestDoubt 15 = .ok (.iconst 0, 1) := by decide +kernel
theorem dX0_greatestDoubt_16 : decode cX0_greatestDoubt 16 = .ok (.istore_n 3, 1) := by decide +kernel
theorem dX0_greatestDoubt_17 : decode cX0_greatestDoubt 17 = .ok (.iload_n 3, 1) := by decide +kernel
theorem dX0_greatestDoubt_18 : decode cX0_greatestDoubt 18 = .ok (.aload_n 0, 1) := by decide +kernel
theorem dX0_greatestDoubt_19 : decode cX0_greatestDoubt 19 = .ok (.getfield 39, 3) := by decide +kernel
theorem dX0_greatestDoubt_22 : decode cX0_greatestDoubt 22 = .ok (.if_icmp .ge 45, 3) := by decide +kernel
theorem dX0_greatestDoubt_25 : decode cX0_greatestDoubt 25 = .ok (.aload_n 0, 1) := by decide +kernel
theorem dX0_greatestDoubt_26 : decode cX0_greatestDoubt 26 = .ok (.getfield 17, 3) := by decide +kernel
theorem dX0_greatestDoubt_29 : decode cX0_greatestDoubt 29 = .ok (.iload_n 3, 1) := by decide +kernel
theorem dX0_greatestDoubt_30 : decode cX0_greatestDoubt 30 = .ok (.aaload, 1) := by decide +kernel
theorem dX0_greatestDoubt_31 : decode cX0_greatestDoubt 31 = .ok (.invokevirtual 105, 3) := by decide +kernel
theorem dX0_greatestDoubt_34 : decode cX0_greatestDoubt 34 = .ok (.ifCond .le 27, 3) := by decide +kernel
theorem dX0_greatestDoubt_37 : decode cX0_greatestDoubt 37 = .ok (.iload_n 2, 1) := by decide +kernel
theorem dX0_greatestDoubt_38 : decode cX0_greatestDoubt 38 = .ok (.ifCond .lt 21, 3) := by decide +kernel
theorem dX0_greatestDoubt_41 : decode cX0_greatestDoubt 41 = .ok (.aload_n 0, 1) := by decide +kernel
theorem dX0_greatestDoubt_42 : decode cX0_greatestDoubt 42 = .ok (.getfield 17, 3) := by decide +kernel
theorem dX0_greatestDoubt_45 : decode cX0_greatestDoubt 45 = .ok (.iload_n 3, 1) := by decide +kernel
theorem dX0_greatestDoubt_46 : decode cX0_greatestDoubt 46 = .ok (.aaload, 1) := by decide +kernel
theorem dX0_greatestDoubt_47 : decode cX0_greatestDoubt 47 = .ok (.aload_n 0, 1) := by decide +kernel
theorem dX0_greatestDoubt_48 : decode cX0_greatestDoubt 48 = .ok (.getfield 17, 3) := by decide +kernel
theorem dX0_greatestDoubt_51 : decode cX0_greatestDoubt 51 = .ok (.iload_n 2, 1) := by decide +kernel
theorem dX0_greatestDoubt_52 : decode cX0_greatestDoubt 52 = .ok (.aaload, 1) := by decide +kernel
theorem dX0_greatestDoubt_53 : decode cX0_greatestDoubt 53 = .ok (.invokevirtual 187, 3) := by decide +kernel
theorem dX0_greatestDoubt_56 : decode cX0_greatestDoubt 56 = .ok (.ifCond .eq 5, 3) := by decide +kernel
theorem dX0_greatestDoubt_59 : decode cX0_greatestDoubt 59 = .ok (.iload_n 3, 1) := by decide +kernel
theorem dX0_greatestDoubt_60 : decode cX0_greatestDoubt 60 = .ok (.istore_n 2, 1) := by decide +kernel
theorem dX0_greatestDoubt_61 : decode cX0_greatestDoubt 61 = .ok (.iinc 3 1, 3) := by decide +kernel
theorem dX0_greatestDoubt_64 : decode cX0_greatestDoubt 64 = .ok (.goto (-47), 3) := by decide +kernel
theorem dX0_greatestDoubt_67 : decode cX0_greatestDoubt 67 = .ok (.iload_n 2, 1) := by decide +kernel
theorem dX0_greatestDoubt_68 : decode cX0_greatestDoubt 68 = .ok (.ifCond .ge 6, 3) := by decide +kernel
theorem dX0_greatestDoubt_71 : decode cX0_greatestDoubt 71 = .ok (.bipush (-6), 2) := by decide +kernel
theorem dX0_greatestDoubt_73 : decode cX0_greatestDoubt 73 = .ok (.ireturn, 1) := by decide +kernel
theorem dX0_greatestDoubt_74 : decode cX0_greatestDoubt 74 = .ok (.iload_n 1, 1) := by decide +kernel
theorem dX0_greatestDoubt_75 : decode cX0_greatestDoubt 75 = .ok (.ifCond .ne 7, 3) := by decide +kernel
theorem dX0_greatestDoubt_78 : decode cX0_greatestDoubt 78 = .ok (.iload_n 2, 1) := by decide +kernel
theorem dX0_greatestDoubt_79 : decode cX0_greatestDoubt 79 = .ok (.goto 12, 3) := by decide +kernel
theorem dX0_greatestDoubt_82 : decode cX0_greatestDoubt 82 = .ok (.aload_n 0, 1) := by decide +kernel
theorem dX0_greatestDoubt_83 : decode cX0_greatestDoubt 83 = .ok (.getfield 17, 3) := by decide +kernel
theorem dX0_greatestDoubt_86 : decode cX0_greatestDoubt 86 = .ok (.iload_n 2, 1) := by decide +kernel
theorem dX0_greatestDoubt_87 : decode cX0_greatestDoubt 87 = .ok (.aaload, 1) := by decide +kernel
theorem dX0_greatestDoubt_88 : decode cX0_greatestDoubt 88 = .ok (.invokevirtual 105, 3) := by decide +kernel
theorem dX0_greatestDoubt_91 : decode cX0_greatestDoubt 91 = .ok (.ireturn, 1) := by decide +kernel
theorem dX0_firstPossible_0 : decode cX0_firstPossible 0 = .ok (.aload_n 0, 1) := by decide +kernel
theorem dX0_firstPossible_1 : decode cX0_firstPossible 1 = .ok (.iload_n 1, 1) := by decide +kernel
theorem dX0_firstPossible_2 : decode cX0_firstPossible 2 = .ok (.invokevirtual 69, 3) := by decide +kernel
theorem dX0_firstPossible_5 : decode cX0_firstPossible 5 = .ok (.ifCond .ne 5, 3) := by decide +kernel
theorem dX0_firstPossible_8 : decode cX0_firstPossible 8 = .ok (.iconst (-1), 1) := by decide +kernel
theorem dX0_firstPossible_9 : decode cX0_firstPossible 9 = .ok (.ireturn, 1) := by decide +kernel
theorem dX0_firstPossible_10 : decode cX0_firstPossible 10 = .ok (.iconst 0, 1) := by decide +kernel
theorem dX0_firstPossible_11 : decode cX0_firstPossible 11 = .ok (.istore_n 2, 1) := by decide +kernel
theorem dX0_firstPossible_12 : decode cX0_firstPossible 12 = .ok (.iload_n 2, 1) := by decide +kernel
theorem dX0_firstPossible_13 : decode cX0_firstPossible 13 = .ok (.iconst 5, 1) := by decide +kernel
theorem dX0_firstPossible_14 : decode cX0_firstPossible 14 = .ok (.if_icmp .ge 38, 3) := by decide +kernel
theorem dX0_firstPossible_17 : decode cX0_firstPossible 17 = .ok (.iconst 0, 1) := by decide +kernel
theorem dX0_firstPossible_18 : decode cX0_firstPossible 18 = .ok (.istore_n 3, 1) := by decide +kernel
theorem dX0_firstPossible_19 : decode cX0_firstPossible 19 = .ok (.iload_n 3, 1) := by decide +kernel
theorem dX0_firstPossible_20 : decode cX0_firstPossible 20 = .ok (.iconst 3, 1) := by decide +kernel
theorem dX0_firstPossible_21 : decode cX0_firstPossible 21 = .ok (.if_icmp .ge 25, 3) := by decide +kernel
theorem dX0_firstPossible_24 : decode cX0_firstPossible 24 = .ok (.aload_n 0, 1) := by decide +kernel
theorem dX0_firstPossible_25 : decode cX0_firstPossible 25 = .ok (.iload_n 1, 1) := by decide +kernel
theorem dX0_firstPossible_26 : decode cX0_firstPossible 26 = .ok (.iload_n 2, 1) := by decide +kernel
theorem dX0_firstPossible_27 : decode cX0_firstPossible 27 = .ok (.iload_n 3, 1) := by decide +kernel
theorem dX0_firstPossible_28 : decode cX0_firstPossible 28 = .ok (.invokevirtual 76, 3) := by decide +kernel
theorem dX0_firstPossible_31 : decode cX0_firstPossible 31 = .ok (.ifCond .ne 9, 3) := by decide +kernel
theorem dX0_firstPossible_34 : decode cX0_firstPossible 34 = .ok (.iconst 3, 1) := by decide +kernel
theorem dX0_firstPossible_35 : decode cX0_firstPossible 35 = .ok (.iload_n 2, 1) := by decide +kernel
theorem dX0_firstPossible_36 : decode cX0_firstPossible 36 = .ok (.imul, 1) := by decide +kernel
theorem dX0_firstPossible_37 : decode cX0_firstPossible 37 = .ok (.iload_n 3, 1) := by decide +kernel
theorem dX0_firstPossible_38 : decode cX0_firstPossible 38 = .ok (.iadd, 1) := by decide +kernel
theorem dX0_firstPossible_39 : decode cX0_firstPossible 39 = .ok (.ireturn, 1) := by decide +kernel
theorem dX0_firstPossible_40 : decode cX0_firstPossible 40 = .ok (.iinc 3 1, 3) := by decide +kernel
theorem dX0_firstPossible_43 : decode cX0_firstPossible 43 = .ok (.goto (-24), 3) := by decide +kernel
theorem dX0_firstPossible_46 : decode cX0_firstPossible 46 = .ok (.iinc 2 1, 3) := by decide +kernel
theorem dX0_firstPossible_49 : decode cX0_firstPossible 49 = .ok (.goto (-37), 3) := by decide +kernel
theorem dX0_firstPossible_52 : decode cX0_firstPossible 52 = .ok (.bipush (-6), 2) := by decide +kernel
theorem dX0_firstPossible_54 : decode cX0_firstPossible 54 = .ok (.ireturn, 1) := by decide +kernel
theorem dX0_mostThrown_0 : decode cX0_mostThrown 0 = .ok (.bipush (-6), 2) := by decide +kernel
theorem dX0_mostThrown_2 : decode cX0_mostThrown 2 = .ok (.istore_n 1, 1) := by decide +kernel
theorem dX0_mostThrown_3 : decode cX0_mostThrown 3 = .ok (.iconst 0, 1) := by decide +kernel
theorem dX0_mostThrown_4 : decode cX0_mostThrown 4 = .ok (.istore_n 2, 1) := by decide +kernel
theorem dX0_mostThrown_5 : decode cX0_mostThrown 5 = .ok (.iload_n 2, 1) := by decide +kernel
theorem dX0_mostThrown_6 : decode cX0_mostThrown 6 = .ok (.iconst 3, 1) := by decide +kernel
theorem dX0_mostThrown_7 : decode cX0_mostThrown 7 = .ok (.if_icmp .ge 48, 3) := by decide +kernel
theorem dX0_mostThrown_10 : decode cX0_mostThrown 10 = .ok (.aload_n 0, 1) := by decide +kernel
theorem dX0_mostThrown_11 : decode cX0_mostThrown 11 = .ok (.getfield 23, 3) := by decide +kernel
theorem dX0_mostThrown_14 : decode cX0_mostThrown 14 = .ok (.iload_n 2, 1) := by decide +kernel
theorem dX0_mostThrown_15 : decode cX0_mostThrown 15 = .ok (.aaload, 1) := by decide +kernel
theorem dX0_mostThrown_16 : decode cX0_mostThrown 16 = .ok (.getfield 166, 3) := by decide +kernel
theorem dX0_mostThrown_19 : decode cX0_mostThrown 19 = .ok (.ifCond .le 30, 3) := by decide +kernel
theorem dX0_mostThrown_22 : decode cX0_mostThrown 22 = .ok (.iload_n 1, 1) := by decide +kernel
theorem dX0_mostThrown_23 : decode cX0_mostThrown 23 = .ok (.ifCond .lt 24, 3) := by decide +kernel
theorem dX0_mostThrown_26 : decode cX0_mostThrown 26 = .ok (.aload_n 0, 1) := by decide +kernel
theorem dX0_mostThrown_27 : decode cX0_mostThrown 27 = .ok (.getfield 23, 3) := by decide +kernel
theorem dX0_mostThrown_30 : decode cX0_mostThrown 30 = .ok (.iload_n 2, 1) := by decide +kernel
theorem dX0_mostThrown_31 : decode cX0_mostThrown 31 = .ok (.aaload, 1) := by decide +kernel
theorem dX0_mostThrown_32 : decode cX0_mostThrown 32 = .ok (.invokevirtual 191, 3) := by decide +kernel
theorem dX0_mostThrown_35 : decode cX0_mostThrown 35 = .ok (.aload_n 0, 1) := by decide +kernel
theorem dX0_mostThrown_36 : decode cX0_mostThrown 36 = .ok (.getfield 23, 3) := by decide +kernel
theorem dX0_mostThrown_39 : decode cX0_mostThrown 39 = .ok (.iload_n 1, 1) := by decide +kernel
theorem dX0_mostThrown_40 : decode cX0_mostThrown 40 = .ok (.aaload, 1) := by decide +kernel
theorem dX0_mostThrown_41 : decode cX0_mostThrown 41 = .ok (.invokevirtual 191, 3) := by decide +kernel
theorem dX0_mostThrown_44 : decode cX0_mostThrown 44 = .ok (.if_icmp .le 5, 3) := by decide +kernel
theorem dX0_mostThrown_47 : decode cX0_mostThrown 47 = .ok (.iload_n 2, 1) := by decide +kernel
theorem dX0_mostThrown_48 : decode cX0_mostThrown 48 = .ok (.istore_n 1, 1) := by decide +kernel
theorem dX0_mostThrown_49 : decode cX0_mostThrown 49 = .ok (.iinc 2 1, 3) := by decide +kernel
theorem dX0_mostThrown_52 : decode cX0_mostThrown 52 = .ok (.goto (-47), 3) := by decide +kernel
theorem dX0_mostThrown_55 : decode cX0_mostThrown 55 = .ok (.iload_n 1, 1) := by decide +kernel
theorem dX0_mostThrown_56 : decode cX0_mostThrown 56 = .ok (.ireturn, 1) := by decide +kernel
theorem dX1_init_0 : decode cX1_init 0 = .ok (.aload_n 0, 1) := by decide +kernel
theorem dX1_init_1 : decode cX1_init 1 = .ok (.invokespecial 3, 3) := by decide +kernel
theorem dX1_init_4 : decode cX1_init 4 = .ok (.aload_n 0, 1) := by decide +kernel
theorem dX1_init_5 : decode cX1_init 5 = .ok (.iconst 5, 1) := by decide +kernel
theorem dX1_init_6 : decode cX1_init 6 = .ok (.newarray .int, 2) := by decide +kernel
theorem dX1_init_8 : decode cX1_init 8 = .ok (.dup, 1) := by decide +kernel
theorem dX1_init_9 : decode cX1_init 9 = .ok (.iconst 0, 1) := by decide +kernel
theorem dX1_init_10 : decode cX1_init 10 = .ok (.iconst 1, 1) := by decide +kernel
theorem dX1_init_11 : decode cX1_init 11 = .ok (.iastore, 1) := by decide +kernel
theorem dX1_init_12 : decode cX1_init 12 = .ok (.dup, 1) := by decide +kernel
theorem dX1_init_13 : decode cX1_init 13 = .ok (.iconst 1, 1) := by decide +kernel
theorem dX1_init_14 : decode cX1_init 14 = .ok (.iconst 1, 1) := by decide +kernel
theorem dX1_init_15 : decode cX1_init 15 = .ok (.iastore, 1) := by decide +kernel
theorem dX1_init_16 : decode cX1_init 16 = .ok (.dup, 1) := by decide +kernel
theorem dX1_init_17 : decode cX1_init 17 = .ok (.iconst 2, 1) := by decide +kernel
theorem dX1_init_18 : decode cX1_init 18 = .ok (.iconst 1, 1) := by decide +kernel
theorem dX1_init_19 : decode cX1_init 19 = .ok (.iastore, 1) := by decide +kernel
theorem dX1_init_20 : decode cX1_init 20 = .ok (.dup, 1) := by decide +kernel
theorem dX1_init_21 : decode cX1_init 21 = .ok (.iconst 3, 1) := by decide +kernel
theorem dX1_init_22 : decode cX1_init 22 = .ok (.iconst 1, 1) := by decide +kernel
theorem dX1_init_23 : decode cX1_init 23 = .ok (.iastore, 1) := by decide +kernel
theorem dX1_init_24 : decode cX1_init 24 = .ok (.dup, 1) := by decide +kernel
theorem dX1_init_25 : decode cX1_init 25 = .ok (.iconst 4, 1) := by decide +kernel
theorem dX1_init_26 : decode cX1_init 26 = .ok (.iconst 1, 1) := by decide +kernel
theorem dX1_init_27 : decode cX1_init 27 = .ok (.iastore, 1) := by decide +kernel
theorem dX1_init_28 : decode cX1_init 28 = .ok (.putfield 9, 3) := by decide +kernel
theorem dX1_init_31 : decode cX1_init 31 = .ok (.return_, 1) := by decide +kernel
theorem dX1_become_0 : decode cX1_become 0 = .ok (.aload_n 1, 1) := by decide +kernel
theorem dX1_become_1 : decode cX1_become 1 = .ok (.getfield 9, 3) := by decide +kernel
theorem dX1_become_4 : decode cX1_become 4 = .ok (.iconst 0, 1) := by decide +kernel
theorem dX1_become_5 : decode cX1_become 5 = .ok (.aload_n 0, 1) := by decide +kernel
theorem dX1_become_6 : decode cX1_become 6 = .ok (.getfield 9, 3) := by decide +kernel
theorem dX1_become_9 : decode cX1_become 9 = .ok (.iconst 0, 1) := by decide +kernel
theorem dX1_become_10 : decode cX1_become 10 = .ok (.iconst 5, 1) := by decide +kernel
theorem dX1_become_11 : decode cX1_become 11 = .ok (.invokestatic 15, 3) := by decide +kernel
theorem dX1_become_14 : decode cX1_become 14 = .ok (.aload_n 0, 1) := by decide +kernel
theorem dX1_become_15 : decode cX1_become 15 = .ok (.aload_n 1, 1) := by decide +kernel
theorem dX1_become_16 : decode cX1_become 16 = .ok (.getfield 21, 3) := by decide +kernel
theorem dX1_become_19 : decode cX1_become 19 = .ok (.putfield 21, 3) := by decide +kernel
theorem dX1_become_22 : decode cX1_become 22 = .ok (.aload_n 0, 1) := by decide +kernel
theorem dX1_become_23 : decode cX1_become 23 = .ok (.aload_n 1, 1) := by decide +kernel
theorem dX1_become_24 : decode cX1_become 24 = .ok (.getfield 25, 3) := by decide +kernel
theorem dX1_become_27 : decode cX1_become 27 = .ok (.putfield 25, 3) := by decide +kernel
theorem dX1_become_30 : decode cX1_become 30 = .ok (.aload_n 0, 1) := by decide +kernel
theorem dX1_become_31 : decode cX1_become 31 = .ok (.aload_n 1, 1) := by decide +kernel
theorem dX1_become_32 : decode cX1_become 32 = .ok (.getfield 28, 3) := by decide +kernel
theorem dX1_become_35 : decode cX1_become 35 = .ok (.putfield 28, 3) := by decide +kernel
theorem dX1_become_38 : decode cX1_become 38 = .ok (.aload_n 0, 1) := by decide +kernel
theorem dX1_become_39 : decode cX1_become 39 = .ok (.aload_n 1, 1) := by decide +kernel
theorem dX1_become_40 : decode cX1_become 40 = .ok (.getfield 31, 3) := by decide +kernel
theorem dX1_become_43 : decode cX1_become 43 = .ok (.putfield 31, 3) := by decide +kernel
theorem dX1_become_46 : decode cX1_become 46 = .ok (.aload_n 0, 1) := by decide +kernel
theorem dX1_become_47 : decode cX1_become 47 = .ok (.aload_n 1, 1) := by decide +kernel
theorem dX1_become_48 : decode cX1_become 48 = .ok (.getfield 34, 3) := by decide +kernel
theorem dX1_become_51 : decode cX1_become 51 = .ok (.putfield 34, 3) := by decide +kernel
theorem dX1_become_54 : decode cX1_become 54 = .ok (.return_, 1) := by decide +kernel
theorem dX1_left_0 : decode cX1_left 0 = .ok (.aload_n 0, 1) := by decide +kernel
theorem dX1_left_1 : decode cX1_left 1 = .ok (.getfield 21, 3) := by decide +kernel
theorem dX1_left_4 : decode cX1_left 4 = .ok (.aload_n 0, 1) := by decide +kernel
theorem dX1_left_5 : decode cX1_left 5 = .ok (.getfield 25, 3) := by decide +kernel
theorem dX1_left_8 : decode cX1_left 8 = .ok (.iadd, 1) := by decide +kernel
theorem dX1_left_9 : decode cX1_left 9 = .ok (.ireturn, 1) := by decide +kernel
theorem dX1_fill_0 : decode cX1_fill 0 = .ok (.aload_n 0, 1) := by decide +kernel
theorem dX1_fill_1 : decode cX1_fill 1 = .ok (.iload_n 1, 1) := by decide +kernel
theorem dX1_fill_2 : decode cX1_fill 2 = .ok (.putfield 25, 3) := by decide +kernel
theorem dX1_fill_5 : decode cX1_fill 5 = .ok (.aload_n 0, 1) := by decide +kernel
theorem dX1_fill_6 : decode cX1_fill 6 = .ok (.dup, 1) := by decide +kernel
theorem dX1_fill_7 : decode cX1_fill 7 = .ok (.getfield 28, 3) := by decide +kernel
theorem dX1_fill_10 : decode cX1_fill 10 = .ok (.iload_n 1, 1) := by decide +kernel
theorem dX1_fill_11 : decode cX1_fill 11 = .ok (.iadd, 1) := by decide +kernel
theorem dX1_fill_12 : decode cX1_fill 12 = .ok (.putfield 28, 3) := by decide +kernel
theorem dX1_fill_15 : decode cX1_fill 15 = .ok (.return_, 1) := by decide +kernel
theorem dX1_give_0 : decode cX1_give 0 = .ok (.aload_n 0, 1) := by decide +kernel
theorem dX1_give_1 : decode cX1_give 1 = .ok (.getfield 21, 3) := by decide +kernel
theorem dX1_give_4 : decode cX1_give 4 = .ok (.ifCond .le 16, 3) := by decide +kernel
theorem dX1_give_7 : decode cX1_give 7 = .ok (.aload_n 0, 1) := by decide +kernel
theorem dX1_give_8 : decode cX1_give 8 = .ok (.dup, 1) := by decide +kernel
theorem dX1_give_9 : decode cX1_give 9 = .ok (.getfield 21, 3) := by decide +kernel
theorem dX1_give_12 : decode cX1_give 12 = .ok (.iconst 1, 1) := by decide +kernel
theorem dX1_give_13 : decode cX1_give 13 = .ok (.isub, 1) := by decide +kernel
theorem dX1_give_14 : decode cX1_give 14 = .ok (.putfield 21, 3) := by decide +kernel
theorem dX1_give_17 : decode cX1_give 17 = .ok (.goto 13, 3) := by decide +kernel
theorem dX1_give_20 : decode cX1_give 20 = .ok (.aload_n 0, 1) := by decide +kernel
theorem dX1_give_21 : decode cX1_give 21 = .ok (.dup, 1) := by decide +kernel
theorem dX1_give_22 : decode cX1_give 22 = .ok (.getfield 25, 3) := by decide +kernel
theorem dX1_give_25 : decode cX1_give 25 = .ok (.iconst 1, 1) := by decide +kernel
theorem dX1_give_26 : decode cX1_give 26 = .ok (.isub, 1) := by decide +kernel
theorem dX1_give_27 : decode cX1_give 27 = .ok (.putfield 25, 3) := by decide +kernel
theorem dX1_give_30 : decode cX1_give 30 = .ok (.aload_n 0, 1) := by decide +kernel
theorem dX1_give_31 : decode cX1_give 31 = .ok (.dup, 1) := by decide +kernel
theorem dX1_give_32 : decode cX1_give 32 = .ok (.getfield 31, 3) := by decide +kernel
theorem dX1_give_35 : decode cX1_give 35 = .ok (.iconst 1, 1) := by decide +kernel
theorem dX1_give_36 : decode cX1_give 36 = .ok (.iadd, 1) := by decide +kernel
theorem dX1_give_37 : decode cX1_give 37 = .ok (.putfield 31, 3) := by decide +kernel
theorem dX1_give_40 : decode cX1_give 40 = .ok (.return_, 1) := by decide +kernel
theorem dX1_clearUp_0 : decode cX1_clearUp 0 = .ok (.aload_n 0, 1) := by decide +kernel
theorem dX1_clearUp_1 : decode cX1_clearUp 1 = .ok (.getfield 25, 3) := by decide +kernel
theorem dX1_clearUp_4 : decode cX1_clearUp 4 = .ok (.iload_n 1, 1) := by decide +kernel
theorem dX1_clearUp_5 : decode cX1_clearUp 5 = .ok (.invokestatic 37, 3) := by decide +kernel
theorem dX1_clearUp_8 : decode cX1_clearUp 8 = .ok (.istore_n 2, 1) := by decide +kernel
theorem dX1_clearUp_9 : decode cX1_clearUp 9 = .ok (.aload_n 0, 1) := by decide +kernel
theorem dX1_clearUp_10 : decode cX1_clearUp 10 = .ok (.dup, 1) := by decide +kernel
theorem dX1_clearUp_11 : decode cX1_clearUp 11 = .ok (.getfield 34, 3) := by decide +kernel
theorem dX1_clearUp_14 : decode cX1_clearUp 14 = .ok (.aload_n 0, 1) := by decide +kernel
theorem dX1_clearUp_15 : decode cX1_clearUp 15 = .ok (.getfield 21, 3) := by decide +kernel
theorem dX1_clearUp_18 : decode cX1_clearUp 18 = .ok (.aload_n 0, 1) := by decide +kernel
theorem dX1_clearUp_19 : decode cX1_clearUp 19 = .ok (.getfield 25, 3) := by decide +kernel
theorem dX1_clearUp_22 : decode cX1_clearUp 22 = .ok (.iadd, 1) := by decide +kernel
theorem dX1_clearUp_23 : decode cX1_clearUp 23 = .ok (.iload_n 2, 1) := by decide +kernel
theorem dX1_clearUp_24 : decode cX1_clearUp 24 = .ok (.isub, 1) := by decide +kernel
theorem dX1_clearUp_25 : decode cX1_clearUp 25 = .ok (.iadd, 1) := by decide +kernel
theorem dX1_clearUp_26 : decode cX1_clearUp 26 = .ok (.putfield 34, 3) := by decide +kernel
theorem dX1_clearUp_29 : decode cX1_clearUp 29 = .ok (.aload_n 0, 1) := by decide +kernel
theorem dX1_clearUp_30 : decode cX1_clearUp 30 = .ok (.iload_n 2, 1) := by decide +kernel
theorem dX1_clearUp_31 : decode cX1_clearUp 31 = .ok (.putfield 21, 3) := by decide +kernel
theorem dX1_clearUp_34 : decode cX1_clearUp 34 = .ok (.aload_n 0, 1) := by decide +kernel
theorem dX1_clearUp_35 : decode cX1_clearUp 35 = .ok (.iconst 0, 1) := by decide +kernel
theorem dX1_clearUp_36 : decode cX1_clearUp 36 = .ok (.putfield 25, 3) := by decide +kernel
theorem dX1_clearUp_39 : decode cX1_clearUp 39 = .ok (.return_, 1) := by decide +kernel
theorem dX1_waste_0 : decode cX1_waste 0 = .ok (.aload_n 0, 1) := by decide +kernel
theorem dX1_waste_1 : decode cX1_waste 1 = .ok (.getfield 28, 3) := by decide +kernel
theorem dX1_waste_4 : decode cX1_waste 4 = .ok (.ifCond .ne 7, 3) := by decide +kernel
theorem dX1_waste_7 : decode cX1_waste 7 = .ok (.iconst 0, 1) := by decide +kernel
theorem dX1_waste_8 : decode cX1_waste 8 = .ok (.goto 15, 3) := by decide +kernel
theorem dX1_waste_11 : decode cX1_waste 11 = .ok (.bipush 100, 2) := by decide +kernel
theorem dX1_waste_13 : decode cX1_waste 13 = .ok (.aload_n 0, 1) := by decide +kernel
theorem dX1_waste_14 : decode cX1_waste 14 = .ok (.getfield 34, 3) := by decide +kernel
theorem dX1_waste_17 : decode cX1_waste 17 = .ok (.imul, 1) := by decide +kernel
theorem dX1_waste_18 : decode cX1_waste 18 = .ok (.aload_n 0, 1) := by decide +kernel
theorem dX1_waste_19 : decode cX1_waste 19 = .ok (.getfield 28, 3) := by decide +kernel
theorem dX1_waste_22 : decode cX1_waste 22 = .ok (.idiv, 1) := by decide +kernel
theorem dX1_waste_23 : decode cX1_waste 23 = .ok (.ireturn, 1) := by decide +kernel
theorem dX2_init_0 : decode cX2_init 0 = .ok (.aload_n 0, 1) := by decide +kernel
theorem dX2_init_1 : decode cX2_init 1 = .ok (.invokespecial 3, 3) := by decide +kernel
theorem dX2_init_4 : decode cX2_init 4 = .ok (.aload_n 0, 1) := by decide +kernel
theorem dX2_init_5 : decode cX2_init 5 = .ok (.bipush 7, 2) := by decide +kernel
theorem dX2_init_7 : decode cX2_init 7 = .ok (.anewarray 9, 3) := by decide +kernel
theorem dX2_init_10 : decode cX2_init 10 = .ok (.putfield 11, 3) := by decide +kernel
theorem dX2_init_13 : decode cX2_init 13 = .ok (.iconst 0, 1) := by decide +kernel
theorem dX2_init_14 : decode cX2_init 14 = .ok (.istore_n 1, 1) := by decide +kernel
theorem dX2_init_15 : decode cX2_init 15 = .ok (.iload_n 1, 1) := by decide +kernel
theorem dX2_init_16 : decode cX2_init 16 = .ok (.bipush 6, 2) := by decide +kernel
theorem dX2_init_18 : decode cX2_init 18 = .ok (.if_icmp .gt 22, 3) := by decide +kernel
theorem dX2_init_21 : decode cX2_init 21 = .ok (.aload_n 0, 1) := by decide +kernel
theorem dX2_init_22 : decode cX2_init 22 = .ok (.getfield 11, 3) := by decide +kernel
theorem dX2_init_25 : decode cX2_init 25 = .ok (.iload_n 1, 1) := by decide +kernel
theorem dX2_init_26 : decode cX2_init 26 = .ok (.new 9, 3) := by decide +kernel
theorem dX2_init_29 : decode cX2_init 29 = .ok (.dup, 1) := by decide +kernel
theorem dX2_init_30 : decode cX2_init 30 = .ok (.invokespecial 17, 3) := by decide +kernel
theorem dX2_init_33 : decode cX2_init 33 = .ok (.aastore, 1) := by decide +kernel
theorem dX2_init_34 : decode cX2_init 34 = .ok (.iinc 1 1, 3) := by decide +kernel
theorem dX2_init_37 : decode cX2_init 37 = .ok (.goto (-22), 3) := by decide +kernel
theorem dX2_init_40 : decode cX2_init 40 = .ok (.return_, 1) := by decide +kernel
theorem dX2_length_0 : decode cX2_length 0 = .ok (.aload_n 0, 1) := by decide +kernel
theorem dX2_length_1 : decode cX2_length 1 = .ok (.getfield 18, 3) := by decide +kernel
theorem dX2_length_4 : decode cX2_length 4 = .ok (.ireturn, 1) := by decide +kernel
theorem dX2_note_0 : decode cX2_note 0 = .ok (.aload_n 0, 1) := by decide +kernel
theorem dX2_note_1 : decode cX2_note 1 = .ok (.getfield 11, 3) := by decide +kernel
theorem dX2_note_4 : decode cX2_note 4 = .ok (.aload_n 0, 1) := by decide +kernel
theorem dX2_note_5 : decode cX2_note 5 = .ok (.getfield 22, 3) := by decide +kernel
theorem dX2_note_8 : decode cX2_note 8 = .ok (.aaload, 1) := by decide +kernel
theorem dX2_note_9 : decode cX2_note 9 = .ok (.aload_n 1, 1) := by decide +kernel
theorem dX2_note_10 : decode cX2_note 10 = .ok (.invokevirtual 25, 3) := by decide +kernel
theorem dX2_note_13 : decode cX2_note 13 = .ok (.return_, 1) := by decide +kernel
theorem dX2_keep_0 : decode cX2_keep 0 = .ok (.iload_n 1, 1) := by decide +kernel
theorem dX2_keep_1 : decode cX2_keep 1 = .ok (.ifCond .lt 41, 3) := by decide +kernel
theorem dX2_keep_4 : decode cX2_keep 4 = .ok (.aload_n 0, 1) := by decide +kernel
theorem dX2_keep_5 : decode cX2_keep 5 = .ok (.aload_n 0, 1) := by decide +kernel
theorem dX2_keep_6 : decode cX2_keep 6 = .ok (.getfield 22, 3) := by decide +kernel
theorem dX2_keep_9 : decode cX2_keep 9 = .ok (.bipush 6, 2) := by decide +kernel
theorem dX2_keep_11 : decode cX2_keep 11 = .ok (.if_icmp .ne 7, 3) := by decide +kernel
theorem dX2_keep_14 : decode cX2_keep 14 = .ok (.iconst 0, 1) := by decide +kernel
theorem dX2_keep_15 : decode cX2_keep 15 = .ok (.goto 9, 3) := by decide +kernel
theorem dX2_keep_18 : decode cX2_keep 18 = .ok (.aload_n 0, 1) := by decide +kernel
theorem dX2_keep_19 : decode cX2_keep 19 = .ok (.getfield 22, 3) := by decide +kernel
theorem dX2_keep_22 : decode cX2_keep 22 = .ok (.iconst 1, 1) := by decide +kernel
theorem dX2_keep_23 : decode cX2_keep 23 = .ok (.iadd, 1) := by decide +kernel
theorem dX2_keep_24 : decode cX2_keep 24 = .ok (.putfield 22, 3) := by decide +kernel
theorem dX2_keep_27 : decode cX2_keep 27 = .ok (.aload_n 0, 1) := by decide +kernel
theorem dX2_keep_28 : decode cX2_keep 28 = .ok (.bipush 6, 2) := by decide +kernel
theorem dX2_keep_30 : decode cX2_keep 30 = .ok (.aload_n 0, 1) := by decide +kernel
theorem dX2_keep_31 : decode cX2_keep 31 = .ok (.getfield 18, 3) := by decide +kernel
theorem dX2_keep_34 : decode cX2_keep 34 = .ok (.iconst 1, 1) := by decide +kernel
theorem dX2_keep_35 : decode cX2_keep 35 = .ok (.iadd, 1) := by decide +kernel
theorem dX2_keep_36 : decode cX2_keep 36 = .ok (.invokestatic 29, 3) := by decide +kernel
theorem dX2_keep_39 : decode cX2_keep 39 = .ok (.putfield 18, 3) := by decide +kernel
theorem dX2_keep_42 : decode cX2_keep 42 = .ok (.iload_n 1, 1) := by decide +kernel
theorem dX2_keep_43 : decode cX2_keep 43 = .ok (.ireturn, 1) := by decide +kernel
theorem dX2_takeBack_0 : decode cX2_takeBack 0 = .ok (.aload_n 0, 1) := by decide +kernel
theorem dX2_takeBack_1 : decode cX2_takeBack 1 = .ok (.getfield 18, 3) := by decide +kernel
theorem dX2_takeBack_4 : decode cX2_takeBack 4 = .ok (.ifCond .ne 6, 3) := by decide +kernel
theorem dX2_takeBack_7 : decode cX2_takeBack 7 = .ok (.bipush (-5), 2) := by decide +kernel
theorem dX2_takeBack_9 : decode cX2_takeBack 9 = .ok (.ireturn, 1) := by decide +kernel
theorem dX2_takeBack_10 : decode cX2_takeBack 10 = .ok (.aload_n 0, 1) := by decide +kernel
theorem dX2_takeBack_11 : decode cX2_takeBack 11 = .ok (.aload_n 0, 1) := by decide +kernel
theorem dX2_takeBack_12 : decode cX2_takeBack 12 = .ok (.getfield 22, 3) := by decide +kernel
theorem dX2_takeBack_15 : decode cX2_takeBack 15 = .ok (.ifCond .ne 8, 3) := by decide +kernel
theorem dX2_takeBack_18 : decode cX2_takeBack 18 = .ok (.bipush 6, 2) := by decide +kernel
theorem dX2_takeBack_20 : decode cX2_takeBack 20 = .ok (.goto 9, 3) := by decide +kernel
theorem dX2_takeBack_23 : decode cX2_takeBack 23 = .ok (.aload_n 0, 1) := by decide +kernel
theorem dX2_takeBack_24 : decode cX2_takeBack 24 = .ok (.getfield 22, 3) := by decide +kernel
theorem dX2_takeBack_27 : decode cX2_takeBack 27 = .ok (.iconst 1, 1) := by decide +kernel
theorem dX2_takeBack_28 : decode cX2_takeBack 28 = .ok (.isub, 1) := by decide +kernel
theorem dX2_takeBack_29 : decode cX2_takeBack 29 = .ok (.putfield 22, 3) := by decide +kernel
theorem dX2_takeBack_32 : decode cX2_takeBack 32 = .ok (.aload_n 0, 1) := by decide +kernel
theorem dX2_takeBack_33 : decode cX2_takeBack 33 = .ok (.dup, 1) := by decide +kernel
theorem dX2_takeBack_34 : decode cX2_takeBack 34 = .ok (.getfield 18, 3) := by decide +kernel
theorem dX2_takeBack_37 : decode cX2_takeBack 37 = .ok (.iconst 1, 1) := by decide +kernel
theorem dX2_takeBack_38 : decode cX2_takeBack 38 = .ok (.isub, 1) := by decide +kernel
theorem dX2_takeBack_39 : decode cX2_takeBack 39 = .ok (.putfield 18, 3) := by decide +kernel
theorem dX2_takeBack_42 : decode cX2_takeBack 42 = .ok (.aload_n 1, 1) := by decide +kernel
theorem dX2_takeBack_43 : decode cX2_takeBack 43 = .ok (.aload_n 0, 1) := by decide +kernel
theorem dX2_takeBack_44 : decode cX2_takeBack 44 = .ok (.getfield 11, 3) := by decide +kernel
theorem dX2_takeBack_47 : decode cX2_takeBack 47 = .ok (.aload_n 0, 1) := by decide +kernel
theorem dX2_takeBack_48 : decode cX2_takeBack 48 = .ok (.getfield 22, 3) := by decide +kernel
theorem dX2_takeBack_51 : decode cX2_takeBack 51 = .ok (.aaload, 1) := by decide +kernel
theorem dX2_takeBack_52 : decode cX2_takeBack 52 = .ok (.invokevirtual 25, 3) := by decide +kernel
theorem dX2_takeBack_55 : decode cX2_takeBack 55 = .ok (.aload_n 0, 1) := by decide +kernel
theorem dX2_takeBack_56 : decode cX2_takeBack 56 = .ok (.getfield 18, 3) := by decide +kernel
theorem dX2_takeBack_59 : decode cX2_takeBack 59 = .ok (.ireturn, 1) := by decide +kernel
theorem dX3_init_0 : decode cX3_init 0 = .ok (.aload_n 0, 1) := by decide +kernel
theorem dX3_init_1 : decode cX3_init 1 = .ok (.invokespecial 3, 3) := by decide +kernel
theorem dX3_init_4 : decode cX3_init 4 = .ok (.aload_n 0, 1) := by decide +kernel
theorem dX3_init_5 : decode cX3_init 5 = .ok (.aload_n 1, 1) := by decide +kernel
theorem dX3_init_6 : decode cX3_init 6 = .ok (.putfield 9, 3) := by decide +kernel
theorem dX3_init_9 : decode cX3_init 9 = .ok (.return_, 1) := by decide +kernel
theorem dX3_start_0 : decode cX3_start 0 = .ok (.aload_n 0, 1) := by decide +kernel
theorem dX3_start_1 : decode cX3_start 1 = .ok (.iconst 0, 1) := by decide +kernel
theorem dX3_start_2 : decode cX3_start 2 = .ok (.putfield 15, 3) := by decide +kernel
theorem dX3_start_5 : decode cX3_start 5 = .ok (.return_, 1) := by decide +kernel
theorem dX3_firstFault_0 : decode cX3_firstFault 0 = .ok (.aload_n 0, 1) := by decide +kernel
theorem dX3_firstFault_1 : decode cX3_firstFault 1 = .ok (.invokevirtual 19, 3) := by decide +kernel
theorem dX3_firstFault_4 : decode cX3_firstFault 4 = .ok (.iconst 0, 1) := by decide +kernel
theorem dX3_firstFault_5 : decode cX3_firstFault 5 = .ok (.istore_n 1, 1) := by decide +kernel
theorem dX3_firstFault_6 : decode cX3_firstFault 6 = .ok (.iload_n 1, 1) := by decide +kernel
theorem dX3_firstFault_7 : decode cX3_firstFault 7 = .ok (.bipush 80, 2) := by decide +kernel
theorem dX3_firstFault_9 : decode cX3_firstFault 9 = .ok (.if_icmp .ge 52, 3) := by decide +kernel
theorem dX3_firstFault_12 : decode cX3_firstFault 12 = .ok (.aload_n 0, 1) := by decide +kernel
theorem dX3_firstFault_13 : decode cX3_firstFault 13 = .ok (.invokevirtual 22, 3) := by decide +kernel
theorem dX3_firstFault_16 : decode cX3_firstFault 16 = .ok (.ifCond .ne 8, 3) := by decide +kernel
theorem dX3_firstFault_19 : decode cX3_firstFault 19 = .ok (.aload_n 0, 1) := by decide +kernel
theorem dX3_firstFault_20 : decode cX3_firstFault 20 = .ok (.getfield 15, 3) := by decide +kernel
theorem dX3_firstFault_23 : decode cX3_firstFault 23 = .ok (.ireturn, 1) := by decide +kernel
theorem dX3_firstFault_24 : decode cX3_firstFault 24 = .ok (.aload_n 0, 1) := by decide +kernel
theorem dX3_firstFault_25 : decode cX3_firstFault 25 = .ok (.getfield 15, 3) := by decide +kernel
theorem dX3_firstFault_28 : decode cX3_firstFault 28 = .ok (.aload_n 0, 1) := by decide +kernel
theorem dX3_firstFault_29 : decode cX3_firstFault 29 = .ok (.getfield 9, 3) := by decide +kernel
theorem dX3_firstFault_32 : decode cX3_firstFault 32 = .ok (.invokevirtual 26, 3) := by decide +kernel
theorem dX3_firstFault_35 : decode cX3_firstFault 35 = .ok (.if_icmp .lt 6, 3) := by decide +kernel
theorem dX3_firstFault_38 : decode cX3_firstFault 38 = .ok (.bipush (-6), 2) := by decide +kernel
theorem dX3_firstFault_40 : decode cX3_firstFault 40 = .ok (.ireturn, 1) := by decide +kernel
theorem dX3_firstFault_41 : decode cX3_firstFault 41 = .ok (.aload_n 0, 1) := by decide +kernel
theorem dX3_firstFault_42 : decode cX3_firstFault 42 = .ok (.bipush 59, 2) := by decide +kernel
theorem dX3_firstFault_44 : decode cX3_firstFault 44 = .ok (.invokevirtual 32, 3) := by decide +kernel
theorem dX3_firstFault_47 : decode cX3_firstFault 47 = .ok (.ifCond .ne 8, 3) := by decide +kernel
theorem dX3_firstFault_50 : decode cX3_firstFault 50 = .ok (.aload_n 0, 1) := by decide +kernel
theorem dX3_firstFault_51 : decode cX3_firstFault 51 = .ok (.getfield 15, 3) := by decide +kernel
theorem dX3_firstFault_54 : decode cX3_firstFault 54 = .ok (.ireturn, 1) := by decide +kernel
theorem dX3_firstFault_55 : decode cX3_firstFault 55 = .ok (.iinc 1 1, 3) := by decide +kernel
theorem dX3_firstFault_58 : decode cX3_firstFault 58 = .ok (.goto (-52), 3) := by decide +kernel
theorem dX3_firstFault_61 : decode cX3_firstFault 61 = .ok (.aload_n 0, 1) := by decide +kernel
theorem dX3_firstFault_62 : decode cX3_firstFault 62 = .ok (.getfield 15, 3) := by decide +kernel
theorem dX3_firstFault_65 : decode cX3_firstFault 65 = .ok (.ireturn, 1) := by decide +kernel
theorem dX3_take_0 : decode cX3_take 0 = .ok (.aload_n 0, 1) := by decide +kernel
theorem dX3_take_1 : decode cX3_take 1 = .ok (.getfield 9, 3) := by decide +kernel
theorem dX3_take_4 : decode cX3_take 4 = .ok (.aload_n 0, 1) := by decide +kernel
theorem dX3_take_5 : decode cX3_take 5 = .ok (.getfield 15, 3) := by decide +kernel
theorem dX3_take_8 : decode cX3_take 8 = .ok (.invokevirtual 36, 3) := by decide +kernel
theorem dX3_take_11 : decode cX3_take 11 = .ok (.iload_n 1, 1) := by decide +kernel
theorem dX3_take_12 : decode cX3_take 12 = .ok (.if_icmp .eq 5, 3) := by decide +kernel
theorem dX3_take_15 : decode cX3_take 15 = .ok (.iconst 0, 1) := by decide +kernel
theorem dX3_take_16 : decode cX3_take 16 = .ok (.ireturn, 1) := by decide +kernel
theorem dX3_take_17 : decode cX3_take 17 = .ok (.aload_n 0, 1) := by decide +kernel
theorem dX3_take_18 : decode cX3_take 18 = .ok (.dup, 1) := by decide +kernel
theorem dX3_take_19 : decode cX3_take 19 = .ok (.getfield 15, 3) := by decide +kernel
theorem dX3_take_22 : decode cX3_take 22 = .ok (.iconst 1, 1) := by decide +kernel
theorem dX3_take_23 : decode cX3_take 23 = .ok (.iadd, 1) := by decide +kernel
theorem dX3_take_24 : decode cX3_take 24 = .ok (.putfield 15, 3) := by decide +kernel
theorem dX3_take_27 : decode cX3_take 27 = .ok (.iconst 1, 1) := by decide +kernel
theorem dX3_take_28 : decode cX3_take 28 = .ok (.ireturn, 1) := by decide +kernel
theorem dX3_readOrder_0 : decode cX3_readOrder 0 = .ok (.aload_n 0, 1) := by decide +kernel
theorem dX3_readOrder_1 : decode cX3_readOrder 1 = .ok (.aload_n 0, 1) := by decide +kernel
theorem dX3_readOrder_2 : decode cX3_readOrder 2 = .ok (.getfield 9, 3) := by decide +kernel
theorem dX3_readOrder_5 : decode cX3_readOrder 5 = .ok (.aload_n 0, 1) := by decide +kernel
theorem dX3_readOrder_6 : decode cX3_readOrder 6 = .ok (.getfield 15, 3) := by decide +kernel
theorem dX3_readOrder_9 : decode cX3_readOrder 9 = .ok (.invokevirtual 36, 3) := by decide +kernel
theorem dX3_readOrder_12 : decode cX3_readOrder 12 = .ok (.putfield 40, 3) := by decide +kernel
theorem dX3_readOrder_15 : decode cX3_readOrder 15 = .ok (.aload_n 0, 1) := by decide +kernel
theorem dX3_readOrder_16 : decode cX3_readOrder 16 = .ok (.bipush (-6), 2) := by decide +kernel
theorem dX3_readOrder_18 : decode cX3_readOrder 18 = .ok (.putfield 43, 3) := by decide +kernel
theorem dX3_readOrder_21 : decode cX3_readOrder 21 = .ok (.aload_n 0, 1) := by decide +kernel
theorem dX3_readOrder_22 : decode cX3_readOrder 22 = .ok (.iconst 0, 1) := by decide +kernel
theorem dX3_readOrder_23 : decode cX3_readOrder 23 = .ok (.putfield 46, 3) := by decide +kernel
theorem dX3_readOrder_26 : decode cX3_readOrder 26 = .ok (.aload_n 0, 1) := by decide +kernel
theorem dX3_readOrder_27 : decode cX3_readOrder 27 = .ok (.getfield 40, 3) := by decide +kernel
theorem dX3_readOrder_30 : decode cX3_readOrder 30 = .ok (.lookupswitch 183 #[(99, 146), (107, 58), (111, 109), (112, 58), (118, 70), (120, 58)], 58) := by decide +kernel
theorem dX3_readOrder_88 : decode cX3_readOrder 88 = .ok (.aload_n 0, 1) := by decide +kernel
theorem dX3_readOrder_89 : decode cX3_readOrder 89 = .ok (.dup, 1) := by decide +kernel
theorem dX3_readOrder_90 : decode cX3_readOrder 90 = .ok (.getfield 15, 3) := by decide +kernel
theorem dX3_readOrder_93 : decode cX3_readOrder 93 = .ok (.iconst 1, 1) := by decide +kernel
theorem dX3_readOrder_94 : decode cX3_readOrder 94 = .ok (.iadd, 1) := by decide +kernel
theorem dX3_readOrder_95 : decode cX3_readOrder 95 = .ok (.putfield 15, 3) := by decide +kernel
theorem dX3_readOrder_98 : decode cX3_readOrder 98 = .ok (.iconst 1, 1) := by decide +kernel
theorem dX3_readOrder_99 : decode cX3_readOrder 99 = .ok (.ireturn, 1) := by decide +kernel
theorem dX3_readOrder_100 : decode cX3_readOrder 100 = .ok (.aload_n 0, 1) := by decide +kernel
theorem dX3_readOrder_101 : decode cX3_readOrder 101 = .ok (.dup, 1) := by decide +kernel
theorem dX3_readOrder_102 : decode cX3_readOrder 102 = .ok (.getfield 15, 3) := by decide +kernel
theorem dX3_readOrder_105 : decode cX3_readOrder 105 = .ok (.iconst 1, 1) := by decide +kernel
theorem dX3_readOrder_106 : decode cX3_readOrder 106 = .ok (.iadd, 1) := by decide +kernel
theorem dX3_readOrder_107 : decode cX3_readOrder 107 = .ok (.putfield 15, 3) := by decide +kernel
theorem dX3_readOrder_110 : decode cX3_readOrder 110 = .ok (.aload_n 0, 1) := by decide +kernel
theorem dX3_readOrder_111 : decode cX3_readOrder 111 = .ok (.invokevirtual 49, 3) := by decide +kernel
theorem dX3_readOrder_114 : decode cX3_readOrder 114 = .ok (.ifCond .eq 23, 3) := by decide +kernel
theorem dX3_readOrder_117 : decode cX3_readOrder 117 = .ok (.aload_n 0, 1) := by decide +kernel
theorem dX3_readOrder_118 : decode cX3_readOrder 118 = .ok (.bipush 43, 2) := by decide +kernel
theorem dX3_readOrder_120 : decode cX3_readOrder 120 = .ok (.invokevirtual 32, 3) := by decide +kernel
theorem dX3_readOrder_123 : decode cX3_readOrder 123 = .ok (.ifCond .eq 14, 3) := by decide +kernel
theorem dX3_readOrder_126 : decode cX3_readOrder 126 = .ok (.aload_n 0, 1) := by decide +kernel
theorem dX3_readOrder_127 : decode cX3_readOrder 127 = .ok (.invokevirtual 52, 3) := by decide +kernel
theorem dX3_readOrder_130 : decode cX3_readOrder 130 = .ok (.ifCond .eq 7, 3) := by decide +kernel
theorem dX3_readOrder_133 : decode cX3_readOrder 133 = .ok (.iconst 1, 1) := by decide +kernel
theorem dX3_readOrder_134 : decode cX3_readOrder 134 = .ok (.goto 4, 3) := by decide +kernel
theorem dX3_readOrder_137 : decode cX3_readOrder 137 = .ok (.iconst 0, 1) := by decide +kernel
theorem dX3_readOrder_138 : decode cX3_readOrder 138 = .ok (.ireturn, 1) := by decide +kernel
theorem dX3_readOrder_139 : decode cX3_readOrder 139 = .ok (.aload_n 0, 1) := by decide +kernel
theorem dX3_readOrder_140 : decode cX3_readOrder 140 = .ok (.dup, 1) := by decide +kernel
theorem dX3_readOrder_141 : decode cX3_readOrder 141 = .ok (.getfield 15, 3) := by decide +kernel
theorem dX3_readOrder_144 : decode cX3_readOrder 144 = .ok (.iconst 1, 1) := by decide +kernel
theorem dX3_readOrder_145 : decode cX3_readOrder 145 = .ok (.iadd, 1) := by decide +kernel
theorem dX3_readOrder_146 : decode cX3_readOrder 146 = .ok (.putfield 15, 3) := by decide +kernel
theorem dX3_readOrder_149 : decode cX3_readOrder 149 = .ok (.aload_n 0, 1) := by decide +kernel
theorem dX3_readOrder_150 : decode cX3_readOrder 150 = .ok (.invokevirtual 49, 3) := by decide +kernel
theorem dX3_readOrder_153 : decode cX3_readOrder 153 = .ok (.ifCond .eq 21, 3) := by decide +kernel
theorem dX3_readOrder_156 : decode cX3_readOrder 156 = .ok (.aload_n 0, 1) := by decide +kernel
theorem dX3_readOrder_157 : decode cX3_readOrder 157 = .ok (.invokevirtual 55, 3) := by decide +kernel
end
section
theorem dX3_readOrder_160 : decode cX3_readOrder 160 = .ok (.ifCond .eq 14, 3) := by decide +kernel
theorem dX3_readOrder_163 : decode cX3_readOrder 163 = .ok (.aload_n 0, 1) := by decide +kernel
theorem dX3_readOrder_164 : decode cX3_readOrder 164 = .ok (.invokevirtual 58, 3) := by decide +kernel
theorem dX3_readOrder_167 : decode cX3_readOrder 167 = .ok (.ifCond .eq 7, 3) := by decide +kernel
theorem dX3_readOrder_170 : decode cX3_readOrder 170 = .ok (.iconst 1, 1) := by decide +kernel
theorem dX3_readOrder_171 : decode cX3_readOrder 171 = .ok (.goto 4, 3) := by decide +kernel
theorem dX3_readOrder_174 : decode cX3_readOrder 174 = .ok (.iconst 0, 1) := by decide +kernel
theorem dX3_readOrder_175 : decode cX3_readOrder 175 = .ok (.ireturn, 1) := by decide +kernel
theorem dX3_readOrder_176 : decode cX3_readOrder 176 = .ok (.aload_n 0, 1) := by decide +kernel
theorem dX3_readOrder_177 : decode cX3_readOrder 177 = .ok (.dup, 1) := by decide +kernel
theorem dX3_readOrder_178 : decode cX3_readOrder 178 = .ok (.getfield 15, 3) := by decide +kernel
theorem dX3_readOrder_181 : decode cX3_readOrder 181 = .ok (.iconst 1, 1) := by decide +kernel
theorem dX3_readOrder_182 : decode cX3_readOrder 182 = .ok (.iadd, 1) := by decide +kernel
theorem dX3_readOrder_183 : decode cX3_readOrder 183 = .ok (.putfield 15, 3) := by decide +kernel
theorem dX3_readOrder_186 : decode cX3_readOrder 186 = .ok (.aload_n 0, 1) := by decide +kernel
theorem dX3_readOrder_187 : decode cX3_readOrder 187 = .ok (.invokevirtual 49, 3) := by decide +kernel
theorem dX3_readOrder_190 : decode cX3_readOrder 190 = .ok (.ifCond .eq 21, 3) := by decide +kernel
theorem dX3_readOrder_193 : decode cX3_readOrder 193 = .ok (.aload_n 0, 1) := by decide +kernel
theorem dX3_readOrder_194 : decode cX3_readOrder 194 = .ok (.invokevirtual 61, 3) := by decide +kernel
theorem dX3_readOrder_197 : decode cX3_readOrder 197 = .ok (.ifCond .ne 10, 3) := by decide +kernel
theorem dX3_readOrder_200 : decode cX3_readOrder 200 = .ok (.aload_n 0, 1) := by decide +kernel
theorem dX3_readOrder_201 : decode cX3_readOrder 201 = .ok (.invokevirtual 55, 3) := by decide +kernel
theorem dX3_readOrder_204 : decode cX3_readOrder 204 = .ok (.ifCond .eq 7, 3) := by decide +kernel
theorem dX3_readOrder_207 : decode cX3_readOrder 207 = .ok (.iconst 1, 1) := by decide +kernel
theorem dX3_readOrder_208 : decode cX3_readOrder 208 = .ok (.goto 4, 3) := by decide +kernel
theorem dX3_readOrder_211 : decode cX3_readOrder 211 = .ok (.iconst 0, 1) := by decide +kernel
theorem dX3_readOrder_212 : decode cX3_readOrder 212 = .ok (.ireturn, 1) := by decide +kernel
theorem dX3_readOrder_213 : decode cX3_readOrder 213 = .ok (.iconst 0, 1) := by decide +kernel
theorem dX3_readOrder_214 : decode cX3_readOrder 214 = .ok (.ireturn, 1) := by decide +kernel
theorem dX3_isOrderOver_0 : decode cX3_isOrderOver 0 = .ok (.aload_n 0, 1) := by decide +kernel
theorem dX3_isOrderOver_1 : decode cX3_isOrderOver 1 = .ok (.getfield 15, 3) := by decide +kernel
theorem dX3_isOrderOver_4 : decode cX3_isOrderOver 4 = .ok (.aload_n 0, 1) := by decide +kernel
theorem dX3_isOrderOver_5 : decode cX3_isOrderOver 5 = .ok (.getfield 9, 3) := by decide +kernel
theorem dX3_isOrderOver_8 : decode cX3_isOrderOver 8 = .ok (.invokevirtual 26, 3) := by decide +kernel
theorem dX3_isOrderOver_11 : decode cX3_isOrderOver 11 = .ok (.if_icmp .ge 19, 3) := by decide +kernel
theorem dX3_isOrderOver_14 : decode cX3_isOrderOver 14 = .ok (.aload_n 0, 1) := by decide +kernel
theorem dX3_isOrderOver_15 : decode cX3_isOrderOver 15 = .ok (.getfield 9, 3) := by decide +kernel
theorem dX3_isOrderOver_18 : decode cX3_isOrderOver 18 = .ok (.aload_n 0, 1) := by decide +kernel
theorem dX3_isOrderOver_19 : decode cX3_isOrderOver 19 = .ok (.getfield 15, 3) := by decide +kernel
theorem dX3_isOrderOver_22 : decode cX3_isOrderOver 22 = .ok (.invokevirtual 36, 3) := by decide +kernel
theorem dX3_isOrderOver_25 : decode cX3_isOrderOver 25 = .ok (.bipush 59, 2) := by decide +kernel
theorem dX3_isOrderOver_27 : decode cX3_isOrderOver 27 = .ok (.if_icmp .ne 7, 3) := by decide +kernel
theorem dX3_isOrderOver_30 : decode cX3_isOrderOver 30 = .ok (.iconst 1, 1) := by decide +kernel
theorem dX3_isOrderOver_31 : decode cX3_isOrderOver 31 = .ok (.goto 4, 3) := by decide +kernel
theorem dX3_isOrderOver_34 : decode cX3_isOrderOver 34 = .ok (.iconst 0, 1) := by decide +kernel
theorem dX3_isOrderOver_35 : decode cX3_isOrderOver 35 = .ok (.ireturn, 1) := by decide +kernel
theorem dX3_readPerson_0 : decode cX3_readPerson 0 = .ok (.aload_n 0, 1) := by decide +kernel
theorem dX3_readPerson_1 : decode cX3_readPerson 1 = .ok (.aload_n 0, 1) := by decide +kernel
theorem dX3_readPerson_2 : decode cX3_readPerson 2 = .ok (.invokevirtual 64, 3) := by decide +kernel
theorem dX3_readPerson_5 : decode cX3_readPerson 5 = .ok (.putfield 67, 3) := by decide +kernel
theorem dX3_readPerson_8 : decode cX3_readPerson 8 = .ok (.aload_n 0, 1) := by decide +kernel
theorem dX3_readPerson_9 : decode cX3_readPerson 9 = .ok (.getfield 67, 3) := by decide +kernel
theorem dX3_readPerson_12 : decode cX3_readPerson 12 = .ok (.ifCond .lt 7, 3) := by decide +kernel
theorem dX3_readPerson_15 : decode cX3_readPerson 15 = .ok (.iconst 1, 1) := by decide +kernel
theorem dX3_readPerson_16 : decode cX3_readPerson 16 = .ok (.goto 4, 3) := by decide +kernel
theorem dX3_readPerson_19 : decode cX3_readPerson 19 = .ok (.iconst 0, 1) := by decide +kernel
theorem dX3_readPerson_20 : decode cX3_readPerson 20 = .ok (.ireturn, 1) := by decide +kernel
theorem dX3_readMany_0 : decode cX3_readMany 0 = .ok (.aload_n 0, 1) := by decide +kernel
theorem dX3_readMany_1 : decode cX3_readMany 1 = .ok (.aload_n 0, 1) := by decide +kernel
theorem dX3_readMany_2 : decode cX3_readMany 2 = .ok (.invokevirtual 64, 3) := by decide +kernel
theorem dX3_readMany_5 : decode cX3_readMany 5 = .ok (.putfield 70, 3) := by decide +kernel
theorem dX3_readMany_8 : decode cX3_readMany 8 = .ok (.aload_n 0, 1) := by decide +kernel
theorem dX3_readMany_9 : decode cX3_readMany 9 = .ok (.getfield 70, 3) := by decide +kernel
theorem dX3_readMany_12 : decode cX3_readMany 12 = .ok (.ifCond .lt 7, 3) := by decide +kernel
theorem dX3_readMany_15 : decode cX3_readMany 15 = .ok (.iconst 1, 1) := by decide +kernel
theorem dX3_readMany_16 : decode cX3_readMany 16 = .ok (.goto 4, 3) := by decide +kernel
theorem dX3_readMany_19 : decode cX3_readMany 19 = .ok (.iconst 0, 1) := by decide +kernel
theorem dX3_readMany_20 : decode cX3_readMany 20 = .ok (.ireturn, 1) := by decide +kernel
theorem dX3_readDish_0 : decode cX3_readDish 0 = .ok (.aload_n 0, 1) := by decide +kernel
theorem dX3_readDish_1 : decode cX3_readDish 1 = .ok (.getfield 9, 3) := by decide +kernel
theorem dX3_readDish_4 : decode cX3_readDish 4 = .ok (.aload_n 0, 1) := by decide +kernel
theorem dX3_readDish_5 : decode cX3_readDish 5 = .ok (.getfield 15, 3) := by decide +kernel
theorem dX3_readDish_8 : decode cX3_readDish 8 = .ok (.invokevirtual 36, 3) := by decide +kernel
theorem dX3_readDish_11 : decode cX3_readDish 11 = .ok (.istore_n 1, 1) := by decide +kernel
theorem dX3_readDish_12 : decode cX3_readDish 12 = .ok (.iload_n 1, 1) := by decide +kernel
theorem dX3_readDish_13 : decode cX3_readDish 13 = .ok (.bipush 97, 2) := by decide +kernel
theorem dX3_readDish_15 : decode cX3_readDish 15 = .ok (.if_icmp .lt 9, 3) := by decide +kernel
theorem dX3_readDish_18 : decode cX3_readDish 18 = .ok (.iload_n 1, 1) := by decide +kernel
theorem dX3_readDish_19 : decode cX3_readDish 19 = .ok (.bipush 99, 2) := by decide +kernel
theorem dX3_readDish_21 : decode cX3_readDish 21 = .ok (.if_icmp .le 5, 3) := by decide +kernel
theorem dX3_readDish_24 : decode cX3_readDish 24 = .ok (.iconst 0, 1) := by decide +kernel
theorem dX3_readDish_25 : decode cX3_readDish 25 = .ok (.ireturn, 1) := by decide +kernel
theorem dX3_readDish_26 : decode cX3_readDish 26 = .ok (.aload_n 0, 1) := by decide +kernel
theorem dX3_readDish_27 : decode cX3_readDish 27 = .ok (.iload_n 1, 1) := by decide +kernel
theorem dX3_readDish_28 : decode cX3_readDish 28 = .ok (.bipush 97, 2) := by decide +kernel
theorem dX3_readDish_30 : decode cX3_readDish 30 = .ok (.isub, 1) := by decide +kernel
theorem dX3_readDish_31 : decode cX3_readDish 31 = .ok (.putfield 43, 3) := by decide +kernel
theorem dX3_readDish_34 : decode cX3_readDish 34 = .ok (.aload_n 0, 1) := by decide +kernel
theorem dX3_readDish_35 : decode cX3_readDish 35 = .ok (.dup, 1) := by decide +kernel
theorem dX3_readDish_36 : decode cX3_readDish 36 = .ok (.getfield 15, 3) := by decide +kernel
theorem dX3_readDish_39 : decode cX3_readDish 39 = .ok (.iconst 1, 1) := by decide +kernel
theorem dX3_readDish_40 : decode cX3_readDish 40 = .ok (.iadd, 1) := by decide +kernel
theorem dX3_readDish_41 : decode cX3_readDish 41 = .ok (.putfield 15, 3) := by decide +kernel
theorem dX3_readDish_44 : decode cX3_readDish 44 = .ok (.iconst 1, 1) := by decide +kernel
theorem dX3_readDish_45 : decode cX3_readDish 45 = .ok (.ireturn, 1) := by decide +kernel
theorem dX3_readAhead_0 : decode cX3_readAhead 0 = .ok (.aload_n 0, 1) := by decide +kernel
theorem dX3_readAhead_1 : decode cX3_readAhead 1 = .ok (.bipush 43, 2) := by decide +kernel
theorem dX3_readAhead_3 : decode cX3_readAhead 3 = .ok (.invokevirtual 32, 3) := by decide +kernel
theorem dX3_readAhead_6 : decode cX3_readAhead 6 = .ok (.ifCond .ne 5, 3) := by decide +kernel
theorem dX3_readAhead_9 : decode cX3_readAhead 9 = .ok (.iconst 1, 1) := by decide +kernel
theorem dX3_readAhead_10 : decode cX3_readAhead 10 = .ok (.ireturn, 1) := by decide +kernel
theorem dX3_readAhead_11 : decode cX3_readAhead 11 = .ok (.aload_n 0, 1) := by decide +kernel
theorem dX3_readAhead_12 : decode cX3_readAhead 12 = .ok (.aload_n 0, 1) := by decide +kernel
theorem dX3_readAhead_13 : decode cX3_readAhead 13 = .ok (.invokevirtual 73, 3) := by decide +kernel
theorem dX3_readAhead_16 : decode cX3_readAhead 16 = .ok (.putfield 46, 3) := by decide +kernel
theorem dX3_readAhead_19 : decode cX3_readAhead 19 = .ok (.aload_n 0, 1) := by decide +kernel
theorem dX3_readAhead_20 : decode cX3_readAhead 20 = .ok (.getfield 46, 3) := by decide +kernel
theorem dX3_readAhead_23 : decode cX3_readAhead 23 = .ok (.ifCond .lt 7, 3) := by decide +kernel
theorem dX3_readAhead_26 : decode cX3_readAhead 26 = .ok (.iconst 1, 1) := by decide +kernel
theorem dX3_readAhead_27 : decode cX3_readAhead 27 = .ok (.goto 4, 3) := by decide +kernel
theorem dX3_readAhead_30 : decode cX3_readAhead 30 = .ok (.iconst 0, 1) := by decide +kernel
theorem dX3_readAhead_31 : decode cX3_readAhead 31 = .ok (.ireturn, 1) := by decide +kernel
theorem dX3_readNumber_0 : decode cX3_readNumber 0 = .ok (.aload_n 0, 1) := by decide +kernel
theorem dX3_readNumber_1 : decode cX3_readNumber 1 = .ok (.invokevirtual 73, 3) := by decide +kernel
theorem dX3_readNumber_4 : decode cX3_readNumber 4 = .ok (.istore_n 1, 1) := by decide +kernel
theorem dX3_readNumber_5 : decode cX3_readNumber 5 = .ok (.iload_n 1, 1) := by decide +kernel
theorem dX3_readNumber_6 : decode cX3_readNumber 6 = .ok (.ifCond .gt 5, 3) := by decide +kernel
theorem dX3_readNumber_9 : decode cX3_readNumber 9 = .ok (.iload_n 1, 1) := by decide +kernel
theorem dX3_readNumber_10 : decode cX3_readNumber 10 = .ok (.ireturn, 1) := by decide +kernel
theorem dX3_readNumber_11 : decode cX3_readNumber 11 = .ok (.aload_n 0, 1) := by decide +kernel
theorem dX3_readNumber_12 : decode cX3_readNumber 12 = .ok (.invokevirtual 73, 3) := by decide +kernel
theorem dX3_readNumber_15 : decode cX3_readNumber 15 = .ok (.istore_n 2, 1) := by decide +kernel
theorem dX3_readNumber_16 : decode cX3_readNumber 16 = .ok (.iload_n 2, 1) := by decide +kernel
theorem dX3_readNumber_17 : decode cX3_readNumber 17 = .ok (.ifCond .ge 7, 3) := by decide +kernel
theorem dX3_readNumber_20 : decode cX3_readNumber 20 = .ok (.iload_n 1, 1) := by decide +kernel
theorem dX3_readNumber_21 : decode cX3_readNumber 21 = .ok (.goto 9, 3) := by decide +kernel
theorem dX3_readNumber_24 : decode cX3_readNumber 24 = .ok (.bipush 10, 2) := by decide +kernel
theorem dX3_readNumber_26 : decode cX3_readNumber 26 = .ok (.iload_n 1, 1) := by decide +kernel
theorem dX3_readNumber_27 : decode cX3_readNumber 27 = .ok (.imul, 1) := by decide +kernel
theorem dX3_readNumber_28 : decode cX3_readNumber 28 = .ok (.iload_n 2, 1) := by decide +kernel
theorem dX3_readNumber_29 : decode cX3_readNumber 29 = .ok (.iadd, 1) := by decide +kernel
theorem dX3_readNumber_30 : decode cX3_readNumber 30 = .ok (.ireturn, 1) := by decide +kernel
theorem dX3_readDigit_0 : decode cX3_readDigit 0 = .ok (.aload_n 0, 1) := by decide +kernel
theorem dX3_readDigit_1 : decode cX3_readDigit 1 = .ok (.getfield 9, 3) := by decide +kernel
theorem dX3_readDigit_4 : decode cX3_readDigit 4 = .ok (.aload_n 0, 1) := by decide +kernel
theorem dX3_readDigit_5 : decode cX3_readDigit 5 = .ok (.getfield 15, 3) := by decide +kernel
theorem dX3_readDigit_8 : decode cX3_readDigit 8 = .ok (.invokevirtual 36, 3) := by decide +kernel
theorem dX3_readDigit_11 : decode cX3_readDigit 11 = .ok (.istore_n 1, 1) := by decide +kernel
theorem dX3_readDigit_12 : decode cX3_readDigit 12 = .ok (.iload_n 1, 1) := by decide +kernel
theorem dX3_readDigit_13 : decode cX3_readDigit 13 = .ok (.bipush 48, 2) := by decide +kernel
theorem dX3_readDigit_15 : decode cX3_readDigit 15 = .ok (.if_icmp .lt 9, 3) := by decide +kernel
theorem dX3_readDigit_18 : decode cX3_readDigit 18 = .ok (.iload_n 1, 1) := by decide +kernel
theorem dX3_readDigit_19 : decode cX3_readDigit 19 = .ok (.bipush 57, 2) := by decide +kernel
theorem dX3_readDigit_21 : decode cX3_readDigit 21 = .ok (.if_icmp .le 6, 3) := by decide +kernel
theorem dX3_readDigit_24 : decode cX3_readDigit 24 = .ok (.bipush (-6), 2) := by decide +kernel
theorem dX3_readDigit_26 : decode cX3_readDigit 26 = .ok (.ireturn, 1) := by decide +kernel
theorem dX3_readDigit_27 : decode cX3_readDigit 27 = .ok (.aload_n 0, 1) := by decide +kernel
theorem dX3_readDigit_28 : decode cX3_readDigit 28 = .ok (.dup, 1) := by decide +kernel
theorem dX3_readDigit_29 : decode cX3_readDigit 29 = .ok (.getfield 15, 3) := by decide +kernel
theorem dX3_readDigit_32 : decode cX3_readDigit 32 = .ok (.iconst 1, 1) := by decide +kernel
theorem dX3_readDigit_33 : decode cX3_readDigit 33 = .ok (.iadd, 1) := by decide +kernel
theorem dX3_readDigit_34 : decode cX3_readDigit 34 = .ok (.putfield 15, 3) := by decide +kernel
theorem dX3_readDigit_37 : decode cX3_readDigit 37 = .ok (.iload_n 1, 1) := by decide +kernel
theorem dX3_readDigit_38 : decode cX3_readDigit 38 = .ok (.bipush 48, 2) := by decide +kernel
theorem dX3_readDigit_40 : decode cX3_readDigit 40 = .ok (.isub, 1) := by decide +kernel
theorem dX3_readDigit_41 : decode cX3_readDigit 41 = .ok (.ireturn, 1) := by decide +kernel
theorem dX4_init_0 : decode cX4_init 0 = .ok (.aload_n 0, 1) := by decide +kernel
theorem dX4_init_1 : decode cX4_init 1 = .ok (.invokespecial 3, 3) := by decide +kernel
theorem dX4_init_4 : decode cX4_init 4 = .ok (.aload_n 0, 1) := by decide +kernel
theorem dX4_init_5 : decode cX4_init 5 = .ok (.bipush 80, 2) := by decide +kernel
theorem dX4_init_7 : decode cX4_init 7 = .ok (.newarray .char, 2) := by decide +kernel
theorem dX4_init_9 : decode cX4_init 9 = .ok (.putfield 9, 3) := by decide +kernel
theorem dX4_init_12 : decode cX4_init 12 = .ok (.return_, 1) := by decide +kernel
theorem dX4_length_0 : decode cX4_length 0 = .ok (.aload_n 0, 1) := by decide +kernel
theorem dX4_length_1 : decode cX4_length 1 = .ok (.getfield 15, 3) := by decide +kernel
theorem dX4_length_4 : decode cX4_length 4 = .ok (.ireturn, 1) := by decide +kernel
theorem dX4_at_0 : decode cX4_at 0 = .ok (.iload_n 1, 1) := by decide +kernel
theorem dX4_at_1 : decode cX4_at 1 = .ok (.ifCond .lt 20, 3) := by decide +kernel
theorem dX4_at_4 : decode cX4_at 4 = .ok (.iload_n 1, 1) := by decide +kernel
theorem dX4_at_5 : decode cX4_at 5 = .ok (.aload_n 0, 1) := by decide +kernel
theorem dX4_at_6 : decode cX4_at 6 = .ok (.getfield 15, 3) := by decide +kernel
theorem dX4_at_9 : decode cX4_at 9 = .ok (.if_icmp .ge 12, 3) := by decide +kernel
theorem dX4_at_12 : decode cX4_at 12 = .ok (.aload_n 0, 1) := by decide +kernel
theorem dX4_at_13 : decode cX4_at 13 = .ok (.getfield 9, 3) := by decide +kernel
theorem dX4_at_16 : decode cX4_at 16 = .ok (.iload_n 1, 1) := by decide +kernel
theorem dX4_at_17 : decode cX4_at 17 = .ok (.caload, 1) := by decide +kernel
theorem dX4_at_18 : decode cX4_at 18 = .ok (.goto 4, 3) := by decide +kernel
theorem dX4_at_21 : decode cX4_at 21 = .ok (.iconst 0, 1) := by decide +kernel
theorem dX4_at_22 : decode cX4_at 22 = .ok (.ireturn, 1) := by decide +kernel
theorem dX4_append_0 : decode cX4_append 0 = .ok (.lload_n 1, 1) := by decide +kernel
theorem dX4_append_1 : decode cX4_append 1 = .ok (.invokestatic 19, 3) := by decide +kernel
theorem dX4_append_4 : decode cX4_append 4 = .ok (.istore_n 3, 1) := by decide +kernel
theorem dX4_append_5 : decode cX4_append 5 = .ok (.iload_n 3, 1) := by decide +kernel
theorem dX4_append_6 : decode cX4_append 6 = .ok (.ifCond .ne 6, 3) := by decide +kernel
theorem dX4_append_9 : decode cX4_append 9 = .ok (.bipush (-2), 2) := by decide +kernel
theorem dX4_append_11 : decode cX4_append 11 = .ok (.ireturn, 1) := by decide +kernel
theorem dX4_append_12 : decode cX4_append 12 = .ok (.aload_n 0, 1) := by decide +kernel
theorem dX4_append_13 : decode cX4_append 13 = .ok (.getfield 15, 3) := by decide +kernel
theorem dX4_append_16 : decode cX4_append 16 = .ok (.iload_n 3, 1) := by decide +kernel
theorem dX4_append_17 : decode cX4_append 17 = .ok (.iadd, 1) := by decide +kernel
theorem dX4_append_18 : decode cX4_append 18 = .ok (.bipush 80, 2) := by decide +kernel
theorem dX4_append_20 : decode cX4_append 20 = .ok (.if_icmp .le 6, 3) := by decide +kernel
theorem dX4_append_23 : decode cX4_append 23 = .ok (.bipush (-4), 2) := by decide +kernel
theorem dX4_append_25 : decode cX4_append 25 = .ok (.ireturn, 1) := by decide +kernel
theorem dX4_append_26 : decode cX4_append 26 = .ok (.aload_n 0, 1) := by decide +kernel
theorem dX4_append_27 : decode cX4_append 27 = .ok (.dup, 1) := by decide +kernel
theorem dX4_append_28 : decode cX4_append 28 = .ok (.getfield 15, 3) := by decide +kernel
theorem dX4_append_31 : decode cX4_append 31 = .ok (.iload_n 3, 1) := by decide +kernel
theorem dX4_append_32 : decode cX4_append 32 = .ok (.iadd, 1) := by decide +kernel
theorem dX4_append_33 : decode cX4_append 33 = .ok (.putfield 15, 3) := by decide +kernel
theorem dX4_append_36 : decode cX4_append 36 = .ok (.iconst 0, 1) := by decide +kernel
theorem dX4_append_37 : decode cX4_append 37 = .ok (.istore 4, 2) := by decide +kernel
theorem dX4_append_39 : decode cX4_append 39 = .ok (.iload 4, 2) := by decide +kernel
theorem dX4_append_41 : decode cX4_append 41 = .ok (.iload_n 3, 1) := by decide +kernel
theorem dX4_append_42 : decode cX4_append 42 = .ok (.if_icmp .ge 36, 3) := by decide +kernel
theorem dX4_append_45 : decode cX4_append 45 = .ok (.aload_n 0, 1) := by decide +kernel
theorem dX4_append_46 : decode cX4_append 46 = .ok (.getfield 9, 3) := by decide +kernel
theorem dX4_append_49 : decode cX4_append 49 = .ok (.aload_n 0, 1) := by decide +kernel
theorem dX4_append_50 : decode cX4_append 50 = .ok (.getfield 15, 3) := by decide +kernel
theorem dX4_append_53 : decode cX4_append 53 = .ok (.iconst 1, 1) := by decide +kernel
theorem dX4_append_54 : decode cX4_append 54 = .ok (.isub, 1) := by decide +kernel
theorem dX4_append_55 : decode cX4_append 55 = .ok (.iload 4, 2) := by decide +kernel
theorem dX4_append_57 : decode cX4_append 57 = .ok (.isub, 1) := by decide +kernel
theorem dX4_append_58 : decode cX4_append 58 = .ok (.lload_n 1, 1) := by decide +kernel
theorem dX4_append_59 : decode cX4_append 59 = .ok (.bipush 8, 2) := by decide +kernel
theorem dX4_append_61 : decode cX4_append 61 = .ok (.iload 4, 2) := by decide +kernel
theorem dX4_append_63 : decode cX4_append 63 = .ok (.imul, 1) := by decide +kernel
theorem dX4_append_64 : decode cX4_append 64 = .ok (.lushr, 1) := by decide +kernel
theorem dX4_append_65 : decode cX4_append 65 = .ok (.ldc2_w 23, 3) := by decide +kernel
theorem dX4_append_68 : decode cX4_append 68 = .ok (.land, 1) := by decide +kernel
theorem dX4_append_69 : decode cX4_append 69 = .ok (.l2i, 1) := by decide +kernel
theorem dX4_append_70 : decode cX4_append 70 = .ok (.i2c, 1) := by decide +kernel
theorem dX4_append_71 : decode cX4_append 71 = .ok (.castore, 1) := by decide +kernel
theorem dX4_append_72 : decode cX4_append 72 = .ok (.iinc 4 1, 3) := by decide +kernel
theorem dX4_append_75 : decode cX4_append 75 = .ok (.goto (-36), 3) := by decide +kernel
theorem dX4_append_78 : decode cX4_append 78 = .ok (.aload_n 0, 1) := by decide +kernel
theorem dX4_append_79 : decode cX4_append 79 = .ok (.getfield 15, 3) := by decide +kernel
theorem dX4_append_82 : decode cX4_append 82 = .ok (.ireturn, 1) := by decide +kernel
theorem dX4_goodCharacters_0 : decode cX4_goodCharacters 0 = .ok (.lload_n 0, 1) := by decide +kernel
theorem dX4_goodCharacters_1 : decode cX4_goodCharacters 1 = .ok (.lstore_n 2, 1) := by decide +kernel
theorem dX4_goodCharacters_2 : decode cX4_goodCharacters 2 = .ok (.iconst 0, 1) := by decide +kernel
theorem dX4_goodCharacters_3 : decode cX4_goodCharacters 3 = .ok (.istore 4, 2) := by decide +kernel
theorem dX4_goodCharacters_5 : decode cX4_goodCharacters 5 = .ok (.lload_n 2, 1) := by decide +kernel
theorem dX4_goodCharacters_6 : decode cX4_goodCharacters 6 = .ok (.lconst 0, 1) := by decide +kernel
theorem dX4_goodCharacters_7 : decode cX4_goodCharacters 7 = .ok (.lcmp, 1) := by decide +kernel
theorem dX4_goodCharacters_8 : decode cX4_goodCharacters 8 = .ok (.ifCond .eq 48, 3) := by decide +kernel
theorem dX4_goodCharacters_11 : decode cX4_goodCharacters 11 = .ok (.iload 4, 2) := by decide +kernel
theorem dX4_goodCharacters_13 : decode cX4_goodCharacters 13 = .ok (.bipush 8, 2) := by decide +kernel
theorem dX4_goodCharacters_15 : decode cX4_goodCharacters 15 = .ok (.if_icmp .ge 41, 3) := by decide +kernel
theorem dX4_goodCharacters_18 : decode cX4_goodCharacters 18 = .ok (.lload_n 2, 1) := by decide +kernel
theorem dX4_goodCharacters_19 : decode cX4_goodCharacters 19 = .ok (.ldc2_w 23, 3) := by decide +kernel
theorem dX4_goodCharacters_22 : decode cX4_goodCharacters 22 = .ok (.land, 1) := by decide +kernel
theorem dX4_goodCharacters_23 : decode cX4_goodCharacters 23 = .ok (.lstore 5, 2) := by decide +kernel
theorem dX4_goodCharacters_25 : decode cX4_goodCharacters 25 = .ok (.lload 5, 2) := by decide +kernel
theorem dX4_goodCharacters_27 : decode cX4_goodCharacters 27 = .ok (.ldc2_w 25, 3) := by decide +kernel
theorem dX4_goodCharacters_30 : decode cX4_goodCharacters 30 = .ok (.lcmp, 1) := by decide +kernel
theorem dX4_goodCharacters_31 : decode cX4_goodCharacters 31 = .ok (.ifCond .lt 12, 3) := by decide +kernel
theorem dX4_goodCharacters_34 : decode cX4_goodCharacters 34 = .ok (.lload 5, 2) := by decide +kernel
theorem dX4_goodCharacters_36 : decode cX4_goodCharacters 36 = .ok (.ldc2_w 27, 3) := by decide +kernel
theorem dX4_goodCharacters_39 : decode cX4_goodCharacters 39 = .ok (.lcmp, 1) := by decide +kernel
theorem dX4_goodCharacters_40 : decode cX4_goodCharacters 40 = .ok (.ifCond .le 5, 3) := by decide +kernel
theorem dX4_goodCharacters_43 : decode cX4_goodCharacters 43 = .ok (.iconst 0, 1) := by decide +kernel
theorem dX4_goodCharacters_44 : decode cX4_goodCharacters 44 = .ok (.ireturn, 1) := by decide +kernel
theorem dX4_goodCharacters_45 : decode cX4_goodCharacters 45 = .ok (.lload_n 2, 1) := by decide +kernel
theorem dX4_goodCharacters_46 : decode cX4_goodCharacters 46 = .ok (.bipush 8, 2) := by decide +kernel
theorem dX4_goodCharacters_48 : decode cX4_goodCharacters 48 = .ok (.lushr, 1) := by decide +kernel
theorem dX4_goodCharacters_49 : decode cX4_goodCharacters 49 = .ok (.lstore_n 2, 1) := by decide +kernel
theorem dX4_goodCharacters_50 : decode cX4_goodCharacters 50 = .ok (.iinc 4 1, 3) := by decide +kernel
theorem dX4_goodCharacters_53 : decode cX4_goodCharacters 53 = .ok (.goto (-48), 3) := by decide +kernel
theorem dX4_goodCharacters_56 : decode cX4_goodCharacters 56 = .ok (.iload 4, 2) := by decide +kernel
theorem dX4_goodCharacters_58 : decode cX4_goodCharacters 58 = .ok (.ireturn, 1) := by decide +kernel
theorem dX4_clear_0 : decode cX4_clear 0 = .ok (.aload_n 0, 1) := by decide +kernel
theorem dX4_clear_1 : decode cX4_clear 1 = .ok (.getfield 15, 3) := by decide +kernel
theorem dX4_clear_4 : decode cX4_clear 4 = .ok (.istore_n 1, 1) := by decide +kernel
theorem dX4_clear_5 : decode cX4_clear 5 = .ok (.aload_n 0, 1) := by decide +kernel
theorem dX4_clear_6 : decode cX4_clear 6 = .ok (.iconst 0, 1) := by decide +kernel
theorem dX4_clear_7 : decode cX4_clear 7 = .ok (.putfield 15, 3) := by decide +kernel
theorem dX4_clear_10 : decode cX4_clear 10 = .ok (.iload_n 1, 1) := by decide +kernel
theorem dX4_clear_11 : decode cX4_clear 11 = .ok (.ireturn, 1) := by decide +kernel
theorem dX5_init_0 : decode cX5_init 0 = .ok (.aload_n 0, 1) := by decide +kernel
theorem dX5_init_1 : decode cX5_init 1 = .ok (.invokespecial 3, 3) := by decide +kernel
theorem dX5_init_4 : decode cX5_init 4 = .ok (.aload_n 0, 1) := by decide +kernel
theorem dX5_init_5 : decode cX5_init 5 = .ok (.iconst 5, 1) := by decide +kernel
theorem dX5_init_6 : decode cX5_init 6 = .ok (.newarray .int, 2) := by decide +kernel
theorem dX5_init_8 : decode cX5_init 8 = .ok (.putfield 9, 3) := by decide +kernel
theorem dX5_init_11 : decode cX5_init 11 = .ok (.aload_n 0, 1) := by decide +kernel
theorem dX5_init_12 : decode cX5_init 12 = .ok (.iconst 5, 1) := by decide +kernel
theorem dX5_init_13 : decode cX5_init 13 = .ok (.newarray .int, 2) := by decide +kernel
theorem dX5_init_15 : decode cX5_init 15 = .ok (.putfield 15, 3) := by decide +kernel
theorem dX5_init_18 : decode cX5_init 18 = .ok (.return_, 1) := by decide +kernel
theorem dX5_start_0 : decode cX5_start 0 = .ok (.iconst 0, 1) := by decide +kernel
theorem dX5_start_1 : decode cX5_start 1 = .ok (.istore_n 1, 1) := by decide +kernel
theorem dX5_start_2 : decode cX5_start 2 = .ok (.iload_n 1, 1) := by decide +kernel
theorem dX5_start_3 : decode cX5_start 3 = .ok (.iconst 5, 1) := by decide +kernel
theorem dX5_start_4 : decode cX5_start 4 = .ok (.if_icmp .ge 24, 3) := by decide +kernel
theorem dX5_start_7 : decode cX5_start 7 = .ok (.aload_n 0, 1) := by decide +kernel
theorem dX5_start_8 : decode cX5_start 8 = .ok (.getfield 9, 3) := by decide +kernel
theorem dX5_start_11 : decode cX5_start 11 = .ok (.iload_n 1, 1) := by decide +kernel
theorem dX5_start_12 : decode cX5_start 12 = .ok (.bipush (-6), 2) := by decide +kernel
theorem dX5_start_14 : decode cX5_start 14 = .ok (.iastore, 1) := by decide +kernel
theorem dX5_start_15 : decode cX5_start 15 = .ok (.aload_n 0, 1) := by decide +kernel
theorem dX5_start_16 : decode cX5_start 16 = .ok (.getfield 15, 3) := by decide +kernel
theorem dX5_start_19 : decode cX5_start 19 = .ok (.iload_n 1, 1) := by decide +kernel
theorem dX5_start_20 : decode cX5_start 20 = .ok (.iconst 0, 1) := by decide +kernel
theorem dX5_start_21 : decode cX5_start 21 = .ok (.iastore, 1) := by decide +kernel
theorem dX5_start_22 : decode cX5_start 22 = .ok (.iinc 1 1, 3) := by decide +kernel
theorem dX5_start_25 : decode cX5_start 25 = .ok (.goto (-23), 3) := by decide +kernel
theorem dX5_start_28 : decode cX5_start 28 = .ok (.aload_n 0, 1) := by decide +kernel
theorem dX5_start_29 : decode cX5_start 29 = .ok (.iconst 5, 1) := by decide +kernel
theorem dX5_start_30 : decode cX5_start 30 = .ok (.putfield 18, 3) := by decide +kernel
theorem dX5_start_33 : decode cX5_start 33 = .ok (.aload_n 0, 1) := by decide +kernel
theorem dX5_start_34 : decode cX5_start 34 = .ok (.iconst 0, 1) := by decide +kernel
theorem dX5_start_35 : decode cX5_start 35 = .ok (.putfield 22, 3) := by decide +kernel
theorem dX5_start_38 : decode cX5_start 38 = .ok (.aload_n 0, 1) := by decide +kernel
theorem dX5_start_39 : decode cX5_start 39 = .ok (.iconst 0, 1) := by decide +kernel
theorem dX5_start_40 : decode cX5_start 40 = .ok (.putfield 25, 3) := by decide +kernel
theorem dX5_start_43 : decode cX5_start 43 = .ok (.aload_n 0, 1) := by decide +kernel
theorem dX5_start_44 : decode cX5_start 44 = .ok (.iconst 0, 1) := by decide +kernel
theorem dX5_start_45 : decode cX5_start 45 = .ok (.putfield 28, 3) := by decide +kernel
theorem dX5_start_48 : decode cX5_start 48 = .ok (.aload_n 0, 1) := by decide +kernel
theorem dX5_start_49 : decode cX5_start 49 = .ok (.iconst 0, 1) := by decide +kernel
theorem dX5_start_50 : decode cX5_start 50 = .ok (.putfield 31, 3) := by decide +kernel
theorem dX5_start_53 : decode cX5_start 53 = .ok (.aload_n 0, 1) := by decide +kernel
theorem dX5_start_54 : decode cX5_start 54 = .ok (.iconst 0, 1) := by decide +kernel
theorem dX5_start_55 : decode cX5_start 55 = .ok (.putfield 34, 3) := by decide +kernel
theorem dX5_start_58 : decode cX5_start 58 = .ok (.aload_n 0, 1) := by decide +kernel
theorem dX5_start_59 : decode cX5_start 59 = .ok (.iconst 0, 1) := by decide +kernel
theorem dX5_start_60 : decode cX5_start 60 = .ok (.putfield 37, 3) := by decide +kernel
theorem dX5_start_63 : decode cX5_start 63 = .ok (.return_, 1) := by decide +kernel
theorem dX5_become_0 : decode cX5_become 0 = .ok (.aload_n 1, 1) := by decide +kernel
theorem dX5_become_1 : decode cX5_become 1 = .ok (.getfield 9, 3) := by decide +kernel
theorem dX5_become_4 : decode cX5_become 4 = .ok (.iconst 0, 1) := by decide +kernel
theorem dX5_become_5 : decode cX5_become 5 = .ok (.aload_n 0, 1) := by decide +kernel
theorem dX5_become_6 : decode cX5_become 6 = .ok (.getfield 9, 3) := by decide +kernel
theorem dX5_become_9 : decode cX5_become 9 = .ok (.iconst 0, 1) := by decide +kernel
theorem dX5_become_10 : decode cX5_become 10 = .ok (.iconst 5, 1) := by decide +kernel
theorem dX5_become_11 : decode cX5_become 11 = .ok (.invokestatic 41, 3) := by decide +kernel
theorem dX5_become_14 : decode cX5_become 14 = .ok (.aload_n 1, 1) := by decide +kernel
theorem dX5_become_15 : decode cX5_become 15 = .ok (.getfield 15, 3) := by decide +kernel
theorem dX5_become_18 : decode cX5_become 18 = .ok (.iconst 0, 1) := by decide +kernel
theorem dX5_become_19 : decode cX5_become 19 = .ok (.aload_n 0, 1) := by decide +kernel
theorem dX5_become_20 : decode cX5_become 20 = .ok (.getfield 15, 3) := by decide +kernel
theorem dX5_become_23 : decode cX5_become 23 = .ok (.iconst 0, 1) := by decide +kernel
theorem dX5_become_24 : decode cX5_become 24 = .ok (.iconst 5, 1) := by decide +kernel
theorem dX5_become_25 : decode cX5_become 25 = .ok (.invokestatic 41, 3) := by decide +kernel
theorem dX5_become_28 : decode cX5_become 28 = .ok (.aload_n 0, 1) := by decide +kernel
theorem dX5_become_29 : decode cX5_become 29 = .ok (.aload_n 1, 1) := by decide +kernel
theorem dX5_become_30 : decode cX5_become 30 = .ok (.getfield 18, 3) := by decide +kernel
theorem dX5_become_33 : decode cX5_become 33 = .ok (.putfield 18, 3) := by decide +kernel
theorem dX5_become_36 : decode cX5_become 36 = .ok (.aload_n 0, 1) := by decide +kernel
theorem dX5_become_37 : decode cX5_become 37 = .ok (.aload_n 1, 1) := by decide +kernel
theorem dX5_become_38 : decode cX5_become 38 = .ok (.getfield 22, 3) := by decide +kernel
theorem dX5_become_41 : decode cX5_become 41 = .ok (.putfield 22, 3) := by decide +kernel
theorem dX5_become_44 : decode cX5_become 44 = .ok (.aload_n 0, 1) := by decide +kernel
theorem dX5_become_45 : decode cX5_become 45 = .ok (.aload_n 1, 1) := by decide +kernel
theorem dX5_become_46 : decode cX5_become 46 = .ok (.getfield 25, 3) := by decide +kernel
theorem dX5_become_49 : decode cX5_become 49 = .ok (.putfield 25, 3) := by decide +kernel
theorem dX5_become_52 : decode cX5_become 52 = .ok (.aload_n 0, 1) := by decide +kernel
theorem dX5_become_53 : decode cX5_become 53 = .ok (.aload_n 1, 1) := by decide +kernel
theorem dX5_become_54 : decode cX5_become 54 = .ok (.getfield 28, 3) := by decide +kernel
theorem dX5_become_57 : decode cX5_become 57 = .ok (.putfield 28, 3) := by decide +kernel
theorem dX5_become_60 : decode cX5_become 60 = .ok (.aload_n 0, 1) := by decide +kernel
theorem dX5_become_61 : decode cX5_become 61 = .ok (.aload_n 1, 1) := by decide +kernel
theorem dX5_become_62 : decode cX5_become 62 = .ok (.getfield 31, 3) := by decide +kernel
theorem dX5_become_65 : decode cX5_become 65 = .ok (.putfield 31, 3) := by decide +kernel
theorem dX5_become_68 : decode cX5_become 68 = .ok (.aload_n 0, 1) := by decide +kernel
theorem dX5_become_69 : decode cX5_become 69 = .ok (.aload_n 1, 1) := by decide +kernel
theorem dX5_become_70 : decode cX5_become 70 = .ok (.getfield 34, 3) := by decide +kernel
theorem dX5_become_73 : decode cX5_become 73 = .ok (.putfield 34, 3) := by decide +kernel
theorem dX5_become_76 : decode cX5_become 76 = .ok (.aload_n 0, 1) := by decide +kernel
theorem dX5_become_77 : decode cX5_become 77 = .ok (.aload_n 1, 1) := by decide +kernel
theorem dX5_become_78 : decode cX5_become 78 = .ok (.getfield 37, 3) := by decide +kernel
theorem dX5_become_81 : decode cX5_become 81 = .ok (.putfield 37, 3) := by decide +kernel
theorem dX5_become_84 : decode cX5_become 84 = .ok (.return_, 1) := by decide +kernel
theorem dX5_hasOrder_0 : decode cX5_hasOrder 0 = .ok (.aload_n 0, 1) := by decide +kernel
theorem dX5_hasOrder_1 : decode cX5_hasOrder 1 = .ok (.getfield 9, 3) := by decide +kernel
theorem dX5_hasOrder_4 : decode cX5_hasOrder 4 = .ok (.iload_n 1, 1) := by decide +kernel
theorem dX5_hasOrder_5 : decode cX5_hasOrder 5 = .ok (.iaload, 1) := by decide +kernel
theorem dX5_hasOrder_6 : decode cX5_hasOrder 6 = .ok (.bipush (-6), 2) := by decide +kernel
theorem dX5_hasOrder_8 : decode cX5_hasOrder 8 = .ok (.if_icmp .eq 7, 3) := by decide +kernel
theorem dX5_hasOrder_11 : decode cX5_hasOrder 11 = .ok (.iconst 1, 1) := by decide +kernel
theorem dX5_hasOrder_12 : decode cX5_hasOrder 12 = .ok (.goto 4, 3) := by decide +kernel
theorem dX5_hasOrder_15 : decode cX5_hasOrder 15 = .ok (.iconst 0, 1) := by decide +kernel
theorem dX5_hasOrder_16 : decode cX5_hasOrder 16 = .ok (.ireturn, 1) := by decide +kernel
theorem dX5_isMissing_0 : decode cX5_isMissing 0 = .ok (.aload_n 0, 1) := by decide +kernel
theorem dX5_isMissing_1 : decode cX5_isMissing 1 = .ok (.iconst 0, 1) := by decide +kernel
theorem dX5_isMissing_2 : decode cX5_isMissing 2 = .ok (.invokevirtual 47, 3) := by decide +kernel
theorem dX5_isMissing_5 : decode cX5_isMissing 5 = .ok (.ifCond .eq 14, 3) := by decide +kernel
theorem dX5_isMissing_8 : decode cX5_isMissing 8 = .ok (.aload_n 0, 1) := by decide +kernel
theorem dX5_isMissing_9 : decode cX5_isMissing 9 = .ok (.getfield 37, 3) := by decide +kernel
theorem dX5_isMissing_12 : decode cX5_isMissing 12 = .ok (.ifCond .ne 7, 3) := by decide +kernel
theorem dX5_isMissing_15 : decode cX5_isMissing 15 = .ok (.iconst 1, 1) := by decide +kernel
theorem dX5_isMissing_16 : decode cX5_isMissing 16 = .ok (.goto 4, 3) := by decide +kernel
theorem dX5_isMissing_19 : decode cX5_isMissing 19 = .ok (.iconst 0, 1) := by decide +kernel
theorem dX5_isMissing_20 : decode cX5_isMissing 20 = .ok (.ireturn, 1) := by decide +kernel
theorem dX5_receive_0 : decode cX5_receive 0 = .ok (.aload_n 0, 1) := by decide +kernel
theorem dX5_receive_1 : decode cX5_receive 1 = .ok (.bipush 30, 2) := by decide +kernel
theorem dX5_receive_3 : decode cX5_receive 3 = .ok (.aload_n 0, 1) := by decide +kernel
theorem dX5_receive_4 : decode cX5_receive 4 = .ok (.getfield 18, 3) := by decide +kernel
theorem dX5_receive_7 : decode cX5_receive 7 = .ok (.iload_n 1, 1) := by decide +kernel
theorem dX5_receive_8 : decode cX5_receive 8 = .ok (.iadd, 1) := by decide +kernel
theorem dX5_receive_9 : decode cX5_receive 9 = .ok (.invokestatic 51, 3) := by decide +kernel
theorem dX5_receive_12 : decode cX5_receive 12 = .ok (.putfield 18, 3) := by decide +kernel
theorem dX5_receive_15 : decode cX5_receive 15 = .ok (.aload_n 0, 1) := by decide +kernel
theorem dX5_receive_16 : decode cX5_receive 16 = .ok (.getfield 18, 3) := by decide +kernel
theorem dX5_receive_19 : decode cX5_receive 19 = .ok (.ireturn, 1) := by decide +kernel
theorem dX5_pay_0 : decode cX5_pay 0 = .ok (.aload_n 0, 1) := by decide +kernel
theorem dX5_pay_1 : decode cX5_pay 1 = .ok (.getfield 9, 3) := by decide +kernel
theorem dX5_pay_4 : decode cX5_pay 4 = .ok (.iload_n 1, 1) := by decide +kernel
theorem dX5_pay_5 : decode cX5_pay 5 = .ok (.iload_n 2, 1) := by decide +kernel
theorem dX5_pay_6 : decode cX5_pay 6 = .ok (.iastore, 1) := by decide +kernel
theorem dX5_pay_7 : decode cX5_pay 7 = .ok (.aload_n 0, 1) := by decide +kernel
theorem dX5_pay_8 : decode cX5_pay 8 = .ok (.getfield 15, 3) := by decide +kernel
theorem dX5_pay_11 : decode cX5_pay 11 = .ok (.iload_n 1, 1) := by decide +kernel
theorem dX5_pay_12 : decode cX5_pay 12 = .ok (.iload_n 3, 1) := by decide +kernel
theorem dX5_pay_13 : decode cX5_pay 13 = .ok (.iastore, 1) := by decide +kernel
theorem dX5_pay_14 : decode cX5_pay 14 = .ok (.aload_n 0, 1) := by decide +kernel
theorem dX5_pay_15 : decode cX5_pay 15 = .ok (.dup, 1) := by decide +kernel
theorem dX5_pay_16 : decode cX5_pay 16 = .ok (.getfield 18, 3) := by decide +kernel
theorem dX5_pay_19 : decode cX5_pay 19 = .ok (.iload_n 3, 1) := by decide +kernel
theorem dX5_pay_20 : decode cX5_pay 20 = .ok (.isub, 1) := by decide +kernel
theorem dX5_pay_21 : decode cX5_pay 21 = .ok (.putfield 18, 3) := by decide +kernel
theorem dX5_pay_24 : decode cX5_pay 24 = .ok (.aload_n 0, 1) := by decide +kernel
theorem dX5_pay_25 : decode cX5_pay 25 = .ok (.getfield 18, 3) := by decide +kernel
theorem dX5_pay_28 : decode cX5_pay 28 = .ok (.ireturn, 1) := by decide +kernel
theorem dX5_comeWithOrder_0 : decode cX5_comeWithOrder 0 = .ok (.aload_n 0, 1) := by decide +kernel
theorem dX5_comeWithOrder_1 : decode cX5_comeWithOrder 1 = .ok (.iconst 1, 1) := by decide +kernel
theorem dX5_comeWithOrder_2 : decode cX5_comeWithOrder 2 = .ok (.putfield 37, 3) := by decide +kernel
theorem dX5_comeWithOrder_5 : decode cX5_comeWithOrder 5 = .ok (.aload_n 0, 1) := by decide +kernel
theorem dX5_comeWithOrder_6 : decode cX5_comeWithOrder 6 = .ok (.dup, 1) := by decide +kernel
theorem dX5_comeWithOrder_7 : decode cX5_comeWithOrder 7 = .ok (.getfield 28, 3) := by decide +kernel
theorem dX5_comeWithOrder_10 : decode cX5_comeWithOrder 10 = .ok (.iconst 1, 1) := by decide +kernel
theorem dX5_comeWithOrder_11 : decode cX5_comeWithOrder 11 = .ok (.iadd, 1) := by decide +kernel
theorem dX5_comeWithOrder_12 : decode cX5_comeWithOrder 12 = .ok (.putfield 28, 3) := by decide +kernel
theorem dX5_comeWithOrder_15 : decode cX5_comeWithOrder 15 = .ok (.aload_n 0, 1) := by decide +kernel
theorem dX5_comeWithOrder_16 : decode cX5_comeWithOrder 16 = .ok (.iconst 0, 1) := by decide +kernel
theorem dX5_comeWithOrder_17 : decode cX5_comeWithOrder 17 = .ok (.putfield 22, 3) := by decide +kernel
theorem dX5_comeWithOrder_20 : decode cX5_comeWithOrder 20 = .ok (.return_, 1) := by decide +kernel
theorem dX5_stayAway_0 : decode cX5_stayAway 0 = .ok (.aload_n 0, 1) := by decide +kernel
theorem dX5_stayAway_1 : decode cX5_stayAway 1 = .ok (.dup, 1) := by decide +kernel
theorem dX5_stayAway_2 : decode cX5_stayAway 2 = .ok (.getfield 31, 3) := by decide +kernel
theorem dX5_stayAway_5 : decode cX5_stayAway 5 = .ok (.iconst 1, 1) := by decide +kernel
theorem dX5_stayAway_6 : decode cX5_stayAway 6 = .ok (.iadd, 1) := by decide +kernel
theorem dX5_stayAway_7 : decode cX5_stayAway 7 = .ok (.putfield 31, 3) := by decide +kernel
theorem dX5_stayAway_10 : decode cX5_stayAway 10 = .ok (.aload_n 0, 1) := by decide +kernel
theorem dX5_stayAway_11 : decode cX5_stayAway 11 = .ok (.dup, 1) := by decide +kernel
theorem dX5_stayAway_12 : decode cX5_stayAway 12 = .ok (.getfield 22, 3) := by decide +kernel
theorem dX5_stayAway_15 : decode cX5_stayAway 15 = .ok (.iconst 1, 1) := by decide +kernel
theorem dX5_stayAway_16 : decode cX5_stayAway 16 = .ok (.iadd, 1) := by decide +kernel
theorem dX5_stayAway_17 : decode cX5_stayAway 17 = .ok (.putfield 22, 3) := by decide +kernel
theorem dX5_stayAway_20 : decode cX5_stayAway 20 = .ok (.return_, 1) := by decide +kernel
theorem dX5_judge_0 : decode cX5_judge 0 = .ok (.aload_n 0, 1) := by decide +kernel
theorem dX5_judge_1 : decode cX5_judge 1 = .ok (.getfield 22, 3) := by decide +kernel
theorem dX5_judge_4 : decode cX5_judge 4 = .ok (.iload_n 1, 1) := by decide +kernel
theorem dX5_judge_5 : decode cX5_judge 5 = .ok (.if_icmp .lt 20, 3) := by decide +kernel
theorem dX5_judge_8 : decode cX5_judge 8 = .ok (.aload_n 0, 1) := by decide +kernel
theorem dX5_judge_9 : decode cX5_judge 9 = .ok (.aload_n 0, 1) := by decide +kernel
theorem dX5_judge_10 : decode cX5_judge 10 = .ok (.getfield 25, 3) := by decide +kernel
theorem dX5_judge_13 : decode cX5_judge 13 = .ok (.iload_n 2, 1) := by decide +kernel
theorem dX5_judge_14 : decode cX5_judge 14 = .ok (.invokestatic 57, 3) := by decide +kernel
theorem dX5_judge_17 : decode cX5_judge 17 = .ok (.putfield 25, 3) := by decide +kernel
theorem dX5_judge_20 : decode cX5_judge 20 = .ok (.aload_n 0, 1) := by decide +kernel
theorem dX5_judge_21 : decode cX5_judge 21 = .ok (.iconst 0, 1) := by decide +kernel
theorem dX5_judge_22 : decode cX5_judge 22 = .ok (.putfield 22, 3) := by decide +kernel
theorem dX5_judge_25 : decode cX5_judge 25 = .ok (.return_, 1) := by decide +kernel
theorem dX5_startDay_0 : decode cX5_startDay 0 = .ok (.iconst 1, 1) := by decide +kernel
theorem dX5_startDay_1 : decode cX5_startDay 1 = .ok (.istore_n 1, 1) := by decide +kernel
theorem dX5_startDay_2 : decode cX5_startDay 2 = .ok (.iload_n 1, 1) := by decide +kernel
theorem dX5_startDay_3 : decode cX5_startDay 3 = .ok (.iconst 5, 1) := by decide +kernel
theorem dX5_startDay_4 : decode cX5_startDay 4 = .ok (.if_icmp .ge 37, 3) := by decide +kernel
theorem dX5_startDay_7 : decode cX5_startDay 7 = .ok (.aload_n 0, 1) := by decide +kernel
theorem dX5_startDay_8 : decode cX5_startDay 8 = .ok (.getfield 9, 3) := by decide +kernel
theorem dX5_startDay_11 : decode cX5_startDay 11 = .ok (.iload_n 1, 1) := by decide +kernel
theorem dX5_startDay_12 : decode cX5_startDay 12 = .ok (.iconst 1, 1) := by decide +kernel
theorem dX5_startDay_13 : decode cX5_startDay 13 = .ok (.isub, 1) := by decide +kernel
theorem dX5_startDay_14 : decode cX5_startDay 14 = .ok (.aload_n 0, 1) := by decide +kernel
theorem dX5_startDay_15 : decode cX5_startDay 15 = .ok (.getfield 9, 3) := by decide +kernel
theorem dX5_startDay_18 : decode cX5_startDay 18 = .ok (.iload_n 1, 1) := by decide +kernel
theorem dX5_startDay_19 : decode cX5_startDay 19 = .ok (.iaload, 1) := by decide +kernel
theorem dX5_startDay_20 : decode cX5_startDay 20 = .ok (.iastore, 1) := by decide +kernel
theorem dX5_startDay_21 : decode cX5_startDay 21 = .ok (.aload_n 0, 1) := by decide +kernel
theorem dX5_startDay_22 : decode cX5_startDay 22 = .ok (.getfield 15, 3) := by decide +kernel
theorem dX5_startDay_25 : decode cX5_startDay 25 = .ok (.iload_n 1, 1) := by decide +kernel
theorem dX5_startDay_26 : decode cX5_startDay 26 = .ok (.iconst 1, 1) := by decide +kernel
theorem dX5_startDay_27 : decode cX5_startDay 27 = .ok (.isub, 1) := by decide +kernel
theorem dX5_startDay_28 : decode cX5_startDay 28 = .ok (.aload_n 0, 1) := by decide +kernel
theorem dX5_startDay_29 : decode cX5_startDay 29 = .ok (.getfield 15, 3) := by decide +kernel
theorem dX5_startDay_32 : decode cX5_startDay 32 = .ok (.iload_n 1, 1) := by decide +kernel
theorem dX5_startDay_33 : decode cX5_startDay 33 = .ok (.iaload, 1) := by decide +kernel
theorem dX5_startDay_34 : decode cX5_startDay 34 = .ok (.iastore, 1) := by decide +kernel
theorem dX5_startDay_35 : decode cX5_startDay 35 = .ok (.iinc 1 1, 3) := by decide +kernel
theorem dX5_startDay_38 : decode cX5_startDay 38 = .ok (.goto (-36), 3) := by decide +kernel
theorem dX5_startDay_41 : decode cX5_startDay 41 = .ok (.aload_n 0, 1) := by decide +kernel
theorem dX5_startDay_42 : decode cX5_startDay 42 = .ok (.getfield 9, 3) := by decide +kernel
theorem dX5_startDay_45 : decode cX5_startDay 45 = .ok (.iconst 4, 1) := by decide +kernel
theorem dX5_startDay_46 : decode cX5_startDay 46 = .ok (.bipush (-6), 2) := by decide +kernel
theorem dX5_startDay_48 : decode cX5_startDay 48 = .ok (.iastore, 1) := by decide +kernel
theorem dX5_startDay_49 : decode cX5_startDay 49 = .ok (.aload_n 0, 1) := by decide +kernel
theorem dX5_startDay_50 : decode cX5_startDay 50 = .ok (.iconst 0, 1) := by decide +kernel
theorem dX5_startDay_51 : decode cX5_startDay 51 = .ok (.putfield 37, 3) := by decide +kernel
theorem dX5_startDay_54 : decode cX5_startDay 54 = .ok (.return_, 1) := by decide +kernel
theorem dX5_timesOrdered_0 : decode cX5_timesOrdered 0 = .ok (.aload_n 0, 1) := by decide +kernel
theorem dX5_timesOrdered_1 : decode cX5_timesOrdered 1 = .ok (.getfield 28, 3) := by decide +kernel
theorem dX5_timesOrdered_4 : decode cX5_timesOrdered 4 = .ok (.aload_n 0, 1) := by decide +kernel
theorem dX5_timesOrdered_5 : decode cX5_timesOrdered 5 = .ok (.getfield 31, 3) := by decide +kernel
theorem dX5_timesOrdered_8 : decode cX5_timesOrdered 8 = .ok (.iadd, 1) := by decide +kernel
theorem dX5_timesOrdered_9 : decode cX5_timesOrdered 9 = .ok (.ireturn, 1) := by decide +kernel
theorem dX5_doubt_0 : decode cX5_doubt 0 = .ok (.aload_n 0, 1) := by decide +kernel
theorem dX5_doubt_1 : decode cX5_doubt 1 = .ok (.invokevirtual 60, 3) := by decide +kernel
theorem dX5_doubt_4 : decode cX5_doubt 4 = .ok (.istore_n 1, 1) := by decide +kernel
theorem dX5_doubt_5 : decode cX5_doubt 5 = .ok (.iload_n 1, 1) := by decide +kernel
theorem dX5_doubt_6 : decode cX5_doubt 6 = .ok (.ifCond .ne 7, 3) := by decide +kernel
theorem dX5_doubt_9 : decode cX5_doubt 9 = .ok (.iconst 0, 1) := by decide +kernel
theorem dX5_doubt_10 : decode cX5_doubt 10 = .ok (.goto 12, 3) := by decide +kernel
theorem dX5_doubt_13 : decode cX5_doubt 13 = .ok (.bipush 100, 2) := by decide +kernel
theorem dX5_doubt_15 : decode cX5_doubt 15 = .ok (.aload_n 0, 1) := by decide +kernel
theorem dX5_doubt_16 : decode cX5_doubt 16 = .ok (.getfield 31, 3) := by decide +kernel
theorem dX5_doubt_19 : decode cX5_doubt 19 = .ok (.imul, 1) := by decide +kernel
theorem dX5_doubt_20 : decode cX5_doubt 20 = .ok (.iload_n 1, 1) := by decide +kernel
theorem dX5_doubt_21 : decode cX5_doubt 21 = .ok (.idiv, 1) := by decide +kernel
theorem dX5_doubt_22 : decode cX5_doubt 22 = .ok (.ireturn, 1) := by decide +kernel
theorem dX5_isLessSureThan_0 : decode cX5_isLessSureThan 0 = .ok (.aload_n 0, 1) := by decide +kernel
theorem dX5_isLessSureThan_1 : decode cX5_isLessSureThan 1 = .ok (.invokevirtual 64, 3) := by decide +kernel
theorem dX5_isLessSureThan_4 : decode cX5_isLessSureThan 4 = .ok (.aload_n 1, 1) := by decide +kernel
theorem dX5_isLessSureThan_5 : decode cX5_isLessSureThan 5 = .ok (.invokevirtual 64, 3) := by decide +kernel
theorem dX5_isLessSureThan_8 : decode cX5_isLessSureThan 8 = .ok (.if_icmp .eq 20, 3) := by decide +kernel
theorem dX5_isLessSureThan_11 : decode cX5_isLessSureThan 11 = .ok (.aload_n 0, 1) := by decide +kernel
theorem dX5_isLessSureThan_12 : decode cX5_isLessSureThan 12 = .ok (.invokevirtual 64, 3) := by decide +kernel
theorem dX5_isLessSureThan_15 : decode cX5_isLessSureThan 15 = .ok (.aload_n 1, 1) := by decide +kernel
theorem dX5_isLessSureThan_16 : decode cX5_isLessSureThan 16 = .ok (.invokevirtual 64, 3) := by decide +kernel
theorem dX5_isLessSureThan_19 : decode cX5_isLessSureThan 19 = .ok (.if_icmp .le 7, 3) := by decide +kernel
theorem dX5_isLessSureThan_22 : decode cX5_isLessSureThan 22 = .ok (.iconst 1, 1) := by decide +kernel
theorem dX5_isLessSureThan_23 : decode cX5_isLessSureThan 23 = .ok (.goto 4, 3) := by decide +kernel
theorem dX5_isLessSureThan_26 : decode cX5_isLessSureThan 26 = .ok (.iconst 0, 1) := by decide +kernel
theorem dX5_isLessSureThan_27 : decode cX5_isLessSureThan 27 = .ok (.ireturn, 1) := by decide +kernel
theorem dX5_isLessSureThan_28 : decode cX5_isLessSureThan 28 = .ok (.aload_n 0, 1) := by decide +kernel
theorem dX5_isLessSureThan_29 : decode cX5_isLessSureThan 29 = .ok (.invokevirtual 60, 3) := by decide +kernel
theorem dX5_isLessSureThan_32 : decode cX5_isLessSureThan 32 = .ok (.aload_n 1, 1) := by decide +kernel
theorem dX5_isLessSureThan_33 : decode cX5_isLessSureThan 33 = .ok (.invokevirtual 60, 3) := by decide +kernel
theorem dX5_isLessSureThan_36 : decode cX5_isLessSureThan 36 = .ok (.if_icmp .le 7, 3) := by decide +kernel
theorem dX5_isLessSureThan_39 : decode cX5_isLessSureThan 39 = .ok (.iconst 1, 1) := by decide +kernel
theorem dX5_isLessSureThan_40 : decode cX5_isLessSureThan 40 = .ok (.goto 4, 3) := by decide +kernel
theorem dX5_isLessSureThan_43 : decode cX5_isLessSureThan 43 = .ok (.iconst 0, 1) := by decide +kernel
theorem dX5_isLessSureThan_44 : decode cX5_isLessSureThan 44 = .ok (.ireturn, 1) := by decide +kernel
theorem dX5_daysWithOrder_0 : decode cX5_daysWithOrder 0 = .ok (.iconst 0, 1) := by decide +kernel
theorem dX5_daysWithOrder_1 : decode cX5_daysWithOrder 1 = .ok (.istore_n 1, 1) := by decide +kernel
theorem dX5_daysWithOrder_2 : decode cX5_daysWithOrder 2 = .ok (.iconst 0, 1) := by decide +kernel
theorem dX5_daysWithOrder_3 : decode cX5_daysWithOrder 3 = .ok (.istore_n 2, 1) := by decide +kernel
theorem dX5_daysWithOrder_4 : decode cX5_daysWithOrder 4 = .ok (.iload_n 2, 1) := by decide +kernel
theorem dX5_daysWithOrder_5 : decode cX5_daysWithOrder 5 = .ok (.iconst 5, 1) := by decide +kernel
theorem dX5_daysWithOrder_6 : decode cX5_daysWithOrder 6 = .ok (.if_icmp .ge 23, 3) := by decide +kernel
theorem dX5_daysWithOrder_9 : decode cX5_daysWithOrder 9 = .ok (.aload_n 0, 1) := by decide +kernel
theorem dX5_daysWithOrder_10 : decode cX5_daysWithOrder 10 = .ok (.iload_n 2, 1) := by decide +kernel
theorem dX5_daysWithOrder_11 : decode cX5_daysWithOrder 11 = .ok (.invokevirtual 47, 3) := by decide +kernel
theorem dX5_daysWithOrder_14 : decode cX5_daysWithOrder 14 = .ok (.ifCond .eq 9, 3) := by decide +kernel
theorem dX5_daysWithOrder_17 : decode cX5_daysWithOrder 17 = .ok (.iload_n 1, 1) := by decide +kernel
theorem dX5_daysWithOrder_18 : decode cX5_daysWithOrder 18 = .ok (.iconst 1, 1) := by decide +kernel
theorem dX5_daysWithOrder_19 : decode cX5_daysWithOrder 19 = .ok (.iload_n 2, 1) := by decide +kernel
theorem dX5_daysWithOrder_20 : decode cX5_daysWithOrder 20 = .ok (.ishl, 1) := by decide +kernel
theorem dX5_daysWithOrder_21 : decode cX5_daysWithOrder 21 = .ok (.ior, 1) := by decide +kernel
theorem dX5_daysWithOrder_22 : decode cX5_daysWithOrder 22 = .ok (.istore_n 1, 1) := by decide +kernel
theorem dX5_daysWithOrder_23 : decode cX5_daysWithOrder 23 = .ok (.iinc 2 1, 3) := by decide +kernel
theorem dX5_daysWithOrder_26 : decode cX5_daysWithOrder 26 = .ok (.goto (-22), 3) := by decide +kernel
theorem dX5_daysWithOrder_29 : decode cX5_daysWithOrder 29 = .ok (.iload_n 1, 1) := by decide +kernel
theorem dX5_daysWithOrder_30 : decode cX5_daysWithOrder 30 = .ok (.ireturn, 1) := by decide +kernel
theorem dX5_number_0 : decode cX5_number 0 = .ok (.iload_n 1, 1) := by decide +kernel
theorem dX5_number_1 : decode cX5_number 1 = .ok (.tableswitch 106 0 8 #[51, 56, 63, 68, 73, 78, 83, 88, 101], 51) := by decide +kernel
theorem dX5_number_52 : decode cX5_number 52 = .ok (.aload_n 0, 1) := by decide +kernel
theorem dX5_number_53 : decode cX5_number 53 = .ok (.getfield 18, 3) := by decide +kernel
theorem dX5_number_56 : decode cX5_number 56 = .ok (.ireturn, 1) := by decide +kernel
theorem dX5_number_57 : decode cX5_number 57 = .ok (.aload_n 0, 1) := by decide +kernel
theorem dX5_number_58 : decode cX5_number 58 = .ok (.getfield 9, 3) := by decide +kernel
theorem dX5_number_61 : decode cX5_number 61 = .ok (.iconst 0, 1) := by decide +kernel
theorem dX5_number_62 : decode cX5_number 62 = .ok (.iaload, 1) := by decide +kernel
theorem dX5_number_63 : decode cX5_number 63 = .ok (.ireturn, 1) := by decide +kernel
theorem dX5_number_64 : decode cX5_number 64 = .ok (.aload_n 0, 1) := by decide +kernel
theorem dX5_number_65 : decode cX5_number 65 = .ok (.invokevirtual 67, 3) := by decide +kernel
theorem dX5_number_68 : decode cX5_number 68 = .ok (.ireturn, 1) := by decide +kernel
theorem dX5_number_69 : decode cX5_number 69 = .ok (.aload_n 0, 1) := by decide +kernel
theorem dX5_number_70 : decode cX5_number 70 = .ok (.getfield 22, 3) := by decide +kernel
theorem dX5_number_73 : decode cX5_number 73 = .ok (.ireturn, 1) := by decide +kernel
theorem dX5_number_74 : decode cX5_number 74 = .ok (.aload_n 0, 1) := by decide +kernel
theorem dX5_number_75 : decode cX5_number 75 = .ok (.getfield 25, 3) := by decide +kernel
theorem dX5_number_78 : decode cX5_number 78 = .ok (.ireturn, 1) := by decide +kernel
theorem dX5_number_79 : decode cX5_number 79 = .ok (.aload_n 0, 1) := by decide +kernel
theorem dX5_number_80 : decode cX5_number 80 = .ok (.getfield 28, 3) := by decide +kernel
theorem dX5_number_83 : decode cX5_number 83 = .ok (.ireturn, 1) := by decide +kernel
theorem dX5_number_84 : decode cX5_number 84 = .ok (.aload_n 0, 1) := by decide +kernel
theorem dX5_number_85 : decode cX5_number 85 = .ok (.getfield 31, 3) := by decide +kernel
theorem dX5_number_88 : decode cX5_number 88 = .ok (.ireturn, 1) := by decide +kernel
theorem dX5_number_89 : decode cX5_number 89 = .ok (.aload_n 0, 1) := by decide +kernel
theorem dX5_number_90 : decode cX5_number 90 = .ok (.getfield 37, 3) := by decide +kernel
theorem dX5_number_93 : decode cX5_number 93 = .ok (.ifCond .eq 7, 3) := by decide +kernel
theorem dX5_number_96 : decode cX5_number 96 = .ok (.iconst 1, 1) := by decide +kernel
theorem dX5_number_97 : decode cX5_number 97 = .ok (.goto 4, 3) := by decide +kernel
theorem dX5_number_100 : decode cX5_number 100 = .ok (.iconst 0, 1) := by decide +kernel
theorem dX5_number_101 : decode cX5_number 101 = .ok (.ireturn, 1) := by decide +kernel
theorem dX5_number_102 : decode cX5_number 102 = .ok (.aload_n 0, 1) := by decide +kernel
theorem dX5_number_103 : decode cX5_number 103 = .ok (.getfield 34, 3) := by decide +kernel
theorem dX5_number_106 : decode cX5_number 106 = .ok (.ireturn, 1) := by decide +kernel
theorem dX5_number_107 : decode cX5_number 107 = .ok (.bipush (-2), 2) := by decide +kernel
theorem dX5_number_109 : decode cX5_number 109 = .ok (.ireturn, 1) := by decide +kernel
theorem dX6_init_0 : decode cX6_init 0 = .ok (.aload_n 0, 1) := by decide +kernel
theorem dX6_init_1 : decode cX6_init 1 = .ok (.invokespecial 3, 3) := by decide +kernel
theorem dX6_init_4 : decode cX6_init 4 = .ok (.aload_n 0, 1) := by decide +kernel
theorem dX6_init_5 : decode cX6_init 5 = .ok (.iconst 2, 1) := by decide +kernel
theorem dX6_init_6 : decode cX6_init 6 = .ok (.anewarray 9, 3) := by decide +kernel
theorem dX6_init_9 : decode cX6_init 9 = .ok (.putfield 11, 3) := by decide +kernel
theorem dX6_init_12 : decode cX6_init 12 = .ok (.aload_n 0, 1) := by decide +kernel
theorem dX6_init_13 : decode cX6_init 13 = .ok (.iconst 2, 1) := by decide +kernel
theorem dX6_init_14 : decode cX6_init 14 = .ok (.newarray .boolean, 2) := by decide +kernel
theorem dX6_init_16 : decode cX6_init 16 = .ok (.putfield 17, 3) := by decide +kernel
theorem dX6_init_19 : decode cX6_init 19 = .ok (.iconst 0, 1) := by decide +kernel
theorem dX6_init_20 : decode cX6_init 20 = .ok (.istore_n 1, 1) := by decide +kernel
theorem dX6_init_21 : decode cX6_init 21 = .ok (.iload_n 1, 1) := by decide +kernel
theorem dX6_init_22 : decode cX6_init 22 = .ok (.iconst 2, 1) := by decide +kernel
theorem dX6_init_23 : decode cX6_init 23 = .ok (.if_icmp .ge 22, 3) := by decide +kernel
theorem dX6_init_26 : decode cX6_init 26 = .ok (.aload_n 0, 1) := by decide +kernel
theorem dX6_init_27 : decode cX6_init 27 = .ok (.getfield 11, 3) := by decide +kernel
theorem dX6_init_30 : decode cX6_init 30 = .ok (.iload_n 1, 1) := by decide +kernel
theorem dX6_init_31 : decode cX6_init 31 = .ok (.new 9, 3) := by decide +kernel
theorem dX6_init_34 : decode cX6_init 34 = .ok (.dup, 1) := by decide +kernel
theorem dX6_init_35 : decode cX6_init 35 = .ok (.invokespecial 21, 3) := by decide +kernel
theorem dX6_init_38 : decode cX6_init 38 = .ok (.aastore, 1) := by decide +kernel
theorem dX6_init_39 : decode cX6_init 39 = .ok (.iinc 1 1, 3) := by decide +kernel
theorem dX6_init_42 : decode cX6_init 42 = .ok (.goto (-21), 3) := by decide +kernel
theorem dX6_init_45 : decode cX6_init 45 = .ok (.return_, 1) := by decide +kernel
theorem dX6_store_0 : decode cX6_store 0 = .ok (.iload_n 1, 1) := by decide +kernel
theorem dX6_store_1 : decode cX6_store 1 = .ok (.ifCond .lt 8, 3) := by decide +kernel
theorem dX6_store_4 : decode cX6_store 4 = .ok (.iload_n 1, 1) := by decide +kernel
theorem dX6_store_5 : decode cX6_store 5 = .ok (.iconst 2, 1) := by decide +kernel
theorem dX6_store_6 : decode cX6_store 6 = .ok (.if_icmp .lt 6, 3) := by decide +kernel
theorem dX6_store_9 : decode cX6_store 9 = .ok (.bipush (-2), 2) := by decide +kernel
theorem dX6_store_11 : decode cX6_store 11 = .ok (.ireturn, 1) := by decide +kernel
theorem dX6_store_12 : decode cX6_store 12 = .ok (.aload_n 0, 1) := by decide +kernel
theorem dX6_store_13 : decode cX6_store 13 = .ok (.getfield 11, 3) := by decide +kernel
theorem dX6_store_16 : decode cX6_store 16 = .ok (.iload_n 1, 1) := by decide +kernel
theorem dX6_store_17 : decode cX6_store 17 = .ok (.aaload, 1) := by decide +kernel
theorem dX6_store_18 : decode cX6_store 18 = .ok (.aload_n 2, 1) := by decide +kernel
theorem dX6_store_19 : decode cX6_store 19 = .ok (.invokevirtual 22, 3) := by decide +kernel
theorem dX6_store_22 : decode cX6_store 22 = .ok (.aload_n 0, 1) := by decide +kernel
theorem dX6_store_23 : decode cX6_store 23 = .ok (.getfield 17, 3) := by decide +kernel
theorem dX6_store_26 : decode cX6_store 26 = .ok (.iload_n 1, 1) := by decide +kernel
theorem dX6_store_27 : decode cX6_store 27 = .ok (.iconst 1, 1) := by decide +kernel
theorem dX6_store_28 : decode cX6_store 28 = .ok (.bastore, 1) := by decide +kernel
theorem dX6_store_29 : decode cX6_store 29 = .ok (.aload_n 2, 1) := by decide +kernel
theorem dX6_store_30 : decode cX6_store 30 = .ok (.getfield 26, 3) := by decide +kernel
theorem dX6_store_33 : decode cX6_store 33 = .ok (.ireturn, 1) := by decide +kernel
theorem dX6_fetch_0 : decode cX6_fetch 0 = .ok (.iload_n 1, 1) := by decide +kernel
theorem dX6_fetch_1 : decode cX6_fetch 1 = .ok (.ifCond .lt 8, 3) := by decide +kernel
theorem dX6_fetch_4 : decode cX6_fetch 4 = .ok (.iload_n 1, 1) := by decide +kernel
theorem dX6_fetch_5 : decode cX6_fetch 5 = .ok (.iconst 2, 1) := by decide +kernel
theorem dX6_fetch_6 : decode cX6_fetch 6 = .ok (.if_icmp .lt 6, 3) := by decide +kernel
theorem dX6_fetch_9 : decode cX6_fetch 9 = .ok (.bipush (-2), 2) := by decide +kernel
theorem dX6_fetch_11 : decode cX6_fetch 11 = .ok (.ireturn, 1) := by decide +kernel
theorem dX6_fetch_12 : decode cX6_fetch 12 = .ok (.aload_n 0, 1) := by decide +kernel
theorem dX6_fetch_13 : decode cX6_fetch 13 = .ok (.getfield 17, 3) := by decide +kernel
theorem dX6_fetch_16 : decode cX6_fetch 16 = .ok (.iload_n 1, 1) := by decide +kernel
theorem dX6_fetch_17 : decode cX6_fetch 17 = .ok (.baload, 1) := by decide +kernel
theorem dX6_fetch_18 : decode cX6_fetch 18 = .ok (.ifCond .ne 6, 3) := by decide +kernel
theorem dX6_fetch_21 : decode cX6_fetch 21 = .ok (.bipush (-5), 2) := by decide +kernel
theorem dX6_fetch_23 : decode cX6_fetch 23 = .ok (.ireturn, 1) := by decide +kernel
theorem dX6_fetch_24 : decode cX6_fetch 24 = .ok (.aload_n 2, 1) := by decide +kernel
theorem dX6_fetch_25 : decode cX6_fetch 25 = .ok (.aload_n 0, 1) := by decide +kernel
theorem dX6_fetch_26 : decode cX6_fetch 26 = .ok (.getfield 11, 3) := by decide +kernel
theorem dX6_fetch_29 : decode cX6_fetch 29 = .ok (.iload_n 1, 1) := by decide +kernel
theorem dX6_fetch_30 : decode cX6_fetch 30 = .ok (.aaload, 1) := by decide +kernel
theorem dX6_fetch_31 : decode cX6_fetch 31 = .ok (.invokevirtual 22, 3) := by decide +kernel
theorem dX6_fetch_34 : decode cX6_fetch 34 = .ok (.aload_n 2, 1) := by decide +kernel
theorem dX6_fetch_35 : decode cX6_fetch 35 = .ok (.getfield 26, 3) := by decide +kernel
theorem dX6_fetch_38 : decode cX6_fetch 38 = .ok (.ireturn, 1) := by decide +kernel
theorem dX7_init_0 : decode cX7_init 0 = .ok (.aload_n 0, 1) := by decide +kernel
theorem dX7_init_1 : decode cX7_init 1 = .ok (.invokespecial 1, 3) := by decide +kernel
theorem dX7_init_4 : decode cX7_init 4 = .ok (.aload_n 0, 1) := by decide +kernel
theorem dX7_init_5 : decode cX7_init 5 = .ok (.new 7, 3) := by decide +kernel
theorem dX7_init_8 : decode cX7_init 8 = .ok (.dup, 1) := by decide +kernel
theorem dX7_init_9 : decode cX7_init 9 = .ok (.invokespecial 9, 3) := by decide +kernel
theorem dX7_init_12 : decode cX7_init 12 = .ok (.putfield 10, 3) := by decide +kernel
theorem dX7_init_15 : decode cX7_init 15 = .ok (.aload_n 0, 1) := by decide +kernel
theorem dX7_init_16 : decode cX7_init 16 = .ok (.new 16, 3) := by decide +kernel
theorem dX7_init_19 : decode cX7_init 19 = .ok (.dup, 1) := by decide +kernel
theorem dX7_init_20 : decode cX7_init 20 = .ok (.invokespecial 18, 3) := by decide +kernel
theorem dX7_init_23 : decode cX7_init 23 = .ok (.putfield 19, 3) := by decide +kernel
theorem dX7_init_26 : decode cX7_init 26 = .ok (.aload_n 0, 1) := by decide +kernel
theorem dX7_init_27 : decode cX7_init 27 = .ok (.new 23, 3) := by decide +kernel
theorem dX7_init_30 : decode cX7_init 30 = .ok (.dup, 1) := by decide +kernel
theorem dX7_init_31 : decode cX7_init 31 = .ok (.invokespecial 25, 3) := by decide +kernel
theorem dX7_init_34 : decode cX7_init 34 = .ok (.putfield 26, 3) := by decide +kernel
theorem dX7_init_37 : decode cX7_init 37 = .ok (.aload_n 0, 1) := by decide +kernel
theorem dX7_init_38 : decode cX7_init 38 = .ok (.new 30, 3) := by decide +kernel
theorem dX7_init_41 : decode cX7_init 41 = .ok (.dup, 1) := by decide +kernel
theorem dX7_init_42 : decode cX7_init 42 = .ok (.invokespecial 32, 3) := by decide +kernel
theorem dX7_init_45 : decode cX7_init 45 = .ok (.putfield 33, 3) := by decide +kernel
theorem dX7_init_48 : decode cX7_init 48 = .ok (.aload_n 0, 1) := by decide +kernel
theorem dX7_init_49 : decode cX7_init 49 = .ok (.new 37, 3) := by decide +kernel
theorem dX7_init_52 : decode cX7_init 52 = .ok (.dup, 1) := by decide +kernel
theorem dX7_init_53 : decode cX7_init 53 = .ok (.aload_n 0, 1) := by decide +kernel
theorem dX7_init_54 : decode cX7_init 54 = .ok (.getfield 33, 3) := by decide +kernel
theorem dX7_init_57 : decode cX7_init 57 = .ok (.invokespecial 39, 3) := by decide +kernel
theorem dX7_init_60 : decode cX7_init 60 = .ok (.putfield 42, 3) := by decide +kernel
theorem dX7_init_63 : decode cX7_init 63 = .ok (.return_, 1) := by decide +kernel
theorem dX7_set_0 : decode cX7_set 0 = .ok (.aload_n 0, 1) := by decide +kernel
theorem dX7_set_1 : decode cX7_set 1 = .ok (.getfield 19, 3) := by decide +kernel
theorem dX7_set_4 : decode cX7_set 4 = .ok (.aload_n 0, 1) := by decide +kernel
theorem dX7_set_5 : decode cX7_set 5 = .ok (.getfield 10, 3) := by decide +kernel
theorem dX7_set_8 : decode cX7_set 8 = .ok (.invokevirtual 46, 3) := by decide +kernel
theorem dX7_set_11 : decode cX7_set 11 = .ok (.aload_n 0, 1) := by decide +kernel
theorem dX7_set_12 : decode cX7_set 12 = .ok (.getfield 19, 3) := by decide +kernel
theorem dX7_set_15 : decode cX7_set 15 = .ok (.aload_n 0, 1) := by decide +kernel
theorem dX7_set_16 : decode cX7_set 16 = .ok (.getfield 10, 3) := by decide +kernel
theorem dX7_set_19 : decode cX7_set 19 = .ok (.iload_n 1, 1) := by decide +kernel
theorem dX7_set_20 : decode cX7_set 20 = .ok (.iload_n 2, 1) := by decide +kernel
theorem dX7_set_21 : decode cX7_set 21 = .ok (.invokevirtual 50, 3) := by decide +kernel
theorem dX7_set_24 : decode cX7_set 24 = .ok (.invokevirtual 54, 3) := by decide +kernel
theorem dX7_set_27 : decode cX7_set 27 = .ok (.ireturn, 1) := by decide +kernel
theorem dX7_price_0 : decode cX7_price 0 = .ok (.aload_n 0, 1) := by decide +kernel
theorem dX7_price_1 : decode cX7_price 1 = .ok (.getfield 19, 3) := by decide +kernel
theorem dX7_price_4 : decode cX7_price 4 = .ok (.aload_n 0, 1) := by decide +kernel
theorem dX7_price_5 : decode cX7_price 5 = .ok (.getfield 10, 3) := by decide +kernel
theorem dX7_price_8 : decode cX7_price 8 = .ok (.invokevirtual 46, 3) := by decide +kernel
theorem dX7_price_11 : decode cX7_price 11 = .ok (.aload_n 0, 1) := by decide +kernel
theorem dX7_price_12 : decode cX7_price 12 = .ok (.getfield 19, 3) := by decide +kernel
theorem dX7_price_15 : decode cX7_price 15 = .ok (.aload_n 0, 1) := by decide +kernel
theorem dX7_price_16 : decode cX7_price 16 = .ok (.getfield 10, 3) := by decide +kernel
theorem dX7_price_19 : decode cX7_price 19 = .ok (.iload_n 1, 1) := by decide +kernel
theorem dX7_price_20 : decode cX7_price 20 = .ok (.iload_n 2, 1) := by decide +kernel
theorem dX7_price_21 : decode cX7_price 21 = .ok (.iload_n 3, 1) := by decide +kernel
theorem dX7_price_22 : decode cX7_price 22 = .ok (.invokevirtual 58, 3) := by decide +kernel
theorem dX7_price_25 : decode cX7_price 25 = .ok (.invokevirtual 54, 3) := by decide +kernel
theorem dX7_price_28 : decode cX7_price 28 = .ok (.ireturn, 1) := by decide +kernel
theorem dX7_person_0 : decode cX7_person 0 = .ok (.aload_n 0, 1) := by decide +kernel
theorem dX7_person_1 : decode cX7_person 1 = .ok (.getfield 19, 3) := by decide +kernel
theorem dX7_person_4 : decode cX7_person 4 = .ok (.aload_n 0, 1) := by decide +kernel
theorem dX7_person_5 : decode cX7_person 5 = .ok (.getfield 10, 3) := by decide +kernel
theorem dX7_person_8 : decode cX7_person 8 = .ok (.invokevirtual 46, 3) := by decide +kernel
theorem dX7_person_11 : decode cX7_person 11 = .ok (.aload_n 0, 1) := by decide +kernel
theorem dX7_person_12 : decode cX7_person 12 = .ok (.getfield 19, 3) := by decide +kernel
theorem dX7_person_15 : decode cX7_person 15 = .ok (.aload_n 0, 1) := by decide +kernel
theorem dX7_person_16 : decode cX7_person 16 = .ok (.getfield 10, 3) := by decide +kernel
theorem dX7_person_19 : decode cX7_person 19 = .ok (.invokevirtual 62, 3) := by decide +kernel
theorem dX7_person_22 : decode cX7_person 22 = .ok (.invokevirtual 54, 3) := by decide +kernel
theorem dX7_person_25 : decode cX7_person 25 = .ok (.ireturn, 1) := by decide +kernel
theorem dX7_vouchers_0 : decode cX7_vouchers 0 = .ok (.aload_n 0, 1) := by decide +kernel
theorem dX7_vouchers_1 : decode cX7_vouchers 1 = .ok (.getfield 19, 3) := by decide +kernel
theorem dX7_vouchers_4 : decode cX7_vouchers 4 = .ok (.aload_n 0, 1) := by decide +kernel
theorem dX7_vouchers_5 : decode cX7_vouchers 5 = .ok (.getfield 10, 3) := by decide +kernel
theorem dX7_vouchers_8 : decode cX7_vouchers 8 = .ok (.invokevirtual 46, 3) := by decide +kernel
theorem dX7_vouchers_11 : decode cX7_vouchers 11 = .ok (.aload_n 0, 1) := by decide +kernel
theorem dX7_vouchers_12 : decode cX7_vouchers 12 = .ok (.getfield 19, 3) := by decide +kernel
theorem dX7_vouchers_15 : decode cX7_vouchers 15 = .ok (.aload_n 0, 1) := by decide +kernel
theorem dX7_vouchers_16 : decode cX7_vouchers 16 = .ok (.getfield 10, 3) := by decide +kernel
theorem dX7_vouchers_19 : decode cX7_vouchers 19 = .ok (.iload_n 1, 1) := by decide +kernel
theorem dX7_vouchers_20 : decode cX7_vouchers 20 = .ok (.iload_n 2, 1) := by decide +kernel
theorem dX7_vouchers_21 : decode cX7_vouchers 21 = .ok (.invokevirtual 66, 3) := by decide +kernel
theorem dX7_vouchers_24 : decode cX7_vouchers 24 = .ok (.invokevirtual 54, 3) := by decide +kernel
theorem dX7_vouchers_27 : decode cX7_vouchers 27 = .ok (.ireturn, 1) := by decide +kernel
theorem dX7_order_0 : decode cX7_order 0 = .ok (.aload_n 0, 1) := by decide +kernel
theorem dX7_order_1 : decode cX7_order 1 = .ok (.getfield 19, 3) := by decide +kernel
theorem dX7_order_4 : decode cX7_order 4 = .ok (.aload_n 0, 1) := by decide +kernel
theorem dX7_order_5 : decode cX7_order 5 = .ok (.getfield 10, 3) := by decide +kernel
theorem dX7_order_8 : decode cX7_order 8 = .ok (.invokevirtual 46, 3) := by decide +kernel
theorem dX7_order_11 : decode cX7_order 11 = .ok (.aload_n 0, 1) := by decide +kernel
theorem dX7_order_12 : decode cX7_order 12 = .ok (.getfield 19, 3) := by decide +kernel
theorem dX7_order_15 : decode cX7_order 15 = .ok (.aload_n 0, 1) := by decide +kernel
theorem dX7_order_16 : decode cX7_order 16 = .ok (.getfield 10, 3) := by decide +kernel
theorem dX7_order_19 : decode cX7_order 19 = .ok (.iload_n 1, 1) := by decide +kernel
theorem dX7_order_20 : decode cX7_order 20 = .ok (.iload_n 2, 1) := by decide +kernel
theorem dX7_order_21 : decode cX7_order 21 = .ok (.iload_n 3, 1) := by decide +kernel
theorem dX7_order_22 : decode cX7_order 22 = .ok (.invokevirtual 69, 3) := by decide +kernel
theorem dX7_order_25 : decode cX7_order 25 = .ok (.invokevirtual 54, 3) := by decide +kernel
theorem dX7_order_28 : decode cX7_order 28 = .ok (.ireturn, 1) := by decide +kernel
theorem dX7_callOff_0 : decode cX7_callOff 0 = .ok (.aload_n 0, 1) := by decide +kernel
theorem dX7_callOff_1 : decode cX7_callOff 1 = .ok (.getfield 19, 3) := by decide +kernel
theorem dX7_callOff_4 : decode cX7_callOff 4 = .ok (.aload_n 0, 1) := by decide +kernel
theorem dX7_callOff_5 : decode cX7_callOff 5 = .ok (.getfield 10, 3) := by decide +kernel
theorem dX7_callOff_8 : decode cX7_callOff 8 = .ok (.invokevirtual 46, 3) := by decide +kernel
theorem dX7_callOff_11 : decode cX7_callOff 11 = .ok (.aload_n 0, 1) := by decide +kernel
theorem dX7_callOff_12 : decode cX7_callOff 12 = .ok (.getfield 19, 3) := by decide +kernel
theorem dX7_callOff_15 : decode cX7_callOff 15 = .ok (.aload_n 0, 1) := by decide +kernel
theorem dX7_callOff_16 : decode cX7_callOff 16 = .ok (.getfield 10, 3) := by decide +kernel
theorem dX7_callOff_19 : decode cX7_callOff 19 = .ok (.iload_n 1, 1) := by decide +kernel
theorem dX7_callOff_20 : decode cX7_callOff 20 = .ok (.iload_n 2, 1) := by decide +kernel
theorem dX7_callOff_21 : decode cX7_callOff 21 = .ok (.invokevirtual 72, 3) := by decide +kernel
theorem dX7_callOff_24 : decode cX7_callOff 24 = .ok (.invokevirtual 54, 3) := by decide +kernel
theorem dX7_callOff_27 : decode cX7_callOff 27 = .ok (.ireturn, 1) := by decide +kernel
theorem dX7_cook_0 : decode cX7_cook 0 = .ok (.aload_n 0, 1) := by decide +kernel
theorem dX7_cook_1 : decode cX7_cook 1 = .ok (.getfield 19, 3) := by decide +kernel
theorem dX7_cook_4 : decode cX7_cook 4 = .ok (.aload_n 0, 1) := by decide +kernel
theorem dX7_cook_5 : decode cX7_cook 5 = .ok (.getfield 10, 3) := by decide +kernel
theorem dX7_cook_8 : decode cX7_cook 8 = .ok (.invokevirtual 46, 3) := by decide +kernel
theorem dX7_cook_11 : decode cX7_cook 11 = .ok (.aload_n 0, 1) := by decide +kernel
theorem dX7_cook_12 : decode cX7_cook 12 = .ok (.getfield 19, 3) := by decide +kernel
theorem dX7_cook_15 : decode cX7_cook 15 = .ok (.aload_n 0, 1) := by decide +kernel
theorem dX7_cook_16 : decode cX7_cook 16 = .ok (.getfield 10, 3) := by decide +kernel
theorem dX7_cook_19 : decode cX7_cook 19 = .ok (.invokevirtual 75, 3) := by decide +kernel
theorem dX7_cook_22 : decode cX7_cook 22 = .ok (.invokevirtual 54, 3) := by decide +kernel
theorem dX7_cook_25 : decode cX7_cook 25 = .ok (.ireturn, 1) := by decide +kernel
theorem dX7_come_0 : decode cX7_come 0 = .ok (.aload_n 0, 1) := by decide +kernel
theorem dX7_come_1 : decode cX7_come 1 = .ok (.getfield 19, 3) := by decide +kernel
theorem dX7_come_4 : decode cX7_come 4 = .ok (.aload_n 0, 1) := by decide +kernel
theorem dX7_come_5 : decode cX7_come 5 = .ok (.getfield 10, 3) := by decide +kernel
theorem dX7_come_8 : decode cX7_come 8 = .ok (.invokevirtual 46, 3) := by decide +kernel
theorem dX7_come_11 : decode cX7_come 11 = .ok (.aload_n 0, 1) := by decide +kernel
theorem dX7_come_12 : decode cX7_come 12 = .ok (.getfield 19, 3) := by decide +kernel
theorem dX7_come_15 : decode cX7_come 15 = .ok (.aload_n 0, 1) := by decide +kernel
theorem dX7_come_16 : decode cX7_come 16 = .ok (.getfield 10, 3) := by decide +kernel
theorem dX7_come_19 : decode cX7_come 19 = .ok (.iload_n 1, 1) := by decide +kernel
theorem dX7_come_20 : decode cX7_come 20 = .ok (.invokevirtual 78, 3) := by decide +kernel
theorem dX7_come_23 : decode cX7_come 23 = .ok (.invokevirtual 54, 3) := by decide +kernel
theorem dX7_come_26 : decode cX7_come 26 = .ok (.ireturn, 1) := by decide +kernel
theorem dX7_buy_0 : decode cX7_buy 0 = .ok (.aload_n 0, 1) := by decide +kernel
theorem dX7_buy_1 : decode cX7_buy 1 = .ok (.getfield 19, 3) := by decide +kernel
theorem dX7_buy_4 : decode cX7_buy 4 = .ok (.aload_n 0, 1) := by decide +kernel
theorem dX7_buy_5 : decode cX7_buy 5 = .ok (.getfield 10, 3) := by decide +kernel
theorem dX7_buy_8 : decode cX7_buy 8 = .ok (.invokevirtual 46, 3) := by decide +kernel
theorem dX7_buy_11 : decode cX7_buy 11 = .ok (.aload_n 0, 1) := by decide +kernel
theorem dX7_buy_12 : decode cX7_buy 12 = .ok (.getfield 19, 3) := by decide +kernel
theorem dX7_buy_15 : decode cX7_buy 15 = .ok (.aload_n 0, 1) := by decide +kernel
theorem dX7_buy_16 : decode cX7_buy 16 = .ok (.getfield 10, 3) := by decide +kernel
theorem dX7_buy_19 : decode cX7_buy 19 = .ok (.iload_n 1, 1) := by decide +kernel
theorem dX7_buy_20 : decode cX7_buy 20 = .ok (.iload_n 2, 1) := by decide +kernel
theorem dX7_buy_21 : decode cX7_buy 21 = .ok (.invokevirtual 81, 3) := by decide +kernel
theorem dX7_buy_24 : decode cX7_buy 24 = .ok (.invokevirtual 54, 3) := by decide +kernel
theorem dX7_buy_27 : decode cX7_buy 27 = .ok (.ireturn, 1) := by decide +kernel
theorem dX7_close_0 : decode cX7_close 0 = .ok (.aload_n 0, 1) := by decide +kernel
theorem dX7_close_1 : decode cX7_close 1 = .ok (.getfield 19, 3) := by decide +kernel
theorem dX7_close_4 : decode cX7_close 4 = .ok (.aload_n 0, 1) := by decide +kernel
theorem dX7_close_5 : decode cX7_close 5 = .ok (.getfield 10, 3) := by decide +kernel
theorem dX7_close_8 : decode cX7_close 8 = .ok (.invokevirtual 46, 3) := by decide +kernel
theorem dX7_close_11 : decode cX7_close 11 = .ok (.aload_n 0, 1) := by decide +kernel
theorem dX7_close_12 : decode cX7_close 12 = .ok (.getfield 19, 3) := by decide +kernel
theorem dX7_close_15 : decode cX7_close 15 = .ok (.aload_n 0, 1) := by decide +kernel
theorem dX7_close_16 : decode cX7_close 16 = .ok (.getfield 10, 3) := by decide +kernel
theorem dX7_close_19 : decode cX7_close 19 = .ok (.invokevirtual 84, 3) := by decide +kernel
theorem dX7_close_22 : decode cX7_close 22 = .ok (.invokevirtual 54, 3) := by decide +kernel
theorem dX7_close_25 : decode cX7_close 25 = .ok (.ireturn, 1) := by decide +kernel
theorem dX7_of_0 : decode cX7_of 0 = .ok (.aload_n 0, 1) := by decide +kernel
theorem dX7_of_1 : decode cX7_of 1 = .ok (.getfield 10, 3) := by decide +kernel
theorem dX7_of_4 : decode cX7_of 4 = .ok (.iload_n 1, 1) := by decide +kernel
theorem dX7_of_5 : decode cX7_of 5 = .ok (.iload_n 2, 1) := by decide +kernel
theorem dX7_of_6 : decode cX7_of 6 = .ok (.invokevirtual 87, 3) := by decide +kernel
theorem dX7_of_9 : decode cX7_of 9 = .ok (.ireturn, 1) := by decide +kernel
theorem dX7_ofDish_0 : decode cX7_ofDish 0 = .ok (.aload_n 0, 1) := by decide +kernel
theorem dX7_ofDish_1 : decode cX7_ofDish 1 = .ok (.getfield 10, 3) := by decide +kernel
theorem dX7_ofDish_4 : decode cX7_ofDish 4 = .ok (.iload_n 1, 1) := by decide +kernel
theorem dX7_ofDish_5 : decode cX7_ofDish 5 = .ok (.iload_n 2, 1) := by decide +kernel
theorem dX7_ofDish_6 : decode cX7_ofDish 6 = .ok (.invokevirtual 90, 3) := by decide +kernel
theorem dX7_ofDish_9 : decode cX7_ofDish 9 = .ok (.ireturn, 1) := by decide +kernel
theorem dX7_ordered_0 : decode cX7_ordered 0 = .ok (.aload_n 0, 1) := by decide +kernel
theorem dX7_ordered_1 : decode cX7_ordered 1 = .ok (.getfield 10, 3) := by decide +kernel
theorem dX7_ordered_4 : decode cX7_ordered 4 = .ok (.iload_n 1, 1) := by decide +kernel
theorem dX7_ordered_5 : decode cX7_ordered 5 = .ok (.iload_n 2, 1) := by decide +kernel
theorem dX7_ordered_6 : decode cX7_ordered 6 = .ok (.invokevirtual 93, 3) := by decide +kernel
theorem dX7_ordered_9 : decode cX7_ordered 9 = .ok (.ireturn, 1) := by decide +kernel
theorem dX7_count_0 : decode cX7_count 0 = .ok (.iload_n 1, 1) := by decide +kernel
theorem dX7_count_1 : decode cX7_count 1 = .ok (.bipush 14, 2) := by decide +kernel
theorem dX7_count_3 : decode cX7_count 3 = .ok (.if_icmp .ne 11, 3) := by decide +kernel
theorem dX7_count_6 : decode cX7_count 6 = .ok (.aload_n 0, 1) := by decide +kernel
theorem dX7_count_7 : decode cX7_count 7 = .ok (.getfield 33, 3) := by decide +kernel
theorem dX7_count_10 : decode cX7_count 10 = .ok (.invokevirtual 96, 3) := by decide +kernel
theorem dX7_count_13 : decode cX7_count 13 = .ok (.ireturn, 1) := by decide +kernel
theorem dX7_count_14 : decode cX7_count 14 = .ok (.iload_n 1, 1) := by decide +kernel
theorem dX7_count_15 : decode cX7_count 15 = .ok (.bipush 15, 2) := by decide +kernel
theorem dX7_count_17 : decode cX7_count 17 = .ok (.if_icmp .ne 11, 3) := by decide +kernel
theorem dX7_count_20 : decode cX7_count 20 = .ok (.aload_n 0, 1) := by decide +kernel
theorem dX7_count_21 : decode cX7_count 21 = .ok (.getfield 19, 3) := by decide +kernel
theorem dX7_count_24 : decode cX7_count 24 = .ok (.invokevirtual 99, 3) := by decide +kernel
theorem dX7_count_27 : decode cX7_count 27 = .ok (.ireturn, 1) := by decide +kernel
theorem dX7_count_28 : decode cX7_count 28 = .ok (.aload_n 0, 1) := by decide +kernel
theorem dX7_count_29 : decode cX7_count 29 = .ok (.getfield 10, 3) := by decide +kernel
theorem dX7_count_32 : decode cX7_count 32 = .ok (.iload_n 1, 1) := by decide +kernel
theorem dX7_count_33 : decode cX7_count 33 = .ok (.invokevirtual 100, 3) := by decide +kernel
theorem dX7_count_36 : decode cX7_count 36 = .ok (.ireturn, 1) := by decide +kernel
theorem dX7_why_0 : decode cX7_why 0 = .ok (.aload_n 0, 1) := by decide +kernel
theorem dX7_why_1 : decode cX7_why 1 = .ok (.getfield 10, 3) := by decide +kernel
theorem dX7_why_4 : decode cX7_why 4 = .ok (.iload_n 1, 1) := by decide +kernel
theorem dX7_why_5 : decode cX7_why 5 = .ok (.iload_n 2, 1) := by decide +kernel
theorem dX7_why_6 : decode cX7_why 6 = .ok (.iload_n 3, 1) := by decide +kernel
theorem dX7_why_7 : decode cX7_why 7 = .ok (.invokevirtual 103, 3) := by decide +kernel
theorem dX7_why_10 : decode cX7_why 10 = .ok (.ireturn, 1) := by decide +kernel
theorem dX7_unsurest_0 : decode cX7_unsurest 0 = .ok (.aload_n 0, 1) := by decide +kernel
theorem dX7_unsurest_1 : decode cX7_unsurest 1 = .ok (.getfield 10, 3) := by decide +kernel
theorem dX7_unsurest_4 : decode cX7_unsurest 4 = .ok (.iload_n 1, 1) := by decide +kernel
theorem dX7_unsurest_5 : decode cX7_unsurest 5 = .ok (.invokevirtual 106, 3) := by decide +kernel
theorem dX7_unsurest_8 : decode cX7_unsurest 8 = .ok (.ireturn, 1) := by decide +kernel
theorem dX7_firstOrder_0 : decode cX7_firstOrder 0 = .ok (.aload_n 0, 1) := by decide +kernel
theorem dX7_firstOrder_1 : decode cX7_firstOrder 1 = .ok (.getfield 10, 3) := by decide +kernel
theorem dX7_firstOrder_4 : decode cX7_firstOrder 4 = .ok (.iload_n 1, 1) := by decide +kernel
theorem dX7_firstOrder_5 : decode cX7_firstOrder 5 = .ok (.invokevirtual 109, 3) := by decide +kernel
theorem dX7_firstOrder_8 : decode cX7_firstOrder 8 = .ok (.ireturn, 1) := by decide +kernel
theorem dX7_wasted_0 : decode cX7_wasted 0 = .ok (.aload_n 0, 1) := by decide +kernel
theorem dX7_wasted_1 : decode cX7_wasted 1 = .ok (.getfield 10, 3) := by decide +kernel
theorem dX7_wasted_4 : decode cX7_wasted 4 = .ok (.invokevirtual 112, 3) := by decide +kernel
theorem dX7_wasted_7 : decode cX7_wasted 7 = .ok (.ireturn, 1) := by decide +kernel
theorem dX7_put_0 : decode cX7_put 0 = .ok (.aload_n 0, 1) := by decide +kernel
theorem dX7_put_1 : decode cX7_put 1 = .ok (.getfield 33, 3) := by decide +kernel
theorem dX7_put_4 : decode cX7_put 4 = .ok (.lload_n 1, 1) := by decide +kernel
theorem dX7_put_5 : decode cX7_put 5 = .ok (.invokevirtual 115, 3) := by decide +kernel
theorem dX7_put_8 : decode cX7_put 8 = .ok (.ireturn, 1) := by decide +kernel
theorem dX7_wipe_0 : decode cX7_wipe 0 = .ok (.aload_n 0, 1) := by decide +kernel
theorem dX7_wipe_1 : decode cX7_wipe 1 = .ok (.getfield 33, 3) := by decide +kernel
theorem dX7_wipe_4 : decode cX7_wipe 4 = .ok (.invokevirtual 119, 3) := by decide +kernel
theorem dX7_wipe_7 : decode cX7_wipe 7 = .ok (.ireturn, 1) := by decide +kernel
theorem dX7_fault_0 : decode cX7_fault 0 = .ok (.aload_n 0, 1) := by decide +kernel
theorem dX7_fault_1 : decode cX7_fault 1 = .ok (.getfield 42, 3) := by decide +kernel
theorem dX7_fault_4 : decode cX7_fault 4 = .ok (.invokevirtual 122, 3) := by decide +kernel
theorem dX7_fault_7 : decode cX7_fault 7 = .ok (.ireturn, 1) := by decide +kernel
theorem dX7_carryOut_0 : decode cX7_carryOut 0 = .ok (.aload_n 0, 1) := by decide +kernel
theorem dX7_carryOut_1 : decode cX7_carryOut 1 = .ok (.getfield 42, 3) := by decide +kernel
theorem dX7_carryOut_4 : decode cX7_carryOut 4 = .ok (.invokevirtual 122, 3) := by decide +kernel
theorem dX7_carryOut_7 : decode cX7_carryOut 7 = .ok (.bipush (-6), 2) := by decide +kernel
theorem dX7_carryOut_9 : decode cX7_carryOut 9 = .ok (.if_icmp .eq 6, 3) := by decide +kernel
theorem dX7_carryOut_12 : decode cX7_carryOut 12 = .ok (.bipush (-3), 2) := by decide +kernel
theorem dX7_carryOut_14 : decode cX7_carryOut 14 = .ok (.ireturn, 1) := by decide +kernel
theorem dX7_carryOut_15 : decode cX7_carryOut 15 = .ok (.aload_n 0, 1) := by decide +kernel
theorem dX7_carryOut_16 : decode cX7_carryOut 16 = .ok (.getfield 19, 3) := by decide +kernel
theorem dX7_carryOut_19 : decode cX7_carryOut 19 = .ok (.aload_n 0, 1) := by decide +kernel
theorem dX7_carryOut_20 : decode cX7_carryOut 20 = .ok (.getfield 10, 3) := by decide +kernel
theorem dX7_carryOut_23 : decode cX7_carryOut 23 = .ok (.invokevirtual 46, 3) := by decide +kernel
theorem dX7_carryOut_26 : decode cX7_carryOut 26 = .ok (.aload_n 0, 1) := by decide +kernel
theorem dX7_carryOut_27 : decode cX7_carryOut 27 = .ok (.invokevirtual 125, 3) := by decide +kernel
theorem dX7_carryOut_30 : decode cX7_carryOut 30 = .ok (.istore_n 1, 1) := by decide +kernel
theorem dX7_carryOut_31 : decode cX7_carryOut 31 = .ok (.aload_n 0, 1) := by decide +kernel
theorem dX7_carryOut_32 : decode cX7_carryOut 32 = .ok (.getfield 33, 3) := by decide +kernel
theorem dX7_carryOut_35 : decode cX7_carryOut 35 = .ok (.invokevirtual 119, 3) := by decide +kernel
theorem dX7_carryOut_38 : decode cX7_carryOut 38 = .ok (.pop, 1) := by decide +kernel
theorem dX7_carryOut_39 : decode cX7_carryOut 39 = .ok (.aload_n 0, 1) := by decide +kernel
theorem dX7_carryOut_40 : decode cX7_carryOut 40 = .ok (.getfield 19, 3) := by decide +kernel
theorem dX7_carryOut_43 : decode cX7_carryOut 43 = .ok (.iload_n 1, 1) := by decide +kernel
theorem dX7_carryOut_44 : decode cX7_carryOut 44 = .ok (.invokevirtual 54, 3) := by decide +kernel
theorem dX7_carryOut_47 : decode cX7_carryOut 47 = .ok (.ireturn, 1) := by decide +kernel
theorem dX7_undo_0 : decode cX7_undo 0 = .ok (.aload_n 0, 1) := by decide +kernel
theorem dX7_undo_1 : decode cX7_undo 1 = .ok (.getfield 19, 3) := by decide +kernel
theorem dX7_undo_4 : decode cX7_undo 4 = .ok (.aload_n 0, 1) := by decide +kernel
theorem dX7_undo_5 : decode cX7_undo 5 = .ok (.getfield 10, 3) := by decide +kernel
theorem dX7_undo_8 : decode cX7_undo 8 = .ok (.invokevirtual 128, 3) := by decide +kernel
theorem dX7_undo_11 : decode cX7_undo 11 = .ok (.ireturn, 1) := by decide +kernel
theorem dX7_save_0 : decode cX7_save 0 = .ok (.aload_n 0, 1) := by decide +kernel
theorem dX7_save_1 : decode cX7_save 1 = .ok (.getfield 26, 3) := by decide +kernel
theorem dX7_save_4 : decode cX7_save 4 = .ok (.iload_n 1, 1) := by decide +kernel
theorem dX7_save_5 : decode cX7_save 5 = .ok (.aload_n 0, 1) := by decide +kernel
theorem dX7_save_6 : decode cX7_save 6 = .ok (.getfield 10, 3) := by decide +kernel
theorem dX7_save_9 : decode cX7_save 9 = .ok (.invokevirtual 132, 3) := by decide +kernel
theorem dX7_save_12 : decode cX7_save 12 = .ok (.ireturn, 1) := by decide +kernel
theorem dX7_restore_0 : decode cX7_restore 0 = .ok (.aload_n 0, 1) := by decide +kernel
theorem dX7_restore_1 : decode cX7_restore 1 = .ok (.getfield 19, 3) := by decide +kernel
theorem dX7_restore_4 : decode cX7_restore 4 = .ok (.aload_n 0, 1) := by decide +kernel
theorem dX7_restore_5 : decode cX7_restore 5 = .ok (.getfield 10, 3) := by decide +kernel
theorem dX7_restore_8 : decode cX7_restore 8 = .ok (.invokevirtual 46, 3) := by decide +kernel
theorem dX7_restore_11 : decode cX7_restore 11 = .ok (.aload_n 0, 1) := by decide +kernel
theorem dX7_restore_12 : decode cX7_restore 12 = .ok (.getfield 19, 3) := by decide +kernel
theorem dX7_restore_15 : decode cX7_restore 15 = .ok (.aload_n 0, 1) := by decide +kernel
theorem dX7_restore_16 : decode cX7_restore 16 = .ok (.getfield 26, 3) := by decide +kernel
theorem dX7_restore_19 : decode cX7_restore 19 = .ok (.iload_n 1, 1) := by decide +kernel
theorem dX7_restore_20 : decode cX7_restore 20 = .ok (.aload_n 0, 1) := by decide +kernel
theorem dX7_restore_21 : decode cX7_restore 21 = .ok (.getfield 10, 3) := by decide +kernel
theorem dX7_restore_24 : decode cX7_restore 24 = .ok (.invokevirtual 136, 3) := by decide +kernel
theorem dX7_restore_27 : decode cX7_restore 27 = .ok (.invokevirtual 54, 3) := by decide +kernel
theorem dX7_restore_30 : decode cX7_restore 30 = .ok (.ireturn, 1) := by decide +kernel
theorem dX7_carryOutAll_0 : decode cX7_carryOutAll 0 = .ok (.aload_n 0, 1) := by decide +kernel
theorem dX7_carryOutAll_1 : decode cX7_carryOutAll 1 = .ok (.getfield 42, 3) := by decide +kernel
theorem dX7_carryOutAll_4 : decode cX7_carryOutAll 4 = .ok (.invokevirtual 139, 3) := by decide +kernel
theorem dX7_carryOutAll_7 : decode cX7_carryOutAll 7 = .ok (.iconst 0, 1) := by decide +kernel
theorem dX7_carryOutAll_8 : decode cX7_carryOutAll 8 = .ok (.istore_n 1, 1) := by decide +kernel
theorem dX7_carryOutAll_9 : decode cX7_carryOutAll 9 = .ok (.iload_n 1, 1) := by decide +kernel
theorem dX7_carryOutAll_10 : decode cX7_carryOutAll 10 = .ok (.bipush 80, 2) := by decide +kernel
theorem dX7_carryOutAll_12 : decode cX7_carryOutAll 12 = .ok (.if_icmp .ge 54, 3) := by decide +kernel
theorem dX7_carryOutAll_15 : decode cX7_carryOutAll 15 = .ok (.iload_n 1, 1) := by decide +kernel
theorem dX7_carryOutAll_16 : decode cX7_carryOutAll 16 = .ok (.ifCond .eq 15, 3) := by decide +kernel
theorem dX7_carryOutAll_19 : decode cX7_carryOutAll 19 = .ok (.aload_n 0, 1) := by decide +kernel
theorem dX7_carryOutAll_20 : decode cX7_carryOutAll 20 = .ok (.getfield 42, 3) := by decide +kernel
theorem dX7_carryOutAll_23 : decode cX7_carryOutAll 23 = .ok (.bipush 59, 2) := by decide +kernel
theorem dX7_carryOutAll_25 : decode cX7_carryOutAll 25 = .ok (.invokevirtual 142, 3) := by decide +kernel
theorem dX7_carryOutAll_28 : decode cX7_carryOutAll 28 = .ok (.ifCond .eq 7, 3) := by decide +kernel
theorem dX7_carryOutAll_31 : decode cX7_carryOutAll 31 = .ok (.iconst 1, 1) := by decide +kernel
theorem dX7_carryOutAll_32 : decode cX7_carryOutAll 32 = .ok (.goto 4, 3) := by decide +kernel
theorem dX7_carryOutAll_35 : decode cX7_carryOutAll 35 = .ok (.iconst 0, 1) := by decide +kernel
theorem dX7_carryOutAll_36 : decode cX7_carryOutAll 36 = .ok (.istore_n 2, 1) := by decide +kernel
theorem dX7_carryOutAll_37 : decode cX7_carryOutAll 37 = .ok (.iload_n 2, 1) := by decide +kernel
theorem dX7_carryOutAll_38 : decode cX7_carryOutAll 38 = .ok (.ifCond .eq 20, 3) := by decide +kernel
theorem dX7_carryOutAll_41 : decode cX7_carryOutAll 41 = .ok (.aload_n 0, 1) := by decide +kernel
theorem dX7_carryOutAll_42 : decode cX7_carryOutAll 42 = .ok (.getfield 42, 3) := by decide +kernel
theorem dX7_carryOutAll_45 : decode cX7_carryOutAll 45 = .ok (.invokevirtual 146, 3) := by decide +kernel
theorem dX7_carryOutAll_48 : decode cX7_carryOutAll 48 = .ok (.ifCond .eq 10, 3) := by decide +kernel
theorem dX7_carryOutAll_51 : decode cX7_carryOutAll 51 = .ok (.aload_n 0, 1) := by decide +kernel
theorem dX7_carryOutAll_52 : decode cX7_carryOutAll 52 = .ok (.invokevirtual 150, 3) := by decide +kernel
theorem dX7_carryOutAll_55 : decode cX7_carryOutAll 55 = .ok (.ifCond .ge 5, 3) := by decide +kernel
theorem dX7_carryOutAll_58 : decode cX7_carryOutAll 58 = .ok (.iload_n 1, 1) := by decide +kernel
theorem dX7_carryOutAll_59 : decode cX7_carryOutAll 59 = .ok (.ireturn, 1) := by decide +kernel
theorem dX7_carryOutAll_60 : decode cX7_carryOutAll 60 = .ok (.iinc 1 1, 3) := by decide +kernel
theorem dX7_carryOutAll_63 : decode cX7_carryOutAll 63 = .ok (.goto (-54), 3) := by decide +kernel
theorem dX7_carryOutAll_66 : decode cX7_carryOutAll 66 = .ok (.bipush 80, 2) := by decide +kernel
theorem dX7_carryOutAll_68 : decode cX7_carryOutAll 68 = .ok (.ireturn, 1) := by decide +kernel
theorem dX7_carryOutOne_0 : decode cX7_carryOutOne 0 = .ok (.aload_n 0, 1) := by decide +kernel
theorem dX7_carryOutOne_1 : decode cX7_carryOutOne 1 = .ok (.getfield 42, 3) := by decide +kernel
theorem dX7_carryOutOne_4 : decode cX7_carryOutOne 4 = .ok (.getfield 153, 3) := by decide +kernel
theorem dX7_carryOutOne_7 : decode cX7_carryOutOne 7 = .ok (.lookupswitch 183 #[(99, 116), (107, 167), (111, 87), (112, 57), (118, 65), (120, 175)], 57) := by decide +kernel
theorem dX7_carryOutOne_64 : decode cX7_carryOutOne 64 = .ok (.aload_n 0, 1) := by decide +kernel
theorem dX7_carryOutOne_65 : decode cX7_carryOutOne 65 = .ok (.getfield 10, 3) := by decide +kernel
theorem dX7_carryOutOne_68 : decode cX7_carryOutOne 68 = .ok (.invokevirtual 62, 3) := by decide +kernel
theorem dX7_carryOutOne_71 : decode cX7_carryOutOne 71 = .ok (.ireturn, 1) := by decide +kernel
theorem dX7_carryOutOne_72 : decode cX7_carryOutOne 72 = .ok (.aload_n 0, 1) := by decide +kernel
theorem dX7_carryOutOne_73 : decode cX7_carryOutOne 73 = .ok (.getfield 10, 3) := by decide +kernel
theorem dX7_carryOutOne_76 : decode cX7_carryOutOne 76 = .ok (.aload_n 0, 1) := by decide +kernel
theorem dX7_carryOutOne_77 : decode cX7_carryOutOne 77 = .ok (.getfield 42, 3) := by decide +kernel
theorem dX7_carryOutOne_80 : decode cX7_carryOutOne 80 = .ok (.getfield 157, 3) := by decide +kernel
theorem dX7_carryOutOne_83 : decode cX7_carryOutOne 83 = .ok (.aload_n 0, 1) := by decide +kernel
theorem dX7_carryOutOne_84 : decode cX7_carryOutOne 84 = .ok (.getfield 42, 3) := by decide +kernel
theorem dX7_carryOutOne_87 : decode cX7_carryOutOne 87 = .ok (.getfield 160, 3) := by decide +kernel
theorem dX7_carryOutOne_90 : decode cX7_carryOutOne 90 = .ok (.invokevirtual 66, 3) := by decide +kernel
theorem dX7_carryOutOne_93 : decode cX7_carryOutOne 93 = .ok (.ireturn, 1) := by decide +kernel
theorem dX7_carryOutOne_94 : decode cX7_carryOutOne 94 = .ok (.aload_n 0, 1) := by decide +kernel
theorem dX7_carryOutOne_95 : decode cX7_carryOutOne 95 = .ok (.getfield 10, 3) := by decide +kernel
theorem dX7_carryOutOne_98 : decode cX7_carryOutOne 98 = .ok (.aload_n 0, 1) := by decide +kernel
theorem dX7_carryOutOne_99 : decode cX7_carryOutOne 99 = .ok (.getfield 42, 3) := by decide +kernel
theorem dX7_carryOutOne_102 : decode cX7_carryOutOne 102 = .ok (.getfield 157, 3) := by decide +kernel
theorem dX7_carryOutOne_105 : decode cX7_carryOutOne 105 = .ok (.aload_n 0, 1) := by decide +kernel
theorem dX7_carryOutOne_106 : decode cX7_carryOutOne 106 = .ok (.getfield 42, 3) := by decide +kernel
theorem dX7_carryOutOne_109 : decode cX7_carryOutOne 109 = .ok (.getfield 163, 3) := by decide +kernel
theorem dX7_carryOutOne_112 : decode cX7_carryOutOne 112 = .ok (.aload_n 0, 1) := by decide +kernel
theorem dX7_carryOutOne_113 : decode cX7_carryOutOne 113 = .ok (.getfield 42, 3) := by decide +kernel
theorem dX7_carryOutOne_116 : decode cX7_carryOutOne 116 = .ok (.getfield 166, 3) := by decide +kernel
theorem dX7_carryOutOne_119 : decode cX7_carryOutOne 119 = .ok (.invokevirtual 69, 3) := by decide +kernel
theorem dX7_carryOutOne_122 : decode cX7_carryOutOne 122 = .ok (.ireturn, 1) := by decide +kernel
theorem dX7_carryOutOne_123 : decode cX7_carryOutOne 123 = .ok (.aload_n 0, 1) := by decide +kernel
theorem dX7_carryOutOne_124 : decode cX7_carryOutOne 124 = .ok (.getfield 42, 3) := by decide +kernel
theorem dX7_carryOutOne_127 : decode cX7_carryOutOne 127 = .ok (.getfield 166, 3) := by decide +kernel
theorem dX7_carryOutOne_130 : decode cX7_carryOutOne 130 = .ok (.bipush (-6), 2) := by decide +kernel
theorem dX7_carryOutOne_132 : decode cX7_carryOutOne 132 = .ok (.if_icmp .ne 20, 3) := by decide +kernel
theorem dX7_carryOutOne_135 : decode cX7_carryOutOne 135 = .ok (.aload_n 0, 1) := by decide +kernel
theorem dX7_carryOutOne_136 : decode cX7_carryOutOne 136 = .ok (.getfield 10, 3) := by decide +kernel
theorem dX7_carryOutOne_139 : decode cX7_carryOutOne 139 = .ok (.aload_n 0, 1) := by decide +kernel
theorem dX7_carryOutOne_140 : decode cX7_carryOutOne 140 = .ok (.getfield 42, 3) := by decide +kernel
theorem dX7_carryOutOne_143 : decode cX7_carryOutOne 143 = .ok (.getfield 157, 3) := by decide +kernel
theorem dX7_carryOutOne_146 : decode cX7_carryOutOne 146 = .ok (.invokevirtual 78, 3) := by decide +kernel
theorem dX7_carryOutOne_149 : decode cX7_carryOutOne 149 = .ok (.goto 24, 3) := by decide +kernel
theorem dX7_carryOutOne_152 : decode cX7_carryOutOne 152 = .ok (.aload_n 0, 1) := by decide +kernel
theorem dX7_carryOutOne_153 : decode cX7_carryOutOne 153 = .ok (.getfield 10, 3) := by decide +kernel
theorem dX7_carryOutOne_156 : decode cX7_carryOutOne 156 = .ok (.aload_n 0, 1) := by decide +kernel
theorem dX7_carryOutOne_157 : decode cX7_carryOutOne 157 = .ok (.getfield 42, 3) := by decide +kernel
theorem dX7_carryOutOne_160 : decode cX7_carryOutOne 160 = .ok (.getfield 157, 3) := by decide +kernel
theorem dX7_carryOutOne_163 : decode cX7_carryOutOne 163 = .ok (.aload_n 0, 1) := by decide +kernel
theorem dX7_carryOutOne_164 : decode cX7_carryOutOne 164 = .ok (.getfield 42, 3) := by decide +kernel
theorem dX7_carryOutOne_167 : decode cX7_carryOutOne 167 = .ok (.getfield 166, 3) := by decide +kernel
theorem dX7_carryOutOne_170 : decode cX7_carryOutOne 170 = .ok (.invokevirtual 81, 3) := by decide +kernel
theorem dX7_carryOutOne_173 : decode cX7_carryOutOne 173 = .ok (.ireturn, 1) := by decide +kernel
theorem dX7_carryOutOne_174 : decode cX7_carryOutOne 174 = .ok (.aload_n 0, 1) := by decide +kernel
theorem dX7_carryOutOne_175 : decode cX7_carryOutOne 175 = .ok (.getfield 10, 3) := by decide +kernel
theorem dX7_carryOutOne_178 : decode cX7_carryOutOne 178 = .ok (.invokevirtual 75, 3) := by decide +kernel
theorem dX7_carryOutOne_181 : decode cX7_carryOutOne 181 = .ok (.ireturn, 1) := by decide +kernel
theorem dX7_carryOutOne_182 : decode cX7_carryOutOne 182 = .ok (.aload_n 0, 1) := by decide +kernel
theorem dX7_carryOutOne_183 : decode cX7_carryOutOne 183 = .ok (.getfield 10, 3) := by decide +kernel
theorem dX7_carryOutOne_186 : decode cX7_carryOutOne 186 = .ok (.invokevirtual 84, 3) := by decide +kernel
theorem dX7_carryOutOne_189 : decode cX7_carryOutOne 189 = .ok (.ireturn, 1) := by decide +kernel
theorem dX7_carryOutOne_190 : decode cX7_carryOutOne 190 = .ok (.bipush (-3), 2) := by decide +kernel
theorem dX7_carryOutOne_192 : decode cX7_carryOutOne 192 = .ok (.ireturn, 1) := by decide +kernel
theorem dX8_init_0 : decode cX8_init 0 = .ok (.aload_n 0, 1) := by decide +kernel
theorem dX8_init_1 : decode cX8_init 1 = .ok (.invokespecial 1, 3) := by decide +kernel
theorem dX8_init_4 : decode cX8_init 4 = .ok (.aload_n 0, 1) := by decide +kernel
theorem dX8_init_5 : decode cX8_init 5 = .ok (.sipush 276, 3) := by decide +kernel
theorem dX8_init_8 : decode cX8_init 8 = .ok (.newarray .int, 2) := by decide +kernel
theorem dX8_init_10 : decode cX8_init 10 = .ok (.putfield 7, 3) := by decide +kernel
theorem dX8_init_13 : decode cX8_init 13 = .ok (.aload_n 0, 1) := by decide +kernel
theorem dX8_init_14 : decode cX8_init 14 = .ok (.sipush 276, 3) := by decide +kernel
theorem dX8_init_17 : decode cX8_init 17 = .ok (.newarray .int, 2) := by decide +kernel
theorem dX8_init_19 : decode cX8_init 19 = .ok (.putfield 13, 3) := by decide +kernel
theorem dX8_init_22 : decode cX8_init 22 = .ok (.aload_n 0, 1) := by decide +kernel
theorem dX8_init_23 : decode cX8_init 23 = .ok (.sipush 1656, 3) := by decide +kernel
theorem dX8_init_26 : decode cX8_init 26 = .ok (.newarray .int, 2) := by decide +kernel
theorem dX8_init_28 : decode cX8_init 28 = .ok (.putfield 16, 3) := by decide +kernel
theorem dX8_init_31 : decode cX8_init 31 = .ok (.aload_n 0, 1) := by decide +kernel
theorem dX8_init_32 : decode cX8_init 32 = .ok (.sipush 552, 3) := by decide +kernel
theorem dX8_init_35 : decode cX8_init 35 = .ok (.newarray .int, 2) := by decide +kernel
theorem dX8_init_37 : decode cX8_init 37 = .ok (.putfield 19, 3) := by decide +kernel
theorem dX8_init_40 : decode cX8_init 40 = .ok (.aload_n 0, 1) := by decide +kernel
theorem dX8_init_41 : decode cX8_init 41 = .ok (.iconst 2, 1) := by decide +kernel
theorem dX8_init_42 : decode cX8_init 42 = .ok (.newarray .boolean, 2) := by decide +kernel
theorem dX8_init_44 : decode cX8_init 44 = .ok (.putfield 22, 3) := by decide +kernel
theorem dX8_init_47 : decode cX8_init 47 = .ok (.aload_n 0, 1) := by decide +kernel
theorem dX8_init_48 : decode cX8_init 48 = .ok (.sipush 164, 3) := by decide +kernel
theorem dX8_init_51 : decode cX8_init 51 = .ok (.newarray .int, 2) := by decide +kernel
theorem dX8_init_53 : decode cX8_init 53 = .ok (.putfield 26, 3) := by decide +kernel
theorem dX8_init_56 : decode cX8_init 56 = .ok (.aload_n 0, 1) := by decide +kernel
theorem dX8_init_57 : decode cX8_init 57 = .ok (.bipush 80, 2) := by decide +kernel
theorem dX8_init_59 : decode cX8_init 59 = .ok (.newarray .char, 2) := by decide +kernel
theorem dX8_init_61 : decode cX8_init 61 = .ok (.putfield 29, 3) := by decide +kernel
theorem dX8_init_64 : decode cX8_init 64 = .ok (.aload_n 0, 1) := by decide +kernel
theorem dX8_init_65 : decode cX8_init 65 = .ok (.getfield 7, 3) := by decide +kernel
theorem dX8_init_68 : decode cX8_init 68 = .ok (.iconst 0, 1) := by decide +kernel
theorem dX8_init_69 : decode cX8_init 69 = .ok (.iconst 1, 1) := by decide +kernel
theorem dX8_init_70 : decode cX8_init 70 = .ok (.iastore, 1) := by decide +kernel
theorem dX8_init_71 : decode cX8_init 71 = .ok (.aload_n 0, 1) := by decide +kernel
theorem dX8_init_72 : decode cX8_init 72 = .ok (.getfield 7, 3) := by decide +kernel
theorem dX8_init_75 : decode cX8_init 75 = .ok (.iconst 1, 1) := by decide +kernel
theorem dX8_init_76 : decode cX8_init 76 = .ok (.iconst 4, 1) := by decide +kernel
theorem dX8_init_77 : decode cX8_init 77 = .ok (.iastore, 1) := by decide +kernel
theorem dX8_init_78 : decode cX8_init 78 = .ok (.aload_n 0, 1) := by decide +kernel
theorem dX8_init_79 : decode cX8_init 79 = .ok (.getfield 7, 3) := by decide +kernel
theorem dX8_init_82 : decode cX8_init 82 = .ok (.iconst 2, 1) := by decide +kernel
theorem dX8_init_83 : decode cX8_init 83 = .ok (.iconst 3, 1) := by decide +kernel
theorem dX8_init_84 : decode cX8_init 84 = .ok (.iastore, 1) := by decide +kernel
theorem dX8_init_85 : decode cX8_init 85 = .ok (.aload_n 0, 1) := by decide +kernel
theorem dX8_init_86 : decode cX8_init 86 = .ok (.getfield 7, 3) := by decide +kernel
theorem dX8_init_89 : decode cX8_init 89 = .ok (.iconst 3, 1) := by decide +kernel
theorem dX8_init_90 : decode cX8_init 90 = .ok (.iconst 5, 1) := by decide +kernel
theorem dX8_init_91 : decode cX8_init 91 = .ok (.iastore, 1) := by decide +kernel
theorem dX8_init_92 : decode cX8_init 92 = .ok (.iconst 0, 1) := by decide +kernel
theorem dX8_init_93 : decode cX8_init 93 = .ok (.istore_n 1, 1) := by decide +kernel
theorem dX8_init_94 : decode cX8_init 94 = .ok (.iload_n 1, 1) := by decide +kernel
theorem dX8_init_95 : decode cX8_init 95 = .ok (.bipush 15, 2) := by decide +kernel
theorem dX8_init_97 : decode cX8_init 97 = .ok (.if_icmp .ge 19, 3) := by decide +kernel
theorem dX8_init_100 : decode cX8_init 100 = .ok (.aload_n 0, 1) := by decide +kernel
theorem dX8_init_101 : decode cX8_init 101 = .ok (.getfield 7, 3) := by decide +kernel
theorem dX8_init_104 : decode cX8_init 104 = .ok (.bipush 8, 2) := by decide +kernel
theorem dX8_init_106 : decode cX8_init 106 = .ok (.iload_n 1, 1) := by decide +kernel
theorem dX8_init_107 : decode cX8_init 107 = .ok (.iadd, 1) := by decide +kernel
theorem dX8_init_108 : decode cX8_init 108 = .ok (.iconst 1, 1) := by decide +kernel
theorem dX8_init_109 : decode cX8_init 109 = .ok (.iastore, 1) := by decide +kernel
theorem dX8_init_110 : decode cX8_init 110 = .ok (.iinc 1 1, 3) := by decide +kernel
theorem dX8_init_113 : decode cX8_init 113 = .ok (.goto (-19), 3) := by decide +kernel
theorem dX8_init_116 : decode cX8_init 116 = .ok (.return_, 1) := by decide +kernel
theorem dX8_in_0 : decode cX8_in 0 = .ok (.iload_n 0, 1) := by decide +kernel
theorem dX8_in_1 : decode cX8_in 1 = .ok (.iload_n 1, 1) := by decide +kernel
theorem dX8_in_2 : decode cX8_in 2 = .ok (.if_icmp .lt 12, 3) := by decide +kernel
theorem dX8_in_5 : decode cX8_in 5 = .ok (.iload_n 0, 1) := by decide +kernel
theorem dX8_in_6 : decode cX8_in 6 = .ok (.iload_n 2, 1) := by decide +kernel
theorem dX8_in_7 : decode cX8_in 7 = .ok (.if_icmp .gt 7, 3) := by decide +kernel
theorem dX8_in_10 : decode cX8_in 10 = .ok (.iconst 1, 1) := by decide +kernel
theorem dX8_in_11 : decode cX8_in 11 = .ok (.goto 4, 3) := by decide +kernel
theorem dX8_in_14 : decode cX8_in 14 = .ok (.iconst 0, 1) := by decide +kernel
theorem dX8_in_15 : decode cX8_in 15 = .ok (.ireturn, 1) := by decide +kernel
theorem dX8_p_0 : decode cX8_p 0 = .ok (.bipush 38, 2) := by decide +kernel
theorem dX8_p_2 : decode cX8_p 2 = .ok (.bipush 17, 2) := by decide +kernel
theorem dX8_p_4 : decode cX8_p 4 = .ok (.iload_n 0, 1) := by decide +kernel
theorem dX8_p_5 : decode cX8_p 5 = .ok (.imul, 1) := by decide +kernel
theorem dX8_p_6 : decode cX8_p 6 = .ok (.iadd, 1) := by decide +kernel
theorem dX8_p_7 : decode cX8_p 7 = .ok (.ireturn, 1) := by decide +kernel
theorem dX8_d_0 : decode cX8_d 0 = .ok (.bipush 23, 2) := by decide +kernel
theorem dX8_d_2 : decode cX8_d 2 = .ok (.iconst 5, 1) := by decide +kernel
theorem dX8_d_3 : decode cX8_d 3 = .ok (.iload_n 0, 1) := by decide +kernel
theorem dX8_d_4 : decode cX8_d 4 = .ok (.imul, 1) := by decide +kernel
theorem dX8_d_5 : decode cX8_d 5 = .ok (.iadd, 1) := by decide +kernel
theorem dX8_d_6 : decode cX8_d 6 = .ok (.ireturn, 1) := by decide +kernel
theorem dX8_isPerson_0 : decode cX8_isPerson 0 = .ok (.iload_n 1, 1) := by decide +kernel
theorem dX8_isPerson_1 : decode cX8_isPerson 1 = .ok (.iconst 0, 1) := by decide +kernel
theorem dX8_isPerson_2 : decode cX8_isPerson 2 = .ok (.aload_n 0, 1) := by decide +kernel
theorem dX8_isPerson_3 : decode cX8_isPerson 3 = .ok (.getfield 7, 3) := by decide +kernel
theorem dX8_isPerson_6 : decode cX8_isPerson 6 = .ok (.iconst 5, 1) := by decide +kernel
theorem dX8_isPerson_7 : decode cX8_isPerson 7 = .ok (.iaload, 1) := by decide +kernel
theorem dX8_isPerson_8 : decode cX8_isPerson 8 = .ok (.iconst 1, 1) := by decide +kernel
theorem dX8_isPerson_9 : decode cX8_isPerson 9 = .ok (.isub, 1) := by decide +kernel
theorem dX8_isPerson_10 : decode cX8_isPerson 10 = .ok (.invokestatic 33, 3) := by decide +kernel
theorem dX8_isPerson_13 : decode cX8_isPerson 13 = .ok (.ireturn, 1) := by decide +kernel
theorem dX8_isDish_0 : decode cX8_isDish 0 = .ok (.iload_n 0, 1) := by decide +kernel
theorem dX8_isDish_1 : decode cX8_isDish 1 = .ok (.iconst 0, 1) := by decide +kernel
theorem dX8_isDish_2 : decode cX8_isDish 2 = .ok (.iconst 2, 1) := by decide +kernel
theorem dX8_isDish_3 : decode cX8_isDish 3 = .ok (.invokestatic 33, 3) := by decide +kernel
theorem dX8_isDish_6 : decode cX8_isDish 6 = .ok (.ireturn, 1) := by decide +kernel
theorem dX8_hold_0 : decode cX8_hold 0 = .ok (.iconst 0, 1) := by decide +kernel
theorem dX8_hold_1 : decode cX8_hold 1 = .ok (.istore_n 1, 1) := by decide +kernel
theorem dX8_hold_2 : decode cX8_hold 2 = .ok (.iload_n 1, 1) := by decide +kernel
theorem dX8_hold_3 : decode cX8_hold 3 = .ok (.sipush 276, 3) := by decide +kernel
theorem dX8_hold_6 : decode cX8_hold 6 = .ok (.if_icmp .ge 21, 3) := by decide +kernel
theorem dX8_hold_9 : decode cX8_hold 9 = .ok (.aload_n 0, 1) := by decide +kernel
theorem dX8_hold_10 : decode cX8_hold 10 = .ok (.getfield 13, 3) := by decide +kernel
theorem dX8_hold_13 : decode cX8_hold 13 = .ok (.iload_n 1, 1) := by decide +kernel
theorem dX8_hold_14 : decode cX8_hold 14 = .ok (.aload_n 0, 1) := by decide +kernel
theorem dX8_hold_15 : decode cX8_hold 15 = .ok (.getfield 7, 3) := by decide +kernel
theorem dX8_hold_18 : decode cX8_hold 18 = .ok (.iload_n 1, 1) := by decide +kernel
theorem dX8_hold_19 : decode cX8_hold 19 = .ok (.iaload, 1) := by decide +kernel
theorem dX8_hold_20 : decode cX8_hold 20 = .ok (.iastore, 1) := by decide +kernel
theorem dX8_hold_21 : decode cX8_hold 21 = .ok (.iinc 1 1, 3) := by decide +kernel
theorem dX8_hold_24 : decode cX8_hold 24 = .ok (.goto (-22), 3) := by decide +kernel
theorem dX8_hold_27 : decode cX8_hold 27 = .ok (.return_, 1) := by decide +kernel
theorem dX8_recorded_0 : decode cX8_recorded 0 = .ok (.iload_n 1, 1) := by decide +kernel
theorem dX8_recorded_1 : decode cX8_recorded 1 = .ok (.ifCond .lt 99, 3) := by decide +kernel
theorem dX8_recorded_4 : decode cX8_recorded 4 = .ok (.aload_n 0, 1) := by decide +kernel
theorem dX8_recorded_5 : decode cX8_recorded 5 = .ok (.getfield 37, 3) := by decide +kernel
theorem dX8_recorded_8 : decode cX8_recorded 8 = .ok (.bipush 6, 2) := by decide +kernel
theorem dX8_recorded_10 : decode cX8_recorded 10 = .ok (.if_icmp .ne 44, 3) := by decide +kernel
theorem dX8_recorded_13 : decode cX8_recorded 13 = .ok (.iconst 0, 1) := by decide +kernel
theorem dX8_recorded_14 : decode cX8_recorded 14 = .ok (.istore_n 2, 1) := by decide +kernel
theorem dX8_recorded_15 : decode cX8_recorded 15 = .ok (.iload_n 2, 1) := by decide +kernel
theorem dX8_recorded_16 : decode cX8_recorded 16 = .ok (.sipush 1380, 3) := by decide +kernel
theorem dX8_recorded_19 : decode cX8_recorded 19 = .ok (.if_icmp .ge 25, 3) := by decide +kernel
theorem dX8_recorded_22 : decode cX8_recorded 22 = .ok (.aload_n 0, 1) := by decide +kernel
theorem dX8_recorded_23 : decode cX8_recorded 23 = .ok (.getfield 16, 3) := by decide +kernel
theorem dX8_recorded_26 : decode cX8_recorded 26 = .ok (.iload_n 2, 1) := by decide +kernel
theorem dX8_recorded_27 : decode cX8_recorded 27 = .ok (.aload_n 0, 1) := by decide +kernel
theorem dX8_recorded_28 : decode cX8_recorded 28 = .ok (.getfield 16, 3) := by decide +kernel
theorem dX8_recorded_31 : decode cX8_recorded 31 = .ok (.sipush 276, 3) := by decide +kernel
theorem dX8_recorded_34 : decode cX8_recorded 34 = .ok (.iload_n 2, 1) := by decide +kernel
theorem dX8_recorded_35 : decode cX8_recorded 35 = .ok (.iadd, 1) := by decide +kernel
theorem dX8_recorded_36 : decode cX8_recorded 36 = .ok (.iaload, 1) := by decide +kernel
theorem dX8_recorded_37 : decode cX8_recorded 37 = .ok (.iastore, 1) := by decide +kernel
theorem dX8_recorded_38 : decode cX8_recorded 38 = .ok (.iinc 2 1, 3) := by decide +kernel
theorem dX8_recorded_41 : decode cX8_recorded 41 = .ok (.goto (-26), 3) := by decide +kernel
theorem dX8_recorded_44 : decode cX8_recorded 44 = .ok (.aload_n 0, 1) := by decide +kernel
theorem dX8_recorded_45 : decode cX8_recorded 45 = .ok (.dup, 1) := by decide +kernel
theorem dX8_recorded_46 : decode cX8_recorded 46 = .ok (.getfield 37, 3) := by decide +kernel
theorem dX8_recorded_49 : decode cX8_recorded 49 = .ok (.iconst 1, 1) := by decide +kernel
theorem dX8_recorded_50 : decode cX8_recorded 50 = .ok (.isub, 1) := by decide +kernel
theorem dX8_recorded_51 : decode cX8_recorded 51 = .ok (.putfield 37, 3) := by decide +kernel
theorem dX8_recorded_54 : decode cX8_recorded 54 = .ok (.iconst 0, 1) := by decide +kernel
theorem dX8_recorded_55 : decode cX8_recorded 55 = .ok (.istore_n 2, 1) := by decide +kernel
theorem dX8_recorded_56 : decode cX8_recorded 56 = .ok (.iload_n 2, 1) := by decide +kernel
theorem dX8_recorded_57 : decode cX8_recorded 57 = .ok (.sipush 276, 3) := by decide +kernel
theorem dX8_recorded_60 : decode cX8_recorded 60 = .ok (.if_icmp .ge 30, 3) := by decide +kernel
theorem dX8_recorded_63 : decode cX8_recorded 63 = .ok (.aload_n 0, 1) := by decide +kernel
theorem dX8_recorded_64 : decode cX8_recorded 64 = .ok (.getfield 16, 3) := by decide +kernel
theorem dX8_recorded_67 : decode cX8_recorded 67 = .ok (.sipush 276, 3) := by decide +kernel
theorem dX8_recorded_70 : decode cX8_recorded 70 = .ok (.aload_n 0, 1) := by decide +kernel
theorem dX8_recorded_71 : decode cX8_recorded 71 = .ok (.getfield 37, 3) := by decide +kernel
theorem dX8_recorded_74 : decode cX8_recorded 74 = .ok (.imul, 1) := by decide +kernel
theorem dX8_recorded_75 : decode cX8_recorded 75 = .ok (.iload_n 2, 1) := by decide +kernel
theorem dX8_recorded_76 : decode cX8_recorded 76 = .ok (.iadd, 1) := by decide +kernel
theorem dX8_recorded_77 : decode cX8_recorded 77 = .ok (.aload_n 0, 1) := by decide +kernel
theorem dX8_recorded_78 : decode cX8_recorded 78 = .ok (.getfield 13, 3) := by decide +kernel
theorem dX8_recorded_81 : decode cX8_recorded 81 = .ok (.iload_n 2, 1) := by decide +kernel
theorem dX8_recorded_82 : decode cX8_recorded 82 = .ok (.iaload, 1) := by decide +kernel
theorem dX8_recorded_83 : decode cX8_recorded 83 = .ok (.iastore, 1) := by decide +kernel
theorem dX8_recorded_84 : decode cX8_recorded 84 = .ok (.iinc 2 1, 3) := by decide +kernel
theorem dX8_recorded_87 : decode cX8_recorded 87 = .ok (.goto (-31), 3) := by decide +kernel
theorem dX8_recorded_90 : decode cX8_recorded 90 = .ok (.aload_n 0, 1) := by decide +kernel
theorem dX8_recorded_91 : decode cX8_recorded 91 = .ok (.dup, 1) := by decide +kernel
theorem dX8_recorded_92 : decode cX8_recorded 92 = .ok (.getfield 37, 3) := by decide +kernel
theorem dX8_recorded_95 : decode cX8_recorded 95 = .ok (.iconst 1, 1) := by decide +kernel
theorem dX8_recorded_96 : decode cX8_recorded 96 = .ok (.iadd, 1) := by decide +kernel
theorem dX8_recorded_97 : decode cX8_recorded 97 = .ok (.putfield 37, 3) := by decide +kernel
theorem dX8_recorded_100 : decode cX8_recorded 100 = .ok (.iload_n 1, 1) := by decide +kernel
theorem dX8_recorded_101 : decode cX8_recorded 101 = .ok (.ireturn, 1) := by decide +kernel
theorem dX8_priceOn_0 : decode cX8_priceOn 0 = .ok (.aload_n 0, 1) := by decide +kernel
theorem dX8_priceOn_1 : decode cX8_priceOn 1 = .ok (.getfield 7, 3) := by decide +kernel
theorem dX8_priceOn_4 : decode cX8_priceOn 4 = .ok (.bipush 8, 2) := by decide +kernel
theorem dX8_priceOn_6 : decode cX8_priceOn 6 = .ok (.iload_n 1, 1) := by decide +kernel
theorem dX8_priceOn_7 : decode cX8_priceOn 7 = .ok (.iconst 5, 1) := by decide +kernel
theorem dX8_priceOn_8 : decode cX8_priceOn 8 = .ok (.irem, 1) := by decide +kernel
theorem dX8_priceOn_9 : decode cX8_priceOn 9 = .ok (.iconst 3, 1) := by decide +kernel
theorem dX8_priceOn_10 : decode cX8_priceOn 10 = .ok (.imul, 1) := by decide +kernel
theorem dX8_priceOn_11 : decode cX8_priceOn 11 = .ok (.iadd, 1) := by decide +kernel
theorem dX8_priceOn_12 : decode cX8_priceOn 12 = .ok (.iload_n 2, 1) := by decide +kernel
theorem dX8_priceOn_13 : decode cX8_priceOn 13 = .ok (.iadd, 1) := by decide +kernel
theorem dX8_priceOn_14 : decode cX8_priceOn 14 = .ok (.iaload, 1) := by decide +kernel
theorem dX8_priceOn_15 : decode cX8_priceOn 15 = .ok (.ireturn, 1) := by decide +kernel
theorem dX8_gives_0 : decode cX8_gives 0 = .ok (.aload_n 0, 1) := by decide +kernel
theorem dX8_gives_1 : decode cX8_gives 1 = .ok (.getfield 7, 3) := by decide +kernel
theorem dX8_gives_4 : decode cX8_gives 4 = .ok (.iload_n 1, 1) := by decide +kernel
theorem dX8_gives_5 : decode cX8_gives 5 = .ok (.invokestatic 41, 3) := by decide +kernel
theorem dX8_gives_8 : decode cX8_gives 8 = .ok (.iconst 0, 1) := by decide +kernel
theorem dX8_gives_9 : decode cX8_gives 9 = .ok (.iadd, 1) := by decide +kernel
theorem dX8_gives_10 : decode cX8_gives 10 = .ok (.iaload, 1) := by decide +kernel
theorem dX8_gives_11 : decode cX8_gives 11 = .ok (.iload_n 2, 1) := by decide +kernel
theorem dX8_gives_12 : decode cX8_gives 12 = .ok (.iadd, 1) := by decide +kernel
theorem dX8_gives_13 : decode cX8_gives 13 = .ok (.istore_n 3, 1) := by decide +kernel
theorem dX8_gives_14 : decode cX8_gives 14 = .ok (.aload_n 0, 1) := by decide +kernel
theorem dX8_gives_15 : decode cX8_gives 15 = .ok (.getfield 7, 3) := by decide +kernel
theorem dX8_gives_18 : decode cX8_gives 18 = .ok (.iload_n 1, 1) := by decide +kernel
theorem dX8_gives_19 : decode cX8_gives 19 = .ok (.invokestatic 41, 3) := by decide +kernel
theorem dX8_gives_22 : decode cX8_gives 22 = .ok (.iconst 0, 1) := by decide +kernel
theorem dX8_gives_23 : decode cX8_gives 23 = .ok (.iadd, 1) := by decide +kernel
theorem dX8_gives_24 : decode cX8_gives 24 = .ok (.iload_n 3, 1) := by decide +kernel
theorem dX8_gives_25 : decode cX8_gives 25 = .ok (.bipush 30, 2) := by decide +kernel
theorem dX8_gives_27 : decode cX8_gives 27 = .ok (.if_icmp .le 8, 3) := by decide +kernel
theorem dX8_gives_30 : decode cX8_gives 30 = .ok (.bipush 30, 2) := by decide +kernel
theorem dX8_gives_32 : decode cX8_gives 32 = .ok (.goto 4, 3) := by decide +kernel
theorem dX8_gives_35 : decode cX8_gives 35 = .ok (.iload_n 3, 1) := by decide +kernel
theorem dX8_gives_36 : decode cX8_gives 36 = .ok (.iastore, 1) := by decide +kernel
theorem dX8_gives_37 : decode cX8_gives 37 = .ok (.return_, 1) := by decide +kernel
theorem dX8_isFor_0 : decode cX8_isFor 0 = .ok (.aload_n 0, 1) := by decide +kernel
theorem dX8_isFor_1 : decode cX8_isFor 1 = .ok (.getfield 7, 3) := by decide +kernel
theorem dX8_isFor_4 : decode cX8_isFor 4 = .ok (.iload_n 1, 1) := by decide +kernel
theorem dX8_isFor_5 : decode cX8_isFor 5 = .ok (.invokestatic 41, 3) := by decide +kernel
theorem dX8_isFor_8 : decode cX8_isFor 8 = .ok (.iconst 1, 1) := by decide +kernel
theorem dX8_isFor_9 : decode cX8_isFor 9 = .ok (.iadd, 1) := by decide +kernel
theorem dX8_isFor_10 : decode cX8_isFor 10 = .ok (.iload_n 2, 1) := by decide +kernel
theorem dX8_isFor_11 : decode cX8_isFor 11 = .ok (.iadd, 1) := by decide +kernel
theorem dX8_isFor_12 : decode cX8_isFor 12 = .ok (.iaload, 1) := by decide +kernel
theorem dX8_isFor_13 : decode cX8_isFor 13 = .ok (.iload_n 3, 1) := by decide +kernel
theorem dX8_isFor_14 : decode cX8_isFor 14 = .ok (.iconst 1, 1) := by decide +kernel
theorem dX8_isFor_15 : decode cX8_isFor 15 = .ok (.iadd, 1) := by decide +kernel
theorem dX8_isFor_16 : decode cX8_isFor 16 = .ok (.if_icmp .ne 7, 3) := by decide +kernel
theorem dX8_isFor_19 : decode cX8_isFor 19 = .ok (.iconst 1, 1) := by decide +kernel
theorem dX8_isFor_20 : decode cX8_isFor 20 = .ok (.goto 4, 3) := by decide +kernel
theorem dX8_isFor_23 : decode cX8_isFor 23 = .ok (.iconst 0, 1) := by decide +kernel
theorem dX8_isFor_24 : decode cX8_isFor 24 = .ok (.ireturn, 1) := by decide +kernel
theorem dX8_doubt_0 : decode cX8_doubt 0 = .ok (.aload_n 0, 1) := by decide +kernel
theorem dX8_doubt_1 : decode cX8_doubt 1 = .ok (.getfield 7, 3) := by decide +kernel
theorem dX8_doubt_4 : decode cX8_doubt 4 = .ok (.iload_n 1, 1) := by decide +kernel
theorem dX8_doubt_5 : decode cX8_doubt 5 = .ok (.invokestatic 41, 3) := by decide +kernel
theorem dX8_doubt_8 : decode cX8_doubt 8 = .ok (.bipush 13, 2) := by decide +kernel
theorem dX8_doubt_10 : decode cX8_doubt 10 = .ok (.iadd, 1) := by decide +kernel
theorem dX8_doubt_11 : decode cX8_doubt 11 = .ok (.iaload, 1) := by decide +kernel
theorem dX8_doubt_12 : decode cX8_doubt 12 = .ok (.aload_n 0, 1) := by decide +kernel
theorem dX8_doubt_13 : decode cX8_doubt 13 = .ok (.getfield 7, 3) := by decide +kernel
theorem dX8_doubt_16 : decode cX8_doubt 16 = .ok (.iload_n 1, 1) := by decide +kernel
theorem dX8_doubt_17 : decode cX8_doubt 17 = .ok (.invokestatic 41, 3) := by decide +kernel
theorem dX8_doubt_20 : decode cX8_doubt 20 = .ok (.bipush 14, 2) := by decide +kernel
theorem dX8_doubt_22 : decode cX8_doubt 22 = .ok (.iadd, 1) := by decide +kernel
theorem dX8_doubt_23 : decode cX8_doubt 23 = .ok (.iaload, 1) := by decide +kernel
theorem dX8_doubt_24 : decode cX8_doubt 24 = .ok (.iadd, 1) := by decide +kernel
theorem dX8_doubt_25 : decode cX8_doubt 25 = .ok (.istore_n 2, 1) := by decide +kernel
theorem dX8_doubt_26 : decode cX8_doubt 26 = .ok (.iload_n 2, 1) := by decide +kernel
theorem dX8_doubt_27 : decode cX8_doubt 27 = .ok (.ifCond .ne 7, 3) := by decide +kernel
theorem dX8_doubt_30 : decode cX8_doubt 30 = .ok (.iconst 0, 1) := by decide +kernel
theorem dX8_doubt_31 : decode cX8_doubt 31 = .ok (.goto 20, 3) := by decide +kernel
theorem dX8_doubt_34 : decode cX8_doubt 34 = .ok (.bipush 100, 2) := by decide +kernel
theorem dX8_doubt_36 : decode cX8_doubt 36 = .ok (.aload_n 0, 1) := by decide +kernel
theorem dX8_doubt_37 : decode cX8_doubt 37 = .ok (.getfield 7, 3) := by decide +kernel
theorem dX8_doubt_40 : decode cX8_doubt 40 = .ok (.iload_n 1, 1) := by decide +kernel
theorem dX8_doubt_41 : decode cX8_doubt 41 = .ok (.invokestatic 41, 3) := by decide +kernel
theorem dX8_doubt_44 : decode cX8_doubt 44 = .ok (.bipush 14, 2) := by decide +kernel
theorem dX8_doubt_46 : decode cX8_doubt 46 = .ok (.iadd, 1) := by decide +kernel
theorem dX8_doubt_47 : decode cX8_doubt 47 = .ok (.iaload, 1) := by decide +kernel
theorem dX8_doubt_48 : decode cX8_doubt 48 = .ok (.imul, 1) := by decide +kernel
theorem dX8_doubt_49 : decode cX8_doubt 49 = .ok (.iload_n 2, 1) := by decide +kernel
theorem dX8_doubt_50 : decode cX8_doubt 50 = .ok (.idiv, 1) := by decide +kernel
theorem dX8_doubt_51 : decode cX8_doubt 51 = .ok (.ireturn, 1) := by decide +kernel
theorem dX8_toCook_0 : decode cX8_toCook 0 = .ok (.iconst 0, 1) := by decide +kernel
theorem dX8_toCook_1 : decode cX8_toCook 1 = .ok (.istore_n 2, 1) := by decide +kernel
theorem dX8_toCook_2 : decode cX8_toCook 2 = .ok (.iconst 0, 1) := by decide +kernel
theorem dX8_toCook_3 : decode cX8_toCook 3 = .ok (.istore_n 3, 1) := by decide +kernel
theorem dX8_toCook_4 : decode cX8_toCook 4 = .ok (.iload_n 3, 1) := by decide +kernel
theorem dX8_toCook_5 : decode cX8_toCook 5 = .ok (.aload_n 0, 1) := by decide +kernel
theorem dX8_toCook_6 : decode cX8_toCook 6 = .ok (.getfield 7, 3) := by decide +kernel
theorem dX8_toCook_9 : decode cX8_toCook 9 = .ok (.iconst 5, 1) := by decide +kernel
theorem dX8_toCook_10 : decode cX8_toCook 10 = .ok (.iaload, 1) := by decide +kernel
theorem dX8_toCook_11 : decode cX8_toCook 11 = .ok (.if_icmp .ge 34, 3) := by decide +kernel
theorem dX8_toCook_14 : decode cX8_toCook 14 = .ok (.iload_n 2, 1) := by decide +kernel
theorem dX8_toCook_15 : decode cX8_toCook 15 = .ok (.aload_n 0, 1) := by decide +kernel
theorem dX8_toCook_16 : decode cX8_toCook 16 = .ok (.iload_n 3, 1) := by decide +kernel
theorem dX8_toCook_17 : decode cX8_toCook 17 = .ok (.iconst 0, 1) := by decide +kernel
theorem dX8_toCook_18 : decode cX8_toCook 18 = .ok (.iload_n 1, 1) := by decide +kernel
theorem dX8_toCook_19 : decode cX8_toCook 19 = .ok (.invokevirtual 45, 3) := by decide +kernel
theorem dX8_toCook_22 : decode cX8_toCook 22 = .ok (.ifCond .eq 14, 3) := by decide +kernel
theorem dX8_toCook_25 : decode cX8_toCook 25 = .ok (.bipush 100, 2) := by decide +kernel
theorem dX8_toCook_27 : decode cX8_toCook 27 = .ok (.aload_n 0, 1) := by decide +kernel
theorem dX8_toCook_28 : decode cX8_toCook 28 = .ok (.iload_n 3, 1) := by decide +kernel
theorem dX8_toCook_29 : decode cX8_toCook 29 = .ok (.invokevirtual 48, 3) := by decide +kernel
theorem dX8_toCook_32 : decode cX8_toCook 32 = .ok (.isub, 1) := by decide +kernel
theorem dX8_toCook_33 : decode cX8_toCook 33 = .ok (.goto 4, 3) := by decide +kernel
theorem dX8_toCook_36 : decode cX8_toCook 36 = .ok (.iconst 0, 1) := by decide +kernel
theorem dX8_toCook_37 : decode cX8_toCook 37 = .ok (.iadd, 1) := by decide +kernel
theorem dX8_toCook_38 : decode cX8_toCook 38 = .ok (.istore_n 2, 1) := by decide +kernel
theorem dX8_toCook_39 : decode cX8_toCook 39 = .ok (.iinc 3 1, 3) := by decide +kernel
theorem dX8_toCook_42 : decode cX8_toCook 42 = .ok (.goto (-38), 3) := by decide +kernel
theorem dX8_toCook_45 : decode cX8_toCook 45 = .ok (.iload_n 2, 1) := by decide +kernel
theorem dX8_toCook_46 : decode cX8_toCook 46 = .ok (.bipush 99, 2) := by decide +kernel
theorem dX8_toCook_48 : decode cX8_toCook 48 = .ok (.iadd, 1) := by decide +kernel
theorem dX8_toCook_49 : decode cX8_toCook 49 = .ok (.bipush 100, 2) := by decide +kernel
theorem dX8_toCook_51 : decode cX8_toCook 51 = .ok (.idiv, 1) := by decide +kernel
theorem dX8_toCook_52 : decode cX8_toCook 52 = .ok (.aload_n 0, 1) := by decide +kernel
theorem dX8_toCook_53 : decode cX8_toCook 53 = .ok (.getfield 7, 3) := by decide +kernel
theorem dX8_toCook_56 : decode cX8_toCook 56 = .ok (.iconst 0, 1) := by decide +kernel
theorem dX8_toCook_57 : decode cX8_toCook 57 = .ok (.iaload, 1) := by decide +kernel
theorem dX8_toCook_58 : decode cX8_toCook 58 = .ok (.iadd, 1) := by decide +kernel
theorem dX8_toCook_59 : decode cX8_toCook 59 = .ok (.aload_n 0, 1) := by decide +kernel
theorem dX8_toCook_60 : decode cX8_toCook 60 = .ok (.getfield 7, 3) := by decide +kernel
theorem dX8_toCook_63 : decode cX8_toCook 63 = .ok (.iload_n 1, 1) := by decide +kernel
theorem dX8_toCook_64 : decode cX8_toCook 64 = .ok (.invokestatic 51, 3) := by decide +kernel
theorem dX8_toCook_67 : decode cX8_toCook 67 = .ok (.iconst 0, 1) := by decide +kernel
theorem dX8_toCook_68 : decode cX8_toCook 68 = .ok (.iadd, 1) := by decide +kernel
theorem dX8_toCook_69 : decode cX8_toCook 69 = .ok (.iaload, 1) := by decide +kernel
theorem dX8_toCook_70 : decode cX8_toCook 70 = .ok (.isub, 1) := by decide +kernel
theorem dX8_toCook_71 : decode cX8_toCook 71 = .ok (.istore_n 3, 1) := by decide +kernel
theorem dX8_toCook_72 : decode cX8_toCook 72 = .ok (.iload_n 3, 1) := by decide +kernel
theorem dX8_toCook_73 : decode cX8_toCook 73 = .ok (.ifCond .le 7, 3) := by decide +kernel
theorem dX8_toCook_76 : decode cX8_toCook 76 = .ok (.iload_n 3, 1) := by decide +kernel
theorem dX8_toCook_77 : decode cX8_toCook 77 = .ok (.goto 4, 3) := by decide +kernel
theorem dX8_toCook_80 : decode cX8_toCook 80 = .ok (.iconst 0, 1) := by decide +kernel
theorem dX8_toCook_81 : decode cX8_toCook 81 = .ok (.ireturn, 1) := by decide +kernel
theorem dX8_left_0 : decode cX8_left 0 = .ok (.aload_n 0, 1) := by decide +kernel
theorem dX8_left_1 : decode cX8_left 1 = .ok (.getfield 7, 3) := by decide +kernel
theorem dX8_left_4 : decode cX8_left 4 = .ok (.iload_n 1, 1) := by decide +kernel
theorem dX8_left_5 : decode cX8_left 5 = .ok (.invokestatic 51, 3) := by decide +kernel
theorem dX8_left_8 : decode cX8_left 8 = .ok (.iconst 0, 1) := by decide +kernel
theorem dX8_left_9 : decode cX8_left 9 = .ok (.iadd, 1) := by decide +kernel
theorem dX8_left_10 : decode cX8_left 10 = .ok (.iaload, 1) := by decide +kernel
theorem dX8_left_11 : decode cX8_left 11 = .ok (.aload_n 0, 1) := by decide +kernel
theorem dX8_left_12 : decode cX8_left 12 = .ok (.getfield 7, 3) := by decide +kernel
theorem dX8_left_15 : decode cX8_left 15 = .ok (.iload_n 1, 1) := by decide +kernel
theorem dX8_left_16 : decode cX8_left 16 = .ok (.invokestatic 51, 3) := by decide +kernel
theorem dX8_left_19 : decode cX8_left 19 = .ok (.iconst 1, 1) := by decide +kernel
theorem dX8_left_20 : decode cX8_left 20 = .ok (.iadd, 1) := by decide +kernel
theorem dX8_left_21 : decode cX8_left 21 = .ok (.iaload, 1) := by decide +kernel
theorem dX8_left_22 : decode cX8_left 22 = .ok (.iadd, 1) := by decide +kernel
theorem dX8_left_23 : decode cX8_left 23 = .ok (.ireturn, 1) := by decide +kernel
theorem dX8_awaited_0 : decode cX8_awaited 0 = .ok (.iconst 0, 1) := by decide +kernel
theorem dX8_awaited_1 : decode cX8_awaited 1 = .ok (.istore_n 2, 1) := by decide +kernel
theorem dX8_awaited_2 : decode cX8_awaited 2 = .ok (.iconst 0, 1) := by decide +kernel
theorem dX8_awaited_3 : decode cX8_awaited 3 = .ok (.istore_n 3, 1) := by decide +kernel
theorem dX8_awaited_4 : decode cX8_awaited 4 = .ok (.iload_n 3, 1) := by decide +kernel
theorem dX8_awaited_5 : decode cX8_awaited 5 = .ok (.aload_n 0, 1) := by decide +kernel
theorem dX8_awaited_6 : decode cX8_awaited 6 = .ok (.getfield 7, 3) := by decide +kernel
theorem dX8_awaited_9 : decode cX8_awaited 9 = .ok (.iconst 5, 1) := by decide +kernel
theorem dX8_awaited_10 : decode cX8_awaited 10 = .ok (.iaload, 1) := by decide +kernel
theorem dX8_awaited_11 : decode cX8_awaited 11 = .ok (.if_icmp .ge 42, 3) := by decide +kernel
theorem dX8_awaited_14 : decode cX8_awaited 14 = .ok (.iload_n 2, 1) := by decide +kernel
theorem dX8_awaited_15 : decode cX8_awaited 15 = .ok (.aload_n 0, 1) := by decide +kernel
theorem dX8_awaited_16 : decode cX8_awaited 16 = .ok (.iload_n 3, 1) := by decide +kernel
theorem dX8_awaited_17 : decode cX8_awaited 17 = .ok (.iconst 0, 1) := by decide +kernel
theorem dX8_awaited_18 : decode cX8_awaited 18 = .ok (.iload_n 1, 1) := by decide +kernel
theorem dX8_awaited_19 : decode cX8_awaited 19 = .ok (.invokevirtual 45, 3) := by decide +kernel
theorem dX8_awaited_22 : decode cX8_awaited 22 = .ok (.ifCond .eq 22, 3) := by decide +kernel
theorem dX8_awaited_25 : decode cX8_awaited 25 = .ok (.aload_n 0, 1) := by decide +kernel
theorem dX8_awaited_26 : decode cX8_awaited 26 = .ok (.getfield 7, 3) := by decide +kernel
theorem dX8_awaited_29 : decode cX8_awaited 29 = .ok (.iload_n 3, 1) := by decide +kernel
theorem dX8_awaited_30 : decode cX8_awaited 30 = .ok (.invokestatic 41, 3) := by decide +kernel
theorem dX8_awaited_33 : decode cX8_awaited 33 = .ok (.bipush 15, 2) := by decide +kernel
theorem dX8_awaited_35 : decode cX8_awaited 35 = .ok (.iadd, 1) := by decide +kernel
theorem dX8_awaited_36 : decode cX8_awaited 36 = .ok (.iaload, 1) := by decide +kernel
end
section
theorem dX8_awaited_37 : decode cX8_awaited 37 = .ok (.ifCond .ne 7, 3) := by decide +kernel
theorem dX8_awaited_40 : decode cX8_awaited 40 = .ok (.iconst 1, 1) := by decide +kernel
theorem dX8_awaited_41 : decode cX8_awaited 41 = .ok (.goto 4, 3) := by decide +kernel
theorem dX8_awaited_44 : decode cX8_awaited 44 = .ok (.iconst 0, 1) := by decide +kernel
theorem dX8_awaited_45 : decode cX8_awaited 45 = .ok (.iadd, 1) := by decide +kernel
theorem dX8_awaited_46 : decode cX8_awaited 46 = .ok (.istore_n 2, 1) := by decide +kernel
theorem dX8_awaited_47 : decode cX8_awaited 47 = .ok (.iinc 3 1, 3) := by decide +kernel
theorem dX8_awaited_50 : decode cX8_awaited 50 = .ok (.goto (-46), 3) := by decide +kernel
theorem dX8_awaited_53 : decode cX8_awaited 53 = .ok (.iload_n 2, 1) := by decide +kernel
theorem dX8_awaited_54 : decode cX8_awaited 54 = .ok (.ireturn, 1) := by decide +kernel
theorem dX8_eats_0 : decode cX8_eats 0 = .ok (.aload_n 0, 1) := by decide +kernel
theorem dX8_eats_1 : decode cX8_eats 1 = .ok (.getfield 7, 3) := by decide +kernel
theorem dX8_eats_4 : decode cX8_eats 4 = .ok (.iload_n 2, 1) := by decide +kernel
theorem dX8_eats_5 : decode cX8_eats 5 = .ok (.invokestatic 51, 3) := by decide +kernel
theorem dX8_eats_8 : decode cX8_eats 8 = .ok (.iconst 0, 1) := by decide +kernel
theorem dX8_eats_9 : decode cX8_eats 9 = .ok (.iadd, 1) := by decide +kernel
theorem dX8_eats_10 : decode cX8_eats 10 = .ok (.iaload, 1) := by decide +kernel
theorem dX8_eats_11 : decode cX8_eats 11 = .ok (.ifCond .le 7, 3) := by decide +kernel
theorem dX8_eats_14 : decode cX8_eats 14 = .ok (.iconst 0, 1) := by decide +kernel
theorem dX8_eats_15 : decode cX8_eats 15 = .ok (.goto 4, 3) := by decide +kernel
theorem dX8_eats_18 : decode cX8_eats 18 = .ok (.iconst 1, 1) := by decide +kernel
theorem dX8_eats_19 : decode cX8_eats 19 = .ok (.istore_n 3, 1) := by decide +kernel
theorem dX8_eats_20 : decode cX8_eats 20 = .ok (.aload_n 0, 1) := by decide +kernel
theorem dX8_eats_21 : decode cX8_eats 21 = .ok (.getfield 7, 3) := by decide +kernel
theorem dX8_eats_24 : decode cX8_eats 24 = .ok (.iload_n 2, 1) := by decide +kernel
theorem dX8_eats_25 : decode cX8_eats 25 = .ok (.invokestatic 51, 3) := by decide +kernel
theorem dX8_eats_28 : decode cX8_eats 28 = .ok (.iload_n 3, 1) := by decide +kernel
theorem dX8_eats_29 : decode cX8_eats 29 = .ok (.iadd, 1) := by decide +kernel
theorem dX8_eats_30 : decode cX8_eats 30 = .ok (.dup2, 1) := by decide +kernel
theorem dX8_eats_31 : decode cX8_eats 31 = .ok (.iaload, 1) := by decide +kernel
theorem dX8_eats_32 : decode cX8_eats 32 = .ok (.iconst 1, 1) := by decide +kernel
theorem dX8_eats_33 : decode cX8_eats 33 = .ok (.isub, 1) := by decide +kernel
theorem dX8_eats_34 : decode cX8_eats 34 = .ok (.iastore, 1) := by decide +kernel
theorem dX8_eats_35 : decode cX8_eats 35 = .ok (.aload_n 0, 1) := by decide +kernel
theorem dX8_eats_36 : decode cX8_eats 36 = .ok (.getfield 7, 3) := by decide +kernel
theorem dX8_eats_39 : decode cX8_eats 39 = .ok (.iload_n 2, 1) := by decide +kernel
theorem dX8_eats_40 : decode cX8_eats 40 = .ok (.invokestatic 51, 3) := by decide +kernel
theorem dX8_eats_43 : decode cX8_eats 43 = .ok (.iconst 3, 1) := by decide +kernel
theorem dX8_eats_44 : decode cX8_eats 44 = .ok (.iadd, 1) := by decide +kernel
theorem dX8_eats_45 : decode cX8_eats 45 = .ok (.dup2, 1) := by decide +kernel
theorem dX8_eats_46 : decode cX8_eats 46 = .ok (.iaload, 1) := by decide +kernel
theorem dX8_eats_47 : decode cX8_eats 47 = .ok (.iconst 1, 1) := by decide +kernel
theorem dX8_eats_48 : decode cX8_eats 48 = .ok (.iadd, 1) := by decide +kernel
theorem dX8_eats_49 : decode cX8_eats 49 = .ok (.iastore, 1) := by decide +kernel
theorem dX8_eats_50 : decode cX8_eats 50 = .ok (.aload_n 0, 1) := by decide +kernel
theorem dX8_eats_51 : decode cX8_eats 51 = .ok (.getfield 7, 3) := by decide +kernel
theorem dX8_eats_54 : decode cX8_eats 54 = .ok (.iload_n 1, 1) := by decide +kernel
theorem dX8_eats_55 : decode cX8_eats 55 = .ok (.invokestatic 41, 3) := by decide +kernel
theorem dX8_eats_58 : decode cX8_eats 58 = .ok (.bipush 16, 2) := by decide +kernel
theorem dX8_eats_60 : decode cX8_eats 60 = .ok (.iadd, 1) := by decide +kernel
theorem dX8_eats_61 : decode cX8_eats 61 = .ok (.dup2, 1) := by decide +kernel
theorem dX8_eats_62 : decode cX8_eats 62 = .ok (.iaload, 1) := by decide +kernel
theorem dX8_eats_63 : decode cX8_eats 63 = .ok (.iconst 1, 1) := by decide +kernel
theorem dX8_eats_64 : decode cX8_eats 64 = .ok (.iadd, 1) := by decide +kernel
theorem dX8_eats_65 : decode cX8_eats 65 = .ok (.iastore, 1) := by decide +kernel
theorem dX8_eats_66 : decode cX8_eats 66 = .ok (.return_, 1) := by decide +kernel
theorem dX8_comesHere_0 : decode cX8_comesHere 0 = .ok (.aload_n 0, 1) := by decide +kernel
theorem dX8_comesHere_1 : decode cX8_comesHere 1 = .ok (.getfield 7, 3) := by decide +kernel
theorem dX8_comesHere_4 : decode cX8_comesHere 4 = .ok (.iconst 5, 1) := by decide +kernel
theorem dX8_comesHere_5 : decode cX8_comesHere 5 = .ok (.iaload, 1) := by decide +kernel
theorem dX8_comesHere_6 : decode cX8_comesHere 6 = .ok (.bipush 14, 2) := by decide +kernel
theorem dX8_comesHere_8 : decode cX8_comesHere 8 = .ok (.if_icmp .ne 6, 3) := by decide +kernel
theorem dX8_comesHere_11 : decode cX8_comesHere 11 = .ok (.bipush (-4), 2) := by decide +kernel
theorem dX8_comesHere_13 : decode cX8_comesHere 13 = .ok (.ireturn, 1) := by decide +kernel
theorem dX8_comesHere_14 : decode cX8_comesHere 14 = .ok (.aload_n 0, 1) := by decide +kernel
theorem dX8_comesHere_15 : decode cX8_comesHere 15 = .ok (.getfield 7, 3) := by decide +kernel
theorem dX8_comesHere_18 : decode cX8_comesHere 18 = .ok (.iconst 5, 1) := by decide +kernel
theorem dX8_comesHere_19 : decode cX8_comesHere 19 = .ok (.iaload, 1) := by decide +kernel
theorem dX8_comesHere_20 : decode cX8_comesHere 20 = .ok (.istore_n 1, 1) := by decide +kernel
theorem dX8_comesHere_21 : decode cX8_comesHere 21 = .ok (.iconst 0, 1) := by decide +kernel
theorem dX8_comesHere_22 : decode cX8_comesHere 22 = .ok (.istore_n 2, 1) := by decide +kernel
theorem dX8_comesHere_23 : decode cX8_comesHere 23 = .ok (.iload_n 2, 1) := by decide +kernel
theorem dX8_comesHere_24 : decode cX8_comesHere 24 = .ok (.bipush 17, 2) := by decide +kernel
theorem dX8_comesHere_26 : decode cX8_comesHere 26 = .ok (.if_icmp .ge 21, 3) := by decide +kernel
theorem dX8_comesHere_29 : decode cX8_comesHere 29 = .ok (.aload_n 0, 1) := by decide +kernel
theorem dX8_comesHere_30 : decode cX8_comesHere 30 = .ok (.getfield 7, 3) := by decide +kernel
theorem dX8_comesHere_33 : decode cX8_comesHere 33 = .ok (.iload_n 1, 1) := by decide +kernel
theorem dX8_comesHere_34 : decode cX8_comesHere 34 = .ok (.invokestatic 41, 3) := by decide +kernel
theorem dX8_comesHere_37 : decode cX8_comesHere 37 = .ok (.iload_n 2, 1) := by decide +kernel
theorem dX8_comesHere_38 : decode cX8_comesHere 38 = .ok (.iadd, 1) := by decide +kernel
theorem dX8_comesHere_39 : decode cX8_comesHere 39 = .ok (.iconst 0, 1) := by decide +kernel
theorem dX8_comesHere_40 : decode cX8_comesHere 40 = .ok (.iastore, 1) := by decide +kernel
theorem dX8_comesHere_41 : decode cX8_comesHere 41 = .ok (.iinc 2 1, 3) := by decide +kernel
theorem dX8_comesHere_44 : decode cX8_comesHere 44 = .ok (.goto (-21), 3) := by decide +kernel
theorem dX8_comesHere_47 : decode cX8_comesHere 47 = .ok (.aload_n 0, 1) := by decide +kernel
theorem dX8_comesHere_48 : decode cX8_comesHere 48 = .ok (.getfield 7, 3) := by decide +kernel
theorem dX8_comesHere_51 : decode cX8_comesHere 51 = .ok (.iload_n 1, 1) := by decide +kernel
theorem dX8_comesHere_52 : decode cX8_comesHere 52 = .ok (.invokestatic 41, 3) := by decide +kernel
theorem dX8_comesHere_55 : decode cX8_comesHere 55 = .ok (.iconst 0, 1) := by decide +kernel
theorem dX8_comesHere_56 : decode cX8_comesHere 56 = .ok (.iadd, 1) := by decide +kernel
theorem dX8_comesHere_57 : decode cX8_comesHere 57 = .ok (.iconst 5, 1) := by decide +kernel
theorem dX8_comesHere_58 : decode cX8_comesHere 58 = .ok (.iastore, 1) := by decide +kernel
theorem dX8_comesHere_59 : decode cX8_comesHere 59 = .ok (.aload_n 0, 1) := by decide +kernel
theorem dX8_comesHere_60 : decode cX8_comesHere 60 = .ok (.getfield 7, 3) := by decide +kernel
theorem dX8_comesHere_63 : decode cX8_comesHere 63 = .ok (.iconst 5, 1) := by decide +kernel
theorem dX8_comesHere_64 : decode cX8_comesHere 64 = .ok (.dup2, 1) := by decide +kernel
theorem dX8_comesHere_65 : decode cX8_comesHere 65 = .ok (.iaload, 1) := by decide +kernel
theorem dX8_comesHere_66 : decode cX8_comesHere 66 = .ok (.iconst 1, 1) := by decide +kernel
theorem dX8_comesHere_67 : decode cX8_comesHere 67 = .ok (.iadd, 1) := by decide +kernel
theorem dX8_comesHere_68 : decode cX8_comesHere 68 = .ok (.iastore, 1) := by decide +kernel
theorem dX8_comesHere_69 : decode cX8_comesHere 69 = .ok (.iload_n 1, 1) := by decide +kernel
theorem dX8_comesHere_70 : decode cX8_comesHere 70 = .ok (.ireturn, 1) := by decide +kernel
theorem dX8_gets_0 : decode cX8_gets 0 = .ok (.aload_n 0, 1) := by decide +kernel
theorem dX8_gets_1 : decode cX8_gets 1 = .ok (.iload_n 1, 1) := by decide +kernel
theorem dX8_gets_2 : decode cX8_gets 2 = .ok (.invokevirtual 54, 3) := by decide +kernel
theorem dX8_gets_5 : decode cX8_gets 5 = .ok (.ifCond .ne 5, 3) := by decide +kernel
theorem dX8_gets_8 : decode cX8_gets 8 = .ok (.iconst (-1), 1) := by decide +kernel
theorem dX8_gets_9 : decode cX8_gets 9 = .ok (.ireturn, 1) := by decide +kernel
theorem dX8_gets_10 : decode cX8_gets 10 = .ok (.iload_n 2, 1) := by decide +kernel
theorem dX8_gets_11 : decode cX8_gets 11 = .ok (.iconst 1, 1) := by decide +kernel
theorem dX8_gets_12 : decode cX8_gets 12 = .ok (.bipush 30, 2) := by decide +kernel
theorem dX8_gets_14 : decode cX8_gets 14 = .ok (.invokestatic 33, 3) := by decide +kernel
theorem dX8_gets_17 : decode cX8_gets 17 = .ok (.ifCond .ne 6, 3) := by decide +kernel
theorem dX8_gets_20 : decode cX8_gets 20 = .ok (.bipush (-2), 2) := by decide +kernel
theorem dX8_gets_22 : decode cX8_gets 22 = .ok (.ireturn, 1) := by decide +kernel
theorem dX8_gets_23 : decode cX8_gets 23 = .ok (.aload_n 0, 1) := by decide +kernel
theorem dX8_gets_24 : decode cX8_gets 24 = .ok (.iload_n 1, 1) := by decide +kernel
theorem dX8_gets_25 : decode cX8_gets 25 = .ok (.iload_n 2, 1) := by decide +kernel
theorem dX8_gets_26 : decode cX8_gets 26 = .ok (.invokevirtual 58, 3) := by decide +kernel
theorem dX8_gets_29 : decode cX8_gets 29 = .ok (.aload_n 0, 1) := by decide +kernel
theorem dX8_gets_30 : decode cX8_gets 30 = .ok (.getfield 7, 3) := by decide +kernel
theorem dX8_gets_33 : decode cX8_gets 33 = .ok (.iload_n 1, 1) := by decide +kernel
theorem dX8_gets_34 : decode cX8_gets 34 = .ok (.invokestatic 41, 3) := by decide +kernel
theorem dX8_gets_37 : decode cX8_gets 37 = .ok (.iconst 0, 1) := by decide +kernel
theorem dX8_gets_38 : decode cX8_gets 38 = .ok (.iadd, 1) := by decide +kernel
theorem dX8_gets_39 : decode cX8_gets 39 = .ok (.iaload, 1) := by decide +kernel
theorem dX8_gets_40 : decode cX8_gets 40 = .ok (.ireturn, 1) := by decide +kernel
theorem dX8_reason_0 : decode cX8_reason 0 = .ok (.iload_n 1, 1) := by decide +kernel
theorem dX8_reason_1 : decode cX8_reason 1 = .ok (.invokestatic 41, 3) := by decide +kernel
theorem dX8_reason_4 : decode cX8_reason 4 = .ok (.istore 4, 2) := by decide +kernel
theorem dX8_reason_6 : decode cX8_reason 6 = .ok (.aload_n 0, 1) := by decide +kernel
theorem dX8_reason_7 : decode cX8_reason 7 = .ok (.getfield 7, 3) := by decide +kernel
theorem dX8_reason_10 : decode cX8_reason 10 = .ok (.iconst 4, 1) := by decide +kernel
theorem dX8_reason_11 : decode cX8_reason 11 = .ok (.iaload, 1) := by decide +kernel
theorem dX8_reason_12 : decode cX8_reason 12 = .ok (.iload_n 2, 1) := by decide +kernel
theorem dX8_reason_13 : decode cX8_reason 13 = .ok (.iadd, 1) := by decide +kernel
theorem dX8_reason_14 : decode cX8_reason 14 = .ok (.istore 5, 2) := by decide +kernel
theorem dX8_reason_16 : decode cX8_reason 16 = .ok (.iload_n 2, 1) := by decide +kernel
theorem dX8_reason_17 : decode cX8_reason 17 = .ok (.ifCond .ne 18, 3) := by decide +kernel
theorem dX8_reason_20 : decode cX8_reason 20 = .ok (.aload_n 0, 1) := by decide +kernel
theorem dX8_reason_21 : decode cX8_reason 21 = .ok (.getfield 7, 3) := by decide +kernel
theorem dX8_reason_24 : decode cX8_reason 24 = .ok (.bipush 6, 2) := by decide +kernel
theorem dX8_reason_26 : decode cX8_reason 26 = .ok (.iaload, 1) := by decide +kernel
theorem dX8_reason_27 : decode cX8_reason 27 = .ok (.iconst 1, 1) := by decide +kernel
theorem dX8_reason_28 : decode cX8_reason 28 = .ok (.if_icmp .ne 7, 3) := by decide +kernel
theorem dX8_reason_31 : decode cX8_reason 31 = .ok (.iconst 1, 1) := by decide +kernel
theorem dX8_reason_32 : decode cX8_reason 32 = .ok (.goto 64, 3) := by decide +kernel
theorem dX8_reason_35 : decode cX8_reason 35 = .ok (.iload 5, 2) := by decide +kernel
theorem dX8_reason_37 : decode cX8_reason 37 = .ok (.aload_n 0, 1) := by decide +kernel
theorem dX8_reason_38 : decode cX8_reason 38 = .ok (.getfield 7, 3) := by decide +kernel
theorem dX8_reason_41 : decode cX8_reason 41 = .ok (.iload 4, 2) := by decide +kernel
theorem dX8_reason_43 : decode cX8_reason 43 = .ok (.bipush 12, 2) := by decide +kernel
theorem dX8_reason_45 : decode cX8_reason 45 = .ok (.iadd, 1) := by decide +kernel
theorem dX8_reason_46 : decode cX8_reason 46 = .ok (.iaload, 1) := by decide +kernel
theorem dX8_reason_47 : decode cX8_reason 47 = .ok (.if_icmp .ge 7, 3) := by decide +kernel
theorem dX8_reason_50 : decode cX8_reason 50 = .ok (.iconst 2, 1) := by decide +kernel
theorem dX8_reason_51 : decode cX8_reason 51 = .ok (.goto 45, 3) := by decide +kernel
theorem dX8_reason_54 : decode cX8_reason 54 = .ok (.aload_n 0, 1) := by decide +kernel
theorem dX8_reason_55 : decode cX8_reason 55 = .ok (.getfield 7, 3) := by decide +kernel
theorem dX8_reason_58 : decode cX8_reason 58 = .ok (.iload 4, 2) := by decide +kernel
theorem dX8_reason_60 : decode cX8_reason 60 = .ok (.iconst 1, 1) := by decide +kernel
theorem dX8_reason_61 : decode cX8_reason 61 = .ok (.iadd, 1) := by decide +kernel
theorem dX8_reason_62 : decode cX8_reason 62 = .ok (.iload_n 2, 1) := by decide +kernel
theorem dX8_reason_63 : decode cX8_reason 63 = .ok (.iadd, 1) := by decide +kernel
theorem dX8_reason_64 : decode cX8_reason 64 = .ok (.iaload, 1) := by decide +kernel
theorem dX8_reason_65 : decode cX8_reason 65 = .ok (.ifCond .le 7, 3) := by decide +kernel
theorem dX8_reason_68 : decode cX8_reason 68 = .ok (.iconst 3, 1) := by decide +kernel
theorem dX8_reason_69 : decode cX8_reason 69 = .ok (.goto 27, 3) := by decide +kernel
theorem dX8_reason_72 : decode cX8_reason 72 = .ok (.aload_n 0, 1) := by decide +kernel
theorem dX8_reason_73 : decode cX8_reason 73 = .ok (.getfield 7, 3) := by decide +kernel
theorem dX8_reason_76 : decode cX8_reason 76 = .ok (.iload 4, 2) := by decide +kernel
theorem dX8_reason_78 : decode cX8_reason 78 = .ok (.iconst 0, 1) := by decide +kernel
theorem dX8_reason_79 : decode cX8_reason 79 = .ok (.iadd, 1) := by decide +kernel
theorem dX8_reason_80 : decode cX8_reason 80 = .ok (.iaload, 1) := by decide +kernel
theorem dX8_reason_81 : decode cX8_reason 81 = .ok (.aload_n 0, 1) := by decide +kernel
theorem dX8_reason_82 : decode cX8_reason 82 = .ok (.iload 5, 2) := by decide +kernel
theorem dX8_reason_84 : decode cX8_reason 84 = .ok (.iload_n 3, 1) := by decide +kernel
theorem dX8_reason_85 : decode cX8_reason 85 = .ok (.invokevirtual 62, 3) := by decide +kernel
theorem dX8_reason_88 : decode cX8_reason 88 = .ok (.if_icmp .ge 7, 3) := by decide +kernel
theorem dX8_reason_91 : decode cX8_reason 91 = .ok (.iconst 4, 1) := by decide +kernel
theorem dX8_reason_92 : decode cX8_reason 92 = .ok (.goto 4, 3) := by decide +kernel
theorem dX8_reason_95 : decode cX8_reason 95 = .ok (.iconst 0, 1) := by decide +kernel
theorem dX8_reason_96 : decode cX8_reason 96 = .ok (.ireturn, 1) := by decide +kernel
theorem dX8_ordersOf_0 : decode cX8_ordersOf 0 = .ok (.aload_n 0, 1) := by decide +kernel
theorem dX8_ordersOf_1 : decode cX8_ordersOf 1 = .ok (.iload_n 1, 1) := by decide +kernel
theorem dX8_ordersOf_2 : decode cX8_ordersOf 2 = .ok (.invokevirtual 54, 3) := by decide +kernel
theorem dX8_ordersOf_5 : decode cX8_ordersOf 5 = .ok (.ifCond .eq 10, 3) := by decide +kernel
theorem dX8_ordersOf_8 : decode cX8_ordersOf 8 = .ok (.iload_n 3, 1) := by decide +kernel
theorem dX8_ordersOf_9 : decode cX8_ordersOf 9 = .ok (.invokestatic 66, 3) := by decide +kernel
theorem dX8_ordersOf_12 : decode cX8_ordersOf 12 = .ok (.ifCond .ne 5, 3) := by decide +kernel
theorem dX8_ordersOf_15 : decode cX8_ordersOf 15 = .ok (.iconst (-1), 1) := by decide +kernel
theorem dX8_ordersOf_16 : decode cX8_ordersOf 16 = .ok (.ireturn, 1) := by decide +kernel
theorem dX8_ordersOf_17 : decode cX8_ordersOf 17 = .ok (.iload_n 2, 1) := by decide +kernel
theorem dX8_ordersOf_18 : decode cX8_ordersOf 18 = .ok (.iconst 0, 1) := by decide +kernel
theorem dX8_ordersOf_19 : decode cX8_ordersOf 19 = .ok (.iconst 4, 1) := by decide +kernel
theorem dX8_ordersOf_20 : decode cX8_ordersOf 20 = .ok (.invokestatic 33, 3) := by decide +kernel
theorem dX8_ordersOf_23 : decode cX8_ordersOf 23 = .ok (.ifCond .ne 6, 3) := by decide +kernel
theorem dX8_ordersOf_26 : decode cX8_ordersOf 26 = .ok (.bipush (-2), 2) := by decide +kernel
theorem dX8_ordersOf_28 : decode cX8_ordersOf 28 = .ok (.ireturn, 1) := by decide +kernel
theorem dX8_ordersOf_29 : decode cX8_ordersOf 29 = .ok (.aload_n 0, 1) := by decide +kernel
theorem dX8_ordersOf_30 : decode cX8_ordersOf 30 = .ok (.iload_n 1, 1) := by decide +kernel
theorem dX8_ordersOf_31 : decode cX8_ordersOf 31 = .ok (.iload_n 2, 1) := by decide +kernel
theorem dX8_ordersOf_32 : decode cX8_ordersOf 32 = .ok (.iload_n 3, 1) := by decide +kernel
theorem dX8_ordersOf_33 : decode cX8_ordersOf 33 = .ok (.invokevirtual 69, 3) := by decide +kernel
theorem dX8_ordersOf_36 : decode cX8_ordersOf 36 = .ok (.ifCond .le 6, 3) := by decide +kernel
theorem dX8_ordersOf_39 : decode cX8_ordersOf 39 = .ok (.bipush (-5), 2) := by decide +kernel
theorem dX8_ordersOf_41 : decode cX8_ordersOf 41 = .ok (.ireturn, 1) := by decide +kernel
theorem dX8_ordersOf_42 : decode cX8_ordersOf 42 = .ok (.aload_n 0, 1) := by decide +kernel
theorem dX8_ordersOf_43 : decode cX8_ordersOf 43 = .ok (.aload_n 0, 1) := by decide +kernel
theorem dX8_ordersOf_44 : decode cX8_ordersOf 44 = .ok (.getfield 7, 3) := by decide +kernel
theorem dX8_ordersOf_47 : decode cX8_ordersOf 47 = .ok (.iconst 4, 1) := by decide +kernel
theorem dX8_ordersOf_48 : decode cX8_ordersOf 48 = .ok (.iaload, 1) := by decide +kernel
theorem dX8_ordersOf_49 : decode cX8_ordersOf 49 = .ok (.iload_n 2, 1) := by decide +kernel
theorem dX8_ordersOf_50 : decode cX8_ordersOf 50 = .ok (.iadd, 1) := by decide +kernel
theorem dX8_ordersOf_51 : decode cX8_ordersOf 51 = .ok (.iload_n 3, 1) := by decide +kernel
theorem dX8_ordersOf_52 : decode cX8_ordersOf 52 = .ok (.invokevirtual 62, 3) := by decide +kernel
theorem dX8_ordersOf_55 : decode cX8_ordersOf 55 = .ok (.istore 4, 2) := by decide +kernel
theorem dX8_ordersOf_57 : decode cX8_ordersOf 57 = .ok (.aload_n 0, 1) := by decide +kernel
theorem dX8_ordersOf_58 : decode cX8_ordersOf 58 = .ok (.getfield 7, 3) := by decide +kernel
theorem dX8_ordersOf_61 : decode cX8_ordersOf 61 = .ok (.iload_n 1, 1) := by decide +kernel
theorem dX8_ordersOf_62 : decode cX8_ordersOf 62 = .ok (.invokestatic 41, 3) := by decide +kernel
theorem dX8_ordersOf_65 : decode cX8_ordersOf 65 = .ok (.iconst 1, 1) := by decide +kernel
theorem dX8_ordersOf_66 : decode cX8_ordersOf 66 = .ok (.iadd, 1) := by decide +kernel
theorem dX8_ordersOf_67 : decode cX8_ordersOf 67 = .ok (.iload_n 2, 1) := by decide +kernel
theorem dX8_ordersOf_68 : decode cX8_ordersOf 68 = .ok (.iadd, 1) := by decide +kernel
theorem dX8_ordersOf_69 : decode cX8_ordersOf 69 = .ok (.iload_n 3, 1) := by decide +kernel
theorem dX8_ordersOf_70 : decode cX8_ordersOf 70 = .ok (.iconst 1, 1) := by decide +kernel
theorem dX8_ordersOf_71 : decode cX8_ordersOf 71 = .ok (.iadd, 1) := by decide +kernel
theorem dX8_ordersOf_72 : decode cX8_ordersOf 72 = .ok (.iastore, 1) := by decide +kernel
theorem dX8_ordersOf_73 : decode cX8_ordersOf 73 = .ok (.aload_n 0, 1) := by decide +kernel
theorem dX8_ordersOf_74 : decode cX8_ordersOf 74 = .ok (.getfield 7, 3) := by decide +kernel
theorem dX8_ordersOf_77 : decode cX8_ordersOf 77 = .ok (.iload_n 1, 1) := by decide +kernel
theorem dX8_ordersOf_78 : decode cX8_ordersOf 78 = .ok (.invokestatic 41, 3) := by decide +kernel
theorem dX8_ordersOf_81 : decode cX8_ordersOf 81 = .ok (.bipush 6, 2) := by decide +kernel
theorem dX8_ordersOf_83 : decode cX8_ordersOf 83 = .ok (.iadd, 1) := by decide +kernel
theorem dX8_ordersOf_84 : decode cX8_ordersOf 84 = .ok (.iload_n 2, 1) := by decide +kernel
theorem dX8_ordersOf_85 : decode cX8_ordersOf 85 = .ok (.iadd, 1) := by decide +kernel
theorem dX8_ordersOf_86 : decode cX8_ordersOf 86 = .ok (.iload 4, 2) := by decide +kernel
theorem dX8_ordersOf_88 : decode cX8_ordersOf 88 = .ok (.iastore, 1) := by decide +kernel
theorem dX8_ordersOf_89 : decode cX8_ordersOf 89 = .ok (.aload_n 0, 1) := by decide +kernel
theorem dX8_ordersOf_90 : decode cX8_ordersOf 90 = .ok (.getfield 7, 3) := by decide +kernel
theorem dX8_ordersOf_93 : decode cX8_ordersOf 93 = .ok (.iload_n 1, 1) := by decide +kernel
theorem dX8_ordersOf_94 : decode cX8_ordersOf 94 = .ok (.invokestatic 41, 3) := by decide +kernel
theorem dX8_ordersOf_97 : decode cX8_ordersOf 97 = .ok (.iconst 0, 1) := by decide +kernel
theorem dX8_ordersOf_98 : decode cX8_ordersOf 98 = .ok (.iadd, 1) := by decide +kernel
theorem dX8_ordersOf_99 : decode cX8_ordersOf 99 = .ok (.dup2, 1) := by decide +kernel
theorem dX8_ordersOf_100 : decode cX8_ordersOf 100 = .ok (.iaload, 1) := by decide +kernel
theorem dX8_ordersOf_101 : decode cX8_ordersOf 101 = .ok (.iload 4, 2) := by decide +kernel
theorem dX8_ordersOf_103 : decode cX8_ordersOf 103 = .ok (.isub, 1) := by decide +kernel
theorem dX8_ordersOf_104 : decode cX8_ordersOf 104 = .ok (.iastore, 1) := by decide +kernel
theorem dX8_ordersOf_105 : decode cX8_ordersOf 105 = .ok (.aload_n 0, 1) := by decide +kernel
theorem dX8_ordersOf_106 : decode cX8_ordersOf 106 = .ok (.getfield 7, 3) := by decide +kernel
theorem dX8_ordersOf_109 : decode cX8_ordersOf 109 = .ok (.iload_n 1, 1) := by decide +kernel
theorem dX8_ordersOf_110 : decode cX8_ordersOf 110 = .ok (.invokestatic 41, 3) := by decide +kernel
theorem dX8_ordersOf_113 : decode cX8_ordersOf 113 = .ok (.iconst 0, 1) := by decide +kernel
theorem dX8_ordersOf_114 : decode cX8_ordersOf 114 = .ok (.iadd, 1) := by decide +kernel
theorem dX8_ordersOf_115 : decode cX8_ordersOf 115 = .ok (.iaload, 1) := by decide +kernel
theorem dX8_ordersOf_116 : decode cX8_ordersOf 116 = .ok (.ireturn, 1) := by decide +kernel
theorem dX8_cooks_0 : decode cX8_cooks 0 = .ok (.aload_n 0, 1) := by decide +kernel
theorem dX8_cooks_1 : decode cX8_cooks 1 = .ok (.getfield 7, 3) := by decide +kernel
theorem dX8_cooks_4 : decode cX8_cooks 4 = .ok (.bipush 6, 2) := by decide +kernel
theorem dX8_cooks_6 : decode cX8_cooks 6 = .ok (.iaload, 1) := by decide +kernel
theorem dX8_cooks_7 : decode cX8_cooks 7 = .ok (.iconst 1, 1) := by decide +kernel
theorem dX8_cooks_8 : decode cX8_cooks 8 = .ok (.if_icmp .ne 6, 3) := by decide +kernel
theorem dX8_cooks_11 : decode cX8_cooks 11 = .ok (.bipush (-5), 2) := by decide +kernel
theorem dX8_cooks_13 : decode cX8_cooks 13 = .ok (.ireturn, 1) := by decide +kernel
theorem dX8_cooks_14 : decode cX8_cooks 14 = .ok (.iconst 0, 1) := by decide +kernel
theorem dX8_cooks_15 : decode cX8_cooks 15 = .ok (.istore_n 1, 1) := by decide +kernel
theorem dX8_cooks_16 : decode cX8_cooks 16 = .ok (.iconst 0, 1) := by decide +kernel
theorem dX8_cooks_17 : decode cX8_cooks 17 = .ok (.istore_n 2, 1) := by decide +kernel
theorem dX8_cooks_18 : decode cX8_cooks 18 = .ok (.iload_n 2, 1) := by decide +kernel
theorem dX8_cooks_19 : decode cX8_cooks 19 = .ok (.iconst 3, 1) := by decide +kernel
theorem dX8_cooks_20 : decode cX8_cooks 20 = .ok (.if_icmp .ge 46, 3) := by decide +kernel
theorem dX8_cooks_23 : decode cX8_cooks 23 = .ok (.aload_n 0, 1) := by decide +kernel
theorem dX8_cooks_24 : decode cX8_cooks 24 = .ok (.iload_n 2, 1) := by decide +kernel
theorem dX8_cooks_25 : decode cX8_cooks 25 = .ok (.invokevirtual 73, 3) := by decide +kernel
theorem dX8_cooks_28 : decode cX8_cooks 28 = .ok (.istore_n 3, 1) := by decide +kernel
theorem dX8_cooks_29 : decode cX8_cooks 29 = .ok (.aload_n 0, 1) := by decide +kernel
theorem dX8_cooks_30 : decode cX8_cooks 30 = .ok (.getfield 7, 3) := by decide +kernel
theorem dX8_cooks_33 : decode cX8_cooks 33 = .ok (.iload_n 2, 1) := by decide +kernel
theorem dX8_cooks_34 : decode cX8_cooks 34 = .ok (.invokestatic 51, 3) := by decide +kernel
theorem dX8_cooks_37 : decode cX8_cooks 37 = .ok (.iconst 1, 1) := by decide +kernel
theorem dX8_cooks_38 : decode cX8_cooks 38 = .ok (.iadd, 1) := by decide +kernel
theorem dX8_cooks_39 : decode cX8_cooks 39 = .ok (.iload_n 3, 1) := by decide +kernel
theorem dX8_cooks_40 : decode cX8_cooks 40 = .ok (.iastore, 1) := by decide +kernel
theorem dX8_cooks_41 : decode cX8_cooks 41 = .ok (.aload_n 0, 1) := by decide +kernel
theorem dX8_cooks_42 : decode cX8_cooks 42 = .ok (.getfield 7, 3) := by decide +kernel
theorem dX8_cooks_45 : decode cX8_cooks 45 = .ok (.iload_n 2, 1) := by decide +kernel
theorem dX8_cooks_46 : decode cX8_cooks 46 = .ok (.invokestatic 51, 3) := by decide +kernel
theorem dX8_cooks_49 : decode cX8_cooks 49 = .ok (.iconst 2, 1) := by decide +kernel
theorem dX8_cooks_50 : decode cX8_cooks 50 = .ok (.iadd, 1) := by decide +kernel
theorem dX8_cooks_51 : decode cX8_cooks 51 = .ok (.dup2, 1) := by decide +kernel
theorem dX8_cooks_52 : decode cX8_cooks 52 = .ok (.iaload, 1) := by decide +kernel
theorem dX8_cooks_53 : decode cX8_cooks 53 = .ok (.iload_n 3, 1) := by decide +kernel
theorem dX8_cooks_54 : decode cX8_cooks 54 = .ok (.iadd, 1) := by decide +kernel
theorem dX8_cooks_55 : decode cX8_cooks 55 = .ok (.iastore, 1) := by decide +kernel
theorem dX8_cooks_56 : decode cX8_cooks 56 = .ok (.iload_n 1, 1) := by decide +kernel
theorem dX8_cooks_57 : decode cX8_cooks 57 = .ok (.iload_n 3, 1) := by decide +kernel
theorem dX8_cooks_58 : decode cX8_cooks 58 = .ok (.iadd, 1) := by decide +kernel
theorem dX8_cooks_59 : decode cX8_cooks 59 = .ok (.istore_n 1, 1) := by decide +kernel
theorem dX8_cooks_60 : decode cX8_cooks 60 = .ok (.iinc 2 1, 3) := by decide +kernel
theorem dX8_cooks_63 : decode cX8_cooks 63 = .ok (.goto (-45), 3) := by decide +kernel
theorem dX8_cooks_66 : decode cX8_cooks 66 = .ok (.aload_n 0, 1) := by decide +kernel
theorem dX8_cooks_67 : decode cX8_cooks 67 = .ok (.getfield 7, 3) := by decide +kernel
theorem dX8_cooks_70 : decode cX8_cooks 70 = .ok (.bipush 6, 2) := by decide +kernel
theorem dX8_cooks_72 : decode cX8_cooks 72 = .ok (.iconst 1, 1) := by decide +kernel
theorem dX8_cooks_73 : decode cX8_cooks 73 = .ok (.iastore, 1) := by decide +kernel
theorem dX8_cooks_74 : decode cX8_cooks 74 = .ok (.iload_n 1, 1) := by decide +kernel
theorem dX8_cooks_75 : decode cX8_cooks 75 = .ok (.ireturn, 1) := by decide +kernel
theorem dX8_comes_0 : decode cX8_comes 0 = .ok (.aload_n 0, 1) := by decide +kernel
theorem dX8_comes_1 : decode cX8_comes 1 = .ok (.iload_n 1, 1) := by decide +kernel
theorem dX8_comes_2 : decode cX8_comes 2 = .ok (.invokevirtual 54, 3) := by decide +kernel
theorem dX8_comes_5 : decode cX8_comes 5 = .ok (.ifCond .ne 5, 3) := by decide +kernel
theorem dX8_comes_8 : decode cX8_comes 8 = .ok (.iconst (-1), 1) := by decide +kernel
theorem dX8_comes_9 : decode cX8_comes 9 = .ok (.ireturn, 1) := by decide +kernel
theorem dX8_comes_10 : decode cX8_comes 10 = .ok (.iload_n 1, 1) := by decide +kernel
theorem dX8_comes_11 : decode cX8_comes 11 = .ok (.invokestatic 41, 3) := by decide +kernel
theorem dX8_comes_14 : decode cX8_comes 14 = .ok (.istore_n 2, 1) := by decide +kernel
theorem dX8_comes_15 : decode cX8_comes 15 = .ok (.aload_n 0, 1) := by decide +kernel
theorem dX8_comes_16 : decode cX8_comes 16 = .ok (.getfield 7, 3) := by decide +kernel
theorem dX8_comes_19 : decode cX8_comes 19 = .ok (.bipush 6, 2) := by decide +kernel
theorem dX8_comes_21 : decode cX8_comes 21 = .ok (.iaload, 1) := by decide +kernel
theorem dX8_comes_22 : decode cX8_comes 22 = .ok (.ifCond .eq 27, 3) := by decide +kernel
theorem dX8_comes_25 : decode cX8_comes 25 = .ok (.aload_n 0, 1) := by decide +kernel
theorem dX8_comes_26 : decode cX8_comes 26 = .ok (.getfield 7, 3) := by decide +kernel
theorem dX8_comes_29 : decode cX8_comes 29 = .ok (.iload_n 2, 1) := by decide +kernel
theorem dX8_comes_30 : decode cX8_comes 30 = .ok (.iconst 1, 1) := by decide +kernel
theorem dX8_comes_31 : decode cX8_comes 31 = .ok (.iadd, 1) := by decide +kernel
theorem dX8_comes_32 : decode cX8_comes 32 = .ok (.iaload, 1) := by decide +kernel
theorem dX8_comes_33 : decode cX8_comes 33 = .ok (.ifCond .eq 16, 3) := by decide +kernel
theorem dX8_comes_36 : decode cX8_comes 36 = .ok (.aload_n 0, 1) := by decide +kernel
theorem dX8_comes_37 : decode cX8_comes 37 = .ok (.getfield 7, 3) := by decide +kernel
theorem dX8_comes_40 : decode cX8_comes 40 = .ok (.iload_n 2, 1) := by decide +kernel
theorem dX8_comes_41 : decode cX8_comes 41 = .ok (.bipush 15, 2) := by decide +kernel
theorem dX8_comes_43 : decode cX8_comes 43 = .ok (.iadd, 1) := by decide +kernel
theorem dX8_comes_44 : decode cX8_comes 44 = .ok (.iaload, 1) := by decide +kernel
theorem dX8_comes_45 : decode cX8_comes 45 = .ok (.iconst 1, 1) := by decide +kernel
theorem dX8_comes_46 : decode cX8_comes 46 = .ok (.if_icmp .ne 6, 3) := by decide +kernel
theorem dX8_comes_49 : decode cX8_comes 49 = .ok (.bipush (-5), 2) := by decide +kernel
theorem dX8_comes_51 : decode cX8_comes 51 = .ok (.ireturn, 1) := by decide +kernel
theorem dX8_comes_52 : decode cX8_comes 52 = .ok (.aload_n 0, 1) := by decide +kernel
theorem dX8_comes_53 : decode cX8_comes 53 = .ok (.getfield 7, 3) := by decide +kernel
theorem dX8_comes_56 : decode cX8_comes 56 = .ok (.iload_n 2, 1) := by decide +kernel
theorem dX8_comes_57 : decode cX8_comes 57 = .ok (.iconst 1, 1) := by decide +kernel
theorem dX8_comes_58 : decode cX8_comes 58 = .ok (.iadd, 1) := by decide +kernel
theorem dX8_comes_59 : decode cX8_comes 59 = .ok (.iaload, 1) := by decide +kernel
theorem dX8_comes_60 : decode cX8_comes 60 = .ok (.iconst 1, 1) := by decide +kernel
theorem dX8_comes_61 : decode cX8_comes 61 = .ok (.isub, 1) := by decide +kernel
theorem dX8_comes_62 : decode cX8_comes 62 = .ok (.istore_n 3, 1) := by decide +kernel
theorem dX8_comes_63 : decode cX8_comes 63 = .ok (.aload_n 0, 1) := by decide +kernel
theorem dX8_comes_64 : decode cX8_comes 64 = .ok (.iload_n 3, 1) := by decide +kernel
theorem dX8_comes_65 : decode cX8_comes 65 = .ok (.invokevirtual 76, 3) := by decide +kernel
theorem dX8_comes_68 : decode cX8_comes 68 = .ok (.ifCond .le 7, 3) := by decide +kernel
theorem dX8_comes_71 : decode cX8_comes 71 = .ok (.iconst 1, 1) := by decide +kernel
theorem dX8_comes_72 : decode cX8_comes 72 = .ok (.goto 4, 3) := by decide +kernel
theorem dX8_comes_75 : decode cX8_comes 75 = .ok (.iconst 0, 1) := by decide +kernel
theorem dX8_comes_76 : decode cX8_comes 76 = .ok (.istore 4, 2) := by decide +kernel
theorem dX8_comes_78 : decode cX8_comes 78 = .ok (.aload_n 0, 1) := by decide +kernel
theorem dX8_comes_79 : decode cX8_comes 79 = .ok (.getfield 7, 3) := by decide +kernel
theorem dX8_comes_82 : decode cX8_comes 82 = .ok (.iload_n 2, 1) := by decide +kernel
theorem dX8_comes_83 : decode cX8_comes 83 = .ok (.bipush 15, 2) := by decide +kernel
theorem dX8_comes_85 : decode cX8_comes 85 = .ok (.iadd, 1) := by decide +kernel
theorem dX8_comes_86 : decode cX8_comes 86 = .ok (.iconst 1, 1) := by decide +kernel
theorem dX8_comes_87 : decode cX8_comes 87 = .ok (.iastore, 1) := by decide +kernel
theorem dX8_comes_88 : decode cX8_comes 88 = .ok (.aload_n 0, 1) := by decide +kernel
theorem dX8_comes_89 : decode cX8_comes 89 = .ok (.getfield 7, 3) := by decide +kernel
theorem dX8_comes_92 : decode cX8_comes 92 = .ok (.iload_n 2, 1) := by decide +kernel
theorem dX8_comes_93 : decode cX8_comes 93 = .ok (.bipush 13, 2) := by decide +kernel
theorem dX8_comes_95 : decode cX8_comes 95 = .ok (.iadd, 1) := by decide +kernel
theorem dX8_comes_96 : decode cX8_comes 96 = .ok (.dup2, 1) := by decide +kernel
theorem dX8_comes_97 : decode cX8_comes 97 = .ok (.iaload, 1) := by decide +kernel
theorem dX8_comes_98 : decode cX8_comes 98 = .ok (.iconst 1, 1) := by decide +kernel
theorem dX8_comes_99 : decode cX8_comes 99 = .ok (.iadd, 1) := by decide +kernel
theorem dX8_comes_100 : decode cX8_comes 100 = .ok (.iastore, 1) := by decide +kernel
theorem dX8_comes_101 : decode cX8_comes 101 = .ok (.aload_n 0, 1) := by decide +kernel
theorem dX8_comes_102 : decode cX8_comes 102 = .ok (.getfield 7, 3) := by decide +kernel
theorem dX8_comes_105 : decode cX8_comes 105 = .ok (.iload_n 2, 1) := by decide +kernel
theorem dX8_comes_106 : decode cX8_comes 106 = .ok (.bipush 11, 2) := by decide +kernel
theorem dX8_comes_108 : decode cX8_comes 108 = .ok (.iadd, 1) := by decide +kernel
theorem dX8_comes_109 : decode cX8_comes 109 = .ok (.iconst 0, 1) := by decide +kernel
theorem dX8_comes_110 : decode cX8_comes 110 = .ok (.iastore, 1) := by decide +kernel
theorem dX8_comes_111 : decode cX8_comes 111 = .ok (.iload 4, 2) := by decide +kernel
theorem dX8_comes_113 : decode cX8_comes 113 = .ok (.ifCond .eq 12, 3) := by decide +kernel
theorem dX8_comes_116 : decode cX8_comes 116 = .ok (.aload_n 0, 1) := by decide +kernel
theorem dX8_comes_117 : decode cX8_comes 117 = .ok (.iload_n 1, 1) := by decide +kernel
theorem dX8_comes_118 : decode cX8_comes 118 = .ok (.iload_n 3, 1) := by decide +kernel
theorem dX8_comes_119 : decode cX8_comes 119 = .ok (.invokevirtual 79, 3) := by decide +kernel
theorem dX8_comes_122 : decode cX8_comes 122 = .ok (.goto 17, 3) := by decide +kernel
theorem dX8_comes_125 : decode cX8_comes 125 = .ok (.aload_n 0, 1) := by decide +kernel
theorem dX8_comes_126 : decode cX8_comes 126 = .ok (.iload_n 1, 1) := by decide +kernel
theorem dX8_comes_127 : decode cX8_comes 127 = .ok (.aload_n 0, 1) := by decide +kernel
theorem dX8_comes_128 : decode cX8_comes 128 = .ok (.getfield 7, 3) := by decide +kernel
theorem dX8_comes_131 : decode cX8_comes 131 = .ok (.iload_n 2, 1) := by decide +kernel
theorem dX8_comes_132 : decode cX8_comes 132 = .ok (.bipush 6, 2) := by decide +kernel
theorem dX8_comes_134 : decode cX8_comes 134 = .ok (.iadd, 1) := by decide +kernel
theorem dX8_comes_135 : decode cX8_comes 135 = .ok (.iaload, 1) := by decide +kernel
theorem dX8_comes_136 : decode cX8_comes 136 = .ok (.invokevirtual 58, 3) := by decide +kernel
theorem dX8_comes_139 : decode cX8_comes 139 = .ok (.iload 4, 2) := by decide +kernel
theorem dX8_comes_141 : decode cX8_comes 141 = .ok (.ifCond .eq 7, 3) := by decide +kernel
theorem dX8_comes_144 : decode cX8_comes 144 = .ok (.iload_n 3, 1) := by decide +kernel
theorem dX8_comes_145 : decode cX8_comes 145 = .ok (.goto 4, 3) := by decide +kernel
theorem dX8_comes_148 : decode cX8_comes 148 = .ok (.iconst 3, 1) := by decide +kernel
theorem dX8_comes_149 : decode cX8_comes 149 = .ok (.ireturn, 1) := by decide +kernel
theorem dX8_buys_0 : decode cX8_buys 0 = .ok (.aload_n 0, 1) := by decide +kernel
theorem dX8_buys_1 : decode cX8_buys 1 = .ok (.iload_n 1, 1) := by decide +kernel
theorem dX8_buys_2 : decode cX8_buys 2 = .ok (.invokevirtual 54, 3) := by decide +kernel
theorem dX8_buys_5 : decode cX8_buys 5 = .ok (.ifCond .eq 10, 3) := by decide +kernel
theorem dX8_buys_8 : decode cX8_buys 8 = .ok (.iload_n 2, 1) := by decide +kernel
theorem dX8_buys_9 : decode cX8_buys 9 = .ok (.invokestatic 66, 3) := by decide +kernel
theorem dX8_buys_12 : decode cX8_buys 12 = .ok (.ifCond .ne 5, 3) := by decide +kernel
theorem dX8_buys_15 : decode cX8_buys 15 = .ok (.iconst (-1), 1) := by decide +kernel
theorem dX8_buys_16 : decode cX8_buys 16 = .ok (.ireturn, 1) := by decide +kernel
theorem dX8_buys_17 : decode cX8_buys 17 = .ok (.iload_n 1, 1) := by decide +kernel
theorem dX8_buys_18 : decode cX8_buys 18 = .ok (.invokestatic 41, 3) := by decide +kernel
theorem dX8_buys_21 : decode cX8_buys 21 = .ok (.istore_n 3, 1) := by decide +kernel
theorem dX8_buys_22 : decode cX8_buys 22 = .ok (.aload_n 0, 1) := by decide +kernel
theorem dX8_buys_23 : decode cX8_buys 23 = .ok (.aload_n 0, 1) := by decide +kernel
theorem dX8_buys_24 : decode cX8_buys 24 = .ok (.getfield 7, 3) := by decide +kernel
theorem dX8_buys_27 : decode cX8_buys 27 = .ok (.iconst 4, 1) := by decide +kernel
theorem dX8_buys_28 : decode cX8_buys 28 = .ok (.iaload, 1) := by decide +kernel
theorem dX8_buys_29 : decode cX8_buys 29 = .ok (.iload_n 2, 1) := by decide +kernel
theorem dX8_buys_30 : decode cX8_buys 30 = .ok (.invokevirtual 62, 3) := by decide +kernel
theorem dX8_buys_33 : decode cX8_buys 33 = .ok (.iconst 1, 1) := by decide +kernel
theorem dX8_buys_34 : decode cX8_buys 34 = .ok (.iadd, 1) := by decide +kernel
theorem dX8_buys_35 : decode cX8_buys 35 = .ok (.istore 4, 2) := by decide +kernel
theorem dX8_buys_37 : decode cX8_buys 37 = .ok (.aload_n 0, 1) := by decide +kernel
theorem dX8_buys_38 : decode cX8_buys 38 = .ok (.getfield 7, 3) := by decide +kernel
theorem dX8_buys_41 : decode cX8_buys 41 = .ok (.bipush 6, 2) := by decide +kernel
theorem dX8_buys_43 : decode cX8_buys 43 = .ok (.iaload, 1) := by decide +kernel
theorem dX8_buys_44 : decode cX8_buys 44 = .ok (.iconst 1, 1) := by decide +kernel
theorem dX8_buys_45 : decode cX8_buys 45 = .ok (.if_icmp .ne 43, 3) := by decide +kernel
theorem dX8_buys_48 : decode cX8_buys 48 = .ok (.aload_n 0, 1) := by decide +kernel
theorem dX8_buys_49 : decode cX8_buys 49 = .ok (.getfield 7, 3) := by decide +kernel
theorem dX8_buys_52 : decode cX8_buys 52 = .ok (.iload_n 3, 1) := by decide +kernel
theorem dX8_buys_53 : decode cX8_buys 53 = .ok (.iconst 1, 1) := by decide +kernel
theorem dX8_buys_54 : decode cX8_buys 54 = .ok (.iadd, 1) := by decide +kernel
theorem dX8_buys_55 : decode cX8_buys 55 = .ok (.iaload, 1) := by decide +kernel
theorem dX8_buys_56 : decode cX8_buys 56 = .ok (.ifCond .ne 32, 3) := by decide +kernel
theorem dX8_buys_59 : decode cX8_buys 59 = .ok (.aload_n 0, 1) := by decide +kernel
theorem dX8_buys_60 : decode cX8_buys 60 = .ok (.getfield 7, 3) := by decide +kernel
theorem dX8_buys_63 : decode cX8_buys 63 = .ok (.iload_n 3, 1) := by decide +kernel
theorem dX8_buys_64 : decode cX8_buys 64 = .ok (.bipush 15, 2) := by decide +kernel
theorem dX8_buys_66 : decode cX8_buys 66 = .ok (.iadd, 1) := by decide +kernel
theorem dX8_buys_67 : decode cX8_buys 67 = .ok (.iaload, 1) := by decide +kernel
theorem dX8_buys_68 : decode cX8_buys 68 = .ok (.ifCond .ne 20, 3) := by decide +kernel
theorem dX8_buys_71 : decode cX8_buys 71 = .ok (.aload_n 0, 1) := by decide +kernel
theorem dX8_buys_72 : decode cX8_buys 72 = .ok (.getfield 7, 3) := by decide +kernel
theorem dX8_buys_75 : decode cX8_buys 75 = .ok (.iload_n 3, 1) := by decide +kernel
theorem dX8_buys_76 : decode cX8_buys 76 = .ok (.iconst 0, 1) := by decide +kernel
theorem dX8_buys_77 : decode cX8_buys 77 = .ok (.iadd, 1) := by decide +kernel
theorem dX8_buys_78 : decode cX8_buys 78 = .ok (.iaload, 1) := by decide +kernel
theorem dX8_buys_79 : decode cX8_buys 79 = .ok (.iload 4, 2) := by decide +kernel
theorem dX8_buys_81 : decode cX8_buys 81 = .ok (.if_icmp .lt 7, 3) := by decide +kernel
theorem dX8_buys_84 : decode cX8_buys 84 = .ok (.iconst 1, 1) := by decide +kernel
theorem dX8_buys_85 : decode cX8_buys 85 = .ok (.goto 4, 3) := by decide +kernel
theorem dX8_buys_88 : decode cX8_buys 88 = .ok (.iconst 0, 1) := by decide +kernel
theorem dX8_buys_89 : decode cX8_buys 89 = .ok (.istore 5, 2) := by decide +kernel
theorem dX8_buys_91 : decode cX8_buys 91 = .ok (.iload 5, 2) := by decide +kernel
theorem dX8_buys_93 : decode cX8_buys 93 = .ok (.ifCond .eq 16, 3) := by decide +kernel
theorem dX8_buys_96 : decode cX8_buys 96 = .ok (.aload_n 0, 1) := by decide +kernel
theorem dX8_buys_97 : decode cX8_buys 97 = .ok (.iload_n 2, 1) := by decide +kernel
theorem dX8_buys_98 : decode cX8_buys 98 = .ok (.invokevirtual 76, 3) := by decide +kernel
theorem dX8_buys_101 : decode cX8_buys 101 = .ok (.aload_n 0, 1) := by decide +kernel
theorem dX8_buys_102 : decode cX8_buys 102 = .ok (.iload_n 2, 1) := by decide +kernel
theorem dX8_buys_103 : decode cX8_buys 103 = .ok (.invokevirtual 82, 3) := by decide +kernel
theorem dX8_buys_106 : decode cX8_buys 106 = .ok (.if_icmp .gt 6, 3) := by decide +kernel
theorem dX8_buys_109 : decode cX8_buys 109 = .ok (.bipush (-5), 2) := by decide +kernel
theorem dX8_buys_111 : decode cX8_buys 111 = .ok (.ireturn, 1) := by decide +kernel
theorem dX8_buys_112 : decode cX8_buys 112 = .ok (.aload_n 0, 1) := by decide +kernel
theorem dX8_buys_113 : decode cX8_buys 113 = .ok (.getfield 7, 3) := by decide +kernel
theorem dX8_buys_116 : decode cX8_buys 116 = .ok (.iload_n 3, 1) := by decide +kernel
theorem dX8_buys_117 : decode cX8_buys 117 = .ok (.iconst 0, 1) := by decide +kernel
theorem dX8_buys_118 : decode cX8_buys 118 = .ok (.iadd, 1) := by decide +kernel
theorem dX8_buys_119 : decode cX8_buys 119 = .ok (.dup2, 1) := by decide +kernel
theorem dX8_buys_120 : decode cX8_buys 120 = .ok (.iaload, 1) := by decide +kernel
theorem dX8_buys_121 : decode cX8_buys 121 = .ok (.iload 4, 2) := by decide +kernel
theorem dX8_buys_123 : decode cX8_buys 123 = .ok (.isub, 1) := by decide +kernel
theorem dX8_buys_124 : decode cX8_buys 124 = .ok (.iastore, 1) := by decide +kernel
theorem dX8_buys_125 : decode cX8_buys 125 = .ok (.aload_n 0, 1) := by decide +kernel
theorem dX8_buys_126 : decode cX8_buys 126 = .ok (.getfield 7, 3) := by decide +kernel
theorem dX8_buys_129 : decode cX8_buys 129 = .ok (.iload_n 3, 1) := by decide +kernel
theorem dX8_buys_130 : decode cX8_buys 130 = .ok (.bipush 15, 2) := by decide +kernel
theorem dX8_buys_132 : decode cX8_buys 132 = .ok (.iadd, 1) := by decide +kernel
theorem dX8_buys_133 : decode cX8_buys 133 = .ok (.iconst 1, 1) := by decide +kernel
theorem dX8_buys_134 : decode cX8_buys 134 = .ok (.iastore, 1) := by decide +kernel
theorem dX8_buys_135 : decode cX8_buys 135 = .ok (.aload_n 0, 1) := by decide +kernel
theorem dX8_buys_136 : decode cX8_buys 136 = .ok (.iload_n 1, 1) := by decide +kernel
theorem dX8_buys_137 : decode cX8_buys 137 = .ok (.iload_n 2, 1) := by decide +kernel
theorem dX8_buys_138 : decode cX8_buys 138 = .ok (.invokevirtual 79, 3) := by decide +kernel
theorem dX8_buys_141 : decode cX8_buys 141 = .ok (.aload_n 0, 1) := by decide +kernel
theorem dX8_buys_142 : decode cX8_buys 142 = .ok (.getfield 7, 3) := by decide +kernel
theorem dX8_buys_145 : decode cX8_buys 145 = .ok (.iload_n 3, 1) := by decide +kernel
theorem dX8_buys_146 : decode cX8_buys 146 = .ok (.iconst 0, 1) := by decide +kernel
theorem dX8_buys_147 : decode cX8_buys 147 = .ok (.iadd, 1) := by decide +kernel
theorem dX8_buys_148 : decode cX8_buys 148 = .ok (.iaload, 1) := by decide +kernel
theorem dX8_buys_149 : decode cX8_buys 149 = .ok (.ireturn, 1) := by decide +kernel
theorem dX8_endsFor_0 : decode cX8_endsFor 0 = .ok (.iload_n 1, 1) := by decide +kernel
theorem dX8_endsFor_1 : decode cX8_endsFor 1 = .ok (.invokestatic 41, 3) := by decide +kernel
theorem dX8_endsFor_4 : decode cX8_endsFor 4 = .ok (.istore_n 2, 1) := by decide +kernel
theorem dX8_endsFor_5 : decode cX8_endsFor 5 = .ok (.aload_n 0, 1) := by decide +kernel
theorem dX8_endsFor_6 : decode cX8_endsFor 6 = .ok (.getfield 7, 3) := by decide +kernel
theorem dX8_endsFor_9 : decode cX8_endsFor 9 = .ok (.iload_n 2, 1) := by decide +kernel
theorem dX8_endsFor_10 : decode cX8_endsFor 10 = .ok (.iconst 1, 1) := by decide +kernel
theorem dX8_endsFor_11 : decode cX8_endsFor 11 = .ok (.iadd, 1) := by decide +kernel
theorem dX8_endsFor_12 : decode cX8_endsFor 12 = .ok (.iaload, 1) := by decide +kernel
theorem dX8_endsFor_13 : decode cX8_endsFor 13 = .ok (.ifCond .le 19, 3) := by decide +kernel
theorem dX8_endsFor_16 : decode cX8_endsFor 16 = .ok (.aload_n 0, 1) := by decide +kernel
theorem dX8_endsFor_17 : decode cX8_endsFor 17 = .ok (.getfield 7, 3) := by decide +kernel
theorem dX8_endsFor_20 : decode cX8_endsFor 20 = .ok (.iload_n 2, 1) := by decide +kernel
theorem dX8_endsFor_21 : decode cX8_endsFor 21 = .ok (.bipush 15, 2) := by decide +kernel
theorem dX8_endsFor_23 : decode cX8_endsFor 23 = .ok (.iadd, 1) := by decide +kernel
theorem dX8_endsFor_24 : decode cX8_endsFor 24 = .ok (.iaload, 1) := by decide +kernel
theorem dX8_endsFor_25 : decode cX8_endsFor 25 = .ok (.ifCond .ne 7, 3) := by decide +kernel
theorem dX8_endsFor_28 : decode cX8_endsFor 28 = .ok (.iconst 1, 1) := by decide +kernel
theorem dX8_endsFor_29 : decode cX8_endsFor 29 = .ok (.goto 4, 3) := by decide +kernel
theorem dX8_endsFor_32 : decode cX8_endsFor 32 = .ok (.iconst 0, 1) := by decide +kernel
theorem dX8_endsFor_33 : decode cX8_endsFor 33 = .ok (.istore_n 3, 1) := by decide +kernel
theorem dX8_endsFor_34 : decode cX8_endsFor 34 = .ok (.aload_n 0, 1) := by decide +kernel
theorem dX8_endsFor_35 : decode cX8_endsFor 35 = .ok (.getfield 7, 3) := by decide +kernel
theorem dX8_endsFor_38 : decode cX8_endsFor 38 = .ok (.iload_n 2, 1) := by decide +kernel
theorem dX8_endsFor_39 : decode cX8_endsFor 39 = .ok (.bipush 14, 2) := by decide +kernel
theorem dX8_endsFor_41 : decode cX8_endsFor 41 = .ok (.iadd, 1) := by decide +kernel
theorem dX8_endsFor_42 : decode cX8_endsFor 42 = .ok (.dup2, 1) := by decide +kernel
theorem dX8_endsFor_43 : decode cX8_endsFor 43 = .ok (.iaload, 1) := by decide +kernel
theorem dX8_endsFor_44 : decode cX8_endsFor 44 = .ok (.iload_n 3, 1) := by decide +kernel
theorem dX8_endsFor_45 : decode cX8_endsFor 45 = .ok (.iadd, 1) := by decide +kernel
theorem dX8_endsFor_46 : decode cX8_endsFor 46 = .ok (.iastore, 1) := by decide +kernel
theorem dX8_endsFor_47 : decode cX8_endsFor 47 = .ok (.aload_n 0, 1) := by decide +kernel
theorem dX8_endsFor_48 : decode cX8_endsFor 48 = .ok (.getfield 7, 3) := by decide +kernel
theorem dX8_endsFor_51 : decode cX8_endsFor 51 = .ok (.iload_n 2, 1) := by decide +kernel
theorem dX8_endsFor_52 : decode cX8_endsFor 52 = .ok (.bipush 11, 2) := by decide +kernel
theorem dX8_endsFor_54 : decode cX8_endsFor 54 = .ok (.iadd, 1) := by decide +kernel
theorem dX8_endsFor_55 : decode cX8_endsFor 55 = .ok (.dup2, 1) := by decide +kernel
theorem dX8_endsFor_56 : decode cX8_endsFor 56 = .ok (.iaload, 1) := by decide +kernel
theorem dX8_endsFor_57 : decode cX8_endsFor 57 = .ok (.iload_n 3, 1) := by decide +kernel
theorem dX8_endsFor_58 : decode cX8_endsFor 58 = .ok (.iadd, 1) := by decide +kernel
theorem dX8_endsFor_59 : decode cX8_endsFor 59 = .ok (.iastore, 1) := by decide +kernel
theorem dX8_endsFor_60 : decode cX8_endsFor 60 = .ok (.aload_n 0, 1) := by decide +kernel
theorem dX8_endsFor_61 : decode cX8_endsFor 61 = .ok (.getfield 7, 3) := by decide +kernel
theorem dX8_endsFor_64 : decode cX8_endsFor 64 = .ok (.iload_n 2, 1) := by decide +kernel
theorem dX8_endsFor_65 : decode cX8_endsFor 65 = .ok (.bipush 11, 2) := by decide +kernel
theorem dX8_endsFor_67 : decode cX8_endsFor 67 = .ok (.iadd, 1) := by decide +kernel
theorem dX8_endsFor_68 : decode cX8_endsFor 68 = .ok (.iaload, 1) := by decide +kernel
theorem dX8_endsFor_69 : decode cX8_endsFor 69 = .ok (.aload_n 0, 1) := by decide +kernel
theorem dX8_endsFor_70 : decode cX8_endsFor 70 = .ok (.getfield 7, 3) := by decide +kernel
theorem dX8_endsFor_73 : decode cX8_endsFor 73 = .ok (.iconst 2, 1) := by decide +kernel
theorem dX8_endsFor_74 : decode cX8_endsFor 74 = .ok (.iaload, 1) := by decide +kernel
theorem dX8_endsFor_75 : decode cX8_endsFor 75 = .ok (.if_icmp .lt 37, 3) := by decide +kernel
theorem dX8_endsFor_78 : decode cX8_endsFor 78 = .ok (.aload_n 0, 1) := by decide +kernel
theorem dX8_endsFor_79 : decode cX8_endsFor 79 = .ok (.getfield 7, 3) := by decide +kernel
theorem dX8_endsFor_82 : decode cX8_endsFor 82 = .ok (.iload_n 2, 1) := by decide +kernel
theorem dX8_endsFor_83 : decode cX8_endsFor 83 = .ok (.bipush 11, 2) := by decide +kernel
theorem dX8_endsFor_85 : decode cX8_endsFor 85 = .ok (.iadd, 1) := by decide +kernel
theorem dX8_endsFor_86 : decode cX8_endsFor 86 = .ok (.iconst 0, 1) := by decide +kernel
theorem dX8_endsFor_87 : decode cX8_endsFor 87 = .ok (.iastore, 1) := by decide +kernel
theorem dX8_endsFor_88 : decode cX8_endsFor 88 = .ok (.aload_n 0, 1) := by decide +kernel
theorem dX8_endsFor_89 : decode cX8_endsFor 89 = .ok (.getfield 7, 3) := by decide +kernel
theorem dX8_endsFor_92 : decode cX8_endsFor 92 = .ok (.iload_n 2, 1) := by decide +kernel
theorem dX8_endsFor_93 : decode cX8_endsFor 93 = .ok (.bipush 12, 2) := by decide +kernel
theorem dX8_endsFor_95 : decode cX8_endsFor 95 = .ok (.iadd, 1) := by decide +kernel
theorem dX8_endsFor_96 : decode cX8_endsFor 96 = .ok (.aload_n 0, 1) := by decide +kernel
theorem dX8_endsFor_97 : decode cX8_endsFor 97 = .ok (.getfield 7, 3) := by decide +kernel
theorem dX8_endsFor_100 : decode cX8_endsFor 100 = .ok (.iconst 4, 1) := by decide +kernel
theorem dX8_endsFor_101 : decode cX8_endsFor 101 = .ok (.iaload, 1) := by decide +kernel
theorem dX8_endsFor_102 : decode cX8_endsFor 102 = .ok (.aload_n 0, 1) := by decide +kernel
theorem dX8_endsFor_103 : decode cX8_endsFor 103 = .ok (.getfield 7, 3) := by decide +kernel
theorem dX8_endsFor_106 : decode cX8_endsFor 106 = .ok (.iconst 3, 1) := by decide +kernel
theorem dX8_endsFor_107 : decode cX8_endsFor 107 = .ok (.iaload, 1) := by decide +kernel
theorem dX8_endsFor_108 : decode cX8_endsFor 108 = .ok (.iadd, 1) := by decide +kernel
theorem dX8_endsFor_109 : decode cX8_endsFor 109 = .ok (.iconst 1, 1) := by decide +kernel
theorem dX8_endsFor_110 : decode cX8_endsFor 110 = .ok (.iadd, 1) := by decide +kernel
theorem dX8_endsFor_111 : decode cX8_endsFor 111 = .ok (.iastore, 1) := by decide +kernel
theorem dX8_endsFor_112 : decode cX8_endsFor 112 = .ok (.iconst 0, 1) := by decide +kernel
theorem dX8_endsFor_113 : decode cX8_endsFor 113 = .ok (.istore 4, 2) := by decide +kernel
theorem dX8_endsFor_115 : decode cX8_endsFor 115 = .ok (.iload 4, 2) := by decide +kernel
theorem dX8_endsFor_117 : decode cX8_endsFor 117 = .ok (.iconst 4, 1) := by decide +kernel
theorem dX8_endsFor_118 : decode cX8_endsFor 118 = .ok (.if_icmp .ge 59, 3) := by decide +kernel
theorem dX8_endsFor_121 : decode cX8_endsFor 121 = .ok (.aload_n 0, 1) := by decide +kernel
theorem dX8_endsFor_122 : decode cX8_endsFor 122 = .ok (.getfield 7, 3) := by decide +kernel
theorem dX8_endsFor_125 : decode cX8_endsFor 125 = .ok (.iload_n 2, 1) := by decide +kernel
theorem dX8_endsFor_126 : decode cX8_endsFor 126 = .ok (.iconst 1, 1) := by decide +kernel
theorem dX8_endsFor_127 : decode cX8_endsFor 127 = .ok (.iadd, 1) := by decide +kernel
theorem dX8_endsFor_128 : decode cX8_endsFor 128 = .ok (.iload 4, 2) := by decide +kernel
theorem dX8_endsFor_130 : decode cX8_endsFor 130 = .ok (.iadd, 1) := by decide +kernel
theorem dX8_endsFor_131 : decode cX8_endsFor 131 = .ok (.aload_n 0, 1) := by decide +kernel
theorem dX8_endsFor_132 : decode cX8_endsFor 132 = .ok (.getfield 7, 3) := by decide +kernel
theorem dX8_endsFor_135 : decode cX8_endsFor 135 = .ok (.iload_n 2, 1) := by decide +kernel
theorem dX8_endsFor_136 : decode cX8_endsFor 136 = .ok (.iconst 1, 1) := by decide +kernel
theorem dX8_endsFor_137 : decode cX8_endsFor 137 = .ok (.iadd, 1) := by decide +kernel
theorem dX8_endsFor_138 : decode cX8_endsFor 138 = .ok (.iload 4, 2) := by decide +kernel
theorem dX8_endsFor_140 : decode cX8_endsFor 140 = .ok (.iadd, 1) := by decide +kernel
theorem dX8_endsFor_141 : decode cX8_endsFor 141 = .ok (.iconst 1, 1) := by decide +kernel
theorem dX8_endsFor_142 : decode cX8_endsFor 142 = .ok (.iadd, 1) := by decide +kernel
theorem dX8_endsFor_143 : decode cX8_endsFor 143 = .ok (.iaload, 1) := by decide +kernel
theorem dX8_endsFor_144 : decode cX8_endsFor 144 = .ok (.iastore, 1) := by decide +kernel
theorem dX8_endsFor_145 : decode cX8_endsFor 145 = .ok (.aload_n 0, 1) := by decide +kernel
theorem dX8_endsFor_146 : decode cX8_endsFor 146 = .ok (.getfield 7, 3) := by decide +kernel
theorem dX8_endsFor_149 : decode cX8_endsFor 149 = .ok (.iload_n 2, 1) := by decide +kernel
theorem dX8_endsFor_150 : decode cX8_endsFor 150 = .ok (.bipush 6, 2) := by decide +kernel
theorem dX8_endsFor_152 : decode cX8_endsFor 152 = .ok (.iadd, 1) := by decide +kernel
theorem dX8_endsFor_153 : decode cX8_endsFor 153 = .ok (.iload 4, 2) := by decide +kernel
theorem dX8_endsFor_155 : decode cX8_endsFor 155 = .ok (.iadd, 1) := by decide +kernel
theorem dX8_endsFor_156 : decode cX8_endsFor 156 = .ok (.aload_n 0, 1) := by decide +kernel
theorem dX8_endsFor_157 : decode cX8_endsFor 157 = .ok (.getfield 7, 3) := by decide +kernel
theorem dX8_endsFor_160 : decode cX8_endsFor 160 = .ok (.iload_n 2, 1) := by decide +kernel
theorem dX8_endsFor_161 : decode cX8_endsFor 161 = .ok (.bipush 6, 2) := by decide +kernel
theorem dX8_endsFor_163 : decode cX8_endsFor 163 = .ok (.iadd, 1) := by decide +kernel
theorem dX8_endsFor_164 : decode cX8_endsFor 164 = .ok (.iload 4, 2) := by decide +kernel
theorem dX8_endsFor_166 : decode cX8_endsFor 166 = .ok (.iadd, 1) := by decide +kernel
theorem dX8_endsFor_167 : decode cX8_endsFor 167 = .ok (.iconst 1, 1) := by decide +kernel
theorem dX8_endsFor_168 : decode cX8_endsFor 168 = .ok (.iadd, 1) := by decide +kernel
theorem dX8_endsFor_169 : decode cX8_endsFor 169 = .ok (.iaload, 1) := by decide +kernel
theorem dX8_endsFor_170 : decode cX8_endsFor 170 = .ok (.iastore, 1) := by decide +kernel
theorem dX8_endsFor_171 : decode cX8_endsFor 171 = .ok (.iinc 4 1, 3) := by decide +kernel
theorem dX8_endsFor_174 : decode cX8_endsFor 174 = .ok (.goto (-59), 3) := by decide +kernel
theorem dX8_endsFor_177 : decode cX8_endsFor 177 = .ok (.aload_n 0, 1) := by decide +kernel
theorem dX8_endsFor_178 : decode cX8_endsFor 178 = .ok (.getfield 7, 3) := by decide +kernel
theorem dX8_endsFor_181 : decode cX8_endsFor 181 = .ok (.iload_n 2, 1) := by decide +kernel
theorem dX8_endsFor_182 : decode cX8_endsFor 182 = .ok (.iconst 1, 1) := by decide +kernel
theorem dX8_endsFor_183 : decode cX8_endsFor 183 = .ok (.iadd, 1) := by decide +kernel
theorem dX8_endsFor_184 : decode cX8_endsFor 184 = .ok (.iconst 4, 1) := by decide +kernel
theorem dX8_endsFor_185 : decode cX8_endsFor 185 = .ok (.iadd, 1) := by decide +kernel
theorem dX8_endsFor_186 : decode cX8_endsFor 186 = .ok (.iconst 0, 1) := by decide +kernel
theorem dX8_endsFor_187 : decode cX8_endsFor 187 = .ok (.iastore, 1) := by decide +kernel
theorem dX8_endsFor_188 : decode cX8_endsFor 188 = .ok (.aload_n 0, 1) := by decide +kernel
theorem dX8_endsFor_189 : decode cX8_endsFor 189 = .ok (.getfield 7, 3) := by decide +kernel
theorem dX8_endsFor_192 : decode cX8_endsFor 192 = .ok (.iload_n 2, 1) := by decide +kernel
theorem dX8_endsFor_193 : decode cX8_endsFor 193 = .ok (.bipush 6, 2) := by decide +kernel
theorem dX8_endsFor_195 : decode cX8_endsFor 195 = .ok (.iadd, 1) := by decide +kernel
theorem dX8_endsFor_196 : decode cX8_endsFor 196 = .ok (.iconst 4, 1) := by decide +kernel
theorem dX8_endsFor_197 : decode cX8_endsFor 197 = .ok (.iadd, 1) := by decide +kernel
theorem dX8_endsFor_198 : decode cX8_endsFor 198 = .ok (.iconst 0, 1) := by decide +kernel
theorem dX8_endsFor_199 : decode cX8_endsFor 199 = .ok (.iastore, 1) := by decide +kernel
theorem dX8_endsFor_200 : decode cX8_endsFor 200 = .ok (.aload_n 0, 1) := by decide +kernel
theorem dX8_endsFor_201 : decode cX8_endsFor 201 = .ok (.getfield 7, 3) := by decide +kernel
theorem dX8_endsFor_204 : decode cX8_endsFor 204 = .ok (.iload_n 2, 1) := by decide +kernel
theorem dX8_endsFor_205 : decode cX8_endsFor 205 = .ok (.bipush 15, 2) := by decide +kernel
theorem dX8_endsFor_207 : decode cX8_endsFor 207 = .ok (.iadd, 1) := by decide +kernel
theorem dX8_endsFor_208 : decode cX8_endsFor 208 = .ok (.iconst 0, 1) := by decide +kernel
theorem dX8_endsFor_209 : decode cX8_endsFor 209 = .ok (.iastore, 1) := by decide +kernel
theorem dX8_endsFor_210 : decode cX8_endsFor 210 = .ok (.iload_n 3, 1) := by decide +kernel
theorem dX8_endsFor_211 : decode cX8_endsFor 211 = .ok (.ireturn, 1) := by decide +kernel
theorem dX8_closes_0 : decode cX8_closes 0 = .ok (.aload_n 0, 1) := by decide +kernel
theorem dX8_closes_1 : decode cX8_closes 1 = .ok (.getfield 7, 3) := by decide +kernel
theorem dX8_closes_4 : decode cX8_closes 4 = .ok (.bipush 6, 2) := by decide +kernel
theorem dX8_closes_6 : decode cX8_closes 6 = .ok (.iaload, 1) := by decide +kernel
theorem dX8_closes_7 : decode cX8_closes 7 = .ok (.ifCond .eq 15, 3) := by decide +kernel
theorem dX8_closes_10 : decode cX8_closes 10 = .ok (.aload_n 0, 1) := by decide +kernel
theorem dX8_closes_11 : decode cX8_closes 11 = .ok (.getfield 7, 3) := by decide +kernel
theorem dX8_closes_14 : decode cX8_closes 14 = .ok (.iconst 4, 1) := by decide +kernel
theorem dX8_closes_15 : decode cX8_closes 15 = .ok (.iaload, 1) := by decide +kernel
theorem dX8_closes_16 : decode cX8_closes 16 = .ok (.sipush 9999, 3) := by decide +kernel
theorem dX8_closes_19 : decode cX8_closes 19 = .ok (.if_icmp .ne 6, 3) := by decide +kernel
theorem dX8_closes_22 : decode cX8_closes 22 = .ok (.bipush (-5), 2) := by decide +kernel
theorem dX8_closes_24 : decode cX8_closes 24 = .ok (.ireturn, 1) := by decide +kernel
theorem dX8_closes_25 : decode cX8_closes 25 = .ok (.iconst 0, 1) := by decide +kernel
theorem dX8_closes_26 : decode cX8_closes 26 = .ok (.istore_n 1, 1) := by decide +kernel
theorem dX8_closes_27 : decode cX8_closes 27 = .ok (.iconst 0, 1) := by decide +kernel
theorem dX8_closes_28 : decode cX8_closes 28 = .ok (.istore_n 2, 1) := by decide +kernel
theorem dX8_closes_29 : decode cX8_closes 29 = .ok (.iload_n 2, 1) := by decide +kernel
theorem dX8_closes_30 : decode cX8_closes 30 = .ok (.aload_n 0, 1) := by decide +kernel
theorem dX8_closes_31 : decode cX8_closes 31 = .ok (.getfield 7, 3) := by decide +kernel
theorem dX8_closes_34 : decode cX8_closes 34 = .ok (.iconst 5, 1) := by decide +kernel
theorem dX8_closes_35 : decode cX8_closes 35 = .ok (.iaload, 1) := by decide +kernel
theorem dX8_closes_36 : decode cX8_closes 36 = .ok (.if_icmp .ge 17, 3) := by decide +kernel
theorem dX8_closes_39 : decode cX8_closes 39 = .ok (.iload_n 1, 1) := by decide +kernel
theorem dX8_closes_40 : decode cX8_closes 40 = .ok (.aload_n 0, 1) := by decide +kernel
theorem dX8_closes_41 : decode cX8_closes 41 = .ok (.iload_n 2, 1) := by decide +kernel
theorem dX8_closes_42 : decode cX8_closes 42 = .ok (.invokevirtual 85, 3) := by decide +kernel
theorem dX8_closes_45 : decode cX8_closes 45 = .ok (.iadd, 1) := by decide +kernel
theorem dX8_closes_46 : decode cX8_closes 46 = .ok (.istore_n 1, 1) := by decide +kernel
theorem dX8_closes_47 : decode cX8_closes 47 = .ok (.iinc 2 1, 3) := by decide +kernel
theorem dX8_closes_50 : decode cX8_closes 50 = .ok (.goto (-21), 3) := by decide +kernel
theorem dX8_closes_53 : decode cX8_closes 53 = .ok (.iconst 0, 1) := by decide +kernel
theorem dX8_closes_54 : decode cX8_closes 54 = .ok (.istore_n 2, 1) := by decide +kernel
theorem dX8_closes_55 : decode cX8_closes 55 = .ok (.iload_n 2, 1) := by decide +kernel
theorem dX8_closes_56 : decode cX8_closes 56 = .ok (.iconst 3, 1) := by decide +kernel
theorem dX8_closes_57 : decode cX8_closes 57 = .ok (.if_icmp .ge 100, 3) := by decide +kernel
theorem dX8_closes_60 : decode cX8_closes 60 = .ok (.iload_n 2, 1) := by decide +kernel
theorem dX8_closes_61 : decode cX8_closes 61 = .ok (.invokestatic 51, 3) := by decide +kernel
theorem dX8_closes_64 : decode cX8_closes 64 = .ok (.istore_n 3, 1) := by decide +kernel
theorem dX8_closes_65 : decode cX8_closes 65 = .ok (.aload_n 0, 1) := by decide +kernel
theorem dX8_closes_66 : decode cX8_closes 66 = .ok (.getfield 7, 3) := by decide +kernel
theorem dX8_closes_69 : decode cX8_closes 69 = .ok (.iload_n 3, 1) := by decide +kernel
theorem dX8_closes_70 : decode cX8_closes 70 = .ok (.iconst 1, 1) := by decide +kernel
theorem dX8_closes_71 : decode cX8_closes 71 = .ok (.iadd, 1) := by decide +kernel
theorem dX8_closes_72 : decode cX8_closes 72 = .ok (.iaload, 1) := by decide +kernel
theorem dX8_closes_73 : decode cX8_closes 73 = .ok (.aload_n 0, 1) := by decide +kernel
theorem dX8_closes_74 : decode cX8_closes 74 = .ok (.getfield 7, 3) := by decide +kernel
theorem dX8_closes_77 : decode cX8_closes 77 = .ok (.iconst 1, 1) := by decide +kernel
theorem dX8_closes_78 : decode cX8_closes 78 = .ok (.iaload, 1) := by decide +kernel
theorem dX8_closes_79 : decode cX8_closes 79 = .ok (.if_icmp .ge 14, 3) := by decide +kernel
theorem dX8_closes_82 : decode cX8_closes 82 = .ok (.aload_n 0, 1) := by decide +kernel
theorem dX8_closes_83 : decode cX8_closes 83 = .ok (.getfield 7, 3) := by decide +kernel
theorem dX8_closes_86 : decode cX8_closes 86 = .ok (.iload_n 3, 1) := by decide +kernel
theorem dX8_closes_87 : decode cX8_closes 87 = .ok (.iconst 1, 1) := by decide +kernel
theorem dX8_closes_88 : decode cX8_closes 88 = .ok (.iadd, 1) := by decide +kernel
theorem dX8_closes_89 : decode cX8_closes 89 = .ok (.iaload, 1) := by decide +kernel
theorem dX8_closes_90 : decode cX8_closes 90 = .ok (.goto 9, 3) := by decide +kernel
theorem dX8_closes_93 : decode cX8_closes 93 = .ok (.aload_n 0, 1) := by decide +kernel
theorem dX8_closes_94 : decode cX8_closes 94 = .ok (.getfield 7, 3) := by decide +kernel
theorem dX8_closes_97 : decode cX8_closes 97 = .ok (.iconst 1, 1) := by decide +kernel
theorem dX8_closes_98 : decode cX8_closes 98 = .ok (.iaload, 1) := by decide +kernel
theorem dX8_closes_99 : decode cX8_closes 99 = .ok (.istore 4, 2) := by decide +kernel
theorem dX8_closes_101 : decode cX8_closes 101 = .ok (.aload_n 0, 1) := by decide +kernel
theorem dX8_closes_102 : decode cX8_closes 102 = .ok (.getfield 7, 3) := by decide +kernel
theorem dX8_closes_105 : decode cX8_closes 105 = .ok (.iload_n 3, 1) := by decide +kernel
theorem dX8_closes_106 : decode cX8_closes 106 = .ok (.iconst 4, 1) := by decide +kernel
theorem dX8_closes_107 : decode cX8_closes 107 = .ok (.iadd, 1) := by decide +kernel
theorem dX8_closes_108 : decode cX8_closes 108 = .ok (.dup2, 1) := by decide +kernel
theorem dX8_closes_109 : decode cX8_closes 109 = .ok (.iaload, 1) := by decide +kernel
theorem dX8_closes_110 : decode cX8_closes 110 = .ok (.aload_n 0, 1) := by decide +kernel
theorem dX8_closes_111 : decode cX8_closes 111 = .ok (.getfield 7, 3) := by decide +kernel
theorem dX8_closes_114 : decode cX8_closes 114 = .ok (.iload_n 3, 1) := by decide +kernel
theorem dX8_closes_115 : decode cX8_closes 115 = .ok (.iconst 0, 1) := by decide +kernel
theorem dX8_closes_116 : decode cX8_closes 116 = .ok (.iadd, 1) := by decide +kernel
theorem dX8_closes_117 : decode cX8_closes 117 = .ok (.iaload, 1) := by decide +kernel
theorem dX8_closes_118 : decode cX8_closes 118 = .ok (.aload_n 0, 1) := by decide +kernel
theorem dX8_closes_119 : decode cX8_closes 119 = .ok (.getfield 7, 3) := by decide +kernel
theorem dX8_closes_122 : decode cX8_closes 122 = .ok (.iload_n 3, 1) := by decide +kernel
theorem dX8_closes_123 : decode cX8_closes 123 = .ok (.iconst 1, 1) := by decide +kernel
theorem dX8_closes_124 : decode cX8_closes 124 = .ok (.iadd, 1) := by decide +kernel
theorem dX8_closes_125 : decode cX8_closes 125 = .ok (.iaload, 1) := by decide +kernel
theorem dX8_closes_126 : decode cX8_closes 126 = .ok (.iadd, 1) := by decide +kernel
theorem dX8_closes_127 : decode cX8_closes 127 = .ok (.iload 4, 2) := by decide +kernel
theorem dX8_closes_129 : decode cX8_closes 129 = .ok (.isub, 1) := by decide +kernel
theorem dX8_closes_130 : decode cX8_closes 130 = .ok (.iadd, 1) := by decide +kernel
theorem dX8_closes_131 : decode cX8_closes 131 = .ok (.iastore, 1) := by decide +kernel
theorem dX8_closes_132 : decode cX8_closes 132 = .ok (.aload_n 0, 1) := by decide +kernel
theorem dX8_closes_133 : decode cX8_closes 133 = .ok (.getfield 7, 3) := by decide +kernel
theorem dX8_closes_136 : decode cX8_closes 136 = .ok (.iload_n 3, 1) := by decide +kernel
theorem dX8_closes_137 : decode cX8_closes 137 = .ok (.iconst 0, 1) := by decide +kernel
theorem dX8_closes_138 : decode cX8_closes 138 = .ok (.iadd, 1) := by decide +kernel
theorem dX8_closes_139 : decode cX8_closes 139 = .ok (.iload 4, 2) := by decide +kernel
theorem dX8_closes_141 : decode cX8_closes 141 = .ok (.iastore, 1) := by decide +kernel
theorem dX8_closes_142 : decode cX8_closes 142 = .ok (.aload_n 0, 1) := by decide +kernel
theorem dX8_closes_143 : decode cX8_closes 143 = .ok (.getfield 7, 3) := by decide +kernel
theorem dX8_closes_146 : decode cX8_closes 146 = .ok (.iload_n 3, 1) := by decide +kernel
theorem dX8_closes_147 : decode cX8_closes 147 = .ok (.iconst 1, 1) := by decide +kernel
theorem dX8_closes_148 : decode cX8_closes 148 = .ok (.iadd, 1) := by decide +kernel
theorem dX8_closes_149 : decode cX8_closes 149 = .ok (.iconst 0, 1) := by decide +kernel
theorem dX8_closes_150 : decode cX8_closes 150 = .ok (.iastore, 1) := by decide +kernel
theorem dX8_closes_151 : decode cX8_closes 151 = .ok (.iinc 2 1, 3) := by decide +kernel
theorem dX8_closes_154 : decode cX8_closes 154 = .ok (.goto (-99), 3) := by decide +kernel
theorem dX8_closes_157 : decode cX8_closes 157 = .ok (.aload_n 0, 1) := by decide +kernel
theorem dX8_closes_158 : decode cX8_closes 158 = .ok (.getfield 7, 3) := by decide +kernel
theorem dX8_closes_161 : decode cX8_closes 161 = .ok (.bipush 7, 2) := by decide +kernel
theorem dX8_closes_163 : decode cX8_closes 163 = .ok (.dup2, 1) := by decide +kernel
theorem dX8_closes_164 : decode cX8_closes 164 = .ok (.iaload, 1) := by decide +kernel
theorem dX8_closes_165 : decode cX8_closes 165 = .ok (.iload_n 1, 1) := by decide +kernel
theorem dX8_closes_166 : decode cX8_closes 166 = .ok (.iadd, 1) := by decide +kernel
theorem dX8_closes_167 : decode cX8_closes 167 = .ok (.iastore, 1) := by decide +kernel
theorem dX8_closes_168 : decode cX8_closes 168 = .ok (.aload_n 0, 1) := by decide +kernel
theorem dX8_closes_169 : decode cX8_closes 169 = .ok (.getfield 7, 3) := by decide +kernel
theorem dX8_closes_172 : decode cX8_closes 172 = .ok (.iconst 4, 1) := by decide +kernel
theorem dX8_closes_173 : decode cX8_closes 173 = .ok (.dup2, 1) := by decide +kernel
theorem dX8_closes_174 : decode cX8_closes 174 = .ok (.iaload, 1) := by decide +kernel
theorem dX8_closes_175 : decode cX8_closes 175 = .ok (.iconst 1, 1) := by decide +kernel
theorem dX8_closes_176 : decode cX8_closes 176 = .ok (.iadd, 1) := by decide +kernel
theorem dX8_closes_177 : decode cX8_closes 177 = .ok (.iastore, 1) := by decide +kernel
theorem dX8_closes_178 : decode cX8_closes 178 = .ok (.aload_n 0, 1) := by decide +kernel
theorem dX8_closes_179 : decode cX8_closes 179 = .ok (.getfield 7, 3) := by decide +kernel
theorem dX8_closes_182 : decode cX8_closes 182 = .ok (.bipush 6, 2) := by decide +kernel
theorem dX8_closes_184 : decode cX8_closes 184 = .ok (.iconst 0, 1) := by decide +kernel
theorem dX8_closes_185 : decode cX8_closes 185 = .ok (.iastore, 1) := by decide +kernel
theorem dX8_closes_186 : decode cX8_closes 186 = .ok (.iload_n 1, 1) := by decide +kernel
theorem dX8_closes_187 : decode cX8_closes 187 = .ok (.ireturn, 1) := by decide +kernel
theorem dX8_set_0 : decode cX8_set 0 = .ok (.iload_n 1, 1) := by decide +kernel
theorem dX8_set_1 : decode cX8_set 1 = .ok (.ifCond .ne 13, 3) := by decide +kernel
theorem dX8_set_4 : decode cX8_set 4 = .ok (.iload_n 2, 1) := by decide +kernel
theorem dX8_set_5 : decode cX8_set 5 = .ok (.iconst 0, 1) := by decide +kernel
theorem dX8_set_6 : decode cX8_set 6 = .ok (.bipush 9, 2) := by decide +kernel
theorem dX8_set_8 : decode cX8_set 8 = .ok (.invokestatic 33, 3) := by decide +kernel
theorem dX8_set_11 : decode cX8_set 11 = .ok (.goto 53, 3) := by decide +kernel
theorem dX8_set_14 : decode cX8_set 14 = .ok (.iload_n 1, 1) := by decide +kernel
theorem dX8_set_15 : decode cX8_set 15 = .ok (.iconst 1, 1) := by decide +kernel
theorem dX8_set_16 : decode cX8_set 16 = .ok (.if_icmp .ne 13, 3) := by decide +kernel
theorem dX8_set_19 : decode cX8_set 19 = .ok (.iload_n 2, 1) := by decide +kernel
theorem dX8_set_20 : decode cX8_set 20 = .ok (.iconst 0, 1) := by decide +kernel
theorem dX8_set_21 : decode cX8_set 21 = .ok (.bipush 20, 2) := by decide +kernel
theorem dX8_set_23 : decode cX8_set 23 = .ok (.invokestatic 33, 3) := by decide +kernel
theorem dX8_set_26 : decode cX8_set 26 = .ok (.goto 38, 3) := by decide +kernel
theorem dX8_set_29 : decode cX8_set 29 = .ok (.iload_n 1, 1) := by decide +kernel
theorem dX8_set_30 : decode cX8_set 30 = .ok (.iconst 2, 1) := by decide +kernel
theorem dX8_set_31 : decode cX8_set 31 = .ok (.if_icmp .ne 13, 3) := by decide +kernel
theorem dX8_set_34 : decode cX8_set 34 = .ok (.iload_n 2, 1) := by decide +kernel
theorem dX8_set_35 : decode cX8_set 35 = .ok (.iconst 1, 1) := by decide +kernel
theorem dX8_set_36 : decode cX8_set 36 = .ok (.bipush 9, 2) := by decide +kernel
theorem dX8_set_38 : decode cX8_set 38 = .ok (.invokestatic 33, 3) := by decide +kernel
theorem dX8_set_41 : decode cX8_set 41 = .ok (.goto 23, 3) := by decide +kernel
theorem dX8_set_44 : decode cX8_set 44 = .ok (.iload_n 1, 1) := by decide +kernel
theorem dX8_set_45 : decode cX8_set 45 = .ok (.iconst 3, 1) := by decide +kernel
theorem dX8_set_46 : decode cX8_set 46 = .ok (.if_icmp .ne 17, 3) := by decide +kernel
theorem dX8_set_49 : decode cX8_set 49 = .ok (.iload_n 2, 1) := by decide +kernel
theorem dX8_set_50 : decode cX8_set 50 = .ok (.iconst 1, 1) := by decide +kernel
theorem dX8_set_51 : decode cX8_set 51 = .ok (.bipush 20, 2) := by decide +kernel
theorem dX8_set_53 : decode cX8_set 53 = .ok (.invokestatic 33, 3) := by decide +kernel
theorem dX8_set_56 : decode cX8_set 56 = .ok (.ifCond .eq 7, 3) := by decide +kernel
theorem dX8_set_59 : decode cX8_set 59 = .ok (.iconst 1, 1) := by decide +kernel
theorem dX8_set_60 : decode cX8_set 60 = .ok (.goto 4, 3) := by decide +kernel
theorem dX8_set_63 : decode cX8_set 63 = .ok (.iconst 0, 1) := by decide +kernel
theorem dX8_set_64 : decode cX8_set 64 = .ok (.istore_n 3, 1) := by decide +kernel
theorem dX8_set_65 : decode cX8_set 65 = .ok (.iload_n 3, 1) := by decide +kernel
theorem dX8_set_66 : decode cX8_set 66 = .ok (.ifCond .ne 6, 3) := by decide +kernel
theorem dX8_set_69 : decode cX8_set 69 = .ok (.bipush (-2), 2) := by decide +kernel
theorem dX8_set_71 : decode cX8_set 71 = .ok (.ireturn, 1) := by decide +kernel
theorem dX8_set_72 : decode cX8_set 72 = .ok (.aload_n 0, 1) := by decide +kernel
theorem dX8_set_73 : decode cX8_set 73 = .ok (.invokevirtual 88, 3) := by decide +kernel
theorem dX8_set_76 : decode cX8_set 76 = .ok (.aload_n 0, 1) := by decide +kernel
theorem dX8_set_77 : decode cX8_set 77 = .ok (.getfield 7, 3) := by decide +kernel
theorem dX8_set_80 : decode cX8_set 80 = .ok (.iload_n 1, 1) := by decide +kernel
theorem dX8_set_81 : decode cX8_set 81 = .ok (.iaload, 1) := by decide +kernel
theorem dX8_set_82 : decode cX8_set 82 = .ok (.istore 4, 2) := by decide +kernel
theorem dX8_set_84 : decode cX8_set 84 = .ok (.aload_n 0, 1) := by decide +kernel
theorem dX8_set_85 : decode cX8_set 85 = .ok (.getfield 7, 3) := by decide +kernel
theorem dX8_set_88 : decode cX8_set 88 = .ok (.iload_n 1, 1) := by decide +kernel
theorem dX8_set_89 : decode cX8_set 89 = .ok (.iload_n 2, 1) := by decide +kernel
theorem dX8_set_90 : decode cX8_set 90 = .ok (.iastore, 1) := by decide +kernel
theorem dX8_set_91 : decode cX8_set 91 = .ok (.aload_n 0, 1) := by decide +kernel
theorem dX8_set_92 : decode cX8_set 92 = .ok (.iload 4, 2) := by decide +kernel
theorem dX8_set_94 : decode cX8_set 94 = .ok (.invokevirtual 91, 3) := by decide +kernel
theorem dX8_set_97 : decode cX8_set 97 = .ok (.ireturn, 1) := by decide +kernel
theorem dX8_price_0 : decode cX8_price 0 = .ok (.iload_n 1, 1) := by decide +kernel
theorem dX8_price_1 : decode cX8_price 1 = .ok (.iconst 0, 1) := by decide +kernel
theorem dX8_price_2 : decode cX8_price 2 = .ok (.iconst 4, 1) := by decide +kernel
theorem dX8_price_3 : decode cX8_price 3 = .ok (.invokestatic 33, 3) := by decide +kernel
theorem dX8_price_6 : decode cX8_price 6 = .ok (.ifCond .eq 10, 3) := by decide +kernel
theorem dX8_price_9 : decode cX8_price 9 = .ok (.iload_n 2, 1) := by decide +kernel
theorem dX8_price_10 : decode cX8_price 10 = .ok (.invokestatic 66, 3) := by decide +kernel
theorem dX8_price_13 : decode cX8_price 13 = .ok (.ifCond .ne 5, 3) := by decide +kernel
theorem dX8_price_16 : decode cX8_price 16 = .ok (.iconst (-1), 1) := by decide +kernel
theorem dX8_price_17 : decode cX8_price 17 = .ok (.ireturn, 1) := by decide +kernel
theorem dX8_price_18 : decode cX8_price 18 = .ok (.iload_n 3, 1) := by decide +kernel
theorem dX8_price_19 : decode cX8_price 19 = .ok (.iconst 1, 1) := by decide +kernel
theorem dX8_price_20 : decode cX8_price 20 = .ok (.iconst 3, 1) := by decide +kernel
theorem dX8_price_21 : decode cX8_price 21 = .ok (.invokestatic 33, 3) := by decide +kernel
theorem dX8_price_24 : decode cX8_price 24 = .ok (.ifCond .ne 6, 3) := by decide +kernel
theorem dX8_price_27 : decode cX8_price 27 = .ok (.bipush (-2), 2) := by decide +kernel
theorem dX8_price_29 : decode cX8_price 29 = .ok (.ireturn, 1) := by decide +kernel
theorem dX8_price_30 : decode cX8_price 30 = .ok (.aload_n 0, 1) := by decide +kernel
theorem dX8_price_31 : decode cX8_price 31 = .ok (.invokevirtual 88, 3) := by decide +kernel
theorem dX8_price_34 : decode cX8_price 34 = .ok (.aload_n 0, 1) := by decide +kernel
theorem dX8_price_35 : decode cX8_price 35 = .ok (.getfield 7, 3) := by decide +kernel
theorem dX8_price_38 : decode cX8_price 38 = .ok (.bipush 8, 2) := by decide +kernel
theorem dX8_price_40 : decode cX8_price 40 = .ok (.iconst 3, 1) := by decide +kernel
theorem dX8_price_41 : decode cX8_price 41 = .ok (.iload_n 1, 1) := by decide +kernel
theorem dX8_price_42 : decode cX8_price 42 = .ok (.imul, 1) := by decide +kernel
theorem dX8_price_43 : decode cX8_price 43 = .ok (.iadd, 1) := by decide +kernel
theorem dX8_price_44 : decode cX8_price 44 = .ok (.iload_n 2, 1) := by decide +kernel
theorem dX8_price_45 : decode cX8_price 45 = .ok (.iadd, 1) := by decide +kernel
theorem dX8_price_46 : decode cX8_price 46 = .ok (.iaload, 1) := by decide +kernel
theorem dX8_price_47 : decode cX8_price 47 = .ok (.istore 4, 2) := by decide +kernel
theorem dX8_price_49 : decode cX8_price 49 = .ok (.aload_n 0, 1) := by decide +kernel
theorem dX8_price_50 : decode cX8_price 50 = .ok (.getfield 7, 3) := by decide +kernel
theorem dX8_price_53 : decode cX8_price 53 = .ok (.bipush 8, 2) := by decide +kernel
theorem dX8_price_55 : decode cX8_price 55 = .ok (.iconst 3, 1) := by decide +kernel
theorem dX8_price_56 : decode cX8_price 56 = .ok (.iload_n 1, 1) := by decide +kernel
theorem dX8_price_57 : decode cX8_price 57 = .ok (.imul, 1) := by decide +kernel
theorem dX8_price_58 : decode cX8_price 58 = .ok (.iadd, 1) := by decide +kernel
theorem dX8_price_59 : decode cX8_price 59 = .ok (.iload_n 2, 1) := by decide +kernel
theorem dX8_price_60 : decode cX8_price 60 = .ok (.iadd, 1) := by decide +kernel
theorem dX8_price_61 : decode cX8_price 61 = .ok (.iload_n 3, 1) := by decide +kernel
theorem dX8_price_62 : decode cX8_price 62 = .ok (.iastore, 1) := by decide +kernel
theorem dX8_price_63 : decode cX8_price 63 = .ok (.aload_n 0, 1) := by decide +kernel
theorem dX8_price_64 : decode cX8_price 64 = .ok (.iload 4, 2) := by decide +kernel
theorem dX8_price_66 : decode cX8_price 66 = .ok (.invokevirtual 91, 3) := by decide +kernel
theorem dX8_price_69 : decode cX8_price 69 = .ok (.ireturn, 1) := by decide +kernel
theorem dX8_person_0 : decode cX8_person 0 = .ok (.aload_n 0, 1) := by decide +kernel
theorem dX8_person_1 : decode cX8_person 1 = .ok (.invokevirtual 88, 3) := by decide +kernel
theorem dX8_person_4 : decode cX8_person 4 = .ok (.aload_n 0, 1) := by decide +kernel
theorem dX8_person_5 : decode cX8_person 5 = .ok (.aload_n 0, 1) := by decide +kernel
theorem dX8_person_6 : decode cX8_person 6 = .ok (.invokevirtual 94, 3) := by decide +kernel
theorem dX8_person_9 : decode cX8_person 9 = .ok (.invokevirtual 91, 3) := by decide +kernel
theorem dX8_person_12 : decode cX8_person 12 = .ok (.ireturn, 1) := by decide +kernel
theorem dX8_vouchers_0 : decode cX8_vouchers 0 = .ok (.aload_n 0, 1) := by decide +kernel
theorem dX8_vouchers_1 : decode cX8_vouchers 1 = .ok (.invokevirtual 88, 3) := by decide +kernel
theorem dX8_vouchers_4 : decode cX8_vouchers 4 = .ok (.aload_n 0, 1) := by decide +kernel
theorem dX8_vouchers_5 : decode cX8_vouchers 5 = .ok (.aload_n 0, 1) := by decide +kernel
theorem dX8_vouchers_6 : decode cX8_vouchers 6 = .ok (.iload_n 1, 1) := by decide +kernel
theorem dX8_vouchers_7 : decode cX8_vouchers 7 = .ok (.iload_n 2, 1) := by decide +kernel
theorem dX8_vouchers_8 : decode cX8_vouchers 8 = .ok (.invokevirtual 98, 3) := by decide +kernel
theorem dX8_vouchers_11 : decode cX8_vouchers 11 = .ok (.invokevirtual 91, 3) := by decide +kernel
theorem dX8_vouchers_14 : decode cX8_vouchers 14 = .ok (.ireturn, 1) := by decide +kernel
theorem dX8_order_0 : decode cX8_order 0 = .ok (.aload_n 0, 1) := by decide +kernel
theorem dX8_order_1 : decode cX8_order 1 = .ok (.invokevirtual 88, 3) := by decide +kernel
theorem dX8_order_4 : decode cX8_order 4 = .ok (.aload_n 0, 1) := by decide +kernel
theorem dX8_order_5 : decode cX8_order 5 = .ok (.aload_n 0, 1) := by decide +kernel
theorem dX8_order_6 : decode cX8_order 6 = .ok (.iload_n 1, 1) := by decide +kernel
theorem dX8_order_7 : decode cX8_order 7 = .ok (.iload_n 2, 1) := by decide +kernel
theorem dX8_order_8 : decode cX8_order 8 = .ok (.iload_n 3, 1) := by decide +kernel
theorem dX8_order_9 : decode cX8_order 9 = .ok (.invokevirtual 101, 3) := by decide +kernel
theorem dX8_order_12 : decode cX8_order 12 = .ok (.invokevirtual 91, 3) := by decide +kernel
theorem dX8_order_15 : decode cX8_order 15 = .ok (.ireturn, 1) := by decide +kernel
theorem dX8_callOff_0 : decode cX8_callOff 0 = .ok (.aload_n 0, 1) := by decide +kernel
theorem dX8_callOff_1 : decode cX8_callOff 1 = .ok (.iload_n 1, 1) := by decide +kernel
theorem dX8_callOff_2 : decode cX8_callOff 2 = .ok (.invokevirtual 54, 3) := by decide +kernel
theorem dX8_callOff_5 : decode cX8_callOff 5 = .ok (.ifCond .ne 5, 3) := by decide +kernel
theorem dX8_callOff_8 : decode cX8_callOff 8 = .ok (.iconst (-1), 1) := by decide +kernel
theorem dX8_callOff_9 : decode cX8_callOff 9 = .ok (.ireturn, 1) := by decide +kernel
theorem dX8_callOff_10 : decode cX8_callOff 10 = .ok (.iload_n 2, 1) := by decide +kernel
theorem dX8_callOff_11 : decode cX8_callOff 11 = .ok (.iconst 1, 1) := by decide +kernel
theorem dX8_callOff_12 : decode cX8_callOff 12 = .ok (.iconst 4, 1) := by decide +kernel
theorem dX8_callOff_13 : decode cX8_callOff 13 = .ok (.invokestatic 33, 3) := by decide +kernel
theorem dX8_callOff_16 : decode cX8_callOff 16 = .ok (.ifCond .ne 6, 3) := by decide +kernel
theorem dX8_callOff_19 : decode cX8_callOff 19 = .ok (.bipush (-2), 2) := by decide +kernel
theorem dX8_callOff_21 : decode cX8_callOff 21 = .ok (.ireturn, 1) := by decide +kernel
theorem dX8_callOff_22 : decode cX8_callOff 22 = .ok (.iload_n 1, 1) := by decide +kernel
theorem dX8_callOff_23 : decode cX8_callOff 23 = .ok (.invokestatic 41, 3) := by decide +kernel
theorem dX8_callOff_26 : decode cX8_callOff 26 = .ok (.istore_n 3, 1) := by decide +kernel
theorem dX8_callOff_27 : decode cX8_callOff 27 = .ok (.aload_n 0, 1) := by decide +kernel
theorem dX8_callOff_28 : decode cX8_callOff 28 = .ok (.getfield 7, 3) := by decide +kernel
theorem dX8_callOff_31 : decode cX8_callOff 31 = .ok (.iload_n 3, 1) := by decide +kernel
theorem dX8_callOff_32 : decode cX8_callOff 32 = .ok (.iconst 1, 1) := by decide +kernel
theorem dX8_callOff_33 : decode cX8_callOff 33 = .ok (.iadd, 1) := by decide +kernel
theorem dX8_callOff_34 : decode cX8_callOff 34 = .ok (.iload_n 2, 1) := by decide +kernel
theorem dX8_callOff_35 : decode cX8_callOff 35 = .ok (.iadd, 1) := by decide +kernel
theorem dX8_callOff_36 : decode cX8_callOff 36 = .ok (.iaload, 1) := by decide +kernel
theorem dX8_callOff_37 : decode cX8_callOff 37 = .ok (.ifCond .ne 6, 3) := by decide +kernel
theorem dX8_callOff_40 : decode cX8_callOff 40 = .ok (.bipush (-5), 2) := by decide +kernel
theorem dX8_callOff_42 : decode cX8_callOff 42 = .ok (.ireturn, 1) := by decide +kernel
theorem dX8_callOff_43 : decode cX8_callOff 43 = .ok (.aload_n 0, 1) := by decide +kernel
theorem dX8_callOff_44 : decode cX8_callOff 44 = .ok (.invokevirtual 88, 3) := by decide +kernel
theorem dX8_callOff_47 : decode cX8_callOff 47 = .ok (.aload_n 0, 1) := by decide +kernel
theorem dX8_callOff_48 : decode cX8_callOff 48 = .ok (.getfield 7, 3) := by decide +kernel
theorem dX8_callOff_51 : decode cX8_callOff 51 = .ok (.iload_n 3, 1) := by decide +kernel
theorem dX8_callOff_52 : decode cX8_callOff 52 = .ok (.iconst 1, 1) := by decide +kernel
theorem dX8_callOff_53 : decode cX8_callOff 53 = .ok (.iadd, 1) := by decide +kernel
theorem dX8_callOff_54 : decode cX8_callOff 54 = .ok (.iload_n 2, 1) := by decide +kernel
theorem dX8_callOff_55 : decode cX8_callOff 55 = .ok (.iadd, 1) := by decide +kernel
theorem dX8_callOff_56 : decode cX8_callOff 56 = .ok (.iconst 0, 1) := by decide +kernel
theorem dX8_callOff_57 : decode cX8_callOff 57 = .ok (.iastore, 1) := by decide +kernel
theorem dX8_callOff_58 : decode cX8_callOff 58 = .ok (.aload_n 0, 1) := by decide +kernel
theorem dX8_callOff_59 : decode cX8_callOff 59 = .ok (.iload_n 1, 1) := by decide +kernel
theorem dX8_callOff_60 : decode cX8_callOff 60 = .ok (.aload_n 0, 1) := by decide +kernel
theorem dX8_callOff_61 : decode cX8_callOff 61 = .ok (.getfield 7, 3) := by decide +kernel
theorem dX8_callOff_64 : decode cX8_callOff 64 = .ok (.iload_n 3, 1) := by decide +kernel
theorem dX8_callOff_65 : decode cX8_callOff 65 = .ok (.bipush 6, 2) := by decide +kernel
theorem dX8_callOff_67 : decode cX8_callOff 67 = .ok (.iadd, 1) := by decide +kernel
theorem dX8_callOff_68 : decode cX8_callOff 68 = .ok (.iload_n 2, 1) := by decide +kernel
theorem dX8_callOff_69 : decode cX8_callOff 69 = .ok (.iadd, 1) := by decide +kernel
theorem dX8_callOff_70 : decode cX8_callOff 70 = .ok (.iaload, 1) := by decide +kernel
theorem dX8_callOff_71 : decode cX8_callOff 71 = .ok (.invokevirtual 58, 3) := by decide +kernel
theorem dX8_callOff_74 : decode cX8_callOff 74 = .ok (.aload_n 0, 1) := by decide +kernel
theorem dX8_callOff_75 : decode cX8_callOff 75 = .ok (.getfield 7, 3) := by decide +kernel
theorem dX8_callOff_78 : decode cX8_callOff 78 = .ok (.iload_n 3, 1) := by decide +kernel
theorem dX8_callOff_79 : decode cX8_callOff 79 = .ok (.bipush 6, 2) := by decide +kernel
theorem dX8_callOff_81 : decode cX8_callOff 81 = .ok (.iadd, 1) := by decide +kernel
theorem dX8_callOff_82 : decode cX8_callOff 82 = .ok (.iload_n 2, 1) := by decide +kernel
theorem dX8_callOff_83 : decode cX8_callOff 83 = .ok (.iadd, 1) := by decide +kernel
theorem dX8_callOff_84 : decode cX8_callOff 84 = .ok (.iconst 0, 1) := by decide +kernel
theorem dX8_callOff_85 : decode cX8_callOff 85 = .ok (.iastore, 1) := by decide +kernel
theorem dX8_callOff_86 : decode cX8_callOff 86 = .ok (.aload_n 0, 1) := by decide +kernel
theorem dX8_callOff_87 : decode cX8_callOff 87 = .ok (.aload_n 0, 1) := by decide +kernel
theorem dX8_callOff_88 : decode cX8_callOff 88 = .ok (.getfield 7, 3) := by decide +kernel
theorem dX8_callOff_91 : decode cX8_callOff 91 = .ok (.iload_n 3, 1) := by decide +kernel
theorem dX8_callOff_92 : decode cX8_callOff 92 = .ok (.iconst 0, 1) := by decide +kernel
theorem dX8_callOff_93 : decode cX8_callOff 93 = .ok (.iadd, 1) := by decide +kernel
theorem dX8_callOff_94 : decode cX8_callOff 94 = .ok (.iaload, 1) := by decide +kernel
theorem dX8_callOff_95 : decode cX8_callOff 95 = .ok (.invokevirtual 91, 3) := by decide +kernel
theorem dX8_callOff_98 : decode cX8_callOff 98 = .ok (.ireturn, 1) := by decide +kernel
theorem dX8_cook_0 : decode cX8_cook 0 = .ok (.aload_n 0, 1) := by decide +kernel
theorem dX8_cook_1 : decode cX8_cook 1 = .ok (.invokevirtual 88, 3) := by decide +kernel
theorem dX8_cook_4 : decode cX8_cook 4 = .ok (.aload_n 0, 1) := by decide +kernel
theorem dX8_cook_5 : decode cX8_cook 5 = .ok (.aload_n 0, 1) := by decide +kernel
theorem dX8_cook_6 : decode cX8_cook 6 = .ok (.invokevirtual 104, 3) := by decide +kernel
theorem dX8_cook_9 : decode cX8_cook 9 = .ok (.invokevirtual 91, 3) := by decide +kernel
theorem dX8_cook_12 : decode cX8_cook 12 = .ok (.ireturn, 1) := by decide +kernel
theorem dX8_come_0 : decode cX8_come 0 = .ok (.aload_n 0, 1) := by decide +kernel
theorem dX8_come_1 : decode cX8_come 1 = .ok (.invokevirtual 88, 3) := by decide +kernel
theorem dX8_come_4 : decode cX8_come 4 = .ok (.aload_n 0, 1) := by decide +kernel
theorem dX8_come_5 : decode cX8_come 5 = .ok (.aload_n 0, 1) := by decide +kernel
theorem dX8_come_6 : decode cX8_come 6 = .ok (.iload_n 1, 1) := by decide +kernel
theorem dX8_come_7 : decode cX8_come 7 = .ok (.invokevirtual 107, 3) := by decide +kernel
theorem dX8_come_10 : decode cX8_come 10 = .ok (.invokevirtual 91, 3) := by decide +kernel
theorem dX8_come_13 : decode cX8_come 13 = .ok (.ireturn, 1) := by decide +kernel
theorem dX8_buy_0 : decode cX8_buy 0 = .ok (.aload_n 0, 1) := by decide +kernel
theorem dX8_buy_1 : decode cX8_buy 1 = .ok (.invokevirtual 88, 3) := by decide +kernel
theorem dX8_buy_4 : decode cX8_buy 4 = .ok (.aload_n 0, 1) := by decide +kernel
theorem dX8_buy_5 : decode cX8_buy 5 = .ok (.aload_n 0, 1) := by decide +kernel
theorem dX8_buy_6 : decode cX8_buy 6 = .ok (.iload_n 1, 1) := by decide +kernel
theorem dX8_buy_7 : decode cX8_buy 7 = .ok (.iload_n 2, 1) := by decide +kernel
theorem dX8_buy_8 : decode cX8_buy 8 = .ok (.invokevirtual 110, 3) := by decide +kernel
theorem dX8_buy_11 : decode cX8_buy 11 = .ok (.invokevirtual 91, 3) := by decide +kernel
theorem dX8_buy_14 : decode cX8_buy 14 = .ok (.ireturn, 1) := by decide +kernel
theorem dX8_close_0 : decode cX8_close 0 = .ok (.aload_n 0, 1) := by decide +kernel
theorem dX8_close_1 : decode cX8_close 1 = .ok (.invokevirtual 88, 3) := by decide +kernel
theorem dX8_close_4 : decode cX8_close 4 = .ok (.aload_n 0, 1) := by decide +kernel
theorem dX8_close_5 : decode cX8_close 5 = .ok (.aload_n 0, 1) := by decide +kernel
theorem dX8_close_6 : decode cX8_close 6 = .ok (.invokevirtual 113, 3) := by decide +kernel
theorem dX8_close_9 : decode cX8_close 9 = .ok (.invokevirtual 91, 3) := by decide +kernel
theorem dX8_close_12 : decode cX8_close 12 = .ok (.ireturn, 1) := by decide +kernel
theorem dX8_daysOf_0 : decode cX8_daysOf 0 = .ok (.iconst 0, 1) := by decide +kernel
theorem dX8_daysOf_1 : decode cX8_daysOf 1 = .ok (.istore_n 2, 1) := by decide +kernel
theorem dX8_daysOf_2 : decode cX8_daysOf 2 = .ok (.iconst 0, 1) := by decide +kernel
theorem dX8_daysOf_3 : decode cX8_daysOf 3 = .ok (.istore_n 3, 1) := by decide +kernel
theorem dX8_daysOf_4 : decode cX8_daysOf 4 = .ok (.iload_n 3, 1) := by decide +kernel
theorem dX8_daysOf_5 : decode cX8_daysOf 5 = .ok (.iconst 5, 1) := by decide +kernel
theorem dX8_daysOf_6 : decode cX8_daysOf 6 = .ok (.if_icmp .ge 35, 3) := by decide +kernel
theorem dX8_daysOf_9 : decode cX8_daysOf 9 = .ok (.iload_n 2, 1) := by decide +kernel
theorem dX8_daysOf_10 : decode cX8_daysOf 10 = .ok (.aload_n 0, 1) := by decide +kernel
theorem dX8_daysOf_11 : decode cX8_daysOf 11 = .ok (.getfield 7, 3) := by decide +kernel
theorem dX8_daysOf_14 : decode cX8_daysOf 14 = .ok (.iload_n 1, 1) := by decide +kernel
theorem dX8_daysOf_15 : decode cX8_daysOf 15 = .ok (.invokestatic 41, 3) := by decide +kernel
theorem dX8_daysOf_18 : decode cX8_daysOf 18 = .ok (.iconst 1, 1) := by decide +kernel
theorem dX8_daysOf_19 : decode cX8_daysOf 19 = .ok (.iadd, 1) := by decide +kernel
theorem dX8_daysOf_20 : decode cX8_daysOf 20 = .ok (.iload_n 3, 1) := by decide +kernel
theorem dX8_daysOf_21 : decode cX8_daysOf 21 = .ok (.iadd, 1) := by decide +kernel
theorem dX8_daysOf_22 : decode cX8_daysOf 22 = .ok (.iaload, 1) := by decide +kernel
theorem dX8_daysOf_23 : decode cX8_daysOf 23 = .ok (.ifCond .le 9, 3) := by decide +kernel
theorem dX8_daysOf_26 : decode cX8_daysOf 26 = .ok (.iconst 1, 1) := by decide +kernel
theorem dX8_daysOf_27 : decode cX8_daysOf 27 = .ok (.iload_n 3, 1) := by decide +kernel
theorem dX8_daysOf_28 : decode cX8_daysOf 28 = .ok (.ishl, 1) := by decide +kernel
theorem dX8_daysOf_29 : decode cX8_daysOf 29 = .ok (.goto 4, 3) := by decide +kernel
theorem dX8_daysOf_32 : decode cX8_daysOf 32 = .ok (.iconst 0, 1) := by decide +kernel
theorem dX8_daysOf_33 : decode cX8_daysOf 33 = .ok (.ior, 1) := by decide +kernel
theorem dX8_daysOf_34 : decode cX8_daysOf 34 = .ok (.istore_n 2, 1) := by decide +kernel
theorem dX8_daysOf_35 : decode cX8_daysOf 35 = .ok (.iinc 3 1, 3) := by decide +kernel
theorem dX8_daysOf_38 : decode cX8_daysOf 38 = .ok (.goto (-34), 3) := by decide +kernel
theorem dX8_daysOf_41 : decode cX8_daysOf 41 = .ok (.iload_n 2, 1) := by decide +kernel
theorem dX8_daysOf_42 : decode cX8_daysOf 42 = .ok (.ireturn, 1) := by decide +kernel
theorem dX8_of_0 : decode cX8_of 0 = .ok (.aload_n 0, 1) := by decide +kernel
theorem dX8_of_1 : decode cX8_of 1 = .ok (.iload_n 1, 1) := by decide +kernel
theorem dX8_of_2 : decode cX8_of 2 = .ok (.invokevirtual 54, 3) := by decide +kernel
theorem dX8_of_5 : decode cX8_of 5 = .ok (.ifCond .ne 5, 3) := by decide +kernel
theorem dX8_of_8 : decode cX8_of 8 = .ok (.iconst (-1), 1) := by decide +kernel
theorem dX8_of_9 : decode cX8_of 9 = .ok (.ireturn, 1) := by decide +kernel
theorem dX8_of_10 : decode cX8_of 10 = .ok (.iload_n 1, 1) := by decide +kernel
theorem dX8_of_11 : decode cX8_of 11 = .ok (.invokestatic 41, 3) := by decide +kernel
theorem dX8_of_14 : decode cX8_of 14 = .ok (.istore_n 3, 1) := by decide +kernel
theorem dX8_of_15 : decode cX8_of 15 = .ok (.iload_n 2, 1) := by decide +kernel
theorem dX8_of_16 : decode cX8_of 16 = .ok (.tableswitch 108 0 8 #[52, 61, 88, 94, 94, 94, 94, 94, 94], 52) := by decide +kernel
theorem dX8_of_68 : decode cX8_of 68 = .ok (.aload_n 0, 1) := by decide +kernel
theorem dX8_of_69 : decode cX8_of 69 = .ok (.getfield 7, 3) := by decide +kernel
theorem dX8_of_72 : decode cX8_of 72 = .ok (.iload_n 3, 1) := by decide +kernel
theorem dX8_of_73 : decode cX8_of 73 = .ok (.iconst 0, 1) := by decide +kernel
theorem dX8_of_74 : decode cX8_of 74 = .ok (.iadd, 1) := by decide +kernel
theorem dX8_of_75 : decode cX8_of 75 = .ok (.iaload, 1) := by decide +kernel
theorem dX8_of_76 : decode cX8_of 76 = .ok (.ireturn, 1) := by decide +kernel
theorem dX8_of_77 : decode cX8_of 77 = .ok (.aload_n 0, 1) := by decide +kernel
theorem dX8_of_78 : decode cX8_of 78 = .ok (.getfield 7, 3) := by decide +kernel
theorem dX8_of_81 : decode cX8_of 81 = .ok (.iload_n 3, 1) := by decide +kernel
theorem dX8_of_82 : decode cX8_of 82 = .ok (.iconst 1, 1) := by decide +kernel
theorem dX8_of_83 : decode cX8_of 83 = .ok (.iadd, 1) := by decide +kernel
theorem dX8_of_84 : decode cX8_of 84 = .ok (.iaload, 1) := by decide +kernel
theorem dX8_of_85 : decode cX8_of 85 = .ok (.ifCond .ne 8, 3) := by decide +kernel
theorem dX8_of_88 : decode cX8_of 88 = .ok (.bipush (-6), 2) := by decide +kernel
theorem dX8_of_90 : decode cX8_of 90 = .ok (.goto 13, 3) := by decide +kernel
theorem dX8_of_93 : decode cX8_of 93 = .ok (.aload_n 0, 1) := by decide +kernel
theorem dX8_of_94 : decode cX8_of 94 = .ok (.getfield 7, 3) := by decide +kernel
theorem dX8_of_97 : decode cX8_of 97 = .ok (.iload_n 3, 1) := by decide +kernel
theorem dX8_of_98 : decode cX8_of 98 = .ok (.iconst 1, 1) := by decide +kernel
theorem dX8_of_99 : decode cX8_of 99 = .ok (.iadd, 1) := by decide +kernel
theorem dX8_of_100 : decode cX8_of 100 = .ok (.iaload, 1) := by decide +kernel
theorem dX8_of_101 : decode cX8_of 101 = .ok (.iconst 1, 1) := by decide +kernel
theorem dX8_of_102 : decode cX8_of 102 = .ok (.isub, 1) := by decide +kernel
theorem dX8_of_103 : decode cX8_of 103 = .ok (.ireturn, 1) := by decide +kernel
theorem dX8_of_104 : decode cX8_of 104 = .ok (.aload_n 0, 1) := by decide +kernel
theorem dX8_of_105 : decode cX8_of 105 = .ok (.iload_n 1, 1) := by decide +kernel
theorem dX8_of_106 : decode cX8_of 106 = .ok (.invokevirtual 116, 3) := by decide +kernel
theorem dX8_of_109 : decode cX8_of 109 = .ok (.ireturn, 1) := by decide +kernel
theorem dX8_of_110 : decode cX8_of 110 = .ok (.aload_n 0, 1) := by decide +kernel
theorem dX8_of_111 : decode cX8_of 111 = .ok (.getfield 7, 3) := by decide +kernel
theorem dX8_of_114 : decode cX8_of 114 = .ok (.iload_n 3, 1) := by decide +kernel
theorem dX8_of_115 : decode cX8_of 115 = .ok (.bipush 11, 2) := by decide +kernel
theorem dX8_of_117 : decode cX8_of 117 = .ok (.iadd, 1) := by decide +kernel
theorem dX8_of_118 : decode cX8_of 118 = .ok (.iload_n 2, 1) := by decide +kernel
theorem dX8_of_119 : decode cX8_of 119 = .ok (.iadd, 1) := by decide +kernel
theorem dX8_of_120 : decode cX8_of 120 = .ok (.iconst 3, 1) := by decide +kernel
theorem dX8_of_121 : decode cX8_of 121 = .ok (.isub, 1) := by decide +kernel
theorem dX8_of_122 : decode cX8_of 122 = .ok (.iaload, 1) := by decide +kernel
theorem dX8_of_123 : decode cX8_of 123 = .ok (.ireturn, 1) := by decide +kernel
theorem dX8_of_124 : decode cX8_of 124 = .ok (.bipush (-2), 2) := by decide +kernel
theorem dX8_of_126 : decode cX8_of 126 = .ok (.ireturn, 1) := by decide +kernel
theorem dX8_ofDish_0 : decode cX8_ofDish 0 = .ok (.iload_n 1, 1) := by decide +kernel
theorem dX8_ofDish_1 : decode cX8_ofDish 1 = .ok (.invokestatic 66, 3) := by decide +kernel
theorem dX8_ofDish_4 : decode cX8_ofDish 4 = .ok (.ifCond .ne 5, 3) := by decide +kernel
theorem dX8_ofDish_7 : decode cX8_ofDish 7 = .ok (.iconst (-1), 1) := by decide +kernel
theorem dX8_ofDish_8 : decode cX8_ofDish 8 = .ok (.ireturn, 1) := by decide +kernel
theorem dX8_ofDish_9 : decode cX8_ofDish 9 = .ok (.iload_n 2, 1) := by decide +kernel
theorem dX8_ofDish_10 : decode cX8_ofDish 10 = .ok (.tableswitch 111 0 7 #[46, 46, 58, 64, 64, 64, 78, 90], 46) := by decide +kernel
theorem dX8_ofDish_56 : decode cX8_ofDish 56 = .ok (.aload_n 0, 1) := by decide +kernel
theorem dX8_ofDish_57 : decode cX8_ofDish 57 = .ok (.getfield 7, 3) := by decide +kernel
theorem dX8_ofDish_60 : decode cX8_ofDish 60 = .ok (.iload_n 1, 1) := by decide +kernel
theorem dX8_ofDish_61 : decode cX8_ofDish 61 = .ok (.invokestatic 51, 3) := by decide +kernel
theorem dX8_ofDish_64 : decode cX8_ofDish 64 = .ok (.iload_n 2, 1) := by decide +kernel
theorem dX8_ofDish_65 : decode cX8_ofDish 65 = .ok (.iadd, 1) := by decide +kernel
theorem dX8_ofDish_66 : decode cX8_ofDish 66 = .ok (.iaload, 1) := by decide +kernel
theorem dX8_ofDish_67 : decode cX8_ofDish 67 = .ok (.ireturn, 1) := by decide +kernel
theorem dX8_ofDish_68 : decode cX8_ofDish 68 = .ok (.aload_n 0, 1) := by decide +kernel
theorem dX8_ofDish_69 : decode cX8_ofDish 69 = .ok (.iload_n 1, 1) := by decide +kernel
theorem dX8_ofDish_70 : decode cX8_ofDish 70 = .ok (.invokevirtual 82, 3) := by decide +kernel
theorem dX8_ofDish_73 : decode cX8_ofDish 73 = .ok (.ireturn, 1) := by decide +kernel
theorem dX8_ofDish_74 : decode cX8_ofDish 74 = .ok (.aload_n 0, 1) := by decide +kernel
theorem dX8_ofDish_75 : decode cX8_ofDish 75 = .ok (.getfield 7, 3) := by decide +kernel
theorem dX8_ofDish_78 : decode cX8_ofDish 78 = .ok (.iload_n 1, 1) := by decide +kernel
theorem dX8_ofDish_79 : decode cX8_ofDish 79 = .ok (.invokestatic 51, 3) := by decide +kernel
theorem dX8_ofDish_82 : decode cX8_ofDish 82 = .ok (.iload_n 2, 1) := by decide +kernel
theorem dX8_ofDish_83 : decode cX8_ofDish 83 = .ok (.iadd, 1) := by decide +kernel
theorem dX8_ofDish_84 : decode cX8_ofDish 84 = .ok (.iconst 1, 1) := by decide +kernel
theorem dX8_ofDish_85 : decode cX8_ofDish 85 = .ok (.isub, 1) := by decide +kernel
theorem dX8_ofDish_86 : decode cX8_ofDish 86 = .ok (.iaload, 1) := by decide +kernel
theorem dX8_ofDish_87 : decode cX8_ofDish 87 = .ok (.ireturn, 1) := by decide +kernel
theorem dX8_ofDish_88 : decode cX8_ofDish 88 = .ok (.aload_n 0, 1) := by decide +kernel
theorem dX8_ofDish_89 : decode cX8_ofDish 89 = .ok (.aload_n 0, 1) := by decide +kernel
theorem dX8_ofDish_90 : decode cX8_ofDish 90 = .ok (.getfield 7, 3) := by decide +kernel
theorem dX8_ofDish_93 : decode cX8_ofDish 93 = .ok (.iconst 4, 1) := by decide +kernel
theorem dX8_ofDish_94 : decode cX8_ofDish 94 = .ok (.iaload, 1) := by decide +kernel
theorem dX8_ofDish_95 : decode cX8_ofDish 95 = .ok (.iload_n 1, 1) := by decide +kernel
theorem dX8_ofDish_96 : decode cX8_ofDish 96 = .ok (.invokevirtual 62, 3) := by decide +kernel
theorem dX8_ofDish_99 : decode cX8_ofDish 99 = .ok (.ireturn, 1) := by decide +kernel
theorem dX8_ofDish_100 : decode cX8_ofDish 100 = .ok (.aload_n 0, 1) := by decide +kernel
theorem dX8_ofDish_101 : decode cX8_ofDish 101 = .ok (.getfield 7, 3) := by decide +kernel
theorem dX8_ofDish_104 : decode cX8_ofDish 104 = .ok (.bipush 6, 2) := by decide +kernel
theorem dX8_ofDish_106 : decode cX8_ofDish 106 = .ok (.iaload, 1) := by decide +kernel
theorem dX8_ofDish_107 : decode cX8_ofDish 107 = .ok (.iconst 1, 1) := by decide +kernel
theorem dX8_ofDish_108 : decode cX8_ofDish 108 = .ok (.if_icmp .ne 7, 3) := by decide +kernel
theorem dX8_ofDish_111 : decode cX8_ofDish 111 = .ok (.iconst 0, 1) := by decide +kernel
theorem dX8_ofDish_112 : decode cX8_ofDish 112 = .ok (.goto 8, 3) := by decide +kernel
theorem dX8_ofDish_115 : decode cX8_ofDish 115 = .ok (.aload_n 0, 1) := by decide +kernel
theorem dX8_ofDish_116 : decode cX8_ofDish 116 = .ok (.iload_n 1, 1) := by decide +kernel
theorem dX8_ofDish_117 : decode cX8_ofDish 117 = .ok (.invokevirtual 73, 3) := by decide +kernel
theorem dX8_ofDish_120 : decode cX8_ofDish 120 = .ok (.ireturn, 1) := by decide +kernel
theorem dX8_ofDish_121 : decode cX8_ofDish 121 = .ok (.bipush (-2), 2) := by decide +kernel
theorem dX8_ofDish_123 : decode cX8_ofDish 123 = .ok (.ireturn, 1) := by decide +kernel
theorem dX8_ordered_0 : decode cX8_ordered 0 = .ok (.iload_n 2, 1) := by decide +kernel
theorem dX8_ordered_1 : decode cX8_ordered 1 = .ok (.invokestatic 66, 3) := by decide +kernel
theorem dX8_ordered_4 : decode cX8_ordered 4 = .ok (.ifCond .ne 5, 3) := by decide +kernel
theorem dX8_ordered_7 : decode cX8_ordered 7 = .ok (.iconst (-1), 1) := by decide +kernel
theorem dX8_ordered_8 : decode cX8_ordered 8 = .ok (.ireturn, 1) := by decide +kernel
theorem dX8_ordered_9 : decode cX8_ordered 9 = .ok (.iload_n 1, 1) := by decide +kernel
theorem dX8_ordered_10 : decode cX8_ordered 10 = .ok (.iconst 0, 1) := by decide +kernel
theorem dX8_ordered_11 : decode cX8_ordered 11 = .ok (.iconst 4, 1) := by decide +kernel
theorem dX8_ordered_12 : decode cX8_ordered 12 = .ok (.invokestatic 33, 3) := by decide +kernel
theorem dX8_ordered_15 : decode cX8_ordered 15 = .ok (.ifCond .ne 6, 3) := by decide +kernel
theorem dX8_ordered_18 : decode cX8_ordered 18 = .ok (.bipush (-2), 2) := by decide +kernel
theorem dX8_ordered_20 : decode cX8_ordered 20 = .ok (.ireturn, 1) := by decide +kernel
theorem dX8_ordered_21 : decode cX8_ordered 21 = .ok (.iconst 0, 1) := by decide +kernel
theorem dX8_ordered_22 : decode cX8_ordered 22 = .ok (.istore_n 3, 1) := by decide +kernel
theorem dX8_ordered_23 : decode cX8_ordered 23 = .ok (.iconst 0, 1) := by decide +kernel
theorem dX8_ordered_24 : decode cX8_ordered 24 = .ok (.istore 4, 2) := by decide +kernel
theorem dX8_ordered_26 : decode cX8_ordered 26 = .ok (.iload 4, 2) := by decide +kernel
theorem dX8_ordered_28 : decode cX8_ordered 28 = .ok (.aload_n 0, 1) := by decide +kernel
theorem dX8_ordered_29 : decode cX8_ordered 29 = .ok (.getfield 7, 3) := by decide +kernel
theorem dX8_ordered_32 : decode cX8_ordered 32 = .ok (.iconst 5, 1) := by decide +kernel
theorem dX8_ordered_33 : decode cX8_ordered 33 = .ok (.iaload, 1) := by decide +kernel
theorem dX8_ordered_34 : decode cX8_ordered 34 = .ok (.if_icmp .ge 31, 3) := by decide +kernel
theorem dX8_ordered_37 : decode cX8_ordered 37 = .ok (.iload_n 3, 1) := by decide +kernel
theorem dX8_ordered_38 : decode cX8_ordered 38 = .ok (.aload_n 0, 1) := by decide +kernel
theorem dX8_ordered_39 : decode cX8_ordered 39 = .ok (.iload 4, 2) := by decide +kernel
theorem dX8_ordered_41 : decode cX8_ordered 41 = .ok (.iload_n 1, 1) := by decide +kernel
theorem dX8_ordered_42 : decode cX8_ordered 42 = .ok (.iload_n 2, 1) := by decide +kernel
theorem dX8_ordered_43 : decode cX8_ordered 43 = .ok (.invokevirtual 45, 3) := by decide +kernel
theorem dX8_ordered_46 : decode cX8_ordered 46 = .ok (.ifCond .eq 10, 3) := by decide +kernel
theorem dX8_ordered_49 : decode cX8_ordered 49 = .ok (.iconst 1, 1) := by decide +kernel
theorem dX8_ordered_50 : decode cX8_ordered 50 = .ok (.iload 4, 2) := by decide +kernel
theorem dX8_ordered_52 : decode cX8_ordered 52 = .ok (.ishl, 1) := by decide +kernel
theorem dX8_ordered_53 : decode cX8_ordered 53 = .ok (.goto 4, 3) := by decide +kernel
theorem dX8_ordered_56 : decode cX8_ordered 56 = .ok (.iconst 0, 1) := by decide +kernel
theorem dX8_ordered_57 : decode cX8_ordered 57 = .ok (.ior, 1) := by decide +kernel
theorem dX8_ordered_58 : decode cX8_ordered 58 = .ok (.istore_n 3, 1) := by decide +kernel
theorem dX8_ordered_59 : decode cX8_ordered 59 = .ok (.iinc 4 1, 3) := by decide +kernel
theorem dX8_ordered_62 : decode cX8_ordered 62 = .ok (.goto (-36), 3) := by decide +kernel
theorem dX8_ordered_65 : decode cX8_ordered 65 = .ok (.iload_n 3, 1) := by decide +kernel
theorem dX8_ordered_66 : decode cX8_ordered 66 = .ok (.ireturn, 1) := by decide +kernel
theorem dX8_ofDishes_0 : decode cX8_ofDishes 0 = .ok (.iconst 0, 1) := by decide +kernel
theorem dX8_ofDishes_1 : decode cX8_ofDishes 1 = .ok (.istore_n 2, 1) := by decide +kernel
theorem dX8_ofDishes_2 : decode cX8_ofDishes 2 = .ok (.iconst 0, 1) := by decide +kernel
theorem dX8_ofDishes_3 : decode cX8_ofDishes 3 = .ok (.istore_n 3, 1) := by decide +kernel
theorem dX8_ofDishes_4 : decode cX8_ofDishes 4 = .ok (.iload_n 3, 1) := by decide +kernel
theorem dX8_ofDishes_5 : decode cX8_ofDishes 5 = .ok (.iconst 3, 1) := by decide +kernel
theorem dX8_ofDishes_6 : decode cX8_ofDishes 6 = .ok (.if_icmp .ge 39, 3) := by decide +kernel
theorem dX8_ofDishes_9 : decode cX8_ofDishes 9 = .ok (.iload_n 2, 1) := by decide +kernel
theorem dX8_ofDishes_10 : decode cX8_ofDishes 10 = .ok (.iload_n 1, 1) := by decide +kernel
theorem dX8_ofDishes_11 : decode cX8_ofDishes 11 = .ok (.bipush 6, 2) := by decide +kernel
theorem dX8_ofDishes_13 : decode cX8_ofDishes 13 = .ok (.if_icmp .ne 11, 3) := by decide +kernel
theorem dX8_ofDishes_16 : decode cX8_ofDishes 16 = .ok (.aload_n 0, 1) := by decide +kernel
theorem dX8_ofDishes_17 : decode cX8_ofDishes 17 = .ok (.iload_n 3, 1) := by decide +kernel
theorem dX8_ofDishes_18 : decode cX8_ofDishes 18 = .ok (.invokevirtual 76, 3) := by decide +kernel
theorem dX8_ofDishes_21 : decode cX8_ofDishes 21 = .ok (.goto 16, 3) := by decide +kernel
theorem dX8_ofDishes_24 : decode cX8_ofDishes 24 = .ok (.aload_n 0, 1) := by decide +kernel
theorem dX8_ofDishes_25 : decode cX8_ofDishes 25 = .ok (.getfield 7, 3) := by decide +kernel
theorem dX8_ofDishes_28 : decode cX8_ofDishes 28 = .ok (.iload_n 3, 1) := by decide +kernel
theorem dX8_ofDishes_29 : decode cX8_ofDishes 29 = .ok (.invokestatic 51, 3) := by decide +kernel
theorem dX8_ofDishes_32 : decode cX8_ofDishes 32 = .ok (.iload_n 1, 1) := by decide +kernel
theorem dX8_ofDishes_33 : decode cX8_ofDishes 33 = .ok (.iadd, 1) := by decide +kernel
theorem dX8_ofDishes_34 : decode cX8_ofDishes 34 = .ok (.iconst 1, 1) := by decide +kernel
theorem dX8_ofDishes_35 : decode cX8_ofDishes 35 = .ok (.isub, 1) := by decide +kernel
theorem dX8_ofDishes_36 : decode cX8_ofDishes 36 = .ok (.iaload, 1) := by decide +kernel
theorem dX8_ofDishes_37 : decode cX8_ofDishes 37 = .ok (.iadd, 1) := by decide +kernel
theorem dX8_ofDishes_38 : decode cX8_ofDishes 38 = .ok (.istore_n 2, 1) := by decide +kernel
theorem dX8_ofDishes_39 : decode cX8_ofDishes 39 = .ok (.iinc 3 1, 3) := by decide +kernel
theorem dX8_ofDishes_42 : decode cX8_ofDishes 42 = .ok (.goto (-38), 3) := by decide +kernel
theorem dX8_ofDishes_45 : decode cX8_ofDishes 45 = .ok (.iload_n 2, 1) := by decide +kernel
theorem dX8_ofDishes_46 : decode cX8_ofDishes 46 = .ok (.ireturn, 1) := by decide +kernel
theorem dX8_ofPeople_0 : decode cX8_ofPeople 0 = .ok (.iconst 0, 1) := by decide +kernel
theorem dX8_ofPeople_1 : decode cX8_ofPeople 1 = .ok (.istore_n 2, 1) := by decide +kernel
theorem dX8_ofPeople_2 : decode cX8_ofPeople 2 = .ok (.iconst 0, 1) := by decide +kernel
theorem dX8_ofPeople_3 : decode cX8_ofPeople 3 = .ok (.istore_n 3, 1) := by decide +kernel
theorem dX8_ofPeople_4 : decode cX8_ofPeople 4 = .ok (.iconst 0, 1) := by decide +kernel
theorem dX8_ofPeople_5 : decode cX8_ofPeople 5 = .ok (.istore 4, 2) := by decide +kernel
theorem dX8_ofPeople_7 : decode cX8_ofPeople 7 = .ok (.iload 4, 2) := by decide +kernel
theorem dX8_ofPeople_9 : decode cX8_ofPeople 9 = .ok (.aload_n 0, 1) := by decide +kernel
theorem dX8_ofPeople_10 : decode cX8_ofPeople 10 = .ok (.getfield 7, 3) := by decide +kernel
theorem dX8_ofPeople_13 : decode cX8_ofPeople 13 = .ok (.iconst 5, 1) := by decide +kernel
theorem dX8_ofPeople_14 : decode cX8_ofPeople 14 = .ok (.iaload, 1) := by decide +kernel
theorem dX8_ofPeople_15 : decode cX8_ofPeople 15 = .ok (.if_icmp .ge 57, 3) := by decide +kernel
theorem dX8_ofPeople_18 : decode cX8_ofPeople 18 = .ok (.iload_n 2, 1) := by decide +kernel
theorem dX8_ofPeople_19 : decode cX8_ofPeople 19 = .ok (.aload_n 0, 1) := by decide +kernel
theorem dX8_ofPeople_20 : decode cX8_ofPeople 20 = .ok (.getfield 7, 3) := by decide +kernel
theorem dX8_ofPeople_23 : decode cX8_ofPeople 23 = .ok (.iload 4, 2) := by decide +kernel
theorem dX8_ofPeople_25 : decode cX8_ofPeople 25 = .ok (.invokestatic 41, 3) := by decide +kernel
theorem dX8_ofPeople_28 : decode cX8_ofPeople 28 = .ok (.iconst 0, 1) := by decide +kernel
theorem dX8_ofPeople_29 : decode cX8_ofPeople 29 = .ok (.iadd, 1) := by decide +kernel
theorem dX8_ofPeople_30 : decode cX8_ofPeople 30 = .ok (.iaload, 1) := by decide +kernel
theorem dX8_ofPeople_31 : decode cX8_ofPeople 31 = .ok (.iadd, 1) := by decide +kernel
theorem dX8_ofPeople_32 : decode cX8_ofPeople 32 = .ok (.istore_n 2, 1) := by decide +kernel
theorem dX8_ofPeople_33 : decode cX8_ofPeople 33 = .ok (.iload_n 3, 1) := by decide +kernel
theorem dX8_ofPeople_34 : decode cX8_ofPeople 34 = .ok (.aload_n 0, 1) := by decide +kernel
theorem dX8_ofPeople_35 : decode cX8_ofPeople 35 = .ok (.getfield 7, 3) := by decide +kernel
theorem dX8_ofPeople_38 : decode cX8_ofPeople 38 = .ok (.iconst 4, 1) := by decide +kernel
theorem dX8_ofPeople_39 : decode cX8_ofPeople 39 = .ok (.iaload, 1) := by decide +kernel
theorem dX8_ofPeople_40 : decode cX8_ofPeople 40 = .ok (.aload_n 0, 1) := by decide +kernel
theorem dX8_ofPeople_41 : decode cX8_ofPeople 41 = .ok (.getfield 7, 3) := by decide +kernel
theorem dX8_ofPeople_44 : decode cX8_ofPeople 44 = .ok (.iload 4, 2) := by decide +kernel
theorem dX8_ofPeople_46 : decode cX8_ofPeople 46 = .ok (.invokestatic 41, 3) := by decide +kernel
theorem dX8_ofPeople_49 : decode cX8_ofPeople 49 = .ok (.bipush 12, 2) := by decide +kernel
theorem dX8_ofPeople_51 : decode cX8_ofPeople 51 = .ok (.iadd, 1) := by decide +kernel
theorem dX8_ofPeople_52 : decode cX8_ofPeople 52 = .ok (.iaload, 1) := by decide +kernel
theorem dX8_ofPeople_53 : decode cX8_ofPeople 53 = .ok (.if_icmp .ge 10, 3) := by decide +kernel
theorem dX8_ofPeople_56 : decode cX8_ofPeople 56 = .ok (.iconst 1, 1) := by decide +kernel
theorem dX8_ofPeople_57 : decode cX8_ofPeople 57 = .ok (.iload 4, 2) := by decide +kernel
theorem dX8_ofPeople_59 : decode cX8_ofPeople 59 = .ok (.ishl, 1) := by decide +kernel
theorem dX8_ofPeople_60 : decode cX8_ofPeople 60 = .ok (.goto 4, 3) := by decide +kernel
theorem dX8_ofPeople_63 : decode cX8_ofPeople 63 = .ok (.iconst 0, 1) := by decide +kernel
theorem dX8_ofPeople_64 : decode cX8_ofPeople 64 = .ok (.ior, 1) := by decide +kernel
theorem dX8_ofPeople_65 : decode cX8_ofPeople 65 = .ok (.istore_n 3, 1) := by decide +kernel
theorem dX8_ofPeople_66 : decode cX8_ofPeople 66 = .ok (.iinc 4 1, 3) := by decide +kernel
theorem dX8_ofPeople_69 : decode cX8_ofPeople 69 = .ok (.goto (-62), 3) := by decide +kernel
theorem dX8_ofPeople_72 : decode cX8_ofPeople 72 = .ok (.iload_n 1, 1) := by decide +kernel
theorem dX8_ofPeople_73 : decode cX8_ofPeople 73 = .ok (.bipush 7, 2) := by decide +kernel
theorem dX8_ofPeople_75 : decode cX8_ofPeople 75 = .ok (.if_icmp .ne 7, 3) := by decide +kernel
theorem dX8_ofPeople_78 : decode cX8_ofPeople 78 = .ok (.iload_n 2, 1) := by decide +kernel
theorem dX8_ofPeople_79 : decode cX8_ofPeople 79 = .ok (.goto 4, 3) := by decide +kernel
theorem dX8_ofPeople_82 : decode cX8_ofPeople 82 = .ok (.iload_n 3, 1) := by decide +kernel
theorem dX8_ofPeople_83 : decode cX8_ofPeople 83 = .ok (.ireturn, 1) := by decide +kernel
theorem dX8_count_0 : decode cX8_count 0 = .ok (.iload_n 1, 1) := by decide +kernel
theorem dX8_count_1 : decode cX8_count 1 = .ok (.tableswitch 128 0 15 #[79, 79, 79, 88, 88, 88, 88, 94, 94, 100, 108, 108, 108, 108, 118, 123], 79) := by decide +kernel
theorem dX8_count_80 : decode cX8_count 80 = .ok (.aload_n 0, 1) := by decide +kernel
theorem dX8_count_81 : decode cX8_count 81 = .ok (.getfield 7, 3) := by decide +kernel
theorem dX8_count_84 : decode cX8_count 84 = .ok (.iconst 4, 1) := by decide +kernel
theorem dX8_count_85 : decode cX8_count 85 = .ok (.iload_n 1, 1) := by decide +kernel
theorem dX8_count_86 : decode cX8_count 86 = .ok (.iadd, 1) := by decide +kernel
theorem dX8_count_87 : decode cX8_count 87 = .ok (.iaload, 1) := by decide +kernel
theorem dX8_count_88 : decode cX8_count 88 = .ok (.ireturn, 1) := by decide +kernel
theorem dX8_count_89 : decode cX8_count 89 = .ok (.aload_n 0, 1) := by decide +kernel
theorem dX8_count_90 : decode cX8_count 90 = .ok (.iload_n 1, 1) := by decide +kernel
theorem dX8_count_91 : decode cX8_count 91 = .ok (.invokevirtual 119, 3) := by decide +kernel
theorem dX8_count_94 : decode cX8_count 94 = .ok (.ireturn, 1) := by decide +kernel
theorem dX8_count_95 : decode cX8_count 95 = .ok (.aload_n 0, 1) := by decide +kernel
theorem dX8_count_96 : decode cX8_count 96 = .ok (.iload_n 1, 1) := by decide +kernel
theorem dX8_count_97 : decode cX8_count 97 = .ok (.invokevirtual 122, 3) := by decide +kernel
theorem dX8_count_100 : decode cX8_count 100 = .ok (.ireturn, 1) := by decide +kernel
theorem dX8_count_101 : decode cX8_count 101 = .ok (.aload_n 0, 1) := by decide +kernel
theorem dX8_count_102 : decode cX8_count 102 = .ok (.getfield 7, 3) := by decide +kernel
theorem dX8_count_105 : decode cX8_count 105 = .ok (.bipush 7, 2) := by decide +kernel
theorem dX8_count_107 : decode cX8_count 107 = .ok (.iaload, 1) := by decide +kernel
theorem dX8_count_108 : decode cX8_count 108 = .ok (.ireturn, 1) := by decide +kernel
theorem dX8_count_109 : decode cX8_count 109 = .ok (.aload_n 0, 1) := by decide +kernel
theorem dX8_count_110 : decode cX8_count 110 = .ok (.getfield 7, 3) := by decide +kernel
theorem dX8_count_113 : decode cX8_count 113 = .ok (.iload_n 1, 1) := by decide +kernel
theorem dX8_count_114 : decode cX8_count 114 = .ok (.bipush 10, 2) := by decide +kernel
theorem dX8_count_116 : decode cX8_count 116 = .ok (.isub, 1) := by decide +kernel
theorem dX8_count_117 : decode cX8_count 117 = .ok (.iaload, 1) := by decide +kernel
theorem dX8_count_118 : decode cX8_count 118 = .ok (.ireturn, 1) := by decide +kernel
theorem dX8_count_119 : decode cX8_count 119 = .ok (.aload_n 0, 1) := by decide +kernel
theorem dX8_count_120 : decode cX8_count 120 = .ok (.getfield 125, 3) := by decide +kernel
theorem dX8_count_123 : decode cX8_count 123 = .ok (.ireturn, 1) := by decide +kernel
theorem dX8_count_124 : decode cX8_count 124 = .ok (.aload_n 0, 1) := by decide +kernel
theorem dX8_count_125 : decode cX8_count 125 = .ok (.getfield 37, 3) := by decide +kernel
theorem dX8_count_128 : decode cX8_count 128 = .ok (.ireturn, 1) := by decide +kernel
theorem dX8_count_129 : decode cX8_count 129 = .ok (.bipush (-2), 2) := by decide +kernel
theorem dX8_count_131 : decode cX8_count 131 = .ok (.ireturn, 1) := by decide +kernel
theorem dX8_why_0 : decode cX8_why 0 = .ok (.aload_n 0, 1) := by decide +kernel
theorem dX8_why_1 : decode cX8_why 1 = .ok (.iload_n 1, 1) := by decide +kernel
theorem dX8_why_2 : decode cX8_why 2 = .ok (.invokevirtual 54, 3) := by decide +kernel
theorem dX8_why_5 : decode cX8_why 5 = .ok (.ifCond .eq 10, 3) := by decide +kernel
theorem dX8_why_8 : decode cX8_why 8 = .ok (.iload_n 3, 1) := by decide +kernel
theorem dX8_why_9 : decode cX8_why 9 = .ok (.invokestatic 66, 3) := by decide +kernel
theorem dX8_why_12 : decode cX8_why 12 = .ok (.ifCond .ne 5, 3) := by decide +kernel
theorem dX8_why_15 : decode cX8_why 15 = .ok (.iconst (-1), 1) := by decide +kernel
theorem dX8_why_16 : decode cX8_why 16 = .ok (.ireturn, 1) := by decide +kernel
theorem dX8_why_17 : decode cX8_why 17 = .ok (.iload_n 2, 1) := by decide +kernel
theorem dX8_why_18 : decode cX8_why 18 = .ok (.iconst 0, 1) := by decide +kernel
theorem dX8_why_19 : decode cX8_why 19 = .ok (.iconst 4, 1) := by decide +kernel
theorem dX8_why_20 : decode cX8_why 20 = .ok (.invokestatic 33, 3) := by decide +kernel
theorem dX8_why_23 : decode cX8_why 23 = .ok (.ifCond .eq 13, 3) := by decide +kernel
theorem dX8_why_26 : decode cX8_why 26 = .ok (.aload_n 0, 1) := by decide +kernel
theorem dX8_why_27 : decode cX8_why 27 = .ok (.iload_n 1, 1) := by decide +kernel
theorem dX8_why_28 : decode cX8_why 28 = .ok (.iload_n 2, 1) := by decide +kernel
theorem dX8_why_29 : decode cX8_why 29 = .ok (.iload_n 3, 1) := by decide +kernel
theorem dX8_why_30 : decode cX8_why 30 = .ok (.invokevirtual 69, 3) := by decide +kernel
theorem dX8_why_33 : decode cX8_why 33 = .ok (.goto 5, 3) := by decide +kernel
theorem dX8_why_36 : decode cX8_why 36 = .ok (.bipush (-2), 2) := by decide +kernel
theorem dX8_why_38 : decode cX8_why 38 = .ok (.ireturn, 1) := by decide +kernel
theorem dX8_unsurest_0 : decode cX8_unsurest 0 = .ok (.iload_n 1, 1) := by decide +kernel
theorem dX8_unsurest_1 : decode cX8_unsurest 1 = .ok (.iconst 0, 1) := by decide +kernel
theorem dX8_unsurest_2 : decode cX8_unsurest 2 = .ok (.iconst 1, 1) := by decide +kernel
theorem dX8_unsurest_3 : decode cX8_unsurest 3 = .ok (.invokestatic 33, 3) := by decide +kernel
theorem dX8_unsurest_6 : decode cX8_unsurest 6 = .ok (.ifCond .ne 6, 3) := by decide +kernel
theorem dX8_unsurest_9 : decode cX8_unsurest 9 = .ok (.bipush (-2), 2) := by decide +kernel
theorem dX8_unsurest_11 : decode cX8_unsurest 11 = .ok (.ireturn, 1) := by decide +kernel
theorem dX8_unsurest_12 : decode cX8_unsurest 12 = .ok (.bipush (-6), 2) := by decide +kernel
theorem dX8_unsurest_14 : decode cX8_unsurest 14 = .ok (.istore_n 2, 1) := by decide +kernel
theorem dX8_unsurest_15 : decode cX8_unsurest 15 = .ok (.iconst 0, 1) := by decide +kernel
theorem dX8_unsurest_16 : decode cX8_unsurest 16 = .ok (.istore_n 3, 1) := by decide +kernel
theorem dX8_unsurest_17 : decode cX8_unsurest 17 = .ok (.iconst 0, 1) := by decide +kernel
theorem dX8_unsurest_18 : decode cX8_unsurest 18 = .ok (.istore 4, 2) := by decide +kernel
theorem dX8_unsurest_20 : decode cX8_unsurest 20 = .ok (.iload 4, 2) := by decide +kernel
theorem dX8_unsurest_22 : decode cX8_unsurest 22 = .ok (.aload_n 0, 1) := by decide +kernel
theorem dX8_unsurest_23 : decode cX8_unsurest 23 = .ok (.getfield 7, 3) := by decide +kernel
theorem dX8_unsurest_26 : decode cX8_unsurest 26 = .ok (.iconst 5, 1) := by decide +kernel
theorem dX8_unsurest_27 : decode cX8_unsurest 27 = .ok (.iaload, 1) := by decide +kernel
theorem dX8_unsurest_28 : decode cX8_unsurest 28 = .ok (.if_icmp .ge 91, 3) := by decide +kernel
theorem dX8_unsurest_31 : decode cX8_unsurest 31 = .ok (.aload_n 0, 1) := by decide +kernel
theorem dX8_unsurest_32 : decode cX8_unsurest 32 = .ok (.getfield 7, 3) := by decide +kernel
theorem dX8_unsurest_35 : decode cX8_unsurest 35 = .ok (.iload 4, 2) := by decide +kernel
theorem dX8_unsurest_37 : decode cX8_unsurest 37 = .ok (.invokestatic 41, 3) := by decide +kernel
theorem dX8_unsurest_40 : decode cX8_unsurest 40 = .ok (.bipush 13, 2) := by decide +kernel
theorem dX8_unsurest_42 : decode cX8_unsurest 42 = .ok (.iadd, 1) := by decide +kernel
theorem dX8_unsurest_43 : decode cX8_unsurest 43 = .ok (.iaload, 1) := by decide +kernel
theorem dX8_unsurest_44 : decode cX8_unsurest 44 = .ok (.aload_n 0, 1) := by decide +kernel
theorem dX8_unsurest_45 : decode cX8_unsurest 45 = .ok (.getfield 7, 3) := by decide +kernel
theorem dX8_unsurest_48 : decode cX8_unsurest 48 = .ok (.iload 4, 2) := by decide +kernel
theorem dX8_unsurest_50 : decode cX8_unsurest 50 = .ok (.invokestatic 41, 3) := by decide +kernel
theorem dX8_unsurest_53 : decode cX8_unsurest 53 = .ok (.bipush 14, 2) := by decide +kernel
theorem dX8_unsurest_55 : decode cX8_unsurest 55 = .ok (.iadd, 1) := by decide +kernel
theorem dX8_unsurest_56 : decode cX8_unsurest 56 = .ok (.iaload, 1) := by decide +kernel
theorem dX8_unsurest_57 : decode cX8_unsurest 57 = .ok (.iadd, 1) := by decide +kernel
theorem dX8_unsurest_58 : decode cX8_unsurest 58 = .ok (.istore 5, 2) := by decide +kernel
theorem dX8_unsurest_60 : decode cX8_unsurest 60 = .ok (.aload_n 0, 1) := by decide +kernel
theorem dX8_unsurest_61 : decode cX8_unsurest 61 = .ok (.iload 4, 2) := by decide +kernel
theorem dX8_unsurest_63 : decode cX8_unsurest 63 = .ok (.invokevirtual 48, 3) := by decide +kernel
theorem dX8_unsurest_66 : decode cX8_unsurest 66 = .ok (.ifCond .ne 7, 3) := by decide +kernel
theorem dX8_unsurest_69 : decode cX8_unsurest 69 = .ok (.iconst 0, 1) := by decide +kernel
theorem dX8_unsurest_70 : decode cX8_unsurest 70 = .ok (.goto 15, 3) := by decide +kernel
theorem dX8_unsurest_73 : decode cX8_unsurest 73 = .ok (.ldc 128, 2) := by decide +kernel
theorem dX8_unsurest_75 : decode cX8_unsurest 75 = .ok (.aload_n 0, 1) := by decide +kernel
theorem dX8_unsurest_76 : decode cX8_unsurest 76 = .ok (.iload 4, 2) := by decide +kernel
theorem dX8_unsurest_78 : decode cX8_unsurest 78 = .ok (.invokevirtual 48, 3) := by decide +kernel
theorem dX8_unsurest_81 : decode cX8_unsurest 81 = .ok (.imul, 1) := by decide +kernel
theorem dX8_unsurest_82 : decode cX8_unsurest 82 = .ok (.iload 5, 2) := by decide +kernel
theorem dX8_unsurest_84 : decode cX8_unsurest 84 = .ok (.iadd, 1) := by decide +kernel
theorem dX8_unsurest_85 : decode cX8_unsurest 85 = .ok (.istore 6, 2) := by decide +kernel
theorem dX8_unsurest_87 : decode cX8_unsurest 87 = .ok (.iload 6, 2) := by decide +kernel
theorem dX8_unsurest_89 : decode cX8_unsurest 89 = .ok (.iload_n 3, 1) := by decide +kernel
theorem dX8_unsurest_90 : decode cX8_unsurest 90 = .ok (.if_icmp .le 8, 3) := by decide +kernel
theorem dX8_unsurest_93 : decode cX8_unsurest 93 = .ok (.iload 4, 2) := by decide +kernel
theorem dX8_unsurest_95 : decode cX8_unsurest 95 = .ok (.goto 4, 3) := by decide +kernel
theorem dX8_unsurest_98 : decode cX8_unsurest 98 = .ok (.iload_n 2, 1) := by decide +kernel
theorem dX8_unsurest_99 : decode cX8_unsurest 99 = .ok (.istore_n 2, 1) := by decide +kernel
theorem dX8_unsurest_100 : decode cX8_unsurest 100 = .ok (.iload 6, 2) := by decide +kernel
theorem dX8_unsurest_102 : decode cX8_unsurest 102 = .ok (.iload_n 3, 1) := by decide +kernel
theorem dX8_unsurest_103 : decode cX8_unsurest 103 = .ok (.if_icmp .le 8, 3) := by decide +kernel
theorem dX8_unsurest_106 : decode cX8_unsurest 106 = .ok (.iload 6, 2) := by decide +kernel
theorem dX8_unsurest_108 : decode cX8_unsurest 108 = .ok (.goto 4, 3) := by decide +kernel
theorem dX8_unsurest_111 : decode cX8_unsurest 111 = .ok (.iload_n 3, 1) := by decide +kernel
theorem dX8_unsurest_112 : decode cX8_unsurest 112 = .ok (.istore_n 3, 1) := by decide +kernel
theorem dX8_unsurest_113 : decode cX8_unsurest 113 = .ok (.iinc 4 1, 3) := by decide +kernel
theorem dX8_unsurest_116 : decode cX8_unsurest 116 = .ok (.goto (-96), 3) := by decide +kernel
theorem dX8_unsurest_119 : decode cX8_unsurest 119 = .ok (.iload_n 2, 1) := by decide +kernel
theorem dX8_unsurest_120 : decode cX8_unsurest 120 = .ok (.bipush (-6), 2) := by decide +kernel
theorem dX8_unsurest_122 : decode cX8_unsurest 122 = .ok (.if_icmp .eq 7, 3) := by decide +kernel
theorem dX8_unsurest_125 : decode cX8_unsurest 125 = .ok (.iload_n 1, 1) := by decide +kernel
theorem dX8_unsurest_126 : decode cX8_unsurest 126 = .ok (.ifCond .ne 7, 3) := by decide +kernel
theorem dX8_unsurest_129 : decode cX8_unsurest 129 = .ok (.iload_n 2, 1) := by decide +kernel
theorem dX8_unsurest_130 : decode cX8_unsurest 130 = .ok (.goto 8, 3) := by decide +kernel
theorem dX8_unsurest_133 : decode cX8_unsurest 133 = .ok (.aload_n 0, 1) := by decide +kernel
theorem dX8_unsurest_134 : decode cX8_unsurest 134 = .ok (.iload_n 2, 1) := by decide +kernel
theorem dX8_unsurest_135 : decode cX8_unsurest 135 = .ok (.invokevirtual 48, 3) := by decide +kernel
theorem dX8_unsurest_138 : decode cX8_unsurest 138 = .ok (.ireturn, 1) := by decide +kernel
theorem dX8_firstOrder_0 : decode cX8_firstOrder 0 = .ok (.aload_n 0, 1) := by decide +kernel
theorem dX8_firstOrder_1 : decode cX8_firstOrder 1 = .ok (.iload_n 1, 1) := by decide +kernel
theorem dX8_firstOrder_2 : decode cX8_firstOrder 2 = .ok (.invokevirtual 54, 3) := by decide +kernel
theorem dX8_firstOrder_5 : decode cX8_firstOrder 5 = .ok (.ifCond .ne 5, 3) := by decide +kernel
theorem dX8_firstOrder_8 : decode cX8_firstOrder 8 = .ok (.iconst (-1), 1) := by decide +kernel
theorem dX8_firstOrder_9 : decode cX8_firstOrder 9 = .ok (.ireturn, 1) := by decide +kernel
theorem dX8_firstOrder_10 : decode cX8_firstOrder 10 = .ok (.bipush (-6), 2) := by decide +kernel
theorem dX8_firstOrder_12 : decode cX8_firstOrder 12 = .ok (.istore_n 2, 1) := by decide +kernel
theorem dX8_firstOrder_13 : decode cX8_firstOrder 13 = .ok (.bipush 14, 2) := by decide +kernel
theorem dX8_firstOrder_15 : decode cX8_firstOrder 15 = .ok (.istore_n 3, 1) := by decide +kernel
theorem dX8_firstOrder_16 : decode cX8_firstOrder 16 = .ok (.iload_n 3, 1) := by decide +kernel
theorem dX8_firstOrder_17 : decode cX8_firstOrder 17 = .ok (.ifCond .lt 29, 3) := by decide +kernel
theorem dX8_firstOrder_20 : decode cX8_firstOrder 20 = .ok (.aload_n 0, 1) := by decide +kernel
theorem dX8_firstOrder_21 : decode cX8_firstOrder 21 = .ok (.iload_n 1, 1) := by decide +kernel
theorem dX8_firstOrder_22 : decode cX8_firstOrder 22 = .ok (.iload_n 3, 1) := by decide +kernel
theorem dX8_firstOrder_23 : decode cX8_firstOrder 23 = .ok (.iconst 3, 1) := by decide +kernel
theorem dX8_firstOrder_24 : decode cX8_firstOrder 24 = .ok (.idiv, 1) := by decide +kernel
theorem dX8_firstOrder_25 : decode cX8_firstOrder 25 = .ok (.iload_n 3, 1) := by decide +kernel
theorem dX8_firstOrder_26 : decode cX8_firstOrder 26 = .ok (.iconst 3, 1) := by decide +kernel
theorem dX8_firstOrder_27 : decode cX8_firstOrder 27 = .ok (.irem, 1) := by decide +kernel
end
section
theorem dX8_firstOrder_28 : decode cX8_firstOrder 28 = .ok (.invokevirtual 69, 3) := by decide +kernel
theorem dX8_firstOrder_31 : decode cX8_firstOrder 31 = .ok (.ifCond .ne 7, 3) := by decide +kernel
theorem dX8_firstOrder_34 : decode cX8_firstOrder 34 = .ok (.iload_n 3, 1) := by decide +kernel
theorem dX8_firstOrder_35 : decode cX8_firstOrder 35 = .ok (.goto 4, 3) := by decide +kernel
theorem dX8_firstOrder_38 : decode cX8_firstOrder 38 = .ok (.iload_n 2, 1) := by decide +kernel
theorem dX8_firstOrder_39 : decode cX8_firstOrder 39 = .ok (.istore_n 2, 1) := by decide +kernel
theorem dX8_firstOrder_40 : decode cX8_firstOrder 40 = .ok (.iinc 3 (-1), 3) := by decide +kernel
theorem dX8_firstOrder_43 : decode cX8_firstOrder 43 = .ok (.goto (-27), 3) := by decide +kernel
theorem dX8_firstOrder_46 : decode cX8_firstOrder 46 = .ok (.iload_n 2, 1) := by decide +kernel
theorem dX8_firstOrder_47 : decode cX8_firstOrder 47 = .ok (.ireturn, 1) := by decide +kernel
theorem dX8_wasted_0 : decode cX8_wasted 0 = .ok (.bipush (-6), 2) := by decide +kernel
theorem dX8_wasted_2 : decode cX8_wasted 2 = .ok (.istore_n 1, 1) := by decide +kernel
theorem dX8_wasted_3 : decode cX8_wasted 3 = .ok (.iconst (-1), 1) := by decide +kernel
theorem dX8_wasted_4 : decode cX8_wasted 4 = .ok (.istore_n 2, 1) := by decide +kernel
theorem dX8_wasted_5 : decode cX8_wasted 5 = .ok (.iconst 0, 1) := by decide +kernel
theorem dX8_wasted_6 : decode cX8_wasted 6 = .ok (.istore_n 3, 1) := by decide +kernel
theorem dX8_wasted_7 : decode cX8_wasted 7 = .ok (.iload_n 3, 1) := by decide +kernel
theorem dX8_wasted_8 : decode cX8_wasted 8 = .ok (.iconst 3, 1) := by decide +kernel
theorem dX8_wasted_9 : decode cX8_wasted 9 = .ok (.if_icmp .ge 75, 3) := by decide +kernel
theorem dX8_wasted_12 : decode cX8_wasted 12 = .ok (.aload_n 0, 1) := by decide +kernel
theorem dX8_wasted_13 : decode cX8_wasted 13 = .ok (.getfield 7, 3) := by decide +kernel
theorem dX8_wasted_16 : decode cX8_wasted 16 = .ok (.iload_n 3, 1) := by decide +kernel
theorem dX8_wasted_17 : decode cX8_wasted 17 = .ok (.invokestatic 51, 3) := by decide +kernel
theorem dX8_wasted_20 : decode cX8_wasted 20 = .ok (.iconst 4, 1) := by decide +kernel
theorem dX8_wasted_21 : decode cX8_wasted 21 = .ok (.iadd, 1) := by decide +kernel
theorem dX8_wasted_22 : decode cX8_wasted 22 = .ok (.iaload, 1) := by decide +kernel
theorem dX8_wasted_23 : decode cX8_wasted 23 = .ok (.istore 4, 2) := by decide +kernel
theorem dX8_wasted_25 : decode cX8_wasted 25 = .ok (.iload 4, 2) := by decide +kernel
theorem dX8_wasted_27 : decode cX8_wasted 27 = .ok (.ifCond .ne 7, 3) := by decide +kernel
theorem dX8_wasted_30 : decode cX8_wasted 30 = .ok (.iconst (-1), 1) := by decide +kernel
theorem dX8_wasted_31 : decode cX8_wasted 31 = .ok (.goto 20, 3) := by decide +kernel
theorem dX8_wasted_34 : decode cX8_wasted 34 = .ok (.bipush 100, 2) := by decide +kernel
theorem dX8_wasted_36 : decode cX8_wasted 36 = .ok (.iload 4, 2) := by decide +kernel
theorem dX8_wasted_38 : decode cX8_wasted 38 = .ok (.imul, 1) := by decide +kernel
theorem dX8_wasted_39 : decode cX8_wasted 39 = .ok (.aload_n 0, 1) := by decide +kernel
theorem dX8_wasted_40 : decode cX8_wasted 40 = .ok (.getfield 7, 3) := by decide +kernel
theorem dX8_wasted_43 : decode cX8_wasted 43 = .ok (.iload_n 3, 1) := by decide +kernel
theorem dX8_wasted_44 : decode cX8_wasted 44 = .ok (.invokestatic 51, 3) := by decide +kernel
theorem dX8_wasted_47 : decode cX8_wasted 47 = .ok (.iconst 2, 1) := by decide +kernel
theorem dX8_wasted_48 : decode cX8_wasted 48 = .ok (.iadd, 1) := by decide +kernel
theorem dX8_wasted_49 : decode cX8_wasted 49 = .ok (.iaload, 1) := by decide +kernel
theorem dX8_wasted_50 : decode cX8_wasted 50 = .ok (.idiv, 1) := by decide +kernel
theorem dX8_wasted_51 : decode cX8_wasted 51 = .ok (.istore 5, 2) := by decide +kernel
theorem dX8_wasted_53 : decode cX8_wasted 53 = .ok (.iload 5, 2) := by decide +kernel
theorem dX8_wasted_55 : decode cX8_wasted 55 = .ok (.iload_n 2, 1) := by decide +kernel
theorem dX8_wasted_56 : decode cX8_wasted 56 = .ok (.if_icmp .le 7, 3) := by decide +kernel
theorem dX8_wasted_59 : decode cX8_wasted 59 = .ok (.iload_n 3, 1) := by decide +kernel
theorem dX8_wasted_60 : decode cX8_wasted 60 = .ok (.goto 4, 3) := by decide +kernel
theorem dX8_wasted_63 : decode cX8_wasted 63 = .ok (.iload_n 1, 1) := by decide +kernel
theorem dX8_wasted_64 : decode cX8_wasted 64 = .ok (.istore_n 1, 1) := by decide +kernel
theorem dX8_wasted_65 : decode cX8_wasted 65 = .ok (.iload 5, 2) := by decide +kernel
theorem dX8_wasted_67 : decode cX8_wasted 67 = .ok (.iload_n 2, 1) := by decide +kernel
theorem dX8_wasted_68 : decode cX8_wasted 68 = .ok (.if_icmp .le 8, 3) := by decide +kernel
theorem dX8_wasted_71 : decode cX8_wasted 71 = .ok (.iload 5, 2) := by decide +kernel
theorem dX8_wasted_73 : decode cX8_wasted 73 = .ok (.goto 4, 3) := by decide +kernel
theorem dX8_wasted_76 : decode cX8_wasted 76 = .ok (.iload_n 2, 1) := by decide +kernel
theorem dX8_wasted_77 : decode cX8_wasted 77 = .ok (.istore_n 2, 1) := by decide +kernel
theorem dX8_wasted_78 : decode cX8_wasted 78 = .ok (.iinc 3 1, 3) := by decide +kernel
theorem dX8_wasted_81 : decode cX8_wasted 81 = .ok (.goto (-74), 3) := by decide +kernel
theorem dX8_wasted_84 : decode cX8_wasted 84 = .ok (.iload_n 1, 1) := by decide +kernel
theorem dX8_wasted_85 : decode cX8_wasted 85 = .ok (.ireturn, 1) := by decide +kernel
theorem dX8_isSign_0 : decode cX8_isSign 0 = .ok (.aload_n 0, 1) := by decide +kernel
theorem dX8_isSign_1 : decode cX8_isSign 1 = .ok (.getfield 129, 3) := by decide +kernel
theorem dX8_isSign_4 : decode cX8_isSign 4 = .ok (.aload_n 0, 1) := by decide +kernel
theorem dX8_isSign_5 : decode cX8_isSign 5 = .ok (.getfield 125, 3) := by decide +kernel
theorem dX8_isSign_8 : decode cX8_isSign 8 = .ok (.if_icmp .ge 33, 3) := by decide +kernel
theorem dX8_isSign_11 : decode cX8_isSign 11 = .ok (.aload_n 0, 1) := by decide +kernel
theorem dX8_isSign_12 : decode cX8_isSign 12 = .ok (.getfield 29, 3) := by decide +kernel
theorem dX8_isSign_15 : decode cX8_isSign 15 = .ok (.aload_n 0, 1) := by decide +kernel
theorem dX8_isSign_16 : decode cX8_isSign 16 = .ok (.getfield 129, 3) := by decide +kernel
theorem dX8_isSign_19 : decode cX8_isSign 19 = .ok (.caload, 1) := by decide +kernel
theorem dX8_isSign_20 : decode cX8_isSign 20 = .ok (.iload_n 1, 1) := by decide +kernel
theorem dX8_isSign_21 : decode cX8_isSign 21 = .ok (.if_icmp .lt 20, 3) := by decide +kernel
theorem dX8_isSign_24 : decode cX8_isSign 24 = .ok (.aload_n 0, 1) := by decide +kernel
theorem dX8_isSign_25 : decode cX8_isSign 25 = .ok (.getfield 29, 3) := by decide +kernel
theorem dX8_isSign_28 : decode cX8_isSign 28 = .ok (.aload_n 0, 1) := by decide +kernel
theorem dX8_isSign_29 : decode cX8_isSign 29 = .ok (.getfield 129, 3) := by decide +kernel
theorem dX8_isSign_32 : decode cX8_isSign 32 = .ok (.caload, 1) := by decide +kernel
theorem dX8_isSign_33 : decode cX8_isSign 33 = .ok (.iload_n 2, 1) := by decide +kernel
theorem dX8_isSign_34 : decode cX8_isSign 34 = .ok (.if_icmp .gt 7, 3) := by decide +kernel
theorem dX8_isSign_37 : decode cX8_isSign 37 = .ok (.iconst 1, 1) := by decide +kernel
theorem dX8_isSign_38 : decode cX8_isSign 38 = .ok (.goto 4, 3) := by decide +kernel
theorem dX8_isSign_41 : decode cX8_isSign 41 = .ok (.iconst 0, 1) := by decide +kernel
theorem dX8_isSign_42 : decode cX8_isSign 42 = .ok (.ireturn, 1) := by decide +kernel
theorem dX8_accepts_0 : decode cX8_accepts 0 = .ok (.aload_n 0, 1) := by decide +kernel
theorem dX8_accepts_1 : decode cX8_accepts 1 = .ok (.iload_n 1, 1) := by decide +kernel
theorem dX8_accepts_2 : decode cX8_accepts 2 = .ok (.iload_n 1, 1) := by decide +kernel
theorem dX8_accepts_3 : decode cX8_accepts 3 = .ok (.invokevirtual 132, 3) := by decide +kernel
theorem dX8_accepts_6 : decode cX8_accepts 6 = .ok (.istore_n 2, 1) := by decide +kernel
theorem dX8_accepts_7 : decode cX8_accepts 7 = .ok (.aload_n 0, 1) := by decide +kernel
theorem dX8_accepts_8 : decode cX8_accepts 8 = .ok (.dup, 1) := by decide +kernel
theorem dX8_accepts_9 : decode cX8_accepts 9 = .ok (.getfield 129, 3) := by decide +kernel
theorem dX8_accepts_12 : decode cX8_accepts 12 = .ok (.iload_n 2, 1) := by decide +kernel
theorem dX8_accepts_13 : decode cX8_accepts 13 = .ok (.ifCond .eq 7, 3) := by decide +kernel
theorem dX8_accepts_16 : decode cX8_accepts 16 = .ok (.iconst 1, 1) := by decide +kernel
theorem dX8_accepts_17 : decode cX8_accepts 17 = .ok (.goto 4, 3) := by decide +kernel
theorem dX8_accepts_20 : decode cX8_accepts 20 = .ok (.iconst 0, 1) := by decide +kernel
theorem dX8_accepts_21 : decode cX8_accepts 21 = .ok (.iadd, 1) := by decide +kernel
theorem dX8_accepts_22 : decode cX8_accepts 22 = .ok (.putfield 129, 3) := by decide +kernel
theorem dX8_accepts_25 : decode cX8_accepts 25 = .ok (.iload_n 2, 1) := by decide +kernel
theorem dX8_accepts_26 : decode cX8_accepts 26 = .ok (.ireturn, 1) := by decide +kernel
theorem dX8_number_0 : decode cX8_number 0 = .ok (.iconst 4, 1) := by decide +kernel
theorem dX8_number_1 : decode cX8_number 1 = .ok (.aload_n 0, 1) := by decide +kernel
theorem dX8_number_2 : decode cX8_number 2 = .ok (.getfield 136, 3) := by decide +kernel
theorem dX8_number_5 : decode cX8_number 5 = .ok (.imul, 1) := by decide +kernel
theorem dX8_number_6 : decode cX8_number 6 = .ok (.iload_n 1, 1) := by decide +kernel
theorem dX8_number_7 : decode cX8_number 7 = .ok (.iadd, 1) := by decide +kernel
theorem dX8_number_8 : decode cX8_number 8 = .ok (.istore_n 2, 1) := by decide +kernel
theorem dX8_number_9 : decode cX8_number 9 = .ok (.aload_n 0, 1) := by decide +kernel
theorem dX8_number_10 : decode cX8_number 10 = .ok (.bipush 48, 2) := by decide +kernel
theorem dX8_number_12 : decode cX8_number 12 = .ok (.bipush 57, 2) := by decide +kernel
theorem dX8_number_14 : decode cX8_number 14 = .ok (.invokevirtual 132, 3) := by decide +kernel
theorem dX8_number_17 : decode cX8_number 17 = .ok (.ifCond .ne 5, 3) := by decide +kernel
theorem dX8_number_20 : decode cX8_number 20 = .ok (.iconst 0, 1) := by decide +kernel
theorem dX8_number_21 : decode cX8_number 21 = .ok (.ireturn, 1) := by decide +kernel
theorem dX8_number_22 : decode cX8_number 22 = .ok (.aload_n 0, 1) := by decide +kernel
theorem dX8_number_23 : decode cX8_number 23 = .ok (.getfield 26, 3) := by decide +kernel
theorem dX8_number_26 : decode cX8_number 26 = .ok (.iload_n 2, 1) := by decide +kernel
theorem dX8_number_27 : decode cX8_number 27 = .ok (.aload_n 0, 1) := by decide +kernel
theorem dX8_number_28 : decode cX8_number 28 = .ok (.getfield 29, 3) := by decide +kernel
theorem dX8_number_31 : decode cX8_number 31 = .ok (.aload_n 0, 1) := by decide +kernel
theorem dX8_number_32 : decode cX8_number 32 = .ok (.getfield 129, 3) := by decide +kernel
theorem dX8_number_35 : decode cX8_number 35 = .ok (.caload, 1) := by decide +kernel
theorem dX8_number_36 : decode cX8_number 36 = .ok (.bipush 48, 2) := by decide +kernel
theorem dX8_number_38 : decode cX8_number 38 = .ok (.isub, 1) := by decide +kernel
theorem dX8_number_39 : decode cX8_number 39 = .ok (.iastore, 1) := by decide +kernel
theorem dX8_number_40 : decode cX8_number 40 = .ok (.aload_n 0, 1) := by decide +kernel
theorem dX8_number_41 : decode cX8_number 41 = .ok (.dup, 1) := by decide +kernel
theorem dX8_number_42 : decode cX8_number 42 = .ok (.getfield 129, 3) := by decide +kernel
theorem dX8_number_45 : decode cX8_number 45 = .ok (.iconst 1, 1) := by decide +kernel
theorem dX8_number_46 : decode cX8_number 46 = .ok (.iadd, 1) := by decide +kernel
theorem dX8_number_47 : decode cX8_number 47 = .ok (.putfield 129, 3) := by decide +kernel
theorem dX8_number_50 : decode cX8_number 50 = .ok (.aload_n 0, 1) := by decide +kernel
theorem dX8_number_51 : decode cX8_number 51 = .ok (.getfield 26, 3) := by decide +kernel
theorem dX8_number_54 : decode cX8_number 54 = .ok (.iload_n 2, 1) := by decide +kernel
theorem dX8_number_55 : decode cX8_number 55 = .ok (.iaload, 1) := by decide +kernel
theorem dX8_number_56 : decode cX8_number 56 = .ok (.ifCond .le 52, 3) := by decide +kernel
theorem dX8_number_59 : decode cX8_number 59 = .ok (.aload_n 0, 1) := by decide +kernel
theorem dX8_number_60 : decode cX8_number 60 = .ok (.bipush 48, 2) := by decide +kernel
theorem dX8_number_62 : decode cX8_number 62 = .ok (.bipush 57, 2) := by decide +kernel
theorem dX8_number_64 : decode cX8_number 64 = .ok (.invokevirtual 132, 3) := by decide +kernel
theorem dX8_number_67 : decode cX8_number 67 = .ok (.ifCond .eq 41, 3) := by decide +kernel
theorem dX8_number_70 : decode cX8_number 70 = .ok (.aload_n 0, 1) := by decide +kernel
theorem dX8_number_71 : decode cX8_number 71 = .ok (.getfield 26, 3) := by decide +kernel
theorem dX8_number_74 : decode cX8_number 74 = .ok (.iload_n 2, 1) := by decide +kernel
theorem dX8_number_75 : decode cX8_number 75 = .ok (.bipush 10, 2) := by decide +kernel
theorem dX8_number_77 : decode cX8_number 77 = .ok (.aload_n 0, 1) := by decide +kernel
theorem dX8_number_78 : decode cX8_number 78 = .ok (.getfield 26, 3) := by decide +kernel
theorem dX8_number_81 : decode cX8_number 81 = .ok (.iload_n 2, 1) := by decide +kernel
theorem dX8_number_82 : decode cX8_number 82 = .ok (.iaload, 1) := by decide +kernel
theorem dX8_number_83 : decode cX8_number 83 = .ok (.imul, 1) := by decide +kernel
theorem dX8_number_84 : decode cX8_number 84 = .ok (.aload_n 0, 1) := by decide +kernel
theorem dX8_number_85 : decode cX8_number 85 = .ok (.getfield 29, 3) := by decide +kernel
theorem dX8_number_88 : decode cX8_number 88 = .ok (.aload_n 0, 1) := by decide +kernel
theorem dX8_number_89 : decode cX8_number 89 = .ok (.getfield 129, 3) := by decide +kernel
theorem dX8_number_92 : decode cX8_number 92 = .ok (.caload, 1) := by decide +kernel
theorem dX8_number_93 : decode cX8_number 93 = .ok (.iadd, 1) := by decide +kernel
theorem dX8_number_94 : decode cX8_number 94 = .ok (.bipush 48, 2) := by decide +kernel
theorem dX8_number_96 : decode cX8_number 96 = .ok (.isub, 1) := by decide +kernel
theorem dX8_number_97 : decode cX8_number 97 = .ok (.iastore, 1) := by decide +kernel
theorem dX8_number_98 : decode cX8_number 98 = .ok (.aload_n 0, 1) := by decide +kernel
theorem dX8_number_99 : decode cX8_number 99 = .ok (.dup, 1) := by decide +kernel
theorem dX8_number_100 : decode cX8_number 100 = .ok (.getfield 129, 3) := by decide +kernel
theorem dX8_number_103 : decode cX8_number 103 = .ok (.iconst 1, 1) := by decide +kernel
theorem dX8_number_104 : decode cX8_number 104 = .ok (.iadd, 1) := by decide +kernel
theorem dX8_number_105 : decode cX8_number 105 = .ok (.putfield 129, 3) := by decide +kernel
theorem dX8_number_108 : decode cX8_number 108 = .ok (.iconst 1, 1) := by decide +kernel
theorem dX8_number_109 : decode cX8_number 109 = .ok (.ireturn, 1) := by decide +kernel
theorem dX8_sign_0 : decode cX8_sign 0 = .ok (.aload_n 0, 1) := by decide +kernel
theorem dX8_sign_1 : decode cX8_sign 1 = .ok (.iload_n 2, 1) := by decide +kernel
theorem dX8_sign_2 : decode cX8_sign 2 = .ok (.iload_n 3, 1) := by decide +kernel
theorem dX8_sign_3 : decode cX8_sign 3 = .ok (.invokevirtual 132, 3) := by decide +kernel
theorem dX8_sign_6 : decode cX8_sign 6 = .ok (.istore 4, 2) := by decide +kernel
theorem dX8_sign_8 : decode cX8_sign 8 = .ok (.aload_n 0, 1) := by decide +kernel
theorem dX8_sign_9 : decode cX8_sign 9 = .ok (.getfield 26, 3) := by decide +kernel
theorem dX8_sign_12 : decode cX8_sign 12 = .ok (.iconst 4, 1) := by decide +kernel
theorem dX8_sign_13 : decode cX8_sign 13 = .ok (.aload_n 0, 1) := by decide +kernel
theorem dX8_sign_14 : decode cX8_sign 14 = .ok (.getfield 136, 3) := by decide +kernel
theorem dX8_sign_17 : decode cX8_sign 17 = .ok (.imul, 1) := by decide +kernel
theorem dX8_sign_18 : decode cX8_sign 18 = .ok (.iload_n 1, 1) := by decide +kernel
theorem dX8_sign_19 : decode cX8_sign 19 = .ok (.iadd, 1) := by decide +kernel
theorem dX8_sign_20 : decode cX8_sign 20 = .ok (.iload 4, 2) := by decide +kernel
theorem dX8_sign_22 : decode cX8_sign 22 = .ok (.ifCond .eq 17, 3) := by decide +kernel
theorem dX8_sign_25 : decode cX8_sign 25 = .ok (.aload_n 0, 1) := by decide +kernel
theorem dX8_sign_26 : decode cX8_sign 26 = .ok (.getfield 29, 3) := by decide +kernel
theorem dX8_sign_29 : decode cX8_sign 29 = .ok (.aload_n 0, 1) := by decide +kernel
theorem dX8_sign_30 : decode cX8_sign 30 = .ok (.getfield 129, 3) := by decide +kernel
theorem dX8_sign_33 : decode cX8_sign 33 = .ok (.caload, 1) := by decide +kernel
theorem dX8_sign_34 : decode cX8_sign 34 = .ok (.iload_n 2, 1) := by decide +kernel
theorem dX8_sign_35 : decode cX8_sign 35 = .ok (.isub, 1) := by decide +kernel
theorem dX8_sign_36 : decode cX8_sign 36 = .ok (.goto 4, 3) := by decide +kernel
theorem dX8_sign_39 : decode cX8_sign 39 = .ok (.iconst 0, 1) := by decide +kernel
theorem dX8_sign_40 : decode cX8_sign 40 = .ok (.iastore, 1) := by decide +kernel
theorem dX8_sign_41 : decode cX8_sign 41 = .ok (.aload_n 0, 1) := by decide +kernel
theorem dX8_sign_42 : decode cX8_sign 42 = .ok (.dup, 1) := by decide +kernel
theorem dX8_sign_43 : decode cX8_sign 43 = .ok (.getfield 129, 3) := by decide +kernel
theorem dX8_sign_46 : decode cX8_sign 46 = .ok (.iload 4, 2) := by decide +kernel
theorem dX8_sign_48 : decode cX8_sign 48 = .ok (.ifCond .eq 7, 3) := by decide +kernel
theorem dX8_sign_51 : decode cX8_sign 51 = .ok (.iconst 1, 1) := by decide +kernel
theorem dX8_sign_52 : decode cX8_sign 52 = .ok (.goto 4, 3) := by decide +kernel
theorem dX8_sign_55 : decode cX8_sign 55 = .ok (.iconst 0, 1) := by decide +kernel
theorem dX8_sign_56 : decode cX8_sign 56 = .ok (.iadd, 1) := by decide +kernel
theorem dX8_sign_57 : decode cX8_sign 57 = .ok (.putfield 129, 3) := by decide +kernel
theorem dX8_sign_60 : decode cX8_sign 60 = .ok (.iload 4, 2) := by decide +kernel
theorem dX8_sign_62 : decode cX8_sign 62 = .ok (.ireturn, 1) := by decide +kernel
theorem dX8_readsOrder_0 : decode cX8_readsOrder 0 = .ok (.iconst 4, 1) := by decide +kernel
theorem dX8_readsOrder_1 : decode cX8_readsOrder 1 = .ok (.aload_n 0, 1) := by decide +kernel
theorem dX8_readsOrder_2 : decode cX8_readsOrder 2 = .ok (.getfield 136, 3) := by decide +kernel
theorem dX8_readsOrder_5 : decode cX8_readsOrder 5 = .ok (.imul, 1) := by decide +kernel
theorem dX8_readsOrder_6 : decode cX8_readsOrder 6 = .ok (.istore_n 1, 1) := by decide +kernel
theorem dX8_readsOrder_7 : decode cX8_readsOrder 7 = .ok (.aload_n 0, 1) := by decide +kernel
theorem dX8_readsOrder_8 : decode cX8_readsOrder 8 = .ok (.getfield 26, 3) := by decide +kernel
theorem dX8_readsOrder_11 : decode cX8_readsOrder 11 = .ok (.iload_n 1, 1) := by decide +kernel
theorem dX8_readsOrder_12 : decode cX8_readsOrder 12 = .ok (.aload_n 0, 1) := by decide +kernel
theorem dX8_readsOrder_13 : decode cX8_readsOrder 13 = .ok (.getfield 129, 3) := by decide +kernel
theorem dX8_readsOrder_16 : decode cX8_readsOrder 16 = .ok (.aload_n 0, 1) := by decide +kernel
theorem dX8_readsOrder_17 : decode cX8_readsOrder 17 = .ok (.getfield 125, 3) := by decide +kernel
theorem dX8_readsOrder_20 : decode cX8_readsOrder 20 = .ok (.if_icmp .ge 15, 3) := by decide +kernel
theorem dX8_readsOrder_23 : decode cX8_readsOrder 23 = .ok (.aload_n 0, 1) := by decide +kernel
theorem dX8_readsOrder_24 : decode cX8_readsOrder 24 = .ok (.getfield 29, 3) := by decide +kernel
theorem dX8_readsOrder_27 : decode cX8_readsOrder 27 = .ok (.aload_n 0, 1) := by decide +kernel
theorem dX8_readsOrder_28 : decode cX8_readsOrder 28 = .ok (.getfield 129, 3) := by decide +kernel
theorem dX8_readsOrder_31 : decode cX8_readsOrder 31 = .ok (.caload, 1) := by decide +kernel
theorem dX8_readsOrder_32 : decode cX8_readsOrder 32 = .ok (.goto 4, 3) := by decide +kernel
theorem dX8_readsOrder_35 : decode cX8_readsOrder 35 = .ok (.iconst 0, 1) := by decide +kernel
theorem dX8_readsOrder_36 : decode cX8_readsOrder 36 = .ok (.iastore, 1) := by decide +kernel
theorem dX8_readsOrder_37 : decode cX8_readsOrder 37 = .ok (.aload_n 0, 1) := by decide +kernel
theorem dX8_readsOrder_38 : decode cX8_readsOrder 38 = .ok (.getfield 26, 3) := by decide +kernel
theorem dX8_readsOrder_41 : decode cX8_readsOrder 41 = .ok (.iload_n 1, 1) := by decide +kernel
theorem dX8_readsOrder_42 : decode cX8_readsOrder 42 = .ok (.iconst 2, 1) := by decide +kernel
theorem dX8_readsOrder_43 : decode cX8_readsOrder 43 = .ok (.iadd, 1) := by decide +kernel
theorem dX8_readsOrder_44 : decode cX8_readsOrder 44 = .ok (.iconst 0, 1) := by decide +kernel
theorem dX8_readsOrder_45 : decode cX8_readsOrder 45 = .ok (.iastore, 1) := by decide +kernel
theorem dX8_readsOrder_46 : decode cX8_readsOrder 46 = .ok (.aload_n 0, 1) := by decide +kernel
theorem dX8_readsOrder_47 : decode cX8_readsOrder 47 = .ok (.getfield 26, 3) := by decide +kernel
theorem dX8_readsOrder_50 : decode cX8_readsOrder 50 = .ok (.iload_n 1, 1) := by decide +kernel
theorem dX8_readsOrder_51 : decode cX8_readsOrder 51 = .ok (.iconst 3, 1) := by decide +kernel
theorem dX8_readsOrder_52 : decode cX8_readsOrder 52 = .ok (.iadd, 1) := by decide +kernel
theorem dX8_readsOrder_53 : decode cX8_readsOrder 53 = .ok (.iconst 0, 1) := by decide +kernel
theorem dX8_readsOrder_54 : decode cX8_readsOrder 54 = .ok (.iastore, 1) := by decide +kernel
theorem dX8_readsOrder_55 : decode cX8_readsOrder 55 = .ok (.aload_n 0, 1) := by decide +kernel
theorem dX8_readsOrder_56 : decode cX8_readsOrder 56 = .ok (.bipush 118, 2) := by decide +kernel
theorem dX8_readsOrder_58 : decode cX8_readsOrder 58 = .ok (.invokevirtual 139, 3) := by decide +kernel
theorem dX8_readsOrder_61 : decode cX8_readsOrder 61 = .ok (.ifCond .eq 37, 3) := by decide +kernel
theorem dX8_readsOrder_64 : decode cX8_readsOrder 64 = .ok (.aload_n 0, 1) := by decide +kernel
theorem dX8_readsOrder_65 : decode cX8_readsOrder 65 = .ok (.iconst 1, 1) := by decide +kernel
theorem dX8_readsOrder_66 : decode cX8_readsOrder 66 = .ok (.invokevirtual 143, 3) := by decide +kernel
theorem dX8_readsOrder_69 : decode cX8_readsOrder 69 = .ok (.ifCond .eq 24, 3) := by decide +kernel
theorem dX8_readsOrder_72 : decode cX8_readsOrder 72 = .ok (.aload_n 0, 1) := by decide +kernel
theorem dX8_readsOrder_73 : decode cX8_readsOrder 73 = .ok (.bipush 43, 2) := by decide +kernel
theorem dX8_readsOrder_75 : decode cX8_readsOrder 75 = .ok (.invokevirtual 139, 3) := by decide +kernel
theorem dX8_readsOrder_78 : decode cX8_readsOrder 78 = .ok (.ifCond .eq 15, 3) := by decide +kernel
theorem dX8_readsOrder_81 : decode cX8_readsOrder 81 = .ok (.aload_n 0, 1) := by decide +kernel
theorem dX8_readsOrder_82 : decode cX8_readsOrder 82 = .ok (.iconst 2, 1) := by decide +kernel
theorem dX8_readsOrder_83 : decode cX8_readsOrder 83 = .ok (.invokevirtual 143, 3) := by decide +kernel
theorem dX8_readsOrder_86 : decode cX8_readsOrder 86 = .ok (.ifCond .eq 7, 3) := by decide +kernel
theorem dX8_readsOrder_89 : decode cX8_readsOrder 89 = .ok (.iconst 1, 1) := by decide +kernel
theorem dX8_readsOrder_90 : decode cX8_readsOrder 90 = .ok (.goto 4, 3) := by decide +kernel
theorem dX8_readsOrder_93 : decode cX8_readsOrder 93 = .ok (.iconst 0, 1) := by decide +kernel
theorem dX8_readsOrder_94 : decode cX8_readsOrder 94 = .ok (.istore_n 2, 1) := by decide +kernel
theorem dX8_readsOrder_95 : decode cX8_readsOrder 95 = .ok (.goto 142, 3) := by decide +kernel
theorem dX8_readsOrder_98 : decode cX8_readsOrder 98 = .ok (.aload_n 0, 1) := by decide +kernel
theorem dX8_readsOrder_99 : decode cX8_readsOrder 99 = .ok (.bipush 111, 2) := by decide +kernel
theorem dX8_readsOrder_101 : decode cX8_readsOrder 101 = .ok (.invokevirtual 139, 3) := by decide +kernel
theorem dX8_readsOrder_104 : decode cX8_readsOrder 104 = .ok (.ifCond .eq 53, 3) := by decide +kernel
theorem dX8_readsOrder_107 : decode cX8_readsOrder 107 = .ok (.aload_n 0, 1) := by decide +kernel
theorem dX8_readsOrder_108 : decode cX8_readsOrder 108 = .ok (.iconst 1, 1) := by decide +kernel
theorem dX8_readsOrder_109 : decode cX8_readsOrder 109 = .ok (.invokevirtual 143, 3) := by decide +kernel
theorem dX8_readsOrder_112 : decode cX8_readsOrder 112 = .ok (.ifCond .eq 40, 3) := by decide +kernel
theorem dX8_readsOrder_115 : decode cX8_readsOrder 115 = .ok (.aload_n 0, 1) := by decide +kernel
theorem dX8_readsOrder_116 : decode cX8_readsOrder 116 = .ok (.iconst 2, 1) := by decide +kernel
theorem dX8_readsOrder_117 : decode cX8_readsOrder 117 = .ok (.bipush 97, 2) := by decide +kernel
theorem dX8_readsOrder_119 : decode cX8_readsOrder 119 = .ok (.bipush 99, 2) := by decide +kernel
theorem dX8_readsOrder_121 : decode cX8_readsOrder 121 = .ok (.invokevirtual 146, 3) := by decide +kernel
theorem dX8_readsOrder_124 : decode cX8_readsOrder 124 = .ok (.ifCond .eq 28, 3) := by decide +kernel
theorem dX8_readsOrder_127 : decode cX8_readsOrder 127 = .ok (.aload_n 0, 1) := by decide +kernel
theorem dX8_readsOrder_128 : decode cX8_readsOrder 128 = .ok (.bipush 43, 2) := by decide +kernel
theorem dX8_readsOrder_130 : decode cX8_readsOrder 130 = .ok (.invokevirtual 139, 3) := by decide +kernel
theorem dX8_readsOrder_133 : decode cX8_readsOrder 133 = .ok (.ifCond .eq 15, 3) := by decide +kernel
theorem dX8_readsOrder_136 : decode cX8_readsOrder 136 = .ok (.aload_n 0, 1) := by decide +kernel
theorem dX8_readsOrder_137 : decode cX8_readsOrder 137 = .ok (.iconst 3, 1) := by decide +kernel
theorem dX8_readsOrder_138 : decode cX8_readsOrder 138 = .ok (.bipush 48, 2) := by decide +kernel
theorem dX8_readsOrder_140 : decode cX8_readsOrder 140 = .ok (.bipush 57, 2) := by decide +kernel
theorem dX8_readsOrder_142 : decode cX8_readsOrder 142 = .ok (.invokevirtual 146, 3) := by decide +kernel
theorem dX8_readsOrder_145 : decode cX8_readsOrder 145 = .ok (.ifCond .eq 7, 3) := by decide +kernel
theorem dX8_readsOrder_148 : decode cX8_readsOrder 148 = .ok (.iconst 1, 1) := by decide +kernel
theorem dX8_readsOrder_149 : decode cX8_readsOrder 149 = .ok (.goto 4, 3) := by decide +kernel
theorem dX8_readsOrder_152 : decode cX8_readsOrder 152 = .ok (.iconst 0, 1) := by decide +kernel
theorem dX8_readsOrder_153 : decode cX8_readsOrder 153 = .ok (.istore_n 2, 1) := by decide +kernel
theorem dX8_readsOrder_154 : decode cX8_readsOrder 154 = .ok (.goto 83, 3) := by decide +kernel
theorem dX8_readsOrder_157 : decode cX8_readsOrder 157 = .ok (.aload_n 0, 1) := by decide +kernel
theorem dX8_readsOrder_158 : decode cX8_readsOrder 158 = .ok (.bipush 99, 2) := by decide +kernel
theorem dX8_readsOrder_160 : decode cX8_readsOrder 160 = .ok (.invokevirtual 139, 3) := by decide +kernel
theorem dX8_readsOrder_163 : decode cX8_readsOrder 163 = .ok (.ifCond .eq 41, 3) := by decide +kernel
theorem dX8_readsOrder_166 : decode cX8_readsOrder 166 = .ok (.aload_n 0, 1) := by decide +kernel
theorem dX8_readsOrder_167 : decode cX8_readsOrder 167 = .ok (.iconst 1, 1) := by decide +kernel
theorem dX8_readsOrder_168 : decode cX8_readsOrder 168 = .ok (.invokevirtual 143, 3) := by decide +kernel
theorem dX8_readsOrder_171 : decode cX8_readsOrder 171 = .ok (.istore_n 2, 1) := by decide +kernel
theorem dX8_readsOrder_172 : decode cX8_readsOrder 172 = .ok (.aload_n 0, 1) := by decide +kernel
theorem dX8_readsOrder_173 : decode cX8_readsOrder 173 = .ok (.getfield 26, 3) := by decide +kernel
theorem dX8_readsOrder_176 : decode cX8_readsOrder 176 = .ok (.iload_n 1, 1) := by decide +kernel
theorem dX8_readsOrder_177 : decode cX8_readsOrder 177 = .ok (.iconst 3, 1) := by decide +kernel
theorem dX8_readsOrder_178 : decode cX8_readsOrder 178 = .ok (.iadd, 1) := by decide +kernel
theorem dX8_readsOrder_179 : decode cX8_readsOrder 179 = .ok (.iload_n 2, 1) := by decide +kernel
theorem dX8_readsOrder_180 : decode cX8_readsOrder 180 = .ok (.ifCond .eq 19, 3) := by decide +kernel
theorem dX8_readsOrder_183 : decode cX8_readsOrder 183 = .ok (.aload_n 0, 1) := by decide +kernel
theorem dX8_readsOrder_184 : decode cX8_readsOrder 184 = .ok (.iconst 2, 1) := by decide +kernel
theorem dX8_readsOrder_185 : decode cX8_readsOrder 185 = .ok (.bipush 97, 2) := by decide +kernel
theorem dX8_readsOrder_187 : decode cX8_readsOrder 187 = .ok (.bipush 99, 2) := by decide +kernel
theorem dX8_readsOrder_189 : decode cX8_readsOrder 189 = .ok (.invokevirtual 146, 3) := by decide +kernel
theorem dX8_readsOrder_192 : decode cX8_readsOrder 192 = .ok (.ifCond .eq 7, 3) := by decide +kernel
theorem dX8_readsOrder_195 : decode cX8_readsOrder 195 = .ok (.iconst 1, 1) := by decide +kernel
theorem dX8_readsOrder_196 : decode cX8_readsOrder 196 = .ok (.goto 4, 3) := by decide +kernel
theorem dX8_readsOrder_199 : decode cX8_readsOrder 199 = .ok (.iconst 0, 1) := by decide +kernel
theorem dX8_readsOrder_200 : decode cX8_readsOrder 200 = .ok (.iastore, 1) := by decide +kernel
theorem dX8_readsOrder_201 : decode cX8_readsOrder 201 = .ok (.goto 36, 3) := by decide +kernel
theorem dX8_readsOrder_204 : decode cX8_readsOrder 204 = .ok (.aload_n 0, 1) := by decide +kernel
theorem dX8_readsOrder_205 : decode cX8_readsOrder 205 = .ok (.bipush 112, 2) := by decide +kernel
theorem dX8_readsOrder_207 : decode cX8_readsOrder 207 = .ok (.invokevirtual 139, 3) := by decide +kernel
theorem dX8_readsOrder_210 : decode cX8_readsOrder 210 = .ok (.ifCond .ne 21, 3) := by decide +kernel
theorem dX8_readsOrder_213 : decode cX8_readsOrder 213 = .ok (.aload_n 0, 1) := by decide +kernel
theorem dX8_readsOrder_214 : decode cX8_readsOrder 214 = .ok (.bipush 107, 2) := by decide +kernel
theorem dX8_readsOrder_216 : decode cX8_readsOrder 216 = .ok (.invokevirtual 139, 3) := by decide +kernel
theorem dX8_readsOrder_219 : decode cX8_readsOrder 219 = .ok (.ifCond .ne 12, 3) := by decide +kernel
theorem dX8_readsOrder_222 : decode cX8_readsOrder 222 = .ok (.aload_n 0, 1) := by decide +kernel
theorem dX8_readsOrder_223 : decode cX8_readsOrder 223 = .ok (.bipush 120, 2) := by decide +kernel
theorem dX8_readsOrder_225 : decode cX8_readsOrder 225 = .ok (.invokevirtual 139, 3) := by decide +kernel
theorem dX8_readsOrder_228 : decode cX8_readsOrder 228 = .ok (.ifCond .eq 7, 3) := by decide +kernel
theorem dX8_readsOrder_231 : decode cX8_readsOrder 231 = .ok (.iconst 1, 1) := by decide +kernel
theorem dX8_readsOrder_232 : decode cX8_readsOrder 232 = .ok (.goto 4, 3) := by decide +kernel
theorem dX8_readsOrder_235 : decode cX8_readsOrder 235 = .ok (.iconst 0, 1) := by decide +kernel
theorem dX8_readsOrder_236 : decode cX8_readsOrder 236 = .ok (.istore_n 2, 1) := by decide +kernel
theorem dX8_readsOrder_237 : decode cX8_readsOrder 237 = .ok (.aload_n 0, 1) := by decide +kernel
theorem dX8_readsOrder_238 : decode cX8_readsOrder 238 = .ok (.dup, 1) := by decide +kernel
theorem dX8_readsOrder_239 : decode cX8_readsOrder 239 = .ok (.getfield 136, 3) := by decide +kernel
theorem dX8_readsOrder_242 : decode cX8_readsOrder 242 = .ok (.iload_n 2, 1) := by decide +kernel
theorem dX8_readsOrder_243 : decode cX8_readsOrder 243 = .ok (.ifCond .eq 7, 3) := by decide +kernel
theorem dX8_readsOrder_246 : decode cX8_readsOrder 246 = .ok (.iconst 1, 1) := by decide +kernel
theorem dX8_readsOrder_247 : decode cX8_readsOrder 247 = .ok (.goto 4, 3) := by decide +kernel
theorem dX8_readsOrder_250 : decode cX8_readsOrder 250 = .ok (.iconst 0, 1) := by decide +kernel
theorem dX8_readsOrder_251 : decode cX8_readsOrder 251 = .ok (.iadd, 1) := by decide +kernel
theorem dX8_readsOrder_252 : decode cX8_readsOrder 252 = .ok (.putfield 136, 3) := by decide +kernel
theorem dX8_readsOrder_255 : decode cX8_readsOrder 255 = .ok (.iload_n 2, 1) := by decide +kernel
theorem dX8_readsOrder_256 : decode cX8_readsOrder 256 = .ok (.ireturn, 1) := by decide +kernel
theorem dX8_faultOf_0 : decode cX8_faultOf 0 = .ok (.aload_n 0, 1) := by decide +kernel
theorem dX8_faultOf_1 : decode cX8_faultOf 1 = .ok (.iconst 0, 1) := by decide +kernel
theorem dX8_faultOf_2 : decode cX8_faultOf 2 = .ok (.putfield 129, 3) := by decide +kernel
theorem dX8_faultOf_5 : decode cX8_faultOf 5 = .ok (.aload_n 0, 1) := by decide +kernel
theorem dX8_faultOf_6 : decode cX8_faultOf 6 = .ok (.iconst 0, 1) := by decide +kernel
theorem dX8_faultOf_7 : decode cX8_faultOf 7 = .ok (.putfield 136, 3) := by decide +kernel
theorem dX8_faultOf_10 : decode cX8_faultOf 10 = .ok (.aload_n 0, 1) := by decide +kernel
theorem dX8_faultOf_11 : decode cX8_faultOf 11 = .ok (.invokevirtual 150, 3) := by decide +kernel
theorem dX8_faultOf_14 : decode cX8_faultOf 14 = .ok (.istore_n 1, 1) := by decide +kernel
theorem dX8_faultOf_15 : decode cX8_faultOf 15 = .ok (.iload_n 1, 1) := by decide +kernel
theorem dX8_faultOf_16 : decode cX8_faultOf 16 = .ok (.ifCond .eq 39, 3) := by decide +kernel
theorem dX8_faultOf_19 : decode cX8_faultOf 19 = .ok (.aload_n 0, 1) := by decide +kernel
theorem dX8_faultOf_20 : decode cX8_faultOf 20 = .ok (.getfield 129, 3) := by decide +kernel
theorem dX8_faultOf_23 : decode cX8_faultOf 23 = .ok (.aload_n 0, 1) := by decide +kernel
theorem dX8_faultOf_24 : decode cX8_faultOf 24 = .ok (.getfield 125, 3) := by decide +kernel
theorem dX8_faultOf_27 : decode cX8_faultOf 27 = .ok (.if_icmp .ge 28, 3) := by decide +kernel
theorem dX8_faultOf_30 : decode cX8_faultOf 30 = .ok (.aload_n 0, 1) := by decide +kernel
theorem dX8_faultOf_31 : decode cX8_faultOf 31 = .ok (.bipush 59, 2) := by decide +kernel
theorem dX8_faultOf_33 : decode cX8_faultOf 33 = .ok (.invokevirtual 139, 3) := by decide +kernel
theorem dX8_faultOf_36 : decode cX8_faultOf 36 = .ok (.ifCond .eq 14, 3) := by decide +kernel
theorem dX8_faultOf_39 : decode cX8_faultOf 39 = .ok (.aload_n 0, 1) := by decide +kernel
theorem dX8_faultOf_40 : decode cX8_faultOf 40 = .ok (.invokevirtual 150, 3) := by decide +kernel
theorem dX8_faultOf_43 : decode cX8_faultOf 43 = .ok (.ifCond .eq 7, 3) := by decide +kernel
theorem dX8_faultOf_46 : decode cX8_faultOf 46 = .ok (.iconst 1, 1) := by decide +kernel
theorem dX8_faultOf_47 : decode cX8_faultOf 47 = .ok (.goto 4, 3) := by decide +kernel
theorem dX8_faultOf_50 : decode cX8_faultOf 50 = .ok (.iconst 0, 1) := by decide +kernel
theorem dX8_faultOf_51 : decode cX8_faultOf 51 = .ok (.istore_n 1, 1) := by decide +kernel
theorem dX8_faultOf_52 : decode cX8_faultOf 52 = .ok (.goto (-37), 3) := by decide +kernel
theorem dX8_faultOf_55 : decode cX8_faultOf 55 = .ok (.iload_n 1, 1) := by decide +kernel
theorem dX8_faultOf_56 : decode cX8_faultOf 56 = .ok (.ifCond .eq 7, 3) := by decide +kernel
theorem dX8_faultOf_59 : decode cX8_faultOf 59 = .ok (.iconst (-1), 1) := by decide +kernel
theorem dX8_faultOf_60 : decode cX8_faultOf 60 = .ok (.goto 7, 3) := by decide +kernel
theorem dX8_faultOf_63 : decode cX8_faultOf 63 = .ok (.aload_n 0, 1) := by decide +kernel
theorem dX8_faultOf_64 : decode cX8_faultOf 64 = .ok (.getfield 129, 3) := by decide +kernel
theorem dX8_faultOf_67 : decode cX8_faultOf 67 = .ok (.ireturn, 1) := by decide +kernel
theorem dX8_does_0 : decode cX8_does 0 = .ok (.iconst 4, 1) := by decide +kernel
theorem dX8_does_1 : decode cX8_does 1 = .ok (.iload_n 1, 1) := by decide +kernel
theorem dX8_does_2 : decode cX8_does 2 = .ok (.imul, 1) := by decide +kernel
theorem dX8_does_3 : decode cX8_does 3 = .ok (.istore_n 2, 1) := by decide +kernel
theorem dX8_does_4 : decode cX8_does 4 = .ok (.aload_n 0, 1) := by decide +kernel
theorem dX8_does_5 : decode cX8_does 5 = .ok (.getfield 26, 3) := by decide +kernel
theorem dX8_does_8 : decode cX8_does 8 = .ok (.iload_n 2, 1) := by decide +kernel
theorem dX8_does_9 : decode cX8_does 9 = .ok (.iaload, 1) := by decide +kernel
theorem dX8_does_10 : decode cX8_does 10 = .ok (.lookupswitch 158 #[(99, 105), (107, 153), (111, 76), (112, 50), (118, 55)], 50) := by decide +kernel
theorem dX8_does_60 : decode cX8_does 60 = .ok (.aload_n 0, 1) := by decide +kernel
theorem dX8_does_61 : decode cX8_does 61 = .ok (.invokevirtual 94, 3) := by decide +kernel
theorem dX8_does_64 : decode cX8_does 64 = .ok (.ireturn, 1) := by decide +kernel
theorem dX8_does_65 : decode cX8_does 65 = .ok (.aload_n 0, 1) := by decide +kernel
theorem dX8_does_66 : decode cX8_does 66 = .ok (.aload_n 0, 1) := by decide +kernel
theorem dX8_does_67 : decode cX8_does 67 = .ok (.getfield 26, 3) := by decide +kernel
theorem dX8_does_70 : decode cX8_does 70 = .ok (.iload_n 2, 1) := by decide +kernel
theorem dX8_does_71 : decode cX8_does 71 = .ok (.iconst 1, 1) := by decide +kernel
theorem dX8_does_72 : decode cX8_does 72 = .ok (.iadd, 1) := by decide +kernel
theorem dX8_does_73 : decode cX8_does 73 = .ok (.iaload, 1) := by decide +kernel
theorem dX8_does_74 : decode cX8_does 74 = .ok (.aload_n 0, 1) := by decide +kernel
theorem dX8_does_75 : decode cX8_does 75 = .ok (.getfield 26, 3) := by decide +kernel
theorem dX8_does_78 : decode cX8_does 78 = .ok (.iload_n 2, 1) := by decide +kernel
theorem dX8_does_79 : decode cX8_does 79 = .ok (.iconst 2, 1) := by decide +kernel
theorem dX8_does_80 : decode cX8_does 80 = .ok (.iadd, 1) := by decide +kernel
theorem dX8_does_81 : decode cX8_does 81 = .ok (.iaload, 1) := by decide +kernel
theorem dX8_does_82 : decode cX8_does 82 = .ok (.invokevirtual 98, 3) := by decide +kernel
theorem dX8_does_85 : decode cX8_does 85 = .ok (.ireturn, 1) := by decide +kernel
theorem dX8_does_86 : decode cX8_does 86 = .ok (.aload_n 0, 1) := by decide +kernel
theorem dX8_does_87 : decode cX8_does 87 = .ok (.aload_n 0, 1) := by decide +kernel
theorem dX8_does_88 : decode cX8_does 88 = .ok (.getfield 26, 3) := by decide +kernel
theorem dX8_does_91 : decode cX8_does 91 = .ok (.iload_n 2, 1) := by decide +kernel
theorem dX8_does_92 : decode cX8_does 92 = .ok (.iconst 1, 1) := by decide +kernel
theorem dX8_does_93 : decode cX8_does 93 = .ok (.iadd, 1) := by decide +kernel
theorem dX8_does_94 : decode cX8_does 94 = .ok (.iaload, 1) := by decide +kernel
theorem dX8_does_95 : decode cX8_does 95 = .ok (.aload_n 0, 1) := by decide +kernel
theorem dX8_does_96 : decode cX8_does 96 = .ok (.getfield 26, 3) := by decide +kernel
theorem dX8_does_99 : decode cX8_does 99 = .ok (.iload_n 2, 1) := by decide +kernel
theorem dX8_does_100 : decode cX8_does 100 = .ok (.iconst 3, 1) := by decide +kernel
theorem dX8_does_101 : decode cX8_does 101 = .ok (.iadd, 1) := by decide +kernel
theorem dX8_does_102 : decode cX8_does 102 = .ok (.iaload, 1) := by decide +kernel
theorem dX8_does_103 : decode cX8_does 103 = .ok (.aload_n 0, 1) := by decide +kernel
theorem dX8_does_104 : decode cX8_does 104 = .ok (.getfield 26, 3) := by decide +kernel
theorem dX8_does_107 : decode cX8_does 107 = .ok (.iload_n 2, 1) := by decide +kernel
theorem dX8_does_108 : decode cX8_does 108 = .ok (.iconst 2, 1) := by decide +kernel
theorem dX8_does_109 : decode cX8_does 109 = .ok (.iadd, 1) := by decide +kernel
theorem dX8_does_110 : decode cX8_does 110 = .ok (.iaload, 1) := by decide +kernel
theorem dX8_does_111 : decode cX8_does 111 = .ok (.invokevirtual 101, 3) := by decide +kernel
theorem dX8_does_114 : decode cX8_does 114 = .ok (.ireturn, 1) := by decide +kernel
theorem dX8_does_115 : decode cX8_does 115 = .ok (.aload_n 0, 1) := by decide +kernel
theorem dX8_does_116 : decode cX8_does 116 = .ok (.getfield 26, 3) := by decide +kernel
theorem dX8_does_119 : decode cX8_does 119 = .ok (.iload_n 2, 1) := by decide +kernel
theorem dX8_does_120 : decode cX8_does 120 = .ok (.iconst 3, 1) := by decide +kernel
theorem dX8_does_121 : decode cX8_does 121 = .ok (.iadd, 1) := by decide +kernel
theorem dX8_does_122 : decode cX8_does 122 = .ok (.iaload, 1) := by decide +kernel
theorem dX8_does_123 : decode cX8_does 123 = .ok (.iconst 1, 1) := by decide +kernel
theorem dX8_does_124 : decode cX8_does 124 = .ok (.if_icmp .ne 26, 3) := by decide +kernel
theorem dX8_does_127 : decode cX8_does 127 = .ok (.aload_n 0, 1) := by decide +kernel
theorem dX8_does_128 : decode cX8_does 128 = .ok (.aload_n 0, 1) := by decide +kernel
theorem dX8_does_129 : decode cX8_does 129 = .ok (.getfield 26, 3) := by decide +kernel
theorem dX8_does_132 : decode cX8_does 132 = .ok (.iload_n 2, 1) := by decide +kernel
theorem dX8_does_133 : decode cX8_does 133 = .ok (.iconst 1, 1) := by decide +kernel
theorem dX8_does_134 : decode cX8_does 134 = .ok (.iadd, 1) := by decide +kernel
theorem dX8_does_135 : decode cX8_does 135 = .ok (.iaload, 1) := by decide +kernel
theorem dX8_does_136 : decode cX8_does 136 = .ok (.aload_n 0, 1) := by decide +kernel
theorem dX8_does_137 : decode cX8_does 137 = .ok (.getfield 26, 3) := by decide +kernel
theorem dX8_does_140 : decode cX8_does 140 = .ok (.iload_n 2, 1) := by decide +kernel
theorem dX8_does_141 : decode cX8_does 141 = .ok (.iconst 2, 1) := by decide +kernel
theorem dX8_does_142 : decode cX8_does 142 = .ok (.iadd, 1) := by decide +kernel
theorem dX8_does_143 : decode cX8_does 143 = .ok (.iaload, 1) := by decide +kernel
theorem dX8_does_144 : decode cX8_does 144 = .ok (.invokevirtual 110, 3) := by decide +kernel
theorem dX8_does_147 : decode cX8_does 147 = .ok (.goto 15, 3) := by decide +kernel
theorem dX8_does_150 : decode cX8_does 150 = .ok (.aload_n 0, 1) := by decide +kernel
theorem dX8_does_151 : decode cX8_does 151 = .ok (.aload_n 0, 1) := by decide +kernel
theorem dX8_does_152 : decode cX8_does 152 = .ok (.getfield 26, 3) := by decide +kernel
theorem dX8_does_155 : decode cX8_does 155 = .ok (.iload_n 2, 1) := by decide +kernel
theorem dX8_does_156 : decode cX8_does 156 = .ok (.iconst 1, 1) := by decide +kernel
theorem dX8_does_157 : decode cX8_does 157 = .ok (.iadd, 1) := by decide +kernel
theorem dX8_does_158 : decode cX8_does 158 = .ok (.iaload, 1) := by decide +kernel
theorem dX8_does_159 : decode cX8_does 159 = .ok (.invokevirtual 107, 3) := by decide +kernel
theorem dX8_does_162 : decode cX8_does 162 = .ok (.ireturn, 1) := by decide +kernel
theorem dX8_does_163 : decode cX8_does 163 = .ok (.aload_n 0, 1) := by decide +kernel
theorem dX8_does_164 : decode cX8_does 164 = .ok (.invokevirtual 104, 3) := by decide +kernel
theorem dX8_does_167 : decode cX8_does 167 = .ok (.ireturn, 1) := by decide +kernel
theorem dX8_does_168 : decode cX8_does 168 = .ok (.aload_n 0, 1) := by decide +kernel
theorem dX8_does_169 : decode cX8_does 169 = .ok (.invokevirtual 113, 3) := by decide +kernel
theorem dX8_does_172 : decode cX8_does 172 = .ok (.ireturn, 1) := by decide +kernel
theorem dX8_put_0 : decode cX8_put 0 = .ok (.iconst 0, 1) := by decide +kernel
theorem dX8_put_1 : decode cX8_put 1 = .ok (.istore_n 3, 1) := by decide +kernel
theorem dX8_put_2 : decode cX8_put 2 = .ok (.lload_n 1, 1) := by decide +kernel
theorem dX8_put_3 : decode cX8_put 3 = .ok (.lstore 4, 2) := by decide +kernel
theorem dX8_put_5 : decode cX8_put 5 = .ok (.iload_n 3, 1) := by decide +kernel
theorem dX8_put_6 : decode cX8_put 6 = .ok (.bipush 8, 2) := by decide +kernel
theorem dX8_put_8 : decode cX8_put 8 = .ok (.if_icmp .ge 52, 3) := by decide +kernel
theorem dX8_put_11 : decode cX8_put 11 = .ok (.lload 4, 2) := by decide +kernel
theorem dX8_put_13 : decode cX8_put 13 = .ok (.lconst 0, 1) := by decide +kernel
theorem dX8_put_14 : decode cX8_put 14 = .ok (.lcmp, 1) := by decide +kernel
theorem dX8_put_15 : decode cX8_put 15 = .ok (.ifCond .eq 45, 3) := by decide +kernel
theorem dX8_put_18 : decode cX8_put 18 = .ok (.lload 4, 2) := by decide +kernel
theorem dX8_put_20 : decode cX8_put 20 = .ok (.ldc2_w 154, 3) := by decide +kernel
theorem dX8_put_23 : decode cX8_put 23 = .ok (.land, 1) := by decide +kernel
theorem dX8_put_24 : decode cX8_put 24 = .ok (.lstore 6, 2) := by decide +kernel
theorem dX8_put_26 : decode cX8_put 26 = .ok (.lload 6, 2) := by decide +kernel
theorem dX8_put_28 : decode cX8_put 28 = .ok (.ldc2_w 156, 3) := by decide +kernel
theorem dX8_put_31 : decode cX8_put 31 = .ok (.lcmp, 1) := by decide +kernel
theorem dX8_put_32 : decode cX8_put 32 = .ok (.ifCond .lt 12, 3) := by decide +kernel
theorem dX8_put_35 : decode cX8_put 35 = .ok (.lload 6, 2) := by decide +kernel
theorem dX8_put_37 : decode cX8_put 37 = .ok (.ldc2_w 158, 3) := by decide +kernel
theorem dX8_put_40 : decode cX8_put 40 = .ok (.lcmp, 1) := by decide +kernel
theorem dX8_put_41 : decode cX8_put 41 = .ok (.ifCond .le 6, 3) := by decide +kernel
theorem dX8_put_44 : decode cX8_put 44 = .ok (.bipush (-2), 2) := by decide +kernel
theorem dX8_put_46 : decode cX8_put 46 = .ok (.ireturn, 1) := by decide +kernel
theorem dX8_put_47 : decode cX8_put 47 = .ok (.lload 4, 2) := by decide +kernel
theorem dX8_put_49 : decode cX8_put 49 = .ok (.bipush 8, 2) := by decide +kernel
theorem dX8_put_51 : decode cX8_put 51 = .ok (.lushr, 1) := by decide +kernel
theorem dX8_put_52 : decode cX8_put 52 = .ok (.lstore 4, 2) := by decide +kernel
theorem dX8_put_54 : decode cX8_put 54 = .ok (.iinc 3 1, 3) := by decide +kernel
theorem dX8_put_57 : decode cX8_put 57 = .ok (.goto (-52), 3) := by decide +kernel
theorem dX8_put_60 : decode cX8_put 60 = .ok (.iload_n 3, 1) := by decide +kernel
theorem dX8_put_61 : decode cX8_put 61 = .ok (.ifCond .ne 6, 3) := by decide +kernel
theorem dX8_put_64 : decode cX8_put 64 = .ok (.bipush (-2), 2) := by decide +kernel
theorem dX8_put_66 : decode cX8_put 66 = .ok (.ireturn, 1) := by decide +kernel
theorem dX8_put_67 : decode cX8_put 67 = .ok (.aload_n 0, 1) := by decide +kernel
theorem dX8_put_68 : decode cX8_put 68 = .ok (.getfield 125, 3) := by decide +kernel
theorem dX8_put_71 : decode cX8_put 71 = .ok (.iload_n 3, 1) := by decide +kernel
theorem dX8_put_72 : decode cX8_put 72 = .ok (.iadd, 1) := by decide +kernel
theorem dX8_put_73 : decode cX8_put 73 = .ok (.bipush 80, 2) := by decide +kernel
theorem dX8_put_75 : decode cX8_put 75 = .ok (.if_icmp .le 6, 3) := by decide +kernel
theorem dX8_put_78 : decode cX8_put 78 = .ok (.bipush (-4), 2) := by decide +kernel
theorem dX8_put_80 : decode cX8_put 80 = .ok (.ireturn, 1) := by decide +kernel
theorem dX8_put_81 : decode cX8_put 81 = .ok (.iload_n 3, 1) := by decide +kernel
theorem dX8_put_82 : decode cX8_put 82 = .ok (.iconst 1, 1) := by decide +kernel
theorem dX8_put_83 : decode cX8_put 83 = .ok (.isub, 1) := by decide +kernel
theorem dX8_put_84 : decode cX8_put 84 = .ok (.istore 6, 2) := by decide +kernel
theorem dX8_put_86 : decode cX8_put 86 = .ok (.iload 6, 2) := by decide +kernel
theorem dX8_put_88 : decode cX8_put 88 = .ok (.ifCond .lt 41, 3) := by decide +kernel
theorem dX8_put_91 : decode cX8_put 91 = .ok (.aload_n 0, 1) := by decide +kernel
theorem dX8_put_92 : decode cX8_put 92 = .ok (.getfield 29, 3) := by decide +kernel
theorem dX8_put_95 : decode cX8_put 95 = .ok (.aload_n 0, 1) := by decide +kernel
theorem dX8_put_96 : decode cX8_put 96 = .ok (.getfield 125, 3) := by decide +kernel
theorem dX8_put_99 : decode cX8_put 99 = .ok (.lload_n 1, 1) := by decide +kernel
theorem dX8_put_100 : decode cX8_put 100 = .ok (.bipush 8, 2) := by decide +kernel
theorem dX8_put_102 : decode cX8_put 102 = .ok (.iload 6, 2) := by decide +kernel
theorem dX8_put_104 : decode cX8_put 104 = .ok (.imul, 1) := by decide +kernel
theorem dX8_put_105 : decode cX8_put 105 = .ok (.lushr, 1) := by decide +kernel
theorem dX8_put_106 : decode cX8_put 106 = .ok (.ldc2_w 154, 3) := by decide +kernel
theorem dX8_put_109 : decode cX8_put 109 = .ok (.land, 1) := by decide +kernel
theorem dX8_put_110 : decode cX8_put 110 = .ok (.l2i, 1) := by decide +kernel
theorem dX8_put_111 : decode cX8_put 111 = .ok (.i2c, 1) := by decide +kernel
theorem dX8_put_112 : decode cX8_put 112 = .ok (.castore, 1) := by decide +kernel
theorem dX8_put_113 : decode cX8_put 113 = .ok (.aload_n 0, 1) := by decide +kernel
theorem dX8_put_114 : decode cX8_put 114 = .ok (.dup, 1) := by decide +kernel
theorem dX8_put_115 : decode cX8_put 115 = .ok (.getfield 125, 3) := by decide +kernel
theorem dX8_put_118 : decode cX8_put 118 = .ok (.iconst 1, 1) := by decide +kernel
theorem dX8_put_119 : decode cX8_put 119 = .ok (.iadd, 1) := by decide +kernel
theorem dX8_put_120 : decode cX8_put 120 = .ok (.putfield 125, 3) := by decide +kernel
theorem dX8_put_123 : decode cX8_put 123 = .ok (.iinc 6 (-1), 3) := by decide +kernel
theorem dX8_put_126 : decode cX8_put 126 = .ok (.goto (-40), 3) := by decide +kernel
theorem dX8_put_129 : decode cX8_put 129 = .ok (.aload_n 0, 1) := by decide +kernel
theorem dX8_put_130 : decode cX8_put 130 = .ok (.getfield 125, 3) := by decide +kernel
theorem dX8_put_133 : decode cX8_put 133 = .ok (.ireturn, 1) := by decide +kernel
theorem dX8_wipe_0 : decode cX8_wipe 0 = .ok (.aload_n 0, 1) := by decide +kernel
theorem dX8_wipe_1 : decode cX8_wipe 1 = .ok (.getfield 125, 3) := by decide +kernel
theorem dX8_wipe_4 : decode cX8_wipe 4 = .ok (.istore_n 1, 1) := by decide +kernel
theorem dX8_wipe_5 : decode cX8_wipe 5 = .ok (.aload_n 0, 1) := by decide +kernel
theorem dX8_wipe_6 : decode cX8_wipe 6 = .ok (.iconst 0, 1) := by decide +kernel
theorem dX8_wipe_7 : decode cX8_wipe 7 = .ok (.putfield 125, 3) := by decide +kernel
theorem dX8_wipe_10 : decode cX8_wipe 10 = .ok (.iload_n 1, 1) := by decide +kernel
theorem dX8_wipe_11 : decode cX8_wipe 11 = .ok (.ireturn, 1) := by decide +kernel
theorem dX8_fault_0 : decode cX8_fault 0 = .ok (.aload_n 0, 1) := by decide +kernel
theorem dX8_fault_1 : decode cX8_fault 1 = .ok (.invokevirtual 160, 3) := by decide +kernel
theorem dX8_fault_4 : decode cX8_fault 4 = .ok (.istore_n 1, 1) := by decide +kernel
theorem dX8_fault_5 : decode cX8_fault 5 = .ok (.iload_n 1, 1) := by decide +kernel
theorem dX8_fault_6 : decode cX8_fault 6 = .ok (.ifCond .ge 8, 3) := by decide +kernel
theorem dX8_fault_9 : decode cX8_fault 9 = .ok (.bipush (-6), 2) := by decide +kernel
theorem dX8_fault_11 : decode cX8_fault 11 = .ok (.goto 4, 3) := by decide +kernel
theorem dX8_fault_14 : decode cX8_fault 14 = .ok (.iload_n 1, 1) := by decide +kernel
theorem dX8_fault_15 : decode cX8_fault 15 = .ok (.ireturn, 1) := by decide +kernel
theorem dX8_carryOut_0 : decode cX8_carryOut 0 = .ok (.aload_n 0, 1) := by decide +kernel
theorem dX8_carryOut_1 : decode cX8_carryOut 1 = .ok (.invokevirtual 160, 3) := by decide +kernel
theorem dX8_carryOut_4 : decode cX8_carryOut 4 = .ok (.ifCond .lt 6, 3) := by decide +kernel
theorem dX8_carryOut_7 : decode cX8_carryOut 7 = .ok (.bipush (-3), 2) := by decide +kernel
theorem dX8_carryOut_9 : decode cX8_carryOut 9 = .ok (.ireturn, 1) := by decide +kernel
theorem dX8_carryOut_10 : decode cX8_carryOut 10 = .ok (.aload_n 0, 1) := by decide +kernel
theorem dX8_carryOut_11 : decode cX8_carryOut 11 = .ok (.invokevirtual 88, 3) := by decide +kernel
theorem dX8_carryOut_14 : decode cX8_carryOut 14 = .ok (.iconst 0, 1) := by decide +kernel
theorem dX8_carryOut_15 : decode cX8_carryOut 15 = .ok (.istore_n 1, 1) := by decide +kernel
theorem dX8_carryOut_16 : decode cX8_carryOut 16 = .ok (.iconst 1, 1) := by decide +kernel
theorem dX8_carryOut_17 : decode cX8_carryOut 17 = .ok (.istore_n 2, 1) := by decide +kernel
theorem dX8_carryOut_18 : decode cX8_carryOut 18 = .ok (.iload_n 2, 1) := by decide +kernel
theorem dX8_carryOut_19 : decode cX8_carryOut 19 = .ok (.ifCond .eq 40, 3) := by decide +kernel
theorem dX8_carryOut_22 : decode cX8_carryOut 22 = .ok (.iload_n 1, 1) := by decide +kernel
theorem dX8_carryOut_23 : decode cX8_carryOut 23 = .ok (.aload_n 0, 1) := by decide +kernel
theorem dX8_carryOut_24 : decode cX8_carryOut 24 = .ok (.getfield 136, 3) := by decide +kernel
theorem dX8_carryOut_27 : decode cX8_carryOut 27 = .ok (.if_icmp .ge 32, 3) := by decide +kernel
theorem dX8_carryOut_30 : decode cX8_carryOut 30 = .ok (.aload_n 0, 1) := by decide +kernel
theorem dX8_carryOut_31 : decode cX8_carryOut 31 = .ok (.iload_n 1, 1) := by decide +kernel
theorem dX8_carryOut_32 : decode cX8_carryOut 32 = .ok (.invokevirtual 163, 3) := by decide +kernel
theorem dX8_carryOut_35 : decode cX8_carryOut 35 = .ok (.ifCond .lt 7, 3) := by decide +kernel
theorem dX8_carryOut_38 : decode cX8_carryOut 38 = .ok (.iconst 1, 1) := by decide +kernel
theorem dX8_carryOut_39 : decode cX8_carryOut 39 = .ok (.goto 4, 3) := by decide +kernel
theorem dX8_carryOut_42 : decode cX8_carryOut 42 = .ok (.iconst 0, 1) := by decide +kernel
theorem dX8_carryOut_43 : decode cX8_carryOut 43 = .ok (.istore_n 2, 1) := by decide +kernel
theorem dX8_carryOut_44 : decode cX8_carryOut 44 = .ok (.iload_n 1, 1) := by decide +kernel
theorem dX8_carryOut_45 : decode cX8_carryOut 45 = .ok (.iload_n 2, 1) := by decide +kernel
theorem dX8_carryOut_46 : decode cX8_carryOut 46 = .ok (.ifCond .eq 7, 3) := by decide +kernel
theorem dX8_carryOut_49 : decode cX8_carryOut 49 = .ok (.iconst 1, 1) := by decide +kernel
theorem dX8_carryOut_50 : decode cX8_carryOut 50 = .ok (.goto 4, 3) := by decide +kernel
theorem dX8_carryOut_53 : decode cX8_carryOut 53 = .ok (.iconst 0, 1) := by decide +kernel
theorem dX8_carryOut_54 : decode cX8_carryOut 54 = .ok (.iadd, 1) := by decide +kernel
theorem dX8_carryOut_55 : decode cX8_carryOut 55 = .ok (.istore_n 1, 1) := by decide +kernel
theorem dX8_carryOut_56 : decode cX8_carryOut 56 = .ok (.goto (-38), 3) := by decide +kernel
theorem dX8_carryOut_59 : decode cX8_carryOut 59 = .ok (.aload_n 0, 1) := by decide +kernel
theorem dX8_carryOut_60 : decode cX8_carryOut 60 = .ok (.iconst 0, 1) := by decide +kernel
theorem dX8_carryOut_61 : decode cX8_carryOut 61 = .ok (.putfield 125, 3) := by decide +kernel
theorem dX8_carryOut_64 : decode cX8_carryOut 64 = .ok (.aload_n 0, 1) := by decide +kernel
theorem dX8_carryOut_65 : decode cX8_carryOut 65 = .ok (.iload_n 1, 1) := by decide +kernel
theorem dX8_carryOut_66 : decode cX8_carryOut 66 = .ok (.invokevirtual 91, 3) := by decide +kernel
theorem dX8_carryOut_69 : decode cX8_carryOut 69 = .ok (.ireturn, 1) := by decide +kernel
theorem dX8_undo_0 : decode cX8_undo 0 = .ok (.aload_n 0, 1) := by decide +kernel
theorem dX8_undo_1 : decode cX8_undo 1 = .ok (.getfield 37, 3) := by decide +kernel
theorem dX8_undo_4 : decode cX8_undo 4 = .ok (.ifCond .ne 6, 3) := by decide +kernel
theorem dX8_undo_7 : decode cX8_undo 7 = .ok (.bipush (-5), 2) := by decide +kernel
theorem dX8_undo_9 : decode cX8_undo 9 = .ok (.ireturn, 1) := by decide +kernel
theorem dX8_undo_10 : decode cX8_undo 10 = .ok (.aload_n 0, 1) := by decide +kernel
theorem dX8_undo_11 : decode cX8_undo 11 = .ok (.dup, 1) := by decide +kernel
theorem dX8_undo_12 : decode cX8_undo 12 = .ok (.getfield 37, 3) := by decide +kernel
theorem dX8_undo_15 : decode cX8_undo 15 = .ok (.iconst 1, 1) := by decide +kernel
theorem dX8_undo_16 : decode cX8_undo 16 = .ok (.isub, 1) := by decide +kernel
theorem dX8_undo_17 : decode cX8_undo 17 = .ok (.putfield 37, 3) := by decide +kernel
theorem dX8_undo_20 : decode cX8_undo 20 = .ok (.iconst 0, 1) := by decide +kernel
theorem dX8_undo_21 : decode cX8_undo 21 = .ok (.istore_n 1, 1) := by decide +kernel
theorem dX8_undo_22 : decode cX8_undo 22 = .ok (.iload_n 1, 1) := by decide +kernel
theorem dX8_undo_23 : decode cX8_undo 23 = .ok (.sipush 276, 3) := by decide +kernel
theorem dX8_undo_26 : decode cX8_undo 26 = .ok (.if_icmp .ge 30, 3) := by decide +kernel
theorem dX8_undo_29 : decode cX8_undo 29 = .ok (.aload_n 0, 1) := by decide +kernel
theorem dX8_undo_30 : decode cX8_undo 30 = .ok (.getfield 7, 3) := by decide +kernel
theorem dX8_undo_33 : decode cX8_undo 33 = .ok (.iload_n 1, 1) := by decide +kernel
theorem dX8_undo_34 : decode cX8_undo 34 = .ok (.aload_n 0, 1) := by decide +kernel
theorem dX8_undo_35 : decode cX8_undo 35 = .ok (.getfield 16, 3) := by decide +kernel
theorem dX8_undo_38 : decode cX8_undo 38 = .ok (.sipush 276, 3) := by decide +kernel
theorem dX8_undo_41 : decode cX8_undo 41 = .ok (.aload_n 0, 1) := by decide +kernel
theorem dX8_undo_42 : decode cX8_undo 42 = .ok (.getfield 37, 3) := by decide +kernel
theorem dX8_undo_45 : decode cX8_undo 45 = .ok (.imul, 1) := by decide +kernel
theorem dX8_undo_46 : decode cX8_undo 46 = .ok (.iload_n 1, 1) := by decide +kernel
theorem dX8_undo_47 : decode cX8_undo 47 = .ok (.iadd, 1) := by decide +kernel
theorem dX8_undo_48 : decode cX8_undo 48 = .ok (.iaload, 1) := by decide +kernel
theorem dX8_undo_49 : decode cX8_undo 49 = .ok (.iastore, 1) := by decide +kernel
theorem dX8_undo_50 : decode cX8_undo 50 = .ok (.iinc 1 1, 3) := by decide +kernel
theorem dX8_undo_53 : decode cX8_undo 53 = .ok (.goto (-31), 3) := by decide +kernel
theorem dX8_undo_56 : decode cX8_undo 56 = .ok (.aload_n 0, 1) := by decide +kernel
theorem dX8_undo_57 : decode cX8_undo 57 = .ok (.getfield 37, 3) := by decide +kernel
theorem dX8_undo_60 : decode cX8_undo 60 = .ok (.ireturn, 1) := by decide +kernel
theorem dX8_save_0 : decode cX8_save 0 = .ok (.iload_n 1, 1) := by decide +kernel
theorem dX8_save_1 : decode cX8_save 1 = .ok (.iconst 0, 1) := by decide +kernel
theorem dX8_save_2 : decode cX8_save 2 = .ok (.iconst 1, 1) := by decide +kernel
theorem dX8_save_3 : decode cX8_save 3 = .ok (.invokestatic 33, 3) := by decide +kernel
theorem dX8_save_6 : decode cX8_save 6 = .ok (.ifCond .ne 6, 3) := by decide +kernel
theorem dX8_save_9 : decode cX8_save 9 = .ok (.bipush (-2), 2) := by decide +kernel
theorem dX8_save_11 : decode cX8_save 11 = .ok (.ireturn, 1) := by decide +kernel
theorem dX8_save_12 : decode cX8_save 12 = .ok (.iconst 0, 1) := by decide +kernel
theorem dX8_save_13 : decode cX8_save 13 = .ok (.istore_n 2, 1) := by decide +kernel
theorem dX8_save_14 : decode cX8_save 14 = .ok (.iload_n 2, 1) := by decide +kernel
theorem dX8_save_15 : decode cX8_save 15 = .ok (.sipush 276, 3) := by decide +kernel
theorem dX8_save_18 : decode cX8_save 18 = .ok (.if_icmp .ge 27, 3) := by decide +kernel
theorem dX8_save_21 : decode cX8_save 21 = .ok (.aload_n 0, 1) := by decide +kernel
theorem dX8_save_22 : decode cX8_save 22 = .ok (.getfield 19, 3) := by decide +kernel
theorem dX8_save_25 : decode cX8_save 25 = .ok (.sipush 276, 3) := by decide +kernel
theorem dX8_save_28 : decode cX8_save 28 = .ok (.iload_n 1, 1) := by decide +kernel
theorem dX8_save_29 : decode cX8_save 29 = .ok (.imul, 1) := by decide +kernel
theorem dX8_save_30 : decode cX8_save 30 = .ok (.iload_n 2, 1) := by decide +kernel
theorem dX8_save_31 : decode cX8_save 31 = .ok (.iadd, 1) := by decide +kernel
theorem dX8_save_32 : decode cX8_save 32 = .ok (.aload_n 0, 1) := by decide +kernel
theorem dX8_save_33 : decode cX8_save 33 = .ok (.getfield 7, 3) := by decide +kernel
theorem dX8_save_36 : decode cX8_save 36 = .ok (.iload_n 2, 1) := by decide +kernel
theorem dX8_save_37 : decode cX8_save 37 = .ok (.iaload, 1) := by decide +kernel
theorem dX8_save_38 : decode cX8_save 38 = .ok (.iastore, 1) := by decide +kernel
theorem dX8_save_39 : decode cX8_save 39 = .ok (.iinc 2 1, 3) := by decide +kernel
theorem dX8_save_42 : decode cX8_save 42 = .ok (.goto (-28), 3) := by decide +kernel
theorem dX8_save_45 : decode cX8_save 45 = .ok (.aload_n 0, 1) := by decide +kernel
theorem dX8_save_46 : decode cX8_save 46 = .ok (.getfield 22, 3) := by decide +kernel
theorem dX8_save_49 : decode cX8_save 49 = .ok (.iload_n 1, 1) := by decide +kernel
theorem dX8_save_50 : decode cX8_save 50 = .ok (.iconst 1, 1) := by decide +kernel
theorem dX8_save_51 : decode cX8_save 51 = .ok (.bastore, 1) := by decide +kernel
theorem dX8_save_52 : decode cX8_save 52 = .ok (.aload_n 0, 1) := by decide +kernel
theorem dX8_save_53 : decode cX8_save 53 = .ok (.getfield 7, 3) := by decide +kernel
theorem dX8_save_56 : decode cX8_save 56 = .ok (.iconst 5, 1) := by decide +kernel
theorem dX8_save_57 : decode cX8_save 57 = .ok (.iaload, 1) := by decide +kernel
theorem dX8_save_58 : decode cX8_save 58 = .ok (.ireturn, 1) := by decide +kernel
theorem dX8_restore_0 : decode cX8_restore 0 = .ok (.iload_n 1, 1) := by decide +kernel
theorem dX8_restore_1 : decode cX8_restore 1 = .ok (.iconst 0, 1) := by decide +kernel
theorem dX8_restore_2 : decode cX8_restore 2 = .ok (.iconst 1, 1) := by decide +kernel
theorem dX8_restore_3 : decode cX8_restore 3 = .ok (.invokestatic 33, 3) := by decide +kernel
theorem dX8_restore_6 : decode cX8_restore 6 = .ok (.ifCond .ne 6, 3) := by decide +kernel
theorem dX8_restore_9 : decode cX8_restore 9 = .ok (.bipush (-2), 2) := by decide +kernel
theorem dX8_restore_11 : decode cX8_restore 11 = .ok (.ireturn, 1) := by decide +kernel
theorem dX8_restore_12 : decode cX8_restore 12 = .ok (.aload_n 0, 1) := by decide +kernel
theorem dX8_restore_13 : decode cX8_restore 13 = .ok (.getfield 22, 3) := by decide +kernel
theorem dX8_restore_16 : decode cX8_restore 16 = .ok (.iload_n 1, 1) := by decide +kernel
theorem dX8_restore_17 : decode cX8_restore 17 = .ok (.baload, 1) := by decide +kernel
theorem dX8_restore_18 : decode cX8_restore 18 = .ok (.ifCond .ne 6, 3) := by decide +kernel
theorem dX8_restore_21 : decode cX8_restore 21 = .ok (.bipush (-5), 2) := by decide +kernel
theorem dX8_restore_23 : decode cX8_restore 23 = .ok (.ireturn, 1) := by decide +kernel
theorem dX8_restore_24 : decode cX8_restore 24 = .ok (.aload_n 0, 1) := by decide +kernel
theorem dX8_restore_25 : decode cX8_restore 25 = .ok (.invokevirtual 88, 3) := by decide +kernel
theorem dX8_restore_28 : decode cX8_restore 28 = .ok (.iconst 0, 1) := by decide +kernel
theorem dX8_restore_29 : decode cX8_restore 29 = .ok (.istore_n 2, 1) := by decide +kernel
theorem dX8_restore_30 : decode cX8_restore 30 = .ok (.iload_n 2, 1) := by decide +kernel
theorem dX8_restore_31 : decode cX8_restore 31 = .ok (.sipush 276, 3) := by decide +kernel
theorem dX8_restore_34 : decode cX8_restore 34 = .ok (.if_icmp .ge 27, 3) := by decide +kernel
theorem dX8_restore_37 : decode cX8_restore 37 = .ok (.aload_n 0, 1) := by decide +kernel
theorem dX8_restore_38 : decode cX8_restore 38 = .ok (.getfield 7, 3) := by decide +kernel
theorem dX8_restore_41 : decode cX8_restore 41 = .ok (.iload_n 2, 1) := by decide +kernel
theorem dX8_restore_42 : decode cX8_restore 42 = .ok (.aload_n 0, 1) := by decide +kernel
theorem dX8_restore_43 : decode cX8_restore 43 = .ok (.getfield 19, 3) := by decide +kernel
theorem dX8_restore_46 : decode cX8_restore 46 = .ok (.sipush 276, 3) := by decide +kernel
theorem dX8_restore_49 : decode cX8_restore 49 = .ok (.iload_n 1, 1) := by decide +kernel
theorem dX8_restore_50 : decode cX8_restore 50 = .ok (.imul, 1) := by decide +kernel
theorem dX8_restore_51 : decode cX8_restore 51 = .ok (.iload_n 2, 1) := by decide +kernel
theorem dX8_restore_52 : decode cX8_restore 52 = .ok (.iadd, 1) := by decide +kernel
theorem dX8_restore_53 : decode cX8_restore 53 = .ok (.iaload, 1) := by decide +kernel
theorem dX8_restore_54 : decode cX8_restore 54 = .ok (.iastore, 1) := by decide +kernel
theorem dX8_restore_55 : decode cX8_restore 55 = .ok (.iinc 2 1, 3) := by decide +kernel
theorem dX8_restore_58 : decode cX8_restore 58 = .ok (.goto (-28), 3) := by decide +kernel
theorem dX8_restore_61 : decode cX8_restore 61 = .ok (.aload_n 0, 1) := by decide +kernel
theorem dX8_restore_62 : decode cX8_restore 62 = .ok (.aload_n 0, 1) := by decide +kernel
theorem dX8_restore_63 : decode cX8_restore 63 = .ok (.getfield 7, 3) := by decide +kernel
theorem dX8_restore_66 : decode cX8_restore 66 = .ok (.iconst 5, 1) := by decide +kernel
theorem dX8_restore_67 : decode cX8_restore 67 = .ok (.iaload, 1) := by decide +kernel
theorem dX8_restore_68 : decode cX8_restore 68 = .ok (.invokevirtual 91, 3) := by decide +kernel
theorem dX8_restore_71 : decode cX8_restore 71 = .ok (.ireturn, 1) := by decide +kernel
theorem dL_law_0 : decode cL_law 0 = .ok (.new 7, 3) := by decide +kernel
theorem dL_law_3 : decode cL_law 3 = .ok (.dup, 1) := by decide +kernel
theorem dL_law_4 : decode cL_law 4 = .ok (.invokespecial 9, 3) := by decide +kernel
theorem dL_law_7 : decode cL_law 7 = .ok (.astore_n 1, 1) := by decide +kernel
theorem dL_law_8 : decode cL_law 8 = .ok (.new 10, 3) := by decide +kernel
theorem dL_law_11 : decode cL_law 11 = .ok (.dup, 1) := by decide +kernel
theorem dL_law_12 : decode cL_law 12 = .ok (.invokespecial 12, 3) := by decide +kernel
theorem dL_law_15 : decode cL_law 15 = .ok (.astore_n 2, 1) := by decide +kernel
theorem dL_law_16 : decode cL_law 16 = .ok (.iconst 0, 1) := by decide +kernel
theorem dL_law_17 : decode cL_law 17 = .ok (.istore_n 3, 1) := by decide +kernel
theorem dL_law_18 : decode cL_law 18 = .ok (.iload_n 3, 1) := by decide +kernel
theorem dL_law_19 : decode cL_law 19 = .ok (.aload_n 0, 1) := by decide +kernel
theorem dL_law_20 : decode cL_law 20 = .ok (.arraylength, 1) := by decide +kernel
theorem dL_law_21 : decode cL_law 21 = .ok (.iconst 4, 1) := by decide +kernel
theorem dL_law_22 : decode cL_law 22 = .ok (.isub, 1) := by decide +kernel
theorem dL_law_23 : decode cL_law 23 = .ok (.if_icmp .gt 786, 3) := by decide +kernel
theorem dL_law_26 : decode cL_law 26 = .ok (.aload_n 0, 1) := by decide +kernel
theorem dL_law_27 : decode cL_law 27 = .ok (.iload_n 3, 1) := by decide +kernel
theorem dL_law_28 : decode cL_law 28 = .ok (.iaload, 1) := by decide +kernel
theorem dL_law_29 : decode cL_law 29 = .ok (.bipush 31, 2) := by decide +kernel
theorem dL_law_31 : decode cL_law 31 = .ok (.iand, 1) := by decide +kernel
theorem dL_law_32 : decode cL_law 32 = .ok (.tableswitch 771 0 24 #[116, 149, 192, 205, 238, 281, 314, 327, 350, 383, 396, 429, 462, 495, 518, 561, 584, 607, 620, 673, 686, 699, 712, 725, 748], 116) := by decide +kernel
theorem dL_law_148 : decode cL_law 148 = .ok (.aload_n 1, 1) := by decide +kernel
theorem dL_law_149 : decode cL_law 149 = .ok (.aload_n 0, 1) := by decide +kernel
theorem dL_law_150 : decode cL_law 150 = .ok (.iload_n 3, 1) := by decide +kernel
theorem dL_law_151 : decode cL_law 151 = .ok (.iconst 1, 1) := by decide +kernel
theorem dL_law_152 : decode cL_law 152 = .ok (.iadd, 1) := by decide +kernel
theorem dL_law_153 : decode cL_law 153 = .ok (.iaload, 1) := by decide +kernel
theorem dL_law_154 : decode cL_law 154 = .ok (.aload_n 0, 1) := by decide +kernel
theorem dL_law_155 : decode cL_law 155 = .ok (.iload_n 3, 1) := by decide +kernel
theorem dL_law_156 : decode cL_law 156 = .ok (.iconst 2, 1) := by decide +kernel
theorem dL_law_157 : decode cL_law 157 = .ok (.iadd, 1) := by decide +kernel
theorem dL_law_158 : decode cL_law 158 = .ok (.iaload, 1) := by decide +kernel
theorem dL_law_159 : decode cL_law 159 = .ok (.invokevirtual 13, 3) := by decide +kernel
theorem dL_law_162 : decode cL_law 162 = .ok (.aload_n 2, 1) := by decide +kernel
theorem dL_law_163 : decode cL_law 163 = .ok (.aload_n 0, 1) := by decide +kernel
theorem dL_law_164 : decode cL_law 164 = .ok (.iload_n 3, 1) := by decide +kernel
theorem dL_law_165 : decode cL_law 165 = .ok (.iconst 1, 1) := by decide +kernel
theorem dL_law_166 : decode cL_law 166 = .ok (.iadd, 1) := by decide +kernel
theorem dL_law_167 : decode cL_law 167 = .ok (.iaload, 1) := by decide +kernel
theorem dL_law_168 : decode cL_law 168 = .ok (.aload_n 0, 1) := by decide +kernel
theorem dL_law_169 : decode cL_law 169 = .ok (.iload_n 3, 1) := by decide +kernel
theorem dL_law_170 : decode cL_law 170 = .ok (.iconst 2, 1) := by decide +kernel
theorem dL_law_171 : decode cL_law 171 = .ok (.iadd, 1) := by decide +kernel
theorem dL_law_172 : decode cL_law 172 = .ok (.iaload, 1) := by decide +kernel
theorem dL_law_173 : decode cL_law 173 = .ok (.invokevirtual 17, 3) := by decide +kernel
theorem dL_law_176 : decode cL_law 176 = .ok (.if_icmp .eq 627, 3) := by decide +kernel
theorem dL_law_179 : decode cL_law 179 = .ok (.iconst 0, 1) := by decide +kernel
theorem dL_law_180 : decode cL_law 180 = .ok (.ireturn, 1) := by decide +kernel
theorem dL_law_181 : decode cL_law 181 = .ok (.aload_n 1, 1) := by decide +kernel
theorem dL_law_182 : decode cL_law 182 = .ok (.aload_n 0, 1) := by decide +kernel
theorem dL_law_183 : decode cL_law 183 = .ok (.iload_n 3, 1) := by decide +kernel
theorem dL_law_184 : decode cL_law 184 = .ok (.iconst 1, 1) := by decide +kernel
theorem dL_law_185 : decode cL_law 185 = .ok (.iadd, 1) := by decide +kernel
theorem dL_law_186 : decode cL_law 186 = .ok (.iaload, 1) := by decide +kernel
theorem dL_law_187 : decode cL_law 187 = .ok (.aload_n 0, 1) := by decide +kernel
theorem dL_law_188 : decode cL_law 188 = .ok (.iload_n 3, 1) := by decide +kernel
theorem dL_law_189 : decode cL_law 189 = .ok (.iconst 2, 1) := by decide +kernel
theorem dL_law_190 : decode cL_law 190 = .ok (.iadd, 1) := by decide +kernel
theorem dL_law_191 : decode cL_law 191 = .ok (.iaload, 1) := by decide +kernel
theorem dL_law_192 : decode cL_law 192 = .ok (.aload_n 0, 1) := by decide +kernel
theorem dL_law_193 : decode cL_law 193 = .ok (.iload_n 3, 1) := by decide +kernel
theorem dL_law_194 : decode cL_law 194 = .ok (.iconst 3, 1) := by decide +kernel
theorem dL_law_195 : decode cL_law 195 = .ok (.iadd, 1) := by decide +kernel
theorem dL_law_196 : decode cL_law 196 = .ok (.iaload, 1) := by decide +kernel
theorem dL_law_197 : decode cL_law 197 = .ok (.invokevirtual 18, 3) := by decide +kernel
theorem dL_law_200 : decode cL_law 200 = .ok (.aload_n 2, 1) := by decide +kernel
theorem dL_law_201 : decode cL_law 201 = .ok (.aload_n 0, 1) := by decide +kernel
theorem dL_law_202 : decode cL_law 202 = .ok (.iload_n 3, 1) := by decide +kernel
theorem dL_law_203 : decode cL_law 203 = .ok (.iconst 1, 1) := by decide +kernel
theorem dL_law_204 : decode cL_law 204 = .ok (.iadd, 1) := by decide +kernel
theorem dL_law_205 : decode cL_law 205 = .ok (.iaload, 1) := by decide +kernel
theorem dL_law_206 : decode cL_law 206 = .ok (.aload_n 0, 1) := by decide +kernel
theorem dL_law_207 : decode cL_law 207 = .ok (.iload_n 3, 1) := by decide +kernel
theorem dL_law_208 : decode cL_law 208 = .ok (.iconst 2, 1) := by decide +kernel
theorem dL_law_209 : decode cL_law 209 = .ok (.iadd, 1) := by decide +kernel
theorem dL_law_210 : decode cL_law 210 = .ok (.iaload, 1) := by decide +kernel
theorem dL_law_211 : decode cL_law 211 = .ok (.aload_n 0, 1) := by decide +kernel
theorem dL_law_212 : decode cL_law 212 = .ok (.iload_n 3, 1) := by decide +kernel
theorem dL_law_213 : decode cL_law 213 = .ok (.iconst 3, 1) := by decide +kernel
theorem dL_law_214 : decode cL_law 214 = .ok (.iadd, 1) := by decide +kernel
theorem dL_law_215 : decode cL_law 215 = .ok (.iaload, 1) := by decide +kernel
theorem dL_law_216 : decode cL_law 216 = .ok (.invokevirtual 22, 3) := by decide +kernel
theorem dL_law_219 : decode cL_law 219 = .ok (.if_icmp .eq 584, 3) := by decide +kernel
theorem dL_law_222 : decode cL_law 222 = .ok (.iconst 0, 1) := by decide +kernel
theorem dL_law_223 : decode cL_law 223 = .ok (.ireturn, 1) := by decide +kernel
theorem dL_law_224 : decode cL_law 224 = .ok (.aload_n 1, 1) := by decide +kernel
theorem dL_law_225 : decode cL_law 225 = .ok (.invokevirtual 23, 3) := by decide +kernel
theorem dL_law_228 : decode cL_law 228 = .ok (.aload_n 2, 1) := by decide +kernel
theorem dL_law_229 : decode cL_law 229 = .ok (.invokevirtual 27, 3) := by decide +kernel
theorem dL_law_232 : decode cL_law 232 = .ok (.if_icmp .eq 571, 3) := by decide +kernel
theorem dL_law_235 : decode cL_law 235 = .ok (.iconst 0, 1) := by decide +kernel
theorem dL_law_236 : decode cL_law 236 = .ok (.ireturn, 1) := by decide +kernel
theorem dL_law_237 : decode cL_law 237 = .ok (.aload_n 1, 1) := by decide +kernel
theorem dL_law_238 : decode cL_law 238 = .ok (.aload_n 0, 1) := by decide +kernel
theorem dL_law_239 : decode cL_law 239 = .ok (.iload_n 3, 1) := by decide +kernel
theorem dL_law_240 : decode cL_law 240 = .ok (.iconst 1, 1) := by decide +kernel
theorem dL_law_241 : decode cL_law 241 = .ok (.iadd, 1) := by decide +kernel
theorem dL_law_242 : decode cL_law 242 = .ok (.iaload, 1) := by decide +kernel
theorem dL_law_243 : decode cL_law 243 = .ok (.aload_n 0, 1) := by decide +kernel
theorem dL_law_244 : decode cL_law 244 = .ok (.iload_n 3, 1) := by decide +kernel
theorem dL_law_245 : decode cL_law 245 = .ok (.iconst 2, 1) := by decide +kernel
theorem dL_law_246 : decode cL_law 246 = .ok (.iadd, 1) := by decide +kernel
theorem dL_law_247 : decode cL_law 247 = .ok (.iaload, 1) := by decide +kernel
theorem dL_law_248 : decode cL_law 248 = .ok (.invokevirtual 28, 3) := by decide +kernel
theorem dL_law_251 : decode cL_law 251 = .ok (.aload_n 2, 1) := by decide +kernel
theorem dL_law_252 : decode cL_law 252 = .ok (.aload_n 0, 1) := by decide +kernel
theorem dL_law_253 : decode cL_law 253 = .ok (.iload_n 3, 1) := by decide +kernel
theorem dL_law_254 : decode cL_law 254 = .ok (.iconst 1, 1) := by decide +kernel
theorem dL_law_255 : decode cL_law 255 = .ok (.iadd, 1) := by decide +kernel
theorem dL_law_256 : decode cL_law 256 = .ok (.iaload, 1) := by decide +kernel
theorem dL_law_257 : decode cL_law 257 = .ok (.aload_n 0, 1) := by decide +kernel
theorem dL_law_258 : decode cL_law 258 = .ok (.iload_n 3, 1) := by decide +kernel
theorem dL_law_259 : decode cL_law 259 = .ok (.iconst 2, 1) := by decide +kernel
theorem dL_law_260 : decode cL_law 260 = .ok (.iadd, 1) := by decide +kernel
theorem dL_law_261 : decode cL_law 261 = .ok (.iaload, 1) := by decide +kernel
theorem dL_law_262 : decode cL_law 262 = .ok (.invokevirtual 31, 3) := by decide +kernel
theorem dL_law_265 : decode cL_law 265 = .ok (.if_icmp .eq 538, 3) := by decide +kernel
theorem dL_law_268 : decode cL_law 268 = .ok (.iconst 0, 1) := by decide +kernel
theorem dL_law_269 : decode cL_law 269 = .ok (.ireturn, 1) := by decide +kernel
theorem dL_law_270 : decode cL_law 270 = .ok (.aload_n 1, 1) := by decide +kernel
theorem dL_law_271 : decode cL_law 271 = .ok (.aload_n 0, 1) := by decide +kernel
theorem dL_law_272 : decode cL_law 272 = .ok (.iload_n 3, 1) := by decide +kernel
theorem dL_law_273 : decode cL_law 273 = .ok (.iconst 1, 1) := by decide +kernel
theorem dL_law_274 : decode cL_law 274 = .ok (.iadd, 1) := by decide +kernel
theorem dL_law_275 : decode cL_law 275 = .ok (.iaload, 1) := by decide +kernel
theorem dL_law_276 : decode cL_law 276 = .ok (.aload_n 0, 1) := by decide +kernel
theorem dL_law_277 : decode cL_law 277 = .ok (.iload_n 3, 1) := by decide +kernel
theorem dL_law_278 : decode cL_law 278 = .ok (.iconst 2, 1) := by decide +kernel
theorem dL_law_279 : decode cL_law 279 = .ok (.iadd, 1) := by decide +kernel
theorem dL_law_280 : decode cL_law 280 = .ok (.iaload, 1) := by decide +kernel
theorem dL_law_281 : decode cL_law 281 = .ok (.aload_n 0, 1) := by decide +kernel
theorem dL_law_282 : decode cL_law 282 = .ok (.iload_n 3, 1) := by decide +kernel
theorem dL_law_283 : decode cL_law 283 = .ok (.iconst 3, 1) := by decide +kernel
theorem dL_law_284 : decode cL_law 284 = .ok (.iadd, 1) := by decide +kernel
theorem dL_law_285 : decode cL_law 285 = .ok (.iaload, 1) := by decide +kernel
theorem dL_law_286 : decode cL_law 286 = .ok (.invokevirtual 32, 3) := by decide +kernel
theorem dL_law_289 : decode cL_law 289 = .ok (.aload_n 2, 1) := by decide +kernel
theorem dL_law_290 : decode cL_law 290 = .ok (.aload_n 0, 1) := by decide +kernel
theorem dL_law_291 : decode cL_law 291 = .ok (.iload_n 3, 1) := by decide +kernel
theorem dL_law_292 : decode cL_law 292 = .ok (.iconst 1, 1) := by decide +kernel
theorem dL_law_293 : decode cL_law 293 = .ok (.iadd, 1) := by decide +kernel
theorem dL_law_294 : decode cL_law 294 = .ok (.iaload, 1) := by decide +kernel
theorem dL_law_295 : decode cL_law 295 = .ok (.aload_n 0, 1) := by decide +kernel
theorem dL_law_296 : decode cL_law 296 = .ok (.iload_n 3, 1) := by decide +kernel
theorem dL_law_297 : decode cL_law 297 = .ok (.iconst 2, 1) := by decide +kernel
theorem dL_law_298 : decode cL_law 298 = .ok (.iadd, 1) := by decide +kernel
theorem dL_law_299 : decode cL_law 299 = .ok (.iaload, 1) := by decide +kernel
theorem dL_law_300 : decode cL_law 300 = .ok (.aload_n 0, 1) := by decide +kernel
theorem dL_law_301 : decode cL_law 301 = .ok (.iload_n 3, 1) := by decide +kernel
theorem dL_law_302 : decode cL_law 302 = .ok (.iconst 3, 1) := by decide +kernel
theorem dL_law_303 : decode cL_law 303 = .ok (.iadd, 1) := by decide +kernel
theorem dL_law_304 : decode cL_law 304 = .ok (.iaload, 1) := by decide +kernel
theorem dL_law_305 : decode cL_law 305 = .ok (.invokevirtual 35, 3) := by decide +kernel
theorem dL_law_308 : decode cL_law 308 = .ok (.if_icmp .eq 495, 3) := by decide +kernel
theorem dL_law_311 : decode cL_law 311 = .ok (.iconst 0, 1) := by decide +kernel
theorem dL_law_312 : decode cL_law 312 = .ok (.ireturn, 1) := by decide +kernel
theorem dL_law_313 : decode cL_law 313 = .ok (.aload_n 1, 1) := by decide +kernel
theorem dL_law_314 : decode cL_law 314 = .ok (.aload_n 0, 1) := by decide +kernel
theorem dL_law_315 : decode cL_law 315 = .ok (.iload_n 3, 1) := by decide +kernel
theorem dL_law_316 : decode cL_law 316 = .ok (.iconst 1, 1) := by decide +kernel
theorem dL_law_317 : decode cL_law 317 = .ok (.iadd, 1) := by decide +kernel
theorem dL_law_318 : decode cL_law 318 = .ok (.iaload, 1) := by decide +kernel
theorem dL_law_319 : decode cL_law 319 = .ok (.aload_n 0, 1) := by decide +kernel
theorem dL_law_320 : decode cL_law 320 = .ok (.iload_n 3, 1) := by decide +kernel
theorem dL_law_321 : decode cL_law 321 = .ok (.iconst 2, 1) := by decide +kernel
theorem dL_law_322 : decode cL_law 322 = .ok (.iadd, 1) := by decide +kernel
theorem dL_law_323 : decode cL_law 323 = .ok (.iaload, 1) := by decide +kernel
theorem dL_law_324 : decode cL_law 324 = .ok (.invokevirtual 36, 3) := by decide +kernel
theorem dL_law_327 : decode cL_law 327 = .ok (.aload_n 2, 1) := by decide +kernel
theorem dL_law_328 : decode cL_law 328 = .ok (.aload_n 0, 1) := by decide +kernel
theorem dL_law_329 : decode cL_law 329 = .ok (.iload_n 3, 1) := by decide +kernel
theorem dL_law_330 : decode cL_law 330 = .ok (.iconst 1, 1) := by decide +kernel
theorem dL_law_331 : decode cL_law 331 = .ok (.iadd, 1) := by decide +kernel
theorem dL_law_332 : decode cL_law 332 = .ok (.iaload, 1) := by decide +kernel
theorem dL_law_333 : decode cL_law 333 = .ok (.aload_n 0, 1) := by decide +kernel
theorem dL_law_334 : decode cL_law 334 = .ok (.iload_n 3, 1) := by decide +kernel
theorem dL_law_335 : decode cL_law 335 = .ok (.iconst 2, 1) := by decide +kernel
theorem dL_law_336 : decode cL_law 336 = .ok (.iadd, 1) := by decide +kernel
theorem dL_law_337 : decode cL_law 337 = .ok (.iaload, 1) := by decide +kernel
theorem dL_law_338 : decode cL_law 338 = .ok (.invokevirtual 39, 3) := by decide +kernel
theorem dL_law_341 : decode cL_law 341 = .ok (.if_icmp .eq 462, 3) := by decide +kernel
theorem dL_law_344 : decode cL_law 344 = .ok (.iconst 0, 1) := by decide +kernel
theorem dL_law_345 : decode cL_law 345 = .ok (.ireturn, 1) := by decide +kernel
theorem dL_law_346 : decode cL_law 346 = .ok (.aload_n 1, 1) := by decide +kernel
theorem dL_law_347 : decode cL_law 347 = .ok (.invokevirtual 40, 3) := by decide +kernel
theorem dL_law_350 : decode cL_law 350 = .ok (.aload_n 2, 1) := by decide +kernel
theorem dL_law_351 : decode cL_law 351 = .ok (.invokevirtual 43, 3) := by decide +kernel
theorem dL_law_354 : decode cL_law 354 = .ok (.if_icmp .eq 449, 3) := by decide +kernel
theorem dL_law_357 : decode cL_law 357 = .ok (.iconst 0, 1) := by decide +kernel
theorem dL_law_358 : decode cL_law 358 = .ok (.ireturn, 1) := by decide +kernel
theorem dL_law_359 : decode cL_law 359 = .ok (.aload_n 1, 1) := by decide +kernel
theorem dL_law_360 : decode cL_law 360 = .ok (.aload_n 0, 1) := by decide +kernel
theorem dL_law_361 : decode cL_law 361 = .ok (.iload_n 3, 1) := by decide +kernel
theorem dL_law_362 : decode cL_law 362 = .ok (.iconst 1, 1) := by decide +kernel
theorem dL_law_363 : decode cL_law 363 = .ok (.iadd, 1) := by decide +kernel
theorem dL_law_364 : decode cL_law 364 = .ok (.iaload, 1) := by decide +kernel
theorem dL_law_365 : decode cL_law 365 = .ok (.invokevirtual 44, 3) := by decide +kernel
theorem dL_law_368 : decode cL_law 368 = .ok (.aload_n 2, 1) := by decide +kernel
theorem dL_law_369 : decode cL_law 369 = .ok (.aload_n 0, 1) := by decide +kernel
theorem dL_law_370 : decode cL_law 370 = .ok (.iload_n 3, 1) := by decide +kernel
theorem dL_law_371 : decode cL_law 371 = .ok (.iconst 1, 1) := by decide +kernel
theorem dL_law_372 : decode cL_law 372 = .ok (.iadd, 1) := by decide +kernel
theorem dL_law_373 : decode cL_law 373 = .ok (.iaload, 1) := by decide +kernel
theorem dL_law_374 : decode cL_law 374 = .ok (.invokevirtual 48, 3) := by decide +kernel
theorem dL_law_377 : decode cL_law 377 = .ok (.if_icmp .eq 426, 3) := by decide +kernel
theorem dL_law_380 : decode cL_law 380 = .ok (.iconst 0, 1) := by decide +kernel
theorem dL_law_381 : decode cL_law 381 = .ok (.ireturn, 1) := by decide +kernel
theorem dL_law_382 : decode cL_law 382 = .ok (.aload_n 1, 1) := by decide +kernel
theorem dL_law_383 : decode cL_law 383 = .ok (.aload_n 0, 1) := by decide +kernel
theorem dL_law_384 : decode cL_law 384 = .ok (.iload_n 3, 1) := by decide +kernel
theorem dL_law_385 : decode cL_law 385 = .ok (.iconst 1, 1) := by decide +kernel
theorem dL_law_386 : decode cL_law 386 = .ok (.iadd, 1) := by decide +kernel
theorem dL_law_387 : decode cL_law 387 = .ok (.iaload, 1) := by decide +kernel
theorem dL_law_388 : decode cL_law 388 = .ok (.aload_n 0, 1) := by decide +kernel
theorem dL_law_389 : decode cL_law 389 = .ok (.iload_n 3, 1) := by decide +kernel
theorem dL_law_390 : decode cL_law 390 = .ok (.iconst 2, 1) := by decide +kernel
theorem dL_law_391 : decode cL_law 391 = .ok (.iadd, 1) := by decide +kernel
theorem dL_law_392 : decode cL_law 392 = .ok (.iaload, 1) := by decide +kernel
theorem dL_law_393 : decode cL_law 393 = .ok (.invokevirtual 49, 3) := by decide +kernel
theorem dL_law_396 : decode cL_law 396 = .ok (.aload_n 2, 1) := by decide +kernel
theorem dL_law_397 : decode cL_law 397 = .ok (.aload_n 0, 1) := by decide +kernel
theorem dL_law_398 : decode cL_law 398 = .ok (.iload_n 3, 1) := by decide +kernel
theorem dL_law_399 : decode cL_law 399 = .ok (.iconst 1, 1) := by decide +kernel
theorem dL_law_400 : decode cL_law 400 = .ok (.iadd, 1) := by decide +kernel
theorem dL_law_401 : decode cL_law 401 = .ok (.iaload, 1) := by decide +kernel
theorem dL_law_402 : decode cL_law 402 = .ok (.aload_n 0, 1) := by decide +kernel
theorem dL_law_403 : decode cL_law 403 = .ok (.iload_n 3, 1) := by decide +kernel
theorem dL_law_404 : decode cL_law 404 = .ok (.iconst 2, 1) := by decide +kernel
theorem dL_law_405 : decode cL_law 405 = .ok (.iadd, 1) := by decide +kernel
theorem dL_law_406 : decode cL_law 406 = .ok (.iaload, 1) := by decide +kernel
theorem dL_law_407 : decode cL_law 407 = .ok (.invokevirtual 52, 3) := by decide +kernel
theorem dL_law_410 : decode cL_law 410 = .ok (.if_icmp .eq 393, 3) := by decide +kernel
theorem dL_law_413 : decode cL_law 413 = .ok (.iconst 0, 1) := by decide +kernel
theorem dL_law_414 : decode cL_law 414 = .ok (.ireturn, 1) := by decide +kernel
theorem dL_law_415 : decode cL_law 415 = .ok (.aload_n 1, 1) := by decide +kernel
theorem dL_law_416 : decode cL_law 416 = .ok (.invokevirtual 53, 3) := by decide +kernel
theorem dL_law_419 : decode cL_law 419 = .ok (.aload_n 2, 1) := by decide +kernel
theorem dL_law_420 : decode cL_law 420 = .ok (.invokevirtual 56, 3) := by decide +kernel
theorem dL_law_423 : decode cL_law 423 = .ok (.if_icmp .eq 380, 3) := by decide +kernel
theorem dL_law_426 : decode cL_law 426 = .ok (.iconst 0, 1) := by decide +kernel
theorem dL_law_427 : decode cL_law 427 = .ok (.ireturn, 1) := by decide +kernel
theorem dL_law_428 : decode cL_law 428 = .ok (.aload_n 1, 1) := by decide +kernel
theorem dL_law_429 : decode cL_law 429 = .ok (.aload_n 0, 1) := by decide +kernel
theorem dL_law_430 : decode cL_law 430 = .ok (.iload_n 3, 1) := by decide +kernel
theorem dL_law_431 : decode cL_law 431 = .ok (.iconst 1, 1) := by decide +kernel
theorem dL_law_432 : decode cL_law 432 = .ok (.iadd, 1) := by decide +kernel
theorem dL_law_433 : decode cL_law 433 = .ok (.iaload, 1) := by decide +kernel
theorem dL_law_434 : decode cL_law 434 = .ok (.aload_n 0, 1) := by decide +kernel
theorem dL_law_435 : decode cL_law 435 = .ok (.iload_n 3, 1) := by decide +kernel
theorem dL_law_436 : decode cL_law 436 = .ok (.iconst 2, 1) := by decide +kernel
theorem dL_law_437 : decode cL_law 437 = .ok (.iadd, 1) := by decide +kernel
theorem dL_law_438 : decode cL_law 438 = .ok (.iaload, 1) := by decide +kernel
theorem dL_law_439 : decode cL_law 439 = .ok (.invokevirtual 57, 3) := by decide +kernel
theorem dL_law_442 : decode cL_law 442 = .ok (.aload_n 2, 1) := by decide +kernel
theorem dL_law_443 : decode cL_law 443 = .ok (.aload_n 0, 1) := by decide +kernel
theorem dL_law_444 : decode cL_law 444 = .ok (.iload_n 3, 1) := by decide +kernel
theorem dL_law_445 : decode cL_law 445 = .ok (.iconst 1, 1) := by decide +kernel
theorem dL_law_446 : decode cL_law 446 = .ok (.iadd, 1) := by decide +kernel
theorem dL_law_447 : decode cL_law 447 = .ok (.iaload, 1) := by decide +kernel
theorem dL_law_448 : decode cL_law 448 = .ok (.aload_n 0, 1) := by decide +kernel
theorem dL_law_449 : decode cL_law 449 = .ok (.iload_n 3, 1) := by decide +kernel
theorem dL_law_450 : decode cL_law 450 = .ok (.iconst 2, 1) := by decide +kernel
theorem dL_law_451 : decode cL_law 451 = .ok (.iadd, 1) := by decide +kernel
theorem dL_law_452 : decode cL_law 452 = .ok (.iaload, 1) := by decide +kernel
theorem dL_law_453 : decode cL_law 453 = .ok (.invokevirtual 60, 3) := by decide +kernel
theorem dL_law_456 : decode cL_law 456 = .ok (.if_icmp .eq 347, 3) := by decide +kernel
theorem dL_law_459 : decode cL_law 459 = .ok (.iconst 0, 1) := by decide +kernel
theorem dL_law_460 : decode cL_law 460 = .ok (.ireturn, 1) := by decide +kernel
theorem dL_law_461 : decode cL_law 461 = .ok (.aload_n 1, 1) := by decide +kernel
theorem dL_law_462 : decode cL_law 462 = .ok (.aload_n 0, 1) := by decide +kernel
theorem dL_law_463 : decode cL_law 463 = .ok (.iload_n 3, 1) := by decide +kernel
theorem dL_law_464 : decode cL_law 464 = .ok (.iconst 1, 1) := by decide +kernel
theorem dL_law_465 : decode cL_law 465 = .ok (.iadd, 1) := by decide +kernel
theorem dL_law_466 : decode cL_law 466 = .ok (.iaload, 1) := by decide +kernel
theorem dL_law_467 : decode cL_law 467 = .ok (.aload_n 0, 1) := by decide +kernel
theorem dL_law_468 : decode cL_law 468 = .ok (.iload_n 3, 1) := by decide +kernel
theorem dL_law_469 : decode cL_law 469 = .ok (.iconst 2, 1) := by decide +kernel
theorem dL_law_470 : decode cL_law 470 = .ok (.iadd, 1) := by decide +kernel
theorem dL_law_471 : decode cL_law 471 = .ok (.iaload, 1) := by decide +kernel
theorem dL_law_472 : decode cL_law 472 = .ok (.invokevirtual 61, 3) := by decide +kernel
theorem dL_law_475 : decode cL_law 475 = .ok (.aload_n 2, 1) := by decide +kernel
theorem dL_law_476 : decode cL_law 476 = .ok (.aload_n 0, 1) := by decide +kernel
theorem dL_law_477 : decode cL_law 477 = .ok (.iload_n 3, 1) := by decide +kernel
theorem dL_law_478 : decode cL_law 478 = .ok (.iconst 1, 1) := by decide +kernel
theorem dL_law_479 : decode cL_law 479 = .ok (.iadd, 1) := by decide +kernel
theorem dL_law_480 : decode cL_law 480 = .ok (.iaload, 1) := by decide +kernel
theorem dL_law_481 : decode cL_law 481 = .ok (.aload_n 0, 1) := by decide +kernel
theorem dL_law_482 : decode cL_law 482 = .ok (.iload_n 3, 1) := by decide +kernel
theorem dL_law_483 : decode cL_law 483 = .ok (.iconst 2, 1) := by decide +kernel
theorem dL_law_484 : decode cL_law 484 = .ok (.iadd, 1) := by decide +kernel
theorem dL_law_485 : decode cL_law 485 = .ok (.iaload, 1) := by decide +kernel
theorem dL_law_486 : decode cL_law 486 = .ok (.invokevirtual 64, 3) := by decide +kernel
theorem dL_law_489 : decode cL_law 489 = .ok (.if_icmp .eq 314, 3) := by decide +kernel
theorem dL_law_492 : decode cL_law 492 = .ok (.iconst 0, 1) := by decide +kernel
theorem dL_law_493 : decode cL_law 493 = .ok (.ireturn, 1) := by decide +kernel
theorem dL_law_494 : decode cL_law 494 = .ok (.aload_n 1, 1) := by decide +kernel
theorem dL_law_495 : decode cL_law 495 = .ok (.aload_n 0, 1) := by decide +kernel
theorem dL_law_496 : decode cL_law 496 = .ok (.iload_n 3, 1) := by decide +kernel
theorem dL_law_497 : decode cL_law 497 = .ok (.iconst 1, 1) := by decide +kernel
theorem dL_law_498 : decode cL_law 498 = .ok (.iadd, 1) := by decide +kernel
theorem dL_law_499 : decode cL_law 499 = .ok (.iaload, 1) := by decide +kernel
theorem dL_law_500 : decode cL_law 500 = .ok (.aload_n 0, 1) := by decide +kernel
theorem dL_law_501 : decode cL_law 501 = .ok (.iload_n 3, 1) := by decide +kernel
theorem dL_law_502 : decode cL_law 502 = .ok (.iconst 2, 1) := by decide +kernel
theorem dL_law_503 : decode cL_law 503 = .ok (.iadd, 1) := by decide +kernel
theorem dL_law_504 : decode cL_law 504 = .ok (.iaload, 1) := by decide +kernel
theorem dL_law_505 : decode cL_law 505 = .ok (.invokevirtual 65, 3) := by decide +kernel
theorem dL_law_508 : decode cL_law 508 = .ok (.aload_n 2, 1) := by decide +kernel
theorem dL_law_509 : decode cL_law 509 = .ok (.aload_n 0, 1) := by decide +kernel
theorem dL_law_510 : decode cL_law 510 = .ok (.iload_n 3, 1) := by decide +kernel
theorem dL_law_511 : decode cL_law 511 = .ok (.iconst 1, 1) := by decide +kernel
theorem dL_law_512 : decode cL_law 512 = .ok (.iadd, 1) := by decide +kernel
theorem dL_law_513 : decode cL_law 513 = .ok (.iaload, 1) := by decide +kernel
theorem dL_law_514 : decode cL_law 514 = .ok (.aload_n 0, 1) := by decide +kernel
theorem dL_law_515 : decode cL_law 515 = .ok (.iload_n 3, 1) := by decide +kernel
theorem dL_law_516 : decode cL_law 516 = .ok (.iconst 2, 1) := by decide +kernel
theorem dL_law_517 : decode cL_law 517 = .ok (.iadd, 1) := by decide +kernel
theorem dL_law_518 : decode cL_law 518 = .ok (.iaload, 1) := by decide +kernel
theorem dL_law_519 : decode cL_law 519 = .ok (.invokevirtual 68, 3) := by decide +kernel
theorem dL_law_522 : decode cL_law 522 = .ok (.if_icmp .eq 281, 3) := by decide +kernel
theorem dL_law_525 : decode cL_law 525 = .ok (.iconst 0, 1) := by decide +kernel
theorem dL_law_526 : decode cL_law 526 = .ok (.ireturn, 1) := by decide +kernel
theorem dL_law_527 : decode cL_law 527 = .ok (.aload_n 1, 1) := by decide +kernel
theorem dL_law_528 : decode cL_law 528 = .ok (.aload_n 0, 1) := by decide +kernel
theorem dL_law_529 : decode cL_law 529 = .ok (.iload_n 3, 1) := by decide +kernel
theorem dL_law_530 : decode cL_law 530 = .ok (.iconst 1, 1) := by decide +kernel
theorem dL_law_531 : decode cL_law 531 = .ok (.iadd, 1) := by decide +kernel
theorem dL_law_532 : decode cL_law 532 = .ok (.iaload, 1) := by decide +kernel
theorem dL_law_533 : decode cL_law 533 = .ok (.invokevirtual 69, 3) := by decide +kernel
theorem dL_law_536 : decode cL_law 536 = .ok (.aload_n 2, 1) := by decide +kernel
theorem dL_law_537 : decode cL_law 537 = .ok (.aload_n 0, 1) := by decide +kernel
theorem dL_law_538 : decode cL_law 538 = .ok (.iload_n 3, 1) := by decide +kernel
theorem dL_law_539 : decode cL_law 539 = .ok (.iconst 1, 1) := by decide +kernel
theorem dL_law_540 : decode cL_law 540 = .ok (.iadd, 1) := by decide +kernel
theorem dL_law_541 : decode cL_law 541 = .ok (.iaload, 1) := by decide +kernel
theorem dL_law_542 : decode cL_law 542 = .ok (.invokevirtual 72, 3) := by decide +kernel
theorem dL_law_545 : decode cL_law 545 = .ok (.if_icmp .eq 258, 3) := by decide +kernel
theorem dL_law_548 : decode cL_law 548 = .ok (.iconst 0, 1) := by decide +kernel
theorem dL_law_549 : decode cL_law 549 = .ok (.ireturn, 1) := by decide +kernel
theorem dL_law_550 : decode cL_law 550 = .ok (.aload_n 1, 1) := by decide +kernel
theorem dL_law_551 : decode cL_law 551 = .ok (.aload_n 0, 1) := by decide +kernel
theorem dL_law_552 : decode cL_law 552 = .ok (.iload_n 3, 1) := by decide +kernel
theorem dL_law_553 : decode cL_law 553 = .ok (.iconst 1, 1) := by decide +kernel
theorem dL_law_554 : decode cL_law 554 = .ok (.iadd, 1) := by decide +kernel
theorem dL_law_555 : decode cL_law 555 = .ok (.iaload, 1) := by decide +kernel
theorem dL_law_556 : decode cL_law 556 = .ok (.aload_n 0, 1) := by decide +kernel
theorem dL_law_557 : decode cL_law 557 = .ok (.iload_n 3, 1) := by decide +kernel
theorem dL_law_558 : decode cL_law 558 = .ok (.iconst 2, 1) := by decide +kernel
theorem dL_law_559 : decode cL_law 559 = .ok (.iadd, 1) := by decide +kernel
theorem dL_law_560 : decode cL_law 560 = .ok (.iaload, 1) := by decide +kernel
theorem dL_law_561 : decode cL_law 561 = .ok (.aload_n 0, 1) := by decide +kernel
theorem dL_law_562 : decode cL_law 562 = .ok (.iload_n 3, 1) := by decide +kernel
theorem dL_law_563 : decode cL_law 563 = .ok (.iconst 3, 1) := by decide +kernel
theorem dL_law_564 : decode cL_law 564 = .ok (.iadd, 1) := by decide +kernel
theorem dL_law_565 : decode cL_law 565 = .ok (.iaload, 1) := by decide +kernel
theorem dL_law_566 : decode cL_law 566 = .ok (.invokevirtual 73, 3) := by decide +kernel
theorem dL_law_569 : decode cL_law 569 = .ok (.aload_n 2, 1) := by decide +kernel
theorem dL_law_570 : decode cL_law 570 = .ok (.aload_n 0, 1) := by decide +kernel
theorem dL_law_571 : decode cL_law 571 = .ok (.iload_n 3, 1) := by decide +kernel
theorem dL_law_572 : decode cL_law 572 = .ok (.iconst 1, 1) := by decide +kernel
theorem dL_law_573 : decode cL_law 573 = .ok (.iadd, 1) := by decide +kernel
theorem dL_law_574 : decode cL_law 574 = .ok (.iaload, 1) := by decide +kernel
theorem dL_law_575 : decode cL_law 575 = .ok (.aload_n 0, 1) := by decide +kernel
theorem dL_law_576 : decode cL_law 576 = .ok (.iload_n 3, 1) := by decide +kernel
theorem dL_law_577 : decode cL_law 577 = .ok (.iconst 2, 1) := by decide +kernel
theorem dL_law_578 : decode cL_law 578 = .ok (.iadd, 1) := by decide +kernel
theorem dL_law_579 : decode cL_law 579 = .ok (.iaload, 1) := by decide +kernel
theorem dL_law_580 : decode cL_law 580 = .ok (.aload_n 0, 1) := by decide +kernel
theorem dL_law_581 : decode cL_law 581 = .ok (.iload_n 3, 1) := by decide +kernel
theorem dL_law_582 : decode cL_law 582 = .ok (.iconst 3, 1) := by decide +kernel
theorem dL_law_583 : decode cL_law 583 = .ok (.iadd, 1) := by decide +kernel
theorem dL_law_584 : decode cL_law 584 = .ok (.iaload, 1) := by decide +kernel
theorem dL_law_585 : decode cL_law 585 = .ok (.invokevirtual 76, 3) := by decide +kernel
theorem dL_law_588 : decode cL_law 588 = .ok (.if_icmp .eq 215, 3) := by decide +kernel
theorem dL_law_591 : decode cL_law 591 = .ok (.iconst 0, 1) := by decide +kernel
theorem dL_law_592 : decode cL_law 592 = .ok (.ireturn, 1) := by decide +kernel
theorem dL_law_593 : decode cL_law 593 = .ok (.aload_n 1, 1) := by decide +kernel
theorem dL_law_594 : decode cL_law 594 = .ok (.aload_n 0, 1) := by decide +kernel
theorem dL_law_595 : decode cL_law 595 = .ok (.iload_n 3, 1) := by decide +kernel
theorem dL_law_596 : decode cL_law 596 = .ok (.iconst 1, 1) := by decide +kernel
theorem dL_law_597 : decode cL_law 597 = .ok (.iadd, 1) := by decide +kernel
theorem dL_law_598 : decode cL_law 598 = .ok (.iaload, 1) := by decide +kernel
theorem dL_law_599 : decode cL_law 599 = .ok (.invokevirtual 77, 3) := by decide +kernel
theorem dL_law_602 : decode cL_law 602 = .ok (.aload_n 2, 1) := by decide +kernel
theorem dL_law_603 : decode cL_law 603 = .ok (.aload_n 0, 1) := by decide +kernel
theorem dL_law_604 : decode cL_law 604 = .ok (.iload_n 3, 1) := by decide +kernel
theorem dL_law_605 : decode cL_law 605 = .ok (.iconst 1, 1) := by decide +kernel
theorem dL_law_606 : decode cL_law 606 = .ok (.iadd, 1) := by decide +kernel
theorem dL_law_607 : decode cL_law 607 = .ok (.iaload, 1) := by decide +kernel
theorem dL_law_608 : decode cL_law 608 = .ok (.invokevirtual 80, 3) := by decide +kernel
theorem dL_law_611 : decode cL_law 611 = .ok (.if_icmp .eq 192, 3) := by decide +kernel
theorem dL_law_614 : decode cL_law 614 = .ok (.iconst 0, 1) := by decide +kernel
theorem dL_law_615 : decode cL_law 615 = .ok (.ireturn, 1) := by decide +kernel
theorem dL_law_616 : decode cL_law 616 = .ok (.aload_n 1, 1) := by decide +kernel
theorem dL_law_617 : decode cL_law 617 = .ok (.aload_n 0, 1) := by decide +kernel
theorem dL_law_618 : decode cL_law 618 = .ok (.iload_n 3, 1) := by decide +kernel
theorem dL_law_619 : decode cL_law 619 = .ok (.iconst 1, 1) := by decide +kernel
theorem dL_law_620 : decode cL_law 620 = .ok (.iadd, 1) := by decide +kernel
theorem dL_law_621 : decode cL_law 621 = .ok (.iaload, 1) := by decide +kernel
theorem dL_law_622 : decode cL_law 622 = .ok (.invokevirtual 81, 3) := by decide +kernel
theorem dL_law_625 : decode cL_law 625 = .ok (.aload_n 2, 1) := by decide +kernel
theorem dL_law_626 : decode cL_law 626 = .ok (.aload_n 0, 1) := by decide +kernel
theorem dL_law_627 : decode cL_law 627 = .ok (.iload_n 3, 1) := by decide +kernel
theorem dL_law_628 : decode cL_law 628 = .ok (.iconst 1, 1) := by decide +kernel
theorem dL_law_629 : decode cL_law 629 = .ok (.iadd, 1) := by decide +kernel
theorem dL_law_630 : decode cL_law 630 = .ok (.iaload, 1) := by decide +kernel
theorem dL_law_631 : decode cL_law 631 = .ok (.invokevirtual 84, 3) := by decide +kernel
theorem dL_law_634 : decode cL_law 634 = .ok (.if_icmp .eq 169, 3) := by decide +kernel
theorem dL_law_637 : decode cL_law 637 = .ok (.iconst 0, 1) := by decide +kernel
theorem dL_law_638 : decode cL_law 638 = .ok (.ireturn, 1) := by decide +kernel
theorem dL_law_639 : decode cL_law 639 = .ok (.aload_n 1, 1) := by decide +kernel
theorem dL_law_640 : decode cL_law 640 = .ok (.invokevirtual 85, 3) := by decide +kernel
theorem dL_law_643 : decode cL_law 643 = .ok (.aload_n 2, 1) := by decide +kernel
theorem dL_law_644 : decode cL_law 644 = .ok (.invokevirtual 88, 3) := by decide +kernel
theorem dL_law_647 : decode cL_law 647 = .ok (.if_icmp .eq 156, 3) := by decide +kernel
theorem dL_law_650 : decode cL_law 650 = .ok (.iconst 0, 1) := by decide +kernel
theorem dL_law_651 : decode cL_law 651 = .ok (.ireturn, 1) := by decide +kernel
theorem dL_law_652 : decode cL_law 652 = .ok (.aload_n 1, 1) := by decide +kernel
theorem dL_law_653 : decode cL_law 653 = .ok (.aload_n 0, 1) := by decide +kernel
theorem dL_law_654 : decode cL_law 654 = .ok (.iload_n 3, 1) := by decide +kernel
theorem dL_law_655 : decode cL_law 655 = .ok (.iconst 1, 1) := by decide +kernel
theorem dL_law_656 : decode cL_law 656 = .ok (.iadd, 1) := by decide +kernel
theorem dL_law_657 : decode cL_law 657 = .ok (.iaload, 1) := by decide +kernel
theorem dL_law_658 : decode cL_law 658 = .ok (.i2l, 1) := by decide +kernel
theorem dL_law_659 : decode cL_law 659 = .ok (.bipush 32, 2) := by decide +kernel
theorem dL_law_661 : decode cL_law 661 = .ok (.lshl, 1) := by decide +kernel
theorem dL_law_662 : decode cL_law 662 = .ok (.aload_n 0, 1) := by decide +kernel
theorem dL_law_663 : decode cL_law 663 = .ok (.iload_n 3, 1) := by decide +kernel
theorem dL_law_664 : decode cL_law 664 = .ok (.iconst 2, 1) := by decide +kernel
theorem dL_law_665 : decode cL_law 665 = .ok (.iadd, 1) := by decide +kernel
theorem dL_law_666 : decode cL_law 666 = .ok (.iaload, 1) := by decide +kernel
theorem dL_law_667 : decode cL_law 667 = .ok (.i2l, 1) := by decide +kernel
theorem dL_law_668 : decode cL_law 668 = .ok (.ldc2_w 89, 3) := by decide +kernel
theorem dL_law_671 : decode cL_law 671 = .ok (.land, 1) := by decide +kernel
theorem dL_law_672 : decode cL_law 672 = .ok (.lor, 1) := by decide +kernel
theorem dL_law_673 : decode cL_law 673 = .ok (.invokevirtual 91, 3) := by decide +kernel
theorem dL_law_676 : decode cL_law 676 = .ok (.aload_n 2, 1) := by decide +kernel
theorem dL_law_677 : decode cL_law 677 = .ok (.aload_n 0, 1) := by decide +kernel
theorem dL_law_678 : decode cL_law 678 = .ok (.iload_n 3, 1) := by decide +kernel
theorem dL_law_679 : decode cL_law 679 = .ok (.iconst 1, 1) := by decide +kernel
theorem dL_law_680 : decode cL_law 680 = .ok (.iadd, 1) := by decide +kernel
theorem dL_law_681 : decode cL_law 681 = .ok (.iaload, 1) := by decide +kernel
theorem dL_law_682 : decode cL_law 682 = .ok (.i2l, 1) := by decide +kernel
theorem dL_law_683 : decode cL_law 683 = .ok (.bipush 32, 2) := by decide +kernel
theorem dL_law_685 : decode cL_law 685 = .ok (.lshl, 1) := by decide +kernel
theorem dL_law_686 : decode cL_law 686 = .ok (.aload_n 0, 1) := by decide +kernel
theorem dL_law_687 : decode cL_law 687 = .ok (.iload_n 3, 1) := by decide +kernel
theorem dL_law_688 : decode cL_law 688 = .ok (.iconst 2, 1) := by decide +kernel
theorem dL_law_689 : decode cL_law 689 = .ok (.iadd, 1) := by decide +kernel
theorem dL_law_690 : decode cL_law 690 = .ok (.iaload, 1) := by decide +kernel
theorem dL_law_691 : decode cL_law 691 = .ok (.i2l, 1) := by decide +kernel
theorem dL_law_692 : decode cL_law 692 = .ok (.ldc2_w 89, 3) := by decide +kernel
theorem dL_law_695 : decode cL_law 695 = .ok (.land, 1) := by decide +kernel
theorem dL_law_696 : decode cL_law 696 = .ok (.lor, 1) := by decide +kernel
theorem dL_law_697 : decode cL_law 697 = .ok (.invokevirtual 95, 3) := by decide +kernel
theorem dL_law_700 : decode cL_law 700 = .ok (.if_icmp .eq 103, 3) := by decide +kernel
theorem dL_law_703 : decode cL_law 703 = .ok (.iconst 0, 1) := by decide +kernel
theorem dL_law_704 : decode cL_law 704 = .ok (.ireturn, 1) := by decide +kernel
theorem dL_law_705 : decode cL_law 705 = .ok (.aload_n 1, 1) := by decide +kernel
theorem dL_law_706 : decode cL_law 706 = .ok (.invokevirtual 96, 3) := by decide +kernel
theorem dL_law_709 : decode cL_law 709 = .ok (.aload_n 2, 1) := by decide +kernel
theorem dL_law_710 : decode cL_law 710 = .ok (.invokevirtual 99, 3) := by decide +kernel
theorem dL_law_713 : decode cL_law 713 = .ok (.if_icmp .eq 90, 3) := by decide +kernel
theorem dL_law_716 : decode cL_law 716 = .ok (.iconst 0, 1) := by decide +kernel
theorem dL_law_717 : decode cL_law 717 = .ok (.ireturn, 1) := by decide +kernel
theorem dL_law_718 : decode cL_law 718 = .ok (.aload_n 1, 1) := by decide +kernel
theorem dL_law_719 : decode cL_law 719 = .ok (.invokevirtual 100, 3) := by decide +kernel
theorem dL_law_722 : decode cL_law 722 = .ok (.aload_n 2, 1) := by decide +kernel
theorem dL_law_723 : decode cL_law 723 = .ok (.invokevirtual 103, 3) := by decide +kernel
theorem dL_law_726 : decode cL_law 726 = .ok (.if_icmp .eq 77, 3) := by decide +kernel
theorem dL_law_729 : decode cL_law 729 = .ok (.iconst 0, 1) := by decide +kernel
theorem dL_law_730 : decode cL_law 730 = .ok (.ireturn, 1) := by decide +kernel
theorem dL_law_731 : decode cL_law 731 = .ok (.aload_n 1, 1) := by decide +kernel
theorem dL_law_732 : decode cL_law 732 = .ok (.invokevirtual 104, 3) := by decide +kernel
theorem dL_law_735 : decode cL_law 735 = .ok (.aload_n 2, 1) := by decide +kernel
theorem dL_law_736 : decode cL_law 736 = .ok (.invokevirtual 107, 3) := by decide +kernel
theorem dL_law_739 : decode cL_law 739 = .ok (.if_icmp .eq 64, 3) := by decide +kernel
theorem dL_law_742 : decode cL_law 742 = .ok (.iconst 0, 1) := by decide +kernel
theorem dL_law_743 : decode cL_law 743 = .ok (.ireturn, 1) := by decide +kernel
theorem dL_law_744 : decode cL_law 744 = .ok (.aload_n 1, 1) := by decide +kernel
theorem dL_law_745 : decode cL_law 745 = .ok (.invokevirtual 108, 3) := by decide +kernel
theorem dL_law_748 : decode cL_law 748 = .ok (.aload_n 2, 1) := by decide +kernel
theorem dL_law_749 : decode cL_law 749 = .ok (.invokevirtual 111, 3) := by decide +kernel
theorem dL_law_752 : decode cL_law 752 = .ok (.if_icmp .eq 51, 3) := by decide +kernel
theorem dL_law_755 : decode cL_law 755 = .ok (.iconst 0, 1) := by decide +kernel
theorem dL_law_756 : decode cL_law 756 = .ok (.ireturn, 1) := by decide +kernel
theorem dL_law_757 : decode cL_law 757 = .ok (.aload_n 1, 1) := by decide +kernel
theorem dL_law_758 : decode cL_law 758 = .ok (.aload_n 0, 1) := by decide +kernel
theorem dL_law_759 : decode cL_law 759 = .ok (.iload_n 3, 1) := by decide +kernel
theorem dL_law_760 : decode cL_law 760 = .ok (.iconst 1, 1) := by decide +kernel
theorem dL_law_761 : decode cL_law 761 = .ok (.iadd, 1) := by decide +kernel
theorem dL_law_762 : decode cL_law 762 = .ok (.iaload, 1) := by decide +kernel
theorem dL_law_763 : decode cL_law 763 = .ok (.invokevirtual 112, 3) := by decide +kernel
theorem dL_law_766 : decode cL_law 766 = .ok (.aload_n 2, 1) := by decide +kernel
theorem dL_law_767 : decode cL_law 767 = .ok (.aload_n 0, 1) := by decide +kernel
theorem dL_law_768 : decode cL_law 768 = .ok (.iload_n 3, 1) := by decide +kernel
theorem dL_law_769 : decode cL_law 769 = .ok (.iconst 1, 1) := by decide +kernel
theorem dL_law_770 : decode cL_law 770 = .ok (.iadd, 1) := by decide +kernel
theorem dL_law_771 : decode cL_law 771 = .ok (.iaload, 1) := by decide +kernel
theorem dL_law_772 : decode cL_law 772 = .ok (.invokevirtual 115, 3) := by decide +kernel
theorem dL_law_775 : decode cL_law 775 = .ok (.if_icmp .eq 28, 3) := by decide +kernel
theorem dL_law_778 : decode cL_law 778 = .ok (.iconst 0, 1) := by decide +kernel
theorem dL_law_779 : decode cL_law 779 = .ok (.ireturn, 1) := by decide +kernel
theorem dL_law_780 : decode cL_law 780 = .ok (.aload_n 1, 1) := by decide +kernel
theorem dL_law_781 : decode cL_law 781 = .ok (.aload_n 0, 1) := by decide +kernel
theorem dL_law_782 : decode cL_law 782 = .ok (.iload_n 3, 1) := by decide +kernel
theorem dL_law_783 : decode cL_law 783 = .ok (.iconst 1, 1) := by decide +kernel
theorem dL_law_784 : decode cL_law 784 = .ok (.iadd, 1) := by decide +kernel
theorem dL_law_785 : decode cL_law 785 = .ok (.iaload, 1) := by decide +kernel
theorem dL_law_786 : decode cL_law 786 = .ok (.invokevirtual 116, 3) := by decide +kernel
theorem dL_law_789 : decode cL_law 789 = .ok (.aload_n 2, 1) := by decide +kernel
theorem dL_law_790 : decode cL_law 790 = .ok (.aload_n 0, 1) := by decide +kernel
theorem dL_law_791 : decode cL_law 791 = .ok (.iload_n 3, 1) := by decide +kernel
theorem dL_law_792 : decode cL_law 792 = .ok (.iconst 1, 1) := by decide +kernel
theorem dL_law_793 : decode cL_law 793 = .ok (.iadd, 1) := by decide +kernel
theorem dL_law_794 : decode cL_law 794 = .ok (.iaload, 1) := by decide +kernel
theorem dL_law_795 : decode cL_law 795 = .ok (.invokevirtual 119, 3) := by decide +kernel
theorem dL_law_798 : decode cL_law 798 = .ok (.if_icmp .eq 5, 3) := by decide +kernel
theorem dL_law_801 : decode cL_law 801 = .ok (.iconst 0, 1) := by decide +kernel
theorem dL_law_802 : decode cL_law 802 = .ok (.ireturn, 1) := by decide +kernel
theorem dL_law_803 : decode cL_law 803 = .ok (.iinc 3 4, 3) := by decide +kernel
theorem dL_law_806 : decode cL_law 806 = .ok (.goto (-788), 3) := by decide +kernel
theorem dL_law_809 : decode cL_law 809 = .ok (.iconst 1, 1) := by decide +kernel
theorem dL_law_810 : decode cL_law 810 = .ok (.ireturn, 1) := by decide +kernel
end
section
/-! THE LAYER: a world whose objects stand at fixed places behind one base address; a memory mu (object, place -> number); a judgement za_At over it; one row an instruction. -/
abbrev zMem : Type := Nat → Nat → Int32
abbrev zG : Type := va_G × (Nat → ClassId) × Nat
def zW : List Cond := lw_tbl.filter goodWord
def z_up (μ : zMem) (q k : Nat) (x : Int32) : zMem := fun a => if a = q then upd (μ a) k x else μ a
/-- kinds of the objects: 0 to 8 the classes; 9 int[4], 10 Person[14], 11 Dish[3], 12 int[5], 13 Canteen[7], 14 Canteen[2], 15 boolean[2], 16 char[80], 17 int[276], 18 int[1656], 19 int[552], 20 int[164] -/
def z_ck (r : Nat) : Nat := if r = 0 then 0 else if r = 1 then 9 else if r = 2 then 10 else if r = 3 then 11 else if r < 46 then (if (r - 4) % 3 = 0 then 5 else 12) else (if (r - 46) % 2 = 0 then 1 else 12)
def z_kd (q : Nat) : Nat := if q = 0 then 7 else if q < 53 then z_ck (q - 1) else if q = 53 then 2 else if q = 54 then 13 else if q < 419 then z_ck ((q - 55) % 52) else if q = 419 then 6 else if q = 420 then 14 else if q = 421 then 15 else if q < 526 then z_ck ((q - 422) % 52) else if q = 526 then 4 else if q = 527 then 16 else if q = 528 then 3 else if q = 529 then 8 else if q = 530 then 17 else if q = 531 then 17 else if q = 532 then 18 else if q = 533 then 19 else if q = 534 then 15 else if q = 535 then 20 else 16
def z_is (q k : Nat) : Prop := q < 537 ∧ z_kd q = k
/-- the fields of an object of a kind, as values -/
def z_fs (b : Nat) (f : Nat → Int32) (ci q : Nat) : List Value := match ci with
  | 0 => [.ref (b + (q + 1)), .ref (b + (q + 2)), .ref (b + (q + 3)), .int (f 3), .int (f 4), .int (f 5)]
  | 1 => [.ref (b + (q + 1)), .int (f 1), .int (f 2), .int (f 3), .int (f 4), .int (f 5)]
  | 2 => [.ref (b + (q + 1)), .int (f 1), .int (f 2)]
  | 3 => [.ref (b + 526), .int (f 1), .int (f 2), .int (f 3), .int (f 4), .int (f 5), .int (f 6)]
  | 4 => [.ref (b + (q + 1)), .int (f 1)]
  | 5 => [.ref (b + (q + 1)), .ref (b + (q + 2)), .int (f 2), .int (f 3), .int (f 4), .int (f 5), .int (f 6), .int (f 7), .int (f 8)]
  | 6 => [.ref (b + (q + 1)), .ref (b + (q + 2))]
  | 7 => [.ref (b + 1), .ref (b + 53), .ref (b + 419), .ref (b + 526), .ref (b + 528)]
  | _ => [.ref (b + 530), .ref (b + 531), .ref (b + 532), .ref (b + 533), .ref (b + 534), .ref (b + 535), .ref (b + 536), .int (f 7), .int (f 8), .int (f 9), .int (f 10)]
/-- an array of numbers of a kind: its class's place, its length -/
def z_nu (k : Nat) : Option (Nat × Nat) := match k with
  | 9 => some (0, 4)
  | 12 => some (0, 5)
  | 15 => some (2, 2)
  | 16 => some (1, 80)
  | 17 => some (0, 276)
  | 18 => some (0, 1656)
  | 19 => some (0, 552)
  | 20 => some (0, 164)
  | _ => none
/-- an array of references of a kind: its class's place, its length, its first row's place behind it, the rows' distance -/
def z_re (k : Nat) : Option (Nat × Nat × Nat × Nat) := match k with
  | 10 => some (3, 14, 2, 3)
  | 11 => some (4, 3, 43, 2)
  | 13 => some (5, 7, 1, 52)
  | 14 => some (5, 2, 2, 52)
  | _ => none
def z_en (G : zG) (f : Nat → Int32) (q : Nat) : va_E := match z_nu (z_kd q) with
  | some (t, n) => .inl (G.2.1 t, n, .inl f)
  | none => match z_re (z_kd q) with
    | some (t, n, o, d) => .inl (G.2.1 t, n, .inr (.inr (.inr (.inr (fun i => some (G.2.2 + (q + o + d * i)))))))
    | none => .inr (z_kd q, z_fs G.2.2 f (z_kd q) q)
def zw (G : zG) (μ : zMem) : va_W := (List.range 537).map (fun q => (G.2.2 + q, z_en G (μ q) q))
def zys (G : zG) : List (ClassId × FieldType) := [(G.2.1 0, .int), (G.2.1 1, .char), (G.2.1 2, .boolean), (G.2.1 3, .object RX5), (G.2.1 4, .object RX1), (G.2.1 5, .object RX0)]
def zA (G : zG) : Nat → Prop := fun q => G.2.2 ≤ q
theorem zw_get (G : zG) (μ : zMem) {q : Nat} (h : q < 537) : (zw G μ)[q]? = some (G.2.2 + q, z_en G (μ q) q) := by
  unfold zw
  rw [List.getElem?_map, List.getElem?_range h]
  rfl
theorem zw_ix {G : zG} {μ : zMem} {k : Nat} {x : Nat × va_E} (h : (zw G μ)[k]? = some x) : k < 537 ∧ x = (G.2.2 + k, z_en G (μ k) k) := by
  unfold zw at h
  rw [List.getElem?_map] at h
  have hk : k < 537 := by
    cases h2 : (List.range 537)[k]? with
    | none => rw [h2] at h; cases h
    | some y =>
      have := (List.getElem?_eq_some_iff.mp h2).1
      rwa [List.length_range] at this
  rw [List.getElem?_range hk] at h
  exact ⟨hk, (Option.some.inj h).symm⟩
theorem zw_D (G : zG) (μ : zMem) : va_D (zA G) (zw G μ) := by
  refine ⟨fun i j p q hi hj e => ?_, fun k q hk => ?_⟩
  · obtain ⟨-, rfl⟩ := zw_ix hi
    obtain ⟨-, rfl⟩ := zw_ix hj
    exact Nat.add_left_cancel e
  · obtain ⟨-, rfl⟩ := zw_ix hk
    exact Nat.le_add_right _ _
theorem zw_set (G : zG) (μ : zMem) {q k : Nat} {x : Int32} {en : va_E} (h : q < 537) (he : z_en G (upd (μ q) k x) q = en) : (zw G μ).set q (G.2.2 + q, en) = zw G (z_up μ q k x) := by
  apply List.ext_getElem?
  intro i
  by_cases hi : i < 537
  · rw [List.getElem?_set, zw_get G (z_up μ q k x) hi, zw_get G μ hi]
    by_cases hq : q = i
    · subst hq
      have hl : q < (zw G μ).length := by unfold zw; rw [List.length_map, List.length_range]; exact h
      rw [if_pos rfl, if_pos hl, ← he]
      have e2 : z_up μ q k x q = upd (μ q) k x := if_pos rfl
      rw [e2]
    · rw [if_neg hq]
      have e2 : z_up μ q k x i = μ i := if_neg (fun e => hq e.symm)
      rw [e2]
  · have h1 : (zw G (z_up μ q k x)).length ≤ i := by unfold zw; rw [List.length_map, List.length_range]; omega
    have h2 : ((zw G μ).set q (G.2.2 + q, en)).length ≤ i := by rw [List.length_set]; unfold zw; rw [List.length_map, List.length_range]; omega
    rw [List.getElem?_eq_none h1, List.getElem?_eq_none h2]
theorem z_enc (G : zG) (f : Nat → Int32) {q ci : Nat} (h : z_is q ci) (hn : z_nu ci = none) (hr : z_re ci = none) : z_en G f q = .inr (ci, z_fs G.2.2 f ci q) := by
  unfold z_en
  rw [h.2, hn]
  dsimp only
  rw [hr]
theorem z_enn (G : zG) (f : Nat → Int32) {q k t n : Nat} (h : z_is q k) (hn : z_nu k = some (t, n)) : z_en G f q = .inl (G.2.1 t, n, .inl f) := by
  unfold z_en
  rw [h.2, hn]
theorem z_enr (G : zG) (f : Nat → Int32) {q k t n o d : Nat} (h : z_is q k) (hn : z_nu k = none) (hr : z_re k = some (t, n, o, d)) : z_en G f q = .inl (G.2.1 t, n, .inr (.inr (.inr (.inr (fun i => some (G.2.2 + (q + o + d * i))))))) := by
  unfold z_en
  rw [h.2, hn]
  dsimp only
  rw [hr]
/-! what a method may take as given of the machine's state, beside its words -/
def zIsN : Cond → Bool
  | .fieldLinkNest _ _ _ _ _ _ => true
  | .methodLinkNest _ _ _ _ => true
  | _ => false
def zNw : List Cond := lw_tbl.filter zIsN
def zSt (G : zG) (U : State) (n : String) (f : Nat → Int32) : Prop := ∃ a : Nat, va_Z "CanteenPlates" n "[I" (.ref a) (zA G) U U.heap ∧ va_T .int a 4 (fun j => .int (f j)) (zA G) U U.heap
def zLo : Nat → Int32 := fun k => if k = 0 then 0 else if k = 1 then 0 else if k = 2 then 1 else 1
def zHi : Nat → Int32 := fun k => if k = 0 then 9 else if k = 1 then 20 else if k = 2 then 9 else 20
def zK (G : zG) (U : State) : Prop := va_K G.1 vwCl (zys G) U ∧ (∀ w ∈ zNw, va_Nw w U) ∧ zSt G U "LOWEST_VALUE" zLo ∧ zSt G U "HIGHEST_VALUE" zHi
end
section
/-! THE JUDGEMENT and its rows -/
def za_At (p : Program) (l : Launch) (e : Env) (R : Room) (s : State) (m : MethodId) (args : Array Value) (below : List Frame) (meth : Method) (c : Code) (Q : State → Prop) (G : zG) (nL kc ks : Nat) (pc : Nat) (lv : List (Nat × Value)) (st : List Value) (μ : zMem) : Prop :=
  ∀ (H : Heap) (locs : List Loc) (ls : Array Slot), va_P G.1 vwCl (zw G μ) H → va_S (zA G) s.heap H locs → lv_has ls nL lv → W p l e R s m args below meth c H locs kc ks Q (F0 m pc ls st)
def za_Ok (R : Room) (kc ks : Nat) (p : Program) (s : State) (m : MethodId) (args : Array Value) (meth : Method) (c : Code) (G : zG) (own : String) (cc : ByteArray) (nL : Nat) (ret : Option FieldType) : Prop :=
  p.tables.exec = Jvm.exec ∧ c.code = cc ∧ meth.sig.returnType = ret ∧ c.maxLocals = nL ∧ s.vm.findClass own = some m.cls ∧ (∀ w ∈ zW, w.before args s = true) ∧ zK G s ∧ meth.locks = false ∧ kc ≤ R.cells ∧ ks ≤ R.slots
abbrev zCls (ci : Nat) (C : String) (T : u_T) (N : Nat) (ty0 : Nat → FieldType) : Prop := vwCl[ci]? = some (C, T, N) ∧ (∀ w ∈ u_ws C T N, w ∈ zW) ∧ (∀ k, k < N → parseFieldDescriptor (T k).2.2.1 = some (ty0 k)) ∧ (∀ a, a < N → ∀ b, b < N → a ≠ b → (T a).2.1 ≠ (T b).2.1) ∧ z_nu ci = none ∧ z_re ci = none
section ZA
variable {p : Program} {l : Launch} {e : Env} {R : Room} {s : State} {m : MethodId} {args : Array Value} {below : List Frame} {meth : Method} {c : Code} {Q : State → Prop} {G : zG} {nL kc ks : Nat} {own : String} {cc : ByteArray} {ret : Option FieldType} {pc : Nat} {lv : List (Nat × Value)} {st : List Value} {μ : zMem}
theorem za_aload_n (o : za_Ok R kc ks p s m args meth c G own cc nL ret) {k : Fin 4} {i x : Nat} (j : Nat) (d : decode cc pc = .ok (.aload_n k, 1)) (hi : (k : Nat) = i) (hj : lv[j]? = some (i, .ref x))
    (h : za_At p l e R s m args below meth c Q G nL kc ks (pc + 1) lv (.ref x :: st) μ) : za_At p l e R s m args below meth c Q G nL kc ks pc lv st μ :=
  fun H L ls hP hS hl => lv_aload_n o.1 o.2.1 d hi (lv_at hl j hj) (h H L ls hP hS hl)
theorem za_aload (o : za_Ok R kc ks p s m args meth c G own cc nL ret) {i x : Nat} (j : Nat) (d : decode cc pc = .ok (.aload i, 2)) (hj : lv[j]? = some (i, .ref x))
    (h : za_At p l e R s m args below meth c Q G nL kc ks (pc + 2) lv (.ref x :: st) μ) : za_At p l e R s m args below meth c Q G nL kc ks pc lv st μ :=
  fun H L ls hP hS hl => lv_aload o.1 o.2.1 d (lv_at hl j hj) (h H L ls hP hS hl)
theorem za_iload_n (o : za_Ok R kc ks p s m args meth c G own cc nL ret) {k : Fin 4} {i : Nat} {x : Int32} (j : Nat) (d : decode cc pc = .ok (.iload_n k, 1)) (hi : (k : Nat) = i) (hj : lv[j]? = some (i, .int x))
    (h : za_At p l e R s m args below meth c Q G nL kc ks (pc + 1) lv (.int x :: st) μ) : za_At p l e R s m args below meth c Q G nL kc ks pc lv st μ :=
  fun H L ls hP hS hl => lv_iload_n o.1 o.2.1 d hi (lv_at hl j hj) (h H L ls hP hS hl)
theorem za_iload (o : za_Ok R kc ks p s m args meth c G own cc nL ret) {i : Nat} {x : Int32} (j : Nat) (d : decode cc pc = .ok (.iload i, 2)) (hj : lv[j]? = some (i, .int x))
    (h : za_At p l e R s m args below meth c Q G nL kc ks (pc + 2) lv (.int x :: st) μ) : za_At p l e R s m args below meth c Q G nL kc ks pc lv st μ :=
  fun H L ls hP hS hl => lv_iload o.1 o.2.1 d (lv_at hl j hj) (h H L ls hP hS hl)
theorem za_lload_n (o : za_Ok R kc ks p s m args meth c G own cc nL ret) {k : Fin 4} {i : Nat} {x : Int64} (j : Nat) (d : decode cc pc = .ok (.lload_n k, 1)) (hi : (k : Nat) = i) (hj : lv[j]? = some (i, .long x))
    (h : za_At p l e R s m args below meth c Q G nL kc ks (pc + 1) lv (.long x :: st) μ) : za_At p l e R s m args below meth c Q G nL kc ks pc lv st μ :=
  fun H L ls hP hS hl => lv_lload_n o.1 o.2.1 d hi (lv_at hl j hj) (h H L ls hP hS hl)
theorem za_lload (o : za_Ok R kc ks p s m args meth c G own cc nL ret) {i : Nat} {x : Int64} (j : Nat) (d : decode cc pc = .ok (.lload i, 2)) (hj : lv[j]? = some (i, .long x))
    (h : za_At p l e R s m args below meth c Q G nL kc ks (pc + 2) lv (.long x :: st) μ) : za_At p l e R s m args below meth c Q G nL kc ks pc lv st μ :=
  fun H L ls hP hS hl => lv_lload o.1 o.2.1 d (lv_at hl j hj) (h H L ls hP hS hl)
theorem za_iconst (o : za_Ok R kc ks p s m args meth c G own cc nL ret) {n : Int} {v : Int32} (d : decode cc pc = .ok (.iconst n, 1)) (hv : Int32.ofInt n = v)
    (h : za_At p l e R s m args below meth c Q G nL kc ks (pc + 1) lv (.int v :: st) μ) : za_At p l e R s m args below meth c Q G nL kc ks pc lv st μ :=
  fun H L ls hP hS hl => lv_iconst o.1 o.2.1 d hv (h H L ls hP hS hl)
theorem za_bipush (o : za_Ok R kc ks p s m args meth c G own cc nL ret) {n : Int} {v : Int32} (d : decode cc pc = .ok (.bipush n, 2)) (hv : (Int8.ofInt n).toInt32 = v)
    (h : za_At p l e R s m args below meth c Q G nL kc ks (pc + 2) lv (.int v :: st) μ) : za_At p l e R s m args below meth c Q G nL kc ks pc lv st μ :=
  fun H L ls hP hS hl => lv_bipush o.1 o.2.1 d hv (h H L ls hP hS hl)
theorem za_sipush (o : za_Ok R kc ks p s m args meth c G own cc nL ret) {n : Int} {v : Int32} (d : decode cc pc = .ok (.sipush n, 3)) (hv : (Int16.ofInt n).toInt32 = v)
    (h : za_At p l e R s m args below meth c Q G nL kc ks (pc + 3) lv (.int v :: st) μ) : za_At p l e R s m args below meth c Q G nL kc ks pc lv st μ :=
  fun H L ls hP hS hl => lv_sipush o.1 o.2.1 d hv (h H L ls hP hS hl)
theorem za_lconst (o : za_Ok R kc ks p s m args meth c G own cc nL ret) {n : Fin 2} {v : Int64} (d : decode cc pc = .ok (.lconst n, 1)) (hv : Int64.ofNat (n : Nat) = v)
    (h : za_At p l e R s m args below meth c Q G nL kc ks (pc + 1) lv (.long v :: st) μ) : za_At p l e R s m args below meth c Q G nL kc ks pc lv st μ :=
  fun H L ls hP hS hl => lv_lconst o.1 o.2.1 d hv (h H L ls hP hS hl)
theorem za_ldc (o : za_Ok R kc ks p s m args meth c G own cc nL ret) {i : Nat} {v : Int32} (hw : Jvm.Cond.constant own i v ∈ zW) (d : decode cc pc = .ok (.ldc i, 2))
    (h : za_At p l e R s m args below meth c Q G nL kc ks (pc + 2) lv (.int v :: st) μ) : za_At p l e R s m args below meth c Q G nL kc ks pc lv st μ :=
  fun H L ls hP hS hl => lv_ldc o.1 o.2.1 o.2.2.2.2.1 (o.2.2.2.2.2.1 _ hw) d (h H L ls hP hS hl)
theorem za_ldc2 (o : za_Ok R kc ks p s m args meth c G own cc nL ret) {i : Nat} {v : Int64} (hw : Jvm.Cond.constantLong own i v ∈ zW) (d : decode cc pc = .ok (.ldc2_w i, 3))
    (h : za_At p l e R s m args below meth c Q G nL kc ks (pc + 3) lv (.long v :: st) μ) : za_At p l e R s m args below meth c Q G nL kc ks pc lv st μ :=
  fun H L ls hP hS hl => lv_ldc2 o.1 o.2.1 o.2.2.2.2.1 (o.2.2.2.2.2.1 _ hw) d (h H L ls hP hS hl)
theorem za_istore (o : za_Ok R kc ks p s m args meth c G own cc nL ret) {i : Nat} {x : Int32} (lv' : List (Nat × Value)) (d : decode cc pc = .ok (.istore i, 2)) (hn : i < nL) (he : (i, Value.int x) :: lv.filter (fun q => !(q.1 == i) && !(q.1 + 1 == i && q.2.category == 2)) = lv')
    (h : za_At p l e R s m args below meth c Q G nL kc ks (pc + 2) lv' st μ) : za_At p l e R s m args below meth c Q G nL kc ks pc lv (.int x :: st) μ :=
  fun H L _ hP hS hl => lv_istore o.1 o.2.1 d hl hn he (fun ls' hl' => h H L ls' hP hS hl')
theorem za_istore_n (o : za_Ok R kc ks p s m args meth c G own cc nL ret) {k : Fin 4} {i : Nat} {x : Int32} (lv' : List (Nat × Value)) (d : decode cc pc = .ok (.istore_n k, 1)) (hi : (k : Nat) = i) (hn : i < nL) (he : (i, Value.int x) :: lv.filter (fun q => !(q.1 == i) && !(q.1 + 1 == i && q.2.category == 2)) = lv')
    (h : za_At p l e R s m args below meth c Q G nL kc ks (pc + 1) lv' st μ) : za_At p l e R s m args below meth c Q G nL kc ks pc lv (.int x :: st) μ :=
  fun H L _ hP hS hl => lv_istore_n o.1 o.2.1 d hi hl hn he (fun ls' hl' => h H L ls' hP hS hl')
theorem za_astore (o : za_Ok R kc ks p s m args meth c G own cc nL ret) {i x : Nat} (lv' : List (Nat × Value)) (d : decode cc pc = .ok (.astore i, 2)) (hn : i < nL) (he : (i, Value.ref x) :: lv.filter (fun q => !(q.1 == i) && !(q.1 + 1 == i && q.2.category == 2)) = lv')
    (h : za_At p l e R s m args below meth c Q G nL kc ks (pc + 2) lv' st μ) : za_At p l e R s m args below meth c Q G nL kc ks pc lv (.ref x :: st) μ :=
  fun H L _ hP hS hl => lv_astore o.1 o.2.1 d hl hn he (fun ls' hl' => h H L ls' hP hS hl')
theorem za_astore_n (o : za_Ok R kc ks p s m args meth c G own cc nL ret) {k : Fin 4} {i x : Nat} (lv' : List (Nat × Value)) (d : decode cc pc = .ok (.astore_n k, 1)) (hi : (k : Nat) = i) (hn : i < nL) (he : (i, Value.ref x) :: lv.filter (fun q => !(q.1 == i) && !(q.1 + 1 == i && q.2.category == 2)) = lv')
    (h : za_At p l e R s m args below meth c Q G nL kc ks (pc + 1) lv' st μ) : za_At p l e R s m args below meth c Q G nL kc ks pc lv (.ref x :: st) μ :=
  fun H L _ hP hS hl => lv_astore_n o.1 o.2.1 d hi hl hn he (fun ls' hl' => h H L ls' hP hS hl')
theorem za_lstore (o : za_Ok R kc ks p s m args meth c G own cc nL ret) {i : Nat} {x : Int64} (lv' : List (Nat × Value)) (d : decode cc pc = .ok (.lstore i, 2)) (hn : i + 1 < nL) (he : (i, Value.long x) :: lv.filter (fun q => !(q.1 == i) && (!(q.1 == i + 1) && !(q.1 + 1 == i && q.2.category == 2))) = lv')
    (h : za_At p l e R s m args below meth c Q G nL kc ks (pc + 2) lv' st μ) : za_At p l e R s m args below meth c Q G nL kc ks pc lv (.long x :: st) μ :=
  fun H L _ hP hS hl => lv_lstore o.1 o.2.1 d hl hn he (fun ls' hl' => h H L ls' hP hS hl')
theorem za_lstore_n (o : za_Ok R kc ks p s m args meth c G own cc nL ret) {k : Fin 4} {i : Nat} {x : Int64} (lv' : List (Nat × Value)) (d : decode cc pc = .ok (.lstore_n k, 1)) (hi : (k : Nat) = i) (hn : i + 1 < nL) (he : (i, Value.long x) :: lv.filter (fun q => !(q.1 == i) && (!(q.1 == i + 1) && !(q.1 + 1 == i && q.2.category == 2))) = lv')
    (h : za_At p l e R s m args below meth c Q G nL kc ks (pc + 1) lv' st μ) : za_At p l e R s m args below meth c Q G nL kc ks pc lv (.long x :: st) μ :=
  fun H L _ hP hS hl => lv_lstore_n o.1 o.2.1 d hi hl hn he (fun ls' hl' => h H L ls' hP hS hl')
theorem za_iinc (o : za_Ok R kc ks p s m args meth c G own cc nL ret) {i : Nat} {n : Int} {x : Int32} (v : Int32) (j : Nat) (lv' : List (Nat × Value)) (d : decode cc pc = .ok (.iinc i n, 3)) (hj : lv[j]? = some (i, .int x)) (hv : x + Int32.ofInt n = v) (hn : i < nL) (he : (i, Value.int v) :: lv.filter (fun q => !(q.1 == i) && !(q.1 + 1 == i && q.2.category == 2)) = lv')
    (h : za_At p l e R s m args below meth c Q G nL kc ks (pc + 3) lv' st μ) : za_At p l e R s m args below meth c Q G nL kc ks pc lv st μ :=
  fun H L _ hP hS hl => lv_iinc o.1 o.2.1 d hl (k := j) hj hv hn he (fun ls' hl' => h H L ls' hP hS hl')
theorem za_goto (o : za_Ok R kc ks p s m args meth c G own cc nL ret) {off : Int} (tgt : Nat) (d : decode cc pc = .ok (.goto off, 3)) (ht : (pc : Int) + off = (tgt : Int))
    (h : za_At p l e R s m args below meth c Q G nL kc ks tgt lv st μ) : za_At p l e R s m args below meth c Q G nL kc ks pc lv st μ :=
  fun H L ls hP hS hl => lv_goto o.1 o.2.1 d ht (h H L ls hP hS hl)
theorem za_dup (o : za_Ok R kc ks p s m args meth c G own cc nL ret) {v : Value} (d : decode cc pc = .ok (.dup, 1)) (hv : v.category = 1)
    (h : za_At p l e R s m args below meth c Q G nL kc ks (pc + 1) lv (v :: v :: st) μ) : za_At p l e R s m args below meth c Q G nL kc ks pc lv (v :: st) μ :=
  fun H L ls hP hS hl => lv_dup o.1 o.2.1 d hv (h H L ls hP hS hl)
theorem za_dup2 (o : za_Ok R kc ks p s m args meth c G own cc nL ret) {v w : Value} (d : decode cc pc = .ok (.dup2, 1)) (hv : v.category = 1) (hw : w.category = 1)
    (h : za_At p l e R s m args below meth c Q G nL kc ks (pc + 1) lv (v :: w :: v :: w :: st) μ) : za_At p l e R s m args below meth c Q G nL kc ks pc lv (v :: w :: st) μ :=
  fun H L ls hP hS hl => lv_dup2_11 o.1 o.2.1 d hv hw (h H L ls hP hS hl)
theorem za_pop (o : za_Ok R kc ks p s m args meth c G own cc nL ret) {v : Value} (d : decode cc pc = .ok (.pop, 1)) (hv : v.category = 1)
    (h : za_At p l e R s m args below meth c Q G nL kc ks (pc + 1) lv st μ) : za_At p l e R s m args below meth c Q G nL kc ks pc lv (v :: st) μ :=
  fun H L ls hP hS hl => lv_pop o.1 o.2.1 d hv (h H L ls hP hS hl)
theorem za_iadd (o : za_Ok R kc ks p s m args meth c G own cc nL ret) {x y : Int32} (d : decode cc pc = .ok (.iadd, 1))
    (h : za_At p l e R s m args below meth c Q G nL kc ks (pc + 1) lv (.int (x + y) :: st) μ) : za_At p l e R s m args below meth c Q G nL kc ks pc lv (.int y :: .int x :: st) μ :=
  fun H L ls hP hS hl => lv_iadd o.1 o.2.1 d (h H L ls hP hS hl)
theorem za_isub (o : za_Ok R kc ks p s m args meth c G own cc nL ret) {x y : Int32} (d : decode cc pc = .ok (.isub, 1))
    (h : za_At p l e R s m args below meth c Q G nL kc ks (pc + 1) lv (.int (x - y) :: st) μ) : za_At p l e R s m args below meth c Q G nL kc ks pc lv (.int y :: .int x :: st) μ :=
  fun H L ls hP hS hl => lv_isub o.1 o.2.1 d (h H L ls hP hS hl)
theorem za_imul (o : za_Ok R kc ks p s m args meth c G own cc nL ret) {x y : Int32} (d : decode cc pc = .ok (.imul, 1))
    (h : za_At p l e R s m args below meth c Q G nL kc ks (pc + 1) lv (.int (x * y) :: st) μ) : za_At p l e R s m args below meth c Q G nL kc ks pc lv (.int y :: .int x :: st) μ :=
  fun H L ls hP hS hl => lv_imul o.1 o.2.1 d (h H L ls hP hS hl)
theorem za_iand (o : za_Ok R kc ks p s m args meth c G own cc nL ret) {x y : Int32} (d : decode cc pc = .ok (.iand, 1))
    (h : za_At p l e R s m args below meth c Q G nL kc ks (pc + 1) lv (.int (x &&& y) :: st) μ) : za_At p l e R s m args below meth c Q G nL kc ks pc lv (.int y :: .int x :: st) μ :=
  fun H L ls hP hS hl => lv_iand o.1 o.2.1 d (h H L ls hP hS hl)
theorem za_ior (o : za_Ok R kc ks p s m args meth c G own cc nL ret) {x y : Int32} (d : decode cc pc = .ok (.ior, 1))
    (h : za_At p l e R s m args below meth c Q G nL kc ks (pc + 1) lv (.int (x ||| y) :: st) μ) : za_At p l e R s m args below meth c Q G nL kc ks pc lv (.int y :: .int x :: st) μ :=
  fun H L ls hP hS hl => lv_ior o.1 o.2.1 d (h H L ls hP hS hl)
theorem za_idiv (o : za_Ok R kc ks p s m args meth c G own cc nL ret) {x y : Int32} (d : decode cc pc = .ok (.idiv, 1)) (hne : ¬ y = 0)
    (h : za_At p l e R s m args below meth c Q G nL kc ks (pc + 1) lv (.int (x / y) :: st) μ) : za_At p l e R s m args below meth c Q G nL kc ks pc lv (.int y :: .int x :: st) μ :=
  fun H L ls hP hS hl => lv_idiv o.1 o.2.1 d hne (h H L ls hP hS hl)
theorem za_land (o : za_Ok R kc ks p s m args meth c G own cc nL ret) {x y : Int64} (d : decode cc pc = .ok (.land, 1))
    (h : za_At p l e R s m args below meth c Q G nL kc ks (pc + 1) lv (.long (x &&& y) :: st) μ) : za_At p l e R s m args below meth c Q G nL kc ks pc lv (.long y :: .long x :: st) μ :=
  fun H L ls hP hS hl => lv_land o.1 o.2.1 d (h H L ls hP hS hl)
theorem za_lor (o : za_Ok R kc ks p s m args meth c G own cc nL ret) {x y : Int64} (d : decode cc pc = .ok (.lor, 1))
    (h : za_At p l e R s m args below meth c Q G nL kc ks (pc + 1) lv (.long (x ||| y) :: st) μ) : za_At p l e R s m args below meth c Q G nL kc ks pc lv (.long y :: .long x :: st) μ :=
  fun H L ls hP hS hl => lv_lor o.1 o.2.1 d (h H L ls hP hS hl)
theorem za_irem (o : za_Ok R kc ks p s m args meth c G own cc nL ret) {x y : Int32} (d : decode cc pc = .ok (.irem, 1)) (hne : ¬ y = 0)
    (h : za_At p l e R s m args below meth c Q G nL kc ks (pc + 1) lv (.int (x - x / y * y) :: st) μ) : za_At p l e R s m args below meth c Q G nL kc ks pc lv (.int y :: .int x :: st) μ :=
  fun H L ls hP hS hl => lv_irem o.1 o.2.1 d hne (h H L ls hP hS hl)
theorem za_ishl (o : za_Ok R kc ks p s m args meth c G own cc nL ret) {x y : Int32} (d : decode cc pc = .ok (.ishl, 1))
    (h : za_At p l e R s m args below meth c Q G nL kc ks (pc + 1) lv (.int (x <<< (y &&& 31)) :: st) μ) : za_At p l e R s m args below meth c Q G nL kc ks pc lv (.int y :: .int x :: st) μ :=
  fun H L ls hP hS hl => lv_ishl o.1 o.2.1 d (h H L ls hP hS hl)
def z_ushr (x : Int64) (y : Int32) : Int64 := (x.toUInt64 >>> (y.toInt64.toUInt64 &&& Int64.toUInt64 63)).toInt64
def z_lshl (x : Int64) (y : Int32) : Int64 := x <<< (y.toInt64 &&& 63)
theorem za_lushr (o : za_Ok R kc ks p s m args meth c G own cc nL ret) {x : Int64} {y : Int32} (d : decode cc pc = .ok (.lushr, 1))
    (h : za_At p l e R s m args below meth c Q G nL kc ks (pc + 1) lv (.long (z_ushr x y) :: st) μ) : za_At p l e R s m args below meth c Q G nL kc ks pc lv (.int y :: .long x :: st) μ :=
  fun H L ls hP hS hl => lv_lushr o.1 o.2.1 d rfl (h H L ls hP hS hl)
theorem za_lshl (o : za_Ok R kc ks p s m args meth c G own cc nL ret) {x : Int64} {y : Int32} (d : decode cc pc = .ok (.lshl, 1))
    (h : za_At p l e R s m args below meth c Q G nL kc ks (pc + 1) lv (.long (z_lshl x y) :: st) μ) : za_At p l e R s m args below meth c Q G nL kc ks pc lv (.int y :: .long x :: st) μ :=
  fun H L ls hP hS hl => lv_lshl o.1 o.2.1 d rfl (h H L ls hP hS hl)
def z_i2c (x : Int32) : Int32 := (x.toUInt32 % 65536).toInt32
theorem za_i2c (o : za_Ok R kc ks p s m args meth c G own cc nL ret) {x : Int32} (d : decode cc pc = .ok (.i2c, 1))
    (h : za_At p l e R s m args below meth c Q G nL kc ks (pc + 1) lv (.int (z_i2c x) :: st) μ) : za_At p l e R s m args below meth c Q G nL kc ks pc lv (.int x :: st) μ :=
  fun H L ls hP hS hl => lv_i2c o.1 o.2.1 d rfl (h H L ls hP hS hl)
theorem za_i2l (o : za_Ok R kc ks p s m args meth c G own cc nL ret) {x : Int32} (d : decode cc pc = .ok (.i2l, 1))
    (h : za_At p l e R s m args below meth c Q G nL kc ks (pc + 1) lv (.long x.toInt64 :: st) μ) : za_At p l e R s m args below meth c Q G nL kc ks pc lv (.int x :: st) μ :=
  fun H L ls hP hS hl => lv_i2l o.1 o.2.1 d rfl (h H L ls hP hS hl)
theorem za_l2i (o : za_Ok R kc ks p s m args meth c G own cc nL ret) {x : Int64} (d : decode cc pc = .ok (.l2i, 1))
    (h : za_At p l e R s m args below meth c Q G nL kc ks (pc + 1) lv (.int x.toInt32 :: st) μ) : za_At p l e R s m args below meth c Q G nL kc ks pc lv (.long x :: st) μ :=
  fun H L ls hP hS hl => lv_l2i o.1 o.2.1 d rfl (h H L ls hP hS hl)
theorem za_lcmp (o : za_Ok R kc ks p s m args meth c G own cc nL ret) {x y : Int64} (d : decode cc pc = .ok (.lcmp, 1))
    (h : za_At p l e R s m args below meth c Q G nL kc ks (pc + 1) lv (.int (lg_cmp x y) :: st) μ) : za_At p l e R s m args below meth c Q G nL kc ks pc lv (.long y :: .long x :: st) μ :=
  fun H L ls hP hS hl => W.lcmp o.1 o.2.1 d (h H L ls hP hS hl)
theorem za_topi {x : Int32} (h : ∀ y : Int32, y = x → za_At p l e R s m args below meth c Q G nL kc ks pc lv (.int y :: st) μ) : za_At p l e R s m args below meth c Q G nL kc ks pc lv (.int x :: st) μ := h x rfl
theorem za_topl {x : Int64} (h : ∀ y : Int64, y = x → za_At p l e R s m args below meth c Q G nL kc ks pc lv (.long y :: st) μ) : za_At p l e R s m args below meth c Q G nL kc ks pc lv (.long x :: st) μ := h x rfl
theorem za_topr {b x : Nat} (h : ∀ y : Nat, y = x → za_At p l e R s m args below meth c Q G nL kc ks pc lv (.ref (b + y) :: st) μ) : za_At p l e R s m args below meth c Q G nL kc ks pc lv (.ref (b + x) :: st) μ := h x rfl
theorem za_mem {μ0 : zMem} (h : ∀ μ1 : zMem, μ1 = μ0 → za_At p l e R s m args below meth c Q G nL kc ks pc lv st μ1) : za_At p l e R s m args below meth c Q G nL kc ks pc lv st μ0 := h μ0 rfl
theorem za_if_eq (o : za_Ok R kc ks p s m args meth c G own cc nL ret) {x : Int32} {off : Int} (tgt : Nat) (d : decode cc pc = .ok (.ifCond .eq off, 3)) (ht : (pc : Int) + off = (tgt : Int))
    (kt : x = 0 → za_At p l e R s m args below meth c Q G nL kc ks tgt lv st μ) (kf : ¬ x = 0 → za_At p l e R s m args below meth c Q G nL kc ks (pc + 3) lv st μ) : za_At p l e R s m args below meth c Q G nL kc ks pc lv (.int x :: st) μ :=
  fun H L ls hP hS hl => lv_if_eq o.1 o.2.1 d ht (fun z => kt z H L ls hP hS hl) (fun z => kf z H L ls hP hS hl)
theorem za_if_ne (o : za_Ok R kc ks p s m args meth c G own cc nL ret) {x : Int32} {off : Int} (tgt : Nat) (d : decode cc pc = .ok (.ifCond .ne off, 3)) (ht : (pc : Int) + off = (tgt : Int))
    (kt : ¬ x = 0 → za_At p l e R s m args below meth c Q G nL kc ks tgt lv st μ) (kf : x = 0 → za_At p l e R s m args below meth c Q G nL kc ks (pc + 3) lv st μ) : za_At p l e R s m args below meth c Q G nL kc ks pc lv (.int x :: st) μ :=
  fun H L ls hP hS hl => lv_if_ne o.1 o.2.1 d ht (fun z => kt z H L ls hP hS hl) (fun z => kf z H L ls hP hS hl)
theorem za_if_lt (o : za_Ok R kc ks p s m args meth c G own cc nL ret) {x : Int32} {off : Int} (tgt : Nat) (d : decode cc pc = .ok (.ifCond .lt off, 3)) (ht : (pc : Int) + off = (tgt : Int))
    (kt : x < 0 → za_At p l e R s m args below meth c Q G nL kc ks tgt lv st μ) (kf : ¬ x < 0 → za_At p l e R s m args below meth c Q G nL kc ks (pc + 3) lv st μ) : za_At p l e R s m args below meth c Q G nL kc ks pc lv (.int x :: st) μ :=
  fun H L ls hP hS hl => lv_if_lt o.1 o.2.1 d ht (fun z => kt z H L ls hP hS hl) (fun z => kf z H L ls hP hS hl)
theorem za_if_ge (o : za_Ok R kc ks p s m args meth c G own cc nL ret) {x : Int32} {off : Int} (tgt : Nat) (d : decode cc pc = .ok (.ifCond .ge off, 3)) (ht : (pc : Int) + off = (tgt : Int))
    (kt : 0 ≤ x → za_At p l e R s m args below meth c Q G nL kc ks tgt lv st μ) (kf : ¬ 0 ≤ x → za_At p l e R s m args below meth c Q G nL kc ks (pc + 3) lv st μ) : za_At p l e R s m args below meth c Q G nL kc ks pc lv (.int x :: st) μ :=
  fun H L ls hP hS hl => lv_if_ge o.1 o.2.1 d ht (fun z => kt z H L ls hP hS hl) (fun z => kf z H L ls hP hS hl)
theorem za_if_gt (o : za_Ok R kc ks p s m args meth c G own cc nL ret) {x : Int32} {off : Int} (tgt : Nat) (d : decode cc pc = .ok (.ifCond .gt off, 3)) (ht : (pc : Int) + off = (tgt : Int))
    (kt : 0 < x → za_At p l e R s m args below meth c Q G nL kc ks tgt lv st μ) (kf : ¬ 0 < x → za_At p l e R s m args below meth c Q G nL kc ks (pc + 3) lv st μ) : za_At p l e R s m args below meth c Q G nL kc ks pc lv (.int x :: st) μ :=
  fun H L ls hP hS hl => lv_if_gt o.1 o.2.1 d ht (fun z => kt z H L ls hP hS hl) (fun z => kf z H L ls hP hS hl)
theorem za_if_le (o : za_Ok R kc ks p s m args meth c G own cc nL ret) {x : Int32} {off : Int} (tgt : Nat) (d : decode cc pc = .ok (.ifCond .le off, 3)) (ht : (pc : Int) + off = (tgt : Int))
    (kt : x ≤ 0 → za_At p l e R s m args below meth c Q G nL kc ks tgt lv st μ) (kf : ¬ x ≤ 0 → za_At p l e R s m args below meth c Q G nL kc ks (pc + 3) lv st μ) : za_At p l e R s m args below meth c Q G nL kc ks pc lv (.int x :: st) μ :=
  fun H L ls hP hS hl => lv_if_le o.1 o.2.1 d ht (fun z => kt z H L ls hP hS hl) (fun z => kf z H L ls hP hS hl)
theorem za_icmp_eq (o : za_Ok R kc ks p s m args meth c G own cc nL ret) {x y : Int32} {off : Int} (tgt : Nat) (d : decode cc pc = .ok (.if_icmp .eq off, 3)) (ht : (pc : Int) + off = (tgt : Int))
    (kt : x = y → za_At p l e R s m args below meth c Q G nL kc ks tgt lv st μ) (kf : ¬ x = y → za_At p l e R s m args below meth c Q G nL kc ks (pc + 3) lv st μ) : za_At p l e R s m args below meth c Q G nL kc ks pc lv (.int y :: .int x :: st) μ :=
  fun H L ls hP hS hl => lv_icmp_eq o.1 o.2.1 d ht (fun z => kt z H L ls hP hS hl) (fun z => kf z H L ls hP hS hl)
theorem za_icmp_ne (o : za_Ok R kc ks p s m args meth c G own cc nL ret) {x y : Int32} {off : Int} (tgt : Nat) (d : decode cc pc = .ok (.if_icmp .ne off, 3)) (ht : (pc : Int) + off = (tgt : Int))
    (kt : ¬ x = y → za_At p l e R s m args below meth c Q G nL kc ks tgt lv st μ) (kf : x = y → za_At p l e R s m args below meth c Q G nL kc ks (pc + 3) lv st μ) : za_At p l e R s m args below meth c Q G nL kc ks pc lv (.int y :: .int x :: st) μ :=
  fun H L ls hP hS hl => lv_icmp_ne o.1 o.2.1 d ht (fun z => kt z H L ls hP hS hl) (fun z => kf z H L ls hP hS hl)
theorem za_icmp_lt (o : za_Ok R kc ks p s m args meth c G own cc nL ret) {x y : Int32} {off : Int} (tgt : Nat) (d : decode cc pc = .ok (.if_icmp .lt off, 3)) (ht : (pc : Int) + off = (tgt : Int))
    (kt : x < y → za_At p l e R s m args below meth c Q G nL kc ks tgt lv st μ) (kf : ¬ x < y → za_At p l e R s m args below meth c Q G nL kc ks (pc + 3) lv st μ) : za_At p l e R s m args below meth c Q G nL kc ks pc lv (.int y :: .int x :: st) μ :=
  fun H L ls hP hS hl => lv_icmp_lt o.1 o.2.1 d ht (fun z => kt z H L ls hP hS hl) (fun z => kf z H L ls hP hS hl)
theorem za_icmp_ge (o : za_Ok R kc ks p s m args meth c G own cc nL ret) {x y : Int32} {off : Int} (tgt : Nat) (d : decode cc pc = .ok (.if_icmp .ge off, 3)) (ht : (pc : Int) + off = (tgt : Int))
    (kt : y ≤ x → za_At p l e R s m args below meth c Q G nL kc ks tgt lv st μ) (kf : ¬ y ≤ x → za_At p l e R s m args below meth c Q G nL kc ks (pc + 3) lv st μ) : za_At p l e R s m args below meth c Q G nL kc ks pc lv (.int y :: .int x :: st) μ :=
  fun H L ls hP hS hl => lv_icmp_ge o.1 o.2.1 d ht (fun z => kt z H L ls hP hS hl) (fun z => kf z H L ls hP hS hl)
theorem za_icmp_gt (o : za_Ok R kc ks p s m args meth c G own cc nL ret) {x y : Int32} {off : Int} (tgt : Nat) (d : decode cc pc = .ok (.if_icmp .gt off, 3)) (ht : (pc : Int) + off = (tgt : Int))
    (kt : y < x → za_At p l e R s m args below meth c Q G nL kc ks tgt lv st μ) (kf : ¬ y < x → za_At p l e R s m args below meth c Q G nL kc ks (pc + 3) lv st μ) : za_At p l e R s m args below meth c Q G nL kc ks pc lv (.int y :: .int x :: st) μ :=
  fun H L ls hP hS hl => lv_icmp_gt o.1 o.2.1 d ht (fun z => kt z H L ls hP hS hl) (fun z => kf z H L ls hP hS hl)
theorem za_icmp_le (o : za_Ok R kc ks p s m args meth c G own cc nL ret) {x y : Int32} {off : Int} (tgt : Nat) (d : decode cc pc = .ok (.if_icmp .le off, 3)) (ht : (pc : Int) + off = (tgt : Int))
    (kt : x ≤ y → za_At p l e R s m args below meth c Q G nL kc ks tgt lv st μ) (kf : ¬ x ≤ y → za_At p l e R s m args below meth c Q G nL kc ks (pc + 3) lv st μ) : za_At p l e R s m args below meth c Q G nL kc ks pc lv (.int y :: .int x :: st) μ :=
  fun H L ls hP hS hl => lv_icmp_le o.1 o.2.1 d ht (fun z => kt z H L ls hP hS hl) (fun z => kf z H L ls hP hS hl)
theorem za_tsw (o : za_Ok R kc ks p s m args meth c G own cc nL ret) {dflt lo hi : Int} {offs : Array Int} {len : Nat} {x : Int32} (d : decode cc pc = .ok (.tableswitch dflt lo hi offs, len))
    (hout : x.toInt < lo ∨ hi < x.toInt → ∃ tgt : Nat, (pc : Int) + dflt = (tgt : Int) ∧ za_At p l e R s m args below meth c Q G nL kc ks tgt lv st μ)
    (hin : ¬ x.toInt < lo → ¬ hi < x.toInt → ∃ (off : Int) (tgt : Nat), offs[(x.toInt - lo).toNat]? = some off ∧ (pc : Int) + off = (tgt : Int) ∧ za_At p l e R s m args below meth c Q G nL kc ks tgt lv st μ) : za_At p l e R s m args below meth c Q G nL kc ks pc lv (.int x :: st) μ := by
  intro H L ls hP hS hl
  by_cases hc : x.toInt < lo ∨ hi < x.toInt
  · obtain ⟨tgt, ht, h⟩ := hout hc
    exact lv_tableOut o.1 o.2.1 d hc ht (h H L ls hP hS hl)
  · obtain ⟨off, tgt, ho, ht, h⟩ := hin (fun z => hc (Or.inl z)) (fun z => hc (Or.inr z))
    exact lv_tableIn o.1 o.2.1 d (fun z => hc (Or.inl z)) (fun z => hc (Or.inr z)) ho ht (h H L ls hP hS hl)
theorem za_lsw (o : za_Ok R kc ks p s m args meth c G own cc nL ret) {dflt : Int} {ps : Array (Int × Int)} {len : Nat} {x : Int32} {off : Int} (tgt : Nat) (d : decode cc pc = .ok (.lookupswitch dflt ps, len)) (hp : (ps.toList.zip (ps.toList.drop 1)).all (fun (a, next) => a.1 < next.1) = true) (ho : Op.lookupswitch.offset ps.toList dflt x.toInt = off) (ht : (pc : Int) + off = (tgt : Int))
    (h : za_At p l e R s m args below meth c Q G nL kc ks tgt lv st μ) : za_At p l e R s m args below meth c Q G nL kc ks pc lv (.int x :: st) μ :=
  fun H L ls hP hS hl => lv_lookup o.1 o.2.1 d hp ho ht (h H L ls hP hS hl)
/-! fields and arrays -/
theorem za_getf (o : za_Ok R kc ks p s m args meth c G own cc nL ret) {ci q i : Nat} (k : Nat) {C : String} {T : u_T} {N : Nat} {ty0 : Nat → FieldType} {v : Value} (hc : zCls ci C T N ty0) (hq : z_is q ci) (hk : k < N) (hw : Cond.fieldLink own i (T k).1 (T k).2.1 (T k).2.2.1 ∈ zW) (hv : (z_fs G.2.2 (μ q) ci q)[k]? = some v) (d : decode cc pc = .ok (.getfield i, 3))
    (h : za_At p l e R s m args below meth c Q G nL kc ks (pc + 3) lv (v :: st) μ) : za_At p l e R s m args below meth c Q G nL kc ks pc lv (.ref (G.2.2 + q) :: st) μ :=
  fun H L ls hP hS hl => va_get o.1 o.2.1 o.2.2.2.2.2.1 hc.2.1 o.2.2.2.2.1 o.2.2.2.2.2.2.1.1 hP q (by rw [zw_get G μ hq.1, z_enc G (μ q) hq hc.2.2.2.2.1 hc.2.2.2.2.2]) hc.1 k hk (o.2.2.2.2.2.1 _ hw) (fun _ z => z) hv d (h H L ls hP hS hl)
theorem za_getfN (o : za_Ok R kc ks p s m args meth c G own cc nL ret) {ci q i : Nat} (k : Nat) {C : String} (host : String) {T : u_T} {N : Nat} {ty0 : Nat → FieldType} {v : Value} (hc : zCls ci C T N ty0) (hq : z_is q ci) (hk : k < N) (hw : Cond.fieldLinkNest own i (T k).1 (T k).2.1 (T k).2.2.1 host ∈ zNw) (hv : (z_fs G.2.2 (μ q) ci q)[k]? = some v) (d : decode cc pc = .ok (.getfield i, 3))
    (h : za_At p l e R s m args below meth c Q G nL kc ks (pc + 3) lv (v :: st) μ) : za_At p l e R s m args below meth c Q G nL kc ks pc lv (.ref (G.2.2 + q) :: st) μ :=
  fun H L ls hP hS hl => va_getN o.1 o.2.1 o.2.2.2.2.2.1 hc.2.1 o.2.2.2.2.1 o.2.2.2.2.2.2.1.1 hP q (by rw [zw_get G μ hq.1, z_enc G (μ q) hq hc.2.2.2.2.1 hc.2.2.2.2.2]) hc.1 k hk (va_Nw.use rfl (o.2.2.2.2.2.2.1.2.1 _ hw)) (fun _ z => z) hv d (h H L ls hP hS hl)
theorem za_putf (o : za_Ok R kc ks p s m args meth c G own cc nL ret) {ci q i : Nat} (k : Nat) {C : String} {T : u_T} {N : Nat} {ty0 : Nat → FieldType} {ty : FieldType} {x : Int32} (hc : zCls ci C T N ty0) (hq : z_is q ci) (hk : k < N) (hw : Cond.fieldLink own i (T k).1 (T k).2.1 (T k).2.2.1 ∈ zW) (hf : (T k).2.2.2 = false) (hd : parseFieldDescriptor (T k).2.2.1 = some ty) (hn : narrow ty (.int x) = .int x) (hfit : fits ty (.int x) = true) (hl0 : k < (z_fs G.2.2 (μ q) ci q).length) (hv : z_fs G.2.2 (upd (μ q) k x) ci q = (z_fs G.2.2 (μ q) ci q).set k (.int x)) (d : decode cc pc = .ok (.putfield i, 3))
    (h : za_At p l e R s m args below meth c Q G nL kc ks (pc + 3) lv st (z_up μ q k x)) : za_At p l e R s m args below meth c Q G nL kc ks pc lv (.int x :: .ref (G.2.2 + q) :: st) μ := by
  intro H L ls hP hS hl
  refine va_put o.1 o.2.1 o.2.2.2.2.2.1 hc.2.1 ty0 hc.2.2.1 hc.2.2.2.1 o.2.2.2.2.1 o.2.2.2.2.2.2.1.1 hP (zw_D G μ) hS q (by rw [zw_get G μ hq.1, z_enc G (μ q) hq hc.2.2.2.2.1 hc.2.2.2.2.2]) hc.1 k hk (o.2.2.2.2.2.1 _ hw) (fun _ z => z) hf hd hn hfit hl0 d (fun H1 L1 hP1 _ hS1 => ?_)
  rw [zw_set G μ hq.1 (by rw [z_enc G _ hq hc.2.2.2.2.1 hc.2.2.2.2.2, hv])] at hP1
  exact h H1 L1 ls hP1 hS1 hl
theorem za_putfN (o : za_Ok R kc ks p s m args meth c G own cc nL ret) {ci q i : Nat} (k : Nat) {C : String} (host : String) {T : u_T} {N : Nat} {ty0 : Nat → FieldType} {ty : FieldType} {x : Int32} (hc : zCls ci C T N ty0) (hq : z_is q ci) (hk : k < N) (hw : Cond.fieldLinkNest own i (T k).1 (T k).2.1 (T k).2.2.1 host ∈ zNw) (hf : (T k).2.2.2 = false) (hd : parseFieldDescriptor (T k).2.2.1 = some ty) (hn : narrow ty (.int x) = .int x) (hfit : fits ty (.int x) = true) (hl0 : k < (z_fs G.2.2 (μ q) ci q).length) (hv : z_fs G.2.2 (upd (μ q) k x) ci q = (z_fs G.2.2 (μ q) ci q).set k (.int x)) (d : decode cc pc = .ok (.putfield i, 3))
    (h : za_At p l e R s m args below meth c Q G nL kc ks (pc + 3) lv st (z_up μ q k x)) : za_At p l e R s m args below meth c Q G nL kc ks pc lv (.int x :: .ref (G.2.2 + q) :: st) μ := by
  intro H L ls hP hS hl
  refine va_putN o.1 o.2.1 o.2.2.2.2.2.1 hc.2.1 ty0 hc.2.2.1 hc.2.2.2.1 o.2.2.2.2.1 o.2.2.2.2.2.2.1.1 hP (zw_D G μ) hS q (by rw [zw_get G μ hq.1, z_enc G (μ q) hq hc.2.2.2.2.1 hc.2.2.2.2.2]) hc.1 k hk (va_Nw.use rfl (o.2.2.2.2.2.2.1.2.1 _ hw)) (fun _ z => z) hf hd hn hfit hl0 d (fun H1 L1 hP1 _ hS1 => ?_)
  rw [zw_set G μ hq.1 (by rw [z_enc G _ hq hc.2.2.2.2.1 hc.2.2.2.2.2, hv])] at hP1
  exact h H1 L1 ls hP1 hS1 hl
theorem za_iald (o : za_Ok R kc ks p s m args meth c G own cc nL ret) {q k n : Nat} {i : Int32} (hq : z_is q k) (hk : z_nu k = some (0, n)) (hi : vp_in i n) (d : decode cc pc = .ok (.iaload, 1))
    (h : za_At p l e R s m args below meth c Q G nL kc ks (pc + 1) lv (.int (μ q i.toNatClampNeg) :: st) μ) : za_At p l e R s m args below meth c Q G nL kc ks pc lv (.int i :: .ref (G.2.2 + q) :: st) μ :=
  fun H L ls hP hS hl => va_iald o.1 o.2.1 o.2.2.2.2.2.2.1.1 hP q 0 (cA := G.2.1 0) (by rw [zw_get G μ hq.1, z_enn G (μ q) hq hk]) rfl hi d (h H L ls hP hS hl)
theorem za_cald (o : za_Ok R kc ks p s m args meth c G own cc nL ret) {q k n : Nat} {i : Int32} (hq : z_is q k) (hk : z_nu k = some (1, n)) (hi : vp_in i n) (d : decode cc pc = .ok (.caload, 1))
    (h : za_At p l e R s m args below meth c Q G nL kc ks (pc + 1) lv (.int (μ q i.toNatClampNeg) :: st) μ) : za_At p l e R s m args below meth c Q G nL kc ks pc lv (.int i :: .ref (G.2.2 + q) :: st) μ :=
  fun H L ls hP hS hl => va_cald o.1 o.2.1 o.2.2.2.2.2.2.1.1 hP q 1 (cA := G.2.1 1) (by rw [zw_get G μ hq.1, z_enn G (μ q) hq hk]) rfl hi d (h H L ls hP hS hl)
theorem za_zald (o : za_Ok R kc ks p s m args meth c G own cc nL ret) {q k n : Nat} {i : Int32} (hq : z_is q k) (hk : z_nu k = some (2, n)) (hi : vp_in i n) (d : decode cc pc = .ok (.baload, 1))
    (h : za_At p l e R s m args below meth c Q G nL kc ks (pc + 1) lv (.int (μ q i.toNatClampNeg) :: st) μ) : za_At p l e R s m args below meth c Q G nL kc ks pc lv (.int i :: .ref (G.2.2 + q) :: st) μ :=
  fun H L ls hP hS hl => va_zald o.1 o.2.1 o.2.2.2.2.2.2.1.1 hP q 2 (cA := G.2.1 2) (by rw [zw_get G μ hq.1, z_enn G (μ q) hq hk]) rfl hi d (h H L ls hP hS hl)
theorem za_iast (o : za_Ok R kc ks p s m args meth c G own cc nL ret) {q k n : Nat} {i x : Int32} (hq : z_is q k) (hk : z_nu k = some (0, n)) (hi : vp_in i n) (d : decode cc pc = .ok (.iastore, 1))
    (h : za_At p l e R s m args below meth c Q G nL kc ks (pc + 1) lv st (z_up μ q i.toNatClampNeg x)) : za_At p l e R s m args below meth c Q G nL kc ks pc lv (.int x :: .int i :: .ref (G.2.2 + q) :: st) μ := by
  intro H L ls hP hS hl
  refine va_iast o.1 o.2.1 o.2.2.2.2.2.2.1.1 hP (zw_D G μ) hS q 0 (cA := G.2.1 0) (by rw [zw_get G μ hq.1, z_enn G (μ q) hq hk]) rfl hi d (fun H1 L1 hP1 _ hS1 => ?_)
  rw [zw_set G μ hq.1 (by rw [z_enn G _ hq hk])] at hP1
  exact h H1 L1 ls hP1 hS1 hl
theorem za_cast (o : za_Ok R kc ks p s m args meth c G own cc nL ret) {q k n : Nat} {i x : Int32} (hq : z_is q k) (hk : z_nu k = some (1, n)) (hi : vp_in i n) (d : decode cc pc = .ok (.castore, 1))
    (h : za_At p l e R s m args below meth c Q G nL kc ks (pc + 1) lv st (z_up μ q i.toNatClampNeg (vp_nar .char x))) : za_At p l e R s m args below meth c Q G nL kc ks pc lv (.int x :: .int i :: .ref (G.2.2 + q) :: st) μ := by
  intro H L ls hP hS hl
  refine va_cast o.1 o.2.1 o.2.2.2.2.2.2.1.1 hP (zw_D G μ) hS q 1 (cA := G.2.1 1) (by rw [zw_get G μ hq.1, z_enn G (μ q) hq hk]) rfl hi d (fun H1 L1 hP1 _ hS1 => ?_)
  rw [zw_set G μ hq.1 (by rw [z_enn G _ hq hk])] at hP1
  exact h H1 L1 ls hP1 hS1 hl
theorem za_zast (o : za_Ok R kc ks p s m args meth c G own cc nL ret) {q k n : Nat} {i x : Int32} (hq : z_is q k) (hk : z_nu k = some (2, n)) (hi : vp_in i n) (d : decode cc pc = .ok (.bastore, 1))
    (h : za_At p l e R s m args below meth c Q G nL kc ks (pc + 1) lv st (z_up μ q i.toNatClampNeg (vp_nar .boolean x))) : za_At p l e R s m args below meth c Q G nL kc ks pc lv (.int x :: .int i :: .ref (G.2.2 + q) :: st) μ := by
  intro H L ls hP hS hl
  refine va_zast o.1 o.2.1 o.2.2.2.2.2.2.1.1 hP (zw_D G μ) hS q 2 (cA := G.2.1 2) (by rw [zw_get G μ hq.1, z_enn G (μ q) hq hk]) rfl hi d (fun H1 L1 hP1 _ hS1 => ?_)
  rw [zw_set G μ hq.1 (by rw [z_enn G _ hq hk])] at hP1
  exact h H1 L1 ls hP1 hS1 hl
theorem za_aald (o : za_Ok R kc ks p s m args meth c G own cc nL ret) {q k t n o1 d1 : Nat} {C : String} {i : Int32} (hq : z_is q k) (hn : z_nu k = none) (hk : z_re k = some (t, n, o1, d1)) (ht : (zys G)[t]? = some (G.2.1 t, .object C)) (hi : vp_in i n) (d : decode cc pc = .ok (.aaload, 1))
    (h : za_At p l e R s m args below meth c Q G nL kc ks (pc + 1) lv (.ref (G.2.2 + (q + o1 + d1 * i.toNatClampNeg)) :: st) μ) : za_At p l e R s m args below meth c Q G nL kc ks pc lv (.int i :: .ref (G.2.2 + q) :: st) μ :=
  fun H L ls hP hS hl => va_aldq (f := fun i => some (G.2.2 + (q + o1 + d1 * i))) o.1 o.2.1 o.2.2.2.2.2.2.1.1 hP q t (cA := G.2.1 t) (by rw [zw_get G μ hq.1, z_enr G (μ q) hq hn hk]) ht hi d (h H L ls hP hS hl)
def zCpy (μ : zMem) (a q : Nat) (sp dp n : Nat) : zMem := fun r => if r = q then va_cpy (μ a) (μ q) sp dp n else μ r
theorem zw_cpy (G : zG) (μ : zMem) {q : Nat} {f : Nat → Int32} {en : va_E} (h : q < 537) (he : z_en G f q = en) : (zw G μ).set q (G.2.2 + q, en) = zw G (fun r => if r = q then f else μ r) := by
  apply List.ext_getElem?
  intro i
  by_cases hi : i < 537
  · rw [List.getElem?_set, zw_get G (fun r => if r = q then f else μ r) hi, zw_get G μ hi]
    by_cases hq : q = i
    · subst hq
      have hl : q < (zw G μ).length := by unfold zw; rw [List.length_map, List.length_range]; exact h
      rw [if_pos rfl, if_pos hl, ← he, if_pos rfl]
    · rw [if_neg hq, if_neg (fun e => hq e.symm)]
  · have h1 : (zw G (fun r => if r = q then f else μ r)).length ≤ i := by unfold zw; rw [List.length_map, List.length_range]; omega
    have h2 : ((zw G μ).set q (G.2.2 + q, en)).length ≤ i := by rw [List.length_set]; unfold zw; rw [List.length_map, List.length_range]; omega
    rw [List.getElem?_eq_none h1, List.getElem?_eq_none h2]
theorem za_copy (o : za_Ok R kc ks p s m args meth c G own cc nL ret) {a q k k2 n n2 i : Nat} {sp dp nn : Int32} (ha : z_is a k) (hk : z_nu k = some (0, n)) (hq : z_is q k2) (hk2 : z_nu k2 = some (0, n2)) (hw : Cond.methodLink own i arraycopyName ∈ zW) (w1 : Cond.native arraycopyName ∈ zW) (w2 : Cond.static arraycopyName ∈ zW) (w3 : Cond.initialized "java/lang/System" ∈ zW)
    (h1 : ¬ sp < 0) (h2 : ¬ dp < 0) (h3 : ¬ nn < 0) (h4 : sp.toNatClampNeg + nn.toNatClampNeg ≤ n) (h5 : dp.toNatClampNeg + nn.toNatClampNeg ≤ n2) (hfr : 1 ≤ R.frames) (hlo : (st.map fun v => v.category).sum + (nativeFrameWords "java/lang/System" "arraycopy" 5 + 11) ≤ R.locals) (d : decode cc pc = .ok (.invokestatic i, 3))
    (h : za_At p l e R s m args below meth c Q G nL kc ks (pc + 3) lv st (zCpy μ a q sp.toNatClampNeg dp.toNatClampNeg nn.toNatClampNeg)) : za_At p l e R s m args below meth c Q G nL kc ks pc lv (.int nn :: .int dp :: .ref (G.2.2 + q) :: .int sp :: .ref (G.2.2 + a) :: st) μ := by
  intro H L ls hP hS hl
  refine va_copyi o.1 o.2.1 (o.2.2.2.1.trans hl.1.symm) o.2.2.2.2.1 (o.2.2.2.2.2.1 _ hw) (o.2.2.2.2.2.1 _ w1) (o.2.2.2.2.2.1 _ w2) (o.2.2.2.2.2.1 _ w3) o.2.2.2.2.2.2.1.1 hP (zw_D G μ) hS a q 0 0 (c0 := G.2.1 0) (c1 := G.2.1 0) (ty := .int) (by rw [zw_get G μ ha.1, z_enn G (μ a) ha hk]) (by rw [zw_get G μ hq.1, z_enn G (μ q) hq hk2]) rfl rfl rfl h1 h2 h3 h4 h5 (fun _ _ => rfl) hfr hlo d (fun H1 L1 hP1 _ hS1 => ?_)
  rw [zw_cpy G μ hq.1 (f := va_cpy (μ a) (μ q) sp.toNatClampNeg dp.toNatClampNeg nn.toNatClampNeg) (by rw [z_enn G _ hq hk2])] at hP1
  exact h H1 L1 ls hP1 hS1 hl
def z_max (x y : Int32) : Int32 := if x < y then y else x
def z_min (x y : Int32) : Int32 := if y < x then y else x
theorem za_max (o : za_Ok R kc ks p s m args meth c G own cc nL ret) {x y : Int32} {i : Nat} (hw : Cond.methodLink own i Lib.Math.max.name ∈ zW) (w1 : Cond.static Lib.Math.max.name ∈ zW) (w2 : Cond.initialized "java/lang/Math" ∈ zW) (w3 : Cond.code Lib.Math.max.name Lib.Math.max.code 2 (some .int) ∈ zW) (hfr : 1 ≤ R.frames) (hlo : (st.map fun v => v.category).sum + 13 ≤ R.locals) (d : decode cc pc = .ok (.invokestatic i, 3))
    (h : za_At p l e R s m args below meth c Q G nL kc ks (pc + 3) lv (.int (z_max x y) :: st) μ) : za_At p l e R s m args below meth c Q G nL kc ks pc lv (.int y :: .int x :: st) μ :=
  fun H L ls hP hS hl => va_mmax o.1 o.2.1 (o.2.2.2.1.trans hl.1.symm) o.2.2.2.2.1 (o.2.2.2.2.2.1 _ hw) (o.2.2.2.2.2.1 _ w1) (o.2.2.2.2.2.1 _ w2) (o.2.2.2.2.2.1 _ w3) hfr hlo o.2.2.2.2.2.2.2.2.1 o.2.2.2.2.2.2.2.2.2 d (h H L ls hP hS hl)
theorem za_min (o : za_Ok R kc ks p s m args meth c G own cc nL ret) {x y : Int32} {i : Nat} (hw : Cond.methodLink own i Lib.Math.min.name ∈ zW) (w1 : Cond.static Lib.Math.min.name ∈ zW) (w2 : Cond.initialized "java/lang/Math" ∈ zW) (w3 : Cond.code Lib.Math.min.name Lib.Math.min.code 2 (some .int) ∈ zW) (hfr : 1 ≤ R.frames) (hlo : (st.map fun v => v.category).sum + 13 ≤ R.locals) (d : decode cc pc = .ok (.invokestatic i, 3))
    (h : za_At p l e R s m args below meth c Q G nL kc ks (pc + 3) lv (.int (z_min x y) :: st) μ) : za_At p l e R s m args below meth c Q G nL kc ks pc lv (.int y :: .int x :: st) μ :=
  fun H L ls hP hS hl => va_mmin o.1 o.2.1 (o.2.2.2.1.trans hl.1.symm) o.2.2.2.2.1 (o.2.2.2.2.2.1 _ hw) (o.2.2.2.2.2.1 _ w1) (o.2.2.2.2.2.1 _ w2) (o.2.2.2.2.2.1 _ w3) hfr hlo o.2.2.2.2.2.2.2.2.1 o.2.2.2.2.2.2.2.2.2 d (h H L ls hP hS hl)
/-- a row of one of the two static tables: getstatic, iload_n, iaload -/
theorem za_stab (o : za_Ok R kc ks p s m args meth c G own cc nL ret) {i : Nat} (n host : String) {f : Nat → Int32} (hZ : zSt G s n f) (hw : Cond.fieldLinkNest own i "CanteenPlates" n "[I" host ∈ zNw) (d : decode cc pc = .ok (.getstatic i, 3)) {j : Int32} {k : Fin 4} {i2 : Nat} (jj : Nat) (d2 : decode cc (pc + 3) = .ok (.iload_n k, 1)) (hi2 : (k : Nat) = i2) (hj : lv[jj]? = some (i2, .int j)) (hin : vp_in j 4) (d3 : decode cc (pc + 3 + 1) = .ok (.iaload, 1))
    (h : za_At p l e R s m args below meth c Q G nL kc ks (pc + 3 + 1 + 1) lv (.int (f j.toNatClampNeg) :: st) μ) : za_At p l e R s m args below meth c Q G nL kc ks pc lv st μ := by
  intro H L ls hP hS hl
  obtain ⟨a, hz, ht⟩ := hZ
  refine va_getsN o.1 o.2.1 hz hS o.2.2.2.2.1 (va_Nw.use rfl (o.2.2.2.2.2.2.1.2.1 _ hw)) (fun _ z => z) d ?_
  refine lv_iload_n o.1 o.2.1 d2 hi2 (lv_at hl jj hj) ?_
  exact va_ti o.1 o.2.1 ht hS hin rfl d3 (h H L ls hP hS hl)
end ZA
end
section
/-! contracts and calls over the layer -/
theorem zK_moved {G : zG} {u U : State} (hvm : u.vm.Alike U.vm) (hN : ∀ w ∈ zNw, va_Nw w u → va_Nw w U) (hh : ∀ q : Nat, q < u.heap.size → ¬ zA G q → U.heap[q]? = u.heap[q]?) (h : zK G u) : zK G U := by
  obtain ⟨h1, h2, ⟨a, h3, h4⟩, ⟨b, h5, h6⟩⟩ := h
  exact ⟨h1.moved hvm, fun w hw => hN w hw (h2 w hw), ⟨a, (h3.moved hvm).kept hh, (h4.moved hvm).kept hh⟩, ⟨b, (h5.moved hvm).kept hh, (h6.moved hvm).kept hh⟩⟩
theorem zNw_cases {w : Cond} (h : w ∈ zNw) : (∃ a i b n d g, w = .fieldLinkNest a i b n d g) ∨ ∃ a i x g, w = .methodLinkNest a i x g := by
  have h2 := (List.mem_filter.mp h).2
  unfold zIsN at h2
  split at h2
  · exact Or.inl ⟨_, _, _, _, _, _, rfl⟩
  · exact Or.inr ⟨_, _, _, _, rfl⟩
  · cases h2
theorem zK_warm {G : zG} {s U : State} {H : Heap} {L : List Loc} (hU : U.heap = H) (hW : s.WarmedH U.vm) (hS : va_S (zA G) s.heap H L) (h : zK G s) : zK G U := by
  refine zK_moved hW.alike (fun w hw hz => ?_) (fun q h1 h2 => by rw [hU]; exact hS.2.1 q h1 h2) h
  rcases zNw_cases hw with ⟨a, i, b, n, d, g, rfl⟩ | ⟨a, i, x, g, rfl⟩
  · exact va_Nw.warmF hW hz
  · exact va_Nw.warmM hW hz
theorem zK_call {G : zG} {U : State} {g : JFrame} {mk : MethodId} {a : Array Value} (h : zK G U) : zK G (U.calling g mk a) := by
  refine zK_moved (u := U) (U := U.calling g mk a) (Vm.Alike.refl U.vm) (fun w hw hz => ?_) (fun _ _ _ => rfl) h
  rcases zNw_cases hw with ⟨a, i, b, n, d, g, rfl⟩ | ⟨a, i, x, g, rfl⟩
  · exact va_Nw.same rfl (rfl : U.vm = (U.calling _ _ _).vm) hz
  · exact va_Nw.same rfl (rfl : U.vm = (U.calling _ _ _).vm) hz
def z_Pre (G : zG) (μ : zMem) (As : List Value) : Array Value → State → Prop := va_Pc As (fun U => va_P G.1 vwCl (zw G μ) U.heap ∧ zK G U)
theorem z_blind {G : zG} {μ : zMem} {As : List Value} : FrameBlind (z_Pre G μ As) := fun _ _ _ _ h => ⟨h.1, h.2.1, zK_call h.2.2⟩
abbrev zQi (G : zG) (K : Int32 → zMem → Prop) : Array Value → State → Outcome → State → Prop := va_Qi K (fun μ' t => va_P G.1 vwCl (zw G μ') t.heap) (zA G)
abbrev zQv (G : zG) (K : zMem → Prop) : Array Value → State → Outcome → State → Prop := va_Qv K (fun μ' t => va_P G.1 vwCl (zw G μ') t.heap) (zA G)
def z_Met (l : Launch) (G : zG) (y : MethodName) (cc : ByteArray) (nL : Nat) (ret : Option FieldType) (rm : Room) (As : List Value) (μ : zMem) (K : Int32 → zMem → Prop) : Prop := Met l y (.code y cc nL ret :: zW) rm (z_Pre G μ As) (zQi G K) 0 0 (zA G)
def z_MetV (l : Launch) (G : zG) (y : MethodName) (cc : ByteArray) (nL : Nat) (ret : Option FieldType) (rm : Room) (As : List Value) (μ : zMem) (K : zMem → Prop) : Prop := Met l y (.code y cc nL ret :: zW) rm (z_Pre G μ As) (zQv G K) 0 0 (zA G)
def z_rm (f w : Nat) : Room := { frames := f, cells := 0, slots := 0, locals := w }
theorem z_good {y : MethodName} {cc : ByteArray} {nL : Nat} {ret : Option FieldType} (h : Cond.code y cc nL ret ∈ zW) : GoodIn zW (.code y cc nL ret :: zW) := by
  intro w hw
  have hz : w ∈ zW := by
    rcases List.mem_cons.mp hw with rfl | hw
    · exact h
    · exact hw
  exact ⟨hz, good_of_word (List.mem_filter.mp hz).2⟩
theorem z_body {l : Launch} {G : zG} {y : MethodName} {cc : ByteArray} {nL : Nat} {ret : Option FieldType} {f w : Nat} {As : List Value} {μ : zMem} {Qc : Array Value → State → Outcome → State → Prop} (hy : plainName y.cls = true) (hAs : (lg_sl As).length ≤ nL)
    (h : ∀ (p : Program) (e : Env) (s : State) (m : MethodId) (args : Array Value) (below : List Frame) (meth : Method) (c : Code), za_Ok (z_rm f w) 0 0 p s m args meth c G y.cls cc nL ret → za_At p l e (z_rm f w) s m args below meth c (MQ below Qc args s 0 0 (zA G)) G nL 0 0 0 (lv_args 0 As) [] μ) : Met l y (.code y cc nL ret :: zW) (z_rm f w) (z_Pre G μ As) Qc 0 0 (zA G) := by
  refine Met.ofW (cc := cc) (maxL := nL) (ret := ret) hy rfl ?_
  intro p e s m args below meth c s₁ B hml hv
  obtain ⟨rfl, hP, hK⟩ := hv
  have hts := atoms_spec (ws := .code y cc nL ret :: zW) B.pre
  have hown : s.vm.findClass y.cls = some m.cls := findClass_of_methodNamed B.named
  have hl := lv_entry As (n := nL) hAs
  rw [lg_entry_eq]
  exact h p e s m _ below meth c ⟨B.exec, B.bytes, B.returns, hml, hown, fun w hw => hts w (List.mem_cons_of_mem _ hw), hK, B.notSynchronized, Nat.le_refl _, Nat.le_refl _⟩ s.heap [] _ hP va_S.rf hl
def zMw (y : MethodName) (cc : ByteArray) (nL : Nat) (ret : Option FieldType) (n : Nat) : Prop := Cond.code y cc nL ret ∈ zW ∧ Cond.initialized y.cls ∈ zW ∧ (y.cls ≠ "java/lang/invoke/MethodHandle" ∧ y.cls ≠ "java/lang/invoke/VarHandle" ∧ (parseMethodDescriptor y.desc).map (fun d => d.parameters.length) = some n)
section ZC
variable {p : Program} {l : Launch} {e : Env} {R : Room} {s : State} {m : MethodId} {args : Array Value} {below : List Frame} {meth : Method} {c : Code} {Q : State → Prop} {G : zG} {nL kc ks : Nat} {own : String} {cc : ByteArray} {ret : Option FieldType} {pc : Nat} {lv : List (Nat × Value)} {st : List Value} {μ : zMem}
variable {y : MethodName} {cc2 : ByteArray} {nL2 n i : Nat} {ret2 : Option FieldType} {f w : Nat} {K : Int32 → zMem → Prop} {KV : zMem → Prop} {stk : List Value}
theorem za_iret (o : za_Ok R kc ks p s m args meth c G own cc nL ret) (hr : ret = some .int) {v : Int32} (hK : K v μ) (d : decode cc pc = .ok (.ireturn, 1)) : za_At p l e R s m args below meth c (MQ below (zQi G K) args s kc ks (zA G)) G nL kc ks pc lv [.int v] μ :=
  fun H L ls hP hS hl => W.iret o.1 o.2.1 (o.2.2.1.trans hr) (fun t ht hW => ⟨⟨v, μ, rfl, hK, by show va_P G.1 vwCl (zw G μ) t.heap; rw [ht]; exact hP⟩, hS.F ht⟩) hS.2.2 d o.2.2.2.2.2.2.2.1
def z_b (v : Int32) : Prop := v = 0 ∨ v = 1
theorem z_b0 : z_b 0 := Or.inl rfl
theorem z_b1 : z_b 1 := Or.inr rfl
theorem z_bn {v : Int32} (h : z_b v) : narrow .boolean (.int v) = .int v := by
  rcases h with rfl | rfl <;> rfl
theorem z_bfit {v : Int32} (h : z_b v) : fits .boolean (.int v) = true := by
  rcases h with rfl | rfl <;> rfl
theorem za_zret (o : za_Ok R kc ks p s m args meth c G own cc nL ret) (hr : ret = some .boolean) {v : Int32} (hb : z_b v) (hK : K v μ) (d : decode cc pc = .ok (.ireturn, 1)) : za_At p l e R s m args below meth c (MQ below (zQi G K) args s kc ks (zA G)) G nL kc ks pc lv [.int v] μ :=
  fun H L ls hP hS hl => W.zret o.1 o.2.1 (o.2.2.1.trans hr) (z_bn hb) (fun t ht hW => ⟨⟨v, μ, rfl, hK, by show va_P G.1 vwCl (zw G μ) t.heap; rw [ht]; exact hP⟩, hS.F ht⟩) hS.2.2 d o.2.2.2.2.2.2.2.1
theorem za_vret (o : za_Ok R kc ks p s m args meth c G own cc nL ret) (hr : ret = none) (hK : KV μ) (d : decode cc pc = .ok (.return_, 1)) : za_At p l e R s m args below meth c (MQ below (zQv G KV) args s kc ks (zA G)) G nL kc ks pc lv [] μ :=
  fun H L ls hP hS hl => W.vret o.1 o.2.1 (o.2.2.1.trans hr) (fun t ht hW => ⟨⟨μ, rfl, hK, by show va_P G.1 vwCl (zw G μ) t.heap; rw [ht]; exact hP⟩, hS.F ht⟩) hS.2.2 d o.2.2.2.2.2.2.2.1
theorem za_callVi (o : za_Ok R kc ks p s m args meth c G own cc nL ret) {q ci N : Nat} {C : String} {T : u_T} {ty0 : Nat → FieldType} (As : List Value) (hM : z_Met l G y cc2 nL2 ret2 (z_rm f w) (.ref (G.2.2 + q) :: As) μ K) (hc : zCls ci C T N ty0) (hq : z_is q ci) (hy : zMw y cc2 nL2 ret2 n) (hi : Cond.methodLink own i y ∈ zW) (h1 : Cond.instanceMethod y ∈ zW) (h2 : Cond.selects C y y ∈ zW) (hn : As.length = n) (hR : f + 1 ≤ R.frames ∧ 8 + (nL2 + 11) + w ≤ R.locals)
    (hst : stk = As.reverse ++ .ref (G.2.2 + q) :: st) (hcat : (st.map fun v => v.category).sum ≤ 8) (d : decode cc pc = .ok (.invokevirtual i, 3)) (kk : ∀ (r : Int32) (μ1 : zMem), K r μ1 → za_At p l e R s m args below meth c Q G nL kc ks (pc + 3) lv (.int r :: st) μ1) : za_At p l e R s m args below meth c Q G nL kc ks pc lv stk μ := by
  subst hst
  intro H L ls hP hS hl
  have hts := o.2.2.2.2.2.1
  refine va_calli (va_runV (As := As) (rest := st) ⟨o.1, o.2.1, o.2.2.2.1, o.2.2.2.2.1, hts⟩ hM ⟨callB_of n hts (z_good hy.1) rfl rfl rfl (hts _ hy.2.1) (hts _ hi) hy.2.2 hR, hts _ h1, hts _ h2⟩ ⟨z_blind, va_recv o.2.2.2.2.2.2.1.1 hP hc.1 (q0 := q) (by rw [zw_get G μ hq.1, z_enc G (μ q) hq hc.2.2.2.2.1 hc.2.2.2.2.2]), fun U hU hW => ⟨rfl, by rw [hU]; exact hP, zK_warm hU hW hS o.2.2.2.2.2.2.1⟩⟩ rfl hn hl.1 rfl (lv_room hcat) d ⟨o.2.2.2.2.2.2.2.2.1, o.2.2.2.2.2.2.2.2.2⟩) hS (fun _ _ h => h) (fun _ h => h) (fun r u t H1 L1 ht hvm hw hB hz hk hS1 => ?_)
  rw [ht] at hB
  exact kk r u hw H1 L1 ls hB hS1 hl
theorem za_callVv (o : za_Ok R kc ks p s m args meth c G own cc nL ret) {q ci N : Nat} {C : String} {T : u_T} {ty0 : Nat → FieldType} (As : List Value) (hM : z_MetV l G y cc2 nL2 ret2 (z_rm f w) (.ref (G.2.2 + q) :: As) μ KV) (hc : zCls ci C T N ty0) (hq : z_is q ci) (hy : zMw y cc2 nL2 ret2 n) (hi : Cond.methodLink own i y ∈ zW) (h1 : Cond.instanceMethod y ∈ zW) (h2 : Cond.selects C y y ∈ zW) (hn : As.length = n) (hR : f + 1 ≤ R.frames ∧ 8 + (nL2 + 11) + w ≤ R.locals)
    (hst : stk = As.reverse ++ .ref (G.2.2 + q) :: st) (hcat : (st.map fun v => v.category).sum ≤ 8) (d : decode cc pc = .ok (.invokevirtual i, 3)) (kk : ∀ (μ1 : zMem), KV μ1 → za_At p l e R s m args below meth c Q G nL kc ks (pc + 3) lv st μ1) : za_At p l e R s m args below meth c Q G nL kc ks pc lv stk μ := by
  subst hst
  intro H L ls hP hS hl
  have hts := o.2.2.2.2.2.1
  refine va_callv (va_runV (As := As) (rest := st) ⟨o.1, o.2.1, o.2.2.2.1, o.2.2.2.2.1, hts⟩ hM ⟨callB_of n hts (z_good hy.1) rfl rfl rfl (hts _ hy.2.1) (hts _ hi) hy.2.2 hR, hts _ h1, hts _ h2⟩ ⟨z_blind, va_recv o.2.2.2.2.2.2.1.1 hP hc.1 (q0 := q) (by rw [zw_get G μ hq.1, z_enc G (μ q) hq hc.2.2.2.2.1 hc.2.2.2.2.2]), fun U hU hW => ⟨rfl, by rw [hU]; exact hP, zK_warm hU hW hS o.2.2.2.2.2.2.1⟩⟩ rfl hn hl.1 rfl (lv_room hcat) d ⟨o.2.2.2.2.2.2.2.2.1, o.2.2.2.2.2.2.2.2.2⟩) hS (fun _ _ h => h) (fun _ h => h) (fun u t H1 L1 ht hvm hw hB hz hk hS1 => ?_)
  rw [ht] at hB
  exact kk u hw H1 L1 ls hB hS1 hl
theorem za_callSi (o : za_Ok R kc ks p s m args meth c G own cc nL ret) (As : List Value) (hM : z_Met l G y cc2 nL2 ret2 (z_rm f w) As μ K) (hy : zMw y cc2 nL2 ret2 n) (hi : Cond.methodLink own i y ∈ zW) (h1 : Cond.static y ∈ zW) (hn : As.length = n) (hR : f + 1 ≤ R.frames ∧ 8 + (nL2 + 11) + w ≤ R.locals)
    (hst : stk = As.reverse ++ st) (hcat : (st.map fun v => v.category).sum ≤ 8) (d : decode cc pc = .ok (.invokestatic i, 3)) (kk : ∀ (r : Int32) (μ1 : zMem), K r μ1 → za_At p l e R s m args below meth c Q G nL kc ks (pc + 3) lv (.int r :: st) μ1) : za_At p l e R s m args below meth c Q G nL kc ks pc lv stk μ := by
  subst hst
  intro H L ls hP hS hl
  have hts := o.2.2.2.2.2.1
  refine va_calli (va_runS (As := As) (rest := st) ⟨o.1, o.2.1, o.2.2.2.1, o.2.2.2.2.1, hts⟩ hM ⟨callB_of n hts (z_good hy.1) rfl rfl rfl (hts _ hy.2.1) (hts _ hi) hy.2.2 hR, hts _ h1⟩ ⟨z_blind, fun U hU hW => ⟨rfl, by rw [hU]; exact hP, zK_warm hU hW hS o.2.2.2.2.2.2.1⟩⟩ rfl hn hl.1 rfl (lv_room hcat) d ⟨o.2.2.2.2.2.2.2.2.1, o.2.2.2.2.2.2.2.2.2⟩) hS (fun _ _ h => h) (fun _ h => h) (fun r u t H1 L1 ht hvm hw hB hz hk hS1 => ?_)
  rw [ht] at hB
  exact kk r u hw H1 L1 ls hB hS1 hl
end ZC
end
section
/-! which object lies where; switches; loops' meaning -/
def z_it {α : Sort _} (F : α → α) (b : α) : Nat → α
  | 0 => b
  | n + 1 => F (z_it F b n)
def zFU : Nat := 2000
theorem z_lt {i : Int32} {n : Nat} (h : vp_in i n) : i.toNatClampNeg < n := Nat.not_le.mp fun q => h (Or.inr q)
theorem zk_t0 : ∀ q, q < 537 → z_kd q = 0 → q + 54 ≤ 537 ∧ z_kd (q + 1) = 9 ∧ z_kd (q + 2) = 10 ∧ z_kd (q + 3) = 11 := by decide +kernel
theorem zk_0_9 {q : Nat} (h : z_is q 0) : z_is (q + 1) 9 := ⟨by have := (zk_t0 q h.1 h.2).1; omega, (zk_t0 q h.1 h.2).2.1⟩
theorem zk_0_10 {q : Nat} (h : z_is q 0) : z_is (q + 2) 10 := ⟨by have := (zk_t0 q h.1 h.2).1; omega, (zk_t0 q h.1 h.2).2.2.1⟩
theorem zk_0_11 {q : Nat} (h : z_is q 0) : z_is (q + 3) 11 := ⟨by have := (zk_t0 q h.1 h.2).1; omega, (zk_t0 q h.1 h.2).2.2.2⟩
theorem zk_t1 : ∀ q, q < 537 → z_kd q = 1 → q + 1 < 537 ∧ z_kd (q + 1) = 12 := by decide +kernel
theorem zk_1_12 {q : Nat} (h : z_is q 1) : z_is (q + 1) 12 := zk_t1 q h.1 h.2
theorem zk_t2 : ∀ q, q < 537 → z_kd q = 2 → q + 1 < 537 ∧ z_kd (q + 1) = 13 := by decide +kernel
theorem zk_2_13 {q : Nat} (h : z_is q 2) : z_is (q + 1) 13 := zk_t2 q h.1 h.2
theorem zk_t4 : ∀ q, q < 537 → z_kd q = 4 → q + 1 < 537 ∧ z_kd (q + 1) = 16 := by decide +kernel
theorem zk_4_16 {q : Nat} (h : z_is q 4) : z_is (q + 1) 16 := zk_t4 q h.1 h.2
theorem zk_t5 : ∀ q, q < 537 → z_kd q = 5 → (q + 1 < 537 ∧ z_kd (q + 1) = 12) ∧ (q + 2 < 537 ∧ z_kd (q + 2) = 12) := by decide +kernel
theorem zk_5_12 {q : Nat} (h : z_is q 5) : z_is (q + 1) 12 := (zk_t5 q h.1 h.2).1
theorem zk_5_12b {q : Nat} (h : z_is q 5) : z_is (q + 2) 12 := (zk_t5 q h.1 h.2).2
theorem zk_t6 : ∀ q, q < 537 → z_kd q = 6 → (q + 1 < 537 ∧ z_kd (q + 1) = 14) ∧ (q + 2 < 537 ∧ z_kd (q + 2) = 15) := by decide +kernel
theorem zk_6_14 {q : Nat} (h : z_is q 6) : z_is (q + 1) 14 := (zk_t6 q h.1 h.2).1
theorem zk_6_15 {q : Nat} (h : z_is q 6) : z_is (q + 2) 15 := (zk_t6 q h.1 h.2).2
theorem zk_c0 : z_is 1 0 := by unfold z_is; decide
theorem zk_c2 : z_is 53 2 := by unfold z_is; decide
theorem zk_c6 : z_is 419 6 := by unfold z_is; decide
theorem zk_c4 : z_is 526 4 := by unfold z_is; decide
theorem zk_c3 : z_is 528 3 := by unfold z_is; decide
theorem zk_c7 : z_is 0 7 := by unfold z_is; decide
theorem zk_c8 : z_is 529 8 := by unfold z_is; decide
theorem zk_m0 : z_is 530 17 := by unfold z_is; decide
theorem zk_m1 : z_is 531 17 := by unfold z_is; decide
theorem zk_m2 : z_is 532 18 := by unfold z_is; decide
theorem zk_m3 : z_is 533 19 := by unfold z_is; decide
theorem zk_m4 : z_is 534 15 := by unfold z_is; decide
theorem zk_m5 : z_is 535 20 := by unfold z_is; decide
theorem zk_m6 : z_is 536 16 := by unfold z_is; decide
theorem zk_ta10 : ∀ q, q < 537 → z_kd q = 10 → ∀ i, i < 14 → q + 2 + 3 * i < 537 ∧ z_kd (q + 2 + 3 * i) = 5 := by decide +kernel
theorem zk_a10 {q i : Nat} (h : z_is q 10) (hi : i < 14) : z_is (q + 2 + 3 * i) 5 := zk_ta10 q h.1 h.2 i hi
theorem zk_ta11 : ∀ q, q < 537 → z_kd q = 11 → ∀ i, i < 3 → q + 43 + 2 * i < 537 ∧ z_kd (q + 43 + 2 * i) = 1 := by decide +kernel
theorem zk_a11 {q i : Nat} (h : z_is q 11) (hi : i < 3) : z_is (q + 43 + 2 * i) 1 := zk_ta11 q h.1 h.2 i hi
theorem zk_ta13 : ∀ q, q < 537 → z_kd q = 13 → ∀ i, i < 7 → q + 1 + 52 * i < 537 ∧ z_kd (q + 1 + 52 * i) = 0 := by decide +kernel
theorem zk_a13 {q i : Nat} (h : z_is q 13) (hi : i < 7) : z_is (q + 1 + 52 * i) 0 := zk_ta13 q h.1 h.2 i hi
theorem zk_ta14 : ∀ q, q < 537 → z_kd q = 14 → ∀ i, i < 2 → q + 2 + 52 * i < 537 ∧ z_kd (q + 2 + 52 * i) = 0 := by decide +kernel
theorem zk_a14 {q i : Nat} (h : z_is q 14) (hi : i < 2) : z_is (q + 2 + 52 * i) 0 := zk_ta14 q h.1 h.2 i hi
section ZK
variable {p : Program} {l : Launch} {e : Env} {R : Room} {s : State} {m : MethodId} {args : Array Value} {below : List Frame} {meth : Method} {c : Code} {Q : State → Prop} {G : zG} {nL kc ks : Nat} {own : String} {cc : ByteArray} {ret : Option FieldType} {pc : Nat} {lv lv' : List (Nat × Value)} {st : List Value} {μ : zMem}
theorem za_sub (is : List Nat) (he : lv_pick lv is = lv') (h : za_At p l e R s m args below meth c Q G nL kc ks pc lv' st μ) : za_At p l e R s m args below meth c Q G nL kc ks pc lv st μ :=
  fun H L ls hP hS hl => h H L ls hP hS (lv_sub hl is he)
theorem za_tswE (o : za_Ok R kc ks p s m args meth c G own cc nL ret) {dflt lo hi off : Int} {offs : Array Int} {len : Nat} {x k : Int32} (tgt : Nat) (hx : x = k) (d : decode cc pc = .ok (.tableswitch dflt lo hi offs, len)) (h1 : ¬ k.toInt < lo) (h2 : ¬ hi < k.toInt) (ho : offs[(k.toInt - lo).toNat]? = some off) (ht : (pc : Int) + off = (tgt : Int))
    (h : za_At p l e R s m args below meth c Q G nL kc ks tgt lv st μ) : za_At p l e R s m args below meth c Q G nL kc ks pc lv (.int x :: st) μ := by
  subst hx
  exact fun H L ls hP hS hl => lv_tableIn o.1 o.2.1 d h1 h2 ho ht (h H L ls hP hS hl)
theorem za_tswD (o : za_Ok R kc ks p s m args meth c G own cc nL ret) {dflt lo hi : Int} {offs : Array Int} {len : Nat} {x : Int32} (tgt : Nat) (d : decode cc pc = .ok (.tableswitch dflt lo hi offs, len)) (hn : ¬ x.toInt < lo → ¬ hi < x.toInt → False) (ht : (pc : Int) + dflt = (tgt : Int))
    (h : za_At p l e R s m args below meth c Q G nL kc ks tgt lv st μ) : za_At p l e R s m args below meth c Q G nL kc ks pc lv (.int x :: st) μ := by
  intro H L ls hP hS hl
  refine lv_tableOut o.1 o.2.1 d ?_ ht (h H L ls hP hS hl)
  by_cases h1 : x.toInt < lo
  · exact Or.inl h1
  · by_cases h2 : hi < x.toInt
    · exact Or.inr h2
    · exact (hn h1 h2).elim
end ZK
end
