theorem wlL_7 : Cond.classLink RL 7 RX7 ∈ zW := List.mem_filter.mpr ⟨List.mem_of_getElem? (i := 54) (by decide +kernel), by decide +kernel⟩
theorem wlL_10 : Cond.classLink RL 10 RX8 ∈ zW := List.mem_filter.mpr ⟨List.mem_of_getElem? (i := 682) (by decide +kernel), by decide +kernel⟩
theorem wzX7 : Cond.instantiable RX7 5 ∈ zW := List.mem_filter.mpr ⟨List.mem_of_getElem? (i := 55) (by decide +kernel), by decide +kernel⟩
theorem wyX7 : Cond.initialized RX7 ∈ zW := List.mem_filter.mpr ⟨List.mem_of_getElem? (i := 43) (by decide +kernel), by decide +kernel⟩
theorem wiX7_init : Cond.instanceMethod yX7_init ∈ zW := List.mem_filter.mpr ⟨List.mem_of_getElem? (i := 57) (by decide +kernel), by decide +kernel⟩
theorem wmL_9 : Cond.methodLink RL 9 yX7_init ∈ zW := List.mem_filter.mpr ⟨List.mem_of_getElem? (i := 56) (by decide +kernel), by decide +kernel⟩
theorem mwX7_init : zMw yX7_init cX7_init 1 none 0 := ⟨List.mem_filter.mpr ⟨List.mem_of_getElem? (i := 58) (by decide +kernel), by decide +kernel⟩, List.mem_filter.mpr ⟨List.mem_of_getElem? (i := 43) (by decide +kernel), by decide +kernel⟩, by decide +kernel⟩
theorem wzX8 : Cond.instantiable RX8 11 ∈ zW := List.mem_filter.mpr ⟨List.mem_of_getElem? (i := 683) (by decide +kernel), by decide +kernel⟩
theorem wyX8 : Cond.initialized RX8 ∈ zW := List.mem_filter.mpr ⟨List.mem_of_getElem? (i := 51) (by decide +kernel), by decide +kernel⟩
theorem wiX8_init : Cond.instanceMethod yX8_init ∈ zW := List.mem_filter.mpr ⟨List.mem_of_getElem? (i := 685) (by decide +kernel), by decide +kernel⟩
theorem wmL_12 : Cond.methodLink RL 12 yX8_init ∈ zW := List.mem_filter.mpr ⟨List.mem_of_getElem? (i := 684) (by decide +kernel), by decide +kernel⟩
theorem mwX8_init : zMw yX8_init cX8_init 2 none 0 := ⟨List.mem_filter.mpr ⟨List.mem_of_getElem? (i := 686) (by decide +kernel), by decide +kernel⟩, List.mem_filter.mpr ⟨List.mem_of_getElem? (i := 51) (by decide +kernel), by decide +kernel⟩, by decide +kernel⟩
theorem zArrP {args : Array Value} {s : State} {ty : FieldType} (h : (Cond.arrayClass ty).before args s = true) : ∃ cA : ClassId, ArrOfT s cA ty ∧ s.vm.findClass ("[" ++ ty.toString) = some cA := by
  obtain ⟨cA, k, comp, h1, h2, h3⟩ := Cond.arrayClass_spec h
  refine ⟨cA, fun n z => ⟨fun q h => (by cases h), k, h2, comp, h3⟩, h1⟩
theorem zArrR {args : Array Value} {s : State} {C : String} (h : (Cond.arrayOver (.object C)).before args s = true) : ∃ cA : ClassId, ArrOfT s cA (.object C) ∧ va_RA s cA (.object C) := by
  obtain ⟨comp, cA, k, h1, -, h2, h3, h4⟩ := Cond.arrayOver_spec h
  exact ⟨cA, fun n z => ⟨fun q h => (by cases h), k, h2, comp, h3⟩, k, comp, h2, h3, h1, h4⟩
theorem zStOf {args : Array Value} {s : State} {G : zG} {n : String} {f : Nat → Int32} (hG : G.2.2 = s.heap.size) (hl : (Cond.laysStatic "CanteenPlates" n "[I").before args s = true) (hi : (Cond.initialized "CanteenPlates").before args s = true) (ha : (Cond.arrayOf (.static "CanteenPlates" n "[I") .int).before args s = true) (hn : (Cond.eq (.length (.static "CanteenPlates" n "[I")) (.int 4)).before args s = true)
    (he : ∀ j : Nat, j < 4 → (Term.elem (.static "CanteenPlates" n "[I") (.int (Int32.ofNat j))).eval args s none [] s = some (.int (f j))) : zSt G s n f := by
  have hA : ∀ a : Nat, a < s.heap.size → ¬ zA G a := fun a h => by unfold zA; rw [hG]; omega
  obtain ⟨t, ht, hT⟩ := va_Tof (f := fun j => .int (f j)) (by decide) ha (va_eqt hn) he hA
  exact ⟨t, va_Zof hl hi ht hA, hT⟩
set_option maxRecDepth 100000 in
set_option maxHeartbeats 4000000 in
theorem zstart {p : Program} {e : Env} {s : State} {m : MethodId} {below : List Frame} {meth : Method} {c : Code} (l : Launch) {b L : Nat} {xs : Nat → Int32} (C0 : lw_At p s m meth c b L xs) (hfun : fL_law_18 L xs zFU (0 : Int32) zM1) : W p l e room_1 s m #[Value.ref b] below meth c s.heap [] 0 0 (lw_Z below #[Value.ref b] s) (entryFrame m ([Value.ref b] : List Value).toArray 4) := by
  obtain ⟨hx, hb, hr, hml, hown, hts, hX, hbl, hlocks, hgv⟩ := id C0
  have hz : ∀ w ∈ zW, w.before #[Value.ref b] s = true := fun w h => hts w (List.mem_filter.mp h).1
  have hs := flat_of_before _ hgv
  obtain ⟨c0, i0, hK0⟩ := u_known (C := RX0) (T := TX0) (N := 6) (n := 6) hz zc0.2.1 (hz _ wzX0)
  obtain ⟨c1, i1, hK1⟩ := u_known (C := RX1) (T := TX1) (N := 6) (n := 6) hz zc1.2.1 (hz _ wzX1)
  obtain ⟨c2, i2, hK2⟩ := u_known (C := RX2) (T := TX2) (N := 3) (n := 3) hz zc2.2.1 (hz _ wzX2)
  obtain ⟨c3, i3, hK3⟩ := u_known (C := RX3) (T := TX3) (N := 7) (n := 7) hz zc3.2.1 (hz _ wzX3)
  obtain ⟨c4, i4, hK4⟩ := u_known (C := RX4) (T := TX4) (N := 2) (n := 2) hz zc4.2.1 (hz _ wzX4)
  obtain ⟨c5, i5, hK5⟩ := u_known (C := RX5) (T := TX5) (N := 9) (n := 9) hz zc5.2.1 (hz _ wzX5)
  obtain ⟨c6, i6, hK6⟩ := u_known (C := RX6) (T := TX6) (N := 2) (n := 2) hz zc6.2.1 (hz _ wzX6)
  obtain ⟨c7, i7, hK7⟩ := u_known (C := RX7) (T := TX7) (N := 5) (n := 5) hz zc7.2.1 (hz _ wzX7)
  obtain ⟨c8, i8, hK8⟩ := u_known (C := RX8) (T := TX8) (N := 11) (n := 11) hz zc8.2.1 (hz _ wzX8)
  obtain ⟨a0, ha0, hf0⟩ := zArrP (ty := .int) (hz _ wc_aint)
  obtain ⟨a1, ha1, hf1⟩ := zArrP (ty := .char) (hz _ wc_achar)
  obtain ⟨a2, ha2, hf2⟩ := zArrP (ty := .boolean) (hz _ wc_aboolean)
  have w3 := hts (.arrayOver (.object RX5)) (List.mem_of_getElem? (i := 69) (by decide +kernel))
  have w4 := hts (.arrayOver (.object RX1)) (List.mem_of_getElem? (i := 71) (by decide +kernel))
  have w5 := hts (.arrayOver (.object RX0)) (List.mem_of_getElem? (i := 170) (by decide +kernel))
  obtain ⟨a3, ha3, hf3⟩ := zArrR w3
  obtain ⟨a4, ha4, hf4⟩ := zArrR w4
  obtain ⟨a5, ha5, hf5⟩ := zArrR w5
  obtain ⟨G, hG1, hG2, hG3⟩ : ∃ G : zG, G.1 = (fun k => if k = 0 then c0 else if k = 1 then c1 else if k = 2 then c2 else if k = 3 then c3 else if k = 4 then c4 else if k = 5 then c5 else if k = 6 then c6 else if k = 7 then c7 else c8, fun k => if k = 0 then i0 else if k = 1 then i1 else if k = 2 then i2 else if k = 3 then i3 else if k = 4 then i4 else if k = 5 then i5 else if k = 6 then i6 else if k = 7 then i7 else i8) ∧ G.2.1 = (fun k => if k = 0 then a0 else if k = 1 then a1 else if k = 2 then a2 else if k = 3 then a3 else if k = 4 then a4 else a5) ∧ G.2.2 = s.heap.size := ⟨((fun k => if k = 0 then c0 else if k = 1 then c1 else if k = 2 then c2 else if k = 3 then c3 else if k = 4 then c4 else if k = 5 then c5 else if k = 6 then c6 else if k = 7 then c7 else c8, fun k => if k = 0 then i0 else if k = 1 then i1 else if k = 2 then i2 else if k = 3 then i3 else if k = 4 then i4 else if k = 5 then i5 else if k = 6 then i6 else if k = 7 then i7 else i8), (fun k => if k = 0 then a0 else if k = 1 then a1 else if k = 2 then a2 else if k = 3 then a3 else if k = 4 then a4 else a5), s.heap.size), rfl, rfl, rfl⟩
  have hK : va_K G.1 vwCl (zys G) s := by
    unfold zys
    rw [hG1, hG2]
    refine ⟨?_, ?_⟩
    · intro k q hq
      match k, hq with
    | 0, hq => cases hq; exact hK0
    | 1, hq => cases hq; exact hK1
    | 2, hq => cases hq; exact hK2
    | 3, hq => cases hq; exact hK3
    | 4, hq => cases hq; exact hK4
    | 5, hq => cases hq; exact hK5
    | 6, hq => cases hq; exact hK6
    | 7, hq => cases hq; exact hK7
    | 8, hq => cases hq; exact hK8
      | k + 9, hq => simp [vwCl] at hq
    · intro k q hq
      match k, hq with
      | 0, hq => cases hq; exact ⟨ha0, hf0⟩
      | 1, hq => cases hq; exact ⟨ha1, hf1⟩
      | 2, hq => cases hq; exact ⟨ha2, hf2⟩
      | 3, hq => cases hq; exact ⟨ha3, hf3⟩
      | 4, hq => cases hq; exact ⟨ha4, hf4⟩
      | 5, hq => cases hq; exact ⟨ha5, hf5⟩
      | k + 6, hq => simp at hq
  have hini := hts (.initialized "CanteenPlates") (List.mem_of_getElem? (i := 43) (by decide +kernel))
  have hZK : zK G s := by
    refine ⟨hK, fun w hw => ?_, ?_, ?_⟩
    · have h1 := hts w (List.mem_filter.mp hw).1
      rcases zNw_cases hw with ⟨a, i, b, n, d, g, rfl⟩ | ⟨a, i, x, g, rfl⟩
      · exact va_Nw.of rfl h1
      · exact va_Nw.of rfl h1
    · refine zStOf hG3 (hts _ (List.mem_of_getElem? (i := 291) (by decide +kernel))) hini (hs _ (by decide +kernel)) (hs _ (by decide +kernel)) (fun j hj => ?_)
      rcases (show j = 0 ∨ j = 1 ∨ j = 2 ∨ j = 3 by omega) with rfl | rfl | rfl | rfl
      · exact va_eqt (hs (Cond.eq (.elem (.static "CanteenPlates" "LOWEST_VALUE" "[I") (.int 0)) (.int 0)) (by decide +kernel))
      · exact va_eqt (hs (Cond.eq (.elem (.static "CanteenPlates" "LOWEST_VALUE" "[I") (.int 1)) (.int 0)) (by decide +kernel))
      · exact va_eqt (hs (Cond.eq (.elem (.static "CanteenPlates" "LOWEST_VALUE" "[I") (.int 2)) (.int 1)) (by decide +kernel))
      · exact va_eqt (hs (Cond.eq (.elem (.static "CanteenPlates" "LOWEST_VALUE" "[I") (.int 3)) (.int 1)) (by decide +kernel))
    · refine zStOf hG3 (hts _ (List.mem_of_getElem? (i := 293) (by decide +kernel))) hini (hs _ (by decide +kernel)) (hs _ (by decide +kernel)) (fun j hj => ?_)
      rcases (show j = 0 ∨ j = 1 ∨ j = 2 ∨ j = 3 by omega) with rfl | rfl | rfl | rfl
      · exact va_eqt (hs (Cond.eq (.elem (.static "CanteenPlates" "HIGHEST_VALUE" "[I") (.int 0)) (.int 9)) (by decide +kernel))
      · exact va_eqt (hs (Cond.eq (.elem (.static "CanteenPlates" "HIGHEST_VALUE" "[I") (.int 1)) (.int 20)) (by decide +kernel))
      · exact va_eqt (hs (Cond.eq (.elem (.static "CanteenPlates" "HIGHEST_VALUE" "[I") (.int 2)) (.int 9)) (by decide +kernel))
      · exact va_eqt (hs (Cond.eq (.elem (.static "CanteenPlates" "HIGHEST_VALUE" "[I") (.int 3)) (.int 20)) (by decide +kernel))
  have hAO : ∀ C, C ∈ [RX5, RX1, RX0] → va_AO C s := by
    intro C hC
    simp only [List.mem_cons, List.mem_nil_iff, or_false] at hC
    rcases hC with rfl | rfl | rfl
    · exact va_AO.of w3
    · exact va_AO.of w4
    · exact va_AO.of w5
  have hscr : zScr b L xs s G := ⟨hX, hbl, hG3⟩
  have o : za_Ok room_1 537 6387 p s m #[Value.ref b] meth c G RL cL_law 4 (some .boolean) := ⟨hx, hb, hr, hml, hown, hz, hZK, hlocks, by decide, by decide⟩
  have hS : va_S (zA G) s.heap s.heap [] := va_S.rf
  have hl := lv_entry ([.ref b]) (n := 4) (Nat.le_of_ble_eq_true rfl)
  rw [lg_entry_eq]
  generalize (lg_sl ([.ref b]) ++ List.replicate (4 - (lg_sl ([.ref b])).length) Slot.unset).toArray = ls at hl ⊢
  have hl : lv_has ls 4 [(0, .ref b)] := hl
  have hP : va_P G.1 vwCl (zp G (fun _ => .inr (7, zfsX7)) 0) s.heap := by
    rw [zp_P]
    intro k hk
    omega
  -- the class
  have hKn7 := hK.1 7 _ zc7.1
  refine W.newcK hx hb hown (hz _ wlL_7) (hz _ wzX7) (hz _ wyX7) rfl dL_law_0 (by decide) (by decide) hKn7.2.1 (h := G.2.2 + 0) hG3.symm fun H1 kC hkC e1 z1 o1 => ?_
  have hP1 := zp_push (G := G) (E := fun _ => .inr (7, zfsX7)) (n := 0) (en := .inr (7, zfsX7)) hG3.symm hP (H1 := H1) ⟨_, zc7.1, (u_born tyX7 hz zc7.2.1 hKn7 hkC e1 zc7.2.2.1).to zfsX7_ok⟩ o1
  have hS1 : va_S (zA G) s.heap H1 [] := ⟨by rw [z1, hG3]; omega, fun x hx1 hx2 => o1 x (by rw [hG3]; exact hx1), fun _ h => by cases h⟩
  refine lv_dup hx hb dL_law_3 rfl ?_
  refine va_callv (va_runI (As := []) (rest := [.ref (G.2.2 + 0)]) ⟨hx, hb, hml, hown, hz⟩ (kX7_init l G zu_e) ⟨callB_of 0 hz (z_good mwX7_init.1) rfl rfl rfl (hz _ mwX7_init.2.1) (hz _ wmL_9) mwX7_init.2.2 ⟨Nat.le_of_ble_eq_true rfl, Nat.le_of_ble_eq_true rfl⟩, rfl, hz _ wiX7_init⟩ ⟨zc_blind, fun U hU hW => ⟨rfl, by rw [hU]; exact hP1, by rw [hU]; exact z1, zK_warm hU hW hS1 hZK, fun C hC => va_AO.moved hW.alike (hAO C hC)⟩⟩ rfl rfl hl.1 rfl (lv_room (Nat.le_of_ble_eq_true rfl)) dL_law_4 ⟨by decide, by decide⟩) hS1 (fun _ _ h => h) (fun _ h => h) (fun u t H2 L2 ht hvm hw hB hz2 hk2 hS2 => ?_)
  rw [ht] at hB
  obtain ⟨hP2, z2⟩ := hB
  refine lv_astore_n (lv' := [(1, .ref (G.2.2 + 0)), (0, .ref b)]) hx hb dL_law_7 rfl hl (by decide) rfl (fun ls hl => ?_)
  -- the reference
  have hKn8 := hK.1 8 _ zc8.1
  refine W.newcK hx hb hown (hz _ wlL_10) (hz _ wzX8) (hz _ wyX8) rfl dL_law_8 (by decide) (by decide) hKn8.2.1 (h := G.2.2 + 529) z2 fun H3 kC3 hkC3 e3 z3 o3 => ?_
  have hP3 := zp_push (G := G) (en := .inr (8, zfsX8)) z2 hP2 (H1 := H3) ⟨_, zc8.1, (u_born tyX8 hz zc8.2.1 hKn8 hkC3 e3 zc8.2.2.1).to zfsX8_ok⟩ o3
  have hS3 : va_S (zA G) s.heap H3 L2 := ⟨by rw [z3, hG3]; omega, fun x hx1 hx2 => (o3 x (by rw [hG3]; omega)).trans (hS2.2.1 x hx1 hx2), hS2.2.2⟩
  refine lv_dup hx hb dL_law_11 rfl ?_
  refine va_callv (va_runI (As := []) (rest := [.ref (G.2.2 + 529)]) ⟨hx, hb, hml, hown, hz⟩ (kX8_init l G zu_e) ⟨callB_of 0 hz (z_good mwX8_init.1) rfl rfl rfl (hz _ mwX8_init.2.1) (hz _ wmL_12) mwX8_init.2.2 ⟨Nat.le_of_ble_eq_true rfl, Nat.le_of_ble_eq_true rfl⟩, rfl, hz _ wiX8_init⟩ ⟨zc_blind, fun U hU hW => ⟨rfl, by rw [hU]; exact hP3, by rw [hU]; exact z3, zK_warm hU hW hS3 hZK, fun C hC => va_AO.moved hW.alike (hAO C hC)⟩⟩ rfl rfl hl.1 rfl (lv_room (Nat.le_of_ble_eq_true rfl)) dL_law_12 ⟨by decide, by decide⟩) hS3 (fun _ _ h => h) (fun _ h => h) (fun u4 t4 H4 L4 ht4 hvm4 hw4 hB4 hz4 hk4 hS4 => ?_)
  rw [ht4] at hB4
  obtain ⟨hP4, z4⟩ := hB4
  have hPw : va_P G.1 vwCl (zw G zM1) H4 := by
    refine zp_cong (E2 := fun q => z_en G (zM1 q) q) hP4 (fun k hk => Or.inl ?_)
    unfold zMod
    by_cases h1 : k < 529
    · rw [if_pos h1, zu_n (by omega)]
      unfold zTop zM1
      rw [if_neg (by omega)]
    · rw [if_neg h1]
  refine lv_astore_n (lv' := [(2, .ref (G.2.2 + 529)), (1, .ref (G.2.2 + 0)), (0, .ref b)]) hx hb dL_law_15 rfl hl (by decide) rfl (fun ls hl => ?_)
  refine lv_iconst (v := 0) hx hb dL_law_16 (by decide) ?_
  refine lv_istore_n (lv' := [(3, .int 0), (2, .ref (G.2.2 + 529)), (1, .ref (G.2.2 + 0)), (0, .ref b)]) hx hb dL_law_17 rfl hl (by decide) rfl (fun ls hl => ?_)
  exact tL_law_18 o hscr zFU 0 zM1 hfun H4 L4 ls hPw hS4 (lv_sub hl [3, 2, 1, 0] rfl)
