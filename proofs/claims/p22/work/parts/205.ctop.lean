/-- the memory with which all begins -/
def zM0 : zMem := fun r => if r < 1 then fun _ => 0 else if r < 53 then z_m0c (r - 1) else if r < 55 then fun _ => 0 else if r < 419 then z_m0c ((r - 55) % 52) else if r < 422 then fun _ => 0 else if r < 526 then z_m0c ((r - 422) % 52) else fun _ => 0
def zs1 (i : Nat) : Nat → Int32 := fun j => if 8 ≤ j ∧ j < 8 + i then 1 else z_s0 j
def zM1 : zMem := fun r => if r = 530 then zs1 15 else zM0 r
theorem zkd_a {r : Nat} (h1 : 1 ≤ r) (h2 : r < 53) : z_kd r = z_ck (r - 1) := by
  unfold z_kd
  rw [if_neg (by omega), if_pos h2]
theorem zkd_b {r : Nat} (h1 : 55 ≤ r) (h2 : r < 419) : z_kd r = z_ck ((r - 55) % 52) := by
  unfold z_kd
  rw [if_neg (by omega), if_neg (by omega), if_neg (by omega), if_neg (by omega), if_pos h2]
theorem zkd_c {r : Nat} (h1 : 422 ≤ r) (h2 : r < 526) : z_kd r = z_ck ((r - 422) % 52) := by
  unfold z_kd
  rw [if_neg (by omega), if_neg (by omega), if_neg (by omega), if_neg (by omega), if_neg (by omega), if_neg (by omega), if_neg (by omega), if_neg (by omega), if_pos h2]
theorem zM0_a {r : Nat} (h1 : 1 ≤ r) (h2 : r < 53) : zM0 r = z_m0c (r - 1) := by
  unfold zM0
  rw [if_neg (by omega), if_pos h2]
theorem zM0_b {r : Nat} (h1 : 55 ≤ r) (h2 : r < 419) : zM0 r = z_m0c ((r - 55) % 52) := by
  unfold zM0
  rw [if_neg (by omega), if_neg (by omega), if_neg (by omega), if_pos h2]
theorem zM0_c {r : Nat} (h1 : 422 ≤ r) (h2 : r < 526) : zM0 r = z_m0c ((r - 422) % 52) := by
  unfold zM0
  rw [if_neg (by omega), if_neg (by omega), if_neg (by omega), if_neg (by omega), if_neg (by omega), if_pos h2]
def zTop (G : zG) : zE := fun r => z_en G (zM0 r) r
set_option maxRecDepth 100000 in
set_option maxHeartbeats 4000000 in
theorem kX7_init (l : Launch) (G : zG) {E : zE} (hE : E 0 = .inr (7, zfsX7)) : zc_Met l G yX7_init cX7_init 1 4 82 528 3365 [.ref (G.2.2 + 0)] E 1 (zTop G) 529 := by
  refine zc_body (by decide) rfl (Nat.le_of_ble_eq_true rfl) (fun p e s m args below meth c o => ?_)
  have o : zcOk p s m args meth c G RX7 cX7_init 1 := o
  have hR1 : (zcRm 4 82 528 3365).cells = 528 := rfl
  have hR2 : (zcRm 4 82 528 3365).slots = 3365 := rfl
  show zc_At p l e (zcRm 4 82 528 3365) s m args below meth c _ G 1 0 0 0 [(0, .ref (G.2.2 + 0))] [] E 1
  refine zc_aload_n o 0 dX7_init_0 rfl rfl ?_
  refine zc_obj o woX7 wc_oi wc_oc dX7_init_1 (by decide) (by decide) ?_
  refine zc_aload_n o 0 dX7_init_4 rfl rfl ?_
  refine zc_new (fs := zfsX0) o zc0 wlX7_7 wzX0 wyX0 (by intro j hj; exact zfsX0_ok j hj) (by omega) (by omega) dX7_init_5 ?_
  refine zc_dup o dX7_init_8 rfl ?_
  refine zc_call o [] (kX0_init l G (q := 1) zu_e) mwX0_init rfl wmX7_9 wiX0_init rfl ⟨Nat.le_of_ble_eq_true rfl, Nat.le_of_ble_eq_true rfl⟩ ⟨by omega, by omega⟩ rfl (Nat.le_of_ble_eq_true rfl) dX7_init_9 ?_
  refine zc_putF (a := 0) (ty := tyX7 0) o 0 zc7 (by omega) ((zoX0 (by omega)).trans ((zu_n (by omega)).trans hE)) (Nat.le_of_ble_eq_true rfl) wvX7_10 rfl rfl (by decide +kernel) rfl rfl (Nat.le_of_ble_eq_true rfl) dX7_init_12 ?_
  refine zc_aload_n o 0 dX7_init_15 rfl rfl ?_
  refine zc_new (fs := zfsX2) o zc2 wlX7_16 wzX2 wyX2 (by intro j hj; exact zfsX2_ok j hj) (by omega) (by omega) dX7_init_16 ?_
  refine zc_dup o dX7_init_19 rfl ?_
  refine zc_call o [] (kX2_init l G (q := 53) zu_e) mwX2_init rfl wmX7_18 wiX2_init rfl ⟨Nat.le_of_ble_eq_true rfl, Nat.le_of_ble_eq_true rfl⟩ ⟨by omega, by omega⟩ rfl (Nat.le_of_ble_eq_true rfl) dX7_init_20 ?_
  refine zc_putF (a := 0) (ty := tyX7 1) o 1 zc7 (by omega) ((zoX2 (by omega)).trans ((zu_n (by omega)).trans zu_e)) (Nat.le_of_ble_eq_true rfl) wvX7_19 rfl rfl (by decide +kernel) rfl rfl (Nat.le_of_ble_eq_true rfl) dX7_init_23 ?_
  refine zc_aload_n o 0 dX7_init_26 rfl rfl ?_
  refine zc_new (fs := zfsX6) o zc6 wlX7_23 wzX6 wyX6 (by intro j hj; exact zfsX6_ok j hj) (by omega) (by omega) dX7_init_27 ?_
  refine zc_dup o dX7_init_30 rfl ?_
  refine zc_call o [] (kX6_init l G (q := 419) zu_e) mwX6_init rfl wmX7_25 wiX6_init rfl ⟨Nat.le_of_ble_eq_true rfl, Nat.le_of_ble_eq_true rfl⟩ ⟨by omega, by omega⟩ rfl (Nat.le_of_ble_eq_true rfl) dX7_init_31 ?_
  refine zc_putF (a := 0) (ty := tyX7 2) o 2 zc7 (by omega) ((zoX6 (by omega)).trans ((zu_n (by omega)).trans zu_e)) (Nat.le_of_ble_eq_true rfl) wvX7_26 rfl rfl (by decide +kernel) rfl rfl (Nat.le_of_ble_eq_true rfl) dX7_init_34 ?_
  refine zc_aload_n o 0 dX7_init_37 rfl rfl ?_
  refine zc_new (fs := zfsX4) o zc4 wlX7_30 wzX4 wyX4 (by intro j hj; exact zfsX4_ok j hj) (by omega) (by omega) dX7_init_38 ?_
  refine zc_dup o dX7_init_41 rfl ?_
  refine zc_callN o [] (kX4_init l G (q := 526) zu_e) mwX4_init rfl wmX7_32 wiX4_init rfl ⟨Nat.le_of_ble_eq_true rfl, Nat.le_of_ble_eq_true rfl⟩ ⟨by omega, by omega⟩ rfl (Nat.le_of_ble_eq_true rfl) dX7_init_42 ?_
  refine zc_putF (a := 0) (ty := tyX7 3) o 3 zc7 (by omega) ((zoX4 (by omega)).trans ((zu_n (by omega)).trans zu_e)) (Nat.le_of_ble_eq_true rfl) wvX7_33 rfl rfl (by decide +kernel) rfl rfl (Nat.le_of_ble_eq_true rfl) dX7_init_45 ?_
  refine zc_aload_n o 0 dX7_init_48 rfl rfl ?_
  refine zc_new (fs := zfsX3) o zc3 wlX7_37 wzX3 wyX3 (by intro j hj; exact zfsX3_ok j hj) (by omega) (by omega) dX7_init_49 ?_
  refine zc_dup o dX7_init_52 rfl ?_
  refine zc_aload_n o 0 dX7_init_53 rfl rfl ?_
  refine zc_getf (a := 0) o 3 zc7 (by omega) ((zu_n (by omega)).trans zu_e) (Nat.le_of_ble_eq_true rfl) wvX7_33 rfl dX7_init_54 ?_
  refine zc_call o [.ref (G.2.2 + 526)] (kX3_init l G (q := 528) (a := 526) zu_e) mwX3_init rfl wmX7_39 wiX3_init rfl ⟨Nat.le_of_ble_eq_true rfl, Nat.le_of_ble_eq_true rfl⟩ ⟨by omega, by omega⟩ rfl (Nat.le_of_ble_eq_true rfl) dX7_init_57 ?_
  refine zc_putF (a := 0) (ty := tyX7 4) o 4 zc7 (by omega) ((zoX3 (by omega)).trans ((zu_n (by omega)).trans zu_e)) (Nat.le_of_ble_eq_true rfl) wvX7_42 rfl rfl (by decide +kernel) rfl rfl (Nat.le_of_ble_eq_true rfl) dX7_init_60 ?_
  refine zc_vret (n := 529) o (fun r hr => ?_) rfl rfl dX7_init_63
  by_cases h420 : r = 420
  · subst h420
    refine Or.inr ⟨G.2.1 5, 2, (fun j => if j < 2 then some (G.2.2 + (419 + 3 + 52 * j)) else none), (fun i => some (G.2.2 + (420 + 2 + 52 * i))), ?_, rfl, ?_⟩
    · rw [zu_n (by decide), zoX3 (by omega), zu_n (by decide), zu_n (by decide), zoX4 (by omega), zu_n (by decide), zu_n (by decide)]
      unfold zSlo
      exact zLca
    · intro j hj
      exact if_pos hj
  by_cases h54 : r = 54
  · subst h54
    refine Or.inr ⟨G.2.1 5, 7, (fun j => if j < 7 then some (G.2.2 + (53 + 2 + 52 * j)) else none), (fun i => some (G.2.2 + (54 + 1 + 52 * i))), ?_, rfl, ?_⟩
    · rw [zu_n (by decide), zoX3 (by omega), zu_n (by decide), zu_n (by decide), zoX4 (by omega), zu_n (by decide), zu_n (by decide), zoX6 (by omega), zu_n (by decide), zu_n (by decide)]
      unfold zHis
      exact zLca
    · intro j hj
      exact if_pos hj
  refine Or.inl ?_
  show _ = z_en G (zM0 r) r
  by_cases h0 : r = 0
  · subst h0
    rw [zu_e]
    rfl
  rw [zu_n h0]
  by_cases h528 : r = 528
  · subst h528
    rw [ztX3]
    rfl
  rw [zoX3 (by omega), zu_n h528, zu_n h0]
  by_cases h526 : 526 ≤ r
  · rcases (show r = 526 ∨ r = 527 by omega) with rfl | rfl
    · rw [ztX4]
      rfl
    · unfold zPad
      rw [zu_e]
      rfl
  rw [zoX4 (by omega), zu_n (by omega), zu_n h0]
  by_cases h422 : 422 ≤ r
  · unfold zSlo
    rw [zLcC (by omega) (by omega), ← z_enk_kd, zkd_c h422 (by omega), zM0_c h422 (by omega)]
  by_cases h419 : 419 ≤ r
  · rcases (show r = 419 ∨ r = 421 by omega) with rfl | rfl
    · rw [ztX6]
      rfl
    · unfold zSlo
      rw [zLcE (by omega) (by omega), zu_e]
      rfl
  rw [zoX6 (by omega), zu_n (by omega), zu_n h0]
  by_cases h55 : 55 ≤ r
  · unfold zHis
    rw [zLcC (by omega) (by omega), ← z_enk_kd, zkd_b h55 (by omega), zM0_b h55 (by omega)]
  by_cases h53 : 53 ≤ r
  · have h53b : r = 53 := by omega
    subst h53b
    rw [ztX2]
    rfl
  rw [zoX2 (by omega), zu_n (by omega), zu_n h0]
  unfold zCan
  rw [if_pos ⟨by omega, by omega⟩, ← z_enk_kd, zkd_a (by omega) (by omega), zM0_a (by omega) (by omega)]
set_option maxRecDepth 100000 in
set_option maxHeartbeats 4000000 in
theorem klX8 {p : Program} {l : Launch} {e : Env} {s : State} {m : MethodId} {args : Array Value} {below : List Frame} {meth : Method} {c : Code} {Q : State → Prop} {G : zG} (o : zcOk p s m args meth c G RX8 cX8_init 2) {E : zE} {fs : List Value} (hE : E 529 = .inr (8, .ref (G.2.2 + 530) :: fs)) : ∀ (k i : Nat), i + k = 15 → zc_At p l e (zcRm 1 12 7 3006) s m args below meth c Q G 2 7 3006 116 [] [] (va_up E 530 (.inl (G.2.1 0, 276, .inl (zs1 15)))) 537 → zc_At p l e (zcRm 1 12 7 3006) s m args below meth c Q G 2 7 3006 94 [(1, .int (nI i)), (0, .ref (G.2.2 + 529))] [] (va_up E 530 (.inl (G.2.1 0, 276, .inl (zs1 i)))) 537 := by
  have hR1 : (zcRm 1 12 7 3006).cells = 7 := rfl
  have hR2 : (zcRm 1 12 7 3006).slots = 3006 := rfl
  intro k
  induction k with
  | zero =>
    intro i hi h
    have hi : i = 15 := by omega
    subst hi
    refine zc_iload_n o 0 dX8_init_94 rfl rfl ?_
    refine zc_bipush (v := (15 : Int32)) o dX8_init_95 (by decide) ?_
    refine zc_icmp_ge o 116 dX8_init_97 (by decide) (fun _ => ?_) (fun c1 => absurd (Int32.le_refl _) c1)
    exact zc_sub [] rfl h
  | succ k ih =>
    intro i hi h
    refine zc_iload_n o 0 dX8_init_94 rfl rfl ?_
    refine zc_bipush (v := (15 : Int32)) o dX8_init_95 (by decide) ?_
    refine zc_icmp_ge o 116 dX8_init_97 (by decide) (fun c1 => absurd ((nI_leI (a := 15) (b := i) (by omega) (by omega)).mp c1) (by omega)) (fun _ => ?_)
    refine zc_aload_n o 1 dX8_init_100 rfl rfl ?_
    refine zc_getf (a := 529) o 0 zc8 (by omega) ((zu_n (by decide)).trans hE) (Nat.le_of_ble_eq_true rfl) wvX8_7 rfl dX8_init_101 ?_
    refine zc_bipush (v := (8 : Int32)) o dX8_init_104 (by decide) ?_
    refine zc_iload_n o 0 dX8_init_106 rfl rfl ?_
    refine zc_iadd o dX8_init_107 ?_
    refine zc_iconst (v := (1 : Int32)) o dX8_init_108 (by decide) ?_
    refine zc_iast (a := 530) o (by omega) zu_e (by rw [show (8 : Int32) = nI 8 from rfl, nI_add]; exact vp_in_nI (by omega) (by decide)) dX8_init_109 ?_
    refine zc_iinc o (nI (i + 1)) 0 [(1, .int (nI (i + 1))), (0, .ref (G.2.2 + 529))] dX8_init_110 rfl (nI_1 i) (by decide) rfl ?_
    refine zc_goto o 94 dX8_init_113 (by decide) ?_
    refine zc_eq (fun r hr => Or.inl ?_) (ih (i + 1) (by omega) h)
    by_cases h1 : r = 530
    · subst h1
      rw [zu_e, zu_e, show (8 : Int32) + nI i = nI (8 + i) from nI_add 8 i, nI_clamp (by omega)]
      refine congrArg (fun f => (Sum.inl (G.2.1 0, 276, Sum.inl f) : va_E)) (funext fun j => ?_)
      unfold upd zs1
      by_cases hj : j = 8 + i
      · rw [if_pos hj, if_pos (by omega)]
      · rw [if_neg hj]
        by_cases hj2 : 8 ≤ j ∧ j < 8 + i
        · rw [if_pos hj2, if_pos (by omega)]
        · rw [if_neg hj2, if_neg (by omega)]
    · rw [zu_n h1, zu_n h1, zu_n h1]
def zMod (G : zG) (E : zE) : zE := fun r => if r < 529 then E r else z_en G (zM1 r) r
set_option maxRecDepth 100000 in
set_option maxHeartbeats 4000000 in
theorem kX8_init (l : Launch) (G : zG) {E : zE} (hE : E 529 = .inr (8, zfsX8)) : zc_Met l G yX8_init cX8_init 2 1 12 7 3006 [.ref (G.2.2 + 529)] E 530 (zMod G E) 537 := by
  refine zc_body (by decide) rfl (Nat.le_of_ble_eq_true rfl) (fun p e s m args below meth c o => ?_)
  have o : zcOk p s m args meth c G RX8 cX8_init 2 := o
  have hR1 : (zcRm 1 12 7 3006).cells = 7 := rfl
  have hR2 : (zcRm 1 12 7 3006).slots = 3006 := rfl
  show zc_At p l e (zcRm 1 12 7 3006) s m args below meth c _ G 2 0 0 0 [(0, .ref (G.2.2 + 529))] [] E 530
  refine zc_aload_n o 0 dX8_init_0 rfl rfl ?_
  refine zc_obj o woX8 wc_oi wc_oc dX8_init_1 (by decide) (by decide) ?_
  refine zc_aload_n o 0 dX8_init_4 rfl rfl ?_
  refine zc_sipush (v := (276 : Int32)) o dX8_init_5 (by decide) ?_
  refine zc_newa (at_ := .int) (ty := .int) (N := 276) (t := 0) o rfl (Or.inl ⟨rfl, rfl⟩) wc_aint (by decide) (by decide) (by decide +kernel) (by omega) (by omega) dX8_init_8 ?_
  refine zc_putF (a := 529) (ty := tyX8 0) o 0 zc8 (by omega) ((zu_n (by omega)).trans hE) (Nat.le_of_ble_eq_true rfl) wvX8_7 rfl rfl (by decide +kernel) rfl rfl (Nat.le_of_ble_eq_true rfl) dX8_init_10 ?_
  refine zc_aload_n o 0 dX8_init_13 rfl rfl ?_
  refine zc_sipush (v := (276 : Int32)) o dX8_init_14 (by decide) ?_
  refine zc_newa (at_ := .int) (ty := .int) (N := 276) (t := 0) o rfl (Or.inl ⟨rfl, rfl⟩) wc_aint (by decide) (by decide) (by decide +kernel) (by omega) (by omega) dX8_init_17 ?_
  refine zc_putF (a := 529) (ty := tyX8 1) o 1 zc8 (by omega) ((zu_n (by omega)).trans zu_e) (Nat.le_of_ble_eq_true rfl) wvX8_13 rfl rfl (by decide +kernel) rfl rfl (Nat.le_of_ble_eq_true rfl) dX8_init_19 ?_
  refine zc_aload_n o 0 dX8_init_22 rfl rfl ?_
  refine zc_sipush (v := (1656 : Int32)) o dX8_init_23 (by decide) ?_
  refine zc_newa (at_ := .int) (ty := .int) (N := 1656) (t := 0) o rfl (Or.inl ⟨rfl, rfl⟩) wc_aint (by decide) (by decide) (by decide +kernel) (by omega) (by omega) dX8_init_26 ?_
  refine zc_putF (a := 529) (ty := tyX8 2) o 2 zc8 (by omega) ((zu_n (by omega)).trans zu_e) (Nat.le_of_ble_eq_true rfl) wvX8_16 rfl rfl (by decide +kernel) rfl rfl (Nat.le_of_ble_eq_true rfl) dX8_init_28 ?_
  refine zc_aload_n o 0 dX8_init_31 rfl rfl ?_
  refine zc_sipush (v := (552 : Int32)) o dX8_init_32 (by decide) ?_
  refine zc_newa (at_ := .int) (ty := .int) (N := 552) (t := 0) o rfl (Or.inl ⟨rfl, rfl⟩) wc_aint (by decide) (by decide) (by decide +kernel) (by omega) (by omega) dX8_init_35 ?_
  refine zc_putF (a := 529) (ty := tyX8 3) o 3 zc8 (by omega) ((zu_n (by omega)).trans zu_e) (Nat.le_of_ble_eq_true rfl) wvX8_19 rfl rfl (by decide +kernel) rfl rfl (Nat.le_of_ble_eq_true rfl) dX8_init_37 ?_
  refine zc_aload_n o 0 dX8_init_40 rfl rfl ?_
  refine zc_iconst (v := (2 : Int32)) o dX8_init_41 (by decide) ?_
  refine zc_newa (at_ := .boolean) (ty := .boolean) (N := 2) (t := 2) o rfl (Or.inr (Or.inr ⟨rfl, rfl⟩)) wc_aboolean (by decide) (by decide) (by decide +kernel) (by omega) (by omega) dX8_init_42 ?_
  refine zc_putF (a := 529) (ty := tyX8 4) o 4 zc8 (by omega) ((zu_n (by omega)).trans zu_e) (Nat.le_of_ble_eq_true rfl) wvX8_22 rfl rfl (by decide +kernel) rfl rfl (Nat.le_of_ble_eq_true rfl) dX8_init_44 ?_
  refine zc_aload_n o 0 dX8_init_47 rfl rfl ?_
  refine zc_sipush (v := (164 : Int32)) o dX8_init_48 (by decide) ?_
  refine zc_newa (at_ := .int) (ty := .int) (N := 164) (t := 0) o rfl (Or.inl ⟨rfl, rfl⟩) wc_aint (by decide) (by decide) (by decide +kernel) (by omega) (by omega) dX8_init_51 ?_
  refine zc_putF (a := 529) (ty := tyX8 5) o 5 zc8 (by omega) ((zu_n (by omega)).trans zu_e) (Nat.le_of_ble_eq_true rfl) wvX8_26 rfl rfl (by decide +kernel) rfl rfl (Nat.le_of_ble_eq_true rfl) dX8_init_53 ?_
  refine zc_aload_n o 0 dX8_init_56 rfl rfl ?_
  refine zc_bipush (v := (80 : Int32)) o dX8_init_57 (by decide) ?_
  refine zc_newa (at_ := .char) (ty := .char) (N := 80) (t := 1) o rfl (Or.inr (Or.inl ⟨rfl, rfl⟩)) wc_achar (by decide) (by decide) (by decide +kernel) (by omega) (by omega) dX8_init_59 ?_
  refine zc_putF (a := 529) (ty := tyX8 6) o 6 zc8 (by omega) ((zu_n (by omega)).trans zu_e) (Nat.le_of_ble_eq_true rfl) wvX8_29 rfl rfl (by decide +kernel) rfl rfl (Nat.le_of_ble_eq_true rfl) dX8_init_61 ?_
  refine zc_aload_n o 0 dX8_init_64 rfl rfl ?_
  refine zc_getf (a := 529) o 0 zc8 (by omega) zu_e (Nat.le_of_ble_eq_true rfl) wvX8_7 rfl dX8_init_65 ?_
  refine zc_iconst (v := (0 : Int32)) o dX8_init_68 (by decide) ?_
  refine zc_iconst (v := (1 : Int32)) o dX8_init_69 (by decide) ?_
  refine zc_iast (a := 530) o (by omega) ((zu_n (by omega)).trans ((zu_n (by omega)).trans ((zu_n (by omega)).trans ((zu_n (by omega)).trans ((zu_n (by omega)).trans ((zu_n (by omega)).trans ((zu_n (by omega)).trans ((zu_n (by omega)).trans ((zu_n (by omega)).trans ((zu_n (by omega)).trans ((zu_n (by omega)).trans ((zu_n (by omega)).trans ((zu_n (by omega)).trans zu_e))))))))))))) (by unfold vp_in; decide) dX8_init_70 ?_
  refine zc_aload_n o 0 dX8_init_71 rfl rfl ?_
  refine zc_getf (a := 529) o 0 zc8 (by omega) ((zu_n (by omega)).trans zu_e) (Nat.le_of_ble_eq_true rfl) wvX8_7 rfl dX8_init_72 ?_
  refine zc_iconst (v := (1 : Int32)) o dX8_init_75 (by decide) ?_
  refine zc_iconst (v := (4 : Int32)) o dX8_init_76 (by decide) ?_
  refine zc_iast (a := 530) o (by omega) zu_e (by unfold vp_in; decide) dX8_init_77 ?_
  refine zc_aload_n o 0 dX8_init_78 rfl rfl ?_
  refine zc_getf (a := 529) o 0 zc8 (by omega) ((zu_n (by omega)).trans ((zu_n (by omega)).trans zu_e)) (Nat.le_of_ble_eq_true rfl) wvX8_7 rfl dX8_init_79 ?_
  refine zc_iconst (v := (2 : Int32)) o dX8_init_82 (by decide) ?_
  refine zc_iconst (v := (3 : Int32)) o dX8_init_83 (by decide) ?_
  refine zc_iast (a := 530) o (by omega) zu_e (by unfold vp_in; decide) dX8_init_84 ?_
  refine zc_aload_n o 0 dX8_init_85 rfl rfl ?_
  refine zc_getf (a := 529) o 0 zc8 (by omega) ((zu_n (by omega)).trans ((zu_n (by omega)).trans ((zu_n (by omega)).trans zu_e))) (Nat.le_of_ble_eq_true rfl) wvX8_7 rfl dX8_init_86 ?_
  refine zc_iconst (v := (3 : Int32)) o dX8_init_89 (by decide) ?_
  refine zc_iconst (v := (5 : Int32)) o dX8_init_90 (by decide) ?_
  refine zc_iast (a := 530) o (by omega) zu_e (by unfold vp_in; decide) dX8_init_91 ?_
  refine zc_iconst (v := (0 : Int32)) o dX8_init_92 (by decide) ?_
  refine zc_istore_n o [(1, .int (0 : Int32)), (0, .ref (G.2.2 + 529))] dX8_init_93 rfl (by decide) rfl ?_
  refine zc_eq (n := 537) (E2 := va_up (fun r => if r = 530 then E 530 else zMod G E r) 530 (.inl (G.2.1 0, 276, .inl (zs1 0)))) (fun r hr => Or.inl ?_) (klX8 o rfl 15 0 rfl ?_)
  · by_cases h1 : r = 530
    · subst h1
      rw [zu_e, zu_e]
      refine congrArg (fun f => (Sum.inl (G.2.1 0, 276, Sum.inl f) : va_E)) (funext fun j => ?_)
      unfold zs1
      rw [if_neg (by omega)]
      rfl
    · rw [zu_n h1, zu_n h1, zu_n h1, zu_n h1, zu_n h1]
      rw [if_neg h1]
      unfold zMod
      by_cases h2 : r < 529
      · rw [if_pos h2, zu_n (by omega), zu_n (by omega), zu_n (by omega), zu_n (by omega), zu_n (by omega), zu_n (by omega), zu_n (by omega), zu_n (by omega), zu_n (by omega), zu_n (by omega), zu_n (by omega), zu_n (by omega), zu_n (by omega), zu_n (by omega)]
      · rw [if_neg h2]
        rcases (show r = 529 ∨ r = 531 ∨ r = 532 ∨ r = 533 ∨ r = 534 ∨ r = 535 ∨ r = 536 by omega) with rfl | rfl | rfl | rfl | rfl | rfl | rfl <;> rfl
  · refine zc_vret (n := 537) o (fun r hr => Or.inl ?_) rfl rfl dX8_init_116
    by_cases h1 : r = 530
    · subst h1
      rw [zu_e]
      rfl
    · rw [zu_n h1]
      exact if_neg h1
