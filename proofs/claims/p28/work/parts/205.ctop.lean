/-- the memory with which all begins -/
def zM0 : zMem := fun r => if r < 1 then fun _ => 0 else if r < 53 then z_m0c (r - 1) else if r < 55 then fun _ => 0 else if r < 419 then z_m0c ((r - 55) % 52) else if r < 422 then fun _ => 0 else if r < 526 then z_m0c ((r - 422) % 52) else fun _ => 0
def zs1 (i : Nat) : Nat → Int32 := fun j => if 8 ≤ j ∧ j < 8 + i then 1 else z_s0 j
def zM1 : zMem := fun r => if r = 530 then zs1 15 else zM0 r
theorem zkd_a {r : Nat} (h1 : 1 ≤ r) (h2 : r < 53) : z_kd r = z_ck (r - 1) := by
  unfold z_kd
  rw [if_neg (by omega), if_pos h2]
theorem zkd_b {r : Nat} (h1 : 55 ≤ r) (h2 : r < 419) : z_kd r = z_ck ((r - 55) % 52) := by
  unfold z_kd
  rw [if_neg (by omega), if_neg (by omega), if_neg (by omega), if_neg (by omega), if_pos h2]
theorem zkd_c {r : Nat} (h1 : 422 ≤ r) (h2 : r < 526) : z_kd r = z_ck ((r - 422) % 52) := by
  unfold z_kd
  rw [if_neg (by omega), if_neg (by omega), if_neg (by omega), if_neg (by omega), if_neg (by omega), if_neg (by omega), if_neg (by omega), if_neg (by omega), if_pos h2]
theorem zM0_a {r : Nat} (h1 : 1 ≤ r) (h2 : r < 53) : zM0 r = z_m0c (r - 1) := by
  unfold zM0
  rw [if_neg (by omega), if_pos h2]
theorem zM0_b {r : Nat} (h1 : 55 ≤ r) (h2 : r < 419) : zM0 r = z_m0c ((r - 55) % 52) := by
  unfold zM0
  rw [if_neg (by omega), if_neg (by omega), if_neg (by omega), if_pos h2]
theorem zM0_c {r : Nat} (h1 : 422 ≤ r) (h2 : r < 526) : zM0 r = z_m0c ((r - 422) % 52) := by
  unfold zM0
  rw [if_neg (by omega), if_neg (by omega), if_neg (by omega), if_neg (by omega), if_neg (by omega), if_pos h2]
def zTop (G : zG) : zE := fun r => z_en G (zM0 r) r
set_option maxRecDepth 100000 in
set_option maxHeartbeats 4000000 in
theorem kX7_init (l : Launch) (G : zG) {E : zE} (hE : E 0 = .inr (7, zfsX7)) : zc_Met l G yX7_init cX7_init 1 4 82 528 3365 [.ref (G.2.2 + 0)] E 1 (zTop G) 529 := by
  refine zc_body (by decide) rfl (Nat.le_of_ble_eq_true rfl) (fun p e s m args below meth c o => ?_)
  have o : zcOk p s m args meth c G RX7 cX7_init 1 := o
  have hR1 : (zcRm 4 82 528 3365).cells = 528 := rfl
  have hR2 : (zcRm 4 82 528 3365).slots = 3365 := rfl
  show zc_At p l e (zcRm 4 82 528 3365) s m args below meth c _ G 1 0 0 0 [(0, .ref (G.2.2 + 0))] [] E 1
  refine zc_aload_n o 0 dX7_init_0 rfl rfl ?_
  refine zc_obj o woX7 wc_oi wc_oc dX7_init_1 (by decide) (by decide) ?_
  refine zc_aload_n o 0 dX7_init_4 rfl rfl ?_
  refine zc_new (fs := zfsX0) o zc0 wlX7_7 wzX0 wyX0 (by intro j hj; exact zfsX0_ok j hj) (by omega) (by omega) dX7_init_5 ?_
  refine zc_dup o dX7_init_8 rfl ?_
  refine zc_call o [] (kX0_init l G (q := 1) zu_e) mwX0_init rfl wmX7_9 wiX0_init rfl ⟨Nat.le_of_ble_eq_true rfl, Nat.le_of_ble_eq_true rfl⟩ ⟨by omega, by omega⟩ rfl (Nat.le_of_ble_eq_true rfl) dX7_init_9 ?_
  refine zc_putF (a := 0) (ty := tyX7 0) o 0 zc7 (by omega) ((zoX0 (by omega)).trans ((zu_n (by omega)).trans hE)) (Nat.le_of_ble_eq_true rfl) wvX7_10 rfl rfl (by decide +kernel) rfl rfl (Nat.le_of_ble_eq_true rfl) dX7_init_12 ?_
  refine zc_aload_n o 0 dX7_init_15 rfl rfl ?_
  refine zc_new (fs := zfsX2) o zc2 wlX7_16 wzX2 wyX2 (by intro j hj; exact zfsX2_ok j hj) (by omega) (by omega) dX7_init_16 ?_
  refine zc_dup o dX7_init_19 rfl ?_
  refine zc_call o [] (kX2_init l G (q := 53) zu_e) mwX2_init rfl wmX7_18 wiX2_init rfl ⟨Nat.le_of_ble_eq_true rfl, Nat.le_of_ble_eq_true rfl⟩ ⟨by omega, by omega⟩ rfl (Nat.le_of_ble_eq_true rfl) dX7_init_20 ?_
  refine zc_putF (a := 0) (ty := tyX7 1) o 1 zc7 (by omega) ((zoX2 (by omega)).trans ((zu_n (by omega)).trans zu_e)) (Nat.le_of_ble_eq_true rfl) wvX7_19 rfl rfl (by decide +kernel) rfl rfl (Nat.le_of_ble_eq_true rfl) dX7_init_23 ?_
  refine zc_aload_n o 0 dX7_init_26 rfl rfl ?_
  refine zc_new (fs := zfsX6) o zc6 wlX7_23 wzX6 wyX6 (by intro j hj; exact zfsX6_ok j hj) (by omega) (by omega) dX7_init_27 ?_
  refine zc_dup o dX7_init_30 rfl ?_
  refine zc_call o [] (kX6_init l G (q := 419) zu_e) mwX6_init rfl wmX7_25 wiX6_init rfl ⟨Nat.le_of_ble_eq_true rfl, Nat.le_of_ble_eq_true rfl⟩ ⟨by omega, by omega⟩ rfl (Nat.le_of_ble_eq_true rfl) dX7_init_31 ?_
  refine zc_putF (a := 0) (ty := tyX7 2) o 2 zc7 (by omega) ((zoX6 (by omega)).trans ((zu_n (by omega)).trans zu_e)) (Nat.le_of_ble_eq_true rfl) wvX7_26 rfl rfl (by decide +kernel) rfl rfl (Nat.le_of_ble_eq_true rfl) dX7_init_34 ?_
  refine zc_aload_n o 0 dX7_init_37 rfl rfl ?_
  refine zc_new (fs := zfsX4) o zc4 wlX7_30 wzX4 wyX4 (by intro j hj; exact zfsX4_ok j hj) (by omega) (by omega) dX7_init_38 ?_
  refine zc_dup o dX7_init_41 rfl ?_
  refine zc_callN o [] (kX4_init l G (q := 526) zu_e) mwX4_init rfl wmX7_32 wiX4_init rfl ⟨Nat.le_of_ble_eq_true rfl, Nat.le_of_ble_eq_true rfl⟩ ⟨by omega, by omega⟩ rfl (Nat.le_of_ble_eq_true rfl) dX7_init_42 ?_
  refine zc_putF (a := 0) (ty := tyX7 3) o 3 zc7 (by omega) ((zoX4 (by omega)).trans ((zu_n (by omega)).trans zu_e)) (Nat.le_of_ble_eq_true rfl) wvX7_33 rfl rfl (by decide +kernel) rfl rfl (Nat.le_of_ble_eq_true rfl) dX7_init_45 ?_
  refine zc_aload_n o 0 dX7_init_48 rfl rfl ?_
  refine zc_new (fs := zfsX3) o zc3 wlX7_37 wzX3 wyX3 (by intro j hj; exact zfsX3_ok j hj) (by omega) (by omega) dX7_init_49 ?_
  refine zc_dup o dX7_init_52 rfl ?_
  refine zc_aload_n o 0 dX7_init_53 rfl rfl ?_
  refine zc_getf (a := 0) o 3 zc7 (by omega) ((zu_n (by omega)).trans zu_e) (Nat.le_of_ble_eq_true rfl) wvX7_33 rfl dX7_init_54 ?_
  refine zc_call o [.ref (G.2.2 + 526)] (kX3_init l G (q := 528) (a := 526) zu_e) mwX3_init rfl wmX7_39 wiX3_init rfl ⟨Nat.le_of_ble_eq_true rfl, Nat.le_of_ble_eq_true rfl⟩ ⟨by omega, by omega⟩ rfl (Nat.le_of_ble_eq_true rfl) dX7_init_57 ?_
  refine zc_putF (a := 0) (ty := tyX7 4) o 4 zc7 (by omega) ((zoX3 (by omega)).trans ((zu_n (by omega)).trans zu_e)) (Nat.le_of_ble_eq_true rfl) wvX7_42 rfl rfl (by decide +kernel) rfl rfl (Nat.le_of_ble_eq_true rfl) dX7_init_60 ?_
  refine zc_vret (n := 529) o (fun r hr => ?_) rfl rfl dX7_init_63
  by_cases h420 : r = 420
  · subst h420
    refine Or.inr ⟨G.2.1 5, 2, (fun j => if j < 2 then some (G.2.2 + (419 + 3 + 52 * j)) else none), (fun i => some (G.2.2 + (420 + 2 + 52 * i))), ?_, rfl, ?_⟩
    · rw [zu_n (by decide), zoX3 (by omega), zu_n (by decide), zu_n (by decide), zoX4 (by omega), zu_n (by decide), zu_n (by decide)]
      unfold zSlo
      exact zLca
    · intro j hj
      exact if_pos hj
  by_cases h54 : r = 54
  · subst h54
    refine Or.inr ⟨G.2.1 5, 7, (fun j => if j < 7 then some (G.2.2 + (53 + 2 + 52 * j)) else none), (fun i => some (G.2.2 + (54 + 1 + 52 * i))), ?_, rfl, ?_⟩
    · rw [zu_n (by decide), zoX3 (by omega), zu_n (by decide), zu_n (by decide), zoX4 (by omega), zu_n (by decide), zu_n (by decide), zoX6 (by omega), zu_n (by decide), zu_n (by decide)]
      unfold zHis
      exact zLca
    · intro j hj
      exact if_pos hj
  refine Or.inl ?_
  show _ = z_en G (zM0 r) r
  by_cases h0 : r = 0
  · subst h0
    rw [zu_e]
    rfl
  rw [zu_n h0]
  by_cases h528 : r = 528
  · subst h528
    rw [ztX3]
    rfl
  rw [zoX3 (by omega), zu_n h528, zu_n h0]
  by_cases h526 : 526 ≤ r
  · rcases (show r = 526 ∨ r = 527 by omega) with rfl | rfl
    · rw [ztX4]
      rfl
    · unfold zPad
      rw [zu_e]
      rfl
  rw [zoX4 (by omega), zu_n (by omega), zu_n h0]
  by_cases h422 : 422 ≤ r
  · unfold zSlo
    rw [zLcC (by omega) (by omega), ← z_enk_kd, zkd_c h422 (by omega), zM0_c h422 (by omega)]
  by_cases h419 : 419 ≤ r
  · rcases (show r = 419 ∨ r = 421 by omega) with rfl | rfl
    · rw [ztX6]
      rfl
    · unfold zSlo
      rw [zLcE (by omega) (by omega), zu_e]
      rfl
  rw [zoX6 (by omega), zu_n (by omega), zu_n h0]
  by_cases h55 : 55 ≤ r
  · unfold zHis
    rw [zLcC (by omega) (by omega), ← z_enk_kd, zkd_b h55 (by omega), zM0_b h55 (by omega)]
  by_cases h53 : 53 ≤ r
  · have h53b : r = 53 := by omega
    subst h53b
    rw [ztX2]
    rfl
  rw [zoX2 (by omega), zu_n (by omega), zu_n h0]
  unfold zCan
  rw [if_pos ⟨by omega, by omega⟩, ← z_enk_kd, zkd_a (by omega) (by omega), zM0_a (by omega) (by omega)]

