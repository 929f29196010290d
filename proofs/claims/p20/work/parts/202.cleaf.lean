theorem zu_e {α : Type} {f : Nat → α} {k : Nat} {v : α} : va_up f k v k = v := if_pos rfl
theorem zu_n {α : Type} {f : Nat → α} {k j : Nat} {v : α} (h : j ≠ k) : va_up f k v j = f j := if_neg h
/-- an entry of a kind -/
def z_enk (G : zG) (f : Nat → Int32) (k q : Nat) : va_E := match z_nu k with
  | some (t, n) => .inl (G.2.1 t, n, .inl f)
  | none => match z_re k with
    | some (t, n, o, d) => .inl (G.2.1 t, n, .inr (.inr (.inr (.inr (fun i => some (G.2.2 + (q + o + d * i)))))))
    | none => .inr (k, z_fs G.2.2 f k q)
theorem z_enk_kd (G : zG) (f : Nat → Int32) (q : Nat) : z_enk G f (z_kd q) q = z_en G f q := rfl
/-- the numbers with which a canteen's objects begin, by their places in it -/
def z_s0 : Nat → Int32 := upd (upd (upd (upd (fun _ => 0) 0 1) 1 4) 2 3) 3 5
def z_p0 : Nat → Int32 := upd (upd (upd (upd (upd (fun _ => 0) 0 1) 1 1) 2 1) 3 1) 4 1
def z_m0c (r : Nat) : Nat → Int32 := if r = 1 then z_s0 else if 46 < r ∧ (r - 46) % 2 = 1 then z_p0 else fun _ => 0
def zfsX0 : List Value := [.null, .null, .null, .int 0, .int 0, .int 0]
theorem zfsX0_ok : ∀ j, j < 6 → defaultValue (tyX0 j) = vp_V zfsX0 j := by
  intro j hj
  rcases (show j = 0 ∨ j = 1 ∨ j = 2 ∨ j = 3 ∨ j = 4 ∨ j = 5 by omega) with rfl | rfl | rfl | rfl | rfl | rfl <;> rfl
def zfsX1 : List Value := [.null, .int 0, .int 0, .int 0, .int 0, .int 0]
theorem zfsX1_ok : ∀ j, j < 6 → defaultValue (tyX1 j) = vp_V zfsX1 j := by
  intro j hj
  rcases (show j = 0 ∨ j = 1 ∨ j = 2 ∨ j = 3 ∨ j = 4 ∨ j = 5 by omega) with rfl | rfl | rfl | rfl | rfl | rfl <;> rfl
def zfsX2 : List Value := [.null, .int 0, .int 0]
theorem zfsX2_ok : ∀ j, j < 3 → defaultValue (tyX2 j) = vp_V zfsX2 j := by
  intro j hj
  rcases (show j = 0 ∨ j = 1 ∨ j = 2 by omega) with rfl | rfl | rfl <;> rfl
def zfsX3 : List Value := [.null, .int 0, .int 0, .int 0, .int 0, .int 0, .int 0]
theorem zfsX3_ok : ∀ j, j < 7 → defaultValue (tyX3 j) = vp_V zfsX3 j := by
  intro j hj
  rcases (show j = 0 ∨ j = 1 ∨ j = 2 ∨ j = 3 ∨ j = 4 ∨ j = 5 ∨ j = 6 by omega) with rfl | rfl | rfl | rfl | rfl | rfl | rfl <;> rfl
def zfsX4 : List Value := [.null, .int 0]
theorem zfsX4_ok : ∀ j, j < 2 → defaultValue (tyX4 j) = vp_V zfsX4 j := by
  intro j hj
  rcases (show j = 0 ∨ j = 1 by omega) with rfl | rfl <;> rfl
def zfsX5 : List Value := [.null, .null, .int 0, .int 0, .int 0, .int 0, .int 0, .int 0, .int 0]
theorem zfsX5_ok : ∀ j, j < 9 → defaultValue (tyX5 j) = vp_V zfsX5 j := by
  intro j hj
  rcases (show j = 0 ∨ j = 1 ∨ j = 2 ∨ j = 3 ∨ j = 4 ∨ j = 5 ∨ j = 6 ∨ j = 7 ∨ j = 8 by omega) with rfl | rfl | rfl | rfl | rfl | rfl | rfl | rfl | rfl <;> rfl
def zfsX6 : List Value := [.null, .null]
theorem zfsX6_ok : ∀ j, j < 2 → defaultValue (tyX6 j) = vp_V zfsX6 j := by
  intro j hj
  rcases (show j = 0 ∨ j = 1 by omega) with rfl | rfl <;> rfl
def zfsX7 : List Value := [.null, .null, .null, .null, .null]
theorem zfsX7_ok : ∀ j, j < 5 → defaultValue (tyX7 j) = vp_V zfsX7 j := by
  intro j hj
  rcases (show j = 0 ∨ j = 1 ∨ j = 2 ∨ j = 3 ∨ j = 4 by omega) with rfl | rfl | rfl | rfl | rfl <;> rfl
def zfsX8 : List Value := [.null, .null, .null, .null, .null, .null, .null, .int 0, .int 0, .int 0, .int 0]
theorem zfsX8_ok : ∀ j, j < 11 → defaultValue (tyX8 j) = vp_V zfsX8 j := by
  intro j hj
  rcases (show j = 0 ∨ j = 1 ∨ j = 2 ∨ j = 3 ∨ j = 4 ∨ j = 5 ∨ j = 6 ∨ j = 7 ∨ j = 8 ∨ j = 9 ∨ j = 10 by omega) with rfl | rfl | rfl | rfl | rfl | rfl | rfl | rfl | rfl | rfl | rfl <;> rfl
def zPer (G : zG) (E : zE) (q : Nat) : zE := va_up (va_up (va_up E q (.inr (5, [.ref (G.2.2 + (q + 1)), .ref (G.2.2 + (q + 1 + 1)), .int 0, .int 0, .int 0, .int 0, .int 0, .int 0, .int 0]))) (q + 1) (.inl (G.2.1 0, 5, .inl (fun _ => 0)))) (q + 1 + 1) (.inl (G.2.1 0, 5, .inl (fun _ => 0)))
def zDsh (G : zG) (E : zE) (q : Nat) : zE := va_up (va_up E q (.inr (1, [.ref (G.2.2 + (q + 1)), .int 0, .int 0, .int 0, .int 0, .int 0]))) (q + 1) (.inl (G.2.1 0, 5, .inl z_p0))
def zPad (G : zG) (E : zE) (q : Nat) : zE := va_up (va_up E q (.inr (4, [.ref (G.2.2 + (q + 1)), .int 0]))) (q + 1) (.inl (G.2.1 1, 80, .inl (fun _ => 0)))
def zRdr (G : zG) (E : zE) (q a : Nat) : zE := va_up E q (.inr (3, [.ref (G.2.2 + a), .int 0, .int 0, .int 0, .int 0, .int 0, .int 0]))
theorem zoX5 {G : zG} {E : zE} {q j : Nat} (h : ¬ (q ≤ j ∧ j ≤ q + 2)) : zPer G E q j = E j := by
  unfold zPer
  rw [zu_n (by omega), zu_n (by omega), zu_n (by omega)]
theorem ztX5 {G : zG} {E : zE} {q : Nat} : zPer G E q q = .inr (5, [.ref (G.2.2 + (q + 1)), .ref (G.2.2 + (q + 1 + 1)), .int 0, .int 0, .int 0, .int 0, .int 0, .int 0, .int 0]) := by
  unfold zPer
  rw [zu_n (by omega), zu_n (by omega), zu_e]
theorem zoX1 {G : zG} {E : zE} {q j : Nat} (h : ¬ (q ≤ j ∧ j ≤ q + 1)) : zDsh G E q j = E j := by
  unfold zDsh
  rw [zu_n (by omega), zu_n (by omega)]
theorem ztX1 {G : zG} {E : zE} {q : Nat} : zDsh G E q q = .inr (1, [.ref (G.2.2 + (q + 1)), .int 0, .int 0, .int 0, .int 0, .int 0]) := by
  unfold zDsh
  rw [zu_n (by omega), zu_e]
theorem zoX4 {G : zG} {E : zE} {q j : Nat} (h : ¬ (q ≤ j ∧ j ≤ q + 1)) : zPad G E q j = E j := by
  unfold zPad
  rw [zu_n (by omega), zu_n (by omega)]
theorem ztX4 {G : zG} {E : zE} {q : Nat} : zPad G E q q = .inr (4, [.ref (G.2.2 + (q + 1)), .int 0]) := by
  unfold zPad
  rw [zu_n (by omega), zu_e]
theorem zoX3 {G : zG} {E : zE} {q a j : Nat} (h : ¬ (q ≤ j ∧ j ≤ q)) : zRdr G E q a j = E j := by
  unfold zRdr
  rw [zu_n (by omega)]
theorem ztX3 {G : zG} {E : zE} {q a : Nat} : zRdr G E q a q = .inr (3, [.ref (G.2.2 + a), .int 0, .int 0, .int 0, .int 0, .int 0, .int 0]) := zu_e
set_option maxRecDepth 100000 in
set_option maxHeartbeats 4000000 in
theorem kX5_init (l : Launch) (G : zG) {E : zE} {q : Nat} (hE : E q = .inr (5, zfsX5)) : zc_Met l G yX5_init cX5_init 1 1 12 2 10 [.ref (G.2.2 + q)] E (q + 1) (zPer G E q) (q + 1 + 1 + 1) := by
  refine zc_body (by decide) rfl (Nat.le_of_ble_eq_true rfl) (fun p e s m args below meth c o => ?_)
  have o : zcOk p s m args meth c G RX5 cX5_init 1 := o
  have hR1 : (zcRm 1 12 2 10).cells = 2 := rfl
  have hR2 : (zcRm 1 12 2 10).slots = 10 := rfl
  show zc_At p l e (zcRm 1 12 2 10) s m args below meth c _ G 1 0 0 0 [(0, .ref (G.2.2 + q))] [] E (q + 1)
  refine zc_aload_n o 0 dX5_init_0 rfl rfl ?_
  refine zc_obj o woX5 wc_oi wc_oc dX5_init_1 (by decide) (by decide) ?_
  refine zc_aload_n o 0 dX5_init_4 rfl rfl ?_
  refine zc_iconst (v := (5 : Int32)) o dX5_init_5 (by decide) ?_
  refine zc_newa (at_ := .int) (ty := .int) (N := 5) (t := 0) o rfl (Or.inl ⟨rfl, rfl⟩) wc_aint (by decide) (by decide) (by decide +kernel) (by omega) (by omega) dX5_init_6 ?_
  refine zc_putF (a := q) (ty := tyX5 0) o 0 zc5 (by omega) ((zu_n (by omega)).trans hE) (Nat.le_of_ble_eq_true rfl) wvX5_9 rfl rfl (by decide +kernel) rfl rfl (Nat.le_of_ble_eq_true rfl) dX5_init_8 ?_
  refine zc_aload_n o 0 dX5_init_11 rfl rfl ?_
  refine zc_iconst (v := (5 : Int32)) o dX5_init_12 (by decide) ?_
  refine zc_newa (at_ := .int) (ty := .int) (N := 5) (t := 0) o rfl (Or.inl ⟨rfl, rfl⟩) wc_aint (by decide) (by decide) (by decide +kernel) (by omega) (by omega) dX5_init_13 ?_
  refine zc_putF (a := q) (ty := tyX5 1) o 1 zc5 (by omega) ((zu_n (by omega)).trans zu_e) (Nat.le_of_ble_eq_true rfl) wvX5_15 rfl rfl (by decide +kernel) rfl rfl (Nat.le_of_ble_eq_true rfl) dX5_init_15 ?_
  exact zc_vret o (fun k hk => Or.inl (by unfold zPer va_up; (repeat' split) <;> first | rfl | omega)) (by omega) (by omega) dX5_init_18
set_option maxRecDepth 100000 in
set_option maxHeartbeats 4000000 in
theorem kX1_init (l : Launch) (G : zG) {E : zE} {q : Nat} (hE : E q = .inr (1, zfsX1)) : zc_Met l G yX1_init cX1_init 1 1 12 1 5 [.ref (G.2.2 + q)] E (q + 1) (zDsh G E q) (q + 1 + 1) := by
  refine zc_body (by decide) rfl (Nat.le_of_ble_eq_true rfl) (fun p e s m args below meth c o => ?_)
  have o : zcOk p s m args meth c G RX1 cX1_init 1 := o
  have hR1 : (zcRm 1 12 1 5).cells = 1 := rfl
  have hR2 : (zcRm 1 12 1 5).slots = 5 := rfl
  show zc_At p l e (zcRm 1 12 1 5) s m args below meth c _ G 1 0 0 0 [(0, .ref (G.2.2 + q))] [] E (q + 1)
  refine zc_aload_n o 0 dX1_init_0 rfl rfl ?_
  refine zc_obj o woX1 wc_oi wc_oc dX1_init_1 (by decide) (by decide) ?_
  refine zc_aload_n o 0 dX1_init_4 rfl rfl ?_
  refine zc_iconst (v := (5 : Int32)) o dX1_init_5 (by decide) ?_
  refine zc_newa (at_ := .int) (ty := .int) (N := 5) (t := 0) o rfl (Or.inl ⟨rfl, rfl⟩) wc_aint (by decide) (by decide) (by decide +kernel) (by omega) (by omega) dX1_init_6 ?_
  refine zc_dup o dX1_init_8 rfl ?_
  refine zc_iconst (v := (0 : Int32)) o dX1_init_9 (by decide) ?_
  refine zc_iconst (v := (1 : Int32)) o dX1_init_10 (by decide) ?_
  refine zc_iast (a := (q + 1)) o (by omega) zu_e (by unfold vp_in; decide) dX1_init_11 ?_
  refine zc_dup o dX1_init_12 rfl ?_
  refine zc_iconst (v := (1 : Int32)) o dX1_init_13 (by decide) ?_
  refine zc_iconst (v := (1 : Int32)) o dX1_init_14 (by decide) ?_
  refine zc_iast (a := (q + 1)) o (by omega) zu_e (by unfold vp_in; decide) dX1_init_15 ?_
  refine zc_dup o dX1_init_16 rfl ?_
  refine zc_iconst (v := (2 : Int32)) o dX1_init_17 (by decide) ?_
  refine zc_iconst (v := (1 : Int32)) o dX1_init_18 (by decide) ?_
  refine zc_iast (a := (q + 1)) o (by omega) zu_e (by unfold vp_in; decide) dX1_init_19 ?_
  refine zc_dup o dX1_init_20 rfl ?_
  refine zc_iconst (v := (3 : Int32)) o dX1_init_21 (by decide) ?_
  refine zc_iconst (v := (1 : Int32)) o dX1_init_22 (by decide) ?_
  refine zc_iast (a := (q + 1)) o (by omega) zu_e (by unfold vp_in; decide) dX1_init_23 ?_
  refine zc_dup o dX1_init_24 rfl ?_
  refine zc_iconst (v := (4 : Int32)) o dX1_init_25 (by decide) ?_
  refine zc_iconst (v := (1 : Int32)) o dX1_init_26 (by decide) ?_
  refine zc_iast (a := (q + 1)) o (by omega) zu_e (by unfold vp_in; decide) dX1_init_27 ?_
  refine zc_putF (a := q) (ty := tyX1 0) o 0 zc1 (by omega) ((zu_n (by omega)).trans ((zu_n (by omega)).trans ((zu_n (by omega)).trans ((zu_n (by omega)).trans ((zu_n (by omega)).trans ((zu_n (by omega)).trans hE)))))) (Nat.le_of_ble_eq_true rfl) wvX1_9 rfl rfl (by decide +kernel) rfl rfl (Nat.le_of_ble_eq_true rfl) dX1_init_28 ?_
  exact zc_vret o (fun k hk => Or.inl (by unfold zDsh va_up; (repeat' split) <;> first | rfl | omega)) (by omega) (by omega) dX1_init_31
set_option maxRecDepth 100000 in
set_option maxHeartbeats 4000000 in
theorem kX4_init (l : Launch) (G : zG) {E : zE} {q : Nat} (hE : E q = .inr (4, zfsX4)) : zc_Met l G yX4_init cX4_init 1 1 12 1 80 [.ref (G.2.2 + q)] E (q + 1) (zPad G E q) (q + 1 + 1) := by
  refine zc_body (by decide) rfl (Nat.le_of_ble_eq_true rfl) (fun p e s m args below meth c o => ?_)
  have o : zcOk p s m args meth c G RX4 cX4_init 1 := o
  have hR1 : (zcRm 1 12 1 80).cells = 1 := rfl
  have hR2 : (zcRm 1 12 1 80).slots = 80 := rfl
  show zc_At p l e (zcRm 1 12 1 80) s m args below meth c _ G 1 0 0 0 [(0, .ref (G.2.2 + q))] [] E (q + 1)
  refine zc_aload_n o 0 dX4_init_0 rfl rfl ?_
  refine zc_obj o woX4 wc_oi wc_oc dX4_init_1 (by decide) (by decide) ?_
  refine zc_aload_n o 0 dX4_init_4 rfl rfl ?_
  refine zc_bipush (v := (80 : Int32)) o dX4_init_5 (by decide) ?_
  refine zc_newa (at_ := .char) (ty := .char) (N := 80) (t := 1) o rfl (Or.inr (Or.inl ⟨rfl, rfl⟩)) wc_achar (by decide) (by decide) (by decide +kernel) (by omega) (by omega) dX4_init_7 ?_
  refine zc_putF (a := q) (ty := tyX4 0) o 0 zc4 (by omega) ((zu_n (by omega)).trans hE) (Nat.le_of_ble_eq_true rfl) wvX4_9 rfl rfl (by decide +kernel) rfl rfl (Nat.le_of_ble_eq_true rfl) dX4_init_9 ?_
  exact zc_vret o (fun k hk => Or.inl (by unfold zPad va_up; (repeat' split) <;> first | rfl | omega)) (by omega) (by omega) dX4_init_12
set_option maxRecDepth 100000 in
set_option maxHeartbeats 4000000 in
theorem kX3_init (l : Launch) (G : zG) {E : zE} {q a : Nat} (hE : E q = .inr (3, zfsX3)) : zc_Met l G yX3_init cX3_init 2 1 12 0 0 [.ref (G.2.2 + q), .ref (G.2.2 + a)] E (q + 1) (zRdr G E q a) (q + 1) := by
  refine zc_body (by decide) rfl (Nat.le_of_ble_eq_true rfl) (fun p e s m args below meth c o => ?_)
  have o : zcOk p s m args meth c G RX3 cX3_init 2 := o
  have hR1 : (zcRm 1 12 0 0).cells = 0 := rfl
  have hR2 : (zcRm 1 12 0 0).slots = 0 := rfl
  show zc_At p l e (zcRm 1 12 0 0) s m args below meth c _ G 2 0 0 0 [(0, .ref (G.2.2 + q)), (1, .ref (G.2.2 + a))] [] E (q + 1)
  refine zc_aload_n o 0 dX3_init_0 rfl rfl ?_
  refine zc_obj o woX3 wc_oi wc_oc dX3_init_1 (by decide) (by decide) ?_
  refine zc_aload_n o 0 dX3_init_4 rfl rfl ?_
  refine zc_aload_n o 1 dX3_init_5 rfl rfl ?_
  refine zc_putF (a := q) (ty := tyX3 0) o 0 zc3 (by omega) hE (Nat.le_of_ble_eq_true rfl) wvX3_9 rfl rfl (by decide +kernel) rfl rfl (Nat.le_of_ble_eq_true rfl) dX3_init_6 ?_
  exact zc_vret o (fun k hk => Or.inl (by unfold zRdr va_up; (repeat' split) <;> first | rfl | omega)) (by omega) (by omega) dX3_init_9
