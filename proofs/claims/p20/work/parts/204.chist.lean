/-- a row of canteens: array a, first canteen base, N of them, i made -/
def zLc (G : zG) (E : zE) (a base N i : Nat) : zE := fun r => if r = a then zRf (G.2.1 5) N (fun j => if j < i then some (G.2.2 + (base + 52 * j)) else none) else if r < base then E r else z_enk G (z_m0c ((r - base) % 52)) (z_ck ((r - base) % 52)) r
theorem zLca {G : zG} {E : zE} {a base N i : Nat} : zLc G E a base N i a = zRf (G.2.1 5) N (fun j => if j < i then some (G.2.2 + (base + 52 * j)) else none) := if_pos rfl
theorem zLcE {G : zG} {E : zE} {a base N i r : Nat} (h1 : r ≠ a) (h2 : r < base) : zLc G E a base N i r = E r := by
  unfold zLc
  rw [if_neg h1, if_pos h2]
theorem zLcC {G : zG} {E : zE} {a base N i r : Nat} (h1 : r ≠ a) (h2 : base ≤ r) : zLc G E a base N i r = z_enk G (z_m0c ((r - base) % 52)) (z_ck ((r - base) % 52)) r := by
  unfold zLc
  rw [if_neg h1, if_neg (by omega)]
theorem zLc0 {G : zG} {E : zE} {a base N r : Nat} (h : r < base) (ha : E a = zRf (G.2.1 5) N (fun _ => none)) : E r = zLc G E a base N 0 r := by
  by_cases hr : r = a
  · subst hr
    rw [zLca, ha]
    simp
  · rw [zLcE hr h]
/-- one more canteen -/
theorem zLcS {G : zG} {E : zE} {a base N i r : Nat} {fs : List Value} (hab : a < base) (hi : i < 2 ^ 31) (hr : r < base + 52 * i + 52) : va_up (zCan G (va_up (zLc G E a base N i) (base + 52 * i) (.inr (0, fs))) (base + 52 * i)) a (zRf (G.2.1 5) N (va_up (fun j => if j < i then some (G.2.2 + (base + 52 * j)) else none) (nI i).toNatClampNeg (some (G.2.2 + (base + 52 * i))))) r = zLc G E a base N (i + 1) r := by
  by_cases h : r = a
  · subst h
    rw [zu_e, zLca, nI_clamp hi]
    refine congrArg (zRf (G.2.1 5) N) (funext fun j => ?_)
    unfold va_up
    by_cases hj : j = i
    · subst hj
      rw [if_pos rfl, if_pos (Nat.lt_succ_self j)]
    · rw [if_neg hj]
      dsimp only
      by_cases hj2 : j < i
      · rw [if_pos hj2, if_pos (by omega)]
      · rw [if_neg hj2, if_neg (by omega)]
  · rw [zu_n h]
    by_cases h3 : r < base + 52 * i
    · rw [zoX0 (by omega), zu_n (by omega)]
      unfold zLc
      rw [if_neg h, if_neg h]
    · rw [zLcC h (by omega)]
      unfold zCan
      rw [if_pos ⟨by omega, by omega⟩, show (r - base) % 52 = r - (base + 52 * i) by omega]
def zHis (G : zG) (E : zE) (h : Nat) : zE := zLc G (va_up E h (.inr (2, [.ref (G.2.2 + (h + 1)), .int 0, .int 0]))) (h + 1) (h + 2) 7 7
def zSlo (G : zG) (E : zE) (h : Nat) : zE := zLc G (va_up (va_up E h (.inr (6, [.ref (G.2.2 + (h + 1)), .ref (G.2.2 + (h + 2))]))) (h + 2) (.inl (G.2.1 2, 2, .inl (fun _ => 0)))) (h + 1) (h + 3) 2 2
theorem zoX2 {G : zG} {E : zE} {h r : Nat} (hr : r < h) : zHis G E h r = E r := by
  unfold zHis
  rw [zLcE (by omega) (by omega), zu_n (by omega)]
theorem ztX2 {G : zG} {E : zE} {h : Nat} : zHis G E h h = .inr (2, [.ref (G.2.2 + (h + 1)), .int 0, .int 0]) := by
  unfold zHis
  rw [zLcE (by omega) (by omega), zu_e]
theorem zoX6 {G : zG} {E : zE} {h r : Nat} (hr : r < h) : zSlo G E h r = E r := by
  unfold zSlo
  rw [zLcE (by omega) (by omega), zu_n (by omega), zu_n (by omega)]
theorem ztX6 {G : zG} {E : zE} {h : Nat} : zSlo G E h h = .inr (6, [.ref (G.2.2 + (h + 1)), .ref (G.2.2 + (h + 2))]) := by
  unfold zSlo
  rw [zLcE (by omega) (by omega), zu_n (by omega), zu_e]
set_option maxRecDepth 100000 in
set_option maxHeartbeats 4000000 in
theorem klX2 {p : Program} {l : Launch} {e : Env} {s : State} {m : MethodId} {args : Array Value} {below : List Frame} {meth : Method} {c : Code} {Q : State → Prop} {G : zG} (o : zcOk p s m args meth c G RX2 cX2_init 2) {q : Nat} {E : zE} {fs : List Value} (hE : E q = .inr (2, .ref (G.2.2 + (q + 1)) :: fs)) : ∀ (k i : Nat), i + k = 7 → zc_At p l e (zcRm 3 61 365 2289) s m args below meth c Q G 2 (1 + 52 * 7) (7 + 326 * 7) 40 [] [] (zLc G E (q + 1) (q + 2) 7 7) (q + 2 + 52 * 7) → zc_At p l e (zcRm 3 61 365 2289) s m args below meth c Q G 2 (1 + 52 * i) (7 + 326 * i) 15 [(1, .int (nI i)), (0, .ref (G.2.2 + q))] [] (zLc G E (q + 1) (q + 2) 7 i) (q + 2 + 52 * i) := by
  have hR1 : (zcRm 3 61 365 2289).cells = 365 := rfl
  have hR2 : (zcRm 3 61 365 2289).slots = 2289 := rfl
  intro k
  induction k with
  | zero =>
    intro i hi h
    have hi : i = 7 := by omega
    subst hi
    refine zc_iload_n o 0 dX2_init_15 rfl rfl ?_
    refine zc_bipush (v := (6 : Int32)) o dX2_init_16 (by decide) ?_
    refine zc_icmp_gt o 40 dX2_init_18 (by decide) (fun _ => ?_) (fun c1 => absurd ((nI_ltI (a := 6) (b := 7) (by decide) (by decide)).mpr (by decide)) c1)
    exact zc_sub [] rfl h
  | succ k ih =>
    intro i hi h
    refine zc_iload_n o 0 dX2_init_15 rfl rfl ?_
    refine zc_bipush (v := (6 : Int32)) o dX2_init_16 (by decide) ?_
    refine zc_icmp_gt o 40 dX2_init_18 (by decide) (fun c1 => absurd ((nI_ltI (a := 6) (b := i) (by omega) (by omega)).mp c1) (by omega)) (fun _ => ?_)
    refine zc_aload_n o 1 dX2_init_21 rfl rfl ?_
    refine zc_getf (a := q) o 0 zc2 (by omega) ((zLcE (by omega) (by omega)).trans hE) (Nat.le_of_ble_eq_true rfl) wvX2_11 rfl dX2_init_22 ?_
    refine zc_iload_n o 0 dX2_init_25 rfl rfl ?_
    refine zc_new (fs := zfsX0) o zc0 wlX2_9 wzX0 wyX0 (by intro j hj; exact zfsX0_ok j hj) (by omega) (by omega) dX2_init_26 ?_
    refine zc_dup o dX2_init_29 rfl ?_
    refine zc_call o [] (kX0_init l G (q := (q + 2 + 52 * i)) zu_e) mwX0_init rfl wmX2_17 wiX0_init rfl ⟨Nat.le_of_ble_eq_true rfl, Nat.le_of_ble_eq_true rfl⟩ ⟨by omega, by omega⟩ rfl (Nat.le_of_ble_eq_true rfl) dX2_init_30 ?_
    refine zc_aast (a := (q + 1)) (v := (q + 2 + 52 * i)) (t := 5) o zc0 rfl (by omega) ((zoX0 (by omega)).trans ((zu_n (by omega)).trans zLca)) (by omega) ztX0 (vp_in_nI (by omega) (by decide)) dX2_init_33 ?_
    refine zc_iinc o (nI (i + 1)) 0 [(1, .int (nI (i + 1))), (0, .ref (G.2.2 + q))] dX2_init_34 rfl (nI_1 i) (by decide) rfl ?_
    refine zc_goto o 15 dX2_init_37 (by decide) ?_
    have hh := ih (i + 1) (by omega) h
    rw [show 1 + 52 * (i + 1) = 1 + 52 * i + 1 + 51 by omega, show 7 + 326 * (i + 1) = 7 + 326 * i + 6 + 320 by omega, show q + 2 + 52 * (i + 1) = q + 2 + 52 * i + 52 by omega] at hh
    exact zc_eq (fun r hr => Or.inl (zLcS (by omega) (by omega) hr)) hh
set_option maxRecDepth 100000 in
set_option maxHeartbeats 4000000 in
theorem kX2_init (l : Launch) (G : zG) {E : zE} {q : Nat} (hE : E q = .inr (2, zfsX2)) : zc_Met l G yX2_init cX2_init 2 3 61 365 2289 [.ref (G.2.2 + q)] E (q + 1) (zHis G E q) (q + 2 + 52 * 7) := by
  refine zc_body (by decide) rfl (Nat.le_of_ble_eq_true rfl) (fun p e s m args below meth c o => ?_)
  have o : zcOk p s m args meth c G RX2 cX2_init 2 := o
  have hR1 : (zcRm 3 61 365 2289).cells = 365 := rfl
  have hR2 : (zcRm 3 61 365 2289).slots = 2289 := rfl
  show zc_At p l e (zcRm 3 61 365 2289) s m args below meth c _ G 2 0 0 0 [(0, .ref (G.2.2 + q))] [] E (q + 1)
  refine zc_aload_n o 0 dX2_init_0 rfl rfl ?_
  refine zc_obj o woX2 wc_oi wc_oc dX2_init_1 (by decide) (by decide) ?_
  refine zc_aload_n o 0 dX2_init_4 rfl rfl ?_
  refine zc_bipush (v := (7 : Int32)) o dX2_init_5 (by decide) ?_
  refine zc_anewa (t := 5) (N := 7) (C := RX0) o (by decide) rfl wlX2_9 (by decide) (by decide) (by decide) (by omega) (by omega) dX2_init_7 ?_
  refine zc_putF (a := q) (ty := tyX2 0) o 0 zc2 (by omega) ((zu_n (by omega)).trans hE) (Nat.le_of_ble_eq_true rfl) wvX2_11 rfl rfl (by decide +kernel) rfl rfl (Nat.le_of_ble_eq_true rfl) dX2_init_10 ?_
  refine zc_iconst (v := (0 : Int32)) o dX2_init_13 (by decide) ?_
  refine zc_istore_n o [(1, .int (0 : Int32)), (0, .ref (G.2.2 + q))] dX2_init_14 rfl (by decide) rfl ?_
  refine zc_eq (E2 := zLc G (va_up E q (.inr (2, [.ref (G.2.2 + (q + 1)), .int 0, .int 0]))) (q + 1) (q + 2) 7 0) ?_ (klX2 o zu_e 7 0 rfl ?_)
  · skip
    intro r hr
    refine Or.inl ?_
    by_cases h1 : r = q + 1
    · subst h1
      rw [zLca, zu_n (by omega), zu_e]
      simp
    · rw [zLcE h1 (by omega)]
      by_cases h2 : r = q
      · subst h2
        rw [zu_e, zu_e]
        rfl
      · rw [zu_n h2, zu_n h1, zu_n h2]
  · exact zc_vret o (fun r hr => Or.inl rfl) rfl rfl dX2_init_40
set_option maxRecDepth 100000 in
set_option maxHeartbeats 4000000 in
theorem klX6 {p : Program} {l : Launch} {e : Env} {s : State} {m : MethodId} {args : Array Value} {below : List Frame} {meth : Method} {c : Code} {Q : State → Prop} {G : zG} (o : zcOk p s m args meth c G RX6 cX6_init 2) {q : Nat} {E : zE} {fs : List Value} (hE : E q = .inr (6, .ref (G.2.2 + (q + 1)) :: fs)) : ∀ (k i : Nat), i + k = 2 → zc_At p l e (zcRm 3 61 106 656) s m args below meth c Q G 2 (2 + 52 * 2) (4 + 326 * 2) 45 [] [] (zLc G E (q + 1) (q + 3) 2 2) (q + 3 + 52 * 2) → zc_At p l e (zcRm 3 61 106 656) s m args below meth c Q G 2 (2 + 52 * i) (4 + 326 * i) 21 [(1, .int (nI i)), (0, .ref (G.2.2 + q))] [] (zLc G E (q + 1) (q + 3) 2 i) (q + 3 + 52 * i) := by
  have hR1 : (zcRm 3 61 106 656).cells = 106 := rfl
  have hR2 : (zcRm 3 61 106 656).slots = 656 := rfl
  intro k
  induction k with
  | zero =>
    intro i hi h
    have hi : i = 2 := by omega
    subst hi
    refine zc_iload_n o 0 dX6_init_21 rfl rfl ?_
    refine zc_iconst (v := (2 : Int32)) o dX6_init_22 (by decide) ?_
    refine zc_icmp_ge o 45 dX6_init_23 (by decide) (fun _ => ?_) (fun c1 => absurd (Int32.le_refl _) c1)
    exact zc_sub [] rfl h
  | succ k ih =>
    intro i hi h
    refine zc_iload_n o 0 dX6_init_21 rfl rfl ?_
    refine zc_iconst (v := (2 : Int32)) o dX6_init_22 (by decide) ?_
    refine zc_icmp_ge o 45 dX6_init_23 (by decide) (fun c1 => absurd ((nI_leI (a := 2) (b := i) (by omega) (by omega)).mp c1) (by omega)) (fun _ => ?_)
    refine zc_aload_n o 1 dX6_init_26 rfl rfl ?_
    refine zc_getf (a := q) o 0 zc6 (by omega) ((zLcE (by omega) (by omega)).trans hE) (Nat.le_of_ble_eq_true rfl) wvX6_11 rfl dX6_init_27 ?_
    refine zc_iload_n o 0 dX6_init_30 rfl rfl ?_
    refine zc_new (fs := zfsX0) o zc0 wlX6_9 wzX0 wyX0 (by intro j hj; exact zfsX0_ok j hj) (by omega) (by omega) dX6_init_31 ?_
    refine zc_dup o dX6_init_34 rfl ?_
    refine zc_call o [] (kX0_init l G (q := (q + 3 + 52 * i)) zu_e) mwX0_init rfl wmX6_21 wiX0_init rfl ⟨Nat.le_of_ble_eq_true rfl, Nat.le_of_ble_eq_true rfl⟩ ⟨by omega, by omega⟩ rfl (Nat.le_of_ble_eq_true rfl) dX6_init_35 ?_
    refine zc_aast (a := (q + 1)) (v := (q + 3 + 52 * i)) (t := 5) o zc0 rfl (by omega) ((zoX0 (by omega)).trans ((zu_n (by omega)).trans zLca)) (by omega) ztX0 (vp_in_nI (by omega) (by decide)) dX6_init_38 ?_
    refine zc_iinc o (nI (i + 1)) 0 [(1, .int (nI (i + 1))), (0, .ref (G.2.2 + q))] dX6_init_39 rfl (nI_1 i) (by decide) rfl ?_
    refine zc_goto o 21 dX6_init_42 (by decide) ?_
    have hh := ih (i + 1) (by omega) h
    rw [show 2 + 52 * (i + 1) = 2 + 52 * i + 1 + 51 by omega, show 4 + 326 * (i + 1) = 4 + 326 * i + 6 + 320 by omega, show q + 3 + 52 * (i + 1) = q + 3 + 52 * i + 52 by omega] at hh
    exact zc_eq (fun r hr => Or.inl (zLcS (by omega) (by omega) hr)) hh
set_option maxRecDepth 100000 in
set_option maxHeartbeats 4000000 in
theorem kX6_init (l : Launch) (G : zG) {E : zE} {q : Nat} (hE : E q = .inr (6, zfsX6)) : zc_Met l G yX6_init cX6_init 2 3 61 106 656 [.ref (G.2.2 + q)] E (q + 1) (zSlo G E q) (q + 3 + 52 * 2) := by
  refine zc_body (by decide) rfl (Nat.le_of_ble_eq_true rfl) (fun p e s m args below meth c o => ?_)
  have o : zcOk p s m args meth c G RX6 cX6_init 2 := o
  have hR1 : (zcRm 3 61 106 656).cells = 106 := rfl
  have hR2 : (zcRm 3 61 106 656).slots = 656 := rfl
  show zc_At p l e (zcRm 3 61 106 656) s m args below meth c _ G 2 0 0 0 [(0, .ref (G.2.2 + q))] [] E (q + 1)
  refine zc_aload_n o 0 dX6_init_0 rfl rfl ?_
  refine zc_obj o woX6 wc_oi wc_oc dX6_init_1 (by decide) (by decide) ?_
  refine zc_aload_n o 0 dX6_init_4 rfl rfl ?_
  refine zc_iconst (v := (2 : Int32)) o dX6_init_5 (by decide) ?_
  refine zc_anewa (t := 5) (N := 2) (C := RX0) o (by decide) rfl wlX6_9 (by decide) (by decide) (by decide) (by omega) (by omega) dX6_init_6 ?_
  refine zc_putF (a := q) (ty := tyX6 0) o 0 zc6 (by omega) ((zu_n (by omega)).trans hE) (Nat.le_of_ble_eq_true rfl) wvX6_11 rfl rfl (by decide +kernel) rfl rfl (Nat.le_of_ble_eq_true rfl) dX6_init_9 ?_
  refine zc_aload_n o 0 dX6_init_12 rfl rfl ?_
  refine zc_iconst (v := (2 : Int32)) o dX6_init_13 (by decide) ?_
  refine zc_newa (at_ := .boolean) (ty := .boolean) (N := 2) (t := 2) o rfl (Or.inr (Or.inr ⟨rfl, rfl⟩)) wc_aboolean (by decide) (by decide) (by decide +kernel) (by omega) (by omega) dX6_init_14 ?_
  refine zc_putF (a := q) (ty := tyX6 1) o 1 zc6 (by omega) ((zu_n (by omega)).trans zu_e) (Nat.le_of_ble_eq_true rfl) wvX6_17 rfl rfl (by decide +kernel) rfl rfl (Nat.le_of_ble_eq_true rfl) dX6_init_16 ?_
  refine zc_iconst (v := (0 : Int32)) o dX6_init_19 (by decide) ?_
  refine zc_istore_n o [(1, .int (0 : Int32)), (0, .ref (G.2.2 + q))] dX6_init_20 rfl (by decide) rfl ?_
  refine zc_eq (E2 := zLc G (va_up (va_up E q (.inr (6, [.ref (G.2.2 + (q + 1)), .ref (G.2.2 + (q + 2))]))) (q + 2) (.inl (G.2.1 2, 2, .inl (fun _ => 0)))) (q + 1) (q + 3) 2 0) ?_ (klX6 o ((zu_n (by omega)).trans zu_e) 2 0 rfl ?_)
  · skip
    intro r hr
    refine Or.inl ?_
    by_cases h1 : r = q + 1
    · subst h1
      rw [zLca, zu_n (by omega), zu_n (by omega), zu_n (by omega), zu_e]
      simp
    · rw [zLcE h1 (by omega)]
      by_cases h2 : r = q
      · subst h2
        rw [zu_e, zu_n (by omega), zu_e]
        rfl
      · by_cases h3 : r = q + 2
        · subst h3
          rw [zu_n h2, zu_e, zu_e]
        · rw [zu_n h2, zu_n (by omega), zu_n h2, zu_n h1, zu_n h3, zu_n h2]
  · exact zc_vret o (fun r hr => Or.inl rfl) rfl rfl dX6_init_45
