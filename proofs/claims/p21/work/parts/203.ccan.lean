def zCan (G : zG) (E : zE) (q : Nat) : zE := fun r => if q ≤ r ∧ r < q + 52 then z_enk G (z_m0c (r - q)) (z_ck (r - q)) r else E r
theorem zoX0 {G : zG} {E : zE} {q j : Nat} (h : ¬ (q ≤ j ∧ j < q + 52)) : zCan G E q j = E j := if_neg h
theorem ztX0 {G : zG} {E : zE} {q : Nat} : zCan G E q q = .inr (0, [.ref (G.2.2 + (q + 1)), .ref (G.2.2 + (q + 2)), .ref (G.2.2 + (q + 3)), .int 0, .int 0, .int 0]) := by
  unfold zCan
  rw [if_pos ⟨Nat.le_refl _, by omega⟩, Nat.sub_self]
  rfl
theorem z_ckP : ∀ i, i < 14 → z_ck (4 + 3 * i) = 5 ∧ z_ck (4 + 3 * i + 1) = 12 ∧ z_ck (4 + 3 * i + 2) = 12 := by decide +kernel
theorem z_ckD : ∀ i, i < 3 → z_ck (46 + 2 * i) = 1 ∧ z_ck (46 + 2 * i + 1) = 12 := by decide +kernel
theorem z_m0P {r : Nat} (h1 : r ≠ 1) (h2 : r ≤ 46) : z_m0c r = fun _ => 0 := by
  unfold z_m0c
  rw [if_neg h1, if_neg (by omega)]
theorem z_m0D {i : Nat} : z_m0c (46 + 2 * i) = (fun _ => 0) ∧ z_m0c (46 + 2 * i + 1) = z_p0 := by
  unfold z_m0c
  exact ⟨by rw [if_neg (by omega), if_neg (by omega)], by rw [if_neg (by omega), if_pos (by omega)]⟩
theorem zkP0 {G : zG} {q i : Nat} (h : i < 14) : z_enk G (z_m0c (q + 4 + 3 * i - q)) (z_ck (q + 4 + 3 * i - q)) (q + 4 + 3 * i) = .inr (5, [.ref (G.2.2 + (q + 4 + 3 * i + 1)), .ref (G.2.2 + (q + 4 + 3 * i + 1 + 1)), .int 0, .int 0, .int 0, .int 0, .int 0, .int 0, .int 0]) := by
  rw [show q + 4 + 3 * i - q = 4 + 3 * i by omega, (z_ckP i h).1, z_m0P (by omega) (by omega)]
  rfl
theorem zkP1 {G : zG} {q i : Nat} (h : i < 14) : z_enk G (z_m0c (q + 4 + 3 * i + 1 - q)) (z_ck (q + 4 + 3 * i + 1 - q)) (q + 4 + 3 * i + 1) = .inl (G.2.1 0, 5, .inl (fun _ => 0)) := by
  rw [show q + 4 + 3 * i + 1 - q = 4 + 3 * i + 1 by omega, (z_ckP i h).2.1, z_m0P (by omega) (by omega)]
  rfl
theorem zkP2 {G : zG} {q i : Nat} (h : i < 14) : z_enk G (z_m0c (q + 4 + 3 * i + 1 + 1 - q)) (z_ck (q + 4 + 3 * i + 1 + 1 - q)) (q + 4 + 3 * i + 1 + 1) = .inl (G.2.1 0, 5, .inl (fun _ => 0)) := by
  rw [show q + 4 + 3 * i + 1 + 1 - q = 4 + 3 * i + 2 by omega, (z_ckP i h).2.2, z_m0P (by omega) (by omega)]
  rfl
theorem zkD0 {G : zG} {q i : Nat} (h : i < 3) : z_enk G (z_m0c (q + 46 + 2 * i - q)) (z_ck (q + 46 + 2 * i - q)) (q + 46 + 2 * i) = .inr (1, [.ref (G.2.2 + (q + 46 + 2 * i + 1)), .int 0, .int 0, .int 0, .int 0, .int 0]) := by
  rw [show q + 46 + 2 * i - q = 46 + 2 * i by omega, (z_ckD i h).1, z_m0D.1]
  rfl
theorem zkD1 {G : zG} {q i : Nat} (h : i < 3) : z_enk G (z_m0c (q + 46 + 2 * i + 1 - q)) (z_ck (q + 46 + 2 * i + 1 - q)) (q + 46 + 2 * i + 1) = .inl (G.2.1 0, 5, .inl z_p0) := by
  rw [show q + 46 + 2 * i + 1 - q = 46 + 2 * i + 1 by omega, (z_ckD i h).2, z_m0D.2]
  rfl
theorem zk00 {G : zG} {q : Nat} : z_enk G (z_m0c (q - q)) (z_ck (q - q)) q = .inr (0, [.ref (G.2.2 + (q + 1)), .ref (G.2.2 + (q + 2)), .ref (G.2.2 + (q + 3)), .int 0, .int 0, .int 0]) := by
  rw [Nat.sub_self]
  rfl
theorem zk01 {G : zG} {q : Nat} : z_enk G (z_m0c (q + 1 - q)) (z_ck (q + 1 - q)) (q + 1) = .inl (G.2.1 0, 4, .inl z_s0) := by
  rw [show q + 1 - q = 1 by omega]
  rfl
theorem zk02 {G : zG} {q : Nat} : z_enk G (z_m0c (q + 2 - q)) (z_ck (q + 2 - q)) (q + 2) = zRf (G.2.1 3) 14 (fun j => some (G.2.2 + (q + 2 + 2 + 3 * j))) := by
  rw [show q + 2 - q = 2 by omega]
  rfl
theorem zk03 {G : zG} {q : Nat} : z_enk G (z_m0c (q + 3 - q)) (z_ck (q + 3 - q)) (q + 3) = zRf (G.2.1 4) 3 (fun j => some (G.2.2 + (q + 3 + 43 + 2 * j))) := by
  rw [show q + 3 - q = 3 by omega]
  rfl
def zC1 (G : zG) (E : zE) (q i : Nat) : zE := fun r => if r < q then E r else if r = q + 2 then zRf (G.2.1 3) 14 (fun j => if j < i then some (G.2.2 + (q + 2 + 2 + 3 * j)) else none) else if r = q + 3 then zRf (G.2.1 4) 3 (fun _ => none) else z_enk G (z_m0c (r - q)) (z_ck (r - q)) r
def zC2 (G : zG) (E : zE) (q i : Nat) : zE := fun r => if r < q then E r else if r = q + 3 then zRf (G.2.1 4) 3 (fun j => if j < i then some (G.2.2 + (q + 3 + 43 + 2 * j)) else none) else z_enk G (z_m0c (r - q)) (z_ck (r - q)) r
theorem zC1q {G : zG} {E : zE} {q i : Nat} : zC1 G E q i q = .inr (0, [.ref (G.2.2 + (q + 1)), .ref (G.2.2 + (q + 2)), .ref (G.2.2 + (q + 3)), .int 0, .int 0, .int 0]) := by
  unfold zC1
  rw [if_neg (Nat.lt_irrefl q), if_neg (by omega), if_neg (by omega), zk00]
theorem zC1s {G : zG} {E : zE} {q i : Nat} : zC1 G E q i (q + 2) = zRf (G.2.1 3) 14 (fun j => if j < i then some (G.2.2 + (q + 2 + 2 + 3 * j)) else none) := by
  unfold zC1
  rw [if_neg (by omega), if_pos rfl]
theorem zC1o {G : zG} {E : zE} {q i r : Nat} (h1 : q ≤ r) (h2 : r ≠ q + 2) (h3 : r ≠ q + 3) : zC1 G E q i r = z_enk G (z_m0c (r - q)) (z_ck (r - q)) r := by
  unfold zC1
  rw [if_neg (by omega), if_neg h2, if_neg h3]
theorem zC1k {G : zG} {E : zE} {q i j r : Nat} (h2 : r ≠ q + 2) : zC1 G E q i r = zC1 G E q j r := by
  unfold zC1
  rw [if_neg h2, if_neg h2]
theorem zC2q {G : zG} {E : zE} {q i : Nat} : zC2 G E q i q = .inr (0, [.ref (G.2.2 + (q + 1)), .ref (G.2.2 + (q + 2)), .ref (G.2.2 + (q + 3)), .int 0, .int 0, .int 0]) := by
  unfold zC2
  rw [if_neg (Nat.lt_irrefl q), if_neg (by omega), zk00]
theorem zC2s {G : zG} {E : zE} {q i : Nat} : zC2 G E q i (q + 3) = zRf (G.2.1 4) 3 (fun j => if j < i then some (G.2.2 + (q + 3 + 43 + 2 * j)) else none) := by
  unfold zC2
  rw [if_neg (by omega), if_pos rfl]
theorem zC2o {G : zG} {E : zE} {q i r : Nat} (h1 : q ≤ r) (h3 : r ≠ q + 3) : zC2 G E q i r = z_enk G (z_m0c (r - q)) (z_ck (r - q)) r := by
  unfold zC2
  rw [if_neg (by omega), if_neg h3]
theorem zC2k {G : zG} {E : zE} {q i j r : Nat} (h2 : r ≠ q + 3) : zC2 G E q i r = zC2 G E q j r := by
  unfold zC2
  rw [if_neg h2, if_neg h2]
theorem zC12 {G : zG} {E : zE} {q r : Nat} : zEq (zC1 G E q 14 r) (zC2 G E q 0 r) := by
  by_cases h : r = q + 2
  · subst h
    refine Or.inr ⟨_, _, _, _, zC1s, by rw [zC2o (by omega) (by omega), zk02], fun j hj => ?_⟩
    rw [if_pos hj]
  · by_cases h3 : r = q + 3
    · subst h3
      refine Or.inl ?_
      rw [zC2s]
      unfold zC1
      rw [if_neg (by omega), if_neg h, if_pos rfl]
      simp
    · refine Or.inl ?_
      unfold zC1 zC2
      rw [if_neg h, if_neg h3, if_neg h3]
theorem zC2e {G : zG} {E : zE} {q r : Nat} (hr : r < q + 52) : zEq (zC2 G E q 3 r) (zCan G E q r) := by
  by_cases h3 : r = q + 3
  · subst h3
    refine Or.inr ⟨_, _, _, _, zC2s, by unfold zCan; rw [if_pos ⟨by omega, by omega⟩, zk03], fun j hj => ?_⟩
    rw [if_pos hj]
  · refine Or.inl ?_
    by_cases h : r < q
    · unfold zCan zC2
      rw [if_pos h, if_neg (by omega)]
    · rw [zC2o (by omega) h3]
      unfold zCan
      rw [if_pos ⟨by omega, hr⟩]
set_option maxRecDepth 100000 in
set_option maxHeartbeats 4000000 in
theorem klX0_1 {p : Program} {l : Launch} {e : Env} {s : State} {m : MethodId} {args : Array Value} {below : List Frame} {meth : Method} {c : Code} {Q : State → Prop} {G : zG} (o : zcOk p s m args meth c G RX0 cX0_init 2) {q : Nat} {E : zE} : ∀ (k i : Nat), i + k = 14 → zc_At p l e (zcRm 2 40 51 320) s m args below meth c Q G 2 (3 + 3 * 14) (21 + 19 * 14) 71 [(0, .ref (G.2.2 + q))] [] (zC1 G E q 14) (q + 4 + 3 * 14) → zc_At p l e (zcRm 2 40 51 320) s m args below meth c Q G 2 (3 + 3 * i) (21 + 19 * i) 46 [(1, .int (nI i)), (0, .ref (G.2.2 + q))] [] (zC1 G E q i) (q + 4 + 3 * i) := by
  have hR1 : (zcRm 2 40 51 320).cells = 51 := rfl
  have hR2 : (zcRm 2 40 51 320).slots = 320 := rfl
  intro k
  induction k with
  | zero =>
    intro i hi h
    have hi : i = 14 := by omega
    subst hi
    refine zc_iload_n o 0 dX0_init_46 rfl rfl ?_
    refine zc_bipush (v := (14 : Int32)) o dX0_init_47 (by decide) ?_
    refine zc_icmp_ge o 71 dX0_init_49 (by decide) (fun _ => ?_) (fun c1 => absurd (Int32.le_refl _) c1)
    exact zc_sub [1] rfl h
  | succ k ih =>
    intro i hi h
    refine zc_iload_n o 0 dX0_init_46 rfl rfl ?_
    refine zc_bipush (v := (14 : Int32)) o dX0_init_47 (by decide) ?_
    refine zc_icmp_ge o 71 dX0_init_49 (by decide) (fun c1 => absurd ((nI_leI (a := 14) (b := i) (by omega) (by omega)).mp c1) (by omega)) (fun _ => ?_)
    refine zc_aload_n o 1 dX0_init_52 rfl rfl ?_
    refine zc_getf (a := q) o 1 zc0 (by omega) zC1q (Nat.le_of_ble_eq_true rfl) wvX0_17 rfl dX0_init_53 ?_
    refine zc_iload_n o 0 dX0_init_56 rfl rfl ?_
    refine zc_new (fs := zfsX5) o zc5 wlX0_15 wzX5 wyX5 (by intro j hj; exact zfsX5_ok j hj) (by omega) (by omega) dX0_init_57 ?_
    refine zc_dup o dX0_init_60 rfl ?_
    refine zc_callN o [] (kX5_init l G (q := (q + 4 + 3 * i)) zu_e) mwX5_init rfl wmX0_27 wiX5_init rfl ⟨Nat.le_of_ble_eq_true rfl, Nat.le_of_ble_eq_true rfl⟩ ⟨by omega, by omega⟩ rfl (Nat.le_of_ble_eq_true rfl) dX0_init_61 ?_
    refine zc_aast (a := (q + 2)) (v := (q + 4 + 3 * i)) (t := 3) o zc5 rfl (by omega) ((zoX5 (by omega)).trans ((zu_n (by omega)).trans zC1s)) (by omega) ztX5 (vp_in_nI (by omega) (by decide)) dX0_init_64 ?_
    refine zc_iinc o (nI (i + 1)) 0 [(1, .int (nI (i + 1))), (0, .ref (G.2.2 + q))] dX0_init_65 rfl (nI_1 i) (by decide) rfl ?_
    refine zc_goto o 46 dX0_init_68 (by decide) ?_
    have hh := ih (i + 1) (by omega) h
    rw [show 3 + 3 * (i + 1) = 3 + 3 * i + 1 + 2 by omega, show 21 + 19 * (i + 1) = 21 + 19 * i + 9 + 10 by omega, show q + 4 + 3 * (i + 1) = q + 4 + 3 * i + 1 + 1 + 1 by omega] at hh
    refine zc_eq (fun r hr => ?_) hh
    by_cases h2 : r = q + 2
    · subst h2
      refine Or.inl ?_
      rw [zu_e, zC1s, nI_clamp (by omega)]
      refine congrArg (zRf (G.2.1 3) 14) (funext fun j => ?_)
      unfold va_up
      by_cases hj : j = i
      · subst hj
        rw [if_pos rfl, if_pos (Nat.lt_succ_self j), show q + 4 + 3 * j = q + 2 + 2 + 3 * j by omega]
      · rw [if_neg hj]
        dsimp only
        by_cases hj2 : j < i
        · rw [if_pos hj2, if_pos (by omega)]
        · rw [if_neg hj2, if_neg (by omega)]
    · refine Or.inl ?_
      rw [zu_n h2]
      by_cases h3 : r < q + 4 + 3 * i
      · rw [zoX5 (by omega), zu_n (by omega), zC1k h2]
      · rw [zC1o (by omega) h2 (by omega)]
        rcases (show r = q + 4 + 3 * i ∨ r = q + 4 + 3 * i + 1 ∨ r = q + 4 + 3 * i + 1 + 1 by omega) with rfl | rfl | rfl
        · rw [zkP0 (by omega), ztX5]
        · rw [zkP1 (by omega)]
          unfold zPer
          rw [zu_n (by omega), zu_e]
        · rw [zkP2 (by omega)]
          unfold zPer
          rw [zu_e]
set_option maxRecDepth 100000 in
set_option maxHeartbeats 4000000 in
theorem klX0_2 {p : Program} {l : Launch} {e : Env} {s : State} {m : MethodId} {args : Array Value} {below : List Frame} {meth : Method} {c : Code} {Q : State → Prop} {G : zG} (o : zcOk p s m args meth c G RX0 cX0_init 2) {q : Nat} {E : zE} : ∀ (k i : Nat), i + k = 3 → zc_At p l e (zcRm 2 40 51 320) s m args below meth c Q G 2 (45 + 2 * 3) (287 + 11 * 3) 97 [] [] (zC2 G E q 3) (q + 46 + 2 * 3) → zc_At p l e (zcRm 2 40 51 320) s m args below meth c Q G 2 (45 + 2 * i) (287 + 11 * i) 73 [(1, .int (nI i)), (0, .ref (G.2.2 + q))] [] (zC2 G E q i) (q + 46 + 2 * i) := by
  have hR1 : (zcRm 2 40 51 320).cells = 51 := rfl
  have hR2 : (zcRm 2 40 51 320).slots = 320 := rfl
  intro k
  induction k with
  | zero =>
    intro i hi h
    have hi : i = 3 := by omega
    subst hi
    refine zc_iload_n o 0 dX0_init_73 rfl rfl ?_
    refine zc_iconst (v := (3 : Int32)) o dX0_init_74 (by decide) ?_
    refine zc_icmp_ge o 97 dX0_init_75 (by decide) (fun _ => ?_) (fun c1 => absurd (Int32.le_refl _) c1)
    exact zc_sub [] rfl h
  | succ k ih =>
    intro i hi h
    refine zc_iload_n o 0 dX0_init_73 rfl rfl ?_
    refine zc_iconst (v := (3 : Int32)) o dX0_init_74 (by decide) ?_
    refine zc_icmp_ge o 97 dX0_init_75 (by decide) (fun c1 => absurd ((nI_leI (a := 3) (b := i) (by omega) (by omega)).mp c1) (by omega)) (fun _ => ?_)
    refine zc_aload_n o 1 dX0_init_78 rfl rfl ?_
    refine zc_getf (a := q) o 2 zc0 (by omega) zC2q (Nat.le_of_ble_eq_true rfl) wvX0_23 rfl dX0_init_79 ?_
    refine zc_iload_n o 0 dX0_init_82 rfl rfl ?_
    refine zc_new (fs := zfsX1) o zc1 wlX0_21 wzX1 wyX1 (by intro j hj; exact zfsX1_ok j hj) (by omega) (by omega) dX0_init_83 ?_
    refine zc_dup o dX0_init_86 rfl ?_
    refine zc_callN o [] (kX1_init l G (q := (q + 46 + 2 * i)) zu_e) mwX1_init rfl wmX0_28 wiX1_init rfl ⟨Nat.le_of_ble_eq_true rfl, Nat.le_of_ble_eq_true rfl⟩ ⟨by omega, by omega⟩ rfl (Nat.le_of_ble_eq_true rfl) dX0_init_87 ?_
    refine zc_aast (a := (q + 3)) (v := (q + 46 + 2 * i)) (t := 4) o zc1 rfl (by omega) ((zoX1 (by omega)).trans ((zu_n (by omega)).trans zC2s)) (by omega) ztX1 (vp_in_nI (by omega) (by decide)) dX0_init_90 ?_
    refine zc_iinc o (nI (i + 1)) 0 [(1, .int (nI (i + 1))), (0, .ref (G.2.2 + q))] dX0_init_91 rfl (nI_1 i) (by decide) rfl ?_
    refine zc_goto o 73 dX0_init_94 (by decide) ?_
    have hh := ih (i + 1) (by omega) h
    rw [show 45 + 2 * (i + 1) = 45 + 2 * i + 1 + 1 by omega, show 287 + 11 * (i + 1) = 287 + 11 * i + 6 + 5 by omega, show q + 46 + 2 * (i + 1) = q + 46 + 2 * i + 1 + 1 by omega] at hh
    refine zc_eq (fun r hr => ?_) hh
    by_cases h2 : r = q + 3
    · subst h2
      refine Or.inl ?_
      rw [zu_e, zC2s, nI_clamp (by omega)]
      refine congrArg (zRf (G.2.1 4) 3) (funext fun j => ?_)
      unfold va_up
      by_cases hj : j = i
      · subst hj
        rw [if_pos rfl, if_pos (Nat.lt_succ_self j), show q + 46 + 2 * j = q + 3 + 43 + 2 * j by omega]
      · rw [if_neg hj]
        dsimp only
        by_cases hj2 : j < i
        · rw [if_pos hj2, if_pos (by omega)]
        · rw [if_neg hj2, if_neg (by omega)]
    · refine Or.inl ?_
      rw [zu_n h2]
      by_cases h3 : r < q + 46 + 2 * i
      · rw [zoX1 (by omega), zu_n (by omega), zC2k h2]
      · rw [zC2o (by omega) h2]
        rcases (show r = q + 46 + 2 * i ∨ r = q + 46 + 2 * i + 1 by omega) with rfl | rfl
        · rw [zkD0 (by omega), ztX1]
        · rw [zkD1 (by omega)]
          unfold zDsh
          rw [zu_e]
set_option maxRecDepth 100000 in
set_option maxHeartbeats 4000000 in
theorem kX0_init (l : Launch) (G : zG) {E : zE} {q : Nat} (hE : E q = .inr (0, zfsX0)) : zc_Met l G yX0_init cX0_init 2 2 40 51 320 [.ref (G.2.2 + q)] E (q + 1) (zCan G E q) (q + 52) := by
  refine zc_body (by decide) rfl (Nat.le_of_ble_eq_true rfl) (fun p e s m args below meth c o => ?_)
  have o : zcOk p s m args meth c G RX0 cX0_init 2 := o
  have hR1 : (zcRm 2 40 51 320).cells = 51 := rfl
  have hR2 : (zcRm 2 40 51 320).slots = 320 := rfl
  show zc_At p l e (zcRm 2 40 51 320) s m args below meth c _ G 2 0 0 0 [(0, .ref (G.2.2 + q))] [] E (q + 1)
  refine zc_aload_n o 0 dX0_init_0 rfl rfl ?_
  refine zc_obj o woX0 wc_oi wc_oc dX0_init_1 (by decide) (by decide) ?_
  refine zc_aload_n o 0 dX0_init_4 rfl rfl ?_
  refine zc_iconst (v := (4 : Int32)) o dX0_init_5 (by decide) ?_
  refine zc_newa (at_ := .int) (ty := .int) (N := 4) (t := 0) o rfl (Or.inl ⟨rfl, rfl⟩) wc_aint (by decide) (by decide) (by decide +kernel) (by omega) (by omega) dX0_init_6 ?_
  refine zc_dup o dX0_init_8 rfl ?_
  refine zc_iconst (v := (0 : Int32)) o dX0_init_9 (by decide) ?_
  refine zc_iconst (v := (1 : Int32)) o dX0_init_10 (by decide) ?_
  refine zc_iast (a := (q + 1)) o (by omega) zu_e (by unfold vp_in; decide) dX0_init_11 ?_
  refine zc_dup o dX0_init_12 rfl ?_
  refine zc_iconst (v := (1 : Int32)) o dX0_init_13 (by decide) ?_
  refine zc_iconst (v := (4 : Int32)) o dX0_init_14 (by decide) ?_
  refine zc_iast (a := (q + 1)) o (by omega) zu_e (by unfold vp_in; decide) dX0_init_15 ?_
  refine zc_dup o dX0_init_16 rfl ?_
  refine zc_iconst (v := (2 : Int32)) o dX0_init_17 (by decide) ?_
  refine zc_iconst (v := (3 : Int32)) o dX0_init_18 (by decide) ?_
  refine zc_iast (a := (q + 1)) o (by omega) zu_e (by unfold vp_in; decide) dX0_init_19 ?_
  refine zc_dup o dX0_init_20 rfl ?_
  refine zc_iconst (v := (3 : Int32)) o dX0_init_21 (by decide) ?_
  refine zc_iconst (v := (5 : Int32)) o dX0_init_22 (by decide) ?_
  refine zc_iast (a := (q + 1)) o (by omega) zu_e (by unfold vp_in; decide) dX0_init_23 ?_
  refine zc_putF (a := q) (ty := tyX0 0) o 0 zc0 (by omega) ((zu_n (by omega)).trans ((zu_n (by omega)).trans ((zu_n (by omega)).trans ((zu_n (by omega)).trans ((zu_n (by omega)).trans hE))))) (Nat.le_of_ble_eq_true rfl) wvX0_9 rfl rfl (by decide +kernel) rfl rfl (Nat.le_of_ble_eq_true rfl) dX0_init_24 ?_
  refine zc_aload_n o 0 dX0_init_27 rfl rfl ?_
  refine zc_bipush (v := (14 : Int32)) o dX0_init_28 (by decide) ?_
  refine zc_anewa (t := 3) (N := 14) (C := RX5) o (by decide) rfl wlX0_15 (by decide) (by decide) (by decide) (by omega) (by omega) dX0_init_30 ?_
  refine zc_putF (a := q) (ty := tyX0 1) o 1 zc0 (by omega) ((zu_n (by omega)).trans zu_e) (Nat.le_of_ble_eq_true rfl) wvX0_17 rfl rfl (by decide +kernel) rfl rfl (Nat.le_of_ble_eq_true rfl) dX0_init_33 ?_
  refine zc_aload_n o 0 dX0_init_36 rfl rfl ?_
  refine zc_iconst (v := (3 : Int32)) o dX0_init_37 (by decide) ?_
  refine zc_anewa (t := 4) (N := 3) (C := RX1) o (by decide) rfl wlX0_21 (by decide) (by decide) (by decide) (by omega) (by omega) dX0_init_38 ?_
  refine zc_putF (a := q) (ty := tyX0 2) o 2 zc0 (by omega) ((zu_n (by omega)).trans zu_e) (Nat.le_of_ble_eq_true rfl) wvX0_23 rfl rfl (by decide +kernel) rfl rfl (Nat.le_of_ble_eq_true rfl) dX0_init_41 ?_
  refine zc_iconst (v := (0 : Int32)) o dX0_init_44 (by decide) ?_
  refine zc_istore_n o [(1, .int (0 : Int32)), (0, .ref (G.2.2 + q))] dX0_init_45 rfl (by decide) rfl ?_
  refine zc_eq (E2 := zC1 G E q 0) (fun r hr => ?_) (klX0_1 o 14 0 rfl ?_)
  · refine Or.inl ?_
    by_cases h : r < q
    · rw [zu_n (by omega), zu_n (by omega), zu_n (by omega), zu_n (by omega), zu_n (by omega), zu_n (by omega), zu_n (by omega), zu_n (by omega), zu_n (by omega), zu_n (by omega)]
      unfold zC1
      rw [if_pos h]
    · rcases (show r = q ∨ r = q + 1 ∨ r = q + 2 ∨ r = q + 3 by omega) with rfl | rfl | rfl | rfl
      · rw [zC1q, zu_e]
        rfl
      · rw [zC1o (by omega) (by omega) (by omega), zk01, zu_n (by omega), zu_n (by omega), zu_n (by omega), zu_n (by omega), zu_n (by omega), zu_e]
        rfl
      · rw [zC1s, zu_n (by omega), zu_n (by omega), zu_n (by omega), zu_e]
        simp
      · unfold zC1
        rw [if_neg (by omega), if_neg (by omega), if_pos rfl, zu_n (by omega), zu_e]
  · refine zc_iconst (v := (0 : Int32)) o dX0_init_71 (by decide) ?_
    refine zc_istore_n o [(1, .int (0 : Int32)), (0, .ref (G.2.2 + q))] dX0_init_72 rfl (by decide) rfl ?_
    refine zc_eq (E2 := zC2 G E q 0) (fun r hr => zC12) (klX0_2 o 3 0 rfl ?_)
    exact zc_vret o (fun r hr => zC2e hr) rfl rfl dX0_init_97
