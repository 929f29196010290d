/-! which object lies where; switches; loops' meaning -/
def z_it {α : Sort _} (F : α → α) (b : α) : Nat → α
  | 0 => b
  | n + 1 => F (z_it F b n)
def zFU : Nat := 2000
theorem z_lt {i : Int32} {n : Nat} (h : vp_in i n) : i.toNatClampNeg < n := Nat.not_le.mp fun q => h (Or.inr q)
theorem zk_t0 : ∀ q, q < 537 → z_kd q = 0 → q + 54 ≤ 537 ∧ z_kd (q + 1) = 9 ∧ z_kd (q + 2) = 10 ∧ z_kd (q + 3) = 11 := by decide +kernel
theorem zk_0_9 {q : Nat} (h : z_is q 0) : z_is (q + 1) 9 := ⟨by have := (zk_t0 q h.1 h.2).1; omega, (zk_t0 q h.1 h.2).2.1⟩
theorem zk_0_10 {q : Nat} (h : z_is q 0) : z_is (q + 2) 10 := ⟨by have := (zk_t0 q h.1 h.2).1; omega, (zk_t0 q h.1 h.2).2.2.1⟩
theorem zk_0_11 {q : Nat} (h : z_is q 0) : z_is (q + 3) 11 := ⟨by have := (zk_t0 q h.1 h.2).1; omega, (zk_t0 q h.1 h.2).2.2.2⟩
theorem zk_t1 : ∀ q, q < 537 → z_kd q = 1 → q + 1 < 537 ∧ z_kd (q + 1) = 12 := by decide +kernel
theorem zk_1_12 {q : Nat} (h : z_is q 1) : z_is (q + 1) 12 := zk_t1 q h.1 h.2
theorem zk_t2 : ∀ q, q < 537 → z_kd q = 2 → q + 1 < 537 ∧ z_kd (q + 1) = 13 := by decide +kernel
theorem zk_2_13 {q : Nat} (h : z_is q 2) : z_is (q + 1) 13 := zk_t2 q h.1 h.2
theorem zk_t4 : ∀ q, q < 537 → z_kd q = 4 → q + 1 < 537 ∧ z_kd (q + 1) = 16 := by decide +kernel
theorem zk_4_16 {q : Nat} (h : z_is q 4) : z_is (q + 1) 16 := zk_t4 q h.1 h.2
theorem zk_t5 : ∀ q, q < 537 → z_kd q = 5 → (q + 1 < 537 ∧ z_kd (q + 1) = 12) ∧ (q + 2 < 537 ∧ z_kd (q + 2) = 12) := by decide +kernel
theorem zk_5_12 {q : Nat} (h : z_is q 5) : z_is (q + 1) 12 := (zk_t5 q h.1 h.2).1
theorem zk_5_12b {q : Nat} (h : z_is q 5) : z_is (q + 2) 12 := (zk_t5 q h.1 h.2).2
theorem zk_t6 : ∀ q, q < 537 → z_kd q = 6 → (q + 1 < 537 ∧ z_kd (q + 1) = 14) ∧ (q + 2 < 537 ∧ z_kd (q + 2) = 15) := by decide +kernel
theorem zk_6_14 {q : Nat} (h : z_is q 6) : z_is (q + 1) 14 := (zk_t6 q h.1 h.2).1
theorem zk_6_15 {q : Nat} (h : z_is q 6) : z_is (q + 2) 15 := (zk_t6 q h.1 h.2).2
theorem zk_c0 : z_is 1 0 := by unfold z_is; decide
theorem zk_c2 : z_is 53 2 := by unfold z_is; decide
theorem zk_c6 : z_is 419 6 := by unfold z_is; decide
theorem zk_c4 : z_is 526 4 := by unfold z_is; decide
theorem zk_c3 : z_is 528 3 := by unfold z_is; decide
theorem zk_c7 : z_is 0 7 := by unfold z_is; decide
theorem zk_c8 : z_is 529 8 := by unfold z_is; decide
theorem zk_m0 : z_is 530 17 := by unfold z_is; decide
theorem zk_m1 : z_is 531 17 := by unfold z_is; decide
theorem zk_m2 : z_is 532 18 := by unfold z_is; decide
theorem zk_m3 : z_is 533 19 := by unfold z_is; decide
theorem zk_m4 : z_is 534 15 := by unfold z_is; decide
theorem zk_m5 : z_is 535 20 := by unfold z_is; decide
theorem zk_m6 : z_is 536 16 := by unfold z_is; decide
theorem zk_ta10 : ∀ q, q < 537 → z_kd q = 10 → ∀ i, i < 14 → q + 2 + 3 * i < 537 ∧ z_kd (q + 2 + 3 * i) = 5 := by decide +kernel
theorem zk_a10 {q i : Nat} (h : z_is q 10) (hi : i < 14) : z_is (q + 2 + 3 * i) 5 := zk_ta10 q h.1 h.2 i hi
theorem zk_ta11 : ∀ q, q < 537 → z_kd q = 11 → ∀ i, i < 3 → q + 43 + 2 * i < 537 ∧ z_kd (q + 43 + 2 * i) = 1 := by decide +kernel
theorem zk_a11 {q i : Nat} (h : z_is q 11) (hi : i < 3) : z_is (q + 43 + 2 * i) 1 := zk_ta11 q h.1 h.2 i hi
theorem zk_ta13 : ∀ q, q < 537 → z_kd q = 13 → ∀ i, i < 7 → q + 1 + 52 * i < 537 ∧ z_kd (q + 1 + 52 * i) = 0 := by decide +kernel
theorem zk_a13 {q i : Nat} (h : z_is q 13) (hi : i < 7) : z_is (q + 1 + 52 * i) 0 := zk_ta13 q h.1 h.2 i hi
theorem zk_ta14 : ∀ q, q < 537 → z_kd q = 14 → ∀ i, i < 2 → q + 2 + 52 * i < 537 ∧ z_kd (q + 2 + 52 * i) = 0 := by decide +kernel
theorem zk_a14 {q i : Nat} (h : z_is q 14) (hi : i < 2) : z_is (q + 2 + 52 * i) 0 := zk_ta14 q h.1 h.2 i hi
section ZK
variable {p : Program} {l : Launch} {e : Env} {R : Room} {s : State} {m : MethodId} {args : Array Value} {below : List Frame} {meth : Method} {c : Code} {Q : State → Prop} {G : zG} {nL kc ks : Nat} {own : String} {cc : ByteArray} {ret : Option FieldType} {pc : Nat} {lv lv' : List (Nat × Value)} {st : List Value} {μ : zMem}
theorem za_sub (is : List Nat) (he : lv_pick lv is = lv') (h : za_At p l e R s m args below meth c Q G nL kc ks pc lv' st μ) : za_At p l e R s m args below meth c Q G nL kc ks pc lv st μ :=
  fun H L ls hP hS hl => h H L ls hP hS (lv_sub hl is he)
theorem za_tswE (o : za_Ok R kc ks p s m args meth c G own cc nL ret) {dflt lo hi off : Int} {offs : Array Int} {len : Nat} {x k : Int32} (tgt : Nat) (hx : x = k) (d : decode cc pc = .ok (.tableswitch dflt lo hi offs, len)) (h1 : ¬ k.toInt < lo) (h2 : ¬ hi < k.toInt) (ho : offs[(k.toInt - lo).toNat]? = some off) (ht : (pc : Int) + off = (tgt : Int))
    (h : za_At p l e R s m args below meth c Q G nL kc ks tgt lv st μ) : za_At p l e R s m args below meth c Q G nL kc ks pc lv (.int x :: st) μ := by
  subst hx
  exact fun H L ls hP hS hl => lv_tableIn o.1 o.2.1 d h1 h2 ho ht (h H L ls hP hS hl)
theorem za_tswD (o : za_Ok R kc ks p s m args meth c G own cc nL ret) {dflt lo hi : Int} {offs : Array Int} {len : Nat} {x : Int32} (tgt : Nat) (d : decode cc pc = .ok (.tableswitch dflt lo hi offs, len)) (hn : ¬ x.toInt < lo → ¬ hi < x.toInt → False) (ht : (pc : Int) + dflt = (tgt : Int))
    (h : za_At p l e R s m args below meth c Q G nL kc ks tgt lv st μ) : za_At p l e R s m args below meth c Q G nL kc ks pc lv (.int x :: st) μ := by
  intro H L ls hP hS hl
  refine lv_tableOut o.1 o.2.1 d ?_ ht (h H L ls hP hS hl)
  by_cases h1 : x.toInt < lo
  · exact Or.inl h1
  · by_cases h2 : hi < x.toInt
    · exact Or.inr h2
    · exact (hn h1 h2).elim
end ZK
