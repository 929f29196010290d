/-! numbers and masks -/
theorem zs_l : ∀ n, n < 32 → ((nI n &&& 31).toBitVec.smod 32).toNat = n := by decide +kernel
theorem zn_or (a b : Nat) : nI a ||| nI b = nI (a ||| b) := by
  apply Int32.toBitVec_inj.1
  show BitVec.ofNat 32 a ||| BitVec.ofNat 32 b = BitVec.ofNat 32 (a ||| b)
  apply BitVec.eq_of_getLsbD_eq
  intro i hi
  simp [hi]
def zMk (b : Nat → Bool) : Nat → Nat
  | 0 => 0
  | n + 1 => if b n = true then zMk b n ||| 2 ^ n else zMk b n
theorem zMk_lt (b : Nat → Bool) (n : Nat) : zMk b n < 2 ^ n := by
  induction n with
  | zero => exact Nat.one_pos
  | succ n ih =>
    have h1 : 2 ^ n < 2 ^ (n + 1) := Nat.pow_lt_pow_right (by decide) (by omega)
    unfold zMk
    by_cases c : b n = true
    · rw [if_pos c]
      exact Nat.or_lt_two_pow (by omega) h1
    · rw [if_neg c]
      omega
theorem zMk_31 (b : Nat → Bool) {n : Nat} (h : n ≤ 14) : zMk b n < 2 ^ 14 :=
  Nat.lt_of_lt_of_le (zMk_lt b n) (Nat.pow_le_pow_right (by decide) h)
theorem zMk_bit (b : Nat → Bool) (n k : Nat) : (zMk b n).testBit k = (decide (k < n) && b k) := by
  induction n with
  | zero => simp [zMk]
  | succ n ih =>
    unfold zMk
    by_cases c : b n = true
    · rw [if_pos c, Nat.testBit_or, ih, Nat.testBit_two_pow]
      by_cases e : n = k
      · subst e
        simp [c]
      · have h : (k < n + 1) ↔ k < n := by omega
        simp [e, h]
    · rw [if_neg c, ih]
      by_cases e : k = n
      · subst e
        simp [c]
      · have h : (k < n + 1) ↔ k < n := by omega
        simp [h]
theorem zn_bt {M k : Nat} (hM : M < 2 ^ 31) (hk : k < 32) : (nI M >>> (nI k &&& 31)) &&& (1 : Int32) = nI (if M.testBit k = true then 1 else 0) := by
  rw [pk_shrN hM _ k (zs_l k hk), pk_andN (by have := Nat.div_le_self M (2 ^ k); omega) 1 (by decide)]
  congr 1
  rw [Nat.testBit_eq_decide_div_mod_eq]
  by_cases c : M / 2 ^ k % 2 = 1
  · simp [c]
  · have := Nat.mod_two_eq_zero_or_one (M / 2 ^ k)
    simp [c]
    omega
/-- the bit of a person in a mask -/
theorem zn_mk {b : Nat → Bool} {P k : Nat} (hP : P ≤ 14) (hk : k < 32) : (nI (zMk b P) >>> (nI k &&& 31)) &&& (1 : Int32) = nI (if k < P ∧ b k = true then 1 else 0) := by
  rw [zn_bt (Nat.lt_trans (zMk_31 b hP) (by decide)) hk, zMk_bit]
  by_cases c : k < P
  · simp [c]
  · simp [c]
theorem zn_shl {n : Nat} (h : n < 31) : (1 : Int32) <<< (nI n &&& 31) = nI (2 ^ n) := by
  have h2 : 2 ^ n < 2 ^ 32 := Nat.pow_lt_pow_right (by decide) (by omega)
  have := pk_shlN (n := 1) (nI n &&& 31) n (zs_l n (by omega)) (by omega)
  rw [Nat.one_mul] at this
  exact this
theorem zn_sh0 {n : Nat} (h : n < 31) : (nI 0) <<< (nI n &&& 31) = nI 0 := by
  have := pk_shlN (n := 0) (nI n &&& 31) n (zs_l n (by omega)) (by omega)
  rw [Nat.zero_mul] at this
  exact this
theorem zn_max {a b : Nat} (ha : a < 2 ^ 30) (hb : b < 2 ^ 30) : z_max (0 : Int32) (nI a - nI b) = nI (a - b) := by
  unfold z_max
  by_cases c : b ≤ a
  · rw [pk_sub c]
    by_cases e : a - b = 0
    · rw [e]
      decide
    · rw [if_pos (show (0 : Int32) < nI (a - b) from (nI_ltI (a := 0) (by decide) (by omega)).mpr (by omega))]
  · rw [if_neg (fun g => absurd (pk_sneg hb (by omega : a < b)) (Int32.not_lt.mpr (Int32.le_of_lt g))), show a - b = 0 by omega]
    rfl
theorem zn_min {a b : Nat} (ha : a < 2 ^ 31) (hb : b < 2 ^ 31) : z_min (nI a) (nI b) = nI (min a b) := by
  unfold z_min
  by_cases c : b < a
  · rw [if_pos ((nI_ltI hb ha).mpr c), Nat.min_eq_right (by omega)]
  · rw [if_neg (fun g => c ((nI_ltI hb ha).mp g)), Nat.min_eq_left (by omega)]
theorem zn_inj {a b : Nat} (ha : a < 2 ^ 31) (hb : b < 2 ^ 31) (h : nI a = nI b) : a = b := (nI_eq ha hb).mp h
theorem zn_m6 {a : Nat} (ha : a < 2 ^ 31) : ¬ nI a = (-6 : Int32) := fun e => by
  have := nI_pos ha
  rw [e] at this
  exact this (by decide)
def zSum (f : Nat → Int32) : Nat → Int32
  | 0 => 0
  | n + 1 => zSum f n + f n
theorem zSum_cg {f g : Nat → Int32} {n : Nat} (h : ∀ i, i < n → f i = g i) : zSum f n = zSum g n := by
  induction n with
  | zero => rfl
  | succ n ih =>
    unfold zSum
    rw [ih (fun i hi => h i (by omega)), h n (by omega)]
theorem zSum_up {f g : Nat → Int32} {n j : Nat} {x : Int32} (hj : j < n) (h : ∀ i, i < n → i ≠ j → g i = f i) (hx : g j = f j + x) : zSum g n = zSum f n + x := by
  induction n with
  | zero => omega
  | succ n ih =>
    unfold zSum
    by_cases e : j = n
    · subst e
      rw [zSum_cg (f := g) (g := f) (fun i hi => h i (by omega) (by omega)), hx, Int32.add_assoc]
    · rw [ih (by omega) (fun i hi => h i (by omega)), h n (by omega) (fun g => e g.symm)]
      rw [Int32.add_assoc, Int32.add_assoc, Int32.add_comm x]
theorem zMk_cg {f g : Nat → Bool} {n : Nat} (h : ∀ i, i < n → f i = g i) : zMk f n = zMk g n := by
  induction n with
  | zero => rfl
  | succ n ih =>
    unfold zMk
    rw [ih (fun i hi => h i (by omega)), h n (by omega)]
