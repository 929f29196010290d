/-! why, firstOrder, unsurest, the law's doubt -/
def zwy (μ : zMem) (D j k d : Nat) : Nat :=
  if k = 0 ∧ ¬ μ 1 5 = 0 then 1 else if ¬ μ (5 + 3 * j) 4 ≤ nI (D + k) then 2 else if ¬ μ (6 + 3 * j) k = (-6 : Int32) then 3 else if ¬ μ (48 + 2 * d) ((D + k) % 5) ≤ μ (5 + 3 * j) 2 then 4 else 0
theorem zwy_le (μ : zMem) (D j k d : Nat) : zwy μ D j k d ≤ 4 := by
  unfold zwy
  split
  · decide
  · split
    · decide
    · split
      · decide
      · split <;> decide
theorem zx_reason {n P D c ee j k d : Nat} {μ : zMem} {K : Int32 → zMem → Prop} (hV : zV n P D c ee μ) (hj : j < P) (hk : k < 5) (hd : d < 3) (h : K (nI (zwy μ D j k d)) μ) : fX0_reasonAgainst 1 (nI j) (nI k) (nI d) μ K := by
  have hj14 : j < 14 := by have := hV.1.1; omega
  have eD := hV.1.2.2.2.2.2.1
  unfold fX0_reasonAgainst
  refine zx_hasP hV hj ⟨fun g => absurd g (by decide), fun _ => zx_hasD hd ⟨fun _ => zx_isA hk ⟨fun _ => ?_, fun g => absurd g (by decide)⟩, fun g => absurd g (by decide)⟩⟩
  have go : ¬ (k = 0 ∧ ¬ μ 1 5 = 0) → fX0_reasonAgainst_42 K 1 (nI j) (nI k) (nI d) μ := by
    intro c0
    unfold zwy at h
    rw [if_neg c0] at h
    unfold fX0_reasonAgainst_42 fX0_reasonAgainst_100
    intro x1 e1
    rw [eD, nI_add] at e1
    refine ⟨vp_in_nI hj14 (by decide), fun q3 e3 => ?_⟩
    rw [zq_p hj14 e3, e1]
    refine ⟨fun g => ?_, fun g => ?_⟩
    · rw [if_neg (fun z => z g)] at h
      refine ⟨vp_in_nI hj14 (by decide), fun q6 e6 => ?_⟩
      rw [zq_p hj14 e6]
      refine zx_hasO hk (fun g2 => ⟨fun _ => ?_, fun z => absurd rfl z⟩) (fun g2 => ⟨fun z => absurd z (by decide), fun _ => ?_⟩)
      · rw [show 5 + 3 * j + 1 = 6 + 3 * j by omega] at g2
        rw [if_neg (fun z => z g2)] at h
        refine ⟨vp_in_nI hj14 (by decide), fun q11 e11 => ?_⟩
        rw [zq_p hj14 e11]
        refine zx_priceOf hV hd hk ⟨fun g3 => ?_, fun g3 => ?_⟩
        · rw [if_neg (fun z => z g3)] at h
          exact h
        · rw [if_pos g3] at h
          exact h
      · rw [show 5 + 3 * j + 1 = 6 + 3 * j by omega] at g2
        rw [if_pos g2] at h
        exact h
    · rw [if_pos g] at h
      exact h
  refine pk_eq k 0 (fun e => ⟨fun g => go (fun z => z.2 g), fun g => ?_⟩) (fun e => go (fun z => e z.1)) |>.symm
  unfold zwy at h
  rw [if_pos ⟨e, g⟩] at h
  exact h
theorem zx_why {n P D c ee j k d q : Nat} {μ : zMem} {K : Int32 → zMem → Prop} (hV : zV n P D c ee μ) (hj : j < P) (hk : k < 5) (hd : d < 3) (h : K (nI (zwy μ D j k d)) μ) : fX7_why q (nI j) (nI k) (nI d) μ K := zx_reason hV hj hk hd h
/-- the first order that is possible, m pairs before the end -/
def zfi (μ : zMem) (D j : Nat) : Nat → Int32
  | 0 => -6
  | m + 1 => if zwy μ D j ((14 - m) / 3) ((14 - m) % 3) = 0 then nI (14 - m) else zfi μ D j m
theorem zfi_at (μ : zMem) (D j : Nat) {k d : Nat} (hk : k < 5) (hd : d < 3) : zfi μ D j (15 - (3 * k + d)) = if zwy μ D j k d = 0 then nI (3 * k + d) else zfi μ D j (15 - (3 * k + d + 1)) := by
  obtain ⟨m, hm⟩ : ∃ m, 15 - (3 * k + d) = m + 1 := ⟨14 - (3 * k + d), by omega⟩
  rw [hm, show 15 - (3 * k + d + 1) = m by omega]
  show (if zwy μ D j ((14 - m) / 3) ((14 - m) % 3) = 0 then nI (14 - m) else zfi μ D j m) = _
  rw [show (14 - m) / 3 = k by omega, show (14 - m) % 3 = d by omega, show 14 - m = 3 * k + d by omega]
theorem zx_first {n P D c ee j q : Nat} {μ : zMem} {K : Int32 → zMem → Prop} (hV : zV n P D c ee μ) (hj : j < P) (h : K (zfi μ D j 15) μ) : fX7_firstOrder q (nI j) μ K := by
  unfold fX7_firstOrder fX0_firstPossible
  refine zx_hasP hV hj ⟨fun _ => ?_, fun g => absurd g (by decide)⟩
  have L : ∀ (n i : Nat), i ≤ 5 → 5 - i < n → K (zfi μ D j (15 - 3 * i)) μ → fX0_firstPossible_12 (fun r1 m2 => K r1 m2) 1 n (nI j) (nI i) μ := by
    intro n
    induction n with
    | zero => intro i g1 g2; omega
    | succ n ih =>
      intro i g1 g2 hK
      show fX0_firstPossible_12b (fX0_firstPossible_12 (fun r1 m2 => K r1 m2) 1 n) (fun r1 m2 => K r1 m2) 1 (nI j) (nI i) μ
      unfold fX0_firstPossible_12b
      refine pk_le 5 i (fun c => ?_) (fun hi => ?_)
      · have e : i = 5 := by omega
        subst e
        exact hK
      · have L2 : ∀ (n2 d : Nat), d ≤ 3 → 3 - d < n2 → K (zfi μ D j (15 - (3 * i + d))) μ → fX0_firstPossible_19 (fX0_firstPossible_12 (fun r1 m2 => K r1 m2) 1 n) (fun r1 m2 => K r1 m2) 1 n2 (nI j) (nI i) (nI d) μ := by
          intro n2
          induction n2 with
          | zero => intro d k1 k2; omega
          | succ n2 ih2 =>
            intro d k1 k2 hK2
            show fX0_firstPossible_19b (fX0_firstPossible_12 (fun r1 m2 => K r1 m2) 1 n) (fX0_firstPossible_19 (fX0_firstPossible_12 (fun r1 m2 => K r1 m2) 1 n) (fun r1 m2 => K r1 m2) 1 n2) (fun r1 m2 => K r1 m2) 1 (nI j) (nI i) (nI d) μ
            unfold fX0_firstPossible_19b
            refine pk_le 3 d (fun c x2 e => ?_) (fun hd => ?_)
            · have e3 : d = 3 := by omega
              subst e3
              rw [e, nI_1]
              exact ih (i + 1) (by omega) (by omega) hK2
            · rw [zfi_at μ D j hi hd] at hK2
              refine zx_reason hV hj hi hd ⟨fun g x6 e => ?_, fun g x7 e7 x8 e8 => ?_⟩
              · rw [if_neg (fun z => g (by rw [z]; rfl))] at hK2
                rw [e, nI_1]
                exact ih2 (d + 1) (by omega) (by omega) hK2
              · rw [if_pos (zn_inj (Nat.lt_of_le_of_lt (zwy_le μ D j i d) (by decide)) (by decide) (g.trans rfl))] at hK2
                rw [show (3 : Int32) = nI 3 from rfl, pk_mul] at e7
                rw [e7, nI_add] at e8
                rw [e8]
                exact hK2
        exact L2 zFU 0 (by omega) (by unfold zFU; omega) hK
  exact L zFU 0 (by omega) (by unfold zFU; omega) h
/-- less sure -/
def zls (μ : zMem) (i j : Nat) : Prop := zdb μ j < zdb μ i ∨ (zdb μ i = zdb μ j ∧ ztm μ j < ztm μ i)
def zBI (b : Nat) : Int32 := if b = 99 then -6 else nI b
noncomputable def zbe (μ : zMem) : Nat → Nat
  | 0 => 99
  | i + 1 => @ite Nat (0 < zdb μ i ∧ (zbe μ i = 99 ∨ zls μ i (zbe μ i))) (Classical.propDecidable _) i (zbe μ i)
theorem zbe_pos {μ : zMem} {i : Nat} (h : 0 < zdb μ i ∧ (zbe μ i = 99 ∨ zls μ i (zbe μ i))) : zbe μ (i + 1) = i := if_pos h
theorem zbe_neg {μ : zMem} {i : Nat} (h : ¬ (0 < zdb μ i ∧ (zbe μ i = 99 ∨ zls μ i (zbe μ i)))) : zbe μ (i + 1) = zbe μ i := if_neg h
theorem zbe_lt (μ : zMem) (i : Nat) : zbe μ i = 99 ∨ zbe μ i < i := by
  induction i with
  | zero => exact Or.inl rfl
  | succ i ih =>
    by_cases c : 0 < zdb μ i ∧ (zbe μ i = 99 ∨ zls μ i (zbe μ i))
    · rw [zbe_pos c]
      exact Or.inr (by omega)
    · rw [zbe_neg c]
      omega
theorem zx_less {n P D c ee i j : Nat} {μ : zMem} {K : Int32 → zMem → Prop} (hV : zV n P D c ee μ) (hi : i < P) (hj : j < P) (h1 : zls μ i j → K 1 μ) (h0 : ¬ zls μ i j → K 0 μ) : fX5_isLessSureThan (5 + 3 * i) (5 + 3 * j) μ K := by
  have b1 := zdb_le hV hi
  have b2 := zdb_le hV hj
  have t1 := ztm_eq hV hi
  have t2 := ztm_eq hV hj
  unfold fX5_isLessSureThan fX5_isLessSureThan_27 fX5_isLessSureThan_44
  refine zx_doubt hV hi (zx_doubt hV hj (pk_eq _ _ (fun e => ?_) (fun e => ?_)))
  · unfold fX5_timesOrdered
    intro x1 e1 x2 e2
    rw [t1.2] at e1
    rw [t2.2] at e2
    rw [e1, e2]
    refine pk_le _ _ (fun g => ⟨z_b0, h0 ?_⟩) (fun g => ⟨z_b1, h1 ?_⟩)
    · unfold zls
      omega
    · unfold zls
      omega
  · refine zx_doubt hV hi (zx_doubt hV hj (pk_le _ _ (fun g => ⟨z_b0, h0 ?_⟩) (fun g => ⟨z_b1, h1 ?_⟩)))
    · unfold zls
      omega
    · unfold zls
      omega
theorem zx_best {n P D c ee : Nat} {a : Int32} {μ : zMem} {K : Int32 → zMem → Prop} (hV : zV n P D c ee μ) (h : zbe μ P = 99 → K (-6) μ) (h0 : a = 0 → zbe μ P < P → K (nI (zbe μ P)) μ) (h1 : ¬ a = 0 → zbe μ P < P → K (nI (zdb μ (zbe μ P))) μ) : fX0_greatestDoubt_17 K 1 zFU a (-6) 0 μ := by
  have hP := hV.1.1
  have L : ∀ (n i : Nat), i ≤ P → P - i < n → fX0_greatestDoubt_17 K 1 n a (zBI (zbe μ i)) (nI i) μ := by
    intro n
    induction n with
    | zero => intro i g1 g2; omega
    | succ n ih =>
      intro i g1 g2
      show fX0_greatestDoubt_17b (fX0_greatestDoubt_17 K 1 n) K 1 a _ (nI i) μ
      unfold fX0_greatestDoubt_17b fX0_greatestDoubt_91 fX0_greatestDoubt_59 fX0_greatestDoubt_61
      rw [hV.1.2.2.2.2.1]
      refine pk_le P i (fun c => ?_) (fun hi => ?_)
      · have e : i = P := by omega
        subst e
        rcases zbe_lt μ i with c9 | c9
        · rw [c9, show zBI 99 = (-6 : Int32) from rfl]
          exact ⟨fun g => absurd g (by decide), fun _ => h c9⟩
        · have e9 : zBI (zbe μ i) = nI (zbe μ i) := if_neg (by omega)
          rw [e9]
          refine ⟨fun _ => ⟨fun g => ⟨vp_in_nI (by omega) (by decide), fun q6 e6 => ?_⟩, fun g => h0 g c9⟩, fun g => absurd (nI_pos' (by omega)) g⟩
          rw [zq_p (by omega) e6]
          exact zx_doubt hV c9 (h1 g c9)
      · have hi14 : i < 14 := by omega
        have next := ih (i + 1) (by omega) (by omega)
        refine ⟨vp_in_nI hi14 (by decide), fun q10 e10 => ?_⟩
        rw [zq_p hi14 e10]
        refine zx_doubt hV hi ?_
        have stay : ¬ (0 < zdb μ i ∧ (zbe μ i = 99 ∨ zls μ i (zbe μ i))) → ∀ x1 : Int32, x1 = nI i + 1 → fX0_greatestDoubt_17 K 1 n a (zBI (zbe μ i)) x1 μ := by
          intro g x1 e
          rw [zbe_neg g] at next
          rw [e, nI_1]
          exact next
        have take : (0 < zdb μ i ∧ (zbe μ i = 99 ∨ zls μ i (zbe μ i))) → ∀ x1 : Int32, x1 = nI i + 1 → fX0_greatestDoubt_17 K 1 n a (nI i) x1 μ := by
          intro g x1 e
          rw [zbe_pos g] at next
          rw [e, nI_1]
          have e9 : zBI i = nI i := if_neg (by omega)
          rw [e9] at next
          exact next
        have bd := zdb_le hV hi
        refine pk_le (zdb μ i) 0 (fun g => stay (fun z => by omega)) (fun g => ?_)
        rcases zbe_lt μ i with c9 | c9
        · rw [c9, show zBI 99 = (-6 : Int32) from rfl]
          exact ⟨fun _ => take ⟨g, Or.inl c9⟩, fun z => absurd (by decide) z⟩
        · have e9 : zBI (zbe μ i) = nI (zbe μ i) := if_neg (by omega)
          refine ⟨fun z => absurd z (by rw [e9]; exact nI_pos (by omega)), fun _ => ⟨vp_in_nI hi14 (by decide), fun q16 e16 => ⟨by rw [e9]; exact vp_in_nI (by omega) (by decide), fun q18 e18 => ?_⟩⟩⟩
          rw [e9] at e18
          rw [zq_p hi14 e16, zq_p (by omega) e18]
          refine zx_less hV hi (by omega) (fun z => ⟨fun y => absurd y (by decide), fun _ => take ⟨g, Or.inr z⟩⟩) (fun z => ⟨fun _ => stay (fun y => ?_), fun y => absurd rfl y⟩)
          rcases y.2 with y2 | y2
          · omega
          · exact z y2
  exact L zFU 0 (by omega) (by unfold zFU; omega)
theorem zx_unsure0 {n P D c ee q : Nat} {μ : zMem} {K : Int32 → zMem → Prop} (hV : zV n P D c ee μ) (h : K (zBI (zbe μ P)) μ) : fX7_unsurest q (0 : Int32) μ K := by
  unfold fX7_unsurest fX0_greatestDoubt fX0_greatestDoubt_12
  refine ⟨fun _ => zx_best (K := fun r1 m2 => K r1 m2) hV (fun e => ?_) (fun _ e => ?_) (fun g => absurd rfl g), fun g => absurd rfl g⟩
  · rw [e] at h
    exact h
  · have hP := hV.1.1
    have e9 : zBI (zbe μ P) = nI (zbe μ P) := if_neg (by omega)
    rw [e9] at h
    exact h
theorem zx_unsure1 {n P D c ee q : Nat} {μ : zMem} {K : Int32 → zMem → Prop} (hV : zV n P D c ee μ) (h : zbe μ P = 99 → K (-6) μ) (h1 : zbe μ P < P → K (nI (zdb μ (zbe μ P))) μ) : fX7_unsurest q (1 : Int32) μ K := by
  unfold fX7_unsurest fX0_greatestDoubt fX0_greatestDoubt_12
  exact ⟨fun g => absurd g (by decide), fun _ => ⟨fun _ => zx_best (K := fun r1 m2 => K r1 m2) hV h (fun g => absurd g (by decide)) (fun _ => h1), fun g => absurd rfl g⟩⟩
/-- the law's doubt -/
theorem zx_ldoubt {n P D c ee i : Nat} {μ : zMem} {K : Int32 → zMem → Prop} (hV : zV n P D c ee μ) (hi : i < P) (h : K (nI (zdb μ i)) μ) : fL_doubt 0 (nI i) μ K := by
  unfold fL_doubt fL_doubt_35
  refine zx_of5 hV hi (zx_of6 hV hi (fun x5 e5 => ?_))
  rw [(ztm_eq hV hi).2] at e5
  subst e5
  refine ⟨fun g => zx_of6 hV hi (fun x9 e9 => ⟨g, fun x11 e11 => ?_⟩), fun g => ?_⟩
  · rw [(zdb_eq hV hi).1 x11 g (by rw [e11, e9])]
    exact h
  · rw [(zdb_eq hV hi).2 g] at h
    exact h
