/-! the text, as both read it -/
def zT (ch : Nat → Int32) (n p : Nat) : Int32 := if p < n then ch p else 0
theorem zT_lt {ch : Nat → Int32} {n p : Nat} {c : Int32} (hc : (0 : Int32) < c) (h : c ≤ zT ch n p) : p < n := by
  refine Nat.lt_of_not_le (fun g => ?_)
  rw [zT, if_neg (by omega)] at h
  exact Int32.not_lt.mpr h hc
def zpN (T : Nat → Int32) (p : Nat) : Bool × Nat := if (48 : Int32) ≤ T p ∧ T p ≤ 57 then (true, if T p ≠ 48 ∧ ((48 : Int32) ≤ T (p + 1) ∧ T (p + 1) ≤ 57) then p + 2 else p + 1) else (false, p)
def zpO (T : Nat → Int32) (p : Nat) : Bool × Nat :=
  if T p = 118 then (if (zpN T (p + 1)).1 then (if T (zpN T (p + 1)).2 = 43 then zpN T ((zpN T (p + 1)).2 + 1) else (false, (zpN T (p + 1)).2)) else (false, (zpN T (p + 1)).2))
  else if T p = 111 then (if (zpN T (p + 1)).1 then (if (97 : Int32) ≤ T (zpN T (p + 1)).2 ∧ T (zpN T (p + 1)).2 ≤ 99 then (if T ((zpN T (p + 1)).2 + 1) = 43 then (if (48 : Int32) ≤ T ((zpN T (p + 1)).2 + 2) ∧ T ((zpN T (p + 1)).2 + 2) ≤ 57 then (true, (zpN T (p + 1)).2 + 3) else (false, (zpN T (p + 1)).2 + 2)) else (true, (zpN T (p + 1)).2 + 1)) else (false, (zpN T (p + 1)).2)) else (false, (zpN T (p + 1)).2))
  else if T p = 99 then (if (zpN T (p + 1)).1 then (true, if (97 : Int32) ≤ T (zpN T (p + 1)).2 ∧ T (zpN T (p + 1)).2 ≤ 99 then (zpN T (p + 1)).2 + 1 else (zpN T (p + 1)).2) else (false, (zpN T (p + 1)).2))
  else if T p = 112 ∨ T p = 107 ∨ T p = 120 then (true, p + 1) else (false, p)
theorem zT_e {ch : Nat → Int32} {n p : Nat} {c : Int32} (hc : (0 : Int32) < c) (h : zT ch n p = c) : p < n := zT_lt hc (by rw [h]; exact Int32.le_refl _)
theorem zpN_b {ch : Nat → Int32} {n p : Nat} (hp : p ≤ n) : p ≤ (zpN (zT ch n) p).2 ∧ (zpN (zT ch n) p).2 ≤ n := by
  unfold zpN
  split
  · rename_i h
    have h1 := zT_lt (by decide) h.1
    dsimp only
    split
    · rename_i h2
      have := zT_lt (by decide) h2.2.1
      omega
    · omega
  · exact ⟨Nat.le_refl _, hp⟩
theorem zpO_b {ch : Nat → Int32} {n p : Nat} (hp : p ≤ n) : (zpO (zT ch n) p).2 ≤ n ∧ ((zpO (zT ch n) p).1 = true → p < (zpO (zT ch n) p).2) := by
  have N1 : p < n → p + 1 ≤ (zpN (zT ch n) (p + 1)).2 ∧ (zpN (zT ch n) (p + 1)).2 ≤ n := fun h => zpN_b h
  unfold zpO
  split
  · rename_i h
    have h1 := N1 (zT_e (by decide) h)
    split
    · split
      · rename_i h2
        have h3 := zT_e (by decide) h2
        have h4 := zpN_b (ch := ch) (n := n) (p := (zpN (zT ch n) (p + 1)).2 + 1) h3
        exact ⟨h4.2, fun _ => by omega⟩
      · exact ⟨h1.2, fun g => absurd (show false = true from g) (by decide)⟩
    · exact ⟨h1.2, fun g => absurd (show false = true from g) (by decide)⟩
  · split
    · rename_i h
      have h1 := N1 (zT_e (by decide) h)
      split
      · split
        · rename_i h2
          have h3 := zT_lt (by decide) h2.1
          split
          · rename_i h4
            have h5 := zT_e (by decide) h4
            split
            · rename_i h6
              have h7 := zT_lt (by decide) h6.1
              exact ⟨by dsimp only; omega, fun _ => by dsimp only; omega⟩
            · exact ⟨by dsimp only; omega, fun g => absurd (show false = true from g) (by decide)⟩
          · exact ⟨by dsimp only; omega, fun _ => by dsimp only; omega⟩
        · exact ⟨h1.2, fun g => absurd (show false = true from g) (by decide)⟩
      · exact ⟨h1.2, fun g => absurd (show false = true from g) (by decide)⟩
    · split
      · rename_i h
        have h1 := N1 (zT_e (by decide) h)
        split
        · dsimp only
          split
          · rename_i h2
            have h3 := zT_lt (by decide) h2.1
            exact ⟨by omega, fun _ => by omega⟩
          · exact ⟨h1.2, fun _ => by omega⟩
        · exact ⟨h1.2, fun g => absurd (show false = true from g) (by decide)⟩
      · split
        · rename_i h
          have h1 : p < n := by
            rcases h with h | h | h
            · exact zT_e (by decide) h
            · exact zT_e (by decide) h
            · exact zT_e (by decide) h
          exact ⟨by dsimp only; omega, fun _ => by dsimp only; omega⟩
        · exact ⟨hp, fun g => absurd (show false = true from g) (by decide)⟩
/-- the fault's place -/
def zpF (T : Nat → Int32) (n : Nat) : Nat → Nat → Option Nat
  | 0, p => some p
  | f + 1, p => if (zpO T p).1 then (if n ≤ (zpO T p).2 then none else if T (zpO T p).2 = 59 then zpF T n f ((zpO T p).2 + 1) else some (zpO T p).2) else some (zpO T p).2
/-! the reference's reader -/
def zPS (m0 m : zMem) (p o : Nat) : Prop := (∀ a, a ≠ 529 → a ≠ 535 → m a = m0 a) ∧ (∀ k, k ≠ 9 → k ≠ 10 → m 529 k = m0 529 k) ∧ m 529 9 = nI o ∧ m 529 10 = nI p
def zPB (m0 : zMem) (ch : Nat → Int32) (n : Nat) : Prop := n ≤ 80 ∧ m0 529 7 = nI n ∧ ∀ j, j < n → m0 536 j = ch j
theorem zPS_535 {m0 m : zMem} {p o k : Nat} {x : Int32} (h : zPS m0 m p o) : zPS m0 (z_up m 535 k x) p o :=
  ⟨fun a ha hb => by rw [zu_ne hb]; exact h.1 a ha hb, fun k h1 h2 => by rw [zu_ne (by decide)]; exact h.2.1 k h1 h2, by rw [zu_ne (by decide)]; exact h.2.2.1, by rw [zu_ne (by decide)]; exact h.2.2.2⟩
theorem zPS_10 {m0 m : zMem} {p o p2 : Nat} {x : Int32} (h : zPS m0 m p o) (hx : x = nI p2) : zPS m0 (z_up m 529 10 x) p2 o :=
  ⟨fun a ha hb => by rw [zu_ne ha]; exact h.1 a ha hb, fun k h1 h2 => by rw [zu_same, z_upd_ne h2]; exact h.2.1 k h1 h2, by rw [zu_same, z_upd_ne (by decide)]; exact h.2.2.1, by rw [zu_same, z_upd_same]; exact hx⟩
theorem zPS_9 {m0 m : zMem} {p o o2 : Nat} {x : Int32} (h : zPS m0 m p o) (hx : x = nI o2) : zPS m0 (z_up m 529 9 x) p o2 :=
  ⟨fun a ha hb => by rw [zu_ne ha]; exact h.1 a ha hb, fun k h1 h2 => by rw [zu_same, z_upd_ne h1]; exact h.2.1 k h1 h2, by rw [zu_same, z_upd_same]; exact hx, by rw [zu_same, z_upd_ne (by decide)]; exact h.2.2.2⟩
theorem zr_isSign {lo hi : Int32} {m0 m : zMem} {ch : Nat → Int32} {n p o : Nat} {K : Int32 → zMem → Prop} (hl : (0 : Int32) < lo) (hB : zPB m0 ch n) (hS : zPS m0 m p o) (hp : p ≤ n) (h1 : p < n → m 536 p = zT ch n p → lo ≤ zT ch n p ∧ zT ch n p ≤ hi → K 1 m) (h0 : ¬ (lo ≤ zT ch n p ∧ zT ch n p ≤ hi) → K 0 m) : fX8_isSign 529 lo hi m K := by
  have h7 : m 529 7 = nI n := by rw [hS.2.1 7 (by decide) (by decide)]; exact hB.2.1
  have h10 := hS.2.2.2
  have hn := hB.1
  unfold fX8_isSign fX8_isSign_41 fX8_isSign_42
  rw [h7, h10]
  refine ⟨fun c => ⟨Or.inl rfl, h0 (fun g => ?_)⟩, fun c => ?_⟩
  · have : n ≤ p := (nI_leI (by omega) (by omega)).mp c
    have := zT_lt hl g.1
    omega
  · have hlt : p < n := Nat.lt_of_not_le (fun g => c ((nI_leI (by omega) (by omega)).mpr g))
    have e : m 536 p = zT ch n p := by
      rw [zT, if_pos hlt, hS.1 536 (by decide) (by decide)]
      exact hB.2.2 p hlt
    refine ⟨vp_in_nI (by omega) (by decide), fun x3 e3 => ?_⟩
    rw [nI_clamp (by omega), e] at e3
    refine ⟨fun c1 => ⟨Or.inl rfl, h0 (fun g => ?_)⟩, fun c1 => ⟨vp_in_nI (by omega) (by decide), fun x6 e6 => ?_⟩⟩
    · rw [e3] at c1
      exact Int32.not_lt.mpr g.1 c1
    · rw [nI_clamp (by omega), e] at e6
      rw [e3] at c1
      refine ⟨fun c2 => ⟨Or.inl rfl, h0 (fun g => ?_)⟩, fun c2 => ⟨Or.inr rfl, h1 hlt e ⟨Int32.not_lt.mp c1, ?_⟩⟩⟩
      · rw [e6] at c2
        exact Int32.not_lt.mpr g.2 c2
      · rw [e6] at c2
        exact Int32.not_lt.mp c2
theorem zr_accepts {c : Int32} {m0 m : zMem} {ch : Nat → Int32} {n p o : Nat} {K : Int32 → zMem → Prop} (hl : (0 : Int32) < c) (hB : zPB m0 ch n) (hS : zPS m0 m p o) (hp : p ≤ n) (h1 : zT ch n p = c → ∀ m2, zPS m0 m2 (p + 1) o → K 1 m2) (h0 : ¬ zT ch n p = c → ∀ m2, zPS m0 m2 p o → K 0 m2) : fX8_accepts 529 c m K := by
  unfold fX8_accepts fX8_accepts_21
  refine zr_isSign hl hB hS hp (fun _ _ g => ⟨fun e => absurd e (by decide), fun _ x e m2 e2 => ⟨Or.inr rfl, ?_⟩⟩) (fun g => ⟨fun _ x e m2 e2 => ⟨Or.inl rfl, ?_⟩, fun e => absurd rfl e⟩)
  · rw [e2]
    exact h1 (Int32.le_antisymm g.2 g.1) _ (zPS_10 hS (by rw [e, hS.2.2.2]; exact nI_1 p))
  · rw [e2]
    exact h0 (fun g2 => g (by rw [g2]; exact ⟨Int32.le_refl _, Int32.le_refl _⟩)) _ (zPS_10 hS (by rw [e, hS.2.2.2, zq0, nI_add, Nat.add_zero]))
theorem zr_sign {a : Nat} {c lo hi : Int32} {m0 m : zMem} {ch : Nat → Int32} {n p o : Nat} {K : Int32 → zMem → Prop} (hc : c = nI a) (ha : a ≤ 3) (ho : o ≤ 40) (hl : (0 : Int32) < lo) (hB : zPB m0 ch n) (hS : zPS m0 m p o) (hp : p ≤ n) (h1 : lo ≤ zT ch n p ∧ zT ch n p ≤ hi → ∀ m2, zPS m0 m2 (p + 1) o → K 1 m2) (h0 : ¬ (lo ≤ zT ch n p ∧ zT ch n p ≤ hi) → ∀ m2, zPS m0 m2 p o → K 0 m2) : fX8_sign 529 c lo hi m K := by
  have hn := hB.1
  unfold fX8_sign
  have ix : ∀ x8 x9 : Int32, x8 = (4 : Int32) * (m 529 9) → x9 = x8 + c → x9 = nI (4 * o + a) := by
    intro x8 x9 e8 e9
    rw [e9, e8, hS.2.2.1, hc, zq4, pk_mul, nI_add]
  refine zr_isSign hl hB hS hp (fun hlt _ g => fun x8 e8 x9 e9 => ⟨fun e => absurd e (by decide), fun _ => ?_⟩) (fun g => fun x8 e8 x9 e9 => ⟨fun _ => ?_, fun e => absurd rfl e⟩)
  · rw [hS.2.2.2]
    refine ⟨vp_in_nI (by omega) (by decide), fun x12 e12 x13 e13 => ?_⟩
    unfold fX8_sign_40 fX8_sign_56
    rw [ix x8 x9 e8 e9]
    refine ⟨vp_in_nI (by omega) (by decide), fun m4 e4 => ⟨fun e => absurd e (by decide), fun _ x e m2 e2 => ⟨Or.inr rfl, ?_⟩⟩⟩
    have h4 : zPS m0 m4 p o := by rw [e4]; exact zPS_535 hS
    rw [e2]
    exact h1 g _ (zPS_10 h4 (by rw [e, h4.2.2.2]; exact nI_1 p))
  · unfold fX8_sign_40 fX8_sign_56
    rw [ix x8 x9 e8 e9]
    refine ⟨vp_in_nI (by omega) (by decide), fun m4 e4 => ⟨fun _ x e m2 e2 => ⟨Or.inl rfl, ?_⟩, fun e => absurd rfl e⟩⟩
    have h4 : zPS m0 m4 p o := by rw [e4]; exact zPS_535 hS
    rw [e2]
    exact h0 g _ (zPS_10 h4 (by rw [e, h4.2.2.2, zq0, nI_add, Nat.add_zero]))
theorem zr_number {a : Nat} {c : Int32} {m0 m : zMem} {ch : Nat → Int32} {n p o : Nat} {K : Int32 → zMem → Prop} (hc : c = nI a) (ha : a ≤ 3) (ho : o ≤ 40) (hB : zPB m0 ch n) (hS : zPS m0 m p o) (hp : p ≤ n) (h1 : (zpN (zT ch n) p).1 = true → ∀ m2, zPS m0 m2 (zpN (zT ch n) p).2 o → K 1 m2) (h0 : (zpN (zT ch n) p).1 = false → ∀ m2, zPS m0 m2 (zpN (zT ch n) p).2 o → K 0 m2) : fX8_number 529 c m K := by
  have hn := hB.1
  unfold fX8_number fX8_number_108
  intro x1 e1 x2 e2
  have e2 : x2 = nI (4 * o + a) := by rw [e2, e1, hS.2.2.1, hc, zq4, pk_mul, nI_add]
  have hx2 : vp_in x2 164 := by rw [e2]; exact vp_in_nI (by omega) (by decide)
  refine zr_isSign (by decide) hB hS hp (fun hlt em g => ⟨fun _ => ?_, fun e => absurd e (by decide)⟩) (fun g => ⟨fun e => absurd rfl e, fun _ => ?_⟩)
  · unfold zpN at h1
    rw [if_pos g] at h1
    have h1 := h1 rfl
    rw [hS.2.2.2, nI_clamp (by omega)]
    refine ⟨vp_in_nI (by omega) (by decide), fun x7 e7 x8 e8 => ⟨hx2, fun m10 e10 x11 e11 m12 e12 => ⟨hx2, fun x14 e14 => ?_⟩⟩⟩
    have h10 : zPS m0 m10 p o := by rw [e10]; exact zPS_535 hS
    have h12 : zPS m0 m12 (p + 1) o := by rw [e12]; exact zPS_10 h10 (by rw [e11, h10.2.2.2]; exact nI_1 p)
    have e14 : x14 = zT ch n p - 48 := by rw [e14, e12, zu_ne (by decide), e10, zu_same, z_upd_same, e8, e7, em]
    obtain ⟨j, j1, j2, ej⟩ := zi_mem (l := 48) (n := 57) (by decide) (by decide) g.1 g.2
    have e14 : x14 = nI (j - 48) := by rw [e14, ej, show (48 : Int32) = nI 48 from rfl, pk_sub j1]
    refine ⟨fun c1 => ?_, fun c1 => ?_⟩
    · have hj : j = 48 := by
        refine Nat.le_antisymm (Nat.le_of_not_lt (fun g2 => ?_)) j1
        rw [e14] at c1
        exact nI_nle (by omega) (by omega) c1
      have e48 : zT ch n p = 48 := by rw [ej, hj]; rfl
      dsimp only at h1
      rw [if_neg (fun g2 => g2.1 e48)] at h1
      exact h1 m12 h12
    · have hj : zT ch n p ≠ 48 := by
        intro g2
        rw [ej] at g2
        have : j = 48 := (nI_eq (b := 48) (by omega) (by decide)).mp g2
        rw [e14, this] at c1
        exact c1 (by decide)
      refine zr_isSign (by decide) hB h12 (by omega) (fun hlt2 em2 g2 => ⟨fun e => absurd e (by decide), fun _ => ?_⟩) (fun g2 => ⟨fun _ => ?_, fun e => absurd rfl e⟩)
      · dsimp only at h1
        rw [if_pos ⟨hj, g2⟩] at h1
        refine ⟨hx2, fun x20 e20 x21 e21 => ?_⟩
        rw [h12.2.2.2]
        refine ⟨vp_in_nI (by omega) (by decide), fun x23 e23 x24 e24 x25 e25 => ⟨hx2, fun m27 e27 x28 e28 m29 e29 => ?_⟩⟩
        have h27 : zPS m0 m27 (p + 1) o := by rw [e27]; exact zPS_535 h12
        rw [e29]
        exact h1 _ (zPS_10 h27 (by rw [e28, h27.2.2.2]; exact nI_1 (p + 1)))
      · dsimp only at h1
        rw [if_neg (fun g3 => g2 g3.2)] at h1
        exact h1 m12 h12
  · unfold zpN at h0
    rw [if_neg g] at h0
    exact h0 rfl m hS
