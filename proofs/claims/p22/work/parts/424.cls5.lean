/-! X7: its reader -/
def zCB (m0 : zMem) (ch : Nat → Int32) (n : Nat) : Prop := n ≤ 80 ∧ m0 526 1 = nI n ∧ ∀ j, j < n → m0 527 j = ch j
def zCS (m0 m : zMem) (p : Nat) : Prop := (∀ a, a ≠ 528 → m a = m0 a) ∧ m 528 1 = nI p
theorem zCS_k {m0 m : zMem} {p k : Nat} {x : Int32} (h : zCS m0 m p) (hk : k ≠ 1) : zCS m0 (z_up m 528 k x) p :=
  ⟨fun a ha => by rw [zu_ne ha]; exact h.1 a ha, by rw [zu_same, z_upd_ne (Ne.symm hk)]; exact h.2⟩
theorem zCS_1 {m0 m : zMem} {p p2 : Nat} {x : Int32} (h : zCS m0 m p) (hx : x = nI p2) : zCS m0 (z_up m 528 1 x) p2 :=
  ⟨fun a ha => by rw [zu_ne ha]; exact h.1 a ha, by rw [zu_same, z_upd_same]; exact hx⟩
theorem zcr_at {m0 m : zMem} {ch : Nat → Int32} {n p : Nat} {K : Int32 → zMem → Prop} (hB : zCB m0 ch n) (hS : zCS m0 m p) (hp : p ≤ 100) (h : K (zT ch n p) m) : fX4_at 526 (m 528 1) m K := by
  have hn := hB.1
  have hl : m 526 1 = nI n := by rw [hS.1 526 (by decide)]; exact hB.2.1
  unfold fX4_at fX4_at_21 fX4_at_22
  rw [hS.2, hl]
  refine ⟨fun c => absurd c (nI_pos (by omega)), fun _ => ⟨fun c => ?_, fun c => ?_⟩⟩
  · have : n ≤ p := (nI_leI (by omega) (by omega)).mp c
    rw [zT, if_neg (by omega)] at h
    exact h
  · have hlt : p < n := Nat.lt_of_not_le (fun g => c ((nI_leI (by omega) (by omega)).mpr g))
    refine ⟨vp_in_nI (by omega) (by decide), fun x4 e4 => ?_⟩
    rw [nI_clamp (by omega)] at e4
    have e4 : x4 = m 527 p := e4
    rw [zT, if_pos hlt] at h
    rw [e4, hS.1 527 (by decide), hB.2.2 p hlt]
    exact h
theorem zcr_take {c : Int32} {m0 m : zMem} {ch : Nat → Int32} {n p : Nat} {K : Int32 → zMem → Prop} (hB : zCB m0 ch n) (hS : zCS m0 m p) (hp : p ≤ 100) (h1 : zT ch n p = c → ∀ m2, zCS m0 m2 (p + 1) → K 1 m2) (h0 : ¬ zT ch n p = c → K 0 m) : fX3_take 528 c m K := by
  unfold fX3_take
  refine zcr_at hB hS hp ⟨fun g x4 e4 m5 e5 => ?_, fun g => h0 g⟩
  rw [e5]
  exact h1 g _ (zCS_1 hS (by rw [e4, hS.2, nI_1]))
theorem zcr_digit {m0 m : zMem} {ch : Nat → Int32} {n p : Nat} {K : Int32 → zMem → Prop} (hB : zCB m0 ch n) (hS : zCS m0 m p) (hp : p ≤ 100) (h1 : ∀ j, 48 ≤ j → j ≤ 57 → zT ch n p = nI j → ∀ m2, zCS m0 m2 (p + 1) → K (nI (j - 48)) m2) (h0 : ¬ ((48 : Int32) ≤ zT ch n p ∧ zT ch n p ≤ 57) → K (-6) m) : fX3_readDigit 528 m K := by
  unfold fX3_readDigit fX3_readDigit_24
  refine zcr_at hB hS hp ⟨fun g => h0 (fun g2 => Int32.not_lt.mpr g2.1 g), fun g => ⟨fun g2 x5 e5 m6 e6 x7 e7 => ?_, fun g2 => h0 (fun g3 => g2 g3.2)⟩⟩
  obtain ⟨j, j1, j2, ej⟩ := zi_mem (l := 48) (n := 57) (by decide) (by decide) (Int32.not_lt.mp g) g2
  rw [e7, ej, show (48 : Int32) = nI 48 from rfl, pk_sub j1, e6]
  exact h1 j j1 j2 ej _ (zCS_1 hS (by rw [e5, hS.2, nI_1]))
theorem zcr_number {m0 m : zMem} {ch : Nat → Int32} {n p : Nat} {K : Int32 → zMem → Prop} (hB : zCB m0 ch n) (hS : zCS m0 m p) (hp : p ≤ 90) (h1 : (zpN (zT ch n) p).1 = true → ∀ r m2, ¬ r < 0 → zCS m0 m2 (zpN (zT ch n) p).2 → K r m2) (h0 : (zpN (zT ch n) p).1 = false → (zpN (zT ch n) p).2 = p → ∀ r, r < 0 → K r m) : fX3_readNumber 528 m K := by
  unfold fX3_readNumber fX3_readNumber_30
  refine zcr_digit hB hS (by omega) (fun j j1 j2 ej m2 s2 => ?_) (fun g => ?_)
  · have hd : (48 : Int32) ≤ zT ch n p ∧ zT ch n p ≤ 57 := by
      rw [ej]
      exact ⟨nI_le j1 (by omega), nI_le (b := 57) j2 (by decide)⟩
    unfold zpN at h1
    rw [if_pos hd] at h1
    have h1 := h1 rfl
    dsimp only at h1
    refine ⟨fun g => ?_, fun g => ?_⟩
    · have hj : zT ch n p ≠ 48 := by
        intro g2
        rw [ej] at g2
        have e := (nI_eq (b := 48) (by omega) (by decide)).mp g2
        rw [e] at g
        exact absurd g (by decide)
      refine zcr_digit hB s2 (by omega) (fun i i1 i2 ei m3 s3 => ⟨fun _ x7 e7 x8 e8 => ?_, fun g2 => absurd (nI_pos' (by omega)) g2⟩) (fun g2 => ⟨fun g3 => absurd g3 (by decide), fun _ => ?_⟩)
      · have hd2 : (48 : Int32) ≤ zT ch n (p + 1) ∧ zT ch n (p + 1) ≤ 57 := by
          rw [ei]
          exact ⟨nI_le i1 (by omega), nI_le (b := 57) i2 (by decide)⟩
        rw [if_pos ⟨hj, hd2⟩] at h1
        refine h1 _ m3 ?_ s3
        rw [e8, e7, zq10, pk_mul, nI_add]
        exact nI_pos (by omega)
      · rw [if_neg (fun g3 => g2 g3.2)] at h1
        exact h1 _ m2 (nI_pos (by omega)) s2
    · have hj : zT ch n p = 48 := by
        rw [ej]
        have : ¬ 0 < j - 48 := fun g2 => g (by
          have := nI_lt (a := 0) (b := j - 48) g2 (by omega)
          exact this)
        have : j = 48 := by omega
        rw [this]
        rfl
      rw [if_neg (fun g3 => g3.1 hj)] at h1
      exact h1 _ m2 (nI_pos (by omega)) s2
  · unfold zpN at h0
    rw [if_neg g] at h0
    exact ⟨fun g2 => absurd g2 (by decide), fun _ => h0 rfl rfl _ (by decide)⟩
theorem zcr_person {m0 m : zMem} {ch : Nat → Int32} {n p : Nat} {K : Int32 → zMem → Prop} (hB : zCB m0 ch n) (hS : zCS m0 m p) (hp : p ≤ 90) (h1 : (zpN (zT ch n) p).1 = true → ∀ m2, zCS m0 m2 (zpN (zT ch n) p).2 → K 1 m2) (h0 : (zpN (zT ch n) p).1 = false → ∀ m2, zCS m0 m2 (zpN (zT ch n) p).2 → K 0 m2) : fX3_readPerson 528 m K := by
  unfold fX3_readPerson fX3_readPerson_20
  refine zcr_number hB hS hp (fun c r m2 hr s2 m3 e3 => ?_) (fun c e r hr m3 e3 => ?_)
  · rw [e3, zu_same, z_upd_same]
    exact ⟨fun g => absurd g hr, fun _ => ⟨Or.inr rfl, h1 c _ (zCS_k s2 (by decide))⟩⟩
  · rw [e3, zu_same, z_upd_same]
    exact ⟨fun _ => ⟨Or.inl rfl, h0 c _ (by rw [e]; exact zCS_k hS (by decide))⟩, fun g => absurd hr g⟩
theorem zcr_many {m0 m : zMem} {ch : Nat → Int32} {n p : Nat} {K : Int32 → zMem → Prop} (hB : zCB m0 ch n) (hS : zCS m0 m p) (hp : p ≤ 90) (h1 : (zpN (zT ch n) p).1 = true → ∀ m2, zCS m0 m2 (zpN (zT ch n) p).2 → K 1 m2) (h0 : (zpN (zT ch n) p).1 = false → ∀ m2, zCS m0 m2 (zpN (zT ch n) p).2 → K 0 m2) : fX3_readMany 528 m K := by
  unfold fX3_readMany fX3_readMany_20
  refine zcr_number hB hS hp (fun c r m2 hr s2 m3 e3 => ?_) (fun c e r hr m3 e3 => ?_)
  · rw [e3, zu_same, z_upd_same]
    exact ⟨fun g => absurd g hr, fun _ => ⟨Or.inr rfl, h1 c _ (zCS_k s2 (by decide))⟩⟩
  · rw [e3, zu_same, z_upd_same]
    exact ⟨fun _ => ⟨Or.inl rfl, h0 c _ (by rw [e]; exact zCS_k hS (by decide))⟩, fun g => absurd hr g⟩
theorem zcr_dish {m0 m : zMem} {ch : Nat → Int32} {n p : Nat} {K : Int32 → zMem → Prop} (hB : zCB m0 ch n) (hS : zCS m0 m p) (hp : p ≤ 100) (h1 : (97 : Int32) ≤ zT ch n p ∧ zT ch n p ≤ 99 → ∀ m2, zCS m0 m2 (p + 1) → K 1 m2) (h0 : ¬ ((97 : Int32) ≤ zT ch n p ∧ zT ch n p ≤ 99) → K 0 m) : fX3_readDish 528 m K := by
  unfold fX3_readDish fX3_readDish_24
  refine zcr_at hB hS hp ⟨fun g => h0 (fun g2 => Int32.not_lt.mpr g2.1 g), fun g => ⟨fun g2 x5 e5 m6 e6 x7 e7 m8 e8 => ?_, fun g2 => h0 (fun g3 => g2 g3.2)⟩⟩
  have s6 : zCS m0 m6 p := by rw [e6]; exact zCS_k hS (by decide)
  rw [e8]
  exact h1 ⟨Int32.not_lt.mp g, g2⟩ _ (zCS_1 s6 (by rw [e7, s6.2, nI_1]))
theorem zcr_readOrder {m0 m : zMem} {ch : Nat → Int32} {n p : Nat} {K : Int32 → zMem → Prop} (hB : zCB m0 ch n) (hS : zCS m0 m p) (hp : p ≤ n) (h : ∀ r m2, zCS m0 m2 (zpO (zT ch n) p).2 → (r = 1 ∧ (zpO (zT ch n) p).1 = true ∨ r = 0 ∧ ((zpO (zT ch n) p).1 = true → (zpO (zT ch n) p).2 < n ∧ zT ch n (zpO (zT ch n) p).2 ≠ 59)) → K r m2) : fX3_readOrder 528 m K := by
  have hn := hB.1
  have fin1 : ∀ (p2 : Nat) (m2 : zMem), zpO (zT ch n) p = (true, p2) → zCS m0 m2 p2 → K 1 m2 := by
    intro p2 m2 e s
    rw [e] at h
    exact h 1 m2 s (Or.inl ⟨rfl, rfl⟩)
  have fin0 : ∀ (p2 : Nat) (m2 : zMem), zpO (zT ch n) p = (false, p2) → zCS m0 m2 p2 → K 0 m2 := by
    intro p2 m2 e s
    rw [e] at h
    exact h 0 m2 s (Or.inr ⟨rfl, fun g => absurd (show false = true from g) (by decide)⟩)
  have N1 : p < n → p + 1 ≤ (zpN (zT ch n) (p + 1)).2 ∧ (zpN (zT ch n) (p + 1)).2 ≤ n := fun g => zpN_b g
  unfold fX3_readOrder fX3_readOrder_211 fX3_readOrder_207 fX3_readOrder_212 fX3_readOrder_174 fX3_readOrder_175 fX3_readOrder_137 fX3_readOrder_138
  refine zcr_at hB hS (by omega) (fun m3 e3 m4 e4 m5 e5 => ?_)
  have s5 : zCS m0 m5 p := by
    rw [e5]
    refine zCS_k ?_ (by decide)
    rw [e4]
    refine zCS_k ?_ (by decide)
    rw [e3]
    exact zCS_k hS (by decide)
  have l5 : m5 528 2 = zT ch n p := by
    rw [e5, zu_same, z_upd_ne (by decide), e4, zu_same, z_upd_ne (by decide), e3, zu_same, z_upd_same]
  have nx : ∀ (x : Int32) (m8 : zMem), x = m5 528 1 + (1 : Int32) → m8 = z_up m5 528 1 x → zCS m0 m8 (p + 1) := by
    intro x m8 e e8
    rw [e8]
    exact zCS_1 s5 (by rw [e, s5.2, nI_1])
  rw [l5]
  refine ⟨fun cc x7 e7 m8 e8 => ?_, fun cc => ⟨fun ck x19 e19 m20 e20 => ?_, fun ck => ⟨fun co x22 e22 m23 e23 => ?_, fun co => ⟨fun cp x34 e34 m35 e35 => ?_, fun cp => ⟨fun cv x37 e37 m38 e38 => ?_, fun cv => ⟨fun cx x49 e49 m50 e50 => ?_, fun cx => ?_⟩⟩⟩⟩⟩⟩
  · -- a comer
    have hp1 := zT_e (by decide) cc
    have B1 := N1 hp1
    have E : zpO (zT ch n) p = (if (zpN (zT ch n) (p + 1)).1 then (true, if (97 : Int32) ≤ zT ch n (zpN (zT ch n) (p + 1)).2 ∧ zT ch n (zpN (zT ch n) (p + 1)).2 ≤ 99 then (zpN (zT ch n) (p + 1)).2 + 1 else (zpN (zT ch n) (p + 1)).2) else (false, (zpN (zT ch n) (p + 1)).2)) := by
      conv => lhs; unfold zpO
      rw [if_neg (by rw [cc]; decide), if_neg (by rw [cc]; decide), if_pos cc]
    refine zcr_person hB (nx _ _ e7 e8) (by omega) (fun c1 m10 s10 => ⟨fun g => absurd g (by decide), fun _ => ?_⟩) (fun c1 m10 s10 => ⟨fun _ => ⟨Or.inl rfl, ?_⟩, fun g => absurd rfl g⟩)
    · rw [if_pos c1] at E
      obtain ⟨q, hq⟩ : ∃ q, q = (zpN (zT ch n) (p + 1)).2 := ⟨_, rfl⟩
      rw [← hq] at E s10 B1
      have nod : ¬ ((97 : Int32) ≤ zT ch n q ∧ zT ch n q ≤ 99) → zpO (zT ch n) p = (true, q) := fun g => by rw [E, if_neg g]
      unfold fX3_isOrderOver fX3_isOrderOver_30 fX3_isOrderOver_35 fX4_length
      have hl : m10 526 1 = nI n := by rw [s10.1 526 (by decide)]; exact hB.2.1
      rw [hl, s10.2]
      refine ⟨fun c2 => ⟨Or.inr rfl, fun _ => ⟨Or.inr rfl, ?_⟩, fun g => absurd g (by decide)⟩, fun c2 => ?_⟩
      · have : n ≤ q := (nI_leI (by omega) (by omega)).mp c2
        exact fin1 q m10 (nod (fun g => by have := zT_lt (by decide) g.1; omega)) s10
      · have hlt : q < n := Nat.lt_of_not_le (fun g => c2 ((nI_leI (by omega) (by omega)).mpr g))
        refine zcr_at hB s10 (by omega) ⟨fun c3 => ⟨Or.inl rfl, fun g => absurd rfl g, fun _ => ?_⟩, fun c3 => ⟨Or.inr rfl, fun _ => ⟨Or.inr rfl, ?_⟩, fun g => absurd g (by decide)⟩⟩
        · refine zcr_dish hB s10 (by omega) (fun c4 m16 s16 => ⟨fun g => absurd g (by decide), fun _ => ⟨Or.inr rfl, ?_⟩⟩) (fun c4 => ⟨fun _ => ⟨Or.inl rfl, ?_⟩, fun g => absurd rfl g⟩)
          · exact fin1 (q + 1) m16 (by rw [E, if_pos c4]) s16
          · have E2 := nod c4
            rw [E2] at h
            exact h 0 m10 s10 (Or.inr ⟨rfl, fun _ => ⟨hlt, c3⟩⟩)
        · exact fin1 q m10 (nod (fun g => by rw [c3] at g; exact absurd g.1 (by decide))) s10
    · rw [if_neg (by rw [c1]; decide)] at E
      exact fin0 _ m10 E s10
  · refine fin1 (p + 1) m20 ?_ (nx _ _ e19 e20)
    unfold zpO
    rw [if_neg (by rw [ck]; decide), if_neg (by rw [ck]; decide), if_neg cc, if_pos (Or.inr (Or.inl ck))]
  · -- an order
    have hp1 := zT_e (by decide) co
    have B1 := N1 hp1
    have E : zpO (zT ch n) p = (if (zpN (zT ch n) (p + 1)).1 then (if (97 : Int32) ≤ zT ch n (zpN (zT ch n) (p + 1)).2 ∧ zT ch n (zpN (zT ch n) (p + 1)).2 ≤ 99 then (if zT ch n ((zpN (zT ch n) (p + 1)).2 + 1) = 43 then (if (48 : Int32) ≤ zT ch n ((zpN (zT ch n) (p + 1)).2 + 2) ∧ zT ch n ((zpN (zT ch n) (p + 1)).2 + 2) ≤ 57 then (true, (zpN (zT ch n) (p + 1)).2 + 3) else (false, (zpN (zT ch n) (p + 1)).2 + 2)) else (true, (zpN (zT ch n) (p + 1)).2 + 1)) else (false, (zpN (zT ch n) (p + 1)).2)) else (false, (zpN (zT ch n) (p + 1)).2)) := by
      conv => lhs; unfold zpO
      rw [if_neg (by rw [co]; decide), if_pos co]
    refine zcr_person hB (nx _ _ e22 e23) (by omega) (fun c1 m25 s25 => ⟨fun g => absurd g (by decide), fun _ => ?_⟩) (fun c1 m25 s25 => ⟨fun _ => ⟨Or.inl rfl, ?_⟩, fun g => absurd rfl g⟩)
    · rw [if_pos c1] at E
      obtain ⟨q, hq⟩ : ∃ q, q = (zpN (zT ch n) (p + 1)).2 := ⟨_, rfl⟩
      rw [← hq] at E s25 B1
      refine zcr_dish hB s25 (by omega) (fun c2 m28 s28 => ⟨fun g => absurd g (by decide), fun _ => ?_⟩) (fun c2 => ⟨fun _ => ⟨Or.inl rfl, ?_⟩, fun g => absurd rfl g⟩)
      · rw [if_pos c2] at E
        have hq2 := zT_lt (by decide) c2.1
        unfold fX3_readAhead fX3_readAhead_31
        refine zcr_take hB s28 (by omega) (fun c3 m29 s29 => ⟨fun _ => ?_, fun g => absurd g (by decide)⟩) (fun c3 => ⟨fun g => absurd rfl g, fun _ => ⟨fun g => absurd g (by decide), fun _ => ⟨Or.inr rfl, ?_⟩⟩⟩)
        · rw [if_pos c3] at E
          have hq3 := zT_e (by decide) c3
          refine zcr_digit hB s29 (by omega) (fun j j1 j2 ej m30 s30 m6 e6 => ?_) (fun g m6 e6 => ?_)
          · rw [if_pos (show (48 : Int32) ≤ zT ch n (q + 2) ∧ zT ch n (q + 2) ≤ 57 by rw [show q + 2 = q + 1 + 1 from rfl, ej]; exact ⟨nI_le j1 (by omega), nI_le (b := 57) j2 (by decide)⟩)] at E
            rw [e6, zu_same, z_upd_same]
            refine ⟨fun g => absurd g (nI_pos (by omega)), fun _ => ⟨Or.inr rfl, fun g => absurd g (by decide), fun _ => ⟨Or.inr rfl, ?_⟩⟩⟩
            exact fin1 (q + 3) _ E (zCS_k s30 (by decide))
          · rw [if_neg g] at E
            rw [e6, zu_same, z_upd_same]
            refine ⟨fun _ => ⟨Or.inl rfl, fun _ => ⟨Or.inl rfl, ?_⟩, fun g => absurd rfl g⟩, fun g => absurd (by decide) g⟩
            exact fin0 (q + 2) _ E (zCS_k s29 (by decide))
        · rw [if_neg c3] at E
          exact fin1 (q + 1) _ E s28
      · rw [if_neg c2] at E
        exact fin0 q _ E s25
    · rw [if_neg (by rw [c1]; decide)] at E
      exact fin0 _ m25 E s25
  · refine fin1 (p + 1) m35 ?_ (nx _ _ e34 e35)
    unfold zpO
    rw [if_neg (by rw [cp]; decide), if_neg co, if_neg cc, if_pos (Or.inl cp)]
  · -- vouchers
    have hp1 := zT_e (by decide) cv
    have B1 := N1 hp1
    have E : zpO (zT ch n) p = (if (zpN (zT ch n) (p + 1)).1 then (if zT ch n (zpN (zT ch n) (p + 1)).2 = 43 then zpN (zT ch n) ((zpN (zT ch n) (p + 1)).2 + 1) else (false, (zpN (zT ch n) (p + 1)).2)) else (false, (zpN (zT ch n) (p + 1)).2)) := by
      conv => lhs; unfold zpO
      rw [if_pos cv]
    refine zcr_person hB (nx _ _ e37 e38) (by omega) (fun c1 m40 s40 => ⟨fun g => absurd g (by decide), fun _ => ?_⟩) (fun c1 m40 s40 => ⟨fun _ => ⟨Or.inl rfl, ?_⟩, fun g => absurd rfl g⟩)
    · rw [if_pos c1] at E
      obtain ⟨q, hq⟩ : ∃ q, q = (zpN (zT ch n) (p + 1)).2 := ⟨_, rfl⟩
      rw [← hq] at E s40 B1
      refine zcr_take hB s40 (by omega) (fun c2 m43 s43 => ⟨fun g => absurd g (by decide), fun _ => ?_⟩) (fun c2 => ⟨fun _ => ⟨Or.inl rfl, ?_⟩, fun g => absurd rfl g⟩)
      · rw [if_pos c2] at E
        have hq2 := zT_e (by decide) c2
        refine zcr_many hB s43 (by omega) (fun c3 m46 s46 => ⟨fun g => absurd g (by decide), fun _ => ⟨Or.inr rfl, ?_⟩⟩) (fun c3 m46 s46 => ⟨fun _ => ⟨Or.inl rfl, ?_⟩, fun g => absurd rfl g⟩)
        · exact fin1 _ m46 (by rw [E]; exact Prod.ext c3 rfl) s46
        · exact fin0 _ m46 (by rw [E]; exact Prod.ext c3 rfl) s46
      · rw [if_neg c2] at E
        exact fin0 q _ E s40
    · rw [if_neg (by rw [c1]; decide)] at E
      exact fin0 _ m40 E s40
  · refine fin1 (p + 1) m50 ?_ (nx _ _ e49 e50)
    unfold zpO
    rw [if_neg cv, if_neg co, if_neg cc, if_pos (Or.inr (Or.inr cx))]
  · refine fin0 p m5 ?_ s5
    unfold zpO
    rw [if_neg cv, if_neg co, if_neg cc, if_neg (fun g => g.elim cp (fun g => g.elim ck cx))]
