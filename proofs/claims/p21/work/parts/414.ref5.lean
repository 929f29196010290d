/-! the reference: history, slots; what every call of it keeps -/
theorem zRI_c {f g : Nat → Int32} (h : zRI f) (e : ∀ j, j < 276 → g j = f j) : zRI g := by
  obtain ⟨P, D, dn, sp, kp, hb, hJ⟩ := h
  exact ⟨P, D, dn, sp, kp, hb, zRJ_irr hJ (fun k h1 _ _ => e k (by omega)) (fun k h1 h2 => e k (by omega)) (fun i k hi hk => e _ (by omega))⟩
def zRM (m : zMem) : Prop := zRI (m 530) ∧ zRI (m 531) ∧ (∀ k, k < 6 → zRI (fun j => m 532 (276 * k + j))) ∧ (∀ k, k < 2 → zRI (fun j => m 533 (276 * k + j))) ∧ ∃ S : Nat, S ≤ 6 ∧ m 529 8 = nI S
def zFR (m2 m : zMem) : Prop := (∀ a, a < 529 → m2 a = m a) ∧ m2 529 7 = m 529 7 ∧ m2 536 = m 536
def zRA (F : (Int32 → zMem → Prop) → Prop) (m : zMem) : Prop := ∀ K : Int32 → zMem → Prop, (∀ r m2, zRM m2 → zFR m2 m → K r m2) → F K
theorem zFR0 (m : zMem) : zFR m m := ⟨fun _ _ => rfl, rfl, rfl⟩
theorem zr_recorded {μ : zMem} {S : Nat} {r : Int32} {K : Int32 → zMem → Prop} (hS : S ≤ 6) (h8 : μ 529 8 = nI S) (h31 : zRI (μ 531)) (hb : ∀ k, k < 6 → zRI (fun j => μ 532 (276 * k + j))) (hK : ∀ (m : zMem) (S2 : Nat), S2 ≤ 6 → m 529 8 = nI S2 → (∀ k, k ≠ 8 → m 529 k = μ 529 k) → (∀ a, a ≠ 529 → a ≠ 532 → m a = μ a) → (∀ k, k < 6 → zRI (fun j => m 532 (276 * k + j))) → K r m) : fX8_recorded 529 r μ K := by
  have L2 : ∀ (T n i : Nat) (m : zMem), T ≤ 5 → i ≤ 276 → 276 - i < n → m 529 8 = nI T → (∀ k, k ≠ 8 → m 529 k = μ 529 k) → (∀ a, a ≠ 529 → a ≠ 532 → m a = μ a) → (∀ k, k < 6 → k ≠ T → zRI (fun j => m 532 (276 * k + j))) → (∀ j, j < i → m 532 (276 * T + j) = μ 531 j) → fX8_recorded_56 K 529 n r (nI i) m := by
    intro T n
    induction n with
    | zero => intro i m h0 h1 h2; omega
    | succ n ih =>
      intro i m h0 h1 h2 h8 hk hf hr hc
      show fX8_recorded_56b (fX8_recorded_56 K 529 n) K 529 r (nI i) m
      unfold fX8_recorded_56b
      refine ⟨fun c => ?_, fun c => ?_⟩
      · have h3 := (nI_leI (a := 276) (b := i) (by omega) (by omega)).mp c
        intro x2 e2 m3 e3
        unfold fX8_recorded_100
        refine hK m3 (T + 1) (by omega) (by rw [e3, zu_same, z_upd_same, e2, h8]; exact nI_1 T) (fun k hk2 => by rw [e3, zu_same, z_upd_ne hk2, hk k hk2]) (fun a ha hb => by rw [e3, zu_ne ha, hf a ha hb]) (fun k hk => ?_)
        rw [e3]
        show zRI (fun j => z_up m 529 8 x2 532 (276 * k + j))
        rw [zu_ne (by decide)]
        by_cases e : k = T
        · subst e
          exact zRI_c h31 (fun j hj => hc j (by omega))
        · exact hr k hk e
      · have h3 : i < 276 := Nat.lt_of_not_le (fun g => c ((nI_leI (a := 276) (b := i) (by omega) (by omega)).mpr g))
        intro x4 e4 x5 e5
        have e5 : x5 = nI (276 * T + i) := by
          rw [e5, e4, h8, show (276 : Int32) = nI 276 from rfl, pk_mul, nI_add]
        refine ⟨vp_in_nI h3 (by decide), fun x7 e7 => ⟨by rw [e5]; exact vp_in_nI (by omega) (by decide), fun m9 e9 x10 e10 => ?_⟩⟩
        rw [e10, show nI i + (1 : Int32) = nI (i + 1) from nI_1 i]
        rw [e5, nI_clamp (by omega)] at e9
        rw [nI_clamp (by omega)] at e7
        refine ih (i + 1) m9 h0 (by omega) (by omega) (by rw [e9, zu_ne (by decide)]; exact h8) (fun k hk2 => by rw [e9, zu_ne (by decide)]; exact hk k hk2) (fun a ha hb => by rw [e9, zu_ne hb]; exact hf a ha hb) (fun k hk hkT => zRI_c (hr k hk hkT) (fun j hj => ?_)) (fun j hj => ?_)
        · show m9 532 (276 * k + j) = m 532 (276 * k + j)
          rw [e9, zu_same, z_upd_ne (by omega)]
        · rw [e9, zu_same]
          by_cases e : j = i
          · subst e
            rw [z_upd_same, e7, hf 531 (by decide) (by decide)]
          · rw [z_upd_ne (by omega)]
            exact hc j (by omega)
  have L1 : ∀ (n i : Nat) (m : zMem), i ≤ 1380 → 1380 - i < n → m 529 8 = nI 6 → (∀ k, k ≠ 8 → m 529 k = μ 529 k) → (∀ a, a ≠ 529 → a ≠ 532 → m a = μ a) → (∀ j, j < i → m 532 j = μ 532 (276 + j)) → (∀ j, i ≤ j → m 532 j = μ 532 j) → fX8_recorded_15 K 529 n r (nI i) m := by
    intro n
    induction n with
    | zero => intro i m h1 h2; omega
    | succ n ih =>
      intro i m h1 h2 h8 hk hf hc hd
      show fX8_recorded_15b (fX8_recorded_15 K 529 n) K 529 r (nI i) m
      unfold fX8_recorded_15b
      refine ⟨fun c => ?_, fun c => ?_⟩
      · have h3 := (nI_leI (a := 1380) (b := i) (by omega) (by omega)).mp c
        intro x2 e2 m3 e3
        unfold fX8_recorded_54
        refine L2 5 zFU 0 m3 (by omega) (by omega) (by unfold zFU; omega) (by rw [e3, zu_same, z_upd_same, e2, h8]; rfl) (fun k hk2 => by rw [e3, zu_same, z_upd_ne hk2, hk k hk2]) (fun a ha hb => by rw [e3, zu_ne ha, hf a ha hb]) (fun k hk hk5 => zRI_c (hb (k + 1) (by omega)) (fun j hj => ?_)) (fun j hj => by omega)
        show m3 532 (276 * k + j) = μ 532 (276 * (k + 1) + j)
        rw [e3, zu_ne (by decide), hc _ (by omega)]
        congr 1
        omega
      · have h3 : i < 1380 := Nat.lt_of_not_le (fun g => c ((nI_leI (a := 1380) (b := i) (by omega) (by omega)).mpr g))
        intro x4 e4
        have e4 : x4 = nI (276 + i) := by rw [e4, show (276 : Int32) = nI 276 from rfl, nI_add]
        refine ⟨by rw [e4]; exact vp_in_nI (by omega) (by decide), fun x7 e7 => ⟨vp_in_nI (by omega) (by decide), fun m9 e9 x10 e10 => ?_⟩⟩
        rw [e10, show nI i + (1 : Int32) = nI (i + 1) from nI_1 i]
        rw [nI_clamp (by omega)] at e9
        rw [e4, nI_clamp (by omega)] at e7
        refine ih (i + 1) m9 (by omega) (by omega) (by rw [e9, zu_ne (by decide)]; exact h8) (fun k hk2 => by rw [e9, zu_ne (by decide)]; exact hk k hk2) (fun a ha hb => by rw [e9, zu_ne hb]; exact hf a ha hb) (fun j hj => ?_) (fun j hj => ?_)
        · rw [e9, zu_same]
          by_cases e : j = i
          · subst e
            rw [z_upd_same, e7]
            exact hd _ (by omega)
          · rw [z_upd_ne e]
            exact hc j (by omega)
        · rw [e9, zu_same, z_upd_ne (by omega)]
          exact hd j (by omega)
  unfold fX8_recorded
  refine ⟨fun _ => hK μ S hS h8 (fun _ _ => rfl) (fun _ _ _ => rfl) hb, fun _ => ⟨fun c => ?_, fun c => ?_⟩⟩
  · unfold fX8_recorded_54
    have h6 : S ≠ 6 := fun e => c (by rw [h8, e]; rfl)
    exact L2 S zFU 0 μ (by omega) (by omega) (by unfold zFU; omega) h8 (fun _ _ => rfl) (fun _ _ _ => rfl) (fun k hk _ => hb k hk) (fun j hj => by omega)
  · exact L1 zFU 0 μ (by omega) (by unfold zFU; omega) (by rw [c]; rfl) (fun _ _ => rfl) (fun _ _ _ => rfl) (fun j hj => by omega) (fun _ _ => rfl)
/-- recorded, behind a change of the row held -/
theorem zr_rec {μ m : zMem} {r : Int32} {K : Int32 → zMem → Prop} (h30 : zRI (μ 530)) (h31 : zRI (μ 531)) (hM : zRM m) (hf : ∀ a, a ≠ 530 → a ≠ 531 → μ a = m a) (hK : ∀ r m2, zRM m2 → zFR m2 m → K r m2) : fX8_recorded 529 r μ K := by
  obtain ⟨_, _, hb, hs, S, hS, h8⟩ := hM
  refine zr_recorded hS (by rw [hf 529 (by decide) (by decide)]; exact h8) h31 (fun k hk => zRI_c (hb k hk) (fun j _ => by show μ 532 _ = _; rw [hf 532 (by decide) (by decide)])) (fun m2 S2 hS2 g8 gk ga gb => hK r m2 ⟨by rw [ga 530 (by decide) (by decide)]; exact h30, by rw [ga 531 (by decide) (by decide)]; exact h31, gb, fun k hk => zRI_c (hs k hk) (fun j _ => ?_), S2, hS2, g8⟩ ⟨fun a ha => ?_, ?_, ?_⟩)
  · show m2 533 _ = _
    rw [ga 533 (by decide) (by decide), hf 533 (by decide) (by decide)]
  · rw [ga a (by omega) (by omega), hf a (by omega) (by omega)]
  · rw [gk 7 (by decide), hf 529 (by decide) (by decide)]
  · rw [ga 536 (by decide) (by decide), hf 536 (by decide) (by decide)]
theorem zr_holdM {m : zMem} {K : zMem → Prop} (h30 : zRI (m 530)) (h : ∀ m2 : zMem, zRI (m2 530) → zRI (m2 531) → (∀ a, a ≠ 531 → m2 a = m a) → K m2) : fX8_hold 529 m K :=
  zs_hold (fun m2 f2 g2 => h m2 (by rw [f2 530 (by decide)]; exact h30) (zRI_c h30 g2) f2)
theorem zr_wrap {F : zMem → (Int32 → zMem → Prop) → Prop} {m : zMem} (hM : zRM m) (hF : ∀ m2 : zMem, zRI (m2 530) → zAct (F m2) m2) : zRA (fun K => fX8_hold 529 m (fun m2 => F m2 (fun r3 m4 => fX8_recorded 529 r3 m4 (fun r5 m6 => K r5 m6)))) m := by
  intro K hK
  refine zr_holdM hM.1 (fun m2 h30 h31 f2 => hF m2 h30 _ (fun r m4 f4 g4 => ?_))
  exact zr_rec g4 (by rw [f4 531 (by decide)]; exact h31) hM (fun a ha hb => by rw [f4 a ha, f2 a hb]) hK
theorem za_person {m : zMem} (hM : zRM m) : zRA (fun K => fX8_person 529 m K) m := zr_wrap (F := fun m2 => fX8_comesHere 529 m2) hM (fun _ h => zr_comesHere h)
theorem za_vouchers {a b : Int32} {m : zMem} (hM : zRM m) : zRA (fun K => fX8_vouchers 529 a b m K) m := zr_wrap (F := fun m2 => fX8_gets 529 a b m2) hM (fun _ h => zr_gets h)
theorem za_order {a b c : Int32} {m : zMem} (hM : zRM m) : zRA (fun K => fX8_order 529 a b c m K) m := zr_wrap (F := fun m2 => fX8_ordersOf 529 a b c m2) hM (fun _ h => zr_ordersOf h)
theorem za_cook {m : zMem} (hM : zRM m) : zRA (fun K => fX8_cook 529 m K) m := zr_wrap (F := fun m2 => fX8_cooks 529 m2) hM (fun _ h => zr_cooks h)
theorem za_come {a : Int32} {m : zMem} (hM : zRM m) : zRA (fun K => fX8_come 529 a m K) m := zr_wrap (F := fun m2 => fX8_comes 529 a m2) hM (fun _ h => zr_comes h)
theorem za_buy {a b : Int32} {m : zMem} (hM : zRM m) : zRA (fun K => fX8_buy 529 a b m K) m := zr_wrap (F := fun m2 => fX8_buys 529 a b m2) hM (fun _ h => zr_buys h)
theorem za_close {m : zMem} (hM : zRM m) : zRA (fun K => fX8_close 529 m K) m := zr_wrap (F := fun m2 => fX8_closes 529 m2) hM (fun _ h => zr_closes h)
theorem zi_mem {a : Int32} {n l : Nat} (hl : l < 2 ^ 30) (hn : n + 1 < 2 ^ 30) (h1 : nI l ≤ a) (h2 : a ≤ nI n) : ∃ j, l ≤ j ∧ j ≤ n ∧ a = nI j := by
  have h0 : (0 : Int32) ≤ a := Int32.le_trans (nI_pos' (by omega)) h1
  have h3 : a ≤ nI (n + 1) - 1 := by rw [nI_pred]; exact h2
  obtain ⟨j, hj, e⟩ := (zi_rng (n := n + 1) hn).mp ⟨h0, h3⟩
  refine ⟨j, ?_, by omega, e⟩
  rw [e] at h1
  exact (nI_leI (by omega) (by omega)).mp h1
theorem za_set {a b : Int32} {m : zMem} (hM : zRM m) : zRA (fun K => fX8_set 529 a b m K) m := by
  intro K hK
  show fX8_set 529 a b m K
  have no : fX8_set_64 K 529 a b 0 m := by
    unfold fX8_set_64
    exact ⟨fun g => absurd rfl g, fun _ => hK _ m hM (zFR0 m)⟩
  have yes : ∀ j, j < 4 → a = nI j → (j = 0 → ∃ v, v ≤ 9 ∧ b = nI v) → (j = 1 → ∃ v, v ≤ 20 ∧ b = nI v) → fX8_set_64 K 529 a b 1 m := by
    intro j hj ea h0 h1
    subst ea
    unfold fX8_set_64
    refine ⟨fun _ => zr_holdM hM.1 (fun m2 h30 h31 f2 => ?_), fun g => absurd g (by decide)⟩
    refine ⟨vp_in_nI (by omega) (by decide), fun x5 e5 => ⟨vp_in_nI (by omega) (by decide), fun m7 e7 => ?_⟩⟩
    rw [nI_clamp (by omega)] at e7
    refine zr_rec (m := m) ?_ (by rw [e7, zu_ne (by decide)]; exact h31) hM (fun a ha hb => by rw [e7, zu_ne ha, f2 a hb]) hK
    rw [e7, zu_same]
    obtain ⟨P, D, dn, sp, kp, ⟨b1, b2, b3, b4, b5⟩, g0, g1, g2, g3, g4, g5, g6⟩ := h30
    have r5 : ∀ d, d < 3 → zRD D dn (upd (m2 530) j b) d := fun d hd => zRD_c (g5 d hd) (fun k hk => z_upd_ne (by omega))
    have r6 : ∀ i, i < 14 → zRP D (upd (m2 530) j b) i := fun i hi => zRP_c (g6 i hi) (fun k hk => z_upd_ne (by omega))
    have r2 : upd (m2 530) j b 4 = nI D := by rw [z_upd_ne (by omega)]; exact g2
    have r3 : upd (m2 530) j b 5 = nI P := by rw [z_upd_ne (by omega)]; exact g3
    have r4 : upd (m2 530) j b 6 = nI dn := by rw [z_upd_ne (by omega)]; exact g4
    rcases (show j = 0 ∨ j = 1 ∨ (j ≠ 0 ∧ j ≠ 1) by omega) with e | e | ⟨e, e'⟩
    · obtain ⟨v, hv, ev⟩ := h0 e
      exact ⟨P, D, dn, v, kp, ⟨b1, b2, b3, hv, b5⟩, by rw [e, z_upd_same]; exact ev, by rw [z_upd_ne (by omega)]; exact g1, r2, r3, r4, r5, r6⟩
    · obtain ⟨v, hv, ev⟩ := h1 e
      exact ⟨P, D, dn, sp, v, ⟨b1, b2, b3, b4, hv⟩, by rw [z_upd_ne (by omega)]; exact g0, by rw [e, z_upd_same]; exact ev, r2, r3, r4, r5, r6⟩
    · exact ⟨P, D, dn, sp, kp, ⟨b1, b2, b3, b4, b5⟩, by rw [z_upd_ne (by omega)]; exact g0, by rw [z_upd_ne (by omega)]; exact g1, r2, r3, r4, r5, r6⟩
  unfold fX8_set fX8_set_63
  refine ⟨fun _ => ⟨fun _ => ⟨fun _ => ⟨fun _ => no, fun g => ?_⟩, fun g => ?_⟩, fun g => ?_⟩, fun g => ?_⟩
  · exact zs_in (fun _ _ => ⟨fun g2 => absurd g2 (by decide), fun _ => yes 3 (by decide) g (by omega) (by omega)⟩) (fun _ => ⟨fun _ => no, fun g2 => absurd rfl g2⟩)
  · exact zs_in (fun _ _ => yes 2 (by decide) g (by omega) (by omega)) (fun _ => no)
  · refine zs_in (fun g1 g2 => yes 1 (by decide) g (by omega) (fun _ => ?_)) (fun _ => no)
    obtain ⟨v, _, hv, ev⟩ := zi_mem (l := 0) (n := 20) (by decide) (by decide) g1 g2
    exact ⟨v, hv, ev⟩
  · refine zs_in (fun g1 g2 => yes 0 (by decide) g (fun _ => ?_) (by omega)) (fun _ => no)
    obtain ⟨v, _, hv, ev⟩ := zi_mem (l := 0) (n := 9) (by decide) (by decide) g1 g2
    exact ⟨v, hv, ev⟩
theorem za_price {a b c : Int32} {m : zMem} (hM : zRM m) : zRA (fun K => fX8_price 529 a b c m K) m := by
  intro K hK
  have no : ∀ r, K r m := fun r => hK r m hM (zFR0 m)
  show fX8_price 529 a b c m K
  unfold fX8_price fX8_price_16
  refine zs_in (fun g1 g2 => ⟨fun g => absurd g (by decide), fun _ => ?_⟩) (fun _ => ⟨fun _ => no _, fun g => absurd rfl g⟩)
  obtain ⟨w, hw, ew⟩ := (zi_rng (n := 5) (by decide)).mp ⟨g1, g2⟩
  refine zs_isDish (fun d hd ed => ⟨fun _ => ?_, fun g => absurd g (by decide)⟩) (fun _ => ⟨fun g => absurd rfl g, fun _ => no _⟩)
  refine zs_in (fun _ _ => ⟨fun _ => ?_, fun g => absurd g (by decide)⟩) (fun _ => ⟨fun g => absurd rfl g, fun _ => no _⟩)
  subst ew
  subst ed
  refine zr_holdM hM.1 (fun m2 h30 h31 f2 => ?_)
  simp (disch := omega) only [forall_eq, zq3, zq8, pk_mul, nI_add, zvpT, nI_clamp, true_and]
  refine zr_rec (m := m) ?_ (by rw [zu_ne (by decide)]; exact h31) hM (fun a ha hb => by rw [zu_ne ha, f2 a hb]) hK
  rw [zu_same]
  obtain ⟨P, D, dn, sp, kp, hb, hJ⟩ := h30
  exact ⟨P, D, dn, sp, kp, hb, zRJ_irr hJ (fun k h1 _ _ => z_upd_ne (by omega)) (fun k h1 h2 => z_upd_ne (by omega)) (fun i k hi hk => z_upd_ne (by omega))⟩
theorem za_callOff {a b : Int32} {m : zMem} (hM : zRM m) : zRA (fun K => fX8_callOff 529 a b m K) m := by
  intro K hK
  have no : ∀ r, K r m := fun r => hK r m hM (zFR0 m)
  show fX8_callOff 529 a b m K
  obtain ⟨P, D, dn, sp, kp, hb, hJ⟩ := hM.1
  have hb1 := hb.1
  unfold fX8_callOff
  refine zs_isPerson hJ.2.2.2.1 hb1 (fun j hj e => ⟨fun _ => ?_, fun g => absurd g (by decide)⟩) (fun _ => ⟨fun g => absurd rfl g, fun _ => no _⟩)
  refine zs_in (fun g1 g2 => ⟨fun _ => ?_, fun g => absurd g (by decide)⟩) (fun _ => ⟨fun g => absurd rfl g, fun _ => no _⟩)
  obtain ⟨k, hk1, hk2, ek⟩ := zi_mem (l := 1) (n := 4) (by decide) (by decide) g1 g2
  subst e
  subst ek
  have hj14 : j < 14 := by omega
  have e1 : 38 + 17 * j + 1 + k = 39 + 17 * j + k := by omega
  have i1 : nI (38 + 17 * j) + (1 : Int32) = nI (39 + 17 * j) := by rw [zq1, nI_add]; congr 1; omega
  have i6 : nI (38 + 17 * j) + (6 : Int32) = nI (44 + 17 * j) := by rw [zq6, nI_add]; congr 1; omega
  have i0 : nI (38 + 17 * j) + (0 : Int32) = nI (38 + 17 * j) := by rw [zq0, nI_add, Nat.add_zero]
  simp (disch := omega) only [forall_eq, zr_p, i1, i6, i0, nI_add, zvpT, nI_clamp, true_and]
  refine ⟨fun _ => zr_holdM hM.1 (fun m2 h30 h31 f2 => ?_), fun _ => no _⟩
  refine zr_gives hj14 (fun y => ?_)
  refine zr_rec (m := m) ?_ ?_ hM (fun a ha hb => ?_) hK
  · simp only [zu_same]
    obtain ⟨P, D, dn, sp, kp, hb, h0, h1, h2, h3, h4, h5, h6⟩ := h30
    refine ⟨P, D, dn, sp, kp, hb, ?_⟩
    rw [show 44 + 17 * j + k = 38 + 17 * j + (6 + k) by omega]
    refine zRJ_row (c := 6 + k) (zRJ_row (c := 0) ?_ (Or.inl rfl)) (by omega)
    refine ⟨by rw [z_upd_ne (by omega)]; exact h0, by rw [z_upd_ne (by omega)]; exact h1, by rw [z_upd_ne (by omega)]; exact h2, by rw [z_upd_ne (by omega)]; exact h3, by rw [z_upd_ne (by omega)]; exact h4, fun d hd => zRD_c (h5 d hd) (fun k hk => z_upd_ne (by omega)), fun i hi => ?_⟩
    obtain ⟨o, c, w, t, o1, o2, o3, o4⟩ := h6 i hi
    refine ⟨fun k2 hk2 => ?_, c, w, t, by rw [z_upd_ne (by omega)]; exact o1, by rw [z_upd_ne (by omega)]; exact o2, by rw [z_upd_ne (by omega)]; exact o3, o4⟩
    by_cases e : 39 + 17 * i + k2 = 39 + 17 * j + k
    · exact ⟨0, by omega, by rw [e, z_upd_same]; rfl⟩
    · rw [z_upd_ne e]
      exact o k2 hk2
  · rw [zu_ne (by decide), zu_ne (by decide), zu_ne (by decide)]
    exact h31
  · rw [zu_ne ha, zu_ne ha, zu_ne ha, f2 a hb]
theorem za_undo {m : zMem} (hM : zRM m) : zRA (fun K => fX8_undo 529 m K) m := by
  intro K hK
  have hM' := hM
  obtain ⟨h30, h31, hb, hs, S, hS, h8⟩ := hM
  show fX8_undo 529 m K
  unfold fX8_undo
  refine ⟨fun c x10 e10 m11 e11 => ?_, fun _ => hK _ m hM' (zFR0 m)⟩
  have hS0 : 0 < S := Nat.pos_of_ne_zero (fun g => c (by rw [h8, g]; rfl))
  obtain ⟨T, rfl⟩ : ∃ T, S = T + 1 := ⟨S - 1, by omega⟩
  rw [h8, nI_pred] at e10
  have L : ∀ (n i : Nat) (μ : zMem), i ≤ 276 → 276 - i < n → zF530 μ m11 → (∀ j, j < i → μ 530 j = m 532 (276 * T + j)) → fX8_undo_22 K 529 n (nI i) μ := by
    intro n
    induction n with
    | zero => intro i μ g1 g2; omega
    | succ n ih =>
      intro i μ g1 g2 g3 g4
      show fX8_undo_22b (fX8_undo_22 K 529 n) K 529 (nI i) μ
      unfold fX8_undo_22b
      have k8 : μ 529 8 = nI T := by rw [g3 529 (by decide), e11, zu_same, z_upd_same, e10]
      refine ⟨fun cc => ?_, fun cc => ?_⟩
      · have hi : 276 ≤ i := (nI_leI (a := 276) (b := i) (by decide) (by omega)).mp cc
        have g : ∀ a, a ≠ 530 → a ≠ 529 → μ a = m a := fun a ha hb => by rw [g3 a ha, e11, zu_ne hb]
        refine hK _ μ ⟨zRI_c (hb T (by omega)) (fun j hj => g4 j (by omega)), by rw [g 531 (by decide) (by decide)]; exact h31, by rw [g 532 (by decide) (by decide)]; exact hb, by rw [g 533 (by decide) (by decide)]; exact hs, T, by omega, k8⟩ ⟨fun a ha => g a (by omega) (by omega), ?_, g 536 (by decide) (by decide)⟩
        rw [g3 529 (by decide), e11, zu_same, z_upd_ne (by decide)]
      · have hi : i < 276 := Nat.lt_of_not_le (fun g => cc ((nI_leI (a := 276) (b := i) (by decide) (by omega)).mpr g))
        rw [k8]
        simp (disch := omega) only [forall_eq, show (276 : Int32) = nI 276 from rfl, zq1, pk_mul, nI_add, zvpT, nI_clamp, true_and]
        refine ih (i + 1) _ (by omega) (by omega) (zF_up g3) (fun j hj => ?_)
        rw [zu_same]
        by_cases e : j = i
        · subst e
          rw [z_upd_same, g3 532 (by decide), e11, zu_ne (by decide)]
        · rw [z_upd_ne e]
          exact g4 j (by omega)
  exact L zFU 0 m11 (by omega) (by unfold zFU; omega) (zF0 _) (fun j hj => by omega)
theorem za_save {a : Int32} {m : zMem} (hM : zRM m) : zRA (fun K => fX8_save 529 a m K) m := by
  intro K hK
  have hM' := hM
  obtain ⟨h30, h31, hb, hs, S, hS, h8⟩ := hM
  show fX8_save 529 a m K
  unfold fX8_save
  refine zs_in (fun g1 g2 => ⟨fun _ => ?_, fun g => absurd g (by decide)⟩) (fun _ => ⟨fun g => absurd rfl g, fun _ => hK _ m hM' (zFR0 m)⟩)
  obtain ⟨s, _, hs1, es⟩ := zi_mem (l := 0) (n := 1) (by decide) (by decide) g1 g2
  subst es
  have L : ∀ (n i : Nat) (μ : zMem), i ≤ 276 → 276 - i < n → (∀ a, a ≠ 533 → μ a = m a) → (∀ j, ¬ (276 * s ≤ j ∧ j < 276 * s + 276) → μ 533 j = m 533 j) → (∀ j, j < i → μ 533 (276 * s + j) = m 530 j) → fX8_save_14 K 529 n (nI s) (nI i) μ := by
    intro n
    induction n with
    | zero => intro i μ g1 g2; omega
    | succ n ih =>
      intro i μ g1 g2 g3 g4 g5
      show fX8_save_14b (fX8_save_14 K 529 n) K 529 (nI s) (nI i) μ
      unfold fX8_save_14b
      refine ⟨fun cc => ?_, fun cc => ?_⟩
      · have hi : 276 ≤ i := (nI_leI (a := 276) (b := i) (by decide) (by omega)).mp cc
        refine ⟨vp_in_nI (by omega) (by decide), fun m3 e3 x4 e4 => ?_⟩
        have g : ∀ a, a ≠ 533 → a ≠ 534 → m3 a = m a := fun a ha hb => by rw [e3, zu_ne hb, g3 a ha]
        refine hK _ m3 ⟨by rw [g 530 (by decide) (by decide)]; exact h30, by rw [g 531 (by decide) (by decide)]; exact h31, by rw [g 532 (by decide) (by decide)]; exact hb, fun k hk => ?_, S, hS, by rw [g 529 (by decide) (by decide)]; exact h8⟩ ⟨fun a ha => g a (by omega) (by omega), by rw [g 529 (by decide) (by decide)], g 536 (by decide) (by decide)⟩
        rw [e3]
        show zRI (fun j => z_up μ 534 _ _ 533 (276 * k + j))
        rw [zu_ne (by decide)]
        by_cases e : k = s
        · subst e
          exact zRI_c h30 (fun j hj => g5 j (by omega))
        · exact zRI_c (hs k hk) (fun j hj => g4 _ (by omega))
      · have hi : i < 276 := Nat.lt_of_not_le (fun g => cc ((nI_leI (a := 276) (b := i) (by decide) (by omega)).mpr g))
        simp (disch := omega) only [forall_eq, show (276 : Int32) = nI 276 from rfl, zq1, pk_mul, nI_add, zvpT, nI_clamp, true_and]
        refine ih (i + 1) _ (by omega) (by omega) (fun a ha => by rw [zu_ne ha]; exact g3 a ha) (fun j hj => by rw [zu_same, z_upd_ne (by omega)]; exact g4 j hj) (fun j hj => ?_)
        rw [zu_same]
        by_cases e : j = i
        · subst e
          rw [z_upd_same, g3 530 (by decide)]
        · rw [z_upd_ne (by omega)]
          exact g5 j (by omega)
  exact L zFU 0 m (by omega) (by unfold zFU; omega) (fun _ _ => rfl) (fun _ _ => rfl) (fun j hj => by omega)
theorem za_restore {a : Int32} {m : zMem} (hM : zRM m) : zRA (fun K => fX8_restore 529 a m K) m := by
  intro K hK
  have hM' := hM
  obtain ⟨h30, h31, hb, hs, S, hS, h8⟩ := hM
  show fX8_restore 529 a m K
  unfold fX8_restore
  refine zs_in (fun g1 g2 => ⟨fun _ => ?_, fun g => absurd g (by decide)⟩) (fun _ => ⟨fun g => absurd rfl g, fun _ => hK _ m hM' (zFR0 m)⟩)
  obtain ⟨s, _, hs1, es⟩ := zi_mem (l := 0) (n := 1) (by decide) (by decide) g1 g2
  subst es
  refine ⟨vp_in_nI (by omega) (by decide), fun x16 e16 => ⟨fun _ => ?_, fun _ => hK _ m hM' (zFR0 m)⟩⟩
  refine zr_holdM h30 (fun m2 k30 k31 f2 => ?_)
  have L : ∀ (n i : Nat) (μ : zMem), i ≤ 276 → 276 - i < n → zF530 μ m2 → (∀ j, j < i → μ 530 j = m 533 (276 * s + j)) → fX8_restore_30 K 529 n (nI s) (nI i) μ := by
    intro n
    induction n with
    | zero => intro i μ g1 g2; omega
    | succ n ih =>
      intro i μ g1 g2 g3 g4
      show fX8_restore_30b (fX8_restore_30 K 529 n) K 529 (nI s) (nI i) μ
      unfold fX8_restore_30b
      refine ⟨fun cc => ?_, fun cc => ?_⟩
      · have hi : 276 ≤ i := (nI_leI (a := 276) (b := i) (by decide) (by omega)).mp cc
        intro x2 e2
        exact zr_rec (m := m) (zRI_c (hs s (by omega)) (fun j hj => g4 j (by omega))) (by rw [g3 531 (by decide)]; exact k31) hM' (fun a ha hb => by rw [g3 a ha, f2 a hb]) hK
      · have hi : i < 276 := Nat.lt_of_not_le (fun g => cc ((nI_leI (a := 276) (b := i) (by decide) (by omega)).mpr g))
        simp (disch := omega) only [forall_eq, show (276 : Int32) = nI 276 from rfl, zq1, pk_mul, nI_add, zvpT, nI_clamp, true_and]
        refine ih (i + 1) _ (by omega) (by omega) (zF_up g3) (fun j hj => ?_)
        rw [zu_same]
        by_cases e : j = i
        · subst e
          rw [z_upd_same, g3 533 (by decide), f2 533 (by decide)]
        · rw [z_upd_ne e]
          exact g4 j (by omega)
  exact L zFU 0 m2 (by omega) (by unfold zFU; omega) (zF0 _) (fun j hj => by omega)
