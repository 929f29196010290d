/-! X7: history and slots -/
theorem zICan_c {m2 m : zMem} {a : Nat} (h : zICan m a) (e : ∀ r, a ≤ r → r < a + 52 → m2 r = m r) : zICan m2 a := by
  obtain ⟨⟨P, hP, e1⟩, ⟨D, hD, e2⟩, hc, hb⟩ := h
  exact ⟨⟨P, hP, by rw [e a (by omega) (by omega)]; exact e1⟩, ⟨D, hD, by rw [e a (by omega) (by omega)]; exact e2⟩, by rw [e a (by omega) (by omega)]; exact hc, fun i hi => by rw [e _ (by omega) (by omega)]; exact hb i hi⟩
def zCM (m : zMem) : Prop := zICan m 1 ∧ (∀ k, k < 7 → zICan m (55 + 52 * k)) ∧ (∀ k, k < 2 → zICan m (422 + 52 * k)) ∧ ∃ N : Nat, N ≤ 6 ∧ m 53 1 = nI N
def zCF (m2 m : zMem) : Prop := ∀ a, 526 ≤ a → m2 a = m a
def zCA (F : (Int32 → zMem → Prop) → Prop) (m : zMem) : Prop := ∀ K : Int32 → zMem → Prop, (∀ r m2, zCM m2 → zCF m2 m → K r m2) → F K
theorem zCF0 {m : zMem} : zCF m m := fun _ _ => rfl
theorem zc_note {m : zMem} {K : zMem → Prop} (hM : zCM m) (h : ∀ m2, zCM m2 → zCF m2 m → K m2) : fX2_note 53 1 m K := by
  obtain ⟨h1, hst, hsl, N, hN, e⟩ := hM
  unfold fX2_note
  rw [e, nI_clamp (by omega)]
  refine ⟨vp_in_nI (by omega) (by decide), fun q2 e2 => ?_⟩
  have e2 : q2 = 55 + 52 * N := by omega
  subst e2
  refine zc_become (by omega) h1 (hst N (by omega)).2.2.2 (fun m2 f2 I2 => h m2 ⟨zICan_c h1 (fun r g1 g2 => f2 r (by omega)), fun k hk => ?_, fun k hk => zICan_c (hsl k hk) (fun r g1 g2 => f2 r (by omega)), N, hN, by rw [f2 53 (by omega)]; exact e⟩ (fun a ha => f2 a (by omega)))
  by_cases g : k = N
  · subst g
    exact I2
  · exact zICan_c (hst k hk) (fun r g1 g2 => f2 r (by omega))
theorem zc_keep {m : zMem} {r : Int32} {K : Int32 → zMem → Prop} (hM : zCM m) (h : ∀ r m2, zCM m2 → zCF m2 m → K r m2) : fX2_keep 53 r m K := by
  obtain ⟨h1, hst, hsl, N, hN, e⟩ := hM
  exact zs_keep hN e (fun m2 N2 hN2 e2 f2 => h r m2 ⟨zICan_c h1 (fun r g1 g2 => f2 r (by omega)), fun k hk => zICan_c (hst k hk) (fun r g1 g2 => f2 r (by omega)), fun k hk => zICan_c (hsl k hk) (fun r g1 g2 => f2 r (by omega)), N2, hN2, e2⟩ (fun a ha => f2 a (by omega)))
theorem zCM_Y {m2 m : zMem} (hM : zCM m) (h : zY m2 m) : zCM m2 ∧ zCF m2 m := by
  obtain ⟨h1, hst, hsl, N, hN, e⟩ := hM
  exact ⟨⟨h.2, fun k hk => zICan_c (hst k hk) (fun r g1 g2 => h.1 r (by omega)), fun k hk => zICan_c (hsl k hk) (fun r g1 g2 => h.1 r (by omega)), N, hN, by rw [h.1 53 (by omega)]; exact e⟩, fun a ha => h.1 a (by omega)⟩
theorem zc_wrap {F : zMem → (Int32 → zMem → Prop) → Prop} {m : zMem} (hM : zCM m) (hF : ∀ m2 : zMem, zICan m2 1 → zCt (F m2) m2) : zCA (fun K => fX2_note 53 1 m (fun m2 => F m2 (fun r3 m4 => fX2_keep 53 r3 m4 (fun r5 m6 => K r5 m6)))) m := by
  intro K h
  refine zc_note hM (fun m2 M2 F2 => hF m2 M2.1 _ (fun r m4 y4 => ?_))
  obtain ⟨M4, F4⟩ := zCM_Y M2 y4
  exact zc_keep M4 (fun r5 m6 M6 F6 => h r5 m6 M6 (fun a ha => by rw [F6 a ha, F4 a ha, F2 a ha]))
theorem zb_set {a b : Int32} {m : zMem} (hM : zCM m) : zCA (fX7_set 0 a b m) m := zc_wrap (F := fun m2 => fX0_changeSetting 1 a b m2) hM (fun _ h => zc_changeSetting h)
theorem zb_price {a b c : Int32} {m : zMem} (hM : zCM m) : zCA (fX7_price 0 a b c m) m := zc_wrap (F := fun m2 => fX0_changePrice 1 a b c m2) hM (fun _ h => zc_changePrice h)
theorem zb_person {m : zMem} (hM : zCM m) : zCA (fX7_person 0 m) m := zc_wrap (F := fun m2 => fX0_addPerson 1 m2) hM (fun _ h => zc_addPerson h)
theorem zb_vouchers {a b : Int32} {m : zMem} (hM : zCM m) : zCA (fX7_vouchers 0 a b m) m := zc_wrap (F := fun m2 => fX0_giveVouchers 1 a b m2) hM (fun _ h => zc_giveVouchers h)
theorem zb_order {a b c : Int32} {m : zMem} (hM : zCM m) : zCA (fX7_order 0 a b c m) m := zc_wrap (F := fun m2 => fX0_takeOrder 1 a b c m2) hM (fun _ h => zc_takeOrder h)
theorem zb_callOff {a b : Int32} {m : zMem} (hM : zCM m) : zCA (fX7_callOff 0 a b m) m := zc_wrap (F := fun m2 => fX0_cancelOrder 1 a b m2) hM (fun _ h => zc_cancelOrder h)
theorem zb_cook {m : zMem} (hM : zCM m) : zCA (fX7_cook 0 m) m := zc_wrap (F := fun m2 => fX0_cookToday 1 m2) hM (fun _ h => zc_cookToday h)
theorem zb_come {a : Int32} {m : zMem} (hM : zCM m) : zCA (fX7_come 0 a m) m := zc_wrap (F := fun m2 => fX0_serve 1 a m2) hM (fun _ h => zc_serve h)
theorem zb_buy {a b : Int32} {m : zMem} (hM : zCM m) : zCA (fX7_buy 0 a b m) m := zc_wrap (F := fun m2 => fX0_sell 1 a b m2) hM (fun _ h => zc_sell h)
theorem zb_close {m : zMem} (hM : zCM m) : zCA (fX7_close 0 m) m := zc_wrap (F := fun m2 => fX0_endDay 1 m2) hM (fun _ h => zc_endDay h)
theorem zc_look {F : (Int32 → zMem → Prop) → Prop} {m : zMem} (hM : zCM m) (h : ∀ K : Int32 → zMem → Prop, (∀ r, K r m) → F K) : zCA F m := fun K hK => h K (fun r => hK r m hM zCF0)
theorem zb_of {a b : Int32} {m : zMem} (hM : zCM m) : zCA (fX7_of 0 a b m) m := zc_look hM (fun K h => by unfold fX7_of; exact zco_of hM.1 h)
theorem zb_ofDish {a b : Int32} {m : zMem} (hM : zCM m) : zCA (fX7_ofDish 0 a b m) m := zc_look hM (fun K h => by unfold fX7_ofDish; exact zco_ofDish hM.1 h)
theorem zb_ordered {a b : Int32} {m : zMem} (hM : zCM m) : zCA (fX7_ordered 0 a b m) m := zc_look hM (fun K h => by unfold fX7_ordered; exact zco_ordered hM.1 h)
theorem zb_count {a : Int32} {m : zMem} (hM : zCM m) : zCA (fX7_count 0 a m) m := zc_look hM (fun K h => by
  unfold fX7_count fX2_length fX4_length
  exact ⟨fun _ => ⟨fun _ => zco_number hM.1 h, fun _ => h _⟩, fun _ => h _⟩)
theorem zb_why {a b c : Int32} {m : zMem} (hM : zCM m) : zCA (fX7_why 0 a b c m) m := zc_look hM (fun K h => by unfold fX7_why; exact zc_reason hM.1 (fun r _ => h r))
theorem zb_unsurest {a : Int32} {m : zMem} (hM : zCM m) : zCA (fX7_unsurest 0 a m) m := zc_look hM (fun K h => by unfold fX7_unsurest; exact zco_unsurest hM.1 h)
theorem zb_firstOrder {a : Int32} {m : zMem} (hM : zCM m) : zCA (fX7_firstOrder 0 a m) m := zc_look hM (fun K h => by unfold fX7_firstOrder; exact zco_firstOrder hM.1 h)
theorem zb_wasted {m : zMem} (hM : zCM m) : zCA (fX7_wasted 0 m) m := zc_look hM (fun K h => by unfold fX7_wasted; exact zco_wasted h)
theorem zb_undo {m : zMem} (hM : zCM m) : zCA (fX7_undo 0 m) m := by
  intro K h
  have no : ∀ r, K r m := fun r => h r m hM zCF0
  obtain ⟨h1, hst, hsl, N, hN, e⟩ := hM
  have go : ∀ (x : Int32) (T : Nat), T ≤ 6 → x = nI T → fX2_takeBack_29 (fun r1 m2 => K r1 m2) 53 1 x 53 m := by
    intro x T hT ex
    unfold fX2_takeBack_29
    intro m1 e1 x2 _ m3 e3
    have g3 : ∀ a, a ≠ 53 → m3 a = m a := fun a ha => by rw [e3, zu_ne ha, e1, zu_ne ha]
    have g53 : m3 53 1 = nI T := by rw [e3, zu_same, z_upd_ne (by decide), e1, zu_same, z_upd_same, ex]
    rw [g53]
    refine ⟨vp_in_nI (by omega) (by decide), fun q5 e5 => ?_⟩
    rw [nI_clamp (by omega)] at e5
    have e5 : q5 = 55 + 52 * T := by omega
    subst e5
    refine zc_become (by omega) (zICan_c (hst T (by omega)) (fun r g1 g2 => g3 r (by omega))) (fun i hi => by rw [g3 _ (by omega)]; exact h1.2.2.2 i hi) (fun m7 f7 I7 => h _ m7 ⟨I7, fun k hk => zICan_c (hst k hk) (fun r g1 g2 => by rw [f7 r (by omega), g3 r (by omega)]), fun k hk => zICan_c (hsl k hk) (fun r g1 g2 => by rw [f7 r (by omega), g3 r (by omega)]), T, hT, by rw [f7 53 (by omega)]; exact g53⟩ (fun a ha => by rw [f7 a (by omega), g3 a (by omega)]))
  unfold fX7_undo fX2_takeBack
  refine ⟨fun _ => ⟨fun c x10 e10 => ?_, fun _ => go _ 6 (by decide) rfl⟩, fun _ => no _⟩
  have hN0 : 0 < N := Nat.pos_of_ne_zero (fun g => c (by rw [e, g]; rfl))
  obtain ⟨T, rfl⟩ : ∃ T, N = T + 1 := ⟨N - 1, by omega⟩
  exact go _ T (by omega) (by rw [e10, e, nI_pred])
theorem zi_slot (a : Int32) (h1 : ¬ a < 0) (h2 : a < 2) : ∃ j, j < 2 ∧ a = nI j := by
  rcases pk_ix a (n := 2) (by decide) with c | c | c
  · exact absurd c h1
  · exact absurd h2 (Int32.not_lt.mpr c)
  · exact c
theorem zb_save {a : Int32} {m : zMem} (hM : zCM m) : zCA (fX7_save 0 a m) m := by
  intro K h
  have no : ∀ r, K r m := fun r => h r m hM zCF0
  obtain ⟨h1, hst, hsl, N, hN, e⟩ := hM
  unfold fX7_save fX6_store fX6_store_9
  refine ⟨fun _ => no _, fun c1 => ⟨fun c2 => ?_, fun _ => no _⟩⟩
  obtain ⟨s, hs, es⟩ := zi_slot a c1 c2
  subst es
  refine ⟨vp_in_nI hs (by decide), fun q4 e4 => ?_⟩
  rw [nI_clamp (by omega)] at e4
  have e4 : q4 = 422 + 52 * s := by omega
  subst e4
  refine zc_become (by omega) h1 (hsl s hs).2.2.2 (fun m6 f6 I6 => ⟨vp_in_nI hs (by decide), fun m8 e8 => ?_⟩)
  have g8 : ∀ r, r ≠ 421 → m8 r = m6 r := fun r hr => by rw [e8, zu_ne hr]
  refine h _ m8 ⟨zICan_c h1 (fun r g1 g2 => by rw [g8 r (by omega), f6 r (by omega)]), fun k hk => zICan_c (hst k hk) (fun r g1 g2 => by rw [g8 r (by omega), f6 r (by omega)]), fun k hk => ?_, N, hN, by rw [g8 53 (by omega), f6 53 (by omega)]; exact e⟩ (fun a ha => by rw [g8 a (by omega), f6 a (by omega)])
  by_cases g : k = s
  · subst g
    exact zICan_c I6 (fun r g1 g2 => g8 r (by omega))
  · exact zICan_c (hsl k hk) (fun r g1 g2 => by rw [g8 r (by omega), f6 r (by omega)])
theorem zb_restore {a : Int32} {m : zMem} (hM : zCM m) : zCA (fX7_restore 0 a m) m := by
  intro K h
  unfold fX7_restore
  refine zc_note hM (fun m2 M2 F2 => ?_)
  have fin : ∀ (r : Int32) (m4 : zMem), zCM m4 → zCF m4 m2 → fX2_keep 53 r m4 (fun r5 m6 => K r5 m6) := fun r m4 M4 F4 => zc_keep M4 (fun r5 m6 M6 F6 => h r5 m6 M6 (fun a ha => by rw [F6 a ha, F4 a ha, F2 a ha]))
  obtain ⟨h1, hst, hsl, N, hN, e⟩ := id M2
  unfold fX6_fetch fX6_fetch_9
  refine ⟨fun _ => fin _ _ M2 zCF0, fun c1 => ⟨fun c2 => ?_, fun _ => fin _ _ M2 zCF0⟩⟩
  obtain ⟨s, hs, es⟩ := zi_slot a c1 c2
  subst es
  refine ⟨vp_in_nI hs (by decide), fun x4 _ => ⟨fun _ => ⟨vp_in_nI hs (by decide), fun q7 e7 => ?_⟩, fun _ => fin _ _ M2 zCF0⟩⟩
  rw [nI_clamp (by omega)] at e7
  have e7 : q7 = 422 + 52 * s := by omega
  subst e7
  exact zc_become (by omega) (hsl s hs) h1.2.2.2 (fun m9 f9 I9 => fin _ m9 ⟨I9, fun k hk => zICan_c (hst k hk) (fun r g1 g2 => f9 r (by omega)), fun k hk => zICan_c (hsl k hk) (fun r g1 g2 => f9 r (by omega)), N, hN, by rw [f9 53 (by omega)]; exact e⟩ (fun a ha => f9 a (by omega)))
