/-! both sides, call by call: what p20, p21 and p22 need -/
def zJ (m : zMem) : Prop := zCM m ∧ zRM m ∧ ∃ n : Nat, n ≤ 80 ∧ m 526 1 = nI n ∧ m 529 7 = nI n ∧ ∀ j, j < n → m 536 j = m 527 j
theorem zRM_lo {m2 m : zMem} (hM : zRM m) (h : ∀ a, 529 ≤ a → a ≤ 533 → m2 a = m a) : zRM m2 := by
  obtain ⟨a1, a2, a3, a4, S, a5, a6⟩ := hM
  exact ⟨by rw [h 530 (by decide) (by decide)]; exact a1, by rw [h 531 (by decide) (by decide)]; exact a2, by rw [h 532 (by decide) (by decide)]; exact a3, by rw [h 533 (by decide) (by decide)]; exact a4, S, a5, by rw [h 529 (by decide) (by decide)]; exact a6⟩
theorem zj_pair {F : (Int32 → zMem → Prop) → Prop} {G : zMem → (Int32 → zMem → Prop) → Prop} {m : zMem} {Z : Int32 → Int32 → zMem → Prop} (hJ : zJ m) (hF : zCM m → zCA F m) (hG : ∀ m2, zRM m2 → zRA (G m2) m2) (h : ∀ r r2 m2, zJ m2 → Z r r2 m2) : F (fun r m2 => G m2 (fun r2 m3 => Z r r2 m3)) := by
  obtain ⟨hC, hR, n, hn, h1, h2, h3⟩ := hJ
  refine hF hC _ (fun r m2 C2 F2 => hG m2 (zRM_lo hR (fun a ha _ => F2 a (by omega))) _ (fun r2 m3 R3 F3 => h r r2 m3 ⟨zCM_hi C2 (fun a ha => F3.1 a (by omega)), R3, n, hn, ?_, ?_, fun j hj => ?_⟩))
  · rw [F3.1 526 (by decide), F2 526 (by decide)]; exact h1
  · rw [F3.2.1, F2 529 (by decide)]; exact h2
  · rw [F3.2.2, F2 536 (by decide), F3.1 527 (by decide), F2 527 (by decide)]; exact h3 j hj
theorem zro_A {G : (Int32 → zMem → Prop) → Prop} {m : zMem} (hM : zRM m) (h : ∀ K : Int32 → zMem → Prop, (∀ r, K r m) → G K) : zRA G m := fun K hK => h K (fun r => hK r m hM (zFR0 m))
theorem zj_set {a b : Int32} {m : zMem} {Z : Int32 → Int32 → zMem → Prop} (hJ : zJ m) (h : ∀ r r2 m2, zJ m2 → Z r r2 m2) : fX7_set 0 a b m (fun r m => fX8_set 529 a b m (fun r2 m2 => Z r r2 m2)) := zj_pair hJ zb_set (G := fun m K => fX8_set 529 a b m K) (fun _ hM => za_set hM) h
theorem zj_price {a b c : Int32} {m : zMem} {Z : Int32 → Int32 → zMem → Prop} (hJ : zJ m) (h : ∀ r r2 m2, zJ m2 → Z r r2 m2) : fX7_price 0 a b c m (fun r m => fX8_price 529 a b c m (fun r2 m2 => Z r r2 m2)) := zj_pair hJ zb_price (G := fun m K => fX8_price 529 a b c m K) (fun _ hM => za_price hM) h
theorem zj_person {m : zMem} {Z : Int32 → Int32 → zMem → Prop} (hJ : zJ m) (h : ∀ r r2 m2, zJ m2 → Z r r2 m2) : fX7_person 0 m (fun r m => fX8_person 529 m (fun r2 m2 => Z r r2 m2)) := zj_pair hJ zb_person (G := fun m K => fX8_person 529 m K) (fun _ hM => za_person hM) h
theorem zj_vouchers {a b : Int32} {m : zMem} {Z : Int32 → Int32 → zMem → Prop} (hJ : zJ m) (h : ∀ r r2 m2, zJ m2 → Z r r2 m2) : fX7_vouchers 0 a b m (fun r m => fX8_vouchers 529 a b m (fun r2 m2 => Z r r2 m2)) := zj_pair hJ zb_vouchers (G := fun m K => fX8_vouchers 529 a b m K) (fun _ hM => za_vouchers hM) h
theorem zj_order {a b c : Int32} {m : zMem} {Z : Int32 → Int32 → zMem → Prop} (hJ : zJ m) (h : ∀ r r2 m2, zJ m2 → Z r r2 m2) : fX7_order 0 a b c m (fun r m => fX8_order 529 a b c m (fun r2 m2 => Z r r2 m2)) := zj_pair hJ zb_order (G := fun m K => fX8_order 529 a b c m K) (fun _ hM => za_order hM) h
theorem zj_callOff {a b : Int32} {m : zMem} {Z : Int32 → Int32 → zMem → Prop} (hJ : zJ m) (h : ∀ r r2 m2, zJ m2 → Z r r2 m2) : fX7_callOff 0 a b m (fun r m => fX8_callOff 529 a b m (fun r2 m2 => Z r r2 m2)) := zj_pair hJ zb_callOff (G := fun m K => fX8_callOff 529 a b m K) (fun _ hM => za_callOff hM) h
theorem zj_cook {m : zMem} {Z : Int32 → Int32 → zMem → Prop} (hJ : zJ m) (h : ∀ r r2 m2, zJ m2 → Z r r2 m2) : fX7_cook 0 m (fun r m => fX8_cook 529 m (fun r2 m2 => Z r r2 m2)) := zj_pair hJ zb_cook (G := fun m K => fX8_cook 529 m K) (fun _ hM => za_cook hM) h
theorem zj_come {a : Int32} {m : zMem} {Z : Int32 → Int32 → zMem → Prop} (hJ : zJ m) (h : ∀ r r2 m2, zJ m2 → Z r r2 m2) : fX7_come 0 a m (fun r m => fX8_come 529 a m (fun r2 m2 => Z r r2 m2)) := zj_pair hJ zb_come (G := fun m K => fX8_come 529 a m K) (fun _ hM => za_come hM) h
theorem zj_buy {a b : Int32} {m : zMem} {Z : Int32 → Int32 → zMem → Prop} (hJ : zJ m) (h : ∀ r r2 m2, zJ m2 → Z r r2 m2) : fX7_buy 0 a b m (fun r m => fX8_buy 529 a b m (fun r2 m2 => Z r r2 m2)) := zj_pair hJ zb_buy (G := fun m K => fX8_buy 529 a b m K) (fun _ hM => za_buy hM) h
theorem zj_close {m : zMem} {Z : Int32 → Int32 → zMem → Prop} (hJ : zJ m) (h : ∀ r r2 m2, zJ m2 → Z r r2 m2) : fX7_close 0 m (fun r m => fX8_close 529 m (fun r2 m2 => Z r r2 m2)) := zj_pair hJ zb_close (G := fun m K => fX8_close 529 m K) (fun _ hM => za_close hM) h
theorem zj_of {a b : Int32} {m : zMem} {Z : Int32 → Int32 → zMem → Prop} (hJ : zJ m) (h : ∀ r r2 m2, zJ m2 → Z r r2 m2) : fX7_of 0 a b m (fun r m => fX8_of 529 a b m (fun r2 m2 => Z r r2 m2)) := zj_pair hJ zb_of (G := fun m K => fX8_of 529 a b m K) (fun _ hM => zro_A hM (fun _ k => zro_of hM k)) h
theorem zj_ofDish {a b : Int32} {m : zMem} {Z : Int32 → Int32 → zMem → Prop} (hJ : zJ m) (h : ∀ r r2 m2, zJ m2 → Z r r2 m2) : fX7_ofDish 0 a b m (fun r m => fX8_ofDish 529 a b m (fun r2 m2 => Z r r2 m2)) := zj_pair hJ zb_ofDish (G := fun m K => fX8_ofDish 529 a b m K) (fun _ hM => zro_A hM (fun _ k => zro_ofDish hM k)) h
theorem zj_ordered {a b : Int32} {m : zMem} {Z : Int32 → Int32 → zMem → Prop} (hJ : zJ m) (h : ∀ r r2 m2, zJ m2 → Z r r2 m2) : fX7_ordered 0 a b m (fun r m => fX8_ordered 529 a b m (fun r2 m2 => Z r r2 m2)) := zj_pair hJ zb_ordered (G := fun m K => fX8_ordered 529 a b m K) (fun _ hM => zro_A hM (fun _ k => zro_ordered hM k)) h
theorem zj_count {a : Int32} {m : zMem} {Z : Int32 → Int32 → zMem → Prop} (hJ : zJ m) (h : ∀ r r2 m2, zJ m2 → Z r r2 m2) : fX7_count 0 a m (fun r m => fX8_count 529 a m (fun r2 m2 => Z r r2 m2)) := zj_pair hJ zb_count (G := fun m K => fX8_count 529 a m K) (fun _ hM => zro_A hM (fun _ k => zro_count hM k)) h
theorem zj_why {a b c : Int32} {m : zMem} {Z : Int32 → Int32 → zMem → Prop} (hJ : zJ m) (h : ∀ r r2 m2, zJ m2 → Z r r2 m2) : fX7_why 0 a b c m (fun r m => fX8_why 529 a b c m (fun r2 m2 => Z r r2 m2)) := zj_pair hJ zb_why (G := fun m K => fX8_why 529 a b c m K) (fun _ hM => zro_A hM (fun _ k => zro_why hM k)) h
theorem zj_unsurest {a : Int32} {m : zMem} {Z : Int32 → Int32 → zMem → Prop} (hJ : zJ m) (h : ∀ r r2 m2, zJ m2 → Z r r2 m2) : fX7_unsurest 0 a m (fun r m => fX8_unsurest 529 a m (fun r2 m2 => Z r r2 m2)) := zj_pair hJ zb_unsurest (G := fun m K => fX8_unsurest 529 a m K) (fun _ hM => zro_A hM (fun _ k => zro_unsurest hM k)) h
theorem zj_firstOrder {a : Int32} {m : zMem} {Z : Int32 → Int32 → zMem → Prop} (hJ : zJ m) (h : ∀ r r2 m2, zJ m2 → Z r r2 m2) : fX7_firstOrder 0 a m (fun r m => fX8_firstOrder 529 a m (fun r2 m2 => Z r r2 m2)) := zj_pair hJ zb_firstOrder (G := fun m K => fX8_firstOrder 529 a m K) (fun _ hM => zro_A hM (fun _ k => zro_firstOrder hM k)) h
theorem zj_wasted {m : zMem} {Z : Int32 → Int32 → zMem → Prop} (hJ : zJ m) (h : ∀ r r2 m2, zJ m2 → Z r r2 m2) : fX7_wasted 0 m (fun r m => fX8_wasted 529 m (fun r2 m2 => Z r r2 m2)) := zj_pair hJ zb_wasted (G := fun m K => fX8_wasted 529 m K) (fun _ hM => zro_A hM (fun _ k => zro_wasted hM k)) h
theorem zj_undo {m : zMem} {Z : Int32 → Int32 → zMem → Prop} (hJ : zJ m) (h : ∀ r r2 m2, zJ m2 → Z r r2 m2) : fX7_undo 0 m (fun r m => fX8_undo 529 m (fun r2 m2 => Z r r2 m2)) := zj_pair hJ zb_undo (G := fun m K => fX8_undo 529 m K) (fun _ hM => za_undo hM) h
theorem zj_save {a : Int32} {m : zMem} {Z : Int32 → Int32 → zMem → Prop} (hJ : zJ m) (h : ∀ r r2 m2, zJ m2 → Z r r2 m2) : fX7_save 0 a m (fun r m => fX8_save 529 a m (fun r2 m2 => Z r r2 m2)) := zj_pair hJ zb_save (G := fun m K => fX8_save 529 a m K) (fun _ hM => za_save hM) h
theorem zj_restore {a : Int32} {m : zMem} {Z : Int32 → Int32 → zMem → Prop} (hJ : zJ m) (h : ∀ r r2 m2, zJ m2 → Z r r2 m2) : fX7_restore 0 a m (fun r m => fX8_restore 529 a m (fun r2 m2 => Z r r2 m2)) := zj_pair hJ zb_restore (G := fun m K => fX8_restore 529 a m K) (fun _ hM => za_restore hM) h
theorem zj_put {a : Int64} {m : zMem} {Z : Int32 → Int32 → zMem → Prop} (hJ : zJ m) (h : ∀ r m2, zJ m2 → Z r r m2) : fX7_put 0 a m (fun r m => fX8_put 529 a m (fun r2 m2 => Z r r2 m2)) := by
  have hJ' := hJ
  obtain ⟨hC, hR, n, hn, h1, h2, h3⟩ := hJ
  have hk8 : zgd 9 a 0 ≤ 8 := zgd_le 9 a 0 (by decide) (by decide)
  obtain ⟨k, hk⟩ : ∃ k, k = zgd 9 a 0 := ⟨_, rfl⟩
  rw [← hk] at hk8
  refine zput_c hn h1 hk (fun e => ?_) (fun e e2 => ?_) (fun e e2 m2 f2 g2 c2 => ?_)
  · exact zput_r hn h2 hk (fun _ => h _ m hJ') (fun g => by omega) (fun g => by omega)
  · exact zput_r hn h2 hk (fun g => by omega) (fun _ _ => h _ m hJ') (fun _ g => by omega)
  · refine zput_r (n := n) hn (by rw [f2 529 (by decide) (by decide)]; exact h2) hk (fun g => by omega) (fun _ g => by omega) (fun _ _ m3 f3 g3 c3 => h _ m3 ⟨zCM_hi hC (fun r hr => by rw [f3 r (by omega) (by omega), f2 r (by omega) (by omega)]), ?_, n + k, e2, ?_, ?_, fun j hj => ?_⟩)
    · obtain ⟨a1, a2, a3, a4, S, a5, a6⟩ := hR
      have g : ∀ r, r ≠ 526 → r ≠ 527 → r ≠ 529 → r ≠ 536 → m3 r = m r := fun r q1 q2 q3 q4 => by rw [f3 r q3 q4, f2 r q1 q2]
      exact ⟨by rw [g 530 (by decide) (by decide) (by decide) (by decide)]; exact a1, by rw [g 531 (by decide) (by decide) (by decide) (by decide)]; exact a2, by rw [g 532 (by decide) (by decide) (by decide) (by decide)]; exact a3, by rw [g 533 (by decide) (by decide) (by decide) (by decide)]; exact a4, S, a5, by rw [g3 8, if_neg (by decide), f2 529 (by decide) (by decide)]; exact a6⟩
    · rw [f3 526 (by decide) (by decide), g2 1, if_pos rfl]
    · rw [g3 7, if_pos rfl]
    · rw [c3 j, f3 527 (by decide) (by decide), c2 j]
      by_cases g : n ≤ j ∧ j < n + k
      · rw [if_pos g, if_pos g]
      · rw [if_neg g, if_neg g, f2 536 (by decide) (by decide)]
        exact h3 j (by omega)
theorem zj_wipe {m : zMem} {Z : Int32 → Int32 → zMem → Prop} (hJ : zJ m) (h : ∀ r m2, zJ m2 → Z r r m2) : fX7_wipe 0 m (fun r m => fX8_wipe 529 m (fun r2 m2 => Z r r2 m2)) := by
  obtain ⟨hC, hR, n, hn, h1, h2, h3⟩ := hJ
  refine zb_wipe hC (fun m2 C2 F2 e2 => zra_wipe (zRM_lo hR (fun a ha _ => F2 a (by omega))) (fun m3 R3 F3 e3 _ => ?_))
  rw [F2 529 (by decide), h1, h2]
  exact h _ m3 ⟨zCM_hi C2 (fun a ha => F3 a (by omega)), R3, 0, by decide, by rw [F3 526 (by decide)]; exact e2, e3, fun j hj => by omega⟩
theorem zj_fault {m : zMem} {Z : Int32 → Int32 → zMem → Prop} (hJ : zJ m) (h : ∀ r m2, zJ m2 → Z r r m2) : fX7_fault 0 m (fun r m => fX8_fault 529 m (fun r2 m2 => Z r r2 m2)) := by
  obtain ⟨hC, hR, n, hn, h1, h2, h3⟩ := hJ
  refine zb_fault (ch := m 527) hC ⟨hn, h1, fun _ _ => rfl⟩ (fun m2 C2 H2 => ?_)
  have R2 : zRM m2 := zRM_lo hR (fun a ha _ => H2 a (by omega) (by omega))
  have B2 : zPB m2 (m 527) n := ⟨hn, by rw [H2 529 (by decide) (by decide)]; exact h2, fun j hj => by rw [H2 536 (by decide) (by decide)]; exact h3 j hj⟩
  refine zra_fault R2 B2 (fun m3 R3 F3 => h _ m3 ⟨zCM_hi C2 (fun a ha => F3.1 a (by omega)), R3, n, hn, ?_, ?_, fun j hj => ?_⟩)
  · rw [F3.1 526 (by decide), H2 526 (by decide) (by decide)]; exact h1
  · rw [F3.2.1]; exact B2.2.1
  · rw [F3.2.2, F3.1 527 (by decide), H2 527 (by decide) (by decide)]; exact B2.2.2 j hj
theorem zj_carryOut {m : zMem} {Z : Int32 → Int32 → zMem → Prop} (hJ : zJ m) (h : ∀ r r2 m2, zJ m2 → Z r r2 m2) : fX7_carryOut 0 m (fun r m => fX8_carryOut 529 m (fun r2 m2 => Z r r2 m2)) := by
  obtain ⟨hC, hR, n, hn, h1, h2, h3⟩ := hJ
  refine zb_carryOut (ch := m 527) hC ⟨hn, h1, fun _ _ => rfl⟩ (fun e r m2 C2 F2 e2 => ?_) (fun e r m2 C2 H2 => ?_)
  · have R2 : zRM m2 := zRM_lo hR (fun a ha _ => F2 a (by omega) (by omega))
    have B2 : zPB m2 (m 527) n := ⟨hn, by rw [F2 529 (by decide) (by decide)]; exact h2, fun j hj => by rw [F2 536 (by decide) (by decide)]; exact h3 j hj⟩
    refine zra_carryOut R2 B2 (fun _ r2 m3 R3 F3 e3 _ => h _ _ m3 ⟨zCM_hi C2 (fun a ha => F3 a (by omega)), R3, 0, by decide, by rw [F3 526 (by decide)]; exact e2, e3, fun j hj => by omega⟩) (fun g => absurd e g)
  · have R2 : zRM m2 := zRM_lo hR (fun a ha _ => H2 a (by omega) (by omega))
    have B2 : zPB m2 (m 527) n := ⟨hn, by rw [H2 529 (by decide) (by decide)]; exact h2, fun j hj => by rw [H2 536 (by decide) (by decide)]; exact h3 j hj⟩
    refine zra_carryOut R2 B2 (fun g => absurd g e) (fun _ r2 m3 R3 F3 => h _ _ m3 ⟨zCM_hi C2 (fun a ha => F3.1 a (by omega)), R3, n, hn, ?_, ?_, fun j hj => ?_⟩)
    · rw [F3.1 526 (by decide), H2 526 (by decide) (by decide)]; exact h1
    · rw [F3.2.1]; exact B2.2.1
    · rw [F3.2.2, F3.1 527 (by decide), H2 527 (by decide) (by decide)]; exact B2.2.2 j hj
theorem z1can (a : Nat) (h3 : zM1 a 3 = 0) (h4 : zM1 a 4 = 0) (h5 : zM1 a 5 = 0) (h8 : ∀ i, i < 14 → zM1 (a + 4 + 3 * i) 8 = 0) : zICan zM1 a := ⟨⟨0, by decide, h3⟩, ⟨0, by decide, h4⟩, Or.inl h5, fun i hi => Or.inl (h8 i hi)⟩
theorem zJ1 : zJ zM1 := by
  refine ⟨⟨zp_I, fun k hk => z1can _ ((by decide +kernel : ∀ k, k < 7 → zM1 (55 + 52 * k) 3 = 0) k hk) ((by decide +kernel : ∀ k, k < 7 → zM1 (55 + 52 * k) 4 = 0) k hk) ((by decide +kernel : ∀ k, k < 7 → zM1 (55 + 52 * k) 5 = 0) k hk) ((by decide +kernel : ∀ k, k < 7 → ∀ i, i < 14 → zM1 (55 + 52 * k + 4 + 3 * i) 8 = 0) k hk), fun k hk => z1can _ ((by decide +kernel : ∀ k, k < 2 → zM1 (422 + 52 * k) 3 = 0) k hk) ((by decide +kernel : ∀ k, k < 2 → zM1 (422 + 52 * k) 4 = 0) k hk) ((by decide +kernel : ∀ k, k < 2 → zM1 (422 + 52 * k) 5 = 0) k hk) ((by decide +kernel : ∀ k, k < 2 → ∀ i, i < 14 → zM1 (422 + 52 * k + 4 + 3 * i) 8 = 0) k hk), 0, by decide, rfl⟩, zRM1, 0, by decide, rfl, rfl, fun j hj => by omega⟩
