/-! one call on fresh objects -/
def zFr (m : zMem) : Prop := ∀ r, 529 ≤ r → m r = zM1 r
def zC (f : (Int32 → zMem → Prop) → Prop) (r : Int32) : Prop := ∀ K : Int32 → zMem → Prop, (∀ m, zFr m → K r m) → f K
def zR (f : zMem → (Int32 → zMem → Prop) → Prop) (r : Int32) : Prop := ∀ (m : zMem) (K : Int32 → zMem → Prop), zFr m → (∀ m2, K r m2) → f m K
theorem zCR {f : (Int32 → zMem → Prop) → Prop} {g : zMem → (Int32 → zMem → Prop) → Prop} (h : ∃ r, zC f r ∧ zR g r) {Z : Int32 → Int32 → zMem → Prop} (hZ : ∀ r m, Z r r m) : f (fun r m => g m (fun r2 m2 => Z r r2 m2)) := by
  obtain ⟨r, h1, h2⟩ := h
  exact h1 _ (fun m hm => h2 m _ hm (fun m2 => hZ r m2))
theorem zFr0 : zFr zM1 := fun _ _ => rfl
theorem zp_I : zICan zM1 1 := ⟨⟨0, by decide, rfl⟩, ⟨0, by decide, rfl⟩, Or.inl rfl, fun i hi => Or.inl ((by decide +kernel : ∀ i, i < 14 → zM1 (1 + 4 + 3 * i) 8 = 0) i hi)⟩
/-- behind the note: all but a place of the history is as it was -/
def zNo (m : zMem) : Prop := ∀ r, ¬ (55 ≤ r ∧ r < 107) → m r = zM1 r
theorem zp_note {K : zMem → Prop} (h : ∀ m, zNo m → K m) : fX2_note 53 1 zM1 K := zs_note (N := 0) (by decide) rfl zp_I (fun m hf _ => h m hf)
theorem zp_keep {r : Int32} {m : zMem} {K : Int32 → zMem → Prop} (h53 : m 53 1 = nI 0) (hm : zFr m) (h : ∀ m2, zFr m2 → K r m2) : fX2_keep 53 r m K :=
  zs_keep (N := 0) (by decide) h53 (fun m2 N2 _ _ hf => h m2 (fun a ha => by rw [hf a (by omega)]; exact hm a ha))
theorem zNo_Fr {m : zMem} (h : zNo m) : zFr m := fun r hr => h r (by omega)
theorem zNo_P {m : zMem} (h : zNo m) : m 1 3 = nI 0 := by rw [h 1 (by omega)]; rfl
theorem zNo_53 {m : zMem} (h : zNo m) : m 53 1 = nI 0 := by rw [h 53 (by omega)]; rfl
theorem zFr_P {m : zMem} (h : zFr m) : m 530 5 = nI 0 := by rw [h 530 (by omega)]; rfl
theorem zp_hold {m : zMem} {K : zMem → Prop} (hm : zFr m) (h : ∀ m2 : zMem, (∀ r, r ≠ 531 → m2 r = m r) → m2 530 = zM1 530 → m2 529 8 = nI 0 → K m2) : fX8_hold 529 m K :=
  zs_hold (fun m2 hf _ => h m2 hf (by rw [hf 530 (by omega), hm 530 (by omega)]) (by rw [hf 529 (by omega), hm 529 (by omega)]; rfl))
theorem zp_rec {m : zMem} {r : Int32} {K : Int32 → zMem → Prop} (h8 : m 529 8 = nI 0) (h : ∀ m2, K r m2) : fX8_recorded 529 r m K := zs_recorded (S := 0) (by decide) h8 (fun m2 _ _ _ _ _ => h m2)
-- people who aren't there
theorem zn_hasPerson {a : Int32} {m : zMem} {K : Int32 → zMem → Prop} (hP : m 1 3 = nI 0) (h : K 0 m) : fX0_hasPerson 1 a m K := zs_hasPerson (P := 0) hP (by decide) (fun j hj => by omega) (fun _ => h)
theorem zn_isPerson {a : Int32} {m : zMem} {K : Int32 → zMem → Prop} (hP : m 530 5 = nI 0) (h : K 0 m) : fX8_isPerson 529 a m K := zs_isPerson (P := 0) hP (by decide) (fun j hj => by omega) (fun _ => h)
theorem zp_vouchers (a b : Int32) : ∃ r, zC (fX7_vouchers 0 a b zM1) r ∧ zR (fun m K => fX8_vouchers 529 a b m K) r := by
  refine ⟨-1, fun K hK => ?_, fun m K hm hK => ?_⟩
  · unfold fX7_vouchers
    refine zp_note (fun m hn => ?_)
    unfold fX0_giveVouchers
    refine zn_hasPerson (zNo_P hn) ⟨fun c => absurd rfl c, fun _ => ?_⟩
    exact zp_keep (zNo_53 hn) (zNo_Fr hn) hK
  · show fX8_vouchers 529 a b m K
    unfold fX8_vouchers
    refine zp_hold hm (fun m2 hf h30 h8 => ?_)
    unfold fX8_gets
    refine zn_isPerson (by rw [h30]; rfl) ⟨fun c => absurd rfl c, fun _ => ?_⟩
    exact zp_rec h8 hK
theorem zp_order (a b c : Int32) : ∃ r, zC (fX7_order 0 a b c zM1) r ∧ zR (fun m K => fX8_order 529 a b c m K) r := by
  refine ⟨-1, fun K hK => ?_, fun m K hm hK => ?_⟩
  · unfold fX7_order
    refine zp_note (fun m hn => ?_)
    unfold fX0_takeOrder fX0_reasonAgainst fX0_reasonAgainst_16
    refine zn_hasPerson (zNo_P hn) ⟨fun _ => ⟨fun c => absurd c (by decide), fun _ => ?_⟩, fun c => absurd rfl c⟩
    exact zp_keep (zNo_53 hn) (zNo_Fr hn) hK
  · show fX8_order 529 a b c m K
    unfold fX8_order
    refine zp_hold hm (fun m2 hf h30 h8 => ?_)
    unfold fX8_ordersOf fX8_ordersOf_15
    refine zn_isPerson (by rw [h30]; rfl) ⟨fun _ => ?_, fun c => absurd rfl c⟩
    exact zp_rec h8 hK
theorem zp_callOff (a b : Int32) : ∃ r, zC (fX7_callOff 0 a b zM1) r ∧ zR (fun m K => fX8_callOff 529 a b m K) r := by
  refine ⟨-1, fun K hK => ?_, fun m K hm hK => ?_⟩
  · unfold fX7_callOff
    refine zp_note (fun m hn => ?_)
    unfold fX0_cancelOrder
    refine zn_hasPerson (zNo_P hn) ⟨fun c => absurd rfl c, fun _ => ?_⟩
    exact zp_keep (zNo_53 hn) (zNo_Fr hn) hK
  · show fX8_callOff 529 a b m K
    unfold fX8_callOff
    exact zn_isPerson (zFr_P hm) ⟨fun c => absurd rfl c, fun _ => hK m⟩
theorem zp_come (a : Int32) : ∃ r, zC (fX7_come 0 a zM1) r ∧ zR (fun m K => fX8_come 529 a m K) r := by
  refine ⟨-1, fun K hK => ?_, fun m K hm hK => ?_⟩
  · unfold fX7_come
    refine zp_note (fun m hn => ?_)
    unfold fX0_serve
    refine zn_hasPerson (zNo_P hn) ⟨fun c => absurd rfl c, fun _ => ?_⟩
    exact zp_keep (zNo_53 hn) (zNo_Fr hn) hK
  · show fX8_come 529 a m K
    unfold fX8_come
    refine zp_hold hm (fun m2 hf h30 h8 => ?_)
    unfold fX8_comes
    refine zn_isPerson (by rw [h30]; rfl) ⟨fun c => absurd rfl c, fun _ => ?_⟩
    exact zp_rec h8 hK
theorem zp_buy (a b : Int32) : ∃ r, zC (fX7_buy 0 a b zM1) r ∧ zR (fun m K => fX8_buy 529 a b m K) r := by
  refine ⟨-1, fun K hK => ?_, fun m K hm hK => ?_⟩
  · unfold fX7_buy
    refine zp_note (fun m hn => ?_)
    unfold fX0_sell fX0_sell_16
    refine zn_hasPerson (zNo_P hn) ⟨fun _ => ?_, fun c => absurd rfl c⟩
    exact zp_keep (zNo_53 hn) (zNo_Fr hn) hK
  · show fX8_buy 529 a b m K
    unfold fX8_buy
    refine zp_hold hm (fun m2 hf h30 h8 => ?_)
    unfold fX8_buys fX8_buys_15
    refine zn_isPerson (by rw [h30]; rfl) ⟨fun _ => ?_, fun c => absurd rfl c⟩
    exact zp_rec h8 hK
theorem zp_of (a b : Int32) : ∃ r, zC (fX7_of 0 a b zM1) r ∧ zR (fun m K => fX8_of 529 a b m K) r := by
  refine ⟨-1, fun K hK => ?_, fun m K hm hK => ?_⟩
  · unfold fX7_of fX0_aboutPerson
    exact zn_hasPerson rfl ⟨fun c => absurd rfl c, fun _ => hK _ zFr0⟩
  · show fX8_of 529 a b m K
    unfold fX8_of
    exact zn_isPerson (zFr_P hm) ⟨fun c => absurd rfl c, fun _ => hK m⟩
theorem zp_why (a b c : Int32) : ∃ r, zC (fX7_why 0 a b c zM1) r ∧ zR (fun m K => fX8_why 529 a b c m K) r := by
  refine ⟨-1, fun K hK => ?_, fun m K hm hK => ?_⟩
  · unfold fX7_why fX0_reasonAgainst fX0_reasonAgainst_16
    exact zn_hasPerson rfl ⟨fun _ => hK _ zFr0, fun c => absurd rfl c⟩
  · show fX8_why 529 a b c m K
    unfold fX8_why fX8_why_15
    exact zn_isPerson (zFr_P hm) ⟨fun _ => hK m, fun c => absurd rfl c⟩
theorem zp_firstOrder (a : Int32) : ∃ r, zC (fX7_firstOrder 0 a zM1) r ∧ zR (fun m K => fX8_firstOrder 529 a m K) r := by
  refine ⟨-1, fun K hK => ?_, fun m K hm hK => ?_⟩
  · unfold fX7_firstOrder fX0_firstPossible
    exact zn_hasPerson rfl ⟨fun c => absurd rfl c, fun _ => hK _ zFr0⟩
  · show fX8_firstOrder 529 a m K
    unfold fX8_firstOrder
    exact zn_isPerson (zFr_P hm) ⟨fun c => absurd rfl c, fun _ => hK m⟩
theorem zp_close : ∃ r, zC (fX7_close 0 zM1) r ∧ zR (fun m K => fX8_close 529 m K) r := by
  refine ⟨-5, fun K hK => ?_, fun m K hm hK => ?_⟩
  · unfold fX7_close
    refine zp_note (fun m hn => ?_)
    unfold fX0_endDay fX0_endDay_17
    refine ⟨fun _ => ?_, fun c => absurd (by rw [hn 1 (by omega)]; rfl) c⟩
    exact zp_keep (zNo_53 hn) (zNo_Fr hn) hK
  · show fX8_close 529 m K
    unfold fX8_close
    refine zp_hold hm (fun m2 hf h30 h8 => ?_)
    unfold fX8_closes fX8_closes_22
    intro x1 e1
    refine ⟨fun _ => ?_, fun c => absurd (by rw [e1, h30]; rfl) c⟩
    exact zp_rec h8 hK
theorem zp_undo : ∃ r, zC (fX7_undo 0 zM1) r ∧ zR (fun m K => fX8_undo 529 m K) r := by
  refine ⟨-5, fun K hK => ?_, fun m K hm hK => ?_⟩
  · unfold fX7_undo fX2_takeBack
    exact ⟨fun c => absurd rfl c, fun _ => hK _ zFr0⟩
  · show fX8_undo 529 m K
    unfold fX8_undo
    exact ⟨fun c => absurd (by rw [hm 529 (by omega)]; rfl) c, fun _ => hK m⟩
theorem zp_wipe : ∃ r, zC (fX7_wipe 0 zM1) r ∧ zR (fun m K => fX8_wipe 529 m K) r := by
  refine ⟨0, fun K hK => ?_, fun m K hm hK => ?_⟩
  · unfold fX7_wipe fX4_clear
    intro m1 e1
    refine hK m1 (fun r hr => by rw [e1, zu_ne (by omega)])
  · show fX8_wipe 529 m K
    unfold fX8_wipe
    intro m1 e1
    rw [show m 529 7 = 0 by rw [hm 529 (by omega)]; rfl]
    exact hK m1
