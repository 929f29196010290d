/-! X7: the fault, a pad carried out, a pad wiped -/
theorem zcr_fault {m : zMem} {ch : Nat → Int32} {n : Nat} {K : Int32 → zMem → Prop} (hB : zCB m ch n) (h : ∀ m2, (∀ a, a ≠ 528 → m2 a = m a) → K (zfa (zpF (zT ch n) n 81 0)) m2) : fX3_firstFault 528 m K := by
  have hn := hB.1
  have L : ∀ (N f i p : Nat) (m2 : zMem), p ≤ n → 2 * i ≤ p → n - p < f → 81 - i < N → zCS m m2 p → (∀ m3, (∀ a, a ≠ 528 → m3 a = m a) → K (zfa (zpF (zT ch n) n f p)) m3) → fX3_firstFault_6 K 528 N (nI i) m2 := by
    intro N
    induction N with
    | zero => intro f i p m2 g1 g2 g3 g4; omega
    | succ N ih =>
      intro f i p m2 g1 g2 g3 g4 g5 k
      obtain ⟨f, rfl⟩ : ∃ f', f = f' + 1 := ⟨f - 1, by omega⟩
      have B := zpO_b (ch := ch) (n := n) g1
      show fX3_firstFault_6b (fX3_firstFault_6 K 528 N) K 528 (nI i) m2
      unfold fX3_firstFault_6b fX4_length
      refine ⟨fun c => absurd ((nI_leI (a := 80) (b := i) (by decide) (by omega)).mp c) (by omega), fun _ => zcr_readOrder hB g5 g1 (fun r m3 s3 hr => ?_)⟩
      obtain ⟨p2, hp2⟩ : ∃ p2, p2 = (zpO (zT ch n) p).2 := ⟨_, rfl⟩
      rw [← hp2] at s3 hr B
      have B1 := B.1
      have hl : m3 526 1 = nI n := by rw [s3.1 526 (by decide)]; exact hB.2.1
      rcases hr with ⟨er, c⟩ | ⟨er, c⟩
      · subst er
        have B2 := B.2 c
        have E : zpF (zT ch n) n (f + 1) p = (if n ≤ p2 then none else if zT ch n p2 = 59 then zpF (zT ch n) n f (p2 + 1) else some p2) := by
          rw [hp2]
          conv => lhs; unfold zpF
          rw [if_pos c]
        refine ⟨fun _ => ?_, fun g => absurd g (by decide)⟩
        rw [hl, s3.2]
        refine ⟨fun c2 => ?_, fun c2 => ?_⟩
        · have hlt : p2 < n := (nI_ltI (by omega) (by omega)).mp c2
          rw [if_neg (by omega)] at E
          refine zcr_take hB s3 (by omega) (fun c3 m9 s9 => ⟨fun _ x11 e11 => ?_, fun g => absurd g (by decide)⟩) (fun c3 => ⟨fun g => absurd rfl g, fun _ => ?_⟩)
          · rw [if_pos c3] at E
            rw [e11, nI_1]
            exact ih f (i + 1) (p2 + 1) m9 (by omega) (by omega) (by omega) (by omega) s9 (by rw [← E]; exact k)
          · rw [if_neg c3] at E
            have := k m3 s3.1
            rw [E] at this
            rw [s3.2]
            exact this
        · have hle : n ≤ p2 := Nat.le_of_not_lt (fun g => c2 ((nI_ltI (by omega) (by omega)).mpr g))
          rw [if_pos hle] at E
          have := k m3 s3.1
          rw [E] at this
          exact this
      · subst er
        refine ⟨fun g => absurd rfl g, fun _ => ?_⟩
        have E : zpF (zT ch n) n (f + 1) p = some p2 := by
          rw [hp2]
          conv => lhs; unfold zpF
          by_cases c4 : (zpO (zT ch n) p).1 = true
          · have := c c4
            rw [hp2] at this
            rw [if_pos c4, if_neg (by omega), if_neg this.2]
          · rw [if_neg c4]
        have := k m3 s3.1
        rw [E] at this
        rw [s3.2]
        exact this
  unfold fX3_firstFault fX3_start
  intro m1 e1
  refine L zFU 81 0 0 m1 (by omega) (by omega) (by omega) (by unfold zFU; omega) ⟨fun a ha => by rw [e1, zu_ne ha], by rw [e1, zu_same, z_upd_same]; rfl⟩ h
theorem zpF_le {ch : Nat → Int32} {n : Nat} : ∀ (f p : Nat), p ≤ n → ∀ q, zpF (zT ch n) n f p = some q → q ≤ n := by
  intro f
  induction f with
  | zero =>
    intro p hp q e
    unfold zpF at e
    exact (Option.some.inj e) ▸ hp
  | succ f ih =>
    intro p hp q e
    have B := (zpO_b (ch := ch) (n := n) hp).1
    unfold zpF at e
    split at e
    · split at e
      · exact absurd e (by simp)
      · split at e
        · rename_i g
          exact ih _ (zT_e (by decide) g) q e
        · exact (Option.some.inj e) ▸ B
    · exact (Option.some.inj e) ▸ B
theorem zCM_hi {m2 m : zMem} (hM : zCM m) (h : ∀ a, a < 526 → m2 a = m a) : zCM m2 := by
  obtain ⟨h1, hst, hsl, N, hN, e⟩ := hM
  exact ⟨zICan_c h1 (fun r g1 g2 => h r (by omega)), fun k hk => zICan_c (hst k hk) (fun r g1 g2 => h r (by omega)), fun k hk => zICan_c (hsl k hk) (fun r g1 g2 => h r (by omega)), N, hN, by rw [h 53 (by omega)]; exact e⟩
theorem zCB_c {m2 m : zMem} {ch : Nat → Int32} {n : Nat} (hB : zCB m ch n) (h1 : m2 526 = m 526) (h2 : m2 527 = m 527) : zCB m2 ch n :=
  ⟨hB.1, by rw [h1]; exact hB.2.1, fun j hj => by rw [h2]; exact hB.2.2 j hj⟩
/-- all but the reader stays, above the canteens -/
def zCH (m2 m : zMem) : Prop := ∀ a, 526 ≤ a → a ≠ 528 → m2 a = m a
theorem zb_fault {m : zMem} {ch : Nat → Int32} {n : Nat} {K : Int32 → zMem → Prop} (hM : zCM m) (hB : zCB m ch n) (h : ∀ m2, zCM m2 → zCH m2 m → K (zfa (zpF (zT ch n) n 81 0)) m2) : fX7_fault 0 m K := by
  unfold fX7_fault
  exact zcr_fault hB (fun m2 f2 => h m2 (zCM_hi hM (fun a ha => f2 a (by omega))) (fun a _ ha => f2 a ha))
theorem zb_wipe {m : zMem} {K : Int32 → zMem → Prop} (hM : zCM m) (h : ∀ m2, zCM m2 → (∀ a, 527 ≤ a → m2 a = m a) → m2 526 1 = nI 0 → K (m 526 1) m2) : fX7_wipe 0 m K := by
  unfold fX7_wipe fX4_clear
  intro m1 e1
  refine h m1 (zCM_hi hM (fun a ha => by rw [e1, zu_ne (by omega)])) (fun a ha => by rw [e1, zu_ne (by omega)]) ?_
  rw [e1, zu_same, z_upd_same]
  rfl
theorem zc_one {m : zMem} (hM : zCM m) : zCA (fX7_carryOutOne 0 m) m := by
  intro K h
  have Y : ∀ (F : (Int32 → zMem → Prop) → Prop), zCt F m → F (fun r m2 => K r m2) := fun F hF => hF _ (fun r m2 y => by
    obtain ⟨M2, F2⟩ := zCM_Y hM y
    exact h r m2 M2 F2)
  unfold fX7_carryOutOne fX7_carryOutOne_173
  exact ⟨fun _ => ⟨fun _ => Y _ (zc_sell hM.1), fun _ => Y _ (zc_serve hM.1)⟩, fun _ => ⟨fun _ => Y _ (zc_cookToday hM.1), fun _ => ⟨fun _ => Y _ (zc_takeOrder hM.1), fun _ => ⟨fun _ => Y _ (zc_addPerson hM.1), fun _ => ⟨fun _ => Y _ (zc_giveVouchers hM.1), fun _ => ⟨fun _ => Y _ (zc_endDay hM.1), fun _ => h _ m hM zCF0⟩⟩⟩⟩⟩⟩
theorem zc_all {m : zMem} {ch : Nat → Int32} {n : Nat} {K : Int32 → zMem → Prop} (hM : zCM m) (hB : zCB m ch n) (h : ∀ r m2, zCM m2 → zCH m2 m → K r m2) : fX7_carryOutAll 0 m K := by
  have hn := hB.1
  have L : ∀ (N i p : Nat) (m2 : zMem), i ≤ 80 → 80 - i < N → p ≤ n → zCM m2 → zCH m2 m → m2 528 1 = nI p → fX7_carryOutAll_9 K 0 N (nI i) m2 := by
    intro N
    induction N with
    | zero => intro i p m2 g1 g2; omega
    | succ N ih =>
      intro i p m2 g1 g2 g3 M2 H2 e2
      show fX7_carryOutAll_9b (fX7_carryOutAll_9 K 0 N) K 0 (nI i) m2
      unfold fX7_carryOutAll_9b fX7_carryOutAll_31
      have B2 : zCB m2 ch n := zCB_c hB (H2 526 (by decide) (by decide)) (H2 527 (by decide) (by decide))
      have S2 : zCS m2 m2 p := ⟨fun _ _ => rfl, e2⟩
      have out : ∀ (v : Int32) (m3 : zMem), zCM m3 → zCH m3 m → fX7_carryOutAll_58 K 0 v m3 := by
        intro v m3 M3 H3
        unfold fX7_carryOutAll_58
        exact h _ m3 M3 H3
      have nxt : ∀ (q : Nat) (m3 : zMem), i < 80 → q ≤ n → zCS m2 m3 q → fX7_carryOutAll_36 (fX7_carryOutAll_9 K 0 N) K 0 (nI i) 1 m3 := by
        intro q m3 hi hq s3
        unfold fX7_carryOutAll_36
        refine ⟨fun g => absurd g (by decide), fun _ => zcr_readOrder B2 s3 hq (fun r m4 s4 _ => ?_)⟩
        have M4 : zCM m4 := zCM_hi M2 (fun a ha => s4.1 a (by omega))
        have H4 : zCH m4 m := fun a ha hb => by rw [s4.1 a hb]; exact H2 a ha hb
        have Bq := (zpO_b (ch := ch) (n := n) hq).1
        refine ⟨fun _ => out _ m4 M4 H4, fun _ => zc_one M4 _ (fun r5 m6 M6 F6 => ?_)⟩
        have H6 : zCH m6 m := fun a ha hb => by rw [F6 a ha]; exact H4 a ha hb
        refine ⟨fun _ x8 e8 => ?_, fun _ => out _ m6 M6 H6⟩
        rw [e8, nI_1]
        exact ih (i + 1) _ m6 (by omega) (by omega) Bq M6 H6 (by rw [F6 528 (by decide)]; exact s4.2)
      refine ⟨fun _ => h _ m2 M2 H2, fun c => ?_⟩
      have hi : i < 80 := Nat.lt_of_not_le (fun g => c ((nI_leI (a := 80) (b := i) (by decide) (by omega)).mpr g))
      refine ⟨fun _ => nxt p m2 hi g3 S2, fun _ => zcr_take B2 S2 (by omega) (fun c3 m3 s3 => ⟨fun g => absurd g (by decide), fun _ => ?_⟩) (fun c3 => ⟨fun _ => ?_, fun g => absurd rfl g⟩)⟩
      · exact nxt (p + 1) m3 hi (by have := zT_e (by decide) c3; omega) s3
      · unfold fX7_carryOutAll_36
        exact ⟨fun _ => out _ m2 M2 H2, fun g => absurd rfl g⟩
  unfold fX7_carryOutAll fX3_start
  intro m1 e1
  refine L zFU 0 0 m1 (by omega) (by unfold zFU; omega) (by omega) (zCM_hi hM (fun a ha => by rw [e1, zu_ne (by omega)])) (fun a ha hb => by rw [e1, zu_ne hb]) ?_
  rw [e1, zu_same, z_upd_same]
  rfl
theorem zb_carryOut {m : zMem} {ch : Nat → Int32} {n : Nat} {K : Int32 → zMem → Prop} (hM : zCM m) (hB : zCB m ch n) (h1 : zpF (zT ch n) n 81 0 = none → ∀ r m2, zCM m2 → (∀ a, 527 ≤ a → a ≠ 528 → m2 a = m a) → m2 526 1 = nI 0 → K r m2) (h0 : zpF (zT ch n) n 81 0 ≠ none → ∀ r m2, zCM m2 → zCH m2 m → K r m2) : fX7_carryOut 0 m K := by
  have hn := hB.1
  unfold fX7_carryOut
  refine zcr_fault hB (fun m2 f2 => ?_)
  have M2 : zCM m2 := zCM_hi hM (fun a ha => f2 a (by omega))
  have H2 : zCH m2 m := fun a _ ha => f2 a ha
  refine ⟨fun c => ?_, fun c => ?_⟩
  · have e : zpF (zT ch n) n 81 0 = none := by
      rcases e : zpF (zT ch n) n 81 0 with _ | p
      · rfl
      · rw [e] at c
        have c : nI p = -6 := c
        have := zpF_le 81 0 (Nat.zero_le n) p e
        exact absurd (show nI p < 0 by rw [c]; decide) (nI_pos (by omega))
    refine zc_note M2 (fun m5 M5 F5 => ?_)
    have B5 : zCB m5 ch n := zCB_c hB (by rw [F5 526 (by decide), f2 526 (by decide)]) (by rw [F5 527 (by decide), f2 527 (by decide)])
    refine zc_all M5 B5 (fun r6 m7 M7 H7 => ?_)
    unfold fX4_clear
    intro m8 e8
    have M8 : zCM m8 := zCM_hi M7 (fun a ha => by rw [e8, zu_ne (by omega)])
    refine zc_keep M8 (fun r m9 M9 F9 => h1 e r m9 M9 (fun a ha hb => ?_) ?_)
    · rw [F9 a (by omega), e8, zu_ne (by omega), H7 a (by omega) hb, F5 a (by omega), f2 a hb]
    · rw [F9 526 (by decide), e8, zu_same, z_upd_same]
      rfl
  · exact h0 (fun g => c (by rw [g]; rfl)) _ m2 M2 H2
