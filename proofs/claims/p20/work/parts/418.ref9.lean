/-! the reference: the fault of the pad, its orders carried out -/
theorem zr_faultOf {m : zMem} {ch : Nat → Int32} {n : Nat} {K : Int32 → zMem → Prop} (hB : zPB m ch n) (h1 : zpF (zT ch n) n 81 0 = none → ∀ m2 p o, o ≤ 41 → zPS m m2 p o → K (-1) m2) (h0 : ∀ p, zpF (zT ch n) n 81 0 = some p → p ≤ 80 → ∀ m2 p2 o, o ≤ 41 → zPS m m2 p2 o → K (nI p) m2) : fX8_faultOf 529 m K := by
  have hn := hB.1
  have Z : ∀ (N p o : Nat) (m2 : zMem), 0 < N → zPS m m2 p o → K (nI p) m2 → fX8_faultOf_15 K 529 N 0 m2 := by
    intro N p o m2 hN s2 k
    obtain ⟨N, rfl⟩ : ∃ N', N = N' + 1 := ⟨N - 1, by omega⟩
    show fX8_faultOf_15b (fX8_faultOf_15 K 529 N) K 529 0 m2
    unfold fX8_faultOf_15b fX8_faultOf_55 fX8_faultOf_67
    rw [s2.2.2.2]
    exact ⟨fun _ => ⟨fun _ => k, fun g => absurd rfl g⟩, fun g => absurd rfl g⟩
  have L : ∀ (f N p o : Nat) (m2 : zMem), p ≤ n → 2 * o ≤ p → n - p < f → n - p + 3 < N → (zpF (zT ch n) n f p = none → ∀ m2 p o, o ≤ 41 → zPS m m2 p o → K (-1) m2) → (∀ q, zpF (zT ch n) n f p = some q → q ≤ 80 → ∀ m2 p2 o, o ≤ 41 → zPS m m2 p2 o → K (nI q) m2) → ((zpO (zT ch n) p).1 = true → zPS m m2 (zpO (zT ch n) p).2 (o + 1) → fX8_faultOf_15 K 529 N 1 m2) ∧ ((zpO (zT ch n) p).1 = false → zPS m m2 (zpO (zT ch n) p).2 o → fX8_faultOf_15 K 529 N 0 m2) := by
    intro f
    induction f with
    | zero => intro N p o m2 g1 g2 g3; omega
    | succ f ih =>
      intro N p o m2 g1 g2 g3 g4 k1 k0
      have B := zpO_b (ch := ch) (n := n) g1
      refine ⟨fun c s3 => ?_, fun c s3 => ?_⟩
      · have B2 := B.2 c
        have B1 := B.1
        obtain ⟨N, rfl⟩ : ∃ N', N = N' + 1 := ⟨N - 1, by omega⟩
        show fX8_faultOf_15b (fX8_faultOf_15 K 529 N) K 529 1 m2
        unfold fX8_faultOf_15b fX8_faultOf_55 fX8_faultOf_67 fX8_faultOf_50 fX8_faultOf_51
        have h7 : m2 529 7 = nI n := by rw [s3.2.1 7 (by decide) (by decide)]; exact hB.2.1
        have E : zpF (zT ch n) n (f + 1) p = (if n ≤ (zpO (zT ch n) p).2 then none else if zT ch n (zpO (zT ch n) p).2 = 59 then zpF (zT ch n) n f ((zpO (zT ch n) p).2 + 1) else some (zpO (zT ch n) p).2) := by
          conv => lhs; unfold zpF
          rw [if_pos c]
        obtain ⟨p2, hp2⟩ : ∃ p2, p2 = (zpO (zT ch n) p).2 := ⟨_, rfl⟩
        rw [← hp2] at E s3 B1 B2
        refine ⟨fun g => absurd g (by decide), fun _ => ?_⟩
        rw [h7, s3.2.2.2]
        refine ⟨fun c2 => ⟨fun g => absurd g (by decide), fun _ => ?_⟩, fun c2 => ?_⟩
        · have : n ≤ p2 := (nI_leI (by omega) (by omega)).mp c2
          rw [if_pos this] at E
          exact k1 E m2 _ _ (by omega) s3
        · have hlt : ¬ n ≤ p2 := fun g => c2 ((nI_leI (by omega) (by omega)).mpr g)
          rw [if_neg hlt] at E
          refine zr_accepts (by decide) hB s3 B1 (fun c3 m4 s4 => ⟨fun g => absurd g (by decide), fun _ => ?_⟩) (fun c3 m4 s4 => ⟨fun _ => ?_, fun g => absurd rfl g⟩)
          · rw [if_pos c3] at E
            have H := fun m5 => ih N (p2 + 1) (o + 1) m5 (by omega) (by omega) (by omega) (by omega) (by rw [← E]; exact k1) (by rw [← E]; exact k0)
            exact zr_readsOrder (by omega) hB s4 (by omega) (fun c4 m5 s5 => ⟨fun g => absurd g (by decide), fun _ => (H m5).1 c4 s5⟩) (fun c4 m5 s5 => ⟨fun _ => (H m5).2 c4 s5, fun g => absurd rfl g⟩)
          · rw [if_neg c3] at E
            exact Z N _ _ m4 (by omega) s4 (k0 _ E (by omega) m4 _ _ (by omega) s4)
      · have E : zpF (zT ch n) n (f + 1) p = some (zpO (zT ch n) p).2 := by
          conv => lhs; unfold zpF
          rw [if_neg (by rw [c]; decide)]
        have B1 := B.1
        exact Z N _ _ m2 (by omega) s3 (k0 _ E (by omega) m2 _ _ (by omega) s3)
  unfold fX8_faultOf
  intro m10 e10 m11 e11
  have s0 : zPS m m11 0 0 := by
    refine ⟨fun a ha hb => ?_, fun k h9 h10 => ?_, ?_, ?_⟩
    · rw [e11, zu_ne ha, e10, zu_ne ha]
    · rw [e11, zu_same, z_upd_ne h9, e10, zu_same, z_upd_ne h10]
    · rw [e11, zu_same, z_upd_same]; rfl
    · rw [e11, zu_same, z_upd_ne (by decide), e10, zu_same, z_upd_same]; rfl
  have H := fun m5 => L 81 zFU 0 0 m5 (by omega) (by omega) (by omega) (by unfold zFU; omega) h1 h0
  exact zr_readsOrder (by omega) hB s0 (by omega) (fun c m5 s5 => (H m5).1 c s5) (fun c m5 s5 => (H m5).2 c s5)
/-- a fault's answer -/
def zfa (o : Option Nat) : Int32 := match o with | none => -6 | some p => nI p
theorem zPS_M {m m2 : zMem} {p o : Nat} (hM : zRM m) (hS : zPS m m2 p o) : zRM m2 ∧ zFR m2 m := by
  obtain ⟨h30, h31, hb, hs, S, hS6, h8⟩ := hM
  refine ⟨⟨by rw [hS.1 530 (by decide) (by decide)]; exact h30, by rw [hS.1 531 (by decide) (by decide)]; exact h31, by rw [hS.1 532 (by decide) (by decide)]; exact hb, by rw [hS.1 533 (by decide) (by decide)]; exact hs, S, hS6, by rw [hS.2.1 8 (by decide) (by decide)]; exact h8⟩, fun a ha => hS.1 a (by omega) (by omega), hS.2.1 7 (by decide) (by decide), hS.1 536 (by decide) (by decide)⟩
theorem zra_fault {m : zMem} {ch : Nat → Int32} {n : Nat} {K : Int32 → zMem → Prop} (hM : zRM m) (hB : zPB m ch n) (h : ∀ m2, zRM m2 → zFR m2 m → K (zfa (zpF (zT ch n) n 81 0)) m2) : fX8_fault 529 m K := by
  unfold fX8_fault fX8_fault_15
  refine zr_faultOf hB (fun e m2 p o ho s => ?_) (fun p e hp m2 p2 o ho s => ?_)
  · obtain ⟨a, b⟩ := zPS_M hM s
    have := h m2 a b
    rw [e] at this
    exact ⟨fun g => absurd g (by decide), fun _ => this⟩
  · obtain ⟨a, b⟩ := zPS_M hM s
    have := h m2 a b
    rw [e] at this
    exact ⟨fun _ => this, fun g => absurd (nI_pos' (by omega)) g⟩
theorem zr_does {d : Nat} {m : zMem} (hd : d ≤ 40) (hI : zRI (m 530)) : zAct (fX8_does 529 (nI d) m) m := by
  intro K h
  unfold fX8_does fX8_does_162
  intro x1 e1
  have e1 : x1 = nI (4 * d) := by rw [e1, zq4, pk_mul]
  have i1 : ∀ x : Int32, x = x1 + (1 : Int32) → vp_in x 164 := fun x e => by rw [e, e1, zq1, nI_add]; exact vp_in_nI (by omega) (by decide)
  have i2 : ∀ x : Int32, x = x1 + (2 : Int32) → vp_in x 164 := fun x e => by rw [e, e1, zq2, nI_add]; exact vp_in_nI (by omega) (by decide)
  have i3 : ∀ x : Int32, x = x1 + (3 : Int32) → vp_in x 164 := fun x e => by rw [e, e1, zq3, nI_add]; exact vp_in_nI (by omega) (by decide)
  refine ⟨by rw [e1]; exact vp_in_nI (by omega) (by decide), fun x3 e3 => ⟨fun _ x5 e5 => ⟨i3 _ e5, fun x7 e7 => ⟨fun _ x9 e9 => ⟨i1 _ e9, fun x11 e11 => zr_comes hI _ h⟩, fun _ x14 e14 => ⟨i1 _ e14, fun x16 e16 x17 e17 => ⟨i2 _ e17, fun x19 e19 => zr_buys hI _ h⟩⟩⟩⟩, fun _ => ⟨fun _ => zr_cooks hI _ h, fun _ => ⟨fun _ x26 e26 => ⟨i1 _ e26, fun x28 e28 x29 e29 => ⟨i3 _ e29, fun x31 e31 x32 e32 => ⟨i2 _ e32, fun x34 e34 => zr_ordersOf hI _ h⟩⟩⟩, fun _ => ⟨fun _ => zr_comesHere hI _ h, fun _ => ⟨fun _ x41 e41 => ⟨i1 _ e41, fun x43 e43 x44 e44 => ⟨i2 _ e44, fun x46 e46 => zr_gets hI _ h⟩⟩, fun _ => zr_closes hI _ h⟩⟩⟩⟩⟩⟩
theorem zra_carryOut {m : zMem} {ch : Nat → Int32} {n : Nat} {K : Int32 → zMem → Prop} (hM : zRM m) (hB : zPB m ch n) (h1 : zpF (zT ch n) n 81 0 = none → ∀ r m2, zRM m2 → (∀ a, a < 529 → m2 a = m a) → m2 529 7 = nI 0 → m2 536 = m 536 → K r m2) (h0 : zpF (zT ch n) n 81 0 ≠ none → ∀ r m2, zRM m2 → zFR m2 m → K r m2) : fX8_carryOut 529 m K := by
  unfold fX8_carryOut
  refine zr_faultOf hB (fun e m2 p o ho s => ⟨fun _ => ?_, fun g => absurd (by decide) g⟩) (fun p e hp m2 p2 o ho s => ⟨fun g => absurd g (nI_pos (by omega)), fun _ => ?_⟩)
  · obtain ⟨M2, F2⟩ := zPS_M hM s
    refine zr_holdM M2.1 (fun m3 h30 h31 f3 => ?_)
    have Q : ∀ (v : Int32) (μ : zMem), zRI (μ 530) → zF530 μ m3 → fX8_carryOut_59 K 529 v μ := by
      intro v μ q30 qf
      unfold fX8_carryOut_59
      intro m4 e4
      have M4 : zRM (z_up m2 529 7 0) := by
        obtain ⟨a1, a2, a3, a4, S, a5, a6⟩ := M2
        exact ⟨by rw [zu_ne (by decide)]; exact a1, by rw [zu_ne (by decide)]; exact a2, by rw [zu_ne (by decide)]; exact a3, by rw [zu_ne (by decide)]; exact a4, S, a5, by rw [zu_same, z_upd_ne (by decide)]; exact a6⟩
      refine zr_rec (m := z_up m2 529 7 0) (by rw [e4, zu_ne (by decide)]; exact q30) (by rw [e4, zu_ne (by decide), qf 531 (by decide)]; exact h31) M4 (fun a ha hb => ?_) (fun r m5 M5 F5 => h1 e r m5 M5 (fun a ha => ?_) ?_ ?_)
      · rw [e4]
        by_cases e : a = 529
        · subst e
          rw [zu_same, zu_same, qf 529 (by decide), f3 529 (by decide)]
        · rw [zu_ne e, zu_ne e, qf a ha, f3 a hb]
      · rw [F5.1 a ha, zu_ne (by omega), F2.1 a ha]
      · rw [F5.2.1, zu_same, z_upd_same]; rfl
      · rw [F5.2.2, zu_ne (by decide), F2.2.2]
    have h9 : ∀ μ : zMem, zF530 μ m3 → μ 529 9 = nI o := fun μ g => by rw [g 529 (by decide), f3 529 (by decide)]; exact s.2.2.1
    have L : ∀ (N d : Nat) (v2 : Int32) (μ : zMem), d ≤ o → o - d + 2 < N → zRI (μ 530) → zF530 μ m3 → fX8_carryOut_18 K 529 N (nI d) v2 μ := by
      intro N
      induction N with
      | zero => intro d v2 μ g1 g2; omega
      | succ N ih =>
        intro d v2 μ g1 g2 g3 g4
        show fX8_carryOut_18b (fX8_carryOut_18 K 529 N) K 529 (nI d) v2 μ
        unfold fX8_carryOut_18b fX8_carryOut_43 fX8_carryOut_54
        rw [h9 μ g4]
        refine ⟨fun _ => Q _ μ g3 g4, fun _ => ⟨fun _ => Q _ μ g3 g4, fun c => ?_⟩⟩
        have hd : d < o := Nat.lt_of_not_le (fun g => c ((nI_leI (by omega) (by omega)).mpr g))
        refine zr_does (by omega) g3 _ (fun r m5 f5 g5 => ?_)
        have f5' : zF530 m5 m3 := fun a ha => by rw [f5 a ha]; exact g4 a ha
        refine ⟨fun _ => ⟨fun _ x1 e1 => ?_, fun g => absurd rfl g⟩, fun _ => ⟨fun g => absurd g (by decide), fun _ x1 e1 => ?_⟩⟩
        · obtain ⟨N, rfl⟩ : ∃ N', N = N' + 1 := ⟨N - 1, by omega⟩
          show fX8_carryOut_18b (fX8_carryOut_18 K 529 N) K 529 x1 0 m5
          unfold fX8_carryOut_18b
          exact ⟨fun _ => Q _ m5 g5 f5', fun g => absurd rfl g⟩
        · rw [e1, nI_1]
          exact ih (d + 1) _ m5 (by omega) (by omega) g5 f5'
    exact L zFU 0 _ m3 (by omega) (by unfold zFU; omega) h30 (fun _ _ => rfl)
  · obtain ⟨M2, F2⟩ := zPS_M hM s
    exact h0 (by rw [e]; exact fun g => nomatch g) _ m2 M2 F2
theorem zra_wipe {m : zMem} {K : Int32 → zMem → Prop} (hM : zRM m) (h : ∀ m2, zRM m2 → (∀ a, a < 529 → m2 a = m a) → m2 529 7 = nI 0 → m2 536 = m 536 → K (m 529 7) m2) : fX8_wipe 529 m K := by
  unfold fX8_wipe
  intro m1 e1
  obtain ⟨a1, a2, a3, a4, S, a5, a6⟩ := hM
  refine h m1 ⟨by rw [e1, zu_ne (by decide)]; exact a1, by rw [e1, zu_ne (by decide)]; exact a2, by rw [e1, zu_ne (by decide)]; exact a3, by rw [e1, zu_ne (by decide)]; exact a4, S, a5, by rw [e1, zu_same, z_upd_ne (by decide)]; exact a6⟩ (fun a ha => by rw [e1, zu_ne (by omega)]) (by rw [e1, zu_same, z_upd_same]; rfl) (by rw [e1, zu_ne (by decide)])
theorem zRI_z : zRI (fun _ => 0) := ⟨0, 0, 0, 0, 0, by decide, rfl, rfl, rfl, rfl, rfl, fun d hd => ⟨0, 0, 0, 0, 0, rfl, rfl, rfl, rfl, rfl, rfl, by decide, fun _ => rfl⟩, fun i hi => ⟨fun k hk => ⟨0, by decide, rfl⟩, 0, 0, 0, rfl, rfl, rfl, by decide, by decide, by decide⟩⟩
theorem zRM1 : zRM zM1 := by
  refine ⟨⟨0, 0, 0, 1, 4, by decide, rfl, rfl, rfl, rfl, rfl, fun d hd => ?_, fun i hi => ?_⟩, zRI_z, fun k hk => zRI_z, fun k hk => zRI_z, 0, by decide, rfl⟩
  · have z : ∀ k, 23 ≤ k → k < 276 → zM1 530 k = nI 0 := fun k h1 h2 => by rw [zM1_530, zs1_0 k h2 h1]; rfl
    exact ⟨0, 0, 0, 0, 0, z _ (by omega) (by omega), z _ (by omega) (by omega), z _ (by omega) (by omega), z _ (by omega) (by omega), z _ (by omega) (by omega), rfl, by decide, fun _ => rfl⟩
  · have z : ∀ k, 23 ≤ k → k < 276 → zM1 530 k = nI 0 := fun k h1 h2 => by rw [zM1_530, zs1_0 k h2 h1]; rfl
    exact ⟨fun k hk => ⟨0, by decide, z _ (by omega) (by omega)⟩, 0, 0, 0, z _ (by omega) (by omega), z _ (by omega) (by omega), z _ (by omega) (by omega), by decide, by decide, by decide⟩
