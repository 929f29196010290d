/-! acts on today's canteen, as the object's own methods do them -/
def zH (μ : zMem) : Prop := ∃ N M, N ≤ 6 ∧ M ≤ 6 ∧ μ 53 1 = nI N ∧ μ 53 2 = nI M
def zT (n P D c : Nat) (μ : zMem) : Prop := zV n P D c c μ ∧ zH μ
theorem zx_keep0 {μ : zMem} {N M : Nat} {r : Int32} {K : Int32 → zMem → Prop} (hN : N ≤ 6) (hM : M ≤ 6) (h1 : μ 53 1 = nI N) (h2 : μ 53 2 = nI M) (hK : ∀ (m : zMem) (N2 M2 : Nat), N2 ≤ 6 → M2 ≤ 6 → m 53 1 = nI N2 → m 53 2 = nI M2 → (0 ≤ r → 1 ≤ M2 ∧ N2 = if N = 6 then 0 else N + 1) → (∀ a, a ≠ 53 → m a = μ a) → K r m) : fX2_keep 53 r μ K := by
  unfold fX2_keep fX2_keep_24 fX2_keep_42
  refine ⟨fun g => hK μ N M hN hM h1 h2 (fun z => absurd g (Int32.not_lt.mpr z)) (fun _ _ => rfl), fun _ => ⟨fun c x7 e7 m1 e1 x2 e2 x3 e3 m4 e4 => ?_, fun c m1 e1 x2 e2 x3 e3 m4 e4 => ?_⟩⟩
  · have h6 : N ≠ 6 := fun e => c (by rw [h1, e]; rfl)
    have q2 : m1 53 2 = nI M := by rw [e1, zu_same, z_upd_ne (by decide)]; exact h2
    rw [q2, nI_1] at e2
    rw [e2, show (6 : Int32) = nI 6 from rfl, zn_min (by decide) (by omega)] at e3
    refine hK m4 (N + 1) (min 6 (M + 1)) (by omega) (by omega) ?_ ?_ (fun _ => ⟨by omega, by rw [if_neg h6]⟩) (fun a ha => by rw [e4, zu_ne ha, e1, zu_ne ha])
    · rw [e4, zu_same, z_upd_ne (by decide), e1, zu_same, z_upd_same, e7, h1]
      exact nI_1 N
    · rw [e4, zu_same, z_upd_same, e3]
  · have h6 : N = 6 := zn_inj (by omega) (by decide) (h1.symm.trans (c.trans rfl))
    have q2 : m1 53 2 = nI M := by rw [e1, zu_same, z_upd_ne (by decide)]; exact h2
    rw [q2, nI_1] at e2
    rw [e2, show (6 : Int32) = nI 6 from rfl, zn_min (by decide) (by omega)] at e3
    refine hK m4 0 (min 6 (M + 1)) (by omega) (by omega) ?_ ?_ (fun _ => ⟨by omega, by rw [if_pos h6]⟩) (fun a ha => by rw [e4, zu_ne ha, e1, zu_ne ha])
    · rw [e4, zu_same, z_upd_ne (by decide), e1, zu_same, z_upd_same]
      rfl
    · rw [e4, zu_same, z_upd_same, e3]
theorem zx_keep {m μ : zMem} {r : Int32} {K : Int32 → zMem → Prop} (hH : zH μ) (e : m 53 = μ 53) (h : ∀ m5 : zMem, (∀ a, a ≠ 53 → m5 a = m a) → zH m5 → K r m5) : fX2_keep 53 r m K := by
  obtain ⟨N, M, h1, h2, h3, h4⟩ := hH
  exact zx_keep0 h1 h2 (by rw [e]; exact h3) (by rw [e]; exact h4) (fun m5 N2 M2 a1 a2 a3 a4 _ a6 => h m5 a6 ⟨N2, M2, a1, a2, a3, a4⟩)
theorem zx_note {n P D c ee : Nat} {μ : zMem} {K : zMem → Prop} (hV : zV n P D c ee μ) (hH : zH μ) (h : ∀ m2 : zMem, (∀ a, a < 55 ∨ 419 ≤ a → m2 a = μ a) → K m2) : fX2_note 53 1 μ K := by
  obtain ⟨N, M, h1, h2, h3, h4⟩ := hH
  exact zs_note h1 h3 (zV_can hV) (fun m hf _ => h m (fun a ha => hf a (by omega)))
/-- an act that has done nothing -/
theorem zT_no {n P D c : Nat} {m m2 μ : zMem} (hT : zT n P D c μ) (h2 : ∀ a, a < 55 ∨ 419 ≤ a → m2 a = μ a) (h5 : ∀ a, a ≠ 53 → m a = m2 a) (hH : zH m) : zT n P D c m :=
  ⟨zV_cg hT.1 (fun a h1 h3 => by rw [h5 a (by omega), h2 a (by omega)]), hH⟩
theorem zVof {n P D c ee : Nat} {m2 μ : zMem} (hV : zV n P D c ee μ) (h2 : ∀ a, a < 55 ∨ 419 ≤ a → m2 a = μ a) : zV n P D c ee m2 := zV_cg hV (fun a _ h3 => h2 a (by omega))
theorem zVof5 {n P D c ee : Nat} {m m5 : zMem} (hV : zV n P D c ee m) (h5 : ∀ a, a ≠ 53 → m5 a = m a) : zV n P D c ee m5 := zV_cg hV (fun a _ h3 => h5 a (by omega))
theorem zx_vouchers {n P D c j a v q : Nat} {μ : zMem} {K : Int32 → zMem → Prop} (hT : zT n P D c μ) (hj : j < P) (ha : 1 ≤ a ∧ a ≤ 30) (hv : v ≤ 30) (ev : μ (5 + 3 * j) 2 = nI v)
    (h : ∀ m5 : zMem, zT n P D c m5 → m5 (5 + 3 * j) 2 = nI (min 30 (v + a)) → (∀ x, 419 ≤ x → m5 x = μ x) → K (nI (min 30 (v + a))) m5) : fX7_vouchers q (nI j) (nI a) μ K := by
  have hP := hT.1.1.1
  unfold fX7_vouchers
  refine zx_note hT.1 hT.2 (fun m2 h2 => ?_)
  have hV2 := zVof hT.1 h2
  unfold fX0_giveVouchers
  refine zx_hasP hV2 hj ⟨fun _ => ?_, fun g => absurd g (by decide)⟩
  refine (pk_lt a 1 (fun g => absurd g (by omega)) (fun _ => pk_le a 30 (fun _ => ⟨vp_in_nI (by omega) (by decide), fun q7 e7 => ?_⟩) (fun g => absurd g (by omega))))
  rw [zq_p (by omega) e7]
  refine zx_receive ?_
  rw [h2 (5 + 3 * j) (by omega), ev, nI_add, show (30 : Int32) = nI 30 from rfl, zn_min (by decide) (by omega)]
  refine zx_keep hT.2 (by rw [zu_ne (by omega), h2 53 (by omega)]) (fun m5 h5 hH5 => h m5 ⟨?_, hH5⟩ ?_ (fun x hx => by rw [h5 x (by omega), zu_ne (by omega), h2 x (by omega)]))
  · refine zVof5 (zV_per hV2 hj (fun x h3 h4 h6 => zu_ne h3) ?_ ?_) h5
    · have hp := hV2.2.2.1 j hj
      rw [zu_same, zu_ne (by omega), zu_ne (by omega)]
      exact ⟨⟨_, Nat.min_le_left _ _, z_upd_same⟩, by rw [z_upd_ne (by decide), z_upd_ne (by decide), z_upd_ne (by decide)]; exact hp.2.1, by rw [z_upd_ne (by decide)]; exact hp.2.2.1, hp.2.2.2⟩
    · rw [zu_same, z_upd_ne (by decide)]
  · rw [h5 _ (by omega), zu_same, z_upd_same]
theorem zx_set {n P D c w x q : Nat} {μ : zMem} {K : Int32 → zMem → Prop} (hT : zT n P D c μ) (hw : w < 4) (hx : (w = 0 ∧ x ≤ 9) ∨ (w = 1 ∧ x ≤ 20) ∨ (w = 2 ∧ 1 ≤ x ∧ x ≤ 9) ∨ (w = 3 ∧ 1 ≤ x ∧ x ≤ 20))
    (h : ∀ m5 : zMem, zT n P D c m5 → m5 2 w = nI x → (∀ a, a ≠ 2 → a < 53 ∨ 419 ≤ a → m5 a = μ a) → K (μ 2 w) m5) : fX7_set q (nI w) (nI x) μ K := by
  unfold fX7_set
  refine zx_note hT.1 hT.2 (fun m2 h2 => ?_)
  have hV2 := zVof hT.1 h2
  unfold fX0_changeSetting fX0_changeSetting_30
  have cw : (nI w).toNatClampNeg = w := nI_clamp (by omega)
  refine pk_lt w 0 (fun g => absurd g (by omega)) (fun _ => pk_lt w 4 (fun _ => ⟨vp_in_nI hw (by decide), fun x4 e4 => ?_⟩) (fun g => absurd g (by omega)))
  rw [cw] at e4
  have e4' : x4 = nI (if w = 0 then 0 else if w = 1 then 0 else 1) := by
    rw [e4]
    rcases (show w = 0 ∨ w = 1 ∨ w = 2 ∨ w = 3 by omega) with rfl | rfl | rfl | rfl <;> rfl
  refine pk_lt (y := x4) x (if w = 0 then 0 else if w = 1 then 0 else 1) (fun g => ?_) (fun _ => ⟨vp_in_nI hw (by decide), fun x7 e7 => ?_⟩) rfl e4' (by omega) (by split <;> (try split) <;> decide)
  · exfalso
    rcases hx with ⟨rfl, hx⟩ | ⟨rfl, hx⟩ | ⟨rfl, hx⟩ | ⟨rfl, hx⟩ <;> simp at g <;> omega
  rw [cw] at e7
  have e7' : x7 = nI (if w = 0 then 9 else if w = 1 then 20 else if w = 2 then 9 else 20) := by
    rw [e7]
    rcases (show w = 0 ∨ w = 1 ∨ w = 2 ∨ w = 3 by omega) with rfl | rfl | rfl | rfl <;> rfl
  refine pk_le (y := x7) x (if w = 0 then 9 else if w = 1 then 20 else if w = 2 then 9 else 20) (fun _ => ⟨vp_in_nI hw (by decide), fun x10 e10 => ⟨vp_in_nI hw (by decide), fun m12 e12 => ?_⟩⟩) (fun g => ?_) rfl e7' (by omega) (by split <;> (try split) <;> (try split) <;> decide)
  · rw [cw] at e10 e12
    have g2 : m2 (1 + 1) = μ 2 := h2 2 (by omega)
    rw [g2] at e10
    rw [e10]
    refine zx_keep hT.2 (by rw [e12, zu_ne (by decide), h2 53 (by omega)]) (fun m5 h5 hH5 => h m5 ⟨?_, hH5⟩ ?_ (fun a ha hb => by rw [h5 a (by omega), e12, zu_ne ha, h2 a (by omega)]))
    · refine zVof5 ?_ h5
      obtain ⟨⟨a1, a2, a3, a4, a5, a6, a7⟩, ⟨b1, b2, b3, b4⟩, a9, a10, a11⟩ := hV2
      have ne : ∀ a, a ≠ 2 → m12 a = m2 a := fun a ha => by rw [e12, zu_ne ha]
      refine ⟨⟨a1, a2, a3, a4, by rw [ne 1 (by decide)]; exact a5, by rw [ne 1 (by decide)]; exact a6, by rw [ne 1 (by decide)]; exact a7⟩, ?_, fun i hi => ?_, fun d hd => ?_, ?_⟩
      · have e2 : m12 2 = upd (m2 2) w (nI x) := by rw [e12]; exact zu_same
        rw [e2]
        unfold zSe
        rcases hx with ⟨rfl, hx⟩ | ⟨rfl, hx⟩ | ⟨rfl, hx⟩ | ⟨rfl, hx⟩
        · exact ⟨⟨x, hx, z_upd_same⟩, b2, b3, b4⟩
        · exact ⟨b1, ⟨x, hx, z_upd_same⟩, b3, b4⟩
        · exact ⟨b1, b2, ⟨x, hx.1, hx.2, z_upd_same⟩, b4⟩
        · exact ⟨b1, b2, b3, ⟨x, hx.1, hx.2, z_upd_same⟩⟩
      · rw [ne _ (by omega), ne (6 + 3 * i) (by omega), ne (7 + 3 * i) (by omega)]
        exact a9 i hi
      · rw [ne _ (by omega), ne (48 + 2 * d) (by omega)]
        exact a10 d hd
      · rw [ne 47 (by decide), ne 49 (by decide), ne 51 (by decide), ← a11]
        exact zSum_cg (fun i hi => by rw [ne _ (by omega)])
    · rw [h5 2 (by decide), e12]
      show z_up m2 2 w (nI x) 2 w = _
      rw [zu_same, z_upd_same]
  · exfalso
    rcases hx with ⟨rfl, hx⟩ | ⟨rfl, hx⟩ | ⟨rfl, hx⟩ | ⟨rfl, hx⟩ <;> simp at g <;> omega
theorem zx_price {n P D c w d x q : Nat} {μ : zMem} {K : Int32 → zMem → Prop} (hT : zT n P D c μ) (hw : w < 5) (hd : d < 3) (hx : 1 ≤ x ∧ x ≤ 3)
    (h : ∀ m5 : zMem, zT n P D c m5 → m5 (48 + 2 * d) w = nI x → K (μ (48 + 2 * d) w) m5) : fX7_price q (nI w) (nI d) (nI x) μ K := by
  unfold fX7_price
  refine zx_note hT.1 hT.2 (fun m2 h2 => ?_)
  have hV2 := zVof hT.1 h2
  unfold fX0_changePrice
  have cw : (nI w).toNatClampNeg = w := nI_clamp (by omega)
  refine pk_lt w 0 (fun g => absurd g (by omega)) (fun _ => pk_le 5 w (fun g => absurd g (by omega)) (fun _ => zx_hasD hd ⟨fun _ => ?_, fun g => absurd g (by decide)⟩))
  refine pk_lt x 1 (fun g => absurd g (by omega)) (fun _ => pk_le x 3 (fun _ => ⟨vp_in_nI hd (by decide), fun q9 e9 => ⟨vp_in_nI hw (by decide), fun x11 e11 => ⟨vp_in_nI hd (by decide), fun q13 e13 => ⟨vp_in_nI hw (by decide), fun m15 e15 => ?_⟩⟩⟩⟩) (fun g => absurd g (by omega)))
  rw [cw, zq_d hd e9, show 47 + 2 * d + 1 = 48 + 2 * d by omega, h2 _ (by omega)] at e11
  rw [cw, zq_d hd e13, show 47 + 2 * d + 1 = 48 + 2 * d by omega] at e15
  rw [e11]
  refine zx_keep hT.2 (by rw [e15, zu_ne (by omega), h2 53 (by omega)]) (fun m5 h5 hH5 => h m5 ⟨?_, hH5⟩ (by rw [h5 _ (by omega), e15, zu_same, z_upd_same]))
  refine zVof5 ?_ h5
  obtain ⟨⟨a1, a2, a3, a4, a5, a6, a7⟩, b1, a9, a10, a11⟩ := hV2
  have ne : ∀ a, a ≠ 48 + 2 * d → m15 a = m2 a := fun a ha => by rw [e15, zu_ne ha]
  refine ⟨⟨a1, a2, a3, a4, by rw [ne 1 (by omega)]; exact a5, by rw [ne 1 (by omega)]; exact a6, by rw [ne 1 (by omega)]; exact a7⟩, by rw [ne 2 (by omega)]; exact b1, fun i hi => ?_, fun y hy => ?_, ?_⟩
  · rw [ne _ (by omega), ne (6 + 3 * i) (by omega), ne (7 + 3 * i) (by omega)]
    exact a9 i hi
  · rw [ne _ (by omega)]
    by_cases e : y = d
    · subst e
      obtain ⟨c1, c2, c3⟩ := a10 y hy
      refine ⟨c1, c2, fun z hz => ?_⟩
      rw [e15, zu_same]
      by_cases ez : z = w
      · subst ez
        exact ⟨x, hx.1, hx.2, z_upd_same⟩
      · rw [z_upd_ne ez]
        exact c3 z hz
    · rw [ne (48 + 2 * y) (by omega)]
      exact a10 y hy
  · rw [ne 47 (by omega), ne 49 (by omega), ne 51 (by omega), ← a11]
    exact zSum_cg (fun i hi => by rw [ne _ (by omega)])
