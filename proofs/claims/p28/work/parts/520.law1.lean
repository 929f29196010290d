/-! the law's acts -/
theorem zT_up {n P D c : Nat} {μ : zMem} (hn : n + 1 ≤ 60) (h : zT n P D c μ) : zT (n + 1) P D c μ := ⟨zV_up hn h.1, h.2⟩
theorem zn_neg5 (v : Nat) : nI v - (-5 : Int32) = nI v + 5 := by
  rw [Int32.sub_eq_add_neg]
  rfl
theorem za_c0 {n P D c : Nat} {μ : zMem} {K : Int32 → zMem → Prop} (hT : zT n P D c μ) (hP2 : 2 ≤ P) (hn : n + 1 ≤ 60) (h : ∀ (P' D' c' : Nat) (m5 : zMem), 2 ≤ P' → zT (n + 1) P' D' c' m5 → K 1 m5) : fL_acts_124 K 0 (nI P) μ := by
  unfold fL_acts_124 fL_acts_184
  refine zx_person hT (fun m5 hP hT5 e2 _ _ _ _ => ?_) (fun m5 hP hT5 => ?_)
  · refine (pk_eq P 14 (fun g => absurd g (by omega)) (fun _ => ⟨fun g => absurd rfl g, fun _ => ?_⟩)).symm
    refine zx_of0 hT5.1 (Nat.lt_succ_self P) ?_
    rw [e2]
    refine ⟨fun g => absurd rfl g, fun _ => zx_cnt1 hT5.1 (fun x10 e10 => ?_)⟩
    rw [nI_1] at e10
    rw [e10]
    exact ⟨fun g => absurd rfl g, fun _ => ⟨z_b1, h _ _ _ m5 (by omega) (zT_up hn hT5)⟩⟩
  · subst hP
    exact ⟨fun g => absurd rfl g, fun _ => ⟨fun g => absurd rfl g, fun _ => ⟨z_b1, h _ _ _ m5 hP2 (zT_up hn hT5)⟩⟩⟩
theorem za_c1 {n P D c j v a : Nat} {μ : zMem} {K : Int32 → zMem → Prop} (hT : zT n P D c μ) (hP2 : 2 ≤ P) (hn : n + 1 ≤ 60) (ha : a < 2 ^ 31) (hj : j < P) (hv : v ≤ 30) (ev : μ (5 + 3 * j) 2 = nI v) (h : ∀ (P' D' c' : Nat) (m5 : zMem), 2 ≤ P' → zT (n + 1) P' D' c' m5 → K 1 m5) : fL_acts_185 K 0 (nI a) (nI P) (nI j) (nI v) μ := by
  have hP14 := hT.1.1.1
  unfold fL_acts_185 fL_acts_245 fL_acts_253
  intro x14 e14 x15 e15 x16 e16
  rw [pk_shrN ha _ 8 (by decide)] at e14
  have h8 : a / 2 ^ 8 < 2 ^ 31 := Nat.lt_of_le_of_lt (Nat.div_le_self _ _) ha
  have h30 : a / 2 ^ 8 % 30 < 30 := Nat.mod_lt _ (by decide)
  rw [e14, show (30 : Int32) = nI 30 from rfl, pk_rem h8 (by decide) (by decide)] at e15
  rw [e15, show (1 : Int32) = nI 1 from rfl, nI_add] at e16
  rw [e16]
  refine zx_vouchers hT hj ⟨by omega, by omega⟩ hv ev (fun m5 hT5 _ _ => ⟨fun _ x20 e20 => ?_, fun g => absurd g (nI_ne0 (by omega) (by omega))⟩)
  rw [nI_add] at e20
  rw [e20]
  have fin := h _ _ _ m5 hP2 (zT_up hn hT5)
  refine pk_le (v + (1 + a / 2 ^ 8 % 30)) 30 (fun g x22 e22 => ?_) (fun g => ?_)
  · rw [nI_add] at e22
    rw [e22, Nat.min_eq_right g]
    exact ⟨fun z => absurd rfl z, fun _ => ⟨z_b1, fin⟩⟩
  · rw [Nat.min_eq_left (by omega)]
    exact ⟨fun z => absurd rfl z, fun _ => ⟨z_b1, fin⟩⟩
theorem za_c2 {n P D c j k d v : Nat} {μ : zMem} {K : Int32 → zMem → Prop} (hT : zT n P D c μ) (hP2 : 2 ≤ P) (hn : n + 1 ≤ 60) (hj : j < P) (hk : k < 5) (hd : d < 3) (hv : v ≤ 30) (ev : μ (5 + 3 * j) 2 = nI v) (h : ∀ (P' D' c' : Nat) (m5 : zMem), 2 ≤ P' → zT (n + 1) P' D' c' m5 → K 1 m5) : fL_acts_254 K 0 (nI P) (nI j) (nI d) (nI k) (nI v) μ := by
  have hP14 := hT.1.1.1
  have hz := zwy_le μ D j k d
  unfold fL_acts_254 fL_acts_375
  refine zx_why hT.1 hj hk hd (zx_order hT hj hk hd (fun hz0 m5 hT5 x28 e28 => ⟨fun _ => ?_, fun g => absurd g (nI_ne0 (by omega) (by omega))⟩) (fun v' p m5 hz0 hv' hp1 hp3 hpv ev' hT5 ed ef x28 e28 => ⟨fun _ => ?_, fun g => absurd g (nI_ne0 (by omega) (by omega))⟩))
  · rw [zn_neg5] at e28
    refine pk_le (zwy μ D j k d) 0 (fun g => absurd g (by omega)) (fun _ x41 e41 => ?_)
    rw [e28, e41]
    exact ⟨fun g => absurd rfl g, fun _ => ⟨z_b1, h _ _ _ m5 hP2 (zT_up hn hT5)⟩⟩
  · have e : v' = v := zn_inj (by omega) (by omega) (ev'.symm.trans ev)
    subst e
    rw [pk_sub (by omega), show v' - (v' - p) = p by omega] at e28
    rw [e28]
    refine pk_le (zwy μ D j k d) 0 (fun _ => ?_) (fun g => absurd g (by omega))
    refine pk_lt p 1 (fun g => absurd g (by omega)) (fun _ => pk_lt 3 p (fun g => absurd g (by omega)) (fun _ => zx_ordered hT5.1 hk hd (fun x35 e35 x36 e36 => ?_)))
    rw [e35] at e36
    unfold zod at e36
    rw [zn_mk hP14 (by omega), if_pos ⟨hj, by simp only [ed, decide_true]⟩] at e36
    rw [e36]
    refine ⟨fun g => absurd rfl g, fun _ => zx_why hT5.1 hj hk (by decide : 0 < 3) ?_⟩
    have e3 : zwy m5 D j k 0 = 3 := by
      have e5 : m5 1 5 = μ 1 5 := by rw [hT5.1.1.2.2.2.2.2.2, hT.1.1.2.2.2.2.2.2]
      unfold zwy at hz0 ⊢
      rw [e5, ef, ed]
      by_cases q1 : k = 0 ∧ ¬ μ 1 5 = 0
      · rw [if_pos q1] at hz0
        cases hz0
      · rw [if_neg q1] at hz0 ⊢
        by_cases q2 : ¬ μ (5 + 3 * j) 4 ≤ nI (D + k)
        · rw [if_pos q2] at hz0
          cases hz0
        · rw [if_neg q2, if_pos (zn_m6 (by omega))]
    rw [e3]
    exact ⟨fun g => absurd rfl g, fun _ => ⟨z_b1, h _ _ _ m5 hP2 (zT_up hn hT5)⟩⟩
theorem za_c5 {n P D c j k v : Nat} {μ : zMem} {K : Int32 → zMem → Prop} (hT : zT n P D c μ) (hP2 : 2 ≤ P) (hn : n + 1 ≤ 60) (hj : j < P) (hk : k < 5) (hv : v ≤ 30) (ev : μ (5 + 3 * j) 2 = nI v) (h : ∀ (P' D' c' : Nat) (m5 : zMem), 2 ≤ P' → zT (n + 1) P' D' c' m5 → K 1 m5) : fL_acts_376 K 0 (nI P) (nI j) (nI k) (nI v) μ := by
  have hP14 := hT.1.1.1
  have hk4 : k % 4 < 4 := Nat.mod_lt _ (by decide)
  have ex : ∀ x47 x48 : Int32, x47 = nI k - nI k / (4 : Int32) * (4 : Int32) → x48 = (1 : Int32) + x47 → x48 = nI (1 + k % 4) := fun x47 x48 e1 e2 => by
    rw [show (4 : Int32) = nI 4 from rfl, pk_rem (by omega) (by decide) (by decide)] at e1
    rw [e1, show (1 : Int32) = nI 1 from rfl, nI_add] at e2
    exact e2
  have bit : ∀ (m : zMem) (x : Int32), x = (nI (zdy m j) >>> (nI (1 + k % 4) &&& 31)) &&& (1 : Int32) → (m (6 + 3 * j) (1 + k % 4) = (-6 : Int32) → x = 0) ∧ (¬ m (6 + 3 * j) (1 + k % 4) = (-6 : Int32) → x = 1) := fun m x e => by
    unfold zdy at e
    rw [zn_mk (by decide) (by omega)] at e
    refine ⟨fun g => ?_, fun g => ?_⟩
    · rw [e, if_neg (fun z => by have := z.2; simp [g] at this)]
      rfl
    · rw [e, if_pos ⟨by omega, by simp [g]⟩]
      rfl
  have g404 : ∀ f : Int32, ((f = 0 ∧ μ (6 + 3 * j) (1 + k % 4) = (-6 : Int32)) ∨ (f = 1 ∧ ¬ μ (6 + 3 * j) (1 + k % 4) = (-6 : Int32))) → fL_acts_404 K 0 (nI P) (nI j) (nI k) (nI v) f μ := by
    intro f hf
    unfold fL_acts_404 fL_acts_496
    intro x47 e47 x48 e48
    rw [ex x47 x48 e47 e48]
    refine zx_callOff hT hj (by omega) (by omega) (fun g m5 hT5 => ⟨fun _ => ?_, fun g => absurd g (nI_ne0 (by omega) (by omega))⟩) (fun v' p m5 g hv' hp ev' hT5 e6 => ⟨fun _ => ?_, fun g => absurd g (nI_ne0 (by omega) (by omega))⟩)
    · rcases hf with ⟨hf, _⟩ | ⟨_, hf⟩
      · exact ⟨fun z => absurd hf z, fun _ => ⟨fun z => absurd rfl z, fun _ => ⟨z_b1, h _ _ _ m5 hP2 (zT_up hn hT5)⟩⟩⟩
      · exact absurd g hf
    · rcases hf with ⟨_, hf⟩ | ⟨hf, _⟩
      · exact absurd hf g
      · have e : v' = v := zn_inj (by omega) (by omega) (ev'.symm.trans ev)
        subst e
        refine ⟨fun _ => pk_lt (min 30 (v' + p)) v' (fun z => absurd z (by omega)) (fun _ x54 e54 => ?_), fun z => absurd (hf.symm.trans z) (by decide)⟩
        rw [show (3 : Int32) = nI 3 from rfl, nI_add] at e54
        rw [e54]
        refine pk_lt (v' + 3) (min 30 (v' + p)) (fun z => absurd z (by omega)) (fun _ => zx_of2 hT5.1 hj (fun x58 e58 x59 e59 x60 e60 x61 e61 => ?_))
        rw [ex x58 x59 e58 e59] at e60
        rw [e60] at e61
        have := (bit m5 x61 e61).1 e6
        exact ⟨fun z => absurd this z, fun _ => ⟨z_b1, h _ _ _ m5 hP2 (zT_up hn hT5)⟩⟩
  unfold fL_acts_376 fL_acts_403
  refine ⟨fun g => absurd g (nI_nle (by omega) (by omega)), fun _ => zx_of2 hT.1 hj (fun x68 e68 x69 e69 x70 e70 x71 e71 => ?_)⟩
  rw [ex x68 x69 e68 e69] at e70
  rw [e70] at e71
  by_cases g : μ (6 + 3 * j) (1 + k % 4) = (-6 : Int32)
  · have := (bit μ x71 e71).1 g
    exact ⟨fun _ => g404 0 (Or.inl ⟨rfl, g⟩), fun z => absurd (this.symm.trans z) (by decide)⟩
  · have := (bit μ x71 e71).2 g
    exact ⟨fun z => absurd this z, fun _ => g404 1 (Or.inr ⟨rfl, g⟩)⟩
theorem za_c6 {n P D c : Nat} {μ : zMem} {K : Int32 → zMem → Prop} (hT : zT n P D c μ) (hP2 : 2 ≤ P) (hn : n + 1 ≤ 60) (h : ∀ (P' D' c' : Nat) (m5 : zMem), 2 ≤ P' → zT (n + 1) P' D' c' m5 → K 1 m5) : fL_acts_497 K 0 (nI c) μ := by
  have hc1 := hT.1.1.2.2.2.1
  unfold fL_acts_497 fL_acts_569
  refine zx_dish7 (d := 0) hT.1 (by decide) (zx_dish7 (d := 1) hT.1 (by decide) (fun x77 e77 => zx_dish7 (d := 2) hT.1 (by decide) (fun x80 e80 => ?_)))
  refine zx_cook hT (fun hc m5 hT5 => ⟨fun g => absurd (zn_inj (by omega) (by decide) (g.trans rfl)) hc, fun _ => ⟨fun g => absurd rfl g, fun _ => ⟨z_b1, h _ _ _ m5 hP2 (zT_up hn hT5)⟩⟩⟩) (fun hc m5 hT5 => ⟨fun _ => ?_, fun g => absurd (by rw [hc]; rfl) g⟩)
  rw [if_pos hc, if_pos hc, nI_add] at e77
  rw [if_pos hc, e77, nI_add] at e80
  have e : x80 = nI (zps P μ 3) := by
    rw [e80]
    congr 1
    show _ = 0 + zpl P μ 0 + zpl P μ 1 + zpl P μ 2
    omega
  rw [e]
  exact ⟨fun g => absurd rfl g, fun _ => zx_cnt2 hT5.1 ⟨fun g => absurd rfl g, fun _ => ⟨z_b1, h _ _ _ m5 hP2 (zT_up hn hT5)⟩⟩⟩
