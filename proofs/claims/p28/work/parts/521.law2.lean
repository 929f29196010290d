/-! the law's acts, continued -/
theorem za_l697 {n P D c j v left : Nat} {vo tm told : Int32} {m5 : zMem} {K : Int32 → zMem → Prop} (hT5 : zT n P D c m5) (hj : j < P) (e1 : told = vo) (e5 : m5 (5 + 3 * j) 5 = tm + 1) (e3 : m5 (5 + 3 * j) 3 = 0) (e8 : m5 (5 + 3 * j) 8 = 1) (hl : left < 2 ^ 31) (hv : v < 2 ^ 31) (hle : left = 0 → ∃ v2, v ≤ v2 ∧ v2 ≤ 30 ∧ m5 (5 + 3 * j) 2 = nI v2) (h : K 1 m5) : fL_acts_697 K 0 (nI j) (nI v) (nI left) tm vo told m5 := by
  unfold fL_acts_697 fL_acts_749 fL_acts_754
  refine ⟨fun g => absurd e1 g, fun _ => zx_of5 hT5.1 hj (fun x92 e92 => ?_)⟩
  rw [e5, e92]
  refine ⟨fun g => absurd rfl g, fun _ => zx_of3 hT5.1 hj ?_⟩
  rw [e3]
  refine ⟨fun g => absurd rfl g, fun _ => zx_of7 hT5.1 hj ?_⟩
  rw [e8]
  refine ⟨fun g => absurd rfl g, fun _ => pk_lt 0 left (fun _ => ⟨z_b1, h⟩) (fun g => zx_of0 hT5.1 hj ?_)⟩
  obtain ⟨v2, k1, k2, k3⟩ := hle (by omega)
  rw [k3]
  exact pk_lt v2 v (fun g2 => absurd g2 (by omega)) (fun _ => ⟨z_b1, h⟩)
theorem za_c7 {n P D c j v : Nat} {μ : zMem} {K : Int32 → zMem → Prop} (hT : zT n P D c μ) (hP2 : 2 ≤ P) (hn : n + 1 ≤ 60) (hj : j < P) (hv : v ≤ 30) (ev : μ (5 + 3 * j) 2 = nI v) (h : ∀ (P' D' c' : Nat) (m5 : zMem), 2 ≤ P' → zT (n + 1) P' D' c' m5 → K 1 m5) : fL_acts_570 K 0 (nI P) (nI j) (nI v) (nI c) μ := by
  have hP14 := hT.1.1.1
  have hc1 := hT.1.1.2.2.2.1
  have hP0 : ¬ nI P = 0 := nI_ne0 (by omega) (by omega)
  have per := hT.1.2.2.1 j hj
  have l629 : ∀ (f : Int32) (left : Nat), ((f = 1 ∧ ¬ c = 0 ∧ μ (5 + 3 * j) 8 = 0 ∧ ¬ μ (6 + 3 * j) 0 = (-6 : Int32)) ∨ (f = 0 ∧ (c = 0 ∨ μ (6 + 3 * j) 0 = (-6 : Int32) ∨ ¬ μ (5 + 3 * j) 8 = 0))) → left < 2 ^ 31 → (∀ d, d < 3 → μ (6 + 3 * j) 0 = nI d → μ (47 + 2 * d) 1 + μ (47 + 2 * d) 2 = nI left) → fL_acts_629 K 0 (nI P) (nI j) (nI v) (μ (6 + 3 * j) 0) f (nI left) μ := by
    intro f left hf hl hlv
    unfold fL_acts_629 fL_acts_754
    refine zx_of5 hT.1 hj (zx_comeT hT hn hj (fun g m5 hT5 => ⟨fun _ => ?_, fun g => absurd g hP0⟩) (fun d w w2 m5 hc g8 hd ed hT5 e5 e3 e8 el k1 k2 k3 k4 => ⟨fun _ => ?_, fun g => absurd g hP0⟩) (fun d m5 hc g8 hd ed hT5 e5 e3 e8 el => ⟨fun _ => ?_, fun g => absurd g hP0⟩))
    · rcases hf with ⟨_, h1, h2, h3⟩ | ⟨hf, _⟩
      · rcases g with g | g | g
        · exact absurd g h1
        · exact absurd g h3
        · exact absurd h2 g
      · exact ⟨fun z => absurd hf z, fun _ => ⟨fun z => absurd rfl z, fun _ => ⟨z_b1, h _ _ _ m5 hP2 (zT_up hn hT5)⟩⟩⟩
    · have hf1 : f = 1 := by
        rcases hf with ⟨hf, _⟩ | ⟨_, g | g | g⟩
        · exact hf
        · exact absurd g hc
        · rw [g] at ed
          exact absurd ed.symm (zn_m6 (by omega))
        · exact absurd g8 g
      have hw : w = v := zn_inj (by omega) (by omega) (k3.symm.trans ev)
      have h0 : left = 0 := zn_inj hl (by decide) (((hlv d hd ed).symm.trans el).trans rfl)
      refine ⟨fun _ => pk_le left 0 (fun _ => ?_) (fun z => absurd z (by omega)), fun z => absurd (hf1.symm.trans z) (by decide)⟩
      exact za_l697 hT5 hj rfl e5 e3 e8 hl (by omega) (fun _ => ⟨w2, by omega, k2, k4⟩) (h _ _ _ m5 hP2 hT5)
    · have hf1 : f = 1 := by
        rcases hf with ⟨hf, _⟩ | ⟨_, g | g | g⟩
        · exact hf
        · exact absurd g hc
        · rw [g] at ed
          exact absurd ed.symm (zn_m6 (by omega))
        · exact absurd g8 g
      have h0 : ¬ left = 0 := fun z => el (by rw [hlv d hd ed, z]; rfl)
      refine ⟨fun _ => pk_le left 0 (fun z => absurd z (by omega)) (fun _ => ?_), fun z => absurd (hf1.symm.trans z) (by decide)⟩
      exact za_l697 hT5 hj ed.symm e5 e3 e8 hl (by omega) (fun z => absurd z h0) (h _ _ _ m5 hP2 hT5)
  have l603 : ∀ f : Int32, ((f = 1 ∧ ¬ c = 0 ∧ μ (5 + 3 * j) 8 = 0 ∧ ¬ μ (6 + 3 * j) 0 = (-6 : Int32)) ∨ (f = 0 ∧ (c = 0 ∨ μ (6 + 3 * j) 0 = (-6 : Int32) ∨ ¬ μ (5 + 3 * j) 8 = 0))) → fL_acts_603 K 0 (nI P) (nI j) (nI v) (μ (6 + 3 * j) 0) f μ := by
    intro f hf
    unfold fL_acts_603
    rcases per.2.2.2.1 0 (by decide) with e | ⟨d, hd, e⟩
    · refine ⟨fun g => absurd g (by rw [e]; decide), fun _ => ?_⟩
      exact l629 f 0 hf (by decide) (fun d hd ed => absurd (e.symm.trans ed).symm (zn_m6 (by omega)))
    · obtain ⟨⟨k, r, hk, hr, ek, er, -⟩, -⟩ := hT.1.2.2.2.1 d hd
      have l := l629 f (k + r) hf (by omega) (fun d' hd' ed' => by
        have : d' = d := zn_inj (by omega) (by omega) (ed'.symm.trans e)
        subst this
        rw [ek, er, nI_add])
      refine ⟨fun _ => ?_, fun g => absurd (by rw [e]; exact nI_pos' (by omega)) g⟩
      rw [e] at l ⊢
      refine zx_dish0 hT.1 hd (zx_dish1 hT.1 hd (fun x118 e118 => ?_))
      rw [ek, er, nI_add] at e118
      rw [e118]
      exact l
  unfold fL_acts_570 fL_acts_602
  refine zx_of1 hT.1 hj (pk_eq c 0 (fun hc => l603 0 (Or.inr ⟨rfl, Or.inl hc⟩)) (fun hc => ?_))
  rcases per.2.2.2.1 0 (by decide) with e | ⟨d, hd, e⟩
  · exact ⟨fun _ => l603 0 (Or.inr ⟨rfl, Or.inr (Or.inl e)⟩), fun g => absurd (by rw [e]; decide) g⟩
  · refine ⟨fun g => absurd g (by rw [e]; exact nI_pos (by omega)), fun _ => zx_of7 hT.1 hj ⟨fun g => l603 0 (Or.inr ⟨rfl, Or.inr (Or.inr g)⟩), fun g => l603 1 (Or.inl ⟨rfl, hc, g, by rw [e]; exact zn_m6 (by omega)⟩)⟩⟩
theorem za_c9 {n P D c j d v : Nat} {μ : zMem} {K : Int32 → zMem → Prop} (hT : zT n P D c μ) (hP2 : 2 ≤ P) (hn : n + 1 ≤ 60) (hj : j < P) (hd : d < 3) (hv : v ≤ 30) (ev : μ (5 + 3 * j) 2 = nI v) (h : ∀ (P' D' c' : Nat) (m5 : zMem), 2 ≤ P' → zT (n + 1) P' D' c' m5 → K 1 m5) : fL_acts_755 K 0 (nI P) (nI j) (nI d) (nI v) (nI c) μ := by
  have hP14 := hT.1.1.1
  have hc1 := hT.1.1.2.2.2.1
  have hP0 : ¬ nI P = 0 := nI_ne0 (by omega) (by omega)
  obtain ⟨p, hp1, hp3, ep⟩ := zV_price hT.1 hd (Nat.mod_lt D (by decide : 0 < 5))
  obtain ⟨⟨k, r, hk, hr, ek, er, -⟩, -⟩ := hT.1.2.2.2.1 d hd
  have haw := zaw_le μ d P
  have l830 : ∀ f : Int32, ((f = 1 ∧ ¬ c = 0 ∧ μ (6 + 3 * j) 0 = (-6 : Int32) ∧ μ (5 + 3 * j) 8 = 0 ∧ p + 1 ≤ v ∧ zaw μ d P < k + r) ∨ (f = 0 ∧ (c = 0 ∨ ¬ μ (6 + 3 * j) 0 = (-6 : Int32) ∨ ¬ μ (5 + 3 * j) 8 = 0 ∨ v < p + 1 ∨ k + r ≤ zaw μ d P))) → fL_acts_830 K 0 (nI P) (nI j) (nI d) (nI v) (nI (p + 1)) f μ := by
    intro f hf
    unfold fL_acts_830 fL_acts_905
    refine zx_buyT hT hj hd hv ev hp3 ep hk ek hr er (fun g m5 hT5 => ⟨fun _ => ?_, fun g => absurd g hP0⟩) (fun m5 hc g6 g8 gv ga hT5 e8 => ⟨fun _ => ?_, fun g => absurd g hP0⟩)
    · rcases hf with ⟨_, h1, h2, h3, h4, h5⟩ | ⟨hf, _⟩
      · rcases g with g | g | g | g | g
        · exact absurd g h1
        · exact absurd h2 g
        · exact absurd h3 g
        · omega
        · omega
      · exact ⟨fun _ => ⟨fun z => absurd rfl z, fun _ => ⟨z_b1, h _ _ _ m5 hP2 (zT_up hn hT5)⟩⟩, fun z => absurd hf z⟩
    · have hf1 : f = 1 := by
        rcases hf with ⟨hf, _⟩ | ⟨_, g | g | g | g | g⟩
        · exact hf
        · exact absurd g hc
        · exact absurd g6 g
        · exact absurd g8 g
        · omega
        · omega
      refine ⟨fun z => absurd (hf1.symm.trans z) (by decide), fun _ x131 e131 => ?_⟩
      rw [pk_sub gv] at e131
      rw [e131]
      refine ⟨fun z => absurd rfl z, fun _ => zx_of7 hT5.1 hj ?_⟩
      rw [e8]
      exact ⟨fun z => absurd rfl z, fun _ => ⟨z_b1, h _ _ _ m5 hP2 (zT_up hn hT5)⟩⟩
  unfold fL_acts_755 fL_acts_829
  refine zx_dish6 hT.1 hd (fun x139 e139 => ?_)
  rw [ep, nI_1] at e139
  rw [e139]
  refine pk_eq c 0 (fun hc => l830 0 (Or.inr ⟨rfl, Or.inl hc⟩)) (fun hc => zx_of1 hT.1 hj ⟨fun g => l830 0 (Or.inr ⟨rfl, Or.inr (Or.inl g)⟩), fun g6 => zx_of7 hT.1 hj ⟨fun g => l830 0 (Or.inr ⟨rfl, Or.inr (Or.inr (Or.inl g))⟩), fun g8 => ?_⟩⟩)
  refine pk_lt v (p + 1) (fun g => l830 0 (Or.inr ⟨rfl, Or.inr (Or.inr (Or.inr (Or.inl g)))⟩)) (fun gv => zx_dish0 hT.1 hd (zx_dish1 hT.1 hd (fun x152 e152 => zx_dish2 hT.1 hd ?_)))
  rw [ek, er, nI_add] at e152
  rw [e152]
  exact pk_le (k + r) (zaw μ d P) (fun g => l830 0 (Or.inr ⟨rfl, Or.inr (Or.inr (Or.inr (Or.inr g)))⟩)) (fun g => l830 1 (Or.inl ⟨rfl, hc, g6, g8, gv, g⟩))
theorem za_c10 {n P D c d : Nat} {μ : zMem} {K : Int32 → zMem → Prop} (hT : zT n P D c μ) (hP2 : 2 ≤ P) (hn : n + 1 ≤ 60) (hd : d < 3) (h : ∀ (P' D' c' : Nat) (m5 : zMem), 2 ≤ P' → zT (n + 1) P' D' c' m5 → K 1 m5) : fL_acts_906 K 0 (nI d) (nI c) μ := by
  have hP14 := hT.1.1.1
  have hc1 := hT.1.1.2.2.2.1
  have hDn := hT.1.1.2.1
  have st : ∀ (m i s : Nat), i < 3 → fL_acts_919 K m 0 (nI d) (nI c) (nI D) (nI (s + zaw μ i P)) (nI (i + 1)) μ → fL_acts_919 K (m + 1) 0 (nI d) (nI c) (nI D) (nI s) (nI i) μ := by
    intro m i s hi g
    show fL_acts_919b (fL_acts_919 K m) K 0 (nI d) (nI c) (nI D) (nI s) (nI i) μ
    unfold fL_acts_919b
    refine pk_le 3 i (fun z => absurd z (by omega)) (fun _ => zx_dish2 hT.1 hi (fun x179 e179 x180 e180 => ?_))
    rw [nI_add] at e179
    rw [nI_1] at e180
    rw [e179, e180]
    exact g
  unfold fL_acts_906
  refine zx_cnt0 hT.1 ?_
  have e : zFU = (zFU - 4) + 4 := by decide
  rw [e]
  refine st _ 0 0 (by decide) (st _ 1 _ (by decide) (st _ 2 _ (by decide) ?_))
  show fL_acts_919b (fL_acts_919 K _) K 0 (nI d) (nI c) (nI D) _ (nI 3) μ
  unfold fL_acts_919b fL_acts_1027
  refine ⟨fun _ => zx_close hT hn (fun hc m5 hT5 => ⟨fun g => absurd (by rw [hc]; rfl) g, fun _ => ⟨fun g => absurd rfl g, fun _ => ⟨z_b1, h _ _ _ m5 hP2 (zT_up hn hT5)⟩⟩⟩) (fun m5 kp hc hT5 ekp hkp hdi => ⟨fun _ => ?_, fun g => absurd (zn_inj (by omega) (by decide) (g.trans rfl)) hc⟩), fun g => absurd (Int32.le_refl _) g⟩
  rw [zms_eq hT.1 P (Nat.le_refl _)]
  refine pk_eq _ _ (fun _ => zx_cnt0 hT5.1 (fun x163 e163 => ?_)) (fun z => absurd (by omega) z) rfl rfl (by have := zaw_le μ 0 P; have := zaw_le μ 1 P; have := zaw_le μ 2 P; omega) (by have := zaw_le μ 0 P; have := zaw_le μ 1 P; have := zaw_le μ 2 P; omega) |>.symm
  rw [nI_1] at e163
  rw [e163]
  obtain ⟨f2, kk, hkk, f1⟩ := hdi d hd
  refine ⟨fun z => absurd rfl z, fun _ => zx_cnt2 hT5.1 ⟨fun z => absurd rfl z, fun _ => zx_dish1 hT5.1 hd ?_⟩⟩
  rw [f2]
  refine ⟨fun z => absurd rfl z, fun _ => zx_dish0 hT5.1 hd (zx_cnt11 hT5.1 ?_)⟩
  rw [f1, ekp]
  exact pk_lt kp kk (fun z => absurd z (by omega)) (fun _ => ⟨z_b1, h _ _ _ m5 hP2 hT5⟩)
theorem zx_cntS {n P D c ee w q : Nat} {x : Int32} {μ : zMem} {K : Int32 → zMem → Prop} (hV : zV n P D c ee μ) (hw : w < 4) (ex : x = (10 : Int32) + nI w) (h : K (μ 2 w) μ) : fX7_count q x μ K := by
  rcases (show w = 0 ∨ w = 1 ∨ w = 2 ∨ w = 3 by omega) with rfl | rfl | rfl | rfl
  · rw [ex, show (10 : Int32) + nI 0 = 10 from by decide]
    exact zx_cnt10 hV h
  · rw [ex, show (10 : Int32) + nI 1 = 11 from by decide]
    exact zx_cnt11 hV h
  · rw [ex, show (10 : Int32) + nI 2 = 12 from by decide]
    exact zx_cnt12 hV h
  · rw [ex, show (10 : Int32) + nI 3 = 13 from by decide]
    exact zx_cnt13 hV h
theorem za_c11 {n P D c d a w x : Nat} {μ : zMem} {K : Int32 → zMem → Prop} (hT : zT n P D c μ) (hP2 : 2 ≤ P) (hn : n + 1 ≤ 60) (ha : a < 2 ^ 31) (hd : d < 3) (hw : w < 4) (hx : (w = 0 ∧ x ≤ 9) ∨ (w = 1 ∧ x ≤ 20) ∨ (w = 2 ∧ 1 ≤ x ∧ x ≤ 9) ∨ (w = 3 ∧ 1 ≤ x ∧ x ≤ 20)) (h : ∀ (P' D' c' : Nat) (m5 : zMem), 2 ≤ P' → zT (n + 1) P' D' c' m5 → K 1 m5) : fL_acts_1093 K 0 (nI a) (nI d) (nI w) (nI x) μ := by
  have hDn := hT.1.1.2.1
  have hn60 := hT.1.1.2.2.1
  have lt : ∀ k, a / 2 ^ k < 2 ^ 31 := fun k => Nat.lt_of_le_of_lt (Nat.div_le_self _ _) ha
  have ep : ∀ x195 x196 x197 : Int32, x195 = nI a >>> ((16 : Int32) &&& 31) → x196 = x195 - x195 / (3 : Int32) * (3 : Int32) → x197 = (1 : Int32) + x196 → x197 = nI (1 + a / 2 ^ 16 % 3) := fun x1 x2 x3 e1 e2 e3 => by
    rw [pk_shrN ha _ 16 (by decide)] at e1
    rw [e1, show (3 : Int32) = nI 3 from rfl, pk_rem (lt 16) (by decide) (by decide)] at e2
    rw [e2, show (1 : Int32) = nI 1 from rfl, nI_add] at e3
    exact e3
  have h3 : a / 2 ^ 16 % 3 < 3 := Nat.mod_lt _ (by decide)
  have h5 : a / 2 ^ 13 % 5 < 5 := Nat.mod_lt _ (by decide)
  unfold fL_acts_1093 fL_acts_1192 fL_acts_1197
  intro x183 e183
  refine zx_cntS hT.1 hw e183 (fun x186 e186 x187 e187 => ?_)
  rw [pk_shrN ha _ 13 (by decide)] at e186
  rw [e186, show (5 : Int32) = nI 5 from rfl, pk_rem (lt 13) (by decide) (by decide)] at e187
  rw [e187]
  refine zx_set hT hw hx (fun m5 hT5 e2 _ => ⟨fun z => absurd rfl z, fun _ x191 e191 => zx_cntS hT5.1 hw e191 ?_⟩)
  rw [e2]
  refine ⟨fun z => absurd rfl z, fun _ x195 e195 x196 e196 x197 e197 => ?_⟩
  rw [ep x195 x196 x197 e195 e196 e197]
  obtain ⟨p, hp1, hp3, epr⟩ := zV_price hT5.1 hd h5
  refine zx_price hT5 h5 hd ⟨by omega, by omega⟩ (fun m6 hT6 e6 => ?_)
  rw [epr]
  have fin : K 1 m6 := h _ _ _ m6 hP2 (zT_up hn hT6)
  refine pk_lt p 1 (fun z => absurd z (by omega)) (fun _ => zx_cnt0 hT6.1 (fun x203 e203 => ?_))
  rw [show (5 : Int32) = nI 5 from rfl, pk_rem (by omega) (by decide) (by decide)] at e203
  rw [e203]
  refine (pk_eq (D % 5) (a / 2 ^ 13 % 5) (fun e => zx_dish6 hT6.1 hd (fun x207 e207 x208 e208 x209 e209 => ?_)) (fun _ => ⟨z_b1, fin⟩)).symm
  rw [ep x207 x208 x209 e207 e208 e209, e, e6]
  exact ⟨fun z => absurd rfl z, fun _ => ⟨z_b1, fin⟩⟩
theorem zx_acts {n P D c a : Nat} {μ : zMem} {K : Int32 → zMem → Prop} (hT : zT n P D c μ) (hP2 : 2 ≤ P) (hn : n + 1 ≤ 60) (ha : a < 2 ^ 31) (h : ∀ (P' D' c' : Nat) (m5 : zMem), 2 ≤ P' → zT (n + 1) P' D' c' m5 → K 1 m5) : fL_acts 0 (nI a) μ K := by
  have hP14 := hT.1.1.1
  have hc1 := hT.1.1.2.2.2.1
  have lt : ∀ k, a / 2 ^ k < 2 ^ 31 := fun k => Nat.lt_of_le_of_lt (Nat.div_le_self _ _) ha
  have hj : a / 2 ^ 4 % P < P := Nat.mod_lt _ (by omega)
  have hd : a / 2 ^ 8 % 3 < 3 := Nat.mod_lt _ (by decide)
  have hk : a / 2 ^ 10 % 5 < 5 := Nat.mod_lt _ (by decide)
  have h12 : a % 12 < 12 := Nat.mod_lt _ (by decide)
  unfold fL_acts
  refine zx_cnt1 hT.1 ⟨fun _ x250 e250 => ⟨nI_ne0 (by omega) (by omega), fun x252 e252 => ?_⟩, fun g => absurd g (nI_ne0 (by omega) (by omega))⟩
  rw [pk_shrN ha _ 4 (by decide)] at e250
  rw [e250, pk_rem (lt 4) (by omega) (by omega)] at e252
  rw [e252]
  generalize a / 2 ^ 4 % P = j at hj ⊢
  obtain ⟨v, hv, ev⟩ := (hT.1.2.2.1 j hj).1
  have l58 : fL_acts_58 K 0 (nI a) (nI P) (nI j) (nI (a / 2 ^ 8 % 3)) (nI (a / 2 ^ 10 % 5)) (nI v) (nI c) μ := by
    unfold fL_acts_58
    intro x211 e211
    rw [show (12 : Int32) = nI 12 from rfl, pk_rem ha (by decide) (by decide)] at e211
    rw [e211]
    refine pk_eq (a % 12) 0 (fun _ => za_c0 hT hP2 hn h) (fun _ => pk_eq (a % 12) 1 (fun _ => za_c1 hT hP2 hn ha hj hv ev h) (fun _ => pk_eq (a % 12) 2 (fun _ => za_c2 hT hP2 hn hj hk hd hv ev h) (fun _ => pk_eq (a % 12) 3 (fun _ => za_c2 hT hP2 hn hj hk hd hv ev h) (fun _ => pk_eq (a % 12) 4 (fun _ => za_c2 hT hP2 hn hj hk hd hv ev h) (fun _ => pk_eq (a % 12) 5 (fun _ => za_c5 hT hP2 hn hj hk hv ev h) (fun _ => pk_eq (a % 12) 6 (fun _ => za_c6 hT hP2 hn h) (fun _ => pk_eq (a % 12) 7 (fun _ => za_c7 hT hP2 hn hj hv ev h) (fun _ => pk_eq (a % 12) 8 (fun _ => za_c7 hT hP2 hn hj hv ev h) (fun _ => pk_eq (a % 12) 9 (fun _ => za_c9 hT hP2 hn hj hd hv ev h) (fun _ => pk_eq (a % 12) 10 (fun _ => za_c10 hT hP2 hn hd h) (fun _ => ?_)))))))))))
    intro x223 e223 x224 e224
    rw [pk_shrN ha _ 4 (by decide)] at e223
    rw [e223, show (4 : Int32) = nI 4 from rfl, pk_rem (lt 4) (by decide) (by decide)] at e224
    have hw : a / 2 ^ 4 % 4 < 4 := Nat.mod_lt _ (by decide)
    rw [e224]
    generalize a / 2 ^ 4 % 4 = w at hw ⊢
    have sh : ∀ (x1 x2 : Int32) (m : Nat), 0 < m → m < 2 ^ 31 → x1 = nI a >>> ((8 : Int32) &&& 31) → x2 = x1 - x1 / nI m * nI m → x2 = nI (a / 2 ^ 8 % m) := fun x1 x2 m h0 hm e1 e2 => by
      rw [pk_shrN ha _ 8 (by decide)] at e1
      rw [e1, pk_rem (lt 8) h0 hm] at e2
      exact e2
    refine (pk_eq w 0 (fun hw0 x1 e1 x2 e2 => ?_) (fun hw0 => (pk_eq w 1 (fun hw1 x1 e1 x2 e2 => ?_) (fun hw1 => (pk_eq w 2 (fun hw2 x1 e1 x2 e2 x3 e3 => ?_) (fun hw2 x1 e1 x2 e2 x3 e3 => ?_)).symm)).symm)).symm
    · have := Nat.mod_lt (a / 2 ^ 8) (show 0 < 10 by decide)
      rw [sh x1 x2 10 (by decide) (by decide) e1 e2]
      exact za_c11 hT hP2 hn ha hd hw (Or.inl ⟨hw0, by omega⟩) h
    · have := Nat.mod_lt (a / 2 ^ 8) (show 0 < 21 by decide)
      rw [sh x1 x2 21 (by decide) (by decide) e1 e2]
      exact za_c11 hT hP2 hn ha hd hw (Or.inr (Or.inl ⟨hw1, by omega⟩)) h
    · have := Nat.mod_lt (a / 2 ^ 8) (show 0 < 9 by decide)
      rw [sh x1 x2 9 (by decide) (by decide) e1 e2, show (1 : Int32) = nI 1 from rfl, nI_add] at e3
      rw [e3]
      exact za_c11 hT hP2 hn ha hd hw (Or.inr (Or.inr (Or.inl ⟨hw2, by omega, by omega⟩))) h
    · have := Nat.mod_lt (a / 2 ^ 8) (show 0 < 20 by decide)
      rw [sh x1 x2 20 (by decide) (by decide) e1 e2, show (1 : Int32) = nI 1 from rfl, nI_add] at e3
      rw [e3]
      exact za_c11 hT hP2 hn ha hd hw (Or.inr (Or.inr (Or.inr ⟨by omega, by omega, by omega⟩))) h
  unfold fL_acts_19
  intro x238 e238 x239 e239 x240 e240 x241 e241
  rw [pk_shrN ha _ 8 (by decide)] at e238
  rw [e238, show (3 : Int32) = nI 3 from rfl, pk_rem (lt 8) (by decide) (by decide)] at e239
  rw [pk_shrN ha _ 10 (by decide)] at e240
  rw [e240, show (5 : Int32) = nI 5 from rfl, pk_rem (lt 10) (by decide) (by decide)] at e241
  rw [e239, e241]
  refine zx_of0 hT.1 hj (zx_cnt2 hT.1 ?_)
  rw [ev]
  refine (pk_eq c 1 (fun e => ?_) (fun e => ?_)).symm
  · rw [e] at l58
    exact l58
  · rw [show c = 0 by omega] at l58
    exact l58
