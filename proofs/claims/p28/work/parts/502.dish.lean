/-! a dish's numbers -/
def zaw (μ : zMem) (d : Nat) : Nat → Nat
  | 0 => 0
  | i + 1 => if μ (6 + 3 * i) 0 = nI d ∧ μ (5 + 3 * i) 8 = 0 then zaw μ d i + 1 else zaw μ d i
def zes (μ : zMem) (d : Nat) : Nat → Nat
  | 0 => 0
  | i + 1 => if μ (6 + 3 * i) 0 = nI d then zes μ d i + (100 - zdb μ i) else zes μ d i
theorem zaw_le (μ : zMem) (d i : Nat) : zaw μ d i ≤ i := by
  induction i with
  | zero => exact Nat.le_refl _
  | succ i ih =>
    unfold zaw
    split <;> omega
theorem zes_le (μ : zMem) (d i : Nat) : zes μ d i ≤ 100 * i := by
  induction i with
  | zero => exact Nat.le_refl _
  | succ i ih =>
    unfold zes
    split <;> omega
theorem zx_awaited {n P D c ee d : Nat} {μ : zMem} {K : Int32 → zMem → Prop} (hV : zV n P D c ee μ) (h : K (nI (zaw μ d P)) μ) : fX0_awaited 1 (nI d) μ K := by
  have hP := hV.1.1
  unfold fX0_awaited
  have L : ∀ (n i : Nat), i ≤ P → P - i < n → fX0_awaited_4 K 1 n (nI d) (nI (zaw μ d i)) (nI i) μ := by
    intro n
    induction n with
    | zero => intro i g1 g2; omega
    | succ n ih =>
      intro i g1 g2
      show fX0_awaited_4b (fX0_awaited_4 K 1 n) K 1 (nI d) _ (nI i) μ
      unfold fX0_awaited_4b fX0_awaited_42
      rw [hV.1.2.2.2.2.1]
      refine pk_le P i (fun c => ?_) (fun hi => ?_)
      · have e : i = P := by omega
        subst e
        exact h
      · have hi14 : i < 14 := by omega
        have next := ih (i + 1) (by omega) (by omega)
        unfold zaw at next
        refine ⟨vp_in_nI hi14 (by decide), fun q4 e4 x5 e5 => ?_⟩
        rw [zq_p hi14 e4, show 5 + 3 * i + 1 = 6 + 3 * i by omega] at e5
        refine ⟨fun g x1 e => ?_, fun g => ⟨vp_in_nI hi14 (by decide), fun q8 e8 => ?_⟩⟩
        · rw [if_neg (fun z => g (e5.trans z.1))] at next
          rw [e, nI_1]
          exact next
        · rw [zq_p hi14 e8]
          refine ⟨fun g2 x1 e => ?_, fun g2 x10 e10 x1 e => ?_⟩
          · rw [if_neg (fun z => g2 z.2)] at next
            rw [e, nI_1]
            exact next
          · rw [if_pos ⟨e5.symm.trans g, g2⟩] at next
            rw [e, nI_1, e10, nI_1]
            exact next
  exact L zFU 0 (by omega) (by unfold zFU; omega)
/-- the plates that would be cooked of a dish -/
def zpl (P : Nat) (μ : zMem) (d : Nat) : Nat := (zes μ d P + 99) / 100 + (μ 2 0).toNatClampNeg - (μ (47 + 2 * d) 1).toNatClampNeg
theorem zpl_le {n P D c ee d : Nat} {μ : zMem} (hV : zV n P D c ee μ) : zpl P μ d ≤ 23 := by
  obtain ⟨a, ha, ea⟩ := hV.2.1.1
  have h1 := zes_le μ d P
  have h2 := hV.1.1
  unfold zpl
  rw [ea, nI_clamp (by omega)]
  omega
theorem zx_plates {n P D c ee d : Nat} {μ : zMem} {K : Int32 → zMem → Prop} (hV : zV n P D c ee μ) (hd : d < 3) (h : K (nI (zpl P μ d)) μ) : fX0_platesToCook 1 (nI d) μ K := by
  have hP := hV.1.1
  unfold fX0_platesToCook
  have L : ∀ (n i : Nat), i ≤ P → P - i < n → fX0_platesToCook_4 K 1 n (nI d) (nI (zes μ d i)) (nI i) μ := by
    intro n
    induction n with
    | zero => intro i g1 g2; omega
    | succ n ih =>
      intro i g1 g2
      show fX0_platesToCook_4b (fX0_platesToCook_4 K 1 n) K 1 (nI d) _ (nI i) μ
      unfold fX0_platesToCook_4b fX0_platesToCook_42
      rw [hV.1.2.2.2.2.1]
      refine pk_le P i (fun c => ?_) (fun hi => ?_)
      · have e : i = P := by omega
        subst e
        have hes := zes_le μ d i
        obtain ⟨a, ha, ea⟩ := hV.2.1.1
        obtain ⟨⟨k, r, hk, hr, ek, er, -⟩, -⟩ := hV.2.2.2.1 d hd
        intro x3 e3 x4 e4 x5 e5 x6 e6
        refine ⟨vp_in_nI hd (by decide), fun q8 e8 x9 e9 x10 e10 => ?_⟩
        rw [zq_d hd e8, ek] at e9
        rw [show (99 : Int32) = nI 99 from rfl, nI_add] at e3
        rw [e3, show (100 : Int32) = nI 100 from rfl, pk_div (by omega) (by decide) (by decide)] at e4
        rw [e4, e5, show μ (1 + 1) 0 = nI a from ea, nI_add] at e6
        rw [e9, e6, zn_max (by omega) (by omega)] at e10
        have : zpl i μ d = (zes μ d i + 99) / 100 + a - k := by
          unfold zpl
          rw [ea, ek, nI_clamp (by omega), nI_clamp (by omega)]
        rw [this] at h
        rw [e10]
        exact h
      · have hi14 : i < 14 := by omega
        have next := ih (i + 1) (by omega) (by omega)
        unfold zes at next
        refine ⟨vp_in_nI hi14 (by decide), fun q4 e4 x5 e5 => ?_⟩
        rw [zq_p hi14 e4, show 5 + 3 * i + 1 = 6 + 3 * i by omega] at e5
        refine ⟨fun g x1 e => ?_, fun g => ⟨vp_in_nI hi14 (by decide), fun q8 e8 => ?_⟩⟩
        · rw [if_neg (fun z => g (e5.trans z))] at next
          rw [e, nI_1]
          exact next
        · rw [zq_p hi14 e8]
          refine zx_doubt hV hi (fun x19 e19 x20 e20 x1 e => ?_)
          rw [if_pos (e5.symm.trans g)] at next
          rw [show (100 : Int32) = nI 100 from rfl, pk_sub (zdb_le hV hi)] at e19
          rw [e19, nI_add] at e20
          rw [e, nI_1, e20]
          exact next
  exact L zFU 0 (by omega) (by unfold zFU; omega)
theorem zx_dish0 {n P D c ee d q : Nat} {μ : zMem} {K : Int32 → zMem → Prop} (hV : zV n P D c ee μ) (hd : d < 3) (h : K (μ (47 + 2 * d) 1) μ) : fX7_ofDish q (nI d) (0 : Int32) μ K := by
  unfold fX7_ofDish fX0_aboutDish fX0_aboutDish_135
  refine zx_hasD hd ⟨fun _ => ?_, fun g => absurd g (by decide)⟩
  exact ⟨fun _ => ⟨vp_in_nI hd (by decide), fun q6 e6 => by rw [zq_d hd e6]; exact h⟩, fun g => absurd rfl g⟩
theorem zx_dish1 {n P D c ee d q : Nat} {μ : zMem} {K : Int32 → zMem → Prop} (hV : zV n P D c ee μ) (hd : d < 3) (h : K (μ (47 + 2 * d) 2) μ) : fX7_ofDish q (nI d) (1 : Int32) μ K := by
  unfold fX7_ofDish fX0_aboutDish fX0_aboutDish_135
  refine zx_hasD hd ⟨fun _ => ?_, fun g => absurd g (by decide)⟩
  exact ⟨fun g => absurd g (by decide), fun _ => ⟨fun _ => ⟨vp_in_nI hd (by decide), fun q6 e6 => by rw [zq_d hd e6]; exact h⟩, fun g => absurd rfl g⟩⟩
theorem zx_dish2 {n P D c ee d q : Nat} {μ : zMem} {K : Int32 → zMem → Prop} (hV : zV n P D c ee μ) (hd : d < 3) (h : K (nI (zaw μ d P)) μ) : fX7_ofDish q (nI d) (2 : Int32) μ K := by
  unfold fX7_ofDish fX0_aboutDish fX0_aboutDish_135
  refine zx_hasD hd ⟨fun _ => ?_, fun g => absurd g (by decide)⟩
  exact ⟨fun g => absurd g (by decide), fun _ => ⟨fun g => absurd g (by decide), fun _ => ⟨fun _ => zx_awaited hV h, fun g => absurd rfl g⟩⟩⟩
theorem zx_dish3 {n P D c ee d q : Nat} {μ : zMem} {K : Int32 → zMem → Prop} (hV : zV n P D c ee μ) (hd : d < 3) (h : K (μ (47 + 2 * d) 3) μ) : fX7_ofDish q (nI d) (3 : Int32) μ K := by
  unfold fX7_ofDish fX0_aboutDish fX0_aboutDish_135
  refine zx_hasD hd ⟨fun _ => ?_, fun g => absurd g (by decide)⟩
  exact ⟨fun g => absurd g (by decide), fun _ => ⟨fun g => absurd g (by decide), fun _ => ⟨fun g => absurd g (by decide), fun _ => ⟨fun _ => ⟨vp_in_nI hd (by decide), fun q6 e6 => by rw [zq_d hd e6]; exact h⟩, fun g => absurd rfl g⟩⟩⟩⟩
theorem zx_adish3 {n P D c ee d : Nat} {μ : zMem} {K : Int32 → zMem → Prop} (hV : zV n P D c ee μ) (hd : d < 3) (h : K (μ (47 + 2 * d) 3) μ) : fX0_aboutDish 1 (nI d) (3 : Int32) μ K := zx_dish3 (q := 0) (K := K) hV hd h
theorem zx_dish4 {n P D c ee d q : Nat} {μ : zMem} {K : Int32 → zMem → Prop} (hV : zV n P D c ee μ) (hd : d < 3) (h : K (μ (47 + 2 * d) 4) μ) : fX7_ofDish q (nI d) (4 : Int32) μ K := by
  unfold fX7_ofDish fX0_aboutDish fX0_aboutDish_135
  refine zx_hasD hd ⟨fun _ => ?_, fun g => absurd g (by decide)⟩
  exact ⟨fun g => absurd g (by decide), fun _ => ⟨fun g => absurd g (by decide), fun _ => ⟨fun g => absurd g (by decide), fun _ => ⟨fun g => absurd g (by decide), fun _ => ⟨fun _ => ⟨vp_in_nI hd (by decide), fun q6 e6 => by rw [zq_d hd e6]; exact h⟩, fun g => absurd rfl g⟩⟩⟩⟩⟩
theorem zx_adish4 {n P D c ee d : Nat} {μ : zMem} {K : Int32 → zMem → Prop} (hV : zV n P D c ee μ) (hd : d < 3) (h : K (μ (47 + 2 * d) 4) μ) : fX0_aboutDish 1 (nI d) (4 : Int32) μ K := zx_dish4 (q := 0) (K := K) hV hd h
theorem zx_dish5 {n P D c ee d q : Nat} {μ : zMem} {K : Int32 → zMem → Prop} (hV : zV n P D c ee μ) (hd : d < 3) (h : K (μ (47 + 2 * d) 5) μ) : fX7_ofDish q (nI d) (5 : Int32) μ K := by
  unfold fX7_ofDish fX0_aboutDish fX0_aboutDish_135
  refine zx_hasD hd ⟨fun _ => ?_, fun g => absurd g (by decide)⟩
  exact ⟨fun g => absurd g (by decide), fun _ => ⟨fun g => absurd g (by decide), fun _ => ⟨fun g => absurd g (by decide), fun _ => ⟨fun g => absurd g (by decide), fun _ => ⟨fun g => absurd g (by decide), fun _ => ⟨fun _ => ⟨vp_in_nI hd (by decide), fun q6 e6 => by rw [zq_d hd e6]; exact h⟩, fun g => absurd rfl g⟩⟩⟩⟩⟩⟩
theorem zx_adish5 {n P D c ee d : Nat} {μ : zMem} {K : Int32 → zMem → Prop} (hV : zV n P D c ee μ) (hd : d < 3) (h : K (μ (47 + 2 * d) 5) μ) : fX0_aboutDish 1 (nI d) (5 : Int32) μ K := zx_dish5 (q := 0) (K := K) hV hd h
theorem zx_dish6 {n P D c ee d q : Nat} {μ : zMem} {K : Int32 → zMem → Prop} (hV : zV n P D c ee μ) (hd : d < 3) (h : K (μ (48 + 2 * d) (D % 5)) μ) : fX7_ofDish q (nI d) (6 : Int32) μ K := by
  unfold fX7_ofDish fX0_aboutDish fX0_aboutDish_135
  refine zx_hasD hd ⟨fun _ => ?_, fun g => absurd g (by decide)⟩
  exact ⟨fun g => absurd g (by decide), fun _ => ⟨fun g => absurd g (by decide), fun _ => ⟨fun g => absurd g (by decide), fun _ => ⟨fun g => absurd g (by decide), fun _ => ⟨fun g => absurd g (by decide), fun _ => ⟨fun g => absurd g (by decide), fun _ => ⟨fun _ => zx_priceOf (k := 0) hV hd (by decide) h, fun g => absurd rfl g⟩⟩⟩⟩⟩⟩⟩
theorem zx_dish7 {n P D c ee d q : Nat} {μ : zMem} {K : Int32 → zMem → Prop} (hV : zV n P D c ee μ) (hd : d < 3) (h : K (nI (if c = 0 then zpl P μ d else 0)) μ) : fX7_ofDish q (nI d) (7 : Int32) μ K := by
  unfold fX7_ofDish fX0_aboutDish fX0_aboutDish_135
  have hc := hV.1.2.2.2.1
  have hc0 : μ 1 5 = 0 → c = 0 := fun g => zn_inj (by omega) (by decide) ((hV.1.2.2.2.2.2.2.symm.trans g).trans rfl)
  have hc1 : ¬ μ 1 5 = 0 → ¬ c = 0 := fun g z => g (by rw [hV.1.2.2.2.2.2.2, z]; rfl)
  refine zx_hasD hd ⟨fun _ => ?_, fun g => absurd g (by decide)⟩
  exact ⟨fun g => absurd g (by decide), fun _ => ⟨fun g => absurd g (by decide), fun _ => ⟨fun g => absurd g (by decide), fun _ => ⟨fun g => absurd g (by decide), fun _ => ⟨fun g => absurd g (by decide), fun _ => ⟨fun g => absurd g (by decide), fun _ => ⟨fun g => absurd g (by decide), fun _ => ⟨fun _ => ⟨fun g => zx_plates hV hd (by rw [if_pos (hc0 g)] at h; exact h), fun g => by rw [if_neg (hc1 g)] at h; exact h⟩, fun g => absurd rfl g⟩⟩⟩⟩⟩⟩⟩⟩
