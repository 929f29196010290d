/-! a text put: both, on pads of one length -/
def zgd : Nat → Int64 → Nat → Nat
  | 0, _, k => k
  | f + 1, v, k => if lg_cmp v 0 = 0 ∨ 8 ≤ k then k else if ¬ (lg_cmp (v &&& 255) 33 < 0) ∧ lg_cmp (v &&& 255) 126 ≤ 0 then zgd f (z_ushr v 8) (k + 1) else 0
def zch (a : Int64) (i : Nat) : Int32 := vp_nar .char (z_i2c (((z_ushr a ((8 : Int32) * nI i)) &&& (255 : Int64)).toInt32))
theorem zgd_le : ∀ (f : Nat) (v : Int64) (k : Nat), k ≤ 8 → 8 - k < f → zgd f v k ≤ 8 := by
  intro f
  induction f with
  | zero => intro v k h1 h2; omega
  | succ f ih =>
    intro v k h1 h2
    unfold zgd
    split
    · exact h1
    · rename_i g
      split
      · exact ih _ _ (by have : ¬ 8 ≤ k := fun x => g (Or.inr x); omega) (by have : ¬ 8 ≤ k := fun x => g (Or.inr x); omega)
      · omega
theorem zgd_c {K : Int32 → zMem → Prop} {μ : zMem} : ∀ (n f : Nat) (v : Int64) (k : Nat), k ≤ 8 → 8 - k < n → 8 - k < f → K (nI (zgd f v k)) μ → fX4_goodCharacters_5 K n v (nI k) μ := by
  intro n
  induction n with
  | zero => intro f v k h1 h2; omega
  | succ n ih =>
    intro f v k h1 h2 h3 hK
    obtain ⟨f, rfl⟩ : ∃ f', f = f' + 1 := ⟨f - 1, by omega⟩
    show fX4_goodCharacters_5b (fX4_goodCharacters_5 K n) K v (nI k) μ
    unfold fX4_goodCharacters_5b
    unfold zgd at hK
    intro x1 e1
    refine ⟨fun c => ?_, fun c => ⟨fun c2 => ?_, fun c2 => ?_⟩⟩
    · rw [if_pos (Or.inl (e1 ▸ c))] at hK
      exact hK
    · rw [if_pos (Or.inr ((nI_leI (a := 8) (by decide) (by omega)).mp c2))] at hK
      exact hK
    · have hk : ¬ 8 ≤ k := fun g => c2 ((nI_leI (a := 8) (by decide) (by omega)).mpr g)
      rw [if_neg (fun g => g.elim (fun g => c (e1.trans g)) hk)] at hK
      intro x4 e4 x5 e5
      refine ⟨fun c3 => ?_, fun c3 x7 e7 => ⟨fun c4 x9 e9 x10 e10 => ?_, fun c4 => ?_⟩⟩
      · rw [if_neg (fun g => g.1 (by rw [← e4, ← e5]; exact c3))] at hK
        exact hK
      · rw [if_pos ⟨fun g => c3 (by rw [e5, e4]; exact g), by rw [← e4, ← e7]; exact c4⟩] at hK
        rw [e10, nI_1, e9]
        exact ih f _ (k + 1) (by omega) (by omega) (by omega) hK
      · rw [if_neg (fun g => c4 (by rw [e7, e4]; exact g.2))] at hK
        exact hK
theorem zgd_r {K : Int32 → zMem → Prop} {a : Int64} {μ : zMem} : ∀ (n f : Nat) (v : Int64) (k : Nat), k ≤ 8 → 8 - k < n → 8 - k < f → (fX8_put_60 K 529 a (nI (zgd f v k)) μ) → fX8_put_5 K 529 n a (nI k) v μ := by
  intro n
  induction n with
  | zero => intro f v k h1 h2; omega
  | succ n ih =>
    intro f v k h1 h2 h3 hK
    obtain ⟨f, rfl⟩ : ∃ f', f = f' + 1 := ⟨f - 1, by omega⟩
    have h0 : fX8_put_60 K 529 a (nI 0) μ → fX8_put_44 K 529 μ := fun g => (g.2 rfl)
    show fX8_put_5b (fX8_put_5 K 529 n) K 529 a (nI k) v μ
    unfold fX8_put_5b
    unfold zgd at hK
    refine ⟨fun c2 => ?_, fun c2 x1 e1 => ⟨fun c => ?_, fun c => ?_⟩⟩
    · rw [if_pos (Or.inr ((nI_leI (a := 8) (by decide) (by omega)).mp c2))] at hK
      exact hK
    · rw [if_pos (Or.inl (e1 ▸ c))] at hK
      exact hK
    · have hk : ¬ 8 ≤ k := fun g => c2 ((nI_leI (a := 8) (by decide) (by omega)).mpr g)
      rw [if_neg (fun g => g.elim (fun g => c (e1.trans g)) hk)] at hK
      intro x4 e4 x5 e5
      refine ⟨fun c3 => ?_, fun c3 x7 e7 => ⟨fun c4 x9 e9 x10 e10 => ?_, fun c4 => ?_⟩⟩
      · rw [if_neg (fun g => g.1 (by rw [← e4, ← e5]; exact c3))] at hK
        exact h0 hK
      · rw [if_pos ⟨fun g => c3 (by rw [e5, e4]; exact g), by rw [← e4, ← e7]; exact c4⟩] at hK
        rw [e10, nI_1, e9]
        exact ih f _ (k + 1) (by omega) (by omega) (by omega) hK
      · rw [if_neg (fun g => c4 (by rw [e7, e4]; exact g.2))] at hK
        exact h0 hK
/-- X7 writes k characters behind n -/
theorem zap_c {K : Int32 → zMem → Prop} {a : Int64} {k n : Nat} (hk : k ≤ 8) (hn : n + k ≤ 80) : ∀ (f i : Nat) (m : zMem), i ≤ k → k - i < f → m 526 1 = nI (n + k) → (∀ m2 : zMem, (∀ r, r ≠ 527 → m2 r = m r) → (∀ j, m2 527 j = if n ≤ j ∧ j < n + (k - i) then zch a (n + k - 1 - j) else m 527 j) → K (nI (n + k)) m2) → fX4_append_39 K 526 f a (nI k) (nI i) m := by
  intro f
  induction f with
  | zero => intro i m h1 h2; omega
  | succ f ih =>
    intro i m h1 h2 h3 hK
    show fX4_append_39b (fX4_append_39 K 526 f) K 526 a (nI k) (nI i) m
    unfold fX4_append_39b
    refine ⟨fun c => ?_, fun c => ?_⟩
    · have : k ≤ i := (nI_leI (by omega) (by omega)).mp c
      rw [h3]
      exact hK m (fun _ _ => rfl) (fun j => by rw [if_neg (by omega)])
    · have hi : i < k := Nat.lt_of_not_le (fun g => c ((nI_leI (by omega) (by omega)).mpr g))
      intro x2 e2 x3 e3 x4 e4 x5 e5 x6 e6 x7 e7 x8 e8
      have e3 : x3 = nI (n + k - 1 - i) := by
        rw [e3, e2, h3, show (1 : Int32) = nI 1 from rfl, pk_sub (by omega), pk_sub (by omega)]
      refine ⟨by rw [e3]; exact vp_in_nI (by omega) (by decide), fun m10 e10 x11 e11 => ?_⟩
      rw [e11, nI_1]
      rw [e3, nI_clamp (by omega), e8, e7, e6, e5, e4] at e10
      have e10 : m10 = z_up m 527 (n + k - 1 - i) (zch a i) := e10
      refine ih (i + 1) m10 (by omega) (by omega) (by rw [e10, zu_ne (by decide)]; exact h3) (fun m2 f2 g2 => hK m2 (fun r hr => by rw [f2 r hr, e10, zu_ne hr]) (fun j => ?_))
      rw [g2 j, e10, zu_same]
      by_cases hj : j = n + k - 1 - i
      · subst hj
        rw [if_neg (by omega), z_upd_same, if_pos (by omega)]
        congr 1
        omega
      · rw [z_upd_ne hj]
        by_cases g : n ≤ j ∧ j < n + (k - (i + 1))
        · rw [if_pos g, if_pos (by omega)]
        · rw [if_neg g, if_neg (by omega)]
/-- the reference does -/
theorem zap_r {K : Int32 → zMem → Prop} {a : Int64} {k n : Nat} (hk : k ≤ 8) (hn : n + k ≤ 80) : ∀ (f i : Nat) (m : zMem), i ≤ k → i < f → m 529 7 = nI (n + (k - i)) → (∀ m2 : zMem, (∀ r, r ≠ 536 → r ≠ 529 → m2 r = m r) → (∀ j, m2 529 j = if j = 7 then nI (n + k) else m 529 j) → (∀ j, m2 536 j = if n + (k - i) ≤ j ∧ j < n + k then zch a (n + k - 1 - j) else m 536 j) → K (nI (n + k)) m2) → fX8_put_86 K 529 f a (nI i - 1) m := by
  intro f
  induction f with
  | zero => intro i m h1 h2; omega
  | succ f ih =>
    intro i m h1 h2 h3 hK
    show fX8_put_86b (fX8_put_86 K 529 f) K 529 a (nI i - 1) m
    unfold fX8_put_86b
    rcases Nat.eq_zero_or_pos i with rfl | hi
    · refine ⟨fun _ => ?_, fun c => absurd (by decide) c⟩
      rw [h3]
      exact hK m (fun _ _ _ => rfl) (fun j => by split <;> simp_all) (fun j => by rw [if_neg (by omega)])
    · obtain ⟨i, rfl⟩ : ∃ i', i = i' + 1 := ⟨i - 1, by omega⟩
      rw [nI_pred]
      refine ⟨fun c => absurd c (nI_pos (by omega)), fun _ => ?_⟩
      intro x2 e2 x3 e3 x4 e4 x5 e5 x6 e6
      rw [h3]
      refine ⟨vp_in_nI (by omega) (by decide), fun m8 e8 x9 e9 m10 e10 x11 e11 => ?_⟩
      rw [nI_clamp (by omega), e6, e5, e4, e3, e2] at e8
      have e8 : m8 = z_up m 536 (n + (k - (i + 1))) (zch a i) := e8
      have e9 : x9 = nI (n + (k - i)) := by rw [e9, e8, zu_ne (by decide), h3, nI_1]; congr 1; omega
      have e11 : x11 = nI i - 1 := by rw [e11, Int32.sub_eq_add_neg]
      rw [e11]
      refine ih i m10 (by omega) (by omega) (by rw [e10, zu_same, z_upd_same, e9]) (fun m2 f2 g2 k2 => hK m2 (fun r hr hr2 => by rw [f2 r hr hr2, e10, zu_ne hr2, e8, zu_ne hr]) (fun j => ?_) (fun j => ?_))
      · rw [g2 j, e10, zu_same]
        by_cases hj : j = 7
        · rw [if_pos hj, if_pos hj]
        · rw [if_neg hj, if_neg hj, z_upd_ne hj, e8, zu_ne (by decide)]
      · rw [k2 j, e10, zu_ne (by decide), e8, zu_same]
        by_cases hj : j = n + (k - (i + 1))
        · subst hj
          rw [if_neg (by omega), z_upd_same, if_pos (by omega)]
          congr 1
          omega
        · rw [z_upd_ne hj]
          by_cases g : n + (k - i) ≤ j ∧ j < n + k
          · rw [if_pos g, if_pos (by omega)]
          · rw [if_neg g, if_neg (by omega)]
/-- X7, on a pad of n characters -/
theorem zput_c {K : Int32 → zMem → Prop} {a : Int64} {n k : Nat} {m : zMem} (hn : n ≤ 80) (h1 : m 526 1 = nI n) (hk : k = zgd 9 a 0) (h0 : k = 0 → K (-2) m) (h8 : 0 < k → 80 < n + k → K (-4) m) (h : 0 < k → n + k ≤ 80 → ∀ m2 : zMem, (∀ r, r ≠ 526 → r ≠ 527 → m2 r = m r) → (∀ j, m2 526 j = if j = 1 then nI (n + k) else m 526 j) → (∀ j, m2 527 j = if n ≤ j ∧ j < n + k then zch a (n + k - 1 - j) else m 527 j) → K (nI (n + k)) m2) : fX7_put 0 a m K := by
  have hk8 : k ≤ 8 := by rw [hk]; exact zgd_le 9 a 0 (by decide) (by decide)
  unfold fX7_put fX4_append fX4_goodCharacters
  refine zgd_c zFU 9 a 0 (by decide) (by unfold zFU; omega) (by decide) ?_
  rw [← hk]
  refine ⟨fun c x15 e15 => ?_, fun c => ?_⟩
  · have hk0 : 0 < k := Nat.pos_of_ne_zero (fun g => c (by rw [g]; rfl))
    rw [h1, nI_add] at e15
    rw [e15]
    refine ⟨fun c2 x17 e17 m18 e18 => ?_, fun c2 => ?_⟩
    · have hle : n + k ≤ 80 := (nI_leI (b := 80) (by omega) (by decide)).mp c2
      rw [h1, nI_add] at e17
      refine zap_c hk8 hle zFU 0 m18 (by omega) (by unfold zFU; omega) (by rw [e18, zu_same, z_upd_same, e17]) (fun m2 f2 g2 => h hk0 hle m2 (fun r hr hr2 => by rw [f2 r hr2, e18, zu_ne hr]) (fun j => ?_) (fun j => ?_))
      · rw [f2 526 (by decide), e18, zu_same]
        by_cases hj : j = 1
        · rw [if_pos hj, hj, z_upd_same, e17]
        · rw [if_neg hj, z_upd_ne hj]
      · rw [g2 j, e18, zu_ne (by decide)]
        rfl
    · exact h8 hk0 (Nat.lt_of_not_le (fun g => c2 ((nI_leI (b := 80) (by omega) (by decide)).mpr g)))
  · exact h0 ((nI_eq (by omega) (by decide)).mp c)
theorem zput_r {K : Int32 → zMem → Prop} {a : Int64} {n k : Nat} {m : zMem} (hn : n ≤ 80) (h1 : m 529 7 = nI n) (hk : k = zgd 9 a 0) (h0 : k = 0 → K (-2) m) (h8 : 0 < k → 80 < n + k → K (-4) m) (h : 0 < k → n + k ≤ 80 → ∀ m2 : zMem, (∀ r, r ≠ 529 → r ≠ 536 → m2 r = m r) → (∀ j, m2 529 j = if j = 7 then nI (n + k) else m 529 j) → (∀ j, m2 536 j = if n ≤ j ∧ j < n + k then zch a (n + k - 1 - j) else m 536 j) → K (nI (n + k)) m2) : fX8_put 529 a m K := by
  have hk8 : k ≤ 8 := by rw [hk]; exact zgd_le 9 a 0 (by decide) (by decide)
  unfold fX8_put
  refine zgd_r zFU 9 a 0 (by decide) (by unfold zFU; omega) (by decide) ?_
  rw [← hk]
  unfold fX8_put_60
  refine ⟨fun c x13 e13 => ?_, fun c => ?_⟩
  · have hk0 : 0 < k := Nat.pos_of_ne_zero (fun g => c (by rw [g]; rfl))
    rw [h1, nI_add] at e13
    rw [e13]
    refine ⟨fun c2 x15 e15 => ?_, fun c2 => ?_⟩
    · have hle : n + k ≤ 80 := (nI_leI (b := 80) (by omega) (by decide)).mp c2
      rw [e15]
      refine zap_r hk8 hle zFU k m (Nat.le_refl _) (by unfold zFU; omega) (by rw [h1]; congr 1; omega) (fun m2 f2 g2 k2 => h hk0 hle m2 (fun r hr hr2 => f2 r hr2 hr) g2 (fun j => ?_))
      rw [k2 j, show n + (k - k) = n by omega]
    · exact h8 hk0 (Nat.lt_of_not_le (fun g => c2 ((nI_leI (b := 80) (by omega) (by decide)).mpr g)))
  · exact h0 ((nI_eq (by omega) (by decide)).mp c)
theorem zp_put (a : Int64) : ∃ r, zC (fX7_put 0 a zM1) r ∧ zR (fun m K => fX8_put 529 a m K) r := by
  have e1 : zM1 526 1 = nI 0 := rfl
  have e2 : ∀ m, zFr m → m 529 7 = nI 0 := fun m hm => by rw [hm 529 (by omega)]; rfl
  have hk8 : zgd 9 a 0 ≤ 8 := zgd_le 9 a 0 (by decide) (by decide)
  obtain ⟨k, hk⟩ : ∃ k, k = zgd 9 a 0 := ⟨_, rfl⟩
  rw [← hk] at hk8
  by_cases h0 : k = 0
  · exact ⟨-2, fun K hK => zput_c (by decide) e1 hk (fun _ => hK _ zFr0) (by omega) (by omega), fun m K hm hK => zput_r (by decide) (e2 m hm) hk (fun _ => hK m) (by omega) (by omega)⟩
  · refine ⟨nI (0 + k), fun K hK => zput_c (by decide) e1 hk (by omega) (by omega) (fun _ _ m2 f2 _ _ => hK m2 (fun r hr => by rw [f2 r (by omega) (by omega)])), fun m K hm hK => zput_r (by decide) (e2 m hm) hk (by omega) (by omega) (fun _ _ m2 _ _ _ => hK m2)⟩
