/-! the law's look at people -/
def zPr (h : Nat) : Int32 := nI h + (-1 : Int32)
theorem zPr_s (d : Nat) : zPr (d + 1) = nI d := pk_m1 d
theorem zPr_0 : zPr 0 < 0 := by decide
def zQd (g : Nat → Int32) (h M : Nat) : Prop := ∀ k, M.testBit k = true ↔ (h ≤ k ∧ k < 5 ∧ ¬ g k = (-6 : Int32))
def zQe (g : Nat → Int32) (a e M : Nat) : Prop := ∀ k, M.testBit k = true ↔ ((a < k ∧ k < 5 ∧ ¬ g k = (-6 : Int32)) ∨ (k = a ∧ ∃ d, e ≤ d ∧ d < 3 ∧ g a = nI d))
theorem zQ_s {g : Nat → Int32} {a M : Nat} (h : zQd g (a + 1) M) : zQe g a 3 M := by
  intro k
  rw [h k]
  constructor
  · exact fun z => Or.inl ⟨by omega, z.2⟩
  · rintro (z | ⟨_, d, z1, z2, _⟩)
    · exact ⟨by omega, z.2⟩
    · omega
theorem zQ_e {g : Nat → Int32} {a M : Nat} (ha : a < 5) (hg : g a = (-6 : Int32) ∨ ∃ d, d < 3 ∧ g a = nI d) (h : zQe g a 0 M) : zQd g a M := by
  intro k
  rw [h k]
  constructor
  · rintro (z | ⟨rfl, d, z1, z2, z3⟩)
    · exact ⟨by omega, z.2⟩
    · exact ⟨Nat.le_refl _, ha, by rw [z3]; exact zn_m6 (by omega)⟩
  · rintro ⟨z1, z2, z3⟩
    by_cases e : k = a
    · subst e
      rcases hg with y | ⟨d, y1, y2⟩
      · exact absurd y z3
      · exact Or.inr ⟨rfl, d, Nat.zero_le _, y1, y2⟩
    · exact Or.inl ⟨by omega, z2, z3⟩
theorem zQ_p {g : Nat → Int32} {a d M : Nat} (hd : d < 3) (hg : g a = nI d) (h : zQe g a (d + 1) M) : zQe g a d (M ||| 2 ^ a) := by
  intro k
  rw [Nat.testBit_or, Nat.testBit_two_pow]
  by_cases e : a = k
  · subst e
    simp only [decide_true, Bool.or_true, true_iff]
    exact Or.inr ⟨trivial, d, Nat.le_refl _, hd, hg⟩
  · simp only [e, decide_false, Bool.or_false]
    rw [h k]
    constructor
    · rintro (z | ⟨z, _⟩)
      · exact Or.inl z
      · exact absurd z.symm e
    · rintro (z | ⟨z, _⟩)
      · exact Or.inl z
      · exact absurd z.symm e
theorem zQ_n {g : Nat → Int32} {a d M : Nat} (hg : ¬ g a = nI d) (h : zQe g a (d + 1) M) : zQe g a d M := by
  intro k
  rw [h k]
  constructor
  · rintro (z | ⟨z, y, y1, y2⟩)
    · exact Or.inl z
    · exact Or.inr ⟨z, y, by omega, y2⟩
  · rintro (z | ⟨z, y, y1, y2, y3⟩)
    · exact Or.inl z
    · refine Or.inr ⟨z, y, ?_, y2, y3⟩
      have : y ≠ d := fun e => hg (by rw [← e]; exact y3)
      omega
theorem zQ_0 {g : Nat → Int32} {M : Nat} (h : zQd g 0 M) : M = zMk (fun a => decide (¬ g a = (-6 : Int32))) 5 := by
  apply Nat.eq_of_testBit_eq
  intro k
  rw [zMk_bit]
  have := h k
  by_cases c : k < 5 ∧ ¬ g k = (-6 : Int32)
  · rw [this.mpr ⟨Nat.zero_le _, c⟩]
    simp [c]
  · have h2 : M.testBit k = false := by
      cases q : M.testBit k with
      | false => rfl
      | true => exact absurd (this.mp q).2 c
    rw [h2]
    by_cases c1 : k < 5
    · have c2 : g k = (-6 : Int32) := Decidable.not_not.mp (fun z => c ⟨c1, z⟩)
      simp [c2]
    · simp [c1]
theorem zp_284 {n P D c i : Nat} {μ : zMem} {K : Int32 → zMem → Prop} {k19 : Nat → Int32 → Int32 → Int32 → Int32 → Int32 → Int32 → Int32 → zMem → Prop} {S2 S3 S4 B nb : Int32} (hT : zT n P D c μ) (hi : i < P) (hk : k19 0 S2 S3 S4 B nb 1 (nI (i + 1)) μ) : fL_arePeople_284 k19 K 0 S2 S3 S4 B (nI i) (nI (zdy μ i)) (zfi μ D i 15) (μ (6 + 3 * i) 0) nb μ := by
  have hV := hT.1
  have hP14 := hV.1.1
  obtain ⟨⟨v, hv, ev⟩, ⟨s, t, cc, h1, h2, h3, h4, h5, h6⟩, h7, h8, h9⟩ := hV.2.2.1 i hi
  have hn := hV.1.2.2.1
  have l340 : fL_arePeople_340 k19 K 0 S2 S3 S4 B nb (nI i) μ := by
    unfold fL_arePeople_340 fL_arePeople_385
    refine zx_of0 hV hi ?_
    rw [ev]
    refine ⟨fun z => absurd z (nI_pos (by omega)), fun _ => zx_of0 hV hi ?_⟩
    rw [ev]
    refine pk_lt 30 v (fun z => absurd z (by omega)) (fun _ => zx_of3 hV hi (zx_of6 hV hi ?_))
    rw [h4, h5]
    refine pk_lt t s (fun z => absurd z (by omega)) (fun _ x15 e15 => ?_)
    rw [e15, nI_1]
    exact hk
  unfold fL_arePeople_284
  refine zx_of2 hV hi ⟨fun z => absurd rfl z, fun _ => zx_first hV hi ⟨fun z => absurd rfl z, fun _ => ?_⟩⟩
  rcases h8 0 (by decide) with e | ⟨d, hd, e⟩
  · rw [e]
    refine ⟨fun _ x34 e34 => ?_, fun z => absurd (by decide) z⟩
    have lt : zdy μ i < 2 ^ 32 := Nat.lt_trans (zMk_lt _ 5) (by decide)
    have bt : zdy μ i % 2 = 0 := by
      have q : (zdy μ i).testBit 0 = false := by
        unfold zdy
        rw [zMk_bit]
        simp [e]
      rw [Nat.testBit_zero] at q
      have := of_decide_eq_false q
      omega
    rw [pk_andN lt 1 (by decide), show 2 ^ 1 = 2 from rfl, bt] at e34
    exact ⟨fun z => absurd e34 z, fun _ => l340⟩
  · rw [e]
    refine ⟨fun z => absurd z (nI_pos (by omega)), fun _ => zx_ordered (k := 0) hV (by decide) hd (fun x38 e38 x39 e39 => ?_)⟩
    rw [e38] at e39
    unfold zod at e39
    rw [zn_mk hP14 (by omega), if_pos ⟨hi, by simp only [e, decide_true]⟩] at e39
    exact ⟨fun z => absurd e39 z, fun _ => l340⟩
theorem zp_183 {n P D c i : Nat} {μ : zMem} {K : Int32 → zMem → Prop} {k19 : Nat → Int32 → Int32 → Int32 → Int32 → Int32 → Int32 → Int32 → zMem → Prop} {S2 S3 S4 B bit : Int32} (hT : zT n P D c μ) (hi : i < P) (hk : k19 0 S2 S3 S4 (B ||| bit) (zBI (zbe μ (i + 1))) 1 (nI (i + 1)) μ) : fL_arePeople_183 k19 K 0 S2 S3 S4 (zBI (zbe μ i)) (nI i) (nI (zdy μ i)) (zfi μ D i 15) (μ (6 + 3 * i) 0) bit B μ := by
  have hV := hT.1
  have hP14 := hV.1.1
  have bi := zdb_le hV hi
  have e9 : zBI i = nI i := if_neg (by omega)
  -- more or not
  have l261 : ∀ f : Int32, ((f = 1 ∧ (zbe μ i = 99 ∨ zls μ i (zbe μ i))) ∨ (f = 0 ∧ ¬ (zbe μ i = 99 ∨ zls μ i (zbe μ i)))) → fL_arePeople_261 k19 K 0 S2 S3 S4 (B ||| bit) (zBI (zbe μ i)) (nI i) (nI (zdy μ i)) (zfi μ D i 15) (μ (6 + 3 * i) 0) f μ := by
    intro f hf
    have stay : ¬ (0 < zdb μ i ∧ (zbe μ i = 99 ∨ zls μ i (zbe μ i))) → fL_arePeople_282 k19 K 0 S2 S3 S4 (B ||| bit) (zBI (zbe μ i)) (nI i) (nI (zdy μ i)) (zfi μ D i 15) (μ (6 + 3 * i) 0) μ := by
      intro g
      unfold fL_arePeople_282
      rw [zbe_neg g] at hk
      exact zp_284 hT hi hk
    unfold fL_arePeople_261
    refine zx_ldoubt hV hi (pk_le (zdb μ i) 0 (fun g => stay (fun z => by omega)) (fun g => ?_))
    rcases hf with ⟨hf, h9⟩ | ⟨hf, h9⟩
    · refine ⟨fun z => absurd (hf.symm.trans z) (by decide), fun _ => ?_⟩
      rw [zbe_pos ⟨g, h9⟩, e9] at hk
      exact zp_284 hT hi hk
    · exact ⟨fun _ => stay (fun z => h9 z.2), fun z => absurd hf z⟩
  unfold fL_arePeople_183
  intro x45 e45
  rw [e45]
  unfold fL_arePeople_256 fL_arePeople_260
  rcases zbe_lt μ i with c9 | c9
  · have l := l261 1 (Or.inl ⟨rfl, Or.inl c9⟩)
    rw [c9, show zBI 99 = (-6 : Int32) from rfl] at l ⊢
    exact ⟨fun _ => l, fun z => absurd (by decide) z⟩
  · have hb : zbe μ i < P := by omega
    have bb := zdb_le hV hb
    have eb : zBI (zbe μ i) = nI (zbe μ i) := if_neg (by omega)
    have t1 := ztm_eq hV hi
    have t2 := ztm_eq hV hb
    rw [eb] at l261 ⊢
    refine ⟨fun z => absurd z (nI_pos (by omega)), fun _ => zx_ldoubt hV hi (zx_ldoubt hV hb (pk_lt _ _ (fun g => l261 1 (Or.inl ⟨rfl, Or.inr (Or.inl g)⟩)) (fun g => zx_ldoubt hV hi (zx_ldoubt hV hb ?_))))⟩
    refine (pk_eq _ _ (fun g2 => zx_of5 hV hi (zx_of6 hV hi (fun x61 e61 => zx_of5 hV hb (zx_of6 hV hb (fun x66 e66 => ?_))))) (fun g2 => l261 0 (Or.inr ⟨rfl, fun z => ?_⟩))).symm
    · rw [t1.2] at e61
      rw [t2.2] at e66
      rw [e61, e66]
      refine pk_le _ _ (fun g3 => l261 0 (Or.inr ⟨rfl, fun z => ?_⟩)) (fun g3 => l261 1 (Or.inl ⟨rfl, Or.inr (Or.inr ⟨g2, g3⟩)⟩))
      unfold zls at z
      omega
    · unfold zls at z
      omega
theorem zp_44 {n P D c i : Nat} {μ : zMem} {K : Int32 → zMem → Prop} {k19 : Nat → Int32 → Int32 → Int32 → Int32 → Int32 → Int32 → Int32 → zMem → Prop} (hT : zT n P D c μ) (hi : i < P) (hk : k19 0 (zSum (fun i => μ (5 + 3 * i) 2) (i + 1)) (zSum (fun i => μ (5 + 3 * i) 6) (i + 1)) (zSum (fun i => μ (5 + 3 * i) 7) (i + 1)) (nI (zbn (i + 1) μ)) (zBI (zbe μ (i + 1))) 1 (nI (i + 1)) μ) :
    ∀ (m h M : Nat) (F : Int32), h ≤ 5 → h < m → M < 2 ^ 5 → zQd (μ (6 + 3 * i)) h M → F = zfi μ D i (15 - 3 * h) → fL_arePeople_44 k19 K m 0 (zSum (fun i => μ (5 + 3 * i) 2) i) (zSum (fun i => μ (5 + 3 * i) 6) i) (zSum (fun i => μ (5 + 3 * i) 7) i) (nI (zbn i μ)) (zBI (zbe μ i)) (nI i) (nI M) F (zPr h) μ := by
  have hV := hT.1
  have hP14 := hV.1.1
  have h8 := (hV.2.2.1 i hi).2.2.2.1
  intro m
  induction m with
  | zero => intro h M F g1 g2; omega
  | succ m ih =>
    intro h M F g1 g2 gM gQ gF
    show fL_arePeople_44b k19 (fL_arePeople_44 k19 K m) K 0 (zSum (fun i => μ (5 + 3 * i) 2) i) (zSum (fun i => μ (5 + 3 * i) 6) i) (zSum (fun i => μ (5 + 3 * i) 7) i) (nI (zbn i μ)) (zBI (zbe μ i)) (nI i) (nI M) F (zPr h) μ
    unfold fL_arePeople_44b
    cases h with
    | zero =>
      refine ⟨fun _ => ?_, fun z => absurd zPr_0 z⟩
      have eM : M = zdy μ i := zQ_0 gQ
      rw [eM, gF]
      refine zx_of1 hV hi (zx_of0 hV hi (fun x73 e73 => zx_of6 hV hi (fun x76 e76 => zx_of8 hV hi (fun x79 e79 => zx_cnt0 hV (zx_of4 hV hi ?_)))))
      rw [e73, e76, e79]
      have hb : ∀ bit : Int32, nI (zbn i μ) ||| bit = nI (zbn (i + 1) μ) → fL_arePeople_183 k19 K 0 (zSum (fun i => μ (5 + 3 * i) 2) i + μ (5 + 3 * i) 2) (zSum (fun i => μ (5 + 3 * i) 6) i + μ (5 + 3 * i) 6) (zSum (fun i => μ (5 + 3 * i) 7) i + μ (5 + 3 * i) 7) (zBI (zbe μ i)) (nI i) (nI (zdy μ i)) (zfi μ D i 15) (μ (6 + 3 * i) 0) bit (nI (zbn i μ)) μ := by
        intro bit eb
        rw [← eb] at hk
        exact zp_183 hT hi hk
      have eD := hV.1.2.2.2.2.2.1
      refine ⟨fun g => hb 0 ?_, fun g x85 e85 => hb x85 ?_⟩
      · unfold zbn
        conv => rhs; unfold zMk
        rw [eD, if_neg (by simp [g]), show (0 : Int32) = nI 0 from rfl, zn_or, Nat.or_zero]
      · unfold zbn
        rw [e85, zn_shl (by omega), zn_or]
        conv => rhs; unfold zMk
        rw [eD, if_pos (by simp only [g, not_false_eq_true, decide_true])]
    | succ a =>
      have ha : a < 5 := by omega
      rw [zPr_s]
      refine ⟨fun z => absurd z (nI_pos (by omega)), fun _ => ?_⟩
      have L : ∀ (m2 e M2 : Nat) (F2 : Int32), e ≤ 3 → e < m2 → M2 < 2 ^ 5 → zQe (μ (6 + 3 * i)) a e M2 → F2 = zfi μ D i (15 - (3 * a + e)) → fL_arePeople_52 k19 (fL_arePeople_44 k19 K m) K m2 0 (zSum (fun i => μ (5 + 3 * i) 2) i) (zSum (fun i => μ (5 + 3 * i) 6) i) (zSum (fun i => μ (5 + 3 * i) 7) i) (nI (zbn i μ)) (zBI (zbe μ i)) (nI i) (nI M2) F2 (nI a) (zPr e) μ := by
        intro m2
        induction m2 with
        | zero => intro e M2 F2 q1 q2; omega
        | succ m2 ih2 =>
          intro e M2 F2 q1 q2 qM qQ qF
          show fL_arePeople_52b k19 (fL_arePeople_44 k19 K m) (fL_arePeople_52 k19 (fL_arePeople_44 k19 K m) K m2) K 0 (zSum (fun i => μ (5 + 3 * i) 2) i) (zSum (fun i => μ (5 + 3 * i) 6) i) (zSum (fun i => μ (5 + 3 * i) 7) i) (nI (zbn i μ)) (zBI (zbe μ i)) (nI i) (nI M2) F2 (nI a) (zPr e) μ
          unfold fL_arePeople_52b
          cases e with
          | zero =>
            refine ⟨fun _ x3 e3 => ?_, fun z => absurd zPr_0 z⟩
            rw [e3]
            exact ih a M2 F2 (by omega) (by omega) qM (zQ_e ha (h8 a ha) qQ) qF
          | succ d =>
            have hd : d < 3 := by omega
            rw [zPr_s]
            refine ⟨fun z => absurd z (nI_pos (by omega)), fun _ => zx_ordered hV ha hd (fun x6 e6 x7 e7 x8 e8 x9 e9 => zx_why hV hi ha hd ?_)⟩
            rw [e6] at e7
            unfold zod at e7
            rw [zn_mk hP14 (by omega)] at e7
            have hz := zwy_le μ D i a d
            -- what first becomes
            have go : ∀ M3 : Nat, M3 < 2 ^ 5 → zQe (μ (6 + 3 * i)) a d M3 → x9 = nI M3 → ((¬ nI (zwy μ D i a d) = 0 → fL_arePeople_103 k19 (fL_arePeople_44 k19 K m) (fL_arePeople_52 k19 (fL_arePeople_44 k19 K m) K m2) K 0 (zSum (fun i => μ (5 + 3 * i) 2) i) (zSum (fun i => μ (5 + 3 * i) 6) i) (zSum (fun i => μ (5 + 3 * i) 7) i) (nI (zbn i μ)) (zBI (zbe μ i)) (nI i) x9 (nI a) (nI d) F2 μ) ∧ (nI (zwy μ D i a d) = 0 → (∀ x13 : Int32, x13 = ((3 : Int32) * nI a) → (∀ x14 : Int32, x14 = (x13 + nI d) → fL_arePeople_103 k19 (fL_arePeople_44 k19 K m) (fL_arePeople_52 k19 (fL_arePeople_44 k19 K m) K m2) K 0 (zSum (fun i => μ (5 + 3 * i) 2) i) (zSum (fun i => μ (5 + 3 * i) 6) i) (zSum (fun i => μ (5 + 3 * i) 7) i) (nI (zbn i μ)) (zBI (zbe μ i)) (nI i) x9 (nI a) (nI d) x14 μ)))) := by
              intro M3 hM3 hQ3 e93
              unfold fL_arePeople_103
              rw [e93]
              refine (pk_eq (zwy μ D i a d) 0 (fun g x13 e13 x14 e14 x1 e1 => ?_) (fun g x1 e1 => ?_)).symm
              · rw [show (3 : Int32) = nI 3 from rfl, pk_mul] at e13
                rw [e13, nI_add] at e14
                rw [e1]
                refine ih2 d M3 x14 (by omega) (by omega) hM3 hQ3 ?_
                rw [zfi_at μ D i ha hd, if_pos g, e14]
              · rw [e1]
                refine ih2 d M3 F2 (by omega) (by omega) hM3 hQ3 ?_
                rw [zfi_at μ D i ha hd, if_neg g, qF]
                rfl
            by_cases b : μ (6 + 3 * i) a = nI d
            · rw [if_pos ⟨hi, by simp only [b, decide_true]⟩] at e7
              rw [e7] at e8
              have e8' : x8 = nI (2 ^ a) := e8.trans (zn_shl (by omega))
              rw [e8', zn_or] at e9
              exact go (M2 ||| 2 ^ a) (Nat.or_lt_two_pow qM (Nat.pow_lt_pow_right (by decide) ha)) (zQ_p hd b qQ) e9
            · rw [if_neg (fun z => by have := z.2; simp only [b, decide_false] at this; cases this)] at e7
              rw [e7, zn_sh0 (by omega)] at e8
              rw [e8, zn_or, Nat.or_zero] at e9
              exact go M2 qM (zQ_n b qQ) e9
      exact L zFU 3 M F (by omega) (by unfold zFU; omega) gM (zQ_s gQ) gF
theorem zx_people {n P D c : Nat} {μ : zMem} {K : Int32 → zMem → Prop} (hT : zT n P D c μ) (h : K 1 μ) : fL_arePeople 0 μ K := by
  have hV := hT.1
  have hP14 := hV.1.1
  unfold fL_arePeople
  have L : ∀ (m i : Nat), i ≤ P → P - i < m → fL_arePeople_19 K m 0 (zSum (fun i => μ (5 + 3 * i) 2) i) (zSum (fun i => μ (5 + 3 * i) 6) i) (zSum (fun i => μ (5 + 3 * i) 7) i) (nI (zbn i μ)) (zBI (zbe μ i)) 1 (nI i) μ := by
    intro m
    induction m with
    | zero => intro i g1 g2; omega
    | succ m ih =>
      intro i g1 g2
      show fL_arePeople_19b (fL_arePeople_19 K m) K 0 (zSum (fun i => μ (5 + 3 * i) 2) i) (zSum (fun i => μ (5 + 3 * i) 6) i) (zSum (fun i => μ (5 + 3 * i) 7) i) (nI (zbn i μ)) (zBI (zbe μ i)) 1 (nI i) μ
      unfold fL_arePeople_19b
      refine zx_cnt1 hV (pk_le P i (fun g => ?_) (fun hi => ⟨fun z => absurd z (by decide), fun _ => ?_⟩))
      · have ei : i = P := by omega
        subst ei
        unfold fL_arePeople_393 fL_arePeople_469 fL_arePeople_477
        refine ⟨fun z => absurd z (by decide), fun _ => zx_cnt7 hV ⟨fun z => absurd rfl z, fun _ => zx_cnt9 hV ⟨fun z => absurd rfl z, fun _ => zx_cnt4 hV ?_⟩⟩⟩
        have e4 : zSum (fun i => μ (5 + 3 * i) 7) i = zsd (fun d => μ (47 + 2 * d) 4) := by
          rw [hV.2.2.2.2]
          show μ 47 4 + μ 49 4 + μ 51 4 = 0 + μ 47 4 + μ 49 4 + μ 51 4
          rw [Int32.zero_add]
        rw [e4]
        refine ⟨fun z => absurd rfl z, fun _ => zx_cnt8 hV ⟨fun z => absurd rfl z, fun _ => zx_unsure0 hV ⟨fun z => absurd rfl z, fun _ => ?_⟩⟩⟩
        refine zx_unsure1 hV (fun c9 => ?_) (fun c9 => ?_)
        · rw [c9, show zBI 99 = (-6 : Int32) from rfl]
          exact ⟨fun z => absurd z (by decide), fun _ => ⟨fun z => absurd rfl z, fun _ => ⟨z_b1, h⟩⟩⟩
        · have eb : zBI (zbe μ i) = nI (zbe μ i) := if_neg (by omega)
          rw [eb]
          exact ⟨fun _ => zx_ldoubt hV c9 ⟨fun z => absurd rfl z, fun _ => ⟨z_b1, h⟩⟩, fun z => absurd (nI_pos' (by omega)) z⟩
      · refine zp_44 hT hi (ih (i + 1) (by omega) (by omega)) zFU 5 0 (-6) (by omega) (by unfold zFU; omega) (by decide) (fun k => ?_) rfl
        rw [Nat.zero_testBit]
        constructor
        · exact fun z => absurd z (by decide)
        · exact fun z => by omega
  exact L zFU 0 (by omega) (by unfold zFU; omega)
theorem zx_bits {M : Nat} {P : Nat} {b : Nat → Bool} {μ : zMem} {K : Int32 → zMem → Prop} (hP : P ≤ 14) (hM : M = zMk b P) (h : ∀ s, s ≤ P → K (nI s) μ) : fL_bits (nI M) μ K := by
  subst hM
  unfold fL_bits
  have L : ∀ (m i s : Nat), i ≤ 14 → 14 - i < m → s ≤ min i P → fL_bits_4 K m (nI (zMk b P)) (nI s) (nI i) μ := by
    intro m
    induction m with
    | zero => intro i s g1 g2; omega
    | succ m ih =>
      intro i s g1 g2 g3
      show fL_bits_4b (fL_bits_4 K m) K (nI (zMk b P)) (nI s) (nI i) μ
      unfold fL_bits_4b
      refine pk_le 14 i (fun g => h s (by omega)) (fun hi x2 e2 x3 e3 x4 e4 x5 e5 => ?_)
      rw [e2, zn_mk hP (by omega)] at e3
      rw [e3, nI_add] at e4
      rw [e4, e5, nI_1]
      refine ih (i + 1) _ (by omega) (by omega) ?_
      by_cases c : i < P ∧ b i = true
      · rw [if_pos c]
        omega
      · rw [if_neg c]
        omega
  exact L zFU 0 0 (by omega) (by unfold zFU; omega) (by omega)
