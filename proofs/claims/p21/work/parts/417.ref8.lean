/-! the reference: an order of the pad, the fault, all of them carried out -/
theorem zr_ord_end {v : Int32} {m0 m : zMem} {p o : Nat} {K : Int32 → zMem → Prop} (hS : zPS m0 m p o) (h1 : v = 1 → ∀ m2, zPS m0 m2 p (o + 1) → K 1 m2) (h0 : v = 0 → ∀ m2, zPS m0 m2 p o → K 0 m2) (hv : v = 0 ∨ v = 1) : fX8_readsOrder_237 K 529 v m := by
  unfold fX8_readsOrder_237 fX8_readsOrder_251
  rcases hv with rfl | rfl
  · refine ⟨fun _ x1 e1 m2 e2 => ⟨Or.inl rfl, ?_⟩, fun g => absurd rfl g⟩
    rw [e2]
    exact h0 rfl _ (zPS_9 hS (by rw [e1, hS.2.2.1, zq0, nI_add, Nat.add_zero]))
  · refine ⟨fun g => absurd g (by decide), fun _ x1 e1 m2 e2 => ⟨Or.inr rfl, ?_⟩⟩
    rw [e2]
    exact h1 rfl _ (zPS_9 hS (by rw [e1, hS.2.2.1]; exact nI_1 o))
theorem zr_readsOrder {m0 m : zMem} {ch : Nat → Int32} {n p o : Nat} {K : Int32 → zMem → Prop} (ho : o ≤ 40) (hB : zPB m0 ch n) (hS : zPS m0 m p o) (hp : p ≤ n) (h1 : (zpO (zT ch n) p).1 = true → ∀ m2, zPS m0 m2 (zpO (zT ch n) p).2 (o + 1) → K 1 m2) (h0 : (zpO (zT ch n) p).1 = false → ∀ m2, zPS m0 m2 (zpO (zT ch n) p).2 o → K 0 m2) : fX8_readsOrder 529 m K := by
  have hn := hB.1
  -- the end of a road: it came to v at place p2
  have fin : ∀ (b : Bool) (v : Int32) (p2 : Nat) (m2 : zMem), zpO (zT ch n) p = (b, p2) → v = (if b then 1 else 0) → zPS m0 m2 p2 o → fX8_readsOrder_237 K 529 v m2 := by
    intro b v p2 m2 e ev hS2
    rw [e] at h1 h0
    cases b with
    | true =>
      have ev : v = 1 := ev
      subst ev
      exact zr_ord_end hS2 (fun _ => h1 rfl) (fun g => absurd g (by decide)) (Or.inr rfl)
    | false =>
      have ev : v = 0 := ev
      subst ev
      exact zr_ord_end hS2 (fun g => absurd g (by decide)) (fun _ => h0 rfl) (Or.inl rfl)
  have go : ∀ v2 : Int32, fX8_readsOrder_36 K 529 (nI (4 * o)) v2 (nI (4 * o)) 535 m := by
    intro v2
    unfold fX8_readsOrder_36 fX8_readsOrder_231 fX8_readsOrder_236 fX8_readsOrder_199 fX8_readsOrder_200 fX8_readsOrder_152 fX8_readsOrder_148 fX8_readsOrder_153 fX8_readsOrder_93 fX8_readsOrder_94
    refine ⟨vp_in_nI (by omega) (by decide), fun m7 e7 x8 e8 => ?_⟩
    rw [zq2, nI_add] at e8
    rw [e8]
    refine ⟨vp_in_nI (by omega) (by decide), fun m10 e10 x11 e11 => ?_⟩
    rw [zq3, nI_add] at e11
    rw [e11]
    refine ⟨vp_in_nI (by omega) (by decide), fun m13 e13 => ?_⟩
    have s13 : zPS m0 m13 p o := by
      rw [e13]
      refine zPS_535 ?_
      rw [e10]
      refine zPS_535 ?_
      rw [e7]
      exact zPS_535 hS
    have hx3 : ∀ x34 : Int32, x34 = nI (4 * o) + (3 : Int32) → vp_in x34 164 := by
      intro x e
      rw [e, zq3, nI_add]
      exact vp_in_nI (by omega) (by decide)
    refine zr_accepts (by decide) hB s13 hp (fun cv m2 s2 => ⟨fun g => absurd g (by decide), fun _ => ?_⟩) (fun cv m2 s2 => ⟨fun _ => ?_, fun g => absurd rfl g⟩)
    · -- vouchers
      have hp1 : p < n := zT_e (by decide) cv
      have E : zpO (zT ch n) p = (if (zpN (zT ch n) (p + 1)).1 then (if zT ch n (zpN (zT ch n) (p + 1)).2 = 43 then zpN (zT ch n) ((zpN (zT ch n) (p + 1)).2 + 1) else (false, (zpN (zT ch n) (p + 1)).2)) else (false, (zpN (zT ch n) (p + 1)).2)) := by
        conv => lhs; unfold zpO
        rw [if_pos cv]
      have B1 := zpN_b (ch := ch) (n := n) (p := p + 1) hp1
      refine zr_number (a := 1) rfl (by decide) ho hB s2 hp1 (fun c1 m3 s3 => ⟨fun g => absurd g (by decide), fun _ => ?_⟩) (fun c1 m3 s3 => ⟨fun _ => ?_, fun g => absurd rfl g⟩)
      · rw [if_pos c1] at E
        refine zr_accepts (by decide) hB s3 B1.2 (fun c2 m4 s4 => ⟨fun g => absurd g (by decide), fun _ => ?_⟩) (fun c2 m4 s4 => ⟨fun _ => ?_, fun g => absurd rfl g⟩)
        · rw [if_pos c2] at E
          have hp2 := zT_e (by decide) c2
          refine zr_number (a := 2) rfl (by decide) ho hB s4 hp2 (fun c3 m5 s5 => ⟨fun g => absurd g (by decide), fun _ => ?_⟩) (fun c3 m5 s5 => ⟨fun _ => ?_, fun g => absurd rfl g⟩)
          · exact fin true 1 _ m5 (by rw [E]; exact Prod.ext c3 rfl) rfl s5
          · exact fin false 0 _ m5 (by rw [E]; exact Prod.ext c3 rfl) rfl s5
        · rw [if_neg c2] at E
          exact fin false 0 _ m4 E rfl s4
      · rw [if_neg (by rw [c1]; decide)] at E
        exact fin false 0 _ m3 E rfl s3
    refine zr_accepts (by decide) hB s2 hp (fun co m3 s3 => ⟨fun g => absurd g (by decide), fun _ => ?_⟩) (fun co m3 s3 => ⟨fun _ => ?_, fun g => absurd rfl g⟩)
    · -- an order
      have hp1 : p < n := zT_e (by decide) co
      have E : zpO (zT ch n) p = (if (zpN (zT ch n) (p + 1)).1 then (if (97 : Int32) ≤ zT ch n (zpN (zT ch n) (p + 1)).2 ∧ zT ch n (zpN (zT ch n) (p + 1)).2 ≤ 99 then (if zT ch n ((zpN (zT ch n) (p + 1)).2 + 1) = 43 then (if (48 : Int32) ≤ zT ch n ((zpN (zT ch n) (p + 1)).2 + 2) ∧ zT ch n ((zpN (zT ch n) (p + 1)).2 + 2) ≤ 57 then (true, (zpN (zT ch n) (p + 1)).2 + 3) else (false, (zpN (zT ch n) (p + 1)).2 + 2)) else (true, (zpN (zT ch n) (p + 1)).2 + 1)) else (false, (zpN (zT ch n) (p + 1)).2)) else (false, (zpN (zT ch n) (p + 1)).2)) := by
        conv => lhs; unfold zpO
        rw [if_neg cv, if_pos co]
      have B1 := zpN_b (ch := ch) (n := n) (p := p + 1) hp1
      refine zr_number (a := 1) rfl (by decide) ho hB s3 hp1 (fun c1 m4 s4 => ⟨fun g => absurd g (by decide), fun _ => ?_⟩) (fun c1 m4 s4 => ⟨fun _ => ?_, fun g => absurd rfl g⟩)
      · rw [if_pos c1] at E
        refine zr_sign (a := 2) rfl (by decide) ho (by decide) hB s4 B1.2 (fun c2 m5 s5 => ⟨fun g => absurd g (by decide), fun _ => ?_⟩) (fun c2 m5 s5 => ⟨fun _ => ?_, fun g => absurd rfl g⟩)
        · rw [if_pos c2] at E
          have hp2 := zT_lt (by decide) c2.1
          refine zr_accepts (by decide) hB s5 hp2 (fun c3 m6 s6 => ⟨fun g => absurd g (by decide), fun _ => ?_⟩) (fun c3 m6 s6 => ⟨fun _ => ?_, fun g => absurd rfl g⟩)
          · rw [if_pos c3] at E
            have hp3 := zT_e (by decide) c3
            refine zr_sign (a := 3) rfl (by decide) ho (by decide) hB s6 hp3 (fun c4 m7 s7 => ⟨fun g => absurd g (by decide), fun _ => ?_⟩) (fun c4 m7 s7 => ⟨fun _ => ?_, fun g => absurd rfl g⟩)
            · rw [if_pos c4] at E
              exact fin true 1 _ m7 E rfl s7
            · rw [if_neg c4] at E
              exact fin false 0 _ m7 E rfl s7
          · rw [if_neg c3] at E
            exact fin true 1 _ m6 E rfl s6
        · rw [if_neg c2] at E
          exact fin false 0 _ m5 E rfl s5
      · rw [if_neg (by rw [c1]; decide)] at E
        exact fin false 0 _ m4 E rfl s4
    refine zr_accepts (by decide) hB s3 hp (fun cc m4 s4 => ⟨fun g => absurd g (by decide), fun _ => ?_⟩) (fun cc m4 s4 => ⟨fun _ => ?_, fun g => absurd rfl g⟩)
    · -- a comer
      have hp1 : p < n := zT_e (by decide) cc
      have E : zpO (zT ch n) p = (if (zpN (zT ch n) (p + 1)).1 then (true, if (97 : Int32) ≤ zT ch n (zpN (zT ch n) (p + 1)).2 ∧ zT ch n (zpN (zT ch n) (p + 1)).2 ≤ 99 then (zpN (zT ch n) (p + 1)).2 + 1 else (zpN (zT ch n) (p + 1)).2) else (false, (zpN (zT ch n) (p + 1)).2)) := by
        conv => lhs; unfold zpO
        rw [if_neg cv, if_neg co, if_pos cc]
      have B1 := zpN_b (ch := ch) (n := n) (p := p + 1) hp1
      refine zr_number (a := 1) rfl (by decide) ho hB s4 hp1 (fun c1 m5 s5 x34 e34 => ⟨fun g => absurd g (by decide), fun _ => ?_⟩) (fun c1 m5 s5 x34 e34 => ⟨fun _ => ⟨hx3 _ e34, fun m6 e6 => ?_⟩, fun g => absurd rfl g⟩)
      · rw [if_pos c1] at E
        refine zr_sign (a := 2) rfl (by decide) ho (by decide) hB s5 B1.2 (fun c2 m6 s6 => ⟨fun g => absurd g (by decide), fun _ => ⟨hx3 _ e34, fun m7 e7 => ?_⟩⟩) (fun c2 m6 s6 => ⟨fun _ => ⟨hx3 _ e34, fun m7 e7 => ?_⟩, fun g => absurd rfl g⟩)
        · rw [if_pos c2] at E
          exact fin true 1 _ m7 E rfl (by rw [e7]; exact zPS_535 s6)
        · rw [if_neg c2] at E
          exact fin true 1 _ m7 E rfl (by rw [e7]; exact zPS_535 s6)
      · rw [if_neg (by rw [c1]; decide)] at E
        exact fin false 0 _ m6 E rfl (by rw [e6]; exact zPS_535 s5)
    have E : zpO (zT ch n) p = (if zT ch n p = 112 ∨ zT ch n p = 107 ∨ zT ch n p = 120 then (true, p + 1) else (false, p)) := by
      conv => lhs; unfold zpO
      rw [if_neg cv, if_neg co, if_neg cc]
    refine zr_accepts (by decide) hB s4 hp (fun cp m5 s5 => ⟨fun _ => ?_, fun g => absurd g (by decide)⟩) (fun cp m5 s5 => ⟨fun g => absurd rfl g, fun _ => ?_⟩)
    · rw [if_pos (Or.inl cp)] at E
      exact fin true 1 _ m5 E rfl s5
    refine zr_accepts (by decide) hB s5 hp (fun ck m6 s6 => ⟨fun _ => ?_, fun g => absurd g (by decide)⟩) (fun ck m6 s6 => ⟨fun g => absurd rfl g, fun _ => ?_⟩)
    · rw [if_pos (Or.inr (Or.inl ck))] at E
      exact fin true 1 _ m6 E rfl s6
    refine zr_accepts (by decide) hB s6 hp (fun cx m7 s7 => ⟨fun g => absurd g (by decide), fun _ => ?_⟩) (fun cx m7 s7 => ⟨fun _ => ?_, fun g => absurd rfl g⟩)
    · rw [if_pos (Or.inr (Or.inr cx))] at E
      exact fin true 1 _ m7 E rfl s7
    · rw [if_neg (fun g => g.elim cp (fun g => g.elim ck cx))] at E
      exact fin false 0 _ m7 E rfl s7
  unfold fX8_readsOrder
  intro x60 e60
  have e60 : x60 = nI (4 * o) := by rw [e60, hS.2.2.1, zq4, pk_mul]
  rw [e60]
  refine ⟨fun _ => go _, fun c => ⟨?_, fun x63 _ => go _⟩⟩
  have h7 : m 529 7 = nI n := by rw [hS.2.1 7 (by decide) (by decide)]; exact hB.2.1
  rw [hS.2.2.2]
  rw [h7, hS.2.2.2] at c
  have : ¬ n ≤ p := fun g => c ((nI_leI (by omega) (by omega)).mpr g)
  exact vp_in_nI (by omega) (by decide)
