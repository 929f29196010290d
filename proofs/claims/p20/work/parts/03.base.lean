/-! THE LAYER: a world whose objects stand at fixed places behind one base address; a memory mu (object, place -> number); a judgement za_At over it; one row an instruction. -/
abbrev zMem : Type := Nat → Nat → Int32
abbrev zG : Type := va_G × (Nat → ClassId) × Nat
def zW : List Cond := lw_tbl.filter goodWord
def z_up (μ : zMem) (q k : Nat) (x : Int32) : zMem := fun a => if a = q then upd (μ a) k x else μ a
/-- kinds of the objects: 0 to 8 the classes; 9 int[4], 10 Person[14], 11 Dish[3], 12 int[5], 13 Canteen[7], 14 Canteen[2], 15 boolean[2], 16 char[80], 17 int[276], 18 int[1656], 19 int[552], 20 int[164] -/
def z_ck (r : Nat) : Nat := if r = 0 then 0 else if r = 1 then 9 else if r = 2 then 10 else if r = 3 then 11 else if r < 46 then (if (r - 4) % 3 = 0 then 5 else 12) else (if (r - 46) % 2 = 0 then 1 else 12)
def z_kd (q : Nat) : Nat := if q = 0 then 7 else if q < 53 then z_ck (q - 1) else if q = 53 then 2 else if q = 54 then 13 else if q < 419 then z_ck ((q - 55) % 52) else if q = 419 then 6 else if q = 420 then 14 else if q = 421 then 15 else if q < 526 then z_ck ((q - 422) % 52) else if q = 526 then 4 else if q = 527 then 16 else if q = 528 then 3 else if q = 529 then 8 else if q = 530 then 17 else if q = 531 then 17 else if q = 532 then 18 else if q = 533 then 19 else if q = 534 then 15 else if q = 535 then 20 else 16
def z_is (q k : Nat) : Prop := q < 537 ∧ z_kd q = k
/-- the fields of an object of a kind, as values -/
def z_fs (b : Nat) (f : Nat → Int32) (ci q : Nat) : List Value := match ci with
  | 0 => [.ref (b + (q + 1)), .ref (b + (q + 2)), .ref (b + (q + 3)), .int (f 3), .int (f 4), .int (f 5)]
  | 1 => [.ref (b + (q + 1)), .int (f 1), .int (f 2), .int (f 3), .int (f 4), .int (f 5)]
  | 2 => [.ref (b + (q + 1)), .int (f 1), .int (f 2)]
  | 3 => [.ref (b + 526), .int (f 1), .int (f 2), .int (f 3), .int (f 4), .int (f 5), .int (f 6)]
  | 4 => [.ref (b + (q + 1)), .int (f 1)]
  | 5 => [.ref (b + (q + 1)), .ref (b + (q + 2)), .int (f 2), .int (f 3), .int (f 4), .int (f 5), .int (f 6), .int (f 7), .int (f 8)]
  | 6 => [.ref (b + (q + 1)), .ref (b + (q + 2))]
  | 7 => [.ref (b + 1), .ref (b + 53), .ref (b + 419), .ref (b + 526), .ref (b + 528)]
  | _ => [.ref (b + 530), .ref (b + 531), .ref (b + 532), .ref (b + 533), .ref (b + 534), .ref (b + 535), .ref (b + 536), .int (f 7), .int (f 8), .int (f 9), .int (f 10)]
/-- an array of numbers of a kind: its class's place, its length -/
def z_nu (k : Nat) : Option (Nat × Nat) := match k with
  | 9 => some (0, 4)
  | 12 => some (0, 5)
  | 15 => some (2, 2)
  | 16 => some (1, 80)
  | 17 => some (0, 276)
  | 18 => some (0, 1656)
  | 19 => some (0, 552)
  | 20 => some (0, 164)
  | _ => none
/-- an array of references of a kind: its class's place, its length, its first row's place behind it, the rows' distance -/
def z_re (k : Nat) : Option (Nat × Nat × Nat × Nat) := match k with
  | 10 => some (3, 14, 2, 3)
  | 11 => some (4, 3, 43, 2)
  | 13 => some (5, 7, 1, 52)
  | 14 => some (5, 2, 2, 52)
  | _ => none
def z_en (G : zG) (f : Nat → Int32) (q : Nat) : va_E := match z_nu (z_kd q) with
  | some (t, n) => .inl (G.2.1 t, n, .inl f)
  | none => match z_re (z_kd q) with
    | some (t, n, o, d) => .inl (G.2.1 t, n, .inr (.inr (.inr (.inr (fun i => some (G.2.2 + (q + o + d * i)))))))
    | none => .inr (z_kd q, z_fs G.2.2 f (z_kd q) q)
def zw (G : zG) (μ : zMem) : va_W := (List.range 537).map (fun q => (G.2.2 + q, z_en G (μ q) q))
def zys (G : zG) : List (ClassId × FieldType) := [(G.2.1 0, .int), (G.2.1 1, .char), (G.2.1 2, .boolean), (G.2.1 3, .object RX5), (G.2.1 4, .object RX1), (G.2.1 5, .object RX0)]
def zA (G : zG) : Nat → Prop := fun q => G.2.2 ≤ q
theorem zw_get (G : zG) (μ : zMem) {q : Nat} (h : q < 537) : (zw G μ)[q]? = some (G.2.2 + q, z_en G (μ q) q) := by
  unfold zw
  rw [List.getElem?_map, List.getElem?_range h]
  rfl
theorem zw_ix {G : zG} {μ : zMem} {k : Nat} {x : Nat × va_E} (h : (zw G μ)[k]? = some x) : k < 537 ∧ x = (G.2.2 + k, z_en G (μ k) k) := by
  unfold zw at h
  rw [List.getElem?_map] at h
  have hk : k < 537 := by
    cases h2 : (List.range 537)[k]? with
    | none => rw [h2] at h; cases h
    | some y =>
      have := (List.getElem?_eq_some_iff.mp h2).1
      rwa [List.length_range] at this
  rw [List.getElem?_range hk] at h
  exact ⟨hk, (Option.some.inj h).symm⟩
theorem zw_D (G : zG) (μ : zMem) : va_D (zA G) (zw G μ) := by
  refine ⟨fun i j p q hi hj e => ?_, fun k q hk => ?_⟩
  · obtain ⟨-, rfl⟩ := zw_ix hi
    obtain ⟨-, rfl⟩ := zw_ix hj
    exact Nat.add_left_cancel e
  · obtain ⟨-, rfl⟩ := zw_ix hk
    exact Nat.le_add_right _ _
theorem zw_set (G : zG) (μ : zMem) {q k : Nat} {x : Int32} {en : va_E} (h : q < 537) (he : z_en G (upd (μ q) k x) q = en) : (zw G μ).set q (G.2.2 + q, en) = zw G (z_up μ q k x) := by
  apply List.ext_getElem?
  intro i
  by_cases hi : i < 537
  · rw [List.getElem?_set, zw_get G (z_up μ q k x) hi, zw_get G μ hi]
    by_cases hq : q = i
    · subst hq
      have hl : q < (zw G μ).length := by unfold zw; rw [List.length_map, List.length_range]; exact h
      rw [if_pos rfl, if_pos hl, ← he]
      have e2 : z_up μ q k x q = upd (μ q) k x := if_pos rfl
      rw [e2]
    · rw [if_neg hq]
      have e2 : z_up μ q k x i = μ i := if_neg (fun e => hq e.symm)
      rw [e2]
  · have h1 : (zw G (z_up μ q k x)).length ≤ i := by unfold zw; rw [List.length_map, List.length_range]; omega
    have h2 : ((zw G μ).set q (G.2.2 + q, en)).length ≤ i := by rw [List.length_set]; unfold zw; rw [List.length_map, List.length_range]; omega
    rw [List.getElem?_eq_none h1, List.getElem?_eq_none h2]
theorem z_enc (G : zG) (f : Nat → Int32) {q ci : Nat} (h : z_is q ci) (hn : z_nu ci = none) (hr : z_re ci = none) : z_en G f q = .inr (ci, z_fs G.2.2 f ci q) := by
  unfold z_en
  rw [h.2, hn]
  dsimp only
  rw [hr]
theorem z_enn (G : zG) (f : Nat → Int32) {q k t n : Nat} (h : z_is q k) (hn : z_nu k = some (t, n)) : z_en G f q = .inl (G.2.1 t, n, .inl f) := by
  unfold z_en
  rw [h.2, hn]
theorem z_enr (G : zG) (f : Nat → Int32) {q k t n o d : Nat} (h : z_is q k) (hn : z_nu k = none) (hr : z_re k = some (t, n, o, d)) : z_en G f q = .inl (G.2.1 t, n, .inr (.inr (.inr (.inr (fun i => some (G.2.2 + (q + o + d * i))))))) := by
  unfold z_en
  rw [h.2, hn]
  dsimp only
  rw [hr]
/-! what a method may take as given of the machine's state, beside its words -/
def zIsN : Cond → Bool
  | .fieldLinkNest _ _ _ _ _ _ => true
  | .methodLinkNest _ _ _ _ => true
  | _ => false
def zNw : List Cond := lw_tbl.filter zIsN
def zSt (G : zG) (U : State) (n : String) (f : Nat → Int32) : Prop := ∃ a : Nat, va_Z "CanteenPlates" n "[I" (.ref a) (zA G) U U.heap ∧ va_T .int a 4 (fun j => .int (f j)) (zA G) U U.heap
def zLo : Nat → Int32 := fun k => if k = 0 then 0 else if k = 1 then 0 else if k = 2 then 1 else 1
def zHi : Nat → Int32 := fun k => if k = 0 then 9 else if k = 1 then 20 else if k = 2 then 9 else 20
def zK (G : zG) (U : State) : Prop := va_K G.1 vwCl (zys G) U ∧ (∀ w ∈ zNw, va_Nw w U) ∧ zSt G U "LOWEST_VALUE" zLo ∧ zSt G U "HIGHEST_VALUE" zHi
