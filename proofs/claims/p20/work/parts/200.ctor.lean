/-! THE LAYER FOR CONSTRUCTORS: n objects stand at the base address and behind it; entry k is E k; heaps' sizes are known -/
abbrev zE : Type := Nat → va_E
def zp (G : zG) (E : zE) (n : Nat) : va_W := (List.range n).map (fun q => (G.2.2 + q, E q))
theorem zp_get (G : zG) (E : zE) {n q : Nat} (h : q < n) : (zp G E n)[q]? = some (G.2.2 + q, E q) := by
  unfold zp
  rw [List.getElem?_map, List.getElem?_range h]
  rfl
theorem zp_ix {G : zG} {E : zE} {n k : Nat} {x : Nat × va_E} (h : (zp G E n)[k]? = some x) : k < n ∧ x = (G.2.2 + k, E k) := by
  unfold zp at h
  rw [List.getElem?_map] at h
  have hk : k < n := by
    cases h2 : (List.range n)[k]? with
    | none => rw [h2] at h; cases h
    | some y =>
      have := (List.getElem?_eq_some_iff.mp h2).1
      rwa [List.length_range] at this
  rw [List.getElem?_range hk] at h
  exact ⟨hk, (Option.some.inj h).symm⟩
theorem zp_P {G : zG} {E : zE} {n : Nat} {H : Heap} : va_P G.1 vwCl (zp G E n) H ↔ ∀ k, k < n → va_at G.1 vwCl (G.2.2 + k, E k) H := by
  constructor
  · exact fun h k hk => h k _ (zp_get G E hk)
  · intro h k x hx
    obtain ⟨hk, rfl⟩ := zp_ix hx
    exact h k hk
theorem zp_D (G : zG) (E : zE) (n : Nat) : va_D (zA G) (zp G E n) := by
  refine ⟨fun i j p q hi hj e => ?_, fun k q hk => ?_⟩
  · obtain ⟨-, rfl⟩ := zp_ix hi
    obtain ⟨-, rfl⟩ := zp_ix hj
    exact Nat.add_left_cancel e
  · obtain ⟨-, rfl⟩ := zp_ix hk
    exact Nat.le_add_right _ _
theorem zp_up {G : zG} {E : zE} {n a : Nat} {en : va_E} {H H1 : Heap} (h : va_P G.1 vwCl (zp G E n) H) (he : va_at G.1 vwCl (G.2.2 + a, en) H1) (oq : ∀ q : Nat, q ≠ G.2.2 + a → H1[q]? = H[q]?) : va_P G.1 vwCl (zp G (va_up E a en) n) H1 := by
  rw [zp_P] at h ⊢
  intro k hk
  unfold va_up
  by_cases hka : k = a
  · subst hka
    rw [if_pos rfl]
    exact he
  · rw [if_neg hka]
    exact (h k hk).kept (oq _ (fun e => hka (Nat.add_left_cancel e)))
theorem zp_push {G : zG} {E : zE} {n : Nat} {en : va_E} {H H1 : Heap} (hz : H.size = G.2.2 + n) (h : va_P G.1 vwCl (zp G E n) H) (he : va_at G.1 vwCl (G.2.2 + n, en) H1) (oq : ∀ q : Nat, q < G.2.2 + n → H1[q]? = H[q]?) : va_P G.1 vwCl (zp G (va_up E n en) (n + 1)) H1 := by
  rw [zp_P] at h ⊢
  intro k hk
  unfold va_up
  by_cases hka : k = n
  · subst hka
    rw [if_pos rfl]
    exact he
  · rw [if_neg hka]
    exact (h k (by omega)).kept (oq _ (by show G.2.2 + k < _; omega))
abbrev zRf (c : ClassId) (N : Nat) (f : Nat → Option Nat) : va_E := .inl (c, N, .inr (.inr (.inr (.inr f))))
/-- the same cell, as far as a heap can tell -/
def zEq (e e2 : va_E) : Prop := e = e2 ∨ ∃ (c : ClassId) (N : Nat) (f g : Nat → Option Nat), e = zRf c N f ∧ e2 = zRf c N g ∧ ∀ j, j < N → f j = g j
theorem zEq_at {e e2 : va_E} {D : va_G} {a : Nat} {H : Heap} (h : zEq e e2) (ha : va_at D vwCl (a, e) H) : va_at D vwCl (a, e2) H := by
  rcases h with rfl | ⟨c, N, f, g, rfl, rfl, hfg⟩
  · exact ha
  · have h1 : H[a]? = some (vp_cell c (N, .inr (.inr (.inr (.inr f))))) := ha
    have e1 : vp_cell c (N, .inr (.inr (.inr (.inr f)))) = vp_cell c (N, .inr (.inr (.inr (.inr g)))) := by
      rw [vp_cell_q, vp_cell_q]
      unfold arrV
      congr 2
      funext j
      exact congrArg va_rf (hfg j.val j.isLt)
    rw [e1] at h1
    exact h1
theorem zp_cong {G : zG} {E E2 : zE} {n : Nat} {H : Heap} (h : va_P G.1 vwCl (zp G E n) H) (he : ∀ k, k < n → zEq (E k) (E2 k)) : va_P G.1 vwCl (zp G E2 n) H := by
  rw [zp_P] at h ⊢
  exact fun k hk => zEq_at (he k hk) (h k hk)
def zc_At (p : Program) (l : Launch) (e : Env) (R : Room) (s : State) (m : MethodId) (args : Array Value) (below : List Frame) (meth : Method) (c : Code) (Q : State → Prop) (G : zG) (nL kc ks : Nat) (pc : Nat) (lv : List (Nat × Value)) (st : List Value) (E : zE) (n : Nat) : Prop :=
  ∀ (H : Heap) (locs : List Loc) (ls : Array Slot), va_P G.1 vwCl (zp G E n) H → H.size = G.2.2 + n → va_S (zA G) s.heap H locs → lv_has ls nL lv → W p l e R s m args below meth c H locs kc ks Q (F0 m pc ls st)
def zcOk (p : Program) (s : State) (m : MethodId) (args : Array Value) (meth : Method) (c : Code) (G : zG) (own : String) (cc : ByteArray) (nL : Nat) : Prop :=
  p.tables.exec = Jvm.exec ∧ c.code = cc ∧ meth.sig.returnType = none ∧ c.maxLocals = nL ∧ s.vm.findClass own = some m.cls ∧ (∀ w ∈ zW, w.before args s = true) ∧ zK G s ∧ meth.locks = false ∧ meth.name = "<init>" ∧ (∀ C, C ∈ [RX5, RX1, RX0] → va_AO C s)
section ZCT
variable {p : Program} {l : Launch} {e : Env} {R : Room} {s : State} {m : MethodId} {args : Array Value} {below : List Frame} {meth : Method} {c : Code} {Q : State → Prop} {G : zG} {nL kc ks : Nat} {own : String} {cc : ByteArray} {pc : Nat} {lv : List (Nat × Value)} {st : List Value} {E : zE} {n : Nat}
theorem zc_aload_n (o : zcOk p s m args meth c G own cc nL) {k : Fin 4} {i x : Nat} (j : Nat) (d : decode cc pc = .ok (.aload_n k, 1)) (hi : (k : Nat) = i) (hj : lv[j]? = some (i, .ref x))
    (h : zc_At p l e R s m args below meth c Q G nL kc ks (pc + 1) lv (.ref x :: st) E n) : zc_At p l e R s m args below meth c Q G nL kc ks pc lv st E n :=
  fun H L ls hP hz hS hl => lv_aload_n o.1 o.2.1 d hi (lv_at hl j hj) (h H L ls hP hz hS hl)
theorem zc_iload_n (o : zcOk p s m args meth c G own cc nL) {k : Fin 4} {i : Nat} {x : Int32} (j : Nat) (d : decode cc pc = .ok (.iload_n k, 1)) (hi : (k : Nat) = i) (hj : lv[j]? = some (i, .int x))
    (h : zc_At p l e R s m args below meth c Q G nL kc ks (pc + 1) lv (.int x :: st) E n) : zc_At p l e R s m args below meth c Q G nL kc ks pc lv st E n :=
  fun H L ls hP hz hS hl => lv_iload_n o.1 o.2.1 d hi (lv_at hl j hj) (h H L ls hP hz hS hl)
theorem zc_iconst (o : zcOk p s m args meth c G own cc nL) {z : Int} {v : Int32} (d : decode cc pc = .ok (.iconst z, 1)) (hv : Int32.ofInt z = v)
    (h : zc_At p l e R s m args below meth c Q G nL kc ks (pc + 1) lv (.int v :: st) E n) : zc_At p l e R s m args below meth c Q G nL kc ks pc lv st E n :=
  fun H L ls hP hz hS hl => lv_iconst o.1 o.2.1 d hv (h H L ls hP hz hS hl)
theorem zc_bipush (o : zcOk p s m args meth c G own cc nL) {z : Int} {v : Int32} (d : decode cc pc = .ok (.bipush z, 2)) (hv : (Int8.ofInt z).toInt32 = v)
    (h : zc_At p l e R s m args below meth c Q G nL kc ks (pc + 2) lv (.int v :: st) E n) : zc_At p l e R s m args below meth c Q G nL kc ks pc lv st E n :=
  fun H L ls hP hz hS hl => lv_bipush o.1 o.2.1 d hv (h H L ls hP hz hS hl)
theorem zc_sipush (o : zcOk p s m args meth c G own cc nL) {z : Int} {v : Int32} (d : decode cc pc = .ok (.sipush z, 3)) (hv : (Int16.ofInt z).toInt32 = v)
    (h : zc_At p l e R s m args below meth c Q G nL kc ks (pc + 3) lv (.int v :: st) E n) : zc_At p l e R s m args below meth c Q G nL kc ks pc lv st E n :=
  fun H L ls hP hz hS hl => lv_sipush o.1 o.2.1 d hv (h H L ls hP hz hS hl)
theorem zc_istore_n (o : zcOk p s m args meth c G own cc nL) {k : Fin 4} {i : Nat} {x : Int32} (lv' : List (Nat × Value)) (d : decode cc pc = .ok (.istore_n k, 1)) (hi : (k : Nat) = i) (hn : i < nL) (he : (i, Value.int x) :: lv.filter (fun q => !(q.1 == i) && !(q.1 + 1 == i && q.2.category == 2)) = lv')
    (h : zc_At p l e R s m args below meth c Q G nL kc ks (pc + 1) lv' st E n) : zc_At p l e R s m args below meth c Q G nL kc ks pc lv (.int x :: st) E n :=
  fun H L _ hP hz hS hl => lv_istore_n o.1 o.2.1 d hi hl hn he (fun ls' hl' => h H L ls' hP hz hS hl')
theorem zc_iinc (o : zcOk p s m args meth c G own cc nL) {i : Nat} {z : Int} {x : Int32} (v : Int32) (j : Nat) (lv' : List (Nat × Value)) (d : decode cc pc = .ok (.iinc i z, 3)) (hj : lv[j]? = some (i, .int x)) (hv : x + Int32.ofInt z = v) (hn : i < nL) (he : (i, Value.int v) :: lv.filter (fun q => !(q.1 == i) && !(q.1 + 1 == i && q.2.category == 2)) = lv')
    (h : zc_At p l e R s m args below meth c Q G nL kc ks (pc + 3) lv' st E n) : zc_At p l e R s m args below meth c Q G nL kc ks pc lv st E n :=
  fun H L _ hP hz hS hl => lv_iinc o.1 o.2.1 d hl (k := j) hj hv hn he (fun ls' hl' => h H L ls' hP hz hS hl')
theorem zc_goto (o : zcOk p s m args meth c G own cc nL) {off : Int} (tgt : Nat) (d : decode cc pc = .ok (.goto off, 3)) (ht : (pc : Int) + off = (tgt : Int))
    (h : zc_At p l e R s m args below meth c Q G nL kc ks tgt lv st E n) : zc_At p l e R s m args below meth c Q G nL kc ks pc lv st E n :=
  fun H L ls hP hz hS hl => lv_goto o.1 o.2.1 d ht (h H L ls hP hz hS hl)
theorem zc_dup (o : zcOk p s m args meth c G own cc nL) {v : Value} (d : decode cc pc = .ok (.dup, 1)) (hv : v.category = 1)
    (h : zc_At p l e R s m args below meth c Q G nL kc ks (pc + 1) lv (v :: v :: st) E n) : zc_At p l e R s m args below meth c Q G nL kc ks pc lv (v :: st) E n :=
  fun H L ls hP hz hS hl => lv_dup o.1 o.2.1 d hv (h H L ls hP hz hS hl)
theorem zc_iadd (o : zcOk p s m args meth c G own cc nL) {x y : Int32} (d : decode cc pc = .ok (.iadd, 1))
    (h : zc_At p l e R s m args below meth c Q G nL kc ks (pc + 1) lv (.int (x + y) :: st) E n) : zc_At p l e R s m args below meth c Q G nL kc ks pc lv (.int y :: .int x :: st) E n :=
  fun H L ls hP hz hS hl => lv_iadd o.1 o.2.1 d (h H L ls hP hz hS hl)
theorem zc_icmp_ge (o : zcOk p s m args meth c G own cc nL) {x y : Int32} {off : Int} (tgt : Nat) (d : decode cc pc = .ok (.if_icmp .ge off, 3)) (ht : (pc : Int) + off = (tgt : Int))
    (kt : y ≤ x → zc_At p l e R s m args below meth c Q G nL kc ks tgt lv st E n) (kf : ¬ y ≤ x → zc_At p l e R s m args below meth c Q G nL kc ks (pc + 3) lv st E n) : zc_At p l e R s m args below meth c Q G nL kc ks pc lv (.int y :: .int x :: st) E n :=
  fun H L ls hP hz hS hl => lv_icmp_ge o.1 o.2.1 d ht (fun z => kt z H L ls hP hz hS hl) (fun z => kf z H L ls hP hz hS hl)
theorem zc_icmp_gt (o : zcOk p s m args meth c G own cc nL) {x y : Int32} {off : Int} (tgt : Nat) (d : decode cc pc = .ok (.if_icmp .gt off, 3)) (ht : (pc : Int) + off = (tgt : Int))
    (kt : y < x → zc_At p l e R s m args below meth c Q G nL kc ks tgt lv st E n) (kf : ¬ y < x → zc_At p l e R s m args below meth c Q G nL kc ks (pc + 3) lv st E n) : zc_At p l e R s m args below meth c Q G nL kc ks pc lv (.int y :: .int x :: st) E n :=
  fun H L ls hP hz hS hl => lv_icmp_gt o.1 o.2.1 d ht (fun z => kt z H L ls hP hz hS hl) (fun z => kf z H L ls hP hz hS hl)
theorem zc_obj (o : zcOk p s m args meth c G own cc nL) {i x : Nat} (w1 : Cond.methodLink own i Lib.objectInit ∈ zW) (w2 : Cond.instanceMethod Lib.objectInit ∈ zW) (w3 : Cond.code Lib.objectInit ⟨#[0xb1]⟩ 1 none ∈ zW) (d : decode cc pc = .ok (.invokespecial i, 3)) (hf : 1 ≤ R.frames) (hlo : (st.map fun v => v.category).sum + 12 ≤ R.locals)
    (h : zc_At p l e R s m args below meth c Q G nL kc ks (pc + 3) lv st E n) : zc_At p l e R s m args below meth c Q G nL kc ks pc lv (.ref x :: st) E n := by
  intro H L ls hP hz hS hl
  refine W.objInit o.1 o.2.1 o.2.2.2.2.1 (o.2.2.2.2.2.1 _ w1) (o.2.2.2.2.2.1 _ w2) (o.2.2.2.2.2.1 _ w3) rfl (by rw [o.2.2.2.1]; exact hl.1) rfl d hf (by show 2 * 0 + _ + 12 ≤ _; omega) ?_
  exact h H L ls hP hz hS hl
theorem zc_eq {E2 : zE} (he : ∀ k, k < n → zEq (E k) (E2 k)) (h : zc_At p l e R s m args below meth c Q G nL kc ks pc lv st E2 n) : zc_At p l e R s m args below meth c Q G nL kc ks pc lv st E n :=
  fun H L ls hP hz hS hl => h H L ls (zp_cong hP he) hz hS hl
theorem zc_sub {lv' : List (Nat × Value)} (is : List Nat) (he : lv_pick lv is = lv') (h : zc_At p l e R s m args below meth c Q G nL kc ks pc lv' st E n) : zc_At p l e R s m args below meth c Q G nL kc ks pc lv st E n :=
  fun H L ls hP hz hS hl => h H L ls hP hz hS (lv_sub hl is he)
theorem zc_new (o : zcOk p s m args meth c G own cc nL) {ci i N : Nat} {C : String} {T : u_T} {ty0 : Nat → FieldType} (fs : List Value) (hc : zCls ci C T N ty0) (w1 : Cond.classLink own i C ∈ zW) (w2 : Cond.instantiable C N ∈ zW) (w3 : Cond.initialized C ∈ zW) (hfs : ∀ j, j < N → defaultValue (ty0 j) = vp_V fs j) (h1 : kc + 1 ≤ R.cells) (h2 : ks + N ≤ R.slots) (d : decode cc pc = .ok (.new i, 3))
    (h : zc_At p l e R s m args below meth c Q G nL (kc + 1) (ks + N) (pc + 3) lv (.ref (G.2.2 + n) :: st) (va_up E n (.inr (ci, fs))) (n + 1)) : zc_At p l e R s m args below meth c Q G nL kc ks pc lv st E n := by
  intro H L ls hP hz hS hl
  have hKn := o.2.2.2.2.2.2.1.1.1 ci _ hc.1
  have hts := o.2.2.2.2.2.1
  refine W.newcK o.1 o.2.1 o.2.2.2.2.1 (hts _ w1) (hts _ w2) (hts _ w3) rfl d h1 h2 hKn.2.1 hz fun H1 kC hkC e1 z1 o1 => ?_
  exact h H1 L ls (zp_push hz hP ⟨_, hc.1, (u_born ty0 hts hc.2.1 hKn hkC e1 hc.2.2.1).to hfs⟩ o1) (by rw [z1, Nat.add_assoc]) ⟨Nat.le_trans hS.1 (by omega), fun x hx1 hx2 => (o1 x (by have := hS.1; omega)).trans (hS.2.1 x hx1 hx2), hS.2.2⟩ hl
theorem zc_newa (o : zcOk p s m args meth c G own cc nL) {at_ : ArrayType} {ty : FieldType} {z : Int32} {N t : Nat} (hty : newarray.typeOf at_ = ty) (hi : (ty = .int ∧ t = 0) ∨ (ty = .char ∧ t = 1) ∨ (ty = .boolean ∧ t = 2)) (w1 : Cond.arrayClass ty ∈ zW) (hz0 : ¬ z < 0) (hN : z.toNatClampNeg = N) (hby : N * componentBytes ty ≤ 536870912) (h1 : kc + 1 ≤ R.cells) (h2 : ks + N ≤ R.slots) (d : decode cc pc = .ok (.newarray at_, 2))
    (h : zc_At p l e R s m args below meth c Q G nL (kc + 1) (ks + N) (pc + 2) lv (.ref (G.2.2 + n) :: st) (va_up E n (.inl (G.2.1 t, N, .inl (fun _ => 0)))) (n + 1)) : zc_At p l e R s m args below meth c Q G nL kc ks pc lv (.int z :: st) E n := by
  intro H L ls hP hz hS hl
  subst hty
  refine va_newaK o.1 o.2.1 (o.2.2.2.2.2.1 _ w1) rfl d rfl hz0 hN hby h1 h2 hz fun H1 cA e1 z1 o1 _ hf => ?_
  have hk := o.2.2.2.2.2.2.1.1.2
  have hA : cA = G.2.1 t ∧ (fun _ : Nat => defaultValue (newarray.typeOf at_)) = (fun _ : Nat => Value.int 0) := by
    rcases hi with ⟨h3, rfl⟩ | ⟨h3, rfl⟩ | ⟨h3, rfl⟩ <;> rw [h3] at hf ⊢
    · exact ⟨Option.some.inj (hf.symm.trans (hk 0 _ rfl).2), rfl⟩
    · exact ⟨Option.some.inj (hf.symm.trans (hk 1 _ rfl).2), rfl⟩
    · exact ⟨Option.some.inj (hf.symm.trans (hk 2 _ rfl).2), rfl⟩
  rw [hA.1, hA.2] at e1
  exact h H1 L ls (zp_push hz hP e1 o1) (by rw [z1, Nat.add_assoc]) ⟨Nat.le_trans hS.1 (by omega), fun x hx1 hx2 => (o1 x (by have := hS.1; omega)).trans (hS.2.1 x hx1 hx2), hS.2.2⟩ hl
theorem zc_anewa (o : zcOk p s m args meth c G own cc nL) {i N t : Nat} {C : String} {z : Int32} (hC : C ∈ [RX5, RX1, RX0]) (ht : (zys G)[t]? = some (G.2.1 t, .object C)) (w1 : Cond.classLink own i C ∈ zW) (hz0 : ¬ z < 0) (hN : z.toNatClampNeg = N) (hby : N * 4 ≤ 536870912) (h1 : kc + 1 ≤ R.cells) (h2 : ks + N ≤ R.slots) (d : decode cc pc = .ok (.anewarray i, 3))
    (h : zc_At p l e R s m args below meth c Q G nL (kc + 1) (ks + N) (pc + 3) lv (.ref (G.2.2 + n) :: st) (va_up E n (.inl (G.2.1 t, N, .inr (.inr (.inr (.inr (fun _ => none))))))) (n + 1)) : zc_At p l e R s m args below meth c Q G nL kc ks pc lv (.int z :: st) E n := by
  intro H L ls hP hz hS hl
  subst hN
  refine W.anew o.1 o.2.1 o.2.2.2.2.1 (o.2.2.2.2.2.1 _ w1) (va_AO.use (o.2.2.2.2.2.2.2.2.2 _ hC)) rfl d rfl hz0 hby h1 h2 fun cA kA comp f1 f2 f3 f4 => ?_
  obtain ⟨kA2, comp2, -, -, -, g4⟩ := (o.2.2.2.2.2.2.1.1.2 t _ ht).2
  have hA : cA = G.2.1 t := Option.some.inj (f1.symm.trans g4)
  subst hA
  generalize hH1 : H.push ({ cls := G.2.1 t, slots := Array.replicate z.toNatClampNeg .null, vm := .none } : Cell) = H1
  have z1 : H1.size = G.2.2 + (n + 1) := by rw [← hH1, Array.size_push, hz, Nat.add_assoc]
  have e1 : H1[G.2.2 + n]? = some (arrV (G.2.1 t) z.toNatClampNeg (fun _ => .null)) := by rw [← hH1, ← hz, Array.getElem?_push_size, ← arrV_new]
  have o1 : ∀ q : Nat, q < G.2.2 + n → H1[q]? = H[q]? := fun q hq => by rw [← hH1, Array.getElem?_push, if_neg (by omega)]
  rw [hz]
  exact h H1 L ls (zp_push hz hP e1 o1) z1 ⟨by have := hS.1; omega, fun x hx1 hx2 => (o1 x (by have := hS.1; omega)).trans (hS.2.1 x hx1 hx2), hS.2.2⟩ hl
theorem zc_putF (o : zcOk p s m args meth c G own cc nL) {a ci i N : Nat} (k : Nat) {C : String} {T : u_T} {ty0 : Nat → FieldType} {ty : FieldType} {v : Value} {fs : List Value} (hc : zCls ci C T N ty0) (ha : a < n) (hE : E a = .inr (ci, fs)) (hk : k < N) (hw : Cond.fieldLink own i (T k).1 (T k).2.1 (T k).2.2.1 ∈ zW) (hf : (T k).2.2.2 = true) (hdecl : (T k).1 = own) (hd : parseFieldDescriptor (T k).2.2.1 = some ty) (hn : narrow ty v = v) (hfit : fits ty v = true) (hl0 : k < fs.length) (d : decode cc pc = .ok (.putfield i, 3))
    (h : zc_At p l e R s m args below meth c Q G nL kc ks (pc + 3) lv st (va_up E a (.inr (ci, fs.set k v))) n) : zc_At p l e R s m args below meth c Q G nL kc ks pc lv (v :: .ref (G.2.2 + a) :: st) E n := by
  intro H L ls hP hz hS hl
  have hts := o.2.2.2.2.2.1
  have hown := o.2.2.2.2.1
  have hK := o.2.2.2.2.2.2.1.1
  have hap := va_apart (own := own) hts hc.2.1 ty0 hc.2.2.1 hc.2.2.2.1 hK hc.1
  have hat := zp_P.mp hP a ha
  rw [hE] at hat
  obtain ⟨r, h1, cell, q1, q2, q3, q4⟩ := hat
  have hr : r = (C, T, N) := Option.some.inj (h1.symm.trans hc.1)
  subst hr
  obtain ⟨hSl, hfc, kC, hkC, hkind⟩ := hK.1 ci _ hc.1
  obtain ⟨cf, kf, fi, f, hi, hsl⟩ := hSl k hk
  have hlay := hts _ (hc.2.1 _ (u_in_lay hk))
  unfold u_lay at hlay
  rw [if_pos hf] at hlay
  have hst := (u_facts hfc hkC (u_lays hts hc.2.1 hk) hi).1
  have hcf : m.cls = cf := by
    obtain ⟨_, _, c', _, _, _, -, -, hf', -, -, -, hown2, -⟩ := Cond.laysFinal_spec hlay
    have e1 : c' = cf := by have := hi.symm.trans hf'; simp at this; exact this.1.symm
    rw [hdecl] at hown2
    rw [← e1]; exact Option.some.inj (hown.symm.trans hown2)
  have h6 := u_fits hfc hkC hkind (Or.inr hlay) hi hd hn hfit
  refine W.putFinK o.1 o.2.1 hown (hts _ hw) hi hst hcf o.2.2.2.2.2.2.2.2.1 (by rw [q2]; exact h6) q1 q3 (by rw [hsl]; exact k2_hasslot (q4 k hk)) rfl rfl d fun H' e1 e2 e3 => ?_
  rw [hsl] at e1 ⊢
  exact h H' _ ls (zp_up hP ⟨_, hc.1, t_OB.to (V := updV (vp_V fs) k v) ⟨_, e1, q2, q3, t_set q4 hap hk v⟩ (fun j _ => vp_updV_set hl0 v j)⟩ e3) (e2.trans hz) (hS.put e2 e3 (Nat.le_add_right _ _)) hl
theorem zc_getf (o : zcOk p s m args meth c G own cc nL) {a ci i N : Nat} (k : Nat) {C : String} {T : u_T} {ty0 : Nat → FieldType} {v : Value} {fs : List Value} (hc : zCls ci C T N ty0) (ha : a < n) (hE : E a = .inr (ci, fs)) (hk : k < N) (hw : Cond.fieldLink own i (T k).1 (T k).2.1 (T k).2.2.1 ∈ zW) (hv : fs[k]? = some v) (d : decode cc pc = .ok (.getfield i, 3))
    (h : zc_At p l e R s m args below meth c Q G nL kc ks (pc + 3) lv (v :: st) E n) : zc_At p l e R s m args below meth c Q G nL kc ks pc lv (.ref (G.2.2 + a) :: st) E n :=
  fun H L ls hP hz hS hl => va_get o.1 o.2.1 o.2.2.2.2.2.1 hc.2.1 o.2.2.2.2.1 o.2.2.2.2.2.2.1.1 hP a (by rw [zp_get G E ha, hE]) hc.1 k hk (o.2.2.2.2.2.1 _ hw) (fun _ z => z) hv d (h H L ls hP hz hS hl)
theorem zc_iast (o : zcOk p s m args meth c G own cc nL) {a N : Nat} {f : Nat → Int32} {i x : Int32} (ha : a < n) (hE : E a = .inl (G.2.1 0, N, .inl f)) (hin : vp_in i N) (d : decode cc pc = .ok (.iastore, 1))
    (h : zc_At p l e R s m args below meth c Q G nL kc ks (pc + 1) lv st (va_up E a (.inl (G.2.1 0, N, .inl (upd f i.toNatClampNeg x)))) n) : zc_At p l e R s m args below meth c Q G nL kc ks pc lv (.int x :: .int i :: .ref (G.2.2 + a) :: st) E n := by
  intro H L ls hP hz hS hl
  have hat := zp_P.mp hP a ha
  rw [hE] at hat
  refine W.iast o.1 o.2.1 hat ((o.2.2.2.2.2.2.1.1.2 0 _ rfl).1 N (fun j => .int (f j))) (fun q => by cases q) (by show ¬ (i < 0 ∨ (arrV _ _ _).slots.size ≤ _); rw [arrV_size]; exact hin) rfl rfl d fun H1 e z oq => ?_
  refine h H1 _ ls (zp_up hP ?_ oq) (z.trans hz) (hS.put z oq (Nat.le_add_right _ _)) hl
  show H1[G.2.2 + a]? = some (vp_cell _ _)
  rw [e, vp_cell_i, vp_cell_i, arrV_store]
  congr 2
  funext q
  by_cases hq : q = i.toNatClampNeg
  · subst hq
    simp [updV, upd]
  · simp [updV, upd, hq]
theorem zc_aast (o : zcOk p s m args meth c G own cc nL) {a N t ci v : Nat} {C : String} {T : u_T} {NN : Nat} {ty0 : Nat → FieldType} {f : Nat → Option Nat} {vs : List Value} {i : Int32} (hc : zCls ci C T NN ty0) (ht : (zys G)[t]? = some (G.2.1 t, .object C)) (ha : a < n) (hE : E a = .inl (G.2.1 t, N, .inr (.inr (.inr (.inr f))))) (hv : v < n) (hEv : E v = .inr (ci, vs)) (hin : vp_in i N) (d : decode cc pc = .ok (.aastore, 1))
    (h : zc_At p l e R s m args below meth c Q G nL kc ks (pc + 1) lv st (va_up E a (.inl (G.2.1 t, N, .inr (.inr (.inr (.inr (va_up f i.toNatClampNeg (some (G.2.2 + v)))))))))  n) : zc_At p l e R s m args below meth c Q G nL kc ks pc lv (.ref (G.2.2 + v) :: .int i :: .ref (G.2.2 + a) :: st) E n := by
  intro H L ls hP hz hS hl
  have hK := o.2.2.2.2.2.2.1.1
  have hat := zp_P.mp hP a ha
  rw [hE] at hat
  have hav := zp_P.mp hP v hv
  rw [hEv] at hav
  have hlt : i.toNatClampNeg < N := Nat.not_le.mp fun q => hin (Or.inr q)
  have h0 : ¬ i < 0 := fun q => hin (Or.inl q)
  obtain ⟨r', hr', cellV, g1, g2, g3, -⟩ := hav
  have hcls := (hK.1 ci _ hc.1).2
  obtain ⟨kA, comp, k1, k2, k3, -⟩ := (hK.2 t _ ht).2
  have hcomp : comp = G.1.1 ci := Option.some.inj (k3.symm.trans hcls.1)
  subst hcomp
  obtain ⟨kC, hkC, -⟩ := hcls.2
  refine W.aast o.1 o.2.1 hat (fun q h => by cases h) (fun h => by cases h) k1 k2 rfl hkC ⟨h0, by show _ < (arrV _ _ _).slots.size; rw [arrV_size]; exact hlt⟩ g1 (fun q h => by rw [g3] at h; cases h) (by rw [g2]; exact hkC) (by rw [g2]; exact va_assign hcls) rfl rfl d fun H1 e z oq => ?_
  refine h H1 _ ls (zp_up hP ?_ oq) (z.trans hz) (hS.put z oq (Nat.le_add_right _ _)) hl
  show H1[G.2.2 + a]? = some (vp_cell _ _)
  rw [e, vp_cell_q, vp_cell_q, arrV_store]
  congr 2
  funext q
  by_cases hq : q = i.toNatClampNeg
  · subst hq
    simp [updV, va_up, va_rf]
  · simp [updV, va_up, hq]
/-! contracts of constructors -/
def zc_Pre (G : zG) (E : zE) (n : Nat) (As : List Value) : Array Value → State → Prop := va_Pc As (fun U => va_P G.1 vwCl (zp G E n) U.heap ∧ U.heap.size = G.2.2 + n ∧ zK G U ∧ (∀ C, C ∈ [RX5, RX1, RX0] → va_AO C U))
theorem zc_blind {As : List Value} : FrameBlind (zc_Pre G E n As) := fun _ U g mk h => ⟨h.1, h.2.1, h.2.2.1, zK_call h.2.2.2.1, fun C hC => va_AO.moved (u := U) (U := U.calling g mk _) (Vm.Alike.refl U.vm) (h.2.2.2.2 C hC)⟩
abbrev zcQ (G : zG) (E : zE) (n : Nat) : Array Value → State → Outcome → State → Prop := va_Qv (fun _ : Unit => True) (fun _ t => va_P G.1 vwCl (zp G E n) t.heap ∧ t.heap.size = G.2.2 + n) (zA G)
def zcRm (f w mc ms : Nat) : Room := { frames := f, cells := mc, slots := ms, locals := w }
def zc_Met (l : Launch) (G : zG) (y : MethodName) (cc : ByteArray) (nL : Nat) (f w mc ms : Nat) (As : List Value) (E : zE) (n : Nat) (E2 : zE) (n2 : Nat) : Prop := Met l y (.code y cc nL none :: zW) (zcRm f w mc ms) (zc_Pre G E n As) (zcQ G E2 n2) mc ms (zA G)
theorem zc_body {l : Launch} {G : zG} {y : MethodName} {cc : ByteArray} {nL f w mc ms : Nat} {As : List Value} {E E2 : zE} {n n2 : Nat} (hy : plainName y.cls = true) (hyi : y.name = "<init>") (hAs : (lg_sl As).length ≤ nL)
    (h : ∀ (p : Program) (e : Env) (s : State) (m : MethodId) (args : Array Value) (below : List Frame) (meth : Method) (c : Code), zcOk p s m args meth c G y.cls cc nL → zc_At p l e (zcRm f w mc ms) s m args below meth c (MQ below (zcQ G E2 n2) args s mc ms (zA G)) G nL 0 0 0 (lv_args 0 As) [] E n) : zc_Met l G y cc nL f w mc ms As E n E2 n2 := by
  refine Met.ofW (cc := cc) (maxL := nL) (ret := none) hy rfl ?_
  intro p e s m args below meth c s₁ B hml hv
  obtain ⟨rfl, hP, hz, hK, hAO⟩ := hv
  have hts := atoms_spec (ws := .code y cc nL none :: zW) B.pre
  have hown : s.vm.findClass y.cls = some m.cls := findClass_of_methodNamed B.named
  have hl := lv_entry As (n := nL) hAs
  rw [lg_entry_eq]
  exact h p e s m _ below meth c ⟨B.exec, B.bytes, B.returns, hml, hown, fun w hw => hts w (List.mem_cons_of_mem _ hw), hK, B.notSynchronized, (name_of_methodNamed B.named B.method).1.trans hyi, hAO⟩ s.heap [] _ hP hz va_S.rf hl
theorem zc_vret {mc ms : Nat} (o : zcOk p s m args meth c G own cc nL) {E2 : zE} (he : ∀ k, k < n → zEq (E k) (E2 k)) (h1 : kc = mc) (h2 : ks = ms) (d : decode cc pc = .ok (.return_, 1)) : zc_At p l e R s m args below meth c (MQ below (zcQ G E2 n) args s mc ms (zA G)) G nL kc ks pc lv [] E n := by
  subst h1
  subst h2
  exact fun H L ls hP hz hS hl => W.vret o.1 o.2.1 o.2.2.1 (fun t ht hW => ⟨⟨(), rfl, trivial, by show va_P G.1 vwCl (zp G E2 n) t.heap ∧ t.heap.size = G.2.2 + n; rw [ht]; exact ⟨zp_cong hP he, hz⟩⟩, hS.F ht⟩) hS.2.2 d o.2.2.2.2.2.2.2.1
variable {y : MethodName} {cc2 : ByteArray} {nL2 i f w mc ms na : Nat} {stk : List Value}
theorem zc_call (o : zcOk p s m args meth c G own cc nL) {q n2 : Nat} {E2 : zE} (As : List Value) (hM : zc_Met l G y cc2 nL2 f w mc ms (.ref (G.2.2 + q) :: As) E n E2 n2) (hy : zMw y cc2 nL2 none na) (hy1 : y.name = "<init>") (hi : Cond.methodLink own i y ∈ zW) (h1 : Cond.instanceMethod y ∈ zW) (hn : As.length = na) (hR : f + 1 ≤ R.frames ∧ 8 + (nL2 + 11) + w ≤ R.locals) (hc : kc + mc ≤ R.cells ∧ ks + ms ≤ R.slots)
    (hst : stk = As.reverse ++ .ref (G.2.2 + q) :: st) (hcat : (st.map fun v => v.category).sum ≤ 8) (d : decode cc pc = .ok (.invokespecial i, 3)) (kk : zc_At p l e R s m args below meth c Q G nL (kc + mc) (ks + ms) (pc + 3) lv st E2 n2) : zc_At p l e R s m args below meth c Q G nL kc ks pc lv stk E n := by
  subst hst
  intro H L ls hP hz hS hl
  have hts := o.2.2.2.2.2.1
  refine va_callv (va_runI (As := As) (rest := st) ⟨o.1, o.2.1, o.2.2.2.1, o.2.2.2.2.1, hts⟩ hM ⟨callB_of na hts (z_good hy.1) rfl rfl rfl (hts _ hy.2.1) (hts _ hi) hy.2.2 hR, hy1, hts _ h1⟩ ⟨zc_blind, fun U hU hW => ⟨rfl, by rw [hU]; exact hP, by rw [hU]; exact hz, zK_warm hU hW hS o.2.2.2.2.2.2.1, fun C hC => va_AO.moved hW.alike (o.2.2.2.2.2.2.2.2.2 C hC)⟩⟩ rfl hn hl.1 rfl (lv_room hcat) d hc) hS (fun _ _ h => h) (fun _ h => h) (fun u t H1 L1 ht hvm hw hB hz1 hk hS1 => ?_)
  rw [ht] at hB
  exact kk H1 L1 ls hB.1 hB.2 hS1 hl
theorem zc_callN (o : zcOk p s m args meth c G own cc nL) {q n2 : Nat} {host : String} {E2 : zE} (As : List Value) (hM : zc_Met l G y cc2 nL2 f w mc ms (.ref (G.2.2 + q) :: As) E n E2 n2) (hy : zMw y cc2 nL2 none na) (hy1 : y.name = "<init>") (hi : Cond.methodLinkNest own i y host ∈ zNw) (h1 : Cond.instanceMethod y ∈ zW) (hn : As.length = na) (hR : f + 1 ≤ R.frames ∧ 8 + (nL2 + 11) + w ≤ R.locals) (hc : kc + mc ≤ R.cells ∧ ks + ms ≤ R.slots)
    (hst : stk = As.reverse ++ .ref (G.2.2 + q) :: st) (hcat : (st.map fun v => v.category).sum ≤ 8) (d : decode cc pc = .ok (.invokespecial i, 3)) (kk : zc_At p l e R s m args below meth c Q G nL (kc + mc) (ks + ms) (pc + 3) lv st E2 n2) : zc_At p l e R s m args below meth c Q G nL kc ks pc lv stk E n := by
  subst hst
  intro H L ls hP hz hS hl
  have hts := o.2.2.2.2.2.1
  refine va_callv (va_runIN (As := As) (rest := st) ⟨o.1, o.2.1, o.2.2.2.1, o.2.2.2.2.1, hts⟩ hM ⟨va_cnB na hts (z_good hy.1) rfl rfl rfl (o.2.2.2.2.2.2.1.2.1 _ hi) (hts _ hy.2.1) hy.2.2 hR, hy1, hts _ h1⟩ ⟨zc_blind, fun U hU hW => ⟨rfl, by rw [hU]; exact hP, by rw [hU]; exact hz, zK_warm hU hW hS o.2.2.2.2.2.2.1, fun C hC => va_AO.moved hW.alike (o.2.2.2.2.2.2.2.2.2 C hC)⟩⟩ rfl hn hl.1 rfl (lv_room hcat) d hc) hS (fun _ _ h => h) (fun _ h => h) (fun u t H1 L1 ht hvm hw hB hz1 hk hS1 => ?_)
  rw [ht] at hB
  exact kk H1 L1 ls hB.1 hB.2 hS1 hl
end ZCT
