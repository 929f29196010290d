/-! contracts and calls over the layer -/
theorem zK_moved {G : zG} {u U : State} (hvm : u.vm.Alike U.vm) (hN : ∀ w ∈ zNw, va_Nw w u → va_Nw w U) (hh : ∀ q : Nat, q < u.heap.size → ¬ zA G q → U.heap[q]? = u.heap[q]?) (h : zK G u) : zK G U := by
  obtain ⟨h1, h2, ⟨a, h3, h4⟩, ⟨b, h5, h6⟩⟩ := h
  exact ⟨h1.moved hvm, fun w hw => hN w hw (h2 w hw), ⟨a, (h3.moved hvm).kept hh, (h4.moved hvm).kept hh⟩, ⟨b, (h5.moved hvm).kept hh, (h6.moved hvm).kept hh⟩⟩
theorem zNw_cases {w : Cond} (h : w ∈ zNw) : (∃ a i b n d g, w = .fieldLinkNest a i b n d g) ∨ ∃ a i x g, w = .methodLinkNest a i x g := by
  have h2 := (List.mem_filter.mp h).2
  unfold zIsN at h2
  split at h2
  · exact Or.inl ⟨_, _, _, _, _, _, rfl⟩
  · exact Or.inr ⟨_, _, _, _, rfl⟩
  · cases h2
theorem zK_warm {G : zG} {s U : State} {H : Heap} {L : List Loc} (hU : U.heap = H) (hW : s.WarmedH U.vm) (hS : va_S (zA G) s.heap H L) (h : zK G s) : zK G U := by
  refine zK_moved hW.alike (fun w hw hz => ?_) (fun q h1 h2 => by rw [hU]; exact hS.2.1 q h1 h2) h
  rcases zNw_cases hw with ⟨a, i, b, n, d, g, rfl⟩ | ⟨a, i, x, g, rfl⟩
  · exact va_Nw.warmF hW hz
  · exact va_Nw.warmM hW hz
theorem zK_call {G : zG} {U : State} {g : JFrame} {mk : MethodId} {a : Array Value} (h : zK G U) : zK G (U.calling g mk a) := by
  refine zK_moved (u := U) (U := U.calling g mk a) (Vm.Alike.refl U.vm) (fun w hw hz => ?_) (fun _ _ _ => rfl) h
  rcases zNw_cases hw with ⟨a, i, b, n, d, g, rfl⟩ | ⟨a, i, x, g, rfl⟩
  · exact va_Nw.same rfl (rfl : U.vm = (U.calling _ _ _).vm) hz
  · exact va_Nw.same rfl (rfl : U.vm = (U.calling _ _ _).vm) hz
def z_Pre (G : zG) (μ : zMem) (As : List Value) : Array Value → State → Prop := va_Pc As (fun U => va_P G.1 vwCl (zw G μ) U.heap ∧ zK G U)
theorem z_blind {G : zG} {μ : zMem} {As : List Value} : FrameBlind (z_Pre G μ As) := fun _ _ _ _ h => ⟨h.1, h.2.1, zK_call h.2.2⟩
abbrev zQi (G : zG) (K : Int32 → zMem → Prop) : Array Value → State → Outcome → State → Prop := va_Qi K (fun μ' t => va_P G.1 vwCl (zw G μ') t.heap) (zA G)
abbrev zQv (G : zG) (K : zMem → Prop) : Array Value → State → Outcome → State → Prop := va_Qv K (fun μ' t => va_P G.1 vwCl (zw G μ') t.heap) (zA G)
def z_Met (l : Launch) (G : zG) (y : MethodName) (cc : ByteArray) (nL : Nat) (ret : Option FieldType) (rm : Room) (As : List Value) (μ : zMem) (K : Int32 → zMem → Prop) : Prop := Met l y (.code y cc nL ret :: zW) rm (z_Pre G μ As) (zQi G K) 0 0 (zA G)
def z_MetV (l : Launch) (G : zG) (y : MethodName) (cc : ByteArray) (nL : Nat) (ret : Option FieldType) (rm : Room) (As : List Value) (μ : zMem) (K : zMem → Prop) : Prop := Met l y (.code y cc nL ret :: zW) rm (z_Pre G μ As) (zQv G K) 0 0 (zA G)
def z_rm (f w : Nat) : Room := { frames := f, cells := 0, slots := 0, locals := w }
theorem z_good {y : MethodName} {cc : ByteArray} {nL : Nat} {ret : Option FieldType} (h : Cond.code y cc nL ret ∈ zW) : GoodIn zW (.code y cc nL ret :: zW) := by
  intro w hw
  have hz : w ∈ zW := by
    rcases List.mem_cons.mp hw with rfl | hw
    · exact h
    · exact hw
  exact ⟨hz, good_of_word (List.mem_filter.mp hz).2⟩
theorem z_body {l : Launch} {G : zG} {y : MethodName} {cc : ByteArray} {nL : Nat} {ret : Option FieldType} {f w : Nat} {As : List Value} {μ : zMem} {Qc : Array Value → State → Outcome → State → Prop} (hy : plainName y.cls = true) (hAs : (lg_sl As).length ≤ nL)
    (h : ∀ (p : Program) (e : Env) (s : State) (m : MethodId) (args : Array Value) (below : List Frame) (meth : Method) (c : Code), za_Ok (z_rm f w) 0 0 p s m args meth c G y.cls cc nL ret → za_At p l e (z_rm f w) s m args below meth c (MQ below Qc args s 0 0 (zA G)) G nL 0 0 0 (lv_args 0 As) [] μ) : Met l y (.code y cc nL ret :: zW) (z_rm f w) (z_Pre G μ As) Qc 0 0 (zA G) := by
  refine Met.ofW (cc := cc) (maxL := nL) (ret := ret) hy rfl ?_
  intro p e s m args below meth c s₁ B hml hv
  obtain ⟨rfl, hP, hK⟩ := hv
  have hts := atoms_spec (ws := .code y cc nL ret :: zW) B.pre
  have hown : s.vm.findClass y.cls = some m.cls := findClass_of_methodNamed B.named
  have hl := lv_entry As (n := nL) hAs
  rw [lg_entry_eq]
  exact h p e s m _ below meth c ⟨B.exec, B.bytes, B.returns, hml, hown, fun w hw => hts w (List.mem_cons_of_mem _ hw), hK, B.notSynchronized, Nat.le_refl _, Nat.le_refl _⟩ s.heap [] _ hP va_S.rf hl
def zMw (y : MethodName) (cc : ByteArray) (nL : Nat) (ret : Option FieldType) (n : Nat) : Prop := Cond.code y cc nL ret ∈ zW ∧ Cond.initialized y.cls ∈ zW ∧ (y.cls ≠ "java/lang/invoke/MethodHandle" ∧ y.cls ≠ "java/lang/invoke/VarHandle" ∧ (parseMethodDescriptor y.desc).map (fun d => d.parameters.length) = some n)
section ZC
variable {p : Program} {l : Launch} {e : Env} {R : Room} {s : State} {m : MethodId} {args : Array Value} {below : List Frame} {meth : Method} {c : Code} {Q : State → Prop} {G : zG} {nL kc ks : Nat} {own : String} {cc : ByteArray} {ret : Option FieldType} {pc : Nat} {lv : List (Nat × Value)} {st : List Value} {μ : zMem}
variable {y : MethodName} {cc2 : ByteArray} {nL2 n i : Nat} {ret2 : Option FieldType} {f w : Nat} {K : Int32 → zMem → Prop} {KV : zMem → Prop} {stk : List Value}
theorem za_iret (o : za_Ok R kc ks p s m args meth c G own cc nL ret) (hr : ret = some .int) {v : Int32} (hK : K v μ) (d : decode cc pc = .ok (.ireturn, 1)) : za_At p l e R s m args below meth c (MQ below (zQi G K) args s kc ks (zA G)) G nL kc ks pc lv [.int v] μ :=
  fun H L ls hP hS hl => W.iret o.1 o.2.1 (o.2.2.1.trans hr) (fun t ht hW => ⟨⟨v, μ, rfl, hK, by show va_P G.1 vwCl (zw G μ) t.heap; rw [ht]; exact hP⟩, hS.F ht⟩) hS.2.2 d o.2.2.2.2.2.2.2.1
def z_b (v : Int32) : Prop := v = 0 ∨ v = 1
theorem z_b0 : z_b 0 := Or.inl rfl
theorem z_b1 : z_b 1 := Or.inr rfl
theorem z_bn {v : Int32} (h : z_b v) : narrow .boolean (.int v) = .int v := by
  rcases h with rfl | rfl <;> rfl
theorem z_bfit {v : Int32} (h : z_b v) : fits .boolean (.int v) = true := by
  rcases h with rfl | rfl <;> rfl
theorem za_zret (o : za_Ok R kc ks p s m args meth c G own cc nL ret) (hr : ret = some .boolean) {v : Int32} (hb : z_b v) (hK : K v μ) (d : decode cc pc = .ok (.ireturn, 1)) : za_At p l e R s m args below meth c (MQ below (zQi G K) args s kc ks (zA G)) G nL kc ks pc lv [.int v] μ :=
  fun H L ls hP hS hl => W.zret o.1 o.2.1 (o.2.2.1.trans hr) (z_bn hb) (fun t ht hW => ⟨⟨v, μ, rfl, hK, by show va_P G.1 vwCl (zw G μ) t.heap; rw [ht]; exact hP⟩, hS.F ht⟩) hS.2.2 d o.2.2.2.2.2.2.2.1
theorem za_vret (o : za_Ok R kc ks p s m args meth c G own cc nL ret) (hr : ret = none) (hK : KV μ) (d : decode cc pc = .ok (.return_, 1)) : za_At p l e R s m args below meth c (MQ below (zQv G KV) args s kc ks (zA G)) G nL kc ks pc lv [] μ :=
  fun H L ls hP hS hl => W.vret o.1 o.2.1 (o.2.2.1.trans hr) (fun t ht hW => ⟨⟨μ, rfl, hK, by show va_P G.1 vwCl (zw G μ) t.heap; rw [ht]; exact hP⟩, hS.F ht⟩) hS.2.2 d o.2.2.2.2.2.2.2.1
theorem za_callVi (o : za_Ok R kc ks p s m args meth c G own cc nL ret) {q ci N : Nat} {C : String} {T : u_T} {ty0 : Nat → FieldType} (As : List Value) (hM : z_Met l G y cc2 nL2 ret2 (z_rm f w) (.ref (G.2.2 + q) :: As) μ K) (hc : zCls ci C T N ty0) (hq : z_is q ci) (hy : zMw y cc2 nL2 ret2 n) (hi : Cond.methodLink own i y ∈ zW) (h1 : Cond.instanceMethod y ∈ zW) (h2 : Cond.selects C y y ∈ zW) (hn : As.length = n) (hR : f + 1 ≤ R.frames ∧ 8 + (nL2 + 11) + w ≤ R.locals)
    (hst : stk = As.reverse ++ .ref (G.2.2 + q) :: st) (hcat : (st.map fun v => v.category).sum ≤ 8) (d : decode cc pc = .ok (.invokevirtual i, 3)) (kk : ∀ (r : Int32) (μ1 : zMem), K r μ1 → za_At p l e R s m args below meth c Q G nL kc ks (pc + 3) lv (.int r :: st) μ1) : za_At p l e R s m args below meth c Q G nL kc ks pc lv stk μ := by
  subst hst
  intro H L ls hP hS hl
  have hts := o.2.2.2.2.2.1
  refine va_calli (va_runV (As := As) (rest := st) ⟨o.1, o.2.1, o.2.2.2.1, o.2.2.2.2.1, hts⟩ hM ⟨callB_of n hts (z_good hy.1) rfl rfl rfl (hts _ hy.2.1) (hts _ hi) hy.2.2 hR, hts _ h1, hts _ h2⟩ ⟨z_blind, va_recv o.2.2.2.2.2.2.1.1 hP hc.1 (q0 := q) (by rw [zw_get G μ hq.1, z_enc G (μ q) hq hc.2.2.2.2.1 hc.2.2.2.2.2]), fun U hU hW => ⟨rfl, by rw [hU]; exact hP, zK_warm hU hW hS o.2.2.2.2.2.2.1⟩⟩ rfl hn hl.1 rfl (lv_room hcat) d ⟨o.2.2.2.2.2.2.2.2.1, o.2.2.2.2.2.2.2.2.2⟩) hS (fun _ _ h => h) (fun _ h => h) (fun r u t H1 L1 ht hvm hw hB hz hk hS1 => ?_)
  rw [ht] at hB
  exact kk r u hw H1 L1 ls hB hS1 hl
theorem za_callVv (o : za_Ok R kc ks p s m args meth c G own cc nL ret) {q ci N : Nat} {C : String} {T : u_T} {ty0 : Nat → FieldType} (As : List Value) (hM : z_MetV l G y cc2 nL2 ret2 (z_rm f w) (.ref (G.2.2 + q) :: As) μ KV) (hc : zCls ci C T N ty0) (hq : z_is q ci) (hy : zMw y cc2 nL2 ret2 n) (hi : Cond.methodLink own i y ∈ zW) (h1 : Cond.instanceMethod y ∈ zW) (h2 : Cond.selects C y y ∈ zW) (hn : As.length = n) (hR : f + 1 ≤ R.frames ∧ 8 + (nL2 + 11) + w ≤ R.locals)
    (hst : stk = As.reverse ++ .ref (G.2.2 + q) :: st) (hcat : (st.map fun v => v.category).sum ≤ 8) (d : decode cc pc = .ok (.invokevirtual i, 3)) (kk : ∀ (μ1 : zMem), KV μ1 → za_At p l e R s m args below meth c Q G nL kc ks (pc + 3) lv st μ1) : za_At p l e R s m args below meth c Q G nL kc ks pc lv stk μ := by
  subst hst
  intro H L ls hP hS hl
  have hts := o.2.2.2.2.2.1
  refine va_callv (va_runV (As := As) (rest := st) ⟨o.1, o.2.1, o.2.2.2.1, o.2.2.2.2.1, hts⟩ hM ⟨callB_of n hts (z_good hy.1) rfl rfl rfl (hts _ hy.2.1) (hts _ hi) hy.2.2 hR, hts _ h1, hts _ h2⟩ ⟨z_blind, va_recv o.2.2.2.2.2.2.1.1 hP hc.1 (q0 := q) (by rw [zw_get G μ hq.1, z_enc G (μ q) hq hc.2.2.2.2.1 hc.2.2.2.2.2]), fun U hU hW => ⟨rfl, by rw [hU]; exact hP, zK_warm hU hW hS o.2.2.2.2.2.2.1⟩⟩ rfl hn hl.1 rfl (lv_room hcat) d ⟨o.2.2.2.2.2.2.2.2.1, o.2.2.2.2.2.2.2.2.2⟩) hS (fun _ _ h => h) (fun _ h => h) (fun u t H1 L1 ht hvm hw hB hz hk hS1 => ?_)
  rw [ht] at hB
  exact kk u hw H1 L1 ls hB hS1 hl
theorem za_callSi (o : za_Ok R kc ks p s m args meth c G own cc nL ret) (As : List Value) (hM : z_Met l G y cc2 nL2 ret2 (z_rm f w) As μ K) (hy : zMw y cc2 nL2 ret2 n) (hi : Cond.methodLink own i y ∈ zW) (h1 : Cond.static y ∈ zW) (hn : As.length = n) (hR : f + 1 ≤ R.frames ∧ 8 + (nL2 + 11) + w ≤ R.locals)
    (hst : stk = As.reverse ++ st) (hcat : (st.map fun v => v.category).sum ≤ 8) (d : decode cc pc = .ok (.invokestatic i, 3)) (kk : ∀ (r : Int32) (μ1 : zMem), K r μ1 → za_At p l e R s m args below meth c Q G nL kc ks (pc + 3) lv (.int r :: st) μ1) : za_At p l e R s m args below meth c Q G nL kc ks pc lv stk μ := by
  subst hst
  intro H L ls hP hS hl
  have hts := o.2.2.2.2.2.1
  refine va_calli (va_runS (As := As) (rest := st) ⟨o.1, o.2.1, o.2.2.2.1, o.2.2.2.2.1, hts⟩ hM ⟨callB_of n hts (z_good hy.1) rfl rfl rfl (hts _ hy.2.1) (hts _ hi) hy.2.2 hR, hts _ h1⟩ ⟨z_blind, fun U hU hW => ⟨rfl, by rw [hU]; exact hP, zK_warm hU hW hS o.2.2.2.2.2.2.1⟩⟩ rfl hn hl.1 rfl (lv_room hcat) d ⟨o.2.2.2.2.2.2.2.2.1, o.2.2.2.2.2.2.2.2.2⟩) hS (fun _ _ h => h) (fun _ h => h) (fun r u t H1 L1 ht hvm hw hB hz hk hS1 => ?_)
  rw [ht] at hB
  exact kk r u hw H1 L1 ls hB hS1 hl
end ZC
