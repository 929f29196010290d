/-! THE CLAIM OUT OF ONE WALK OF THE LAW'S BODY. Your part is whole_start (and what it stands on); all else here is the same for every law, but numbers. -/
def R_law : String := "CanteenPlatesLaw"
def lw_P (b : Addr) (xs : List Int32) (args : Array Value) (s : State) : Prop := args = #[.ref b] ∧ s.IntsAt b xs ∧ xs.length ≤ 260 ∧ (Jvm.Cond.and given_1 narrow_1).before args s = true
def lw_Q (_ : Array Value) (s : State) (o : Outcome) (t : State) : Prop := o = .returned (some (.int 1)) ∧ Framed s o t [] 644159 7169772
def lw_Z (below : List Frame) (a : Array Value) (s : State) : State → Prop := fun t => ∃ o, t.status = .running ∧ Ended t below o ∧ lw_Q a s o t
/-- the law's own end, with 1 on the stack, nothing written that was there before, its room as the claim has it -/
theorem lw_ret {p : Program} {l : Launch} {e : Env} {s : State} {m : MethodId} {below : List Frame} {meth : Method} {c : Code} {b : Nat} (hx : p.tables.exec = Jvm.exec) (hb : c.code = code) (hr : meth.sig.returnType = ret) (hlocks : meth.locks = false) {pc : Nat} {H : Heap} {ls : Array Slot} (hdg : decode code pc = .ok (.ireturn, 1)) : W p l e room_1 s m #[Value.ref b] below meth c H [] 644159 7169772 (lw_Z below #[Value.ref b] s) (F0 m pc ls [.int 1]) := by
  intro T hT X
  obtain ⟨fs, hret, hrun, hended, hW, hframe⟩ := X.leave (v := some (.int 1)) (hlocks := hlocks) (fun h => by rw [hr] at h; cases h)
  have hmeth' : T.vm.method? m = some meth := X.method'
  refine ⟨T.setFrames fs, ?_, .returned (some (.int 1)), hrun, hended, rfl, ⟨_, rfl⟩, hW, hframe⟩
  jvm_step X.here [X.here.top, hx, hb, hdg, hmeth', hr, ret, narrow_b1]
  (try refine ⟨rfl, ?_⟩); (try refine ⟨rfl, ?_⟩)
  first | (intro acts; rw [hret _ acts rfl rfl rfl]) | rw [hret _ _ rfl rfl rfl]
  exact Steps.refl _
/-- what holds at the law's entry: the machine, the code, the tables' words (any of lw_tbl by 'hts w (by decide +kernel)'), the script of L ints xs at the cell b, what the Statement gives of the start (any of its parts by flat_of_before) -/
def lw_At (p : Program) (s : State) (m : MethodId) (meth : Method) (c : Code) (b L : Nat) (xs : Nat → Int32) : Prop :=
  p.tables.exec = Jvm.exec ∧ c.code = code ∧ meth.sig.returnType = ret ∧ c.maxLocals = 5 ∧ s.vm.findClass R_law = some m.cls ∧ (∀ w ∈ lw_tbl, w.before #[Value.ref b] s = true) ∧ va_X b L xs s s.heap ∧ b < s.heap.size ∧ meth.locks = false ∧ (Jvm.Cond.and given_1 narrow_1).before #[Value.ref b] s = true
/-! the law over the layer -/
def zScr (b L : Nat) (xs : Nat → Int32) (s : State) (G : zG) : Prop := va_X b L xs s s.heap ∧ b < s.heap.size ∧ G.2.2 = s.heap.size
theorem zScr_A {b L : Nat} {xs : Nat → Int32} {s : State} {G : zG} (h : zScr b L xs s G) : ¬ zA G b := by
  unfold zA
  rw [h.2.2]
  exact Nat.not_le.mpr h.2.1
section ZLW
variable {p : Program} {l : Launch} {e : Env} {R : Room} {s : State} {m : MethodId} {args : Array Value} {below : List Frame} {meth : Method} {c : Code} {Q : State → Prop} {G : zG} {nL kc ks : Nat} {own : String} {cc : ByteArray} {ret0 : Option FieldType} {pc : Nat} {lv : List (Nat × Value)} {st : List Value} {μ : zMem} {b L : Nat} {xs : Nat → Int32}
theorem za_sld (o : za_Ok R kc ks p s m args meth c G own cc nL ret0) (hs : zScr b L xs s G) {i : Int32} (hi : vp_in i L) (d : decode cc pc = .ok (.iaload, 1))
    (h : za_At p l e R s m args below meth c Q G nL kc ks (pc + 1) lv (.int (xs i.toNatClampNeg) :: st) μ) : za_At p l e R s m args below meth c Q G nL kc ks pc lv (.int i :: .ref b :: st) μ :=
  fun H L1 ls hP hS hl => va_sld o.1 o.2.1 hs.1 hs.2.1 (zScr_A hs) hS hi d (h H L1 ls hP hS hl)
theorem za_slen (o : za_Ok R kc ks p s m args meth c G own cc nL ret0) (hs : zScr b L xs s G) (d : decode cc pc = .ok (.arraylength, 1))
    (h : za_At p l e R s m args below meth c Q G nL kc ks (pc + 1) lv (.int (Int32.ofNat L) :: st) μ) : za_At p l e R s m args below meth c Q G nL kc ks pc lv (.ref b :: st) μ :=
  fun H L1 ls hP hS hl => va_slen o.1 o.2.1 hs.1 hs.2.1 (zScr_A hs) hS d (h H L1 ls hP hS hl)
theorem zb_sld (o : za_Ok R kc ks p s m args meth c G own cc nL ret0) (hX : va_X b L xs s s.heap) (hb : b < s.heap.size) (hA : ¬ zA G b) {i : Int32} (hi : vp_in i L) (d : decode cc pc = .ok (.iaload, 1))
    (h : za_At p l e R s m args below meth c Q G nL kc ks (pc + 1) lv (.int (xs i.toNatClampNeg) :: st) μ) : za_At p l e R s m args below meth c Q G nL kc ks pc lv (.int i :: .ref b :: st) μ :=
  fun H L1 ls hP hS hl => va_sld o.1 o.2.1 hX hb hA hS hi d (h H L1 ls hP hS hl)
theorem zb_slen (o : za_Ok R kc ks p s m args meth c G own cc nL ret0) (hX : va_X b L xs s s.heap) (hb : b < s.heap.size) (hA : ¬ zA G b) (d : decode cc pc = .ok (.arraylength, 1))
    (h : za_At p l e R s m args below meth c Q G nL kc ks (pc + 1) lv (.int (Int32.ofNat L) :: st) μ) : za_At p l e R s m args below meth c Q G nL kc ks pc lv (.ref b :: st) μ :=
  fun H L1 ls hP hS hl => va_slen o.1 o.2.1 hX hb hA hS d (h H L1 ls hP hS hl)
theorem za_lret (o : za_Ok room_1 529 3370 p s m #[Value.ref b] meth c G RL cL_law 5 (some .boolean)) (hs : zScr b L xs s G) (d : decode cL_law pc = .ok (.ireturn, 1)) : za_At p l e room_1 s m #[Value.ref b] below meth c (lw_Z below #[Value.ref b] s) G 5 529 3370 pc lv [.int (1 : Int32)] μ :=
  fun H L1 ls hP hS hl => va_forget (fun q hq => by have := hS.2.2 q hq; unfold zA at this; rw [hs.2.2] at this; exact this) (W.widen (k := 644159) (n := 7169772) (by omega) (by omega) (lw_ret o.1 o.2.1 o.2.2.1 o.2.2.2.2.2.2.2.1 d))
end ZLW
/-! the script's cell: a call that reads the script -/
def zCell (L : Nat) (xs : Nat → Int32) (k : Int32) : Int32 := (if k < Int32.ofNat L then xs k.toNatClampNeg else (15485959 : Int32) * k + (8223 : Int32)) &&& (2147483647 : Int32)
def zs_Pre (G : zG) (b L : Nat) (xs : Nat → Int32) (k : Int32) (μ : zMem) : Array Value → State → Prop := va_Pc [.ref b, .int k] (fun U => va_P G.1 vwCl (zw G μ) U.heap ∧ zK G U ∧ va_X b L xs U U.heap ∧ b < U.heap.size ∧ ¬ zA G b)
theorem zs_blind {G : zG} {b L : Nat} {xs : Nat → Int32} {k : Int32} {μ : zMem} : FrameBlind (zs_Pre G b L xs k μ) := fun _ U _ _ h => ⟨h.1, h.2.1, zK_call h.2.2.1, h.2.2.2.1.moved (Vm.Alike.refl U.vm), h.2.2.2.2⟩
theorem ctL_cell (l : Launch) (G : zG) {b L : Nat} {xs : Nat → Int32} (k : Int32) (hin : k < Int32.ofNat L → vp_in k L) (μ : zMem) (K : Int32 → zMem → Prop) (hf : K (zCell L xs k) μ) : Met l yL_cell (.code yL_cell cL_cell 2 (some .int) :: zW) (z_rm 0 0) (zs_Pre G b L xs k μ) (zQi G K) 0 0 (zA G) := by
  refine Met.ofW (cc := cL_cell) (maxL := 2) (ret := some .int) (by decide) rfl ?_
  intro p e s m args below meth c s₁ B hml hv
  obtain ⟨rfl, hP, hK, hX, hb, hA⟩ := hv
  have hts := atoms_spec (ws := .code yL_cell cL_cell 2 (some .int) :: zW) B.pre
  have hown : s.vm.findClass yL_cell.cls = some m.cls := findClass_of_methodNamed B.named
  have hl := lv_entry [.ref b, .int k] (n := 2) (Nat.le_of_ble_eq_true rfl)
  rw [lg_entry_eq]
  have o : za_Ok (z_rm 0 0) 0 0 p s m [Value.ref b, Value.int k].toArray meth c G RL cL_cell 2 (some .int) := ⟨B.exec, B.bytes, B.returns, hml, hown, fun w hw => hts w (List.mem_cons_of_mem _ hw), hK, B.notSynchronized, Nat.le_refl _, Nat.le_refl _⟩
  have key : za_At p l e (z_rm 0 0) s m [Value.ref b, Value.int k].toArray below meth c (MQ below (zQi G K) [Value.ref b, Value.int k].toArray s 0 0 (zA G)) G 2 0 0 0 [(0, .ref b), (1, .int k)] [] μ := by
    unfold zCell at hf
    have fin : ∀ x : Int32, K (x &&& (2147483647 : Int32)) μ → za_At p l e (z_rm 0 0) s m [Value.ref b, Value.int k].toArray below meth c (MQ below (zQi G K) [Value.ref b, Value.int k].toArray s 0 0 (zA G)) G 2 0 0 20 [(0, .ref b), (1, .int k)] [.int x] μ := by
      intro x hx
      refine za_ldc (v := (2147483647 : Int32)) o wkL_8 dL_cell_20 ?_
      refine za_iand o dL_cell_22 ?_
      exact za_iret o rfl hx dL_cell_23
    refine za_iload_n o 1 dL_cell_0 rfl rfl ?_
    refine za_aload_n o 0 dL_cell_1 rfl rfl ?_
    refine zb_slen o hX hb hA dL_cell_2 ?_
    refine za_icmp_ge o 12 dL_cell_3 (by decide) (fun c1 => ?_) (fun c1 => ?_)
    · rw [if_neg (Int32.not_lt.mpr c1)] at hf
      refine za_ldc (v := (15485959 : Int32)) o wkL_7 dL_cell_12 ?_
      refine za_iload_n o 1 dL_cell_14 rfl rfl ?_
      refine za_imul o dL_cell_15 ?_
      refine za_sipush (v := (8223 : Int32)) o dL_cell_16 (by decide) ?_
      refine za_iadd o dL_cell_19 ?_
      exact fin _ hf
    · rw [if_pos (Int32.not_le.mp c1)] at hf
      refine za_aload_n o 0 dL_cell_6 rfl rfl ?_
      refine za_iload_n o 1 dL_cell_7 rfl rfl ?_
      refine zb_sld o hX hb hA (hin (Int32.not_le.mp c1)) dL_cell_8 ?_
      refine za_goto o 20 dL_cell_9 (by decide) ?_
      exact fin _ hf
  exact key s.heap [] _ hP va_S.rf hl
section ZLC
variable {p : Program} {l : Launch} {e : Env} {R : Room} {s : State} {m : MethodId} {args : Array Value} {below : List Frame} {meth : Method} {c : Code} {Q : State → Prop} {G : zG} {nL kc ks : Nat} {own : String} {cc : ByteArray} {ret0 : Option FieldType} {pc : Nat} {lv : List (Nat × Value)} {st : List Value} {μ : zMem} {b L : Nat} {xs : Nat → Int32}
theorem za_callCell (o : za_Ok room_1 kc ks p s m args meth c G own cc nL ret0) (hs : zScr b L xs s G) {i : Nat} (hi : Cond.methodLink own i yL_cell ∈ zW) {k : Int32} (hin : k < Int32.ofNat L → vp_in k L) (hcat : (st.map fun v => v.category).sum ≤ 8) (d : decode cc pc = .ok (.invokestatic i, 3)) (h : za_At p l e room_1 s m args below meth c Q G nL kc ks (pc + 3) lv (.int (zCell L xs k) :: st) μ) : za_At p l e room_1 s m args below meth c Q G nL kc ks pc lv (.int k :: .ref b :: st) μ := by
  intro H L1 ls hP hS hl
  have hts := o.2.2.2.2.2.1
  have hA := zScr_A hs
  refine va_calli (va_runS (As := [.ref b, .int k]) (rest := st) ⟨o.1, o.2.1, o.2.2.2.1, o.2.2.2.2.1, hts⟩ (ctL_cell l G k hin μ (fun r μ1 => r = zCell L xs k ∧ μ1 = μ) ⟨rfl, rfl⟩) ⟨callB_of 2 hts (z_good mwL_cell.1) rfl rfl rfl (hts _ mwL_cell.2.1) (hts _ hi) mwL_cell.2.2 ⟨Nat.le_of_ble_eq_true rfl, Nat.le_of_ble_eq_true rfl⟩, hts _ wtL_cell⟩ ⟨zs_blind, fun U hU hW => ⟨rfl, by rw [hU]; exact hP, zK_warm hU hW hS o.2.2.2.2.2.2.1, by rw [hU]; exact (hs.1.kept (hS.2.1 b hs.2.1 hA)).moved hW.alike, by rw [hU]; have := hS.1; have := hs.2.1; omega, hA⟩⟩ rfl rfl hl.1 rfl (lv_room hcat) d ⟨o.2.2.2.2.2.2.2.2.1, o.2.2.2.2.2.2.2.2.2⟩) hS (fun _ _ h => h) (fun _ h => h) (fun r u t H2 L2 ht hvm hw hB hz hk hS1 => ?_)
  rw [ht] at hB
  obtain ⟨rfl, rfl⟩ := hw
  exact h H2 L2 ls hB hS1 hl
end ZLC
