/-! THE JUDGEMENT and its rows -/
def za_At (p : Program) (l : Launch) (e : Env) (R : Room) (s : State) (m : MethodId) (args : Array Value) (below : List Frame) (meth : Method) (c : Code) (Q : State → Prop) (G : zG) (nL kc ks : Nat) (pc : Nat) (lv : List (Nat × Value)) (st : List Value) (μ : zMem) : Prop :=
  ∀ (H : Heap) (locs : List Loc) (ls : Array Slot), va_P G.1 vwCl (zw G μ) H → va_S (zA G) s.heap H locs → lv_has ls nL lv → W p l e R s m args below meth c H locs kc ks Q (F0 m pc ls st)
def za_Ok (R : Room) (kc ks : Nat) (p : Program) (s : State) (m : MethodId) (args : Array Value) (meth : Method) (c : Code) (G : zG) (own : String) (cc : ByteArray) (nL : Nat) (ret : Option FieldType) : Prop :=
  p.tables.exec = Jvm.exec ∧ c.code = cc ∧ meth.sig.returnType = ret ∧ c.maxLocals = nL ∧ s.vm.findClass own = some m.cls ∧ (∀ w ∈ zW, w.before args s = true) ∧ zK G s ∧ meth.locks = false ∧ kc ≤ R.cells ∧ ks ≤ R.slots
abbrev zCls (ci : Nat) (C : String) (T : u_T) (N : Nat) (ty0 : Nat → FieldType) : Prop := vwCl[ci]? = some (C, T, N) ∧ (∀ w ∈ u_ws C T N, w ∈ zW) ∧ (∀ k, k < N → parseFieldDescriptor (T k).2.2.1 = some (ty0 k)) ∧ (∀ a, a < N → ∀ b, b < N → a ≠ b → (T a).2.1 ≠ (T b).2.1) ∧ z_nu ci = none ∧ z_re ci = none
section ZA
variable {p : Program} {l : Launch} {e : Env} {R : Room} {s : State} {m : MethodId} {args : Array Value} {below : List Frame} {meth : Method} {c : Code} {Q : State → Prop} {G : zG} {nL kc ks : Nat} {own : String} {cc : ByteArray} {ret : Option FieldType} {pc : Nat} {lv : List (Nat × Value)} {st : List Value} {μ : zMem}
theorem za_aload_n (o : za_Ok R kc ks p s m args meth c G own cc nL ret) {k : Fin 4} {i x : Nat} (j : Nat) (d : decode cc pc = .ok (.aload_n k, 1)) (hi : (k : Nat) = i) (hj : lv[j]? = some (i, .ref x))
    (h : za_At p l e R s m args below meth c Q G nL kc ks (pc + 1) lv (.ref x :: st) μ) : za_At p l e R s m args below meth c Q G nL kc ks pc lv st μ :=
  fun H L ls hP hS hl => lv_aload_n o.1 o.2.1 d hi (lv_at hl j hj) (h H L ls hP hS hl)
theorem za_aload (o : za_Ok R kc ks p s m args meth c G own cc nL ret) {i x : Nat} (j : Nat) (d : decode cc pc = .ok (.aload i, 2)) (hj : lv[j]? = some (i, .ref x))
    (h : za_At p l e R s m args below meth c Q G nL kc ks (pc + 2) lv (.ref x :: st) μ) : za_At p l e R s m args below meth c Q G nL kc ks pc lv st μ :=
  fun H L ls hP hS hl => lv_aload o.1 o.2.1 d (lv_at hl j hj) (h H L ls hP hS hl)
theorem za_iload_n (o : za_Ok R kc ks p s m args meth c G own cc nL ret) {k : Fin 4} {i : Nat} {x : Int32} (j : Nat) (d : decode cc pc = .ok (.iload_n k, 1)) (hi : (k : Nat) = i) (hj : lv[j]? = some (i, .int x))
    (h : za_At p l e R s m args below meth c Q G nL kc ks (pc + 1) lv (.int x :: st) μ) : za_At p l e R s m args below meth c Q G nL kc ks pc lv st μ :=
  fun H L ls hP hS hl => lv_iload_n o.1 o.2.1 d hi (lv_at hl j hj) (h H L ls hP hS hl)
theorem za_iload (o : za_Ok R kc ks p s m args meth c G own cc nL ret) {i : Nat} {x : Int32} (j : Nat) (d : decode cc pc = .ok (.iload i, 2)) (hj : lv[j]? = some (i, .int x))
    (h : za_At p l e R s m args below meth c Q G nL kc ks (pc + 2) lv (.int x :: st) μ) : za_At p l e R s m args below meth c Q G nL kc ks pc lv st μ :=
  fun H L ls hP hS hl => lv_iload o.1 o.2.1 d (lv_at hl j hj) (h H L ls hP hS hl)
theorem za_lload_n (o : za_Ok R kc ks p s m args meth c G own cc nL ret) {k : Fin 4} {i : Nat} {x : Int64} (j : Nat) (d : decode cc pc = .ok (.lload_n k, 1)) (hi : (k : Nat) = i) (hj : lv[j]? = some (i, .long x))
    (h : za_At p l e R s m args below meth c Q G nL kc ks (pc + 1) lv (.long x :: st) μ) : za_At p l e R s m args below meth c Q G nL kc ks pc lv st μ :=
  fun H L ls hP hS hl => lv_lload_n o.1 o.2.1 d hi (lv_at hl j hj) (h H L ls hP hS hl)
theorem za_lload (o : za_Ok R kc ks p s m args meth c G own cc nL ret) {i : Nat} {x : Int64} (j : Nat) (d : decode cc pc = .ok (.lload i, 2)) (hj : lv[j]? = some (i, .long x))
    (h : za_At p l e R s m args below meth c Q G nL kc ks (pc + 2) lv (.long x :: st) μ) : za_At p l e R s m args below meth c Q G nL kc ks pc lv st μ :=
  fun H L ls hP hS hl => lv_lload o.1 o.2.1 d (lv_at hl j hj) (h H L ls hP hS hl)
theorem za_iconst (o : za_Ok R kc ks p s m args meth c G own cc nL ret) {n : Int} {v : Int32} (d : decode cc pc = .ok (.iconst n, 1)) (hv : Int32.ofInt n = v)
    (h : za_At p l e R s m args below meth c Q G nL kc ks (pc + 1) lv (.int v :: st) μ) : za_At p l e R s m args below meth c Q G nL kc ks pc lv st μ :=
  fun H L ls hP hS hl => lv_iconst o.1 o.2.1 d hv (h H L ls hP hS hl)
theorem za_bipush (o : za_Ok R kc ks p s m args meth c G own cc nL ret) {n : Int} {v : Int32} (d : decode cc pc = .ok (.bipush n, 2)) (hv : (Int8.ofInt n).toInt32 = v)
    (h : za_At p l e R s m args below meth c Q G nL kc ks (pc + 2) lv (.int v :: st) μ) : za_At p l e R s m args below meth c Q G nL kc ks pc lv st μ :=
  fun H L ls hP hS hl => lv_bipush o.1 o.2.1 d hv (h H L ls hP hS hl)
theorem za_sipush (o : za_Ok R kc ks p s m args meth c G own cc nL ret) {n : Int} {v : Int32} (d : decode cc pc = .ok (.sipush n, 3)) (hv : (Int16.ofInt n).toInt32 = v)
    (h : za_At p l e R s m args below meth c Q G nL kc ks (pc + 3) lv (.int v :: st) μ) : za_At p l e R s m args below meth c Q G nL kc ks pc lv st μ :=
  fun H L ls hP hS hl => lv_sipush o.1 o.2.1 d hv (h H L ls hP hS hl)
theorem za_lconst (o : za_Ok R kc ks p s m args meth c G own cc nL ret) {n : Fin 2} {v : Int64} (d : decode cc pc = .ok (.lconst n, 1)) (hv : Int64.ofNat (n : Nat) = v)
    (h : za_At p l e R s m args below meth c Q G nL kc ks (pc + 1) lv (.long v :: st) μ) : za_At p l e R s m args below meth c Q G nL kc ks pc lv st μ :=
  fun H L ls hP hS hl => lv_lconst o.1 o.2.1 d hv (h H L ls hP hS hl)
theorem za_ldc (o : za_Ok R kc ks p s m args meth c G own cc nL ret) {i : Nat} {v : Int32} (hw : Jvm.Cond.constant own i v ∈ zW) (d : decode cc pc = .ok (.ldc i, 2))
    (h : za_At p l e R s m args below meth c Q G nL kc ks (pc + 2) lv (.int v :: st) μ) : za_At p l e R s m args below meth c Q G nL kc ks pc lv st μ :=
  fun H L ls hP hS hl => lv_ldc o.1 o.2.1 o.2.2.2.2.1 (o.2.2.2.2.2.1 _ hw) d (h H L ls hP hS hl)
theorem za_ldc2 (o : za_Ok R kc ks p s m args meth c G own cc nL ret) {i : Nat} {v : Int64} (hw : Jvm.Cond.constantLong own i v ∈ zW) (d : decode cc pc = .ok (.ldc2_w i, 3))
    (h : za_At p l e R s m args below meth c Q G nL kc ks (pc + 3) lv (.long v :: st) μ) : za_At p l e R s m args below meth c Q G nL kc ks pc lv st μ :=
  fun H L ls hP hS hl => lv_ldc2 o.1 o.2.1 o.2.2.2.2.1 (o.2.2.2.2.2.1 _ hw) d (h H L ls hP hS hl)
theorem za_istore (o : za_Ok R kc ks p s m args meth c G own cc nL ret) {i : Nat} {x : Int32} (lv' : List (Nat × Value)) (d : decode cc pc = .ok (.istore i, 2)) (hn : i < nL) (he : (i, Value.int x) :: lv.filter (fun q => !(q.1 == i) && !(q.1 + 1 == i && q.2.category == 2)) = lv')
    (h : za_At p l e R s m args below meth c Q G nL kc ks (pc + 2) lv' st μ) : za_At p l e R s m args below meth c Q G nL kc ks pc lv (.int x :: st) μ :=
  fun H L _ hP hS hl => lv_istore o.1 o.2.1 d hl hn he (fun ls' hl' => h H L ls' hP hS hl')
theorem za_istore_n (o : za_Ok R kc ks p s m args meth c G own cc nL ret) {k : Fin 4} {i : Nat} {x : Int32} (lv' : List (Nat × Value)) (d : decode cc pc = .ok (.istore_n k, 1)) (hi : (k : Nat) = i) (hn : i < nL) (he : (i, Value.int x) :: lv.filter (fun q => !(q.1 == i) && !(q.1 + 1 == i && q.2.category == 2)) = lv')
    (h : za_At p l e R s m args below meth c Q G nL kc ks (pc + 1) lv' st μ) : za_At p l e R s m args below meth c Q G nL kc ks pc lv (.int x :: st) μ :=
  fun H L _ hP hS hl => lv_istore_n o.1 o.2.1 d hi hl hn he (fun ls' hl' => h H L ls' hP hS hl')
theorem za_astore (o : za_Ok R kc ks p s m args meth c G own cc nL ret) {i x : Nat} (lv' : List (Nat × Value)) (d : decode cc pc = .ok (.astore i, 2)) (hn : i < nL) (he : (i, Value.ref x) :: lv.filter (fun q => !(q.1 == i) && !(q.1 + 1 == i && q.2.category == 2)) = lv')
    (h : za_At p l e R s m args below meth c Q G nL kc ks (pc + 2) lv' st μ) : za_At p l e R s m args below meth c Q G nL kc ks pc lv (.ref x :: st) μ :=
  fun H L _ hP hS hl => lv_astore o.1 o.2.1 d hl hn he (fun ls' hl' => h H L ls' hP hS hl')
theorem za_astore_n (o : za_Ok R kc ks p s m args meth c G own cc nL ret) {k : Fin 4} {i x : Nat} (lv' : List (Nat × Value)) (d : decode cc pc = .ok (.astore_n k, 1)) (hi : (k : Nat) = i) (hn : i < nL) (he : (i, Value.ref x) :: lv.filter (fun q => !(q.1 == i) && !(q.1 + 1 == i && q.2.category == 2)) = lv')
    (h : za_At p l e R s m args below meth c Q G nL kc ks (pc + 1) lv' st μ) : za_At p l e R s m args below meth c Q G nL kc ks pc lv (.ref x :: st) μ :=
  fun H L _ hP hS hl => lv_astore_n o.1 o.2.1 d hi hl hn he (fun ls' hl' => h H L ls' hP hS hl')
theorem za_lstore (o : za_Ok R kc ks p s m args meth c G own cc nL ret) {i : Nat} {x : Int64} (lv' : List (Nat × Value)) (d : decode cc pc = .ok (.lstore i, 2)) (hn : i + 1 < nL) (he : (i, Value.long x) :: lv.filter (fun q => !(q.1 == i) && (!(q.1 == i + 1) && !(q.1 + 1 == i && q.2.category == 2))) = lv')
    (h : za_At p l e R s m args below meth c Q G nL kc ks (pc + 2) lv' st μ) : za_At p l e R s m args below meth c Q G nL kc ks pc lv (.long x :: st) μ :=
  fun H L _ hP hS hl => lv_lstore o.1 o.2.1 d hl hn he (fun ls' hl' => h H L ls' hP hS hl')
theorem za_lstore_n (o : za_Ok R kc ks p s m args meth c G own cc nL ret) {k : Fin 4} {i : Nat} {x : Int64} (lv' : List (Nat × Value)) (d : decode cc pc = .ok (.lstore_n k, 1)) (hi : (k : Nat) = i) (hn : i + 1 < nL) (he : (i, Value.long x) :: lv.filter (fun q => !(q.1 == i) && (!(q.1 == i + 1) && !(q.1 + 1 == i && q.2.category == 2))) = lv')
    (h : za_At p l e R s m args below meth c Q G nL kc ks (pc + 1) lv' st μ) : za_At p l e R s m args below meth c Q G nL kc ks pc lv (.long x :: st) μ :=
  fun H L _ hP hS hl => lv_lstore_n o.1 o.2.1 d hi hl hn he (fun ls' hl' => h H L ls' hP hS hl')
theorem za_iinc (o : za_Ok R kc ks p s m args meth c G own cc nL ret) {i : Nat} {n : Int} {x : Int32} (v : Int32) (j : Nat) (lv' : List (Nat × Value)) (d : decode cc pc = .ok (.iinc i n, 3)) (hj : lv[j]? = some (i, .int x)) (hv : x + Int32.ofInt n = v) (hn : i < nL) (he : (i, Value.int v) :: lv.filter (fun q => !(q.1 == i) && !(q.1 + 1 == i && q.2.category == 2)) = lv')
    (h : za_At p l e R s m args below meth c Q G nL kc ks (pc + 3) lv' st μ) : za_At p l e R s m args below meth c Q G nL kc ks pc lv st μ :=
  fun H L _ hP hS hl => lv_iinc o.1 o.2.1 d hl (k := j) hj hv hn he (fun ls' hl' => h H L ls' hP hS hl')
theorem za_goto (o : za_Ok R kc ks p s m args meth c G own cc nL ret) {off : Int} (tgt : Nat) (d : decode cc pc = .ok (.goto off, 3)) (ht : (pc : Int) + off = (tgt : Int))
    (h : za_At p l e R s m args below meth c Q G nL kc ks tgt lv st μ) : za_At p l e R s m args below meth c Q G nL kc ks pc lv st μ :=
  fun H L ls hP hS hl => lv_goto o.1 o.2.1 d ht (h H L ls hP hS hl)
theorem za_dup (o : za_Ok R kc ks p s m args meth c G own cc nL ret) {v : Value} (d : decode cc pc = .ok (.dup, 1)) (hv : v.category = 1)
    (h : za_At p l e R s m args below meth c Q G nL kc ks (pc + 1) lv (v :: v :: st) μ) : za_At p l e R s m args below meth c Q G nL kc ks pc lv (v :: st) μ :=
  fun H L ls hP hS hl => lv_dup o.1 o.2.1 d hv (h H L ls hP hS hl)
theorem za_dup2 (o : za_Ok R kc ks p s m args meth c G own cc nL ret) {v w : Value} (d : decode cc pc = .ok (.dup2, 1)) (hv : v.category = 1) (hw : w.category = 1)
    (h : za_At p l e R s m args below meth c Q G nL kc ks (pc + 1) lv (v :: w :: v :: w :: st) μ) : za_At p l e R s m args below meth c Q G nL kc ks pc lv (v :: w :: st) μ :=
  fun H L ls hP hS hl => lv_dup2_11 o.1 o.2.1 d hv hw (h H L ls hP hS hl)
theorem za_pop (o : za_Ok R kc ks p s m args meth c G own cc nL ret) {v : Value} (d : decode cc pc = .ok (.pop, 1)) (hv : v.category = 1)
    (h : za_At p l e R s m args below meth c Q G nL kc ks (pc + 1) lv st μ) : za_At p l e R s m args below meth c Q G nL kc ks pc lv (v :: st) μ :=
  fun H L ls hP hS hl => lv_pop o.1 o.2.1 d hv (h H L ls hP hS hl)
theorem za_iadd (o : za_Ok R kc ks p s m args meth c G own cc nL ret) {x y : Int32} (d : decode cc pc = .ok (.iadd, 1))
    (h : za_At p l e R s m args below meth c Q G nL kc ks (pc + 1) lv (.int (x + y) :: st) μ) : za_At p l e R s m args below meth c Q G nL kc ks pc lv (.int y :: .int x :: st) μ :=
  fun H L ls hP hS hl => lv_iadd o.1 o.2.1 d (h H L ls hP hS hl)
theorem za_isub (o : za_Ok R kc ks p s m args meth c G own cc nL ret) {x y : Int32} (d : decode cc pc = .ok (.isub, 1))
    (h : za_At p l e R s m args below meth c Q G nL kc ks (pc + 1) lv (.int (x - y) :: st) μ) : za_At p l e R s m args below meth c Q G nL kc ks pc lv (.int y :: .int x :: st) μ :=
  fun H L ls hP hS hl => lv_isub o.1 o.2.1 d (h H L ls hP hS hl)
theorem za_imul (o : za_Ok R kc ks p s m args meth c G own cc nL ret) {x y : Int32} (d : decode cc pc = .ok (.imul, 1))
    (h : za_At p l e R s m args below meth c Q G nL kc ks (pc + 1) lv (.int (x * y) :: st) μ) : za_At p l e R s m args below meth c Q G nL kc ks pc lv (.int y :: .int x :: st) μ :=
  fun H L ls hP hS hl => lv_imul o.1 o.2.1 d (h H L ls hP hS hl)
theorem za_iand (o : za_Ok R kc ks p s m args meth c G own cc nL ret) {x y : Int32} (d : decode cc pc = .ok (.iand, 1))
    (h : za_At p l e R s m args below meth c Q G nL kc ks (pc + 1) lv (.int (x &&& y) :: st) μ) : za_At p l e R s m args below meth c Q G nL kc ks pc lv (.int y :: .int x :: st) μ :=
  fun H L ls hP hS hl => lv_iand o.1 o.2.1 d (h H L ls hP hS hl)
theorem za_ior (o : za_Ok R kc ks p s m args meth c G own cc nL ret) {x y : Int32} (d : decode cc pc = .ok (.ior, 1))
    (h : za_At p l e R s m args below meth c Q G nL kc ks (pc + 1) lv (.int (x ||| y) :: st) μ) : za_At p l e R s m args below meth c Q G nL kc ks pc lv (.int y :: .int x :: st) μ :=
  fun H L ls hP hS hl => lv_ior o.1 o.2.1 d (h H L ls hP hS hl)
theorem za_idiv (o : za_Ok R kc ks p s m args meth c G own cc nL ret) {x y : Int32} (d : decode cc pc = .ok (.idiv, 1)) (hne : ¬ y = 0)
    (h : za_At p l e R s m args below meth c Q G nL kc ks (pc + 1) lv (.int (x / y) :: st) μ) : za_At p l e R s m args below meth c Q G nL kc ks pc lv (.int y :: .int x :: st) μ :=
  fun H L ls hP hS hl => lv_idiv o.1 o.2.1 d hne (h H L ls hP hS hl)
theorem za_land (o : za_Ok R kc ks p s m args meth c G own cc nL ret) {x y : Int64} (d : decode cc pc = .ok (.land, 1))
    (h : za_At p l e R s m args below meth c Q G nL kc ks (pc + 1) lv (.long (x &&& y) :: st) μ) : za_At p l e R s m args below meth c Q G nL kc ks pc lv (.long y :: .long x :: st) μ :=
  fun H L ls hP hS hl => lv_land o.1 o.2.1 d (h H L ls hP hS hl)
theorem za_lor (o : za_Ok R kc ks p s m args meth c G own cc nL ret) {x y : Int64} (d : decode cc pc = .ok (.lor, 1))
    (h : za_At p l e R s m args below meth c Q G nL kc ks (pc + 1) lv (.long (x ||| y) :: st) μ) : za_At p l e R s m args below meth c Q G nL kc ks pc lv (.long y :: .long x :: st) μ :=
  fun H L ls hP hS hl => lv_lor o.1 o.2.1 d (h H L ls hP hS hl)
theorem za_irem (o : za_Ok R kc ks p s m args meth c G own cc nL ret) {x y : Int32} (d : decode cc pc = .ok (.irem, 1)) (hne : ¬ y = 0)
    (h : za_At p l e R s m args below meth c Q G nL kc ks (pc + 1) lv (.int (x - x / y * y) :: st) μ) : za_At p l e R s m args below meth c Q G nL kc ks pc lv (.int y :: .int x :: st) μ :=
  fun H L ls hP hS hl => lv_irem o.1 o.2.1 d hne (h H L ls hP hS hl)
theorem za_ishl (o : za_Ok R kc ks p s m args meth c G own cc nL ret) {x y : Int32} (d : decode cc pc = .ok (.ishl, 1))
    (h : za_At p l e R s m args below meth c Q G nL kc ks (pc + 1) lv (.int (x <<< (y &&& 31)) :: st) μ) : za_At p l e R s m args below meth c Q G nL kc ks pc lv (.int y :: .int x :: st) μ :=
  fun H L ls hP hS hl => lv_ishl o.1 o.2.1 d (h H L ls hP hS hl)
def z_ushr (x : Int64) (y : Int32) : Int64 := (x.toUInt64 >>> (y.toInt64.toUInt64 &&& Int64.toUInt64 63)).toInt64
def z_lshl (x : Int64) (y : Int32) : Int64 := x <<< (y.toInt64 &&& 63)
theorem za_lushr (o : za_Ok R kc ks p s m args meth c G own cc nL ret) {x : Int64} {y : Int32} (d : decode cc pc = .ok (.lushr, 1))
    (h : za_At p l e R s m args below meth c Q G nL kc ks (pc + 1) lv (.long (z_ushr x y) :: st) μ) : za_At p l e R s m args below meth c Q G nL kc ks pc lv (.int y :: .long x :: st) μ :=
  fun H L ls hP hS hl => lv_lushr o.1 o.2.1 d rfl (h H L ls hP hS hl)
theorem za_lshl (o : za_Ok R kc ks p s m args meth c G own cc nL ret) {x : Int64} {y : Int32} (d : decode cc pc = .ok (.lshl, 1))
    (h : za_At p l e R s m args below meth c Q G nL kc ks (pc + 1) lv (.long (z_lshl x y) :: st) μ) : za_At p l e R s m args below meth c Q G nL kc ks pc lv (.int y :: .long x :: st) μ :=
  fun H L ls hP hS hl => lv_lshl o.1 o.2.1 d rfl (h H L ls hP hS hl)
def z_i2c (x : Int32) : Int32 := (x.toUInt32 % 65536).toInt32
theorem za_i2c (o : za_Ok R kc ks p s m args meth c G own cc nL ret) {x : Int32} (d : decode cc pc = .ok (.i2c, 1))
    (h : za_At p l e R s m args below meth c Q G nL kc ks (pc + 1) lv (.int (z_i2c x) :: st) μ) : za_At p l e R s m args below meth c Q G nL kc ks pc lv (.int x :: st) μ :=
  fun H L ls hP hS hl => lv_i2c o.1 o.2.1 d rfl (h H L ls hP hS hl)
theorem za_i2l (o : za_Ok R kc ks p s m args meth c G own cc nL ret) {x : Int32} (d : decode cc pc = .ok (.i2l, 1))
    (h : za_At p l e R s m args below meth c Q G nL kc ks (pc + 1) lv (.long x.toInt64 :: st) μ) : za_At p l e R s m args below meth c Q G nL kc ks pc lv (.int x :: st) μ :=
  fun H L ls hP hS hl => lv_i2l o.1 o.2.1 d rfl (h H L ls hP hS hl)
theorem za_l2i (o : za_Ok R kc ks p s m args meth c G own cc nL ret) {x : Int64} (d : decode cc pc = .ok (.l2i, 1))
    (h : za_At p l e R s m args below meth c Q G nL kc ks (pc + 1) lv (.int x.toInt32 :: st) μ) : za_At p l e R s m args below meth c Q G nL kc ks pc lv (.long x :: st) μ :=
  fun H L ls hP hS hl => lv_l2i o.1 o.2.1 d rfl (h H L ls hP hS hl)
theorem za_lcmp (o : za_Ok R kc ks p s m args meth c G own cc nL ret) {x y : Int64} (d : decode cc pc = .ok (.lcmp, 1))
    (h : za_At p l e R s m args below meth c Q G nL kc ks (pc + 1) lv (.int (lg_cmp x y) :: st) μ) : za_At p l e R s m args below meth c Q G nL kc ks pc lv (.long y :: .long x :: st) μ :=
  fun H L ls hP hS hl => W.lcmp o.1 o.2.1 d (h H L ls hP hS hl)
theorem za_topi {x : Int32} (h : ∀ y : Int32, y = x → za_At p l e R s m args below meth c Q G nL kc ks pc lv (.int y :: st) μ) : za_At p l e R s m args below meth c Q G nL kc ks pc lv (.int x :: st) μ := h x rfl
theorem za_topl {x : Int64} (h : ∀ y : Int64, y = x → za_At p l e R s m args below meth c Q G nL kc ks pc lv (.long y :: st) μ) : za_At p l e R s m args below meth c Q G nL kc ks pc lv (.long x :: st) μ := h x rfl
theorem za_topr {b x : Nat} (h : ∀ y : Nat, y = x → za_At p l e R s m args below meth c Q G nL kc ks pc lv (.ref (b + y) :: st) μ) : za_At p l e R s m args below meth c Q G nL kc ks pc lv (.ref (b + x) :: st) μ := h x rfl
theorem za_mem {μ0 : zMem} (h : ∀ μ1 : zMem, μ1 = μ0 → za_At p l e R s m args below meth c Q G nL kc ks pc lv st μ1) : za_At p l e R s m args below meth c Q G nL kc ks pc lv st μ0 := h μ0 rfl
theorem za_if_eq (o : za_Ok R kc ks p s m args meth c G own cc nL ret) {x : Int32} {off : Int} (tgt : Nat) (d : decode cc pc = .ok (.ifCond .eq off, 3)) (ht : (pc : Int) + off = (tgt : Int))
    (kt : x = 0 → za_At p l e R s m args below meth c Q G nL kc ks tgt lv st μ) (kf : ¬ x = 0 → za_At p l e R s m args below meth c Q G nL kc ks (pc + 3) lv st μ) : za_At p l e R s m args below meth c Q G nL kc ks pc lv (.int x :: st) μ :=
  fun H L ls hP hS hl => lv_if_eq o.1 o.2.1 d ht (fun z => kt z H L ls hP hS hl) (fun z => kf z H L ls hP hS hl)
theorem za_if_ne (o : za_Ok R kc ks p s m args meth c G own cc nL ret) {x : Int32} {off : Int} (tgt : Nat) (d : decode cc pc = .ok (.ifCond .ne off, 3)) (ht : (pc : Int) + off = (tgt : Int))
    (kt : ¬ x = 0 → za_At p l e R s m args below meth c Q G nL kc ks tgt lv st μ) (kf : x = 0 → za_At p l e R s m args below meth c Q G nL kc ks (pc + 3) lv st μ) : za_At p l e R s m args below meth c Q G nL kc ks pc lv (.int x :: st) μ :=
  fun H L ls hP hS hl => lv_if_ne o.1 o.2.1 d ht (fun z => kt z H L ls hP hS hl) (fun z => kf z H L ls hP hS hl)
theorem za_if_lt (o : za_Ok R kc ks p s m args meth c G own cc nL ret) {x : Int32} {off : Int} (tgt : Nat) (d : decode cc pc = .ok (.ifCond .lt off, 3)) (ht : (pc : Int) + off = (tgt : Int))
    (kt : x < 0 → za_At p l e R s m args below meth c Q G nL kc ks tgt lv st μ) (kf : ¬ x < 0 → za_At p l e R s m args below meth c Q G nL kc ks (pc + 3) lv st μ) : za_At p l e R s m args below meth c Q G nL kc ks pc lv (.int x :: st) μ :=
  fun H L ls hP hS hl => lv_if_lt o.1 o.2.1 d ht (fun z => kt z H L ls hP hS hl) (fun z => kf z H L ls hP hS hl)
theorem za_if_ge (o : za_Ok R kc ks p s m args meth c G own cc nL ret) {x : Int32} {off : Int} (tgt : Nat) (d : decode cc pc = .ok (.ifCond .ge off, 3)) (ht : (pc : Int) + off = (tgt : Int))
    (kt : 0 ≤ x → za_At p l e R s m args below meth c Q G nL kc ks tgt lv st μ) (kf : ¬ 0 ≤ x → za_At p l e R s m args below meth c Q G nL kc ks (pc + 3) lv st μ) : za_At p l e R s m args below meth c Q G nL kc ks pc lv (.int x :: st) μ :=
  fun H L ls hP hS hl => lv_if_ge o.1 o.2.1 d ht (fun z => kt z H L ls hP hS hl) (fun z => kf z H L ls hP hS hl)
theorem za_if_gt (o : za_Ok R kc ks p s m args meth c G own cc nL ret) {x : Int32} {off : Int} (tgt : Nat) (d : decode cc pc = .ok (.ifCond .gt off, 3)) (ht : (pc : Int) + off = (tgt : Int))
    (kt : 0 < x → za_At p l e R s m args below meth c Q G nL kc ks tgt lv st μ) (kf : ¬ 0 < x → za_At p l e R s m args below meth c Q G nL kc ks (pc + 3) lv st μ) : za_At p l e R s m args below meth c Q G nL kc ks pc lv (.int x :: st) μ :=
  fun H L ls hP hS hl => lv_if_gt o.1 o.2.1 d ht (fun z => kt z H L ls hP hS hl) (fun z => kf z H L ls hP hS hl)
theorem za_if_le (o : za_Ok R kc ks p s m args meth c G own cc nL ret) {x : Int32} {off : Int} (tgt : Nat) (d : decode cc pc = .ok (.ifCond .le off, 3)) (ht : (pc : Int) + off = (tgt : Int))
    (kt : x ≤ 0 → za_At p l e R s m args below meth c Q G nL kc ks tgt lv st μ) (kf : ¬ x ≤ 0 → za_At p l e R s m args below meth c Q G nL kc ks (pc + 3) lv st μ) : za_At p l e R s m args below meth c Q G nL kc ks pc lv (.int x :: st) μ :=
  fun H L ls hP hS hl => lv_if_le o.1 o.2.1 d ht (fun z => kt z H L ls hP hS hl) (fun z => kf z H L ls hP hS hl)
theorem za_icmp_eq (o : za_Ok R kc ks p s m args meth c G own cc nL ret) {x y : Int32} {off : Int} (tgt : Nat) (d : decode cc pc = .ok (.if_icmp .eq off, 3)) (ht : (pc : Int) + off = (tgt : Int))
    (kt : x = y → za_At p l e R s m args below meth c Q G nL kc ks tgt lv st μ) (kf : ¬ x = y → za_At p l e R s m args below meth c Q G nL kc ks (pc + 3) lv st μ) : za_At p l e R s m args below meth c Q G nL kc ks pc lv (.int y :: .int x :: st) μ :=
  fun H L ls hP hS hl => lv_icmp_eq o.1 o.2.1 d ht (fun z => kt z H L ls hP hS hl) (fun z => kf z H L ls hP hS hl)
theorem za_icmp_ne (o : za_Ok R kc ks p s m args meth c G own cc nL ret) {x y : Int32} {off : Int} (tgt : Nat) (d : decode cc pc = .ok (.if_icmp .ne off, 3)) (ht : (pc : Int) + off = (tgt : Int))
    (kt : ¬ x = y → za_At p l e R s m args below meth c Q G nL kc ks tgt lv st μ) (kf : x = y → za_At p l e R s m args below meth c Q G nL kc ks (pc + 3) lv st μ) : za_At p l e R s m args below meth c Q G nL kc ks pc lv (.int y :: .int x :: st) μ :=
  fun H L ls hP hS hl => lv_icmp_ne o.1 o.2.1 d ht (fun z => kt z H L ls hP hS hl) (fun z => kf z H L ls hP hS hl)
theorem za_icmp_lt (o : za_Ok R kc ks p s m args meth c G own cc nL ret) {x y : Int32} {off : Int} (tgt : Nat) (d : decode cc pc = .ok (.if_icmp .lt off, 3)) (ht : (pc : Int) + off = (tgt : Int))
    (kt : x < y → za_At p l e R s m args below meth c Q G nL kc ks tgt lv st μ) (kf : ¬ x < y → za_At p l e R s m args below meth c Q G nL kc ks (pc + 3) lv st μ) : za_At p l e R s m args below meth c Q G nL kc ks pc lv (.int y :: .int x :: st) μ :=
  fun H L ls hP hS hl => lv_icmp_lt o.1 o.2.1 d ht (fun z => kt z H L ls hP hS hl) (fun z => kf z H L ls hP hS hl)
theorem za_icmp_ge (o : za_Ok R kc ks p s m args meth c G own cc nL ret) {x y : Int32} {off : Int} (tgt : Nat) (d : decode cc pc = .ok (.if_icmp .ge off, 3)) (ht : (pc : Int) + off = (tgt : Int))
    (kt : y ≤ x → za_At p l e R s m args below meth c Q G nL kc ks tgt lv st μ) (kf : ¬ y ≤ x → za_At p l e R s m args below meth c Q G nL kc ks (pc + 3) lv st μ) : za_At p l e R s m args below meth c Q G nL kc ks pc lv (.int y :: .int x :: st) μ :=
  fun H L ls hP hS hl => lv_icmp_ge o.1 o.2.1 d ht (fun z => kt z H L ls hP hS hl) (fun z => kf z H L ls hP hS hl)
theorem za_icmp_gt (o : za_Ok R kc ks p s m args meth c G own cc nL ret) {x y : Int32} {off : Int} (tgt : Nat) (d : decode cc pc = .ok (.if_icmp .gt off, 3)) (ht : (pc : Int) + off = (tgt : Int))
    (kt : y < x → za_At p l e R s m args below meth c Q G nL kc ks tgt lv st μ) (kf : ¬ y < x → za_At p l e R s m args below meth c Q G nL kc ks (pc + 3) lv st μ) : za_At p l e R s m args below meth c Q G nL kc ks pc lv (.int y :: .int x :: st) μ :=
  fun H L ls hP hS hl => lv_icmp_gt o.1 o.2.1 d ht (fun z => kt z H L ls hP hS hl) (fun z => kf z H L ls hP hS hl)
theorem za_icmp_le (o : za_Ok R kc ks p s m args meth c G own cc nL ret) {x y : Int32} {off : Int} (tgt : Nat) (d : decode cc pc = .ok (.if_icmp .le off, 3)) (ht : (pc : Int) + off = (tgt : Int))
    (kt : x ≤ y → za_At p l e R s m args below meth c Q G nL kc ks tgt lv st μ) (kf : ¬ x ≤ y → za_At p l e R s m args below meth c Q G nL kc ks (pc + 3) lv st μ) : za_At p l e R s m args below meth c Q G nL kc ks pc lv (.int y :: .int x :: st) μ :=
  fun H L ls hP hS hl => lv_icmp_le o.1 o.2.1 d ht (fun z => kt z H L ls hP hS hl) (fun z => kf z H L ls hP hS hl)
theorem za_tsw (o : za_Ok R kc ks p s m args meth c G own cc nL ret) {dflt lo hi : Int} {offs : Array Int} {len : Nat} {x : Int32} (d : decode cc pc = .ok (.tableswitch dflt lo hi offs, len))
    (hout : x.toInt < lo ∨ hi < x.toInt → ∃ tgt : Nat, (pc : Int) + dflt = (tgt : Int) ∧ za_At p l e R s m args below meth c Q G nL kc ks tgt lv st μ)
    (hin : ¬ x.toInt < lo → ¬ hi < x.toInt → ∃ (off : Int) (tgt : Nat), offs[(x.toInt - lo).toNat]? = some off ∧ (pc : Int) + off = (tgt : Int) ∧ za_At p l e R s m args below meth c Q G nL kc ks tgt lv st μ) : za_At p l e R s m args below meth c Q G nL kc ks pc lv (.int x :: st) μ := by
  intro H L ls hP hS hl
  by_cases hc : x.toInt < lo ∨ hi < x.toInt
  · obtain ⟨tgt, ht, h⟩ := hout hc
    exact lv_tableOut o.1 o.2.1 d hc ht (h H L ls hP hS hl)
  · obtain ⟨off, tgt, ho, ht, h⟩ := hin (fun z => hc (Or.inl z)) (fun z => hc (Or.inr z))
    exact lv_tableIn o.1 o.2.1 d (fun z => hc (Or.inl z)) (fun z => hc (Or.inr z)) ho ht (h H L ls hP hS hl)
theorem za_lsw (o : za_Ok R kc ks p s m args meth c G own cc nL ret) {dflt : Int} {ps : Array (Int × Int)} {len : Nat} {x : Int32} {off : Int} (tgt : Nat) (d : decode cc pc = .ok (.lookupswitch dflt ps, len)) (hp : (ps.toList.zip (ps.toList.drop 1)).all (fun (a, next) => a.1 < next.1) = true) (ho : Op.lookupswitch.offset ps.toList dflt x.toInt = off) (ht : (pc : Int) + off = (tgt : Int))
    (h : za_At p l e R s m args below meth c Q G nL kc ks tgt lv st μ) : za_At p l e R s m args below meth c Q G nL kc ks pc lv (.int x :: st) μ :=
  fun H L ls hP hS hl => lv_lookup o.1 o.2.1 d hp ho ht (h H L ls hP hS hl)
/-! fields and arrays -/
theorem za_getf (o : za_Ok R kc ks p s m args meth c G own cc nL ret) {ci q i : Nat} (k : Nat) {C : String} {T : u_T} {N : Nat} {ty0 : Nat → FieldType} {v : Value} (hc : zCls ci C T N ty0) (hq : z_is q ci) (hk : k < N) (hw : Cond.fieldLink own i (T k).1 (T k).2.1 (T k).2.2.1 ∈ zW) (hv : (z_fs G.2.2 (μ q) ci q)[k]? = some v) (d : decode cc pc = .ok (.getfield i, 3))
    (h : za_At p l e R s m args below meth c Q G nL kc ks (pc + 3) lv (v :: st) μ) : za_At p l e R s m args below meth c Q G nL kc ks pc lv (.ref (G.2.2 + q) :: st) μ :=
  fun H L ls hP hS hl => va_get o.1 o.2.1 o.2.2.2.2.2.1 hc.2.1 o.2.2.2.2.1 o.2.2.2.2.2.2.1.1 hP q (by rw [zw_get G μ hq.1, z_enc G (μ q) hq hc.2.2.2.2.1 hc.2.2.2.2.2]) hc.1 k hk (o.2.2.2.2.2.1 _ hw) (fun _ z => z) hv d (h H L ls hP hS hl)
theorem za_getfN (o : za_Ok R kc ks p s m args meth c G own cc nL ret) {ci q i : Nat} (k : Nat) {C : String} (host : String) {T : u_T} {N : Nat} {ty0 : Nat → FieldType} {v : Value} (hc : zCls ci C T N ty0) (hq : z_is q ci) (hk : k < N) (hw : Cond.fieldLinkNest own i (T k).1 (T k).2.1 (T k).2.2.1 host ∈ zNw) (hv : (z_fs G.2.2 (μ q) ci q)[k]? = some v) (d : decode cc pc = .ok (.getfield i, 3))
    (h : za_At p l e R s m args below meth c Q G nL kc ks (pc + 3) lv (v :: st) μ) : za_At p l e R s m args below meth c Q G nL kc ks pc lv (.ref (G.2.2 + q) :: st) μ :=
  fun H L ls hP hS hl => va_getN o.1 o.2.1 o.2.2.2.2.2.1 hc.2.1 o.2.2.2.2.1 o.2.2.2.2.2.2.1.1 hP q (by rw [zw_get G μ hq.1, z_enc G (μ q) hq hc.2.2.2.2.1 hc.2.2.2.2.2]) hc.1 k hk (va_Nw.use rfl (o.2.2.2.2.2.2.1.2.1 _ hw)) (fun _ z => z) hv d (h H L ls hP hS hl)
theorem za_putf (o : za_Ok R kc ks p s m args meth c G own cc nL ret) {ci q i : Nat} (k : Nat) {C : String} {T : u_T} {N : Nat} {ty0 : Nat → FieldType} {ty : FieldType} {x : Int32} (hc : zCls ci C T N ty0) (hq : z_is q ci) (hk : k < N) (hw : Cond.fieldLink own i (T k).1 (T k).2.1 (T k).2.2.1 ∈ zW) (hf : (T k).2.2.2 = false) (hd : parseFieldDescriptor (T k).2.2.1 = some ty) (hn : narrow ty (.int x) = .int x) (hfit : fits ty (.int x) = true) (hl0 : k < (z_fs G.2.2 (μ q) ci q).length) (hv : z_fs G.2.2 (upd (μ q) k x) ci q = (z_fs G.2.2 (μ q) ci q).set k (.int x)) (d : decode cc pc = .ok (.putfield i, 3))
    (h : za_At p l e R s m args below meth c Q G nL kc ks (pc + 3) lv st (z_up μ q k x)) : za_At p l e R s m args below meth c Q G nL kc ks pc lv (.int x :: .ref (G.2.2 + q) :: st) μ := by
  intro H L ls hP hS hl
  refine va_put o.1 o.2.1 o.2.2.2.2.2.1 hc.2.1 ty0 hc.2.2.1 hc.2.2.2.1 o.2.2.2.2.1 o.2.2.2.2.2.2.1.1 hP (zw_D G μ) hS q (by rw [zw_get G μ hq.1, z_enc G (μ q) hq hc.2.2.2.2.1 hc.2.2.2.2.2]) hc.1 k hk (o.2.2.2.2.2.1 _ hw) (fun _ z => z) hf hd hn hfit hl0 d (fun H1 L1 hP1 _ hS1 => ?_)
  rw [zw_set G μ hq.1 (by rw [z_enc G _ hq hc.2.2.2.2.1 hc.2.2.2.2.2, hv])] at hP1
  exact h H1 L1 ls hP1 hS1 hl
theorem za_putfN (o : za_Ok R kc ks p s m args meth c G own cc nL ret) {ci q i : Nat} (k : Nat) {C : String} (host : String) {T : u_T} {N : Nat} {ty0 : Nat → FieldType} {ty : FieldType} {x : Int32} (hc : zCls ci C T N ty0) (hq : z_is q ci) (hk : k < N) (hw : Cond.fieldLinkNest own i (T k).1 (T k).2.1 (T k).2.2.1 host ∈ zNw) (hf : (T k).2.2.2 = false) (hd : parseFieldDescriptor (T k).2.2.1 = some ty) (hn : narrow ty (.int x) = .int x) (hfit : fits ty (.int x) = true) (hl0 : k < (z_fs G.2.2 (μ q) ci q).length) (hv : z_fs G.2.2 (upd (μ q) k x) ci q = (z_fs G.2.2 (μ q) ci q).set k (.int x)) (d : decode cc pc = .ok (.putfield i, 3))
    (h : za_At p l e R s m args below meth c Q G nL kc ks (pc + 3) lv st (z_up μ q k x)) : za_At p l e R s m args below meth c Q G nL kc ks pc lv (.int x :: .ref (G.2.2 + q) :: st) μ := by
  intro H L ls hP hS hl
  refine va_putN o.1 o.2.1 o.2.2.2.2.2.1 hc.2.1 ty0 hc.2.2.1 hc.2.2.2.1 o.2.2.2.2.1 o.2.2.2.2.2.2.1.1 hP (zw_D G μ) hS q (by rw [zw_get G μ hq.1, z_enc G (μ q) hq hc.2.2.2.2.1 hc.2.2.2.2.2]) hc.1 k hk (va_Nw.use rfl (o.2.2.2.2.2.2.1.2.1 _ hw)) (fun _ z => z) hf hd hn hfit hl0 d (fun H1 L1 hP1 _ hS1 => ?_)
  rw [zw_set G μ hq.1 (by rw [z_enc G _ hq hc.2.2.2.2.1 hc.2.2.2.2.2, hv])] at hP1
  exact h H1 L1 ls hP1 hS1 hl
theorem za_iald (o : za_Ok R kc ks p s m args meth c G own cc nL ret) {q k n : Nat} {i : Int32} (hq : z_is q k) (hk : z_nu k = some (0, n)) (hi : vp_in i n) (d : decode cc pc = .ok (.iaload, 1))
    (h : za_At p l e R s m args below meth c Q G nL kc ks (pc + 1) lv (.int (μ q i.toNatClampNeg) :: st) μ) : za_At p l e R s m args below meth c Q G nL kc ks pc lv (.int i :: .ref (G.2.2 + q) :: st) μ :=
  fun H L ls hP hS hl => va_iald o.1 o.2.1 o.2.2.2.2.2.2.1.1 hP q 0 (cA := G.2.1 0) (by rw [zw_get G μ hq.1, z_enn G (μ q) hq hk]) rfl hi d (h H L ls hP hS hl)
theorem za_cald (o : za_Ok R kc ks p s m args meth c G own cc nL ret) {q k n : Nat} {i : Int32} (hq : z_is q k) (hk : z_nu k = some (1, n)) (hi : vp_in i n) (d : decode cc pc = .ok (.caload, 1))
    (h : za_At p l e R s m args below meth c Q G nL kc ks (pc + 1) lv (.int (μ q i.toNatClampNeg) :: st) μ) : za_At p l e R s m args below meth c Q G nL kc ks pc lv (.int i :: .ref (G.2.2 + q) :: st) μ :=
  fun H L ls hP hS hl => va_cald o.1 o.2.1 o.2.2.2.2.2.2.1.1 hP q 1 (cA := G.2.1 1) (by rw [zw_get G μ hq.1, z_enn G (μ q) hq hk]) rfl hi d (h H L ls hP hS hl)
theorem za_zald (o : za_Ok R kc ks p s m args meth c G own cc nL ret) {q k n : Nat} {i : Int32} (hq : z_is q k) (hk : z_nu k = some (2, n)) (hi : vp_in i n) (d : decode cc pc = .ok (.baload, 1))
    (h : za_At p l e R s m args below meth c Q G nL kc ks (pc + 1) lv (.int (μ q i.toNatClampNeg) :: st) μ) : za_At p l e R s m args below meth c Q G nL kc ks pc lv (.int i :: .ref (G.2.2 + q) :: st) μ :=
  fun H L ls hP hS hl => va_zald o.1 o.2.1 o.2.2.2.2.2.2.1.1 hP q 2 (cA := G.2.1 2) (by rw [zw_get G μ hq.1, z_enn G (μ q) hq hk]) rfl hi d (h H L ls hP hS hl)
theorem za_iast (o : za_Ok R kc ks p s m args meth c G own cc nL ret) {q k n : Nat} {i x : Int32} (hq : z_is q k) (hk : z_nu k = some (0, n)) (hi : vp_in i n) (d : decode cc pc = .ok (.iastore, 1))
    (h : za_At p l e R s m args below meth c Q G nL kc ks (pc + 1) lv st (z_up μ q i.toNatClampNeg x)) : za_At p l e R s m args below meth c Q G nL kc ks pc lv (.int x :: .int i :: .ref (G.2.2 + q) :: st) μ := by
  intro H L ls hP hS hl
  refine va_iast o.1 o.2.1 o.2.2.2.2.2.2.1.1 hP (zw_D G μ) hS q 0 (cA := G.2.1 0) (by rw [zw_get G μ hq.1, z_enn G (μ q) hq hk]) rfl hi d (fun H1 L1 hP1 _ hS1 => ?_)
  rw [zw_set G μ hq.1 (by rw [z_enn G _ hq hk])] at hP1
  exact h H1 L1 ls hP1 hS1 hl
theorem za_cast (o : za_Ok R kc ks p s m args meth c G own cc nL ret) {q k n : Nat} {i x : Int32} (hq : z_is q k) (hk : z_nu k = some (1, n)) (hi : vp_in i n) (d : decode cc pc = .ok (.castore, 1))
    (h : za_At p l e R s m args below meth c Q G nL kc ks (pc + 1) lv st (z_up μ q i.toNatClampNeg (vp_nar .char x))) : za_At p l e R s m args below meth c Q G nL kc ks pc lv (.int x :: .int i :: .ref (G.2.2 + q) :: st) μ := by
  intro H L ls hP hS hl
  refine va_cast o.1 o.2.1 o.2.2.2.2.2.2.1.1 hP (zw_D G μ) hS q 1 (cA := G.2.1 1) (by rw [zw_get G μ hq.1, z_enn G (μ q) hq hk]) rfl hi d (fun H1 L1 hP1 _ hS1 => ?_)
  rw [zw_set G μ hq.1 (by rw [z_enn G _ hq hk])] at hP1
  exact h H1 L1 ls hP1 hS1 hl
theorem za_zast (o : za_Ok R kc ks p s m args meth c G own cc nL ret) {q k n : Nat} {i x : Int32} (hq : z_is q k) (hk : z_nu k = some (2, n)) (hi : vp_in i n) (d : decode cc pc = .ok (.bastore, 1))
    (h : za_At p l e R s m args below meth c Q G nL kc ks (pc + 1) lv st (z_up μ q i.toNatClampNeg (vp_nar .boolean x))) : za_At p l e R s m args below meth c Q G nL kc ks pc lv (.int x :: .int i :: .ref (G.2.2 + q) :: st) μ := by
  intro H L ls hP hS hl
  refine va_zast o.1 o.2.1 o.2.2.2.2.2.2.1.1 hP (zw_D G μ) hS q 2 (cA := G.2.1 2) (by rw [zw_get G μ hq.1, z_enn G (μ q) hq hk]) rfl hi d (fun H1 L1 hP1 _ hS1 => ?_)
  rw [zw_set G μ hq.1 (by rw [z_enn G _ hq hk])] at hP1
  exact h H1 L1 ls hP1 hS1 hl
theorem za_aald (o : za_Ok R kc ks p s m args meth c G own cc nL ret) {q k t n o1 d1 : Nat} {C : String} {i : Int32} (hq : z_is q k) (hn : z_nu k = none) (hk : z_re k = some (t, n, o1, d1)) (ht : (zys G)[t]? = some (G.2.1 t, .object C)) (hi : vp_in i n) (d : decode cc pc = .ok (.aaload, 1))
    (h : za_At p l e R s m args below meth c Q G nL kc ks (pc + 1) lv (.ref (G.2.2 + (q + o1 + d1 * i.toNatClampNeg)) :: st) μ) : za_At p l e R s m args below meth c Q G nL kc ks pc lv (.int i :: .ref (G.2.2 + q) :: st) μ :=
  fun H L ls hP hS hl => va_aldq (f := fun i => some (G.2.2 + (q + o1 + d1 * i))) o.1 o.2.1 o.2.2.2.2.2.2.1.1 hP q t (cA := G.2.1 t) (by rw [zw_get G μ hq.1, z_enr G (μ q) hq hn hk]) ht hi d (h H L ls hP hS hl)
def zCpy (μ : zMem) (a q : Nat) (sp dp n : Nat) : zMem := fun r => if r = q then va_cpy (μ a) (μ q) sp dp n else μ r
theorem zw_cpy (G : zG) (μ : zMem) {q : Nat} {f : Nat → Int32} {en : va_E} (h : q < 537) (he : z_en G f q = en) : (zw G μ).set q (G.2.2 + q, en) = zw G (fun r => if r = q then f else μ r) := by
  apply List.ext_getElem?
  intro i
  by_cases hi : i < 537
  · rw [List.getElem?_set, zw_get G (fun r => if r = q then f else μ r) hi, zw_get G μ hi]
    by_cases hq : q = i
    · subst hq
      have hl : q < (zw G μ).length := by unfold zw; rw [List.length_map, List.length_range]; exact h
      rw [if_pos rfl, if_pos hl, ← he, if_pos rfl]
    · rw [if_neg hq, if_neg (fun e => hq e.symm)]
  · have h1 : (zw G (fun r => if r = q then f else μ r)).length ≤ i := by unfold zw; rw [List.length_map, List.length_range]; omega
    have h2 : ((zw G μ).set q (G.2.2 + q, en)).length ≤ i := by rw [List.length_set]; unfold zw; rw [List.length_map, List.length_range]; omega
    rw [List.getElem?_eq_none h1, List.getElem?_eq_none h2]
theorem za_copy (o : za_Ok R kc ks p s m args meth c G own cc nL ret) {a q k k2 n n2 i : Nat} {sp dp nn : Int32} (ha : z_is a k) (hk : z_nu k = some (0, n)) (hq : z_is q k2) (hk2 : z_nu k2 = some (0, n2)) (hw : Cond.methodLink own i arraycopyName ∈ zW) (w1 : Cond.native arraycopyName ∈ zW) (w2 : Cond.static arraycopyName ∈ zW) (w3 : Cond.initialized "java/lang/System" ∈ zW)
    (h1 : ¬ sp < 0) (h2 : ¬ dp < 0) (h3 : ¬ nn < 0) (h4 : sp.toNatClampNeg + nn.toNatClampNeg ≤ n) (h5 : dp.toNatClampNeg + nn.toNatClampNeg ≤ n2) (hfr : 1 ≤ R.frames) (hlo : (st.map fun v => v.category).sum + (nativeFrameWords "java/lang/System" "arraycopy" 5 + 11) ≤ R.locals) (d : decode cc pc = .ok (.invokestatic i, 3))
    (h : za_At p l e R s m args below meth c Q G nL kc ks (pc + 3) lv st (zCpy μ a q sp.toNatClampNeg dp.toNatClampNeg nn.toNatClampNeg)) : za_At p l e R s m args below meth c Q G nL kc ks pc lv (.int nn :: .int dp :: .ref (G.2.2 + q) :: .int sp :: .ref (G.2.2 + a) :: st) μ := by
  intro H L ls hP hS hl
  refine va_copyi o.1 o.2.1 (o.2.2.2.1.trans hl.1.symm) o.2.2.2.2.1 (o.2.2.2.2.2.1 _ hw) (o.2.2.2.2.2.1 _ w1) (o.2.2.2.2.2.1 _ w2) (o.2.2.2.2.2.1 _ w3) o.2.2.2.2.2.2.1.1 hP (zw_D G μ) hS a q 0 0 (c0 := G.2.1 0) (c1 := G.2.1 0) (ty := .int) (by rw [zw_get G μ ha.1, z_enn G (μ a) ha hk]) (by rw [zw_get G μ hq.1, z_enn G (μ q) hq hk2]) rfl rfl rfl h1 h2 h3 h4 h5 (fun _ _ => rfl) hfr hlo d (fun H1 L1 hP1 _ hS1 => ?_)
  rw [zw_cpy G μ hq.1 (f := va_cpy (μ a) (μ q) sp.toNatClampNeg dp.toNatClampNeg nn.toNatClampNeg) (by rw [z_enn G _ hq hk2])] at hP1
  exact h H1 L1 ls hP1 hS1 hl
def z_max (x y : Int32) : Int32 := if x < y then y else x
def z_min (x y : Int32) : Int32 := if y < x then y else x
theorem za_max (o : za_Ok R kc ks p s m args meth c G own cc nL ret) {x y : Int32} {i : Nat} (hw : Cond.methodLink own i Lib.Math.max.name ∈ zW) (w1 : Cond.static Lib.Math.max.name ∈ zW) (w2 : Cond.initialized "java/lang/Math" ∈ zW) (w3 : Cond.code Lib.Math.max.name Lib.Math.max.code 2 (some .int) ∈ zW) (hfr : 1 ≤ R.frames) (hlo : (st.map fun v => v.category).sum + 13 ≤ R.locals) (d : decode cc pc = .ok (.invokestatic i, 3))
    (h : za_At p l e R s m args below meth c Q G nL kc ks (pc + 3) lv (.int (z_max x y) :: st) μ) : za_At p l e R s m args below meth c Q G nL kc ks pc lv (.int y :: .int x :: st) μ :=
  fun H L ls hP hS hl => va_mmax o.1 o.2.1 (o.2.2.2.1.trans hl.1.symm) o.2.2.2.2.1 (o.2.2.2.2.2.1 _ hw) (o.2.2.2.2.2.1 _ w1) (o.2.2.2.2.2.1 _ w2) (o.2.2.2.2.2.1 _ w3) hfr hlo o.2.2.2.2.2.2.2.2.1 o.2.2.2.2.2.2.2.2.2 d (h H L ls hP hS hl)
theorem za_min (o : za_Ok R kc ks p s m args meth c G own cc nL ret) {x y : Int32} {i : Nat} (hw : Cond.methodLink own i Lib.Math.min.name ∈ zW) (w1 : Cond.static Lib.Math.min.name ∈ zW) (w2 : Cond.initialized "java/lang/Math" ∈ zW) (w3 : Cond.code Lib.Math.min.name Lib.Math.min.code 2 (some .int) ∈ zW) (hfr : 1 ≤ R.frames) (hlo : (st.map fun v => v.category).sum + 13 ≤ R.locals) (d : decode cc pc = .ok (.invokestatic i, 3))
    (h : za_At p l e R s m args below meth c Q G nL kc ks (pc + 3) lv (.int (z_min x y) :: st) μ) : za_At p l e R s m args below meth c Q G nL kc ks pc lv (.int y :: .int x :: st) μ :=
  fun H L ls hP hS hl => va_mmin o.1 o.2.1 (o.2.2.2.1.trans hl.1.symm) o.2.2.2.2.1 (o.2.2.2.2.2.1 _ hw) (o.2.2.2.2.2.1 _ w1) (o.2.2.2.2.2.1 _ w2) (o.2.2.2.2.2.1 _ w3) hfr hlo o.2.2.2.2.2.2.2.2.1 o.2.2.2.2.2.2.2.2.2 d (h H L ls hP hS hl)
/-- a row of one of the two static tables: getstatic, iload_n, iaload -/
theorem za_stab (o : za_Ok R kc ks p s m args meth c G own cc nL ret) {i : Nat} (n host : String) {f : Nat → Int32} (hZ : zSt G s n f) (hw : Cond.fieldLinkNest own i "CanteenPlates" n "[I" host ∈ zNw) (d : decode cc pc = .ok (.getstatic i, 3)) {j : Int32} {k : Fin 4} {i2 : Nat} (jj : Nat) (d2 : decode cc (pc + 3) = .ok (.iload_n k, 1)) (hi2 : (k : Nat) = i2) (hj : lv[jj]? = some (i2, .int j)) (hin : vp_in j 4) (d3 : decode cc (pc + 3 + 1) = .ok (.iaload, 1))
    (h : za_At p l e R s m args below meth c Q G nL kc ks (pc + 3 + 1 + 1) lv (.int (f j.toNatClampNeg) :: st) μ) : za_At p l e R s m args below meth c Q G nL kc ks pc lv st μ := by
  intro H L ls hP hS hl
  obtain ⟨a, hz, ht⟩ := hZ
  refine va_getsN o.1 o.2.1 hz hS o.2.2.2.2.1 (va_Nw.use rfl (o.2.2.2.2.2.2.1.2.1 _ hw)) (fun _ z => z) d ?_
  refine lv_iload_n o.1 o.2.1 d2 hi2 (lv_at hl jj hj) ?_
  exact va_ti o.1 o.2.1 ht hS hin rfl d3 (h H L ls hP hS hl)
end ZA
