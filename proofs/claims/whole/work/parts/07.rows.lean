section RW1
variable {G : GC} {mi : MI} {R : Room} {Qf : List Frame → Array Value → State → State → Prop} {pc : Nat} {L : List (Nat × Value)} {st : List Value} {M : Mem} {kc ks : Nat}

theorem r_istore_n {i : Fin 4} {x : Int32} (d : decode mi.2.1 pc = .ok (.istore_n i, 1)) (hn : (i : Nat) < mi.2.2.1 := by decide) (ho : ok1 L (i : Nat) = true := by rfl) (k : SWG G mi R Qf (pc + 1) (((i : Nat), .int x) :: L) st M kc ks) : SWG G mi R Qf pc L (.int x :: st) M kc ks := by
  intro p l e s m args below meth c E ls H locs hl hR hf
  have hexec := E.1
  have hb := E.2.1
  obtain ⟨ls', e', h'⟩ := lh_store1 (v := .int x) hl hn rfl ho
  intro T hT X
  obtain ⟨t, a, b⟩ := k p l e s m args below meth c E ls' H locs h' hR hf T hT X
  refine ⟨t, ?_, b⟩
  jvm_step X.here [X.here.top, ↓top_set X.here.top, hexec, hb, d, e']
  exact a
theorem r_istore {i : Nat} {x : Int32} (d : decode mi.2.1 pc = .ok (.istore i, 2)) (hn : i < mi.2.2.1 := by decide) (ho : ok1 L i = true := by rfl) (k : SWG G mi R Qf (pc + 2) ((i, .int x) :: L) st M kc ks) : SWG G mi R Qf pc L (.int x :: st) M kc ks := by
  intro p l e s m args below meth c E ls H locs hl hR hf
  have hexec := E.1
  have hb := E.2.1
  obtain ⟨ls', e', h'⟩ := lh_store1 (v := .int x) hl hn rfl ho
  intro T hT X
  obtain ⟨t, a, b⟩ := k p l e s m args below meth c E ls' H locs h' hR hf T hT X
  refine ⟨t, ?_, b⟩
  jvm_step X.here [X.here.top, ↓top_set X.here.top, hexec, hb, d, e']
  exact a
theorem r_astore_n {i : Fin 4} {x : Nat} (d : decode mi.2.1 pc = .ok (.astore_n i, 1)) (hn : (i : Nat) < mi.2.2.1 := by decide) (ho : ok1 L (i : Nat) = true := by rfl) (k : SWG G mi R Qf (pc + 1) (((i : Nat), .ref x) :: L) st M kc ks) : SWG G mi R Qf pc L (.ref x :: st) M kc ks := by
  intro p l e s m args below meth c E ls H locs hl hR hf
  have hexec := E.1
  have hb := E.2.1
  obtain ⟨ls', e', h'⟩ := lh_store1 (v := .ref x) hl hn rfl ho
  intro T hT X
  obtain ⟨t, a, b⟩ := k p l e s m args below meth c E ls' H locs h' hR hf T hT X
  refine ⟨t, ?_, b⟩
  jvm_step X.here [X.here.top, ↓top_set X.here.top, hexec, hb, d, e', Value.isRef]
  exact a
theorem r_astore {i : Nat} {x : Nat} (d : decode mi.2.1 pc = .ok (.astore i, 2)) (hn : i < mi.2.2.1 := by decide) (ho : ok1 L i = true := by rfl) (k : SWG G mi R Qf (pc + 2) ((i, .ref x) :: L) st M kc ks) : SWG G mi R Qf pc L (.ref x :: st) M kc ks := by
  intro p l e s m args below meth c E ls H locs hl hR hf
  have hexec := E.1
  have hb := E.2.1
  obtain ⟨ls', e', h'⟩ := lh_store1 (v := .ref x) hl hn rfl ho
  intro T hT X
  obtain ⟨t, a, b⟩ := k p l e s m args below meth c E ls' H locs h' hR hf T hT X
  refine ⟨t, ?_, b⟩
  jvm_step X.here [X.here.top, ↓top_set X.here.top, hexec, hb, d, e', Value.isRef]
  exact a
theorem r_astore_nN {i : Fin 4}  (d : decode mi.2.1 pc = .ok (.astore_n i, 1)) (hn : (i : Nat) < mi.2.2.1 := by decide) (ho : ok1 L (i : Nat) = true := by rfl) (k : SWG G mi R Qf (pc + 1) (((i : Nat), .null) :: L) st M kc ks) : SWG G mi R Qf pc L (.null :: st) M kc ks := by
  intro p l e s m args below meth c E ls H locs hl hR hf
  have hexec := E.1
  have hb := E.2.1
  obtain ⟨ls', e', h'⟩ := lh_store1 (v := .null) hl hn rfl ho
  intro T hT X
  obtain ⟨t, a, b⟩ := k p l e s m args below meth c E ls' H locs h' hR hf T hT X
  refine ⟨t, ?_, b⟩
  jvm_step X.here [X.here.top, ↓top_set X.here.top, hexec, hb, d, e', Value.isRef]
  exact a
theorem r_astoreN {i : Nat}  (d : decode mi.2.1 pc = .ok (.astore i, 2)) (hn : i < mi.2.2.1 := by decide) (ho : ok1 L i = true := by rfl) (k : SWG G mi R Qf (pc + 2) ((i, .null) :: L) st M kc ks) : SWG G mi R Qf pc L (.null :: st) M kc ks := by
  intro p l e s m args below meth c E ls H locs hl hR hf
  have hexec := E.1
  have hb := E.2.1
  obtain ⟨ls', e', h'⟩ := lh_store1 (v := .null) hl hn rfl ho
  intro T hT X
  obtain ⟨t, a, b⟩ := k p l e s m args below meth c E ls' H locs h' hR hf T hT X
  refine ⟨t, ?_, b⟩
  jvm_step X.here [X.here.top, ↓top_set X.here.top, hexec, hb, d, e', Value.isRef]
  exact a
theorem r_fstore {i : Nat} {x : UInt32} (d : decode mi.2.1 pc = .ok (.fstore i, 2)) (hn : i < mi.2.2.1 := by decide) (ho : ok1 L i = true := by rfl) (k : SWG G mi R Qf (pc + 2) ((i, .float x) :: L) st M kc ks) : SWG G mi R Qf pc L (.float x :: st) M kc ks := by
  intro p l e s m args below meth c E ls H locs hl hR hf
  have hexec := E.1
  have hb := E.2.1
  obtain ⟨ls', e', h'⟩ := lh_store1 (v := .float x) hl hn rfl ho
  intro T hT X
  obtain ⟨t, a, b⟩ := k p l e s m args below meth c E ls' H locs h' hR hf T hT X
  refine ⟨t, ?_, b⟩
  jvm_step X.here [X.here.top, ↓top_set X.here.top, hexec, hb, d, e']
  exact a
theorem r_dstore {i : Nat} {x : UInt64} (d : decode mi.2.1 pc = .ok (.dstore i, 2)) (hn : i + 1 < mi.2.2.1 := by decide) (ho : ok1 L i = true := by rfl) (ho2 : lk L (i + 1) = none := by rfl) (k : SWG G mi R Qf (pc + 2) ((i, .double x) :: L) st M kc ks) : SWG G mi R Qf pc L (.double x :: st) M kc ks := by
  intro p l e s m args below meth c E ls H locs hl hR hf
  have hexec := E.1
  have hb := E.2.1
  obtain ⟨ls', e', h'⟩ := lh_store2 (v := .double x) hl hn rfl ho ho2
  intro T hT X
  obtain ⟨t, a, b⟩ := k p l e s m args below meth c E ls' H locs h' hR hf T hT X
  refine ⟨t, ?_, b⟩
  jvm_step X.here [X.here.top, ↓top_set X.here.top, hexec, hb, d, e']
  exact a
theorem r_iinc {i : Nat} {n z : Int} (d : decode mi.2.1 pc = .ok (.iinc i n, 3)) (h : lk L i = some (.int (iz z))) (hn : i < mi.2.2.1 := by decide) (ho : ok1 L i = true := by rfl) (k : SWG G mi R Qf (pc + 3) ((i, .int (iz (z + n))) :: L) st M kc ks) : SWG G mi R Qf pc L st M kc ks := by
  intro p l e s m args below meth c E ls H locs hl hR hf
  have hexec := E.1
  have hb := E.2.1
  have hg := hl.2.2 _ _ h
  obtain ⟨ls', e', h'⟩ := lh_store1 (v := .int (iz (z + n))) hl hn rfl ho
  rw [← iz_add] at e'
  have e'' : storeLocals ls i (.int (iz z + Int32.ofInt n)) = some ls' := e'
  intro T hT X
  obtain ⟨t, a, b⟩ := k p l e s m args below meth c E ls' H locs h' hR hf T hT X
  refine ⟨t, ?_, b⟩
  jvm_step X.here [X.here.top, ↓top_set X.here.top, hexec, hb, d, hg, e'']
  exact a
theorem r_fload {i : Nat} {x : UInt32} (d : decode mi.2.1 pc = .ok (.fload i, 2)) (h : lk L i = some (.float x)) (k : SWG G mi R Qf (pc + 2) L (.float x :: st) M kc ks) : SWG G mi R Qf pc L st M kc ks := by
  intro p l e s m args below meth c E ls H locs hl hR hf
  exact lv_fload E.1 E.2.1 d (hl.2.2 _ _ h) (k p l e s m args below meth c E ls H locs hl hR hf)
theorem r_dload {i : Nat} {x : UInt64} (d : decode mi.2.1 pc = .ok (.dload i, 2)) (h : lk L i = some (.double x)) (k : SWG G mi R Qf (pc + 2) L (.double x :: st) M kc ks) : SWG G mi R Qf pc L st M kc ks := by
  intro p l e s m args below meth c E ls H locs hl hR hf
  exact lv_dload E.1 E.2.1 d (hl.2.2 _ _ h) (k p l e s m args below meth c E ls H locs hl hR hf)
theorem r_iadd {a b : Int} (d : decode mi.2.1 pc = .ok (.iadd, 1)) (k : SWG G mi R Qf (pc + 1) L (.int (iz (a + b)) :: st) M kc ks) : SWG G mi R Qf pc L (.int (iz b) :: .int (iz a) :: st) M kc ks := by
  intro p l e s m args below meth c E ls H locs hl hR hf
  refine lv_iadd E.1 E.2.1 d ?_
  rw [iz_add]
  exact k p l e s m args below meth c E ls H locs hl hR hf
theorem r_isub {a b : Int} (d : decode mi.2.1 pc = .ok (.isub, 1)) (k : SWG G mi R Qf (pc + 1) L (.int (iz (a - b)) :: st) M kc ks) : SWG G mi R Qf pc L (.int (iz b) :: .int (iz a) :: st) M kc ks := by
  intro p l e s m args below meth c E ls H locs hl hR hf
  refine lv_isub E.1 E.2.1 d ?_
  rw [iz_sub]
  exact k p l e s m args below meth c E ls H locs hl hR hf
theorem r_imul {a b : Int} (d : decode mi.2.1 pc = .ok (.imul, 1)) (k : SWG G mi R Qf (pc + 1) L (.int (iz (a * b)) :: st) M kc ks) : SWG G mi R Qf pc L (.int (iz b) :: .int (iz a) :: st) M kc ks := by
  intro p l e s m args below meth c E ls H locs hl hR hf
  refine lv_imul E.1 E.2.1 d ?_
  rw [iz_mul]
  exact k p l e s m args below meth c E ls H locs hl hR hf
theorem iz_div {a b : Int} (ha : inR a) (hb : inR b) (h0 : 0 ≤ a) (h : 0 < b) : iz a / iz b = iz (a / b) := by
  have e : a.tdiv b = a / b := Int.tdiv_eq_ediv_of_nonneg h0
  obtain ⟨h1, h2⟩ := ha
  have h3 : 0 ≤ a / b := Int.ediv_nonneg h0 (by omega)
  have h4 : a / b ≤ a := Int.ediv_le_self b h0
  apply Int32.toInt_inj.mp
  rw [Int32.toInt_div, iz_toInt ⟨h1, h2⟩, iz_toInt hb, iz_toInt (by constructor <;> omega), e]
  first
    | (rw [Int.bmod_eq_of_le] <;> omega)
    | (unfold Int.bmod; omega)
theorem r_idiv {a b : Int} (d : decode mi.2.1 pc = .ok (.idiv, 1)) (ha : inR a := by (unfold inR; omega)) (hb : inR b := by (unfold inR; omega)) (h0 : 0 ≤ a := by omega) (h : 0 < b := by omega) (k : SWG G mi R Qf (pc + 1) L (.int (iz (a / b)) :: st) M kc ks) : SWG G mi R Qf pc L (.int (iz b) :: .int (iz a) :: st) M kc ks := by
  intro p l e s m args below meth c E ls H locs hl hR hf
  refine lv_idiv E.1 E.2.1 d (fun q => ?_) ?_
  · rw [iz_0, iz_inj hb (by constructor <;> omega)] at q; omega
  · rw [iz_div ha hb h0 h]
    exact k p l e s m args below meth c E ls H locs hl hR hf
theorem r_irem {a b : Int} (d : decode mi.2.1 pc = .ok (.irem, 1)) (ha : inR a := by (unfold inR; omega)) (hb : inR b := by (unfold inR; omega)) (h0 : 0 ≤ a := by omega) (h : 0 < b := by omega) (k : SWG G mi R Qf (pc + 1) L (.int (iz (a % b)) :: st) M kc ks) : SWG G mi R Qf pc L (.int (iz b) :: .int (iz a) :: st) M kc ks := by
  intro p l e s m args below meth c E ls H locs hl hR hf
  have e9 : a - a / b * b = a % b := by rw [Int.emod_def, Int.mul_comm]
  refine lv_irem E.1 E.2.1 d (fun q => ?_) ?_
  · rw [iz_0, iz_inj hb (by constructor <;> omega)] at q; omega
  · rw [iz_div ha hb h0 h, iz_mul, iz_sub, e9]
    exact k p l e s m args below meth c E ls H locs hl hR hf
theorem r_iand {x y v : Int32} (d : decode mi.2.1 pc = .ok (.iand, 1)) (hv : x &&& y = v) (k : SWG G mi R Qf (pc + 1) L (.int v :: st) M kc ks) : SWG G mi R Qf pc L (.int y :: .int x :: st) M kc ks := by
  intro p l e s m args below meth c E ls H locs hl hR hf
  subst hv
  exact lv_iand E.1 E.2.1 d (k p l e s m args below meth c E ls H locs hl hR hf)
theorem r_ior {x y v : Int32} (d : decode mi.2.1 pc = .ok (.ior, 1)) (hv : x ||| y = v) (k : SWG G mi R Qf (pc + 1) L (.int v :: st) M kc ks) : SWG G mi R Qf pc L (.int y :: .int x :: st) M kc ks := by
  intro p l e s m args below meth c E ls H locs hl hR hf
  subst hv
  exact lv_ior E.1 E.2.1 d (k p l e s m args below meth c E ls H locs hl hR hf)
theorem r_ixor {x y v : Int32} (d : decode mi.2.1 pc = .ok (.ixor, 1)) (hv : x ^^^ y = v) (k : SWG G mi R Qf (pc + 1) L (.int v :: st) M kc ks) : SWG G mi R Qf pc L (.int y :: .int x :: st) M kc ks := by
  intro p l e s m args below meth c E ls H locs hl hR hf
  subst hv
  exact lv_ixor E.1 E.2.1 d (k p l e s m args below meth c E ls H locs hl hR hf)
theorem r_ishl {x y v : Int32} (d : decode mi.2.1 pc = .ok (.ishl, 1)) (hv : x <<< (y &&& 31) = v) (k : SWG G mi R Qf (pc + 1) L (.int v :: st) M kc ks) : SWG G mi R Qf pc L (.int y :: .int x :: st) M kc ks := by
  intro p l e s m args below meth c E ls H locs hl hR hf
  subst hv
  exact lv_ishl E.1 E.2.1 d (k p l e s m args below meth c E ls H locs hl hR hf)
theorem r_ishr {x y v : Int32} (d : decode mi.2.1 pc = .ok (.ishr, 1)) (hv : x >>> (y &&& 31) = v) (k : SWG G mi R Qf (pc + 1) L (.int v :: st) M kc ks) : SWG G mi R Qf pc L (.int y :: .int x :: st) M kc ks := by
  intro p l e s m args below meth c E ls H locs hl hR hf
  subst hv
  exact lv_ishr E.1 E.2.1 d (k p l e s m args below meth c E ls H locs hl hR hf)
theorem r_ladd {x y : Int64} (d : decode mi.2.1 pc = .ok (.ladd, 1)) (k : SWG G mi R Qf (pc + 1) L (.long (x + y) :: st) M kc ks) : SWG G mi R Qf pc L (.long y :: .long x :: st) M kc ks := by
  intro p l e s m args below meth c E ls H locs hl hR hf
  exact lv_ladd E.1 E.2.1 d (k p l e s m args below meth c E ls H locs hl hR hf)
theorem r_i2l {x : Int32} {v : Int64} (d : decode mi.2.1 pc = .ok (.i2l, 1)) (hv : x.toInt64 = v) (k : SWG G mi R Qf (pc + 1) L (.long v :: st) M kc ks) : SWG G mi R Qf pc L (.int x :: st) M kc ks := by
  intro p l e s m args below meth c E ls H locs hl hR hf
  exact lv_i2l E.1 E.2.1 d hv (k p l e s m args below meth c E ls H locs hl hR hf)
theorem r_i2c {x v : Int32} (d : decode mi.2.1 pc = .ok (.i2c, 1)) (hv : (x.toUInt32 % 65536).toInt32 = v) (k : SWG G mi R Qf (pc + 1) L (.int v :: st) M kc ks) : SWG G mi R Qf pc L (.int x :: st) M kc ks := by
  intro p l e s m args below meth c E ls H locs hl hR hf
  exact lv_i2c E.1 E.2.1 d hv (k p l e s m args below meth c E ls H locs hl hR hf)
theorem r_i2f {x : Int32} (d : decode mi.2.1 pc = .ok (.i2f, 1)) (k : SWG G mi R Qf (pc + 1) L (.float (FP.i2f x) :: st) M kc ks) : SWG G mi R Qf pc L (.int x :: st) M kc ks := by
  intro p l e s m args below meth c E ls H locs hl hR hf
  exact lv_i2f E.1 E.2.1 d (k p l e s m args below meth c E ls H locs hl hR hf)
theorem r_i2d {x : Int32} (d : decode mi.2.1 pc = .ok (.i2d, 1)) (k : SWG G mi R Qf (pc + 1) L (.double (FP.i2d x) :: st) M kc ks) : SWG G mi R Qf pc L (.int x :: st) M kc ks := by
  intro p l e s m args below meth c E ls H locs hl hR hf
  exact lv_i2d E.1 E.2.1 d (k p l e s m args below meth c E ls H locs hl hR hf)
theorem r_fdiv {x y : UInt32} (d : decode mi.2.1 pc = .ok (.fdiv, 1)) (hne : vf_n32 (FP.fdiv x y)) (k : SWG G mi R Qf (pc + 1) L (.float (FP.fdiv x y) :: st) M kc ks) : SWG G mi R Qf pc L (.float y :: .float x :: st) M kc ks := by
  intro p l e s m args below meth c E ls H locs hl hR hf
  exact lv_fdiv E.1 E.2.1 d hne (k p l e s m args below meth c E ls H locs hl hR hf)
theorem r_ddiv {x y : UInt64} (d : decode mi.2.1 pc = .ok (.ddiv, 1)) (hne : vf_n64 (FP.ddiv x y)) (k : SWG G mi R Qf (pc + 1) L (.double (FP.ddiv x y) :: st) M kc ks) : SWG G mi R Qf pc L (.double y :: .double x :: st) M kc ks := by
  intro p l e s m args below meth c E ls H locs hl hR hf
  exact lv_ddiv E.1 E.2.1 d hne (k p l e s m args below meth c E ls H locs hl hR hf)
theorem r_f2d {x : UInt32} (d : decode mi.2.1 pc = .ok (.f2d, 1)) (hne : vf_n64 (FP.f2d x)) (k : SWG G mi R Qf (pc + 1) L (.double (FP.f2d x) :: st) M kc ks) : SWG G mi R Qf pc L (.float x :: st) M kc ks := by
  intro p l e s m args below meth c E ls H locs hl hR hf
  exact lv_f2d E.1 E.2.1 d hne (k p l e s m args below meth c E ls H locs hl hR hf)
theorem r_dcmp {x y : UInt64} {op : CmpOp} (d : decode mi.2.1 pc = .ok (.dcmp op, 1)) (k : SWG G mi R Qf (pc + 1) L (.int (Op.cmpValue (FP.dcmp x y) op) :: st) M kc ks) : SWG G mi R Qf pc L (.double y :: .double x :: st) M kc ks := by
  intro p l e s m args below meth c E ls H locs hl hR hf
  exact lv_dcmp E.1 E.2.1 d (k p l e s m args below meth c E ls H locs hl hR hf)
theorem r_fcmp {x y : UInt32} {op : CmpOp} (d : decode mi.2.1 pc = .ok (.fcmp op, 1)) (k : SWG G mi R Qf (pc + 1) L (.int (Op.cmpValue (FP.fcmp x y) op) :: st) M kc ks) : SWG G mi R Qf pc L (.float y :: .float x :: st) M kc ks := by
  intro p l e s m args below meth c E ls H locs hl hR hf
  exact lv_fcmp E.1 E.2.1 d (k p l e s m args below meth c E ls H locs hl hR hf)
theorem r_lcmp {x y : Int64} (d : decode mi.2.1 pc = .ok (.lcmp, 1)) (k : SWG G mi R Qf (pc + 1) L (.int (lg_cmp x y) :: st) M kc ks) : SWG G mi R Qf pc L (.long y :: .long x :: st) M kc ks := by
  intro p l e s m args below meth c E ls H locs hl hR hf
  exact W.lcmp E.1 E.2.1 d (k p l e s m args below meth c E ls H locs hl hR hf)
theorem r_dup {v : Value} (d : decode mi.2.1 pc = .ok (.dup, 1)) (hv : v.category = 1 := by rfl) (k : SWG G mi R Qf (pc + 1) L (v :: v :: st) M kc ks) : SWG G mi R Qf pc L (v :: st) M kc ks := by
  intro p l e s m args below meth c E ls H locs hl hR hf
  exact lv_dup E.1 E.2.1 d hv (k p l e s m args below meth c E ls H locs hl hR hf)
theorem r_pop {v : Value} (d : decode mi.2.1 pc = .ok (.pop, 1)) (hv : v.category = 1 := by rfl) (k : SWG G mi R Qf (pc + 1) L st M kc ks) : SWG G mi R Qf pc L (v :: st) M kc ks := by
  intro p l e s m args below meth c E ls H locs hl hR hf
  exact lv_pop E.1 E.2.1 d hv (k p l e s m args below meth c E ls H locs hl hR hf)
theorem r_dup2 {v w : Value} (d : decode mi.2.1 pc = .ok (.dup2, 1)) (hv : v.category = 1 := by rfl) (hw : w.category = 1 := by rfl) (k : SWG G mi R Qf (pc + 1) L (v :: w :: v :: w :: st) M kc ks) : SWG G mi R Qf pc L (v :: w :: st) M kc ks := by
  intro p l e s m args below meth c E ls H locs hl hR hf
  exact lv_dup2_11 E.1 E.2.1 d hv hw (k p l e s m args below meth c E ls H locs hl hR hf)
theorem r_dup_x1 {v w : Value} (d : decode mi.2.1 pc = .ok (.dup_x1, 1)) (hv : v.category = 1 := by rfl) (hw : w.category = 1 := by rfl) (k : SWG G mi R Qf (pc + 1) L (v :: w :: v :: st) M kc ks) : SWG G mi R Qf pc L (v :: w :: st) M kc ks := by
  intro p l e s m args below meth c E ls H locs hl hR hf
  exact lv_dup_x1 E.1 E.2.1 d hv hw (k p l e s m args below meth c E ls H locs hl hR hf)
theorem r_goto {off : Int} {tgt : Nat} (d : decode mi.2.1 pc = .ok (.goto off, 3)) (ht : (pc : Int) + off = (tgt : Int)) (k : SWG G mi R Qf tgt L st M kc ks) : SWG G mi R Qf pc L st M kc ks := by
  intro p l e s m args below meth c E ls H locs hl hR hf
  exact lv_goto E.1 E.2.1 d ht (k p l e s m args below meth c E ls H locs hl hR hf)
theorem r_icmp_eq {a b : Int} {off : Int} {tgt : Nat} (d : decode mi.2.1 pc = .ok (.if_icmp .eq off, 3)) (ht : (pc : Int) + off = (tgt : Int)) (ha : inR a := by (unfold inR; omega)) (hb : inR b := by (unfold inR; omega)) (kt : a = b → SWG G mi R Qf tgt L st M kc ks) (kf : ¬ a = b → SWG G mi R Qf (pc + 3) L st M kc ks) : SWG G mi R Qf pc L (.int (iz b) :: .int (iz a) :: st) M kc ks := by
  intro p l e s m args below meth c E ls H locs hl hR hf
  have hb0 : inR 0 := by constructor <;> omega
  refine lv_icmp_eq E.1 E.2.1 d ht (fun q => kt ?_ p l e s m args below meth c E ls H locs hl hR hf) (fun q => kf ?_ p l e s m args below meth c E ls H locs hl hR hf)
  · first | (rw [iz_inj ha hb] at q; omega) | (rw [iz_lt ha hb] at q; omega) | (rw [iz_le ha hb] at q; omega) | (rw [iz_lt hb ha] at q; omega) | (rw [iz_le hb ha] at q; omega) | (have q' : iz b < iz a := q; rw [iz_lt hb ha] at q'; omega) | (have q' : iz b ≤ iz a := q; rw [iz_le hb ha] at q'; omega)
  · first | (rw [iz_inj ha hb] at q; omega) | (rw [iz_lt ha hb] at q; omega) | (rw [iz_le ha hb] at q; omega) | (rw [iz_lt hb ha] at q; omega) | (rw [iz_le hb ha] at q; omega) | (have q' : ¬ iz b < iz a := q; rw [iz_lt hb ha] at q'; omega) | (have q' : ¬ iz b ≤ iz a := q; rw [iz_le hb ha] at q'; omega)
theorem r_if_eq {a : Int} {off : Int} {tgt : Nat} (d : decode mi.2.1 pc = .ok (.ifCond .eq off, 3)) (ht : (pc : Int) + off = (tgt : Int)) (ha : inR a := by (unfold inR; omega)) (kt : a = 0 → SWG G mi R Qf tgt L st M kc ks) (kf : ¬ a = 0 → SWG G mi R Qf (pc + 3) L st M kc ks) : SWG G mi R Qf pc L (.int (iz a) :: st) M kc ks := by
  intro p l e s m args below meth c E ls H locs hl hR hf
  have hb0 : inR 0 := by constructor <;> omega
  refine lv_if_eq E.1 E.2.1 d ht (fun q => kt ?_ p l e s m args below meth c E ls H locs hl hR hf) (fun q => kf ?_ p l e s m args below meth c E ls H locs hl hR hf)
  · first | (rw [iz_0, iz_inj ha hb0] at q; omega) | (rw [iz_0, iz_lt ha hb0] at q; omega) | (rw [iz_0, iz_le ha hb0] at q; omega) | (rw [iz_0, iz_lt hb0 ha] at q; omega) | (rw [iz_0, iz_le hb0 ha] at q; omega) | (have q' : iz 0 < iz a := q; rw [iz_lt hb0 ha] at q'; omega) | (have q' : iz 0 ≤ iz a := q; rw [iz_le hb0 ha] at q'; omega)
  · first | (rw [iz_0, iz_inj ha hb0] at q; omega) | (rw [iz_0, iz_lt ha hb0] at q; omega) | (rw [iz_0, iz_le ha hb0] at q; omega) | (rw [iz_0, iz_lt hb0 ha] at q; omega) | (rw [iz_0, iz_le hb0 ha] at q; omega) | (have q' : ¬ iz 0 < iz a := q; rw [iz_lt hb0 ha] at q'; omega) | (have q' : ¬ iz 0 ≤ iz a := q; rw [iz_le hb0 ha] at q'; omega)
theorem r_icmp_ne {a b : Int} {off : Int} {tgt : Nat} (d : decode mi.2.1 pc = .ok (.if_icmp .ne off, 3)) (ht : (pc : Int) + off = (tgt : Int)) (ha : inR a := by (unfold inR; omega)) (hb : inR b := by (unfold inR; omega)) (kt : ¬ a = b → SWG G mi R Qf tgt L st M kc ks) (kf : a = b → SWG G mi R Qf (pc + 3) L st M kc ks) : SWG G mi R Qf pc L (.int (iz b) :: .int (iz a) :: st) M kc ks := by
  intro p l e s m args below meth c E ls H locs hl hR hf
  have hb0 : inR 0 := by constructor <;> omega
  refine lv_icmp_ne E.1 E.2.1 d ht (fun q => kt ?_ p l e s m args below meth c E ls H locs hl hR hf) (fun q => kf ?_ p l e s m args below meth c E ls H locs hl hR hf)
  · first | (rw [iz_inj ha hb] at q; omega) | (rw [iz_lt ha hb] at q; omega) | (rw [iz_le ha hb] at q; omega) | (rw [iz_lt hb ha] at q; omega) | (rw [iz_le hb ha] at q; omega) | (have q' : iz b < iz a := q; rw [iz_lt hb ha] at q'; omega) | (have q' : iz b ≤ iz a := q; rw [iz_le hb ha] at q'; omega)
  · first | (rw [iz_inj ha hb] at q; omega) | (rw [iz_lt ha hb] at q; omega) | (rw [iz_le ha hb] at q; omega) | (rw [iz_lt hb ha] at q; omega) | (rw [iz_le hb ha] at q; omega) | (have q' : ¬ iz b < iz a := q; rw [iz_lt hb ha] at q'; omega) | (have q' : ¬ iz b ≤ iz a := q; rw [iz_le hb ha] at q'; omega)
theorem r_if_ne {a : Int} {off : Int} {tgt : Nat} (d : decode mi.2.1 pc = .ok (.ifCond .ne off, 3)) (ht : (pc : Int) + off = (tgt : Int)) (ha : inR a := by (unfold inR; omega)) (kt : ¬ a = 0 → SWG G mi R Qf tgt L st M kc ks) (kf : a = 0 → SWG G mi R Qf (pc + 3) L st M kc ks) : SWG G mi R Qf pc L (.int (iz a) :: st) M kc ks := by
  intro p l e s m args below meth c E ls H locs hl hR hf
  have hb0 : inR 0 := by constructor <;> omega
  refine lv_if_ne E.1 E.2.1 d ht (fun q => kt ?_ p l e s m args below meth c E ls H locs hl hR hf) (fun q => kf ?_ p l e s m args below meth c E ls H locs hl hR hf)
  · first | (rw [iz_0, iz_inj ha hb0] at q; omega) | (rw [iz_0, iz_lt ha hb0] at q; omega) | (rw [iz_0, iz_le ha hb0] at q; omega) | (rw [iz_0, iz_lt hb0 ha] at q; omega) | (rw [iz_0, iz_le hb0 ha] at q; omega) | (have q' : iz 0 < iz a := q; rw [iz_lt hb0 ha] at q'; omega) | (have q' : iz 0 ≤ iz a := q; rw [iz_le hb0 ha] at q'; omega)
  · first | (rw [iz_0, iz_inj ha hb0] at q; omega) | (rw [iz_0, iz_lt ha hb0] at q; omega) | (rw [iz_0, iz_le ha hb0] at q; omega) | (rw [iz_0, iz_lt hb0 ha] at q; omega) | (rw [iz_0, iz_le hb0 ha] at q; omega) | (have q' : ¬ iz 0 < iz a := q; rw [iz_lt hb0 ha] at q'; omega) | (have q' : ¬ iz 0 ≤ iz a := q; rw [iz_le hb0 ha] at q'; omega)
theorem r_icmp_lt {a b : Int} {off : Int} {tgt : Nat} (d : decode mi.2.1 pc = .ok (.if_icmp .lt off, 3)) (ht : (pc : Int) + off = (tgt : Int)) (ha : inR a := by (unfold inR; omega)) (hb : inR b := by (unfold inR; omega)) (kt : a < b → SWG G mi R Qf tgt L st M kc ks) (kf : ¬ a < b → SWG G mi R Qf (pc + 3) L st M kc ks) : SWG G mi R Qf pc L (.int (iz b) :: .int (iz a) :: st) M kc ks := by
  intro p l e s m args below meth c E ls H locs hl hR hf
  have hb0 : inR 0 := by constructor <;> omega
  refine lv_icmp_lt E.1 E.2.1 d ht (fun q => kt ?_ p l e s m args below meth c E ls H locs hl hR hf) (fun q => kf ?_ p l e s m args below meth c E ls H locs hl hR hf)
  · first | (rw [iz_inj ha hb] at q; omega) | (rw [iz_lt ha hb] at q; omega) | (rw [iz_le ha hb] at q; omega) | (rw [iz_lt hb ha] at q; omega) | (rw [iz_le hb ha] at q; omega) | (have q' : iz b < iz a := q; rw [iz_lt hb ha] at q'; omega) | (have q' : iz b ≤ iz a := q; rw [iz_le hb ha] at q'; omega)
  · first | (rw [iz_inj ha hb] at q; omega) | (rw [iz_lt ha hb] at q; omega) | (rw [iz_le ha hb] at q; omega) | (rw [iz_lt hb ha] at q; omega) | (rw [iz_le hb ha] at q; omega) | (have q' : ¬ iz b < iz a := q; rw [iz_lt hb ha] at q'; omega) | (have q' : ¬ iz b ≤ iz a := q; rw [iz_le hb ha] at q'; omega)
theorem r_if_lt {a : Int} {off : Int} {tgt : Nat} (d : decode mi.2.1 pc = .ok (.ifCond .lt off, 3)) (ht : (pc : Int) + off = (tgt : Int)) (ha : inR a := by (unfold inR; omega)) (kt : a < 0 → SWG G mi R Qf tgt L st M kc ks) (kf : ¬ a < 0 → SWG G mi R Qf (pc + 3) L st M kc ks) : SWG G mi R Qf pc L (.int (iz a) :: st) M kc ks := by
  intro p l e s m args below meth c E ls H locs hl hR hf
  have hb0 : inR 0 := by constructor <;> omega
  refine lv_if_lt E.1 E.2.1 d ht (fun q => kt ?_ p l e s m args below meth c E ls H locs hl hR hf) (fun q => kf ?_ p l e s m args below meth c E ls H locs hl hR hf)
  · first | (rw [iz_0, iz_inj ha hb0] at q; omega) | (rw [iz_0, iz_lt ha hb0] at q; omega) | (rw [iz_0, iz_le ha hb0] at q; omega) | (rw [iz_0, iz_lt hb0 ha] at q; omega) | (rw [iz_0, iz_le hb0 ha] at q; omega) | (have q' : iz 0 < iz a := q; rw [iz_lt hb0 ha] at q'; omega) | (have q' : iz 0 ≤ iz a := q; rw [iz_le hb0 ha] at q'; omega)
  · first | (rw [iz_0, iz_inj ha hb0] at q; omega) | (rw [iz_0, iz_lt ha hb0] at q; omega) | (rw [iz_0, iz_le ha hb0] at q; omega) | (rw [iz_0, iz_lt hb0 ha] at q; omega) | (rw [iz_0, iz_le hb0 ha] at q; omega) | (have q' : ¬ iz 0 < iz a := q; rw [iz_lt hb0 ha] at q'; omega) | (have q' : ¬ iz 0 ≤ iz a := q; rw [iz_le hb0 ha] at q'; omega)
theorem r_icmp_ge {a b : Int} {off : Int} {tgt : Nat} (d : decode mi.2.1 pc = .ok (.if_icmp .ge off, 3)) (ht : (pc : Int) + off = (tgt : Int)) (ha : inR a := by (unfold inR; omega)) (hb : inR b := by (unfold inR; omega)) (kt : a ≥ b → SWG G mi R Qf tgt L st M kc ks) (kf : ¬ a ≥ b → SWG G mi R Qf (pc + 3) L st M kc ks) : SWG G mi R Qf pc L (.int (iz b) :: .int (iz a) :: st) M kc ks := by
  intro p l e s m args below meth c E ls H locs hl hR hf
  have hb0 : inR 0 := by constructor <;> omega
  refine lv_icmp_ge E.1 E.2.1 d ht (fun q => kt ?_ p l e s m args below meth c E ls H locs hl hR hf) (fun q => kf ?_ p l e s m args below meth c E ls H locs hl hR hf)
  · first | (rw [iz_inj ha hb] at q; omega) | (rw [iz_lt ha hb] at q; omega) | (rw [iz_le ha hb] at q; omega) | (rw [iz_lt hb ha] at q; omega) | (rw [iz_le hb ha] at q; omega) | (have q' : iz b < iz a := q; rw [iz_lt hb ha] at q'; omega) | (have q' : iz b ≤ iz a := q; rw [iz_le hb ha] at q'; omega)
  · first | (rw [iz_inj ha hb] at q; omega) | (rw [iz_lt ha hb] at q; omega) | (rw [iz_le ha hb] at q; omega) | (rw [iz_lt hb ha] at q; omega) | (rw [iz_le hb ha] at q; omega) | (have q' : ¬ iz b < iz a := q; rw [iz_lt hb ha] at q'; omega) | (have q' : ¬ iz b ≤ iz a := q; rw [iz_le hb ha] at q'; omega)
theorem r_if_ge {a : Int} {off : Int} {tgt : Nat} (d : decode mi.2.1 pc = .ok (.ifCond .ge off, 3)) (ht : (pc : Int) + off = (tgt : Int)) (ha : inR a := by (unfold inR; omega)) (kt : a ≥ 0 → SWG G mi R Qf tgt L st M kc ks) (kf : ¬ a ≥ 0 → SWG G mi R Qf (pc + 3) L st M kc ks) : SWG G mi R Qf pc L (.int (iz a) :: st) M kc ks := by
  intro p l e s m args below meth c E ls H locs hl hR hf
  have hb0 : inR 0 := by constructor <;> omega
  refine lv_if_ge E.1 E.2.1 d ht (fun q => kt ?_ p l e s m args below meth c E ls H locs hl hR hf) (fun q => kf ?_ p l e s m args below meth c E ls H locs hl hR hf)
  · first | (rw [iz_0, iz_inj ha hb0] at q; omega) | (rw [iz_0, iz_lt ha hb0] at q; omega) | (rw [iz_0, iz_le ha hb0] at q; omega) | (rw [iz_0, iz_lt hb0 ha] at q; omega) | (rw [iz_0, iz_le hb0 ha] at q; omega) | (have q' : iz 0 < iz a := q; rw [iz_lt hb0 ha] at q'; omega) | (have q' : iz 0 ≤ iz a := q; rw [iz_le hb0 ha] at q'; omega)
  · first | (rw [iz_0, iz_inj ha hb0] at q; omega) | (rw [iz_0, iz_lt ha hb0] at q; omega) | (rw [iz_0, iz_le ha hb0] at q; omega) | (rw [iz_0, iz_lt hb0 ha] at q; omega) | (rw [iz_0, iz_le hb0 ha] at q; omega) | (have q' : ¬ iz 0 < iz a := q; rw [iz_lt hb0 ha] at q'; omega) | (have q' : ¬ iz 0 ≤ iz a := q; rw [iz_le hb0 ha] at q'; omega)
theorem r_icmp_gt {a b : Int} {off : Int} {tgt : Nat} (d : decode mi.2.1 pc = .ok (.if_icmp .gt off, 3)) (ht : (pc : Int) + off = (tgt : Int)) (ha : inR a := by (unfold inR; omega)) (hb : inR b := by (unfold inR; omega)) (kt : a > b → SWG G mi R Qf tgt L st M kc ks) (kf : ¬ a > b → SWG G mi R Qf (pc + 3) L st M kc ks) : SWG G mi R Qf pc L (.int (iz b) :: .int (iz a) :: st) M kc ks := by
  intro p l e s m args below meth c E ls H locs hl hR hf
  have hb0 : inR 0 := by constructor <;> omega
  refine lv_icmp_gt E.1 E.2.1 d ht (fun q => kt ?_ p l e s m args below meth c E ls H locs hl hR hf) (fun q => kf ?_ p l e s m args below meth c E ls H locs hl hR hf)
  · first | (rw [iz_inj ha hb] at q; omega) | (rw [iz_lt ha hb] at q; omega) | (rw [iz_le ha hb] at q; omega) | (rw [iz_lt hb ha] at q; omega) | (rw [iz_le hb ha] at q; omega) | (have q' : iz b < iz a := q; rw [iz_lt hb ha] at q'; omega) | (have q' : iz b ≤ iz a := q; rw [iz_le hb ha] at q'; omega)
  · first | (rw [iz_inj ha hb] at q; omega) | (rw [iz_lt ha hb] at q; omega) | (rw [iz_le ha hb] at q; omega) | (rw [iz_lt hb ha] at q; omega) | (rw [iz_le hb ha] at q; omega) | (have q' : ¬ iz b < iz a := q; rw [iz_lt hb ha] at q'; omega) | (have q' : ¬ iz b ≤ iz a := q; rw [iz_le hb ha] at q'; omega)
theorem r_if_gt {a : Int} {off : Int} {tgt : Nat} (d : decode mi.2.1 pc = .ok (.ifCond .gt off, 3)) (ht : (pc : Int) + off = (tgt : Int)) (ha : inR a := by (unfold inR; omega)) (kt : a > 0 → SWG G mi R Qf tgt L st M kc ks) (kf : ¬ a > 0 → SWG G mi R Qf (pc + 3) L st M kc ks) : SWG G mi R Qf pc L (.int (iz a) :: st) M kc ks := by
  intro p l e s m args below meth c E ls H locs hl hR hf
  have hb0 : inR 0 := by constructor <;> omega
  refine lv_if_gt E.1 E.2.1 d ht (fun q => kt ?_ p l e s m args below meth c E ls H locs hl hR hf) (fun q => kf ?_ p l e s m args below meth c E ls H locs hl hR hf)
  · first | (rw [iz_0, iz_inj ha hb0] at q; omega) | (rw [iz_0, iz_lt ha hb0] at q; omega) | (rw [iz_0, iz_le ha hb0] at q; omega) | (rw [iz_0, iz_lt hb0 ha] at q; omega) | (rw [iz_0, iz_le hb0 ha] at q; omega) | (have q' : iz 0 < iz a := q; rw [iz_lt hb0 ha] at q'; omega) | (have q' : iz 0 ≤ iz a := q; rw [iz_le hb0 ha] at q'; omega)
  · first | (rw [iz_0, iz_inj ha hb0] at q; omega) | (rw [iz_0, iz_lt ha hb0] at q; omega) | (rw [iz_0, iz_le ha hb0] at q; omega) | (rw [iz_0, iz_lt hb0 ha] at q; omega) | (rw [iz_0, iz_le hb0 ha] at q; omega) | (have q' : ¬ iz 0 < iz a := q; rw [iz_lt hb0 ha] at q'; omega) | (have q' : ¬ iz 0 ≤ iz a := q; rw [iz_le hb0 ha] at q'; omega)
theorem r_icmp_le {a b : Int} {off : Int} {tgt : Nat} (d : decode mi.2.1 pc = .ok (.if_icmp .le off, 3)) (ht : (pc : Int) + off = (tgt : Int)) (ha : inR a := by (unfold inR; omega)) (hb : inR b := by (unfold inR; omega)) (kt : a ≤ b → SWG G mi R Qf tgt L st M kc ks) (kf : ¬ a ≤ b → SWG G mi R Qf (pc + 3) L st M kc ks) : SWG G mi R Qf pc L (.int (iz b) :: .int (iz a) :: st) M kc ks := by
  intro p l e s m args below meth c E ls H locs hl hR hf
  have hb0 : inR 0 := by constructor <;> omega
  refine lv_icmp_le E.1 E.2.1 d ht (fun q => kt ?_ p l e s m args below meth c E ls H locs hl hR hf) (fun q => kf ?_ p l e s m args below meth c E ls H locs hl hR hf)
  · first | (rw [iz_inj ha hb] at q; omega) | (rw [iz_lt ha hb] at q; omega) | (rw [iz_le ha hb] at q; omega) | (rw [iz_lt hb ha] at q; omega) | (rw [iz_le hb ha] at q; omega) | (have q' : iz b < iz a := q; rw [iz_lt hb ha] at q'; omega) | (have q' : iz b ≤ iz a := q; rw [iz_le hb ha] at q'; omega)
  · first | (rw [iz_inj ha hb] at q; omega) | (rw [iz_lt ha hb] at q; omega) | (rw [iz_le ha hb] at q; omega) | (rw [iz_lt hb ha] at q; omega) | (rw [iz_le hb ha] at q; omega) | (have q' : ¬ iz b < iz a := q; rw [iz_lt hb ha] at q'; omega) | (have q' : ¬ iz b ≤ iz a := q; rw [iz_le hb ha] at q'; omega)
theorem r_if_le {a : Int} {off : Int} {tgt : Nat} (d : decode mi.2.1 pc = .ok (.ifCond .le off, 3)) (ht : (pc : Int) + off = (tgt : Int)) (ha : inR a := by (unfold inR; omega)) (kt : a ≤ 0 → SWG G mi R Qf tgt L st M kc ks) (kf : ¬ a ≤ 0 → SWG G mi R Qf (pc + 3) L st M kc ks) : SWG G mi R Qf pc L (.int (iz a) :: st) M kc ks := by
  intro p l e s m args below meth c E ls H locs hl hR hf
  have hb0 : inR 0 := by constructor <;> omega
  refine lv_if_le E.1 E.2.1 d ht (fun q => kt ?_ p l e s m args below meth c E ls H locs hl hR hf) (fun q => kf ?_ p l e s m args below meth c E ls H locs hl hR hf)
  · first | (rw [iz_0, iz_inj ha hb0] at q; omega) | (rw [iz_0, iz_lt ha hb0] at q; omega) | (rw [iz_0, iz_le ha hb0] at q; omega) | (rw [iz_0, iz_lt hb0 ha] at q; omega) | (rw [iz_0, iz_le hb0 ha] at q; omega) | (have q' : iz 0 < iz a := q; rw [iz_lt hb0 ha] at q'; omega) | (have q' : iz 0 ≤ iz a := q; rw [iz_le hb0 ha] at q'; omega)
  · first | (rw [iz_0, iz_inj ha hb0] at q; omega) | (rw [iz_0, iz_lt ha hb0] at q; omega) | (rw [iz_0, iz_le ha hb0] at q; omega) | (rw [iz_0, iz_lt hb0 ha] at q; omega) | (rw [iz_0, iz_le hb0 ha] at q; omega) | (have q' : ¬ iz 0 < iz a := q; rw [iz_lt hb0 ha] at q'; omega) | (have q' : ¬ iz 0 ≤ iz a := q; rw [iz_le hb0 ha] at q'; omega)
theorem r_bif_eq {b : Bool} {off : Int} {tgt : Nat} (d : decode mi.2.1 pc = .ok (.ifCond .eq off, 3)) (ht : (pc : Int) + off = (tgt : Int)) (kt : b = false → SWG G mi R Qf tgt L st M kc ks) (kf : b = true → SWG G mi R Qf (pc + 3) L st M kc ks) : SWG G mi R Qf pc L (.int (bz b) :: st) M kc ks := by
  intro p l e s m args below meth c E ls H locs hl hR hf
  refine lv_if_eq E.1 E.2.1 d ht (fun q => kt ?_ p l e s m args below meth c E ls H locs hl hR hf) (fun q => kf ?_ p l e s m args below meth c E ls H locs hl hR hf) <;> (rw [bz_1] at q; cases b <;> simp_all)
theorem r_bif_ne {b : Bool} {off : Int} {tgt : Nat} (d : decode mi.2.1 pc = .ok (.ifCond .ne off, 3)) (ht : (pc : Int) + off = (tgt : Int)) (kt : b = true → SWG G mi R Qf tgt L st M kc ks) (kf : b = false → SWG G mi R Qf (pc + 3) L st M kc ks) : SWG G mi R Qf pc L (.int (bz b) :: st) M kc ks := by
  intro p l e s m args below meth c E ls H locs hl hR hf
  refine lv_if_ne E.1 E.2.1 d ht (fun q => kt ?_ p l e s m args below meth c E ls H locs hl hR hf) (fun q => kf ?_ p l e s m args below meth c E ls H locs hl hR hf) <;> (rw [bz_1] at q; cases b <;> simp_all)
theorem r_acmp_ne {x y : Nat} {off : Int} {tgt : Nat} (d : decode mi.2.1 pc = .ok (.if_acmp .ne off, 3)) (ht : (pc : Int) + off = (tgt : Int)) (kt : x ≠ y → SWG G mi R Qf tgt L st M kc ks) (kf : x = y → SWG G mi R Qf (pc + 3) L st M kc ks) : SWG G mi R Qf pc L (.ref y :: .ref x :: st) M kc ks := by
  intro p l e s m args below meth c E ls H locs hl hR hf
  exact lv_acmp_ne (rx := some x) (ry := some y) E.1 E.2.1 d ht (fun q => kt (fun z => q (by rw [z])) p l e s m args below meth c E ls H locs hl hR hf) (fun q => kf (Option.some.inj q) p l e s m args below meth c E ls H locs hl hR hf)
theorem r_acmp_eq {x y : Nat} {off : Int} {tgt : Nat} (d : decode mi.2.1 pc = .ok (.if_acmp .eq off, 3)) (ht : (pc : Int) + off = (tgt : Int)) (kt : x = y → SWG G mi R Qf tgt L st M kc ks) (kf : x ≠ y → SWG G mi R Qf (pc + 3) L st M kc ks) : SWG G mi R Qf pc L (.ref y :: .ref x :: st) M kc ks := by
  intro p l e s m args below meth c E ls H locs hl hR hf
  exact lv_acmp_eq (rx := some x) (ry := some y) E.1 E.2.1 d ht (fun q => kt (Option.some.inj q) p l e s m args below meth c E ls H locs hl hR hf) (fun q => kf (fun z => q (by rw [z])) p l e s m args below meth c E ls H locs hl hR hf)
theorem r_ifnonnull {x : Nat} {off : Int} {tgt : Nat} (d : decode mi.2.1 pc = .ok (.ifnonnull off, 3)) (ht : (pc : Int) + off = (tgt : Int)) (k : SWG G mi R Qf tgt L st M kc ks) : SWG G mi R Qf pc L (.ref x :: st) M kc ks := by
  intro p l e s m args below meth c E ls H locs hl hR hf
  exact lv_ifnonnull E.1 E.2.1 d ht (k p l e s m args below meth c E ls H locs hl hR hf)
theorem r_ifnonnullN {off : Int} (d : decode mi.2.1 pc = .ok (.ifnonnull off, 3)) (k : SWG G mi R Qf (pc + 3) L st M kc ks) : SWG G mi R Qf pc L (.null :: st) M kc ks := by
  intro p l e s m args below meth c E ls H locs hl hR hf
  exact lv_ifnonnullN E.1 E.2.1 d (k p l e s m args below meth c E ls H locs hl hR hf)
theorem r_ifnull {x : Nat} {off : Int} (d : decode mi.2.1 pc = .ok (.ifnull off, 3)) (k : SWG G mi R Qf (pc + 3) L st M kc ks) : SWG G mi R Qf pc L (.ref x :: st) M kc ks := by
  intro p l e s m args below meth c E ls H locs hl hR hf
  exact lv_ifnull E.1 E.2.1 d (k p l e s m args below meth c E ls H locs hl hR hf)
theorem r_ifnullN {off : Int} {tgt : Nat} (d : decode mi.2.1 pc = .ok (.ifnull off, 3)) (ht : (pc : Int) + off = (tgt : Int)) (k : SWG G mi R Qf tgt L st M kc ks) : SWG G mi R Qf pc L (.null :: st) M kc ks := by
  intro p l e s m args below meth c E ls H locs hl hR hf
  exact lv_ifnullN E.1 E.2.1 d ht (k p l e s m args below meth c E ls H locs hl hR hf)
end RW1
