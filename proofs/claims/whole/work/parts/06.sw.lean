/-! Walks over the memory: SWG says that from the place pc, with these locals, this stack and this memory, the method goes on to an end with Qf. -/
section SWX
theorem nbeq : ∀ i : Nat, Nat.beq i i = true
  | 0 => rfl
  | i + 1 => nbeq i
def Amb (G : GC) (mi : MI) (p : Program) (l : Launch) (s : State) (m : MethodId) (args : Array Value) (meth : Method) (c : Code) : Prop :=
  p.tables.exec = Jvm.exec ∧ c.code = mi.2.1 ∧ c.maxLocals = mi.2.2.1 ∧ s.vm.findClass mi.1 = some m.cls ∧ (∀ w ∈ wG, w.before args s = true) ∧ meth.locks = false ∧ G.1.WarmedH s.vm ∧ GOK G l ∧ meth.sig.returnType = mi.2.2.2.1 ∧ meth.name = mi.2.2.2.2.1 ∧ c.exceptionTable.toList = tableOf mi.2.2.2.2.2 ∧ (∀ a, a < gB G → s.heap[a]? = G.1.heap[a]?) ∧ gB G ≤ s.heap.size
/-- the locals: what is known of them, the first row for a place counts -/
def lk : List (Nat × Value) → Nat → Option Value
  | [], _ => none
  | (j, v) :: r, i => match Nat.beq j i with
    | true => some v
    | false => lk r i
def lh (ls : Array Slot) (n : Nat) (L : List (Nat × Value)) : Prop := ls.size = n ∧ lv_wf ls ∧ ∀ i v, lk L i = some v → ls[i]? = some (.val v)
/-- a store at i keeps what is known, if no double word stands before it -/
def ok1 (L : List (Nat × Value)) : Nat → Bool
  | 0 => true
  | i + 1 => match lk L i with
    | some v => Nat.beq v.category 1
    | none => true
theorem lh_store1 {ls : Array Slot} {n : Nat} {L : List (Nat × Value)} {i : Nat} {v : Value} (h : lh ls n L) (hi : i < n) (hc : v.category = 1) (ho : ok1 L i = true) : ∃ ls', storeLocals ls i v = some ls' ∧ lh ls' n ((i, v) :: L) := by
  obtain ⟨h1, h2, h3⟩ := h
  obtain ⟨ls', e, hs⟩ := lv_store1 (l := []) (v := v) ⟨h1, h2, fun q hq => by cases hq⟩ hi hc
  refine ⟨ls', e, hs.1, hs.2.1, fun j w hj => ?_⟩
  by_cases hji : i = j
  · subst hji
    have hb : Nat.beq i i = true := nbeq i
    simp only [lk, hb, Option.some.injEq] at hj
    subst hj
    exact hs.2.2 (i, v) List.mem_cons_self
  · have hb : Nat.beq i j = false := by
      cases hx : Nat.beq i j with
      | true => exact absurd (Nat.eq_of_beq_eq_true hx) hji
      | false => rfl
    simp only [lk, hb] at hj
    obtain ⟨ls'', e', hs'⟩ := lv_store1 (l := [(j, w)]) (v := v) ⟨h1, h2, fun q hq => by rw [List.mem_singleton.mp hq]; exact h3 j w hj⟩ hi hc
    cases e.symm.trans e'
    refine hs'.2.2 (j, w) (List.mem_cons_of_mem _ (List.mem_filter.mpr ⟨List.mem_singleton.mpr rfl, ?_⟩))
    have a1 : (j == i) = false := by simp; exact fun q => hji q.symm
    by_cases a2 : j + 1 = i
    · subst a2
      simp only [ok1, hj] at ho
      have a3 : w.category = 1 := Nat.eq_of_beq_eq_true ho
      simp [a3]
    · simp [a2]; exact fun q => hji q.symm
theorem lh_store2 {ls : Array Slot} {n : Nat} {L : List (Nat × Value)} {i : Nat} {v : Value} (h : lh ls n L) (hi : i + 1 < n) (hc : v.category = 2) (ho : ok1 L i = true) (ho2 : lk L (i + 1) = none) : ∃ ls', storeLocals ls i v = some ls' ∧ lh ls' n ((i, v) :: L) := by
  obtain ⟨h1, h2, h3⟩ := h
  obtain ⟨ls', e, hs⟩ := lv_store2 (l := []) (v := v) ⟨h1, h2, fun q hq => by cases hq⟩ hi hc
  refine ⟨ls', e, hs.1, hs.2.1, fun j w hj => ?_⟩
  by_cases hji : i = j
  · subst hji
    have hb : Nat.beq i i = true := nbeq i
    simp only [lk, hb, Option.some.injEq] at hj
    subst hj
    exact hs.2.2 (i, v) List.mem_cons_self
  · have hb : Nat.beq i j = false := by
      cases hx : Nat.beq i j with
      | true => exact absurd (Nat.eq_of_beq_eq_true hx) hji
      | false => rfl
    simp only [lk, hb] at hj
    obtain ⟨ls'', e', hs'⟩ := lv_store2 (l := [(j, w)]) (v := v) ⟨h1, h2, fun q hq => by rw [List.mem_singleton.mp hq]; exact h3 j w hj⟩ hi hc
    cases e.symm.trans e'
    refine hs'.2.2 (j, w) (List.mem_cons_of_mem _ (List.mem_filter.mpr ⟨List.mem_singleton.mpr rfl, ?_⟩))
    have a0 : ¬ j = i + 1 := fun q => by rw [q, ho2] at hj; cases hj
    by_cases a2 : j + 1 = i
    · subst a2
      simp only [ok1, hj] at ho
      have a3 : w.category = 1 := Nat.eq_of_beq_eq_true ho
      simp [a3]
      omega
    · simp [a2, a0]; exact fun q => hji q.symm
theorem lh_of {ls : Array Slot} {n : Nat} {l : List (Nat × Value)} (h : lv_has ls n l) : lh ls n l := by
  refine ⟨h.1, h.2.1, fun i v hi => h.2.2 (i, v) ?_⟩
  clear h
  induction l with
  | nil => cases hi
  | cons a r ih =>
    obtain ⟨j, w⟩ := a
    simp only [lk] at hi
    split at hi
    · next hb =>
      cases hi
      rw [Nat.eq_of_beq_eq_true hb]
      exact List.mem_cons_self
    · exact List.mem_cons_of_mem _ (ih hi)
/-- fewer are known -/
theorem lh_sub {ls : Array Slot} {n : Nat} {L L' : List (Nat × Value)} (h : lh ls n L) (hs : ∀ q ∈ L', lk L q.1 = some q.2) : lh ls n L' := by
  refine ⟨h.1, h.2.1, fun i v hi => h.2.2 i v ?_⟩
  clear h
  induction L' with
  | nil => cases hi
  | cons a r ih =>
    obtain ⟨j, w⟩ := a
    simp only [lk] at hi
    split at hi
    · next hb =>
      cases hi
      rw [← Nat.eq_of_beq_eq_true hb]
      exact hs (j, v) List.mem_cons_self
    · exact ih (fun q hq => hs q (List.mem_cons_of_mem _ hq)) hi
def SWG (G : GC) (mi : MI) (R : Room) (Qf : List Frame → Array Value → State → State → Prop) (pc : Nat) (L : List (Nat × Value)) (st : List Value) (M : Mem) (kc ks : Nat) : Prop :=
  ∀ (p : Program) (l : Launch) (e : Env) (s : State) (m : MethodId) (args : Array Value) (below : List Frame) (meth : Method) (c : Code), Amb G mi p l s m args meth c → ∀ (ls : Array Slot) (H : Heap) (locs : List Loc), lh ls mi.2.2.1 L → Rel G M H → (∀ q ∈ locs, gB G ≤ q.base) →
    W p l e R s m args below meth c H locs kc ks (Qf below args s) (F0 m pc ls st)
/-- an exception of the class E thrown at pc -/
def SXG (G : GC) (mi : MI) (R : Room) (Qf : List Frame → Array Value → State → State → Prop) (pc : Nat) (L : List (Nat × Value)) (M : Mem) (kc ks : Nat) (E : String) : Prop :=
  ∀ (p : Program) (l : Launch) (e : Env) (s : State) (m : MethodId) (args : Array Value) (below : List Frame) (meth : Method) (c : Code), Amb G mi p l s m args meth c → ∀ (ls : Array Slot) (H : Heap) (locs : List Loc), lh ls mi.2.2.1 L → Rel G M H → (∀ q ∈ locs, gB G ≤ q.base) →
    ∀ (q : Addr) (ce : Cell) (rest : List Value), H[q]? = some ce → ce.vm = .none → s.vm.findClass E = some ce.cls → vx_W p l e R s m args below meth c H locs kc ks (Qf below args s) (F0 m pc ls rest) q
section ROWS
variable {G : GC} {mi : MI} {R : Room} {Qf : List Frame → Array Value → State → State → Prop} {pc : Nat} {L : List (Nat × Value)} {st : List Value} {M : Mem} {kc ks : Nat}
/-- the locals said anew: fewer, in any order -/
theorem r_loc {L' : List (Nat × Value)} (hs : ∀ q ∈ L', lk L q.1 = some q.2) (k : SWG G mi R Qf pc L' st M kc ks) : SWG G mi R Qf pc L st M kc ks := by
  intro p l e s m args below meth c E ls H locs hl hR hf
  exact k p l e s m args below meth c E ls H locs (lh_sub hl hs) hR hf
theorem r_wid {kc' ks' : Nat} (h1 : kc ≤ kc') (h2 : ks ≤ ks') (k : SWG G mi R Qf pc L st M kc' ks') : SWG G mi R Qf pc L st M kc ks := by
  intro p l e s m args below meth c E ls H locs hl hR hf
  exact W.widen h1 h2 (k p l e s m args below meth c E ls H locs hl hR hf)
/-- an address that the map names lies in the heap -/
theorem r_lt (k : (∀ a t z, mC M a = some (t, z) → a < mN M ∧ (t < 16 → gB G ≤ a)) → SWG G mi R Qf pc L st M kc ks) : SWG G mi R Qf pc L st M kc ks := by
  intro p l e s m args below meth c E ls H locs hl hR hf
  exact k (fun a t z h => ⟨(hR.2.2.2 a t z h).1, (hR.2.2.2 a t z h).2.1⟩) p l e s m args below meth c E ls H locs hl hR hf
theorem r_iconst {n : Int} (d : decode mi.2.1 pc = .ok (.iconst n, 1)) (k : SWG G mi R Qf (pc + 1) L (.int (iz n) :: st) M kc ks) : SWG G mi R Qf pc L st M kc ks := by
  intro p l e s m args below meth c E ls H locs hl hR hf
  exact lv_iconst E.1 E.2.1 d rfl (k p l e s m args below meth c E ls H locs hl hR hf)
theorem r_bipush {n : Int} (d : decode mi.2.1 pc = .ok (.bipush n, 2)) (h : (Int8.ofInt n).toInt32 = iz n := by decide +kernel) (k : SWG G mi R Qf (pc + 2) L (.int (iz n) :: st) M kc ks) : SWG G mi R Qf pc L st M kc ks := by
  intro p l e s m args below meth c E ls H locs hl hR hf
  exact lv_bipush E.1 E.2.1 d h (k p l e s m args below meth c E ls H locs hl hR hf)
theorem r_sipush {n : Int} (d : decode mi.2.1 pc = .ok (.sipush n, 3)) (h : (Int16.ofInt n).toInt32 = iz n := by decide +kernel) (k : SWG G mi R Qf (pc + 3) L (.int (iz n) :: st) M kc ks) : SWG G mi R Qf pc L st M kc ks := by
  intro p l e s m args below meth c E ls H locs hl hR hf
  exact lv_sipush E.1 E.2.1 d h (k p l e s m args below meth c E ls H locs hl hR hf)
theorem r_ldc {n : Int} {v : Int32} {index : Nat} (w : Cond.constant mi.1 index v ∈ wG) (d : decode mi.2.1 pc = .ok (.ldc index, 2)) (h : v = iz n := by decide +kernel) (k : SWG G mi R Qf (pc + 2) L (.int (iz n) :: st) M kc ks) : SWG G mi R Qf pc L st M kc ks := by
  intro p l e s m args below meth c E ls H locs hl hR hf
  subst h
  exact lv_ldc E.1 E.2.1 E.2.2.2.1 (E.2.2.2.2.1 _ w) d (k p l e s m args below meth c E ls H locs hl hR hf)
theorem r_null (d : decode mi.2.1 pc = .ok (.aconst_null, 1)) (k : SWG G mi R Qf (pc + 1) L (.null :: st) M kc ks) : SWG G mi R Qf pc L st M kc ks := by
  intro p l e s m args below meth c E ls H locs hl hR hf
  exact lv_null E.1 E.2.1 d (k p l e s m args below meth c E ls H locs hl hR hf)
theorem r_lconst {n : Fin 2} {v : Int64} (d : decode mi.2.1 pc = .ok (.lconst n, 1)) (h : Int64.ofNat (n : Nat) = v := by rfl) (k : SWG G mi R Qf (pc + 1) L (.long v :: st) M kc ks) : SWG G mi R Qf pc L st M kc ks := by
  intro p l e s m args below meth c E ls H locs hl hR hf
  exact lv_lconst E.1 E.2.1 d h (k p l e s m args below meth c E ls H locs hl hR hf)
theorem r_iload_n {i : Fin 4} {x : Int32} (d : decode mi.2.1 pc = .ok (.iload_n i, 1)) (h : lk L i = some (.int x)) (k : SWG G mi R Qf (pc + 1) L (.int x :: st) M kc ks) : SWG G mi R Qf pc L st M kc ks := by
  intro p l e s m args below meth c E ls H locs hl hR hf
  exact lv_iload_n E.1 E.2.1 d rfl (hl.2.2 _ _ h) (k p l e s m args below meth c E ls H locs hl hR hf)
theorem r_iload {i : Nat} {x : Int32} (d : decode mi.2.1 pc = .ok (.iload i, 2)) (h : lk L i = some (.int x)) (k : SWG G mi R Qf (pc + 2) L (.int x :: st) M kc ks) : SWG G mi R Qf pc L st M kc ks := by
  intro p l e s m args below meth c E ls H locs hl hR hf
  exact lv_iload E.1 E.2.1 d (hl.2.2 _ _ h) (k p l e s m args below meth c E ls H locs hl hR hf)
theorem r_aload_n {i : Fin 4} {x : Nat} (d : decode mi.2.1 pc = .ok (.aload_n i, 1)) (h : lk L i = some (.ref x)) (k : SWG G mi R Qf (pc + 1) L (.ref x :: st) M kc ks) : SWG G mi R Qf pc L st M kc ks := by
  intro p l e s m args below meth c E ls H locs hl hR hf
  exact lv_aload_n E.1 E.2.1 d rfl (hl.2.2 _ _ h) (k p l e s m args below meth c E ls H locs hl hR hf)
theorem r_aload {i : Nat} {x : Nat} (d : decode mi.2.1 pc = .ok (.aload i, 2)) (h : lk L i = some (.ref x)) (k : SWG G mi R Qf (pc + 2) L (.ref x :: st) M kc ks) : SWG G mi R Qf pc L st M kc ks := by
  intro p l e s m args below meth c E ls H locs hl hR hf
  exact lv_aload E.1 E.2.1 d (hl.2.2 _ _ h) (k p l e s m args below meth c E ls H locs hl hR hf)
/-- a reference or null -/
theorem r_aload_nN {i : Fin 4} (d : decode mi.2.1 pc = .ok (.aload_n i, 1)) (h : lk L i = some .null) (k : SWG G mi R Qf (pc + 1) L (.null :: st) M kc ks) : SWG G mi R Qf pc L st M kc ks := by
  intro p l e s m args below meth c E ls H locs hl hR hf
  exact lv_aload_nN E.1 E.2.1 d rfl (hl.2.2 _ _ h) (k p l e s m args below meth c E ls H locs hl hR hf)
theorem r_aloadN {i : Nat} (d : decode mi.2.1 pc = .ok (.aload i, 2)) (h : lk L i = some .null) (k : SWG G mi R Qf (pc + 2) L (.null :: st) M kc ks) : SWG G mi R Qf pc L st M kc ks := by
  intro p l e s m args below meth c E ls H locs hl hR hf
  exact lv_aloadN E.1 E.2.1 d (hl.2.2 _ _ h) (k p l e s m args below meth c E ls H locs hl hR hf)
end ROWS
end SWX
