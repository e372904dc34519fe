/-! What is known at the law's entry. -/
section ENT
theorem i_in : ∀ t, t < 11 → Cond.instantiable (cR t) (cK t) ∈ lw_tbl := by decide +kernel
theorem g_cast : ∀ q ∈ gCast, Cond.castable q.1 q.2 ∈ lw_tbl := by decide +kernel
theorem g_str : ∀ q ∈ gStr, Cond.stringRef q.1 q.2.1 q.2.2 ∈ lw_tbl := by decide +kernel
theorem g_dc : ∀ n ∈ gDc, Cond.declares (Bundle.initS n) ∈ lw_tbl := by decide +kernel
def e_g : List Cond := flatC (Cond.and given_1 narrow_1)
theorem g_not : ∀ q ∈ gNot, Cond.not (.castable q.1 q.2) ∈ e_g := by decide +kernel
theorem g_ex : ∀ q ∈ gStr, Cond.exactly (Term.string q.1 q.2.1) "java/lang/String" ∈ e_g := by decide +kernel
abbrev e_row : Term := .static "java/util/ArrayList" "DEFAULTCAPACITY_EMPTY_ELEMENTDATA" "[Ljava/lang/Object;"
theorem g_row : Cond.arrayOf e_row (.object "java/lang/Object") ∈ e_g ∧ Cond.eq (.length e_row) (.int 0) ∈ e_g := by decide +kernel
theorem g_ref : Cond.isRef (.static Bundle.tN "UNASSIGNED_STACK" Bundle.steD) ∈ e_g ∧ Cond.isRef (.static Bundle.tN "SUPPRESSED_SENTINEL" Bundle.listD) ∈ e_g ∧ Cond.isRef (.mirror "[Ljava/lang/Object;") ∈ e_g := by decide +kernel
theorem g_lay : Cond.laysStatic Bundle.tN "UNASSIGNED_STACK" Bundle.steD ∈ lw_tbl ∧ Cond.laysStatic Bundle.tN "SUPPRESSED_SENTINEL" Bundle.listD ∈ lw_tbl ∧ Cond.initialized Bundle.tN ∈ lw_tbl ∧ Cond.laysStatic "java/util/ArrayList" "DEFAULTCAPACITY_EMPTY_ELEMENTDATA" "[Ljava/lang/Object;" ∈ lw_tbl ∧ Cond.initialized "java/util/ArrayList" ∈ lw_tbl := by decide +kernel
theorem g_arr : Cond.arrayClass FieldType.int ∈ lw_tbl ∧ Cond.arrayClass FieldType.boolean ∈ lw_tbl ∧ Cond.arrayClass FieldType.long ∈ lw_tbl ∧ Cond.arrayClass FieldType.double ∈ lw_tbl ∧ Cond.arrayOver (.object "java/lang/Object") ∈ lw_tbl ∧ Cond.declares ⟨"java/lang/Object", "getClass", "()Ljava/lang/Class;"⟩ ∈ lw_tbl := by decide +kernel
variable {s : State} {args : Array Value}
theorem e_arr {ty : FieldType} (h : (Cond.arrayClass ty).before args s = true) : ∃ c : ClassId, ArrOfT s c ty ∧ s.vm.findClass ("[" ++ ty.toString) = some c := by
  obtain ⟨c, k, comp, h1, h2, h3⟩ := Cond.arrayClass_spec h
  exact ⟨c, fun n z => ⟨fun k h => (by cases h), k, h2, comp, h3⟩, h1⟩
theorem e_ao {C : String} (h : (Cond.arrayOver (.object C)).before args s = true) : ∃ c : ClassId, ArrOfT s c (.object C) ∧ va_RA s c (.object C) := by
  obtain ⟨comp, c, k, h1, h2, h3, h4, h5⟩ := Cond.arrayOver_spec h
  exact ⟨c, fun n z => ⟨fun k h => (by cases h), k, h3, comp, h4⟩, k, comp, h3, h4, h1, h5⟩
/-- the memory at the entry: the script at b, the lists' empty row at r -/
def e_mem (s : State) (b L r : Nat) (xs : Nat → Int32) : Mem := (s.heap.size, fun a => if a = b then some (16, L) else if a = r then some (17, 0) else none, fun _ _ => 0, fun _ _ => none, fun _ _ => 0, fun a => if a = b then xs else fun _ => 0, fun _ _ => none, fun _ _ => 0, fun _ _ => 0)
theorem e_cls (hts : ∀ w ∈ lw_tbl, w.before args s = true) : ∃ f : Nat → ClassId × (Nat → Nat), ∀ t, t < 11 → u_Kn s (cR t) (cT t) (cK t) (f t).1 (f t).2 := by
  have h : ∀ t : Nat, ∃ q : ClassId × (Nat → Nat), t < 11 → u_Kn s (cR t) (cT t) (cK t) q.1 q.2 := fun t => by
    by_cases ht : t < 11
    · obtain ⟨c, i, hk⟩ := u_known (ws := lw_tbl) hts (cT_in t ht) (hts _ (i_in t ht))
      exact ⟨(c, i), fun _ => hk⟩
    · exact ⟨((0 : Nat), fun _ => 0), fun q => absurd q ht⟩
  exact Classical.axiomOfChoice h
theorem e_acl (hts : ∀ w ∈ lw_tbl, w.before args s = true) : ∃ f : Nat → ClassId, ∀ t, 11 ≤ t → t < 18 → ArrOfT s (f t) (aY t) ∧ va_RA s (f t) (aY t) := by
  obtain ⟨g1, g2, g3, g4, g5, -⟩ := g_arr
  obtain ⟨c1, i1, n1⟩ := e_arr (hts _ g1)
  obtain ⟨c2, i2, n2⟩ := e_arr (hts _ g2)
  obtain ⟨c3, i3, n3⟩ := e_arr (hts _ g3)
  obtain ⟨c4, i4, n4⟩ := e_arr (hts _ g4)
  obtain ⟨c5, i5, n5⟩ := e_ao (hts _ g5)
  refine ⟨fun t => if t = 11 ∨ t = 16 then c1 else if t = 12 then c2 else if t = 14 then c3 else if t = 15 then c4 else c5, fun t h1 h2 => ?_⟩
  rcases (by omega : t = 11 ∨ t = 12 ∨ t = 13 ∨ t = 14 ∨ t = 15 ∨ t = 16 ∨ t = 17) with rfl | rfl | rfl | rfl | rfl | rfl | rfl
  · exact ⟨i1, n1⟩
  · exact ⟨i2, n2⟩
  · exact ⟨i5, n5⟩
  · exact ⟨i3, n3⟩
  · exact ⟨i4, n4⟩
  · exact ⟨i1, n1⟩
  · exact ⟨i5, n5⟩
theorem e_len {t : Term} {v : Value} {a : Nat} {c : Cell} (hv : (Term.length t).eval args s none [] s = some v) (ht : t.eval args s none [] s = some (.ref a)) (hat : s.arrayAt? a = some c) : c.slots.size < 2147483648 := by
  simp only [Term.eval, ht, hat, Option.bind_eq_bind, Option.bind_some] at hv
  by_cases hlt : c.slots.size < 2147483648
  · exact hlt
  · simp [hlt] at hv
theorem e_emp (hg : ∀ w ∈ e_g, w.before args s = true) : ∃ (r : Nat) (c : Cell), e_row.eval args s none [] s = some (.ref r) ∧ s.heap[r]? = some c ∧ s.isArrayOf c (.object "java/lang/Object") ∧ c.vm ≠ .unknown ∧ c.slots.size = 0 := by
  have hlen := va_eqt (hg _ g_row.2)
  obtain ⟨r, c, ht, hat, hv⟩ := Term.length_spec hlen
  obtain ⟨hcell, hkn, -, -⟩ := State.arrayAt?_spec hat
  obtain ⟨hof, -⟩ := Cond.arrayOf_spec (hg _ g_row.1) ht hcell
  have hsz := e_len hlen ht hat
  refine ⟨r, c, ht, hcell, hof, hkn, ?_⟩
  have h0 : c.slots.size.toInt32 = 0 := (Value.int.inj hv).symm
  have h1 : nI c.slots.size = nI 0 := h0
  have h2 : (nI c.slots.size).toNatClampNeg = (nI 0).toNatClampNeg := by rw [h1]
  rw [nI_clamp hsz, nI_clamp (by omega)] at h2
  exact h2
/-- the world at the entry -/
theorem e_world (l : Launch) (hflags : l.flags = flags0) {b L : Nat} {xs : Nat → Int32} (hts : ∀ w ∈ lw_tbl, w.before args s = true) (hg : ∀ w ∈ e_g, w.before args s = true) (hX : va_X b L xs s s.heap) (hbl : b < s.heap.size) :
    ∃ G : GC, G.1 = s ∧ GOK G l ∧ GD G ∧ Rel G (e_mem s b L G.2.2.2 xs) s.heap ∧ b ≠ G.2.2.2 ∧ G.2.2.2 < s.heap.size := by
  obtain ⟨f, hf⟩ := e_cls hts
  obtain ⟨ac, hac⟩ := e_acl hts
  obtain ⟨r, ce, hr, hce, hof, hkn, hsz⟩ := e_emp hg
  obtain ⟨scr, hscr, hof2, hkn2, hsz2, hval⟩ := hX
  have hrl : r < s.heap.size := (Array.getElem?_eq_some_iff.mp hce).1
  have hne : b ≠ r := by
    intro e
    subst e
    cases hscr.symm.trans hce
    obtain ⟨-, k, hk, comp, hkind⟩ := hof
    obtain ⟨-, k', hk', comp', hkind'⟩ := hof2
    cases hk.symm.trans hk'
    rw [hkind] at hkind'
    cases hkind'
  have hA : ∀ a : Nat, a < s.heap.size → ¬ s.heap.size ≤ a := fun a h => Nat.not_le.mpr h
  obtain ⟨l1, l2, l3, l4, l5⟩ := g_lay
  obtain ⟨r1, r2, r3⟩ := g_ref
  obtain ⟨-, -, -, -, g5, g6⟩ := g_arr
  refine ⟨(s, (fun t => (f t).1, fun t => (f t).2), ac, r), rfl, ⟨?_, hf, hac, vx_Zqof (hts _ l1) (hts _ l3) (hg _ r1) hA, vx_Zqof (hts _ l2) (hts _ l3) (hg _ r2) hA, va_AO.of (hts _ g5), fun q hq => va_Nw.of rfl (hts _ (g_cast q hq)), fun q hq => va_Nc.of (hg _ (g_not q hq)), fun q hq => ?_, va_Zref (hts _ l4) (hts _ l5) hr hA, va_Mi.of (hg _ r3), va_Dc.of (hts _ g6)⟩, fun n hn => va_Nw.of rfl (hts _ (g_dc n hn)), ⟨rfl, Nat.le_refl _, fun a _ => rfl, fun a t z h => ?_⟩, hne, hrl⟩
  · unfold Launch.stackTraces
    rw [hflags]
    decide +kernel
  · obtain ⟨a, c, cell, k, q1, -⟩ := Cond.exactly_spec (hg _ (g_ex q hq))
    exact ⟨a, vk_R.of (hts _ (g_str q hq)) q1⟩
  · have h : (if a = b then some (16, L) else if a = r then some (17, 0) else none) = some (t, z) := h
    by_cases ha : a = b
    · rw [if_pos ha] at h
      cases h
      subst ha
      refine ⟨hbl, fun q => by omega, fun q => by omega, fun _ => ⟨scr, hscr, fun q => by omega, fun _ => ⟨hkn2, hof2, hsz2, fun j hj => ?_⟩⟩⟩
      rw [hval j hj]
      show some (Value.int (xs j)) = some (Value.int ((if a = a then xs else fun _ => 0) j))
      rw [if_pos rfl]
    · rw [if_neg ha] at h
      by_cases ha2 : a = r
      · rw [if_pos ha2] at h
        cases h
        subst ha2
        exact ⟨hrl, fun q => by omega, fun q => by omega, fun _ => ⟨ce, hce, fun q => by omega, fun _ => ⟨hkn, hof, hsz, fun j hj => absurd hj (Nat.not_lt_zero j)⟩⟩⟩
      · rw [if_neg ha2] at h
        cases h
end ENT
