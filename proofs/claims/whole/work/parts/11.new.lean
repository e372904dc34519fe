/-! New cells, casts, throws, catches, statics, the JDK's natives. -/
section NW0
theorem blank_fv {G : GC} {M : Mem} {t k z : Nat} (h : k < cK t) (ht : t < 11) : fv (nw M t z) t k (mN M) = defaultValue (cY t k) := by
  have e1 : mI (nw M t z) (64 * t + k) (mN M) = 0 := if_pos rfl
  have e2 : mR (nw M t z) (64 * t + k) (mN M) = none := if_pos rfl
  have e3 : mJ (nw M t z) (64 * t + k) (mN M) = 0 := if_pos rfl
  have hc : isI t k = true ∨ isR t k = true ∨ isJ t k = true := by
    unfold isI isR isJ; cases cY t k <;> simp
  have hI : isI t k = true → defaultValue (cY t k) = .int 0 := by
    intro h
    have : ∀ t, t < 11 → ∀ k, k < cK t → isI t k = true → defaultValue (cY t k) = .int 0 := by decide +kernel
    exact this t ht k (by assumption) h
  have hR : isR t k = true → defaultValue (cY t k) = .null := by
    intro h
    have : ∀ t, t < 11 → ∀ k, k < cK t → isR t k = true → defaultValue (cY t k) = .null := by decide +kernel
    exact this t ht k (by assumption) h
  have hJ : isJ t k = true → defaultValue (cY t k) = .long 0 := by
    intro h
    have : ∀ t, t < 11 → ∀ k, k < cK t → isJ t k = true → defaultValue (cY t k) = .long 0 := by decide +kernel
    exact this t ht k (by assumption) h
  rcases hc with q | q | q
  · rw [fv_I q, hI q, e1]
  · rw [fv_R q, hR q, e2]; rfl
  · rw [fv_J q, hJ q, e3]
end NW0
section NW1
variable {G : GC} {mi : MI} {R : Room} {Qf : List Frame → Array Value → State → State → Prop} {pc : Nat} {L : List (Nat × Value)} {st : List Value} {M : Mem} {kc ks : Nat}
theorem amb_S {p : Program} {l : Launch} {e : Env} {s : State} {m : MethodId} {args : Array Value} {below : List Frame} {meth : Method} {c : Code} (E : Amb G mi p l s m args meth c) {H : Heap} {locs : List Loc} (hR : Rel G M H) (hf : ∀ q ∈ locs, gB G ≤ q.base) {T : State} (X : Stand p l e R s m args below meth c T locs kc ks) (hT : T.heap = H) : va_S (fun q => gB G ≤ q) s.heap H locs := by
  have hs : s.heap.size ≤ T.heap.size := X.same.2.1
  rw [hT] at hs
  refine ⟨hs, fun q h1 h2 => ?_, hf⟩
  have h3 : q < gB G := by omega
  rw [hR.2.2.1 q h3, E.2.2.2.2.2.2.2.2.2.2.2.1 q h3]
theorem r_new {t idx : Nat} (w : Cond.classLink mi.1 idx (cR t) ∈ wG ∧ Cond.instantiable (cR t) (cK t) ∈ wG ∧ Cond.initialized (cR t) ∈ wG) (d : decode mi.2.1 pc = .ok (.new idx, 3)) (ht : t < 11 := by decide) (hm : kc + 1 ≤ R.cells ∧ ks + cK t ≤ R.slots) (k : (∀ a t z, mC M a = some (t, z) → a < mN M) → gB G ≤ mN M → SWG G mi R Qf (pc + 3) L (.ref (mN M) :: st) (nw M t 0) (kc + 1) (ks + cK t)) : SWG G mi R Qf pc L st M kc ks := by
  intro p l e s m args below meth c E ls H locs hl hR hf
  have hts := E.2.2.2.2.1
  have hKn := amb_kn E ht
  refine W.newcK E.1 E.2.1 E.2.2.2.1 (hts _ w.1) (hts _ w.2.1) (hts _ w.2.2) rfl d hm.1 hm.2 hKn.2.1 hR.1 fun H1 kC hkC e1 z1 o1 => ?_
  refine k (fun a t z h => (hR.2.2.2 a t z h).1) hR.2.1 p l e s m args below meth c E ls H1 locs hl (rel_new hR z1 (fun q hq => o1 q hq) ⟨fun _ => ?_, fun q => absurd ht q⟩) hf
  exact (u_born (cY t) hts (cT_inG t ht) hKn hkC e1 (cT_ty t ht)).to (fun j hj => (blank_fv (G := G) hj ht).symm)
/-- an array of numbers -/
theorem r_newa {t N : Nat} {n : Int} {aty : ArrayType} (w : Cond.arrayClass (newarray.typeOf aty) ∈ wG) (d : decode mi.2.1 pc = .ok (.newarray aty, 2)) (hn : n = (N : Int)) (hta : newarray.typeOf aty = aY t := by rfl) (ht : t = 11 ∨ t = 12 ∨ t = 14 ∨ t = 15 := by decide) (hN : N ≤ 100000 := by omega) (hm : kc + 1 ≤ R.cells ∧ ks + N ≤ R.slots) (k : (∀ a t z, mC M a = some (t, z) → a < mN M) → gB G ≤ mN M → SWG G mi R Qf (pc + 2) L (.ref (mN M) :: st) (nw M t N) (kc + 1) (ks + N)) : SWG G mi R Qf pc L (.int (iz n) :: st) M kc ks := by
  intro p l e s m args below meth c E ls H locs hl hR hf
  subst hn
  have hc := iz_clamp (n := N) (by omega)
  have hneg : ¬ iz (N : Int) < 0 := by rw [← iz_nI]; exact nI_pos (by omega)
  refine va_newaK E.1 E.2.1 (E.2.2.2.2.1 _ w) rfl d rfl hneg hc (by cases aty <;> simp [newarray.typeOf, componentBytes] <;> omega) hm.1 hm.2 hR.1 fun H1 cA e1 z1 o1 hAr hNm => ?_
  refine k (fun a t z h => (hR.2.2.2 a t z h).1) hR.2.1 p l e s m args below meth c E ls H1 locs hl (rel_new hR z1 (fun q hq => o1 q hq) ⟨fun q => by omega, fun _ => ⟨_, ?_, fun _ => rfl, fun q => by omega⟩⟩) hf
  have hRA := (amb_arr E (t := t) (by omega) (by omega)).2
  have hcA : cA = G.2.2.1 t := by
    rw [hta] at hNm
    rcases ht with rfl | rfl | rfl | rfl <;> exact Option.some.inj (hNm.symm.trans hRA)
  rw [e1, hcA]
  congr 2
  funext j
  rw [hta]
  rcases ht with rfl | rfl | rfl | rfl
  · show Value.int 0 = Value.int (mA (nw M 11 N) (mN M) j); rw [show mA (nw M 11 N) (mN M) = (fun _ => 0) from up_s _ _ _]
  · show Value.int 0 = Value.int (mA (nw M 12 N) (mN M) j); rw [show mA (nw M 12 N) (mN M) = (fun _ => 0) from up_s _ _ _]
  · show Value.long 0 = Value.long (mL (nw M 14 N) (mN M) j); rw [show mL (nw M 14 N) (mN M) = (fun _ => 0) from up_s _ _ _]
  · show Value.double 0 = Value.double (mD (nw M 15 N) (mN M) j); rw [show mD (nw M 15 N) (mN M) = (fun _ => 0) from up_s _ _ _]
/-- a row of objects -/
theorem r_newq {N idx : Nat} {n : Int} (w : Cond.classLink mi.1 idx "java/lang/Object" ∈ wG) (d : decode mi.2.1 pc = .ok (.anewarray idx, 3)) (hn : n = (N : Int)) (hN : N ≤ 100000 := by omega) (hm : kc + 1 ≤ R.cells ∧ ks + N ≤ R.slots) (k : (∀ a t z, mC M a = some (t, z) → a < mN M) → gB G ≤ mN M → SWG G mi R Qf (pc + 3) L (.ref (mN M) :: st) (nw M 13 N) (kc + 1) (ks + N)) : SWG G mi R Qf pc L (.int (iz n) :: st) M kc ks := by
  intro p l e s m args below meth c E ls H locs hl hR hf
  subst hn
  have hc := iz_clamp (n := N) (by omega)
  have hneg : ¬ iz (N : Int) < 0 := by rw [← iz_nI]; exact nI_pos (by omega)
  have hover : va_AO "java/lang/Object" s := va_AO.moved E.2.2.2.2.2.2.1.alike E.2.2.2.2.2.2.2.1.2.2.2.2.2.1
  refine W.anew E.1 E.2.1 E.2.2.2.1 (E.2.2.2.2.1 _ w) (va_AO.use hover) rfl d rfl hneg (by rw [hc]; omega) hm.1 (by rw [hc]; exact hm.2) fun cA kA comp f1 f2 f3 f4 => ?_
  rw [hc]
  have hRA := (amb_arr E (t := 13) (by omega) (by omega)).2
  obtain ⟨kA', comp', -, -, -, h4⟩ := hRA
  have hcA : cA = G.2.2.1 13 := Option.some.inj (f1.symm.trans h4)
  rw [hR.1]
  refine k (fun a t z h => (hR.2.2.2 a t z h).1) hR.2.1 p l e s m args below meth c E ls _ locs hl (rel_new hR (by rw [Array.size_push, hR.1]) (fun q hq => by rw [Array.getElem?_push, if_neg (by rw [hR.1]; omega)]) ⟨fun q => by omega, fun _ => ⟨_, ?_, fun _ => rfl, fun q => by omega⟩⟩) hf
  rw [← hR.1, Array.getElem?_push_size, arrV_new, hcA]
  congr 2
  funext j
  show Value.null = va_rf (mQ (nw M 13 N) _ j)
  rw [hR.1, show mQ (nw M 13 N) (mN M) = (fun _ => none) from up_s _ _ _]; rfl
/-- a cast to the class that it is -/
theorem r_cast {t a idx : Nat} (w : Cond.classLink mi.1 idx (cR t) ∈ wG) (d : decode mi.2.1 pc = .ok (.checkcast idx, 3)) (hc : mC M a = some (t, 0)) (ht : t < 11 := by decide) (k : SWG G mi R Qf (pc + 3) L (.ref a :: st) M kc ks) : SWG G mi R Qf pc L (.ref a :: st) M kc ks := by
  intro p l e s m args below meth c E ls H locs hl hR hf
  obtain ⟨cell, q1, q2, q3, q4⟩ := ((hR.2.2.2 a t 0 hc).2.2).1 ht
  have hK := amb_kn E ht
  exact va_castS E.1 E.2.1 E.2.2.2.1 (E.2.2.2.2.1 _ w) hK.2 ⟨cell, q1, by rw [q3]; rfl, by rw [q2]; exact hK.2.1⟩ d (k p l e s m args below meth c E ls H locs hl hR hf)
/-- the call of Object's constructor -/
theorem r_oinit {a idx : Nat} (w : Cond.methodLink mi.1 idx Lib.objectInit ∈ wG ∧ Cond.instanceMethod Lib.objectInit ∈ wG ∧ Cond.code Lib.objectInit ⟨#[0xb1]⟩ 1 none ∈ wG) (d : decode mi.2.1 pc = .ok (.invokespecial idx, 3)) (hR1 : 1 ≤ R.frames ∧ (st.map fun v => v.category).sum + 12 ≤ R.locals := by exact ⟨Nat.le_of_ble_eq_true rfl, Nat.le_of_ble_eq_true rfl⟩) (k : SWG G mi R Qf (pc + 3) L st M kc ks) : SWG G mi R Qf pc L (.ref a :: st) M kc ks := by
  intro p l e s m args below meth c E ls H locs hl hR hf
  have hts := E.2.2.2.2.1
  exact W.objInit E.1 E.2.1 E.2.2.2.1 (hts _ w.1) (hts _ w.2.1) (hts _ w.2.2) rfl (hl.1.trans E.2.2.1.symm) rfl d hR1.1 (by show 2 * 0 + _ + _ ≤ _; omega) (k p l e s m args below meth c E ls H locs hl hR hf)
/-- the list's empty row -/
theorem r_gete {idx : Nat} (w : Cond.fieldLink mi.1 idx "java/util/ArrayList" "DEFAULTCAPACITY_EMPTY_ELEMENTDATA" "[Ljava/lang/Object;" ∈ wG) (d : decode mi.2.1 pc = .ok (.getstatic idx, 3)) (k : SWG G mi R Qf (pc + 3) L (.ref G.2.2.2 :: st) M kc ks) : SWG G mi R Qf pc L st M kc ks := by
  intro p l e s m args below meth c E ls H locs hl hR hf
  intro T hT X
  have hZ := va_Z.moved E.2.2.2.2.2.2.1.alike (va_Z.kept (H1 := s.heap) E.2.2.2.2.2.2.2.1.2.2.2.2.2.2.2.2.2.1 (fun a _ h2 => E.2.2.2.2.2.2.2.2.2.2.2.1 a (by omega)))
  exact va_gets E.1 E.2.1 hZ (amb_S E hR hf X hT) E.2.2.2.1 (E.2.2.2.2.1 _ w) (fun x h => h) d (k p l e s m args below meth c E ls H locs hl hR hf) T hT X
/-- 'throw new E("text")' -/
theorem r_throw {ik is ic : Nat} {cls text : String} {names : List String} {PR : Option Value → Mem → Prop} {PX : String → Mem → Prop} {mc ms : Nat} (hk : Cond.classLink mi.1 ik cls ∈ wG ∧ Cond.initialized cls ∈ wG ∧ (vx_atS mi.1 ic cls names).all (fun w => decide (w ∈ lw_tbl) && goodWord w) = true) (hs : (mi.1, is, text) ∈ gStr)
    (d0 : decode mi.2.1 pc = .ok (.new ik, 3)) (d3 : decode mi.2.1 (pc + 3) = .ok (.dup, 1)) (d4 : decode mi.2.1 (pc + 4) = .ok (.ldc is, 2)) (d6 : decode mi.2.1 (pc + 6) = .ok (.invokespecial ic, 3)) (d9 : decode mi.2.1 (pc + 9) = .ok (.athrow, 1))
    (hcls : Bundle.fit cls = true := by decide +kernel) (hnames : names.all Bundle.fit = true := by decide +kernel) (hh : mi.2.2.2.2.2 = [] := by rfl) (hR1 : names.length + 3 < R.frames ∧ (st.map fun v => v.category).sum + (13 * (names.length + 1) + 43) ≤ R.locals := by exact ⟨Nat.le_of_ble_eq_true rfl, Nat.le_of_ble_eq_true rfl⟩) (hm : kc + 1 ≤ mc ∧ ks + 6 ≤ ms) (hm2 : kc + 1 ≤ R.cells ∧ ks + 6 ≤ R.slots)
    (hx : ∀ n, mN M ≤ n → PX cls (sN M n)) : SWG G mi R (QF G PR PX mc ms) pc L st M kc ks := by
  intro p l e s m args below meth c E ls H locs hl hR hf
  have hts := E.2.2.2.2.1
  have hat : ∀ w ∈ vx_atS mi.1 ic cls names, w ∈ wG := fun w hw => by
    have h := List.all_eq_true.mp hk.2.2 w hw
    simp only [Bool.and_eq_true, decide_eq_true_eq] at h
    exact wG_of h.1 h.2
  obtain ⟨sa, hsa⟩ := E.2.2.2.2.2.2.2.1.2.2.2.2.2.2.2.2.1 _ hs
  have hg := E.2.2.2.2.2.2.2.1
  have hU : vx_Zq Bundle.tN "UNASSIGNED_STACK" Bundle.steD (fun q => gB G ≤ q) s s.heap := vx_Zq.moved E.2.2.2.2.2.2.1.alike (vx_Zq.kept (H1 := s.heap) hg.2.2.2.1 (fun a _ h2 => E.2.2.2.2.2.2.2.2.2.2.2.1 a (by omega)))
  have hN : vx_Zq Bundle.tN "SUPPRESSED_SENTINEL" Bundle.listD (fun q => gB G ≤ q) s s.heap := vx_Zq.moved E.2.2.2.2.2.2.1.alike (vx_Zq.kept (H1 := s.heap) hg.2.2.2.2.1 (fun a _ h2 => E.2.2.2.2.2.2.2.2.2.2.2.1 a (by omega)))
  intro T hT X
  refine vx_throwS (names := names) E.1 E.2.1 hg.1 E.2.2.2.1 hcls (fun n hn => List.all_eq_true.mp hnames n hn) (hts _ hk.1) (hts _ hk.2.1) (vk_R.warm E.2.2.2.2.2.2.1 hsa) (fun w hw => hts w (hat w hw)) (fun w hw => ?_) hU hN (amb_S E hR hf X hT) (hl.1.trans E.2.2.1.symm) d0 d3 d4 d6 d9 (fun x hx => ?_) hR1.1 hR1.2 hm2.1 hm2.2 E.2.2.2.2.2.1 (fun t _ g2 g3 => ?_) hf hm.1 hm.2 T hT X
  · have hwG : w ∈ wG := by
      rcases List.mem_cons.mp hw with h | h
      · rw [h]; exact hk.1
      · rcases List.mem_cons.mp h with h | h
        · rw [h]; exact hk.2.1
        · exact hat w h
    unfold vx_ot
    rw [wG_good w hwG, Bool.or_true]
  · rw [E.2.2.2.2.2.2.2.2.2.2.1, hh] at hx
    exact nomatch hx
  · refine ⟨sN M t.heap.size, ⟨rfl, ?_, fun a ha => ?_, fun a t' z hz => ?_⟩, hx _ (by rw [← hR.1]; exact g2)⟩
    · show gB G ≤ t.heap.size
      have := hR.2.1
      have := hR.1
      omega
    · rw [g3 a (by have := hR.2.1; have := hR.1; omega)]; exact hR.2.2.1 a ha
    · obtain ⟨q1, q2, q3, q4⟩ := hR.2.2.2 a t' z hz
      have hlt : a < H.size := by rw [hR.1]; exact q1
      refine ⟨Nat.lt_of_lt_of_le hlt g2, q2, fun ht => ?_, fun ht => ?_⟩
      · obtain ⟨cell, c1, c2⟩ := q3 ht
        exact ⟨cell, by rw [g3 a hlt]; exact c1, c2⟩
      · rw [g3 a hlt]; exact q4 ht
/-- caught by the handler whose row of the table stands behind the rows pre -/
theorem r_catch {E0 nm : String} (pre : List (Nat × Nat × Nat × Nat)) (x : Nat × Nat × Nat × Nat) (suf : List (Nat × Nat × Nat × Nat)) (hsplit : mi.2.2.2.2.2 = pre ++ x :: suf) (hpass : ∀ z ∈ pre, ∃ nm : String, Cond.classLink mi.1 z.2.2.2 nm ∈ wG ∧ (E0, nm) ∈ gNot) (hp0 : ∀ z ∈ pre, z.2.2.2 ≠ 0) (hx : covers ⟨x.1, x.2.1, x.2.2.1, x.2.2.2⟩ pc = true) (h0 : x.2.2.2 ≠ 0)
    (hlink : Cond.classLink mi.1 x.2.2.2 nm ∈ wG) (hcast : (E0, nm) ∈ gCast) (k : ∀ q, SWG G mi R Qf x.2.2.1 L [.ref q] M kc ks) : SXG G mi R Qf pc L M kc ks E0 := by
  intro p l e s m args below meth c E ls H locs hl hRel hf q ce rest hq hv hcl
  have hts := E.2.2.2.2.1
  have hg := E.2.2.2.2.2.2.2.1
  refine vx_catch E.2.2.2.1 (pre.map fun q => ⟨q.1, q.2.1, q.2.2.1, q.2.2.2⟩) ⟨x.1, x.2.1, x.2.2.1, x.2.2.2⟩ (suf.map fun q => ⟨q.1, q.2.1, q.2.2.1, q.2.2.2⟩) ?_ (fun z hz => ?_) hx h0 (hts _ hlink) (va_Nw.use (A := args) rfl (va_Nw.warmC E.2.2.2.2.2.2.1 (hg.2.2.2.2.2.2.1 _ hcast))) hq hv hcl (k q p l e s m args below meth c E ls H locs hl hRel hf)
  · rw [E.2.2.2.2.2.2.2.2.2.2.1, hsplit]
    simp [tableOf]
  · obtain ⟨y, hy, rfl⟩ := List.mem_map.mp hz
    obtain ⟨nm', g1, g2⟩ := hpass y hy
    exact Or.inr ⟨hp0 y hy, nm', hts _ g1, (hg.2.2.2.2.2.2.2.1 _ g2).moved E.2.2.2.2.2.2.1.alike⟩
end NW1
