/-! Arrays, new cells, throws. -/
section AR0
variable {G : GC} {M : Mem} {H H' : Heap}
theorem fv_nw {t z t' k b : Nat} (h : b ≠ mN M) : fv (nw M t z) t' k b = fv M t' k b := by
  refine fv_of ?_ ?_ ?_
  · show (if b = mN M then 0 else mI M _ b) = _
    rw [if_neg h]
  · show (if b = mN M then none else mR M _ b) = _
    rw [if_neg h]
  · show (if b = mN M then 0 else mJ M _ b) = _
    rw [if_neg h]
theorem av_nw {t z t' b : Nat} (h : b ≠ mN M) : av (nw M t z) t' b = av M t' b := av_of (up_n _ _ h) (up_n _ _ h) (up_n _ _ h) (up_n _ _ h)
/-- a cell comes at the end -/
theorem rel_new (hR : Rel G M H) {t z : Nat} (hz : H'.size = mN M + 1) (ho : ∀ q, q < mN M → H'[q]? = H[q]?) (hcell : OKc G (nw M t z) (mN M) t z H') : Rel G (nw M t z) H' := by
  obtain ⟨h1, h2, h3, h4⟩ := hR
  refine ⟨hz, by show gB G ≤ mN M + 1; omega, fun q hq => by rw [ho q (by omega)]; exact h3 q hq, fun b t' z' hb => ?_⟩
  by_cases hbn : b = mN M
  · subst hbn
    have e : mC (nw M t z) (mN M) = some (t, z) := up_s _ _ _
    rw [e] at hb
    cases hb
    exact ⟨Nat.lt_succ_self _, fun _ => h2, hcell⟩
  · have e : mC (nw M t z) b = mC M b := up_n _ _ hbn
    rw [e] at hb
    obtain ⟨q1, q2, q3, q4⟩ := h4 b t' z' hb
    refine ⟨Nat.lt_succ_of_lt q1, q2, fun ht => ?_, fun ht => ?_⟩
    · obtain ⟨cell, c1, c2, c3, c4⟩ := q3 ht
      exact ⟨cell, by rw [ho b q1]; exact c1, c2, c3, fun k hk => (c4 k hk).trans (congrArg some (fv_nw hbn).symm)⟩
    · obtain ⟨ce, c1, c2⟩ := q4 ht
      exact ⟨ce, by rw [ho b q1]; exact c1, c2.av (av_nw hbn)⟩
end AR0
section AR1
variable {G : GC} {mi : MI} {R : Room} {Qf : List Frame → Array Value → State → State → Prop} {pc : Nat} {L : List (Nat × Value)} {st : List Value} {M : Mem} {kc ks : Nat}
theorem gCast_obj : ∀ t, t < 11 → (cR t, "java/lang/Object") ∈ gCast := by decide +kernel
theorem vin_j {i : Int} {j n : Nat} (hi : i = (j : Int)) (hj : j < n) (hn : n ≤ 2147483648) : vp_in (iz i) n ∧ (iz i).toNatClampNeg = j := by
  subst hi
  exact ⟨iz_in hj hn, iz_clamp (by omega)⟩
/-- an array's cell, a plain one or one that was there before -/
theorem av_gen {p : Program} {l : Launch} {s : State} {m : MethodId} {args : Array Value} {meth : Method} {c : Code} (E : Amb G mi p l s m args meth c) {H : Heap} {a t n : Nat} (hR : Rel G M H) (hc : mC M a = some (t, n)) (h1 : 11 ≤ t) (h2 : t < 18) : ∃ ce : Cell, H[a]? = some ce ∧ ce.vm ≠ .unknown ∧ s.isArrayOf ce (aY t) ∧ ce.slots.size = n ∧ ∀ j, j < n → ce.slots[j]? = some (av M t a j) := by
  obtain ⟨ce, e1, e2, e3⟩ := ((hR.2.2.2 a t n hc).2.2).2 (by omega)
  by_cases h : t < 16
  · have e := e2 h
    subst e
    exact ⟨_, e1, fun q => (by cases q), (amb_arr E h1 h2).1 n _, arrV_size _ _ _, fun j hj => arrV_read _ _ hj⟩
  · obtain ⟨f1, f2, f3, f4⟩ := e3 (by omega)
    exact ⟨ce, e1, f1, State.isArrayOf_alike E.2.2.2.2.2.2.1.alike f2, f3, f4⟩
theorem r_iald {a t n j : Nat} {i : Int} {v : Int32} (d : decode mi.2.1 pc = .ok (.iaload, 1)) (hc : mC M a = some (t, n)) (hi : i = (j : Int)) (hv : mA M a j = v) (hj : j < n := by omega) (ht : t = 11 ∨ t = 16 := by decide) (hn : n ≤ 2147483648 := by omega) (k : SWG G mi R Qf (pc + 1) L (.int v :: st) M kc ks) : SWG G mi R Qf pc L (.int (iz i) :: .ref a :: st) M kc ks := by
  intro p l e s m args below meth c E ls H locs hl hR hf
  obtain ⟨g1, g2⟩ := vin_j hi hj hn
  obtain ⟨ce, hA, f1, f2, f3, f4⟩ := av_gen E hR hc (by omega) (by omega)
  refine W.iald (v := av M t a (iz i).toNatClampNeg) E.1 E.2.1 hA ?_ f1 (by rw [f3]; exact g1) (f4 _ (by rw [g2]; exact hj)) rfl rfl d ?_
  · rcases ht with rfl | rfl <;> exact f2
  · have e9 : av M t a (iz i).toNatClampNeg = .int v := by
      rw [g2, ← hv]
      rcases ht with rfl | rfl <;> rfl
    rw [e9]
    exact k p l e s m args below meth c E ls H locs hl hR hf
theorem r_zald {a n j : Nat} {i : Int} {v : Int32} (d : decode mi.2.1 pc = .ok (.baload, 1)) (hc : mC M a = some (12, n)) (hi : i = (j : Int)) (hv : mA M a j = v) (hj : j < n := by omega) (hn : n ≤ 2147483648 := by omega) (k : SWG G mi R Qf (pc + 1) L (.int v :: st) M kc ks) : SWG G mi R Qf pc L (.int (iz i) :: .ref a :: st) M kc ks := by
  intro p l e s m args below meth c E ls H locs hl hR hf
  obtain ⟨g1, g2⟩ := vin_j hi hj hn
  have hA := av_arr hR hc (by omega)
  refine W.zald (v := .int v) E.1 E.2.1 hA ((amb_arr E (t := 12) (by omega) (by omega)).1 n _) (fun q => by cases q) (by show ¬ (_ ∨ (arrV _ _ _).slots.size ≤ _); rw [arrV_size]; exact g1) (by rw [arrV_read _ _ (by rw [g2]; exact hj), g2, ← hv]; rfl) rfl rfl d ?_
  exact k p l e s m args below meth c E ls H locs hl hR hf
theorem r_lald {a n j : Nat} {i : Int} {v : Int64} (d : decode mi.2.1 pc = .ok (.laload, 1)) (hc : mC M a = some (14, n)) (hi : i = (j : Int)) (hv : mL M a j = v) (hj : j < n := by omega) (hn : n ≤ 2147483648 := by omega) (k : SWG G mi R Qf (pc + 1) L (.long v :: st) M kc ks) : SWG G mi R Qf pc L (.int (iz i) :: .ref a :: st) M kc ks := by
  intro p l e s m args below meth c E ls H locs hl hR hf
  obtain ⟨g1, g2⟩ := vin_j hi hj hn
  have hA := av_arr hR hc (by omega)
  refine W.lald (v := .long v) E.1 E.2.1 hA ((amb_arr E (t := 14) (by omega) (by omega)).1 n _) (fun q => by cases q) (by show ¬ (_ ∨ (arrV _ _ _).slots.size ≤ _); rw [arrV_size]; exact g1) (by rw [arrV_read _ _ (by rw [g2]; exact hj), g2, ← hv]; rfl) rfl rfl d ?_
  exact k p l e s m args below meth c E ls H locs hl hR hf
theorem r_dald {a n j : Nat} {i : Int} {v : UInt64} (d : decode mi.2.1 pc = .ok (.daload, 1)) (hc : mC M a = some (15, n)) (hi : i = (j : Int)) (hv : mD M a j = v) (hj : j < n := by omega) (hn : n ≤ 2147483648 := by omega) (k : SWG G mi R Qf (pc + 1) L (.double v :: st) M kc ks) : SWG G mi R Qf pc L (.int (iz i) :: .ref a :: st) M kc ks := by
  intro p l e s m args below meth c E ls H locs hl hR hf
  obtain ⟨g1, g2⟩ := vin_j hi hj hn
  have hA := av_arr hR hc (by omega)
  refine W.dald (v := .double v) E.1 E.2.1 hA ((amb_arr E (t := 15) (by omega) (by omega)).1 n _) (fun q => by cases q) (by show ¬ (_ ∨ (arrV _ _ _).slots.size ≤ _); rw [arrV_size]; exact g1) (by rw [arrV_read _ _ (by rw [g2]; exact hj), g2, ← hv]; rfl) rfl rfl d ?_
  exact k p l e s m args below meth c E ls H locs hl hR hf
theorem r_aald {a n j x : Nat} {i : Int} (d : decode mi.2.1 pc = .ok (.aaload, 1)) (hc : mC M a = some (13, n)) (hi : i = (j : Int)) (hv : mQ M a j = some x) (hj : j < n := by omega) (hn : n ≤ 2147483648 := by omega) (k : SWG G mi R Qf (pc + 1) L (.ref x :: st) M kc ks) : SWG G mi R Qf pc L (.int (iz i) :: .ref a :: st) M kc ks := by
  intro p l e s m args below meth c E ls H locs hl hR hf
  obtain ⟨g1, g2⟩ := vin_j hi hj hn
  have hA := av_arr hR hc (by omega)
  refine W.aald (v := .ref x) (ty := .object "java/lang/Object") E.1 E.2.1 hA ((amb_arr E (t := 13) (by omega) (by omega)).1 n _) rfl (fun q => by cases q) (by show ¬ (_ ∨ (arrV _ _ _).slots.size ≤ _); rw [arrV_size]; exact g1) (by rw [arrV_read _ _ (by rw [g2]; exact hj), g2]; show some (va_rf (mQ M a j)) = _; rw [hv]; rfl) rfl rfl d ?_
  exact k p l e s m args below meth c E ls H locs hl hR hf
theorem r_alen {a t n : Nat} (d : decode mi.2.1 pc = .ok (.arraylength, 1)) (hc : mC M a = some (t, n)) (ht : 11 ≤ t ∧ t < 18 := by decide) (k : SWG G mi R Qf (pc + 1) L (.int (iz (n : Int)) :: st) M kc ks) : SWG G mi R Qf pc L (.ref a :: st) M kc ks := by
  intro p l e s m args below meth c E ls H locs hl hR hf
  obtain ⟨ce, hA, f1, f2, f3, f4⟩ := av_gen E hR hc ht.1 ht.2
  refine W.alen (n := iz (n : Int)) E.1 E.2.1 hA f2 ?_ rfl rfl d (k p l e s m args below meth c E ls H locs hl hR hf)
  rw [f3, ← iz_nI]; rfl
/-- an array's cell after a store -/
theorem rel_ast {H H' : Heap} {M' : Mem} {a t n j : Nat} {v : Value} (hR : Rel G M H) (hc : mC M a = some (t, n)) (ht : ¬ t < 11) (ht2 : t < 16) (e1 : H'[a]? = some ((arrV (G.2.2.1 t) n (av M t a)).setSlot j v)) (e2 : H'.size = H.size) (e3 : ∀ q, q ≠ a → H'[q]? = H[q]?)
    (h1 : mN M' = mN M) (h2 : mC M' = mC M) (h3 : ∀ t' k' b, fv M' t' k' b = fv M t' k' b) (h4 : ∀ t' b, b ≠ a → av M' t' b = av M t' b) (h5 : av M' t a = updV (av M t a) j v) : Rel G M' H' := by
  refine rel_upd hR a ((hR.2.2.2 a t n hc).2.1 ht2) h1 h2 e2 e3 (fun t' z' hz => ?_) (fun t' k' b _ => h3 t' k' b) h4
  cases hc.symm.trans hz
  exact ⟨fun q => absurd q ht, fun _ => ⟨_, e1, fun _ => by rw [arrV_store, h5], fun q => by omega⟩⟩
theorem loc_ast {a t n j : Nat} {H : Heap} {locs : List Loc} (hR : Rel G M H) (hc : mC M a = some (t, n)) (ht2 : t < 16) (hf : ∀ q ∈ locs, gB G ≤ q.base) : ∀ q ∈ locs ++ [(⟨a, j⟩ : Loc)], gB G ≤ q.base := by
  intro q hq
  rcases List.mem_append.mp hq with h | h
  · exact hf q h
  · rw [List.mem_singleton.mp h]; exact (hR.2.2.2 a t n hc).2.1 ht2
theorem r_iast {a n j : Nat} {i : Int} {v : Int32} (d : decode mi.2.1 pc = .ok (.iastore, 1)) (hc : mC M a = some (11, n)) (hi : i = (j : Int)) (hj : j < n := by omega) (hn : n ≤ 2147483648 := by omega) (k : SWG G mi R Qf (pc + 1) L st (sA M a (upd (mA M a) j v)) kc ks) : SWG G mi R Qf pc L (.int v :: .int (iz i) :: .ref a :: st) M kc ks := by
  intro p l e s m args below meth c E ls H locs hl hR hf
  obtain ⟨g1, g2⟩ := vin_j hi hj hn
  have hA := av_arr hR hc (by omega)
  refine W.iast E.1 E.2.1 hA ((amb_arr E (t := 11) (by omega) (by omega)).1 n _) (fun q => by cases q) (by show ¬ (_ ∨ (arrV _ _ _).slots.size ≤ _); rw [arrV_size]; exact g1) rfl rfl d (fun H' e1 e2 e3 => ?_)
  rw [g2] at e1 ⊢
  refine k p l e s m args below meth c E ls H' _ hl (rel_ast hR hc (by omega) (by omega) e1 e2 e3 rfl rfl (fun _ _ _ => rfl) (fun t' b hb => av_of (mA_sAn _ _ _ _ hb) rfl rfl rfl) ?_) (loc_ast hR hc (by omega) hf)
  funext q
  show Value.int (mA (sA M a _) a q) = _
  rw [mA_sA]
  simp only [upd, updV]
  split <;> rfl
theorem r_zast {a n j : Nat} {i : Int} {v : Bool} (d : decode mi.2.1 pc = .ok (.bastore, 1)) (hc : mC M a = some (12, n)) (hi : i = (j : Int)) (hj : j < n := by omega) (hn : n ≤ 2147483648 := by omega) (k : SWG G mi R Qf (pc + 1) L st (sA M a (upd (mA M a) j (bz v))) kc ks) : SWG G mi R Qf pc L (.int (bz v) :: .int (iz i) :: .ref a :: st) M kc ks := by
  intro p l e s m args below meth c E ls H locs hl hR hf
  obtain ⟨g1, g2⟩ := vin_j hi hj hn
  have hA := av_arr hR hc (by omega)
  refine W.zast E.1 E.2.1 hA ((amb_arr E (t := 12) (by omega) (by omega)).1 n _) (fun q => by cases q) (by show ¬ (_ ∨ (arrV _ _ _).slots.size ≤ _); rw [arrV_size]; exact g1) rfl rfl d (fun H' e1 e2 e3 => ?_)
  rw [g2, bz_narrow] at e1
  rw [g2]
  refine k p l e s m args below meth c E ls H' _ hl (rel_ast hR hc (by omega) (by omega) e1 e2 e3 rfl rfl (fun _ _ _ => rfl) (fun t' b hb => av_of (mA_sAn _ _ _ _ hb) rfl rfl rfl) ?_) (loc_ast hR hc (by omega) hf)
  funext q
  show Value.int (mA (sA M a _) a q) = _
  rw [mA_sA]
  simp only [upd, updV]
  split <;> rfl
theorem r_last {a n j : Nat} {i : Int} {v : Int64} (d : decode mi.2.1 pc = .ok (.lastore, 1)) (hc : mC M a = some (14, n)) (hi : i = (j : Int)) (hj : j < n := by omega) (hn : n ≤ 2147483648 := by omega) (k : SWG G mi R Qf (pc + 1) L st (sL M a (va_up (mL M a) j v)) kc ks) : SWG G mi R Qf pc L (.long v :: .int (iz i) :: .ref a :: st) M kc ks := by
  intro p l e s m args below meth c E ls H locs hl hR hf
  obtain ⟨g1, g2⟩ := vin_j hi hj hn
  have hA := av_arr hR hc (by omega)
  refine W.last E.1 E.2.1 hA ((amb_arr E (t := 14) (by omega) (by omega)).1 n _) (fun q => by cases q) (by show ¬ (_ ∨ (arrV _ _ _).slots.size ≤ _); rw [arrV_size]; exact g1) rfl rfl d (fun H' e1 e2 e3 => ?_)
  rw [g2] at e1 ⊢
  refine k p l e s m args below meth c E ls H' _ hl (rel_ast hR hc (by omega) (by omega) e1 e2 e3 rfl rfl (fun _ _ _ => rfl) (fun t' b hb => av_of rfl rfl (mL_sLn _ _ _ _ hb) rfl) ?_) (loc_ast hR hc (by omega) hf)
  funext q
  show Value.long (mL (sL M a _) a q) = _
  rw [mL_sL]
  simp only [va_up, updV]
  split <;> rfl
theorem r_dast {a n j : Nat} {i : Int} {v : UInt64} (d : decode mi.2.1 pc = .ok (.dastore, 1)) (hc : mC M a = some (15, n)) (hi : i = (j : Int)) (hj : j < n := by omega) (hn : n ≤ 2147483648 := by omega) (k : SWG G mi R Qf (pc + 1) L st (sD M a (va_up (mD M a) j v)) kc ks) : SWG G mi R Qf pc L (.double v :: .int (iz i) :: .ref a :: st) M kc ks := by
  intro p l e s m args below meth c E ls H locs hl hR hf
  obtain ⟨g1, g2⟩ := vin_j hi hj hn
  have hA := av_arr hR hc (by omega)
  refine W.dast E.1 E.2.1 hA ((amb_arr E (t := 15) (by omega) (by omega)).1 n _) (fun q => by cases q) (by show ¬ (_ ∨ (arrV _ _ _).slots.size ≤ _); rw [arrV_size]; exact g1) rfl rfl d (fun H' e1 e2 e3 => ?_)
  rw [g2] at e1 ⊢
  refine k p l e s m args below meth c E ls H' _ hl (rel_ast hR hc (by omega) (by omega) e1 e2 e3 rfl rfl (fun _ _ _ => rfl) (fun t' b hb => av_of rfl rfl rfl (mD_sDn _ _ _ _ hb)) ?_) (loc_ast hR hc (by omega) hf)
  funext q
  show Value.double (mD (sD M a _) a q) = _
  rw [mD_sD]
  simp only [va_up, updV]
  split <;> rfl
/-- null into a row of objects -/
theorem r_aastN {a n j : Nat} {i : Int} (d : decode mi.2.1 pc = .ok (.aastore, 1)) (hc : mC M a = some (13, n)) (hi : i = (j : Int)) (hj : j < n := by omega) (hn : n ≤ 2147483648 := by omega) (k : SWG G mi R Qf (pc + 1) L st (sQ M a (va_up (mQ M a) j none)) kc ks) : SWG G mi R Qf pc L (.null :: .int (iz i) :: .ref a :: st) M kc ks := by
  intro p l e s m args below meth c E ls H locs hl hR hf
  obtain ⟨g1, g2⟩ := vin_j hi hj hn
  have hA := av_arr hR hc (by omega)
  refine va_WaastN (C := "java/lang/Object") E.1 E.2.1 hA ((amb_arr E (t := 13) (by omega) (by omega)).1 n _) (fun q => by cases q) (by show ¬ (_ ∨ (arrV _ _ _).slots.size ≤ _); rw [arrV_size]; exact g1) rfl rfl d (fun H' e1 e2 e3 => ?_)
  rw [g2] at e1 ⊢
  refine k p l e s m args below meth c E ls H' _ hl (rel_ast hR hc (by omega) (by omega) e1 e2 e3 rfl rfl (fun _ _ _ => rfl) (fun t' b hb => av_of rfl (mQ_sQn _ _ _ _ hb) rfl rfl) ?_) (loc_ast hR hc (by omega) hf)
  funext q
  show va_rf (mQ (sQ M a _) a q) = _
  rw [mQ_sQ]
  simp only [va_up, updV]
  split <;> rfl
/-- an object into a row of objects -/
theorem r_aast {a n j x t : Nat} {i : Int} (d : decode mi.2.1 pc = .ok (.aastore, 1)) (hc : mC M a = some (13, n)) (hx : mC M x = some (t, 0)) (hi : i = (j : Int)) (ht : t < 11 := by decide) (hj : j < n := by omega) (hn : n ≤ 2147483648 := by omega) (k : SWG G mi R Qf (pc + 1) L st (sQ M a (va_up (mQ M a) j (some x))) kc ks) : SWG G mi R Qf pc L (.ref x :: .int (iz i) :: .ref a :: st) M kc ks := by
  intro p l e s m args below meth c E ls H locs hl hR hf
  obtain ⟨g1, g2⟩ := vin_j hi hj hn
  have hA := av_arr hR hc (by omega)
  have h0 : ¬ iz i < 0 := fun q => g1 (Or.inl q)
  obtain ⟨cellV, q1, q2, q3, q4⟩ := ((hR.2.2.2 x t 0 hx).2.2).1 ht
  have hcls := (amb_kn E ht).2
  obtain ⟨kA, comp, k1, k2, k3, -⟩ := (amb_arr E (t := 13) (by omega) (by omega)).2
  obtain ⟨kC, hkC, -⟩ := hcls.2
  obtain ⟨kE, hkE, -⟩ := Vm.findClass_spec k3
  refine W.aast E.1 E.2.1 hA (fun q h => by cases h) (fun h => by cases h) k1 k2 rfl hkE ⟨h0, by show _ < (arrV _ _ _).slots.size; rw [arrV_size, g2]; exact hj⟩ q1 (fun q h => by rw [q3] at h; cases h) (by rw [q2]; exact hkC) (by
    rw [q2]
    have hca : va_Nw (.castable (cR t) "java/lang/Object") s := va_Nw.warmC E.2.2.2.2.2.2.1 (E.2.2.2.2.2.2.2.1.2.2.2.2.2.2.1 (cR t, "java/lang/Object") (gCast_obj t ht))
    obtain ⟨c0, t1, f1, f2, f3⟩ := Cond.castable_spec (va_Nw.use (A := args) rfl hca)
    cases hcls.1.symm.trans f1
    cases k3.symm.trans f2
    exact f3) rfl rfl d fun H' e1 e2 e3 => ?_
  rw [g2] at e1 ⊢
  refine k p l e s m args below meth c E ls H' _ hl (rel_ast hR hc (by omega) (by omega) e1 e2 e3 rfl rfl (fun _ _ _ => rfl) (fun t' b hb => av_of rfl (mQ_sQn _ _ _ _ hb) rfl rfl) ?_) (loc_ast hR hc (by omega) hf)
  funext q
  show va_rf (mQ (sQ M a _) a q) = _
  rw [mQ_sQ]
  simp only [va_up, updV]
  split <;> rfl
end AR1
