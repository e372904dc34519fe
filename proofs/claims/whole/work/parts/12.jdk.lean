/-! The JDK's natives under a growing list; switches. -/
section JD1
variable {G : GC} {mi : MI} {R : Room} {Qf : List Frame → Array Value → State → State → Prop} {pc : Nat} {L : List (Nat × Value)} {st : List Value} {M : Mem} {kc ks : Nat}
theorem w_gc : Cond.selects "[Ljava/lang/Object;" gcN gcN ∈ wG ∧ Cond.instanceMethod gcN ∈ wG ∧ Cond.native gcN ∈ wG := ⟨wG_of (by decide +kernel) (by decide +kernel), wG_of (by decide +kernel) (by decide +kernel), wG_of (by decide +kernel) (by decide +kernel)⟩
theorem w_ac : Cond.native arraycopyName ∈ wG ∧ Cond.static arraycopyName ∈ wG ∧ Cond.initialized "java/lang/System" ∈ wG := ⟨wG_of (by decide +kernel) (by decide +kernel), wG_of (by decide +kernel) (by decide +kernel), wG_of (by decide +kernel) (by decide +kernel)⟩
theorem r_ldcM {idx mir : Nat} (w : Cond.classLink mi.1 idx "[Ljava/lang/Object;" ∈ wG) (hM : va_Mi "[Ljava/lang/Object;" mir G.1) (d : decode mi.2.1 pc = .ok (.ldc idx, 2)) (k : SWG G mi R Qf (pc + 2) L (.ref mir :: st) M kc ks) : SWG G mi R Qf pc L st M kc ks := by
  intro p l e s m args below meth c E ls H locs hl hR hf
  exact va_ldcM E.1 E.2.1 E.2.2.2.1 (E.2.2.2.2.1 _ w) (va_Mi.moved E.2.2.2.2.2.2.1.alike hM) d (k p l e s m args below meth c E ls H locs hl hR hf)
theorem r_getC {a n idx : Nat} (w : Cond.methodLink mi.1 idx gcN ∈ wG) (hc : mC M a = some (13, n)) (d : decode mi.2.1 pc = .ok (.invokevirtual idx, 3)) (hR1 : 1 ≤ R.frames ∧ (st.map fun v => v.category).sum + 14 ≤ R.locals := by exact ⟨Nat.le_of_ble_eq_true rfl, Nat.le_of_ble_eq_true rfl⟩) (k : ∀ mir, va_Mi "[Ljava/lang/Object;" mir G.1 → SWG G mi R Qf (pc + 3) L (.ref mir :: st) M kc ks) : SWG G mi R Qf pc L (.ref a :: st) M kc ks := by
  intro p l e s m args below meth c E ls H locs hl hR hf
  have hts := E.2.2.2.2.1
  obtain ⟨⟨mir, hM⟩, hDc⟩ := E.2.2.2.2.2.2.2.1.2.2.2.2.2.2.2.2.2.2
  have hA := av_arr hR hc (by omega)
  have hRA := (amb_arr E (t := 13) (by omega) (by omega)).2
  exact va_getC E.1 E.2.1 (E.2.2.1.trans hl.1.symm) E.2.2.2.1 (hts _ w) (va_Dc.use (va_Dc.moved E.2.2.2.2.2.2.1.alike hDc)) (hts _ w_gc.1) (hts _ w_gc.2.1) (hts _ w_gc.2.2) (va_Mi.moved E.2.2.2.2.2.2.1.alike hM) ⟨_, hA, rfl, va_nmO hRA rfl⟩ hR1.1 hR1.2 d (k mir hM p l e s m args below meth c E ls H locs hl hR hf)
/-- System.arraycopy of a whole row of known objects to the begin of a longer one -/
theorem r_copy {a b n0 n1 n idx : Nat} (w : Cond.methodLink mi.1 idx arraycopyName ∈ wG) (ha : mC M a = some (13, n0)) (hb : mC M b = some (13, n1)) (hab : b ≠ a) (hn0 : n ≤ n0) (hn1 : n ≤ n1) (hs : n0 ≤ 100000) (hel : ∀ i, i < n → ∀ y, mQ M a i = some y → ∃ t, t < 11 ∧ mC M y = some (t, 0)) (d : decode mi.2.1 pc = .ok (.invokestatic idx, 3))
    (hR1 : 1 ≤ R.frames ∧ (st.map fun v => v.category).sum + (nativeFrameWords "java/lang/System" "arraycopy" 5 + 11) ≤ R.locals := by exact ⟨Nat.le_of_ble_eq_true rfl, Nat.le_of_ble_eq_true rfl⟩) (k : SWG G mi R Qf (pc + 3) L st (sQ M b (va_cpy (mQ M a) (mQ M b) 0 0 n)) kc ks) : SWG G mi R Qf pc L (.int (iz (n : Int)) :: .int (iz 0) :: .ref b :: .int (iz 0) :: .ref a :: st) M kc ks := by
  intro p l e s m args below meth c E ls H locs hl hR hf
  have hts := E.2.2.2.2.1
  have hcl := iz_clamp (n := n) (by omega)
  have hneg : ¬ iz (n : Int) < 0 := by rw [← iz_nI]; exact nI_pos (by omega)
  have h0 : ¬ iz 0 < 0 := by decide +kernel
  have hz : (iz 0).toNatClampNeg = 0 := by decide +kernel
  have hA := av_arr hR ha (by omega)
  have hB := av_arr hR hb (by omega)
  have hT := amb_arr E (t := 13) (by omega) (by omega)
  have hS0 := hT.1
  obtain ⟨kA, comp, r1, r2, r3, -⟩ := hT.2
  intro T hTT X
  obtain ⟨vm', X', step⟩ := X.arraycopy E.1 E.2.2.2.1 (hts _ w) (hts _ w_ac.1) (hts _ w_ac.2.1) (hts _ w_ac.2.2) (src := a) (dst := b) (cs := arrV (G.2.2.1 13) n0 (av M 13 a)) (cd := arrV (G.2.2.1 13) n1 (av M 13 b)) (srcPos := iz 0) (destPos := iz 0) (n := iz (n : Int)) (by rw [hTT]; exact hA) (by rw [hTT]; exact hB)
    (fun _ h => by cases h) (fun _ h => by cases h) (fun h => by cases h) (fun h => by cases h) r1 r1 r2 r2 rfl h0 h0 hneg
    (by rw [iz_toInt (by constructor <;> omega), iz_toInt (by constructor <;> omega)]; show ¬ _ > ((arrV _ n0 _).slots.size : Int); rw [arrV_size]; omega)
    (by rw [iz_toInt (by constructor <;> omega), iz_toInt (by constructor <;> omega)]; show ¬ _ > ((arrV _ n1 _).slots.size : Int); rw [arrV_size]; omega)
    (fun vm₁ hal i hi => by
      rw [hcl] at hi
      have e : (arrV (G.2.2.1 13) n0 (av M 13 a)).slots.getD ((iz 0).toNatClampNeg + i) .null = va_rf (mQ M a i) := by
        rw [hz, Nat.zero_add, Array.getD_eq_getD_getElem?, arrV_read _ _ (by omega)]
        rfl
      rw [e]
      cases hy : mQ M a i with
      | none => exact ⟨rfl, trivial⟩
      | some y =>
        obtain ⟨t, ht, hcy⟩ := hel i hi y hy
        obtain ⟨cellV, q1, q2, q3, -⟩ := ((hR.2.2.2 y t 0 hcy).2.2).1 ht
        have hcls := (amb_kn E ht).2
        obtain ⟨kC, hkC, -⟩ := hcls.2
        obtain ⟨kE, hkE, -⟩ := Vm.findClass_spec r3
        obtain ⟨kC', hkC', -⟩ := hal.2.2 _ _ hkC
        obtain ⟨kE', hkE', -⟩ := hal.2.2 _ _ hkE
        refine ⟨rfl, cellV, (show T.heap[y]? = some cellV by rw [hTT]; exact q1), (fun q h => by rw [q3] at h; cases h), ⟨kC', by rw [q2]; exact hkC'⟩, ⟨kE', hkE'⟩, ?_⟩
        have hca : va_Nw (.castable (cR t) "java/lang/Object") s := va_Nw.warmC E.2.2.2.2.2.2.1 (E.2.2.2.2.2.2.2.1.2.2.2.2.2.2.1 (cR t, "java/lang/Object") (gCast_obj t ht))
        obtain ⟨c0, t1, f1, f2, f3⟩ := Cond.castable_spec (va_Nw.use (A := args) rfl hca)
        cases hcls.1.symm.trans f1
        cases r3.symm.trans f2
        show vm₁.assignable _ _ = true
        rw [hal.assignable, q2]
        exact f3)
    (g := F0 m pc ls (.int (iz (n : Int)) :: .int (iz 0) :: .ref b :: .int (iz 0) :: .ref a :: st)) rfl (hl.1.trans E.2.2.1.symm) (rest := st) rfl (by rw [E.2.1]; exact d) hR1.1 (by show 2 * 0 + _ + _ ≤ _; omega)
  have hlb : b < H.size := by rw [hR.1]; exact (hR.2.2.2 b 13 n1 hb).1
  have e1 : copied (arrV (G.2.2.1 13) n0 (av M 13 a)) (arrV (G.2.2.1 13) n1 (av M 13 b)) (iz 0) (iz 0) (iz (n : Int)) = arrV (G.2.2.1 13) n1 (fun j => va_rf (va_cpy (mQ M a) (mQ M b) 0 0 n j)) := by
    have h9 := va_copied (fun z => va_rf z) (G.2.2.1 13) (G.2.2.1 13) (mQ M a) (mQ M b) (n0 := n0) (n1 := n1) (sp := (iz 0).toNatClampNeg) (dp := (iz 0).toNatClampNeg) (n := (iz (n : Int)).toNatClampNeg) (by rw [hz, hcl]; omega)
    have h8 : copied (arrV (G.2.2.1 13) n0 (av M 13 a)) (arrV (G.2.2.1 13) n1 (av M 13 b)) (iz 0) (iz 0) (iz (n : Int)) = arrV (G.2.2.1 13) n1 (fun j => va_rf (va_cpy (mQ M a) (mQ M b) (iz 0).toNatClampNeg (iz 0).toNatClampNeg (iz (n : Int)).toNatClampNeg j)) := h9
    rw [hz, hcl] at h8
    exact h8
  rw [e1] at X' step
  have hRel' : Rel G (sQ M b (va_cpy (mQ M a) (mQ M b) 0 0 n)) (H.setIfInBounds b (arrV (G.2.2.1 13) n1 (fun j => va_rf (va_cpy (mQ M a) (mQ M b) 0 0 n j)))) := by
    refine rel_upd hR b ((hR.2.2.2 b 13 n1 hb).2.1 (by omega)) rfl rfl (by simp) (fun q hq => by simp [Array.getElem?_setIfInBounds, Ne.symm hq]) (fun t' z' hz' => ?_) (fun _ _ _ _ => rfl) (fun t' b' hb' => av_of rfl (mQ_sQn _ _ _ _ hb') rfl rfl)
    cases hb.symm.trans hz'
    refine ⟨fun q => by omega, fun _ => ⟨_, ?_, fun _ => rfl, fun q => by omega⟩⟩
    simp only [Array.getElem?_setIfInBounds, hlb, if_true]
    congr 2
    funext j
    show va_rf _ = va_rf (mQ (sQ M b _) b j)
    rw [mQ_sQ]
  obtain ⟨t, a1, b1⟩ := k p l e s m args below meth c E ls _ _ hl hRel' (fun q hq => (List.mem_append.mp hq).elim (hf q) (fun h => by
    obtain ⟨z, -, hz2⟩ := List.mem_map.mp h
    rw [← hz2]
    exact (hR.2.2.2 b 13 n1 hb).2.1 (by omega))) _ (by rw [← hTT]; rfl) X'
  exact ⟨t, step t a1, b1⟩
end JD1
