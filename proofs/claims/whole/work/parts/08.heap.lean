/-! Rows over the heap. -/
section RH0
variable {G : GC} {M M' : Mem} {H H' : Heap}
theorem AC.av {a t z : Nat} {c : Cell} (h : AC G M a t z c) (e : av M' t a = av M t a) : AC G M' a t z c := ⟨fun q => by rw [e]; exact h.1 q, fun q => by rw [e]; exact h.2 q⟩
/-- one cell changes -/
theorem rel_upd (hR : Rel G M H) (a : Nat) (ha : gB G ≤ a) (hn : mN M' = mN M) (hc : mC M' = mC M) (hz : H'.size = H.size) (ho : ∀ q, q ≠ a → H'[q]? = H[q]?) (hcell : ∀ t z, mC M a = some (t, z) → OKc G M' a t z H')
    (hfv : ∀ t k b, b ≠ a → fv M' t k b = fv M t k b) (hav : ∀ t b, b ≠ a → av M' t b = av M t b) : Rel G M' H' := by
  obtain ⟨h1, h2, h3, h4⟩ := hR
  refine ⟨by rw [hz, h1, hn], by rw [hn]; exact h2, fun q hq => by rw [ho q (by omega)]; exact h3 q hq, fun b t z hb => ?_⟩
  rw [hc] at hb
  obtain ⟨q1, q2, q3, q4⟩ := h4 b t z hb
  refine ⟨by rw [hn]; exact q1, q2, ?_⟩
  by_cases hba : b = a
  · subst hba; exact hcell t z hb
  · refine ⟨fun ht => ?_, fun ht => ?_⟩
    · obtain ⟨cell, c1, c2, c3, c4⟩ := q3 ht
      exact ⟨cell, by rw [ho b hba]; exact c1, c2, c3, fun k hk => (c4 k hk).trans (congrArg some (hfv t k b hba).symm)⟩
    · obtain ⟨ce, c1, c2⟩ := q4 ht
      exact ⟨ce, by rw [ho b hba]; exact c1, c2.av (hav t b hba)⟩
theorem av_arr {a t z : Nat} (hR : Rel G M H) (h : mC M a = some (t, z)) (ht : ¬ t < 11) (h2 : t < 16 := by omega) : H[a]? = some (arrV (G.2.2.1 t) z (av M t a)) := by
  obtain ⟨ce, c1, c2, -⟩ := ((hR.2.2.2 a t z h).2.2).2 ht
  rw [c1, c2 h2]
/-- a field that holds a number -/
def isI (t k : Nat) : Bool := match cY t k with
  | .long => false
  | .object _ => false
  | .array _ => false
  | _ => true
def isR (t k : Nat) : Bool := match cY t k with
  | .object _ => true
  | .array _ => true
  | _ => false
def isJ (t k : Nat) : Bool := match cY t k with
  | .long => true
  | _ => false
theorem fv_I {t k a : Nat} (h : isI t k = true) : fv M t k a = .int (mI M (64 * t + k) a) := by
  unfold isI at h; unfold fv
  split at h <;> first | cases h | skip
  split <;> simp_all
theorem fv_R {t k a : Nat} (h : isR t k = true) : fv M t k a = va_rf (mR M (64 * t + k) a) := by
  unfold isR at h; unfold fv
  split at h <;> first | cases h | skip
  all_goals (split <;> simp_all)
theorem fv_J {t k a : Nat} (h : isJ t k = true) : fv M t k a = .long (mJ M (64 * t + k) a) := by
  unfold isJ at h; unfold fv
  split at h <;> first | cases h | skip
  split <;> simp_all
/-- the fields' values by the maps -/
theorem fv_of {t k a : Nat} (h1 : mI M' (64 * t + k) a = mI M (64 * t + k) a) (h2 : mR M' (64 * t + k) a = mR M (64 * t + k) a) (h3 : mJ M' (64 * t + k) a = mJ M (64 * t + k) a) : fv M' t k a = fv M t k a := by
  unfold fv; split <;> simp_all
theorem av_of {t a : Nat} (h1 : mA M' a = mA M a) (h2 : mQ M' a = mQ M a) (h3 : mL M' a = mL M a) (h4 : mD M' a = mD M a) : av M' t a = av M t a := by
  funext j
  unfold av; split <;> simp_all
end RH0
section RH1
variable {G : GC} {mi : MI} {R : Room} {Qf : List Frame → Array Value → State → State → Prop} {pc : Nat} {L : List (Nat × Value)} {st : List Value} {M : Mem} {kc ks : Nat}
/-- the class knowledge at the method's own start -/
theorem amb_kn {p : Program} {l : Launch} {s : State} {m : MethodId} {args : Array Value} {meth : Method} {c : Code} (E : Amb G mi p l s m args meth c) {t : Nat} (ht : t < 11) : u_Kn s (cR t) (cT t) (cK t) (G.2.1.1 t) (G.2.1.2 t) := u_Kn_moved E.2.2.2.2.2.2.1.alike (E.2.2.2.2.2.2.2.1.2.1 t ht)
theorem amb_arr {p : Program} {l : Launch} {s : State} {m : MethodId} {args : Array Value} {meth : Method} {c : Code} (E : Amb G mi p l s m args meth c) {t : Nat} (h1 : 11 ≤ t) (ht : t < 18) : ArrOfT s (G.2.2.1 t) (aY t) ∧ va_RA s (G.2.2.1 t) (aY t) := ⟨arrOfT_moved E.2.2.2.2.2.2.1.alike (E.2.2.2.2.2.2.2.1.2.2.1 t h1 ht).1, (E.2.2.2.2.2.2.2.1.2.2.1 t h1 ht).2.moved E.2.2.2.2.2.2.1.alike⟩
theorem amb_same {p : Program} {l : Launch} {s : State} {m : MethodId} {args : Array Value} {meth : Method} {c : Code} (E : Amb G mi p l s m args meth c) {t k : Nat} (ht : t < 11) (hk : k < cK t) (x : ClassId × Class × Nat × Field) (ho : s.fieldFound? (cT t k).1 (cT t k).2.1 (cT t k).2.2.1 = some x) : s.fieldFound? (cR t) (cT t k).2.1 (cT t k).2.2.1 = some x := by
  rcases cT_same t ht k hk with h | h
  · rw [← h]; exact ho
  · exact u_same (E.2.2.2.2.1 _ (wG_of h rfl)) x ho
theorem r_get {a t k idx : Nat} (w : Cond.fieldLink mi.1 idx (cR t) (cT t k).2.1 (cT t k).2.2.1 ∈ wG) (d : decode mi.2.1 pc = .ok (.getfield idx, 3)) (hc : mC M a = some (t, 0)) (ht : t < 11) (hk : k < cK t) (kk : SWG G mi R Qf (pc + 3) L (fv M t k a :: st) M kc ks) : SWG G mi R Qf pc L (.ref a :: st) M kc ks := by
  intro p l e s m args below meth c E ls H locs hl hR hf
  obtain ⟨cell, q1, q2, q3, q4⟩ := ((hR.2.2.2 a t 0 hc).2.2).1 ht
  obtain ⟨hS, hfc, kC, hkC, hkind⟩ := amb_kn E ht
  obtain ⟨cf, kf, fi, f, hi, hsl⟩ := hS k hk
  refine W.getf E.1 E.2.1 E.2.2.2.1 (E.2.2.2.2.1 _ w) (amb_same E ht hk _ hi) (u_facts hfc hkC (u_lays E.2.2.2.2.1 (cT_inG t ht) hk) hi).1 q1 (by rw [q3]; exact fun h => by cases h) (v := fv M t k a) ?_ rfl rfl d (kk p l e s m args below meth c E ls H locs hl hR hf)
  rw [hsl, q4 k hk]
theorem r_getI {a t k idx : Nat} {x : Int32} (w : Cond.fieldLink mi.1 idx (cR t) (cT t k).2.1 (cT t k).2.2.1 ∈ wG) (d : decode mi.2.1 pc = .ok (.getfield idx, 3)) (hc : mC M a = some (t, 0)) (hv : mI M (64 * t + k) a = x) (ht : t < 11 := by decide) (hk : k < cK t := by decide) (hy : isI t k = true := by rfl) (kk : SWG G mi R Qf (pc + 3) L (.int x :: st) M kc ks) : SWG G mi R Qf pc L (.ref a :: st) M kc ks := by
  refine r_get w d hc ht hk ?_
  rw [fv_I hy, hv]; exact kk
theorem r_getR {a t k idx x : Nat} (w : Cond.fieldLink mi.1 idx (cR t) (cT t k).2.1 (cT t k).2.2.1 ∈ wG) (d : decode mi.2.1 pc = .ok (.getfield idx, 3)) (hc : mC M a = some (t, 0)) (hv : mR M (64 * t + k) a = some x) (ht : t < 11 := by decide) (hk : k < cK t := by decide) (hy : isR t k = true := by rfl) (kk : SWG G mi R Qf (pc + 3) L (.ref x :: st) M kc ks) : SWG G mi R Qf pc L (.ref a :: st) M kc ks := by
  refine r_get w d hc ht hk ?_
  rw [fv_R hy, hv]; exact kk
theorem r_getJ {a t k idx : Nat} {x : Int64} (w : Cond.fieldLink mi.1 idx (cR t) (cT t k).2.1 (cT t k).2.2.1 ∈ wG) (d : decode mi.2.1 pc = .ok (.getfield idx, 3)) (hc : mC M a = some (t, 0)) (hv : mJ M (64 * t + k) a = x) (ht : t < 11 := by decide) (hk : k < cK t := by decide) (hy : isJ t k = true := by rfl) (kk : SWG G mi R Qf (pc + 3) L (.long x :: st) M kc ks) : SWG G mi R Qf pc L (.ref a :: st) M kc ks := by
  refine r_get w d hc ht hk ?_
  rw [fv_J hy, hv]; exact kk
/-- a store, of any kind of field -/
theorem r_put {a t k idx : Nat} {v : Value} {M' : Mem} {ref : String} (href : ref = cR t ∨ ref = (cT t k).1) (w : Cond.fieldLink mi.1 idx ref (cT t k).2.1 (cT t k).2.2.1 ∈ wG) (d : decode mi.2.1 pc = .ok (.putfield idx, 3)) (hc : mC M a = some (t, 0)) (ht : t < 11) (hk : k < cK t)
    (hfin : (cT t k).2.2.2 = false ∨ (mi.2.2.2.2.1 = "<init>" ∧ (cT t k).1 = mi.1)) (hn : narrow (cY t k) v = v) (hfit : fits (cY t k) v = true)
    (h1 : mN M' = mN M) (h2 : mC M' = mC M) (h3 : ∀ t' k' b, (b ≠ a ∨ 64 * t' + k' ≠ 64 * t + k) → fv M' t' k' b = fv M t' k' b) (h4 : fv M' t k a = v) (h5 : ∀ t' b, av M' t' b = av M t' b)
    (kk : SWG G mi R Qf (pc + 3) L st M' kc ks) : SWG G mi R Qf pc L (v :: .ref a :: st) M kc ks := by
  intro p l e s m args below meth c E ls H locs hl hR hf
  obtain ⟨g1, g2, g3⟩ := hR.2.2.2 a t 0 hc
  obtain ⟨cell, q1, q2, q3, q4⟩ := g3.1 ht
  have hK := amb_kn E ht
  obtain ⟨hS, hfc, kC, hkC, hkind⟩ := id hK
  obtain ⟨cf, kf, fi, f, hi, hsl⟩ := hS k hk
  have hts := E.2.2.2.2.1
  have hty := cT_ty t ht k hk
  have hsm : ∀ x, s.fieldFound? (cT t k).1 (cT t k).2.1 (cT t k).2.2.1 = some x → s.fieldFound? ref (cT t k).2.1 (cT t k).2.2.1 = some x := by
    rcases href with h | h
    · rw [h]; exact fun x => amb_same E ht hk x
    · rw [h]; exact fun x h => h
  have hst := (u_facts hfc hkC (u_lays hts (cT_inG t ht) hk) hi).1
  have hap : ∀ x y, x < cK t → y < cK t → x ≠ y → G.2.1.2 t x ≠ G.2.1.2 t y := by
    intro x y hx hy hne
    obtain ⟨_, _, _, fa, hia, ea⟩ := hS x hx
    obtain ⟨_, _, _, fb, hib, eb⟩ := hS y hy
    rw [← ea, ← eb]
    refine u_apart (u_lays hts (cT_inG t ht) hx) (u_lays hts (cT_inG t ht) hy) hia hib ?_
    rw [(State.fieldFound?_type hia (cT_ty t ht x hx)).1, (State.fieldFound?_type hib (cT_ty t ht y hy)).1]
    exact cT_nm t ht x hx y hy hne
  have fin : ∀ H' : Heap, H'[a]? = some (cell.setSlot f.slot v) → H'.size = H.size → (∀ q, q ≠ a → H'[q]? = H[q]?) → W p l e R s m args below meth c H' (locs ++ [⟨a, f.slot⟩]) kc ks (Qf below args s) (F0 m (pc + 3) ls st) := by
    intro H' e1 e2 e3
    refine kk p l e s m args below meth c E ls H' _ hl (rel_upd hR a (g2 (by omega)) h1 h2 e2 e3 (fun t' z' hz => ?_) (fun t' k' b hb => h3 t' k' b (Or.inl hb)) (fun t' b _ => h5 t' b)) (fun q hq => ?_)
    · cases hc.symm.trans hz
      refine ⟨fun _ => ?_, fun q => absurd ht q⟩
      rw [hsl] at e1
      refine ⟨_, e1, q2, q3, fun j hj => ?_⟩
      rw [t_set q4 hap hk v j hj]
      by_cases hjk : j = k
      · subst hjk; simp [updV, h4]
      · simp [updV, hjk, h3 t j a (Or.inr (by omega))]
    · rcases List.mem_append.mp hq with h | h
      · exact hf q h
      · rw [List.mem_singleton.mp h]; exact g2 (by omega)
  rcases hfin with hfin | ⟨hin, hdecl⟩
  · have hlay := hts _ (cT_inG t ht _ (u_in_lay hk))
    unfold u_lay at hlay
    rw [if_neg (by rw [hfin]; decide)] at hlay
    have h6 := u_store hfc hkC hkind hlay hi hty hn hfit
    exact W.putK E.1 E.2.1 (f := f) ⟨E.2.2.2.1, hts _ w, ⟨_, _, _, hsm _ hi⟩, hst⟩ (by rw [q2]; exact h6) q1 q3 (by rw [hsl]; exact k2_hasslot (q4 k hk)) rfl rfl d fin
  · by_cases hfin : (cT t k).2.2.2 = true
    · have hlay := hts _ (cT_inG t ht _ (u_in_lay hk))
      unfold u_lay at hlay
      rw [if_pos hfin] at hlay
      have hcf : m.cls = cf := by
        obtain ⟨_, _, c', _, _, _, -, -, hf', -, -, -, hown2, -⟩ := Cond.laysFinal_spec hlay
        have e1 : c' = cf := by have := hi.symm.trans hf'; simp at this; exact this.1.symm
        rw [hdecl] at hown2
        rw [← e1]; exact Option.some.inj (E.2.2.2.1.symm.trans hown2)
      have h6 := u_fits hfc hkC hkind (Or.inr hlay) hi hty hn hfit
      exact W.putFinK E.1 E.2.1 E.2.2.2.1 (hts _ w) (hsm _ hi) hst hcf (E.2.2.2.2.2.2.2.2.2.1.trans hin) (by rw [q2]; exact h6) q1 q3 (by rw [hsl]; exact k2_hasslot (q4 k hk)) rfl rfl d fin
    · have hlay := hts _ (cT_inG t ht _ (u_in_lay hk))
      unfold u_lay at hlay
      rw [if_neg hfin] at hlay
      have h6 := u_store hfc hkC hkind hlay hi hty hn hfit
      exact W.putK E.1 E.2.1 (f := f) ⟨E.2.2.2.1, hts _ w, ⟨_, _, _, hsm _ hi⟩, hst⟩ (by rw [q2]; exact h6) q1 q3 (by rw [hsl]; exact k2_hasslot (q4 k hk)) rfl rfl d fin
theorem r_putI {a t k idx : Nat} {x : Int32} (w : Cond.fieldLink mi.1 idx (cR t) (cT t k).2.1 (cT t k).2.2.1 ∈ wG) (d : decode mi.2.1 pc = .ok (.putfield idx, 3)) (hc : mC M a = some (t, 0)) (ht : t < 11 := by decide) (hk : k < cK t := by decide) (hy : cY t k = .int := by rfl)
    (hfin : (cT t k).2.2.2 = false ∨ (mi.2.2.2.2.1 = "<init>" ∧ (cT t k).1 = mi.1) := by decide)
    (kk : SWG G mi R Qf (pc + 3) L st (sI M (64 * t + k) (upd (mI M (64 * t + k)) a x)) kc ks) : SWG G mi R Qf pc L (.int x :: .ref a :: st) M kc ks := by
  refine r_put (M' := sI M (64 * t + k) (upd (mI M (64 * t + k)) a x)) (Or.inl rfl) w d hc ht hk hfin (by rw [hy]; rfl) (by rw [hy]; rfl) rfl rfl (fun t' k' b hb => fv_of ?_ rfl rfl) ?_ (fun t' b => rfl) kk
  · by_cases hf : 64 * t' + k' = 64 * t + k
    · rw [hf, mI_sI]
      rcases hb with hb | hb
      · simp [upd, hb]
      · exact absurd hf hb
    · rw [mI_sIn _ _ _ _ hf]
  · rw [fv_I (by unfold isI; rw [hy]), mI_sI]
    simp [upd]
theorem r_putDI {a t k idx : Nat} {x : Int32} (w : Cond.fieldLink mi.1 idx (cT t k).1 (cT t k).2.1 (cT t k).2.2.1 ∈ wG) (d : decode mi.2.1 pc = .ok (.putfield idx, 3)) (hc : mC M a = some (t, 0)) (ht : t < 11 := by decide) (hk : k < cK t := by decide) (hy : cY t k = .int := by rfl)
    (hfin : (cT t k).2.2.2 = false ∨ (mi.2.2.2.2.1 = "<init>" ∧ (cT t k).1 = mi.1) := by decide)
    (kk : SWG G mi R Qf (pc + 3) L st (sI M (64 * t + k) (upd (mI M (64 * t + k)) a x)) kc ks) : SWG G mi R Qf pc L (.int x :: .ref a :: st) M kc ks := by
  refine r_put (M' := sI M (64 * t + k) (upd (mI M (64 * t + k)) a x)) (Or.inr rfl) w d hc ht hk hfin (by rw [hy]; rfl) (by rw [hy]; rfl) rfl rfl (fun t' k' b hb => fv_of ?_ rfl rfl) ?_ (fun t' b => rfl) kk
  · by_cases hf : 64 * t' + k' = 64 * t + k
    · rw [hf, mI_sI]
      rcases hb with hb | hb
      · simp [upd, hb]
      · exact absurd hf hb
    · rw [mI_sIn _ _ _ _ hf]
  · rw [fv_I (by unfold isI; rw [hy]), mI_sI]
    simp [upd]
theorem r_putZ {a t k idx : Nat} {x : Bool} (w : Cond.fieldLink mi.1 idx (cR t) (cT t k).2.1 (cT t k).2.2.1 ∈ wG) (d : decode mi.2.1 pc = .ok (.putfield idx, 3)) (hc : mC M a = some (t, 0)) (ht : t < 11 := by decide) (hk : k < cK t := by decide) (hy : cY t k = .boolean := by rfl)
    (hfin : (cT t k).2.2.2 = false ∨ (mi.2.2.2.2.1 = "<init>" ∧ (cT t k).1 = mi.1) := by decide)
    (kk : SWG G mi R Qf (pc + 3) L st (sI M (64 * t + k) (upd (mI M (64 * t + k)) a (bz x))) kc ks) : SWG G mi R Qf pc L (.int (bz x) :: .ref a :: st) M kc ks := by
  refine r_put (M' := sI M (64 * t + k) (upd (mI M (64 * t + k)) a (bz x))) (Or.inl rfl) w d hc ht hk hfin (by rw [hy]; exact bz_narrow x) (by rw [hy]; cases x <;> decide +kernel) rfl rfl (fun t' k' b hb => fv_of ?_ rfl rfl) ?_ (fun t' b => rfl) kk
  · by_cases hf : 64 * t' + k' = 64 * t + k
    · rw [hf, mI_sI]
      rcases hb with hb | hb
      · simp [upd, hb]
      · exact absurd hf hb
    · rw [mI_sIn _ _ _ _ hf]
  · rw [fv_I (by unfold isI; rw [hy]), mI_sI]
    simp [upd]
theorem r_putR {a t k idx x : Nat} (w : Cond.fieldLink mi.1 idx (cR t) (cT t k).2.1 (cT t k).2.2.1 ∈ wG) (d : decode mi.2.1 pc = .ok (.putfield idx, 3)) (hc : mC M a = some (t, 0)) (ht : t < 11 := by decide) (hk : k < cK t := by decide) (hy : isR t k = true := by rfl)
    (hfin : (cT t k).2.2.2 = false ∨ (mi.2.2.2.2.1 = "<init>" ∧ (cT t k).1 = mi.1) := by decide)
    (kk : SWG G mi R Qf (pc + 3) L st (sR M (64 * t + k) (va_up (mR M (64 * t + k)) a (some x))) kc ks) : SWG G mi R Qf pc L (.ref x :: .ref a :: st) M kc ks := by
  refine r_put (M' := sR M (64 * t + k) (va_up (mR M (64 * t + k)) a (some x))) (Or.inl rfl) w d hc ht hk hfin ?_ ?_ rfl rfl (fun t' k' b hb => fv_of rfl ?_ rfl) ?_ (fun t' b => rfl) kk
  · unfold isR at hy; split at hy <;> first | cases hy | skip
    all_goals (rename_i h; rw [h]; rfl)
  · unfold isR at hy; split at hy <;> first | cases hy | skip
    all_goals (rename_i h; rw [h]; rfl)
  · by_cases hf : 64 * t' + k' = 64 * t + k
    · rw [hf, mR_sR]
      rcases hb with hb | hb
      · simp [va_up, hb]
      · exact absurd hf hb
    · rw [mR_sRn _ _ _ _ hf]
  · rw [fv_R hy, mR_sR]
    simp [va_up, va_rf]
theorem r_putJ {a t k idx : Nat} {x : Int64} (w : Cond.fieldLink mi.1 idx (cR t) (cT t k).2.1 (cT t k).2.2.1 ∈ wG) (d : decode mi.2.1 pc = .ok (.putfield idx, 3)) (hc : mC M a = some (t, 0)) (ht : t < 11 := by decide) (hk : k < cK t := by decide) (hy : cY t k = .long := by rfl)
    (hfin : (cT t k).2.2.2 = false ∨ (mi.2.2.2.2.1 = "<init>" ∧ (cT t k).1 = mi.1) := by decide)
    (kk : SWG G mi R Qf (pc + 3) L st (sJ M (64 * t + k) (va_up (mJ M (64 * t + k)) a x)) kc ks) : SWG G mi R Qf pc L (.long x :: .ref a :: st) M kc ks := by
  refine r_put (M' := sJ M (64 * t + k) (va_up (mJ M (64 * t + k)) a x)) (Or.inl rfl) w d hc ht hk hfin (by rw [hy]; rfl) (by rw [hy]; rfl) rfl rfl (fun t' k' b hb => fv_of rfl rfl ?_) ?_ (fun t' b => rfl) kk
  · by_cases hf : 64 * t' + k' = 64 * t + k
    · rw [hf, mJ_sJ]
      rcases hb with hb | hb
      · simp [va_up, hb]
      · exact absurd hf hb
    · rw [mJ_sJn _ _ _ _ hf]
  · rw [fv_J (by unfold isJ; rw [hy]), mJ_sJ]
    simp [va_up]
end RH1
