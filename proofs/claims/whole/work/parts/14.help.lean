/-! What calls answer, in short. -/
section HELP
variable {G : GC} {mi : MI} {R : Room} {Qf : List Frame → Array Value → State → State → Prop} {pc : Nat} {L : List (Nat × Value)} {st : List Value} {M M0 : Mem} {kc ks : Nat}
/-- the answer e, the memory as it was -/
def rP (e : Int32) (M : Mem) : Option Value → Mem → Prop := fun v M' => v = some (.int e) ∧ M' = M
def rPA (e : Nat) (M : Mem) : Option Value → Mem → Prop := fun v M' => v = some (.ref e) ∧ M' = M
def rPV (M : Mem) : Option Value → Mem → Prop := fun v M' => v = none ∧ M' = M
theorem kP {e : Int32} (h : SWG G mi R Qf pc L (.int e :: st) M kc ks) : ∀ v M', rP e M v M' → SWG G mi R Qf pc L (v.toList ++ st) M' kc ks := by
  rintro v M' ⟨rfl, rfl⟩; exact h
theorem kPA {e : Nat} (h : SWG G mi R Qf pc L (.ref e :: st) M kc ks) : ∀ v M', rPA e M v M' → SWG G mi R Qf pc L (v.toList ++ st) M' kc ks := by
  rintro v M' ⟨rfl, rfl⟩; exact h
theorem kPV (h : SWG G mi R Qf pc L st M kc ks) : ∀ v M', rPV M v M' → SWG G mi R Qf pc L (v.toList ++ st) M' kc ks := by
  rintro v M' ⟨rfl, rfl⟩; exact h
theorem kI {P : Int32 → Mem → Prop} (h : ∀ r M', P r M' → SWG G mi R Qf pc L (.int r :: st) M' kc ks) : ∀ v M', rI P v M' → SWG G mi R Qf pc L (v.toList ++ st) M' kc ks := by
  rintro v M' ⟨r, rfl, h'⟩; exact h r M' h'
theorem kV {P : Mem → Prop} (h : ∀ M', P M' → SWG G mi R Qf pc L st M' kc ks) : ∀ v M', rV P v M' → SWG G mi R Qf pc L (v.toList ++ st) M' kc ks := by
  rintro v M' ⟨rfl, h'⟩; exact h M' h'
theorem kA {P : Nat → Mem → Prop} (h : ∀ r M', P r M' → SWG G mi R Qf pc L (.ref r :: st) M' kc ks) : ∀ v M', rA P v M' → SWG G mi R Qf pc L (v.toList ++ st) M' kc ks := by
  rintro v M' ⟨r, rfl, h'⟩; exact h r M' h'
theorem kJ {P : Int64 → Mem → Prop} (h : ∀ r M', P r M' → SWG G mi R Qf pc L (.long r :: st) M' kc ks) : ∀ v M', rJ P v M' → SWG G mi R Qf pc L (v.toList ++ st) M' kc ks := by
  rintro v M' ⟨r, rfl, h'⟩; exact h r M' h'
theorem kF {P : UInt32 → Mem → Prop} (h : ∀ r M', P r M' → SWG G mi R Qf pc L (.float r :: st) M' kc ks) : ∀ v M', rF P v M' → SWG G mi R Qf pc L (v.toList ++ st) M' kc ks := by
  rintro v M' ⟨r, rfl, h'⟩; exact h r M' h'
theorem kD {P : UInt64 → Mem → Prop} (h : ∀ r M', P r M' → SWG G mi R Qf pc L (.double r :: st) M' kc ks) : ∀ v M', rD P v M' → SWG G mi R Qf pc L (v.toList ++ st) M' kc ks := by
  rintro v M' ⟨r, rfl, h'⟩; exact h r M' h'
def lsub (L : List (Nat × Value)) : List (Nat × Value) → Prop
  | [] => True
  | q :: r => lk L q.1 = some q.2 ∧ lsub L r
theorem lsub_all {L : List (Nat × Value)} : ∀ {L' : List (Nat × Value)}, lsub L L' → ∀ q ∈ L', lk L q.1 = some q.2
  | [], _ => fun q hq => nomatch hq
  | a :: r, h => fun q hq => by
    rcases List.mem_cons.mp hq with e | e
    · rw [e]; exact h.1
    · exact lsub_all h.2 q e
/-- the locals said anew -/
theorem r_loc' {L' : List (Nat × Value)} (k : SWG G mi R Qf pc L' st M kc ks) (hs : lsub L L') : SWG G mi R Qf pc L st M kc ks := r_loc (lsub_all hs) k
theorem r_mmax {idx : Nat} {a b : Int} (w : cwOK mi.1 iJ9_max_7cf53 idx yJ9_max_7cf53 2 ∧ Cond.static yJ9_max_7cf53 ∈ wG) (d : decode mi.2.1 pc = .ok (.invokestatic idx, 3)) (ha : inR a := by (unfold inR; omega)) (hb : inR b := by (unfold inR; omega)) (hR1 : 1 ≤ R.frames ∧ (st.map fun v => v.category).sum + 13 ≤ R.locals := by exact ⟨Nat.le_of_ble_eq_true rfl, Nat.le_of_ble_eq_true rfl⟩) (hm : kc ≤ R.cells ∧ ks ≤ R.slots := by exact ⟨Nat.zero_le _, Nat.zero_le _⟩) {c : Int} (hc : (if a < b then b else a) = c) (k : SWG G mi R Qf (pc + 3) L (.int (iz c) :: st) M kc ks) : SWG G mi R Qf pc L (.int (iz b) :: .int (iz a) :: st) M kc ks := by
  intro p l e s m args below meth c' E ls H locs hl hR hf
  have hts := E.2.2.2.2.1
  refine va_mmax E.1 E.2.1 (E.2.2.1.trans hl.1.symm) E.2.2.2.1 (hts _ w.1.1) (hts _ w.2) (hts _ w.1.2.2.1) (hts _ w.1.2.1) hR1.1 hR1.2 hm.1 hm.2 d ?_
  have e9 : (if iz a < iz b then iz b else iz a) = iz c := by
    rw [← hc]
    by_cases h : a < b
    · rw [if_pos h, if_pos ((iz_lt ha hb).mpr h)]
    · rw [if_neg h, if_neg (fun q => h ((iz_lt ha hb).mp q))]
  rw [e9]
  exact k p l e s m args below meth c' E ls H locs hl hR hf
theorem r_mmin {idx : Nat} {a b : Int} (w : cwOK mi.1 iJ9_min_7cf53 idx yJ9_min_7cf53 2 ∧ Cond.static yJ9_min_7cf53 ∈ wG) (d : decode mi.2.1 pc = .ok (.invokestatic idx, 3)) (ha : inR a := by (unfold inR; omega)) (hb : inR b := by (unfold inR; omega)) (hR1 : 1 ≤ R.frames ∧ (st.map fun v => v.category).sum + 13 ≤ R.locals := by exact ⟨Nat.le_of_ble_eq_true rfl, Nat.le_of_ble_eq_true rfl⟩) (hm : kc ≤ R.cells ∧ ks ≤ R.slots := by exact ⟨Nat.zero_le _, Nat.zero_le _⟩) {c : Int} (hc : (if b < a then b else a) = c) (k : SWG G mi R Qf (pc + 3) L (.int (iz c) :: st) M kc ks) : SWG G mi R Qf pc L (.int (iz b) :: .int (iz a) :: st) M kc ks := by
  intro p l e s m args below meth c' E ls H locs hl hR hf
  have hts := E.2.2.2.2.1
  refine va_mmin E.1 E.2.1 (E.2.2.1.trans hl.1.symm) E.2.2.2.1 (hts _ w.1.1) (hts _ w.2) (hts _ w.1.2.2.1) (hts _ w.1.2.1) hR1.1 hR1.2 hm.1 hm.2 d ?_
  have e9 : (if iz b < iz a then iz b else iz a) = iz c := by
    rw [← hc]
    by_cases h : b < a
    · rw [if_pos h, if_pos ((iz_lt hb ha).mpr h)]
    · rw [if_neg h, if_neg (fun q => h ((iz_lt hb ha).mp q))]
  rw [e9]
  exact k p l e s m args below meth c' E ls H locs hl hR hf
theorem rP_mk (e : Int32) (M : Mem) : rP e M (some (.int e)) M := ⟨rfl, rfl⟩
theorem rP_of {e e' : Int32} {M : Mem} (h : e' = e) : rP e M (some (.int e')) M := ⟨by rw [h], rfl⟩
end HELP
section SAME
/-- the cell b is the same in both memories -/
def Sm (M M' : Mem) (b : Nat) : Prop := mC M' b = mC M b ∧ (∀ f, mI M' f b = mI M f b) ∧ (∀ f, mR M' f b = mR M f b) ∧ (∀ f, mJ M' f b = mJ M f b) ∧ mA M' b = mA M b ∧ mQ M' b = mQ M b ∧ mL M' b = mL M b ∧ mD M' b = mD M b
variable {M M' M'' : Mem} {a b f : Nat}
theorem Sm.rf : Sm M M b := ⟨rfl, fun _ => rfl, fun _ => rfl, fun _ => rfl, rfl, rfl, rfl, rfl⟩
theorem Sm.tr (h : Sm M M' b) (k : Sm M' M'' b) : Sm M M'' b := ⟨k.1.trans h.1, fun f => (k.2.1 f).trans (h.2.1 f), fun f => (k.2.2.1 f).trans (h.2.2.1 f), fun f => (k.2.2.2.1 f).trans (h.2.2.2.1 f), k.2.2.2.2.1.trans h.2.2.2.2.1, k.2.2.2.2.2.1.trans h.2.2.2.2.2.1, k.2.2.2.2.2.2.1.trans h.2.2.2.2.2.2.1, k.2.2.2.2.2.2.2.trans h.2.2.2.2.2.2.2⟩
theorem Sm.n (n : Nat) : Sm M (sN M n) b := Sm.rf
theorem Sm.I {G : Nat → Int32} (h : G b = mI M f b) : Sm M (sI M f G) b := by
  refine ⟨rfl, fun g => ?_, fun _ => rfl, fun _ => rfl, rfl, rfl, rfl, rfl⟩
  by_cases e : g = f
  · rw [e, mI_sI, h]
  · rw [mI_sIn _ _ _ _ e]
theorem Sm.R {G : Nat → Option Nat} (h : G b = mR M f b) : Sm M (sR M f G) b := by
  refine ⟨rfl, fun _ => rfl, fun g => ?_, fun _ => rfl, rfl, rfl, rfl, rfl⟩
  by_cases e : g = f
  · rw [e, mR_sR, h]
  · rw [mR_sRn _ _ _ _ e]
theorem Sm.J {G : Nat → Int64} (h : G b = mJ M f b) : Sm M (sJ M f G) b := by
  refine ⟨rfl, fun _ => rfl, fun _ => rfl, fun g => ?_, rfl, rfl, rfl, rfl⟩
  by_cases e : g = f
  · rw [e, mJ_sJ, h]
  · rw [mJ_sJn _ _ _ _ e]
theorem Sm.Iu {x : Int32} (h : b ≠ a) : Sm M (sI M f (upd (mI M f) a x)) b := Sm.I (by simp [upd, h])
theorem Sm.Ru {x : Option Nat} (h : b ≠ a) : Sm M (sR M f (va_up (mR M f) a x)) b := Sm.R (up_n _ _ h)
theorem Sm.Ju {x : Int64} (h : b ≠ a) : Sm M (sJ M f (va_up (mJ M f) a x)) b := Sm.J (up_n _ _ h)
theorem Sm.A {G : Nat → Int32} (h : b ≠ a) : Sm M (sA M a G) b := ⟨rfl, fun _ => rfl, fun _ => rfl, fun _ => rfl, mA_sAn _ _ _ _ h, rfl, rfl, rfl⟩
theorem Sm.Q {G : Nat → Option Nat} (h : b ≠ a) : Sm M (sQ M a G) b := ⟨rfl, fun _ => rfl, fun _ => rfl, fun _ => rfl, rfl, mQ_sQn _ _ _ _ h, rfl, rfl⟩
theorem Sm.L {G : Nat → Int64} (h : b ≠ a) : Sm M (sL M a G) b := ⟨rfl, fun _ => rfl, fun _ => rfl, fun _ => rfl, rfl, rfl, mL_sLn _ _ _ _ h, rfl⟩
theorem Sm.D {G : Nat → UInt64} (h : b ≠ a) : Sm M (sD M a G) b := ⟨rfl, fun _ => rfl, fun _ => rfl, fun _ => rfl, rfl, rfl, rfl, mD_sDn _ _ _ _ h⟩
theorem Sm.nw {t z : Nat} (h : b ≠ mN M) : Sm M (nw M t z) b := ⟨up_n _ _ h, fun f => if_neg h, fun f => if_neg h, fun f => if_neg h, up_n _ _ h, up_n _ _ h, up_n _ _ h, up_n _ _ h⟩
theorem Sm.c {x : Option (Nat × Nat)} (h : Sm M M' b) (k : mC M b = x) : mC M' b = x := h.1.trans k
theorem Sm.i {x : Int32} (h : Sm M M' b) (k : mI M f b = x) : mI M' f b = x := (h.2.1 f).trans k
theorem Sm.r {x : Option Nat} (h : Sm M M' b) (k : mR M f b = x) : mR M' f b = x := (h.2.2.1 f).trans k
theorem Sm.j {x : Int64} (h : Sm M M' b) (k : mJ M f b = x) : mJ M' f b = x := (h.2.2.2.1 f).trans k
theorem Sm.aa (h : Sm M M' b) : mA M' b = mA M b := h.2.2.2.2.1
theorem Sm.qq (h : Sm M M' b) : mQ M' b = mQ M b := h.2.2.2.2.2.1
theorem Sm.ll (h : Sm M M' b) : mL M' b = mL M b := h.2.2.2.2.2.2.1
theorem Sm.dd (h : Sm M M' b) : mD M' b = mD M b := h.2.2.2.2.2.2.2
theorem nw_c (M : Mem) (t z : Nat) : mC (nw M t z) (mN M) = some (t, z) := up_s _ _ _
theorem nw_n (M : Mem) (t z : Nat) : mN (nw M t z) = mN M + 1 := rfl
theorem nw_i (M : Mem) (t z f : Nat) : mI (nw M t z) f (mN M) = 0 := if_pos rfl
theorem nw_r (M : Mem) (t z f : Nat) : mR (nw M t z) f (mN M) = none := if_pos rfl
theorem nw_a (M : Mem) (t z : Nat) : mA (nw M t z) (mN M) = fun _ => 0 := up_s _ _ _
theorem nw_q (M : Mem) (t z : Nat) : mQ (nw M t z) (mN M) = fun _ => none := up_s _ _ _
theorem nw_l (M : Mem) (t z : Nat) : mL (nw M t z) (mN M) = fun _ => 0 := up_s _ _ _
theorem nw_d (M : Mem) (t z : Nat) : mD (nw M t z) (mN M) = fun _ => 0 := up_s _ _ _
end SAME
