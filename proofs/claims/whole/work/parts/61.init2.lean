/-! The class: how its walk begins. -/
section IN2
variable {G : GC} {M M1 M2 : Mem}
theorem bn_put {w f : Nat} (v : Option Nat) : Bn M (sR M f (va_up (mR M f) w v)) w 0 ∧ mR (sR M f (va_up (mR M f) w v)) f w = v ∧ ∀ f', f' ≠ f → mR (sR M f (va_up (mR M f) w v)) f' w = mR M f' w :=
  ⟨⟨rfl, fun b _ hne => Sm.Ru hne, rfl, fun _ => rfl, fun _ => rfl⟩, by rw [mR_sR]; exact up_s _ _ _, fun f' hf' => congrFun (mR_sRn _ _ _ _ hf') _⟩
theorem bn_row {w f n0 N : Nat} (hw : w < mN M) (hn0 : mN M = n0) : Bn M (sR (nw M 11 N) f (va_up (mR (nw M 11 N) f) w (some (mN M)))) w 1 ∧ mC (sR (nw M 11 N) f (va_up (mR (nw M 11 N) f) w (some (mN M)))) n0 = some (11, N) ∧ mR (sR (nw M 11 N) f (va_up (mR (nw M 11 N) f) w (some (mN M)))) f w = some n0 ∧ ∀ f', f' ≠ f → mR (sR (nw M 11 N) f (va_up (mR (nw M 11 N) f) w (some (mN M)))) f' w = mR M f' w := by
  subst hn0
  have sb : ∀ b, b < mN M → Sm M (nw M 11 N) b := fun b hb => Sm.nw (Nat.ne_of_lt hb)
  refine ⟨⟨rfl, fun b hb hne => (sb b hb).tr (Sm.Ru hne), (sb w hw).1, (sb w hw).2.1, (sb w hw).2.2.2.1⟩, nw_c M 11 N, ?_, fun f' hf' => ?_⟩
  · rw [mR_sR]; exact up_s _ _ _
  · exact (congrFun (mR_sRn _ _ _ _ hf') _).trans ((sb w hw).2.2.1 f')
theorem bn_obj {w f n0 k t : Nat} (hw : w < mN M) (hn0 : mN M = n0) (h : Bn (nw M t 0) M2 (mN M) k) : Bn M (sR M2 f (va_up (mR M2 f) w (some (mN M)))) w (1 + k) ∧ mC (sR M2 f (va_up (mR M2 f) w (some (mN M)))) n0 = some (t, 0) ∧ mR (sR M2 f (va_up (mR M2 f) w (some (mN M)))) f w = some n0 ∧ (∀ f', f' ≠ f → mR (sR M2 f (va_up (mR M2 f) w (some (mN M)))) f' w = mR M f' w) ∧ ∀ b, b ≠ w → Sm M2 (sR M2 f (va_up (mR M2 f) w (some (mN M)))) b := by
  subst hn0
  have sb : ∀ b, b < mN M → Sm M M2 b := fun b hb => (Sm.nw (Nat.ne_of_lt hb)).tr (h.2.1 b (Nat.lt_succ_of_lt hb) (Nat.ne_of_lt hb))
  refine ⟨⟨?_, fun b hb hne => (sb b hb).tr (Sm.Ru hne), (sb w hw).1, (sb w hw).2.1, (sb w hw).2.2.2.1⟩, h.2.2.1.trans (nw_c M t 0), ?_, fun f' hf' => ?_, fun b hb => Sm.Ru hb⟩
  · have := h.1
    show mN M2 = _
    rw [this, nw_n, Nat.add_assoc]
  · rw [mR_sR]; exact up_s _ _ _
  · exact (congrFun (mR_sRn _ _ _ _ hf') _).trans ((sb w hw).2.2.1 f')
/-- the walk's cells -/
def KQ (G : GC) (v n : Nat) (w : Nat) (M' : Mem) : Prop := (mR M' 384 w = some v ∧ mR M' 385 w = some n ∧ mR M' 386 w = some (n + 1) ∧ mR M' 387 w = some (n + 3) ∧ mR M' 388 w = some (n + 4)) ∧ LL G M' n G.2.2.2 0 0 ∧ GR M' (n + 1) (n + 2) 256 10 ∧ LL G M' (n + 3) G.2.2.2 0 0 ∧ mC M' (n + 4) = some (11, 90)
theorem x_initWalk {w v : Nat} (hc : mC M w = some (6, 0)) (hw : w < mN M) (hE : mC M G.2.2.2 = some (17, 0)) (hEl : G.2.2.2 < mN M) : Ht G iX6_init yX6_init 8 [.ref w, .ref v] M (rV fun M' => Bn M M' w 5 ∧ KQ G v (mN M) w M') nX 5 2700 := by
  have hEw : G.2.2.2 ≠ w := ne_ty hE hc (by decide)
  refine ht_intro (by decide +kernel) rfl rfl rfl (Nat.le_of_ble_eq_true rfl) ?_
  refine r_aload_n dX6_init_0 rfl ?_
  refine r_oinit vX6_3 dX6_init_1 (k := ?_)
  refine r_aload_n dX6_init_4 rfl ?_
  refine r_aload_n dX6_init_5 rfl ?_
  refine r_putR qX6_9 dX6_init_6 hc (kk := ?_)
  refine gm (P := fun M1 => Bn M M1 w 0 ∧ mR M1 384 w = some v) ((fun h => ⟨h.1, h.2.1⟩) (bn_put (some v))) (fun M1 hP => ?_)
  obtain ⟨b1, r0⟩ := hP
  have hn1 : mN M1 = mN M := b1.1
  have hw1 : w < mN M1 := by omega
  have hE1 : mC M1 G.2.2.2 = some (17, 0) := (b1.2.1 _ hEl hEw).c hE
  refine r_aload_n dX6_init_9 rfl ?_
  refine r_new nX6_15 dX6_init_10 (hm := ⟨by decide, by decide⟩) (k := fun hlt hgb => ?_)
  refine r_dup dX6_init_13 (k := ?_)
  refine r_callI (mi := iX6_init) vX6_17 dX6_init_14 (c_listInit (nw_c M1 10 0) ((nw_i M1 10 0 642).trans iz_0) ((Sm.nw (show G.2.2.2 ≠ mN M1 by omega)).c hE1)) (hm := by first | exact ⟨Nat.le_of_ble_eq_true rfl, Nat.le_of_ble_eq_true rfl⟩ | (constructor <;> simp only [rmd] <;> omega)) (k := kV (fun M2 h1 => ?_)) (kx := r_nox)
  refine r_putR qX6_18 dX6_init_17 (((Sm.nw (Nat.ne_of_lt hw1)).tr (h1.2.2.2 w (Nat.ne_of_lt hw1))).c (b1.2.2.1.trans hc)) (kk := ?_)
  refine gm (P := fun M3 => Bn M M3 w 1 ∧ mR M3 384 w = some v ∧ mR M3 385 w = some (mN M) ∧ LL G M3 (mN M) G.2.2.2 0 0) ((fun h => by
    obtain ⟨b2, g2, r2, ro⟩ := h
    exact ⟨b1.tr b2, (ro 384 (by decide)).trans r0, r2, g2⟩) (bn_list hw1 hn1 (f := 385) (by decide) h1)) (fun M3 hP => ?_)
  obtain ⟨b1, r0, r1, l1⟩ := hP
  have hn3 : mN M3 = mN M + 1 := b1.1
  have hw3 : w < mN M3 := by omega
  refine r_aload_n dX6_init_20 rfl ?_
  refine r_new nX6_22 dX6_init_21 (hm := ⟨by decide, by decide⟩) (k := fun hlt hgb => ?_)
  refine r_dup dX6_init_24 (k := ?_)
  refine r_sipush dX6_init_25 (k := ?_)
  refine r_bipush dX6_init_28 (k := ?_)
  refine r_callI (mi := iX6_init) vX6_24 dX6_init_30 (x_initG (nw_c M3 0 0) (Nat.lt_succ_self _) (m := 256) (n := 10) (by decide) (by decide) (mn := 2560) rfl) (hm := by first | exact ⟨Nat.le_of_ble_eq_true rfl, Nat.le_of_ble_eq_true rfl⟩ | (constructor <;> simp only [rmd] <;> omega)) (k := kV (fun M4 h1 => ?_)) (kx := r_nox)
  refine r_putR qX6_27 dX6_init_33 (((Sm.nw (Nat.ne_of_lt hw3)).tr (h1.2.2.1 w (Nat.lt_succ_of_lt hw3) (Nat.ne_of_lt hw3))).c (b1.2.2.1.trans hc)) (kk := ?_)
  refine gm (P := fun M5 => Bn M M5 w 3 ∧ mR M5 384 w = some v ∧ mR M5 385 w = some (mN M) ∧ mR M5 386 w = some (mN M + 1) ∧ LL G M5 (mN M) G.2.2.2 0 0 ∧ GR M5 (mN M + 1) (mN M + 2) 256 10) ((fun h => by
    obtain ⟨b2, g2, -, r2, ro⟩ := h
    exact ⟨b1.tr b2, (ro 384 (by decide)).trans r0, (ro 385 (by decide)).trans r1, r2, l1.sm (b2.2.1 _ (by omega) (by omega)) (b2.2.1 _ (by omega) hEw), g2⟩) (bn_grid hw3 hn3 (f := 386) (by decide) h1)) (fun M5 hP => ?_)
  obtain ⟨b1, r0, r1, r2, l1, g1⟩ := hP
  have hn5 : mN M5 = mN M + 3 := b1.1
  have hw5 : w < mN M5 := by omega
  have hE5 : mC M5 G.2.2.2 = some (17, 0) := (b1.2.1 _ hEl hEw).c hE
  refine r_aload_n dX6_init_36 rfl ?_
  refine r_new nX6_15 dX6_init_37 (hm := ⟨by decide, by decide⟩) (k := fun hlt hgb => ?_)
  refine r_dup dX6_init_40 (k := ?_)
  refine r_callI (mi := iX6_init) vX6_17 dX6_init_41 (c_listInit (nw_c M5 10 0) ((nw_i M5 10 0 642).trans iz_0) ((Sm.nw (show G.2.2.2 ≠ mN M5 by omega)).c hE5)) (hm := by first | exact ⟨Nat.le_of_ble_eq_true rfl, Nat.le_of_ble_eq_true rfl⟩ | (constructor <;> simp only [rmd] <;> omega)) (k := kV (fun M6 h1 => ?_)) (kx := r_nox)
  refine r_putR qX6_31 dX6_init_44 (((Sm.nw (Nat.ne_of_lt hw5)).tr (h1.2.2.2 w (Nat.ne_of_lt hw5))).c (b1.2.2.1.trans hc)) (kk := ?_)
  refine gm (P := fun M7 => Bn M M7 w 4 ∧ mR M7 384 w = some v ∧ mR M7 385 w = some (mN M) ∧ mR M7 386 w = some (mN M + 1) ∧ mR M7 387 w = some (mN M + 3) ∧ LL G M7 (mN M) G.2.2.2 0 0 ∧ GR M7 (mN M + 1) (mN M + 2) 256 10 ∧ LL G M7 (mN M + 3) G.2.2.2 0 0) ((fun h => by
    obtain ⟨b2, g2, r3, ro⟩ := h
    exact ⟨b1.tr b2, (ro 384 (by decide)).trans r0, (ro 385 (by decide)).trans r1, (ro 386 (by decide)).trans r2, r3, l1.sm (b2.2.1 _ (by omega) (by omega)) (b2.2.1 _ (by omega) hEw), g1.sm (b2.2.1 _ (by omega) (by omega)) (b2.2.1 _ (by omega) (by omega)), g2⟩) (bn_list hw5 hn5 (f := 387) (by decide) h1)) (fun M7 hP => ?_)
  obtain ⟨b1, r0, r1, r2, r3, l1, g1, l2⟩ := hP
  have hn7 : mN M7 = mN M + 4 := b1.1
  have hw7 : w < mN M7 := by omega
  refine r_aload_n dX6_init_47 rfl ?_
  refine r_bipush dX6_init_48 (k := ?_)
  refine r_newa (aty := .int) (t := 11) (N := 90) wA_int dX6_init_50 rfl (hm := ⟨by decide, by decide⟩) (k := fun hlt hgb => ?_)
  refine r_putR qX6_34 dX6_init_52 ((Sm.nw (Nat.ne_of_lt hw7)).c (b1.2.2.1.trans hc)) (kk := ?_)
  refine gm (P := fun M9 => Bn M M9 w 5 ∧ KQ G v (mN M) w M9) ((fun h => by
    obtain ⟨b2, c2, r4, ro⟩ := h
    exact ⟨b1.tr b2, ⟨(ro 384 (by decide)).trans r0, (ro 385 (by decide)).trans r1, (ro 386 (by decide)).trans r2, (ro 387 (by decide)).trans r3, r4⟩, l1.sm (b2.2.1 _ (by omega) (by omega)) (b2.2.1 _ (by omega) hEw), g1.sm (b2.2.1 _ (by omega) (by omega)) (b2.2.1 _ (by omega) (by omega)), l2.sm (b2.2.1 _ (by omega) (by omega)) (b2.2.1 _ (by omega) hEw), c2⟩) (bn_row (f := 388) (N := 90) hw7 hn7)) (fun M9 hP => ?_)
  exact r_vret dX6_init_55 ⟨rfl, hP⟩ (hm := ⟨Nat.le_of_ble_eq_true rfl, Nat.le_of_ble_eq_true rfl⟩)
end IN2
