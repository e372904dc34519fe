/-! The class: its beginning. -/
section IN4
variable {G : GC} {M M1 M2 : Mem}
theorem x_init {w : Nat} (hc : mC M w = some (8, 0)) (hw : w < mN M) (h0 : ∀ f, mI M f w = 0) (hj : ∀ f, mJ M f w = 0) (hE : mC M G.2.2.2 = some (17, 0)) (hEl : G.2.2.2 < mN M) (hD : GD G) : Ht G iX8_init yX8_init 12 [.ref w] M (rV fun M' => XM G M' (C0 G w (mN M)) st0 ∧ mN M' = mN M + 19 ∧ ∀ b, b < mN M → b ≠ w → Sm M M' b) nX 19 3100 := by
  have hEw : G.2.2.2 ≠ w := ne_ty hE hc (by decide)
  have b1 : Bn M M w 0 := ⟨rfl, fun _ _ _ => Sm.rf, rfl, fun _ => rfl, fun _ => rfl⟩
  have hL : LPs G w (mN M) 0 M := fun j hj => absurd hj (Nat.not_lt_zero j)
  refine ht_intro (by decide +kernel) rfl rfl rfl (Nat.le_of_ble_eq_true rfl) ?_
  refine r_aload_n dX8_init_0 rfl ?_
  refine r_oinit vX8_1 dX8_init_1 (k := ?_)
  have hn1 : mN M = mN M + 0 := rfl
  have hw1 : w < mN M := hw
  have hE1 : mC M G.2.2.2 = some (17, 0) := hE
  refine r_aload_n dX8_init_4 rfl ?_
  refine r_new nX8_7 dX8_init_5 (hm := ⟨by decide, by decide⟩) (k := fun hlt hgb => ?_)
  refine r_dup dX8_init_8 (k := ?_)
  refine r_callI (mi := iX8_init) vX8_9 dX8_init_9 (c_listInit (nw_c M 10 0) ((nw_i M 10 0 642).trans iz_0) ((Sm.nw (show G.2.2.2 ≠ mN M by omega)).c hE1)) (hm := by first | exact ⟨Nat.le_of_ble_eq_true rfl, Nat.le_of_ble_eq_true rfl⟩ | (constructor <;> simp only [rmd] <;> omega)) (k := kV (fun N1 h1 => ?_)) (kx := r_nox)
  refine r_putR qX8_10 dX8_init_12 (((Sm.nw (Nat.ne_of_lt hw1)).tr (h1.2.2.2 w (Nat.ne_of_lt hw1))).c (b1.2.2.1.trans hc)) (kk := ?_)
  refine gm (P := fun M19 => Bn M M19 w 1 ∧ LPs G w (mN M) 1 M19) ((fun h => by
    obtain ⟨b2, g2, r2, ro⟩ := h
    exact ⟨b1.tr b2, (hL.keep b2 (by omega) hw (by omega) hEw (fun f hf => ro f (by omega))).add g2 r2⟩) (bn_list hw1 hn1 (f := 512) (by decide) h1)) (fun M19 hP => ?_)
  obtain ⟨b1, hL⟩ := hP
  have hn1 : mN M19 = mN M + 1 := b1.1
  have hw1 : w < mN M19 := by omega
  have hE1 : mC M19 G.2.2.2 = some (17, 0) := (b1.2.1 _ hEl hEw).c hE
  refine r_aload_n dX8_init_15 rfl ?_
  refine r_new nX8_7 dX8_init_16 (hm := ⟨by decide, by decide⟩) (k := fun hlt hgb => ?_)
  refine r_dup dX8_init_19 (k := ?_)
  refine r_callI (mi := iX8_init) vX8_9 dX8_init_20 (c_listInit (nw_c M19 10 0) ((nw_i M19 10 0 642).trans iz_0) ((Sm.nw (show G.2.2.2 ≠ mN M19 by omega)).c hE1)) (hm := by first | exact ⟨Nat.le_of_ble_eq_true rfl, Nat.le_of_ble_eq_true rfl⟩ | (constructor <;> simp only [rmd] <;> omega)) (k := kV (fun N2 h1 => ?_)) (kx := r_nox)
  refine r_putR qX8_16 dX8_init_23 (((Sm.nw (Nat.ne_of_lt hw1)).tr (h1.2.2.2 w (Nat.ne_of_lt hw1))).c (b1.2.2.1.trans hc)) (kk := ?_)
  refine gm (P := fun M29 => Bn M M29 w 2 ∧ LPs G w (mN M) 2 M29) ((fun h => by
    obtain ⟨b2, g2, r2, ro⟩ := h
    exact ⟨b1.tr b2, (hL.keep b2 (by omega) hw (by omega) hEw (fun f hf => ro f (by omega))).add g2 r2⟩) (bn_list hw1 hn1 (f := 513) (by decide) h1)) (fun M29 hP => ?_)
  obtain ⟨b1, hL⟩ := hP
  have hn1 : mN M29 = mN M + 2 := b1.1
  have hw1 : w < mN M29 := by omega
  have hE1 : mC M29 G.2.2.2 = some (17, 0) := (b1.2.1 _ hEl hEw).c hE
  refine r_aload_n dX8_init_26 rfl ?_
  refine r_new nX8_7 dX8_init_27 (hm := ⟨by decide, by decide⟩) (k := fun hlt hgb => ?_)
  refine r_dup dX8_init_30 (k := ?_)
  refine r_callI (mi := iX8_init) vX8_9 dX8_init_31 (c_listInit (nw_c M29 10 0) ((nw_i M29 10 0 642).trans iz_0) ((Sm.nw (show G.2.2.2 ≠ mN M29 by omega)).c hE1)) (hm := by first | exact ⟨Nat.le_of_ble_eq_true rfl, Nat.le_of_ble_eq_true rfl⟩ | (constructor <;> simp only [rmd] <;> omega)) (k := kV (fun N3 h1 => ?_)) (kx := r_nox)
  refine r_putR qX8_19 dX8_init_34 (((Sm.nw (Nat.ne_of_lt hw1)).tr (h1.2.2.2 w (Nat.ne_of_lt hw1))).c (b1.2.2.1.trans hc)) (kk := ?_)
  refine gm (P := fun M39 => Bn M M39 w 3 ∧ LPs G w (mN M) 3 M39) ((fun h => by
    obtain ⟨b2, g2, r2, ro⟩ := h
    exact ⟨b1.tr b2, (hL.keep b2 (by omega) hw (by omega) hEw (fun f hf => ro f (by omega))).add g2 r2⟩) (bn_list hw1 hn1 (f := 514) (by decide) h1)) (fun M39 hP => ?_)
  obtain ⟨b1, hL⟩ := hP
  have hn1 : mN M39 = mN M + 3 := b1.1
  have hw1 : w < mN M39 := by omega
  have hE1 : mC M39 G.2.2.2 = some (17, 0) := (b1.2.1 _ hEl hEw).c hE
  refine r_aload_n dX8_init_37 rfl ?_
  refine r_new nX8_7 dX8_init_38 (hm := ⟨by decide, by decide⟩) (k := fun hlt hgb => ?_)
  refine r_dup dX8_init_41 (k := ?_)
  refine r_callI (mi := iX8_init) vX8_9 dX8_init_42 (c_listInit (nw_c M39 10 0) ((nw_i M39 10 0 642).trans iz_0) ((Sm.nw (show G.2.2.2 ≠ mN M39 by omega)).c hE1)) (hm := by first | exact ⟨Nat.le_of_ble_eq_true rfl, Nat.le_of_ble_eq_true rfl⟩ | (constructor <;> simp only [rmd] <;> omega)) (k := kV (fun N4 h1 => ?_)) (kx := r_nox)
  refine r_putR qX8_22 dX8_init_45 (((Sm.nw (Nat.ne_of_lt hw1)).tr (h1.2.2.2 w (Nat.ne_of_lt hw1))).c (b1.2.2.1.trans hc)) (kk := ?_)
  refine gm (P := fun M49 => Bn M M49 w 4 ∧ LPs G w (mN M) 4 M49) ((fun h => by
    obtain ⟨b2, g2, r2, ro⟩ := h
    exact ⟨b1.tr b2, (hL.keep b2 (by omega) hw (by omega) hEw (fun f hf => ro f (by omega))).add g2 r2⟩) (bn_list hw1 hn1 (f := 515) (by decide) h1)) (fun M49 hP => ?_)
  obtain ⟨b1, hL⟩ := hP
  have hn1 : mN M49 = mN M + 4 := b1.1
  have hw1 : w < mN M49 := by omega
  have hE1 : mC M49 G.2.2.2 = some (17, 0) := (b1.2.1 _ hEl hEw).c hE
  refine r_aload_n dX8_init_48 rfl ?_
  refine r_new nX8_25 dX8_init_49 (hm := ⟨by decide, by decide⟩) (k := fun hlt hgb => ?_)
  refine r_dup dX8_init_52 (k := ?_)
  refine r_callI (mi := iX8_init) vX8_27 dX8_init_53 (x_initWays (nw_c M49 7 0) (Nat.lt_succ_self _)) (hm := by first | exact ⟨Nat.le_of_ble_eq_true rfl, Nat.le_of_ble_eq_true rfl⟩ | (constructor <;> simp only [rmd] <;> omega)) (k := kV (fun N5 h1 => ?_)) (kx := r_nox)
  obtain ⟨bW, ⟨q1, q2, q3⟩, g1, g2, g3, v1, v2⟩ := h1
  have e5 : mN (nw M49 7 0) = mN M + 5 := by rw [nw_n, hn1]
  rw [e5] at q1 q2 q3 g1 g2 g3 v1 v2
  refine r_putR qX8_28 dX8_init_56 (((Sm.nw (Nat.ne_of_lt hw1)).tr (bW.2.1 w (Nat.lt_succ_of_lt hw1) (Nat.ne_of_lt hw1))).c (b1.2.2.1.trans hc)) (kk := ?_)
  refine gm (P := fun M59 => Bn M M59 w 11 ∧ LPs G w (mN M) 4 M59 ∧ mR M59 516 w = some (mN M + 4) ∧ WQ (mN M) M59) ((fun h => by
    obtain ⟨b2, c2, r2, ro, sb⟩ := h
    have hc5 := bW.2.2.1.trans (nw_c M49 7 0)
    rw [hn1] at q1 q2 q3 hc5
    exact ⟨b1.tr b2, hL.keep b2 (by omega) hw (by omega) hEw (fun f hf => ro f (by omega)), r2, WQ.sm (M1 := N5) ⟨hc5, ⟨q1, q2, q3⟩, g1, g2, g3, v1, v2⟩ (fun b hb _ => sb b (by omega))⟩) (bn_obj hw1 hn1 (f := 516) bW)) (fun M59 hP => ?_)
  obtain ⟨b1, hL, r4, hW⟩ := hP
  have hn1 : mN M59 = mN M + 11 := b1.1
  have hw1 : w < mN M59 := by omega
  have hE1 : mC M59 G.2.2.2 = some (17, 0) := (b1.2.1 _ hEl hEw).c hE
  have sn6 : ∀ b, b < mN M59 → Sm M59 (nw M59 6 0) b := fun b hb => Sm.nw (Nat.ne_of_lt hb)
  refine r_aload_n dX8_init_59 rfl ?_
  refine r_new nX8_32 dX8_init_60 (hm := ⟨by decide, by decide⟩) (k := fun hlt hgb => ?_)
  refine r_dup dX8_init_63 (k := ?_)
  refine r_aload_n dX8_init_64 rfl ?_
  refine r_getR qX8_28 dX8_init_65 ((sn6 w hw1).c (b1.2.2.1.trans hc)) ((sn6 w hw1).r r4) (kk := ?_)
  refine r_callI (mi := iX8_init) vX8_34 dX8_init_68 (x_initWalk (nw_c M59 6 0) (Nat.lt_succ_self _) ((sn6 _ (by omega)).c hE1) (show G.2.2.2 < mN M59 + 1 by omega)) (hm := by first | exact ⟨Nat.le_of_ble_eq_true rfl, Nat.le_of_ble_eq_true rfl⟩ | (constructor <;> simp only [rmd] <;> omega)) (k := kV (fun N6 h1 => ?_)) (kx := r_nox)
  obtain ⟨bK, hK⟩ := h1
  have e6 : mN (nw M59 6 0) = mN M + 12 := by rw [nw_n, hn1]
  rw [e6] at hK
  refine r_putR qX8_37 dX8_init_71 (((Sm.nw (Nat.ne_of_lt hw1)).tr (bK.2.1 w (Nat.lt_succ_of_lt hw1) (Nat.ne_of_lt hw1))).c (b1.2.2.1.trans hc)) (kk := ?_)
  refine gm (P := fun M69 => Bn M M69 w 17 ∧ LPs G w (mN M) 4 M69 ∧ mR M69 516 w = some (mN M + 4) ∧ WQ (mN M) M69 ∧ mR M69 517 w = some (mN M + 11) ∧ mC M69 (mN M + 11) = some (6, 0) ∧ KQ G (mN M + 4) (mN M + 12) (mN M + 11) M69) ((fun h => by
    obtain ⟨b2, c2, r2, ro, sb⟩ := h
    rw [hn1] at hK
    exact ⟨b1.tr b2, hL.keep b2 (by omega) hw (by omega) hEw (fun f hf => ro f (by omega)), (ro 516 (by decide)).trans r4, hW.sm (fun b h3 h4 => b2.2.1 b (by omega) (by omega)), r2, c2, hK.sm (sb _ (by omega)) (sb _ hEw) (fun b h3 _ => sb b (by omega))⟩) (bn_obj hw1 hn1 (f := 517) bK)) (fun M69 hP => ?_)
  obtain ⟨b1, hL, r4, hW, r5, hK1, hK⟩ := hP
  have hn1 : mN M69 = mN M + 17 := b1.1
  have hw1 : w < mN M69 := by omega
  refine r_aload_n dX8_init_74 rfl ?_
  refine r_new nX8_41 dX8_init_75 (hm := ⟨by decide, by decide⟩) (k := fun hlt hgb => ?_)
  refine r_dup dX8_init_78 (k := ?_)
  refine r_iconst dX8_init_79 ?_
  refine r_iconst dX8_init_80 ?_
  refine r_callI (mi := iX8_init) vX8_43 dX8_init_81 (x_initG (nw_c M69 0 0) (Nat.lt_succ_self _) (m := 4) (n := 4) (by decide) (by decide) (mn := 16) rfl) (hm := by first | exact ⟨Nat.le_of_ble_eq_true rfl, Nat.le_of_ble_eq_true rfl⟩ | (constructor <;> simp only [rmd] <;> omega)) (k := kV (fun N7 h1 => ?_)) (kx := r_nox)
  refine r_putR qX8_46 dX8_init_84 (((Sm.nw (Nat.ne_of_lt hw1)).tr (h1.2.2.1 w (Nat.lt_succ_of_lt hw1) (Nat.ne_of_lt hw1))).c (b1.2.2.1.trans hc)) (kk := ?_)
  refine gm (P := fun M79 => Bn M M79 w 19 ∧ LPs G w (mN M) 4 M79 ∧ mR M79 516 w = some (mN M + 4) ∧ WQ (mN M) M79 ∧ mR M79 517 w = some (mN M + 11) ∧ mC M79 (mN M + 11) = some (6, 0) ∧ KQ G (mN M + 4) (mN M + 12) (mN M + 11) M79 ∧ mR M79 518 w = some (mN M + 17) ∧ GR M79 (mN M + 17) (mN M + 18) 4 4) ((fun h => by
    obtain ⟨b2, g2, -, r2, ro⟩ := h
    exact ⟨b1.tr b2, hL.keep b2 (by omega) hw (by omega) hEw (fun f hf => ro f (by omega)), (ro 516 (by decide)).trans r4, hW.sm (fun b h3 h4 => b2.2.1 b (by omega) (by omega)), (ro 517 (by decide)).trans r5, (b2.2.1 _ (by omega) (by omega)).c hK1, hK.sm (b2.2.1 _ (by omega) (by omega)) (b2.2.1 _ (by omega) hEw) (fun b h3 h4 => b2.2.1 b (by omega) (by omega)), r2, g2⟩) (bn_grid hw1 hn1 (f := 518) (by decide) h1)) (fun M79 hP => ?_)
  obtain ⟨b1, hL, r4, hW, r5, hK1, hK, r6, hG⟩ := hP
  have hc9 : mC M79 w = some (8, 0) := b1.2.2.1.trans hc
  refine r_aload_n dX8_init_87 rfl ?_
  refine r_iconst dX8_init_88 ?_
  refine r_putI qX8_50 dX8_init_89 hc9 (kk := ?_)
  refine r_aload_n dX8_init_92 rfl ?_
  refine r_iconst dX8_init_93 ?_
  refine r_putI qX8_54 dX8_init_94 hc9 (kk := ?_)
  have sA : ∀ b, b ≠ w → Sm M79 (sI (sI M79 519 (upd (mI M79 519) w (iz 1))) 520 (upd (mI (sI M79 519 (upd (mI M79 519) w (iz 1))) 520) w (iz 5))) b := fun b hb => (Sm.Iu hb).tr (Sm.Iu hb)
  refine gm (P := fun M9 => (∀ b, b ≠ w → Sm M79 M9 b) ∧ mN M9 = mN M79 ∧ mC M9 = mC M79 ∧ mR M9 = mR M79 ∧ mJ M9 = mJ M79 ∧ mI M9 519 w = iz 1 ∧ mI M9 520 w = iz 5 ∧ ∀ f, f ≠ 519 → f ≠ 520 → mI M9 f w = mI M79 f w) ⟨sA, rfl, rfl, rfl, rfl, (sI_n (by decide)).trans (sI_at _ _ _), sI_at _ _ _, fun f h1 h2 => (sI_n h2).trans (sI_n h1)⟩ (fun M9 hP => ?_)
  obtain ⟨s9, n9, c9, t9, j9, i1, i2, i3⟩ := hP
  exact r_vret dX8_init_97 ⟨rfl, xm0 hD hw ((congrFun c9 w).trans hc9) i1 i2 ((i3 521 (by decide) (by decide)).trans ((b1.2.2.2.1 521).trans (h0 521))) ((i3 522 (by decide) (by decide)).trans ((b1.2.2.2.1 522).trans (h0 522))) ((i3 523 (by decide) (by decide)).trans ((b1.2.2.2.1 523).trans (h0 523))) ((by rw [j9]; exact b1.2.2.2.2 524 : mJ M9 524 w = mJ M 524 w).trans (hj 524)) (fun j hj => ⟨(hL j hj).1.sm (s9 _ (by omega)) (s9 _ hEw), (by rw [t9]; exact (hL j hj).2)⟩) (by rw [t9]; exact r4) (by rw [t9]; exact r5) (by rw [t9]; exact r6) (hW.sm (fun b h3 _ => s9 b (by omega))) (by rw [c9]; exact hK1) (hK.sm (s9 _ (by omega)) (s9 _ hEw) (fun b h3 _ => s9 b (by omega))) (hG.sm (s9 _ (by omega)) (s9 _ (by omega))), n9.trans b1.1, fun b hb hne => (b1.2.1 b hb hne).tr (s9 b hne)⟩ (hm := ⟨Nat.le_of_ble_eq_true rfl, Nat.le_of_ble_eq_true rfl⟩)
end IN4
