/-! The reference: its small methods. -/
section MD0
variable {G : GC} {mi : MI} {R : Room} {Qf : List Frame → Array Value → State → State → Prop} {pc : Nat} {L : List (Nat × Value)} {st : List Value} {kc ks : Nat}
theorem gm {P : Mem → Prop} {M1 : Mem} (h : P M1) (k : ∀ M', P M' → SWG G mi R Qf pc L st M' kc ks) : SWG G mi R Qf pc L st M1 kc ks := k M1 h
theorem lkI {a b : Int} (h : a = b) : some (Value.int (iz a)) = some (Value.int (iz b)) := by rw [h]
theorem cnt_T {P : Nat → Bool} {i : Nat} (h : P i = true) : ((cnt P (i + 1) : Nat) : Int) = (cnt P i : Int) + 1 := by simp only [cnt, h, if_true]; omega
theorem cnt_F {P : Nat → Bool} {i : Nat} (h : P i = false) : ((cnt P (i + 1) : Nat) : Int) = (cnt P i : Int) + 0 := by simp [cnt, h]
end MD0
section MD1
variable {G : GC} {M : Mem} {Y : Nat → Nat} {σ : St} {T : Nat}
theorem m_fails (hc : mC M (Y 0) = some (9, 0)) (c : Int) : Ht G iX9_fails yX9_fails 2 [.ref (Y 0), .int (iz c)] M (rP (iz 0) (sI M 576 (upd (mI M 576) (Y 0) (iz c)))) nX 0 0 := by
  refine ht_intro (by decide +kernel) rfl rfl rfl (Nat.le_of_ble_eq_true rfl) ?_
  refine r_aload_n dX9_fails_0 rfl ?_
  refine r_iload_n dX9_fails_1 rfl ?_
  refine r_putI qX9_81 dX9_fails_2 hc (kk := ?_)
  refine r_iconst dX9_fails_5 ?_
  exact r_iret dX9_fails_6 (⟨rfl, rfl⟩)
theorem m_isBetween (v a b : Int) (hv : inR v) (ha : inR a) (hb : inR b) : Ht G iX9_isBetween yX9_isBetween 2 [.int (iz v), .int (iz a), .int (iz b)] M (rP (bz (decide (bt2 v a b))) M) nX 0 0 := by
  refine ht_intro (by decide +kernel) rfl rfl rfl (Nat.le_of_ble_eq_true rfl) ?_
  refine r_iload_n dX9_isBetween_0 rfl ?_
  refine r_iload_n dX9_isBetween_1 rfl ?_
  refine r_icmp_gt (tgt := 14) dX9_isBetween_2 (by decide) (kt := fun z2 => ?_) (kf := fun z2 => ?_)
  · refine r_iconst dX9_isBetween_14 ?_
    exact r_iret dX9_isBetween_15 (rP_of (by first | exact bz_d (by omega) | exact bz_nd (by omega)))
  · refine r_iload_n dX9_isBetween_5 rfl ?_
    refine r_iload_n dX9_isBetween_6 rfl ?_
    refine r_icmp_gt (tgt := 14) dX9_isBetween_7 (by decide) (kt := fun z7 => ?_) (kf := fun z7 => ?_)
    · refine r_iconst dX9_isBetween_14 ?_
      exact r_iret dX9_isBetween_15 (rP_of (by first | exact bz_d (by omega) | exact bz_nd (by omega)))
    · refine r_iconst dX9_isBetween_10 ?_
      refine r_goto (tgt := 15) dX9_isBetween_11 (by decide) ?_
      exact r_iret dX9_isBetween_15 (rP_of (by first | exact bz_d (by omega) | exact bz_nd (by omega)))
theorem m_thrown {c : Int32} (hc : mC M (Y 0) = some (9, 0)) (h : mI M 576 (Y 0) = c) : Ht G iX9_thrown yX9_thrown 2 [.ref (Y 0)] M (rP c M) nX 0 0 := by
  refine ht_intro (by decide +kernel) rfl rfl rfl (Nat.le_of_ble_eq_true rfl) ?_
  refine r_aload_n dX9_thrown_0 rfl ?_
  refine r_getI qX9_81 dX9_thrown_1 hc h (kk := ?_)
  exact r_iret dX9_thrown_4 (rP_mk _ _)
theorem m_isStreet (hM : RM M Y σ) (hb : σ.1 1 ≤ 30) (x : Int) (hx : inR x) : Ht G iX9_isStreet yX9_isStreet 4 [.ref (Y 0), .int (iz x)] M (rP (bz (decide (bt2 x 0 (σ.1 1 - 1)))) M) nX 0 0 := by
  refine ht_intro (by decide +kernel) rfl rfl rfl (Nat.le_of_ble_eq_true rfl) ?_
  refine r_iload_n dX9_isStreet_0 rfl ?_
  refine r_iconst dX9_isStreet_1 ?_
  refine r_aload_n dX9_isStreet_2 rfl ?_
  refine r_getI qX9_84 dX9_isStreet_3 hM.o (x := iz (σ.1 1 : Int)) (hM.s 1) (kk := ?_)
  refine r_iconst dX9_isStreet_6 ?_
  refine r_isub dX9_isStreet_7 ?_
  refine r_callS (mi := iX9_isStreet) vX9_87 dX9_isStreet_8 (m_isBetween x 0 (σ.1 1 - 1) hx (by omega) (by omega)) (hm := ⟨by omega, by omega⟩) (k := kP ?_) (kx := r_nox)
  exact r_zret dX9_isStreet_11 (rP_mk _ _)
theorem m_isHouse (hM : RM M Y σ) (hb : σ.1 2 ≤ 30) (x : Int) (hx : inR x) : Ht G iX9_isHouse yX9_isHouse 4 [.ref (Y 0), .int (iz x)] M (rP (bz (decide (bt2 x 0 (σ.1 2 - 1)))) M) nX 0 0 := by
  refine ht_intro (by decide +kernel) rfl rfl rfl (Nat.le_of_ble_eq_true rfl) ?_
  refine r_iload_n dX9_isHouse_0 rfl ?_
  refine r_iconst dX9_isHouse_1 ?_
  refine r_aload_n dX9_isHouse_2 rfl ?_
  refine r_getI qX9_91 dX9_isHouse_3 hM.o (x := iz (σ.1 2 : Int)) (hM.s 2) (kk := ?_)
  refine r_iconst dX9_isHouse_6 ?_
  refine r_isub dX9_isHouse_7 ?_
  refine r_callS (mi := iX9_isHouse) vX9_87 dX9_isHouse_8 (m_isBetween x 0 (σ.1 2 - 1) hx (by omega) (by omega)) (hm := ⟨by omega, by omega⟩) (k := kP ?_) (kx := r_nox)
  exact r_zret dX9_isHouse_11 (rP_mk _ _)
theorem m_isRound (hM : RM M Y σ) (hb : σ.1 3 ≤ 30) (x : Int) (hx : inR x) : Ht G iX9_isRound yX9_isRound 4 [.ref (Y 0), .int (iz x)] M (rP (bz (decide (bt2 x 0 (σ.1 3 - 1)))) M) nX 0 0 := by
  refine ht_intro (by decide +kernel) rfl rfl rfl (Nat.le_of_ble_eq_true rfl) ?_
  refine r_iload_n dX9_isRound_0 rfl ?_
  refine r_iconst dX9_isRound_1 ?_
  refine r_aload_n dX9_isRound_2 rfl ?_
  refine r_getI qX9_94 dX9_isRound_3 hM.o (x := iz (σ.1 3 : Int)) (hM.s 3) (kk := ?_)
  refine r_iconst dX9_isRound_6 ?_
  refine r_isub dX9_isRound_7 ?_
  refine r_callS (mi := iX9_isRound) vX9_87 dX9_isRound_8 (m_isBetween x 0 (σ.1 3 - 1) hx (by omega) (by omega)) (hm := ⟨by omega, by omega⟩) (k := kP ?_) (kx := r_nox)
  exact r_zret dX9_isRound_11 (rP_mk _ _)
theorem m_isPlace (hM : RM M Y σ) (hb : σ.1 0 ≤ 30) (x : Int) (hx : inR x) : Ht G iX9_isPlace yX9_isPlace 4 [.ref (Y 0), .int (iz x)] M (rP (bz (decide (bt2 x 0 (σ.1 0 - 1)))) M) nX 0 0 := by
  refine ht_intro (by decide +kernel) rfl rfl rfl (Nat.le_of_ble_eq_true rfl) ?_
  refine r_iload_n dX9_isPlace_0 rfl ?_
  refine r_iconst dX9_isPlace_1 ?_
  refine r_aload_n dX9_isPlace_2 rfl ?_
  refine r_getI qX9_53 dX9_isPlace_3 hM.o (x := iz (σ.1 0 : Int)) (hM.s 0) (kk := ?_)
  refine r_iconst dX9_isPlace_6 ?_
  refine r_isub dX9_isPlace_7 ?_
  refine r_callS (mi := iX9_isPlace) vX9_87 dX9_isPlace_8 (m_isBetween x 0 (σ.1 0 - 1) hx (by omega) (by omega)) (hm := ⟨by omega, by omega⟩) (k := kP ?_) (kx := r_nox)
  exact r_zret dX9_isPlace_11 (rP_mk _ _)
theorem m_isParcel (hM : RM M Y σ) (hb : σ.1 4 ≤ 30) (x : Int) (hx : inR x) : Ht G iX9_isParcel yX9_isParcel 4 [.ref (Y 0), .int (iz x)] M (rP (bz (decide (bt2 x 0 (σ.1 4 - 1)))) M) nX 0 0 := by
  refine ht_intro (by decide +kernel) rfl rfl rfl (Nat.le_of_ble_eq_true rfl) ?_
  refine r_iload_n dX9_isParcel_0 rfl ?_
  refine r_iconst dX9_isParcel_1 ?_
  refine r_aload_n dX9_isParcel_2 rfl ?_
  refine r_getI qX9_97 dX9_isParcel_3 hM.o (x := iz (σ.1 4 : Int)) (hM.s 4) (kk := ?_)
  refine r_iconst dX9_isParcel_6 ?_
  refine r_isub dX9_isParcel_7 ?_
  refine r_callS (mi := iX9_isParcel) vX9_87 dX9_isParcel_8 (m_isBetween x 0 (σ.1 4 - 1) hx (by omega) (by omega)) (hm := ⟨by omega, by omega⟩) (k := kP ?_) (kx := r_nox)
  exact r_zret dX9_isParcel_11 (rP_mk _ _)
theorem m_addPlace (hM : RM M Y σ) (hO : Ok σ T) : Ht G iX9_addPlace yX9_addPlace 10 [.ref (Y 0)] M (MR Y M (opAddPlace σ)) nX 0 0 := by
  obtain ⟨⟨p1, p2, -⟩, -⟩ := hO
  refine ht_intro (by decide +kernel) rfl rfl rfl (Nat.le_of_ble_eq_true rfl) ?_
  refine r_aload_n dX9_addPlace_0 rfl ?_
  refine r_iconst dX9_addPlace_1 ?_
  refine r_putI qX9_81 dX9_addPlace_2 hM.o (kk := ?_)
  refine gm (P := MP Y M σ 0) (mp0 hM) (fun M1 hP => ?_)
  have hM := hP.1
  refine r_aload_n dX9_addPlace_5 rfl ?_
  refine r_getI qX9_53 dX9_addPlace_6 hM.o (x := iz (σ.1 0 : Int)) (hM.s 0) (kk := ?_)
  refine r_bipush dX9_addPlace_9 (k := ?_)
  refine r_icmp_ne (tgt := 20) dX9_addPlace_11 (by decide) (kt := fun z11 => ?_) (kf := fun z11 => ?_)
  · refine r_aload_n dX9_addPlace_20 rfl ?_
    refine r_dup dX9_addPlace_21 (k := ?_)
    refine r_getI qX9_53 dX9_addPlace_22 hM.o (x := iz (σ.1 0 : Int)) (hM.s 0) (kk := ?_)
    refine r_iconst dX9_addPlace_25 ?_
    refine r_iadd dX9_addPlace_26 ?_
    refine r_putI qX9_53 dX9_addPlace_27 hM.o (kk := ?_)
    refine gm (P := MP Y M (stS σ 0 (σ.1 0 + 1)) 0) ⟨hM.ws 0 (σ.1 0 + 1) rfl (by omega) (fun k h1 h2 i hi => hM.a k i (by have : (stS σ 0 (σ.1 0 + 1)).1 (nOf k) = σ.1 (nOf k) := up_n _ _ (nOf_0 k); omega) h1 h2), (congrFun (mI_sIn _ _ _ _ (by decide)) _).trans hP.2.1, hP.2.2.tr FrM.i⟩ (fun M2 hP => ?_)
    have hM := hP.1
    refine r_aload_n dX9_addPlace_30 rfl ?_
    refine r_getI qX9_53 dX9_addPlace_31 hM.o (x := iz ((σ.1 0 + 1 : Nat) : Int)) (hM.s 0) (kk := ?_)
    refine r_iconst dX9_addPlace_34 ?_
    refine r_isub dX9_addPlace_35 ?_
    exact r_iret dX9_addPlace_36 (mr_of hP (by rw [opAddPlace, if_neg (by omega)]) (fun _ => by show iz (((σ.1 0 + 1 : Nat) : Int) - 1) = _; congr 1; omega))
  · refine r_aload_n dX9_addPlace_14 rfl ?_
    refine r_iconst dX9_addPlace_15 ?_
    refine r_callV (mi := iX9_addPlace) vX9_100 dX9_addPlace_16 hM.o (m_fails hM.o 1) (hm := ⟨by omega, by omega⟩) (k := kP ?_) (kx := r_nox)
    exact r_iret dX9_addPlace_19 (mr_of (mpf hP 1) (by rw [opAddPlace, if_pos (by omega)]) (fun h => absurd h (by decide)))
theorem m_isLight (hM : RM M Y σ) (hO : Ok σ T) (q : Nat) (hq : q < σ.1 4) : Ht G iX9_isLight yX9_isLight 2 [.ref (Y 0), .int (iz (q : Int))] M (rP (bz (light σ q)) M) nX 0 0 := by
  obtain ⟨⟨-, -, -, -, -, p6, p7, -⟩, -, -, -, hQ⟩ := hO
  obtain ⟨a1, a2, a3, a4, a5, a6⟩ := hQ q hq
  refine ht_intro (by decide +kernel) rfl rfl rfl (Nat.le_of_ble_eq_true rfl) ?_
  refine r_aload_n dX9_isLight_0 rfl ?_
  refine r_getR qX9_40 dX9_isLight_1 hM.o (hM.r 11) (kk := ?_)
  refine r_iload_n dX9_isLight_4 rfl ?_
  refine r_iald dX9_isLight_5 (hM.cc 11 11 20) rfl (hM.v 11 _ (hq)) (k := ?_)
  refine r_aload_n dX9_isLight_6 rfl ?_
  refine r_getI qX9_57 dX9_isLight_7 hM.o (x := iz (σ.1 5 : Int)) (hM.s 5) (kk := ?_)
  refine r_icmp_gt (tgt := 26) dX9_isLight_10 (by decide) (kt := fun z10 => ?_) (kf := fun z10 => ?_)
  · refine r_iconst dX9_isLight_26 ?_
    exact r_iret dX9_isLight_27 (rP_of (by first | exact bz_T (by unfold light; simp; omega) | exact bz_F (by unfold light; simp; omega)))
  · refine r_aload_n dX9_isLight_13 rfl ?_
    refine r_getR qX9_50 dX9_isLight_14 hM.o (hM.r 14) (kk := ?_)
    refine r_iload_n dX9_isLight_17 rfl ?_
    refine r_zald dX9_isLight_18 (hM.cc 14 12 20) rfl (hM.v 14 _ (hq)) (k := ?_)
    refine r_if_ne (tgt := 26) dX9_isLight_19 (by decide) (kt := fun z19 => ?_) (kf := fun z19 => ?_)
    · refine r_iconst dX9_isLight_26 ?_
      exact r_iret dX9_isLight_27 (rP_of (by first | exact bz_T (by unfold light; simp; omega) | exact bz_F (by unfold light; simp; omega)))
    · refine r_iconst dX9_isLight_22 ?_
      refine r_goto (tgt := 27) dX9_isLight_23 (by decide) ?_
      exact r_iret dX9_isLight_27 (rP_of (by first | exact bz_T (by unfold light; simp; omega) | exact bz_F (by unfold light; simp; omega)))
theorem m_lights (hM : RM M Y σ) (hO : Ok σ T) (h : Nat) (hh : h < σ.1 2) : Ht G iX9_lights yX9_lights 4 [.ref (Y 0), .int (iz (h : Int))] M (rP (iz (cnt (forH σ h) (σ.1 4) : Int)) M) nX 0 0 := by
  obtain ⟨⟨-, -, -, p3, -, p6, p7, -⟩, -, -, -, hQ⟩ := id hO
  refine ht_intro (by decide +kernel) rfl rfl rfl (Nat.le_of_ble_eq_true rfl) ?_
  have loop : ∀ k i : Nat, i + k = σ.1 4 → SWG G iX9_lights (rmd 4 0 0) (QF G (rP (iz (cnt (forH σ h) (σ.1 4) : Int)) M) nX 0 0) 4 [(3, .int (iz (i : Int))), (2, .int (iz (cnt (forH σ h) i : Int))), (0, .ref (Y 0)), (1, .int (iz (h : Int)))] [] M 0 0 := by
    intro k
    induction k with
    | zero =>
      intro i hi
      have hi2 : i = σ.1 4 := by omega
      subst hi2
      refine r_iload_n dX9_lights_4 rfl ?_
      refine r_aload_n dX9_lights_5 rfl ?_
      refine r_getI qX9_97 dX9_lights_6 hM.o (x := iz (σ.1 4 : Int)) (hM.s 4) (kk := ?_)
      refine r_icmp_ge (tgt := 44) dX9_lights_9 (by decide) (kt := fun z9 => ?_) (kf := fun z9 => (by exfalso; first | omega | simp_all))
      refine r_iload_n dX9_lights_44 rfl ?_
      exact r_iret dX9_lights_45 (rP_mk _ _)
    | succ k ih =>
      intro i hi
      have hq : i < σ.1 4 := by omega
      obtain ⟨a1, a2, a3, a4, a5, a6⟩ := hQ i hq
      refine r_iload_n dX9_lights_4 rfl ?_
      refine r_aload_n dX9_lights_5 rfl ?_
      refine r_getI qX9_97 dX9_lights_6 hM.o (x := iz (σ.1 4 : Int)) (hM.s 4) (kk := ?_)
      refine r_icmp_ge (tgt := 44) dX9_lights_9 (by decide) (kt := fun z9 => (by exfalso; first | omega | simp_all)) (kf := fun z9 => ?_)
      refine r_iload_n dX9_lights_12 rfl ?_
      refine r_aload_n dX9_lights_13 rfl ?_
      refine r_getR qX9_37 dX9_lights_14 hM.o (hM.r 10) (kk := ?_)
      refine r_iload_n dX9_lights_17 rfl ?_
      refine r_iald dX9_lights_18 (hM.cc 10 11 20) rfl (hM.v 10 _ (hq)) (k := ?_)
      refine r_iload_n dX9_lights_19 rfl ?_
      refine r_icmp_ne (tgt := 35) dX9_lights_20 (by decide) (kt := fun z20 => ?_) (kf := fun z20 => ?_)
      · refine r_iconst dX9_lights_35 ?_
        refine r_iadd dX9_lights_36 ?_
        refine r_istore_n dX9_lights_37 (k := ?_)
        refine r_iinc dX9_lights_38 rfl (k := ?_)
        refine r_goto (tgt := 4) dX9_lights_41 (by decide) ?_
        refine r_loc' (ih (i + 1) (by omega)) ⟨rfl, ?_, rfl, rfl, trivial⟩
        first
          | exact lkI (cnt_T (by simp only [forH, Bool.and_eq_true, beq_iff_eq]; exact ⟨by omega, by assumption⟩)).symm
          | exact lkI (cnt_F (by simp only [forH, Bool.and_eq_false_iff, beq_eq_false_iff_ne]; first | exact Or.inl (by omega) | exact Or.inr (by assumption))).symm
      · refine r_aload_n dX9_lights_23 rfl ?_
        refine r_iload_n dX9_lights_24 rfl ?_
        refine r_callV (mi := iX9_lights) vX9_117 dX9_lights_25 hM.o (m_isLight hM hO i hq) (hm := ⟨by omega, by omega⟩) (k := kP ?_) (kx := r_nox)
        refine r_bif_eq (tgt := 35) dX9_lights_28 (by decide) (kt := fun z28 => ?_) (kf := fun z28 => ?_)
        · refine r_iconst dX9_lights_35 ?_
          refine r_iadd dX9_lights_36 ?_
          refine r_istore_n dX9_lights_37 (k := ?_)
          refine r_iinc dX9_lights_38 rfl (k := ?_)
          refine r_goto (tgt := 4) dX9_lights_41 (by decide) ?_
          refine r_loc' (ih (i + 1) (by omega)) ⟨rfl, ?_, rfl, rfl, trivial⟩
          first
            | exact lkI (cnt_T (by simp only [forH, Bool.and_eq_true, beq_iff_eq]; exact ⟨by omega, by assumption⟩)).symm
            | exact lkI (cnt_F (by simp only [forH, Bool.and_eq_false_iff, beq_eq_false_iff_ne]; first | exact Or.inl (by omega) | exact Or.inr (by assumption))).symm
        · refine r_iconst dX9_lights_31 ?_
          refine r_goto (tgt := 36) dX9_lights_32 (by decide) ?_
          refine r_iadd dX9_lights_36 ?_
          refine r_istore_n dX9_lights_37 (k := ?_)
          refine r_iinc dX9_lights_38 rfl (k := ?_)
          refine r_goto (tgt := 4) dX9_lights_41 (by decide) ?_
          refine r_loc' (ih (i + 1) (by omega)) ⟨rfl, ?_, rfl, rfl, trivial⟩
          first
            | exact lkI (cnt_T (by simp only [forH, Bool.and_eq_true, beq_iff_eq]; exact ⟨by omega, by assumption⟩)).symm
            | exact lkI (cnt_F (by simp only [forH, Bool.and_eq_false_iff, beq_eq_false_iff_ne]; first | exact Or.inl (by omega) | exact Or.inr (by assumption))).symm
  refine r_iconst dX9_lights_0 ?_
  refine r_istore_n dX9_lights_1 (k := ?_)
  refine r_iconst dX9_lights_2 ?_
  refine r_istore_n dX9_lights_3 (k := ?_)
  exact r_loc' (loop (σ.1 4) 0 (by omega)) ⟨rfl, rfl, rfl, rfl, trivial⟩
theorem m_isDueNow (hM : RM M Y σ) (hO : Ok σ T) (h : Nat) (hh : h < σ.1 2) : Ht G iX9_isDueNow yX9_isDueNow 6 [.ref (Y 0), .int (iz (h : Int))] M (rP (bz (post σ h)) M) nX 0 0 := by
  obtain ⟨⟨-, -, -, p3, -, p6, p7, -⟩, -, hH, -, -⟩ := id hO
  obtain ⟨a1, a2, a3, a4⟩ := hH h hh
  have hc := cnt_le (forH σ h) (σ.1 4)
  have ha := cnt_any (forH σ h) (σ.1 4)
  refine ht_intro (by decide +kernel) rfl rfl rfl (Nat.le_of_ble_eq_true rfl) ?_
  refine r_aload_n dX9_isDueNow_0 rfl ?_
  refine r_getR qX9_31 dX9_isDueNow_1 hM.o (hM.r 8) (kk := ?_)
  refine r_iload_n dX9_isDueNow_4 rfl ?_
  refine r_iald dX9_isDueNow_5 (hM.cc 8 11 30) rfl (hM.v 8 _ (hO.h8 hh)) (k := ?_)
  refine r_if_gt (tgt := 17) dX9_isDueNow_6 (by decide) (kt := fun z6 => ?_) (kf := fun z6 => ?_)
  · refine r_iconst dX9_isDueNow_17 ?_
    refine r_goto (tgt := 22) dX9_isDueNow_18 (by decide) ?_
    exact r_iret dX9_isDueNow_22 (rP_of (by first | exact bz_T (by unfold post; rw [Bool.or_eq_true, ← ha, decide_eq_true_eq]; omega) | exact bz_F (by unfold post; cases e : any (forH σ h) (σ.1 4) <;> simp_all <;> omega)))
  · refine r_aload_n dX9_isDueNow_9 rfl ?_
    refine r_iload_n dX9_isDueNow_10 rfl ?_
    refine r_callV (mi := iX9_isDueNow) vX9_120 dX9_isDueNow_11 hM.o (m_lights hM hO h hh) (hm := ⟨by omega, by omega⟩) (k := kP ?_) (kx := r_nox)
    refine r_if_le (tgt := 21) dX9_isDueNow_14 (by decide) (kt := fun z14 => ?_) (kf := fun z14 => ?_)
    · refine r_iconst dX9_isDueNow_21 ?_
      exact r_iret dX9_isDueNow_22 (rP_of (by first | exact bz_T (by unfold post; rw [Bool.or_eq_true, ← ha, decide_eq_true_eq]; omega) | exact bz_F (by unfold post; cases e : any (forH σ h) (σ.1 4) <;> simp_all <;> omega)))
    · refine r_iconst dX9_isDueNow_17 ?_
      refine r_goto (tgt := 22) dX9_isDueNow_18 (by decide) ?_
      exact r_iret dX9_isDueNow_22 (rP_of (by first | exact bz_T (by unfold post; rw [Bool.or_eq_true, ← ha, decide_eq_true_eq]; omega) | exact bz_F (by unfold post; cases e : any (forH σ h) (σ.1 4) <;> simp_all <;> omega)))
end MD1
