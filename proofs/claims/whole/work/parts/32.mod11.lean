/-! The reference: the best merge, parcels and the van, shares. -/
section MD11
variable {G : GC} {M M0 : Mem} {Y : Nat → Nat} {σ : St} {T : Nat} {Qf : List Frame → Array Value → State → State → Prop}
theorem best_in (hO : Ok σ T) (a : Nat) (ha : a < σ.1 3) (t0 : Int × Int) (ht0 : bmOk t0) (kk : ∀ M1, RM M1 Y σ ∧ FrM Y M0 M1 → SWG G iX9_bestMerge (rmd 13 0 0) Qf 88 [(3, .int (iz (a : Int))), (2, .int (iz (bmi σ a t0 (σ.1 3)).1)), (1, .int (iz (bmi σ a t0 (σ.1 3)).2)), (0, .ref (Y 0))] [] M1 0 0) : ∀ (k i : Nat) (M1 : Mem), i + k = σ.1 3 → RM M1 Y σ ∧ FrM Y M0 M1 → SWG G iX9_bestMerge (rmd 13 0 0) Qf 17 [(4, .int (iz (i : Int))), (3, .int (iz (a : Int))), (2, .int (iz (bmi σ a t0 i).1)), (1, .int (iz (bmi σ a t0 i).2)), (0, .ref (Y 0))] [] M1 0 0 := by
  have p5 := hO.1.2.2.2.2.1
  intro k
  induction k with
  | zero =>
    intro i M1 hi hP
    have hi2 : i = σ.1 3 := by omega
    subst hi2
    have hM := hP.1
    refine r_iload dX9_bestMerge_17 rfl ?_
    refine r_aload_n dX9_bestMerge_19 rfl ?_
    refine r_getI qX9_94 dX9_bestMerge_20 hM.o (x := iz (σ.1 3 : Int)) (hM.s 3) (kk := ?_)
    refine r_icmp_ge (tgt := 88) dX9_bestMerge_23 (by decide) (kt := fun z23 => ?_) (kf := fun z23 => (by exfalso; first | omega | simp_all))
    exact r_loc' (kk M1 hP) ⟨rfl, rfl, rfl, rfl, trivial⟩
  | succ k ih =>
    intro i M1 hi hP
    have hi3 : i < σ.1 3 := by omega
    have hM := hP.1
    have hr4 := hO.2.2.2.1 a ha
    have hok := bmi_ok (σ := σ) (a := a) (by omega) ht0 i (by omega)
    unfold bmOk at hok
    have hv := svV_le (σ := σ) (a : Int) (i : Int)
    have hwt := wT_le hO (2 ^ a ||| 2 ^ i)
    have e0 : bo (a : Int) (i : Int) = 2 ^ a ||| 2 ^ i := rfl
    have hc : svC σ a i ≤ 3 := by unfold svC; repeat (first | omega | split)
    refine r_iload dX9_bestMerge_17 rfl ?_
    refine r_aload_n dX9_bestMerge_19 rfl ?_
    refine r_getI qX9_94 dX9_bestMerge_20 hM.o (x := iz (σ.1 3 : Int)) (hM.s 3) (kk := ?_)
    refine r_icmp_ge (tgt := 88) dX9_bestMerge_23 (by decide) (kt := fun z23 => (by exfalso; first | omega | simp_all)) (kf := fun z23 => ?_)
    refine r_aload_n dX9_bestMerge_26 rfl ?_
    refine r_iload_n dX9_bestMerge_27 rfl ?_
    refine r_iload dX9_bestMerge_28 rfl ?_
    refine r_callV (mi := iX9_bestMerge) vX9_221 dX9_bestMerge_30 hM.o (m_saving hM hO (a : Int) (i : Int) (by omega) (by omega)) (hm := ⟨by omega, by omega⟩) (k := kI (fun r M2 hP2 => ?_)) (kx := r_nox)
    obtain ⟨hP2, hr⟩ := hP2
    have hP : RM M2 Y σ ∧ FrM Y M0 M2 := ⟨hP2.1, hP.2.tr hP2.2.2⟩
    have hM := hP.1
    refine r_istore dX9_bestMerge_33 (k := ?_)
    refine r_aload_n dX9_bestMerge_35 rfl ?_
    refine r_getI qX9_81 dX9_bestMerge_36 hM.o hP2.2.1 (kk := ?_)
    refine r_if_gt (tgt := 82) dX9_bestMerge_39 (by decide) (kt := fun z39 => ?_) (kf := fun z39 => ?_)
    · refine r_iinc dX9_bestMerge_82 rfl (k := ?_)
      refine r_goto (tgt := 17) dX9_bestMerge_85 (by decide) ?_
      first
       | (have eb : bmi σ a t0 (i + 1) = bmi σ a t0 i := if_neg (by rw [e0]; omega)
          exact r_loc' (ih (i + 1) _ (by omega) hP) ⟨rfl, rfl, by rw [eb]; rfl, by rw [eb]; rfl, rfl, trivial⟩)
       | (have eb : bmi σ a t0 (i + 1) = (svV σ a i, 4 * (a : Int) + i) := if_pos (by rw [e0]; omega)
          exact r_loc' (ih (i + 1) _ (by omega) hP) ⟨rfl, rfl, by rw [eb]; rfl, by rw [eb]; rfl, rfl, trivial⟩)
    · have z0 : svC σ a i = 0 := by omega
      obtain ⟨hr, hI⟩ := hr z0
      subst hr
      refine r_iload dX9_bestMerge_42 rfl ?_
      refine r_iload_n dX9_bestMerge_44 rfl ?_
      refine r_icmp_le (tgt := 82) dX9_bestMerge_45 (by decide) (kt := fun z45 => ?_) (kf := fun z45 => ?_)
      · refine r_iinc dX9_bestMerge_82 rfl (k := ?_)
        refine r_goto (tgt := 17) dX9_bestMerge_85 (by decide) ?_
        first
         | (have eb : bmi σ a t0 (i + 1) = bmi σ a t0 i := if_neg (by rw [e0]; omega)
            exact r_loc' (ih (i + 1) _ (by omega) hP) ⟨rfl, rfl, by rw [eb]; rfl, by rw [eb]; rfl, rfl, trivial⟩)
         | (have eb : bmi σ a t0 (i + 1) = (svV σ a i, 4 * (a : Int) + i) := if_pos (by rw [e0]; omega)
            exact r_loc' (ih (i + 1) _ (by omega) hP) ⟨rfl, rfl, by rw [eb]; rfl, by rw [eb]; rfl, rfl, trivial⟩)
      · refine r_aload_n dX9_bestMerge_48 rfl ?_
        refine r_iconst dX9_bestMerge_49 ?_
        refine r_iload_n dX9_bestMerge_50 rfl ?_
        refine r_ishl dX9_bestMerge_51 (sl_1 rfl (by omega)) ?_
        refine r_iconst dX9_bestMerge_52 ?_
        refine r_iload dX9_bestMerge_53 rfl ?_
        refine r_ishl dX9_bestMerge_55 (sl_1 rfl (by omega)) ?_
        refine r_ior dX9_bestMerge_56 (iz_or _ _) ?_
        refine r_callV (mi := iX9_bestMerge) vX9_208 dX9_bestMerge_57 hM.o (m_timeOf hM hO (2 ^ a ||| 2 ^ i) (wL σ (2 ^ a ||| 2 ^ i)) (or_16 a (by omega) i (by omega)) gV_le hI) (hm := ⟨by omega, by omega⟩) (k := kP ?_) (kx := r_nox)
        refine gs (show iz ((wL σ (2 ^ a ||| 2 ^ i) + 2 * dueN σ (2 ^ a ||| 2 ^ i) + lightN σ (2 ^ a ||| 2 ^ i) : Nat) : Int) = iz (wT σ (2 ^ a ||| 2 ^ i) : Int) from rfl) ?_
        refine r_aload_n dX9_bestMerge_60 rfl ?_
        refine r_getR qX9_34 dX9_bestMerge_61 hM.o (hM.r 9) (kk := ?_)
        refine r_iload_n dX9_bestMerge_64 rfl ?_
        refine r_iald dX9_bestMerge_65 (hM.cc 9 11 4) rfl (hM.v 9 _ (ha)) (k := ?_)
        refine r_icmp_le (tgt := 72) dX9_bestMerge_66 (by decide) (kt := fun z66 => ?_) (kf := fun z66 => ?_)
        · refine r_iload dX9_bestMerge_72 rfl ?_
          refine r_istore_n dX9_bestMerge_74 (k := ?_)
          refine r_iconst dX9_bestMerge_75 ?_
          refine r_iload_n dX9_bestMerge_76 rfl ?_
          refine r_imul dX9_bestMerge_77 ?_
          refine r_iload dX9_bestMerge_78 rfl ?_
          refine r_iadd dX9_bestMerge_80 ?_
          refine r_istore_n dX9_bestMerge_81 (k := ?_)
          refine r_iinc dX9_bestMerge_82 rfl (k := ?_)
          refine r_goto (tgt := 17) dX9_bestMerge_85 (by decide) ?_
          first
           | (have eb : bmi σ a t0 (i + 1) = bmi σ a t0 i := if_neg (by rw [e0]; omega)
              exact r_loc' (ih (i + 1) _ (by omega) hP) ⟨rfl, rfl, by rw [eb]; rfl, by rw [eb]; rfl, rfl, trivial⟩)
           | (have eb : bmi σ a t0 (i + 1) = (svV σ a i, 4 * (a : Int) + i) := if_pos (by rw [e0]; omega)
              exact r_loc' (ih (i + 1) _ (by omega) hP) ⟨rfl, rfl, by rw [eb]; rfl, by rw [eb]; rfl, rfl, trivial⟩)
        · refine r_goto (tgt := 82) dX9_bestMerge_69 (by decide) ?_
          refine r_iinc dX9_bestMerge_82 rfl (k := ?_)
          refine r_goto (tgt := 17) dX9_bestMerge_85 (by decide) ?_
          first
           | (have eb : bmi σ a t0 (i + 1) = bmi σ a t0 i := if_neg (by rw [e0]; omega)
              exact r_loc' (ih (i + 1) _ (by omega) hP) ⟨rfl, rfl, by rw [eb]; rfl, by rw [eb]; rfl, rfl, trivial⟩)
           | (have eb : bmi σ a t0 (i + 1) = (svV σ a i, 4 * (a : Int) + i) := if_pos (by rw [e0]; omega)
              exact r_loc' (ih (i + 1) _ (by omega) hP) ⟨rfl, rfl, by rw [eb]; rfl, by rw [eb]; rfl, rfl, trivial⟩)
theorem best_out (hO : Ok σ T) (kk : ∀ M1, RM M1 Y σ ∧ FrM Y M0 M1 → SWG G iX9_bestMerge (rmd 13 0 0) Qf 94 [(1, .int (iz (bmo σ (σ.1 3)).2)), (0, .ref (Y 0))] [] M1 0 0) : ∀ (k i : Nat) (M1 : Mem), i + k = σ.1 3 → RM M1 Y σ ∧ FrM Y M0 M1 → SWG G iX9_bestMerge (rmd 13 0 0) Qf 6 [(3, .int (iz (i : Int))), (2, .int (iz (bmo σ i).1)), (1, .int (iz (bmo σ i).2)), (0, .ref (Y 0))] [] M1 0 0 := by
  have p5 := hO.1.2.2.2.2.1
  intro k
  induction k with
  | zero =>
    intro i M1 hi hP
    have hi2 : i = σ.1 3 := by omega
    subst hi2
    have hM := hP.1
    refine r_iload_n dX9_bestMerge_6 rfl ?_
    refine r_aload_n dX9_bestMerge_7 rfl ?_
    refine r_getI qX9_94 dX9_bestMerge_8 hM.o (x := iz (σ.1 3 : Int)) (hM.s 3) (kk := ?_)
    refine r_icmp_ge (tgt := 94) dX9_bestMerge_11 (by decide) (kt := fun z11 => ?_) (kf := fun z11 => (by exfalso; first | omega | simp_all))
    exact r_loc' (kk M1 hP) ⟨rfl, rfl, trivial⟩
  | succ k ih =>
    intro i M1 hi hP
    have hM := hP.1
    refine r_iload_n dX9_bestMerge_6 rfl ?_
    refine r_aload_n dX9_bestMerge_7 rfl ?_
    refine r_getI qX9_94 dX9_bestMerge_8 hM.o (x := iz (σ.1 3 : Int)) (hM.s 3) (kk := ?_)
    refine r_icmp_ge (tgt := 94) dX9_bestMerge_11 (by decide) (kt := fun z11 => (by exfalso; first | omega | simp_all)) (kf := fun z11 => ?_)
    refine r_iconst dX9_bestMerge_14 ?_
    refine r_istore dX9_bestMerge_15 (k := ?_)
    refine r_loc' (best_in hO i (by omega) (bmo σ i) (bmo_ok p5 i (by omega)) (fun M2 hP2 => ?_) (σ.1 3) 0 M1 (by omega) hP) ⟨rfl, rfl, rfl, rfl, rfl, trivial⟩
    refine r_iinc dX9_bestMerge_88 rfl (k := ?_)
    refine r_goto (tgt := 6) dX9_bestMerge_91 (by decide) ?_
    exact r_loc' (ih (i + 1) M2 (by omega) hP2) ⟨rfl, rfl, rfl, rfl, trivial⟩
theorem m_bestMerge (hM : RM M Y σ) (hO : Ok σ T) : Ht G iX9_bestMerge yX9_bestMerge 13 [.ref (Y 0)] M (MR Y M (opBest σ)) nX 0 0 := by
  have p5 := hO.1.2.2.2.2.1
  have hok := bmo_ok (σ := σ) p5 (σ.1 3) p5
  unfold bmOk at hok
  refine ht_intro (by decide +kernel) rfl rfl rfl (Nat.le_of_ble_eq_true rfl) ?_
  refine r_iconst dX9_bestMerge_0 ?_
  refine r_istore_n dX9_bestMerge_1 (k := ?_)
  refine r_iconst dX9_bestMerge_2 ?_
  refine r_istore_n dX9_bestMerge_3 (k := ?_)
  refine r_iconst dX9_bestMerge_4 ?_
  refine r_istore_n dX9_bestMerge_5 (k := ?_)
  refine r_loc' (best_out (M0 := M) hO (fun M1 hP => ?_) (σ.1 3) 0 M (by omega) ⟨hM, FrM.rf⟩) ⟨rfl, rfl, rfl, rfl, trivial⟩
  have hM := hP.1
  refine r_aload_n dX9_bestMerge_94 rfl ?_
  refine r_iconst dX9_bestMerge_95 ?_
  refine r_putI qX9_81 dX9_bestMerge_96 hM.o (kk := ?_)
  refine gm (P := MP Y M σ 0) ⟨hM.w, by rw [mI_sI]; simp [upd], hP.2.tr FrM.i⟩ (fun M2 hP => ?_)
  have hM := hP.1
  refine r_iload_n dX9_bestMerge_99 rfl ?_
  refine r_if_ge (tgt := 111) dX9_bestMerge_100 (by decide) (kt := fun z100 => ?_) (kf := fun z100 => ?_)
  · refine r_iload_n dX9_bestMerge_111 rfl ?_
    first
     | exact r_iret dX9_bestMerge_112 (mr_of hP (by unfold opBest; exact if_neg (by omega)) (fun _ => rfl))
     | exact r_iret dX9_bestMerge_112 (mr_of (mpf hP 1) (by unfold opBest; exact if_pos (by omega)) (fun h => absurd h (by decide)))
  · refine r_aload_n dX9_bestMerge_103 rfl ?_
    refine r_iconst dX9_bestMerge_104 ?_
    refine r_callV (mi := iX9_bestMerge) vX9_100 dX9_bestMerge_105 hM.o (m_fails hM.o 1) (hm := ⟨by omega, by omega⟩) (k := kP ?_) (kx := r_nox)
    refine r_goto (tgt := 112) dX9_bestMerge_108 (by decide) ?_
    first
     | exact r_iret dX9_bestMerge_112 (mr_of hP (by unfold opBest; exact if_neg (by omega)) (fun _ => rfl))
     | exact r_iret dX9_bestMerge_112 (mr_of (mpf hP 1) (by unfold opBest; exact if_pos (by omega)) (fun h => absurd h (by decide)))
def opState (σ : St) (p : Int) : Rs := if ¬ bt2 p 0 (σ.1 4 - 1) then (σ, 1, 0) else (σ, 0, if σ.2 14 p.toNat = 0 then 119 else 100)
def opHeavy (σ : St) (p : Int) : Rs := if bt2 p 0 (σ.1 4 - 1) then (σ, 0, if σ.1 5 < σ.2 11 p.toNat then 1 else 0) else (σ, 1, 0)
theorem m_parcelState (hM : RM M Y σ) (hO : Ok σ T) (p : Int) (ha : inR p) : Ht G iX9_parcelState yX9_parcelState 10 [.ref (Y 0), .int (iz p)] M (MR Y M (opState σ p)) nX 0 0 := by
  have p6 := hO.1.2.2.2.2.2.1
  refine ht_intro (by decide +kernel) rfl rfl rfl (Nat.le_of_ble_eq_true rfl) ?_
  refine r_aload_n dX9_parcelState_0 rfl ?_
  refine r_iconst dX9_parcelState_1 ?_
  refine r_putI qX9_81 dX9_parcelState_2 hM.o (kk := ?_)
  refine gm (P := MP Y M σ 0) (mp0 hM) (fun M1 hP => ?_)
  have hM := hP.1
  refine r_aload_n dX9_parcelState_5 rfl ?_
  refine r_iload_n dX9_parcelState_6 rfl ?_
  refine r_callV (mi := iX9_parcelState) vX9_224 dX9_parcelState_7 hM.o (m_isParcel hM (by omega) p ha) (hm := ⟨by omega, by omega⟩) (k := kP ?_) (kx := r_nox)
  refine r_dif_ne (tgt := 20) dX9_parcelState_10 (by decide) (kt := fun z10 => ?_) (kf := fun z10 => ?_)
  · obtain ⟨p, rfl⟩ := nat_of (a := p) (by omega)
    have hp : p < σ.1 4 := by omega
    have h14 := (hO.2.2.2.2 p hp).2.2.2.2.2
    refine r_aload_n dX9_parcelState_20 rfl ?_
    refine r_getR qX9_50 dX9_parcelState_21 hM.o (hM.r 14) (kk := ?_)
    refine r_iload_n dX9_parcelState_24 rfl ?_
    refine r_zald dX9_parcelState_25 (hM.cc 14 12 20) rfl (hM.v 14 _ (hp)) (k := ?_)
    refine r_if_eq (tgt := 34) dX9_parcelState_26 (by decide) (kt := fun z26 => ?_) (kf := fun z26 => ?_)
    · refine r_bipush dX9_parcelState_34 (k := ?_)
      first
       | exact r_iret dX9_parcelState_36 (mr_of hP (by unfold opState; exact if_neg (by omega)) (fun _ => by rw [Int.toNat_natCast, if_pos (by omega)])) rfl (by decide +kernel)
       | exact r_iret dX9_parcelState_36 (mr_of hP (by unfold opState; exact if_neg (by omega)) (fun _ => by rw [Int.toNat_natCast, if_neg (by omega)])) rfl (by decide +kernel)
    · refine r_bipush dX9_parcelState_29 (k := ?_)
      refine r_goto (tgt := 36) dX9_parcelState_31 (by decide) ?_
      first
       | exact r_iret dX9_parcelState_36 (mr_of hP (by unfold opState; exact if_neg (by omega)) (fun _ => by rw [Int.toNat_natCast, if_pos (by omega)])) rfl (by decide +kernel)
       | exact r_iret dX9_parcelState_36 (mr_of hP (by unfold opState; exact if_neg (by omega)) (fun _ => by rw [Int.toNat_natCast, if_neg (by omega)])) rfl (by decide +kernel)
  · refine r_aload_n dX9_parcelState_13 rfl ?_
    refine r_iconst dX9_parcelState_14 ?_
    refine r_callV (mi := iX9_parcelState) vX9_100 dX9_parcelState_15 hM.o (m_fails hM.o 1) (hm := ⟨by omega, by omega⟩) (k := kP ?_) (kx := r_nox)
    refine r_i2c dX9_parcelState_18 ((by decide +kernel : _ = iz 0)) ?_
    exact r_iret dX9_parcelState_19 (mr_of (mpf hP 1) (by unfold opState; exact if_pos (by omega)) (fun h => absurd h (by decide))) rfl (by decide +kernel)
theorem m_isHeavy (hM : RM M Y σ) (hO : Ok σ T) (p : Int) (ha : inR p) : Ht G iX9_isHeavy yX9_isHeavy 10 [.ref (Y 0), .int (iz p)] M (MR Y M (opHeavy σ p)) nX 0 0 := by
  have p6 := hO.1.2.2.2.2.2.1
  have p7 := hO.1.2.2.2.2.2.2.1
  refine ht_intro (by decide +kernel) rfl rfl rfl (Nat.le_of_ble_eq_true rfl) ?_
  refine r_aload_n dX9_isHeavy_0 rfl ?_
  refine r_iconst dX9_isHeavy_1 ?_
  refine r_putI qX9_81 dX9_isHeavy_2 hM.o (kk := ?_)
  refine gm (P := MP Y M σ 0) (mp0 hM) (fun M1 hP => ?_)
  have hM := hP.1
  refine r_aload_n dX9_isHeavy_5 rfl ?_
  refine r_iload_n dX9_isHeavy_6 rfl ?_
  refine r_callV (mi := iX9_isHeavy) vX9_224 dX9_isHeavy_7 hM.o (m_isParcel hM (by omega) p ha) (hm := ⟨by omega, by omega⟩) (k := kP ?_) (kx := r_nox)
  refine r_dif_eq (tgt := 34) dX9_isHeavy_10 (by decide) (kt := fun z10 => ?_) (kf := fun z10 => ?_)
  · refine r_aload_n dX9_isHeavy_34 rfl ?_
    refine r_iconst dX9_isHeavy_35 ?_
    refine r_callV (mi := iX9_isHeavy) vX9_100 dX9_isHeavy_36 hM.o (m_fails hM.o 1) (hm := ⟨by omega, by omega⟩) (k := kP ?_) (kx := r_nox)
    refine r_if_le (tgt := 46) dX9_isHeavy_39 (by decide) (kt := fun z39 => ?_) (kf := fun z39 => (by exfalso; first | omega | simp_all))
    refine r_iconst dX9_isHeavy_46 ?_
    first
     | exact r_zret (x := false) dX9_isHeavy_47 (mr_of (mpf hP 1) (by unfold opHeavy; exact if_neg (by omega)) (fun h => absurd h (by decide)))
     | exact r_zret (x := true) dX9_isHeavy_47 (mr_of hP (by unfold opHeavy; exact if_pos (by omega)) (fun _ => by rw [Int.toNat_natCast, if_pos (by omega)]; rfl))
     | exact r_zret (x := false) dX9_isHeavy_47 (mr_of hP (by unfold opHeavy; exact if_pos (by omega)) (fun _ => by rw [Int.toNat_natCast, if_neg (by omega)]; rfl))
  · obtain ⟨p, rfl⟩ := nat_of (a := p) (by omega)
    have hp : p < σ.1 4 := by omega
    have h11 := (hO.2.2.2.2 p hp).2.2.1
    refine r_aload_n dX9_isHeavy_13 rfl ?_
    refine r_getR qX9_40 dX9_isHeavy_14 hM.o (hM.r 11) (kk := ?_)
    refine r_iload_n dX9_isHeavy_17 rfl ?_
    refine r_iald dX9_isHeavy_18 (hM.cc 11 11 20) rfl (hM.v 11 _ (hp)) (k := ?_)
    refine r_aload_n dX9_isHeavy_19 rfl ?_
    refine r_getI qX9_57 dX9_isHeavy_20 hM.o (x := iz (σ.1 5 : Int)) (hM.s 5) (kk := ?_)
    refine r_icmp_le (tgt := 30) dX9_isHeavy_23 (by decide) (kt := fun z23 => ?_) (kf := fun z23 => ?_)
    · refine r_iconst dX9_isHeavy_30 ?_
      refine r_goto (tgt := 47) dX9_isHeavy_31 (by decide) ?_
      first
       | exact r_zret (x := false) dX9_isHeavy_47 (mr_of (mpf hP 1) (by unfold opHeavy; exact if_neg (by omega)) (fun h => absurd h (by decide)))
       | exact r_zret (x := true) dX9_isHeavy_47 (mr_of hP (by unfold opHeavy; exact if_pos (by omega)) (fun _ => by rw [Int.toNat_natCast, if_pos (by omega)]; rfl))
       | exact r_zret (x := false) dX9_isHeavy_47 (mr_of hP (by unfold opHeavy; exact if_pos (by omega)) (fun _ => by rw [Int.toNat_natCast, if_neg (by omega)]; rfl))
    · refine r_iconst dX9_isHeavy_26 ?_
      refine r_goto (tgt := 47) dX9_isHeavy_27 (by decide) ?_
      first
       | exact r_zret (x := false) dX9_isHeavy_47 (mr_of (mpf hP 1) (by unfold opHeavy; exact if_neg (by omega)) (fun h => absurd h (by decide)))
       | exact r_zret (x := true) dX9_isHeavy_47 (mr_of hP (by unfold opHeavy; exact if_pos (by omega)) (fun _ => by rw [Int.toNat_natCast, if_pos (by omega)]; rfl))
       | exact r_zret (x := false) dX9_isHeavy_47 (mr_of hP (by unfold opHeavy; exact if_pos (by omega)) (fun _ => by rw [Int.toNat_natCast, if_neg (by omega)]; rfl))
/-- how far a parcel's street lies -/
def fT (σ : St) (q : Nat) : Nat := dst σ 0 (σ.2 1 (σ.2 5 (σ.2 10 q)))
/-- what one parcel needs to be told of -/
def PqOk (σ : St) (q : Nat) : Prop := q < σ.1 4 ∧ q < 20 ∧ σ.2 10 q < σ.1 2 ∧ σ.2 10 q < 30 ∧ σ.2 5 (σ.2 10 q) < σ.1 1 ∧ σ.2 5 (σ.2 10 q) < 16 ∧ σ.2 1 (σ.2 5 (σ.2 10 q)) < σ.1 0 ∧ σ.2 1 (σ.2 5 (σ.2 10 q)) < 10 ∧ σ.2 7 (σ.2 10 q) ≤ 99 ∧ 1 ≤ σ.1 0
theorem Ok.pq (hO : Ok σ T) {q : Nat} (hq : q < σ.1 4) : PqOk σ q := by
  obtain ⟨⟨p1, p2, p3, p4, p5, p6, -⟩, hS, hH, hR, hQ⟩ := hO
  have h1 := (hQ q hq).1
  obtain ⟨h2, h3, h4, -⟩ := hH _ h1
  obtain ⟨s1, s2, s3, s4, s5, -⟩ := hS _ h2
  unfold PqOk
  omega
theorem m_farTo (hM : RM M Y σ) (q : Nat) (hq : PqOk σ q) (hF : FarP Y (σ.1 0) (dst σ) M) : Ht G iX9_farTo yX9_farTo 1 [.ref (Y 0), .int (iz (q : Int))] M (rP (iz (fT σ q : Int)) M) nX 0 0 := by
  obtain ⟨q1, q2, q3, q4, q5, q6, q7, q8, q9, q10⟩ := hq
  refine ht_intro (by decide +kernel) rfl rfl rfl (Nat.le_of_ble_eq_true rfl) ?_
  refine r_aload_n dX9_farTo_0 rfl ?_
  refine r_getR qX9_60 dX9_farTo_1 hM.o (hM.r 25) (kk := ?_)
  refine r_aload_n dX9_farTo_4 rfl ?_
  refine r_getR qX9_9 dX9_farTo_5 hM.o (hM.r 1) (kk := ?_)
  refine r_aload_n dX9_farTo_8 rfl ?_
  refine r_getR qX9_22 dX9_farTo_9 hM.o (hM.r 5) (kk := ?_)
  refine r_aload_n dX9_farTo_12 rfl ?_
  refine r_getR qX9_37 dX9_farTo_13 hM.o (hM.r 10) (kk := ?_)
  refine r_iload_n dX9_farTo_16 rfl ?_
  refine r_iald dX9_farTo_17 (hM.cc 10 11 20) rfl (hM.v 10 _ (q1)) (k := ?_)
  refine r_iald dX9_farTo_18 (hM.cc 5 11 30) rfl (hM.v 5 _ (q3)) (k := ?_)
  refine r_iald dX9_farTo_19 (hM.cc 1 11 16) rfl (hM.v 1 _ (q5)) (k := ?_)
  refine r_iald dX9_farTo_20 (hM.cc 25 11 100) (j := 10 * 0 + σ.2 1 (σ.2 5 (σ.2 10 q))) (by omega) (hF 0 _ (by omega) q7) (k := ?_)
  exact r_iret dX9_farTo_21 (rP_mk _ _)
def gf (σ : St) (p q : Nat) : Bool := if σ.2 12 p ≠ σ.2 12 q then decide (σ.2 12 p < σ.2 12 q) else if fT σ p ≠ fT σ q then decide (fT σ p < fT σ q) else decide (p < q)
theorem gf_T {p q : Nat} (h : σ.2 12 p < σ.2 12 q ∨ (σ.2 12 p = σ.2 12 q ∧ (fT σ p < fT σ q ∨ (fT σ p = fT σ q ∧ p < q)))) : gf σ p q = true := by
  unfold gf
  split
  · exact decide_eq_true (by omega)
  · split
    · exact decide_eq_true (by omega)
    · exact decide_eq_true (by omega)
theorem gf_F {p q : Nat} (h : ¬ (σ.2 12 p < σ.2 12 q ∨ (σ.2 12 p = σ.2 12 q ∧ (fT σ p < fT σ q ∨ (fT σ p = fT σ q ∧ p < q))))) : gf σ p q = false := by
  unfold gf
  split
  · exact decide_eq_false (by omega)
  · split
    · exact decide_eq_false (by omega)
    · exact decide_eq_false (by omega)
theorem m_goesFirst (hM : RM M Y σ) (hO : Ok σ T) (p q : Nat) (hp : p < σ.1 4) (hq : q < σ.1 4) (hF : FarP Y (σ.1 0) (dst σ) M) : Ht G iX9_goesFirst yX9_goesFirst 2 [.ref (Y 0), .int (iz (p : Int)), .int (iz (q : Int))] M (rP (bz (gf σ p q)) M) nX 0 0 := by
  have p6 := hO.1.2.2.2.2.2.1
  have a5 := (hO.2.2.2.2 p hp).2.2.2.2.1
  have b5 := (hO.2.2.2.2 q hq).2.2.2.2.1
  have l1 : fT σ p ≤ 100000 := dst_le _ _
  have l2 : fT σ q ≤ 100000 := dst_le _ _
  refine ht_intro (by decide +kernel) rfl rfl rfl (Nat.le_of_ble_eq_true rfl) ?_
  refine r_aload_n dX9_goesFirst_0 rfl ?_
  refine r_getR qX9_43 dX9_goesFirst_1 hM.o (hM.r 12) (kk := ?_)
  refine r_iload_n dX9_goesFirst_4 rfl ?_
  refine r_iald dX9_goesFirst_5 (hM.cc 12 11 20) rfl (hM.v 12 _ (hp)) (k := ?_)
  refine r_aload_n dX9_goesFirst_6 rfl ?_
  refine r_getR qX9_43 dX9_goesFirst_7 hM.o (hM.r 12) (kk := ?_)
  refine r_iload_n dX9_goesFirst_10 rfl ?_
  refine r_iald dX9_goesFirst_11 (hM.cc 12 11 20) rfl (hM.v 12 _ (hq)) (k := ?_)
  refine r_icmp_eq (tgt := 36) dX9_goesFirst_12 (by decide) (kt := fun z12 => ?_) (kf := fun z12 => ?_)
  · refine r_aload_n dX9_goesFirst_36 rfl ?_
    refine r_iload_n dX9_goesFirst_37 rfl ?_
    refine r_callV (mi := iX9_goesFirst) vX9_227 dX9_goesFirst_38 hM.o (m_farTo hM p (hO.pq hp) hF) (hm := ⟨by omega, by omega⟩) (k := kP ?_) (kx := r_nox)
    refine r_aload_n dX9_goesFirst_41 rfl ?_
    refine r_iload_n dX9_goesFirst_42 rfl ?_
    refine r_callV (mi := iX9_goesFirst) vX9_227 dX9_goesFirst_43 hM.o (m_farTo hM q (hO.pq hq) hF) (hm := ⟨by omega, by omega⟩) (k := kP ?_) (kx := r_nox)
    refine r_icmp_eq (tgt := 70) dX9_goesFirst_46 (by decide) (kt := fun z46 => ?_) (kf := fun z46 => ?_)
    · refine r_iload_n dX9_goesFirst_70 rfl ?_
      refine r_iload_n dX9_goesFirst_71 rfl ?_
      refine r_icmp_ge (tgt := 79) dX9_goesFirst_72 (by decide) (kt := fun z72 => ?_) (kf := fun z72 => ?_)
      · refine r_iconst dX9_goesFirst_79 ?_
        first
         | exact r_zret (x := true) dX9_goesFirst_80 (rP_of (congrArg bz (gf_T (by omega)).symm))
         | exact r_zret (x := false) dX9_goesFirst_80 (rP_of (congrArg bz (gf_F (by omega)).symm))
      · refine r_iconst dX9_goesFirst_75 ?_
        refine r_goto (tgt := 80) dX9_goesFirst_76 (by decide) ?_
        first
         | exact r_zret (x := true) dX9_goesFirst_80 (rP_of (congrArg bz (gf_T (by omega)).symm))
         | exact r_zret (x := false) dX9_goesFirst_80 (rP_of (congrArg bz (gf_F (by omega)).symm))
    · refine r_aload_n dX9_goesFirst_49 rfl ?_
      refine r_iload_n dX9_goesFirst_50 rfl ?_
      refine r_callV (mi := iX9_goesFirst) vX9_227 dX9_goesFirst_51 hM.o (m_farTo hM p (hO.pq hp) hF) (hm := ⟨by omega, by omega⟩) (k := kP ?_) (kx := r_nox)
      refine r_aload_n dX9_goesFirst_54 rfl ?_
      refine r_iload_n dX9_goesFirst_55 rfl ?_
      refine r_callV (mi := iX9_goesFirst) vX9_227 dX9_goesFirst_56 hM.o (m_farTo hM q (hO.pq hq) hF) (hm := ⟨by omega, by omega⟩) (k := kP ?_) (kx := r_nox)
      refine r_icmp_ge (tgt := 66) dX9_goesFirst_59 (by decide) (kt := fun z59 => ?_) (kf := fun z59 => ?_)
      · refine r_iconst dX9_goesFirst_66 ?_
        refine r_goto (tgt := 80) dX9_goesFirst_67 (by decide) ?_
        first
         | exact r_zret (x := true) dX9_goesFirst_80 (rP_of (congrArg bz (gf_T (by omega)).symm))
         | exact r_zret (x := false) dX9_goesFirst_80 (rP_of (congrArg bz (gf_F (by omega)).symm))
      · refine r_iconst dX9_goesFirst_62 ?_
        refine r_goto (tgt := 80) dX9_goesFirst_63 (by decide) ?_
        first
         | exact r_zret (x := true) dX9_goesFirst_80 (rP_of (congrArg bz (gf_T (by omega)).symm))
         | exact r_zret (x := false) dX9_goesFirst_80 (rP_of (congrArg bz (gf_F (by omega)).symm))
  · refine r_aload_n dX9_goesFirst_15 rfl ?_
    refine r_getR qX9_43 dX9_goesFirst_16 hM.o (hM.r 12) (kk := ?_)
    refine r_iload_n dX9_goesFirst_19 rfl ?_
    refine r_iald dX9_goesFirst_20 (hM.cc 12 11 20) rfl (hM.v 12 _ (hp)) (k := ?_)
    refine r_aload_n dX9_goesFirst_21 rfl ?_
    refine r_getR qX9_43 dX9_goesFirst_22 hM.o (hM.r 12) (kk := ?_)
    refine r_iload_n dX9_goesFirst_25 rfl ?_
    refine r_iald dX9_goesFirst_26 (hM.cc 12 11 20) rfl (hM.v 12 _ (hq)) (k := ?_)
    refine r_icmp_ge (tgt := 34) dX9_goesFirst_27 (by decide) (kt := fun z27 => ?_) (kf := fun z27 => ?_)
    · refine r_iconst dX9_goesFirst_34 ?_
      first
       | exact r_zret (x := true) dX9_goesFirst_35 (rP_of (congrArg bz (gf_T (by omega)).symm))
       | exact r_zret (x := false) dX9_goesFirst_35 (rP_of (congrArg bz (gf_F (by omega)).symm))
    · refine r_iconst dX9_goesFirst_30 ?_
      refine r_goto (tgt := 35) dX9_goesFirst_31 (by decide) ?_
      first
       | exact r_zret (x := true) dX9_goesFirst_35 (rP_of (congrArg bz (gf_T (by omega)).symm))
       | exact r_zret (x := false) dX9_goesFirst_35 (rP_of (congrArg bz (gf_F (by omega)).symm))
def hv (σ : St) (p : Nat) : Bool := decide (σ.1 5 < σ.2 11 p) && decide (σ.2 14 p = 0)
/-- the parcel that the van takes next, of the first n -/
def nh (σ : St) : Nat → Int
  | 0 => -1
  | p + 1 => if hv σ p = true ∧ (nh σ p < 0 ∨ gf σ p (nh σ p).toNat = true) then p else nh σ p
theorem nh_rg (p : Nat) : -1 ≤ nh σ p ∧ nh σ p < p := by
  induction p with
  | zero => exact ⟨Int.le_refl _, by show (-1 : Int) < ((0 : Nat) : Int); omega⟩
  | succ p ih =>
    show -1 ≤ (if hv σ p = true ∧ (nh σ p < 0 ∨ gf σ p (nh σ p).toNat = true) then (p : Int) else nh σ p) ∧ (if hv σ p = true ∧ (nh σ p < 0 ∨ gf σ p (nh σ p).toNat = true) then (p : Int) else nh σ p) < ((p + 1 : Nat) : Int)
    split <;> omega
theorem nh_T {p : Nat} (h : hv σ p = true ∧ (nh σ p < 0 ∨ gf σ p (nh σ p).toNat = true)) : nh σ (p + 1) = p := if_pos h
theorem nh_F {p : Nat} (h : ¬ (hv σ p = true ∧ (nh σ p < 0 ∨ gf σ p (nh σ p).toNat = true))) : nh σ (p + 1) = nh σ p := if_neg h
theorem m_nextHeavy (hM : RM M Y σ) (hO : Ok σ T) : Ht G iX9_nextHeavy yX9_nextHeavy 4 [.ref (Y 0)] M (rI fun r M' => Kp Y [] [25] M M' ∧ FarP Y (σ.1 0) (dst σ) M' ∧ r = iz (nh σ (σ.1 4))) nX 0 0 := by
  have p6 := hO.1.2.2.2.2.2.1
  have p7 := hO.1.2.2.2.2.2.2.1
  refine ht_intro (by decide +kernel) rfl rfl rfl (Nat.le_of_ble_eq_true rfl) ?_
  have loop : ∀ (M1 : Mem), Kp Y [] [25] M M1 → FarP Y (σ.1 0) (dst σ) M1 → RM M1 Y σ → ∀ (k i : Nat), i + k = σ.1 4 → SWG G iX9_nextHeavy (rmd 4 0 0) (QF G (rI fun r M' => Kp Y [] [25] M M' ∧ FarP Y (σ.1 0) (dst σ) M' ∧ r = iz (nh σ (σ.1 4))) nX 0 0) 8 [(2, .int (iz (i : Int))), (1, .int (iz (nh σ i))), (0, .ref (Y 0))] [] M1 0 0 := by
    intro M1 hK hF hM k
    induction k with
    | zero =>
      intro i hi
      have hi2 : i = σ.1 4 := by omega
      subst hi2
      refine r_iload_n dX9_nextHeavy_8 rfl ?_
      refine r_aload_n dX9_nextHeavy_9 rfl ?_
      refine r_getI qX9_97 dX9_nextHeavy_10 hM.o (x := iz (σ.1 4 : Int)) (hM.s 4) (kk := ?_)
      refine r_icmp_ge (tgt := 59) dX9_nextHeavy_13 (by decide) (kt := fun z13 => ?_) (kf := fun z13 => (by exfalso; first | omega | simp_all))
      refine r_iload_n dX9_nextHeavy_59 rfl ?_
      exact r_iret dX9_nextHeavy_60 (⟨_, rfl, hK, hF, rfl⟩)
    | succ k ih =>
      intro i hi
      have hi3 : i < σ.1 4 := by omega
      obtain ⟨a1, a2, a3, a4, a5, a6⟩ := hO.2.2.2.2 i hi3
      have hn := nh_rg (σ := σ) i
      have ehv : hv σ i = (decide (σ.1 5 < σ.2 11 i) && decide (σ.2 14 i = 0)) := rfl
      refine r_iload_n dX9_nextHeavy_8 rfl ?_
      refine r_aload_n dX9_nextHeavy_9 rfl ?_
      refine r_getI qX9_97 dX9_nextHeavy_10 hM.o (x := iz (σ.1 4 : Int)) (hM.s 4) (kk := ?_)
      refine r_icmp_ge (tgt := 59) dX9_nextHeavy_13 (by decide) (kt := fun z13 => (by exfalso; first | omega | simp_all)) (kf := fun z13 => ?_)
      refine r_aload_n dX9_nextHeavy_16 rfl ?_
      refine r_getR qX9_40 dX9_nextHeavy_17 hM.o (hM.r 11) (kk := ?_)
      refine r_iload_n dX9_nextHeavy_20 rfl ?_
      refine r_iald dX9_nextHeavy_21 (hM.cc 11 11 20) rfl (hM.v 11 _ (hi3)) (k := ?_)
      refine r_aload_n dX9_nextHeavy_22 rfl ?_
      refine r_getI qX9_57 dX9_nextHeavy_23 hM.o (x := iz (σ.1 5 : Int)) (hM.s 5) (kk := ?_)
      refine r_icmp_le (tgt := 53) dX9_nextHeavy_26 (by decide) (kt := fun z26 => ?_) (kf := fun z26 => ?_)
      · refine r_iinc dX9_nextHeavy_53 rfl (k := ?_)
        refine r_goto (tgt := 8) dX9_nextHeavy_56 (by decide) ?_
        have hvF : ∀ b : Prop, (¬ (σ.1 5 < σ.2 11 i) ∨ ¬ σ.2 14 i = 0) → hv σ i = true → b := fun b h1 h2 => by
          rw [ehv, Bool.and_eq_true, decide_eq_true_eq, decide_eq_true_eq] at h2; exfalso; omega
        first
         | exact r_loc' (ih (i + 1) (by omega)) ⟨rfl, lkI (nh_F (fun h => hvF _ (by omega) h.1)).symm, rfl, trivial⟩
         | exact r_loc' (ih (i + 1) (by omega)) ⟨rfl, lkI (nh_T ⟨by rw [ehv, decide_eq_true (by omega), decide_eq_true (by omega)]; rfl, by first | exact Or.inl (by omega) | exact Or.inr z48⟩).symm, rfl, trivial⟩
         | exact r_loc' (ih (i + 1) (by omega)) ⟨rfl, lkI (hng.symm.trans (nh_F (fun h => by rcases h.2 with h2 | h2; omega; rw [z48] at h2; cases h2)).symm), rfl, trivial⟩
      · refine r_aload_n dX9_nextHeavy_29 rfl ?_
        refine r_getR qX9_50 dX9_nextHeavy_30 hM.o (hM.r 14) (kk := ?_)
        refine r_iload_n dX9_nextHeavy_33 rfl ?_
        refine r_zald dX9_nextHeavy_34 (hM.cc 14 12 20) rfl (hM.v 14 _ (hi3)) (k := ?_)
        refine r_if_ne (tgt := 53) dX9_nextHeavy_35 (by decide) (kt := fun z35 => ?_) (kf := fun z35 => ?_)
        · refine r_iinc dX9_nextHeavy_53 rfl (k := ?_)
          refine r_goto (tgt := 8) dX9_nextHeavy_56 (by decide) ?_
          have hvF : ∀ b : Prop, (¬ (σ.1 5 < σ.2 11 i) ∨ ¬ σ.2 14 i = 0) → hv σ i = true → b := fun b h1 h2 => by
            rw [ehv, Bool.and_eq_true, decide_eq_true_eq, decide_eq_true_eq] at h2; exfalso; omega
          first
           | exact r_loc' (ih (i + 1) (by omega)) ⟨rfl, lkI (nh_F (fun h => hvF _ (by omega) h.1)).symm, rfl, trivial⟩
           | exact r_loc' (ih (i + 1) (by omega)) ⟨rfl, lkI (nh_T ⟨by rw [ehv, decide_eq_true (by omega), decide_eq_true (by omega)]; rfl, by first | exact Or.inl (by omega) | exact Or.inr z48⟩).symm, rfl, trivial⟩
           | exact r_loc' (ih (i + 1) (by omega)) ⟨rfl, lkI (hng.symm.trans (nh_F (fun h => by rcases h.2 with h2 | h2; omega; rw [z48] at h2; cases h2)).symm), rfl, trivial⟩
        · refine r_iload_n dX9_nextHeavy_38 rfl ?_
          refine r_if_lt (tgt := 51) dX9_nextHeavy_39 (by decide) (kt := fun z39 => ?_) (kf := fun z39 => ?_)
          · refine r_iload_n dX9_nextHeavy_51 rfl ?_
            refine r_istore_n dX9_nextHeavy_52 (k := ?_)
            refine r_iinc dX9_nextHeavy_53 rfl (k := ?_)
            refine r_goto (tgt := 8) dX9_nextHeavy_56 (by decide) ?_
            have hvF : ∀ b : Prop, (¬ (σ.1 5 < σ.2 11 i) ∨ ¬ σ.2 14 i = 0) → hv σ i = true → b := fun b h1 h2 => by
              rw [ehv, Bool.and_eq_true, decide_eq_true_eq, decide_eq_true_eq] at h2; exfalso; omega
            first
             | exact r_loc' (ih (i + 1) (by omega)) ⟨rfl, lkI (nh_F (fun h => hvF _ (by omega) h.1)).symm, rfl, trivial⟩
             | exact r_loc' (ih (i + 1) (by omega)) ⟨rfl, lkI (nh_T ⟨by rw [ehv, decide_eq_true (by omega), decide_eq_true (by omega)]; rfl, by first | exact Or.inl (by omega) | exact Or.inr z48⟩).symm, rfl, trivial⟩
             | exact r_loc' (ih (i + 1) (by omega)) ⟨rfl, lkI (hng.symm.trans (nh_F (fun h => by rcases h.2 with h2 | h2; omega; rw [z48] at h2; cases h2)).symm), rfl, trivial⟩
          · have hng : nh σ i = ((nh σ i).toNat : Int) := by omega
            refine r_aload_n dX9_nextHeavy_42 rfl ?_
            refine r_iload_n dX9_nextHeavy_43 rfl ?_
            refine r_iload_n dX9_nextHeavy_44 rfl ?_
            rw [hng]
            refine r_callV (mi := iX9_nextHeavy) vX9_230 dX9_nextHeavy_45 hM.o (m_goesFirst hM hO i (nh σ i).toNat hi3 (by omega) hF) (hm := ⟨by omega, by omega⟩) (k := kP ?_) (kx := r_nox)
            refine r_bif_eq (tgt := 53) dX9_nextHeavy_48 (by decide) (kt := fun z48 => ?_) (kf := fun z48 => ?_)
            · refine r_iinc dX9_nextHeavy_53 rfl (k := ?_)
              refine r_goto (tgt := 8) dX9_nextHeavy_56 (by decide) ?_
              have hvF : ∀ b : Prop, (¬ (σ.1 5 < σ.2 11 i) ∨ ¬ σ.2 14 i = 0) → hv σ i = true → b := fun b h1 h2 => by
                rw [ehv, Bool.and_eq_true, decide_eq_true_eq, decide_eq_true_eq] at h2; exfalso; omega
              first
               | exact r_loc' (ih (i + 1) (by omega)) ⟨rfl, lkI (nh_F (fun h => hvF _ (by omega) h.1)).symm, rfl, trivial⟩
               | exact r_loc' (ih (i + 1) (by omega)) ⟨rfl, lkI (nh_T ⟨by rw [ehv, decide_eq_true (by omega), decide_eq_true (by omega)]; rfl, by first | exact Or.inl (by omega) | exact Or.inr z48⟩).symm, rfl, trivial⟩
               | exact r_loc' (ih (i + 1) (by omega)) ⟨rfl, lkI (hng.symm.trans (nh_F (fun h => by rcases h.2 with h2 | h2; omega; rw [z48] at h2; cases h2)).symm), rfl, trivial⟩
            · refine r_iload_n dX9_nextHeavy_51 rfl ?_
              refine r_istore_n dX9_nextHeavy_52 (k := ?_)
              refine r_iinc dX9_nextHeavy_53 rfl (k := ?_)
              refine r_goto (tgt := 8) dX9_nextHeavy_56 (by decide) ?_
              have hvF : ∀ b : Prop, (¬ (σ.1 5 < σ.2 11 i) ∨ ¬ σ.2 14 i = 0) → hv σ i = true → b := fun b h1 h2 => by
                rw [ehv, Bool.and_eq_true, decide_eq_true_eq, decide_eq_true_eq] at h2; exfalso; omega
              first
               | exact r_loc' (ih (i + 1) (by omega)) ⟨rfl, lkI (nh_F (fun h => hvF _ (by omega) h.1)).symm, rfl, trivial⟩
               | exact r_loc' (ih (i + 1) (by omega)) ⟨rfl, lkI (nh_T ⟨by rw [ehv, decide_eq_true (by omega), decide_eq_true (by omega)]; rfl, by first | exact Or.inl (by omega) | exact Or.inr z48⟩).symm, rfl, trivial⟩
               | exact r_loc' (ih (i + 1) (by omega)) ⟨rfl, lkI (hng.symm.trans (nh_F (fun h => by rcases h.2 with h2 | h2; omega; rw [z48] at h2; cases h2)).symm), rfl, trivial⟩
  refine r_aload_n dX9_nextHeavy_0 rfl ?_
  refine r_callV (mi := iX9_nextHeavy) vX9_143 dX9_nextHeavy_1 hM.o (m_measures hM hO) (hm := ⟨by omega, by omega⟩) (k := kV (fun M1 hP1 => ?_)) (kx := r_nox)
  obtain ⟨hK, hF⟩ := hP1
  have hM := hK.rm hM
  refine r_iconst dX9_nextHeavy_4 ?_
  refine r_istore_n dX9_nextHeavy_5 (k := ?_)
  refine r_iconst dX9_nextHeavy_6 ?_
  refine r_istore_n dX9_nextHeavy_7 (k := ?_)
  exact r_loc' (loop M1 hK hF hM (σ.1 4) 0 (by omega)) ⟨rfl, rfl, rfl, trivial⟩
def opNext (σ : St) : Rs := if nh σ (σ.1 4) < 0 then (σ, 1, 0) else (σ, 0, nh σ (σ.1 4))
theorem m_nextParcel (hM : RM M Y σ) (hO : Ok σ T) : Ht G iX9_nextParcel yX9_nextParcel 10 [.ref (Y 0)] M (MR Y M (opNext σ)) nX 0 0 := by
  have p6 := hO.1.2.2.2.2.2.1
  have hn := nh_rg (σ := σ) (σ.1 4)
  refine ht_intro (by decide +kernel) rfl rfl rfl (Nat.le_of_ble_eq_true rfl) ?_
  refine r_aload_n dX9_nextParcel_0 rfl ?_
  refine r_iconst dX9_nextParcel_1 ?_
  refine r_putI qX9_81 dX9_nextParcel_2 hM.o (kk := ?_)
  refine gm (P := MP Y M σ 0) (mp0 hM) (fun M1 hP => ?_)
  have hM := hP.1
  refine r_aload_n dX9_nextParcel_5 rfl ?_
  refine r_callV (mi := iX9_nextParcel) vX9_233 dX9_nextParcel_6 hM.o (m_nextHeavy hM hO) (hm := ⟨by omega, by omega⟩) (k := kI (fun r M2 hP2 => ?_)) (kx := r_nox)
  obtain ⟨hK, hF, hr⟩ := hP2
  subst hr
  have hP := hK.mp hP
  have hM := hP.1
  refine r_istore_n dX9_nextParcel_9 (k := ?_)
  refine r_iload_n dX9_nextParcel_10 rfl ?_
  refine r_if_ge (tgt := 22) dX9_nextParcel_11 (by decide) (kt := fun z11 => ?_) (kf := fun z11 => ?_)
  · refine r_iload_n dX9_nextParcel_22 rfl ?_
    first
     | exact r_iret dX9_nextParcel_23 (mr_of hP (by unfold opNext; exact if_neg (by omega)) (fun _ => rfl))
     | exact r_iret dX9_nextParcel_23 (mr_of (mpf hP 1) (by unfold opNext; exact if_pos (by omega)) (fun h => absurd h (by decide)))
  · refine r_aload_n dX9_nextParcel_14 rfl ?_
    refine r_iconst dX9_nextParcel_15 ?_
    refine r_callV (mi := iX9_nextParcel) vX9_100 dX9_nextParcel_16 hM.o (m_fails hM.o 1) (hm := ⟨by omega, by omega⟩) (k := kP ?_) (kx := r_nox)
    refine r_goto (tgt := 23) dX9_nextParcel_19 (by decide) ?_
    first
     | exact r_iret dX9_nextParcel_23 (mr_of hP (by unfold opNext; exact if_neg (by omega)) (fun _ => rfl))
     | exact r_iret dX9_nextParcel_23 (mr_of (mpf hP 1) (by unfold opNext; exact if_pos (by omega)) (fun h => absurd h (by decide)))
def tp (σ : St) (q : Nat) : Nat := (2 * fT σ q + 2 * σ.2 7 (σ.2 10 q) + 2) / 3
theorem m_trip (hM : RM M Y σ) (q : Nat) (hq : PqOk σ q) (hF : FarP Y (σ.1 0) (dst σ) M) : Ht G iX9_trip yX9_trip 2 [.ref (Y 0), .int (iz (q : Int))] M (rP (iz (tp σ q : Int)) M) nX 0 0 := by
  obtain ⟨q1, q2, q3, q4, q5, q6, q7, q8, q9, q10⟩ := id hq
  have l1 : fT σ q ≤ 100000 := dst_le _ _
  refine ht_intro (by decide +kernel) rfl rfl rfl (Nat.le_of_ble_eq_true rfl) ?_
  refine r_iconst dX9_trip_0 ?_
  refine r_aload_n dX9_trip_1 rfl ?_
  refine r_iload_n dX9_trip_2 rfl ?_
  refine r_callV (mi := iX9_trip) vX9_227 dX9_trip_3 hM.o (m_farTo hM q hq hF) (hm := ⟨by omega, by omega⟩) (k := kP ?_) (kx := r_nox)
  refine r_imul dX9_trip_6 ?_
  refine r_iconst dX9_trip_7 ?_
  refine r_aload_n dX9_trip_8 rfl ?_
  refine r_getR qX9_28 dX9_trip_9 hM.o (hM.r 7) (kk := ?_)
  refine r_aload_n dX9_trip_12 rfl ?_
  refine r_getR qX9_37 dX9_trip_13 hM.o (hM.r 10) (kk := ?_)
  refine r_iload_n dX9_trip_16 rfl ?_
  refine r_iald dX9_trip_17 (hM.cc 10 11 20) rfl (hM.v 10 _ (q1)) (k := ?_)
  refine r_iald dX9_trip_18 (hM.cc 7 11 30) rfl (hM.v 7 _ (q3)) (k := ?_)
  refine r_imul dX9_trip_19 ?_
  refine r_iadd dX9_trip_20 ?_
  refine r_iconst dX9_trip_21 ?_
  refine r_iadd dX9_trip_22 ?_
  refine r_iconst dX9_trip_23 ?_
  refine r_idiv dX9_trip_24 (k := ?_)
  exact r_iret dX9_trip_25 (rP_of (congrArg iz (show _ = ((tp σ q : Nat) : Int) by unfold tp; omega)))
def opTrip (σ : St) (p : Int) : Rs := if ¬ bt2 p 0 (σ.1 4 - 1) then (σ, 1, 0) else if 100000 ≤ fT σ p.toNat then (σ, 2, 0) else (σ, 0, tp σ p.toNat)
theorem opT_2 {p : Nat} (hp : p < σ.1 4) (h : 100000 ≤ fT σ p) : opTrip σ (p : Int) = (σ, 2, 0) := by
  unfold opTrip; rw [if_neg (by omega), Int.toNat_natCast]; exact if_pos h
theorem opT_0 {p : Nat} (hp : p < σ.1 4) (h : ¬ 100000 ≤ fT σ p) : opTrip σ (p : Int) = (σ, 0, (tp σ p : Int)) := by
  unfold opTrip; rw [if_neg (by omega), Int.toNat_natCast]; exact if_neg h
theorem m_tripOf (hM : RM M Y σ) (hO : Ok σ T) (p : Int) (ha : inR p) : Ht G iX9_tripOf yX9_tripOf 10 [.ref (Y 0), .int (iz p)] M (MR Y M (opTrip σ p)) nX 0 0 := by
  have p6 := hO.1.2.2.2.2.2.1
  refine ht_intro (by decide +kernel) rfl rfl rfl (Nat.le_of_ble_eq_true rfl) ?_
  refine r_aload_n dX9_tripOf_0 rfl ?_
  refine r_iconst dX9_tripOf_1 ?_
  refine r_putI qX9_81 dX9_tripOf_2 hM.o (kk := ?_)
  refine gm (P := MP Y M σ 0) (mp0 hM) (fun M1 hP => ?_)
  have hM := hP.1
  refine r_aload_n dX9_tripOf_5 rfl ?_
  refine r_iload_n dX9_tripOf_6 rfl ?_
  refine r_callV (mi := iX9_tripOf) vX9_224 dX9_tripOf_7 hM.o (m_isParcel hM (by omega) p ha) (hm := ⟨by omega, by omega⟩) (k := kP ?_) (kx := r_nox)
  refine r_dif_ne (tgt := 19) dX9_tripOf_10 (by decide) (kt := fun z10 => ?_) (kf := fun z10 => ?_)
  · obtain ⟨p, rfl⟩ := nat_of (a := p) (by omega)
    have hp : p < σ.1 4 := by omega
    have l1 : fT σ p ≤ 100000 := dst_le _ _
    refine r_aload_n dX9_tripOf_19 rfl ?_
    refine r_callV (mi := iX9_tripOf) vX9_143 dX9_tripOf_20 hM.o (m_measures hM hO) (hm := ⟨by omega, by omega⟩) (k := kV (fun M2 hP2 => ?_)) (kx := r_nox)
    obtain ⟨hK, hF⟩ := hP2
    have hP := hK.mp hP
    have hM := hP.1
    refine r_aload_n dX9_tripOf_23 rfl ?_
    refine r_iload_n dX9_tripOf_24 rfl ?_
    refine r_callV (mi := iX9_tripOf) vX9_227 dX9_tripOf_25 hM.o (m_farTo hM p (hO.pq hp) hF) (hm := ⟨by omega, by omega⟩) (k := kP ?_) (kx := r_nox)
    refine r_ldc (n := 100000) kX9_136 dX9_tripOf_28 (k := ?_)
    refine r_icmp_lt (tgt := 41) dX9_tripOf_30 (by decide) (kt := fun z30 => ?_) (kf := fun z30 => ?_)
    · refine r_aload_n dX9_tripOf_41 rfl ?_
      refine r_iload_n dX9_tripOf_42 rfl ?_
      refine r_callV (mi := iX9_tripOf) vX9_237 dX9_tripOf_43 hM.o (m_trip hM p (hO.pq hp) hF) (hm := ⟨by omega, by omega⟩) (k := kP ?_) (kx := r_nox)
      first
       | exact r_iret dX9_tripOf_46 (mr_of hP (opT_0 hp (by omega)) (fun _ => rfl))
       | exact r_iret dX9_tripOf_46 (mr_of (mpf hP 2) (opT_2 hp (by omega)) (fun h => absurd h (by decide)))
    · refine r_aload_n dX9_tripOf_33 rfl ?_
      refine r_iconst dX9_tripOf_34 ?_
      refine r_callV (mi := iX9_tripOf) vX9_100 dX9_tripOf_35 hM.o (m_fails hM.o 2) (hm := ⟨by omega, by omega⟩) (k := kP ?_) (kx := r_nox)
      refine r_goto (tgt := 46) dX9_tripOf_38 (by decide) ?_
      first
       | exact r_iret dX9_tripOf_46 (mr_of hP (opT_0 hp (by omega)) (fun _ => rfl))
       | exact r_iret dX9_tripOf_46 (mr_of (mpf hP 2) (opT_2 hp (by omega)) (fun h => absurd h (by decide)))
  · refine r_aload_n dX9_tripOf_13 rfl ?_
    refine r_iconst dX9_tripOf_14 ?_
    refine r_callV (mi := iX9_tripOf) vX9_100 dX9_tripOf_15 hM.o (m_fails hM.o 1) (hm := ⟨by omega, by omega⟩) (k := kP ?_) (kx := r_nox)
    exact r_iret dX9_tripOf_18 (mr_of (mpf hP 1) (by unfold opTrip; repeat (first | rw [if_pos (by omega)] | rw [if_neg (by omega)])) (fun h => absurd h (by decide)))
end MD11
