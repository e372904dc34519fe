/-! The class: a round's post is handed over. -/
section DLV
variable {G : GC} {M M' : Mem} {C : CE} {σ : St} {T : Nat}
theorem dlF_T {g i : Nat} (h : lightB σ g i = true) : stA (stF σ 14 (dlF σ g i)) 14 i 1 = stF σ 14 (dlF σ g (i + 1)) := by
  unfold stA
  rw [stF_stF, stF_at]
  refine congrArg (stF σ 14) (funext fun q => ?_)
  show va_up (dlF σ g i) i 1 q = _
  by_cases e : q = i
  · subst e
    rw [up_s]
    exact (if_pos ⟨Nat.lt_succ_self _, h⟩).symm
  · rw [up_n _ _ e]
    unfold dlF
    by_cases e2 : q < i ∧ lightB σ g q = true
    · rw [if_pos e2, if_pos ⟨by omega, e2.2⟩]
    · rw [if_neg e2, if_neg (fun h => e2 ⟨by omega, h.2⟩)]
theorem dlF_F {g i : Nat} (h : ¬ lightB σ g i = true) : dlF σ g i = dlF σ g (i + 1) := by
  funext q
  unfold dlF
  by_cases e2 : q < i ∧ lightB σ g q = true
  · rw [if_pos e2, if_pos ⟨by omega, e2.2⟩]
  · rw [if_neg e2, if_neg (fun h9 => ?_)]
    by_cases e : q = i
    · subst e; exact h h9.2
    · exact e2 ⟨by omega, h9.2⟩
theorem leF_T {τ : St} {g i : Nat} (h : inG σ (σ.2 5 i) g = true) : stA (stF τ 8 (leF σ g i)) 8 i 0 = stF τ 8 (leF σ g (i + 1)) := by
  unfold stA
  rw [stF_stF, stF_at]
  refine congrArg (stF τ 8) (funext fun q => ?_)
  show va_up (leF σ g i) i 0 q = _
  by_cases e : q = i
  · subst e
    rw [up_s]
    exact (if_pos ⟨Nat.lt_succ_self _, h⟩).symm
  · rw [up_n _ _ e]
    unfold leF
    by_cases e2 : q < i ∧ inG σ (σ.2 5 q) g = true
    · rw [if_pos e2, if_pos ⟨by omega, e2.2⟩]
    · rw [if_neg e2, if_neg (fun h => e2 ⟨by omega, h.2⟩)]
theorem leF_F {g i : Nat} (h : ¬ inG σ (σ.2 5 i) g = true) : leF σ g i = leF σ g (i + 1) := by
  funext q
  unfold leF
  by_cases e2 : q < i ∧ inG σ (σ.2 5 q) g = true
  · rw [if_pos e2, if_pos ⟨by omega, e2.2⟩]
  · rw [if_neg e2, if_neg (fun h9 => ?_)]
    by_cases e : q = i
    · subst e; exact h h9.2
    · exact e2 ⟨by omega, h9.2⟩
theorem x_handOver (hM : XM G M C σ) (hO : Ok σ T) {g : Nat} (hg : g < 16) : Ht G iX8_handOver yX8_handOver 10 [.ref (eX C 0), .int (iz (g : Int))] M (rV fun M' => FX C M M' ∧ XM G M' C (stF (stF σ 14 (dlF σ g (σ.1 4))) 8 (leF σ g (σ.1 2)))) nX 0 0 := by
  have p4 := hO.1.2.2.2.1
  have p6 := hO.1.2.2.2.2.2.1
  have p15 := hO.1.2.2.2.2.2.2.2.2.2.2.2.2.2.2
  refine ht_intro (by decide +kernel) rfl rfl rfl (Nat.le_of_ble_eq_true rfl) ?_
  have loop2 : ∀ (k i : Nat) (M1 : Mem), i + k = σ.1 2 → FX C M M1 → XM G M1 C (stF (stF σ 14 (dlF σ g (σ.1 4))) 8 (leF σ g i)) → SWG G iX8_handOver (rmd 10 0 0) (QF G (rV fun M' => FX C M M' ∧ XM G M' C (stF (stF σ 14 (dlF σ g (σ.1 4))) 8 (leF σ g (σ.1 2)))) nX 0 0) 60 [(2, .int (iz (i : Int))), (0, .ref (eX C 0)), (1, .int (iz (g : Int)))] [] M1 0 0 := by
    intro k
    induction k with
    | zero =>
      intro i M1 hi hF hM1
      have hi2 : i = σ.1 2 := by omega
      subst hi2
      have hX := hM1.1
      refine r_iload_n dX8_handOver_60 rfl ?_
      refine r_aload_n dX8_handOver_61 rfl ?_
      refine r_getR qX8_16 dX8_handOver_62 (hX.x 0 8 0) (hX.f 0 513 2) (kk := ?_)
      refine r_callV (mi := iX8_handOver) vX8_77 dX8_handOver_65 (hX.x 2 10 0) (c_size (n := σ.1 2) (hX.l 2)) (hm := by first | exact ⟨Nat.le_of_ble_eq_true rfl, Nat.le_of_ble_eq_true rfl⟩ | (constructor <;> simp only [rmd] <;> omega)) (k := kP ?_) (kx := r_nox)
      refine r_icmp_ge (tgt := 105) dX8_handOver_68 (by decide) (kt := fun z68 => ?_) (kf := fun z68 => (by exfalso; first | omega | simp_all))
      exact r_vret dX8_handOver_105 (⟨rfl, hF, hM1⟩)
    | succ k ih =>
      intro i M1 hi hF hM1
      have hi3 : i < σ.1 2 := by omega
      have hX := hM1.1
      obtain ⟨h1, -⟩ := hO.2.2.1 i hi3
      have hle : ∀ h, h < σ.1 2 → leF σ g i h ≤ 99 := fun h hh => by
        have := (hO.2.2.1 h hh).2.2.2
        unfold leF; split <;> omega
      have hO2 : Ok (stF (stF σ 14 (dlF σ g (σ.1 4))) 8 (leF σ g i)) T := ok_8 (ok_14 hO (dlF_le hO g (σ.1 4))) hle (fun h hh => by
        have := p15 h hh
        unfold leF; split <;> omega)
      refine r_iload_n dX8_handOver_60 rfl ?_
      refine r_aload_n dX8_handOver_61 rfl ?_
      refine r_getR qX8_16 dX8_handOver_62 (hX.x 0 8 0) (hX.f 0 513 2) (kk := ?_)
      refine r_callV (mi := iX8_handOver) vX8_77 dX8_handOver_65 (hX.x 2 10 0) (c_size (n := σ.1 2) (hX.l 2)) (hm := by first | exact ⟨Nat.le_of_ble_eq_true rfl, Nat.le_of_ble_eq_true rfl⟩ | (constructor <;> simp only [rmd] <;> omega)) (k := kP ?_) (kx := r_nox)
      refine r_icmp_ge (tgt := 105) dX8_handOver_68 (by decide) (kt := fun z68 => (by exfalso; first | omega | simp_all)) (kf := fun z68 => ?_)
      refine r_aload_n dX8_handOver_71 rfl ?_
      refine r_getR qX8_16 dX8_handOver_72 (hX.x 0 8 0) (hX.f 0 513 2) (kk := ?_)
      refine r_iload_n dX8_handOver_75 rfl ?_
      refine r_callV (mi := iX8_handOver) vX8_153 dX8_handOver_76 (hX.x 2 10 0) (c_get (hX.l 2) (hi3) (hX.q 2 _ (hi3))) (hm := by first | exact ⟨Nat.le_of_ble_eq_true rfl, Nat.le_of_ble_eq_true rfl⟩ | (constructor <;> simp only [rmd] <;> omega)) (k := kPA ?_) (kx := r_nox)
      refine r_cast nX8_110.1 dX8_handOver_79 (hX.k1 _ (hi3)) (k := ?_)
      refine r_astore_n dX8_handOver_82 (k := ?_)
      refine r_aload_n dX8_handOver_83 rfl ?_
      refine r_getR qX8_169 dX8_handOver_84 (hX.k1 i hi3) (hX.g65 i hi3) (kk := ?_)
      refine r_iload_n dX8_handOver_87 rfl ?_
      refine r_callS (mi := iX8_handOver) vX8_353 dX8_handOver_88 (x_isIn hX hO2 (σ.2 5 i) g h1 hg) (hm := by first | exact ⟨Nat.le_of_ble_eq_true rfl, Nat.le_of_ble_eq_true rfl⟩ | (constructor <;> simp only [rmd] <;> omega)) (k := kP ?_) (kx := r_nox)
      refine r_bif_eq (tgt := 99) dX8_handOver_91 (by decide) (kt := fun z91 => ?_) (kf := fun z91 => ?_)
      · refine r_iinc dX8_handOver_99 rfl (k := ?_)
        refine r_goto (tgt := 60) dX8_handOver_102 (by decide) ?_
        first
         | (have e1 : ¬ inG σ (σ.2 5 i) g = true := by rw [show inG σ (σ.2 5 i) g = false from z91]; exact Bool.false_ne_true
            rw [leF_F e1] at hM1
            exact r_loc' (ih (i + 1) M1 (by omega) hF hM1) ⟨rfl, rfl, rfl, trivial⟩)
         | (have e1 : inG σ (σ.2 5 i) g = true := z91
            have hq := XM.el hM1 (j := 2) (f := 68) (i := i) (k := 8) (v := 0) (t0 := 1) (x := iz 0) (Or.inl ⟨rfl, rfl, rfl, rfl⟩) hi3 rfl
            rw [leF_T e1] at hq
            exact r_loc' (ih (i + 1) _ (by omega) (hF.tr rfl (FX.i (hX.k1 i hi3) (by decide))) hq) ⟨rfl, rfl, rfl, trivial⟩)
      · refine r_aload_n dX8_handOver_94 rfl ?_
        refine r_iconst dX8_handOver_95 ?_
        refine r_putI qX8_139 dX8_handOver_96 (hX.k1 i hi3) (kk := ?_)
        refine r_iinc dX8_handOver_99 rfl (k := ?_)
        refine r_goto (tgt := 60) dX8_handOver_102 (by decide) ?_
        first
         | (have e1 : ¬ inG σ (σ.2 5 i) g = true := by rw [show inG σ (σ.2 5 i) g = false from z91]; exact Bool.false_ne_true
            rw [leF_F e1] at hM1
            exact r_loc' (ih (i + 1) M1 (by omega) hF hM1) ⟨rfl, rfl, rfl, trivial⟩)
         | (have e1 : inG σ (σ.2 5 i) g = true := z91
            have hq := XM.el hM1 (j := 2) (f := 68) (i := i) (k := 8) (v := 0) (t0 := 1) (x := iz 0) (Or.inl ⟨rfl, rfl, rfl, rfl⟩) hi3 rfl
            rw [leF_T e1] at hq
            exact r_loc' (ih (i + 1) _ (by omega) (hF.tr rfl (FX.i (hX.k1 i hi3) (by decide))) hq) ⟨rfl, rfl, rfl, trivial⟩)
  have loop1 : ∀ (k i : Nat) (M1 : Mem), i + k = σ.1 4 → FX C M M1 → XM G M1 C (stF σ 14 (dlF σ g i)) → SWG G iX8_handOver (rmd 10 0 0) (QF G (rV fun M' => FX C M M' ∧ XM G M' C (stF (stF σ 14 (dlF σ g (σ.1 4))) 8 (leF σ g (σ.1 2)))) nX 0 0) 2 [(2, .int (iz (i : Int))), (0, .ref (eX C 0)), (1, .int (iz (g : Int)))] [] M1 0 0 := by
    intro k
    induction k with
    | zero =>
      intro i M1 hi hF hM1
      have hi2 : i = σ.1 4 := by omega
      subst hi2
      have hX := hM1.1
      refine r_iload_n dX8_handOver_2 rfl ?_
      refine r_aload_n dX8_handOver_3 rfl ?_
      refine r_getR qX8_22 dX8_handOver_4 (hX.x 0 8 0) (hX.f 0 515 4) (kk := ?_)
      refine r_callV (mi := iX8_handOver) vX8_77 dX8_handOver_7 (hX.x 4 10 0) (c_size (n := σ.1 4) (hX.l 4)) (hm := by first | exact ⟨Nat.le_of_ble_eq_true rfl, Nat.le_of_ble_eq_true rfl⟩ | (constructor <;> simp only [rmd] <;> omega)) (k := kP ?_) (kx := r_nox)
      refine r_icmp_ge (tgt := 58) dX8_handOver_10 (by decide) (kt := fun z10 => ?_) (kf := fun z10 => (by exfalso; first | omega | simp_all))
      refine r_iconst dX8_handOver_58 ?_
      refine r_istore_n dX8_handOver_59 (k := ?_)
      refine r_loc' (loop2 (σ.1 2) 0 M1 (by omega) hF ?_) ⟨rfl, rfl, rfl, trivial⟩
      rw [show leF σ g 0 = (stF σ 14 (dlF σ g (σ.1 4))).2 8 from funext fun h => if_neg (by omega), stF_id]
      exact hM1
    | succ k ih =>
      intro i M1 hi hF hM1
      have hi3 : i < σ.1 4 := by omega
      have hX := hM1.1
      have hq4 := (hO.2.2.2.2 i hi3).1
      have h1 := (hO.2.2.1 _ hq4).1
      have hO2 := ok_14 hO (dlF_le hO g i)
      have e14 : dlF σ g i i = σ.2 14 i := if_neg (by omega)
      have el : light (stF σ 14 (dlF σ g i)) i = light σ i := by
        show ((dlF σ g i i == 0) && decide (σ.2 11 i ≤ σ.1 5)) = _
        rw [e14]; rfl
      have hlb : lightB σ g i = (inG σ (σ.2 5 (σ.2 10 i)) g && light σ i) := rfl
      refine r_iload_n dX8_handOver_2 rfl ?_
      refine r_aload_n dX8_handOver_3 rfl ?_
      refine r_getR qX8_22 dX8_handOver_4 (hX.x 0 8 0) (hX.f 0 515 4) (kk := ?_)
      refine r_callV (mi := iX8_handOver) vX8_77 dX8_handOver_7 (hX.x 4 10 0) (c_size (n := σ.1 4) (hX.l 4)) (hm := by first | exact ⟨Nat.le_of_ble_eq_true rfl, Nat.le_of_ble_eq_true rfl⟩ | (constructor <;> simp only [rmd] <;> omega)) (k := kP ?_) (kx := r_nox)
      refine r_icmp_ge (tgt := 58) dX8_handOver_10 (by decide) (kt := fun z10 => (by exfalso; first | omega | simp_all)) (kf := fun z10 => ?_)
      refine r_aload_n dX8_handOver_13 rfl ?_
      refine r_getR qX8_22 dX8_handOver_14 (hX.x 0 8 0) (hX.f 0 515 4) (kk := ?_)
      refine r_iload_n dX8_handOver_17 rfl ?_
      refine r_callV (mi := iX8_handOver) vX8_153 dX8_handOver_18 (hX.x 4 10 0) (c_get (hX.l 4) (hi3) (hX.q 4 _ (hi3))) (hm := by first | exact ⟨Nat.le_of_ble_eq_true rfl, Nat.le_of_ble_eq_true rfl⟩ | (constructor <;> simp only [rmd] <;> omega)) (k := kPA ?_) (kx := r_nox)
      refine r_cast nX8_148.1 dX8_handOver_21 (hX.k2 _ (hi3)) (k := ?_)
      refine r_astore_n dX8_handOver_24 (k := ?_)
      refine r_aload_n dX8_handOver_25 rfl ?_
      refine r_getR qX8_345 dX8_handOver_26 (hX.k2 i hi3) (hX.g128 i hi3) (kk := ?_)
      refine r_getR qX8_169 dX8_handOver_29 (hX.k1 (σ.2 10 i) hq4) (hX.g65 (σ.2 10 i) hq4) (kk := ?_)
      refine r_iload_n dX8_handOver_32 rfl ?_
      refine r_callS (mi := iX8_handOver) vX8_353 dX8_handOver_33 (x_isIn hX hO2 (σ.2 5 (σ.2 10 i)) g h1 hg) (hm := by first | exact ⟨Nat.le_of_ble_eq_true rfl, Nat.le_of_ble_eq_true rfl⟩ | (constructor <;> simp only [rmd] <;> omega)) (k := kP ?_) (kx := r_nox)
      refine r_bif_eq (tgt := 52) dX8_handOver_36 (by decide) (kt := fun z36 => ?_) (kf := fun z36 => ?_)
      · refine r_iinc dX8_handOver_52 rfl (k := ?_)
        refine r_goto (tgt := 2) dX8_handOver_55 (by decide) ?_
        first
         | (have e1 : ¬ lightB σ g i = true := by rw [hlb, show inG σ (σ.2 5 (σ.2 10 i)) g = false from z36, Bool.false_and]; exact Bool.false_ne_true
            rw [dlF_F e1] at hM1
            exact r_loc' (ih (i + 1) M1 (by omega) hF hM1) ⟨rfl, rfl, rfl, trivial⟩)
         | (have e1 : ¬ lightB σ g i = true := by rw [hlb, z44, Bool.and_false]; exact Bool.false_ne_true
            rw [dlF_F e1] at hM1
            exact r_loc' (ih (i + 1) M1 (by omega) hF hM1) ⟨rfl, rfl, rfl, trivial⟩)
         | (have e1 : lightB σ g i = true := by rw [hlb, z44, show inG σ (σ.2 5 (σ.2 10 i)) g = true from z36]; rfl
            have hq := XM.el hM1 (j := 4) (f := 131) (i := i) (k := 14) (v := 1) (t0 := 2) (x := bz true) (Or.inr (Or.inr ⟨rfl, rfl, rfl, rfl⟩)) hi3 rfl
            rw [dlF_T e1] at hq
            exact r_loc' (ih (i + 1) _ (by omega) (hF.tr rfl (FX.i (hX.k2 i hi3) (by decide))) hq) ⟨rfl, rfl, rfl, trivial⟩)
      · refine r_aload_n dX8_handOver_39 rfl ?_
        refine r_aload_n dX8_handOver_40 rfl ?_
        refine r_callV (mi := iX8_handOver) vX8_349 dX8_handOver_41 (hX.x 0 8 0) (x_isLight hX hO2 i hi3) (hm := by first | exact ⟨Nat.le_of_ble_eq_true rfl, Nat.le_of_ble_eq_true rfl⟩ | (constructor <;> simp only [rmd] <;> omega)) (k := kP ?_) (kx := r_nox)
        rw [el]
        refine r_bif_eq (tgt := 52) dX8_handOver_44 (by decide) (kt := fun z44 => ?_) (kf := fun z44 => ?_)
        · refine r_iinc dX8_handOver_52 rfl (k := ?_)
          refine r_goto (tgt := 2) dX8_handOver_55 (by decide) ?_
          first
           | (have e1 : ¬ lightB σ g i = true := by rw [hlb, show inG σ (σ.2 5 (σ.2 10 i)) g = false from z36, Bool.false_and]; exact Bool.false_ne_true
              rw [dlF_F e1] at hM1
              exact r_loc' (ih (i + 1) M1 (by omega) hF hM1) ⟨rfl, rfl, rfl, trivial⟩)
           | (have e1 : ¬ lightB σ g i = true := by rw [hlb, z44, Bool.and_false]; exact Bool.false_ne_true
              rw [dlF_F e1] at hM1
              exact r_loc' (ih (i + 1) M1 (by omega) hF hM1) ⟨rfl, rfl, rfl, trivial⟩)
           | (have e1 : lightB σ g i = true := by rw [hlb, z44, show inG σ (σ.2 5 (σ.2 10 i)) g = true from z36]; rfl
              have hq := XM.el hM1 (j := 4) (f := 131) (i := i) (k := 14) (v := 1) (t0 := 2) (x := bz true) (Or.inr (Or.inr ⟨rfl, rfl, rfl, rfl⟩)) hi3 rfl
              rw [dlF_T e1] at hq
              exact r_loc' (ih (i + 1) _ (by omega) (hF.tr rfl (FX.i (hX.k2 i hi3) (by decide))) hq) ⟨rfl, rfl, rfl, trivial⟩)
        · refine r_aload_n dX8_handOver_47 rfl ?_
          refine r_iconst dX8_handOver_48 ?_
          refine gs (show iz 1 = bz true from rfl) ?_
          refine r_putZ qX8_297 dX8_handOver_49 (x := true) (hX.k2 i hi3) (kk := ?_)
          refine r_iinc dX8_handOver_52 rfl (k := ?_)
          refine r_goto (tgt := 2) dX8_handOver_55 (by decide) ?_
          first
           | (have e1 : ¬ lightB σ g i = true := by rw [hlb, show inG σ (σ.2 5 (σ.2 10 i)) g = false from z36, Bool.false_and]; exact Bool.false_ne_true
              rw [dlF_F e1] at hM1
              exact r_loc' (ih (i + 1) M1 (by omega) hF hM1) ⟨rfl, rfl, rfl, trivial⟩)
           | (have e1 : ¬ lightB σ g i = true := by rw [hlb, z44, Bool.and_false]; exact Bool.false_ne_true
              rw [dlF_F e1] at hM1
              exact r_loc' (ih (i + 1) M1 (by omega) hF hM1) ⟨rfl, rfl, rfl, trivial⟩)
           | (have e1 : lightB σ g i = true := by rw [hlb, z44, show inG σ (σ.2 5 (σ.2 10 i)) g = true from z36]; rfl
              have hq := XM.el hM1 (j := 4) (f := 131) (i := i) (k := 14) (v := 1) (t0 := 2) (x := bz true) (Or.inr (Or.inr ⟨rfl, rfl, rfl, rfl⟩)) hi3 rfl
              rw [dlF_T e1] at hq
              exact r_loc' (ih (i + 1) _ (by omega) (hF.tr rfl (FX.i (hX.k2 i hi3) (by decide))) hq) ⟨rfl, rfl, rfl, trivial⟩)
  refine r_iconst dX8_handOver_0 ?_
  refine r_istore_n dX8_handOver_1 (k := ?_)
  refine r_loc' (loop1 (σ.1 4) 0 M (by omega) FX.rf ?_) ⟨rfl, rfl, rfl, trivial⟩
  rw [show dlF σ g 0 = σ.2 14 from funext fun q => if_neg (by omega), stF_id]
  exact hM
theorem win_iff {g l : Nat} : (lenI σ g ≠ -1 ∧ lenI σ g + sT σ g ≤ l) ↔ ¬ (hW σ g = false ∨ l < wT σ g) := by
  have e8 : wT σ g = wL σ g + sT σ g := by unfold wT sT; omega
  cases hw : hW σ g with
  | true =>
    have : lenI σ g = wL σ g := if_pos hw
    rw [this, e8]
    constructor
    · rintro ⟨-, h⟩ (h2 | h2)
      · cases h2
      · omega
    · intro h
      have : ¬ l < wL σ g + sT σ g := fun h2 => h (Or.inr h2)
      exact ⟨by omega, by omega⟩
  | false =>
    have : lenI σ g = -1 := if_neg (by rw [hw]; decide)
    rw [this]
    exact ⟨fun h => absurd rfl h.1, fun h => absurd (Or.inl rfl) h⟩
theorem y_deliver (hM : XM G M C σ) (hO : Ok σ T) (r : Int) (ha : inR r) : Ht G iX8_deliver yX8_deliver 24 [.ref (eX C 0), .int (iz r)] M (CR G C M (opDeliver σ r)) (CX G C M (opDeliver σ r) [NSE, ISE]) 60 1400 := by
  have hX := hM.1
  have p5 := hO.1.2.2.2.2.1
  refine ht_intro (by decide +kernel) rfl rfl rfl (Nat.le_of_ble_eq_true rfl) ?_
  refine r_aload_n dX8_deliver_0 rfl ?_
  refine r_iload_n dX8_deliver_1 rfl ?_
  refine r_callV (mi := iX8_deliver) vX8_124 dX8_deliver_2 (hX.x 0 8 0) (x_findRound hX (by omega) r ha) (hm := by first | exact ⟨Nat.le_of_ble_eq_true rfl, Nat.le_of_ble_eq_true rfl⟩ | (constructor <;> simp only [rmd] <;> omega)) (k := kT (fun hb1 => kPA ?_)) (kx := kxT (fun hb1 n hn => cx_rd (c := 0) hM hO hn (if_pos hb1) rfl))
  obtain ⟨r, rfl⟩ := nat_of (a := r) (by omega)
  rw [Int.toNat_natCast]
  have hr : r < σ.1 3 := by omega
  have h9 := hO.2.2.2.1 r hr
  have hlb := lenI_b (σ := σ) true (2 ^ r)
  have e0 : opDeliver σ (r : Int) = (if hW σ (2 ^ r) = false ∨ σ.2 9 r < wT σ (2 ^ r) then (σ, 2, 0) else (stS (stF (stF σ 14 (dlF σ (2 ^ r) (σ.1 4))) 8 (leF σ (2 ^ r) (σ.1 2))) 9 (σ.1 9 + wL σ (2 ^ r)), 0, ((dueN σ (2 ^ r) : Nat) : Int)) : Rs) := by
    unfold opDeliver; rw [if_neg (by omega), Int.toNat_natCast]
  rw [e0]
  refine r_getI qX8_253 dX8_deliver_5 (hX.k4 r hr) (hX.g256 r hr) (kk := ?_)
  refine r_istore_n dX8_deliver_8 (k := ?_)
  refine r_iload_n dX8_deliver_9 rfl ?_
  refine r_callS (mi := iX8_deliver) vX8_185 dX8_deliver_10 (x_groupOf r (z := r) rfl (by omega)) (hm := by first | exact ⟨Nat.le_of_ble_eq_true rfl, Nat.le_of_ble_eq_true rfl⟩ | (constructor <;> simp only [rmd] <;> omega)) (k := kP ?_) (kx := r_nox)
  refine r_istore_n dX8_deliver_13 (k := ?_)
  refine r_aload_n dX8_deliver_14 rfl ?_
  refine r_iload_n dX8_deliver_15 rfl ?_
  refine r_callV (mi := iX8_deliver) vX8_256 dX8_deliver_16 (hX.x 0 8 0) (x_lengthOf hM hO (g := 2 ^ r) (two_lt (by omega))) (hm := by first | exact ⟨Nat.le_of_ble_eq_true rfl, Nat.le_of_ble_eq_true rfl⟩ | (constructor <;> simp only [rmd] <;> omega)) (k := kI (fun x M2 h2 => ?_)) (kx := r_nox)
  obtain ⟨rfl, k2, hM2, -⟩ := h2
  have hX := hM2.1
  refine r_istore dX8_deliver_19 (k := ?_)
  refine r_aload_n dX8_deliver_21 rfl ?_
  refine r_iload_n dX8_deliver_22 rfl ?_
  refine r_iload dX8_deliver_23 rfl ?_
  refine r_iload_n dX8_deliver_25 rfl ?_
  refine r_callV (mi := iX8_deliver) vX8_259 dX8_deliver_26 (hX.x 0 8 0) (x_isWithin hX hO (2 ^ r) (σ.2 9 r) (lenI σ (2 ^ r)) (two_lt (by omega)) h9.2 (by omega)) (hm := by first | exact ⟨Nat.le_of_ble_eq_true rfl, Nat.le_of_ble_eq_true rfl⟩ | (constructor <;> simp only [rmd] <;> omega)) (k := kP ?_) (kx := r_nox)
  refine r_dif_ne (tgt := 43) dX8_deliver_29 (by decide) (kt := fun z29 => ?_) (kf := fun z29 => ?_)
  · have hne := win_iff.mp z29
    have hwt : hW σ (2 ^ r) = true := by
      cases hw : hW σ (2 ^ r) with
      | true => rfl
      | false => exact absurd (Or.inl hw) hne
    have hlw : lenI σ (2 ^ r) = wL σ (2 ^ r) := if_pos hwt
    have hwle : wL σ (2 ^ r) ≤ 100000 := gV_le
    rw [hlw]
    refine r_aload_n dX8_deliver_43 rfl ?_
    refine r_iload_n dX8_deliver_44 rfl ?_
    refine r_callV (mi := iX8_deliver) vX8_189 dX8_deliver_45 (hX.x 0 8 0) (x_dueHouses hX hO (2 ^ r) (two_lt (by omega))) (hm := by first | exact ⟨Nat.le_of_ble_eq_true rfl, Nat.le_of_ble_eq_true rfl⟩ | (constructor <;> simp only [rmd] <;> omega)) (k := kP ?_) (kx := r_nox)
    refine r_istore dX8_deliver_48 (k := ?_)
    refine r_aload_n dX8_deliver_50 rfl ?_
    refine r_iload_n dX8_deliver_51 rfl ?_
    refine r_callV (mi := iX8_deliver) vX8_269 dX8_deliver_52 (hX.x 0 8 0) (x_handOver hM2 hO (g := 2 ^ r) (two_lt (by omega))) (hm := by first | exact ⟨Nat.le_of_ble_eq_true rfl, Nat.le_of_ble_eq_true rfl⟩ | (constructor <;> simp only [rmd] <;> omega)) (k := kV (fun M3 h3 => ?_)) (kx := r_nox)
    obtain ⟨f3, hM3⟩ := h3
    have hX := hM3.1
    refine r_aload_n dX8_deliver_55 rfl ?_
    refine r_dup dX8_deliver_56 (k := ?_)
    refine r_getJ qX8_272 dX8_deliver_57 (hX.x 0 8 0) hX.j524 (kk := ?_)
    refine r_iload dX8_deliver_60 rfl ?_
    refine r_i2l dX8_deliver_62 (iz_long (by omega)) ?_
    refine r_ladd dX8_deliver_63 ?_
    rw [lN_add]
    refine r_putJ qX8_272 dX8_deliver_64 (hX.x 0 8 0) (kk := ?_)
    refine r_iload dX8_deliver_67 rfl ?_
    exact r_iret dX8_deliver_69 (cr_of (if_neg hne) rfl (XQ.of ((k2.fx.tr rfl f3).tr rfl (FX.j (hX.x 0 8 0) (by decide))) (hM3.s9 (σ.1 9 + wL σ (2 ^ r)))))
  · exact r_throwXW (mi := iX8_deliver) xw_57 hX.gD (text := "the round is not in time") (is := 267) (by decide +kernel) dX8_deliver_32 dX8_deliver_35 dX8_deliver_36 dX8_deliver_39 dX8_deliver_42 (hm := by exact ⟨Nat.le_of_ble_eq_true rfl, Nat.le_of_ble_eq_true rfl⟩) (hm2 := by exact ⟨Nat.le_of_ble_eq_true rfl, Nat.le_of_ble_eq_true rfl⟩) (hx := fun n hn => cx_of (c := 1) (if_pos (Classical.byContradiction fun h => z29 (win_iff.mpr h))) rfl (XQ.tr k2.fx (XQ.n hM2 hO hn)))
end DLV
