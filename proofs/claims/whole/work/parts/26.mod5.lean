/-! The reference: needs and choices. -/
section MD5
variable {G : GC} {M M0 : Mem} {Y : Nat → Nat} {σ : St} {T : Nat} {Qf : List Frame → Array Value → State → State → Prop}
theorem getD_app1 {α : Type} {l : List α} {x d : α} {i : Nat} (h : i < l.length) : (l ++ [x]).getD i d = l.getD i d := by
  rw [List.getD_eq_getElem?_getD, List.getD_eq_getElem?_getD, List.getElem?_append_left h]
theorem getD_app2 {α : Type} {l : List α} {x d : α} : (l ++ [x]).getD l.length d = x := by
  rw [List.getD_eq_getElem?_getD, List.getElem?_append_right (Nat.le_refl _), Nat.sub_self]; rfl
/-- the reference's list of needs -/
def UnP (Y : Nat → Nat) (l : List Nat) (M : Mem) : Prop := mI M 603 (Y 0) = iz (l.length : Int) ∧ ∀ i, i < l.length → mA M (Y 26) i = iz (l.getD i 0 : Int)
/-- the reference's list of choices -/
def ChP (Y : Nat → Nat) (l : List (Nat × Nat)) (M : Mem) : Prop := mI M 609 (Y 0) = iz (l.length : Int) ∧ ∀ i, i < l.length → mA M (Y 31) i = iz ((l.getD i (0, 0)).1 : Int) ∧ mA M (Y 32) i = iz ((l.getD i (0, 0)).2 : Int)
theorem UnP.eq {l l' : List Nat} (h : UnP Y l M) (e : l = l') : UnP Y l' M := e ▸ h
theorem UnP.kp {l : List Nat} {M' : Mem} {fs ks : List Nat} (h : UnP Y l M) (hK : Kp Y fs ks M M') (hM : RM M Y σ) (h1 : 603 ∉ fs := by decide) (h2 : ∀ j ∈ ks, j ≠ 26 ∧ j ∈ arK := by decide) : UnP Y l M' := ⟨(hK.fld 603 h1).trans h.1, fun i hi => by rw [hK.row hM 26 (by decide) h2]; exact h.2 i hi⟩
theorem ChP.kp {l : List (Nat × Nat)} {M' : Mem} {fs ks : List Nat} (h : ChP Y l M) (hK : Kp Y fs ks M M') (hM : RM M Y σ) (h1 : 609 ∉ fs := by decide) (h2 : ∀ j ∈ ks, j ≠ 31 ∧ j ≠ 32 ∧ j ∈ arK := by decide) : ChP Y l M' := ⟨(hK.fld 609 h1).trans h.1, fun i hi => by
  rw [hK.row hM 31 (by decide) (fun j hj => ⟨(h2 j hj).1, (h2 j hj).2.2⟩), hK.row hM 32 (by decide) (fun j hj => (h2 j hj).2)]; exact h.2 i hi⟩
theorem FarP.kp {n : Nat} {F : Nat → Nat → Nat} {M' : Mem} {fs ks : List Nat} (h : FarP Y n F M) (hK : Kp Y fs ks M M') (hM : RM M Y σ) (h2 : ∀ j ∈ ks, j ≠ 25 ∧ j ∈ arK := by decide) : FarP Y n F M' := fun a b ha hb => by rw [hK.row hM 25 (by decide) h2]; exact h a b ha hb
theorem m_isSideDue (hM : RM M Y σ) (hO : Ok σ T) (s d : Nat) (hs : s < 100) (hd : d ≤ 1) : Ht G iX9_isSideDue yX9_isSideDue 7 [.ref (Y 0), .int (iz (s : Int)), .int (iz (d : Int))] M (rP (bz (sd σ s d)) M) nX 0 0 := by
  obtain ⟨⟨p1, p2, p3, p4, -⟩, hS, hH, -⟩ := id hO
  refine ht_intro (by decide +kernel) rfl rfl rfl (Nat.le_of_ble_eq_true rfl) ?_
  have loop : ∀ k i : Nat, i + k = σ.1 2 → (∀ j, j < i → (decide (σ.2 5 j = s) && decide (σ.2 6 j = d) && post σ j) = false) → SWG G iX9_isSideDue (rmd 7 0 0) (QF G (rP (bz (sd σ s d)) M) nX 0 0) 2 [(3, .int (iz (i : Int))), (0, .ref (Y 0)), (1, .int (iz (s : Int))), (2, .int (iz (d : Int)))] [] M 0 0 := by
    intro k
    induction k with
    | zero =>
      intro i hi hn
      have hi2 : i = σ.1 2 := by omega
      subst hi2
      refine r_iload_n dX9_isSideDue_2 rfl ?_
      refine r_aload_n dX9_isSideDue_3 rfl ?_
      refine r_getI qX9_91 dX9_isSideDue_4 hM.o (x := iz (σ.1 2 : Int)) (hM.s 2) (kk := ?_)
      refine r_icmp_ge (tgt := 46) dX9_isSideDue_7 (by decide) (kt := fun z7 => ?_) (kf := fun z7 => (by exfalso; first | omega | simp_all))
      refine r_iconst dX9_isSideDue_46 ?_
      exact r_iret dX9_isSideDue_47 (rP_of (bz_F (any_f _ _ hn)))
    | succ k ih =>
      intro i hi hn
      have hi3 : i < σ.1 2 := by omega
      obtain ⟨h1, h2, h3, h4⟩ := hH i hi3
      refine r_iload_n dX9_isSideDue_2 rfl ?_
      refine r_aload_n dX9_isSideDue_3 rfl ?_
      refine r_getI qX9_91 dX9_isSideDue_4 hM.o (x := iz (σ.1 2 : Int)) (hM.s 2) (kk := ?_)
      refine r_icmp_ge (tgt := 46) dX9_isSideDue_7 (by decide) (kt := fun z7 => (by exfalso; first | omega | simp_all)) (kf := fun z7 => ?_)
      refine r_aload_n dX9_isSideDue_10 rfl ?_
      refine r_getR qX9_22 dX9_isSideDue_11 hM.o (hM.r 5) (kk := ?_)
      refine r_iload_n dX9_isSideDue_14 rfl ?_
      refine r_iald dX9_isSideDue_15 (hM.cc 5 11 30) rfl (hM.v 5 _ (hi3)) (k := ?_)
      refine r_iload_n dX9_isSideDue_16 rfl ?_
      refine r_icmp_ne (tgt := 40) dX9_isSideDue_17 (by decide) (kt := fun z17 => ?_) (kf := fun z17 => ?_)
      · refine r_iinc dX9_isSideDue_40 rfl (k := ?_)
        refine r_goto (tgt := 2) dX9_isSideDue_43 (by decide) ?_
        refine r_loc' (ih (i + 1) (by omega) (fun j hj => ?_)) ⟨rfl, rfl, rfl, rfl, trivial⟩
        by_cases e : j = i
        · subst e
          first
            | (rw [z35]; exact Bool.and_false _)
            | (rw [Bool.and_eq_false_iff, Bool.and_eq_false_iff, decide_eq_false_iff_not, decide_eq_false_iff_not]; omega)
        · exact hn j (by omega)
      · refine r_aload_n dX9_isSideDue_20 rfl ?_
        refine r_getR qX9_25 dX9_isSideDue_21 hM.o (hM.r 6) (kk := ?_)
        refine r_iload_n dX9_isSideDue_24 rfl ?_
        refine r_iald dX9_isSideDue_25 (hM.cc 6 11 30) rfl (hM.v 6 _ (hi3)) (k := ?_)
        refine r_iload_n dX9_isSideDue_26 rfl ?_
        refine r_icmp_ne (tgt := 40) dX9_isSideDue_27 (by decide) (kt := fun z27 => ?_) (kf := fun z27 => ?_)
        · refine r_iinc dX9_isSideDue_40 rfl (k := ?_)
          refine r_goto (tgt := 2) dX9_isSideDue_43 (by decide) ?_
          refine r_loc' (ih (i + 1) (by omega) (fun j hj => ?_)) ⟨rfl, rfl, rfl, rfl, trivial⟩
          by_cases e : j = i
          · subst e
            first
              | (rw [z35]; exact Bool.and_false _)
              | (rw [Bool.and_eq_false_iff, Bool.and_eq_false_iff, decide_eq_false_iff_not, decide_eq_false_iff_not]; omega)
          · exact hn j (by omega)
        · refine r_aload_n dX9_isSideDue_30 rfl ?_
          refine r_iload_n dX9_isSideDue_31 rfl ?_
          refine r_callV (mi := iX9_isSideDue) vX9_123 dX9_isSideDue_32 hM.o (m_isDueNow hM hO i hi3) (hm := ⟨by omega, by omega⟩) (k := kP ?_) (kx := r_nox)
          refine r_bif_eq (tgt := 40) dX9_isSideDue_35 (by decide) (kt := fun z35 => ?_) (kf := fun z35 => ?_)
          · refine r_iinc dX9_isSideDue_40 rfl (k := ?_)
            refine r_goto (tgt := 2) dX9_isSideDue_43 (by decide) ?_
            refine r_loc' (ih (i + 1) (by omega) (fun j hj => ?_)) ⟨rfl, rfl, rfl, rfl, trivial⟩
            by_cases e : j = i
            · subst e
              first
                | (rw [z35]; exact Bool.and_false _)
                | (rw [Bool.and_eq_false_iff, Bool.and_eq_false_iff, decide_eq_false_iff_not, decide_eq_false_iff_not]; omega)
            · exact hn j (by omega)
          · refine r_iconst dX9_isSideDue_38 ?_
            exact r_iret dX9_isSideDue_39 (rP_of (bz_T (any_t _ hi3 (by rw [decide_eq_true (by omega), decide_eq_true (by omega), z35]; rfl))))
  refine r_iconst dX9_isSideDue_0 ?_
  refine r_istore_n dX9_isSideDue_1 (k := ?_)
  exact r_loc' (loop (σ.1 2) 0 (by omega) (fun j hj => absurd hj (by omega))) ⟨rfl, rfl, rfl, rfl, trivial⟩
theorem m_needs (hM : RM M Y σ) {l : List Nat} (hU : UnP Y l M) (x : Nat) (hl : l.length < 64) : Ht G iX9_needs yX9_needs 2 [.ref (Y 0), .int (iz (x : Int))] M (rV fun M' => Kp Y [603] [26] M M' ∧ UnP Y (l ++ [x]) M') nX 0 0 := by
  refine ht_intro (by decide +kernel) rfl rfl rfl (Nat.le_of_ble_eq_true rfl) ?_
  refine r_aload_n dX9_needs_0 rfl ?_
  refine r_getR qX9_63 dX9_needs_1 hM.o (hM.r 26) (kk := ?_)
  refine r_aload_n dX9_needs_4 rfl ?_
  refine r_getI qX9_149 dX9_needs_5 hM.o hU.1 (kk := ?_)
  refine r_iload_n dX9_needs_8 rfl ?_
  refine r_iast dX9_needs_9 (hM.cc 26 11 64) rfl (k := ?_)
  refine gm (P := fun M2 => Kp Y [603] [26] M M2 ∧ mA M2 (Y 26) = upd (mA M (Y 26)) l.length (iz (x : Int)) ∧ mI M2 603 (Y 0) = iz (l.length : Int)) ⟨Kp.a, mA_sA _ _ _, hU.1⟩ (fun M2 hP2 => ?_)
  obtain ⟨hK2, hA2, hI2⟩ := hP2
  have hM := hK2.rm hM
  refine r_aload_n dX9_needs_10 rfl ?_
  refine r_dup dX9_needs_11 (k := ?_)
  refine r_getI qX9_149 dX9_needs_12 hM.o hI2 (kk := ?_)
  refine r_iconst dX9_needs_15 ?_
  refine r_iadd dX9_needs_16 ?_
  refine r_putI qX9_149 dX9_needs_17 hM.o (kk := ?_)
  refine r_vret dX9_needs_20 ⟨rfl, hK2.tr Kp.i, by rw [mI_sI, List.length_append]; simp [upd], fun i hi => ?_⟩
  show mA M2 (Y 26) i = _
  rw [hA2]
  rw [List.length_append] at hi
  by_cases e : i = l.length
  · subst e; rw [getD_app2]; simp [upd]
  · have hi2 : i < l.length := by simp only [List.length_cons, List.length_nil] at hi; omega
    rw [getD_app1 hi2]; simp only [upd, if_neg e]; exact hU.2 i hi2
theorem m_findsNeeds (hM : RM M Y σ) (hO : Ok σ T) (g : Nat) (hg : g < 16) : Ht G iX9_findsNeeds yX9_findsNeeds 8 [.ref (Y 0), .int (iz (g : Int))] M (rV fun M' => Kp Y [603] [26] M M' ∧ UnP Y (uns σ g (σ.1 1)) M') nX 0 0 := by
  obtain ⟨⟨p1, p2, p3, p4, p5, -⟩, hS, hH, -⟩ := id hO
  refine ht_intro (by decide +kernel) rfl rfl rfl (Nat.le_of_ble_eq_true rfl) ?_
  have loop : ∀ (k i : Nat) (M1 : Mem), i + k = σ.1 1 → Kp Y [603] [26] M M1 → UnP Y (uns σ g i) M1 → SWG G iX9_findsNeeds (rmd 8 0 0) (QF G (rV fun M' => Kp Y [603] [26] M M' ∧ UnP Y (uns σ g (σ.1 1)) M') nX 0 0) 7 [(2, .int (iz (i : Int))), (0, .ref (Y 0)), (1, .int (iz (g : Int)))] [] M1 0 0 := by
    intro k
    induction k with
    | zero =>
      intro i M1 hi hK hU
      have hi2 : i = σ.1 1 := by omega
      subst hi2
      have hM := hK.rm hM
      refine r_iload_n dX9_findsNeeds_7 rfl ?_
      refine r_aload_n dX9_findsNeeds_8 rfl ?_
      refine r_getI qX9_84 dX9_findsNeeds_9 hM.o (x := iz (σ.1 1 : Int)) (hM.s 1) (kk := ?_)
      refine r_icmp_ge (tgt := 114) dX9_findsNeeds_12 (by decide) (kt := fun z12 => ?_) (kf := fun z12 => (by exfalso; first | omega | simp_all))
      exact r_vret dX9_findsNeeds_114 (⟨rfl, hK, hU⟩)
    | succ k ih =>
      intro i M1 hi hK hU
      have hi3 : i < σ.1 1 := by omega
      obtain ⟨s1, s2, s3, s4, s5, s6, s7⟩ := hS i hi3
      have hul := uns_len σ g i
      have hM := hK.rm hM
      refine r_iload_n dX9_findsNeeds_7 rfl ?_
      refine r_aload_n dX9_findsNeeds_8 rfl ?_
      refine r_getI qX9_84 dX9_findsNeeds_9 hM.o (x := iz (σ.1 1 : Int)) (hM.s 1) (kk := ?_)
      refine r_icmp_ge (tgt := 114) dX9_findsNeeds_12 (by decide) (kt := fun z12 => (by exfalso; first | omega | simp_all)) (kf := fun z12 => ?_)
      refine r_aload_n dX9_findsNeeds_15 rfl ?_
      refine r_getR qX9_19 dX9_findsNeeds_16 hM.o (hM.r 4) (kk := ?_)
      refine r_iload_n dX9_findsNeeds_19 rfl ?_
      refine r_iald dX9_findsNeeds_20 (hM.cc 4 11 16) rfl (hM.v4 _ (hi3)) (k := ?_)
      refine r_if_lt (tgt := 108) dX9_findsNeeds_21 (by decide) (kt := fun z21 => ?_) (kf := fun z21 => ?_)
      · refine r_iinc dX9_findsNeeds_108 rfl (k := ?_)
        refine r_goto (tgt := 7) dX9_findsNeeds_111 (by decide) ?_
        refine r_loc' (ih (i + 1) _ (by omega) hK (hU.eq ?_)) ⟨rfl, rfl, rfl, trivial⟩
        show _ = uns σ g i ++ ua σ g i
        unfold ua
        first
          | (rw [if_pos hgi, if_neg (show ¬ σ.2 13 i = 0 by omega), z65, z77]; simp)
          | (rw [if_pos hgi, if_pos (show σ.2 13 i = 0 by omega), z93, z98]; simp)
          | (rw [if_pos hgi, if_pos (show σ.2 13 i = 0 by omega), z93]; simp)
          | (rw [hgn]; simp)
          | (rw [show inG σ i g = false from by unfold inG; rw [show σ.2 4 i = 0 by omega]; rfl]; simp)
      · refine r_iload_n dX9_findsNeeds_24 rfl ?_
        refine r_aload_n dX9_findsNeeds_25 rfl ?_
        refine r_getR qX9_19 dX9_findsNeeds_26 hM.o (hM.r 4) (kk := ?_)
        refine r_iload_n dX9_findsNeeds_29 rfl ?_
        refine r_iald dX9_findsNeeds_30 (hM.cc 4 11 16) rfl (hM.v4 _ (hi3)) (k := ?_)
        refine r_ishr dX9_findsNeeds_31 (rfl) ?_
        refine r_iconst dX9_findsNeeds_32 ?_
        refine r_iand dX9_findsNeeds_33 (bt_sh (r := σ.2 4 i - 1) (by omega) (by omega) (by omega)) ?_
        refine r_bif_ne (tgt := 40) dX9_findsNeeds_34 (by decide) (kt := fun z34 => ?_) (kf := fun z34 => ?_)
        · have hgi : inG σ i g = true := by unfold inG; rw [z34, bne_iff_ne.mpr (by omega)]; rfl
          refine r_aload_n dX9_findsNeeds_40 rfl ?_
          refine r_iload_n dX9_findsNeeds_41 rfl ?_
          refine r_iconst dX9_findsNeeds_42 ?_
          refine r_callV (mi := iX9_findsNeeds) vX9_152 dX9_findsNeeds_43 hM.o (m_isSideDue hM hO i 0 (by omega) (by omega)) (hm := ⟨by omega, by omega⟩) (k := kP ?_) (kx := r_nox)
          refine r_istore_n dX9_findsNeeds_46 (k := ?_)
          refine r_aload_n dX9_findsNeeds_47 rfl ?_
          refine r_iload_n dX9_findsNeeds_48 rfl ?_
          refine r_iconst dX9_findsNeeds_49 ?_
          refine r_callV (mi := iX9_findsNeeds) vX9_152 dX9_findsNeeds_50 hM.o (m_isSideDue hM hO i 1 (by omega) (by omega)) (hm := ⟨by omega, by omega⟩) (k := kP ?_) (kx := r_nox)
          refine r_istore dX9_findsNeeds_53 (k := ?_)
          refine r_aload_n dX9_findsNeeds_55 rfl ?_
          refine r_getR qX9_46 dX9_findsNeeds_56 hM.o (hM.r 13) (kk := ?_)
          refine r_iload_n dX9_findsNeeds_59 rfl ?_
          refine r_zald dX9_findsNeeds_60 (hM.cc 13 12 16) rfl (hM.v 13 _ (hi3)) (k := ?_)
          refine r_if_eq (tgt := 92) dX9_findsNeeds_61 (by decide) (kt := fun z61 => ?_) (kf := fun z61 => ?_)
          · refine r_iload_n dX9_findsNeeds_92 rfl ?_
            refine r_bif_ne (tgt := 101) dX9_findsNeeds_93 (by decide) (kt := fun z93 => ?_) (kf := fun z93 => ?_)
            · refine r_aload_n dX9_findsNeeds_101 rfl ?_
              refine r_iconst dX9_findsNeeds_102 ?_
              refine r_iload_n dX9_findsNeeds_103 rfl ?_
              refine r_imul dX9_findsNeeds_104 ?_
              refine r_callV (mi := iX9_findsNeeds) vX9_155 dX9_findsNeeds_105 hM.o (m_needs hM hU (2 * i) (by omega)) (hm := ⟨by omega, by omega⟩) (k := kV (fun M2 hP2 => ?_)) (kx := r_nox)
              obtain ⟨hK2, hU⟩ := hP2
              have hK := hK.tr hK2
              have hM := hK2.rm hM
              refine r_iinc dX9_findsNeeds_108 rfl (k := ?_)
              refine r_goto (tgt := 7) dX9_findsNeeds_111 (by decide) ?_
              refine r_loc' (ih (i + 1) _ (by omega) hK (hU.eq ?_)) ⟨rfl, rfl, rfl, trivial⟩
              show _ = uns σ g i ++ ua σ g i
              unfold ua
              first
                | (rw [if_pos hgi, if_neg (show ¬ σ.2 13 i = 0 by omega), z65, z77]; simp)
                | (rw [if_pos hgi, if_pos (show σ.2 13 i = 0 by omega), z93, z98]; simp)
                | (rw [if_pos hgi, if_pos (show σ.2 13 i = 0 by omega), z93]; simp)
                | (rw [hgn]; simp)
                | (rw [show inG σ i g = false from by unfold inG; rw [show σ.2 4 i = 0 by omega]; rfl]; simp)
            · refine r_iload dX9_findsNeeds_96 rfl ?_
              refine r_bif_eq (tgt := 108) dX9_findsNeeds_98 (by decide) (kt := fun z98 => ?_) (kf := fun z98 => ?_)
              · refine r_iinc dX9_findsNeeds_108 rfl (k := ?_)
                refine r_goto (tgt := 7) dX9_findsNeeds_111 (by decide) ?_
                refine r_loc' (ih (i + 1) _ (by omega) hK (hU.eq ?_)) ⟨rfl, rfl, rfl, trivial⟩
                show _ = uns σ g i ++ ua σ g i
                unfold ua
                first
                  | (rw [if_pos hgi, if_neg (show ¬ σ.2 13 i = 0 by omega), z65, z77]; simp)
                  | (rw [if_pos hgi, if_pos (show σ.2 13 i = 0 by omega), z93, z98]; simp)
                  | (rw [if_pos hgi, if_pos (show σ.2 13 i = 0 by omega), z93]; simp)
                  | (rw [hgn]; simp)
                  | (rw [show inG σ i g = false from by unfold inG; rw [show σ.2 4 i = 0 by omega]; rfl]; simp)
              · refine r_aload_n dX9_findsNeeds_101 rfl ?_
                refine r_iconst dX9_findsNeeds_102 ?_
                refine r_iload_n dX9_findsNeeds_103 rfl ?_
                refine r_imul dX9_findsNeeds_104 ?_
                refine r_callV (mi := iX9_findsNeeds) vX9_155 dX9_findsNeeds_105 hM.o (m_needs hM hU (2 * i) (by omega)) (hm := ⟨by omega, by omega⟩) (k := kV (fun M2 hP2 => ?_)) (kx := r_nox)
                obtain ⟨hK2, hU⟩ := hP2
                have hK := hK.tr hK2
                have hM := hK2.rm hM
                refine r_iinc dX9_findsNeeds_108 rfl (k := ?_)
                refine r_goto (tgt := 7) dX9_findsNeeds_111 (by decide) ?_
                refine r_loc' (ih (i + 1) _ (by omega) hK (hU.eq ?_)) ⟨rfl, rfl, rfl, trivial⟩
                show _ = uns σ g i ++ ua σ g i
                unfold ua
                first
                  | (rw [if_pos hgi, if_neg (show ¬ σ.2 13 i = 0 by omega), z65, z77]; simp)
                  | (rw [if_pos hgi, if_pos (show σ.2 13 i = 0 by omega), z93, z98]; simp)
                  | (rw [if_pos hgi, if_pos (show σ.2 13 i = 0 by omega), z93]; simp)
                  | (rw [hgn]; simp)
                  | (rw [show inG σ i g = false from by unfold inG; rw [show σ.2 4 i = 0 by omega]; rfl]; simp)
          · refine r_iload_n dX9_findsNeeds_64 rfl ?_
            refine r_bif_eq (tgt := 75) dX9_findsNeeds_65 (by decide) (kt := fun z65 => ?_) (kf := fun z65 => ?_)
            · refine r_iload dX9_findsNeeds_75 rfl ?_
              refine r_bif_eq (tgt := 108) dX9_findsNeeds_77 (by decide) (kt := fun z77 => ?_) (kf := fun z77 => ?_)
              · refine r_iinc dX9_findsNeeds_108 rfl (k := ?_)
                refine r_goto (tgt := 7) dX9_findsNeeds_111 (by decide) ?_
                refine r_loc' (ih (i + 1) _ (by omega) hK (hU.eq ?_)) ⟨rfl, rfl, rfl, trivial⟩
                show _ = uns σ g i ++ ua σ g i
                unfold ua
                first
                  | (rw [if_pos hgi, if_neg (show ¬ σ.2 13 i = 0 by omega), z65, z77]; simp)
                  | (rw [if_pos hgi, if_pos (show σ.2 13 i = 0 by omega), z93, z98]; simp)
                  | (rw [if_pos hgi, if_pos (show σ.2 13 i = 0 by omega), z93]; simp)
                  | (rw [hgn]; simp)
                  | (rw [show inG σ i g = false from by unfold inG; rw [show σ.2 4 i = 0 by omega]; rfl]; simp)
              · refine r_aload_n dX9_findsNeeds_80 rfl ?_
                refine r_iconst dX9_findsNeeds_81 ?_
                refine r_iload_n dX9_findsNeeds_82 rfl ?_
                refine r_imul dX9_findsNeeds_83 ?_
                refine r_iconst dX9_findsNeeds_84 ?_
                refine r_iadd dX9_findsNeeds_85 ?_
                refine r_callV (mi := iX9_findsNeeds) vX9_155 dX9_findsNeeds_86 hM.o (m_needs hM hU (2 * i + 1) (by first | omega | (rw [List.length_append]; show _ + 1 < 64; omega))) (hm := ⟨by omega, by omega⟩) (k := kV (fun M2 hP2 => ?_)) (kx := r_nox)
                obtain ⟨hK2, hU⟩ := hP2
                have hK := hK.tr hK2
                have hM := hK2.rm hM
                refine r_goto (tgt := 108) dX9_findsNeeds_89 (by decide) ?_
                refine r_iinc dX9_findsNeeds_108 rfl (k := ?_)
                refine r_goto (tgt := 7) dX9_findsNeeds_111 (by decide) ?_
                refine r_loc' (ih (i + 1) _ (by omega) hK (hU.eq ?_)) ⟨rfl, rfl, rfl, trivial⟩
                show _ = uns σ g i ++ ua σ g i
                unfold ua
                first
                  | (rw [if_pos hgi, if_neg (show ¬ σ.2 13 i = 0 by omega), z65, z77]; simp)
                  | (rw [if_pos hgi, if_pos (show σ.2 13 i = 0 by omega), z93, z98]; simp)
                  | (rw [if_pos hgi, if_pos (show σ.2 13 i = 0 by omega), z93]; simp)
                  | (rw [hgn]; simp)
                  | (rw [show inG σ i g = false from by unfold inG; rw [show σ.2 4 i = 0 by omega]; rfl]; simp)
            · refine r_aload_n dX9_findsNeeds_68 rfl ?_
              refine r_iconst dX9_findsNeeds_69 ?_
              refine r_iload_n dX9_findsNeeds_70 rfl ?_
              refine r_imul dX9_findsNeeds_71 ?_
              refine r_callV (mi := iX9_findsNeeds) vX9_155 dX9_findsNeeds_72 hM.o (m_needs hM hU (2 * i) (by omega)) (hm := ⟨by omega, by omega⟩) (k := kV (fun M2 hP2 => ?_)) (kx := r_nox)
              obtain ⟨hK2, hU⟩ := hP2
              have hK := hK.tr hK2
              have hM := hK2.rm hM
              refine r_iload dX9_findsNeeds_75 rfl ?_
              refine r_bif_eq (tgt := 108) dX9_findsNeeds_77 (by decide) (kt := fun z77 => ?_) (kf := fun z77 => ?_)
              · refine r_iinc dX9_findsNeeds_108 rfl (k := ?_)
                refine r_goto (tgt := 7) dX9_findsNeeds_111 (by decide) ?_
                refine r_loc' (ih (i + 1) _ (by omega) hK (hU.eq ?_)) ⟨rfl, rfl, rfl, trivial⟩
                show _ = uns σ g i ++ ua σ g i
                unfold ua
                first
                  | (rw [if_pos hgi, if_neg (show ¬ σ.2 13 i = 0 by omega), z65, z77]; simp)
                  | (rw [if_pos hgi, if_pos (show σ.2 13 i = 0 by omega), z93, z98]; simp)
                  | (rw [if_pos hgi, if_pos (show σ.2 13 i = 0 by omega), z93]; simp)
                  | (rw [hgn]; simp)
                  | (rw [show inG σ i g = false from by unfold inG; rw [show σ.2 4 i = 0 by omega]; rfl]; simp)
              · refine r_aload_n dX9_findsNeeds_80 rfl ?_
                refine r_iconst dX9_findsNeeds_81 ?_
                refine r_iload_n dX9_findsNeeds_82 rfl ?_
                refine r_imul dX9_findsNeeds_83 ?_
                refine r_iconst dX9_findsNeeds_84 ?_
                refine r_iadd dX9_findsNeeds_85 ?_
                refine r_callV (mi := iX9_findsNeeds) vX9_155 dX9_findsNeeds_86 hM.o (m_needs hM hU (2 * i + 1) (by first | omega | (rw [List.length_append]; show _ + 1 < 64; omega))) (hm := ⟨by omega, by omega⟩) (k := kV (fun M2 hP2 => ?_)) (kx := r_nox)
                obtain ⟨hK2, hU⟩ := hP2
                have hK := hK.tr hK2
                have hM := hK2.rm hM
                refine r_goto (tgt := 108) dX9_findsNeeds_89 (by decide) ?_
                refine r_iinc dX9_findsNeeds_108 rfl (k := ?_)
                refine r_goto (tgt := 7) dX9_findsNeeds_111 (by decide) ?_
                refine r_loc' (ih (i + 1) _ (by omega) hK (hU.eq ?_)) ⟨rfl, rfl, rfl, trivial⟩
                show _ = uns σ g i ++ ua σ g i
                unfold ua
                first
                  | (rw [if_pos hgi, if_neg (show ¬ σ.2 13 i = 0 by omega), z65, z77]; simp)
                  | (rw [if_pos hgi, if_pos (show σ.2 13 i = 0 by omega), z93, z98]; simp)
                  | (rw [if_pos hgi, if_pos (show σ.2 13 i = 0 by omega), z93]; simp)
                  | (rw [hgn]; simp)
                  | (rw [show inG σ i g = false from by unfold inG; rw [show σ.2 4 i = 0 by omega]; rfl]; simp)
        · have hgn : inG σ i g = false := by unfold inG; rw [z34]; exact Bool.and_false _
          refine r_goto (tgt := 108) dX9_findsNeeds_37 (by decide) ?_
          refine r_iinc dX9_findsNeeds_108 rfl (k := ?_)
          refine r_goto (tgt := 7) dX9_findsNeeds_111 (by decide) ?_
          refine r_loc' (ih (i + 1) _ (by omega) hK (hU.eq ?_)) ⟨rfl, rfl, rfl, trivial⟩
          show _ = uns σ g i ++ ua σ g i
          unfold ua
          first
            | (rw [if_pos hgi, if_neg (show ¬ σ.2 13 i = 0 by omega), z65, z77]; simp)
            | (rw [if_pos hgi, if_pos (show σ.2 13 i = 0 by omega), z93, z98]; simp)
            | (rw [if_pos hgi, if_pos (show σ.2 13 i = 0 by omega), z93]; simp)
            | (rw [hgn]; simp)
            | (rw [show inG σ i g = false from by unfold inG; rw [show σ.2 4 i = 0 by omega]; rfl]; simp)
  refine r_aload_n dX9_findsNeeds_0 rfl ?_
  refine r_iconst dX9_findsNeeds_1 ?_
  refine r_putI qX9_149 dX9_findsNeeds_2 hM.o (kk := ?_)
  refine r_iconst dX9_findsNeeds_5 ?_
  refine r_istore_n dX9_findsNeeds_6 (k := ?_)
  refine r_loc' (loop (σ.1 1) 0 _ (by omega) Kp.i ⟨by rw [mI_sI]; simp [upd, uns], fun i hi => absurd hi (by simp [uns])⟩) ⟨rfl, rfl, rfl, trivial⟩
theorem m_from (hM : RM M Y σ) (hO : Ok σ T) (p : Nat) (hp : p / 2 < σ.1 1) : Ht G iX9_from yX9_from 2 [.ref (Y 0), .int (iz (p : Int))] M (rP (iz (fr σ p : Int)) M) nX 0 0 := by
  have p3 := hO.1.2.2.1
  refine ht_intro (by decide +kernel) rfl rfl rfl (Nat.le_of_ble_eq_true rfl) ?_
  refine r_iload_n dX9_from_0 rfl ?_
  refine r_iconst dX9_from_1 ?_
  refine r_irem dX9_from_2 (k := ?_)
  refine r_if_ne (tgt := 17) dX9_from_3 (by decide) (kt := fun z3 => ?_) (kf := fun z3 => ?_)
  · refine r_aload_n dX9_from_17 rfl ?_
    refine r_getR qX9_13 dX9_from_18 hM.o (hM.r 2) (kk := ?_)
    refine r_iload_n dX9_from_21 rfl ?_
    refine r_iconst dX9_from_22 ?_
    refine r_idiv dX9_from_23 (k := ?_)
    refine r_iald dX9_from_24 (hM.cc 2 11 16) (j := p / 2) (by omega) (hM.v 2 _ hp) (k := ?_)
    first
     | exact r_iret dX9_from_25 (rP_of (by unfold fr; rw [if_pos (by omega)]))
     | exact r_iret dX9_from_25 (rP_of (by unfold fr; rw [if_neg (by omega)]))
  · refine r_aload_n dX9_from_6 rfl ?_
    refine r_getR qX9_9 dX9_from_7 hM.o (hM.r 1) (kk := ?_)
    refine r_iload_n dX9_from_10 rfl ?_
    refine r_iconst dX9_from_11 ?_
    refine r_idiv dX9_from_12 (k := ?_)
    refine r_iald dX9_from_13 (hM.cc 1 11 16) (j := p / 2) (by omega) (hM.v 1 _ hp) (k := ?_)
    refine r_goto (tgt := 25) dX9_from_14 (by decide) ?_
    first
     | exact r_iret dX9_from_25 (rP_of (by unfold fr; rw [if_pos (by omega)]))
     | exact r_iret dX9_from_25 (rP_of (by unfold fr; rw [if_neg (by omega)]))
theorem m_to (hM : RM M Y σ) (hO : Ok σ T) (p : Nat) (hp : p / 2 < σ.1 1) : Ht G iX9_to yX9_to 2 [.ref (Y 0), .int (iz (p : Int))] M (rP (iz (tt σ p : Int)) M) nX 0 0 := by
  have p3 := hO.1.2.2.1
  refine ht_intro (by decide +kernel) rfl rfl rfl (Nat.le_of_ble_eq_true rfl) ?_
  refine r_iload_n dX9_to_0 rfl ?_
  refine r_iconst dX9_to_1 ?_
  refine r_irem dX9_to_2 (k := ?_)
  refine r_if_ne (tgt := 17) dX9_to_3 (by decide) (kt := fun z3 => ?_) (kf := fun z3 => ?_)
  · refine r_aload_n dX9_to_17 rfl ?_
    refine r_getR qX9_9 dX9_to_18 hM.o (hM.r 1) (kk := ?_)
    refine r_iload_n dX9_to_21 rfl ?_
    refine r_iconst dX9_to_22 ?_
    refine r_idiv dX9_to_23 (k := ?_)
    refine r_iald dX9_to_24 (hM.cc 1 11 16) (j := p / 2) (by omega) (hM.v 1 _ hp) (k := ?_)
    first
     | exact r_iret dX9_to_25 (rP_of (by unfold tt; rw [if_pos (by omega)]))
     | exact r_iret dX9_to_25 (rP_of (by unfold tt; rw [if_neg (by omega)]))
  · refine r_aload_n dX9_to_6 rfl ?_
    refine r_getR qX9_13 dX9_to_7 hM.o (hM.r 2) (kk := ?_)
    refine r_iload_n dX9_to_10 rfl ?_
    refine r_iconst dX9_to_11 ?_
    refine r_idiv dX9_to_12 (k := ?_)
    refine r_iald dX9_to_13 (hM.cc 2 11 16) (j := p / 2) (by omega) (hM.v 2 _ hp) (k := ?_)
    refine r_goto (tgt := 25) dX9_to_14 (by decide) ?_
    first
     | exact r_iret dX9_to_25 (rP_of (by unfold tt; rw [if_pos (by omega)]))
     | exact r_iret dX9_to_25 (rP_of (by unfold tt; rw [if_neg (by omega)]))
def opNeeded (σ : St) (r : Int) : Rs := if ¬ bt2 r 0 (σ.1 3 - 1) then (σ, 1, 0) else (σ, 0, uN σ (2 ^ r.toNat))
theorem m_needed (hM : RM M Y σ) (hO : Ok σ T) (r : Int) (ha : inR r) : Ht G iX9_needed yX9_needed 10 [.ref (Y 0), .int (iz r)] M (MR Y M (opNeeded σ r)) nX 0 0 := by
  obtain ⟨⟨p1, p2, p3, p4, p5, -⟩, -⟩ := id hO
  refine ht_intro (by decide +kernel) rfl rfl rfl (Nat.le_of_ble_eq_true rfl) ?_
  refine r_aload_n dX9_needed_0 rfl ?_
  refine r_iconst dX9_needed_1 ?_
  refine r_putI qX9_81 dX9_needed_2 hM.o (kk := ?_)
  refine gm (P := MP Y M σ 0) (mp0 hM) (fun M1 hP => ?_)
  have hM := hP.1
  refine r_aload_n dX9_needed_5 rfl ?_
  refine r_iload_n dX9_needed_6 rfl ?_
  refine r_callV (mi := iX9_needed) vX9_111 dX9_needed_7 hM.o (m_isRound hM (by omega) r ha) (hm := ⟨by omega, by omega⟩) (k := kP ?_) (kx := r_nox)
  refine r_dif_ne (tgt := 19) dX9_needed_10 (by decide) (kt := fun z10 => ?_) (kf := fun z10 => ?_)
  · obtain ⟨r, rfl⟩ := nat_of (a := r) (by omega)
    refine r_aload_n dX9_needed_19 rfl ?_
    refine r_iconst dX9_needed_20 ?_
    refine r_iload_n dX9_needed_21 rfl ?_
    refine r_ishl dX9_needed_22 (sl_1 rfl (by omega)) ?_
    refine r_callV (mi := iX9_needed) vX9_159 dX9_needed_23 hM.o (m_findsNeeds hM hO (2 ^ r) (two_lt (by omega))) (hm := ⟨by omega, by omega⟩) (k := kV (fun M2 hP2 => ?_)) (kx := r_nox)
    obtain ⟨hK2, hU⟩ := hP2
    have hP := hK2.mp hP
    have hM := hP.1
    refine r_aload_n dX9_needed_26 rfl ?_
    refine r_getI qX9_149 dX9_needed_27 hM.o hU.1 (kk := ?_)
    exact r_iret dX9_needed_30 (mr_of hP (by unfold opNeeded; repeat (first | rw [if_pos (by omega)] | rw [if_neg (by omega)]); try rfl) (fun _ => rfl))
  · refine r_aload_n dX9_needed_13 rfl ?_
    refine r_iconst dX9_needed_14 ?_
    refine r_callV (mi := iX9_needed) vX9_100 dX9_needed_15 hM.o (m_fails hM.o 1) (hm := ⟨by omega, by omega⟩) (k := kP ?_) (kx := r_nox)
    exact r_iret dX9_needed_18 (mr_of (mpf hP 1) (by unfold opNeeded; repeat (first | rw [if_pos (by omega)] | rw [if_neg (by omega)])) (fun h => absurd h (by decide)))
theorem m_chooses (hM : RM M Y σ) {l : List (Nat × Nat)} (hU : ChP Y l M) (p u : Nat) (hl : l.length < 16) : Ht G iX9_chooses yX9_chooses 2 [.ref (Y 0), .int (iz (p : Int)), .int (iz (u : Int))] M (rV fun M' => Kp Y [609] [31, 32] M M' ∧ ChP Y (l ++ [(p, u)]) M') nX 0 0 := by
  refine ht_intro (by decide +kernel) rfl rfl rfl (Nat.le_of_ble_eq_true rfl) ?_
  refine r_aload_n dX9_chooses_0 rfl ?_
  refine r_getR qX9_72 dX9_chooses_1 hM.o (hM.r 31) (kk := ?_)
  refine r_aload_n dX9_chooses_4 rfl ?_
  refine r_getI qX9_162 dX9_chooses_5 hM.o hU.1 (kk := ?_)
  refine r_iload_n dX9_chooses_8 rfl ?_
  refine r_iast dX9_chooses_9 (hM.cc 31 11 16) rfl (k := ?_)
  refine gm (P := fun M2 => Kp Y [609] [31, 32] M M2 ∧ mA M2 (Y 31) = upd (mA M (Y 31)) l.length (iz (p : Int)) ∧ mI M2 609 (Y 0) = iz (l.length : Int) ∧ mA M2 (Y 32) = mA M (Y 32)) ⟨Kp.a, mA_sA _ _ _, hU.1, mA_sAn _ _ _ _ (hM.ne (by decide))⟩ (fun M2 hP2 => ?_)
  obtain ⟨hK2, hA2, hI2, hB2⟩ := hP2
  have hM := hK2.rm hM
  refine r_aload_n dX9_chooses_10 rfl ?_
  refine r_getR qX9_75 dX9_chooses_11 hM.o (hM.r 32) (kk := ?_)
  refine r_aload_n dX9_chooses_14 rfl ?_
  refine r_getI qX9_162 dX9_chooses_15 hM.o hI2 (kk := ?_)
  refine r_iload_n dX9_chooses_18 rfl ?_
  refine r_iast dX9_chooses_19 (hM.cc 32 11 16) rfl (k := ?_)
  refine gm (P := fun M3 => Kp Y [609] [31, 32] M M3 ∧ mA M3 (Y 31) = upd (mA M (Y 31)) l.length (iz (p : Int)) ∧ mI M3 609 (Y 0) = iz (l.length : Int) ∧ mA M3 (Y 32) = upd (mA M (Y 32)) l.length (iz (u : Int))) ⟨hK2.tr Kp.a, (mA_sAn _ _ _ _ (hM.ne (by decide))).trans hA2, hI2, by rw [mA_sA, hB2]⟩ (fun M3 hP3 => ?_)
  obtain ⟨hK3, hA3, hI3, hB3⟩ := hP3
  have hM := hK3.rm ‹RM M Y σ›
  refine r_aload_n dX9_chooses_20 rfl ?_
  refine r_dup dX9_chooses_21 (k := ?_)
  refine r_getI qX9_162 dX9_chooses_22 hM.o hI3 (kk := ?_)
  refine r_iconst dX9_chooses_25 ?_
  refine r_iadd dX9_chooses_26 ?_
  refine r_putI qX9_162 dX9_chooses_27 hM.o (kk := ?_)
  refine r_vret dX9_chooses_30 ⟨rfl, hK3.tr Kp.i, by rw [mI_sI, List.length_append]; simp [upd], fun i hi => ?_⟩
  show mA M3 (Y 31) i = _ ∧ mA M3 (Y 32) i = _
  rw [hA3, hB3]
  rw [List.length_append] at hi
  by_cases e : i = l.length
  · subst e; rw [getD_app2]; simp [upd]
  · have hi2 : i < l.length := by simp only [List.length_cons, List.length_nil] at hi; omega
    rw [getD_app1 hi2]; simp only [upd, if_neg e]; exact hU.2 i hi2
theorem m_findsChoices (hM : RM M Y σ) (hO : Ok σ T) (g : Nat) (hU : UnP Y (uns σ g (σ.1 1)) M) (hn : uN σ g ≤ 8) : Ht G iX9_findsChoices yX9_findsChoices 3 [.ref (Y 0)] M (rV fun M' => Kp Y [609] [31, 32] M M' ∧ ChP Y (chs σ g) M') nX 0 0 := by
  obtain ⟨⟨p1, p2, p3, p4, p5, -⟩, hS, hH, -⟩ := id hO
  refine ht_intro (by decide +kernel) rfl rfl rfl (Nat.le_of_ble_eq_true rfl) ?_
  have loop : ∀ (k i : Nat) (M1 : Mem), i + k = uN σ g → Kp Y [609] [31, 32] M M1 → ChP Y (chl σ (uU σ g) i) M1 → SWG G iX9_findsChoices (rmd 3 0 0) (QF G (rV fun M' => Kp Y [609] [31, 32] M M' ∧ ChP Y (chs σ g) M') nX 0 0) 7 [(1, .int (iz (i : Int))), (0, .ref (Y 0))] [] M1 0 0 := by
    intro k
    induction k with
    | zero =>
      intro i M1 hi hK hC
      have hi2 : i = uN σ g := by omega
      subst hi2
      have hU := hU.kp hK hM
      have hM := hK.rm hM
      refine r_iload_n dX9_findsChoices_7 rfl ?_
      refine r_aload_n dX9_findsChoices_8 rfl ?_
      refine r_getI qX9_149 dX9_findsChoices_9 hM.o (x := iz (uN σ g : Int)) hU.1 (kk := ?_)
      refine r_icmp_ge (tgt := 61) dX9_findsChoices_12 (by decide) (kt := fun z12 => ?_) (kf := fun z12 => (by exfalso; first | omega | simp_all))
      exact r_vret dX9_findsChoices_61 (⟨rfl, hK, hC⟩)
    | succ k ih =>
      intro i M1 hi hK hC
      have hi3 : i < uN σ g := by omega
      have hu := uU_in hi3
      have hs6 := (hS _ hu.1).2.2.2.2.2.1
      have hcl := chl_len σ (uU σ g) i
      have hU := hU.kp hK hM
      have hM := hK.rm hM
      refine r_iload_n dX9_findsChoices_7 rfl ?_
      refine r_aload_n dX9_findsChoices_8 rfl ?_
      refine r_getI qX9_149 dX9_findsChoices_9 hM.o (x := iz (uN σ g : Int)) hU.1 (kk := ?_)
      refine r_icmp_ge (tgt := 61) dX9_findsChoices_12 (by decide) (kt := fun z12 => (by exfalso; first | omega | simp_all)) (kf := fun z12 => ?_)
      refine r_aload_n dX9_findsChoices_15 rfl ?_
      refine r_aload_n dX9_findsChoices_16 rfl ?_
      refine r_getR qX9_63 dX9_findsChoices_17 hM.o (hM.r 26) (kk := ?_)
      refine r_iload_n dX9_findsChoices_20 rfl ?_
      refine r_iald dX9_findsChoices_21 (hM.cc 26 11 64) rfl (v := iz (uU σ g i : Int)) (hU.2 i hi3) (k := ?_)
      refine r_iload_n dX9_findsChoices_22 rfl ?_
      refine r_callV (mi := iX9_findsChoices) vX9_165 dX9_findsChoices_23 hM.o (m_chooses hM hC (uU σ g i) i (by omega)) (hm := ⟨by omega, by omega⟩) (k := kV (fun M2 hP2 => ?_)) (kx := r_nox)
      obtain ⟨hK2, hC⟩ := hP2
      have hK := hK.tr hK2
      have hU := hU.kp hK2 hM
      have hM := hK2.rm hM
      refine r_aload_n dX9_findsChoices_26 rfl ?_
      refine r_getR qX9_46 dX9_findsChoices_27 hM.o (hM.r 13) (kk := ?_)
      refine r_aload_n dX9_findsChoices_30 rfl ?_
      refine r_getR qX9_63 dX9_findsChoices_31 hM.o (hM.r 26) (kk := ?_)
      refine r_iload_n dX9_findsChoices_34 rfl ?_
      refine r_iald dX9_findsChoices_35 (hM.cc 26 11 64) rfl (v := iz (uU σ g i : Int)) (hU.2 i hi3) (k := ?_)
      refine r_iconst dX9_findsChoices_36 ?_
      refine r_idiv dX9_findsChoices_37 (k := ?_)
      refine r_zald dX9_findsChoices_38 (hM.cc 13 12 16) (j := uU σ g i / 2) (by omega) (hM.v 13 _ hu.1) (k := ?_)
      refine r_if_ne (tgt := 55) dX9_findsChoices_39 (by decide) (kt := fun z39 => ?_) (kf := fun z39 => ?_)
      · refine r_iinc dX9_findsChoices_55 rfl (k := ?_)
        refine r_goto (tgt := 7) dX9_findsChoices_58 (by decide) ?_
        refine r_loc' (ih (i + 1) _ (by omega) hK ?_) ⟨rfl, rfl, trivial⟩
        show ChP Y (chl σ (uU σ g) i ++ ([(uU σ g i, i)] ++ if σ.2 13 (uU σ g i / 2) = 0 then [(uU σ g i + 1, i)] else [])) _
        first
          | (rw [if_pos (by omega), ← List.append_assoc]; exact hC)
          | (rw [if_neg (by omega), List.append_nil]; exact hC)
      · refine r_aload_n dX9_findsChoices_42 rfl ?_
        refine r_aload_n dX9_findsChoices_43 rfl ?_
        refine r_getR qX9_63 dX9_findsChoices_44 hM.o (hM.r 26) (kk := ?_)
        refine r_iload_n dX9_findsChoices_47 rfl ?_
        refine r_iald dX9_findsChoices_48 (hM.cc 26 11 64) rfl (v := iz (uU σ g i : Int)) (hU.2 i hi3) (k := ?_)
        refine r_iconst dX9_findsChoices_49 ?_
        refine r_iadd dX9_findsChoices_50 ?_
        refine r_iload_n dX9_findsChoices_51 rfl ?_
        refine r_callV (mi := iX9_findsChoices) vX9_165 dX9_findsChoices_52 hM.o (m_chooses hM hC (uU σ g i + 1) i (by simp only [List.length_append, List.length_cons, List.length_nil]; omega)) (hm := ⟨by omega, by omega⟩) (k := kV (fun M2 hP2 => ?_)) (kx := r_nox)
        obtain ⟨hK2, hC⟩ := hP2
        have hK := hK.tr hK2
        have hM := hK2.rm hM
        refine r_iinc dX9_findsChoices_55 rfl (k := ?_)
        refine r_goto (tgt := 7) dX9_findsChoices_58 (by decide) ?_
        refine r_loc' (ih (i + 1) _ (by omega) hK ?_) ⟨rfl, rfl, trivial⟩
        show ChP Y (chl σ (uU σ g) i ++ ([(uU σ g i, i)] ++ if σ.2 13 (uU σ g i / 2) = 0 then [(uU σ g i + 1, i)] else [])) _
        first
          | (rw [if_pos (by omega), ← List.append_assoc]; exact hC)
          | (rw [if_neg (by omega), List.append_nil]; exact hC)
  refine r_aload_n dX9_findsChoices_0 rfl ?_
  refine r_iconst dX9_findsChoices_1 ?_
  refine r_putI qX9_162 dX9_findsChoices_2 hM.o (kk := ?_)
  refine r_iconst dX9_findsChoices_5 ?_
  refine r_istore_n dX9_findsChoices_6 (k := ?_)
  refine r_loc' (loop (uN σ g) 0 _ (by omega) Kp.i ⟨by rw [mI_sI]; simp [upd, chl], fun i hi => absurd hi (by simp [chl])⟩) ⟨rfl, rfl, trivial⟩
end MD5
