/-! The class: the van. -/
section VAN
variable {G : GC} {M M' : Mem} {C : CE} {σ : St} {T : Nat}
theorem cp_mono {a b : Nat} (ha : a ≤ 100000) (hb : b ≤ 100000) : (cp a < cp b ↔ a < b) ∧ (cp a < 1000000 ↔ a < 100000) ∧ (cp a = a ∨ cp a = 1000000) := by
  unfold cp
  split <;> split <;> refine ⟨⟨fun h => ?_, fun h => ?_⟩, ⟨fun h => ?_, fun h => ?_⟩, ?_⟩ <;> omega
theorem x_wayTo (hX : XB G M C σ) (hO : Ok σ T) {q : Nat} (hq : q < σ.1 4) : Ht G iX8_wayTo yX8_wayTo 4 [.ref (eX C 0), .ref (eA C 4 q)] M (rP (iz (cp (fT σ q) : Int)) M) nX 0 0 := by
  have p2 := hO.1.2.1
  have w6 := hX.gr 11 10 10
  have h10 := (hO.2.2.2.2 q hq).1
  have h5 := (hO.2.2.1 _ h10).1
  have h1 := (hO.2.1 _ h5).1
  refine ht_intro (by decide +kernel) rfl rfl rfl (Nat.le_of_ble_eq_true rfl) ?_
  refine r_aload_n dX8_wayTo_0 rfl ?_
  refine r_getR qX8_28 dX8_wayTo_1 (hX.x 0 8 0) (hX.f 0 516 5) (kk := ?_)
  refine r_getR qX8_192 dX8_wayTo_4 (hX.x 5 7 0) (hX.f 5 449 11) (kk := ?_)
  refine r_iconst dX8_wayTo_7 ?_
  refine r_aload_n dX8_wayTo_8 rfl ?_
  refine r_getR qX8_345 dX8_wayTo_9 (hX.k2 q hq) (hX.g128 q hq) (kk := ?_)
  refine r_getR qX8_169 dX8_wayTo_12 (hX.k1 _ h10) (hX.g65 _ h10) (kk := ?_)
  refine r_getI qX8_379 dX8_wayTo_15 (hX.k5 _ h5) (hX.g321 _ h5) (kk := ?_)
  refine r_callV (mi := iX8_wayTo) vX8_195 dX8_wayTo_18 w6.1 (x_at w6 (show 0 < 10 by decide) (show σ.2 1 (σ.2 5 (σ.2 10 q)) < 10 by omega) (hX.gl 0 _ (by decide) (by omega))) (hm := by first | exact ⟨Nat.le_of_ble_eq_true rfl, Nat.le_of_ble_eq_true rfl⟩ | (constructor <;> simp only [rmd] <;> omega)) (k := kP ?_) (kx := r_nox)
  exact r_iret dX8_wayTo_21 (rP_of rfl)
theorem x_comesBefore (hX : XB G M C σ) (hO : Ok σ T) {p q : Nat} (hp : p < σ.1 4) (hq : q < σ.1 4) : Ht G iX8_comesBefore yX8_comesBefore 6 [.ref (eX C 0), .ref (eA C 4 p), .ref (eA C 4 q)] M (rP (bz (decide (σ.2 12 p < σ.2 12 q ∨ (σ.2 12 p = σ.2 12 q ∧ fT σ p < fT σ q)))) M) nX 0 0 := by
  have a5 := (hO.2.2.2.2 p hp).2.2.2.2.1
  have b5 := (hO.2.2.2.2 q hq).2.2.2.2.1
  have l1 : fT σ p ≤ 100000 := dst_le _ _
  have l2 : fT σ q ≤ 100000 := dst_le _ _
  obtain ⟨c1, -, c2⟩ := cp_mono l1 l2
  have c3 := (cp_mono l2 l1).2.2
  refine ht_intro (by decide +kernel) rfl rfl rfl (Nat.le_of_ble_eq_true rfl) ?_
  refine r_aload_n dX8_comesBefore_0 rfl ?_
  refine r_getI qX8_320 dX8_comesBefore_1 (hX.k2 p hp) (hX.g130 p hp) (kk := ?_)
  refine r_aload_n dX8_comesBefore_4 rfl ?_
  refine r_getI qX8_320 dX8_comesBefore_5 (hX.k2 q hq) (hX.g130 q hq) (kk := ?_)
  refine r_icmp_eq (tgt := 28) dX8_comesBefore_8 (by decide) (kt := fun z8 => ?_) (kf := fun z8 => ?_)
  · refine r_aload_n dX8_comesBefore_28 rfl ?_
    refine r_aload_n dX8_comesBefore_29 rfl ?_
    refine r_callV (mi := iX8_comesBefore) vX8_382 dX8_comesBefore_30 (hX.x 0 8 0) (x_wayTo hX hO hp) (hm := by first | exact ⟨Nat.le_of_ble_eq_true rfl, Nat.le_of_ble_eq_true rfl⟩ | (constructor <;> simp only [rmd] <;> omega)) (k := kP ?_) (kx := r_nox)
    refine r_aload_n dX8_comesBefore_33 rfl ?_
    refine r_aload_n dX8_comesBefore_34 rfl ?_
    refine r_callV (mi := iX8_comesBefore) vX8_382 dX8_comesBefore_35 (hX.x 0 8 0) (x_wayTo hX hO hq) (hm := by first | exact ⟨Nat.le_of_ble_eq_true rfl, Nat.le_of_ble_eq_true rfl⟩ | (constructor <;> simp only [rmd] <;> omega)) (k := kP ?_) (kx := r_nox)
    refine r_icmp_ge (tgt := 45) dX8_comesBefore_38 (by decide) (kt := fun z38 => ?_) (kf := fun z38 => ?_)
    · refine r_iconst dX8_comesBefore_45 ?_
      first
       | exact r_iret dX8_comesBefore_46 (rP_of (bz_d (by omega)))
       | exact r_iret dX8_comesBefore_46 (rP_of (bz_nd (by omega)))
    · refine r_iconst dX8_comesBefore_41 ?_
      refine r_goto (tgt := 46) dX8_comesBefore_42 (by decide) ?_
      first
       | exact r_iret dX8_comesBefore_46 (rP_of (bz_d (by omega)))
       | exact r_iret dX8_comesBefore_46 (rP_of (bz_nd (by omega)))
  · refine r_aload_n dX8_comesBefore_11 rfl ?_
    refine r_getI qX8_320 dX8_comesBefore_12 (hX.k2 p hp) (hX.g130 p hp) (kk := ?_)
    refine r_aload_n dX8_comesBefore_15 rfl ?_
    refine r_getI qX8_320 dX8_comesBefore_16 (hX.k2 q hq) (hX.g130 q hq) (kk := ?_)
    refine r_icmp_ge (tgt := 26) dX8_comesBefore_19 (by decide) (kt := fun z19 => ?_) (kf := fun z19 => ?_)
    · refine r_iconst dX8_comesBefore_26 ?_
      first
       | exact r_iret dX8_comesBefore_27 (rP_of (bz_d (by omega)))
       | exact r_iret dX8_comesBefore_27 (rP_of (bz_nd (by omega)))
    · refine r_iconst dX8_comesBefore_22 ?_
      refine r_goto (tgt := 27) dX8_comesBefore_23 (by decide) ?_
      first
       | exact r_iret dX8_comesBefore_27 (rP_of (bz_d (by omega)))
       | exact r_iret dX8_comesBefore_27 (rP_of (bz_nd (by omega)))
theorem gf_up {p q : Nat} (h : q < p) : gf σ p q = decide (σ.2 12 p < σ.2 12 q ∨ (σ.2 12 p = σ.2 12 q ∧ fT σ p < fT σ q)) := by
  by_cases e : σ.2 12 p < σ.2 12 q ∨ (σ.2 12 p = σ.2 12 q ∧ fT σ p < fT σ q)
  · rw [decide_eq_true e]; exact gf_T (by omega)
  · rw [decide_eq_false e]; exact gf_F (by omega)
theorem x_nextParcel (hX : XB G M C σ) (hO : Ok σ T) : Ht G iX8_nextParcel yX8_nextParcel 10 [.ref (eX C 0)] M (rT (0 ≤ nh σ (σ.1 4)) (rP (iz (nh σ (σ.1 4))) M)) (xT1 (0 ≤ nh σ (σ.1 4)) NSE M) 1 6 := by
  have p6 := hO.1.2.2.2.2.2.1
  have p7 := hO.1.2.2.2.2.2.2.1
  refine ht_intro (by decide +kernel) rfl rfl rfl (Nat.le_of_ble_eq_true rfl) ?_
  have loop : ∀ (k i : Nat), i + k = σ.1 4 → (nh σ i < 0 → SWG G iX8_nextParcel (rmd 10 1 6) (QF G (rT (0 ≤ nh σ (σ.1 4)) (rP (iz (nh σ (σ.1 4))) M)) (xT1 (0 ≤ nh σ (σ.1 4)) NSE M) 1 6) 6 [(3, .int (iz (i : Int))), (2, .null), (1, .int (iz (-1))), (0, .ref (eX C 0))] [] M 0 0) ∧ (∀ q : Nat, nh σ i = q → SWG G iX8_nextParcel (rmd 10 1 6) (QF G (rT (0 ≤ nh σ (σ.1 4)) (rP (iz (nh σ (σ.1 4))) M)) (xT1 (0 ≤ nh σ (σ.1 4)) NSE M) 1 6) 6 [(3, .int (iz (i : Int))), (2, .ref (eA C 4 q)), (1, .int (iz (q : Int))), (0, .ref (eX C 0))] [] M 0 0) := by
    intro k
    induction k with
    | zero =>
      intro i hi
      have hi2 : i = σ.1 4 := by omega
      subst hi2
      constructor
      · intro hn
        skip
        refine r_iload_n dX8_nextParcel_6 rfl ?_
        refine r_aload_n dX8_nextParcel_7 rfl ?_
        refine r_getR qX8_22 dX8_nextParcel_8 (hX.x 0 8 0) (hX.f 0 515 4) (kk := ?_)
        refine r_callV (mi := iX8_nextParcel) vX8_77 dX8_nextParcel_11 (hX.x 4 10 0) (c_size (n := σ.1 4) (hX.l 4)) (hm := by first | exact ⟨Nat.le_of_ble_eq_true rfl, Nat.le_of_ble_eq_true rfl⟩ | (constructor <;> simp only [rmd] <;> omega)) (k := kP ?_) (kx := r_nox)
        refine r_icmp_ge (tgt := 87) dX8_nextParcel_14 (by decide) (kt := fun z14 => ?_) (kf := fun z14 => (by exfalso; first | omega | simp_all))
        refine r_iload_n dX8_nextParcel_87 rfl ?_
        refine r_iconst dX8_nextParcel_88 ?_
        refine r_icmp_ne (tgt := 103) dX8_nextParcel_89 (by decide) (kt := fun z89 => (by exfalso; first | omega | simp_all)) (kf := fun z89 => ?_)
        exact r_throwXW (mi := iX8_nextParcel) xw_288 hX.gD (text := "no heavy parcel waits") (is := 308) (by decide +kernel) dX8_nextParcel_92 dX8_nextParcel_95 dX8_nextParcel_96 dX8_nextParcel_99 dX8_nextParcel_102 (hm := by exact ⟨Nat.le_of_ble_eq_true rfl, Nat.le_of_ble_eq_true rfl⟩) (hm2 := by exact ⟨Nat.le_of_ble_eq_true rfl, Nat.le_of_ble_eq_true rfl⟩) (hx := fun n hn2 => xT1_of (by omega) hn2)
      · intro q hn
        have hr := nh_rg (σ := σ) (σ.1 4)
        skip
        refine r_iload_n dX8_nextParcel_6 rfl ?_
        refine r_aload_n dX8_nextParcel_7 rfl ?_
        refine r_getR qX8_22 dX8_nextParcel_8 (hX.x 0 8 0) (hX.f 0 515 4) (kk := ?_)
        refine r_callV (mi := iX8_nextParcel) vX8_77 dX8_nextParcel_11 (hX.x 4 10 0) (c_size (n := σ.1 4) (hX.l 4)) (hm := by first | exact ⟨Nat.le_of_ble_eq_true rfl, Nat.le_of_ble_eq_true rfl⟩ | (constructor <;> simp only [rmd] <;> omega)) (k := kP ?_) (kx := r_nox)
        refine r_icmp_ge (tgt := 87) dX8_nextParcel_14 (by decide) (kt := fun z14 => ?_) (kf := fun z14 => (by exfalso; first | omega | simp_all))
        refine r_iload_n dX8_nextParcel_87 rfl ?_
        refine r_iconst dX8_nextParcel_88 ?_
        refine r_icmp_ne (tgt := 103) dX8_nextParcel_89 (by decide) (kt := fun z89 => ?_) (kf := fun z89 => (by exfalso; first | omega | simp_all))
        refine r_iload_n dX8_nextParcel_103 rfl ?_
        exact r_iret dX8_nextParcel_104 (⟨by omega, by rw [hn], rfl⟩)
    | succ k ih =>
      intro i hi
      have hi3 : i < σ.1 4 := by omega
      obtain ⟨a1, a2, a3, a4, a5, a6⟩ := hO.2.2.2.2 i hi3
      have ehv : hv σ i = (decide (σ.1 5 < σ.2 11 i) && decide (σ.2 14 i = 0)) := rfl
      have hvT : σ.1 5 < σ.2 11 i → σ.2 14 i = 0 → hv σ i = true := fun h1 h2 => by rw [ehv, decide_eq_true h1, decide_eq_true h2]; rfl
      have hvF : ¬ (σ.1 5 < σ.2 11 i ∧ σ.2 14 i = 0) → ¬ hv σ i = true := fun h h2 => by
        rw [ehv, Bool.and_eq_true, decide_eq_true_eq, decide_eq_true_eq] at h2
        exact h h2
      obtain ⟨ih1, ih2⟩ := ih (i + 1) (by omega)
      constructor
      · intro hn
        skip
        refine r_iload_n dX8_nextParcel_6 rfl ?_
        refine r_aload_n dX8_nextParcel_7 rfl ?_
        refine r_getR qX8_22 dX8_nextParcel_8 (hX.x 0 8 0) (hX.f 0 515 4) (kk := ?_)
        refine r_callV (mi := iX8_nextParcel) vX8_77 dX8_nextParcel_11 (hX.x 4 10 0) (c_size (n := σ.1 4) (hX.l 4)) (hm := by first | exact ⟨Nat.le_of_ble_eq_true rfl, Nat.le_of_ble_eq_true rfl⟩ | (constructor <;> simp only [rmd] <;> omega)) (k := kP ?_) (kx := r_nox)
        refine r_icmp_ge (tgt := 87) dX8_nextParcel_14 (by decide) (kt := fun z14 => (by exfalso; first | omega | simp_all)) (kf := fun z14 => ?_)
        refine r_aload_n dX8_nextParcel_17 rfl ?_
        refine r_getR qX8_22 dX8_nextParcel_18 (hX.x 0 8 0) (hX.f 0 515 4) (kk := ?_)
        refine r_iload_n dX8_nextParcel_21 rfl ?_
        refine r_callV (mi := iX8_nextParcel) vX8_153 dX8_nextParcel_22 (hX.x 4 10 0) (c_get (hX.l 4) (hi3) (hX.q 4 _ (hi3))) (hm := by first | exact ⟨Nat.le_of_ble_eq_true rfl, Nat.le_of_ble_eq_true rfl⟩ | (constructor <;> simp only [rmd] <;> omega)) (k := kPA ?_) (kx := r_nox)
        refine r_cast nX8_148.1 dX8_nextParcel_25 (hX.k2 _ (hi3)) (k := ?_)
        refine r_astore dX8_nextParcel_28 (k := ?_)
        refine r_aload dX8_nextParcel_30 rfl ?_
        refine r_getI qX8_297 dX8_nextParcel_32 (hX.k2 i hi3) (hX.g131 i hi3) (kk := ?_)
        refine r_if_ne (tgt := 54) dX8_nextParcel_35 (by decide) (kt := fun z35 => ?_) (kf := fun z35 => ?_)
        · refine r_iconst dX8_nextParcel_54 ?_
          refine r_istore dX8_nextParcel_55 (k := ?_)
          refine r_iload dX8_nextParcel_57 rfl ?_
          refine r_if_eq (tgt := 81) dX8_nextParcel_59 (by decide) (kt := fun z59 => ?_) (kf := fun z59 => ?_)
          · refine r_iinc dX8_nextParcel_81 rfl (k := ?_)
            refine r_goto (tgt := 6) dX8_nextParcel_84 (by decide) ?_
            first
             | (exfalso; omega)
             | (have h9 := nh_T ⟨hvT (by omega) (by omega), Or.inl hn⟩
                exact r_loc' (ih2 i h9) ⟨rfl, rfl, rfl, rfl, trivial⟩)
             | (have h9 := nh_F (fun h => hvF (by omega) h.1)
                exact r_loc' (ih1 (by omega)) ⟨rfl, rfl, rfl, rfl, trivial⟩)
          · refine r_aload_nN dX8_nextParcel_62 rfl ?_
            refine r_ifnullN (tgt := 76) dX8_nextParcel_63 (by decide) ?_
            refine r_aload dX8_nextParcel_76 rfl ?_
            refine r_astore_n dX8_nextParcel_78 (k := ?_)
            refine r_iload_n dX8_nextParcel_79 rfl ?_
            refine r_istore_n dX8_nextParcel_80 (k := ?_)
            refine r_iinc dX8_nextParcel_81 rfl (k := ?_)
            refine r_goto (tgt := 6) dX8_nextParcel_84 (by decide) ?_
            first
             | (exfalso; omega)
             | (have h9 := nh_T ⟨hvT (by omega) (by omega), Or.inl hn⟩
                exact r_loc' (ih2 i h9) ⟨rfl, rfl, rfl, rfl, trivial⟩)
             | (have h9 := nh_F (fun h => hvF (by omega) h.1)
                exact r_loc' (ih1 (by omega)) ⟨rfl, rfl, rfl, rfl, trivial⟩)
        · refine r_aload dX8_nextParcel_38 rfl ?_
          refine r_getI qX8_301 dX8_nextParcel_40 (hX.k2 i hi3) (hX.g129 i hi3) (kk := ?_)
          refine r_aload_n dX8_nextParcel_43 rfl ?_
          refine r_getI qX8_54 dX8_nextParcel_44 (hX.x 0 8 0) hX.i520 (kk := ?_)
          refine r_icmp_le (tgt := 54) dX8_nextParcel_47 (by decide) (kt := fun z47 => ?_) (kf := fun z47 => ?_)
          · refine r_iconst dX8_nextParcel_54 ?_
            refine r_istore dX8_nextParcel_55 (k := ?_)
            refine r_iload dX8_nextParcel_57 rfl ?_
            refine r_if_eq (tgt := 81) dX8_nextParcel_59 (by decide) (kt := fun z59 => ?_) (kf := fun z59 => ?_)
            · refine r_iinc dX8_nextParcel_81 rfl (k := ?_)
              refine r_goto (tgt := 6) dX8_nextParcel_84 (by decide) ?_
              first
               | (exfalso; omega)
               | (have h9 := nh_T ⟨hvT (by omega) (by omega), Or.inl hn⟩
                  exact r_loc' (ih2 i h9) ⟨rfl, rfl, rfl, rfl, trivial⟩)
               | (have h9 := nh_F (fun h => hvF (by omega) h.1)
                  exact r_loc' (ih1 (by omega)) ⟨rfl, rfl, rfl, rfl, trivial⟩)
            · refine r_aload_nN dX8_nextParcel_62 rfl ?_
              refine r_ifnullN (tgt := 76) dX8_nextParcel_63 (by decide) ?_
              refine r_aload dX8_nextParcel_76 rfl ?_
              refine r_astore_n dX8_nextParcel_78 (k := ?_)
              refine r_iload_n dX8_nextParcel_79 rfl ?_
              refine r_istore_n dX8_nextParcel_80 (k := ?_)
              refine r_iinc dX8_nextParcel_81 rfl (k := ?_)
              refine r_goto (tgt := 6) dX8_nextParcel_84 (by decide) ?_
              first
               | (exfalso; omega)
               | (have h9 := nh_T ⟨hvT (by omega) (by omega), Or.inl hn⟩
                  exact r_loc' (ih2 i h9) ⟨rfl, rfl, rfl, rfl, trivial⟩)
               | (have h9 := nh_F (fun h => hvF (by omega) h.1)
                  exact r_loc' (ih1 (by omega)) ⟨rfl, rfl, rfl, rfl, trivial⟩)
          · refine r_iconst dX8_nextParcel_50 ?_
            refine r_goto (tgt := 55) dX8_nextParcel_51 (by decide) ?_
            refine r_istore dX8_nextParcel_55 (k := ?_)
            refine r_iload dX8_nextParcel_57 rfl ?_
            refine r_if_eq (tgt := 81) dX8_nextParcel_59 (by decide) (kt := fun z59 => ?_) (kf := fun z59 => ?_)
            · refine r_iinc dX8_nextParcel_81 rfl (k := ?_)
              refine r_goto (tgt := 6) dX8_nextParcel_84 (by decide) ?_
              first
               | (exfalso; omega)
               | (have h9 := nh_T ⟨hvT (by omega) (by omega), Or.inl hn⟩
                  exact r_loc' (ih2 i h9) ⟨rfl, rfl, rfl, rfl, trivial⟩)
               | (have h9 := nh_F (fun h => hvF (by omega) h.1)
                  exact r_loc' (ih1 (by omega)) ⟨rfl, rfl, rfl, rfl, trivial⟩)
            · refine r_aload_nN dX8_nextParcel_62 rfl ?_
              refine r_ifnullN (tgt := 76) dX8_nextParcel_63 (by decide) ?_
              refine r_aload dX8_nextParcel_76 rfl ?_
              refine r_astore_n dX8_nextParcel_78 (k := ?_)
              refine r_iload_n dX8_nextParcel_79 rfl ?_
              refine r_istore_n dX8_nextParcel_80 (k := ?_)
              refine r_iinc dX8_nextParcel_81 rfl (k := ?_)
              refine r_goto (tgt := 6) dX8_nextParcel_84 (by decide) ?_
              first
               | (exfalso; omega)
               | (have h9 := nh_T ⟨hvT (by omega) (by omega), Or.inl hn⟩
                  exact r_loc' (ih2 i h9) ⟨rfl, rfl, rfl, rfl, trivial⟩)
               | (have h9 := nh_F (fun h => hvF (by omega) h.1)
                  exact r_loc' (ih1 (by omega)) ⟨rfl, rfl, rfl, rfl, trivial⟩)
      · intro q hn
        have hr := nh_rg (σ := σ) i
        have hq : q < i := by omega
        have hgf := gf_up (σ := σ) hq
        have hqn : (nh σ i).toNat = q := by omega
        skip
        refine r_iload_n dX8_nextParcel_6 rfl ?_
        refine r_aload_n dX8_nextParcel_7 rfl ?_
        refine r_getR qX8_22 dX8_nextParcel_8 (hX.x 0 8 0) (hX.f 0 515 4) (kk := ?_)
        refine r_callV (mi := iX8_nextParcel) vX8_77 dX8_nextParcel_11 (hX.x 4 10 0) (c_size (n := σ.1 4) (hX.l 4)) (hm := by first | exact ⟨Nat.le_of_ble_eq_true rfl, Nat.le_of_ble_eq_true rfl⟩ | (constructor <;> simp only [rmd] <;> omega)) (k := kP ?_) (kx := r_nox)
        refine r_icmp_ge (tgt := 87) dX8_nextParcel_14 (by decide) (kt := fun z14 => (by exfalso; first | omega | simp_all)) (kf := fun z14 => ?_)
        refine r_aload_n dX8_nextParcel_17 rfl ?_
        refine r_getR qX8_22 dX8_nextParcel_18 (hX.x 0 8 0) (hX.f 0 515 4) (kk := ?_)
        refine r_iload_n dX8_nextParcel_21 rfl ?_
        refine r_callV (mi := iX8_nextParcel) vX8_153 dX8_nextParcel_22 (hX.x 4 10 0) (c_get (hX.l 4) (hi3) (hX.q 4 _ (hi3))) (hm := by first | exact ⟨Nat.le_of_ble_eq_true rfl, Nat.le_of_ble_eq_true rfl⟩ | (constructor <;> simp only [rmd] <;> omega)) (k := kPA ?_) (kx := r_nox)
        refine r_cast nX8_148.1 dX8_nextParcel_25 (hX.k2 _ (hi3)) (k := ?_)
        refine r_astore dX8_nextParcel_28 (k := ?_)
        refine r_aload dX8_nextParcel_30 rfl ?_
        refine r_getI qX8_297 dX8_nextParcel_32 (hX.k2 i hi3) (hX.g131 i hi3) (kk := ?_)
        refine r_if_ne (tgt := 54) dX8_nextParcel_35 (by decide) (kt := fun z35 => ?_) (kf := fun z35 => ?_)
        · refine r_iconst dX8_nextParcel_54 ?_
          refine r_istore dX8_nextParcel_55 (k := ?_)
          refine r_iload dX8_nextParcel_57 rfl ?_
          refine r_if_eq (tgt := 81) dX8_nextParcel_59 (by decide) (kt := fun z59 => ?_) (kf := fun z59 => ?_)
          · refine r_iinc dX8_nextParcel_81 rfl (k := ?_)
            refine r_goto (tgt := 6) dX8_nextParcel_84 (by decide) ?_
            first
             | (exfalso; omega)
             | (have h9 := nh_T (σ := σ) (p := i) ⟨hvT (by omega) (by omega), Or.inr (by rw [hqn, hgf]; exact decide_eq_true z73)⟩
                exact r_loc' (ih2 i h9) ⟨rfl, rfl, rfl, rfl, trivial⟩)
             | (have h9 := nh_F (σ := σ) (p := i) (fun h => hvF (by omega) h.1)
                exact r_loc' (ih2 q (by omega)) ⟨rfl, rfl, rfl, rfl, trivial⟩)
             | (have h9 := nh_F (σ := σ) (p := i) (fun h => h.2.elim (fun h8 => by omega) (fun h8 => by rw [hqn, hgf] at h8; exact z73 (of_decide_eq_true h8)))
                exact r_loc' (ih2 q (by omega)) ⟨rfl, rfl, rfl, rfl, trivial⟩)
          · refine r_aload_n dX8_nextParcel_62 rfl ?_
            refine r_ifnull dX8_nextParcel_63 ?_
            refine r_aload_n dX8_nextParcel_66 rfl ?_
            refine r_aload dX8_nextParcel_67 rfl ?_
            refine r_aload_n dX8_nextParcel_69 rfl ?_
            refine r_callV (mi := iX8_nextParcel) vX8_304 dX8_nextParcel_70 (hX.x 0 8 0) (x_comesBefore hX hO hi3 (show q < σ.1 4 by omega)) (hm := by first | exact ⟨Nat.le_of_ble_eq_true rfl, Nat.le_of_ble_eq_true rfl⟩ | (constructor <;> simp only [rmd] <;> omega)) (k := kP ?_) (kx := r_nox)
            refine r_dif_eq (tgt := 81) dX8_nextParcel_73 (by decide) (kt := fun z73 => ?_) (kf := fun z73 => ?_)
            · refine r_iinc dX8_nextParcel_81 rfl (k := ?_)
              refine r_goto (tgt := 6) dX8_nextParcel_84 (by decide) ?_
              first
               | (exfalso; omega)
               | (have h9 := nh_T (σ := σ) (p := i) ⟨hvT (by omega) (by omega), Or.inr (by rw [hqn, hgf]; exact decide_eq_true z73)⟩
                  exact r_loc' (ih2 i h9) ⟨rfl, rfl, rfl, rfl, trivial⟩)
               | (have h9 := nh_F (σ := σ) (p := i) (fun h => hvF (by omega) h.1)
                  exact r_loc' (ih2 q (by omega)) ⟨rfl, rfl, rfl, rfl, trivial⟩)
               | (have h9 := nh_F (σ := σ) (p := i) (fun h => h.2.elim (fun h8 => by omega) (fun h8 => by rw [hqn, hgf] at h8; exact z73 (of_decide_eq_true h8)))
                  exact r_loc' (ih2 q (by omega)) ⟨rfl, rfl, rfl, rfl, trivial⟩)
            · refine r_aload dX8_nextParcel_76 rfl ?_
              refine r_astore_n dX8_nextParcel_78 (k := ?_)
              refine r_iload_n dX8_nextParcel_79 rfl ?_
              refine r_istore_n dX8_nextParcel_80 (k := ?_)
              refine r_iinc dX8_nextParcel_81 rfl (k := ?_)
              refine r_goto (tgt := 6) dX8_nextParcel_84 (by decide) ?_
              first
               | (exfalso; omega)
               | (have h9 := nh_T (σ := σ) (p := i) ⟨hvT (by omega) (by omega), Or.inr (by rw [hqn, hgf]; exact decide_eq_true z73)⟩
                  exact r_loc' (ih2 i h9) ⟨rfl, rfl, rfl, rfl, trivial⟩)
               | (have h9 := nh_F (σ := σ) (p := i) (fun h => hvF (by omega) h.1)
                  exact r_loc' (ih2 q (by omega)) ⟨rfl, rfl, rfl, rfl, trivial⟩)
               | (have h9 := nh_F (σ := σ) (p := i) (fun h => h.2.elim (fun h8 => by omega) (fun h8 => by rw [hqn, hgf] at h8; exact z73 (of_decide_eq_true h8)))
                  exact r_loc' (ih2 q (by omega)) ⟨rfl, rfl, rfl, rfl, trivial⟩)
        · refine r_aload dX8_nextParcel_38 rfl ?_
          refine r_getI qX8_301 dX8_nextParcel_40 (hX.k2 i hi3) (hX.g129 i hi3) (kk := ?_)
          refine r_aload_n dX8_nextParcel_43 rfl ?_
          refine r_getI qX8_54 dX8_nextParcel_44 (hX.x 0 8 0) hX.i520 (kk := ?_)
          refine r_icmp_le (tgt := 54) dX8_nextParcel_47 (by decide) (kt := fun z47 => ?_) (kf := fun z47 => ?_)
          · refine r_iconst dX8_nextParcel_54 ?_
            refine r_istore dX8_nextParcel_55 (k := ?_)
            refine r_iload dX8_nextParcel_57 rfl ?_
            refine r_if_eq (tgt := 81) dX8_nextParcel_59 (by decide) (kt := fun z59 => ?_) (kf := fun z59 => ?_)
            · refine r_iinc dX8_nextParcel_81 rfl (k := ?_)
              refine r_goto (tgt := 6) dX8_nextParcel_84 (by decide) ?_
              first
               | (exfalso; omega)
               | (have h9 := nh_T (σ := σ) (p := i) ⟨hvT (by omega) (by omega), Or.inr (by rw [hqn, hgf]; exact decide_eq_true z73)⟩
                  exact r_loc' (ih2 i h9) ⟨rfl, rfl, rfl, rfl, trivial⟩)
               | (have h9 := nh_F (σ := σ) (p := i) (fun h => hvF (by omega) h.1)
                  exact r_loc' (ih2 q (by omega)) ⟨rfl, rfl, rfl, rfl, trivial⟩)
               | (have h9 := nh_F (σ := σ) (p := i) (fun h => h.2.elim (fun h8 => by omega) (fun h8 => by rw [hqn, hgf] at h8; exact z73 (of_decide_eq_true h8)))
                  exact r_loc' (ih2 q (by omega)) ⟨rfl, rfl, rfl, rfl, trivial⟩)
            · refine r_aload_n dX8_nextParcel_62 rfl ?_
              refine r_ifnull dX8_nextParcel_63 ?_
              refine r_aload_n dX8_nextParcel_66 rfl ?_
              refine r_aload dX8_nextParcel_67 rfl ?_
              refine r_aload_n dX8_nextParcel_69 rfl ?_
              refine r_callV (mi := iX8_nextParcel) vX8_304 dX8_nextParcel_70 (hX.x 0 8 0) (x_comesBefore hX hO hi3 (show q < σ.1 4 by omega)) (hm := by first | exact ⟨Nat.le_of_ble_eq_true rfl, Nat.le_of_ble_eq_true rfl⟩ | (constructor <;> simp only [rmd] <;> omega)) (k := kP ?_) (kx := r_nox)
              refine r_dif_eq (tgt := 81) dX8_nextParcel_73 (by decide) (kt := fun z73 => ?_) (kf := fun z73 => ?_)
              · refine r_iinc dX8_nextParcel_81 rfl (k := ?_)
                refine r_goto (tgt := 6) dX8_nextParcel_84 (by decide) ?_
                first
                 | (exfalso; omega)
                 | (have h9 := nh_T (σ := σ) (p := i) ⟨hvT (by omega) (by omega), Or.inr (by rw [hqn, hgf]; exact decide_eq_true z73)⟩
                    exact r_loc' (ih2 i h9) ⟨rfl, rfl, rfl, rfl, trivial⟩)
                 | (have h9 := nh_F (σ := σ) (p := i) (fun h => hvF (by omega) h.1)
                    exact r_loc' (ih2 q (by omega)) ⟨rfl, rfl, rfl, rfl, trivial⟩)
                 | (have h9 := nh_F (σ := σ) (p := i) (fun h => h.2.elim (fun h8 => by omega) (fun h8 => by rw [hqn, hgf] at h8; exact z73 (of_decide_eq_true h8)))
                    exact r_loc' (ih2 q (by omega)) ⟨rfl, rfl, rfl, rfl, trivial⟩)
              · refine r_aload dX8_nextParcel_76 rfl ?_
                refine r_astore_n dX8_nextParcel_78 (k := ?_)
                refine r_iload_n dX8_nextParcel_79 rfl ?_
                refine r_istore_n dX8_nextParcel_80 (k := ?_)
                refine r_iinc dX8_nextParcel_81 rfl (k := ?_)
                refine r_goto (tgt := 6) dX8_nextParcel_84 (by decide) ?_
                first
                 | (exfalso; omega)
                 | (have h9 := nh_T (σ := σ) (p := i) ⟨hvT (by omega) (by omega), Or.inr (by rw [hqn, hgf]; exact decide_eq_true z73)⟩
                    exact r_loc' (ih2 i h9) ⟨rfl, rfl, rfl, rfl, trivial⟩)
                 | (have h9 := nh_F (σ := σ) (p := i) (fun h => hvF (by omega) h.1)
                    exact r_loc' (ih2 q (by omega)) ⟨rfl, rfl, rfl, rfl, trivial⟩)
                 | (have h9 := nh_F (σ := σ) (p := i) (fun h => h.2.elim (fun h8 => by omega) (fun h8 => by rw [hqn, hgf] at h8; exact z73 (of_decide_eq_true h8)))
                    exact r_loc' (ih2 q (by omega)) ⟨rfl, rfl, rfl, rfl, trivial⟩)
          · refine r_iconst dX8_nextParcel_50 ?_
            refine r_goto (tgt := 55) dX8_nextParcel_51 (by decide) ?_
            refine r_istore dX8_nextParcel_55 (k := ?_)
            refine r_iload dX8_nextParcel_57 rfl ?_
            refine r_if_eq (tgt := 81) dX8_nextParcel_59 (by decide) (kt := fun z59 => ?_) (kf := fun z59 => ?_)
            · refine r_iinc dX8_nextParcel_81 rfl (k := ?_)
              refine r_goto (tgt := 6) dX8_nextParcel_84 (by decide) ?_
              first
               | (exfalso; omega)
               | (have h9 := nh_T (σ := σ) (p := i) ⟨hvT (by omega) (by omega), Or.inr (by rw [hqn, hgf]; exact decide_eq_true z73)⟩
                  exact r_loc' (ih2 i h9) ⟨rfl, rfl, rfl, rfl, trivial⟩)
               | (have h9 := nh_F (σ := σ) (p := i) (fun h => hvF (by omega) h.1)
                  exact r_loc' (ih2 q (by omega)) ⟨rfl, rfl, rfl, rfl, trivial⟩)
               | (have h9 := nh_F (σ := σ) (p := i) (fun h => h.2.elim (fun h8 => by omega) (fun h8 => by rw [hqn, hgf] at h8; exact z73 (of_decide_eq_true h8)))
                  exact r_loc' (ih2 q (by omega)) ⟨rfl, rfl, rfl, rfl, trivial⟩)
            · refine r_aload_n dX8_nextParcel_62 rfl ?_
              refine r_ifnull dX8_nextParcel_63 ?_
              refine r_aload_n dX8_nextParcel_66 rfl ?_
              refine r_aload dX8_nextParcel_67 rfl ?_
              refine r_aload_n dX8_nextParcel_69 rfl ?_
              refine r_callV (mi := iX8_nextParcel) vX8_304 dX8_nextParcel_70 (hX.x 0 8 0) (x_comesBefore hX hO hi3 (show q < σ.1 4 by omega)) (hm := by first | exact ⟨Nat.le_of_ble_eq_true rfl, Nat.le_of_ble_eq_true rfl⟩ | (constructor <;> simp only [rmd] <;> omega)) (k := kP ?_) (kx := r_nox)
              refine r_dif_eq (tgt := 81) dX8_nextParcel_73 (by decide) (kt := fun z73 => ?_) (kf := fun z73 => ?_)
              · refine r_iinc dX8_nextParcel_81 rfl (k := ?_)
                refine r_goto (tgt := 6) dX8_nextParcel_84 (by decide) ?_
                first
                 | (exfalso; omega)
                 | (have h9 := nh_T (σ := σ) (p := i) ⟨hvT (by omega) (by omega), Or.inr (by rw [hqn, hgf]; exact decide_eq_true z73)⟩
                    exact r_loc' (ih2 i h9) ⟨rfl, rfl, rfl, rfl, trivial⟩)
                 | (have h9 := nh_F (σ := σ) (p := i) (fun h => hvF (by omega) h.1)
                    exact r_loc' (ih2 q (by omega)) ⟨rfl, rfl, rfl, rfl, trivial⟩)
                 | (have h9 := nh_F (σ := σ) (p := i) (fun h => h.2.elim (fun h8 => by omega) (fun h8 => by rw [hqn, hgf] at h8; exact z73 (of_decide_eq_true h8)))
                    exact r_loc' (ih2 q (by omega)) ⟨rfl, rfl, rfl, rfl, trivial⟩)
              · refine r_aload dX8_nextParcel_76 rfl ?_
                refine r_astore_n dX8_nextParcel_78 (k := ?_)
                refine r_iload_n dX8_nextParcel_79 rfl ?_
                refine r_istore_n dX8_nextParcel_80 (k := ?_)
                refine r_iinc dX8_nextParcel_81 rfl (k := ?_)
                refine r_goto (tgt := 6) dX8_nextParcel_84 (by decide) ?_
                first
                 | (exfalso; omega)
                 | (have h9 := nh_T (σ := σ) (p := i) ⟨hvT (by omega) (by omega), Or.inr (by rw [hqn, hgf]; exact decide_eq_true z73)⟩
                    exact r_loc' (ih2 i h9) ⟨rfl, rfl, rfl, rfl, trivial⟩)
                 | (have h9 := nh_F (σ := σ) (p := i) (fun h => hvF (by omega) h.1)
                    exact r_loc' (ih2 q (by omega)) ⟨rfl, rfl, rfl, rfl, trivial⟩)
                 | (have h9 := nh_F (σ := σ) (p := i) (fun h => h.2.elim (fun h8 => by omega) (fun h8 => by rw [hqn, hgf] at h8; exact z73 (of_decide_eq_true h8)))
                    exact r_loc' (ih2 q (by omega)) ⟨rfl, rfl, rfl, rfl, trivial⟩)
  refine r_iconst dX8_nextParcel_0 ?_
  refine r_istore_n dX8_nextParcel_1 (k := ?_)
  refine r_null dX8_nextParcel_2 ?_
  refine r_astore_nN dX8_nextParcel_3 (k := ?_)
  refine r_iconst dX8_nextParcel_4 ?_
  refine r_istore_n dX8_nextParcel_5 (k := ?_)
  exact r_loc' ((loop (σ.1 4) 0 (by omega)).1 (by show (-1 : Int) < 0; omega)) ⟨rfl, rfl, rfl, rfl, trivial⟩
theorem y_nextParcel (hM : XM G M C σ) (hO : Ok σ T) : Ht G iX8_nextParcel yX8_nextParcel 10 [.ref (eX C 0)] M (CR G C M (opNext σ)) (CX G C M (opNext σ) [NSE]) 1 6 :=
  ht_weak (x_nextParcel hM.1 hO) (fun v M' h => by
    obtain ⟨h1, rfl, rfl⟩ := h
    exact cr_of (if_neg (by omega)) rfl (XQ.rf hM)) (fun E M' h => by
    obtain ⟨h1, rfl, n, hn, rfl⟩ := h
    exact cx_rd (c := 0) hM hO hn (if_pos (by omega)) rfl)
theorem x_checkedTrip (hX : XB G M C σ) (hO : Ok σ T) {q : Nat} (hq : q < σ.1 4) : Ht G iX8_checkedTrip yX8_checkedTrip 8 [.ref (eX C 0), .ref (eA C 4 q)] M (rT (fT σ q < 100000) (rP (iz (tp σ q : Int)) M)) (xT1 (fT σ q < 100000) UOE M) 1 6 := by
  have l1 : fT σ q ≤ 100000 := dst_le _ _
  obtain ⟨-, c1, c2⟩ := cp_mono l1 l1
  have h10 := (hO.2.2.2.2 q hq).1
  obtain ⟨h5, -, h7, -⟩ := hO.2.2.1 _ h10
  have h3 := (hO.2.1 _ h5).2.2.2.2.1
  refine ht_intro (by decide +kernel) rfl rfl rfl (Nat.le_of_ble_eq_true rfl) ?_
  refine r_aload_n dX8_checkedTrip_0 rfl ?_
  refine r_aload_n dX8_checkedTrip_1 rfl ?_
  refine r_callV (mi := iX8_checkedTrip) vX8_382 dX8_checkedTrip_2 (hX.x 0 8 0) (x_wayTo hX hO hq) (hm := by first | exact ⟨Nat.le_of_ble_eq_true rfl, Nat.le_of_ble_eq_true rfl⟩ | (constructor <;> simp only [rmd] <;> omega)) (k := kP ?_) (kx := r_nox)
  refine r_istore_n dX8_checkedTrip_5 (k := ?_)
  refine r_iload_n dX8_checkedTrip_6 rfl ?_
  refine r_ldcw (n := 1000000) kX8_333 dX8_checkedTrip_7 (k := ?_)
  refine r_icmp_lt (tgt := 24) dX8_checkedTrip_10 (by decide) (kt := fun z10 => ?_) (kf := fun z10 => ?_)
  · refine r_iconst dX8_checkedTrip_24 ?_
    refine r_iload_n dX8_checkedTrip_25 rfl ?_
    refine r_imul dX8_checkedTrip_26 ?_
    refine r_iconst dX8_checkedTrip_27 ?_
    refine r_aload_n dX8_checkedTrip_28 rfl ?_
    refine r_getR qX8_345 dX8_checkedTrip_29 (hX.k2 q hq) (hX.g128 q hq) (kk := ?_)
    refine r_getI qX8_342 dX8_checkedTrip_32 (hX.k1 _ h10) (hX.g67 _ h10) (kk := ?_)
    refine r_imul dX8_checkedTrip_35 ?_
    refine r_iadd dX8_checkedTrip_36 ?_
    refine r_iconst dX8_checkedTrip_37 ?_
    refine r_iadd dX8_checkedTrip_38 ?_
    refine r_iconst dX8_checkedTrip_39 ?_
    refine r_idiv dX8_checkedTrip_40 (k := ?_)
    exact r_iret dX8_checkedTrip_41 (⟨by omega, congrArg (fun z => some (Value.int (iz z))) (show _ = ((tp σ q : Nat) : Int) by unfold tp; omega), rfl⟩)
  · exact r_throwXW (mi := iX8_checkedTrip) xw_222 hX.gD (text := "no way leads to the street") (is := 385) (by decide +kernel) dX8_checkedTrip_13 dX8_checkedTrip_16 dX8_checkedTrip_17 dX8_checkedTrip_20 dX8_checkedTrip_23 (hm := by exact ⟨Nat.le_of_ble_eq_true rfl, Nat.le_of_ble_eq_true rfl⟩) (hm2 := by exact ⟨Nat.le_of_ble_eq_true rfl, Nat.le_of_ble_eq_true rfl⟩) (hx := fun n hn => xT1_of (by omega) hn)
theorem y_tripOf (hM : XM G M C σ) (hO : Ok σ T) (p : Int) (ha : inR p) : Ht G iX8_tripOf yX8_tripOf 12 [.ref (eX C 0), .int (iz p)] M (CR G C M (opTrip σ p)) (CX G C M (opTrip σ p) [NSE, UOE]) 2 12 := by
  have hX := hM.1
  have p6 := hO.1.2.2.2.2.2.1
  refine ht_intro (by decide +kernel) rfl rfl rfl (Nat.le_of_ble_eq_true rfl) ?_
  refine r_aload_n dX8_tripOf_0 rfl ?_
  refine r_aload_n dX8_tripOf_1 rfl ?_
  refine r_iload_n dX8_tripOf_2 rfl ?_
  refine r_callV (mi := iX8_tripOf) vX8_293 dX8_tripOf_3 (hX.x 0 8 0) (x_findParcel hX (by omega) p ha) (hm := by first | exact ⟨Nat.le_of_ble_eq_true rfl, Nat.le_of_ble_eq_true rfl⟩ | (constructor <;> simp only [rmd] <;> omega)) (k := kT (fun hb1 => kPA ?_)) (kx := kxT (fun hb1 n hn => cx_rd (c := 0) hM hO hn (if_pos hb1) rfl))
  obtain ⟨p, rfl⟩ := nat_of (a := p) (by omega)
  rw [Int.toNat_natCast]
  have hp : p < σ.1 4 := by omega
  refine r_callV (mi := iX8_tripOf) vX8_310 dX8_tripOf_6 (hX.x 0 8 0) (x_checkedTrip hX hO hp) (hm := by first | exact ⟨Nat.le_of_ble_eq_true rfl, Nat.le_of_ble_eq_true rfl⟩ | (constructor <;> simp only [rmd] <;> omega)) (k := kT (fun hb2 => kP ?_)) (kx := kxT (fun hb2 n hn => cx_rd (c := 1) hM hO hn (opT_2 hp (by omega)) rfl))
  exact r_iret dX8_tripOf_9 (cr_of (opT_0 hp (by omega)) rfl (XQ.rf hM))
theorem stS_id (τ : St) (j : Nat) : stS τ j (τ.1 j) = τ := Prod.ext (funext fun i => by
  show va_up τ.1 j (τ.1 j) i = τ.1 i
  by_cases e : i = j
  · subst e; exact up_s _ _ _
  · exact up_n _ _ e) rfl
theorem y_dispatch (hM : XM G M C σ) (hO : Ok σ T) : Ht G iX8_dispatch yX8_dispatch 14 [.ref (eX C 0)] M (CR G C M (opDispatch σ)) (CX G C M (opDispatch σ) [NSE, UOE]) 3 18 := by
  have hX := hM.1
  have p6 := hO.1.2.2.2.2.2.1
  have p8 := hO.1.2.2.2.2.2.2.2.1
  have p9 := hO.1.2.2.2.2.2.2.2.2.1
  have p10 := hO.1.2.2.2.2.2.2.2.2.2.1
  have pT := hO.1.2.2.2.2.2.2.2.2.2.2.2.2.1
  have hr := nh_rg (σ := σ) (σ.1 4)
  refine ht_intro (by decide +kernel) rfl rfl rfl (Nat.le_of_ble_eq_true rfl) ?_
  refine r_aload_n dX8_dispatch_0 rfl ?_
  refine r_aload_n dX8_dispatch_1 rfl ?_
  refine r_callV (mi := iX8_dispatch) vX8_314 dX8_dispatch_2 (hX.x 0 8 0) (x_nextParcel hX hO) (hm := by first | exact ⟨Nat.le_of_ble_eq_true rfl, Nat.le_of_ble_eq_true rfl⟩ | (constructor <;> simp only [rmd] <;> omega)) (k := kT (fun hb0 => kP ?_)) (kx := kxT (fun hb0 n hn => cx_rd (c := 0) hM hO hn (opD_1 (by omega)) rfl))
  obtain ⟨p, hnp⟩ := nat_of (a := nh σ (σ.1 4)) (by omega)
  rw [hnp]
  have hp : p < σ.1 4 := by omega
  refine r_callV (mi := iX8_dispatch) vX8_293 dX8_dispatch_5 (hX.x 0 8 0) (x_findParcel hX (by omega) (p : Int) (by omega)) (hm := by first | exact ⟨Nat.le_of_ble_eq_true rfl, Nat.le_of_ble_eq_true rfl⟩ | (constructor <;> simp only [rmd] <;> omega)) (k := kT (fun hb1 => kPA ?_)) (kx := kxT (fun hb1 n hn => absurd (show bt2 (p : Int) 0 (σ.1 4 - 1) by omega) hb1))
  rw [Int.toNat_natCast]
  refine r_astore_n dX8_dispatch_8 (k := ?_)
  refine r_aload_n dX8_dispatch_9 rfl ?_
  refine r_aload_n dX8_dispatch_10 rfl ?_
  refine r_callV (mi := iX8_dispatch) vX8_310 dX8_dispatch_11 (hX.x 0 8 0) (x_checkedTrip hX hO hp) (hm := by first | exact ⟨Nat.le_of_ble_eq_true rfl, Nat.le_of_ble_eq_true rfl⟩ | (constructor <;> simp only [rmd] <;> omega)) (k := kT (fun hb2 => kP ?_)) (kx := kxT (fun hb2 n hn => cx_rd (c := 1) hM hO hn (opD_2 hnp (by omega)) rfl))
  have htp : tp σ p ≤ 70000 := by
    have h10 := (hO.2.2.2.2 p hp).1
    obtain ⟨h5, -, h7, -⟩ := hO.2.2.1 _ h10
    have h3 := (hO.2.1 _ h5).2.2.2.2.1
    unfold tp; omega
  have h12 := (hO.2.2.2.2 p hp).2.2.2.2.1
  refine r_istore_n dX8_dispatch_14 (k := ?_)
  refine r_aload_n dX8_dispatch_15 rfl ?_
  refine r_iconst dX8_dispatch_16 ?_
  refine gs (show iz 1 = bz true from rfl) ?_
  refine r_putZ qX8_297 dX8_dispatch_17 (x := true) (hX.k2 p hp) (kk := ?_)
  have hq := XM.el hM (j := 4) (f := 131) (i := p) (k := 14) (v := 1) (t0 := 2) (x := bz true) (Or.inr (Or.inr ⟨rfl, rfl, rfl, rfl⟩)) hp rfl
  refine gm (P := fun M2 => FX C M M2 ∧ XM G M2 C (stA σ 14 p 1)) ⟨FX.i (hX.k2 p hp) (by decide), hq⟩ (fun M2 hP => ?_)
  obtain ⟨f2, hM2⟩ := hP
  have hX := hM2.1
  refine r_aload_n dX8_dispatch_20 rfl ?_
  refine r_dup dX8_dispatch_21 (k := ?_)
  refine r_getI qX8_164 dX8_dispatch_22 (hX.x 0 8 0) (show mI M2 521 (eX C 0) = iz (σ.1 6 : Int) from hX.i521) (kk := ?_)
  refine r_iload_n dX8_dispatch_25 rfl ?_
  refine r_iadd dX8_dispatch_26 ?_
  refine gs (congrArg iz (show (σ.1 6 : Int) + (tp σ p : Int) = ((σ.1 6 + tp σ p : Nat) : Int) by omega)) ?_
  refine r_putI qX8_164 dX8_dispatch_27 (hX.x 0 8 0) (kk := ?_)
  refine gm (P := fun M3 => FX C M M3 ∧ XM G M3 C (stS (stA σ 14 p 1) 6 (σ.1 6 + tp σ p))) ⟨f2.tr rfl (FX.i (hX.x 0 8 0) (by decide)), hM2.sj 6 521 (σ.1 6 + tp σ p) (by decide)⟩ (fun M3 hP => ?_)
  obtain ⟨f3, hM3⟩ := hP
  have hX := hM3.1
  refine r_aload_n dX8_dispatch_30 rfl ?_
  refine r_dup dX8_dispatch_31 (k := ?_)
  refine r_getI qX8_317 dX8_dispatch_32 (hX.x 0 8 0) (show mI M3 522 (eX C 0) = iz (σ.1 8 : Int) from hX.i522) (kk := ?_)
  refine r_iconst dX8_dispatch_35 ?_
  refine r_iadd dX8_dispatch_36 ?_
  refine gs (congrArg iz (show (σ.1 8 : Int) + 1 = ((σ.1 8 + 1 : Nat) : Int) by omega)) ?_
  refine r_putI qX8_317 dX8_dispatch_37 (hX.x 0 8 0) (kk := ?_)
  refine gm (P := fun M4 => FX C M M4 ∧ XM G M4 C (dS σ p)) ⟨f3.tr rfl (FX.i (hX.x 0 8 0) (by decide)), hM3.sj 8 522 (σ.1 8 + 1) (by decide)⟩ (fun M4 hP => ?_)
  obtain ⟨f4, hM4⟩ := hP
  have hX := hM4.1
  refine r_aload_n dX8_dispatch_40 rfl ?_
  refine r_getI qX8_164 dX8_dispatch_41 (hX.x 0 8 0) (show mI M4 521 (eX C 0) = iz ((σ.1 6 + tp σ p : Nat) : Int) from hX.i521) (kk := ?_)
  refine r_iload_n dX8_dispatch_44 rfl ?_
  refine r_iconst dX8_dispatch_45 ?_
  refine r_idiv dX8_dispatch_46 (k := ?_)
  refine r_isub dX8_dispatch_47 ?_
  refine r_aload_n dX8_dispatch_48 rfl ?_
  refine r_getI qX8_320 dX8_dispatch_49 (hX.k2 p hp) (show mI M4 130 (eA C 4 p) = iz (σ.2 12 p : Int) from hX.g130 p hp) (kk := ?_)
  refine r_icmp_le (tgt := 59) dX8_dispatch_52 (by decide) (kt := fun z52 => ?_) (kf := fun z52 => ?_)
  · refine r_iconst dX8_dispatch_59 ?_
    refine r_istore_n dX8_dispatch_60 (k := ?_)
    refine r_iload_n dX8_dispatch_61 rfl ?_
    refine r_if_eq (tgt := 75) dX8_dispatch_62 (by decide) (kt := fun z62 => ?_) (kf := fun z62 => ?_)
    · refine r_iload_n dX8_dispatch_75 rfl ?_
      first
       | (exfalso; omega)
       | exact r_iret dX8_dispatch_76 (cr_of (opD_T hnp (by omega) (by omega)) rfl (XQ.of (f4.tr rfl (FX.i (hX.x 0 8 0) (by decide))) (hM4.sj 7 523 (σ.1 7 + 1) (by decide))))
       | exact r_iret dX8_dispatch_76 (cr_of (opD_F hnp (by omega) (by omega)) rfl (XQ.of f4 (show XM G M4 C (stS (dS σ p) 7 ((dS σ p).1 7)) by rw [stS_id]; exact hM4)))
    · refine r_aload_n dX8_dispatch_65 rfl ?_
      refine r_dup dX8_dispatch_66 (k := ?_)
      refine r_getI qX8_323 dX8_dispatch_67 (hX.x 0 8 0) (show mI M4 523 (eX C 0) = iz (σ.1 7 : Int) from hX.i523) (kk := ?_)
      refine r_iconst dX8_dispatch_70 ?_
      refine r_iadd dX8_dispatch_71 ?_
      refine gs (congrArg iz (show (σ.1 7 : Int) + 1 = ((σ.1 7 + 1 : Nat) : Int) by omega)) ?_
      refine r_putI qX8_323 dX8_dispatch_72 (hX.x 0 8 0) (kk := ?_)
      refine r_iload_n dX8_dispatch_75 rfl ?_
      first
       | (exfalso; omega)
       | exact r_iret dX8_dispatch_76 (cr_of (opD_T hnp (by omega) (by omega)) rfl (XQ.of (f4.tr rfl (FX.i (hX.x 0 8 0) (by decide))) (hM4.sj 7 523 (σ.1 7 + 1) (by decide))))
       | exact r_iret dX8_dispatch_76 (cr_of (opD_F hnp (by omega) (by omega)) rfl (XQ.of f4 (show XM G M4 C (stS (dS σ p) 7 ((dS σ p).1 7)) by rw [stS_id]; exact hM4)))
  · refine r_iconst dX8_dispatch_55 ?_
    refine r_goto (tgt := 60) dX8_dispatch_56 (by decide) ?_
    refine r_istore_n dX8_dispatch_60 (k := ?_)
    refine r_iload_n dX8_dispatch_61 rfl ?_
    refine r_if_eq (tgt := 75) dX8_dispatch_62 (by decide) (kt := fun z62 => ?_) (kf := fun z62 => ?_)
    · refine r_iload_n dX8_dispatch_75 rfl ?_
      first
       | (exfalso; omega)
       | exact r_iret dX8_dispatch_76 (cr_of (opD_T hnp (by omega) (by omega)) rfl (XQ.of (f4.tr rfl (FX.i (hX.x 0 8 0) (by decide))) (hM4.sj 7 523 (σ.1 7 + 1) (by decide))))
       | exact r_iret dX8_dispatch_76 (cr_of (opD_F hnp (by omega) (by omega)) rfl (XQ.of f4 (show XM G M4 C (stS (dS σ p) 7 ((dS σ p).1 7)) by rw [stS_id]; exact hM4)))
    · refine r_aload_n dX8_dispatch_65 rfl ?_
      refine r_dup dX8_dispatch_66 (k := ?_)
      refine r_getI qX8_323 dX8_dispatch_67 (hX.x 0 8 0) (show mI M4 523 (eX C 0) = iz (σ.1 7 : Int) from hX.i523) (kk := ?_)
      refine r_iconst dX8_dispatch_70 ?_
      refine r_iadd dX8_dispatch_71 ?_
      refine gs (congrArg iz (show (σ.1 7 : Int) + 1 = ((σ.1 7 + 1 : Nat) : Int) by omega)) ?_
      refine r_putI qX8_323 dX8_dispatch_72 (hX.x 0 8 0) (kk := ?_)
      refine r_iload_n dX8_dispatch_75 rfl ?_
      first
       | (exfalso; omega)
       | exact r_iret dX8_dispatch_76 (cr_of (opD_T hnp (by omega) (by omega)) rfl (XQ.of (f4.tr rfl (FX.i (hX.x 0 8 0) (by decide))) (hM4.sj 7 523 (σ.1 7 + 1) (by decide))))
       | exact r_iret dX8_dispatch_76 (cr_of (opD_F hnp (by omega) (by omega)) rfl (XQ.of f4 (show XM G M4 C (stS (dS σ p) 7 ((dS σ p).1 7)) by rw [stS_id]; exact hM4)))
end VAN
