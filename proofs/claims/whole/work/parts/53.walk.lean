/-! The class: what is told of a walk's passes and places; on the way to a house. -/
section TOW
variable {G : GC} {M M' : Mem} {C : CE} {σ : St} {T : Nat}
theorem y_passAt (hM : XM G M C σ) (hO : Ok σ T) (r i : Int) (ha : inR r) (hb : inR i) : Ht G iX8_passAt yX8_passAt 24 [.ref (eX C 0), .int (iz r), .int (iz i)] M (CR G C M (opPassAt σ r i)) (CX G C M (opPassAt σ r i) [NSE, ISE, IOB]) 60 1400 := by
  have hX := hM.1
  refine ht_intro (by decide +kernel) rfl rfl rfl (Nat.le_of_ble_eq_true rfl) ?_
  refine r_aload_n dX8_passAt_0 rfl ?_
  refine r_iload_n dX8_passAt_1 rfl ?_
  refine r_callV (mi := iX8_passAt) vX8_216 dX8_passAt_2 (hX.x 0 8 0) (x_collectWalk hM hO r ha) (hm := by first | exact ⟨Nat.le_of_ble_eq_true rfl, Nat.le_of_ble_eq_true rfl⟩ | (constructor <;> simp only [rmd] <;> omega)) (k := kV (fun M1 h1 => ?_)) (kx := kxW (fun h => by rw [show opPassAt σ r i = (σ, wlc σ r, 0) from if_pos h]))
  obtain ⟨hw, k1, hX, m, hm, hV⟩ := h1
  obtain ⟨w1, w2⟩ := wlc_hW hw
  have hn8 := (hW_iff.mp w1).1
  refine r_aload_n dX8_passAt_5 rfl ?_
  refine r_getR qX8_37 dX8_passAt_6 (hX.x 0 8 0) (hX.f 0 517 6) (kk := ?_)
  refine r_callV (mi := iX8_passAt) vX8_230 dX8_passAt_9 (hX.x 6 6 0) (x_trace hX hO hV w1) (hm := by first | exact ⟨Nat.le_of_ble_eq_true rfl, Nat.le_of_ble_eq_true rfl⟩ | (constructor <;> simp only [rmd] <;> omega)) (k := kV (fun M2 h2 => ?_)) (kx := r_nox)
  obtain ⟨k2, hT⟩ := h2
  have hml := wPs_len (σ := σ) (2 ^ r.toNat) (uN σ (2 ^ r.toNat))
  have hX := hX.kx hO k2
  have k1 := k1.tr k2
  have hQ := XQ.cw hM hO k1 hT.1 (by omega)
  obtain ⟨e1, c1, e2, c2, s1, s2, hne⟩ := id hT.1.1
  refine r_iload_n dX8_passAt_12 rfl ?_
  refine r_if_lt (tgt := 30) dX8_passAt_13 (by decide) (kt := fun z13 => ?_) (kf := fun z13 => ?_)
  · exact r_throwX (mi := iX8_passAt) xw_180 hX.gD (text := "no such pass") (is := 236) (by decide +kernel) dX8_passAt_30 dX8_passAt_33 dX8_passAt_34 dX8_passAt_36 dX8_passAt_39 (hm := by exact ⟨Nat.le_of_ble_eq_true rfl, Nat.le_of_ble_eq_true rfl⟩) (hm2 := by exact ⟨Nat.le_of_ble_eq_true rfl, Nat.le_of_ble_eq_true rfl⟩) (hx := fun n hn => cx_of (c := 2) ((if_neg (fun h => h hw)).trans (if_neg (by omega))) rfl (XQ.tr k1.fx (XQ.n (XM.cw hX hO hT.1 (by omega)) hO hn)))
  · refine r_iload_n dX8_passAt_16 rfl ?_
    refine r_aload_n dX8_passAt_17 rfl ?_
    refine r_getR qX8_37 dX8_passAt_18 (hX.x 0 8 0) (hX.f 0 517 6) (kk := ?_)
    refine r_getR qX8_233 dX8_passAt_21 (hX.x 6 6 0) (hX.f 6 387 18) (kk := ?_)
    refine r_callV (mi := iX8_passAt) vX8_77 dX8_passAt_24 (hX.x 18 10 0) (c_size s2.1) (hm := by first | exact ⟨Nat.le_of_ble_eq_true rfl, Nat.le_of_ble_eq_true rfl⟩ | (constructor <;> simp only [rmd] <;> omega)) (k := kP ?_) (kx := r_nox)
    rw [hml]
    refine r_icmp_lt (tgt := 40) dX8_passAt_27 (by decide) (kt := fun z27 => ?_) (kf := fun z27 => ?_)
    · obtain ⟨i, rfl⟩ := nat_of (a := i) (by omega)
      have hi : i < uN σ (2 ^ r.toNat) := by omega
      have hp := ((wk_fin hO.st hO.1.1 w1).1 i hi).2.2.1
      have hq := (s2.2.2.2 i (by omega)).1
      rw [wPs_at _ _ _ hi] at hq
      refine r_aload_n dX8_passAt_40 rfl ?_
      refine r_getR qX8_37 dX8_passAt_41 (hX.x 0 8 0) (hX.f 0 517 6) (kk := ?_)
      refine r_getR qX8_233 dX8_passAt_44 (hX.x 6 6 0) (hX.f 6 387 18) (kk := ?_)
      refine r_iload_n dX8_passAt_47 rfl ?_
      refine r_callV (mi := iX8_passAt) vX8_153 dX8_passAt_48 (hX.x 18 10 0) (c_get s2.1 (by omega) hq) (hm := by first | exact ⟨Nat.le_of_ble_eq_true rfl, Nat.le_of_ble_eq_true rfl⟩ | (constructor <;> simp only [rmd] <;> omega)) (k := kPA ?_) (kx := r_nox)
      refine r_cast nX8_238.1 dX8_passAt_51 (hX.k3 _ hp) (k := ?_)
      refine r_getI qX8_240 dX8_passAt_54 (hX.k3 _ hp) (hX.g192 _ hp) (kk := ?_)
      exact r_iret dX8_passAt_57 (cr_of ((if_neg (fun h => h hw)).trans (if_pos (by omega))) rfl hQ)
    · exact r_throwX (mi := iX8_passAt) xw_180 hX.gD (text := "no such pass") (is := 236) (by decide +kernel) dX8_passAt_30 dX8_passAt_33 dX8_passAt_34 dX8_passAt_36 dX8_passAt_39 (hm := by exact ⟨Nat.le_of_ble_eq_true rfl, Nat.le_of_ble_eq_true rfl⟩) (hm2 := by exact ⟨Nat.le_of_ble_eq_true rfl, Nat.le_of_ble_eq_true rfl⟩) (hx := fun n hn => cx_of (c := 2) ((if_neg (fun h => h hw)).trans (if_neg (by omega))) rfl (XQ.tr k1.fx (XQ.n (XM.cw hX hO hT.1 (by omega)) hO hn)))
theorem y_walkPlaces (hM : XM G M C σ) (hO : Ok σ T) (r : Int) (ha : inR r) : Ht G iX8_walkPlaces yX8_walkPlaces 24 [.ref (eX C 0), .int (iz r)] M (CR G C M (opWalkPlaces σ r)) (CX G C M (opWalkPlaces σ r) [NSE, ISE]) 60 1400 := by
  have hX := hM.1
  refine ht_intro (by decide +kernel) rfl rfl rfl (Nat.le_of_ble_eq_true rfl) ?_
  refine r_aload_n dX8_walkPlaces_0 rfl ?_
  refine r_iload_n dX8_walkPlaces_1 rfl ?_
  refine r_callV (mi := iX8_walkPlaces) vX8_216 dX8_walkPlaces_2 (hX.x 0 8 0) (x_collectWalk hM hO r ha) (hm := by first | exact ⟨Nat.le_of_ble_eq_true rfl, Nat.le_of_ble_eq_true rfl⟩ | (constructor <;> simp only [rmd] <;> omega)) (k := kV (fun M1 h1 => ?_)) (kx := kxW (fun _ => rfl))
  obtain ⟨hw, k1, hX, m, hm, hV⟩ := h1
  obtain ⟨w1, w2⟩ := wlc_hW hw
  have hn8 := (hW_iff.mp w1).1
  refine r_aload_n dX8_walkPlaces_5 rfl ?_
  refine r_getR qX8_37 dX8_walkPlaces_6 (hX.x 0 8 0) (hX.f 0 517 6) (kk := ?_)
  refine r_callV (mi := iX8_walkPlaces) vX8_230 dX8_walkPlaces_9 (hX.x 6 6 0) (x_trace hX hO hV w1) (hm := by first | exact ⟨Nat.le_of_ble_eq_true rfl, Nat.le_of_ble_eq_true rfl⟩ | (constructor <;> simp only [rmd] <;> omega)) (k := kV (fun M2 h2 => ?_)) (kx := r_nox)
  obtain ⟨k2, hT⟩ := h2
  have hml := wPs_len (σ := σ) (2 ^ r.toNat) (uN σ (2 ^ r.toNat))
  have hX := hX.kx hO k2
  have hQ := XQ.cw hM hO (k1.tr k2) hT.1 (by omega)
  refine r_aload_n dX8_walkPlaces_12 rfl ?_
  refine r_getR qX8_37 dX8_walkPlaces_13 (hX.x 0 8 0) (hX.f 0 517 6) (kk := ?_)
  refine r_getI qX8_241 dX8_walkPlaces_16 (hX.x 6 6 0) hT.2.2.1.1 (kk := ?_)
  exact r_iret dX8_walkPlaces_19 (cr_of (Prod.ext rfl (Prod.ext hw rfl)) rfl hQ)
theorem y_walkAt (hM : XM G M C σ) (hO : Ok σ T) (r i : Int) (ha : inR r) (hb : inR i) : Ht G iX8_walkAt yX8_walkAt 24 [.ref (eX C 0), .int (iz r), .int (iz i)] M (CR G C M (opWalkAt σ r i)) (CX G C M (opWalkAt σ r i) [NSE, ISE, IOB]) 60 1400 := by
  have hX := hM.1
  refine ht_intro (by decide +kernel) rfl rfl rfl (Nat.le_of_ble_eq_true rfl) ?_
  refine r_aload_n dX8_walkAt_0 rfl ?_
  refine r_iload_n dX8_walkAt_1 rfl ?_
  refine r_callV (mi := iX8_walkAt) vX8_216 dX8_walkAt_2 (hX.x 0 8 0) (x_collectWalk hM hO r ha) (hm := by first | exact ⟨Nat.le_of_ble_eq_true rfl, Nat.le_of_ble_eq_true rfl⟩ | (constructor <;> simp only [rmd] <;> omega)) (k := kV (fun M1 h1 => ?_)) (kx := kxW (fun h => by rw [show opWalkAt σ r i = (σ, wlc σ r, 0) from if_pos h]))
  obtain ⟨hw, k1, hX, m, hm, hV⟩ := h1
  obtain ⟨w1, w2⟩ := wlc_hW hw
  have hn8 := (hW_iff.mp w1).1
  refine r_aload_n dX8_walkAt_5 rfl ?_
  refine r_getR qX8_37 dX8_walkAt_6 (hX.x 0 8 0) (hX.f 0 517 6) (kk := ?_)
  refine r_callV (mi := iX8_walkAt) vX8_230 dX8_walkAt_9 (hX.x 6 6 0) (x_trace hX hO hV w1) (hm := by first | exact ⟨Nat.le_of_ble_eq_true rfl, Nat.le_of_ble_eq_true rfl⟩ | (constructor <;> simp only [rmd] <;> omega)) (k := kV (fun M2 h2 => ?_)) (kx := r_nox)
  obtain ⟨k2, hT⟩ := h2
  have hml := wPs_len (σ := σ) (2 ^ r.toNat) (uN σ (2 ^ r.toNat))
  have hsl := wSt_len hO w1
  have hX := hX.kx hO k2
  have k1 := k1.tr k2
  have hQ := XQ.cw hM hO k1 hT.1 (by omega)
  refine r_iload_n dX8_walkAt_12 rfl ?_
  refine r_if_lt (tgt := 39) dX8_walkAt_13 (by decide) (kt := fun z13 => ?_) (kf := fun z13 => ?_)
  · exact r_throwX (mi := iX8_walkAt) xw_180 hX.gD (text := "no such place") (is := 248) (by decide +kernel) dX8_walkAt_39 dX8_walkAt_42 dX8_walkAt_43 dX8_walkAt_45 dX8_walkAt_48 (hm := by exact ⟨Nat.le_of_ble_eq_true rfl, Nat.le_of_ble_eq_true rfl⟩) (hm2 := by exact ⟨Nat.le_of_ble_eq_true rfl, Nat.le_of_ble_eq_true rfl⟩) (hx := fun n hn => cx_of (c := 2) ((if_neg (fun h => h hw)).trans (if_neg (by omega))) rfl (XQ.tr k1.fx (XQ.n (XM.cw hX hO hT.1 (by omega)) hO hn)))
  · refine r_iload_n dX8_walkAt_16 rfl ?_
    refine r_aload_n dX8_walkAt_17 rfl ?_
    refine r_getR qX8_37 dX8_walkAt_18 (hX.x 0 8 0) (hX.f 0 517 6) (kk := ?_)
    refine r_getI qX8_241 dX8_walkAt_21 (hX.x 6 6 0) hT.2.2.1.1 (kk := ?_)
    refine r_icmp_ge (tgt := 39) dX8_walkAt_24 (by decide) (kt := fun z24 => ?_) (kf := fun z24 => ?_)
    · exact r_throwX (mi := iX8_walkAt) xw_180 hX.gD (text := "no such place") (is := 248) (by decide +kernel) dX8_walkAt_39 dX8_walkAt_42 dX8_walkAt_43 dX8_walkAt_45 dX8_walkAt_48 (hm := by exact ⟨Nat.le_of_ble_eq_true rfl, Nat.le_of_ble_eq_true rfl⟩) (hm2 := by exact ⟨Nat.le_of_ble_eq_true rfl, Nat.le_of_ble_eq_true rfl⟩) (hx := fun n hn => cx_of (c := 2) ((if_neg (fun h => h hw)).trans (if_neg (by omega))) rfl (XQ.tr k1.fx (XQ.n (XM.cw hX hO hT.1 (by omega)) hO hn)))
    · refine r_iload_n dX8_walkAt_27 rfl ?_
      refine r_aload_n dX8_walkAt_28 rfl ?_
      refine r_getR qX8_37 dX8_walkAt_29 (hX.x 0 8 0) (hX.f 0 517 6) (kk := ?_)
      refine r_getR qX8_244 dX8_walkAt_32 (hX.x 6 6 0) (hX.f 6 388 19) (kk := ?_)
      refine r_alen dX8_walkAt_35 (hX.x 19 11 90) (k := ?_)
      refine r_icmp_lt (tgt := 49) dX8_walkAt_36 (by decide) (kt := fun z36 => ?_) (kf := fun z36 => (by exfalso; first | omega | simp_all))
      obtain ⟨i, rfl⟩ := nat_of (a := i) (by omega)
      refine r_aload_n dX8_walkAt_49 rfl ?_
      refine r_getR qX8_37 dX8_walkAt_50 (hX.x 0 8 0) (hX.f 0 517 6) (kk := ?_)
      refine r_getR qX8_244 dX8_walkAt_53 (hX.x 6 6 0) (hX.f 6 388 19) (kk := ?_)
      refine r_iload_n dX8_walkAt_56 rfl ?_
      refine r_iald dX8_walkAt_57 (hX.x 19 11 90) rfl (hT.2.2.1.2 i (by omega)) (k := ?_)
      exact r_iret dX8_walkAt_58 (cr_of ((if_neg (fun h => h hw)).trans (if_pos (by omega))) rfl hQ)
theorem x_walkLengthTo (hX : XB G M C σ) (hO : Ok σ T) {g h : Nat} (hW1 : hW σ g = true) (hT : TQ G C σ g (uN σ g) (wSt σ g) (wPs σ g (uN σ g)) M) (hh : h < σ.1 2) (hp : post σ h = true) (hg : inG σ (σ.2 5 h) g = true) : Ht G iX6_lengthTo yX6_lengthTo 8 [.ref (eX C 6), .ref (eA C 2 h)] M (rP (iz (wto σ g h : Int)) M) nX 0 0 := by
  obtain ⟨w1, -⟩ := wk_fin hO.st hO.1.1 hW1
  have hn8 := (hW_iff.mp hW1).1
  have p3 := hO.1.2.2.1
  obtain ⟨h1, h2, h3, h4⟩ := hO.2.2.1 h hh
  obtain ⟨kk1, kk2, kk3⟩ := kf_ex hO hW1 hh hp hg
  have hml := wPs_len (σ := σ) g (uN σ g)
  obtain ⟨e1, c1, e2, c2, s1, s2, hne⟩ := id hT.1.1
  have hL := s2.1
  rw [hml] at hL
  refine ht_intro (by decide +kernel) rfl rfl rfl (Nat.le_of_ble_eq_true rfl) ?_
  have loop : ∀ (k i : Nat), i + k = kf σ g h → SWG G iX6_lengthTo (rmd 8 0 0) (QF G (rP (iz (wto σ g h : Int)) M) nX 0 0) 2 [(2, .int (iz (i : Int))), (0, .ref (eX C 6)), (1, .ref (eA C 2 h))] [] M 0 0 := by
    intro k
    induction k with
    | zero =>
      intro i hi
      have hi2 : i = kf σ g h := by omega
      rw [← hi2] at kk1 kk2
      have v3 := (w1 i kk1).2.2.1
      have hq := (s2.2.2.2 i (by omega)).1
      rw [wPs_at _ _ _ kk1] at hq
      have hpas := kk2
      unfold pas at hpas
      rw [Bool.and_eq_true, decide_eq_true_eq] at hpas
      have hln : ln σ (wP σ g i) = σ.2 3 (σ.2 5 h) := by unfold ln; rw [hpas.1]
      refine r_iload_n dX6_lengthTo_2 rfl ?_
      refine r_aload_n dX6_lengthTo_3 rfl ?_
      refine r_getR qX6_31 dX6_lengthTo_4 (hX.x 6 6 0) (hX.f 6 387 18) (kk := ?_)
      refine r_callV (mi := iX6_lengthTo) vX6_71 dX6_lengthTo_7 (hX.x 18 10 0) (c_size hL) (hm := by first | exact ⟨Nat.le_of_ble_eq_true rfl, Nat.le_of_ble_eq_true rfl⟩ | (constructor <;> simp only [rmd] <;> omega)) (k := kP ?_) (kx := r_nox)
      refine r_icmp_ge (tgt := 50) dX6_lengthTo_10 (by decide) (kt := fun z10 => (by exfalso; first | omega | simp_all)) (kf := fun z10 => ?_)
      refine r_aload_n dX6_lengthTo_13 rfl ?_
      refine r_getR qX6_31 dX6_lengthTo_14 (hX.x 6 6 0) (hX.f 6 387 18) (kk := ?_)
      refine r_iload_n dX6_lengthTo_17 rfl ?_
      refine r_callV (mi := iX6_lengthTo) vX6_80 dX6_lengthTo_18 (hX.x 18 10 0) (c_get hL kk1 hq) (hm := by first | exact ⟨Nat.le_of_ble_eq_true rfl, Nat.le_of_ble_eq_true rfl⟩ | (constructor <;> simp only [rmd] <;> omega)) (k := kPA ?_) (kx := r_nox)
      refine r_cast nX6_63.1 dX6_lengthTo_21 (hX.k3 _ v3) (k := ?_)
      refine r_astore_n dX6_lengthTo_24 (k := ?_)
      refine r_aload_n dX6_lengthTo_25 rfl ?_
      refine r_aload_n dX6_lengthTo_26 rfl ?_
      refine r_callV (mi := iX6_lengthTo) vX6_144 dX6_lengthTo_27 (hX.k3 _ v3) (x_goesBy hX hO _ h v3 hh) (hm := by first | exact ⟨Nat.le_of_ble_eq_true rfl, Nat.le_of_ble_eq_true rfl⟩ | (constructor <;> simp only [rmd] <;> omega)) (k := kP ?_) (kx := r_nox)
      rw [kk2]
      refine r_if_eq (tgt := 44) dX6_lengthTo_30 (by decide) (kt := fun z30 => absurd z30 (by decide)) (kf := fun z30 => ?_)
      refine r_aload_n dX6_lengthTo_33 rfl ?_
      refine r_getI qX6_135 dX6_lengthTo_34 (hX.k3 _ v3) (hT.2.2.2 i kk1) (kk := ?_)
      refine r_aload_n dX6_lengthTo_37 rfl ?_
      refine r_aload_n dX6_lengthTo_38 rfl ?_
      refine r_callV (mi := iX6_lengthTo) vX6_148 dX6_lengthTo_39 (hX.k3 _ v3) (x_passLengthTo hX p3 _ h v3 hh (by omega)) (hm := by first | exact ⟨Nat.le_of_ble_eq_true rfl, Nat.le_of_ble_eq_true rfl⟩ | (constructor <;> simp only [rmd] <;> omega)) (k := kP ?_) (kx := r_nox)
      refine r_iadd dX6_lengthTo_42 ?_
      exact r_iret dX6_lengthTo_43 (rP_of (congrArg iz (show (bg σ g i : Int) + (part σ (wP σ g i) h : Int) = (wto σ g h : Int) by unfold wto bg; rw [← hi2]; omega)))
    | succ k ih =>
      intro i hi
      have hi3 : i < uN σ g := by omega
      have v3 := (w1 i hi3).2.2.1
      have hq := (s2.2.2.2 i (by omega)).1
      rw [wPs_at _ _ _ hi3] at hq
      refine r_iload_n dX6_lengthTo_2 rfl ?_
      refine r_aload_n dX6_lengthTo_3 rfl ?_
      refine r_getR qX6_31 dX6_lengthTo_4 (hX.x 6 6 0) (hX.f 6 387 18) (kk := ?_)
      refine r_callV (mi := iX6_lengthTo) vX6_71 dX6_lengthTo_7 (hX.x 18 10 0) (c_size hL) (hm := by first | exact ⟨Nat.le_of_ble_eq_true rfl, Nat.le_of_ble_eq_true rfl⟩ | (constructor <;> simp only [rmd] <;> omega)) (k := kP ?_) (kx := r_nox)
      refine r_icmp_ge (tgt := 50) dX6_lengthTo_10 (by decide) (kt := fun z10 => (by exfalso; first | omega | simp_all)) (kf := fun z10 => ?_)
      refine r_aload_n dX6_lengthTo_13 rfl ?_
      refine r_getR qX6_31 dX6_lengthTo_14 (hX.x 6 6 0) (hX.f 6 387 18) (kk := ?_)
      refine r_iload_n dX6_lengthTo_17 rfl ?_
      refine r_callV (mi := iX6_lengthTo) vX6_80 dX6_lengthTo_18 (hX.x 18 10 0) (c_get hL hi3 hq) (hm := by first | exact ⟨Nat.le_of_ble_eq_true rfl, Nat.le_of_ble_eq_true rfl⟩ | (constructor <;> simp only [rmd] <;> omega)) (k := kPA ?_) (kx := r_nox)
      refine r_cast nX6_63.1 dX6_lengthTo_21 (hX.k3 _ v3) (k := ?_)
      refine r_astore_n dX6_lengthTo_24 (k := ?_)
      refine r_aload_n dX6_lengthTo_25 rfl ?_
      refine r_aload_n dX6_lengthTo_26 rfl ?_
      refine r_callV (mi := iX6_lengthTo) vX6_144 dX6_lengthTo_27 (hX.k3 _ v3) (x_goesBy hX hO _ h v3 hh) (hm := by first | exact ⟨Nat.le_of_ble_eq_true rfl, Nat.le_of_ble_eq_true rfl⟩ | (constructor <;> simp only [rmd] <;> omega)) (k := kP ?_) (kx := r_nox)
      rw [kk3 i (by omega)]
      refine r_if_eq (tgt := 44) dX6_lengthTo_30 (by decide) (kt := fun z30 => ?_) (kf := fun z30 => absurd rfl z30)
      refine r_iinc dX6_lengthTo_44 rfl (k := ?_)
      refine r_goto (tgt := 2) dX6_lengthTo_47 (by decide) ?_
      exact r_loc' (ih (i + 1) (by omega)) ⟨rfl, rfl, rfl, trivial⟩
  refine r_iconst dX6_lengthTo_0 ?_
  refine r_istore_n dX6_lengthTo_1 (k := ?_)
  exact r_loc' (loop (kf σ g h) 0 (by omega)) ⟨rfl, rfl, rfl, trivial⟩
theorem y_walkTo (hM : XM G M C σ) (hO : Ok σ T) (h : Int) (ha : inR h) : Ht G iX8_walkTo yX8_walkTo 24 [.ref (eX C 0), .int (iz h)] M (CR G C M (opWalkTo σ h)) (CX G C M (opWalkTo σ h) [NSE, UOE, ISE]) 60 1400 := by
  have hX := hM.1
  have p4 := hO.1.2.2.2.1
  have p5 := hO.1.2.2.2.2.1
  refine ht_intro (by decide +kernel) rfl rfl rfl (Nat.le_of_ble_eq_true rfl) ?_
  refine r_aload_n dX8_walkTo_0 rfl ?_
  refine r_iload_n dX8_walkTo_1 rfl ?_
  refine r_callV (mi := iX8_walkTo) vX8_133 dX8_walkTo_2 (hX.x 0 8 0) (x_findHouse hX (by omega) h ha) (hm := by first | exact ⟨Nat.le_of_ble_eq_true rfl, Nat.le_of_ble_eq_true rfl⟩ | (constructor <;> simp only [rmd] <;> omega)) (k := kT (fun hb1 => kPA ?_)) (kx := kxT (fun hb1 n hn => cx_rd (c := 0) hM hO hn (if_pos hb1) rfl))
  obtain ⟨h, rfl⟩ := nat_of (a := h) (by omega)
  rw [Int.toNat_natCast]
  have hh : h < σ.1 2 := by omega
  obtain ⟨h1, h2, h3, h4⟩ := hO.2.2.1 h hh
  have s7 := (hO.2.1 _ h1).2.2.2.2.2.2
  have e0 : opWalkTo σ (h : Int) = (if post σ h = false ∨ σ.2 4 (σ.2 5 h) = 0 then (σ, 2, 0) else if hW σ (2 ^ (σ.2 4 (σ.2 5 h) - 1)) = false then (σ, 3, 0) else (σ, 0, ((wto σ (2 ^ (σ.2 4 (σ.2 5 h) - 1)) h : Nat) : Int)) : Rs) := by
    unfold opWalkTo; rw [if_neg (by omega), Int.toNat_natCast]
  rw [e0]
  refine r_astore_n dX8_walkTo_5 (k := ?_)
  refine r_aload_n dX8_walkTo_6 rfl ?_
  refine r_aload_n dX8_walkTo_7 rfl ?_
  refine r_callV (mi := iX8_walkTo) vX8_157 dX8_walkTo_8 (hX.x 0 8 0) (x_hasPost hX hO h hh) (hm := by first | exact ⟨Nat.le_of_ble_eq_true rfl, Nat.le_of_ble_eq_true rfl⟩ | (constructor <;> simp only [rmd] <;> omega)) (k := kP ?_) (kx := r_nox)
  refine r_bif_eq (tgt := 25) dX8_walkTo_11 (by decide) (kt := fun z11 => ?_) (kf := fun z11 => ?_)
  · exact r_throwXW (mi := iX8_walkTo) xw_222 hX.gD (text := "the house is not due or in no round") (is := 262) (by decide +kernel) dX8_walkTo_25 dX8_walkTo_28 dX8_walkTo_29 dX8_walkTo_32 dX8_walkTo_35 (hm := by exact ⟨Nat.le_of_ble_eq_true rfl, Nat.le_of_ble_eq_true rfl⟩) (hm2 := by exact ⟨Nat.le_of_ble_eq_true rfl, Nat.le_of_ble_eq_true rfl⟩) (hx := fun n hn => cx_rd (c := 1) hM hO hn (if_pos (by first | exact Or.inl z11 | exact Or.inr (by omega))) rfl)
  · refine r_aload_n dX8_walkTo_14 rfl ?_
    refine r_getR qX8_169 dX8_walkTo_15 (hX.k1 h hh) (hX.g65 h hh) (kk := ?_)
    refine r_getI qX8_128 dX8_walkTo_18 (hX.k5 _ h1) (hX.g326 _ h1) (kk := ?_)
    refine r_iconst dX8_walkTo_21 ?_
    refine r_icmp_ne (tgt := 36) dX8_walkTo_22 (by decide) (kt := fun z22 => ?_) (kf := fun z22 => ?_)
    · have hne : ¬ (post σ h = false ∨ σ.2 4 (σ.2 5 h) = 0) := by rw [z11]; simp; omega
      have hgi : inG σ (σ.2 5 h) (2 ^ (σ.2 4 (σ.2 5 h) - 1)) = true := by unfold inG; rw [Nat.testBit_two_pow_self, bne_iff_ne.mpr (by omega)]; rfl
      rw [if_neg hne]
      obtain ⟨q, hq⟩ : ∃ q, q = σ.2 4 (σ.2 5 h) - 1 := ⟨_, rfl⟩
      rw [← hq] at hgi ⊢
      have hqz : (σ.2 4 (σ.2 5 h) : Int) - 1 = (q : Int) := by omega
      refine r_aload_n dX8_walkTo_36 rfl ?_
      refine r_aload_n dX8_walkTo_37 rfl ?_
      refine r_getR qX8_169 dX8_walkTo_38 (hX.k1 h hh) (hX.g65 h hh) (kk := ?_)
      refine r_getI qX8_128 dX8_walkTo_41 (hX.k5 _ h1) (hX.g326 _ h1) (kk := ?_)
      rw [hqz]
      refine r_callV (mi := iX8_walkTo) vX8_216 dX8_walkTo_44 (hX.x 0 8 0) (x_collectWalk hM hO (q : Int) (by omega)) (hm := by first | exact ⟨Nat.le_of_ble_eq_true rfl, Nat.le_of_ble_eq_true rfl⟩ | (constructor <;> simp only [rmd] <;> omega)) (k := kV (fun M1 h1 => ?_)) (kx := (fun E M2 h9 => r_out rfl (by
  obtain ⟨h8, hq9⟩ := h9
  rcases h8 with ⟨h7, -⟩ | ⟨h7, rfl⟩
  · unfold wlc at h7; rw [if_neg (by omega)] at h7; split at h7 <;> omega
  · have hwf : hW σ (2 ^ q) = false := by
      unfold wlc at h7; rw [if_neg (by omega), Int.toNat_natCast] at h7
      cases hw : hW σ (2 ^ q) with
      | false => rfl
      | true => rw [if_pos hw] at h7; omega
    exact cx_of (c := 2) (if_pos hwf) rfl hq9) ⟨Nat.le_of_ble_eq_true rfl, Nat.le_of_ble_eq_true rfl⟩))
      obtain ⟨hw, k1, hX, m, hm, hV⟩ := h1
      obtain ⟨w1, w2⟩ := wlc_hW hw
      rw [Int.toNat_natCast] at w1 hV
      have hn8 := (hW_iff.mp w1).1
      refine r_aload_n dX8_walkTo_47 rfl ?_
      refine r_getR qX8_37 dX8_walkTo_48 (hX.x 0 8 0) (hX.f 0 517 6) (kk := ?_)
      refine r_callV (mi := iX8_walkTo) vX8_230 dX8_walkTo_51 (hX.x 6 6 0) (x_trace hX hO hV w1) (hm := by first | exact ⟨Nat.le_of_ble_eq_true rfl, Nat.le_of_ble_eq_true rfl⟩ | (constructor <;> simp only [rmd] <;> omega)) (k := kV (fun M2 h2 => ?_)) (kx := r_nox)
      obtain ⟨k2, hT⟩ := h2
      have hml := wPs_len (σ := σ) (2 ^ q) (uN σ (2 ^ q))
      have hX := hX.kx hO k2
      have hQ := XQ.cw hM hO (k1.tr k2) hT.1 (by omega)
      have hpt : post σ h = true := by
        cases hp9 : post σ h with
        | true => rfl
        | false => exact absurd (Or.inl hp9) hne
      refine r_aload_n dX8_walkTo_54 rfl ?_
      refine r_getR qX8_37 dX8_walkTo_55 (hX.x 0 8 0) (hX.f 0 517 6) (kk := ?_)
      refine r_aload_n dX8_walkTo_58 rfl ?_
      refine r_callV (mi := iX8_walkTo) vX8_264 dX8_walkTo_59 (hX.x 6 6 0) (x_walkLengthTo hX hO w1 hT hh hpt hgi) (hm := by first | exact ⟨Nat.le_of_ble_eq_true rfl, Nat.le_of_ble_eq_true rfl⟩ | (constructor <;> simp only [rmd] <;> omega)) (k := kP ?_) (kx := r_nox)
      exact r_iret dX8_walkTo_62 (cr_of (if_neg (by rw [w1]; decide)) rfl hQ)
    · exact r_throwXW (mi := iX8_walkTo) xw_222 hX.gD (text := "the house is not due or in no round") (is := 262) (by decide +kernel) dX8_walkTo_25 dX8_walkTo_28 dX8_walkTo_29 dX8_walkTo_32 dX8_walkTo_35 (hm := by exact ⟨Nat.le_of_ble_eq_true rfl, Nat.le_of_ble_eq_true rfl⟩) (hm2 := by exact ⟨Nat.le_of_ble_eq_true rfl, Nat.le_of_ble_eq_true rfl⟩) (hx := fun n hn => cx_rd (c := 1) hM hO hn (if_pos (by first | exact Or.inl z11 | exact Or.inr (by omega))) rfl)
end TOW
