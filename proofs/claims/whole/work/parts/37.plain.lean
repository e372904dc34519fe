/-! The class: finding, counting, plain calls. -/
section LDW
variable {G : GC} {mi : MI} {R : Room} {Qf : List Frame → Array Value → State → State → Prop} {pc : Nat} {L : List (Nat × Value)} {st : List Value} {M : Mem} {kc ks : Nat}
theorem r_ldcw {n : Int} {v : Int32} {index : Nat} (w : Cond.constant mi.1 index v ∈ wG) (d : decode mi.2.1 pc = .ok (.ldc_w index, 3)) (h : v = iz n := by decide +kernel) (k : SWG G mi R Qf (pc + 3) L (.int (iz n) :: st) M kc ks) : SWG G mi R Qf pc L st M kc ks := by
  intro p l e s m args below meth c E ls H locs hl hR hf
  subst h
  exact lv_ldcw E.1 E.2.1 E.2.2.2.1 (E.2.2.2.2.1 _ w) d (k p l e s m args below meth c E ls H locs hl hR hf)
end LDW
section CL1
variable {G : GC} {M : Mem} {C : CE} {σ : St} {T : Nat}
abbrev NSE : String := "java/util/NoSuchElementException"
abbrev IAE : String := "java/lang/IllegalArgumentException"
abbrev ISE : String := "java/lang/IllegalStateException"
abbrev UOE : String := "java/lang/UnsupportedOperationException"
abbrev IOB : String := "java/lang/IndexOutOfBoundsException"
abbrev ARE : String := "java/lang/ArithmeticException"
theorem x_isFrom (a b v : Int) (ha : inR a) (hb : inR b) (hv : inR v) : Ht G iX8_isFrom yX8_isFrom 1 [.int (iz a), .int (iz b), .int (iz v)] M (rP (bz (decide (bt2 v a b))) M) nX 0 0 := by
  refine ht_intro (by decide +kernel) rfl rfl rfl (Nat.le_of_ble_eq_true rfl) ?_
  refine r_iload_n dX8_isFrom_0 rfl ?_
  refine r_iload_n dX8_isFrom_1 rfl ?_
  refine r_icmp_lt (tgt := 14) dX8_isFrom_2 (by decide) (kt := fun z2 => ?_) (kf := fun z2 => ?_)
  · refine r_iconst dX8_isFrom_14 ?_
    first
     | exact r_iret dX8_isFrom_15 (rP_of (bz_d (by omega)))
     | exact r_iret dX8_isFrom_15 (rP_of (bz_nd (by omega)))
  · refine r_iload_n dX8_isFrom_5 rfl ?_
    refine r_iload_n dX8_isFrom_6 rfl ?_
    refine r_icmp_gt (tgt := 14) dX8_isFrom_7 (by decide) (kt := fun z7 => ?_) (kf := fun z7 => ?_)
    · refine r_iconst dX8_isFrom_14 ?_
      first
       | exact r_iret dX8_isFrom_15 (rP_of (bz_d (by omega)))
       | exact r_iret dX8_isFrom_15 (rP_of (bz_nd (by omega)))
    · refine r_iconst dX8_isFrom_10 ?_
      refine r_goto (tgt := 15) dX8_isFrom_11 (by decide) ?_
      first
       | exact r_iret dX8_isFrom_15 (rP_of (bz_d (by omega)))
       | exact r_iret dX8_isFrom_15 (rP_of (bz_nd (by omega)))
theorem x_noneIfNoWay (n : Nat) (h : n ≤ 1000000) : Ht G iX8_noneIfNoWay yX8_noneIfNoWay 1 [.int (iz (n : Int))] M (rP (iz (if n < 1000000 then (n : Int) else -1)) M) nX 0 0 := by
  refine ht_intro (by decide +kernel) rfl rfl rfl (Nat.le_of_ble_eq_true rfl) ?_
  refine r_iload_n dX8_noneIfNoWay_0 rfl ?_
  refine r_ldcw (n := 1000000) kX8_333 dX8_noneIfNoWay_1 (k := ?_)
  refine r_icmp_ge (tgt := 11) dX8_noneIfNoWay_4 (by decide) (kt := fun z4 => ?_) (kf := fun z4 => ?_)
  · refine r_iconst dX8_noneIfNoWay_11 ?_
    first
     | exact r_iret dX8_noneIfNoWay_12 (rP_of (congrArg iz (if_pos (by omega)).symm))
     | exact r_iret dX8_noneIfNoWay_12 (rP_of (congrArg iz (if_neg (by omega)).symm))
  · refine r_iload_n dX8_noneIfNoWay_7 rfl ?_
    refine r_goto (tgt := 12) dX8_noneIfNoWay_8 (by decide) ?_
    first
     | exact r_iret dX8_noneIfNoWay_12 (rP_of (congrArg iz (if_pos (by omega)).symm))
     | exact r_iret dX8_noneIfNoWay_12 (rP_of (congrArg iz (if_neg (by omega)).symm))
theorem x_groupOf (r : Nat) {z : Int} (hz : z = r) (h : r < 16) : Ht G iX8_groupOf yX8_groupOf 1 [.int (iz z)] M (rP (iz ((2 ^ r : Nat) : Int)) M) nX 0 0 := by
  refine ht_intro (by decide +kernel) rfl rfl rfl (Nat.le_of_ble_eq_true rfl) ?_
  refine r_iconst dX8_groupOf_0 ?_
  refine r_iload_n dX8_groupOf_1 rfl ?_
  refine r_ishl dX8_groupOf_2 (sl_1 hz h) ?_
  exact r_iret dX8_groupOf_3 (rP_mk _ _)
theorem x_checkPlace (hX : XB G M C σ) (hb : σ.1 0 ≤ 10) (x : Int) (hx : inR x) : Ht G iX8_checkPlace yX8_checkPlace 8 [.ref (eX C 0), .int (iz x)] M (rT (bt2 x 0 (σ.1 0 - 1)) (rPV M)) (xT1 (bt2 x 0 (σ.1 0 - 1)) NSE M) 1 6 := by
  refine ht_intro (by decide +kernel) rfl rfl rfl (Nat.le_of_ble_eq_true rfl) ?_
  refine r_iload_n dX8_checkPlace_0 rfl ?_
  refine r_if_lt (tgt := 12) dX8_checkPlace_1 (by decide) (kt := fun z1 => ?_) (kf := fun z1 => ?_)
  · exact r_throwX (mi := iX8_checkPlace) xw_288 hX.gD (text := "no such place") (is := 248) (by decide +kernel) dX8_checkPlace_12 dX8_checkPlace_15 dX8_checkPlace_16 dX8_checkPlace_18 dX8_checkPlace_21 (hm := by exact ⟨Nat.le_of_ble_eq_true rfl, Nat.le_of_ble_eq_true rfl⟩) (hm2 := by exact ⟨Nat.le_of_ble_eq_true rfl, Nat.le_of_ble_eq_true rfl⟩) (hx := fun n hn => xT1_of (by omega) hn)
  · refine r_iload_n dX8_checkPlace_4 rfl ?_
    refine r_aload_n dX8_checkPlace_5 rfl ?_
    refine r_getI qX8_50 dX8_checkPlace_6 (hX.x 0 8 0) hX.i519 (kk := ?_)
    refine r_icmp_lt (tgt := 22) dX8_checkPlace_9 (by decide) (kt := fun z9 => ?_) (kf := fun z9 => ?_)
    · exact r_vret dX8_checkPlace_22 (⟨by omega, rfl, rfl⟩)
    · exact r_throwX (mi := iX8_checkPlace) xw_288 hX.gD (text := "no such place") (is := 248) (by decide +kernel) dX8_checkPlace_12 dX8_checkPlace_15 dX8_checkPlace_16 dX8_checkPlace_18 dX8_checkPlace_21 (hm := by exact ⟨Nat.le_of_ble_eq_true rfl, Nat.le_of_ble_eq_true rfl⟩) (hm2 := by exact ⟨Nat.le_of_ble_eq_true rfl, Nat.le_of_ble_eq_true rfl⟩) (hx := fun n hn => xT1_of (by omega) hn)

theorem x_findStreet (hX : XB G M C σ) (hb : σ.1 1 ≤ 30) (x : Int) (hx : inR x) : Ht G iX8_findStreet yX8_findStreet 8 [.ref (eX C 0), .int (iz x)] M (rT (bt2 x 0 (σ.1 1 - 1)) (rPA (eA C 1 x.toNat) M)) (xT1 (bt2 x 0 (σ.1 1 - 1)) NSE M) 1 6 := by
  refine ht_intro (by decide +kernel) rfl rfl rfl (Nat.le_of_ble_eq_true rfl) ?_
  refine r_iload_n dX8_findStreet_0 rfl ?_
  refine r_if_lt (tgt := 15) dX8_findStreet_1 (by decide) (kt := fun z1 => ?_) (kf := fun z1 => ?_)
  · exact r_throwXW (mi := iX8_findStreet) xw_288 hX.gD (text := "no such street") (is := 334) (by decide +kernel) dX8_findStreet_15 dX8_findStreet_18 dX8_findStreet_19 dX8_findStreet_22 dX8_findStreet_25 (hm := by exact ⟨Nat.le_of_ble_eq_true rfl, Nat.le_of_ble_eq_true rfl⟩) (hm2 := by exact ⟨Nat.le_of_ble_eq_true rfl, Nat.le_of_ble_eq_true rfl⟩) (hx := fun n hn => xT1_of (by omega) hn)
  · refine r_iload_n dX8_findStreet_4 rfl ?_
    refine r_aload_n dX8_findStreet_5 rfl ?_
    refine r_getR qX8_10 dX8_findStreet_6 (hX.x 0 8 0) (hX.f 0 512 1) (kk := ?_)
    refine r_callV (mi := iX8_findStreet) vX8_77 dX8_findStreet_9 (hX.x 1 10 0) (c_size (hX.l 1)) (hm := by exact ⟨Nat.le_of_ble_eq_true rfl, Nat.le_of_ble_eq_true rfl⟩) (k := kP ?_) (kx := r_nox)
    refine r_icmp_lt (tgt := 26) dX8_findStreet_12 (by decide) (kt := fun z12 => ?_) (kf := fun z12 => ?_)
    · obtain ⟨x, rfl⟩ := nat_of (a := x) (by omega)
      have hj : x < σ.1 1 := by omega
      refine r_aload_n dX8_findStreet_26 rfl ?_
      refine r_getR qX8_10 dX8_findStreet_27 (hX.x 0 8 0) (hX.f 0 512 1) (kk := ?_)
      refine r_iload_n dX8_findStreet_30 rfl ?_
      refine r_callV (mi := iX8_findStreet) vX8_153 dX8_findStreet_31 (hX.x 1 10 0) (c_get (hX.l 1) (hj) (hX.q 1 _ (hj))) (hm := by exact ⟨Nat.le_of_ble_eq_true rfl, Nat.le_of_ble_eq_true rfl⟩) (k := kPA ?_) (kx := r_nox)
      refine r_cast nX8_83.1 dX8_findStreet_34 (hX.k5 _ (hj)) (k := ?_)
      exact r_aret dX8_findStreet_37 (⟨by omega, rfl, rfl⟩)
    · exact r_throwXW (mi := iX8_findStreet) xw_288 hX.gD (text := "no such street") (is := 334) (by decide +kernel) dX8_findStreet_15 dX8_findStreet_18 dX8_findStreet_19 dX8_findStreet_22 dX8_findStreet_25 (hm := by exact ⟨Nat.le_of_ble_eq_true rfl, Nat.le_of_ble_eq_true rfl⟩) (hm2 := by exact ⟨Nat.le_of_ble_eq_true rfl, Nat.le_of_ble_eq_true rfl⟩) (hx := fun n hn => xT1_of (by omega) hn)

theorem x_findHouse (hX : XB G M C σ) (hb : σ.1 2 ≤ 30) (x : Int) (hx : inR x) : Ht G iX8_findHouse yX8_findHouse 8 [.ref (eX C 0), .int (iz x)] M (rT (bt2 x 0 (σ.1 2 - 1)) (rPA (eA C 2 x.toNat) M)) (xT1 (bt2 x 0 (σ.1 2 - 1)) NSE M) 1 6 := by
  refine ht_intro (by decide +kernel) rfl rfl rfl (Nat.le_of_ble_eq_true rfl) ?_
  refine r_iload_n dX8_findHouse_0 rfl ?_
  refine r_if_lt (tgt := 15) dX8_findHouse_1 (by decide) (kt := fun z1 => ?_) (kf := fun z1 => ?_)
  · exact r_throwXW (mi := iX8_findHouse) xw_288 hX.gD (text := "no such house") (is := 336) (by decide +kernel) dX8_findHouse_15 dX8_findHouse_18 dX8_findHouse_19 dX8_findHouse_22 dX8_findHouse_25 (hm := by exact ⟨Nat.le_of_ble_eq_true rfl, Nat.le_of_ble_eq_true rfl⟩) (hm2 := by exact ⟨Nat.le_of_ble_eq_true rfl, Nat.le_of_ble_eq_true rfl⟩) (hx := fun n hn => xT1_of (by omega) hn)
  · refine r_iload_n dX8_findHouse_4 rfl ?_
    refine r_aload_n dX8_findHouse_5 rfl ?_
    refine r_getR qX8_16 dX8_findHouse_6 (hX.x 0 8 0) (hX.f 0 513 2) (kk := ?_)
    refine r_callV (mi := iX8_findHouse) vX8_77 dX8_findHouse_9 (hX.x 2 10 0) (c_size (hX.l 2)) (hm := by exact ⟨Nat.le_of_ble_eq_true rfl, Nat.le_of_ble_eq_true rfl⟩) (k := kP ?_) (kx := r_nox)
    refine r_icmp_lt (tgt := 26) dX8_findHouse_12 (by decide) (kt := fun z12 => ?_) (kf := fun z12 => ?_)
    · obtain ⟨x, rfl⟩ := nat_of (a := x) (by omega)
      have hj : x < σ.1 2 := by omega
      refine r_aload_n dX8_findHouse_26 rfl ?_
      refine r_getR qX8_16 dX8_findHouse_27 (hX.x 0 8 0) (hX.f 0 513 2) (kk := ?_)
      refine r_iload_n dX8_findHouse_30 rfl ?_
      refine r_callV (mi := iX8_findHouse) vX8_153 dX8_findHouse_31 (hX.x 2 10 0) (c_get (hX.l 2) (hj) (hX.q 2 _ (hj))) (hm := by exact ⟨Nat.le_of_ble_eq_true rfl, Nat.le_of_ble_eq_true rfl⟩) (k := kPA ?_) (kx := r_nox)
      refine r_cast nX8_110.1 dX8_findHouse_34 (hX.k1 _ (hj)) (k := ?_)
      exact r_aret dX8_findHouse_37 (⟨by omega, rfl, rfl⟩)
    · exact r_throwXW (mi := iX8_findHouse) xw_288 hX.gD (text := "no such house") (is := 336) (by decide +kernel) dX8_findHouse_15 dX8_findHouse_18 dX8_findHouse_19 dX8_findHouse_22 dX8_findHouse_25 (hm := by exact ⟨Nat.le_of_ble_eq_true rfl, Nat.le_of_ble_eq_true rfl⟩) (hm2 := by exact ⟨Nat.le_of_ble_eq_true rfl, Nat.le_of_ble_eq_true rfl⟩) (hx := fun n hn => xT1_of (by omega) hn)

theorem x_findRound (hX : XB G M C σ) (hb : σ.1 3 ≤ 30) (x : Int) (hx : inR x) : Ht G iX8_findRound yX8_findRound 8 [.ref (eX C 0), .int (iz x)] M (rT (bt2 x 0 (σ.1 3 - 1)) (rPA (eA C 3 x.toNat) M)) (xT1 (bt2 x 0 (σ.1 3 - 1)) NSE M) 1 6 := by
  refine ht_intro (by decide +kernel) rfl rfl rfl (Nat.le_of_ble_eq_true rfl) ?_
  refine r_iload_n dX8_findRound_0 rfl ?_
  refine r_if_lt (tgt := 15) dX8_findRound_1 (by decide) (kt := fun z1 => ?_) (kf := fun z1 => ?_)
  · exact r_throwXW (mi := iX8_findRound) xw_288 hX.gD (text := "no such round") (is := 338) (by decide +kernel) dX8_findRound_15 dX8_findRound_18 dX8_findRound_19 dX8_findRound_22 dX8_findRound_25 (hm := by exact ⟨Nat.le_of_ble_eq_true rfl, Nat.le_of_ble_eq_true rfl⟩) (hm2 := by exact ⟨Nat.le_of_ble_eq_true rfl, Nat.le_of_ble_eq_true rfl⟩) (hx := fun n hn => xT1_of (by omega) hn)
  · refine r_iload_n dX8_findRound_4 rfl ?_
    refine r_aload_n dX8_findRound_5 rfl ?_
    refine r_getR qX8_19 dX8_findRound_6 (hX.x 0 8 0) (hX.f 0 514 3) (kk := ?_)
    refine r_callV (mi := iX8_findRound) vX8_77 dX8_findRound_9 (hX.x 3 10 0) (c_size (hX.l 3)) (hm := by exact ⟨Nat.le_of_ble_eq_true rfl, Nat.le_of_ble_eq_true rfl⟩) (k := kP ?_) (kx := r_nox)
    refine r_icmp_lt (tgt := 26) dX8_findRound_12 (by decide) (kt := fun z12 => ?_) (kf := fun z12 => ?_)
    · obtain ⟨x, rfl⟩ := nat_of (a := x) (by omega)
      have hj : x < σ.1 3 := by omega
      refine r_aload_n dX8_findRound_26 rfl ?_
      refine r_getR qX8_19 dX8_findRound_27 (hX.x 0 8 0) (hX.f 0 514 3) (kk := ?_)
      refine r_iload_n dX8_findRound_30 rfl ?_
      refine r_callV (mi := iX8_findRound) vX8_153 dX8_findRound_31 (hX.x 3 10 0) (c_get (hX.l 3) (hj) (hX.q 3 _ (hj))) (hm := by exact ⟨Nat.le_of_ble_eq_true rfl, Nat.le_of_ble_eq_true rfl⟩) (k := kPA ?_) (kx := r_nox)
      refine r_cast nX8_120.1 dX8_findRound_34 (hX.k4 _ (hj)) (k := ?_)
      exact r_aret dX8_findRound_37 (⟨by omega, rfl, rfl⟩)
    · exact r_throwXW (mi := iX8_findRound) xw_288 hX.gD (text := "no such round") (is := 338) (by decide +kernel) dX8_findRound_15 dX8_findRound_18 dX8_findRound_19 dX8_findRound_22 dX8_findRound_25 (hm := by exact ⟨Nat.le_of_ble_eq_true rfl, Nat.le_of_ble_eq_true rfl⟩) (hm2 := by exact ⟨Nat.le_of_ble_eq_true rfl, Nat.le_of_ble_eq_true rfl⟩) (hx := fun n hn => xT1_of (by omega) hn)

theorem x_findParcel (hX : XB G M C σ) (hb : σ.1 4 ≤ 30) (x : Int) (hx : inR x) : Ht G iX8_findParcel yX8_findParcel 8 [.ref (eX C 0), .int (iz x)] M (rT (bt2 x 0 (σ.1 4 - 1)) (rPA (eA C 4 x.toNat) M)) (xT1 (bt2 x 0 (σ.1 4 - 1)) NSE M) 1 6 := by
  refine ht_intro (by decide +kernel) rfl rfl rfl (Nat.le_of_ble_eq_true rfl) ?_
  refine r_iload_n dX8_findParcel_0 rfl ?_
  refine r_if_lt (tgt := 15) dX8_findParcel_1 (by decide) (kt := fun z1 => ?_) (kf := fun z1 => ?_)
  · exact r_throwXW (mi := iX8_findParcel) xw_288 hX.gD (text := "no such parcel") (is := 340) (by decide +kernel) dX8_findParcel_15 dX8_findParcel_18 dX8_findParcel_19 dX8_findParcel_22 dX8_findParcel_25 (hm := by exact ⟨Nat.le_of_ble_eq_true rfl, Nat.le_of_ble_eq_true rfl⟩) (hm2 := by exact ⟨Nat.le_of_ble_eq_true rfl, Nat.le_of_ble_eq_true rfl⟩) (hx := fun n hn => xT1_of (by omega) hn)
  · refine r_iload_n dX8_findParcel_4 rfl ?_
    refine r_aload_n dX8_findParcel_5 rfl ?_
    refine r_getR qX8_22 dX8_findParcel_6 (hX.x 0 8 0) (hX.f 0 515 4) (kk := ?_)
    refine r_callV (mi := iX8_findParcel) vX8_77 dX8_findParcel_9 (hX.x 4 10 0) (c_size (hX.l 4)) (hm := by exact ⟨Nat.le_of_ble_eq_true rfl, Nat.le_of_ble_eq_true rfl⟩) (k := kP ?_) (kx := r_nox)
    refine r_icmp_lt (tgt := 26) dX8_findParcel_12 (by decide) (kt := fun z12 => ?_) (kf := fun z12 => ?_)
    · obtain ⟨x, rfl⟩ := nat_of (a := x) (by omega)
      have hj : x < σ.1 4 := by omega
      refine r_aload_n dX8_findParcel_26 rfl ?_
      refine r_getR qX8_22 dX8_findParcel_27 (hX.x 0 8 0) (hX.f 0 515 4) (kk := ?_)
      refine r_iload_n dX8_findParcel_30 rfl ?_
      refine r_callV (mi := iX8_findParcel) vX8_153 dX8_findParcel_31 (hX.x 4 10 0) (c_get (hX.l 4) (hj) (hX.q 4 _ (hj))) (hm := by exact ⟨Nat.le_of_ble_eq_true rfl, Nat.le_of_ble_eq_true rfl⟩) (k := kPA ?_) (kx := r_nox)
      refine r_cast nX8_148.1 dX8_findParcel_34 (hX.k2 _ (hj)) (k := ?_)
      exact r_aret dX8_findParcel_37 (⟨by omega, rfl, rfl⟩)
    · exact r_throwXW (mi := iX8_findParcel) xw_288 hX.gD (text := "no such parcel") (is := 340) (by decide +kernel) dX8_findParcel_15 dX8_findParcel_18 dX8_findParcel_19 dX8_findParcel_22 dX8_findParcel_25 (hm := by exact ⟨Nat.le_of_ble_eq_true rfl, Nat.le_of_ble_eq_true rfl⟩) (hm2 := by exact ⟨Nat.le_of_ble_eq_true rfl, Nat.le_of_ble_eq_true rfl⟩) (hx := fun n hn => xT1_of (by omega) hn)

theorem x_isLight (hX : XB G M C σ) (hO : Ok σ T) (q : Nat) (hq : q < σ.1 4) : Ht G iX8_isLight yX8_isLight 1 [.ref (eX C 0), .ref (eA C 4 q)] M (rP (bz (light σ q)) M) nX 0 0 := by
  have p7 := hO.1.2.2.2.2.2.2.1
  obtain ⟨-, -, q3, -, -, q6⟩ := hO.2.2.2.2 q hq
  have e0 : light σ q = (decide (σ.2 14 q = 0) && decide (σ.2 11 q ≤ σ.1 5)) := rfl
  refine ht_intro (by decide +kernel) rfl rfl rfl (Nat.le_of_ble_eq_true rfl) ?_
  refine r_aload_n dX8_isLight_0 rfl ?_
  refine r_getI qX8_297 dX8_isLight_1 (hX.k2 q hq) (hX.g131 q hq) (kk := ?_)
  refine r_if_ne (tgt := 22) dX8_isLight_4 (by decide) (kt := fun z4 => ?_) (kf := fun z4 => ?_)
  · refine r_iconst dX8_isLight_22 ?_
    first
     | exact r_iret dX8_isLight_23 (rP_of (bz_T (by rw [e0, decide_eq_true (by omega), decide_eq_true (by omega)]; rfl)))
     | exact r_iret dX8_isLight_23 (rP_of (bz_F (by rw [e0, Bool.and_eq_false_iff, decide_eq_false_iff_not, decide_eq_false_iff_not]; omega)))
  · refine r_aload_n dX8_isLight_7 rfl ?_
    refine r_getI qX8_301 dX8_isLight_8 (hX.k2 q hq) (hX.g129 q hq) (kk := ?_)
    refine r_aload_n dX8_isLight_11 rfl ?_
    refine r_getI qX8_54 dX8_isLight_12 (hX.x 0 8 0) hX.i520 (kk := ?_)
    refine r_icmp_gt (tgt := 22) dX8_isLight_15 (by decide) (kt := fun z15 => ?_) (kf := fun z15 => ?_)
    · refine r_iconst dX8_isLight_22 ?_
      first
       | exact r_iret dX8_isLight_23 (rP_of (bz_T (by rw [e0, decide_eq_true (by omega), decide_eq_true (by omega)]; rfl)))
       | exact r_iret dX8_isLight_23 (rP_of (bz_F (by rw [e0, Bool.and_eq_false_iff, decide_eq_false_iff_not, decide_eq_false_iff_not]; omega)))
    · refine r_iconst dX8_isLight_18 ?_
      refine r_goto (tgt := 23) dX8_isLight_19 (by decide) ?_
      first
       | exact r_iret dX8_isLight_23 (rP_of (bz_T (by rw [e0, decide_eq_true (by omega), decide_eq_true (by omega)]; rfl)))
       | exact r_iret dX8_isLight_23 (rP_of (bz_F (by rw [e0, Bool.and_eq_false_iff, decide_eq_false_iff_not, decide_eq_false_iff_not]; omega)))
theorem x_isIn (hX : XB G M C σ) (hO : Ok σ T) (s g : Nat) (hs : s < σ.1 1) (hg : g < 16) : Ht G iX8_isIn yX8_isIn 3 [.ref (eA C 1 s), .int (iz (g : Int))] M (rP (bz (inG σ s g)) M) nX 0 0 := by
  have p5 := hO.1.2.2.2.2.1
  have s7 := (hO.2.1 s hs).2.2.2.2.2.2
  refine ht_intro (by decide +kernel) rfl rfl rfl (Nat.le_of_ble_eq_true rfl) ?_
  have tb : ∀ g : Nat, g < 16 → ∀ r : Nat, r < 4 → iz (g : Int) &&& iz ((2 ^ r : Nat) : Int) = iz ((if g.testBit r then 2 ^ r else 0 : Nat) : Int) := by decide +kernel
  refine r_aload_n dX8_isIn_0 rfl ?_
  refine r_getI qX8_128 dX8_isIn_1 (hX.k5 s hs) (hX.g326 s hs) (kk := ?_)
  refine r_iconst dX8_isIn_4 ?_
  refine r_icmp_eq (tgt := 24) dX8_isIn_5 (by decide) (kt := fun z5 => ?_) (kf := fun z5 => ?_)
  · refine r_iconst dX8_isIn_24 ?_
    first
     | (have e9 : g.testBit (σ.2 4 s - 1) = true := by
          cases e : g.testBit (σ.2 4 s - 1) with
          | true => rfl
          | false => rw [e] at z17; exact absurd rfl z17
        exact r_iret dX8_isIn_25 (rP_of (bz_T (by unfold inG; rw [e9, bne_iff_ne.mpr (by omega)]; rfl))))
     | (have e9 : g.testBit (σ.2 4 s - 1) = false := by
          cases e : g.testBit (σ.2 4 s - 1) with
          | false => rfl
          | true => rw [e] at z17; exfalso; simp only [if_true] at z17; omega
        exact r_iret dX8_isIn_25 (rP_of (bz_F (by unfold inG; rw [e9]; exact Bool.and_false _))))
     | exact r_iret dX8_isIn_25 (rP_of (bz_F (by unfold inG; rw [show σ.2 4 s = 0 by omega]; rfl)))
  · refine r_iload_n dX8_isIn_8 rfl ?_
    refine r_aload_n dX8_isIn_9 rfl ?_
    refine r_getI qX8_128 dX8_isIn_10 (hX.k5 s hs) (hX.g326 s hs) (kk := ?_)
    refine r_callS (mi := iX8_isIn) vX8_185 dX8_isIn_13 (x_groupOf (σ.2 4 s - 1) (z := (σ.2 4 s : Int) - 1) (by omega) (by omega)) (hm := by exact ⟨Nat.le_of_ble_eq_true rfl, Nat.le_of_ble_eq_true rfl⟩) (k := kP ?_) (kx := r_nox)
    refine r_iand dX8_isIn_16 (tb g hg (σ.2 4 s - 1) (by omega)) ?_
    have tp := Nat.two_pow_pos (σ.2 4 s - 1)
    have tl : 2 ^ (σ.2 4 s - 1) < 16 := two_lt (by omega)
    have ti : ((if g.testBit (σ.2 4 s - 1) then 2 ^ (σ.2 4 s - 1) else 0 : Nat)) < 16 := by split <;> omega
    refine r_if_eq (tgt := 24) dX8_isIn_17 (by decide) (kt := fun z17 => ?_) (kf := fun z17 => ?_)
    · refine r_iconst dX8_isIn_24 ?_
      first
       | (have e9 : g.testBit (σ.2 4 s - 1) = true := by
            cases e : g.testBit (σ.2 4 s - 1) with
            | true => rfl
            | false => rw [e] at z17; exact absurd rfl z17
          exact r_iret dX8_isIn_25 (rP_of (bz_T (by unfold inG; rw [e9, bne_iff_ne.mpr (by omega)]; rfl))))
       | (have e9 : g.testBit (σ.2 4 s - 1) = false := by
            cases e : g.testBit (σ.2 4 s - 1) with
            | false => rfl
            | true => rw [e] at z17; exfalso; simp only [if_true] at z17; omega
          exact r_iret dX8_isIn_25 (rP_of (bz_F (by unfold inG; rw [e9]; exact Bool.and_false _))))
       | exact r_iret dX8_isIn_25 (rP_of (bz_F (by unfold inG; rw [show σ.2 4 s = 0 by omega]; rfl)))
    · refine r_iconst dX8_isIn_20 ?_
      refine r_goto (tgt := 25) dX8_isIn_21 (by decide) ?_
      first
       | (have e9 : g.testBit (σ.2 4 s - 1) = true := by
            cases e : g.testBit (σ.2 4 s - 1) with
            | true => rfl
            | false => rw [e] at z17; exact absurd rfl z17
          exact r_iret dX8_isIn_25 (rP_of (bz_T (by unfold inG; rw [e9, bne_iff_ne.mpr (by omega)]; rfl))))
       | (have e9 : g.testBit (σ.2 4 s - 1) = false := by
            cases e : g.testBit (σ.2 4 s - 1) with
            | false => rfl
            | true => rw [e] at z17; exfalso; simp only [if_true] at z17; omega
          exact r_iret dX8_isIn_25 (rP_of (bz_F (by unfold inG; rw [e9]; exact Bool.and_false _))))
       | exact r_iret dX8_isIn_25 (rP_of (bz_F (by unfold inG; rw [show σ.2 4 s = 0 by omega]; rfl)))
theorem x_hasPost (hX : XB G M C σ) (hO : Ok σ T) (h : Nat) (hh : h < σ.1 2) : Ht G iX8_hasPost yX8_hasPost 8 [.ref (eX C 0), .ref (eA C 2 h)] M (rP (bz (post σ h)) M) nX 0 0 := by
  obtain ⟨⟨p1, p2, p3, p4, p5, p6, -⟩, hS, hH, -, hQ⟩ := id hO
  have h4 := (hH h hh).2.2.2
  refine ht_intro (by decide +kernel) rfl rfl rfl (Nat.le_of_ble_eq_true rfl) ?_
  have loop : σ.2 8 h = 0 → ∀ k i : Nat, i + k = σ.1 4 → (∀ j, j < i → forH σ h j = false) → SWG G iX8_hasPost (rmd 8 0 0) (QF G (rP (bz (post σ h)) M) nX 0 0) 11 [(2, .int (iz (i : Int))), (0, .ref (eX C 0)), (1, .ref (eA C 2 h))] [] M 0 0 := by
    intro h0 k
    induction k with
    | zero =>
      intro i hi hf
      have hi2 : i = σ.1 4 := by omega
      subst hi2
      refine r_iload_n dX8_hasPost_11 rfl ?_
      refine r_aload_n dX8_hasPost_12 rfl ?_
      refine r_getR qX8_22 dX8_hasPost_13 (hX.x 0 8 0) (hX.f 0 515 4) (kk := ?_)
      refine r_callV (mi := iX8_hasPost) vX8_77 dX8_hasPost_16 (hX.x 4 10 0) (c_size (hX.l 4)) (hm := by exact ⟨Nat.le_of_ble_eq_true rfl, Nat.le_of_ble_eq_true rfl⟩) (k := kP ?_) (kx := r_nox)
      refine r_icmp_ge (tgt := 58) dX8_hasPost_19 (by decide) (kt := fun z19 => ?_) (kf := fun z19 => (by exfalso; first | omega | simp_all))
      refine r_iconst dX8_hasPost_58 ?_
      exact r_iret dX8_hasPost_59 (rP_of (bz_F (by unfold post; rw [any_f _ _ hf, decide_eq_false (by omega)]; rfl)))
    | succ k ih =>
      intro i hi hf
      have hi3 : i < σ.1 4 := by omega
      have q1 := (hQ i hi3).1
      refine r_iload_n dX8_hasPost_11 rfl ?_
      refine r_aload_n dX8_hasPost_12 rfl ?_
      refine r_getR qX8_22 dX8_hasPost_13 (hX.x 0 8 0) (hX.f 0 515 4) (kk := ?_)
      refine r_callV (mi := iX8_hasPost) vX8_77 dX8_hasPost_16 (hX.x 4 10 0) (c_size (hX.l 4)) (hm := by exact ⟨Nat.le_of_ble_eq_true rfl, Nat.le_of_ble_eq_true rfl⟩) (k := kP ?_) (kx := r_nox)
      refine r_icmp_ge (tgt := 58) dX8_hasPost_19 (by decide) (kt := fun z19 => (by exfalso; first | omega | simp_all)) (kf := fun z19 => ?_)
      refine r_aload_n dX8_hasPost_22 rfl ?_
      refine r_getR qX8_22 dX8_hasPost_23 (hX.x 0 8 0) (hX.f 0 515 4) (kk := ?_)
      refine r_iload_n dX8_hasPost_26 rfl ?_
      refine r_callV (mi := iX8_hasPost) vX8_153 dX8_hasPost_27 (hX.x 4 10 0) (c_get (hX.l 4) (hi3) (hX.q 4 _ (hi3))) (hm := by exact ⟨Nat.le_of_ble_eq_true rfl, Nat.le_of_ble_eq_true rfl⟩) (k := kPA ?_) (kx := r_nox)
      refine r_cast nX8_148.1 dX8_hasPost_30 (hX.k2 _ (hi3)) (k := ?_)
      refine r_astore_n dX8_hasPost_33 (k := ?_)
      refine r_aload_n dX8_hasPost_34 rfl ?_
      refine r_getR qX8_345 dX8_hasPost_35 (hX.k2 i hi3) (hX.g128 i hi3) (kk := ?_)
      refine r_aload_n dX8_hasPost_38 rfl ?_
      refine r_acmp_ne (tgt := 52) dX8_hasPost_39 (by decide) (kt := fun z39 => ?_) (kf := fun z39 => ?_)
      · refine r_iinc dX8_hasPost_52 rfl (k := ?_)
        refine r_goto (tgt := 11) dX8_hasPost_55 (by decide) ?_
        refine r_loc' (ih (i + 1) (by omega) (fun j hj => ?_)) ⟨rfl, rfl, rfl, trivial⟩
        by_cases e : j = i
        · subst e
          unfold forH
          first
            | rw [z47]; exact Bool.and_false _
            | (rw [beq_eq_false_iff_ne.mpr (fun e => z39 ((hX.inj 2 _ _ q1 hh).mpr e))]; rfl)
        · exact hf j (by omega)
      · refine r_aload_n dX8_hasPost_42 rfl ?_
        refine r_aload_n dX8_hasPost_43 rfl ?_
        refine r_callV (mi := iX8_hasPost) vX8_349 dX8_hasPost_44 (hX.x 0 8 0) (x_isLight hX hO i hi3) (hm := by exact ⟨Nat.le_of_ble_eq_true rfl, Nat.le_of_ble_eq_true rfl⟩) (k := kP ?_) (kx := r_nox)
        refine r_bif_eq (tgt := 52) dX8_hasPost_47 (by decide) (kt := fun z47 => ?_) (kf := fun z47 => ?_)
        · refine r_iinc dX8_hasPost_52 rfl (k := ?_)
          refine r_goto (tgt := 11) dX8_hasPost_55 (by decide) ?_
          refine r_loc' (ih (i + 1) (by omega) (fun j hj => ?_)) ⟨rfl, rfl, rfl, trivial⟩
          by_cases e : j = i
          · subst e
            unfold forH
            first
              | rw [z47]; exact Bool.and_false _
              | (rw [beq_eq_false_iff_ne.mpr (fun e => z39 ((hX.inj 2 _ _ q1 hh).mpr e))]; rfl)
          · exact hf j (by omega)
        · refine r_iconst dX8_hasPost_50 ?_
          exact r_iret dX8_hasPost_51 (rP_of (bz_T (by unfold post; rw [any_t _ hi3 (by unfold forH; rw [(hX.inj 2 _ _ q1 hh).mp z39, z47]; simp)]; exact Bool.or_true _)))
  refine r_aload_n dX8_hasPost_0 rfl ?_
  refine r_getI qX8_139 dX8_hasPost_1 (hX.k1 h hh) (hX.g68 h hh) (kk := ?_)
  refine r_if_le (tgt := 9) dX8_hasPost_4 (by decide) (kt := fun z4 => ?_) (kf := fun z4 => ?_)
  · refine r_iconst dX8_hasPost_9 ?_
    refine r_istore_n dX8_hasPost_10 (k := ?_)
    exact r_loc' (loop (by omega) (σ.1 4) 0 (by omega) (fun j hj => absurd hj (Nat.not_lt_zero j))) ⟨rfl, rfl, rfl, trivial⟩
  · refine r_iconst dX8_hasPost_7 ?_
    exact r_iret dX8_hasPost_8 (rP_of (bz_T (by unfold post; rw [decide_eq_true (by omega)]; rfl)))
theorem x_rankOf (hX : XB G M C σ) (hO : Ok σ T) (h : Nat) (hh : h < σ.1 2) : Ht G iX8_rankOf yX8_rankOf 8 [.ref (eX C 0), .ref (eA C 2 h)] M (rP (iz (rank σ h : Int)) M) nX 0 0 := by
  obtain ⟨⟨-, -, p3, p4, -⟩, hS, hH, -⟩ := id hO
  obtain ⟨h1, h2, h3, h4⟩ := hH h hh
  have s5 := (hS (σ.2 5 h) h1).2.2.2.2.1
  refine ht_intro (by decide +kernel) rfl rfl rfl (Nat.le_of_ble_eq_true rfl) ?_
  have loop : ∀ k i : Nat, i + k = σ.1 2 → SWG G iX8_rankOf (rmd 8 0 0) (QF G (rP (iz (rank σ h : Int)) M) nX 0 0) 4 [(3, .int (iz (i : Int))), (2, .int (iz (cnt (rankB σ h) i : Int))), (0, .ref (eX C 0)), (1, .ref (eA C 2 h))] [] M 0 0 := by
    intro k
    induction k with
    | zero =>
      intro i hi
      have hi2 : i = σ.1 2 := by omega
      subst hi2
      refine r_iload_n dX8_rankOf_4 rfl ?_
      refine r_aload_n dX8_rankOf_5 rfl ?_
      refine r_getR qX8_16 dX8_rankOf_6 (hX.x 0 8 0) (hX.f 0 513 2) (kk := ?_)
      refine r_callV (mi := iX8_rankOf) vX8_77 dX8_rankOf_9 (hX.x 2 10 0) (c_size (hX.l 2)) (hm := by exact ⟨Nat.le_of_ble_eq_true rfl, Nat.le_of_ble_eq_true rfl⟩) (k := kP ?_) (kx := r_nox)
      refine r_icmp_ge (tgt := 109) dX8_rankOf_12 (by decide) (kt := fun z12 => ?_) (kf := fun z12 => (by exfalso; first | omega | simp_all))
      refine r_iload_n dX8_rankOf_109 rfl ?_
      exact r_iret dX8_rankOf_110 (rP_mk _ _)
    | succ k ih =>
      intro i hi
      have hi3 : i < σ.1 2 := by omega
      obtain ⟨g1, g2, g3, g4⟩ := hH i hi3
      have t5 := (hS (σ.2 5 i) g1).2.2.2.2.1
      have hc := cnt_le (rankB σ h) i
      have e0 : rankB σ h i = (decide (σ.2 5 i = σ.2 5 h) && decide (σ.2 6 i = σ.2 6 h) && (decide (σ.2 7 i < σ.2 7 h) || (decide (σ.2 7 i = σ.2 7 h) && decide (i < h)))) := rfl
      have ei := hX.inj 1 _ _ g1 h1
      refine r_iload_n dX8_rankOf_4 rfl ?_
      refine r_aload_n dX8_rankOf_5 rfl ?_
      refine r_getR qX8_16 dX8_rankOf_6 (hX.x 0 8 0) (hX.f 0 513 2) (kk := ?_)
      refine r_callV (mi := iX8_rankOf) vX8_77 dX8_rankOf_9 (hX.x 2 10 0) (c_size (hX.l 2)) (hm := by exact ⟨Nat.le_of_ble_eq_true rfl, Nat.le_of_ble_eq_true rfl⟩) (k := kP ?_) (kx := r_nox)
      refine r_icmp_ge (tgt := 109) dX8_rankOf_12 (by decide) (kt := fun z12 => (by exfalso; first | omega | simp_all)) (kf := fun z12 => ?_)
      refine r_aload_n dX8_rankOf_15 rfl ?_
      refine r_getR qX8_16 dX8_rankOf_16 (hX.x 0 8 0) (hX.f 0 513 2) (kk := ?_)
      refine r_iload_n dX8_rankOf_19 rfl ?_
      refine r_callV (mi := iX8_rankOf) vX8_153 dX8_rankOf_20 (hX.x 2 10 0) (c_get (hX.l 2) (hi3) (hX.q 2 _ (hi3))) (hm := by exact ⟨Nat.le_of_ble_eq_true rfl, Nat.le_of_ble_eq_true rfl⟩) (k := kPA ?_) (kx := r_nox)
      refine r_cast nX8_110.1 dX8_rankOf_23 (hX.k1 _ (hi3)) (k := ?_)
      refine r_astore dX8_rankOf_26 (k := ?_)
      refine r_aload dX8_rankOf_28 rfl ?_
      refine r_getI qX8_342 dX8_rankOf_30 (hX.k1 i hi3) (hX.g67 i hi3) (kk := ?_)
      refine r_aload_n dX8_rankOf_33 rfl ?_
      refine r_getI qX8_342 dX8_rankOf_34 (hX.k1 h hh) (hX.g67 h hh) (kk := ?_)
      refine r_icmp_ne (tgt := 56) dX8_rankOf_37 (by decide) (kt := fun z37 => ?_) (kf := fun z37 => ?_)
      · refine r_iconst dX8_rankOf_56 ?_
        refine r_istore dX8_rankOf_57 (k := ?_)
        refine r_aload dX8_rankOf_59 rfl ?_
        refine r_getR qX8_169 dX8_rankOf_61 (hX.k1 i hi3) (hX.g65 i hi3) (kk := ?_)
        refine r_aload_n dX8_rankOf_64 rfl ?_
        refine r_getR qX8_169 dX8_rankOf_65 (hX.k1 h hh) (hX.g65 h hh) (kk := ?_)
        refine r_acmp_ne (tgt := 103) dX8_rankOf_68 (by decide) (kt := fun z68 => ?_) (kf := fun z68 => ?_)
        · refine r_iinc dX8_rankOf_103 rfl (k := ?_)
          refine r_goto (tgt := 4) dX8_rankOf_106 (by decide) ?_
          refine r_loc' (ih (i + 1) (by omega)) ⟨rfl, ?_, rfl, rfl, trivial⟩
          first | replace z68 := ei.mp z68 | replace z68 := mt ei.mpr z68
          clear ih g1 g2 g4 h1 h2 h4 hc t5 s5 p3 p4 ei
          first
            | exact lkI (cnt_T (by rw [e0]; simp only [Bool.and_eq_true, Bool.or_eq_true, decide_eq_true_eq]; omega)).symm
            | exact lkI (cnt_F (by rw [e0]; rw [Bool.eq_false_iff]; simp only [ne_eq, Bool.and_eq_true, Bool.or_eq_true, decide_eq_true_eq]; omega)).symm
            | (exfalso; omega)
        · refine r_aload dX8_rankOf_71 rfl ?_
          refine r_getI qX8_173 dX8_rankOf_73 (hX.k1 i hi3) (hX.g66 i hi3) (kk := ?_)
          refine r_aload_n dX8_rankOf_76 rfl ?_
          refine r_getI qX8_173 dX8_rankOf_77 (hX.k1 h hh) (hX.g66 h hh) (kk := ?_)
          refine r_icmp_ne (tgt := 103) dX8_rankOf_80 (by decide) (kt := fun z80 => ?_) (kf := fun z80 => ?_)
          · refine r_iinc dX8_rankOf_103 rfl (k := ?_)
            refine r_goto (tgt := 4) dX8_rankOf_106 (by decide) ?_
            refine r_loc' (ih (i + 1) (by omega)) ⟨rfl, ?_, rfl, rfl, trivial⟩
            first | replace z68 := ei.mp z68 | replace z68 := mt ei.mpr z68
            clear ih g1 g2 g4 h1 h2 h4 hc t5 s5 p3 p4 ei
            first
              | exact lkI (cnt_T (by rw [e0]; simp only [Bool.and_eq_true, Bool.or_eq_true, decide_eq_true_eq]; omega)).symm
              | exact lkI (cnt_F (by rw [e0]; rw [Bool.eq_false_iff]; simp only [ne_eq, Bool.and_eq_true, Bool.or_eq_true, decide_eq_true_eq]; omega)).symm
              | (exfalso; omega)
          · refine r_aload dX8_rankOf_83 rfl ?_
            refine r_getI qX8_342 dX8_rankOf_85 (hX.k1 i hi3) (hX.g67 i hi3) (kk := ?_)
            refine r_aload_n dX8_rankOf_88 rfl ?_
            refine r_getI qX8_342 dX8_rankOf_89 (hX.k1 h hh) (hX.g67 h hh) (kk := ?_)
            refine r_icmp_lt (tgt := 100) dX8_rankOf_92 (by decide) (kt := fun z92 => ?_) (kf := fun z92 => ?_)
            · refine r_iinc dX8_rankOf_100 rfl (k := ?_)
              refine r_iinc dX8_rankOf_103 rfl (k := ?_)
              refine r_goto (tgt := 4) dX8_rankOf_106 (by decide) ?_
              refine r_loc' (ih (i + 1) (by omega)) ⟨rfl, ?_, rfl, rfl, trivial⟩
              first | replace z68 := ei.mp z68 | replace z68 := mt ei.mpr z68
              clear ih g1 g2 g4 h1 h2 h4 hc t5 s5 p3 p4 ei
              first
                | exact lkI (cnt_T (by rw [e0]; simp only [Bool.and_eq_true, Bool.or_eq_true, decide_eq_true_eq]; omega)).symm
                | exact lkI (cnt_F (by rw [e0]; rw [Bool.eq_false_iff]; simp only [ne_eq, Bool.and_eq_true, Bool.or_eq_true, decide_eq_true_eq]; omega)).symm
                | (exfalso; omega)
            · refine r_iload dX8_rankOf_95 rfl ?_
              refine r_if_eq (tgt := 103) dX8_rankOf_97 (by decide) (kt := fun z97 => ?_) (kf := fun z97 => ?_)
              · refine r_iinc dX8_rankOf_103 rfl (k := ?_)
                refine r_goto (tgt := 4) dX8_rankOf_106 (by decide) ?_
                refine r_loc' (ih (i + 1) (by omega)) ⟨rfl, ?_, rfl, rfl, trivial⟩
                first | replace z68 := ei.mp z68 | replace z68 := mt ei.mpr z68
                clear ih g1 g2 g4 h1 h2 h4 hc t5 s5 p3 p4 ei
                first
                  | exact lkI (cnt_T (by rw [e0]; simp only [Bool.and_eq_true, Bool.or_eq_true, decide_eq_true_eq]; omega)).symm
                  | exact lkI (cnt_F (by rw [e0]; rw [Bool.eq_false_iff]; simp only [ne_eq, Bool.and_eq_true, Bool.or_eq_true, decide_eq_true_eq]; omega)).symm
                  | (exfalso; omega)
              · refine r_iinc dX8_rankOf_100 rfl (k := ?_)
                refine r_iinc dX8_rankOf_103 rfl (k := ?_)
                refine r_goto (tgt := 4) dX8_rankOf_106 (by decide) ?_
                refine r_loc' (ih (i + 1) (by omega)) ⟨rfl, ?_, rfl, rfl, trivial⟩
                first | replace z68 := ei.mp z68 | replace z68 := mt ei.mpr z68
                clear ih g1 g2 g4 h1 h2 h4 hc t5 s5 p3 p4 ei
                first
                  | exact lkI (cnt_T (by rw [e0]; simp only [Bool.and_eq_true, Bool.or_eq_true, decide_eq_true_eq]; omega)).symm
                  | exact lkI (cnt_F (by rw [e0]; rw [Bool.eq_false_iff]; simp only [ne_eq, Bool.and_eq_true, Bool.or_eq_true, decide_eq_true_eq]; omega)).symm
                  | (exfalso; omega)
      · refine r_aload dX8_rankOf_40 rfl ?_
        refine r_getI qX8_115 dX8_rankOf_42 (hX.k1 i hi3) (hX.g64 i hi3) (kk := ?_)
        refine r_aload_n dX8_rankOf_45 rfl ?_
        refine r_getI qX8_115 dX8_rankOf_46 (hX.k1 h hh) (hX.g64 h hh) (kk := ?_)
        refine r_icmp_ge (tgt := 56) dX8_rankOf_49 (by decide) (kt := fun z49 => ?_) (kf := fun z49 => ?_)
        · refine r_iconst dX8_rankOf_56 ?_
          refine r_istore dX8_rankOf_57 (k := ?_)
          refine r_aload dX8_rankOf_59 rfl ?_
          refine r_getR qX8_169 dX8_rankOf_61 (hX.k1 i hi3) (hX.g65 i hi3) (kk := ?_)
          refine r_aload_n dX8_rankOf_64 rfl ?_
          refine r_getR qX8_169 dX8_rankOf_65 (hX.k1 h hh) (hX.g65 h hh) (kk := ?_)
          refine r_acmp_ne (tgt := 103) dX8_rankOf_68 (by decide) (kt := fun z68 => ?_) (kf := fun z68 => ?_)
          · refine r_iinc dX8_rankOf_103 rfl (k := ?_)
            refine r_goto (tgt := 4) dX8_rankOf_106 (by decide) ?_
            refine r_loc' (ih (i + 1) (by omega)) ⟨rfl, ?_, rfl, rfl, trivial⟩
            first | replace z68 := ei.mp z68 | replace z68 := mt ei.mpr z68
            clear ih g1 g2 g4 h1 h2 h4 hc t5 s5 p3 p4 ei
            first
              | exact lkI (cnt_T (by rw [e0]; simp only [Bool.and_eq_true, Bool.or_eq_true, decide_eq_true_eq]; omega)).symm
              | exact lkI (cnt_F (by rw [e0]; rw [Bool.eq_false_iff]; simp only [ne_eq, Bool.and_eq_true, Bool.or_eq_true, decide_eq_true_eq]; omega)).symm
              | (exfalso; omega)
          · refine r_aload dX8_rankOf_71 rfl ?_
            refine r_getI qX8_173 dX8_rankOf_73 (hX.k1 i hi3) (hX.g66 i hi3) (kk := ?_)
            refine r_aload_n dX8_rankOf_76 rfl ?_
            refine r_getI qX8_173 dX8_rankOf_77 (hX.k1 h hh) (hX.g66 h hh) (kk := ?_)
            refine r_icmp_ne (tgt := 103) dX8_rankOf_80 (by decide) (kt := fun z80 => ?_) (kf := fun z80 => ?_)
            · refine r_iinc dX8_rankOf_103 rfl (k := ?_)
              refine r_goto (tgt := 4) dX8_rankOf_106 (by decide) ?_
              refine r_loc' (ih (i + 1) (by omega)) ⟨rfl, ?_, rfl, rfl, trivial⟩
              first | replace z68 := ei.mp z68 | replace z68 := mt ei.mpr z68
              clear ih g1 g2 g4 h1 h2 h4 hc t5 s5 p3 p4 ei
              first
                | exact lkI (cnt_T (by rw [e0]; simp only [Bool.and_eq_true, Bool.or_eq_true, decide_eq_true_eq]; omega)).symm
                | exact lkI (cnt_F (by rw [e0]; rw [Bool.eq_false_iff]; simp only [ne_eq, Bool.and_eq_true, Bool.or_eq_true, decide_eq_true_eq]; omega)).symm
                | (exfalso; omega)
            · refine r_aload dX8_rankOf_83 rfl ?_
              refine r_getI qX8_342 dX8_rankOf_85 (hX.k1 i hi3) (hX.g67 i hi3) (kk := ?_)
              refine r_aload_n dX8_rankOf_88 rfl ?_
              refine r_getI qX8_342 dX8_rankOf_89 (hX.k1 h hh) (hX.g67 h hh) (kk := ?_)
              refine r_icmp_lt (tgt := 100) dX8_rankOf_92 (by decide) (kt := fun z92 => ?_) (kf := fun z92 => ?_)
              · refine r_iinc dX8_rankOf_100 rfl (k := ?_)
                refine r_iinc dX8_rankOf_103 rfl (k := ?_)
                refine r_goto (tgt := 4) dX8_rankOf_106 (by decide) ?_
                refine r_loc' (ih (i + 1) (by omega)) ⟨rfl, ?_, rfl, rfl, trivial⟩
                first | replace z68 := ei.mp z68 | replace z68 := mt ei.mpr z68
                clear ih g1 g2 g4 h1 h2 h4 hc t5 s5 p3 p4 ei
                first
                  | exact lkI (cnt_T (by rw [e0]; simp only [Bool.and_eq_true, Bool.or_eq_true, decide_eq_true_eq]; omega)).symm
                  | exact lkI (cnt_F (by rw [e0]; rw [Bool.eq_false_iff]; simp only [ne_eq, Bool.and_eq_true, Bool.or_eq_true, decide_eq_true_eq]; omega)).symm
                  | (exfalso; omega)
              · refine r_iload dX8_rankOf_95 rfl ?_
                refine r_if_eq (tgt := 103) dX8_rankOf_97 (by decide) (kt := fun z97 => ?_) (kf := fun z97 => ?_)
                · refine r_iinc dX8_rankOf_103 rfl (k := ?_)
                  refine r_goto (tgt := 4) dX8_rankOf_106 (by decide) ?_
                  refine r_loc' (ih (i + 1) (by omega)) ⟨rfl, ?_, rfl, rfl, trivial⟩
                  first | replace z68 := ei.mp z68 | replace z68 := mt ei.mpr z68
                  clear ih g1 g2 g4 h1 h2 h4 hc t5 s5 p3 p4 ei
                  first
                    | exact lkI (cnt_T (by rw [e0]; simp only [Bool.and_eq_true, Bool.or_eq_true, decide_eq_true_eq]; omega)).symm
                    | exact lkI (cnt_F (by rw [e0]; rw [Bool.eq_false_iff]; simp only [ne_eq, Bool.and_eq_true, Bool.or_eq_true, decide_eq_true_eq]; omega)).symm
                    | (exfalso; omega)
                · refine r_iinc dX8_rankOf_100 rfl (k := ?_)
                  refine r_iinc dX8_rankOf_103 rfl (k := ?_)
                  refine r_goto (tgt := 4) dX8_rankOf_106 (by decide) ?_
                  refine r_loc' (ih (i + 1) (by omega)) ⟨rfl, ?_, rfl, rfl, trivial⟩
                  first | replace z68 := ei.mp z68 | replace z68 := mt ei.mpr z68
                  clear ih g1 g2 g4 h1 h2 h4 hc t5 s5 p3 p4 ei
                  first
                    | exact lkI (cnt_T (by rw [e0]; simp only [Bool.and_eq_true, Bool.or_eq_true, decide_eq_true_eq]; omega)).symm
                    | exact lkI (cnt_F (by rw [e0]; rw [Bool.eq_false_iff]; simp only [ne_eq, Bool.and_eq_true, Bool.or_eq_true, decide_eq_true_eq]; omega)).symm
                    | (exfalso; omega)
        · refine r_iconst dX8_rankOf_52 ?_
          refine r_goto (tgt := 57) dX8_rankOf_53 (by decide) ?_
          refine r_istore dX8_rankOf_57 (k := ?_)
          refine r_aload dX8_rankOf_59 rfl ?_
          refine r_getR qX8_169 dX8_rankOf_61 (hX.k1 i hi3) (hX.g65 i hi3) (kk := ?_)
          refine r_aload_n dX8_rankOf_64 rfl ?_
          refine r_getR qX8_169 dX8_rankOf_65 (hX.k1 h hh) (hX.g65 h hh) (kk := ?_)
          refine r_acmp_ne (tgt := 103) dX8_rankOf_68 (by decide) (kt := fun z68 => ?_) (kf := fun z68 => ?_)
          · refine r_iinc dX8_rankOf_103 rfl (k := ?_)
            refine r_goto (tgt := 4) dX8_rankOf_106 (by decide) ?_
            refine r_loc' (ih (i + 1) (by omega)) ⟨rfl, ?_, rfl, rfl, trivial⟩
            first | replace z68 := ei.mp z68 | replace z68 := mt ei.mpr z68
            clear ih g1 g2 g4 h1 h2 h4 hc t5 s5 p3 p4 ei
            first
              | exact lkI (cnt_T (by rw [e0]; simp only [Bool.and_eq_true, Bool.or_eq_true, decide_eq_true_eq]; omega)).symm
              | exact lkI (cnt_F (by rw [e0]; rw [Bool.eq_false_iff]; simp only [ne_eq, Bool.and_eq_true, Bool.or_eq_true, decide_eq_true_eq]; omega)).symm
              | (exfalso; omega)
          · refine r_aload dX8_rankOf_71 rfl ?_
            refine r_getI qX8_173 dX8_rankOf_73 (hX.k1 i hi3) (hX.g66 i hi3) (kk := ?_)
            refine r_aload_n dX8_rankOf_76 rfl ?_
            refine r_getI qX8_173 dX8_rankOf_77 (hX.k1 h hh) (hX.g66 h hh) (kk := ?_)
            refine r_icmp_ne (tgt := 103) dX8_rankOf_80 (by decide) (kt := fun z80 => ?_) (kf := fun z80 => ?_)
            · refine r_iinc dX8_rankOf_103 rfl (k := ?_)
              refine r_goto (tgt := 4) dX8_rankOf_106 (by decide) ?_
              refine r_loc' (ih (i + 1) (by omega)) ⟨rfl, ?_, rfl, rfl, trivial⟩
              first | replace z68 := ei.mp z68 | replace z68 := mt ei.mpr z68
              clear ih g1 g2 g4 h1 h2 h4 hc t5 s5 p3 p4 ei
              first
                | exact lkI (cnt_T (by rw [e0]; simp only [Bool.and_eq_true, Bool.or_eq_true, decide_eq_true_eq]; omega)).symm
                | exact lkI (cnt_F (by rw [e0]; rw [Bool.eq_false_iff]; simp only [ne_eq, Bool.and_eq_true, Bool.or_eq_true, decide_eq_true_eq]; omega)).symm
                | (exfalso; omega)
            · refine r_aload dX8_rankOf_83 rfl ?_
              refine r_getI qX8_342 dX8_rankOf_85 (hX.k1 i hi3) (hX.g67 i hi3) (kk := ?_)
              refine r_aload_n dX8_rankOf_88 rfl ?_
              refine r_getI qX8_342 dX8_rankOf_89 (hX.k1 h hh) (hX.g67 h hh) (kk := ?_)
              refine r_icmp_lt (tgt := 100) dX8_rankOf_92 (by decide) (kt := fun z92 => ?_) (kf := fun z92 => ?_)
              · refine r_iinc dX8_rankOf_100 rfl (k := ?_)
                refine r_iinc dX8_rankOf_103 rfl (k := ?_)
                refine r_goto (tgt := 4) dX8_rankOf_106 (by decide) ?_
                refine r_loc' (ih (i + 1) (by omega)) ⟨rfl, ?_, rfl, rfl, trivial⟩
                first | replace z68 := ei.mp z68 | replace z68 := mt ei.mpr z68
                clear ih g1 g2 g4 h1 h2 h4 hc t5 s5 p3 p4 ei
                first
                  | exact lkI (cnt_T (by rw [e0]; simp only [Bool.and_eq_true, Bool.or_eq_true, decide_eq_true_eq]; omega)).symm
                  | exact lkI (cnt_F (by rw [e0]; rw [Bool.eq_false_iff]; simp only [ne_eq, Bool.and_eq_true, Bool.or_eq_true, decide_eq_true_eq]; omega)).symm
                  | (exfalso; omega)
              · refine r_iload dX8_rankOf_95 rfl ?_
                refine r_if_eq (tgt := 103) dX8_rankOf_97 (by decide) (kt := fun z97 => ?_) (kf := fun z97 => ?_)
                · refine r_iinc dX8_rankOf_103 rfl (k := ?_)
                  refine r_goto (tgt := 4) dX8_rankOf_106 (by decide) ?_
                  refine r_loc' (ih (i + 1) (by omega)) ⟨rfl, ?_, rfl, rfl, trivial⟩
                  first | replace z68 := ei.mp z68 | replace z68 := mt ei.mpr z68
                  clear ih g1 g2 g4 h1 h2 h4 hc t5 s5 p3 p4 ei
                  first
                    | exact lkI (cnt_T (by rw [e0]; simp only [Bool.and_eq_true, Bool.or_eq_true, decide_eq_true_eq]; omega)).symm
                    | exact lkI (cnt_F (by rw [e0]; rw [Bool.eq_false_iff]; simp only [ne_eq, Bool.and_eq_true, Bool.or_eq_true, decide_eq_true_eq]; omega)).symm
                    | (exfalso; omega)
                · refine r_iinc dX8_rankOf_100 rfl (k := ?_)
                  refine r_iinc dX8_rankOf_103 rfl (k := ?_)
                  refine r_goto (tgt := 4) dX8_rankOf_106 (by decide) ?_
                  refine r_loc' (ih (i + 1) (by omega)) ⟨rfl, ?_, rfl, rfl, trivial⟩
                  first | replace z68 := ei.mp z68 | replace z68 := mt ei.mpr z68
                  clear ih g1 g2 g4 h1 h2 h4 hc t5 s5 p3 p4 ei
                  first
                    | exact lkI (cnt_T (by rw [e0]; simp only [Bool.and_eq_true, Bool.or_eq_true, decide_eq_true_eq]; omega)).symm
                    | exact lkI (cnt_F (by rw [e0]; rw [Bool.eq_false_iff]; simp only [ne_eq, Bool.and_eq_true, Bool.or_eq_true, decide_eq_true_eq]; omega)).symm
                    | (exfalso; omega)
  refine r_iconst dX8_rankOf_0 ?_
  refine r_istore_n dX8_rankOf_1 (k := ?_)
  refine r_iconst dX8_rankOf_2 ?_
  refine r_istore_n dX8_rankOf_3 (k := ?_)
  exact r_loc' (loop (σ.1 2) 0 (by omega)) ⟨rfl, rfl, rfl, rfl, trivial⟩

theorem x_dueHouses (hX : XB G M C σ) (hO : Ok σ T) (g : Nat) (hg : g < 16) : Ht G iX8_dueHouses yX8_dueHouses 10 [.ref (eX C 0), .int (iz (g : Int))] M (rP (iz (dueN σ g : Int)) M) nX 0 0 := by
  obtain ⟨⟨p1, p2, p3, p4, p5, -⟩, hS, hH, -⟩ := id hO
  refine ht_intro (by decide +kernel) rfl rfl rfl (Nat.le_of_ble_eq_true rfl) ?_
  have loop : ∀ k i : Nat, i + k = σ.1 2 → SWG G iX8_dueHouses (rmd 10 0 0) (QF G (rP (iz (dueN σ g : Int)) M) nX 0 0) 4 [(3, .int (iz (i : Int))), (2, .int (iz (cnt (dueB σ g) i : Int))), (0, .ref (eX C 0)), (1, .int (iz (g : Int)))] [] M 0 0 := by
    intro k
    induction k with
    | zero =>
      intro i hi
      have hi2 : i = σ.1 2 := by omega
      subst hi2
      refine r_iload_n dX8_dueHouses_4 rfl ?_
      refine r_aload_n dX8_dueHouses_5 rfl ?_
      refine r_getR qX8_16 dX8_dueHouses_6 (hX.x 0 8 0) (hX.f 0 513 2) (kk := ?_)
      refine r_callV (mi := iX8_dueHouses) vX8_77 dX8_dueHouses_9 (hX.x 2 10 0) (c_size (hX.l 2)) (hm := by exact ⟨Nat.le_of_ble_eq_true rfl, Nat.le_of_ble_eq_true rfl⟩) (k := kP ?_) (kx := r_nox)
      refine r_icmp_ge (tgt := 58) dX8_dueHouses_12 (by decide) (kt := fun z12 => ?_) (kf := fun z12 => (by exfalso; first | omega | simp_all))
      refine r_iload_n dX8_dueHouses_58 rfl ?_
      exact r_iret dX8_dueHouses_59 (rP_mk _ _)
    | succ k ih =>
      intro i hi
      have hi3 : i < σ.1 2 := by omega
      refine r_iload_n dX8_dueHouses_4 rfl ?_
      refine r_aload_n dX8_dueHouses_5 rfl ?_
      refine r_getR qX8_16 dX8_dueHouses_6 (hX.x 0 8 0) (hX.f 0 513 2) (kk := ?_)
      refine r_callV (mi := iX8_dueHouses) vX8_77 dX8_dueHouses_9 (hX.x 2 10 0) (c_size (hX.l 2)) (hm := by exact ⟨Nat.le_of_ble_eq_true rfl, Nat.le_of_ble_eq_true rfl⟩) (k := kP ?_) (kx := r_nox)
      refine r_icmp_ge (tgt := 58) dX8_dueHouses_12 (by decide) (kt := fun z12 => (by exfalso; first | omega | simp_all)) (kf := fun z12 => ?_)
      refine r_aload_n dX8_dueHouses_15 rfl ?_
      refine r_getR qX8_16 dX8_dueHouses_16 (hX.x 0 8 0) (hX.f 0 513 2) (kk := ?_)
      refine r_iload_n dX8_dueHouses_19 rfl ?_
      refine r_callV (mi := iX8_dueHouses) vX8_153 dX8_dueHouses_20 (hX.x 2 10 0) (c_get (hX.l 2) (hi3) (hX.q 2 _ (hi3))) (hm := by exact ⟨Nat.le_of_ble_eq_true rfl, Nat.le_of_ble_eq_true rfl⟩) (k := kPA ?_) (kx := r_nox)
      refine r_cast nX8_110.1 dX8_dueHouses_23 (hX.k1 _ (hi3)) (k := ?_)
      refine r_astore dX8_dueHouses_26 (k := ?_)
      refine r_aload dX8_dueHouses_28 rfl ?_
      refine r_getR qX8_169 dX8_dueHouses_30 (hX.k1 i hi3) (hX.g65 i hi3) (kk := ?_)
      refine r_iload_n dX8_dueHouses_33 rfl ?_
      refine r_callS (mi := iX8_dueHouses) vX8_353 dX8_dueHouses_34 (x_isIn hX hO _ g (hH i hi3).1 hg) (hm := by exact ⟨Nat.le_of_ble_eq_true rfl, Nat.le_of_ble_eq_true rfl⟩) (k := kP ?_) (kx := r_nox)
      refine r_bif_eq (tgt := 52) dX8_dueHouses_37 (by decide) (kt := fun z37 => ?_) (kf := fun z37 => ?_)
      · refine r_iinc dX8_dueHouses_52 rfl (k := ?_)
        refine r_goto (tgt := 4) dX8_dueHouses_55 (by decide) ?_
        refine r_loc' (ih (i + 1) (by omega)) ⟨rfl, ?_, rfl, rfl, trivial⟩
        first
          | exact lkI (cnt_T (by unfold dueB; rw [z37, z46]; rfl)).symm
          | exact lkI ((cnt_F (by unfold dueB; rw [z46]; exact Bool.and_false _)).trans (Int.add_zero _)).symm
          | exact lkI ((cnt_F (by unfold dueB; rw [z37]; rfl)).trans (Int.add_zero _)).symm
      · refine r_aload_n dX8_dueHouses_40 rfl ?_
        refine r_aload dX8_dueHouses_41 rfl ?_
        refine r_callV (mi := iX8_dueHouses) vX8_157 dX8_dueHouses_43 (hX.x 0 8 0) (x_hasPost hX hO i hi3) (hm := by exact ⟨Nat.le_of_ble_eq_true rfl, Nat.le_of_ble_eq_true rfl⟩) (k := kP ?_) (kx := r_nox)
        refine r_bif_eq (tgt := 52) dX8_dueHouses_46 (by decide) (kt := fun z46 => ?_) (kf := fun z46 => ?_)
        · refine r_iinc dX8_dueHouses_52 rfl (k := ?_)
          refine r_goto (tgt := 4) dX8_dueHouses_55 (by decide) ?_
          refine r_loc' (ih (i + 1) (by omega)) ⟨rfl, ?_, rfl, rfl, trivial⟩
          first
            | exact lkI (cnt_T (by unfold dueB; rw [z37, z46]; rfl)).symm
            | exact lkI ((cnt_F (by unfold dueB; rw [z46]; exact Bool.and_false _)).trans (Int.add_zero _)).symm
            | exact lkI ((cnt_F (by unfold dueB; rw [z37]; rfl)).trans (Int.add_zero _)).symm
        · refine r_iinc dX8_dueHouses_49 rfl (k := ?_)
          refine r_iinc dX8_dueHouses_52 rfl (k := ?_)
          refine r_goto (tgt := 4) dX8_dueHouses_55 (by decide) ?_
          refine r_loc' (ih (i + 1) (by omega)) ⟨rfl, ?_, rfl, rfl, trivial⟩
          first
            | exact lkI (cnt_T (by unfold dueB; rw [z37, z46]; rfl)).symm
            | exact lkI ((cnt_F (by unfold dueB; rw [z46]; exact Bool.and_false _)).trans (Int.add_zero _)).symm
            | exact lkI ((cnt_F (by unfold dueB; rw [z37]; rfl)).trans (Int.add_zero _)).symm
  refine r_iconst dX8_dueHouses_0 ?_
  refine r_istore_n dX8_dueHouses_1 (k := ?_)
  refine r_iconst dX8_dueHouses_2 ?_
  refine r_istore_n dX8_dueHouses_3 (k := ?_)
  exact r_loc' (loop (σ.1 2) 0 (by omega)) ⟨rfl, rfl, rfl, rfl, trivial⟩
theorem x_lightParcels (hX : XB G M C σ) (hO : Ok σ T) (g : Nat) (hg : g < 16) : Ht G iX8_lightParcels yX8_lightParcels 10 [.ref (eX C 0), .int (iz (g : Int))] M (rP (iz (lightN σ g : Int)) M) nX 0 0 := by
  obtain ⟨⟨p1, p2, p3, p4, p5, p6, -⟩, hS, hH, -, hQ⟩ := id hO
  refine ht_intro (by decide +kernel) rfl rfl rfl (Nat.le_of_ble_eq_true rfl) ?_
  have loop : ∀ k i : Nat, i + k = σ.1 4 → SWG G iX8_lightParcels (rmd 10 0 0) (QF G (rP (iz (lightN σ g : Int)) M) nX 0 0) 4 [(3, .int (iz (i : Int))), (2, .int (iz (cnt (lightB σ g) i : Int))), (0, .ref (eX C 0)), (1, .int (iz (g : Int)))] [] M 0 0 := by
    intro k
    induction k with
    | zero =>
      intro i hi
      have hi2 : i = σ.1 4 := by omega
      subst hi2
      refine r_iload_n dX8_lightParcels_4 rfl ?_
      refine r_aload_n dX8_lightParcels_5 rfl ?_
      refine r_getR qX8_22 dX8_lightParcels_6 (hX.x 0 8 0) (hX.f 0 515 4) (kk := ?_)
      refine r_callV (mi := iX8_lightParcels) vX8_77 dX8_lightParcels_9 (hX.x 4 10 0) (c_size (hX.l 4)) (hm := by exact ⟨Nat.le_of_ble_eq_true rfl, Nat.le_of_ble_eq_true rfl⟩) (k := kP ?_) (kx := r_nox)
      refine r_icmp_ge (tgt := 61) dX8_lightParcels_12 (by decide) (kt := fun z12 => ?_) (kf := fun z12 => (by exfalso; first | omega | simp_all))
      refine r_iload_n dX8_lightParcels_61 rfl ?_
      exact r_iret dX8_lightParcels_62 (rP_mk _ _)
    | succ k ih =>
      intro i hi
      have hi3 : i < σ.1 4 := by omega
      have q1 := (hQ i hi3).1
      refine r_iload_n dX8_lightParcels_4 rfl ?_
      refine r_aload_n dX8_lightParcels_5 rfl ?_
      refine r_getR qX8_22 dX8_lightParcels_6 (hX.x 0 8 0) (hX.f 0 515 4) (kk := ?_)
      refine r_callV (mi := iX8_lightParcels) vX8_77 dX8_lightParcels_9 (hX.x 4 10 0) (c_size (hX.l 4)) (hm := by exact ⟨Nat.le_of_ble_eq_true rfl, Nat.le_of_ble_eq_true rfl⟩) (k := kP ?_) (kx := r_nox)
      refine r_icmp_ge (tgt := 61) dX8_lightParcels_12 (by decide) (kt := fun z12 => (by exfalso; first | omega | simp_all)) (kf := fun z12 => ?_)
      refine r_aload_n dX8_lightParcels_15 rfl ?_
      refine r_getR qX8_22 dX8_lightParcels_16 (hX.x 0 8 0) (hX.f 0 515 4) (kk := ?_)
      refine r_iload_n dX8_lightParcels_19 rfl ?_
      refine r_callV (mi := iX8_lightParcels) vX8_153 dX8_lightParcels_20 (hX.x 4 10 0) (c_get (hX.l 4) (hi3) (hX.q 4 _ (hi3))) (hm := by exact ⟨Nat.le_of_ble_eq_true rfl, Nat.le_of_ble_eq_true rfl⟩) (k := kPA ?_) (kx := r_nox)
      refine r_cast nX8_148.1 dX8_lightParcels_23 (hX.k2 _ (hi3)) (k := ?_)
      refine r_astore dX8_lightParcels_26 (k := ?_)
      refine r_aload dX8_lightParcels_28 rfl ?_
      refine r_getR qX8_345 dX8_lightParcels_30 (hX.k2 i hi3) (hX.g128 i hi3) (kk := ?_)
      refine r_getR qX8_169 dX8_lightParcels_33 (hX.k1 _ q1) (hX.g65 _ q1) (kk := ?_)
      refine r_iload_n dX8_lightParcels_36 rfl ?_
      refine r_callS (mi := iX8_lightParcels) vX8_353 dX8_lightParcels_37 (x_isIn hX hO _ g (hH _ q1).1 hg) (hm := by exact ⟨Nat.le_of_ble_eq_true rfl, Nat.le_of_ble_eq_true rfl⟩) (k := kP ?_) (kx := r_nox)
      refine r_bif_eq (tgt := 55) dX8_lightParcels_40 (by decide) (kt := fun z40 => ?_) (kf := fun z40 => ?_)
      · refine r_iinc dX8_lightParcels_55 rfl (k := ?_)
        refine r_goto (tgt := 4) dX8_lightParcels_58 (by decide) ?_
        refine r_loc' (ih (i + 1) (by omega)) ⟨rfl, ?_, rfl, rfl, trivial⟩
        first
          | exact lkI (cnt_T (by unfold lightB; rw [z40, z49]; rfl)).symm
          | exact lkI ((cnt_F (by unfold lightB; rw [z49]; exact Bool.and_false _)).trans (Int.add_zero _)).symm
          | exact lkI ((cnt_F (by unfold lightB; rw [z40]; rfl)).trans (Int.add_zero _)).symm
      · refine r_aload_n dX8_lightParcels_43 rfl ?_
        refine r_aload dX8_lightParcels_44 rfl ?_
        refine r_callV (mi := iX8_lightParcels) vX8_349 dX8_lightParcels_46 (hX.x 0 8 0) (x_isLight hX hO i hi3) (hm := by exact ⟨Nat.le_of_ble_eq_true rfl, Nat.le_of_ble_eq_true rfl⟩) (k := kP ?_) (kx := r_nox)
        refine r_bif_eq (tgt := 55) dX8_lightParcels_49 (by decide) (kt := fun z49 => ?_) (kf := fun z49 => ?_)
        · refine r_iinc dX8_lightParcels_55 rfl (k := ?_)
          refine r_goto (tgt := 4) dX8_lightParcels_58 (by decide) ?_
          refine r_loc' (ih (i + 1) (by omega)) ⟨rfl, ?_, rfl, rfl, trivial⟩
          first
            | exact lkI (cnt_T (by unfold lightB; rw [z40, z49]; rfl)).symm
            | exact lkI ((cnt_F (by unfold lightB; rw [z49]; exact Bool.and_false _)).trans (Int.add_zero _)).symm
            | exact lkI ((cnt_F (by unfold lightB; rw [z40]; rfl)).trans (Int.add_zero _)).symm
        · refine r_iinc dX8_lightParcels_52 rfl (k := ?_)
          refine r_iinc dX8_lightParcels_55 rfl (k := ?_)
          refine r_goto (tgt := 4) dX8_lightParcels_58 (by decide) ?_
          refine r_loc' (ih (i + 1) (by omega)) ⟨rfl, ?_, rfl, rfl, trivial⟩
          first
            | exact lkI (cnt_T (by unfold lightB; rw [z40, z49]; rfl)).symm
            | exact lkI ((cnt_F (by unfold lightB; rw [z49]; exact Bool.and_false _)).trans (Int.add_zero _)).symm
            | exact lkI ((cnt_F (by unfold lightB; rw [z40]; rfl)).trans (Int.add_zero _)).symm
  refine r_iconst dX8_lightParcels_0 ?_
  refine r_istore_n dX8_lightParcels_1 (k := ?_)
  refine r_iconst dX8_lightParcels_2 ?_
  refine r_istore_n dX8_lightParcels_3 (k := ?_)
  exact r_loc' (loop (σ.1 4) 0 (by omega)) ⟨rfl, rfl, rfl, rfl, trivial⟩
/-- the time of the stops -/
def sT (σ : St) (g : Nat) : Nat := 2 * dueN σ g + lightN σ g
theorem sT_le (hO : Ok σ T) (g : Nat) : sT σ g ≤ 80 := by
  have h1 := cnt_le (dueB σ g) (σ.1 2)
  have h2 := cnt_le (lightB σ g) (σ.1 4)
  have p4 := hO.1.2.2.2.1
  have p6 := hO.1.2.2.2.2.2.1
  unfold sT dueN lightN; omega
theorem x_stopTime (hX : XB G M C σ) (hO : Ok σ T) (g : Nat) (hg : g < 16) : Ht G iX8_stopTime yX8_stopTime 12 [.ref (eX C 0), .int (iz (g : Int))] M (rP (iz (sT σ g : Int)) M) nX 0 0 := by
  refine ht_intro (by decide +kernel) rfl rfl rfl (Nat.le_of_ble_eq_true rfl) ?_
  refine r_iconst dX8_stopTime_0 ?_
  refine r_aload_n dX8_stopTime_1 rfl ?_
  refine r_iload_n dX8_stopTime_2 rfl ?_
  refine r_callV (mi := iX8_stopTime) vX8_189 dX8_stopTime_3 (hX.x 0 8 0) (x_dueHouses hX hO g hg) (hm := by exact ⟨Nat.le_of_ble_eq_true rfl, Nat.le_of_ble_eq_true rfl⟩) (k := kP ?_) (kx := r_nox)
  refine r_imul dX8_stopTime_6 ?_
  refine r_aload_n dX8_stopTime_7 rfl ?_
  refine r_iload_n dX8_stopTime_8 rfl ?_
  refine r_callV (mi := iX8_stopTime) vX8_357 dX8_stopTime_9 (hX.x 0 8 0) (x_lightParcels hX hO g hg) (hm := by exact ⟨Nat.le_of_ble_eq_true rfl, Nat.le_of_ble_eq_true rfl⟩) (k := kP ?_) (kx := r_nox)
  refine r_iadd dX8_stopTime_12 ?_
  exact r_iret dX8_stopTime_13 (rP_of (congrArg iz (show _ = ((sT σ g : Nat) : Int) by unfold sT; omega)))
theorem x_isWithin (hX : XB G M C σ) (hO : Ok σ T) (g l : Nat) (w : Int) (hg : g < 16) (hl : l ≤ 999) (hw : -1 ≤ w ∧ w ≤ 1000000) : Ht G iX8_isWithin yX8_isWithin 14 [.ref (eX C 0), .int (iz (l : Int)), .int (iz w), .int (iz (g : Int))] M (rP (bz (decide (w ≠ -1 ∧ w + sT σ g ≤ l))) M) nX 0 0 := by
  have h1 := sT_le hO g
  refine ht_intro (by decide +kernel) rfl rfl rfl (Nat.le_of_ble_eq_true rfl) ?_
  refine r_iload_n dX8_isWithin_0 rfl ?_
  refine r_iconst dX8_isWithin_1 ?_
  refine r_icmp_eq (tgt := 20) dX8_isWithin_2 (by decide) (kt := fun z2 => ?_) (kf := fun z2 => ?_)
  · refine r_iconst dX8_isWithin_20 ?_
    first
     | exact r_iret dX8_isWithin_21 (rP_of (bz_d (by omega)))
     | exact r_iret dX8_isWithin_21 (rP_of (bz_nd (by omega)))
  · refine r_iload_n dX8_isWithin_5 rfl ?_
    refine r_aload_n dX8_isWithin_6 rfl ?_
    refine r_iload_n dX8_isWithin_7 rfl ?_
    refine r_callV (mi := iX8_isWithin) vX8_250 dX8_isWithin_8 (hX.x 0 8 0) (x_stopTime hX hO g hg) (hm := by exact ⟨Nat.le_of_ble_eq_true rfl, Nat.le_of_ble_eq_true rfl⟩) (k := kP ?_) (kx := r_nox)
    refine r_iadd dX8_isWithin_11 ?_
    refine r_iload_n dX8_isWithin_12 rfl ?_
    refine r_icmp_gt (tgt := 20) dX8_isWithin_13 (by decide) (kt := fun z13 => ?_) (kf := fun z13 => ?_)
    · refine r_iconst dX8_isWithin_20 ?_
      first
       | exact r_iret dX8_isWithin_21 (rP_of (bz_d (by omega)))
       | exact r_iret dX8_isWithin_21 (rP_of (bz_nd (by omega)))
    · refine r_iconst dX8_isWithin_16 ?_
      refine r_goto (tgt := 21) dX8_isWithin_17 (by decide) ?_
      first
       | exact r_iret dX8_isWithin_21 (rP_of (bz_d (by omega)))
       | exact r_iret dX8_isWithin_21 (rP_of (bz_nd (by omega)))
/-- the sides that are due, a bit for each -/
def dsN (σ : St) (s i : Nat) : Nat := (if any (fun h => decide (σ.2 5 h = s) && decide (σ.2 6 h = 0) && post σ h) i then 1 else 0) + (if any (fun h => decide (σ.2 5 h = s) && decide (σ.2 6 h = 1) && post σ h) i then 2 else 0)
theorem x_dueSides (hX : XB G M C σ) (hO : Ok σ T) (s : Nat) (hs : s < σ.1 1) : Ht G iX8_dueSides yX8_dueSides 10 [.ref (eX C 0), .ref (eA C 1 s)] M (rP (iz (dsN σ s (σ.1 2) : Int)) M) nX 0 0 := by
  obtain ⟨⟨p1, p2, p3, p4, p5, -⟩, hS, hH, -⟩ := id hO
  refine ht_intro (by decide +kernel) rfl rfl rfl (Nat.le_of_ble_eq_true rfl) ?_
  have tb : ∀ a b : Bool, ∀ d : Nat, d < 2 → iz (((if a then 1 else 0) + (if b then 2 else 0) : Nat) : Int) ||| iz ((2 ^ d : Nat) : Int) = iz (((if (a || decide (d = 0)) then 1 else 0) + (if (b || decide (d = 1)) then 2 else 0) : Nat) : Int) := by decide +kernel
  have loop : ∀ k i : Nat, i + k = σ.1 2 → SWG G iX8_dueSides (rmd 10 0 0) (QF G (rP (iz (dsN σ s (σ.1 2) : Int)) M) nX 0 0) 4 [(3, .int (iz (i : Int))), (2, .int (iz (dsN σ s i : Int))), (0, .ref (eX C 0)), (1, .ref (eA C 1 s))] [] M 0 0 := by
    intro k
    induction k with
    | zero =>
      intro i hi
      have hi2 : i = σ.1 2 := by omega
      subst hi2
      refine r_iload_n dX8_dueSides_4 rfl ?_
      refine r_aload_n dX8_dueSides_5 rfl ?_
      refine r_getR qX8_16 dX8_dueSides_6 (hX.x 0 8 0) (hX.f 0 513 2) (kk := ?_)
      refine r_callV (mi := iX8_dueSides) vX8_77 dX8_dueSides_9 (hX.x 2 10 0) (c_size (hX.l 2)) (hm := by exact ⟨Nat.le_of_ble_eq_true rfl, Nat.le_of_ble_eq_true rfl⟩) (k := kP ?_) (kx := r_nox)
      refine r_icmp_ge (tgt := 62) dX8_dueSides_12 (by decide) (kt := fun z12 => ?_) (kf := fun z12 => (by exfalso; first | omega | simp_all))
      refine r_iload_n dX8_dueSides_62 rfl ?_
      exact r_iret dX8_dueSides_63 (rP_mk _ _)
    | succ k ih =>
      intro i hi
      have hi3 : i < σ.1 2 := by omega
      obtain ⟨g1, g2, -⟩ := hH i hi3
      have ei := hX.inj 1 _ _ g1 hs
      refine r_iload_n dX8_dueSides_4 rfl ?_
      refine r_aload_n dX8_dueSides_5 rfl ?_
      refine r_getR qX8_16 dX8_dueSides_6 (hX.x 0 8 0) (hX.f 0 513 2) (kk := ?_)
      refine r_callV (mi := iX8_dueSides) vX8_77 dX8_dueSides_9 (hX.x 2 10 0) (c_size (hX.l 2)) (hm := by exact ⟨Nat.le_of_ble_eq_true rfl, Nat.le_of_ble_eq_true rfl⟩) (k := kP ?_) (kx := r_nox)
      refine r_icmp_ge (tgt := 62) dX8_dueSides_12 (by decide) (kt := fun z12 => (by exfalso; first | omega | simp_all)) (kf := fun z12 => ?_)
      refine r_aload_n dX8_dueSides_15 rfl ?_
      refine r_getR qX8_16 dX8_dueSides_16 (hX.x 0 8 0) (hX.f 0 513 2) (kk := ?_)
      refine r_iload_n dX8_dueSides_19 rfl ?_
      refine r_callV (mi := iX8_dueSides) vX8_153 dX8_dueSides_20 (hX.x 2 10 0) (c_get (hX.l 2) (hi3) (hX.q 2 _ (hi3))) (hm := by exact ⟨Nat.le_of_ble_eq_true rfl, Nat.le_of_ble_eq_true rfl⟩) (k := kPA ?_) (kx := r_nox)
      refine r_cast nX8_110.1 dX8_dueSides_23 (hX.k1 _ (hi3)) (k := ?_)
      refine r_astore dX8_dueSides_26 (k := ?_)
      refine r_aload dX8_dueSides_28 rfl ?_
      refine r_getR qX8_169 dX8_dueSides_30 (hX.k1 i hi3) (hX.g65 i hi3) (kk := ?_)
      refine r_aload_n dX8_dueSides_33 rfl ?_
      refine r_acmp_ne (tgt := 56) dX8_dueSides_34 (by decide) (kt := fun z34 => ?_) (kf := fun z34 => ?_)
      · refine r_iinc dX8_dueSides_56 rfl (k := ?_)
        refine r_goto (tgt := 4) dX8_dueSides_59 (by decide) ?_
        refine r_loc' (ih (i + 1) (by omega)) ⟨rfl, lkI (congrArg Int.ofNat ?_), rfl, rfl, trivial⟩
        first | replace z34 := ei.mp z34 | replace z34 := mt ei.mpr z34
        unfold dsN
        simp only [any]
        first
          | (simp only [z34, z43, decide_true, decide_false, Bool.true_and, Bool.and_true, Bool.false_and, Bool.and_false, Bool.or_false]; done)
          | (simp only [z34, decide_true, decide_false, Bool.true_and, Bool.and_true, Bool.false_and, Bool.and_false, Bool.or_false]; done)
      · refine r_aload_n dX8_dueSides_37 rfl ?_
        refine r_aload dX8_dueSides_38 rfl ?_
        refine r_callV (mi := iX8_dueSides) vX8_157 dX8_dueSides_40 (hX.x 0 8 0) (x_hasPost hX hO i hi3) (hm := by exact ⟨Nat.le_of_ble_eq_true rfl, Nat.le_of_ble_eq_true rfl⟩) (k := kP ?_) (kx := r_nox)
        refine r_bif_eq (tgt := 56) dX8_dueSides_43 (by decide) (kt := fun z43 => ?_) (kf := fun z43 => ?_)
        · refine r_iinc dX8_dueSides_56 rfl (k := ?_)
          refine r_goto (tgt := 4) dX8_dueSides_59 (by decide) ?_
          refine r_loc' (ih (i + 1) (by omega)) ⟨rfl, lkI (congrArg Int.ofNat ?_), rfl, rfl, trivial⟩
          first | replace z34 := ei.mp z34 | replace z34 := mt ei.mpr z34
          unfold dsN
          simp only [any]
          first
            | (simp only [z34, z43, decide_true, decide_false, Bool.true_and, Bool.and_true, Bool.false_and, Bool.and_false, Bool.or_false]; done)
            | (simp only [z34, decide_true, decide_false, Bool.true_and, Bool.and_true, Bool.false_and, Bool.and_false, Bool.or_false]; done)
        · refine r_iload_n dX8_dueSides_46 rfl ?_
          refine r_iconst dX8_dueSides_47 ?_
          refine r_aload dX8_dueSides_48 rfl ?_
          refine r_getI qX8_173 dX8_dueSides_50 (hX.k1 i hi3) (hX.g66 i hi3) (kk := ?_)
          refine r_ishl dX8_dueSides_53 (sl_1 (r := σ.2 6 i) rfl (by omega)) ?_
          refine r_ior dX8_dueSides_54 (tb _ _ _ (by omega)) ?_
          refine r_istore_n dX8_dueSides_55 (k := ?_)
          refine r_iinc dX8_dueSides_56 rfl (k := ?_)
          refine r_goto (tgt := 4) dX8_dueSides_59 (by decide) ?_
          refine r_loc' (ih (i + 1) (by omega)) ⟨rfl, lkI (congrArg Int.ofNat ?_), rfl, rfl, trivial⟩
          first | replace z34 := ei.mp z34 | replace z34 := mt ei.mpr z34
          unfold dsN
          simp only [any]
          first
            | (simp only [z34, z43, decide_true, decide_false, Bool.true_and, Bool.and_true, Bool.false_and, Bool.and_false, Bool.or_false]; done)
            | (simp only [z34, decide_true, decide_false, Bool.true_and, Bool.and_true, Bool.false_and, Bool.and_false, Bool.or_false]; done)
  refine r_iconst dX8_dueSides_0 ?_
  refine r_istore_n dX8_dueSides_1 (k := ?_)
  refine r_iconst dX8_dueSides_2 ?_
  refine r_istore_n dX8_dueSides_3 (k := ?_)
  exact r_loc' (loop (σ.1 2) 0 (by omega)) ⟨rfl, rfl, rfl, rfl, trivial⟩
end CL1
