/-! The reference: what it tells of houses and rounds. -/
section MD3A
variable {G : GC} {mi : MI} {R : Room} {Qf : List Frame → Array Value → State → State → Prop} {pc : Nat} {L : List (Nat × Value)} {st : List Value} {M : Mem} {kc ks : Nat}
theorem bz_i1 : ∀ b, (bz b = iz 1) = (b = true) := by intro b; cases b <;> decide +kernel
theorem r_b1_ne {b : Bool} {off : Int} {tgt : Nat} (d : decode mi.2.1 pc = .ok (.if_icmp .ne off, 3)) (ht : (pc : Int) + off = (tgt : Int)) (kt : b = false → SWG G mi R Qf tgt L st M kc ks) (kf : b = true → SWG G mi R Qf (pc + 3) L st M kc ks) : SWG G mi R Qf pc L (.int (iz 1) :: .int (bz b) :: st) M kc ks := by
  cases b with
  | false => exact r_icmp_ne (a := 0) (b := 1) d ht (kt := fun _ => kt rfl) (kf := fun h => absurd h (by decide))
  | true => exact r_icmp_ne (a := 1) (b := 1) d ht (kt := fun h => absurd rfl h) (kf := fun _ => kf rfl)
theorem r_b1_eq {b : Bool} {off : Int} {tgt : Nat} (d : decode mi.2.1 pc = .ok (.if_icmp .eq off, 3)) (ht : (pc : Int) + off = (tgt : Int)) (kt : b = true → SWG G mi R Qf tgt L st M kc ks) (kf : b = false → SWG G mi R Qf (pc + 3) L st M kc ks) : SWG G mi R Qf pc L (.int (iz 1) :: .int (bz b) :: st) M kc ks := by
  cases b with
  | false => exact r_icmp_eq (a := 0) (b := 1) d ht (kt := fun h => absurd h (by decide)) (kf := fun _ => kf rfl)
  | true => exact r_icmp_eq (a := 1) (b := 1) d ht (kt := fun _ => kt rfl) (kf := fun h => absurd rfl h)
theorem bt_sh0 : ∀ g : Nat, g < 256 → ∀ r : Nat, r < 8 → (iz (g : Int) >>> (iz (r : Int) &&& 31)) &&& iz 1 = bz (g.testBit r) := by decide +kernel
theorem bt_sh {g r : Nat} {x : Int} (hx : x = r) (hg : g < 256) (hr : r < 8) : (iz (g : Int) >>> (iz x &&& 31)) &&& iz 1 = bz (g.testBit r) := by subst hx; exact bt_sh0 g hg r hr
theorem sl_0 : ∀ r : Nat, r < 16 → iz 1 <<< (iz (r : Int) &&& 31) = iz ((2 ^ r : Nat) : Int) := by decide +kernel
theorem sl_1 {r : Nat} {x : Int} (hx : x = r) (hr : r < 16) : iz 1 <<< (iz x &&& 31) = iz ((2 ^ r : Nat) : Int) := by subst hx; exact sl_0 r hr
theorem iz_or (a b : Nat) : iz (a : Int) ||| iz (b : Int) = iz ((a ||| b : Nat) : Int) := by
  apply Int32.toBitVec_inj.mp
  simp only [iz, Int32.toBitVec_or, Int32.toBitVec_ofInt]
  show BitVec.ofNat 32 a ||| BitVec.ofNat 32 b = BitVec.ofNat 32 (a ||| b)
  exact BitVec.ofNat_or.symm
end MD3A
section MD3
variable {G : GC} {M : Mem} {Y : Nat → Nat} {σ : St} {T : Nat}
theorem two_lt {r : Nat} (h : r < 4) : 2 ^ r < 16 := Nat.pow_lt_pow_right (by omega) h
theorem m_places (hM : RM M Y σ) : Ht G iX9_places yX9_places 10 [.ref (Y 0)] M (MR Y M (σ, 0, σ.1 0)) nX 0 0 := by
  refine ht_intro (by decide +kernel) rfl rfl rfl (Nat.le_of_ble_eq_true rfl) ?_
  refine r_aload_n dX9_places_0 rfl ?_
  refine r_iconst dX9_places_1 ?_
  refine r_putI qX9_81 dX9_places_2 hM.o (kk := ?_)
  refine gm (P := MP Y M σ 0) (mp0 hM) (fun M1 hP => ?_)
  have hM := hP.1
  refine r_aload_n dX9_places_5 rfl ?_
  refine r_getI qX9_53 dX9_places_6 hM.o (x := iz (σ.1 0 : Int)) (hM.s 0) (kk := ?_)
  exact r_iret dX9_places_9 (mr_of hP rfl (fun _ => rfl))
theorem m_streets (hM : RM M Y σ) : Ht G iX9_streets yX9_streets 10 [.ref (Y 0)] M (MR Y M (σ, 0, σ.1 1)) nX 0 0 := by
  refine ht_intro (by decide +kernel) rfl rfl rfl (Nat.le_of_ble_eq_true rfl) ?_
  refine r_aload_n dX9_streets_0 rfl ?_
  refine r_iconst dX9_streets_1 ?_
  refine r_putI qX9_81 dX9_streets_2 hM.o (kk := ?_)
  refine gm (P := MP Y M σ 0) (mp0 hM) (fun M1 hP => ?_)
  have hM := hP.1
  refine r_aload_n dX9_streets_5 rfl ?_
  refine r_getI qX9_84 dX9_streets_6 hM.o (x := iz (σ.1 1 : Int)) (hM.s 1) (kk := ?_)
  exact r_iret dX9_streets_9 (mr_of hP rfl (fun _ => rfl))
theorem m_houses (hM : RM M Y σ) : Ht G iX9_houses yX9_houses 10 [.ref (Y 0)] M (MR Y M (σ, 0, σ.1 2)) nX 0 0 := by
  refine ht_intro (by decide +kernel) rfl rfl rfl (Nat.le_of_ble_eq_true rfl) ?_
  refine r_aload_n dX9_houses_0 rfl ?_
  refine r_iconst dX9_houses_1 ?_
  refine r_putI qX9_81 dX9_houses_2 hM.o (kk := ?_)
  refine gm (P := MP Y M σ 0) (mp0 hM) (fun M1 hP => ?_)
  have hM := hP.1
  refine r_aload_n dX9_houses_5 rfl ?_
  refine r_getI qX9_91 dX9_houses_6 hM.o (x := iz (σ.1 2 : Int)) (hM.s 2) (kk := ?_)
  exact r_iret dX9_houses_9 (mr_of hP rfl (fun _ => rfl))
theorem m_vanClock (hM : RM M Y σ) : Ht G iX9_vanClock yX9_vanClock 10 [.ref (Y 0)] M (MR Y M (σ, 0, σ.1 6)) nX 0 0 := by
  refine ht_intro (by decide +kernel) rfl rfl rfl (Nat.le_of_ble_eq_true rfl) ?_
  refine r_aload_n dX9_vanClock_0 rfl ?_
  refine r_iconst dX9_vanClock_1 ?_
  refine r_putI qX9_81 dX9_vanClock_2 hM.o (kk := ?_)
  refine gm (P := MP Y M σ 0) (mp0 hM) (fun M1 hP => ?_)
  have hM := hP.1
  refine r_aload_n dX9_vanClock_5 rfl ?_
  refine r_getI qX9_126 dX9_vanClock_6 hM.o (x := iz (σ.1 6 : Int)) (hM.s 6) (kk := ?_)
  exact r_iret dX9_vanClock_9 (mr_of hP rfl (fun _ => rfl))
theorem m_late (hM : RM M Y σ) : Ht G iX9_late yX9_late 10 [.ref (Y 0)] M (MR Y M (σ, 0, σ.1 7)) nX 0 0 := by
  refine ht_intro (by decide +kernel) rfl rfl rfl (Nat.le_of_ble_eq_true rfl) ?_
  refine r_aload_n dX9_late_0 rfl ?_
  refine r_iconst dX9_late_1 ?_
  refine r_putI qX9_81 dX9_late_2 hM.o (kk := ?_)
  refine gm (P := MP Y M σ 0) (mp0 hM) (fun M1 hP => ?_)
  have hM := hP.1
  refine r_aload_n dX9_late_5 rfl ?_
  refine r_getI qX9_243 dX9_late_6 hM.o (x := iz (σ.1 7 : Int)) (hM.s 7) (kk := ?_)
  exact r_iret dX9_late_9 (mr_of hP rfl (fun _ => rfl))
theorem m_walked (hM : RM M Y σ) : Ht G iX9_walked yX9_walked 10 [.ref (Y 0)] M (rJ fun r M' => MP Y M σ 0 M' ∧ r = lN (σ.1 9)) nX 0 0 := by
  refine ht_intro (by decide +kernel) rfl rfl rfl (Nat.le_of_ble_eq_true rfl) ?_
  refine r_aload_n dX9_walked_0 rfl ?_
  refine r_iconst dX9_walked_1 ?_
  refine r_putI qX9_81 dX9_walked_2 hM.o (kk := ?_)
  refine gm (P := MP Y M σ 0) (mp0 hM) (fun M1 hP => ?_)
  have hM := hP.1
  refine r_aload_n dX9_walked_5 rfl ?_
  refine r_getJ qX9_214 dX9_walked_6 hM.o hM.j (kk := ?_)
  exact r_lret dX9_walked_9 (⟨_, rfl, hP, rfl⟩)
theorem m_roundOf (hM : RM M Y σ) (hO : Ok σ T) (s : Int) (ha : inR s) : Ht G iX9_roundOf yX9_roundOf 10 [.ref (Y 0), .int (iz s)] M (MR Y M (opRoundOf σ s)) nX 0 0 := by
  obtain ⟨⟨p1, p2, p3, p4, p5, -⟩, hS, -⟩ := hO
  refine ht_intro (by decide +kernel) rfl rfl rfl (Nat.le_of_ble_eq_true rfl) ?_
  refine r_aload_n dX9_roundOf_0 rfl ?_
  refine r_iconst dX9_roundOf_1 ?_
  refine r_putI qX9_81 dX9_roundOf_2 hM.o (kk := ?_)
  refine gm (P := MP Y M σ 0) (mp0 hM) (fun M1 hP => ?_)
  have hM := hP.1
  refine r_aload_n dX9_roundOf_5 rfl ?_
  refine r_iload_n dX9_roundOf_6 rfl ?_
  refine r_callV (mi := iX9_roundOf) vX9_108 dX9_roundOf_7 hM.o (m_isStreet hM (by omega) s ha) (hm := ⟨by omega, by omega⟩) (k := kP ?_) (kx := r_nox)
  refine r_dif_eq (tgt := 22) dX9_roundOf_10 (by decide) (kt := fun z10 => ?_) (kf := fun z10 => ?_)
  · refine r_aload_n dX9_roundOf_22 rfl ?_
    refine r_iconst dX9_roundOf_23 ?_
    refine r_callV (mi := iX9_roundOf) vX9_100 dX9_roundOf_24 hM.o (m_fails hM.o 1) (hm := ⟨by omega, by omega⟩) (k := kP ?_) (kx := r_nox)
    first
     | exact r_iret dX9_roundOf_27 (mr_of hP (by unfold opRoundOf; repeat (first | rw [if_pos (by omega)] | rw [if_neg (by omega)]); try rfl) (fun _ => rfl))
     | exact r_iret dX9_roundOf_27 (mr_of (mpf hP 1) (by unfold opRoundOf; repeat (first | rw [if_pos (by omega)] | rw [if_neg (by omega)])) (fun h => absurd h (by decide)))
  · obtain ⟨s, rfl⟩ := nat_of (a := s) (by omega)
    have hs : s < σ.1 1 := by omega
    refine r_aload_n dX9_roundOf_13 rfl ?_
    refine r_getR qX9_19 dX9_roundOf_14 hM.o (hM.r 4) (kk := ?_)
    refine r_iload_n dX9_roundOf_17 rfl ?_
    refine r_iald dX9_roundOf_18 (hM.cc 4 11 16) rfl (hM.v4 _ (hs)) (k := ?_)
    refine r_goto (tgt := 27) dX9_roundOf_19 (by decide) ?_
    first
     | exact r_iret dX9_roundOf_27 (mr_of hP (by unfold opRoundOf; repeat (first | rw [if_pos (by omega)] | rw [if_neg (by omega)]); try rfl) (fun _ => rfl))
     | exact r_iret dX9_roundOf_27 (mr_of (mpf hP 1) (by unfold opRoundOf; repeat (first | rw [if_pos (by omega)] | rw [if_neg (by omega)])) (fun h => absurd h (by decide)))
theorem m_lettersOf (hM : RM M Y σ) (hO : Ok σ T) (h : Int) (ha : inR h) : Ht G iX9_lettersOf yX9_lettersOf 10 [.ref (Y 0), .int (iz h)] M (MR Y M (opLettersOf σ h)) nX 0 0 := by
  obtain ⟨⟨p1, p2, p3, p4, p5, -⟩, hS, -⟩ := id hO
  refine ht_intro (by decide +kernel) rfl rfl rfl (Nat.le_of_ble_eq_true rfl) ?_
  refine r_aload_n dX9_lettersOf_0 rfl ?_
  refine r_iconst dX9_lettersOf_1 ?_
  refine r_putI qX9_81 dX9_lettersOf_2 hM.o (kk := ?_)
  refine gm (P := MP Y M σ 0) (mp0 hM) (fun M1 hP => ?_)
  have hM := hP.1
  refine r_aload_n dX9_lettersOf_5 rfl ?_
  refine r_iload_n dX9_lettersOf_6 rfl ?_
  refine r_callV (mi := iX9_lettersOf) vX9_114 dX9_lettersOf_7 hM.o (m_isHouse hM (by omega) h ha) (hm := ⟨by omega, by omega⟩) (k := kP ?_) (kx := r_nox)
  refine r_dif_eq (tgt := 22) dX9_lettersOf_10 (by decide) (kt := fun z10 => ?_) (kf := fun z10 => ?_)
  · refine r_aload_n dX9_lettersOf_22 rfl ?_
    refine r_iconst dX9_lettersOf_23 ?_
    refine r_callV (mi := iX9_lettersOf) vX9_100 dX9_lettersOf_24 hM.o (m_fails hM.o 1) (hm := ⟨by omega, by omega⟩) (k := kP ?_) (kx := r_nox)
    first
     | exact r_iret dX9_lettersOf_27 (mr_of hP (by unfold opLettersOf; repeat (first | rw [if_pos (by omega)] | rw [if_neg (by omega)]); try rfl) (fun _ => rfl))
     | exact r_iret dX9_lettersOf_27 (mr_of (mpf hP 1) (by unfold opLettersOf; repeat (first | rw [if_pos (by omega)] | rw [if_neg (by omega)])) (fun h => absurd h (by decide)))
  · obtain ⟨h, rfl⟩ := nat_of (a := h) (by omega)
    have hh : h < σ.1 2 := by omega
    refine r_aload_n dX9_lettersOf_13 rfl ?_
    refine r_getR qX9_31 dX9_lettersOf_14 hM.o (hM.r 8) (kk := ?_)
    refine r_iload_n dX9_lettersOf_17 rfl ?_
    refine r_iald dX9_lettersOf_18 (hM.cc 8 11 30) rfl (hM.v 8 _ (hO.h8 hh)) (k := ?_)
    refine r_goto (tgt := 27) dX9_lettersOf_19 (by decide) ?_
    first
     | exact r_iret dX9_lettersOf_27 (mr_of hP (by unfold opLettersOf; repeat (first | rw [if_pos (by omega)] | rw [if_neg (by omega)]); try rfl) (fun _ => rfl))
     | exact r_iret dX9_lettersOf_27 (mr_of (mpf hP 1) (by unfold opLettersOf; repeat (first | rw [if_pos (by omega)] | rw [if_neg (by omega)])) (fun h => absurd h (by decide)))
theorem m_isDue (hM : RM M Y σ) (hO : Ok σ T) (h : Int) (ha : inR h) : Ht G iX9_isDue yX9_isDue 10 [.ref (Y 0), .int (iz h)] M (MR Y M (opIsDue σ h)) nX 0 0 := by
  obtain ⟨⟨p1, p2, p3, p4, p5, -⟩, hS, -⟩ := id hO
  refine ht_intro (by decide +kernel) rfl rfl rfl (Nat.le_of_ble_eq_true rfl) ?_
  refine r_aload_n dX9_isDue_0 rfl ?_
  refine r_iconst dX9_isDue_1 ?_
  refine r_putI qX9_81 dX9_isDue_2 hM.o (kk := ?_)
  refine gm (P := MP Y M σ 0) (mp0 hM) (fun M1 hP => ?_)
  have hM := hP.1
  refine r_aload_n dX9_isDue_5 rfl ?_
  refine r_iload_n dX9_isDue_6 rfl ?_
  refine r_callV (mi := iX9_isDue) vX9_114 dX9_isDue_7 hM.o (m_isHouse hM (by omega) h ha) (hm := ⟨by omega, by omega⟩) (k := kP ?_) (kx := r_nox)
  refine r_dif_eq (tgt := 21) dX9_isDue_10 (by decide) (kt := fun z10 => ?_) (kf := fun z10 => ?_)
  · refine r_aload_n dX9_isDue_21 rfl ?_
    refine r_iconst dX9_isDue_22 ?_
    refine r_callV (mi := iX9_isDue) vX9_100 dX9_isDue_23 hM.o (m_fails hM.o 1) (hm := ⟨by omega, by omega⟩) (k := kP ?_) (kx := r_nox)
    refine r_if_le (tgt := 33) dX9_isDue_26 (by decide) (kt := fun z26 => ?_) (kf := fun z26 => (by exfalso; first | omega | simp_all))
    refine r_iconst dX9_isDue_33 ?_
    first
     | exact r_zret dX9_isDue_34 (mr_of hP (by unfold opIsDue; repeat (first | rw [if_pos (by omega)] | rw [if_neg (by omega)]); try rfl) (fun _ => rfl))
     | exact r_zret (x := false) dX9_isDue_34 (mr_of (mpf hP 1) (by unfold opIsDue; repeat (first | rw [if_pos (by omega)] | rw [if_neg (by omega)])) (fun h => absurd h (by decide)))
  · obtain ⟨h, rfl⟩ := nat_of (a := h) (by omega)
    have hh : h < σ.1 2 := by omega
    refine r_aload_n dX9_isDue_13 rfl ?_
    refine r_iload_n dX9_isDue_14 rfl ?_
    refine r_callV (mi := iX9_isDue) vX9_123 dX9_isDue_15 hM.o (m_isDueNow hM hO h hh) (hm := ⟨by omega, by omega⟩) (k := kP ?_) (kx := r_nox)
    refine r_goto (tgt := 34) dX9_isDue_18 (by decide) ?_
    first
     | exact r_zret dX9_isDue_34 (mr_of hP (by unfold opIsDue; repeat (first | rw [if_pos (by omega)] | rw [if_neg (by omega)]); try rfl) (fun _ => rfl))
     | exact r_zret (x := false) dX9_isDue_34 (mr_of (mpf hP 1) (by unfold opIsDue; repeat (first | rw [if_pos (by omega)] | rw [if_neg (by omega)])) (fun h => absurd h (by decide)))
theorem m_isAt (hM : RM M Y σ) (hO : Ok σ T) (h g : Nat) (hh : h < σ.1 2) (hg : g < 16) : Ht G iX9_isAt yX9_isAt 2 [.ref (Y 0), .int (iz (h : Int)), .int (iz (g : Int))] M (rP (bz (inG σ (σ.2 5 h) g)) M) nX 0 0 := by
  obtain ⟨⟨p1, p2, p3, p4, p5, -⟩, hS, hH, -⟩ := id hO
  obtain ⟨h1, h2, h3, h4⟩ := hH h hh
  obtain ⟨s1, s2, s3, s4, s5, s6, s7⟩ := hS (σ.2 5 h) h1
  refine ht_intro (by decide +kernel) rfl rfl rfl (Nat.le_of_ble_eq_true rfl) ?_
  refine r_aload_n dX9_isAt_0 rfl ?_
  refine r_getR qX9_19 dX9_isAt_1 hM.o (hM.r 4) (kk := ?_)
  refine r_aload_n dX9_isAt_4 rfl ?_
  refine r_getR qX9_22 dX9_isAt_5 hM.o (hM.r 5) (kk := ?_)
  refine r_iload_n dX9_isAt_8 rfl ?_
  refine r_iald dX9_isAt_9 (hM.cc 5 11 30) rfl (hM.v 5 _ (hh)) (k := ?_)
  refine r_iald dX9_isAt_10 (hM.cc 4 11 16) rfl (hM.v4 _ (h1)) (k := ?_)
  refine r_if_lt (tgt := 37) dX9_isAt_11 (by decide) (kt := fun z11 => ?_) (kf := fun z11 => ?_)
  · refine r_iconst dX9_isAt_37 ?_
    exact r_iret dX9_isAt_38 (rP_of (by first | exact bz_T (by unfold inG; rw [z30, bne_iff_ne.mpr (by omega)]; rfl) | exact bz_F (by unfold inG; rw [z30]; exact Bool.and_false _) | exact bz_F (by unfold inG; rw [show σ.2 4 (σ.2 5 h) = 0 by omega]; rfl)))
  · refine r_iload_n dX9_isAt_14 rfl ?_
    refine r_aload_n dX9_isAt_15 rfl ?_
    refine r_getR qX9_19 dX9_isAt_16 hM.o (hM.r 4) (kk := ?_)
    refine r_aload_n dX9_isAt_19 rfl ?_
    refine r_getR qX9_22 dX9_isAt_20 hM.o (hM.r 5) (kk := ?_)
    refine r_iload_n dX9_isAt_23 rfl ?_
    refine r_iald dX9_isAt_24 (hM.cc 5 11 30) rfl (hM.v 5 _ (hh)) (k := ?_)
    refine r_iald dX9_isAt_25 (hM.cc 4 11 16) rfl (hM.v4 _ (h1)) (k := ?_)
    refine r_ishr dX9_isAt_26 (rfl) ?_
    refine r_iconst dX9_isAt_27 ?_
    refine r_iand dX9_isAt_28 (bt_sh (r := σ.2 4 (σ.2 5 h) - 1) (by omega) (by omega) (by omega)) ?_
    refine r_iconst dX9_isAt_29 ?_
    refine r_b1_ne (tgt := 37) dX9_isAt_30 (by decide) (kt := fun z30 => ?_) (kf := fun z30 => ?_)
    · refine r_iconst dX9_isAt_37 ?_
      exact r_iret dX9_isAt_38 (rP_of (by first | exact bz_T (by unfold inG; rw [z30, bne_iff_ne.mpr (by omega)]; rfl) | exact bz_F (by unfold inG; rw [z30]; exact Bool.and_false _) | exact bz_F (by unfold inG; rw [show σ.2 4 (σ.2 5 h) = 0 by omega]; rfl)))
    · refine r_iconst dX9_isAt_33 ?_
      refine r_goto (tgt := 38) dX9_isAt_34 (by decide) ?_
      exact r_iret dX9_isAt_38 (rP_of (by first | exact bz_T (by unfold inG; rw [z30, bne_iff_ne.mpr (by omega)]; rfl) | exact bz_F (by unfold inG; rw [z30]; exact Bool.and_false _) | exact bz_F (by unfold inG; rw [show σ.2 4 (σ.2 5 h) = 0 by omega]; rfl)))
theorem m_dueAt (hM : RM M Y σ) (hO : Ok σ T) (g : Nat) (hg : g < 16) : Ht G iX9_dueAt yX9_dueAt 7 [.ref (Y 0), .int (iz (g : Int))] M (rP (iz (dueN σ g : Int)) M) nX 0 0 := by
  obtain ⟨⟨p1, p2, p3, p4, p5, -⟩, hS, hH, -⟩ := id hO
  refine ht_intro (by decide +kernel) rfl rfl rfl (Nat.le_of_ble_eq_true rfl) ?_
  have loop : ∀ k i : Nat, i + k = σ.1 2 → SWG G iX9_dueAt (rmd 7 0 0) (QF G (rP (iz (dueN σ g : Int)) M) nX 0 0) 4 [(3, .int (iz (i : Int))), (2, .int (iz (cnt (dueB σ g) i : Int))), (0, .ref (Y 0)), (1, .int (iz (g : Int)))] [] M 0 0 := by
    intro k
    induction k with
    | zero =>
      intro i hi
      have hi2 : i = σ.1 2 := by omega
      subst hi2
      refine r_iload_n dX9_dueAt_4 rfl ?_
      refine r_aload_n dX9_dueAt_5 rfl ?_
      refine r_getI qX9_91 dX9_dueAt_6 hM.o (x := iz (σ.1 2 : Int)) (hM.s 2) (kk := ?_)
      refine r_icmp_ge (tgt := 43) dX9_dueAt_9 (by decide) (kt := fun z9 => ?_) (kf := fun z9 => (by exfalso; first | omega | simp_all))
      refine r_iload_n dX9_dueAt_43 rfl ?_
      exact r_iret dX9_dueAt_44 (rP_mk _ _)
    | succ k ih =>
      intro i hi
      refine r_iload_n dX9_dueAt_4 rfl ?_
      refine r_aload_n dX9_dueAt_5 rfl ?_
      refine r_getI qX9_91 dX9_dueAt_6 hM.o (x := iz (σ.1 2 : Int)) (hM.s 2) (kk := ?_)
      refine r_icmp_ge (tgt := 43) dX9_dueAt_9 (by decide) (kt := fun z9 => (by exfalso; first | omega | simp_all)) (kf := fun z9 => ?_)
      refine r_iload_n dX9_dueAt_12 rfl ?_
      refine r_aload_n dX9_dueAt_13 rfl ?_
      refine r_iload_n dX9_dueAt_14 rfl ?_
      refine r_iload_n dX9_dueAt_15 rfl ?_
      refine r_callV (mi := iX9_dueAt) vX9_129 dX9_dueAt_16 hM.o (m_isAt hM hO i g (by omega) hg) (hm := ⟨by omega, by omega⟩) (k := kP ?_) (kx := r_nox)
      refine r_bif_eq (tgt := 34) dX9_dueAt_19 (by decide) (kt := fun z19 => ?_) (kf := fun z19 => ?_)
      · refine r_iconst dX9_dueAt_34 ?_
        refine r_iadd dX9_dueAt_35 ?_
        refine r_istore_n dX9_dueAt_36 (k := ?_)
        refine r_iinc dX9_dueAt_37 rfl (k := ?_)
        refine r_goto (tgt := 4) dX9_dueAt_40 (by decide) ?_
        refine r_loc' (ih (i + 1) (by omega)) ⟨rfl, ?_, rfl, rfl, trivial⟩
        first
          | exact lkI (cnt_T (by unfold dueB; rw [z19, z27]; rfl)).symm
          | exact lkI (cnt_F (by unfold dueB; rw [z27]; exact Bool.and_false _)).symm
          | exact lkI (cnt_F (by unfold dueB; rw [z19]; rfl)).symm
      · refine r_aload_n dX9_dueAt_22 rfl ?_
        refine r_iload_n dX9_dueAt_23 rfl ?_
        refine r_callV (mi := iX9_dueAt) vX9_123 dX9_dueAt_24 hM.o (m_isDueNow hM hO i (by omega)) (hm := ⟨by omega, by omega⟩) (k := kP ?_) (kx := r_nox)
        refine r_bif_eq (tgt := 34) dX9_dueAt_27 (by decide) (kt := fun z27 => ?_) (kf := fun z27 => ?_)
        · refine r_iconst dX9_dueAt_34 ?_
          refine r_iadd dX9_dueAt_35 ?_
          refine r_istore_n dX9_dueAt_36 (k := ?_)
          refine r_iinc dX9_dueAt_37 rfl (k := ?_)
          refine r_goto (tgt := 4) dX9_dueAt_40 (by decide) ?_
          refine r_loc' (ih (i + 1) (by omega)) ⟨rfl, ?_, rfl, rfl, trivial⟩
          first
            | exact lkI (cnt_T (by unfold dueB; rw [z19, z27]; rfl)).symm
            | exact lkI (cnt_F (by unfold dueB; rw [z27]; exact Bool.and_false _)).symm
            | exact lkI (cnt_F (by unfold dueB; rw [z19]; rfl)).symm
        · refine r_iconst dX9_dueAt_30 ?_
          refine r_goto (tgt := 35) dX9_dueAt_31 (by decide) ?_
          refine r_iadd dX9_dueAt_35 ?_
          refine r_istore_n dX9_dueAt_36 (k := ?_)
          refine r_iinc dX9_dueAt_37 rfl (k := ?_)
          refine r_goto (tgt := 4) dX9_dueAt_40 (by decide) ?_
          refine r_loc' (ih (i + 1) (by omega)) ⟨rfl, ?_, rfl, rfl, trivial⟩
          first
            | exact lkI (cnt_T (by unfold dueB; rw [z19, z27]; rfl)).symm
            | exact lkI (cnt_F (by unfold dueB; rw [z27]; exact Bool.and_false _)).symm
            | exact lkI (cnt_F (by unfold dueB; rw [z19]; rfl)).symm
  refine r_iconst dX9_dueAt_0 ?_
  refine r_istore_n dX9_dueAt_1 (k := ?_)
  refine r_iconst dX9_dueAt_2 ?_
  refine r_istore_n dX9_dueAt_3 (k := ?_)
  exact r_loc' (loop (σ.1 2) 0 (by omega)) ⟨rfl, rfl, rfl, rfl, trivial⟩
theorem m_due (hM : RM M Y σ) (hO : Ok σ T) (r : Int) (ha : inR r) : Ht G iX9_due yX9_due 10 [.ref (Y 0), .int (iz r)] M (MR Y M (opDue σ r)) nX 0 0 := by
  obtain ⟨⟨p1, p2, p3, p4, p5, -⟩, hS, -⟩ := id hO
  refine ht_intro (by decide +kernel) rfl rfl rfl (Nat.le_of_ble_eq_true rfl) ?_
  refine r_aload_n dX9_due_0 rfl ?_
  refine r_iconst dX9_due_1 ?_
  refine r_putI qX9_81 dX9_due_2 hM.o (kk := ?_)
  refine gm (P := MP Y M σ 0) (mp0 hM) (fun M1 hP => ?_)
  have hM := hP.1
  refine r_aload_n dX9_due_5 rfl ?_
  refine r_iload_n dX9_due_6 rfl ?_
  refine r_callV (mi := iX9_due) vX9_111 dX9_due_7 hM.o (m_isRound hM (by omega) r ha) (hm := ⟨by omega, by omega⟩) (k := kP ?_) (kx := r_nox)
  refine r_dif_eq (tgt := 23) dX9_due_10 (by decide) (kt := fun z10 => ?_) (kf := fun z10 => ?_)
  · refine r_aload_n dX9_due_23 rfl ?_
    refine r_iconst dX9_due_24 ?_
    refine r_callV (mi := iX9_due) vX9_100 dX9_due_25 hM.o (m_fails hM.o 1) (hm := ⟨by omega, by omega⟩) (k := kP ?_) (kx := r_nox)
    first
     | exact r_iret dX9_due_28 (mr_of hP (by unfold opDue; repeat (first | rw [if_pos (by omega)] | rw [if_neg (by omega)]); try rfl) (fun _ => rfl))
     | exact r_iret dX9_due_28 (mr_of (mpf hP 1) (by unfold opDue; repeat (first | rw [if_pos (by omega)] | rw [if_neg (by omega)])) (fun h => absurd h (by decide)))
  · obtain ⟨r, rfl⟩ := nat_of (a := r) (by omega)
    refine r_aload_n dX9_due_13 rfl ?_
    refine r_iconst dX9_due_14 ?_
    refine r_iload_n dX9_due_15 rfl ?_
    refine r_ishl dX9_due_16 (sl_1 rfl (by omega)) ?_
    refine r_callV (mi := iX9_due) vX9_133 dX9_due_17 hM.o (m_dueAt hM hO (2 ^ r) (two_lt (by omega))) (hm := ⟨by omega, by omega⟩) (k := kP ?_) (kx := r_nox)
    refine r_goto (tgt := 28) dX9_due_20 (by decide) ?_
    first
     | exact r_iret dX9_due_28 (mr_of hP (by unfold opDue; repeat (first | rw [if_pos (by omega)] | rw [if_neg (by omega)]); try rfl) (fun _ => rfl))
     | exact r_iret dX9_due_28 (mr_of (mpf hP 1) (by unfold opDue; repeat (first | rw [if_pos (by omega)] | rw [if_neg (by omega)])) (fun h => absurd h (by decide)))
theorem fnd_none {P : Nat → Bool} {n : Nat} (h : fnd P n = none) (hp : P n = false) : fnd P (n + 1) = none := by
  simp [fnd, h, hp]
theorem fnd_hit {P : Nat → Bool} {i : Nat} (h : fnd P i = none) (hp : P i = true) : ∀ k, fnd P (i + 1 + k) = some i
  | 0 => by simp [fnd, h, hp]
  | k + 1 => by
    show fnd P (i + 1 + k + 1) = _
    simp [fnd, fnd_hit h hp k]
theorem houseAt_in {Qf : List Frame → Array Value → State → State → Prop} (hM : RM M Y σ) (hO : Ok σ T) (s d h : Nat) (r : Value) (hs : σ.2 5 h = s) (hd : σ.2 6 h = d) (hh : h < σ.1 2) (kk : SWG G iX9_houseAt (rmd 10 0 0) Qf 165 [(5, .int (iz (rank σ h : Int))), (4, .int (iz (h : Int))), (0, .ref (Y 0)), (1, .int (iz (s : Int))), (2, .int (iz (d : Int))), (3, r)] [] M 0 0) : ∀ k i : Nat, i + k = σ.1 2 → SWG G iX9_houseAt (rmd 10 0 0) Qf 77 [(6, .int (iz (i : Int))), (5, .int (iz (cnt (rankB σ h) i : Int))), (4, .int (iz (h : Int))), (0, .ref (Y 0)), (1, .int (iz (s : Int))), (2, .int (iz (d : Int))), (3, r)] [] M 0 0 := by
  obtain ⟨⟨-, -, p3, p4, -⟩, hS, hH, -⟩ := id hO
  obtain ⟨h1, h2, h3, h4⟩ := hH h hh
  obtain ⟨-, -, -, -, s5, -, -⟩ := hS (σ.2 5 h) h1
  intro k
  induction k with
  | zero =>
    intro i hi
    have hi2 : i = σ.1 2 := by omega
    subst hi2
    refine r_iload dX9_houseAt_77 rfl ?_
    refine r_aload_n dX9_houseAt_79 rfl ?_
    refine r_getI qX9_91 dX9_houseAt_80 hM.o (x := iz (σ.1 2 : Int)) (hM.s 2) (kk := ?_)
    refine r_icmp_ge (tgt := 165) dX9_houseAt_83 (by decide) (kt := fun z83 => ?_) (kf := fun z83 => (by exfalso; first | omega | simp_all))
    exact r_loc' kk ⟨rfl, rfl, rfl, rfl, rfl, rfl, trivial⟩
  | succ k ih =>
    intro i hi
    have hi3 : i < σ.1 2 := by omega
    obtain ⟨g1, g2, g3, g4⟩ := hH i hi3
    obtain ⟨-, -, -, -, t5, -, -⟩ := hS (σ.2 5 i) g1
    have hc := cnt_le (rankB σ h) i
    have e0 : rankB σ h i = (decide (σ.2 5 i = s) && decide (σ.2 6 i = d) && (decide (σ.2 7 i < σ.2 7 h) || (decide (σ.2 7 i = σ.2 7 h) && decide (i < h)))) := by
      unfold rankB; rw [hs, hd]; rfl
    refine r_iload dX9_houseAt_77 rfl ?_
    refine r_aload_n dX9_houseAt_79 rfl ?_
    refine r_getI qX9_91 dX9_houseAt_80 hM.o (x := iz (σ.1 2 : Int)) (hM.s 2) (kk := ?_)
    refine r_icmp_ge (tgt := 165) dX9_houseAt_83 (by decide) (kt := fun z83 => (by exfalso; first | omega | simp_all)) (kf := fun z83 => ?_)
    refine r_iload dX9_houseAt_86 rfl ?_
    refine r_aload_n dX9_houseAt_88 rfl ?_
    refine r_getR qX9_22 dX9_houseAt_89 hM.o (hM.r 5) (kk := ?_)
    refine r_iload dX9_houseAt_92 rfl ?_
    refine r_iald dX9_houseAt_94 (hM.cc 5 11 30) rfl (hM.v 5 _ (hi3)) (k := ?_)
    refine r_iload_n dX9_houseAt_95 rfl ?_
    refine r_icmp_ne (tgt := 155) dX9_houseAt_96 (by decide) (kt := fun z96 => ?_) (kf := fun z96 => ?_)
    · refine r_iconst dX9_houseAt_155 ?_
      refine r_iadd dX9_houseAt_156 ?_
      refine r_istore dX9_houseAt_157 (k := ?_)
      refine r_iinc dX9_houseAt_159 rfl (k := ?_)
      refine r_goto (tgt := 77) dX9_houseAt_162 (by decide) ?_
      refine r_loc' (ih (i + 1) (by omega)) ⟨rfl, ?_, rfl, rfl, rfl, rfl, rfl, trivial⟩
      clear ih g1 g2 g4 h1 h2 h4 hc hs hd t5 s5 p3 p4
      first
        | exact lkI (cnt_T (by rw [e0]; simp only [Bool.and_eq_true, Bool.or_eq_true, decide_eq_true_eq]; omega)).symm
        | exact lkI (cnt_F (by rw [e0]; rw [Bool.eq_false_iff]; simp only [ne_eq, Bool.and_eq_true, Bool.or_eq_true, decide_eq_true_eq]; omega)).symm
    · refine r_aload_n dX9_houseAt_99 rfl ?_
      refine r_getR qX9_25 dX9_houseAt_100 hM.o (hM.r 6) (kk := ?_)
      refine r_iload dX9_houseAt_103 rfl ?_
      refine r_iald dX9_houseAt_105 (hM.cc 6 11 30) rfl (hM.v 6 _ (hi3)) (k := ?_)
      refine r_iload_n dX9_houseAt_106 rfl ?_
      refine r_icmp_ne (tgt := 155) dX9_houseAt_107 (by decide) (kt := fun z107 => ?_) (kf := fun z107 => ?_)
      · refine r_iconst dX9_houseAt_155 ?_
        refine r_iadd dX9_houseAt_156 ?_
        refine r_istore dX9_houseAt_157 (k := ?_)
        refine r_iinc dX9_houseAt_159 rfl (k := ?_)
        refine r_goto (tgt := 77) dX9_houseAt_162 (by decide) ?_
        refine r_loc' (ih (i + 1) (by omega)) ⟨rfl, ?_, rfl, rfl, rfl, rfl, rfl, trivial⟩
        clear ih g1 g2 g4 h1 h2 h4 hc hs hd t5 s5 p3 p4
        first
          | exact lkI (cnt_T (by rw [e0]; simp only [Bool.and_eq_true, Bool.or_eq_true, decide_eq_true_eq]; omega)).symm
          | exact lkI (cnt_F (by rw [e0]; rw [Bool.eq_false_iff]; simp only [ne_eq, Bool.and_eq_true, Bool.or_eq_true, decide_eq_true_eq]; omega)).symm
      · refine r_aload_n dX9_houseAt_110 rfl ?_
        refine r_getR qX9_28 dX9_houseAt_111 hM.o (hM.r 7) (kk := ?_)
        refine r_iload dX9_houseAt_114 rfl ?_
        refine r_iald dX9_houseAt_116 (hM.cc 7 11 30) rfl (hM.v 7 _ (hi3)) (k := ?_)
        refine r_aload_n dX9_houseAt_117 rfl ?_
        refine r_getR qX9_28 dX9_houseAt_118 hM.o (hM.r 7) (kk := ?_)
        refine r_iload dX9_houseAt_121 rfl ?_
        refine r_iald dX9_houseAt_123 (hM.cc 7 11 30) rfl (hM.v 7 _ (hh)) (k := ?_)
        refine r_icmp_lt (tgt := 151) dX9_houseAt_124 (by decide) (kt := fun z124 => ?_) (kf := fun z124 => ?_)
        · refine r_iconst dX9_houseAt_151 ?_
          refine r_goto (tgt := 156) dX9_houseAt_152 (by decide) ?_
          refine r_iadd dX9_houseAt_156 ?_
          refine r_istore dX9_houseAt_157 (k := ?_)
          refine r_iinc dX9_houseAt_159 rfl (k := ?_)
          refine r_goto (tgt := 77) dX9_houseAt_162 (by decide) ?_
          refine r_loc' (ih (i + 1) (by omega)) ⟨rfl, ?_, rfl, rfl, rfl, rfl, rfl, trivial⟩
          clear ih g1 g2 g4 h1 h2 h4 hc hs hd t5 s5 p3 p4
          first
            | exact lkI (cnt_T (by rw [e0]; simp only [Bool.and_eq_true, Bool.or_eq_true, decide_eq_true_eq]; omega)).symm
            | exact lkI (cnt_F (by rw [e0]; rw [Bool.eq_false_iff]; simp only [ne_eq, Bool.and_eq_true, Bool.or_eq_true, decide_eq_true_eq]; omega)).symm
        · refine r_aload_n dX9_houseAt_127 rfl ?_
          refine r_getR qX9_28 dX9_houseAt_128 hM.o (hM.r 7) (kk := ?_)
          refine r_iload dX9_houseAt_131 rfl ?_
          refine r_iald dX9_houseAt_133 (hM.cc 7 11 30) rfl (hM.v 7 _ (hi3)) (k := ?_)
          refine r_aload_n dX9_houseAt_134 rfl ?_
          refine r_getR qX9_28 dX9_houseAt_135 hM.o (hM.r 7) (kk := ?_)
          refine r_iload dX9_houseAt_138 rfl ?_
          refine r_iald dX9_houseAt_140 (hM.cc 7 11 30) rfl (hM.v 7 _ (hh)) (k := ?_)
          refine r_icmp_ne (tgt := 155) dX9_houseAt_141 (by decide) (kt := fun z141 => ?_) (kf := fun z141 => ?_)
          · refine r_iconst dX9_houseAt_155 ?_
            refine r_iadd dX9_houseAt_156 ?_
            refine r_istore dX9_houseAt_157 (k := ?_)
            refine r_iinc dX9_houseAt_159 rfl (k := ?_)
            refine r_goto (tgt := 77) dX9_houseAt_162 (by decide) ?_
            refine r_loc' (ih (i + 1) (by omega)) ⟨rfl, ?_, rfl, rfl, rfl, rfl, rfl, trivial⟩
            clear ih g1 g2 g4 h1 h2 h4 hc hs hd t5 s5 p3 p4
            first
              | exact lkI (cnt_T (by rw [e0]; simp only [Bool.and_eq_true, Bool.or_eq_true, decide_eq_true_eq]; omega)).symm
              | exact lkI (cnt_F (by rw [e0]; rw [Bool.eq_false_iff]; simp only [ne_eq, Bool.and_eq_true, Bool.or_eq_true, decide_eq_true_eq]; omega)).symm
          · refine r_iload dX9_houseAt_144 rfl ?_
            refine r_iload dX9_houseAt_146 rfl ?_
            refine r_icmp_ge (tgt := 155) dX9_houseAt_148 (by decide) (kt := fun z148 => ?_) (kf := fun z148 => ?_)
            · refine r_iconst dX9_houseAt_155 ?_
              refine r_iadd dX9_houseAt_156 ?_
              refine r_istore dX9_houseAt_157 (k := ?_)
              refine r_iinc dX9_houseAt_159 rfl (k := ?_)
              refine r_goto (tgt := 77) dX9_houseAt_162 (by decide) ?_
              refine r_loc' (ih (i + 1) (by omega)) ⟨rfl, ?_, rfl, rfl, rfl, rfl, rfl, trivial⟩
              clear ih g1 g2 g4 h1 h2 h4 hc hs hd t5 s5 p3 p4
              first
                | exact lkI (cnt_T (by rw [e0]; simp only [Bool.and_eq_true, Bool.or_eq_true, decide_eq_true_eq]; omega)).symm
                | exact lkI (cnt_F (by rw [e0]; rw [Bool.eq_false_iff]; simp only [ne_eq, Bool.and_eq_true, Bool.or_eq_true, decide_eq_true_eq]; omega)).symm
            · refine r_iconst dX9_houseAt_151 ?_
              refine r_goto (tgt := 156) dX9_houseAt_152 (by decide) ?_
              refine r_iadd dX9_houseAt_156 ?_
              refine r_istore dX9_houseAt_157 (k := ?_)
              refine r_iinc dX9_houseAt_159 rfl (k := ?_)
              refine r_goto (tgt := 77) dX9_houseAt_162 (by decide) ?_
              refine r_loc' (ih (i + 1) (by omega)) ⟨rfl, ?_, rfl, rfl, rfl, rfl, rfl, trivial⟩
              clear ih g1 g2 g4 h1 h2 h4 hc hs hd t5 s5 p3 p4
              first
                | exact lkI (cnt_T (by rw [e0]; simp only [Bool.and_eq_true, Bool.or_eq_true, decide_eq_true_eq]; omega)).symm
                | exact lkI (cnt_F (by rw [e0]; rw [Bool.eq_false_iff]; simp only [ne_eq, Bool.and_eq_true, Bool.or_eq_true, decide_eq_true_eq]; omega)).symm
theorem houseAt_loop {M1 : Mem} (hP : MP Y M σ 0 M1) (hO : Ok σ T) (s d : Nat) (r : Int) (hr : inR r) (hs : s < σ.1 1) (hd : d ≤ 1) : ∀ k i : Nat, i + k = σ.1 2 → fnd (atB σ s d r) i = none → SWG G iX9_houseAt (rmd 10 0 0) (QF G (MR Y M (opHouseAt σ s d r)) nX 0 0) 37 [(4, .int (iz (i : Int))), (0, .ref (Y 0)), (1, .int (iz (s : Int))), (2, .int (iz (d : Int))), (3, .int (iz r))] [] M1 0 0 := by
  obtain ⟨⟨p1, p2, p3, p4, p5, -⟩, hS, hH, -⟩ := id hO
  have hM := hP.1
  intro k
  induction k with
  | zero =>
    intro i hi hf
    have hi2 : i = σ.1 2 := by omega
    subst hi2
    refine r_iload dX9_houseAt_37 rfl ?_
    refine r_aload_n dX9_houseAt_39 rfl ?_
    refine r_getI qX9_91 dX9_houseAt_40 hM.o (x := iz (σ.1 2 : Int)) (hM.s 2) (kk := ?_)
    refine r_icmp_ge (tgt := 180) dX9_houseAt_43 (by decide) (kt := fun z43 => ?_) (kf := fun z43 => (by exfalso; first | omega | simp_all))
    refine r_aload_n dX9_houseAt_180 rfl ?_
    refine r_iconst dX9_houseAt_181 ?_
    refine r_callV (mi := iX9_houseAt) vX9_100 dX9_houseAt_182 hM.o (m_fails hM.o 3) (hm := ⟨by omega, by omega⟩) (k := kP ?_) (kx := r_nox)
    exact r_iret dX9_houseAt_185 (mr_of (mpf hP 3) (by unfold opHouseAt; rw [if_neg (by omega), if_neg (by omega), hf]) (fun h => absurd h (by decide)))
  | succ k ih =>
    intro i hi hf
    have hi3 : i < σ.1 2 := by omega
    obtain ⟨h1, h2, h3, h4⟩ := hH i hi3
    obtain ⟨s1, s2, s3, s4, s5, s6, s7⟩ := hS (σ.2 5 i) h1
    have hc := cnt_le (rankB σ i) (σ.1 2)
    have hc2 : rank σ i = cnt (rankB σ i) (σ.1 2) := rfl
    refine r_iload dX9_houseAt_37 rfl ?_
    refine r_aload_n dX9_houseAt_39 rfl ?_
    refine r_getI qX9_91 dX9_houseAt_40 hM.o (x := iz (σ.1 2 : Int)) (hM.s 2) (kk := ?_)
    refine r_icmp_ge (tgt := 180) dX9_houseAt_43 (by decide) (kt := fun z43 => (by exfalso; first | omega | simp_all)) (kf := fun z43 => ?_)
    refine r_aload_n dX9_houseAt_46 rfl ?_
    refine r_getR qX9_22 dX9_houseAt_47 hM.o (hM.r 5) (kk := ?_)
    refine r_iload dX9_houseAt_50 rfl ?_
    refine r_iald dX9_houseAt_52 (hM.cc 5 11 30) rfl (hM.v 5 _ (hi3)) (k := ?_)
    refine r_iload_n dX9_houseAt_53 rfl ?_
    refine r_icmp_ne (tgt := 174) dX9_houseAt_54 (by decide) (kt := fun z54 => ?_) (kf := fun z54 => ?_)
    · refine r_iinc dX9_houseAt_174 rfl (k := ?_)
      refine r_goto (tgt := 37) dX9_houseAt_177 (by decide) ?_
      exact r_loc' (ih (i + 1) (by omega) (fnd_none hf (by unfold atB; simp only [Bool.and_eq_false_iff, decide_eq_false_iff_not]; omega))) ⟨rfl, rfl, rfl, rfl, rfl, trivial⟩
    · refine r_aload_n dX9_houseAt_57 rfl ?_
      refine r_getR qX9_25 dX9_houseAt_58 hM.o (hM.r 6) (kk := ?_)
      refine r_iload dX9_houseAt_61 rfl ?_
      refine r_iald dX9_houseAt_63 (hM.cc 6 11 30) rfl (hM.v 6 _ (hi3)) (k := ?_)
      refine r_iload_n dX9_houseAt_64 rfl ?_
      refine r_icmp_eq (tgt := 71) dX9_houseAt_65 (by decide) (kt := fun z65 => ?_) (kf := fun z65 => ?_)
      · refine r_iconst dX9_houseAt_71 ?_
        refine r_istore dX9_houseAt_72 (k := ?_)
        refine r_iconst dX9_houseAt_74 ?_
        refine r_istore dX9_houseAt_75 (k := ?_)
        refine r_loc' (houseAt_in hM hO s d i (.int (iz r)) (by omega) (by omega) hi3 ?_ (σ.1 2) 0 (by omega)) ⟨rfl, rfl, rfl, rfl, rfl, rfl, rfl, trivial⟩
        refine r_iload dX9_houseAt_165 rfl ?_
        refine r_iload_n dX9_houseAt_167 rfl ?_
        refine r_icmp_ne (tgt := 174) dX9_houseAt_168 (by decide) (kt := fun z168 => ?_) (kf := fun z168 => ?_)
        · refine r_iinc dX9_houseAt_174 rfl (k := ?_)
          refine r_goto (tgt := 37) dX9_houseAt_177 (by decide) ?_
          exact r_loc' (ih (i + 1) (by omega) (fnd_none hf (by unfold atB; simp only [Bool.and_eq_false_iff, decide_eq_false_iff_not]; omega))) ⟨rfl, rfl, rfl, rfl, rfl, trivial⟩
        · refine r_iload dX9_houseAt_171 rfl ?_
          exact r_iret dX9_houseAt_173 (mr_of hP (by unfold opHouseAt; rw [if_neg (by omega), if_neg (by omega), show σ.1 2 = i + 1 + k by omega, fnd_hit hf (by unfold atB; simp only [Bool.and_eq_true, decide_eq_true_eq]; omega) k]) (fun _ => rfl))
      · refine r_goto (tgt := 174) dX9_houseAt_68 (by decide) ?_
        refine r_iinc dX9_houseAt_174 rfl (k := ?_)
        refine r_goto (tgt := 37) dX9_houseAt_177 (by decide) ?_
        exact r_loc' (ih (i + 1) (by omega) (fnd_none hf (by unfold atB; simp only [Bool.and_eq_false_iff, decide_eq_false_iff_not]; omega))) ⟨rfl, rfl, rfl, rfl, rfl, trivial⟩
theorem m_houseAt (hM : RM M Y σ) (hO : Ok σ T) (s d r : Int) (ha : inR s) (hb : inR d) (hl : inR r) : Ht G iX9_houseAt yX9_houseAt 10 [.ref (Y 0), .int (iz s), .int (iz d), .int (iz r)] M (MR Y M (opHouseAt σ s d r)) nX 0 0 := by
  obtain ⟨⟨p1, p2, p3, p4, p5, -⟩, hS, hH, -⟩ := id hO
  refine ht_intro (by decide +kernel) rfl rfl rfl (Nat.le_of_ble_eq_true rfl) ?_
  refine r_aload_n dX9_houseAt_0 rfl ?_
  refine r_iconst dX9_houseAt_1 ?_
  refine r_putI qX9_81 dX9_houseAt_2 hM.o (kk := ?_)
  refine gm (P := MP Y M σ 0) (mp0 hM) (fun M1 hP => ?_)
  have hM := hP.1
  refine r_aload_n dX9_houseAt_5 rfl ?_
  refine r_iload_n dX9_houseAt_6 rfl ?_
  refine r_callV (mi := iX9_houseAt) vX9_108 dX9_houseAt_7 hM.o (m_isStreet hM (by omega) s ha) (hm := ⟨by omega, by omega⟩) (k := kP ?_) (kx := r_nox)
  refine r_dif_ne (tgt := 19) dX9_houseAt_10 (by decide) (kt := fun z10 => ?_) (kf := fun z10 => ?_)
  · refine r_iload_n dX9_houseAt_19 rfl ?_
    refine r_iconst dX9_houseAt_20 ?_
    refine r_iconst dX9_houseAt_21 ?_
    refine r_callS (mi := iX9_houseAt) vX9_87 dX9_houseAt_22 (m_isBetween d 0 1 hb (by omega) (by omega)) (hm := ⟨by omega, by omega⟩) (k := kP ?_) (kx := r_nox)
    refine r_dif_ne (tgt := 34) dX9_houseAt_25 (by decide) (kt := fun z25 => ?_) (kf := fun z25 => ?_)
    · obtain ⟨s, rfl⟩ := nat_of (a := s) (by omega)
      obtain ⟨d, rfl⟩ := nat_of (a := d) (by omega)
      refine r_iconst dX9_houseAt_34 ?_
      refine r_istore dX9_houseAt_35 (k := ?_)
      exact r_loc' (houseAt_loop hP hO s d r hl (by omega) (by omega) (σ.1 2) 0 (by omega) rfl) ⟨rfl, rfl, rfl, rfl, rfl, trivial⟩
    · refine r_aload_n dX9_houseAt_28 rfl ?_
      refine r_iconst dX9_houseAt_29 ?_
      refine r_callV (mi := iX9_houseAt) vX9_100 dX9_houseAt_30 hM.o (m_fails hM.o 2) (hm := ⟨by omega, by omega⟩) (k := kP ?_) (kx := r_nox)
      exact r_iret dX9_houseAt_33 (mr_of (mpf hP 2) (by unfold opHouseAt; repeat (first | rw [if_pos (by omega)] | rw [if_neg (by omega)])) (fun h => absurd h (by decide)))
  · refine r_aload_n dX9_houseAt_13 rfl ?_
    refine r_iconst dX9_houseAt_14 ?_
    refine r_callV (mi := iX9_houseAt) vX9_100 dX9_houseAt_15 hM.o (m_fails hM.o 1) (hm := ⟨by omega, by omega⟩) (k := kP ?_) (kx := r_nox)
    exact r_iret dX9_houseAt_18 (mr_of (mpf hP 1) (by unfold opHouseAt; repeat (first | rw [if_pos (by omega)] | rw [if_neg (by omega)])) (fun h => absurd h (by decide)))
end MD3
