/-! The reference: the calls that build the village. -/
section MD2
variable {G : GC} {M : Mem} {Y : Nat → Nat} {σ : St} {T : Nat}
theorem nat_of {a : Int} (h : 0 ≤ a) : ∃ n : Nat, a = n := ⟨a.toNat, by omega⟩
theorem nOf_no {k j : Nat} (h : nOf k = j) (h5 : 5 ≤ j) (h9 : j < 9) : False := by
  subst h; revert h5 h9; unfold nOf; split <;> omega
theorem stF_stF (σ : St) (k : Nat) (F F' : Nat → Nat) : stF (stF σ k F) k F' = stF σ k F' := Prod.ext rfl (up_up _ _ _ _)
theorem stF_at (σ : St) (k : Nat) (F : Nat → Nat) : (stF σ k F).2 k = F := up_s _ _ _
theorem stA_at (σ : St) (k i v : Nat) : (stA σ k i v).2 k i = v := by
  show va_up σ.2 k (va_up (σ.2 k) i v) k i = v
  rw [up_s, up_s]
theorem mp_s {M1 : Mem} {c : Nat} (h : MP Y M σ c M1) (j v : Nat) {f : Nat} (hn : v ≤ σ.1 j ∨ (5 ≤ j ∧ j < 9)) (hf : f = 591 + j := by rfl) (hj : j < 9 := by decide) : MP Y M (stS σ j v) c (sI M1 f (upd (mI M1 f) (Y 0) (iz (v : Int)))) := by
  refine ⟨h.1.ws j v hf hj (fun k h1 h2 i hi => h.1.a k i ?_ h1 h2), (congrFun (mI_sIn _ _ _ _ (by omega)) _).trans h.2.1, h.2.2.tr FrM.i⟩
  by_cases e : nOf k = j
  · rcases hn with hn | hn
    · have : (stS σ j v).1 (nOf k) = v := by rw [e]; exact up_s _ _ _
      rw [e]; omega
    · exact (nOf_no e hn.1 hn.2).elim
  · have : (stS σ j v).1 (nOf k) = σ.1 (nOf k) := up_n _ _ e
    omega
theorem mp_a {M1 : Mem} {c : Nat} (h : MP Y M σ c M1) (k : Nat) {K : Nat → Int32} {F : Nat → Nat} (hK : ∀ i, i < σ.1 (nOf k) → K i = vz k (F i)) (h1 : 1 ≤ k := by decide) (h2 : k < 15 := by decide) : MP Y M (stF σ k F) c (sA M1 (Y k) K) := ⟨h.1.wf k hK h1 h2, h.2.1, h.2.2.tr (FrM.a k (arK_of k h1 h2))⟩
theorem m_addStreet (hM : RM M Y σ) (hO : Ok σ T) (a b l : Int) (w : Bool) (ha : inR a) (hb : inR b) (hl : inR l) : Ht G iX9_addStreet yX9_addStreet 10 [.ref (Y 0), .int (iz a), .int (iz b), .int (iz l), .int (bz w)] M (MR Y M (opAddStreet σ a b l w)) nX 0 0 := by
  obtain ⟨⟨p1, p2, p3, -⟩, -⟩ := hO
  refine ht_intro (by decide +kernel) rfl rfl rfl (Nat.le_of_ble_eq_true rfl) ?_
  refine r_aload_n dX9_addStreet_0 rfl ?_
  refine r_iconst dX9_addStreet_1 ?_
  refine r_putI qX9_81 dX9_addStreet_2 hM.o (kk := ?_)
  refine gm (P := MP Y M σ 0) (mp0 hM) (fun M1 hP => ?_)
  have hM := hP.1
  refine r_aload_n dX9_addStreet_5 rfl ?_
  refine r_iload_n dX9_addStreet_6 rfl ?_
  refine r_callV (mi := iX9_addStreet) vX9_104 dX9_addStreet_7 hM.o (m_isPlace hM (by omega) a ha) (hm := ⟨by omega, by omega⟩) (k := kP ?_) (kx := r_nox)
  refine r_dif_eq (tgt := 21) dX9_addStreet_10 (by decide) (kt := fun z10 => ?_) (kf := fun z10 => ?_)
  · refine r_aload_n dX9_addStreet_21 rfl ?_
    refine r_iconst dX9_addStreet_22 ?_
    refine r_callV (mi := iX9_addStreet) vX9_100 dX9_addStreet_23 hM.o (m_fails hM.o 1) (hm := ⟨by omega, by omega⟩) (k := kP ?_) (kx := r_nox)
    exact r_iret dX9_addStreet_26 (mr_of (mpf hP 1) (by unfold opAddStreet; repeat (first | rw [if_pos (by omega)] | rw [if_neg (by omega)])) (fun h => absurd h (by decide)))
  · refine r_aload_n dX9_addStreet_13 rfl ?_
    refine r_iload_n dX9_addStreet_14 rfl ?_
    refine r_callV (mi := iX9_addStreet) vX9_104 dX9_addStreet_15 hM.o (m_isPlace hM (by omega) b hb) (hm := ⟨by omega, by omega⟩) (k := kP ?_) (kx := r_nox)
    refine r_dif_ne (tgt := 27) dX9_addStreet_18 (by decide) (kt := fun z18 => ?_) (kf := fun z18 => ?_)
    · refine r_iload_n dX9_addStreet_27 rfl ?_
      refine r_iload_n dX9_addStreet_28 rfl ?_
      refine r_icmp_eq (tgt := 42) dX9_addStreet_29 (by decide) (kt := fun z29 => ?_) (kf := fun z29 => ?_)
      · refine r_aload_n dX9_addStreet_42 rfl ?_
        refine r_iconst dX9_addStreet_43 ?_
        refine r_callV (mi := iX9_addStreet) vX9_100 dX9_addStreet_44 hM.o (m_fails hM.o 2) (hm := ⟨by omega, by omega⟩) (k := kP ?_) (kx := r_nox)
        exact r_iret dX9_addStreet_47 (mr_of (mpf hP 2) (by unfold opAddStreet; repeat (first | rw [if_pos (by omega)] | rw [if_neg (by omega)])) (fun h => absurd h (by decide)))
      · refine r_iload_n dX9_addStreet_32 rfl ?_
        refine r_iconst dX9_addStreet_33 ?_
        refine r_bipush dX9_addStreet_34 (k := ?_)
        refine r_callS (mi := iX9_addStreet) vX9_87 dX9_addStreet_36 (m_isBetween l 1 99 hl (by omega) (by omega)) (hm := ⟨by omega, by omega⟩) (k := kP ?_) (kx := r_nox)
        refine r_dif_ne (tgt := 48) dX9_addStreet_39 (by decide) (kt := fun z39 => ?_) (kf := fun z39 => ?_)
        · refine r_aload_n dX9_addStreet_48 rfl ?_
          refine r_getI qX9_84 dX9_addStreet_49 hM.o (x := iz (σ.1 1 : Int)) (hM.s 1) (kk := ?_)
          refine r_bipush dX9_addStreet_52 (k := ?_)
          refine r_icmp_ne (tgt := 63) dX9_addStreet_54 (by decide) (kt := fun z54 => ?_) (kf := fun z54 => ?_)
          · obtain ⟨a, rfl⟩ := nat_of (a := a) (by omega)
            obtain ⟨b, rfl⟩ := nat_of (a := b) (by omega)
            obtain ⟨l, rfl⟩ := nat_of (a := l) (by omega)
            have hP := ap_0 (σ.1 1) hP
            refine r_aload_n dX9_addStreet_63 rfl ?_
            refine r_getR qX9_9 dX9_addStreet_64 hM.o (hM.r 1) (kk := ?_)
            refine r_aload_n dX9_addStreet_67 rfl ?_
            refine r_getI qX9_84 dX9_addStreet_68 hM.o (x := iz (σ.1 1 : Int)) (hM.s 1) (kk := ?_)
            refine r_iload_n dX9_addStreet_71 rfl ?_
            refine r_iast dX9_addStreet_72 (hM.cc 1 11 16) rfl (k := ?_)
            refine gm (ap_st (v := a) hP) (fun M1 hP => ?_)
            have hM := hP.1.1
            refine r_aload_n dX9_addStreet_73 rfl ?_
            refine r_getR qX9_13 dX9_addStreet_74 hM.o (hM.r 2) (kk := ?_)
            refine r_aload_n dX9_addStreet_77 rfl ?_
            refine r_getI qX9_84 dX9_addStreet_78 hM.o (x := iz (σ.1 1 : Int)) (hM.s 1) (kk := ?_)
            refine r_iload_n dX9_addStreet_81 rfl ?_
            refine r_iast dX9_addStreet_82 (hM.cc 2 11 16) rfl (k := ?_)
            refine gm (ap_st (v := b) hP) (fun M1 hP => ?_)
            have hM := hP.1.1
            refine r_aload_n dX9_addStreet_83 rfl ?_
            refine r_getR qX9_16 dX9_addStreet_84 hM.o (hM.r 3) (kk := ?_)
            refine r_aload_n dX9_addStreet_87 rfl ?_
            refine r_getI qX9_84 dX9_addStreet_88 hM.o (x := iz (σ.1 1 : Int)) (hM.s 1) (kk := ?_)
            refine r_iload_n dX9_addStreet_91 rfl ?_
            refine r_iast dX9_addStreet_92 (hM.cc 3 11 16) rfl (k := ?_)
            refine gm (ap_st (v := l) hP) (fun M1 hP => ?_)
            have hM := hP.1.1
            refine r_aload_n dX9_addStreet_93 rfl ?_
            refine r_getR qX9_46 dX9_addStreet_94 hM.o (hM.r 13) (kk := ?_)
            refine r_aload_n dX9_addStreet_97 rfl ?_
            refine r_getI qX9_84 dX9_addStreet_98 hM.o (x := iz (σ.1 1 : Int)) (hM.s 1) (kk := ?_)
            refine r_iload dX9_addStreet_101 rfl ?_
            refine r_zast dX9_addStreet_103 (hM.cc 13 12 16) rfl (k := ?_)
            refine gm (ap_st (v := if w then 1 else 0) hP (bz_vz w)) (fun M1 hP => ?_)
            have hM := hP.1.1
            refine r_aload_n dX9_addStreet_104 rfl ?_
            refine r_getR qX9_19 dX9_addStreet_105 hM.o (hM.r 4) (kk := ?_)
            refine r_aload_n dX9_addStreet_108 rfl ?_
            refine r_getI qX9_84 dX9_addStreet_109 hM.o (x := iz (σ.1 1 : Int)) (hM.s 1) (kk := ?_)
            refine r_iconst dX9_addStreet_112 ?_
            refine r_iast dX9_addStreet_113 (hM.cc 4 11 16) rfl (k := ?_)
            refine gm (ap_st (v := 0) hP) (fun M1 hP => ?_)
            have hM := hP.1.1
            refine r_aload_n dX9_addStreet_114 rfl ?_
            refine r_dup dX9_addStreet_115 (k := ?_)
            refine r_getI qX9_84 dX9_addStreet_116 hM.o (x := iz (σ.1 1 : Int)) (hM.s 1) (kk := ?_)
            refine r_iconst dX9_addStreet_119 ?_
            refine r_iadd dX9_addStreet_120 ?_
            refine r_putI qX9_84 dX9_addStreet_121 hM.o (kk := ?_)
            refine gm (ap_grow hP 1) (fun M1 hP => ?_)
            have hM := hP.1
            refine r_aload_n dX9_addStreet_124 rfl ?_
            refine r_getI qX9_84 dX9_addStreet_125 hM.o (x := iz ((σ.1 1 + 1 : Nat) : Int)) (hM.s 1) (kk := ?_)
            refine r_iconst dX9_addStreet_128 ?_
            refine r_isub dX9_addStreet_129 ?_
            exact r_iret dX9_addStreet_130 (mr_of hP (by unfold opAddStreet; repeat (first | rw [if_pos (by omega)] | rw [if_neg (by omega)]); try rfl) (fun _ => by congr 1; omega))
          · refine r_aload_n dX9_addStreet_57 rfl ?_
            refine r_iconst dX9_addStreet_58 ?_
            refine r_callV (mi := iX9_addStreet) vX9_100 dX9_addStreet_59 hM.o (m_fails hM.o 3) (hm := ⟨by omega, by omega⟩) (k := kP ?_) (kx := r_nox)
            exact r_iret dX9_addStreet_62 (mr_of (mpf hP 3) (by unfold opAddStreet; repeat (first | rw [if_pos (by omega)] | rw [if_neg (by omega)])) (fun h => absurd h (by decide)))
        · refine r_aload_n dX9_addStreet_42 rfl ?_
          refine r_iconst dX9_addStreet_43 ?_
          refine r_callV (mi := iX9_addStreet) vX9_100 dX9_addStreet_44 hM.o (m_fails hM.o 2) (hm := ⟨by omega, by omega⟩) (k := kP ?_) (kx := r_nox)
          exact r_iret dX9_addStreet_47 (mr_of (mpf hP 2) (by unfold opAddStreet; repeat (first | rw [if_pos (by omega)] | rw [if_neg (by omega)])) (fun h => absurd h (by decide)))
    · refine r_aload_n dX9_addStreet_21 rfl ?_
      refine r_iconst dX9_addStreet_22 ?_
      refine r_callV (mi := iX9_addStreet) vX9_100 dX9_addStreet_23 hM.o (m_fails hM.o 1) (hm := ⟨by omega, by omega⟩) (k := kP ?_) (kx := r_nox)
      exact r_iret dX9_addStreet_26 (mr_of (mpf hP 1) (by unfold opAddStreet; repeat (first | rw [if_pos (by omega)] | rw [if_neg (by omega)])) (fun h => absurd h (by decide)))
theorem m_addHouse (hM : RM M Y σ) (hO : Ok σ T) (s d o : Int) (ha : inR s) (hb : inR d) (hl : inR o) : Ht G iX9_addHouse yX9_addHouse 10 [.ref (Y 0), .int (iz s), .int (iz d), .int (iz o)] M (MR Y M (opAddHouse σ s d o)) nX 0 0 := by
  obtain ⟨⟨p1, p2, p3, p4, -⟩, hS, -⟩ := hO
  refine ht_intro (by decide +kernel) rfl rfl rfl (Nat.le_of_ble_eq_true rfl) ?_
  refine r_aload_n dX9_addHouse_0 rfl ?_
  refine r_iconst dX9_addHouse_1 ?_
  refine r_putI qX9_81 dX9_addHouse_2 hM.o (kk := ?_)
  refine gm (P := MP Y M σ 0) (mp0 hM) (fun M1 hP => ?_)
  have hM := hP.1
  refine r_aload_n dX9_addHouse_5 rfl ?_
  refine r_iload_n dX9_addHouse_6 rfl ?_
  refine r_callV (mi := iX9_addHouse) vX9_108 dX9_addHouse_7 hM.o (m_isStreet hM (by omega) s ha) (hm := ⟨by omega, by omega⟩) (k := kP ?_) (kx := r_nox)
  refine r_dif_ne (tgt := 19) dX9_addHouse_10 (by decide) (kt := fun z10 => ?_) (kf := fun z10 => ?_)
  · obtain ⟨s, rfl⟩ := nat_of (a := s) (by omega)
    have hs : s < σ.1 1 := by omega
    obtain ⟨s1, s2, s3, s4, s5, s6, s7⟩ := hS s hs
    refine r_iload_n dX9_addHouse_19 rfl ?_
    refine r_iconst dX9_addHouse_20 ?_
    refine r_iconst dX9_addHouse_21 ?_
    refine r_callS (mi := iX9_addHouse) vX9_87 dX9_addHouse_22 (m_isBetween d 0 1 hb (by omega) (by omega)) (hm := ⟨by omega, by omega⟩) (k := kP ?_) (kx := r_nox)
    refine r_dif_eq (tgt := 42) dX9_addHouse_25 (by decide) (kt := fun z25 => ?_) (kf := fun z25 => ?_)
    · refine r_aload_n dX9_addHouse_42 rfl ?_
      refine r_iconst dX9_addHouse_43 ?_
      refine r_callV (mi := iX9_addHouse) vX9_100 dX9_addHouse_44 hM.o (m_fails hM.o 2) (hm := ⟨by omega, by omega⟩) (k := kP ?_) (kx := r_nox)
      exact r_iret dX9_addHouse_47 (mr_of (mpf hP 2) (by unfold opAddHouse; rw [if_neg (by omega), if_pos (by simp only [Int.toNat_natCast]; omega)]) (fun h => absurd h (by decide)))
    · refine r_iload_n dX9_addHouse_28 rfl ?_
      refine r_iconst dX9_addHouse_29 ?_
      refine r_aload_n dX9_addHouse_30 rfl ?_
      refine r_getR qX9_16 dX9_addHouse_31 hM.o (hM.r 3) (kk := ?_)
      refine r_iload_n dX9_addHouse_34 rfl ?_
      refine r_iald dX9_addHouse_35 (hM.cc 3 11 16) rfl (hM.v 3 _ (hs)) (k := ?_)
      refine r_callS (mi := iX9_addHouse) vX9_87 dX9_addHouse_36 (m_isBetween o 0 (σ.2 3 s : Int) hl (by omega) (by omega)) (hm := ⟨by omega, by omega⟩) (k := kP ?_) (kx := r_nox)
      refine r_dif_ne (tgt := 48) dX9_addHouse_39 (by decide) (kt := fun z39 => ?_) (kf := fun z39 => ?_)
      · refine r_aload_n dX9_addHouse_48 rfl ?_
        refine r_getI qX9_91 dX9_addHouse_49 hM.o (x := iz (σ.1 2 : Int)) (hM.s 2) (kk := ?_)
        refine r_bipush dX9_addHouse_52 (k := ?_)
        refine r_icmp_ne (tgt := 63) dX9_addHouse_54 (by decide) (kt := fun z54 => ?_) (kf := fun z54 => ?_)
        · obtain ⟨d, rfl⟩ := nat_of (a := d) (by omega)
          obtain ⟨o, rfl⟩ := nat_of (a := o) (by omega)
          have hP := ap_0 (σ.1 2) hP
          refine r_aload_n dX9_addHouse_63 rfl ?_
          refine r_getR qX9_22 dX9_addHouse_64 hM.o (hM.r 5) (kk := ?_)
          refine r_aload_n dX9_addHouse_67 rfl ?_
          refine r_getI qX9_91 dX9_addHouse_68 hM.o (x := iz (σ.1 2 : Int)) (hM.s 2) (kk := ?_)
          refine r_iload_n dX9_addHouse_71 rfl ?_
          refine r_iast dX9_addHouse_72 (hM.cc 5 11 30) rfl (k := ?_)
          refine gm (ap_st (v := s) hP) (fun M1 hP => ?_)
          have hM := hP.1.1
          refine r_aload_n dX9_addHouse_73 rfl ?_
          refine r_getR qX9_25 dX9_addHouse_74 hM.o (hM.r 6) (kk := ?_)
          refine r_aload_n dX9_addHouse_77 rfl ?_
          refine r_getI qX9_91 dX9_addHouse_78 hM.o (x := iz (σ.1 2 : Int)) (hM.s 2) (kk := ?_)
          refine r_iload_n dX9_addHouse_81 rfl ?_
          refine r_iast dX9_addHouse_82 (hM.cc 6 11 30) rfl (k := ?_)
          refine gm (ap_st (v := d) hP) (fun M1 hP => ?_)
          have hM := hP.1.1
          refine r_aload_n dX9_addHouse_83 rfl ?_
          refine r_getR qX9_28 dX9_addHouse_84 hM.o (hM.r 7) (kk := ?_)
          refine r_aload_n dX9_addHouse_87 rfl ?_
          refine r_getI qX9_91 dX9_addHouse_88 hM.o (x := iz (σ.1 2 : Int)) (hM.s 2) (kk := ?_)
          refine r_iload_n dX9_addHouse_91 rfl ?_
          refine r_iast dX9_addHouse_92 (hM.cc 7 11 30) rfl (k := ?_)
          refine gm (ap_st (v := o) hP) (fun M1 hP => ?_)
          have hM := hP.1.1
          refine r_aload_n dX9_addHouse_93 rfl ?_
          refine r_dup dX9_addHouse_94 (k := ?_)
          refine r_getI qX9_91 dX9_addHouse_95 hM.o (x := iz (σ.1 2 : Int)) (hM.s 2) (kk := ?_)
          refine r_iconst dX9_addHouse_98 ?_
          refine r_iadd dX9_addHouse_99 ?_
          refine r_putI qX9_91 dX9_addHouse_100 hM.o (kk := ?_)
          refine gm (ap_grow hP 2) (fun M1 hP => ?_)
          have hM := hP.1
          refine r_aload_n dX9_addHouse_103 rfl ?_
          refine r_getI qX9_91 dX9_addHouse_104 hM.o (x := iz ((σ.1 2 + 1 : Nat) : Int)) (hM.s 2) (kk := ?_)
          refine r_iconst dX9_addHouse_107 ?_
          refine r_isub dX9_addHouse_108 ?_
          exact r_iret dX9_addHouse_109 (mr_of hP (by unfold opAddHouse; rw [if_neg (by omega), if_neg (by simp only [Int.toNat_natCast]; omega), if_neg (by omega)]; rfl) (fun _ => by congr 1; omega))
        · refine r_aload_n dX9_addHouse_57 rfl ?_
          refine r_iconst dX9_addHouse_58 ?_
          refine r_callV (mi := iX9_addHouse) vX9_100 dX9_addHouse_59 hM.o (m_fails hM.o 3) (hm := ⟨by omega, by omega⟩) (k := kP ?_) (kx := r_nox)
          exact r_iret dX9_addHouse_62 (mr_of (mpf hP 3) (by unfold opAddHouse; rw [if_neg (by omega), if_neg (by simp only [Int.toNat_natCast]; omega), if_pos (by omega)]) (fun h => absurd h (by decide)))
      · refine r_aload_n dX9_addHouse_42 rfl ?_
        refine r_iconst dX9_addHouse_43 ?_
        refine r_callV (mi := iX9_addHouse) vX9_100 dX9_addHouse_44 hM.o (m_fails hM.o 2) (hm := ⟨by omega, by omega⟩) (k := kP ?_) (kx := r_nox)
        exact r_iret dX9_addHouse_47 (mr_of (mpf hP 2) (by unfold opAddHouse; rw [if_neg (by omega), if_pos (by simp only [Int.toNat_natCast]; omega)]) (fun h => absurd h (by decide)))
  · refine r_aload_n dX9_addHouse_13 rfl ?_
    refine r_iconst dX9_addHouse_14 ?_
    refine r_callV (mi := iX9_addHouse) vX9_100 dX9_addHouse_15 hM.o (m_fails hM.o 1) (hm := ⟨by omega, by omega⟩) (k := kP ?_) (kx := r_nox)
    exact r_iret dX9_addHouse_18 (mr_of (mpf hP 1) (by unfold opAddHouse; repeat (first | rw [if_pos (by omega)] | rw [if_neg (by omega)])) (fun h => absurd h (by decide)))
theorem m_addRound (hM : RM M Y σ) (hO : Ok σ T) (l : Int) (ha : inR l) : Ht G iX9_addRound yX9_addRound 10 [.ref (Y 0), .int (iz l)] M (MR Y M (opAddRound σ l)) nX 0 0 := by
  obtain ⟨⟨p1, p2, p3, p4, p5, -⟩, hS, -⟩ := hO
  refine ht_intro (by decide +kernel) rfl rfl rfl (Nat.le_of_ble_eq_true rfl) ?_
  refine r_aload_n dX9_addRound_0 rfl ?_
  refine r_iconst dX9_addRound_1 ?_
  refine r_putI qX9_81 dX9_addRound_2 hM.o (kk := ?_)
  refine gm (P := MP Y M σ 0) (mp0 hM) (fun M1 hP => ?_)
  have hM := hP.1
  refine r_iload_n dX9_addRound_5 rfl ?_
  refine r_iconst dX9_addRound_6 ?_
  refine r_sipush dX9_addRound_7 (k := ?_)
  refine r_callS (mi := iX9_addRound) vX9_87 dX9_addRound_10 (m_isBetween l 1 999 ha (by omega) (by omega)) (hm := ⟨by omega, by omega⟩) (k := kP ?_) (kx := r_nox)
  refine r_dif_ne (tgt := 22) dX9_addRound_13 (by decide) (kt := fun z13 => ?_) (kf := fun z13 => ?_)
  · refine r_aload_n dX9_addRound_22 rfl ?_
    refine r_getI qX9_94 dX9_addRound_23 hM.o (x := iz (σ.1 3 : Int)) (hM.s 3) (kk := ?_)
    refine r_iconst dX9_addRound_26 ?_
    refine r_icmp_ne (tgt := 36) dX9_addRound_27 (by decide) (kt := fun z27 => ?_) (kf := fun z27 => ?_)
    · obtain ⟨l, rfl⟩ := nat_of (a := l) (by omega)
      have hP := ap_0 (σ.1 3) hP
      refine r_aload_n dX9_addRound_36 rfl ?_
      refine r_getR qX9_34 dX9_addRound_37 hM.o (hM.r 9) (kk := ?_)
      refine r_aload_n dX9_addRound_40 rfl ?_
      refine r_getI qX9_94 dX9_addRound_41 hM.o (x := iz (σ.1 3 : Int)) (hM.s 3) (kk := ?_)
      refine r_iload_n dX9_addRound_44 rfl ?_
      refine r_iast dX9_addRound_45 (hM.cc 9 11 4) rfl (k := ?_)
      refine gm (ap_st (v := l) hP) (fun M1 hP => ?_)
      have hM := hP.1.1
      refine r_aload_n dX9_addRound_46 rfl ?_
      refine r_dup dX9_addRound_47 (k := ?_)
      refine r_getI qX9_94 dX9_addRound_48 hM.o (x := iz (σ.1 3 : Int)) (hM.s 3) (kk := ?_)
      refine r_iconst dX9_addRound_51 ?_
      refine r_iadd dX9_addRound_52 ?_
      refine r_putI qX9_94 dX9_addRound_53 hM.o (kk := ?_)
      refine gm (ap_grow hP 3) (fun M1 hP => ?_)
      have hM := hP.1
      refine r_aload_n dX9_addRound_56 rfl ?_
      refine r_getI qX9_94 dX9_addRound_57 hM.o (x := iz ((σ.1 3 + 1 : Nat) : Int)) (hM.s 3) (kk := ?_)
      refine r_iconst dX9_addRound_60 ?_
      refine r_isub dX9_addRound_61 ?_
      exact r_iret dX9_addRound_62 (mr_of hP (by unfold opAddRound; repeat (first | rw [if_pos (by omega)] | rw [if_neg (by omega)]); try rfl) (fun _ => by congr 1; omega))
    · refine r_aload_n dX9_addRound_30 rfl ?_
      refine r_iconst dX9_addRound_31 ?_
      refine r_callV (mi := iX9_addRound) vX9_100 dX9_addRound_32 hM.o (m_fails hM.o 2) (hm := ⟨by omega, by omega⟩) (k := kP ?_) (kx := r_nox)
      exact r_iret dX9_addRound_35 (mr_of (mpf hP 2) (by unfold opAddRound; repeat (first | rw [if_pos (by omega)] | rw [if_neg (by omega)])) (fun h => absurd h (by decide)))
  · refine r_aload_n dX9_addRound_16 rfl ?_
    refine r_iconst dX9_addRound_17 ?_
    refine r_callV (mi := iX9_addRound) vX9_100 dX9_addRound_18 hM.o (m_fails hM.o 1) (hm := ⟨by omega, by omega⟩) (k := kP ?_) (kx := r_nox)
    exact r_iret dX9_addRound_21 (mr_of (mpf hP 1) (by unfold opAddRound; repeat (first | rw [if_pos (by omega)] | rw [if_neg (by omega)])) (fun h => absurd h (by decide)))
theorem m_assign (hM : RM M Y σ) (hO : Ok σ T) (s r : Int) (ha : inR s) (hb : inR r) : Ht G iX9_assign yX9_assign 10 [.ref (Y 0), .int (iz s), .int (iz r)] M (MR Y M (opAssign σ s r)) nX 0 0 := by
  obtain ⟨⟨p1, p2, p3, p4, p5, -⟩, hS, -⟩ := hO
  refine ht_intro (by decide +kernel) rfl rfl rfl (Nat.le_of_ble_eq_true rfl) ?_
  refine r_aload_n dX9_assign_0 rfl ?_
  refine r_iconst dX9_assign_1 ?_
  refine r_putI qX9_81 dX9_assign_2 hM.o (kk := ?_)
  refine gm (P := MP Y M σ 0) (mp0 hM) (fun M1 hP => ?_)
  have hM := hP.1
  refine r_aload_n dX9_assign_5 rfl ?_
  refine r_iload_n dX9_assign_6 rfl ?_
  refine r_callV (mi := iX9_assign) vX9_108 dX9_assign_7 hM.o (m_isStreet hM (by omega) s ha) (hm := ⟨by omega, by omega⟩) (k := kP ?_) (kx := r_nox)
  refine r_dif_eq (tgt := 21) dX9_assign_10 (by decide) (kt := fun z10 => ?_) (kf := fun z10 => ?_)
  · refine r_aload_n dX9_assign_21 rfl ?_
    refine r_iconst dX9_assign_22 ?_
    refine r_callV (mi := iX9_assign) vX9_100 dX9_assign_23 hM.o (m_fails hM.o 1) (hm := ⟨by omega, by omega⟩) (k := kP ?_) (kx := r_nox)
    exact r_iret dX9_assign_26 (mr_of (mpf hP 1) (by unfold opAssign; repeat (first | rw [if_pos (by omega)] | rw [if_neg (by omega)])) (fun h => absurd h (by decide)))
  · refine r_aload_n dX9_assign_13 rfl ?_
    refine r_iload_n dX9_assign_14 rfl ?_
    refine r_callV (mi := iX9_assign) vX9_111 dX9_assign_15 hM.o (m_isRound hM (by omega) r hb) (hm := ⟨by omega, by omega⟩) (k := kP ?_) (kx := r_nox)
    refine r_dif_ne (tgt := 27) dX9_assign_18 (by decide) (kt := fun z18 => ?_) (kf := fun z18 => ?_)
    · obtain ⟨s, rfl⟩ := nat_of (a := s) (by omega)
      obtain ⟨r, rfl⟩ := nat_of (a := r) (by omega)
      have hs : s < σ.1 1 := by omega
      refine r_aload_n dX9_assign_27 rfl ?_
      refine r_getR qX9_19 dX9_assign_28 hM.o (hM.r 4) (kk := ?_)
      refine r_iload_n dX9_assign_31 rfl ?_
      refine r_iald dX9_assign_32 (hM.cc 4 11 16) rfl (hM.v4 _ (hs)) (k := ?_)
      refine r_istore_n dX9_assign_33 (k := ?_)
      refine r_aload_n dX9_assign_34 rfl ?_
      refine r_getR qX9_19 dX9_assign_35 hM.o (hM.r 4) (kk := ?_)
      refine r_iload_n dX9_assign_38 rfl ?_
      refine r_iload_n dX9_assign_39 rfl ?_
      refine r_iast dX9_assign_40 (hM.cc 4 11 16) rfl (k := ?_)
      refine gm (P := MP Y M (stA σ 4 s (r + 1)) 0) (ap_st (v := r + 1) (ap_0 s hP) (by show iz _ = iz _; congr 1; omega)).1 (fun M1 hP => ?_)
      refine r_iload_n dX9_assign_41 rfl ?_
      exact r_iret dX9_assign_42 (mr_of hP (by unfold opAssign; repeat (first | rw [if_pos (by omega)] | rw [if_neg (by omega)]); try rfl) (fun _ => rfl))
    · refine r_aload_n dX9_assign_21 rfl ?_
      refine r_iconst dX9_assign_22 ?_
      refine r_callV (mi := iX9_assign) vX9_100 dX9_assign_23 hM.o (m_fails hM.o 1) (hm := ⟨by omega, by omega⟩) (k := kP ?_) (kx := r_nox)
      exact r_iret dX9_assign_26 (mr_of (mpf hP 1) (by unfold opAssign; repeat (first | rw [if_pos (by omega)] | rw [if_neg (by omega)])) (fun h => absurd h (by decide)))
theorem m_setBag (hM : RM M Y σ) (w : Int) (ha : inR w) : Ht G iX9_setBag yX9_setBag 10 [.ref (Y 0), .int (iz w)] M (MR Y M (opSetBag σ w)) nX 0 0 := by
  refine ht_intro (by decide +kernel) rfl rfl rfl (Nat.le_of_ble_eq_true rfl) ?_
  refine r_aload_n dX9_setBag_0 rfl ?_
  refine r_iconst dX9_setBag_1 ?_
  refine r_putI qX9_81 dX9_setBag_2 hM.o (kk := ?_)
  refine gm (P := MP Y M σ 0) (mp0 hM) (fun M1 hP => ?_)
  have hM := hP.1
  refine r_iload_n dX9_setBag_5 rfl ?_
  refine r_iconst dX9_setBag_6 ?_
  refine r_bipush dX9_setBag_7 (k := ?_)
  refine r_callS (mi := iX9_setBag) vX9_87 dX9_setBag_9 (m_isBetween w 0 99 ha (by omega) (by omega)) (hm := ⟨by omega, by omega⟩) (k := kP ?_) (kx := r_nox)
  refine r_dif_ne (tgt := 21) dX9_setBag_12 (by decide) (kt := fun z12 => ?_) (kf := fun z12 => ?_)
  · obtain ⟨w, rfl⟩ := nat_of (a := w) (by omega)
    refine r_aload_n dX9_setBag_21 rfl ?_
    refine r_getI qX9_57 dX9_setBag_22 hM.o (x := iz (σ.1 5 : Int)) (hM.s 5) (kk := ?_)
    refine r_istore_n dX9_setBag_25 (k := ?_)
    refine r_aload_n dX9_setBag_26 rfl ?_
    refine r_iload_n dX9_setBag_27 rfl ?_
    refine r_putI qX9_57 dX9_setBag_28 hM.o (kk := ?_)
    refine gm (mp_s hP 5 w (by omega)) (fun M1 hP => ?_)
    refine r_iload_n dX9_setBag_31 rfl ?_
    exact r_iret dX9_setBag_32 (mr_of hP (by unfold opSetBag; repeat (first | rw [if_pos (by omega)] | rw [if_neg (by omega)]); try rfl) (fun _ => rfl))
  · refine r_aload_n dX9_setBag_15 rfl ?_
    refine r_iconst dX9_setBag_16 ?_
    refine r_callV (mi := iX9_setBag) vX9_100 dX9_setBag_17 hM.o (m_fails hM.o 1) (hm := ⟨by omega, by omega⟩) (k := kP ?_) (kx := r_nox)
    exact r_iret dX9_setBag_20 (mr_of (mpf hP 1) (by unfold opSetBag; repeat (first | rw [if_pos (by omega)] | rw [if_neg (by omega)])) (fun h => absurd h (by decide)))
theorem m_letters (hM : RM M Y σ) (hO : Ok σ T) (h c : Int) (ha : inR h) (hb : inR c) : Ht G iX9_letters yX9_letters 10 [.ref (Y 0), .int (iz h), .int (iz c)] M (MR Y M (opLetters σ h c)) nX 0 0 := by
  obtain ⟨⟨p1, p2, p3, p4, p5, -⟩, -, hH, -⟩ := id hO
  refine ht_intro (by decide +kernel) rfl rfl rfl (Nat.le_of_ble_eq_true rfl) ?_
  refine r_aload_n dX9_letters_0 rfl ?_
  refine r_iconst dX9_letters_1 ?_
  refine r_putI qX9_81 dX9_letters_2 hM.o (kk := ?_)
  refine gm (P := MP Y M σ 0) (mp0 hM) (fun M1 hP => ?_)
  have hM := hP.1
  refine r_aload_n dX9_letters_5 rfl ?_
  refine r_iload_n dX9_letters_6 rfl ?_
  refine r_callV (mi := iX9_letters) vX9_114 dX9_letters_7 hM.o (m_isHouse hM (by omega) h ha) (hm := ⟨by omega, by omega⟩) (k := kP ?_) (kx := r_nox)
  refine r_dif_ne (tgt := 19) dX9_letters_10 (by decide) (kt := fun z10 => ?_) (kf := fun z10 => ?_)
  · refine r_iload_n dX9_letters_19 rfl ?_
    refine r_iconst dX9_letters_20 ?_
    refine r_bipush dX9_letters_21 (k := ?_)
    refine r_callS (mi := iX9_letters) vX9_87 dX9_letters_23 (m_isBetween c 1 20 hb (by omega) (by omega)) (hm := ⟨by omega, by omega⟩) (k := kP ?_) (kx := r_nox)
    refine r_dif_ne (tgt := 35) dX9_letters_26 (by decide) (kt := fun z26 => ?_) (kf := fun z26 => ?_)
    · obtain ⟨h, rfl⟩ := nat_of (a := h) (by omega)
      obtain ⟨c, rfl⟩ := nat_of (a := c) (by omega)
      have hh : h < σ.1 2 := by omega
      obtain ⟨h1, h2, h3, h4⟩ := hH h hh
      refine r_aload_n dX9_letters_35 rfl ?_
      refine r_getR qX9_31 dX9_letters_36 hM.o (hM.r 8) (kk := ?_)
      refine r_iload_n dX9_letters_39 rfl ?_
      refine r_iald dX9_letters_40 (hM.cc 8 11 30) rfl (hM.v 8 _ (hO.h8 hh)) (k := ?_)
      refine r_iload_n dX9_letters_41 rfl ?_
      refine r_iadd dX9_letters_42 ?_
      refine r_bipush dX9_letters_43 (k := ?_)
      refine r_icmp_le (tgt := 54) dX9_letters_45 (by decide) (kt := fun z45 => ?_) (kf := fun z45 => ?_)
      · refine r_aload_n dX9_letters_54 rfl ?_
        refine r_getR qX9_31 dX9_letters_55 hM.o (hM.r 8) (kk := ?_)
        refine r_iload_n dX9_letters_58 rfl ?_
        refine r_dup2 dX9_letters_59 (k := ?_)
        refine r_iald dX9_letters_60 (hM.cc 8 11 30) rfl (hM.v 8 _ (hO.h8 hh)) (k := ?_)
        refine r_iload_n dX9_letters_61 rfl ?_
        refine r_iadd dX9_letters_62 ?_
        refine r_iast dX9_letters_63 (hM.cc 8 11 30) rfl (k := ?_)
        refine gm (ap_st (v := σ.2 8 h + c) (ap_0 h hP) (by rfl)) (fun M1 hP => ?_)
        have hM := hP.1.1
        refine r_aload_n dX9_letters_64 rfl ?_
        refine r_getR qX9_31 dX9_letters_65 hM.o (hM.r 8) (kk := ?_)
        refine r_iload_n dX9_letters_68 rfl ?_
        refine r_iald dX9_letters_69 (hM.cc 8 11 30) rfl (v := iz ((σ.2 8 h : Int) + c)) (hP.2 8 List.mem_cons_self |>.trans (by rw [show vz 8 _ = iz _ from rfl, stA_at]; rfl)) (k := ?_)
        exact r_iret dX9_letters_70 (mr_of hP.1 (by unfold opLetters; rw [if_neg (by omega), if_neg (by omega), if_neg (by simp only [Int.toNat_natCast]; omega)]; rfl) (fun _ => rfl))
      · refine r_aload_n dX9_letters_48 rfl ?_
        refine r_iconst dX9_letters_49 ?_
        refine r_callV (mi := iX9_letters) vX9_100 dX9_letters_50 hM.o (m_fails hM.o 3) (hm := ⟨by omega, by omega⟩) (k := kP ?_) (kx := r_nox)
        exact r_iret dX9_letters_53 (mr_of (mpf hP 3) (by unfold opLetters; rw [if_neg (by omega), if_neg (by omega), if_pos (by simp only [Int.toNat_natCast]; omega)]) (fun h => absurd h (by decide)))
    · refine r_aload_n dX9_letters_29 rfl ?_
      refine r_iconst dX9_letters_30 ?_
      refine r_callV (mi := iX9_letters) vX9_100 dX9_letters_31 hM.o (m_fails hM.o 2) (hm := ⟨by omega, by omega⟩) (k := kP ?_) (kx := r_nox)
      exact r_iret dX9_letters_34 (mr_of (mpf hP 2) (by unfold opLetters; repeat (first | rw [if_pos (by omega)] | rw [if_neg (by omega)])) (fun h => absurd h (by decide)))
  · refine r_aload_n dX9_letters_13 rfl ?_
    refine r_iconst dX9_letters_14 ?_
    refine r_callV (mi := iX9_letters) vX9_100 dX9_letters_15 hM.o (m_fails hM.o 1) (hm := ⟨by omega, by omega⟩) (k := kP ?_) (kx := r_nox)
    exact r_iret dX9_letters_18 (mr_of (mpf hP 1) (by unfold opLetters; repeat (first | rw [if_pos (by omega)] | rw [if_neg (by omega)])) (fun h => absurd h (by decide)))
theorem m_parcel (hM : RM M Y σ) (hO : Ok σ T) (h w d : Int) (ha : inR h) (hb : inR w) (hl : inR d) : Ht G iX9_parcel yX9_parcel 10 [.ref (Y 0), .int (iz h), .int (iz w), .int (iz d)] M (MR Y M (opParcel σ h w d)) nX 0 0 := by
  obtain ⟨⟨p1, p2, p3, p4, p5, p6, -⟩, hS, -⟩ := hO
  refine ht_intro (by decide +kernel) rfl rfl rfl (Nat.le_of_ble_eq_true rfl) ?_
  refine r_aload_n dX9_parcel_0 rfl ?_
  refine r_iconst dX9_parcel_1 ?_
  refine r_putI qX9_81 dX9_parcel_2 hM.o (kk := ?_)
  refine gm (P := MP Y M σ 0) (mp0 hM) (fun M1 hP => ?_)
  have hM := hP.1
  refine r_aload_n dX9_parcel_5 rfl ?_
  refine r_iload_n dX9_parcel_6 rfl ?_
  refine r_callV (mi := iX9_parcel) vX9_114 dX9_parcel_7 hM.o (m_isHouse hM (by omega) h ha) (hm := ⟨by omega, by omega⟩) (k := kP ?_) (kx := r_nox)
  refine r_dif_ne (tgt := 19) dX9_parcel_10 (by decide) (kt := fun z10 => ?_) (kf := fun z10 => ?_)
  · refine r_iload_n dX9_parcel_19 rfl ?_
    refine r_iconst dX9_parcel_20 ?_
    refine r_bipush dX9_parcel_21 (k := ?_)
    refine r_callS (mi := iX9_parcel) vX9_87 dX9_parcel_23 (m_isBetween w 1 99 hb (by omega) (by omega)) (hm := ⟨by omega, by omega⟩) (k := kP ?_) (kx := r_nox)
    refine r_dif_eq (tgt := 40) dX9_parcel_26 (by decide) (kt := fun z26 => ?_) (kf := fun z26 => ?_)
    · refine r_aload_n dX9_parcel_40 rfl ?_
      refine r_iconst dX9_parcel_41 ?_
      refine r_callV (mi := iX9_parcel) vX9_100 dX9_parcel_42 hM.o (m_fails hM.o 2) (hm := ⟨by omega, by omega⟩) (k := kP ?_) (kx := r_nox)
      exact r_iret dX9_parcel_45 (mr_of (mpf hP 2) (by unfold opParcel; repeat (first | rw [if_pos (by omega)] | rw [if_neg (by omega)])) (fun h => absurd h (by decide)))
    · refine r_iload_n dX9_parcel_29 rfl ?_
      refine r_iconst dX9_parcel_30 ?_
      refine r_sipush dX9_parcel_31 (k := ?_)
      refine r_callS (mi := iX9_parcel) vX9_87 dX9_parcel_34 (m_isBetween d 1 999 hl (by omega) (by omega)) (hm := ⟨by omega, by omega⟩) (k := kP ?_) (kx := r_nox)
      refine r_dif_ne (tgt := 46) dX9_parcel_37 (by decide) (kt := fun z37 => ?_) (kf := fun z37 => ?_)
      · refine r_aload_n dX9_parcel_46 rfl ?_
        refine r_getI qX9_97 dX9_parcel_47 hM.o (x := iz (σ.1 4 : Int)) (hM.s 4) (kk := ?_)
        refine r_bipush dX9_parcel_50 (k := ?_)
        refine r_icmp_ne (tgt := 61) dX9_parcel_52 (by decide) (kt := fun z52 => ?_) (kf := fun z52 => ?_)
        · obtain ⟨h, rfl⟩ := nat_of (a := h) (by omega)
          obtain ⟨w, rfl⟩ := nat_of (a := w) (by omega)
          obtain ⟨d, rfl⟩ := nat_of (a := d) (by omega)
          have hP := ap_0 (σ.1 4) hP
          refine r_aload_n dX9_parcel_61 rfl ?_
          refine r_getR qX9_37 dX9_parcel_62 hM.o (hM.r 10) (kk := ?_)
          refine r_aload_n dX9_parcel_65 rfl ?_
          refine r_getI qX9_97 dX9_parcel_66 hM.o (x := iz (σ.1 4 : Int)) (hM.s 4) (kk := ?_)
          refine r_iload_n dX9_parcel_69 rfl ?_
          refine r_iast dX9_parcel_70 (hM.cc 10 11 20) rfl (k := ?_)
          refine gm (ap_st (v := h) hP) (fun M1 hP => ?_)
          have hM := hP.1.1
          refine r_aload_n dX9_parcel_71 rfl ?_
          refine r_getR qX9_40 dX9_parcel_72 hM.o (hM.r 11) (kk := ?_)
          refine r_aload_n dX9_parcel_75 rfl ?_
          refine r_getI qX9_97 dX9_parcel_76 hM.o (x := iz (σ.1 4 : Int)) (hM.s 4) (kk := ?_)
          refine r_iload_n dX9_parcel_79 rfl ?_
          refine r_iast dX9_parcel_80 (hM.cc 11 11 20) rfl (k := ?_)
          refine gm (ap_st (v := w) hP) (fun M1 hP => ?_)
          have hM := hP.1.1
          refine r_aload_n dX9_parcel_81 rfl ?_
          refine r_getR qX9_43 dX9_parcel_82 hM.o (hM.r 12) (kk := ?_)
          refine r_aload_n dX9_parcel_85 rfl ?_
          refine r_getI qX9_97 dX9_parcel_86 hM.o (x := iz (σ.1 4 : Int)) (hM.s 4) (kk := ?_)
          refine r_iload_n dX9_parcel_89 rfl ?_
          refine r_iast dX9_parcel_90 (hM.cc 12 11 20) rfl (k := ?_)
          refine gm (ap_st (v := d) hP) (fun M1 hP => ?_)
          have hM := hP.1.1
          refine r_aload_n dX9_parcel_91 rfl ?_
          refine r_getR qX9_50 dX9_parcel_92 hM.o (hM.r 14) (kk := ?_)
          refine r_aload_n dX9_parcel_95 rfl ?_
          refine r_getI qX9_97 dX9_parcel_96 hM.o (x := iz (σ.1 4 : Int)) (hM.s 4) (kk := ?_)
          refine r_iconst dX9_parcel_99 ?_
          refine r_zast (v := false) dX9_parcel_100 (hM.cc 14 12 20) rfl (k := ?_)
          refine gm (ap_st (v := 0) hP) (fun M1 hP => ?_)
          have hM := hP.1.1
          refine r_aload_n dX9_parcel_101 rfl ?_
          refine r_dup dX9_parcel_102 (k := ?_)
          refine r_getI qX9_97 dX9_parcel_103 hM.o (x := iz (σ.1 4 : Int)) (hM.s 4) (kk := ?_)
          refine r_iconst dX9_parcel_106 ?_
          refine r_iadd dX9_parcel_107 ?_
          refine r_putI qX9_97 dX9_parcel_108 hM.o (kk := ?_)
          refine gm (ap_grow hP 4) (fun M1 hP => ?_)
          have hM := hP.1
          refine r_aload_n dX9_parcel_111 rfl ?_
          refine r_getI qX9_97 dX9_parcel_112 hM.o (x := iz ((σ.1 4 + 1 : Nat) : Int)) (hM.s 4) (kk := ?_)
          refine r_iconst dX9_parcel_115 ?_
          refine r_isub dX9_parcel_116 ?_
          exact r_iret dX9_parcel_117 (mr_of hP (by unfold opParcel; repeat (first | rw [if_pos (by omega)] | rw [if_neg (by omega)]); try rfl) (fun _ => by congr 1; omega))
        · refine r_aload_n dX9_parcel_55 rfl ?_
          refine r_iconst dX9_parcel_56 ?_
          refine r_callV (mi := iX9_parcel) vX9_100 dX9_parcel_57 hM.o (m_fails hM.o 3) (hm := ⟨by omega, by omega⟩) (k := kP ?_) (kx := r_nox)
          exact r_iret dX9_parcel_60 (mr_of (mpf hP 3) (by unfold opParcel; repeat (first | rw [if_pos (by omega)] | rw [if_neg (by omega)])) (fun h => absurd h (by decide)))
      · refine r_aload_n dX9_parcel_40 rfl ?_
        refine r_iconst dX9_parcel_41 ?_
        refine r_callV (mi := iX9_parcel) vX9_100 dX9_parcel_42 hM.o (m_fails hM.o 2) (hm := ⟨by omega, by omega⟩) (k := kP ?_) (kx := r_nox)
        exact r_iret dX9_parcel_45 (mr_of (mpf hP 2) (by unfold opParcel; repeat (first | rw [if_pos (by omega)] | rw [if_neg (by omega)])) (fun h => absurd h (by decide)))
  · refine r_aload_n dX9_parcel_13 rfl ?_
    refine r_iconst dX9_parcel_14 ?_
    refine r_callV (mi := iX9_parcel) vX9_100 dX9_parcel_15 hM.o (m_fails hM.o 1) (hm := ⟨by omega, by omega⟩) (k := kP ?_) (kx := r_nox)
    exact r_iret dX9_parcel_18 (mr_of (mpf hP 1) (by unfold opParcel; repeat (first | rw [if_pos (by omega)] | rw [if_neg (by omega)])) (fun h => absurd h (by decide)))
theorem m_newDay (hM : RM M Y σ) (hO : Ok σ T) : Ht G iX9_newDay yX9_newDay 10 [.ref (Y 0)] M (MR Y M (opNewDay σ)) nX 0 0 := by
  obtain ⟨⟨p1, p2, p3, p4, p5, p6, p7, p8, p9, p10, p11, p12, p13, p14, p15⟩, hS, -⟩ := id hO
  have hc := cnt_le (post σ)
  refine ht_intro (by decide +kernel) rfl rfl rfl (Nat.le_of_ble_eq_true rfl) ?_
  have loop3 : ∀ (k i : Nat) (M1 : Mem), i + k = σ.1 2 → MP Y M (stF σ 8 (fun j => if j < i then 0 else σ.2 8 j)) 0 M1 → SWG G iX9_newDay (rmd 10 0 0) (QF G (MR Y M (opNewDay σ)) nX 0 0) 41 [(2, .int (iz (i : Int))), (1, .int (iz (cnt (post σ) (σ.1 2) : Int))), (0, .ref (Y 0))] [] M1 0 0 := by
    intro k
    induction k with
    | zero =>
      intro i M1 hi hP
      have hi2 : i = σ.1 2 := by omega
      subst hi2
      have e : (fun j => if j < σ.1 2 then 0 else σ.2 8 j) = fun _ => 0 := funext fun j => by
        by_cases e : j < σ.1 2
        · exact if_pos e
        · rw [if_neg e]; exact p15 j (by omega)
      rw [e] at hP
      have hM := hP.1
      refine r_iload_n dX9_newDay_41 rfl ?_
      refine r_aload_n dX9_newDay_42 rfl ?_
      refine r_getI qX9_91 dX9_newDay_43 hM.o (x := iz (σ.1 2 : Int)) (hM.s 2) (kk := ?_)
      refine r_icmp_ge (tgt := 62) dX9_newDay_46 (by decide) (kt := fun z46 => ?_) (kf := fun z46 => (by exfalso; first | omega | simp_all))
      refine r_aload_n dX9_newDay_62 rfl ?_
      refine r_iconst dX9_newDay_63 ?_
      refine r_putI qX9_97 dX9_newDay_64 hM.o (kk := ?_)
      refine gm (mp_s hP 4 0 (by omega)) (fun M1 hP => ?_)
      have hM := hP.1
      refine r_aload_n dX9_newDay_67 rfl ?_
      refine r_iconst dX9_newDay_68 ?_
      refine r_putI qX9_126 dX9_newDay_69 hM.o (kk := ?_)
      refine gm (mp_s hP 6 0 (by omega)) (fun M1 hP => ?_)
      refine r_iload_n dX9_newDay_72 rfl ?_
      exact r_iret dX9_newDay_73 (mr_of hP rfl (fun _ => rfl))
    | succ k ih =>
      intro i M1 hi hP
      have hM := hP.1
      refine r_iload_n dX9_newDay_41 rfl ?_
      refine r_aload_n dX9_newDay_42 rfl ?_
      refine r_getI qX9_91 dX9_newDay_43 hM.o (x := iz (σ.1 2 : Int)) (hM.s 2) (kk := ?_)
      refine r_icmp_ge (tgt := 62) dX9_newDay_46 (by decide) (kt := fun z46 => (by exfalso; first | omega | simp_all)) (kf := fun z46 => ?_)
      refine r_aload_n dX9_newDay_49 rfl ?_
      refine r_getR qX9_31 dX9_newDay_50 hM.o (hM.r 8) (kk := ?_)
      refine r_iload_n dX9_newDay_53 rfl ?_
      refine r_iconst dX9_newDay_54 ?_
      refine r_iast dX9_newDay_55 (hM.cc 8 11 30) rfl (k := ?_)
      refine r_iinc dX9_newDay_56 rfl (k := ?_)
      refine r_goto (tgt := 41) dX9_newDay_59 (by decide) ?_
      refine r_loc' (ih (i + 1) _ (by omega) ?_) ⟨rfl, rfl, rfl, trivial⟩
      rw [← stF_stF σ 8 (fun j => if j < i then 0 else σ.2 8 j)]
      refine mp_a hP 8 (fun j hj => ?_)
      have h0 := hM.v 8 j hj
      by_cases e : j = i
      · subst e; rw [if_pos (by omega)]; simp only [upd, if_pos]; rfl
      · simp only [upd, if_neg e]
        rw [h0]
        show iz _ = iz _
        congr 2
        rw [stF_at]
        show (if j < i then 0 else σ.2 8 j) = if j < i + 1 then 0 else σ.2 8 j
        by_cases e2 : j < i
        · rw [if_pos e2, if_pos (by omega)]
        · rw [if_neg e2, if_neg (by omega)]
  have loop : ∀ (k i : Nat) (M1 : Mem), i + k = σ.1 2 → MP Y M σ 0 M1 → SWG G iX9_newDay (rmd 10 0 0) (QF G (MR Y M (opNewDay σ)) nX 0 0) 9 [(2, .int (iz (i : Int))), (1, .int (iz (cnt (post σ) i : Int))), (0, .ref (Y 0))] [] M1 0 0 := by
    intro k
    induction k with
    | zero =>
      intro i M1 hi hP
      have hi2 : i = σ.1 2 := by omega
      subst hi2
      have hM := hP.1
      refine r_iload_n dX9_newDay_9 rfl ?_
      refine r_aload_n dX9_newDay_10 rfl ?_
      refine r_getI qX9_91 dX9_newDay_11 hM.o (x := iz (σ.1 2 : Int)) (hM.s 2) (kk := ?_)
      refine r_icmp_ge (tgt := 39) dX9_newDay_14 (by decide) (kt := fun z14 => ?_) (kf := fun z14 => (by exfalso; first | omega | simp_all))
      refine r_iconst dX9_newDay_39 ?_
      refine r_istore_n dX9_newDay_40 (k := ?_)
      refine r_loc' (loop3 (σ.1 2) 0 _ (by omega) ?_) ⟨rfl, rfl, rfl, trivial⟩
      have e : stF σ 8 (fun j => if j < 0 then 0 else σ.2 8 j) = σ := Prod.ext rfl (funext fun k => by
        by_cases e : k = 8
        · subst e; rw [stF_at]; exact funext fun j => if_neg (by omega)
        · exact up_n _ _ e)
      rw [e]; exact hP
    | succ k ih =>
      intro i M1 hi hP
      have hM := hP.1
      refine r_iload_n dX9_newDay_9 rfl ?_
      refine r_aload_n dX9_newDay_10 rfl ?_
      refine r_getI qX9_91 dX9_newDay_11 hM.o (x := iz (σ.1 2 : Int)) (hM.s 2) (kk := ?_)
      refine r_icmp_ge (tgt := 39) dX9_newDay_14 (by decide) (kt := fun z14 => (by exfalso; first | omega | simp_all)) (kf := fun z14 => ?_)
      refine r_iload_n dX9_newDay_17 rfl ?_
      refine r_aload_n dX9_newDay_18 rfl ?_
      refine r_iload_n dX9_newDay_19 rfl ?_
      refine r_callV (mi := iX9_newDay) vX9_123 dX9_newDay_20 hM.o (m_isDueNow hM hO i (by omega)) (hm := ⟨by omega, by omega⟩) (k := kP ?_) (kx := r_nox)
      refine r_bif_eq (tgt := 30) dX9_newDay_23 (by decide) (kt := fun z23 => ?_) (kf := fun z23 => ?_)
      · refine r_iconst dX9_newDay_30 ?_
        refine r_iadd dX9_newDay_31 ?_
        refine r_istore_n dX9_newDay_32 (k := ?_)
        refine r_iinc dX9_newDay_33 rfl (k := ?_)
        refine r_goto (tgt := 9) dX9_newDay_36 (by decide) ?_
        refine r_loc' (ih (i + 1) _ (by omega) hP) ⟨rfl, ?_, rfl, trivial⟩
        first
          | exact lkI (cnt_T (by assumption)).symm
          | exact lkI (cnt_F (by assumption)).symm
      · refine r_iconst dX9_newDay_26 ?_
        refine r_goto (tgt := 31) dX9_newDay_27 (by decide) ?_
        refine r_iadd dX9_newDay_31 ?_
        refine r_istore_n dX9_newDay_32 (k := ?_)
        refine r_iinc dX9_newDay_33 rfl (k := ?_)
        refine r_goto (tgt := 9) dX9_newDay_36 (by decide) ?_
        refine r_loc' (ih (i + 1) _ (by omega) hP) ⟨rfl, ?_, rfl, trivial⟩
        first
          | exact lkI (cnt_T (by assumption)).symm
          | exact lkI (cnt_F (by assumption)).symm
  refine r_aload_n dX9_newDay_0 rfl ?_
  refine r_iconst dX9_newDay_1 ?_
  refine r_putI qX9_81 dX9_newDay_2 hM.o (kk := ?_)
  refine gm (P := MP Y M σ 0) (mp0 hM) (fun M1 hP => ?_)
  have hM := hP.1
  refine r_iconst dX9_newDay_5 ?_
  refine r_istore_n dX9_newDay_6 (k := ?_)
  refine r_iconst dX9_newDay_7 ?_
  refine r_istore_n dX9_newDay_8 (k := ?_)
  exact r_loc' (loop (σ.1 2) 0 _ (by omega) hP) ⟨rfl, rfl, rfl, trivial⟩
end MD2
