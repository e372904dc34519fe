/-! The reference: the van's day, shares, a new reference. -/
section MD12A
variable {σ σ' : St}
theorem eg_congr (h2 : ∀ k, k = 1 ∨ k = 2 ∨ k = 3 → σ'.2 k = σ.2 k) (s a b : Nat) : eg σ' s a b = eg σ s a b := by
  induction s generalizing a b with
  | zero => rfl
  | succ s ih =>
    unfold eg
    rw [ih, ih, h2 1 (by omega), h2 2 (by omega), h2 3 (by omega)]
theorem fw_congr (h1 : σ'.1 1 = σ.1 1) (h2 : ∀ k, k = 1 ∨ k = 2 ∨ k = 3 → σ'.2 k = σ.2 k) (k a b : Nat) : fw σ' k a b = fw σ k a b := by
  induction k generalizing a b with
  | zero => unfold fw; rw [h1]; exact eg_congr h2 _ a b
  | succ k ih => unfold fw; rw [ih, ih, ih]
theorem dst_congr (h0 : σ'.1 0 = σ.1 0) (h1 : σ'.1 1 = σ.1 1) (h2 : ∀ k, k = 1 ∨ k = 2 ∨ k = 3 → σ'.2 k = σ.2 k) : dst σ' = dst σ := by
  funext a b; unfold dst; rw [h0]; exact fw_congr h1 h2 _ a b
/-- the van's numbers apart, and what is delivered, the same village -/
def Vn (σ' σ : St) : Prop := (∀ j, j < 6 → σ'.1 j = σ.1 j) ∧ ∀ k, k < 14 → σ'.2 k = σ.2 k
theorem Vn.d (h : Vn σ' σ) : dst σ' = dst σ := dst_congr (h.1 0 (by omega)) (h.1 1 (by omega)) (fun k hk => h.2 k (by omega))
theorem Vn.f (h : Vn σ' σ) (q : Nat) : fT σ' q = fT σ q := by
  unfold fT; rw [h.d, h.2 1 (by omega), h.2 5 (by omega), h.2 10 (by omega)]
theorem Vn.t (h : Vn σ' σ) (q : Nat) : tp σ' q = tp σ q := by
  unfold tp; rw [h.f, h.2 7 (by omega), h.2 10 (by omega)]
theorem Vn.p (h : Vn σ' σ) {q : Nat} (k : PqOk σ q) : PqOk σ' q := by
  unfold PqOk at *
  rw [h.1 0 (by omega), h.1 1 (by omega), h.1 2 (by omega), h.1 4 (by omega), h.2 1 (by omega), h.2 5 (by omega), h.2 7 (by omega), h.2 10 (by omega)]
  exact k
theorem Vn.rf : Vn σ σ := ⟨fun _ _ => rfl, fun _ _ => rfl⟩
theorem Vn.s (h : Vn σ' σ) {j v : Nat} (hj : 6 ≤ j) : Vn (stS σ' j v) σ := ⟨fun i hi => (up_n _ _ (by omega)).trans (h.1 i hi), h.2⟩
theorem Vn.a (h : Vn σ' σ) {i v : Nat} : Vn (stA σ' 14 i v) σ := ⟨h.1, fun k hk => (up_n _ _ (by omega)).trans (h.2 k hk)⟩
def dS (σ : St) (p : Nat) : St := stS (stA (stS σ 6 (σ.1 6 + tp σ p)) 14 p 1) 8 (σ.1 8 + 1)
theorem dS_v (p : Nat) : Vn (dS σ p) σ := ((Vn.rf.s (by omega)).a).s (by omega)
def opDispatch (σ : St) : Rs := if nh σ (σ.1 4) < 0 then (σ, 1, 0) else if 100000 ≤ fT σ (nh σ (σ.1 4)).toNat then (σ, 2, 0) else
  if σ.2 12 (nh σ (σ.1 4)).toNat + tp σ (nh σ (σ.1 4)).toNat / 2 < σ.1 6 + tp σ (nh σ (σ.1 4)).toNat then (stS (dS σ (nh σ (σ.1 4)).toNat) 7 (σ.1 7 + 1), 0, 1) else (stS (dS σ (nh σ (σ.1 4)).toNat) 7 (σ.1 7 + 0), 0, 0)
theorem opD_1 (h : nh σ (σ.1 4) < 0) : opDispatch σ = (σ, 1, 0) := if_pos h
theorem opD_2 {p : Nat} (h : nh σ (σ.1 4) = p) (h2 : 100000 ≤ fT σ p) : opDispatch σ = (σ, 2, 0) := by
  unfold opDispatch; rw [if_neg (by omega), h, Int.toNat_natCast]; exact if_pos h2
theorem opD_T {p : Nat} (h : nh σ (σ.1 4) = p) (h2 : ¬ 100000 ≤ fT σ p) (h3 : σ.2 12 p + tp σ p / 2 < σ.1 6 + tp σ p) : opDispatch σ = (stS (dS σ p) 7 (σ.1 7 + 1), 0, 1) := by
  unfold opDispatch; rw [if_neg (by omega), h, Int.toNat_natCast, if_neg h2]; exact if_pos h3
theorem opD_F {p : Nat} (h : nh σ (σ.1 4) = p) (h2 : ¬ 100000 ≤ fT σ p) (h3 : ¬ σ.2 12 p + tp σ p / 2 < σ.1 6 + tp σ p) : opDispatch σ = (stS (dS σ p) 7 (σ.1 7 + 0), 0, 0) := by
  unfold opDispatch; rw [if_neg (by omega), h, Int.toNat_natCast, if_neg h2]; exact if_neg h3
def sumL (σ : St) : Nat → Nat
  | 0 => 0
  | n + 1 => sumL σ n + σ.2 8 n
theorem sumL_le {T : Nat} (hO : Ok σ T) : ∀ n, n ≤ σ.1 2 → sumL σ n ≤ 99 * n
  | 0, _ => Nat.le_refl 0
  | n + 1, h => by
    have h1 := sumL_le hO n (by omega)
    have h2 := (hO.2.2.1 n (by omega)).2.2.2
    show sumL σ n + σ.2 8 n ≤ _
    omega
/-- a new village -/
def st0 : St := (fun j => if j = 0 then 1 else if j = 5 then 5 else if j = 10 then 30 else 0, fun _ _ => 0)
theorem st0_ok : Ok st0 0 := by
  refine ⟨⟨by decide, by decide, by decide, by decide, by decide, by decide, by decide, by decide, by decide, by decide, by decide, by decide, by decide, by decide, fun _ _ => rfl⟩, fun i hi => absurd hi (Nat.not_lt_zero i), fun i hi => absurd hi (Nat.not_lt_zero i), fun i hi => absurd hi (Nat.not_lt_zero i), fun i hi => absurd hi (Nat.not_lt_zero i)⟩
end MD12A
section MD12
variable {G : GC} {M M0 : Mem} {Y : Nat → Nat} {σ : St} {T : Nat}
theorem m_dispatch (hM : RM M Y σ) (hO : Ok σ T) : Ht G iX9_dispatch yX9_dispatch 10 [.ref (Y 0)] M (MR Y M (opDispatch σ)) nX 0 0 := by
  have p6 := hO.1.2.2.2.2.2.1
  have p8 := hO.1.2.2.2.2.2.2.2.1
  have p9 := hO.1.2.2.2.2.2.2.2.2.1
  have p10 := hO.1.2.2.2.2.2.2.2.2.2.1
  have pT := hO.1.2.2.2.2.2.2.2.2.2.2.2.2.1
  have hn := nh_rg (σ := σ) (σ.1 4)
  refine ht_intro (by decide +kernel) rfl rfl rfl (Nat.le_of_ble_eq_true rfl) ?_
  refine r_aload_n dX9_dispatch_0 rfl ?_
  refine r_iconst dX9_dispatch_1 ?_
  refine r_putI qX9_81 dX9_dispatch_2 hM.o (kk := ?_)
  refine gm (P := MP Y M σ 0) (mp0 hM) (fun M1 hP => ?_)
  have hM := hP.1
  refine r_aload_n dX9_dispatch_5 rfl ?_
  refine r_callV (mi := iX9_dispatch) vX9_233 dX9_dispatch_6 hM.o (m_nextHeavy hM hO) (hm := ⟨by omega, by omega⟩) (k := kI (fun r M2 hP2 => ?_)) (kx := r_nox)
  obtain ⟨hK, hF, hr⟩ := hP2
  subst hr
  have hP := hK.mp hP
  have hM := hP.1
  refine r_istore_n dX9_dispatch_9 (k := ?_)
  refine r_iload_n dX9_dispatch_10 rfl ?_
  refine r_if_ge (tgt := 28) dX9_dispatch_11 (by decide) (kt := fun z11 => ?_) (kf := fun z11 => ?_)
  · obtain ⟨p, hp⟩ := nat_of (a := nh σ (σ.1 4)) (by omega)
    rw [hp]
    have hp4 : p < σ.1 4 := by omega
    have hq := hO.pq hp4
    have l1 : fT σ p ≤ 100000 := dst_le _ _
    have l2 : tp σ p ≤ 70000 := by unfold tp; have := hq.2.2.2.2.2.2.2.2.1; omega
    have a12 := (hO.2.2.2.2 p hp4).2.2.2.2.1
    refine r_aload_n dX9_dispatch_28 rfl ?_
    refine r_iload_n dX9_dispatch_29 rfl ?_
    refine r_callV (mi := iX9_dispatch) vX9_227 dX9_dispatch_30 hM.o (m_farTo hM p hq hF) (hm := ⟨by omega, by omega⟩) (k := kP ?_) (kx := r_nox)
    refine r_ldc (n := 100000) kX9_136 dX9_dispatch_33 (k := ?_)
    refine r_icmp_lt (tgt := 52) dX9_dispatch_35 (by decide) (kt := fun z35 => ?_) (kf := fun z35 => ?_)
    · refine r_aload_n dX9_dispatch_52 rfl ?_
      refine r_dup dX9_dispatch_53 (k := ?_)
      refine r_getI qX9_126 dX9_dispatch_54 hM.o (x := iz (σ.1 6 : Int)) (hM.s 6) (kk := ?_)
      refine r_aload_n dX9_dispatch_57 rfl ?_
      refine r_iload_n dX9_dispatch_58 rfl ?_
      refine r_callV (mi := iX9_dispatch) vX9_237 dX9_dispatch_59 hM.o (m_trip hM p hq hF) (hm := ⟨by omega, by omega⟩) (k := kP ?_) (kx := r_nox)
      refine r_iadd dX9_dispatch_62 ?_
      refine r_putI qX9_126 dX9_dispatch_63 hM.o (kk := ?_)
      refine gm (P := fun M' => MP Y M (stS σ 6 (σ.1 6 + tp σ p)) 0 M' ∧ FarP Y (σ.1 0) (dst σ) M') ⟨mp_s hP 6 _ (Or.inr ⟨by decide, by decide⟩), hF⟩ (fun M3 hP3 => ?_)
      obtain ⟨hP, hF⟩ := hP3
      have hM := hP.1
      refine r_aload_n dX9_dispatch_66 rfl ?_
      refine r_getR qX9_50 dX9_dispatch_67 hM.o (hM.r 14) (kk := ?_)
      refine r_iload_n dX9_dispatch_70 rfl ?_
      refine r_iconst dX9_dispatch_71 ?_
      refine r_zast dX9_dispatch_72 (v := true) (hM.cc 14 12 20) rfl (k := ?_)
      refine gm (P := fun M' => MP Y M (stA (stS σ 6 (σ.1 6 + tp σ p)) 14 p 1) 0 M' ∧ FarP Y (σ.1 0) (dst σ) M') ⟨(ap_st (v := 1) (ap_0 p hP)).1, fun a b ha hb => (congrFun (mA_sAn _ _ _ _ (hM.ne (by decide : (25 : Nat) ≠ 14))) _).trans (hF a b ha hb)⟩ (fun M4 hP4 => ?_)
      obtain ⟨hP, hF⟩ := hP4
      have hM := hP.1
      refine r_aload_n dX9_dispatch_73 rfl ?_
      refine r_dup dX9_dispatch_74 (k := ?_)
      refine r_getI qX9_240 dX9_dispatch_75 hM.o (x := iz (σ.1 8 : Int)) (hM.s 8) (kk := ?_)
      refine r_iconst dX9_dispatch_78 ?_
      refine r_iadd dX9_dispatch_79 ?_
      refine r_putI qX9_240 dX9_dispatch_80 hM.o (kk := ?_)
      refine gm (P := fun M' => MP Y M (dS σ p) 0 M' ∧ FarP Y (σ.1 0) (dst σ) M') ⟨mp_s hP 8 _ (Or.inr ⟨by decide, by decide⟩), hF⟩ (fun M5 hP5 => ?_)
      obtain ⟨hP, hF⟩ := hP5
      have hM := hP.1
      have hV := dS_v (σ := σ) p
      rw [← hV.d, ← hV.1 0 (by omega)] at hF
      have m12 : mA M5 (Y 12) p = iz (σ.2 12 p : Int) := by
        have := hM.v 12 p (by show p < (dS σ p).1 4; rw [hV.1 4 (by omega)]; exact hp4)
        rw [hV.2 12 (by omega)] at this
        exact this
      refine r_aload_n dX9_dispatch_83 rfl ?_
      refine r_getI qX9_126 dX9_dispatch_84 hM.o (x := iz ((σ.1 6 + tp σ p : Nat) : Int)) (hM.s 6) (kk := ?_)
      refine r_aload_n dX9_dispatch_87 rfl ?_
      refine r_iload_n dX9_dispatch_88 rfl ?_
      refine r_callV (mi := iX9_dispatch) vX9_237 dX9_dispatch_89 hM.o (m_trip hM p (hV.p hq) hF) (hm := ⟨by omega, by omega⟩) (k := kP ?_) (kx := r_nox)
      rw [hV.t]
      refine r_iconst dX9_dispatch_92 ?_
      refine r_idiv dX9_dispatch_93 (k := ?_)
      refine r_isub dX9_dispatch_94 ?_
      refine r_aload_n dX9_dispatch_95 rfl ?_
      refine r_getR qX9_43 dX9_dispatch_96 hM.o (hM.r 12) (kk := ?_)
      refine r_iload_n dX9_dispatch_99 rfl ?_
      refine r_iald dX9_dispatch_100 (hM.cc 12 11 20) rfl m12 (k := ?_)
      refine r_icmp_le (tgt := 108) dX9_dispatch_101 (by decide) (kt := fun z101 => ?_) (kf := fun z101 => ?_)
      · refine r_iconst dX9_dispatch_108 ?_
        refine r_istore_n dX9_dispatch_109 (k := ?_)
        refine r_aload_n dX9_dispatch_110 rfl ?_
        refine r_dup dX9_dispatch_111 (k := ?_)
        refine r_getI qX9_243 dX9_dispatch_112 hM.o (x := iz (σ.1 7 : Int)) (hM.s 7) (kk := ?_)
        refine r_iload_n dX9_dispatch_115 rfl ?_
        refine r_if_eq (tgt := 123) dX9_dispatch_116 (by decide) (kt := fun z116 => ?_) (kf := fun z116 => ?_)
        · refine r_iconst dX9_dispatch_123 ?_
          refine r_iadd dX9_dispatch_124 ?_
          refine r_putI qX9_243 dX9_dispatch_125 hM.o (kk := ?_)
          refine r_iload_n dX9_dispatch_128 rfl ?_
          first
           | (exfalso; omega)
           | (have h9 := opD_T hp (by omega) (by omega)
              exact r_zret (x := true) dX9_dispatch_129 (mr_of (mp_s hP 7 (σ.1 7 + 1) (Or.inr ⟨by decide, by decide⟩)) h9 (fun _ => rfl)))
           | (have h9 := opD_F hp (by omega) (by omega)
              exact r_zret (x := false) dX9_dispatch_129 (mr_of (mp_s hP 7 (σ.1 7 + 0) (Or.inr ⟨by decide, by decide⟩)) h9 (fun _ => rfl)))
        · refine r_iconst dX9_dispatch_119 ?_
          refine r_goto (tgt := 124) dX9_dispatch_120 (by decide) ?_
          refine r_iadd dX9_dispatch_124 ?_
          refine r_putI qX9_243 dX9_dispatch_125 hM.o (kk := ?_)
          refine r_iload_n dX9_dispatch_128 rfl ?_
          first
           | (exfalso; omega)
           | (have h9 := opD_T hp (by omega) (by omega)
              exact r_zret (x := true) dX9_dispatch_129 (mr_of (mp_s hP 7 (σ.1 7 + 1) (Or.inr ⟨by decide, by decide⟩)) h9 (fun _ => rfl)))
           | (have h9 := opD_F hp (by omega) (by omega)
              exact r_zret (x := false) dX9_dispatch_129 (mr_of (mp_s hP 7 (σ.1 7 + 0) (Or.inr ⟨by decide, by decide⟩)) h9 (fun _ => rfl)))
      · refine r_iconst dX9_dispatch_104 ?_
        refine r_goto (tgt := 109) dX9_dispatch_105 (by decide) ?_
        refine r_istore_n dX9_dispatch_109 (k := ?_)
        refine r_aload_n dX9_dispatch_110 rfl ?_
        refine r_dup dX9_dispatch_111 (k := ?_)
        refine r_getI qX9_243 dX9_dispatch_112 hM.o (x := iz (σ.1 7 : Int)) (hM.s 7) (kk := ?_)
        refine r_iload_n dX9_dispatch_115 rfl ?_
        refine r_if_eq (tgt := 123) dX9_dispatch_116 (by decide) (kt := fun z116 => ?_) (kf := fun z116 => ?_)
        · refine r_iconst dX9_dispatch_123 ?_
          refine r_iadd dX9_dispatch_124 ?_
          refine r_putI qX9_243 dX9_dispatch_125 hM.o (kk := ?_)
          refine r_iload_n dX9_dispatch_128 rfl ?_
          first
           | (exfalso; omega)
           | (have h9 := opD_T hp (by omega) (by omega)
              exact r_zret (x := true) dX9_dispatch_129 (mr_of (mp_s hP 7 (σ.1 7 + 1) (Or.inr ⟨by decide, by decide⟩)) h9 (fun _ => rfl)))
           | (have h9 := opD_F hp (by omega) (by omega)
              exact r_zret (x := false) dX9_dispatch_129 (mr_of (mp_s hP 7 (σ.1 7 + 0) (Or.inr ⟨by decide, by decide⟩)) h9 (fun _ => rfl)))
        · refine r_iconst dX9_dispatch_119 ?_
          refine r_goto (tgt := 124) dX9_dispatch_120 (by decide) ?_
          refine r_iadd dX9_dispatch_124 ?_
          refine r_putI qX9_243 dX9_dispatch_125 hM.o (kk := ?_)
          refine r_iload_n dX9_dispatch_128 rfl ?_
          first
           | (exfalso; omega)
           | (have h9 := opD_T hp (by omega) (by omega)
              exact r_zret (x := true) dX9_dispatch_129 (mr_of (mp_s hP 7 (σ.1 7 + 1) (Or.inr ⟨by decide, by decide⟩)) h9 (fun _ => rfl)))
           | (have h9 := opD_F hp (by omega) (by omega)
              exact r_zret (x := false) dX9_dispatch_129 (mr_of (mp_s hP 7 (σ.1 7 + 0) (Or.inr ⟨by decide, by decide⟩)) h9 (fun _ => rfl)))
    · refine r_aload_n dX9_dispatch_38 rfl ?_
      refine r_iconst dX9_dispatch_39 ?_
      refine r_callV (mi := iX9_dispatch) vX9_100 dX9_dispatch_40 hM.o (m_fails hM.o 2) (hm := ⟨by omega, by omega⟩) (k := kP ?_) (kx := r_nox)
      refine r_if_le (tgt := 50) dX9_dispatch_43 (by decide) (kt := fun z43 => ?_) (kf := fun z43 => (by exfalso; first | omega | simp_all))
      refine r_iconst dX9_dispatch_50 ?_
      exact r_zret (x := false) dX9_dispatch_51 (mr_of (mpf hP 2) (opD_2 hp (by omega)) (fun h => absurd h (by decide)))
  · refine r_aload_n dX9_dispatch_14 rfl ?_
    refine r_iconst dX9_dispatch_15 ?_
    refine r_callV (mi := iX9_dispatch) vX9_100 dX9_dispatch_16 hM.o (m_fails hM.o 1) (hm := ⟨by omega, by omega⟩) (k := kP ?_) (kx := r_nox)
    refine r_if_le (tgt := 26) dX9_dispatch_19 (by decide) (kt := fun z19 => ?_) (kf := fun z19 => (by exfalso; first | omega | simp_all))
    refine r_iconst dX9_dispatch_26 ?_
    exact r_zret (x := false) dX9_dispatch_27 (mr_of (mpf hP 1) (opD_1 (by omega)) (fun h => absurd h (by decide)))
theorem m_lateShare (hM : RM M Y σ) (hO : Ok σ T) : Ht G iX9_lateShare yX9_lateShare 10 [.ref (Y 0)] M (rF fun r M' => MP Y M σ (if σ.1 8 = 0 then 1 else 0) M' ∧ (σ.1 8 ≠ 0 → r = FP.fdiv (FP.i2f (iz (σ.1 7 : Int))) (FP.i2f (iz (σ.1 8 : Int))))) nX 0 0 := by
  have p9 := hO.1.2.2.2.2.2.2.2.2.1
  have p10 := hO.1.2.2.2.2.2.2.2.2.2.1
  have pT := hO.1.2.2.2.2.2.2.2.2.2.2.2.2.1
  refine ht_intro (by decide +kernel) rfl rfl rfl (Nat.le_of_ble_eq_true rfl) ?_
  refine r_aload_n dX9_lateShare_0 rfl ?_
  refine r_iconst dX9_lateShare_1 ?_
  refine r_putI qX9_81 dX9_lateShare_2 hM.o (kk := ?_)
  refine gm (P := MP Y M σ 0) (mp0 hM) (fun M1 hP => ?_)
  have hM := hP.1
  refine r_aload_n dX9_lateShare_5 rfl ?_
  refine r_getI qX9_240 dX9_lateShare_6 hM.o (x := iz (σ.1 8 : Int)) (hM.s 8) (kk := ?_)
  refine r_if_ne (tgt := 19) dX9_lateShare_9 (by decide) (kt := fun z9 => ?_) (kf := fun z9 => ?_)
  · refine r_aload_n dX9_lateShare_19 rfl ?_
    refine r_getI qX9_243 dX9_lateShare_20 hM.o (x := iz (σ.1 7 : Int)) (hM.s 7) (kk := ?_)
    refine r_i2f dX9_lateShare_23 ?_
    refine r_aload_n dX9_lateShare_24 rfl ?_
    refine r_getI qX9_240 dX9_lateShare_25 hM.o (x := iz (σ.1 8 : Int)) (hM.s 8) (kk := ?_)
    refine r_i2f dX9_lateShare_28 ?_
    refine r_fdiv dX9_lateShare_29 (fdiv_ok (fin_i2f _ (by omega)).1 ((fin_i2f _ (by omega)).2 (by omega))) ?_
    have e : (if σ.1 8 = 0 then 1 else 0 : Nat) = 0 := if_neg (by omega)
    exact r_fret dX9_lateShare_30 ⟨_, rfl, by rw [e]; exact hP, fun _ => rfl⟩
  · refine r_aload_n dX9_lateShare_12 rfl ?_
    refine r_iconst dX9_lateShare_13 ?_
    refine r_callV (mi := iX9_lateShare) vX9_100 dX9_lateShare_14 hM.o (m_fails hM.o 1) (hm := ⟨by omega, by omega⟩) (k := kP ?_) (kx := r_nox)
    refine r_i2f dX9_lateShare_17 ?_
    have e : (if σ.1 8 = 0 then 1 else 0 : Nat) = 1 := if_pos (by omega)
    exact r_fret dX9_lateShare_18 ⟨_, rfl, by rw [e]; exact mpf hP 1, fun h => absurd h (by omega)⟩
theorem m_meanLetters (hM : RM M Y σ) (hO : Ok σ T) : Ht G iX9_meanLetters yX9_meanLetters 10 [.ref (Y 0)] M (rD fun r M' => MP Y M σ (if cnt (post σ) (σ.1 2) = 0 then 1 else 0) M' ∧ (cnt (post σ) (σ.1 2) ≠ 0 → r = FP.ddiv (FP.i2d (iz (sumL σ (σ.1 2) : Int))) (FP.i2d (iz (cnt (post σ) (σ.1 2) : Int))))) nX 0 0 := by
  have p4 := hO.1.2.2.2.1
  have hc := cnt_le (post σ) (σ.1 2)
  have hs := sumL_le hO (σ.1 2) (Nat.le_refl _)
  refine ht_intro (by decide +kernel) rfl rfl rfl (Nat.le_of_ble_eq_true rfl) ?_
  have loop : ∀ (M1 : Mem), MP Y M σ 0 M1 → ∀ (k i : Nat), i + k = σ.1 2 → SWG G iX9_meanLetters (rmd 10 0 0) (QF G (rD fun r M' => MP Y M σ (if cnt (post σ) (σ.1 2) = 0 then 1 else 0) M' ∧ (cnt (post σ) (σ.1 2) ≠ 0 → r = FP.ddiv (FP.i2d (iz (sumL σ (σ.1 2) : Int))) (FP.i2d (iz (cnt (post σ) (σ.1 2) : Int))))) nX 0 0) 11 [(3, .int (iz (i : Int))), (2, .int (iz (sumL σ i : Int))), (1, .int (iz (cnt (post σ) i : Int))), (0, .ref (Y 0))] [] M1 0 0 := by
    intro M1 hP k
    have hM := hP.1
    induction k with
    | zero =>
      intro i hi
      have hi2 : i = σ.1 2 := by omega
      subst hi2
      refine r_iload_n dX9_meanLetters_11 rfl ?_
      refine r_aload_n dX9_meanLetters_12 rfl ?_
      refine r_getI qX9_91 dX9_meanLetters_13 hM.o (x := iz (σ.1 2 : Int)) (hM.s 2) (kk := ?_)
      refine r_icmp_ge (tgt := 50) dX9_meanLetters_16 (by decide) (kt := fun z16 => ?_) (kf := fun z16 => (by exfalso; first | omega | simp_all))
      refine r_iload_n dX9_meanLetters_50 rfl ?_
      refine r_if_ne (tgt := 61) dX9_meanLetters_51 (by decide) (kt := fun z51 => ?_) (kf := fun z51 => ?_)
      · refine r_iload_n dX9_meanLetters_61 rfl ?_
        refine r_i2d dX9_meanLetters_62 ?_
        refine r_iload_n dX9_meanLetters_63 rfl ?_
        refine r_i2d dX9_meanLetters_64 ?_
        refine r_ddiv dX9_meanLetters_65 (ddiv_ok (fin_i2d _ (by omega)) (fin_i2d2 _ (by omega) (by omega))) ?_
        have e : (if cnt (post σ) (σ.1 2) = 0 then 1 else 0 : Nat) = 0 := if_neg (by omega)
        exact r_dret dX9_meanLetters_66 ⟨_, rfl, by rw [e]; exact hP, fun _ => rfl⟩
      · refine r_aload_n dX9_meanLetters_54 rfl ?_
        refine r_iconst dX9_meanLetters_55 ?_
        refine r_callV (mi := iX9_meanLetters) vX9_100 dX9_meanLetters_56 hM.o (m_fails hM.o 1) (hm := ⟨by omega, by omega⟩) (k := kP ?_) (kx := r_nox)
        refine r_i2d dX9_meanLetters_59 ?_
        have e : (if cnt (post σ) (σ.1 2) = 0 then 1 else 0 : Nat) = 1 := if_pos (by omega)
        exact r_dret dX9_meanLetters_60 ⟨_, rfl, by rw [e]; exact mpf hP 1, fun h => absurd h (by omega)⟩
    | succ k ih =>
      intro i hi
      have hi3 : i < σ.1 2 := by omega
      refine r_iload_n dX9_meanLetters_11 rfl ?_
      refine r_aload_n dX9_meanLetters_12 rfl ?_
      refine r_getI qX9_91 dX9_meanLetters_13 hM.o (x := iz (σ.1 2 : Int)) (hM.s 2) (kk := ?_)
      refine r_icmp_ge (tgt := 50) dX9_meanLetters_16 (by decide) (kt := fun z16 => (by exfalso; first | omega | simp_all)) (kf := fun z16 => ?_)
      refine r_iload_n dX9_meanLetters_19 rfl ?_
      refine r_aload_n dX9_meanLetters_20 rfl ?_
      refine r_iload_n dX9_meanLetters_21 rfl ?_
      refine r_callV (mi := iX9_meanLetters) vX9_123 dX9_meanLetters_22 hM.o (m_isDueNow hM hO i hi3) (hm := ⟨by omega, by omega⟩) (k := kP ?_) (kx := r_nox)
      refine r_bif_eq (tgt := 32) dX9_meanLetters_25 (by decide) (kt := fun z25 => ?_) (kf := fun z25 => ?_)
      · refine r_iconst dX9_meanLetters_32 ?_
        refine r_iadd dX9_meanLetters_33 ?_
        refine r_istore_n dX9_meanLetters_34 (k := ?_)
        refine r_iload_n dX9_meanLetters_35 rfl ?_
        refine r_aload_n dX9_meanLetters_36 rfl ?_
        refine r_getR qX9_31 dX9_meanLetters_37 hM.o (hM.r 8) (kk := ?_)
        refine r_iload_n dX9_meanLetters_40 rfl ?_
        refine r_iald dX9_meanLetters_41 (hM.cc 8 11 30) rfl (hM.v 8 _ (hO.h8 hi3)) (k := ?_)
        refine r_iadd dX9_meanLetters_42 ?_
        refine r_istore_n dX9_meanLetters_43 (k := ?_)
        refine r_iinc dX9_meanLetters_44 rfl (k := ?_)
        refine r_goto (tgt := 11) dX9_meanLetters_47 (by decide) ?_
        first
         | exact r_loc' (ih (i + 1) (by omega)) ⟨rfl, rfl, lkI (cnt_T (by assumption)).symm, rfl, trivial⟩
         | exact r_loc' (ih (i + 1) (by omega)) ⟨rfl, rfl, lkI (cnt_F (by assumption)).symm, rfl, trivial⟩
         | exact r_loc' (ih (i + 1) (by omega)) ⟨rfl, rfl, lkI (by rw [cnt_F (by assumption)]; omega), rfl, trivial⟩
      · refine r_iconst dX9_meanLetters_28 ?_
        refine r_goto (tgt := 33) dX9_meanLetters_29 (by decide) ?_
        refine r_iadd dX9_meanLetters_33 ?_
        refine r_istore_n dX9_meanLetters_34 (k := ?_)
        refine r_iload_n dX9_meanLetters_35 rfl ?_
        refine r_aload_n dX9_meanLetters_36 rfl ?_
        refine r_getR qX9_31 dX9_meanLetters_37 hM.o (hM.r 8) (kk := ?_)
        refine r_iload_n dX9_meanLetters_40 rfl ?_
        refine r_iald dX9_meanLetters_41 (hM.cc 8 11 30) rfl (hM.v 8 _ (hO.h8 hi3)) (k := ?_)
        refine r_iadd dX9_meanLetters_42 ?_
        refine r_istore_n dX9_meanLetters_43 (k := ?_)
        refine r_iinc dX9_meanLetters_44 rfl (k := ?_)
        refine r_goto (tgt := 11) dX9_meanLetters_47 (by decide) ?_
        first
         | exact r_loc' (ih (i + 1) (by omega)) ⟨rfl, rfl, lkI (cnt_T (by assumption)).symm, rfl, trivial⟩
         | exact r_loc' (ih (i + 1) (by omega)) ⟨rfl, rfl, lkI (cnt_F (by assumption)).symm, rfl, trivial⟩
         | exact r_loc' (ih (i + 1) (by omega)) ⟨rfl, rfl, lkI (by rw [cnt_F (by assumption)]; omega), rfl, trivial⟩
  refine r_aload_n dX9_meanLetters_0 rfl ?_
  refine r_iconst dX9_meanLetters_1 ?_
  refine r_putI qX9_81 dX9_meanLetters_2 hM.o (kk := ?_)
  refine gm (P := MP Y M σ 0) (mp0 hM) (fun M1 hP => ?_)
  refine r_iconst dX9_meanLetters_5 ?_
  refine r_istore_n dX9_meanLetters_6 (k := ?_)
  refine r_iconst dX9_meanLetters_7 ?_
  refine r_istore_n dX9_meanLetters_8 (k := ?_)
  refine r_iconst dX9_meanLetters_9 ?_
  refine r_istore_n dX9_meanLetters_10 (k := ?_)
  exact r_loc' (loop M1 hP (σ.1 2) 0 (by omega)) ⟨rfl, rfl, rfl, rfl, trivial⟩
/-- a reference under way: its first n rows are laid -/
def IM (M0 : Mem) (a n : Nat) (S : Nat → Int32) (M1 : Mem) : Prop := mN M1 = mN M0 + n ∧ mC M1 a = some (9, 0) ∧ (∀ i, i < n → mR M1 (576 + arK.getD i 0) a = some (mN M0 + i) ∧ mC M1 (mN M0 + i) = some (arT (arK.getD i 0), arL (arK.getD i 0)) ∧ mA M1 (mN M0 + i) = fun _ => 0) ∧ (∀ j, j < 9 → mI M1 (591 + j) a = S j) ∧ mJ M1 600 a = 0 ∧ mI M1 576 a = 0 ∧ ∀ b, b < mN M0 → b ≠ a → Sm M0 M1 b
theorem IM.st {a n : Nat} {S : Nat → Int32} {M1 : Mem} (ha : a < mN M0) (h : IM M0 a n S M1) {k t z : Nat} (hk : arK.getD n 0 = k) (ht : arT k = t) (hz : arL k = z) (hd : ∀ i, i < n → arK.getD i 0 ≠ k) : IM M0 a (n + 1) S (sR (nw M1 t z) (576 + k) (va_up (mR (nw M1 t z) (576 + k)) a (some (mN M1)))) := by
  obtain ⟨h1, h2, h3, h4, h5, h6, h7⟩ := h
  have sa : ∀ b, b < mN M1 → Sm M1 (nw M1 t z) b := fun b hb => Sm.nw (Nat.ne_of_lt hb)
  refine ⟨by show mN M1 + 1 = _; omega, (sa a (by omega)).c h2, fun i hi => ?_, fun j hj => (sa a (by omega)).i (h4 j hj), (sa a (by omega)).j h5, (sa a (by omega)).i h6, fun b hb hba => (h7 b hb hba).tr ((sa b (by omega)).tr (Sm.Ru hba))⟩
  by_cases e : i = n
  · subst e
    rw [hk, ← h1]
    refine ⟨by rw [mR_sR, up_s], ?_, ?_⟩
    · show mC (nw M1 t z) (mN M1) = _
      rw [nw_c, ht, hz]
    · show mA (nw M1 t z) (mN M1) = _
      exact nw_a _ _ _
  · obtain ⟨g1, g2, g3⟩ := h3 i (by omega)
    have hne : 576 + arK.getD i 0 ≠ 576 + k := by have := hd i (by omega); omega
    refine ⟨?_, (sa _ (by omega)).c g2, (sa (mN M0 + i) (by omega)).aa.trans g3⟩
    rw [mR_sRn _ _ _ _ hne]
    exact (sa a (by omega)).r g1
theorem IM.i {a n j : Nat} {S : Nat → Int32} {M1 : Mem} {x : Int32} (h : IM M0 a n S M1) (hj : j < 9) : IM M0 a n (upd S j x) (sI M1 (591 + j) (upd (mI M1 (591 + j)) a x)) := by
  obtain ⟨h1, h2, h3, h4, h5, h6, h7⟩ := h
  refine ⟨h1, h2, h3, fun i hi => ?_, h5, ?_, fun b hb hba => (h7 b hb hba).tr (Sm.Iu hba)⟩
  · by_cases e : i = j
    · subst e; rw [mI_sI]; simp [upd]
    · rw [mI_sIn _ _ _ _ (by omega), h4 i hi]; simp [upd, e]
  · rw [mI_sIn _ _ _ _ (by omega)]; exact h6
theorem IM.c {a n : Nat} {S : Nat → Int32} {M1 : Mem} (h : IM M0 a n S M1) {t z : Nat} (ha : a < mN M0) : mC (nw M1 t z) a = some (9, 0) := (Sm.nw (by have := h.1; omega)).c h.2.1
/-- a new reference: its address, its rows behind n0 -/
def Y0 (a n0 k : Nat) : Nat := if k = 0 then a else n0 + arK.idxOf k
theorem idx_lt {k : Nat} (h : k ∈ arK) : arK.idxOf k < 21 := by
  have : ∀ k ∈ arK, arK.idxOf k < 21 := by decide
  exact this k h
theorem idx_at {k : Nat} (h : k ∈ arK) : arK.getD (arK.idxOf k) 0 = k := by
  have : ∀ k ∈ arK, arK.getD (arK.idxOf k) 0 = k := by decide
  exact this k h
theorem rm00 {a : Nat} {S : Nat → Int32} {M1 : Mem} (h : IM M0 a 21 (upd (upd S 0 (iz 1)) 5 (iz 5)) M1) (ha : a < mN M0) (hS : ∀ j, S j = 0 := by intro; rfl) : RM M1 (Y0 a (mN M0)) st0 := by
  obtain ⟨h1, h2, h3, h4, h5, h6, h7⟩ := h
  have y0 : Y0 a (mN M0) 0 = a := if_pos rfl
  have yk : ∀ k, k ∈ arK → Y0 a (mN M0) k = mN M0 + arK.idxOf k := fun k hk => if_neg (by intro e; subst e; revert hk; decide)
  have key : ∀ k, k ∈ arK → mR M1 (576 + k) a = some (Y0 a (mN M0) k) ∧ mC M1 (Y0 a (mN M0) k) = some (arT k, arL k) ∧ mA M1 (Y0 a (mN M0) k) = fun _ => 0 := fun k hk => by
    have := h3 _ (idx_lt hk)
    rw [idx_at hk, ← yk k hk] at this
    exact this
  refine ⟨by rw [y0]; exact h2, fun k hk => ⟨by rw [y0]; exact (key k hk).1, (key k hk).2.1⟩, fun k j hk hj e => ?_, fun j hj => ?_, by rw [y0, h5]; decide +kernel, fun k g1 g2 i hi => ?_⟩
  · rw [yk k hk, yk j hj] at e
    rw [← idx_at hk, ← idx_at hj]
    congr 1
    omega
  · rw [y0, h4 j hj]
    have q : ∀ j, j < 9 → (upd (upd (fun _ => (0 : Int32)) 0 (iz 1)) 5 (iz 5)) j = iz (st0.1 j : Int) := by decide +kernel
    rw [show S = fun _ => 0 from funext hS]
    exact q j hj
  · rw [(key k (arK_of k g1 g2)).2.2]
    by_cases e : k = 4
    · subst e; exact absurd hi (Nat.not_lt_zero i)
    · show (0 : Int32) = (if k = 4 then _ else iz ((0 : Nat) : Int))
      rw [if_neg e]; decide +kernel
theorem m_init {a : Nat} (hc : mC M a = some (9, 0)) (ha : a < mN M) (h0 : ∀ f, mI M f a = 0) (hj : ∀ f, mJ M f a = 0) : Ht G iX9_init yX9_init 3 [.ref a] M (rV fun M' => RM M' (Y0 a (mN M)) st0 ∧ mN M' = mN M + 21 ∧ ∀ b, b < mN M → b ≠ a → Sm M M' b) nX 21 3176 := by
  have hI : IM M a 0 (fun _ => 0) M := ⟨rfl, hc, fun i hi => absurd hi (Nat.not_lt_zero i), fun j _ => h0 _, hj _, h0 _, fun _ _ _ => Sm.rf⟩
  refine ht_intro (by decide +kernel) rfl rfl rfl (Nat.le_of_ble_eq_true rfl) ?_
  refine r_aload_n dX9_init_0 rfl ?_
  refine r_oinit vX9_1 dX9_init_1 (k := ?_)
  refine r_aload_n dX9_init_4 rfl ?_
  refine r_bipush dX9_init_5 (k := ?_)
  refine r_newa (aty := .int) (t := 11) (N := 16) wA_int dX9_init_7 rfl (hm := ⟨by decide, by decide⟩) (k := fun hlt hgb => ?_)
  refine r_putR qX9_9 dX9_init_9 (hI.c ha) (kk := ?_)
  refine gm (hI.st (k := 1) (t := 11) (z := 16) ha rfl rfl rfl (by decide)) (fun M1 hI => ?_)
  refine r_aload_n dX9_init_12 rfl ?_
  refine r_bipush dX9_init_13 (k := ?_)
  refine r_newa (aty := .int) (t := 11) (N := 16) wA_int dX9_init_15 rfl (hm := ⟨by decide, by decide⟩) (k := fun hlt hgb => ?_)
  refine r_putR qX9_13 dX9_init_17 (hI.c ha) (kk := ?_)
  refine gm (hI.st (k := 2) (t := 11) (z := 16) ha rfl rfl rfl (by decide)) (fun M2 hI => ?_)
  refine r_aload_n dX9_init_20 rfl ?_
  refine r_bipush dX9_init_21 (k := ?_)
  refine r_newa (aty := .int) (t := 11) (N := 16) wA_int dX9_init_23 rfl (hm := ⟨by decide, by decide⟩) (k := fun hlt hgb => ?_)
  refine r_putR qX9_16 dX9_init_25 (hI.c ha) (kk := ?_)
  refine gm (hI.st (k := 3) (t := 11) (z := 16) ha rfl rfl rfl (by decide)) (fun M3 hI => ?_)
  refine r_aload_n dX9_init_28 rfl ?_
  refine r_bipush dX9_init_29 (k := ?_)
  refine r_newa (aty := .int) (t := 11) (N := 16) wA_int dX9_init_31 rfl (hm := ⟨by decide, by decide⟩) (k := fun hlt hgb => ?_)
  refine r_putR qX9_19 dX9_init_33 (hI.c ha) (kk := ?_)
  refine gm (hI.st (k := 4) (t := 11) (z := 16) ha rfl rfl rfl (by decide)) (fun M4 hI => ?_)
  refine r_aload_n dX9_init_36 rfl ?_
  refine r_bipush dX9_init_37 (k := ?_)
  refine r_newa (aty := .int) (t := 11) (N := 30) wA_int dX9_init_39 rfl (hm := ⟨by decide, by decide⟩) (k := fun hlt hgb => ?_)
  refine r_putR qX9_22 dX9_init_41 (hI.c ha) (kk := ?_)
  refine gm (hI.st (k := 5) (t := 11) (z := 30) ha rfl rfl rfl (by decide)) (fun M5 hI => ?_)
  refine r_aload_n dX9_init_44 rfl ?_
  refine r_bipush dX9_init_45 (k := ?_)
  refine r_newa (aty := .int) (t := 11) (N := 30) wA_int dX9_init_47 rfl (hm := ⟨by decide, by decide⟩) (k := fun hlt hgb => ?_)
  refine r_putR qX9_25 dX9_init_49 (hI.c ha) (kk := ?_)
  refine gm (hI.st (k := 6) (t := 11) (z := 30) ha rfl rfl rfl (by decide)) (fun M6 hI => ?_)
  refine r_aload_n dX9_init_52 rfl ?_
  refine r_bipush dX9_init_53 (k := ?_)
  refine r_newa (aty := .int) (t := 11) (N := 30) wA_int dX9_init_55 rfl (hm := ⟨by decide, by decide⟩) (k := fun hlt hgb => ?_)
  refine r_putR qX9_28 dX9_init_57 (hI.c ha) (kk := ?_)
  refine gm (hI.st (k := 7) (t := 11) (z := 30) ha rfl rfl rfl (by decide)) (fun M7 hI => ?_)
  refine r_aload_n dX9_init_60 rfl ?_
  refine r_bipush dX9_init_61 (k := ?_)
  refine r_newa (aty := .int) (t := 11) (N := 30) wA_int dX9_init_63 rfl (hm := ⟨by decide, by decide⟩) (k := fun hlt hgb => ?_)
  refine r_putR qX9_31 dX9_init_65 (hI.c ha) (kk := ?_)
  refine gm (hI.st (k := 8) (t := 11) (z := 30) ha rfl rfl rfl (by decide)) (fun M8 hI => ?_)
  refine r_aload_n dX9_init_68 rfl ?_
  refine r_iconst dX9_init_69 ?_
  refine r_newa (aty := .int) (t := 11) (N := 4) wA_int dX9_init_70 rfl (hm := ⟨by decide, by decide⟩) (k := fun hlt hgb => ?_)
  refine r_putR qX9_34 dX9_init_72 (hI.c ha) (kk := ?_)
  refine gm (hI.st (k := 9) (t := 11) (z := 4) ha rfl rfl rfl (by decide)) (fun M9 hI => ?_)
  refine r_aload_n dX9_init_75 rfl ?_
  refine r_bipush dX9_init_76 (k := ?_)
  refine r_newa (aty := .int) (t := 11) (N := 20) wA_int dX9_init_78 rfl (hm := ⟨by decide, by decide⟩) (k := fun hlt hgb => ?_)
  refine r_putR qX9_37 dX9_init_80 (hI.c ha) (kk := ?_)
  refine gm (hI.st (k := 10) (t := 11) (z := 20) ha rfl rfl rfl (by decide)) (fun M10 hI => ?_)
  refine r_aload_n dX9_init_83 rfl ?_
  refine r_bipush dX9_init_84 (k := ?_)
  refine r_newa (aty := .int) (t := 11) (N := 20) wA_int dX9_init_86 rfl (hm := ⟨by decide, by decide⟩) (k := fun hlt hgb => ?_)
  refine r_putR qX9_40 dX9_init_88 (hI.c ha) (kk := ?_)
  refine gm (hI.st (k := 11) (t := 11) (z := 20) ha rfl rfl rfl (by decide)) (fun M11 hI => ?_)
  refine r_aload_n dX9_init_91 rfl ?_
  refine r_bipush dX9_init_92 (k := ?_)
  refine r_newa (aty := .int) (t := 11) (N := 20) wA_int dX9_init_94 rfl (hm := ⟨by decide, by decide⟩) (k := fun hlt hgb => ?_)
  refine r_putR qX9_43 dX9_init_96 (hI.c ha) (kk := ?_)
  refine gm (hI.st (k := 12) (t := 11) (z := 20) ha rfl rfl rfl (by decide)) (fun M12 hI => ?_)
  refine r_aload_n dX9_init_99 rfl ?_
  refine r_bipush dX9_init_100 (k := ?_)
  refine r_newa (aty := .boolean) (t := 12) (N := 16) wA_boolean dX9_init_102 rfl (hm := ⟨by decide, by decide⟩) (k := fun hlt hgb => ?_)
  refine r_putR qX9_46 dX9_init_104 (hI.c ha) (kk := ?_)
  refine gm (hI.st (k := 13) (t := 12) (z := 16) ha rfl rfl rfl (by decide)) (fun M13 hI => ?_)
  refine r_aload_n dX9_init_107 rfl ?_
  refine r_bipush dX9_init_108 (k := ?_)
  refine r_newa (aty := .boolean) (t := 12) (N := 20) wA_boolean dX9_init_110 rfl (hm := ⟨by decide, by decide⟩) (k := fun hlt hgb => ?_)
  refine r_putR qX9_50 dX9_init_112 (hI.c ha) (kk := ?_)
  refine gm (hI.st (k := 14) (t := 12) (z := 20) ha rfl rfl rfl (by decide)) (fun M14 hI => ?_)
  refine r_aload_n dX9_init_115 rfl ?_
  refine r_iconst dX9_init_116 ?_
  refine r_putI qX9_53 dX9_init_117 hI.2.1 (kk := ?_)
  refine gm (hI.i (j := 0) (by decide)) (fun M915 hI => ?_)
  refine r_aload_n dX9_init_120 rfl ?_
  refine r_iconst dX9_init_121 ?_
  refine r_putI qX9_57 dX9_init_122 hI.2.1 (kk := ?_)
  refine gm (hI.i (j := 5) (by decide)) (fun M920 hI => ?_)
  refine r_aload_n dX9_init_125 rfl ?_
  refine r_bipush dX9_init_126 (k := ?_)
  refine r_newa (aty := .int) (t := 11) (N := 100) wA_int dX9_init_128 rfl (hm := ⟨by decide, by decide⟩) (k := fun hlt hgb => ?_)
  refine r_putR qX9_60 dX9_init_130 (hI.c ha) (kk := ?_)
  refine gm (hI.st (k := 25) (t := 11) (z := 100) ha rfl rfl rfl (by decide)) (fun M15 hI => ?_)
  refine r_aload_n dX9_init_133 rfl ?_
  refine r_bipush dX9_init_134 (k := ?_)
  refine r_newa (aty := .int) (t := 11) (N := 64) wA_int dX9_init_136 rfl (hm := ⟨by decide, by decide⟩) (k := fun hlt hgb => ?_)
  refine r_putR qX9_63 dX9_init_138 (hI.c ha) (kk := ?_)
  refine gm (hI.st (k := 26) (t := 11) (z := 64) ha rfl rfl rfl (by decide)) (fun M16 hI => ?_)
  refine r_aload_n dX9_init_141 rfl ?_
  refine r_sipush dX9_init_142 (k := ?_)
  refine r_newa (aty := .int) (t := 11) (N := 2560) wA_int dX9_init_145 rfl (hm := ⟨by decide, by decide⟩) (k := fun hlt hgb => ?_)
  refine r_putR qX9_66 dX9_init_147 (hI.c ha) (kk := ?_)
  refine gm (hI.st (k := 28) (t := 11) (z := 2560) ha rfl rfl rfl (by decide)) (fun M17 hI => ?_)
  refine r_aload_n dX9_init_150 rfl ?_
  refine r_bipush dX9_init_151 (k := ?_)
  refine r_newa (aty := .int) (t := 11) (N := 8) wA_int dX9_init_153 rfl (hm := ⟨by decide, by decide⟩) (k := fun hlt hgb => ?_)
  refine r_putR qX9_69 dX9_init_155 (hI.c ha) (kk := ?_)
  refine gm (hI.st (k := 29) (t := 11) (z := 8) ha rfl rfl rfl (by decide)) (fun M18 hI => ?_)
  refine r_aload_n dX9_init_158 rfl ?_
  refine r_bipush dX9_init_159 (k := ?_)
  refine r_newa (aty := .int) (t := 11) (N := 16) wA_int dX9_init_161 rfl (hm := ⟨by decide, by decide⟩) (k := fun hlt hgb => ?_)
  refine r_putR qX9_72 dX9_init_163 (hI.c ha) (kk := ?_)
  refine gm (hI.st (k := 31) (t := 11) (z := 16) ha rfl rfl rfl (by decide)) (fun M19 hI => ?_)
  refine r_aload_n dX9_init_166 rfl ?_
  refine r_bipush dX9_init_167 (k := ?_)
  refine r_newa (aty := .int) (t := 11) (N := 16) wA_int dX9_init_169 rfl (hm := ⟨by decide, by decide⟩) (k := fun hlt hgb => ?_)
  refine r_putR qX9_75 dX9_init_171 (hI.c ha) (kk := ?_)
  refine gm (hI.st (k := 32) (t := 11) (z := 16) ha rfl rfl rfl (by decide)) (fun M20 hI => ?_)
  refine r_aload_n dX9_init_174 rfl ?_
  refine r_sipush dX9_init_175 (k := ?_)
  refine r_newa (aty := .int) (t := 11) (N := 128) wA_int dX9_init_178 rfl (hm := ⟨by decide, by decide⟩) (k := fun hlt hgb => ?_)
  refine r_putR qX9_78 dX9_init_180 (hI.c ha) (kk := ?_)
  refine gm (hI.st (k := 35) (t := 11) (z := 128) ha rfl rfl rfl (by decide)) (fun M21 hI => ?_)
  exact r_vret dX9_init_183 (⟨rfl, rm00 hI ha, hI.1, hI.2.2.2.2.2.2⟩)
end MD12
