/-! The reference: what it tells of walks. -/
section MD7
variable {G : GC} {M M0 : Mem} {Y : Nat → Nat} {σ : St} {T : Nat} {Qf : List Frame → Array Value → State → State → Prop}
/-- what the reference throws where a round needs a walk -/
def wlc (σ : St) (r : Int) : Nat := if ¬ bt2 r 0 (σ.1 3 - 1) then 1 else if hW σ (2 ^ r.toNat) = true then 0 else 2
def WaP (Y : Nat → Nat) (σ : St) (g : Nat) (M' : Mem) : Prop := FarP Y (σ.1 0) (dst σ) M' ∧ UnP Y (uns σ g (σ.1 1)) M' ∧ WkP Y σ g M'
theorem WsP.mp {g c : Nat} {M' : Mem} (h : WsP Y σ g M M') (hP : MP Y M0 σ c M) : MP Y M0 σ c M' ∧ WaP Y σ g M' := ⟨h.1.mp hP, h.2⟩
theorem wlc_1 {r : Int} (h : ¬ bt2 r 0 (σ.1 3 - 1)) : wlc σ r = 1 := if_pos h
theorem wlc_0 {r : Nat} (h : r < σ.1 3) (h2 : hW σ (2 ^ r) = true) : wlc σ r = 0 := (if_neg (by show ¬ ¬ bt2 (r : Int) 0 (σ.1 3 - 1); omega)).trans (if_pos h2)
theorem wlc_2 {r : Nat} (h : r < σ.1 3) (h2 : hW σ (2 ^ r) = false) : wlc σ r = 2 := (if_neg (by show ¬ ¬ bt2 (r : Int) 0 (σ.1 3 - 1); omega)).trans (if_neg (fun e => by rw [Int.toNat_natCast, h2] at e; cases e))
theorem wlc_z {r : Int} (h : wlc σ r = 0) : ∃ n : Nat, r = n ∧ n < σ.1 3 ∧ hW σ (2 ^ n) = true := by
  unfold wlc at h
  by_cases e : ¬ bt2 r 0 (σ.1 3 - 1)
  · rw [if_pos e] at h; omega
  · rw [if_neg e] at h
    by_cases e2 : hW σ (2 ^ r.toNat) = true
    · exact ⟨r.toNat, by omega, by omega, e2⟩
    · rw [if_neg e2] at h; omega
theorem m_isWalkless (hM : RM M Y σ) (hO : Ok σ T) (r : Int) (ha : inR r) : Ht G iX9_isWalkless yX9_isWalkless 10 [.ref (Y 0), .int (iz r)] M (rI fun x M' => MP Y M σ (wlc σ r) M' ∧ x = bz (decide (wlc σ r ≠ 0)) ∧ (wlc σ r = 0 → WaP Y σ (2 ^ r.toNat) M')) nX 0 0 := by
  obtain ⟨⟨p1, p2, p3, p4, p5, -⟩, -⟩ := id hO
  refine ht_intro (by decide +kernel) rfl rfl rfl (Nat.le_of_ble_eq_true rfl) ?_
  refine r_aload_n dX9_isWalkless_0 rfl ?_
  refine r_iconst dX9_isWalkless_1 ?_
  refine r_putI qX9_81 dX9_isWalkless_2 hM.o (kk := ?_)
  refine gm (P := MP Y M σ 0) (mp0 hM) (fun M1 hP => ?_)
  have hM := hP.1
  refine r_aload_n dX9_isWalkless_5 rfl ?_
  refine r_iload_n dX9_isWalkless_6 rfl ?_
  refine r_callV (mi := iX9_isWalkless) vX9_111 dX9_isWalkless_7 hM.o (m_isRound hM (by omega) r ha) (hm := ⟨by omega, by omega⟩) (k := kP ?_) (kx := r_nox)
  refine r_dif_ne (tgt := 22) dX9_isWalkless_10 (by decide) (kt := fun z10 => ?_) (kf := fun z10 => ?_)
  · obtain ⟨r, rfl⟩ := nat_of (a := r) (by omega)
    refine r_aload_n dX9_isWalkless_22 rfl ?_
    refine r_iconst dX9_isWalkless_23 ?_
    refine r_iload_n dX9_isWalkless_24 rfl ?_
    refine r_ishl dX9_isWalkless_25 (sl_1 rfl (by omega)) ?_
    refine r_callV (mi := iX9_isWalkless) vX9_187 dX9_isWalkless_26 hM.o (m_walks hM hO (2 ^ r) (two_lt (by omega))) (hm := ⟨by omega, by omega⟩) (k := kI (fun x M2 hP2 => ?_)) (kx := r_nox)
    obtain ⟨hW2, hx⟩ := hP2
    subst hx
    have hA := (hW2.mp hP).2
    have hP := (hW2.mp hP).1
    have hM := hP.1
    refine r_bif_ne (tgt := 38) dX9_isWalkless_29 (by decide) (kt := fun z29 => ?_) (kf := fun z29 => ?_)
    · refine r_aload_n dX9_isWalkless_38 rfl ?_
      refine r_getI qX9_81 dX9_isWalkless_39 hM.o hP.2.1 (kk := ?_)
      refine r_if_le (tgt := 49) dX9_isWalkless_42 (by decide) (kt := fun z42 => ?_) (kf := fun z42 => ?_)
      · first
         | (exfalso; omega)
         | (refine r_iconst dX9_isWalkless_49 ?_; exact r_zret (x := false) dX9_isWalkless_50 ⟨_, rfl, by rw [wlc_0 (by omega) z29]; exact hP, by rw [wlc_0 (by omega) z29]; rfl, fun _ => hA⟩)
      · first
         | (exfalso; omega)
         | refine r_iconst dX9_isWalkless_45 (r_goto (tgt := 50) dX9_isWalkless_46 (by decide) ?_)
           first
            | exact r_zret (x := true) dX9_isWalkless_50 ⟨_, rfl, by rw [wlc_1 (by omega)]; exact hP, by rw [wlc_1 (by omega)]; rfl, fun h => by rw [wlc_1 (by omega)] at h; cases h⟩
            | exact r_zret (x := true) dX9_isWalkless_50 ⟨_, rfl, by rw [wlc_2 (by omega) z29]; exact hP, by rw [wlc_2 (by omega) z29]; rfl, fun h => by rw [wlc_2 (by omega) z29] at h; cases h⟩
    · refine r_aload_n dX9_isWalkless_32 rfl ?_
      refine r_iconst dX9_isWalkless_33 ?_
      refine r_callV (mi := iX9_isWalkless) vX9_100 dX9_isWalkless_34 hM.o (m_fails hM.o 2) (hm := ⟨by omega, by omega⟩) (k := kP ?_) (kx := r_nox)
      refine gm (mpf hP 2) (fun M2 hP => ?_)
      have hM := hP.1
      refine r_pop dX9_isWalkless_37 (k := ?_)
      refine r_aload_n dX9_isWalkless_38 rfl ?_
      refine r_getI qX9_81 dX9_isWalkless_39 hM.o hP.2.1 (kk := ?_)
      refine r_if_le (tgt := 49) dX9_isWalkless_42 (by decide) (kt := fun z42 => ?_) (kf := fun z42 => ?_)
      · first
         | (exfalso; omega)
         | (refine r_iconst dX9_isWalkless_49 ?_; exact r_zret (x := false) dX9_isWalkless_50 ⟨_, rfl, by rw [wlc_0 (by omega) z29]; exact hP, by rw [wlc_0 (by omega) z29]; rfl, fun _ => hA⟩)
      · first
         | (exfalso; omega)
         | refine r_iconst dX9_isWalkless_45 (r_goto (tgt := 50) dX9_isWalkless_46 (by decide) ?_)
           first
            | exact r_zret (x := true) dX9_isWalkless_50 ⟨_, rfl, by rw [wlc_1 (by omega)]; exact hP, by rw [wlc_1 (by omega)]; rfl, fun h => by rw [wlc_1 (by omega)] at h; cases h⟩
            | exact r_zret (x := true) dX9_isWalkless_50 ⟨_, rfl, by rw [wlc_2 (by omega) z29]; exact hP, by rw [wlc_2 (by omega) z29]; rfl, fun h => by rw [wlc_2 (by omega) z29] at h; cases h⟩
  · refine r_aload_n dX9_isWalkless_13 rfl ?_
    refine r_iconst dX9_isWalkless_14 ?_
    refine r_callV (mi := iX9_isWalkless) vX9_100 dX9_isWalkless_15 hM.o (m_fails hM.o 1) (hm := ⟨by omega, by omega⟩) (k := kP ?_) (kx := r_nox)
    refine gm (mpf hP 1) (fun M2 hP => ?_)
    have hM := hP.1
    refine r_pop dX9_isWalkless_18 (k := ?_)
    refine r_goto (tgt := 38) dX9_isWalkless_19 (by decide) ?_
    refine r_aload_n dX9_isWalkless_38 rfl ?_
    refine r_getI qX9_81 dX9_isWalkless_39 hM.o hP.2.1 (kk := ?_)
    refine r_if_le (tgt := 49) dX9_isWalkless_42 (by decide) (kt := fun z42 => ?_) (kf := fun z42 => ?_)
    · first
       | (exfalso; omega)
       | (refine r_iconst dX9_isWalkless_49 ?_; exact r_zret (x := false) dX9_isWalkless_50 ⟨_, rfl, by rw [wlc_0 (by omega) z29]; exact hP, by rw [wlc_0 (by omega) z29]; rfl, fun _ => hA⟩)
    · first
       | (exfalso; omega)
       | refine r_iconst dX9_isWalkless_45 (r_goto (tgt := 50) dX9_isWalkless_46 (by decide) ?_)
         first
          | exact r_zret (x := true) dX9_isWalkless_50 ⟨_, rfl, by rw [wlc_1 (by omega)]; exact hP, by rw [wlc_1 (by omega)]; rfl, fun h => by rw [wlc_1 (by omega)] at h; cases h⟩
          | exact r_zret (x := true) dX9_isWalkless_50 ⟨_, rfl, by rw [wlc_2 (by omega) z29]; exact hP, by rw [wlc_2 (by omega) z29]; rfl, fun h => by rw [wlc_2 (by omega) z29] at h; cases h⟩
theorem gs {mi : MI} {R : Room} {pc : Nat} {L : List (Nat × Value)} {st : List Value} {kc ks : Nat} {x y : Int32} (h : x = y) (k : SWG G mi R Qf pc L (.int y :: st) M kc ks) : SWG G mi R Qf pc L (.int x :: st) M kc ks := h ▸ k
def opHasWalk (σ : St) (r : Int) : Rs := if bt2 r 0 (σ.1 3 - 1) then (σ, 0, if hW σ (2 ^ r.toNat) then 1 else 0) else (σ, 1, 0)
def opWalkLength (σ : St) (r : Int) : Rs := (σ, wlc σ r, wL σ (2 ^ r.toNat))
def opTry (σ : St) (r : Int) : Rs := if wlc σ r ≠ 0 then (σ, wlc σ r, 0) else if 5 < uN σ (2 ^ r.toNat) then (σ, 3, 0) else (σ, 0, wL σ (2 ^ r.toNat))
def opPassAt (σ : St) (r i : Int) : Rs := if wlc σ r ≠ 0 then (σ, wlc σ r, 0) else if bt2 i 0 (uN σ (2 ^ r.toNat) - 1) then (σ, 0, wP σ (2 ^ r.toNat) i.toNat) else (σ, 3, 0)
theorem m_hasWalk (hM : RM M Y σ) (hO : Ok σ T) (r : Int) (ha : inR r) : Ht G iX9_hasWalk yX9_hasWalk 10 [.ref (Y 0), .int (iz r)] M (MR Y M (opHasWalk σ r)) nX 0 0 := by
  obtain ⟨⟨p1, p2, p3, p4, p5, -⟩, -⟩ := id hO
  refine ht_intro (by decide +kernel) rfl rfl rfl (Nat.le_of_ble_eq_true rfl) ?_
  refine r_aload_n dX9_hasWalk_0 rfl ?_
  refine r_iconst dX9_hasWalk_1 ?_
  refine r_putI qX9_81 dX9_hasWalk_2 hM.o (kk := ?_)
  refine gm (P := MP Y M σ 0) (mp0 hM) (fun M1 hP => ?_)
  have hM := hP.1
  refine r_aload_n dX9_hasWalk_5 rfl ?_
  refine r_iload_n dX9_hasWalk_6 rfl ?_
  refine r_callV (mi := iX9_hasWalk) vX9_111 dX9_hasWalk_7 hM.o (m_isRound hM (by omega) r ha) (hm := ⟨by omega, by omega⟩) (k := kP ?_) (kx := r_nox)
  refine r_dif_eq (tgt := 23) dX9_hasWalk_10 (by decide) (kt := fun z10 => ?_) (kf := fun z10 => ?_)
  · refine r_aload_n dX9_hasWalk_23 rfl ?_
    refine r_iconst dX9_hasWalk_24 ?_
    refine r_callV (mi := iX9_hasWalk) vX9_100 dX9_hasWalk_25 hM.o (m_fails hM.o 1) (hm := ⟨by omega, by omega⟩) (k := kP ?_) (kx := r_nox)
    refine r_if_le (tgt := 35) dX9_hasWalk_28 (by decide) (kt := fun z28 => ?_) (kf := fun z28 => (by exfalso; first | omega | simp_all))
    refine r_iconst dX9_hasWalk_35 ?_
    first
     | exact r_zret dX9_hasWalk_36 (mr_of hP (by unfold opHasWalk; exact if_pos (by omega)) (fun _ => rfl))
     | exact r_zret (x := false) dX9_hasWalk_36 (mr_of (mpf hP 1) (by unfold opHasWalk; exact if_neg (by omega)) (fun h => absurd h (by decide)))
  · obtain ⟨r, rfl⟩ := nat_of (a := r) (by omega)
    refine r_aload_n dX9_hasWalk_13 rfl ?_
    refine r_iconst dX9_hasWalk_14 ?_
    refine r_iload_n dX9_hasWalk_15 rfl ?_
    refine r_ishl dX9_hasWalk_16 (sl_1 rfl (by omega)) ?_
    refine r_callV (mi := iX9_hasWalk) vX9_187 dX9_hasWalk_17 hM.o (m_walks hM hO (2 ^ r) (two_lt (by omega))) (hm := ⟨by omega, by omega⟩) (k := kI (fun x M2 hP2 => ?_)) (kx := r_nox)
    obtain ⟨hW2, hx⟩ := hP2
    subst hx
    have hP := (hW2.mp hP).1
    refine r_goto (tgt := 36) dX9_hasWalk_20 (by decide) ?_
    first
     | exact r_zret dX9_hasWalk_36 (mr_of hP (by unfold opHasWalk; exact if_pos (by omega)) (fun _ => rfl))
     | exact r_zret (x := false) dX9_hasWalk_36 (mr_of (mpf hP 1) (by unfold opHasWalk; exact if_neg (by omega)) (fun h => absurd h (by decide)))
theorem m_walkLength (hM : RM M Y σ) (hO : Ok σ T) (r : Int) (ha : inR r) : Ht G iX9_walkLength yX9_walkLength 11 [.ref (Y 0), .int (iz r)] M (MR Y M (opWalkLength σ r)) nX 0 0 := by
  refine ht_intro (by decide +kernel) rfl rfl rfl (Nat.le_of_ble_eq_true rfl) ?_
  refine r_aload_n dX9_walkLength_0 rfl ?_
  refine r_iload_n dX9_walkLength_1 rfl ?_
  refine r_callV (mi := iX9_walkLength) vX9_190 dX9_walkLength_2 hM.o (m_isWalkless hM hO r ha) (hm := ⟨by omega, by omega⟩) (k := kI (fun x M2 hP2 => ?_)) (kx := r_nox)
  obtain ⟨hP, hx, hA⟩ := hP2
  subst hx
  have hM := hP.1
  refine r_dif_eq (tgt := 12) dX9_walkLength_5 (by decide) (kt := fun z5 => ?_) (kf := fun z5 => ?_)
  · have z0 : wlc σ r = 0 := by omega
    obtain ⟨n, rfl, hn, hw⟩ := wlc_z z0
    refine r_aload_n dX9_walkLength_12 rfl ?_
    refine r_getI qX9_184 dX9_walkLength_13 hM.o ((hA z0).2.2 hw).1 (kk := ?_)
    first
     | exact r_iret dX9_walkLength_16 (mr_of hP rfl (fun h => absurd h z5))
     | exact r_iret dX9_walkLength_16 (mr_of hP rfl (fun _ => rfl))
  · refine r_iconst dX9_walkLength_8 ?_
    refine r_goto (tgt := 16) dX9_walkLength_9 (by decide) ?_
    first
     | exact r_iret dX9_walkLength_16 (mr_of hP rfl (fun h => absurd h z5))
     | exact r_iret dX9_walkLength_16 (mr_of hP rfl (fun _ => rfl))
theorem m_lengthByTrying (hM : RM M Y σ) (hO : Ok σ T) (r : Int) (ha : inR r) : Ht G iX9_lengthByTrying yX9_lengthByTrying 11 [.ref (Y 0), .int (iz r)] M (MR Y M (opTry σ r)) nX 0 0 := by
  refine ht_intro (by decide +kernel) rfl rfl rfl (Nat.le_of_ble_eq_true rfl) ?_
  refine r_aload_n dX9_lengthByTrying_0 rfl ?_
  refine r_iload_n dX9_lengthByTrying_1 rfl ?_
  refine r_callV (mi := iX9_lengthByTrying) vX9_190 dX9_lengthByTrying_2 hM.o (m_isWalkless hM hO r ha) (hm := ⟨by omega, by omega⟩) (k := kI (fun x M2 hP2 => ?_)) (kx := r_nox)
  obtain ⟨hP, hx, hA⟩ := hP2
  subst hx
  have hM := hP.1
  refine r_dif_eq (tgt := 10) dX9_lengthByTrying_5 (by decide) (kt := fun z5 => ?_) (kf := fun z5 => ?_)
  · have z0 : wlc σ r = 0 := by omega
    obtain ⟨n, rfl, hn, hw⟩ := wlc_z z0
    have hu := (hW_iff.mp hw).1
    refine r_aload_n dX9_lengthByTrying_10 rfl ?_
    refine r_getI qX9_149 dX9_lengthByTrying_11 hM.o (x := iz (uN σ (2 ^ n) : Int)) (hA z0).2.1.1 (kk := ?_)
    refine r_iconst dX9_lengthByTrying_14 ?_
    refine r_icmp_le (tgt := 26) dX9_lengthByTrying_15 (by decide) (kt := fun z15 => ?_) (kf := fun z15 => ?_)
    · refine r_aload_n dX9_lengthByTrying_26 rfl ?_
      refine r_getI qX9_184 dX9_lengthByTrying_27 hM.o ((hA z0).2.2 hw).1 (kk := ?_)
      first
       | exact r_iret dX9_lengthByTrying_30 (mr_of (mpf hP 3) (by unfold opTry; rw [if_neg (by omega), Int.toNat_natCast, if_pos (by omega)]) (fun h => absurd h (by decide)))
       | exact r_iret dX9_lengthByTrying_30 (mr_of hP (by unfold opTry; rw [if_neg (by omega), Int.toNat_natCast, if_neg (by omega), z0]) (fun _ => rfl))
    · refine r_aload_n dX9_lengthByTrying_18 rfl ?_
      refine r_iconst dX9_lengthByTrying_19 ?_
      refine r_callV (mi := iX9_lengthByTrying) vX9_100 dX9_lengthByTrying_20 hM.o (m_fails hM.o 3) (hm := ⟨by omega, by omega⟩) (k := kP ?_) (kx := r_nox)
      refine r_goto (tgt := 30) dX9_lengthByTrying_23 (by decide) ?_
      first
       | exact r_iret dX9_lengthByTrying_30 (mr_of (mpf hP 3) (by unfold opTry; rw [if_neg (by omega), Int.toNat_natCast, if_pos (by omega)]) (fun h => absurd h (by decide)))
       | exact r_iret dX9_lengthByTrying_30 (mr_of hP (by unfold opTry; rw [if_neg (by omega), Int.toNat_natCast, if_neg (by omega), z0]) (fun _ => rfl))
  · refine r_iconst dX9_lengthByTrying_8 ?_
    exact r_iret dX9_lengthByTrying_9 (mr_of hP (by unfold opTry; exact if_pos z5) (fun h => absurd h z5))
theorem m_passAt (hM : RM M Y σ) (hO : Ok σ T) (r i : Int) (ha : inR r) (hb : inR i) : Ht G iX9_passAt yX9_passAt 11 [.ref (Y 0), .int (iz r), .int (iz i)] M (MR Y M (opPassAt σ r i)) nX 0 0 := by
  refine ht_intro (by decide +kernel) rfl rfl rfl (Nat.le_of_ble_eq_true rfl) ?_
  refine r_aload_n dX9_passAt_0 rfl ?_
  refine r_iload_n dX9_passAt_1 rfl ?_
  refine r_callV (mi := iX9_passAt) vX9_190 dX9_passAt_2 hM.o (m_isWalkless hM hO r ha) (hm := ⟨by omega, by omega⟩) (k := kI (fun x M2 hP2 => ?_)) (kx := r_nox)
  obtain ⟨hP, hx, hA⟩ := hP2
  subst hx
  have hM := hP.1
  refine r_dif_eq (tgt := 10) dX9_passAt_5 (by decide) (kt := fun z5 => ?_) (kf := fun z5 => ?_)
  · have z0 : wlc σ r = 0 := by omega
    obtain ⟨n, rfl, hn, hw⟩ := wlc_z z0
    have hu := (hW_iff.mp hw).1
    refine r_iload_n dX9_passAt_10 rfl ?_
    refine r_iconst dX9_passAt_11 ?_
    refine r_aload_n dX9_passAt_12 rfl ?_
    refine r_getI qX9_149 dX9_passAt_13 hM.o (x := iz (uN σ (2 ^ n) : Int)) (hA z0).2.1.1 (kk := ?_)
    refine r_iconst dX9_passAt_16 ?_
    refine r_isub dX9_passAt_17 ?_
    refine r_callS (mi := iX9_passAt) vX9_87 dX9_passAt_18 (m_isBetween i 0 ((uN σ (2 ^ n) : Int) - 1) hb (by omega) (by omega)) (hm := ⟨by omega, by omega⟩) (k := kP ?_) (kx := r_nox)
    refine r_dif_eq (tgt := 33) dX9_passAt_21 (by decide) (kt := fun z21 => ?_) (kf := fun z21 => ?_)
    · refine r_aload_n dX9_passAt_33 rfl ?_
      refine r_iconst dX9_passAt_34 ?_
      refine r_callV (mi := iX9_passAt) vX9_100 dX9_passAt_35 hM.o (m_fails hM.o 3) (hm := ⟨by omega, by omega⟩) (k := kP ?_) (kx := r_nox)
      first
       | exact r_iret dX9_passAt_38 (mr_of hP (by unfold opPassAt; rw [if_neg (by omega), Int.toNat_natCast, Int.toNat_natCast, if_pos (by omega), z0]) (fun _ => rfl))
       | exact r_iret dX9_passAt_38 (mr_of (mpf hP 3) (by unfold opPassAt; rw [if_neg (by omega), Int.toNat_natCast, if_neg (by omega)]) (fun h => absurd h (by decide)))
    · obtain ⟨i, rfl⟩ := nat_of (a := i) (by omega)
      refine r_aload_n dX9_passAt_24 rfl ?_
      refine r_getR qX9_69 dX9_passAt_25 hM.o (hM.r 29) (kk := ?_)
      refine r_iload_n dX9_passAt_28 rfl ?_
      refine r_iald dX9_passAt_29 (hM.cc 29 11 8) rfl (((hA z0).2.2 hw).2 i (show i < uN σ (2 ^ n) by omega)) (k := ?_)
      refine r_goto (tgt := 38) dX9_passAt_30 (by decide) ?_
      first
       | exact r_iret dX9_passAt_38 (mr_of hP (by unfold opPassAt; rw [if_neg (by omega), Int.toNat_natCast, Int.toNat_natCast, if_pos (by omega), z0]) (fun _ => rfl))
       | exact r_iret dX9_passAt_38 (mr_of (mpf hP 3) (by unfold opPassAt; rw [if_neg (by omega), Int.toNat_natCast, if_neg (by omega)]) (fun h => absurd h (by decide)))
  · refine r_iconst dX9_passAt_8 ?_
    exact r_iret dX9_passAt_9 (mr_of hP (by unfold opPassAt; exact if_pos z5) (fun h => absurd h z5))
def lsum (σ : St) (g n : Nat) : Nat → Nat
  | 0 => 0
  | h + 1 => lsum σ g n h + if inG σ (σ.2 5 h) g = true then cnt (forH σ h) n else 0
theorem lsum_T {g n h : Nat} (e : inG σ (σ.2 5 h) g = true) : lsum σ g n (h + 1) = lsum σ g n h + cnt (forH σ h) n := congrArg (lsum σ g n h + ·) (if_pos e)
theorem lsum_F {g n h : Nat} (e : inG σ (σ.2 5 h) g = false) : lsum σ g n (h + 1) = lsum σ g n h + 0 := congrArg (lsum σ g n h + ·) (if_neg (by rw [e]; exact Bool.false_ne_true))
theorem lsum_0 (g h : Nat) : lsum σ g 0 h = 0 := by
  induction h with
  | zero => rfl
  | succ h ih => unfold lsum; rw [ih]; split <;> rfl
theorem lsum_s (g n h : Nat) : lsum σ g (n + 1) h = lsum σ g n h + if σ.2 10 n < h ∧ lightB σ g n = true then 1 else 0 := by
  induction h with
  | zero => unfold lsum; rw [if_neg (by omega)]
  | succ h ih =>
    unfold lsum
    rw [ih]
    by_cases e1 : inG σ (σ.2 5 h) g = true
    · rw [if_pos e1, if_pos e1]
      simp only [cnt]
      by_cases e2 : σ.2 10 n = h
      · by_cases e3 : light σ n = true
        · have f1 : forH σ h n = true := by unfold forH; rw [e3, e2]; simp
          have f2 : lightB σ g n = true := by unfold lightB; rw [e2, e1, e3]; rfl
          rw [if_pos f1, if_neg (by omega), if_pos ⟨by omega, f2⟩]; omega
        · have f1 : ¬ forH σ h n = true := by unfold forH; rw [Bool.eq_false_iff.mpr e3]; simp
          have f2 : ¬ lightB σ g n = true := by unfold lightB; rw [Bool.eq_false_iff.mpr e3]; simp
          rw [if_neg f1, if_neg (fun h => f2 h.2), if_neg (fun h => f2 h.2)]; omega
      · have f1 : ¬ forH σ h n = true := by unfold forH; simp [e2]
        rw [if_neg f1]
        by_cases e3 : σ.2 10 n < h ∧ lightB σ g n = true
        · rw [if_pos e3, if_pos ⟨by omega, e3.2⟩]; omega
        · rw [if_neg e3, if_neg (fun hh => e3 ⟨by omega, hh.2⟩)]; omega
    · rw [if_neg e1, if_neg e1]
      by_cases e2 : σ.2 10 n = h
      · have f2 : ¬ lightB σ g n = true := by unfold lightB; rw [e2, Bool.eq_false_iff.mpr e1]; simp
        rw [if_neg (fun h => f2 h.2), if_neg (fun h => f2 h.2)]
      · by_cases e3 : σ.2 10 n < h ∧ lightB σ g n = true
        · rw [if_pos e3, if_pos ⟨by omega, e3.2⟩]
        · rw [if_neg e3, if_neg (fun hh => e3 ⟨by omega, hh.2⟩)]
theorem lsum_eq (hO : Ok σ T) (g : Nat) : ∀ n, n ≤ σ.1 4 → lsum σ g n (σ.1 2) = cnt (lightB σ g) n := by
  intro n
  induction n with
  | zero => intro _; exact lsum_0 g _
  | succ n ih =>
    intro hn
    have hq := (hO.2.2.2.2 n (by omega)).1
    rw [lsum_s, ih (by omega)]
    simp only [cnt]
    by_cases e : lightB σ g n = true
    · rw [if_pos ⟨hq, e⟩, if_pos e]
    · rw [if_neg (fun h => e h.2), if_neg e]
theorem lsum_le (g n h : Nat) : lsum σ g n h ≤ n * h := by
  induction h with
  | zero => exact Nat.zero_le _
  | succ h ih =>
    unfold lsum
    have := cnt_le (forH σ h) n
    rw [Nat.mul_succ]
    split <;> omega
/-- the time of rounds taken as one -/
def wT (σ : St) (g : Nat) : Nat := wL σ g + 2 * dueN σ g + lightN σ g
theorem m_timeOf (hM : RM M Y σ) (hO : Ok σ T) (g w : Nat) (hg : g < 16) (hw : w ≤ 100000) (hI : mI M 606 (Y 0) = iz (w : Int)) : Ht G iX9_timeOf yX9_timeOf 8 [.ref (Y 0), .int (iz (g : Int))] M (rP (iz ((w + 2 * dueN σ g + lightN σ g : Nat) : Int)) M) nX 0 0 := by
  obtain ⟨⟨p1, p2, p3, p4, p5, p6, -⟩, -⟩ := id hO
  have hd := cnt_le (dueB σ g) (σ.1 2)
  have hd2 : dueN σ g = cnt (dueB σ g) (σ.1 2) := rfl
  have hl := lsum_eq hO g (σ.1 4) (Nat.le_refl _)
  have hl2 : lightN σ g = cnt (lightB σ g) (σ.1 4) := rfl
  refine ht_intro (by decide +kernel) rfl rfl rfl (Nat.le_of_ble_eq_true rfl) ?_
  have loop : ∀ (k i : Nat), i + k = σ.1 2 → SWG G iX9_timeOf (rmd 8 0 0) (QF G (rP (iz ((w + 2 * dueN σ g + lightN σ g : Nat) : Int)) M) nX 0 0) 15 [(3, .int (iz (i : Int))), (2, .int (iz ((w + 2 * dueN σ g + lsum σ g (σ.1 4) i : Nat) : Int))), (0, .ref (Y 0)), (1, .int (iz (g : Int)))] [] M 0 0 := by
    intro k
    induction k with
    | zero =>
      intro i hi
      have hi2 : i = σ.1 2 := by omega
      subst hi2
      refine r_iload_n dX9_timeOf_15 rfl ?_
      refine r_aload_n dX9_timeOf_16 rfl ?_
      refine r_getI qX9_91 dX9_timeOf_17 hM.o (x := iz (σ.1 2 : Int)) (hM.s 2) (kk := ?_)
      refine r_icmp_ge (tgt := 50) dX9_timeOf_20 (by decide) (kt := fun z20 => ?_) (kf := fun z20 => (by exfalso; first | omega | simp_all))
      refine r_iload_n dX9_timeOf_50 rfl ?_
      exact r_iret dX9_timeOf_51 (rP_of (by rw [hl, hl2]))
    | succ k ih =>
      intro i hi
      have hi3 : i < σ.1 2 := by omega
      refine r_iload_n dX9_timeOf_15 rfl ?_
      refine r_aload_n dX9_timeOf_16 rfl ?_
      refine r_getI qX9_91 dX9_timeOf_17 hM.o (x := iz (σ.1 2 : Int)) (hM.s 2) (kk := ?_)
      refine r_icmp_ge (tgt := 50) dX9_timeOf_20 (by decide) (kt := fun z20 => (by exfalso; first | omega | simp_all)) (kf := fun z20 => ?_)
      refine r_iload_n dX9_timeOf_23 rfl ?_
      refine r_aload_n dX9_timeOf_24 rfl ?_
      refine r_iload_n dX9_timeOf_25 rfl ?_
      refine r_iload_n dX9_timeOf_26 rfl ?_
      refine r_callV (mi := iX9_timeOf) vX9_129 dX9_timeOf_27 hM.o (m_isAt hM hO i g hi3 hg) (hm := ⟨by omega, by omega⟩) (k := kP ?_) (kx := r_nox)
      refine r_bif_eq (tgt := 41) dX9_timeOf_30 (by decide) (kt := fun z30 => ?_) (kf := fun z30 => ?_)
      · refine r_iconst dX9_timeOf_41 ?_
        refine r_iadd dX9_timeOf_42 ?_
        refine r_istore_n dX9_timeOf_43 (k := ?_)
        refine r_iinc dX9_timeOf_44 rfl (k := ?_)
        refine r_goto (tgt := 15) dX9_timeOf_47 (by decide) ?_
        refine r_loc' (ih (i + 1) (by omega)) ⟨rfl, ?_, rfl, rfl, trivial⟩
        first
         | exact lkI (by rw [lsum_T z30]; omega)
         | exact lkI (by rw [lsum_F z30]; omega)
      · refine r_aload_n dX9_timeOf_33 rfl ?_
        refine r_iload_n dX9_timeOf_34 rfl ?_
        refine r_callV (mi := iX9_timeOf) vX9_120 dX9_timeOf_35 hM.o (m_lights hM hO i hi3) (hm := ⟨by omega, by omega⟩) (k := kP ?_) (kx := r_nox)
        refine r_goto (tgt := 42) dX9_timeOf_38 (by decide) ?_
        refine r_iadd dX9_timeOf_42 ?_
        refine r_istore_n dX9_timeOf_43 (k := ?_)
        refine r_iinc dX9_timeOf_44 rfl (k := ?_)
        refine r_goto (tgt := 15) dX9_timeOf_47 (by decide) ?_
        refine r_loc' (ih (i + 1) (by omega)) ⟨rfl, ?_, rfl, rfl, trivial⟩
        first
         | exact lkI (by rw [lsum_T z30]; omega)
         | exact lkI (by rw [lsum_F z30]; omega)
  refine r_aload_n dX9_timeOf_0 rfl ?_
  refine r_getI qX9_184 dX9_timeOf_1 hM.o hI (kk := ?_)
  refine r_iconst dX9_timeOf_4 ?_
  refine r_aload_n dX9_timeOf_5 rfl ?_
  refine r_iload_n dX9_timeOf_6 rfl ?_
  refine r_callV (mi := iX9_timeOf) vX9_133 dX9_timeOf_7 hM.o (m_dueAt hM hO g hg) (hm := ⟨by omega, by omega⟩) (k := kP ?_) (kx := r_nox)
  refine r_imul dX9_timeOf_10 ?_
  refine r_iadd dX9_timeOf_11 ?_
  refine r_istore_n dX9_timeOf_12 (k := ?_)
  refine r_iconst dX9_timeOf_13 ?_
  refine r_istore_n dX9_timeOf_14 (k := ?_)
  exact r_loc' (loop (σ.1 2) 0 (by omega)) ⟨rfl, lkI (by rw [show lsum σ g (σ.1 4) 0 = 0 from rfl]; omega), rfl, rfl, trivial⟩
def opWalkTime (σ : St) (r : Int) : Rs := (σ, wlc σ r, wT σ (2 ^ r.toNat))
def opIsInTime (σ : St) (r : Int) : Rs := if ¬ bt2 r 0 (σ.1 3 - 1) then (σ, 1, 0) else (σ, 0, if hW σ (2 ^ r.toNat) && decide (wT σ (2 ^ r.toNat) ≤ σ.2 9 r.toNat) then 1 else 0)
theorem wT_le (hO : Ok σ T) (g : Nat) : wT σ g ≤ 100100 := by
  obtain ⟨⟨p1, p2, p3, p4, p5, p6, -⟩, -⟩ := id hO
  have h1 : wL σ g ≤ 100000 := gV_le
  have h2 : dueN σ g ≤ σ.1 2 := cnt_le _ _
  have h3 : lightN σ g ≤ σ.1 4 := cnt_le _ _
  unfold wT; omega
theorem m_walkTime (hM : RM M Y σ) (hO : Ok σ T) (r : Int) (ha : inR r) : Ht G iX9_walkTime yX9_walkTime 11 [.ref (Y 0), .int (iz r)] M (MR Y M (opWalkTime σ r)) nX 0 0 := by
  have p5 := hO.1.2.2.2.2.1
  refine ht_intro (by decide +kernel) rfl rfl rfl (Nat.le_of_ble_eq_true rfl) ?_
  refine r_aload_n dX9_walkTime_0 rfl ?_
  refine r_iload_n dX9_walkTime_1 rfl ?_
  refine r_callV (mi := iX9_walkTime) vX9_190 dX9_walkTime_2 hM.o (m_isWalkless hM hO r ha) (hm := ⟨by omega, by omega⟩) (k := kI (fun x M2 hP2 => ?_)) (kx := r_nox)
  obtain ⟨hP, hx, hA⟩ := hP2
  subst hx
  have hM := hP.1
  refine r_dif_eq (tgt := 12) dX9_walkTime_5 (by decide) (kt := fun z5 => ?_) (kf := fun z5 => ?_)
  · have z0 : wlc σ r = 0 := by omega
    obtain ⟨n, rfl, hn, hw⟩ := wlc_z z0
    refine r_aload_n dX9_walkTime_12 rfl ?_
    refine r_iconst dX9_walkTime_13 ?_
    refine r_iload_n dX9_walkTime_14 rfl ?_
    refine r_ishl dX9_walkTime_15 (sl_1 rfl (by omega)) ?_
    refine r_callV (mi := iX9_walkTime) vX9_208 dX9_walkTime_16 hM.o (m_timeOf hM hO (2 ^ n) (wL σ (2 ^ n)) (two_lt (by omega)) gV_le ((hA z0).2.2 hw).1) (hm := ⟨by omega, by omega⟩) (k := kP ?_) (kx := r_nox)
    first
     | exact r_iret dX9_walkTime_19 (mr_of hP rfl (fun h => absurd h z5))
     | exact r_iret dX9_walkTime_19 (mr_of hP rfl (fun _ => rfl))
  · refine r_iconst dX9_walkTime_8 ?_
    refine r_goto (tgt := 19) dX9_walkTime_9 (by decide) ?_
    first
     | exact r_iret dX9_walkTime_19 (mr_of hP rfl (fun h => absurd h z5))
     | exact r_iret dX9_walkTime_19 (mr_of hP rfl (fun _ => rfl))
theorem m_isInTime (hM : RM M Y σ) (hO : Ok σ T) (r : Int) (ha : inR r) : Ht G iX9_isInTime yX9_isInTime 11 [.ref (Y 0), .int (iz r)] M (MR Y M (opIsInTime σ r)) nX 0 0 := by
  obtain ⟨⟨p1, p2, p3, p4, p5, p6, -⟩, -, -, hR, -⟩ := id hO
  refine ht_intro (by decide +kernel) rfl rfl rfl (Nat.le_of_ble_eq_true rfl) ?_
  refine r_aload_n dX9_isInTime_0 rfl ?_
  refine r_iconst dX9_isInTime_1 ?_
  refine r_putI qX9_81 dX9_isInTime_2 hM.o (kk := ?_)
  refine gm (P := MP Y M σ 0) (mp0 hM) (fun M1 hP => ?_)
  have hM := hP.1
  refine r_aload_n dX9_isInTime_5 rfl ?_
  refine r_iload_n dX9_isInTime_6 rfl ?_
  refine r_callV (mi := iX9_isInTime) vX9_111 dX9_isInTime_7 hM.o (m_isRound hM (by omega) r ha) (hm := ⟨by omega, by omega⟩) (k := kP ?_) (kx := r_nox)
  refine r_dif_ne (tgt := 27) dX9_isInTime_10 (by decide) (kt := fun z10 => ?_) (kf := fun z10 => ?_)
  · obtain ⟨r, rfl⟩ := nat_of (a := r) (by omega)
    have hr3 : r < σ.1 3 := by omega
    obtain ⟨r1, r2⟩ := hR r hr3
    have hwt := wT_le hO (2 ^ r)
    refine r_aload_n dX9_isInTime_27 rfl ?_
    refine r_iconst dX9_isInTime_28 ?_
    refine r_iload_n dX9_isInTime_29 rfl ?_
    refine r_ishl dX9_isInTime_30 (sl_1 rfl (by omega)) ?_
    refine r_callV (mi := iX9_isInTime) vX9_187 dX9_isInTime_31 hM.o (m_walks hM hO (2 ^ r) (two_lt (by omega))) (hm := ⟨by omega, by omega⟩) (k := kI (fun x M2 hP2 => ?_)) (kx := r_nox)
    obtain ⟨hW2, hx⟩ := hP2
    subst hx
    have hA := (hW2.mp hP).2
    have hP := (hW2.mp hP).1
    have hM := hP.1
    refine r_bif_eq (tgt := 57) dX9_isInTime_34 (by decide) (kt := fun z34 => ?_) (kf := fun z34 => ?_)
    · refine r_iconst dX9_isInTime_57 ?_
      first
       | exact r_zret (x := true) dX9_isInTime_58 (mr_of hP (by unfold opIsInTime; exact if_neg (by omega)) (fun _ => by rw [Int.toNat_natCast, z34, decide_eq_true (by omega)]; rfl))
       | exact r_zret (x := false) dX9_isInTime_58 (mr_of hP (by unfold opIsInTime; exact if_neg (by omega)) (fun _ => by rw [Int.toNat_natCast, z34]; rfl))
       | exact r_zret (x := false) dX9_isInTime_58 (mr_of hP (by unfold opIsInTime; exact if_neg (by omega)) (fun _ => by rw [Int.toNat_natCast, z34, decide_eq_false (by omega)]; rfl))
    · refine r_aload_n dX9_isInTime_37 rfl ?_
      refine r_iconst dX9_isInTime_38 ?_
      refine r_iload_n dX9_isInTime_39 rfl ?_
      refine r_ishl dX9_isInTime_40 (sl_1 rfl (by omega)) ?_
      refine r_callV (mi := iX9_isInTime) vX9_208 dX9_isInTime_41 hM.o (m_timeOf hM hO (2 ^ r) (wL σ (2 ^ r)) (two_lt (by omega)) gV_le (hA.2.2 z34).1) (hm := ⟨by omega, by omega⟩) (k := kP ?_) (kx := r_nox)
      refine gs (show iz ((wL σ (2 ^ r) + 2 * dueN σ (2 ^ r) + lightN σ (2 ^ r) : Nat) : Int) = iz (wT σ (2 ^ r) : Int) from rfl) ?_
      refine r_aload_n dX9_isInTime_44 rfl ?_
      refine r_getR qX9_34 dX9_isInTime_45 hM.o (hM.r 9) (kk := ?_)
      refine r_iload_n dX9_isInTime_48 rfl ?_
      refine r_iald dX9_isInTime_49 (hM.cc 9 11 4) rfl (hM.v 9 _ (hr3)) (k := ?_)
      refine r_icmp_gt (tgt := 57) dX9_isInTime_50 (by decide) (kt := fun z50 => ?_) (kf := fun z50 => ?_)
      · refine r_iconst dX9_isInTime_57 ?_
        first
         | exact r_zret (x := true) dX9_isInTime_58 (mr_of hP (by unfold opIsInTime; exact if_neg (by omega)) (fun _ => by rw [Int.toNat_natCast, z34, decide_eq_true (by omega)]; rfl))
         | exact r_zret (x := false) dX9_isInTime_58 (mr_of hP (by unfold opIsInTime; exact if_neg (by omega)) (fun _ => by rw [Int.toNat_natCast, z34]; rfl))
         | exact r_zret (x := false) dX9_isInTime_58 (mr_of hP (by unfold opIsInTime; exact if_neg (by omega)) (fun _ => by rw [Int.toNat_natCast, z34, decide_eq_false (by omega)]; rfl))
      · refine r_iconst dX9_isInTime_53 ?_
        refine r_goto (tgt := 58) dX9_isInTime_54 (by decide) ?_
        first
         | exact r_zret (x := true) dX9_isInTime_58 (mr_of hP (by unfold opIsInTime; exact if_neg (by omega)) (fun _ => by rw [Int.toNat_natCast, z34, decide_eq_true (by omega)]; rfl))
         | exact r_zret (x := false) dX9_isInTime_58 (mr_of hP (by unfold opIsInTime; exact if_neg (by omega)) (fun _ => by rw [Int.toNat_natCast, z34]; rfl))
         | exact r_zret (x := false) dX9_isInTime_58 (mr_of hP (by unfold opIsInTime; exact if_neg (by omega)) (fun _ => by rw [Int.toNat_natCast, z34, decide_eq_false (by omega)]; rfl))
  · refine r_aload_n dX9_isInTime_13 rfl ?_
    refine r_iconst dX9_isInTime_14 ?_
    refine r_callV (mi := iX9_isInTime) vX9_100 dX9_isInTime_15 hM.o (m_fails hM.o 1) (hm := ⟨by omega, by omega⟩) (k := kP ?_) (kx := r_nox)
    refine r_if_le (tgt := 25) dX9_isInTime_18 (by decide) (kt := fun z18 => ?_) (kf := fun z18 => (by exfalso; first | omega | simp_all))
    refine r_iconst dX9_isInTime_25 ?_
    exact r_zret (x := false) dX9_isInTime_26 (mr_of (mpf hP 1) (by unfold opIsInTime; exact if_pos (by omega)) (fun h => absurd h (by decide)))
end MD7
