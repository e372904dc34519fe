/-! The helpers of the law. -/
section HLP
variable {G : GC} {M M' : Mem} {C : CE} {σ : St} {T : Nat}
theorem h_dispatch (hM : XM G M C σ) (hO : Ok σ T) {a9 : Nat} (ha9 : mC M a9 = some (14, 1)) : Ht G iL_dispatch yL_dispatch 16 [.ref (eX C 0), .ref a9] M (HR G C a9 M (opDispatch σ)) nX 3 18 := by
  have hX := hM.1
  refine ht_introH (by decide +kernel) rfl rfl rfl (Nat.le_of_ble_eq_true rfl) ?_
  have hx : ∀ E M1, CX G C M (opDispatch σ) [NSE, UOE] E M1 → SXG G iL_dispatch (rmd 16 3 18) (QF G (HR G C a9 M (opDispatch σ)) nX 3 18) 3 [(0, .ref (eX C 0)), (1, .ref a9)] M1 3 18 E := by
    rintro E M1 ⟨c, hc, hE, hq⟩
    have hQ := hq_of hX ha9 (Or.inl rfl) hq
    match c, hE with
    | 0, hE =>
      injection hE with hE
      subst hE
      refine r_catch (nm := NSE) [] (0, 15, 18, 19) [(0, 15, 21, 80)] rfl (fun z hz => nomatch hz) (by decide) rfl (by decide) nL_19 (by decide +kernel) (k := fun q => ?_)
      refine r_astore_n dL_dispatch_18 (k := ?_)
      refine r_iconst dL_dispatch_19 ?_
      exact r_iret dL_dispatch_20 ⟨_, rfl, by rw [hc] <;> rfl, fun h => by omega, hQ⟩
    | 1, hE =>
      injection hE with hE
      subst hE
      refine r_catch (nm := UOE) [(0, 15, 18, 19)] (0, 15, 21, 80) [] rfl (List.forall_mem_cons.mpr ⟨⟨_, nL_19, by decide +kernel⟩, (fun z hz => nomatch hz)⟩) (by decide) rfl (by decide) nL_80 (by decide +kernel) (k := fun q => ?_)
      refine r_astore_n dL_dispatch_21 (k := ?_)
      refine r_iconst dL_dispatch_22 ?_
      exact r_iret dL_dispatch_23 ⟨_, rfl, by rw [hc] <;> rfl, fun h => by omega, hQ⟩
    | c + 2, hE => exact nomatch hE
  refine r_aload_n dL_dispatch_0 rfl ?_
  refine r_iconst dL_dispatch_1 ?_
  refine r_aload_n dL_dispatch_2 rfl ?_
  refine r_callV (mi := iL_dispatch) vL_125 dL_dispatch_3 (hX.x 0 8 0) (y_dispatch hM hO) (hm := by first | exact ⟨Nat.le_of_ble_eq_true rfl, Nat.le_of_ble_eq_true rfl⟩ | (constructor <;> simp only [rmd] <;> omega)) (k := kI (fun r M1 h1 => ?_)) (kx := hx)
  obtain ⟨h0, rfl, hq⟩ := h1
  have hQ := hq_of hX ha9 (Or.inl rfl) hq
  have hz : (opDispatch σ).2.2 = 0 ∨ (opDispatch σ).2.2 = 1 := by unfold opDispatch; repeat' (first | exact Or.inl rfl | exact Or.inr rfl | split)
  refine r_if_eq (tgt := 13) dL_dispatch_6 (by decide) (kt := fun z6 => ?_) (kf := fun z6 => ?_)
  · refine r_lconst dL_dispatch_13 (k := ?_)
    refine r_last dL_dispatch_14 (hQ.2.2.1.trans ha9) (j := 0) rfl (k := ?_)
    refine r_goto (tgt := 24) dL_dispatch_15 (by decide) ?_
    refine r_iconst dL_dispatch_24 ?_
    first
     | exact r_iret dL_dispatch_25 ⟨_, rfl, by rw [h0] <;> rfl, fun _ => by rw [mL_sL]; exact (up_s _ _ _).trans (by rw [show (opDispatch σ).2.2 = 0 by omega]; decide +kernel), hQ.put ha9 (Or.inl rfl) rfl rfl (fun b hb => Sm.L hb)⟩
     | exact r_iret dL_dispatch_25 ⟨_, rfl, by rw [h0] <;> rfl, fun _ => by rw [mL_sL]; exact (up_s _ _ _).trans (by rw [show (opDispatch σ).2.2 = 1 by omega]; decide +kernel), hQ.put ha9 (Or.inl rfl) rfl rfl (fun b hb => Sm.L hb)⟩
  · refine r_lconst dL_dispatch_9 (k := ?_)
    refine r_goto (tgt := 14) dL_dispatch_10 (by decide) ?_
    refine r_last dL_dispatch_14 (hQ.2.2.1.trans ha9) (j := 0) rfl (k := ?_)
    refine r_goto (tgt := 24) dL_dispatch_15 (by decide) ?_
    refine r_iconst dL_dispatch_24 ?_
    first
     | exact r_iret dL_dispatch_25 ⟨_, rfl, by rw [h0] <;> rfl, fun _ => by rw [mL_sL]; exact (up_s _ _ _).trans (by rw [show (opDispatch σ).2.2 = 0 by omega]; decide +kernel), hQ.put ha9 (Or.inl rfl) rfl rfl (fun b hb => Sm.L hb)⟩
     | exact r_iret dL_dispatch_25 ⟨_, rfl, by rw [h0] <;> rfl, fun _ => by rw [mL_sL]; exact (up_s _ _ _).trans (by rw [show (opDispatch σ).2.2 = 1 by omega]; decide +kernel), hQ.put ha9 (Or.inl rfl) rfl rfl (fun b hb => Sm.L hb)⟩
theorem h_hasWalk (hM : XM G M C σ) (hO : Ok σ T) (r : Int) (ha : inR r) {a9 : Nat} (ha9 : mC M a9 = some (14, 1)) : Ht G iL_hasWalk yL_hasWalk 26 [.ref (eX C 0), .int (iz r), .ref a9] M (HR G C a9 M (opHasWalk σ r)) nX 40 1100 := by
  have hX := hM.1
  refine ht_introH (by decide +kernel) rfl rfl rfl (Nat.le_of_ble_eq_true rfl) ?_
  have hx : ∀ E M1, CX G C M (opHasWalk σ r) [NSE] E M1 → SXG G iL_hasWalk (rmd 26 40 1100) (QF G (HR G C a9 M (opHasWalk σ r)) nX 40 1100) 4 [(0, .ref (eX C 0)), (1, .int (iz r)), (2, .ref a9)] M1 40 1100 E := by
    rintro E M1 ⟨c, hc, hE, hq⟩
    have hQ := hq_of hX ha9 (Or.inl rfl) hq
    match c, hE with
    | 0, hE =>
      injection hE with hE
      subst hE
      refine r_catch (nm := NSE) [] (0, 16, 19, 19) [] rfl (fun z hz => nomatch hz) (by decide) rfl (by decide) nL_19 (by decide +kernel) (k := fun q => ?_)
      refine r_astore_n dL_hasWalk_19 (k := ?_)
      refine r_iconst dL_hasWalk_20 ?_
      exact r_iret dL_hasWalk_21 ⟨_, rfl, by rw [hc] <;> rfl, fun h => by omega, hQ⟩
    | c + 1, hE => exact nomatch hE
  refine r_aload_n dL_hasWalk_0 rfl ?_
  refine r_iconst dL_hasWalk_1 ?_
  refine r_aload_n dL_hasWalk_2 rfl ?_
  refine r_iload_n dL_hasWalk_3 rfl ?_
  refine r_callV (mi := iL_hasWalk) vL_71 dL_hasWalk_4 (hX.x 0 8 0) (y_hasWalk hM hO r ha) (hm := by first | exact ⟨Nat.le_of_ble_eq_true rfl, Nat.le_of_ble_eq_true rfl⟩ | (constructor <;> simp only [rmd] <;> omega)) (k := kI (fun r M1 h1 => ?_)) (kx := hx)
  obtain ⟨h0, rfl, hq⟩ := h1
  have hQ := hq_of hX ha9 (Or.inl rfl) hq
  have hz : (opHasWalk σ r).2.2 = 0 ∨ (opHasWalk σ r).2.2 = 1 := by unfold opHasWalk; repeat' (first | exact Or.inl rfl | exact Or.inr rfl | split)
  refine r_if_eq (tgt := 14) dL_hasWalk_7 (by decide) (kt := fun z7 => ?_) (kf := fun z7 => ?_)
  · refine r_lconst dL_hasWalk_14 (k := ?_)
    refine r_last dL_hasWalk_15 (hQ.2.2.1.trans ha9) (j := 0) rfl (k := ?_)
    refine r_goto (tgt := 22) dL_hasWalk_16 (by decide) ?_
    refine r_iconst dL_hasWalk_22 ?_
    first
     | exact r_iret dL_hasWalk_23 ⟨_, rfl, by rw [h0] <;> rfl, fun _ => by rw [mL_sL]; exact (up_s _ _ _).trans (by rw [show (opHasWalk σ r).2.2 = 0 by omega]; decide +kernel), hQ.put ha9 (Or.inl rfl) rfl rfl (fun b hb => Sm.L hb)⟩
     | exact r_iret dL_hasWalk_23 ⟨_, rfl, by rw [h0] <;> rfl, fun _ => by rw [mL_sL]; exact (up_s _ _ _).trans (by rw [show (opHasWalk σ r).2.2 = 1 by omega]; decide +kernel), hQ.put ha9 (Or.inl rfl) rfl rfl (fun b hb => Sm.L hb)⟩
  · refine r_lconst dL_hasWalk_10 (k := ?_)
    refine r_goto (tgt := 15) dL_hasWalk_11 (by decide) ?_
    refine r_last dL_hasWalk_15 (hQ.2.2.1.trans ha9) (j := 0) rfl (k := ?_)
    refine r_goto (tgt := 22) dL_hasWalk_16 (by decide) ?_
    refine r_iconst dL_hasWalk_22 ?_
    first
     | exact r_iret dL_hasWalk_23 ⟨_, rfl, by rw [h0] <;> rfl, fun _ => by rw [mL_sL]; exact (up_s _ _ _).trans (by rw [show (opHasWalk σ r).2.2 = 0 by omega]; decide +kernel), hQ.put ha9 (Or.inl rfl) rfl rfl (fun b hb => Sm.L hb)⟩
     | exact r_iret dL_hasWalk_23 ⟨_, rfl, by rw [h0] <;> rfl, fun _ => by rw [mL_sL]; exact (up_s _ _ _).trans (by rw [show (opHasWalk σ r).2.2 = 1 by omega]; decide +kernel), hQ.put ha9 (Or.inl rfl) rfl rfl (fun b hb => Sm.L hb)⟩
theorem h_isDue (hM : XM G M C σ) (hO : Ok σ T) (s : Int) (ha : inR s) {a9 : Nat} (ha9 : mC M a9 = some (14, 1)) : Ht G iL_isDue yL_isDue 14 [.ref (eX C 0), .int (iz s), .ref a9] M (HR G C a9 M (opIsDue σ s)) nX 1 6 := by
  have hX := hM.1
  refine ht_introH (by decide +kernel) rfl rfl rfl (Nat.le_of_ble_eq_true rfl) ?_
  have hx : ∀ E M1, CX G C M (opIsDue σ s) [NSE] E M1 → SXG G iL_isDue (rmd 14 1 6) (QF G (HR G C a9 M (opIsDue σ s)) nX 1 6) 4 [(0, .ref (eX C 0)), (1, .int (iz s)), (2, .ref a9)] M1 1 6 E := by
    rintro E M1 ⟨c, hc, hE, hq⟩
    have hQ := hq_of hX ha9 (Or.inl rfl) hq
    match c, hE with
    | 0, hE =>
      injection hE with hE
      subst hE
      refine r_catch (nm := NSE) [] (0, 16, 19, 19) [] rfl (fun z hz => nomatch hz) (by decide) rfl (by decide) nL_19 (by decide +kernel) (k := fun q => ?_)
      refine r_astore_n dL_isDue_19 (k := ?_)
      refine r_iconst dL_isDue_20 ?_
      exact r_iret dL_isDue_21 ⟨_, rfl, by rw [hc] <;> rfl, fun h => by omega, hQ⟩
    | c + 1, hE => exact nomatch hE
  refine r_aload_n dL_isDue_0 rfl ?_
  refine r_iconst dL_isDue_1 ?_
  refine r_aload_n dL_isDue_2 rfl ?_
  refine r_iload_n dL_isDue_3 rfl ?_
  refine r_callV (mi := iL_isDue) vL_55 dL_isDue_4 (hX.x 0 8 0) (y_isDue hM hO s ha) (hm := by first | exact ⟨Nat.le_of_ble_eq_true rfl, Nat.le_of_ble_eq_true rfl⟩ | (constructor <;> simp only [rmd] <;> omega)) (k := kI (fun r M1 h1 => ?_)) (kx := hx)
  obtain ⟨h0, rfl, hq⟩ := h1
  have hQ := hq_of hX ha9 (Or.inl rfl) hq
  have hz : (opIsDue σ s).2.2 = 0 ∨ (opIsDue σ s).2.2 = 1 := by unfold opIsDue; repeat' (first | exact Or.inl rfl | exact Or.inr rfl | split)
  refine r_if_eq (tgt := 14) dL_isDue_7 (by decide) (kt := fun z7 => ?_) (kf := fun z7 => ?_)
  · refine r_lconst dL_isDue_14 (k := ?_)
    refine r_last dL_isDue_15 (hQ.2.2.1.trans ha9) (j := 0) rfl (k := ?_)
    refine r_goto (tgt := 22) dL_isDue_16 (by decide) ?_
    refine r_iconst dL_isDue_22 ?_
    first
     | exact r_iret dL_isDue_23 ⟨_, rfl, by rw [h0] <;> rfl, fun _ => by rw [mL_sL]; exact (up_s _ _ _).trans (by rw [show (opIsDue σ s).2.2 = 0 by omega]; decide +kernel), hQ.put ha9 (Or.inl rfl) rfl rfl (fun b hb => Sm.L hb)⟩
     | exact r_iret dL_isDue_23 ⟨_, rfl, by rw [h0] <;> rfl, fun _ => by rw [mL_sL]; exact (up_s _ _ _).trans (by rw [show (opIsDue σ s).2.2 = 1 by omega]; decide +kernel), hQ.put ha9 (Or.inl rfl) rfl rfl (fun b hb => Sm.L hb)⟩
  · refine r_lconst dL_isDue_10 (k := ?_)
    refine r_goto (tgt := 15) dL_isDue_11 (by decide) ?_
    refine r_last dL_isDue_15 (hQ.2.2.1.trans ha9) (j := 0) rfl (k := ?_)
    refine r_goto (tgt := 22) dL_isDue_16 (by decide) ?_
    refine r_iconst dL_isDue_22 ?_
    first
     | exact r_iret dL_isDue_23 ⟨_, rfl, by rw [h0] <;> rfl, fun _ => by rw [mL_sL]; exact (up_s _ _ _).trans (by rw [show (opIsDue σ s).2.2 = 0 by omega]; decide +kernel), hQ.put ha9 (Or.inl rfl) rfl rfl (fun b hb => Sm.L hb)⟩
     | exact r_iret dL_isDue_23 ⟨_, rfl, by rw [h0] <;> rfl, fun _ => by rw [mL_sL]; exact (up_s _ _ _).trans (by rw [show (opIsDue σ s).2.2 = 1 by omega]; decide +kernel), hQ.put ha9 (Or.inl rfl) rfl rfl (fun b hb => Sm.L hb)⟩
theorem h_isHeavy (hM : XM G M C σ) (hO : Ok σ T) (p : Int) (ha : inR p) {a9 : Nat} (ha9 : mC M a9 = some (14, 1)) : Ht G iL_isHeavy yL_isHeavy 14 [.ref (eX C 0), .int (iz p), .ref a9] M (HR G C a9 M (opHeavy σ p)) nX 1 6 := by
  have hX := hM.1
  refine ht_introH (by decide +kernel) rfl rfl rfl (Nat.le_of_ble_eq_true rfl) ?_
  have hx : ∀ E M1, CX G C M (opHeavy σ p) [NSE] E M1 → SXG G iL_isHeavy (rmd 14 1 6) (QF G (HR G C a9 M (opHeavy σ p)) nX 1 6) 4 [(0, .ref (eX C 0)), (1, .int (iz p)), (2, .ref a9)] M1 1 6 E := by
    rintro E M1 ⟨c, hc, hE, hq⟩
    have hQ := hq_of hX ha9 (Or.inl rfl) hq
    match c, hE with
    | 0, hE =>
      injection hE with hE
      subst hE
      refine r_catch (nm := NSE) [] (0, 16, 19, 19) [] rfl (fun z hz => nomatch hz) (by decide) rfl (by decide) nL_19 (by decide +kernel) (k := fun q => ?_)
      refine r_astore_n dL_isHeavy_19 (k := ?_)
      refine r_iconst dL_isHeavy_20 ?_
      exact r_iret dL_isHeavy_21 ⟨_, rfl, by rw [hc] <;> rfl, fun h => by omega, hQ⟩
    | c + 1, hE => exact nomatch hE
  refine r_aload_n dL_isHeavy_0 rfl ?_
  refine r_iconst dL_isHeavy_1 ?_
  refine r_aload_n dL_isHeavy_2 rfl ?_
  refine r_iload_n dL_isHeavy_3 rfl ?_
  refine r_callV (mi := iL_isHeavy) vL_116 dL_isHeavy_4 (hX.x 0 8 0) (y_isHeavy hM hO p ha) (hm := by first | exact ⟨Nat.le_of_ble_eq_true rfl, Nat.le_of_ble_eq_true rfl⟩ | (constructor <;> simp only [rmd] <;> omega)) (k := kI (fun r M1 h1 => ?_)) (kx := hx)
  obtain ⟨h0, rfl, hq⟩ := h1
  have hQ := hq_of hX ha9 (Or.inl rfl) hq
  have hz : (opHeavy σ p).2.2 = 0 ∨ (opHeavy σ p).2.2 = 1 := by unfold opHeavy; repeat' (first | exact Or.inl rfl | exact Or.inr rfl | split)
  refine r_if_eq (tgt := 14) dL_isHeavy_7 (by decide) (kt := fun z7 => ?_) (kf := fun z7 => ?_)
  · refine r_lconst dL_isHeavy_14 (k := ?_)
    refine r_last dL_isHeavy_15 (hQ.2.2.1.trans ha9) (j := 0) rfl (k := ?_)
    refine r_goto (tgt := 22) dL_isHeavy_16 (by decide) ?_
    refine r_iconst dL_isHeavy_22 ?_
    first
     | exact r_iret dL_isHeavy_23 ⟨_, rfl, by rw [h0] <;> rfl, fun _ => by rw [mL_sL]; exact (up_s _ _ _).trans (by rw [show (opHeavy σ p).2.2 = 0 by omega]; decide +kernel), hQ.put ha9 (Or.inl rfl) rfl rfl (fun b hb => Sm.L hb)⟩
     | exact r_iret dL_isHeavy_23 ⟨_, rfl, by rw [h0] <;> rfl, fun _ => by rw [mL_sL]; exact (up_s _ _ _).trans (by rw [show (opHeavy σ p).2.2 = 1 by omega]; decide +kernel), hQ.put ha9 (Or.inl rfl) rfl rfl (fun b hb => Sm.L hb)⟩
  · refine r_lconst dL_isHeavy_10 (k := ?_)
    refine r_goto (tgt := 15) dL_isHeavy_11 (by decide) ?_
    refine r_last dL_isHeavy_15 (hQ.2.2.1.trans ha9) (j := 0) rfl (k := ?_)
    refine r_goto (tgt := 22) dL_isHeavy_16 (by decide) ?_
    refine r_iconst dL_isHeavy_22 ?_
    first
     | exact r_iret dL_isHeavy_23 ⟨_, rfl, by rw [h0] <;> rfl, fun _ => by rw [mL_sL]; exact (up_s _ _ _).trans (by rw [show (opHeavy σ p).2.2 = 0 by omega]; decide +kernel), hQ.put ha9 (Or.inl rfl) rfl rfl (fun b hb => Sm.L hb)⟩
     | exact r_iret dL_isHeavy_23 ⟨_, rfl, by rw [h0] <;> rfl, fun _ => by rw [mL_sL]; exact (up_s _ _ _).trans (by rw [show (opHeavy σ p).2.2 = 1 by omega]; decide +kernel), hQ.put ha9 (Or.inl rfl) rfl rfl (fun b hb => Sm.L hb)⟩
theorem h_isInTime (hM : XM G M C σ) (hO : Ok σ T) (r : Int) (ha : inR r) {a9 : Nat} (ha9 : mC M a9 = some (14, 1)) : Ht G iL_isInTime yL_isInTime 26 [.ref (eX C 0), .int (iz r), .ref a9] M (HR G C a9 M (opIsInTime σ r)) nX 40 1100 := by
  have hX := hM.1
  refine ht_introH (by decide +kernel) rfl rfl rfl (Nat.le_of_ble_eq_true rfl) ?_
  have hx : ∀ E M1, CX G C M (opIsInTime σ r) [NSE] E M1 → SXG G iL_isInTime (rmd 26 40 1100) (QF G (HR G C a9 M (opIsInTime σ r)) nX 40 1100) 4 [(0, .ref (eX C 0)), (1, .int (iz r)), (2, .ref a9)] M1 40 1100 E := by
    rintro E M1 ⟨c, hc, hE, hq⟩
    have hQ := hq_of hX ha9 (Or.inl rfl) hq
    match c, hE with
    | 0, hE =>
      injection hE with hE
      subst hE
      refine r_catch (nm := NSE) [] (0, 16, 19, 19) [] rfl (fun z hz => nomatch hz) (by decide) rfl (by decide) nL_19 (by decide +kernel) (k := fun q => ?_)
      refine r_astore_n dL_isInTime_19 (k := ?_)
      refine r_iconst dL_isInTime_20 ?_
      exact r_iret dL_isInTime_21 ⟨_, rfl, by rw [hc] <;> rfl, fun h => by omega, hQ⟩
    | c + 1, hE => exact nomatch hE
  refine r_aload_n dL_isInTime_0 rfl ?_
  refine r_iconst dL_isInTime_1 ?_
  refine r_aload_n dL_isInTime_2 rfl ?_
  refine r_iload_n dL_isInTime_3 rfl ?_
  refine r_callV (mi := iL_isInTime) vL_94 dL_isInTime_4 (hX.x 0 8 0) (y_isInTime hM hO r ha) (hm := by first | exact ⟨Nat.le_of_ble_eq_true rfl, Nat.le_of_ble_eq_true rfl⟩ | (constructor <;> simp only [rmd] <;> omega)) (k := kI (fun r M1 h1 => ?_)) (kx := hx)
  obtain ⟨h0, rfl, hq⟩ := h1
  have hQ := hq_of hX ha9 (Or.inl rfl) hq
  have hz : (opIsInTime σ r).2.2 = 0 ∨ (opIsInTime σ r).2.2 = 1 := by unfold opIsInTime; repeat' (first | exact Or.inl rfl | exact Or.inr rfl | split)
  refine r_if_eq (tgt := 14) dL_isInTime_7 (by decide) (kt := fun z7 => ?_) (kf := fun z7 => ?_)
  · refine r_lconst dL_isInTime_14 (k := ?_)
    refine r_last dL_isInTime_15 (hQ.2.2.1.trans ha9) (j := 0) rfl (k := ?_)
    refine r_goto (tgt := 22) dL_isInTime_16 (by decide) ?_
    refine r_iconst dL_isInTime_22 ?_
    first
     | exact r_iret dL_isInTime_23 ⟨_, rfl, by rw [h0] <;> rfl, fun _ => by rw [mL_sL]; exact (up_s _ _ _).trans (by rw [show (opIsInTime σ r).2.2 = 0 by omega]; decide +kernel), hQ.put ha9 (Or.inl rfl) rfl rfl (fun b hb => Sm.L hb)⟩
     | exact r_iret dL_isInTime_23 ⟨_, rfl, by rw [h0] <;> rfl, fun _ => by rw [mL_sL]; exact (up_s _ _ _).trans (by rw [show (opIsInTime σ r).2.2 = 1 by omega]; decide +kernel), hQ.put ha9 (Or.inl rfl) rfl rfl (fun b hb => Sm.L hb)⟩
  · refine r_lconst dL_isInTime_10 (k := ?_)
    refine r_goto (tgt := 15) dL_isInTime_11 (by decide) ?_
    refine r_last dL_isInTime_15 (hQ.2.2.1.trans ha9) (j := 0) rfl (k := ?_)
    refine r_goto (tgt := 22) dL_isInTime_16 (by decide) ?_
    refine r_iconst dL_isInTime_22 ?_
    first
     | exact r_iret dL_isInTime_23 ⟨_, rfl, by rw [h0] <;> rfl, fun _ => by rw [mL_sL]; exact (up_s _ _ _).trans (by rw [show (opIsInTime σ r).2.2 = 0 by omega]; decide +kernel), hQ.put ha9 (Or.inl rfl) rfl rfl (fun b hb => Sm.L hb)⟩
     | exact r_iret dL_isInTime_23 ⟨_, rfl, by rw [h0] <;> rfl, fun _ => by rw [mL_sL]; exact (up_s _ _ _).trans (by rw [show (opIsInTime σ r).2.2 = 1 by omega]; decide +kernel), hQ.put ha9 (Or.inl rfl) rfl rfl (fun b hb => Sm.L hb)⟩
end HLP
