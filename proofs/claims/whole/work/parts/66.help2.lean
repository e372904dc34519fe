/-! The helpers of the law. -/
section HLP
variable {G : GC} {M M' : Mem} {C : CE} {σ : St} {T : Nat}
theorem h_addHouse (hM : XM G M C σ) (hO : Ok σ T) (s d o : Int) (ha : inR s) (hb : inR d) (hl : inR o) {a9 : Nat} (ha9 : mC M a9 = some (14, 1)) : Ht G iL_addHouse yL_addHouse 18 [.ref (eX C 0), .int (iz s), .int (iz d), .int (iz o), .ref a9] M (HR G C a9 M (opAddHouse σ s d o)) nX 8 120 := by
  have hX := hM.1
  refine ht_introH (by decide +kernel) rfl rfl rfl (Nat.le_of_ble_eq_true rfl) ?_
  have hx : ∀ E M1, CX G C M (opAddHouse σ s d o) [NSE, IAE, ISE] E M1 → SXG G iL_addHouse (rmd 18 8 120) (QF G (HR G C a9 M (opAddHouse σ s d o)) nX 8 120) 7 [(0, .ref (eX C 0)), (1, .int (iz s)), (2, .int (iz d)), (3, .int (iz o)), (4, .ref a9)] M1 8 120 E := by
    rintro E M1 ⟨c, hc, hE, hq⟩
    have hQ := hq_of hX ha9 (Or.inl rfl) hq
    match c, hE with
    | 0, hE =>
      injection hE with hE
      subst hE
      refine r_catch (nm := NSE) [] (0, 12, 15, 19) [(0, 12, 19, 21), (0, 12, 23, 13)] rfl (fun z hz => nomatch hz) (by decide) rfl (by decide) nL_19 (by decide +kernel) (k := fun q => ?_)
      refine r_astore dL_addHouse_15 (k := ?_)
      refine r_iconst dL_addHouse_17 ?_
      exact r_iret dL_addHouse_18 ⟨_, rfl, by rw [hc] <;> rfl, fun h => by omega, hQ⟩
    | 1, hE =>
      injection hE with hE
      subst hE
      refine r_catch (nm := IAE) [(0, 12, 15, 19)] (0, 12, 19, 21) [(0, 12, 23, 13)] rfl (List.forall_mem_cons.mpr ⟨⟨_, nL_19, by decide +kernel⟩, (fun z hz => nomatch hz)⟩) (by decide) rfl (by decide) nL_21 (by decide +kernel) (k := fun q => ?_)
      refine r_astore dL_addHouse_19 (k := ?_)
      refine r_iconst dL_addHouse_21 ?_
      exact r_iret dL_addHouse_22 ⟨_, rfl, by rw [hc] <;> rfl, fun h => by omega, hQ⟩
    | 2, hE =>
      injection hE with hE
      subst hE
      refine r_catch (nm := ISE) [(0, 12, 15, 19), (0, 12, 19, 21)] (0, 12, 23, 13) [] rfl (List.forall_mem_cons.mpr ⟨⟨_, nL_19, by decide +kernel⟩, (List.forall_mem_cons.mpr ⟨⟨_, nL_21, by decide +kernel⟩, (fun z hz => nomatch hz)⟩)⟩) (by decide) rfl (by decide) nL_13 (by decide +kernel) (k := fun q => ?_)
      refine r_astore dL_addHouse_23 (k := ?_)
      refine r_iconst dL_addHouse_25 ?_
      exact r_iret dL_addHouse_26 ⟨_, rfl, by rw [hc] <;> rfl, fun h => by omega, hQ⟩
    | c + 3, hE => exact nomatch hE
  refine r_aload dL_addHouse_0 rfl ?_
  refine r_iconst dL_addHouse_2 ?_
  refine r_aload_n dL_addHouse_3 rfl ?_
  refine r_iload_n dL_addHouse_4 rfl ?_
  refine r_iload_n dL_addHouse_5 rfl ?_
  refine r_iload_n dL_addHouse_6 rfl ?_
  refine r_callV (mi := iL_addHouse) vL_23 dL_addHouse_7 (hX.x 0 8 0) (y_addHouse hM hO s d o ha hb hl) (hm := by first | exact ⟨Nat.le_of_ble_eq_true rfl, Nat.le_of_ble_eq_true rfl⟩ | (constructor <;> simp only [rmd] <;> omega)) (k := kI (fun r M1 h1 => ?_)) (kx := hx)
  obtain ⟨h0, rfl, hq⟩ := h1
  have hQ := hq_of hX ha9 (Or.inl rfl) hq
  refine r_i2l dL_addHouse_10 (rfl) ?_
  refine r_last dL_addHouse_11 (hQ.2.2.1.trans ha9) (j := 0) rfl (k := ?_)
  refine r_goto (tgt := 27) dL_addHouse_12 (by decide) ?_
  refine r_iconst dL_addHouse_27 ?_
  exact r_iret dL_addHouse_28 ⟨_, rfl, by rw [h0] <;> rfl, fun _ => by rw [mL_sL]; exact up_s _ _ _, hQ.put ha9 (Or.inl rfl) rfl rfl (fun b hb => Sm.L hb)⟩
theorem h_addPlace (hM : XM G M C σ) (hO : Ok σ T) {a9 : Nat} (ha9 : mC M a9 = some (14, 1)) : Ht G iL_addPlace yL_addPlace 14 [.ref (eX C 0), .ref a9] M (HR G C a9 M (opAddPlace σ)) nX 1 6 := by
  have hX := hM.1
  refine ht_introH (by decide +kernel) rfl rfl rfl (Nat.le_of_ble_eq_true rfl) ?_
  have hx : ∀ E M1, CX G C M (opAddPlace σ) [ISE] E M1 → SXG G iL_addPlace (rmd 14 1 6) (QF G (HR G C a9 M (opAddPlace σ)) nX 1 6) 3 [(0, .ref (eX C 0)), (1, .ref a9)] M1 1 6 E := by
    rintro E M1 ⟨c, hc, hE, hq⟩
    have hQ := hq_of hX ha9 (Or.inl rfl) hq
    match c, hE with
    | 0, hE =>
      injection hE with hE
      subst hE
      refine r_catch (nm := ISE) [] (0, 8, 11, 13) [] rfl (fun z hz => nomatch hz) (by decide) rfl (by decide) nL_13 (by decide +kernel) (k := fun q => ?_)
      refine r_astore_n dL_addPlace_11 (k := ?_)
      refine r_iconst dL_addPlace_12 ?_
      exact r_iret dL_addPlace_13 ⟨_, rfl, by rw [hc] <;> rfl, fun h => by omega, hQ⟩
    | c + 1, hE => exact nomatch hE
  refine r_aload_n dL_addPlace_0 rfl ?_
  refine r_iconst dL_addPlace_1 ?_
  refine r_aload_n dL_addPlace_2 rfl ?_
  refine r_callV (mi := iL_addPlace) vL_7 dL_addPlace_3 (hX.x 0 8 0) (y_addPlace hM hO) (hm := by first | exact ⟨Nat.le_of_ble_eq_true rfl, Nat.le_of_ble_eq_true rfl⟩ | (constructor <;> simp only [rmd] <;> omega)) (k := kI (fun r M1 h1 => ?_)) (kx := hx)
  obtain ⟨h0, rfl, hq⟩ := h1
  have hQ := hq_of hX ha9 (Or.inl rfl) hq
  refine r_i2l dL_addPlace_6 (rfl) ?_
  refine r_last dL_addPlace_7 (hQ.2.2.1.trans ha9) (j := 0) rfl (k := ?_)
  refine r_goto (tgt := 14) dL_addPlace_8 (by decide) ?_
  refine r_iconst dL_addPlace_14 ?_
  exact r_iret dL_addPlace_15 ⟨_, rfl, by rw [h0] <;> rfl, fun _ => by rw [mL_sL]; exact up_s _ _ _, hQ.put ha9 (Or.inl rfl) rfl rfl (fun b hb => Sm.L hb)⟩
theorem h_addRound (hM : XM G M C σ) (hO : Ok σ T) (l : Int) (ha : inR l) {a9 : Nat} (ha9 : mC M a9 = some (14, 1)) : Ht G iL_addRound yL_addRound 18 [.ref (eX C 0), .int (iz l), .ref a9] M (HR G C a9 M (opAddRound σ l)) nX 8 120 := by
  have hX := hM.1
  refine ht_introH (by decide +kernel) rfl rfl rfl (Nat.le_of_ble_eq_true rfl) ?_
  have hx : ∀ E M1, CX G C M (opAddRound σ l) [IAE, ISE] E M1 → SXG G iL_addRound (rmd 18 8 120) (QF G (HR G C a9 M (opAddRound σ l)) nX 8 120) 4 [(0, .ref (eX C 0)), (1, .int (iz l)), (2, .ref a9)] M1 8 120 E := by
    rintro E M1 ⟨c, hc, hE, hq⟩
    have hQ := hq_of hX ha9 (Or.inl rfl) hq
    match c, hE with
    | 0, hE =>
      injection hE with hE
      subst hE
      refine r_catch (nm := IAE) [] (0, 9, 12, 21) [(0, 9, 15, 13)] rfl (fun z hz => nomatch hz) (by decide) rfl (by decide) nL_21 (by decide +kernel) (k := fun q => ?_)
      refine r_astore_n dL_addRound_12 (k := ?_)
      refine r_iconst dL_addRound_13 ?_
      exact r_iret dL_addRound_14 ⟨_, rfl, by rw [hc] <;> rfl, fun h => by omega, hQ⟩
    | 1, hE =>
      injection hE with hE
      subst hE
      refine r_catch (nm := ISE) [(0, 9, 12, 21)] (0, 9, 15, 13) [] rfl (List.forall_mem_cons.mpr ⟨⟨_, nL_21, by decide +kernel⟩, (fun z hz => nomatch hz)⟩) (by decide) rfl (by decide) nL_13 (by decide +kernel) (k := fun q => ?_)
      refine r_astore_n dL_addRound_15 (k := ?_)
      refine r_iconst dL_addRound_16 ?_
      exact r_iret dL_addRound_17 ⟨_, rfl, by rw [hc] <;> rfl, fun h => by omega, hQ⟩
    | c + 2, hE => exact nomatch hE
  refine r_aload_n dL_addRound_0 rfl ?_
  refine r_iconst dL_addRound_1 ?_
  refine r_aload_n dL_addRound_2 rfl ?_
  refine r_iload_n dL_addRound_3 rfl ?_
  refine r_callV (mi := iL_addRound) vL_27 dL_addRound_4 (hX.x 0 8 0) (y_addRound hM hO l ha) (hm := by first | exact ⟨Nat.le_of_ble_eq_true rfl, Nat.le_of_ble_eq_true rfl⟩ | (constructor <;> simp only [rmd] <;> omega)) (k := kI (fun r M1 h1 => ?_)) (kx := hx)
  obtain ⟨h0, rfl, hq⟩ := h1
  have hQ := hq_of hX ha9 (Or.inl rfl) hq
  refine r_i2l dL_addRound_7 (rfl) ?_
  refine r_last dL_addRound_8 (hQ.2.2.1.trans ha9) (j := 0) rfl (k := ?_)
  refine r_goto (tgt := 18) dL_addRound_9 (by decide) ?_
  refine r_iconst dL_addRound_18 ?_
  exact r_iret dL_addRound_19 ⟨_, rfl, by rw [h0] <;> rfl, fun _ => by rw [mL_sL]; exact up_s _ _ _, hQ.put ha9 (Or.inl rfl) rfl rfl (fun b hb => Sm.L hb)⟩
theorem h_addStreet (hM : XM G M C σ) (hO : Ok σ T) (u v l : Int) (w : Bool) (ha : inR u) (hb : inR v) (hl : inR l) {a9 : Nat} (ha9 : mC M a9 = some (14, 1)) : Ht G iL_addStreet yL_addStreet 18 [.ref (eX C 0), .int (iz u), .int (iz v), .int (iz l), .int (bz w), .ref a9] M (HR G C a9 M (opAddStreet σ u v l w)) nX 8 120 := by
  have hX := hM.1
  refine ht_introH (by decide +kernel) rfl rfl rfl (Nat.le_of_ble_eq_true rfl) ?_
  have hx : ∀ E M1, CX G C M (opAddStreet σ u v l w) [NSE, IAE, ISE] E M1 → SXG G iL_addStreet (rmd 18 8 120) (QF G (HR G C a9 M (opAddStreet σ u v l w)) nX 8 120) 9 [(0, .ref (eX C 0)), (1, .int (iz u)), (2, .int (iz v)), (3, .int (iz l)), (4, .int (bz w)), (5, .ref a9)] M1 8 120 E := by
    rintro E M1 ⟨c, hc, hE, hq⟩
    have hQ := hq_of hX ha9 (Or.inl rfl) hq
    match c, hE with
    | 0, hE =>
      injection hE with hE
      subst hE
      refine r_catch (nm := NSE) [] (0, 14, 17, 19) [(0, 14, 21, 21), (0, 14, 25, 13)] rfl (fun z hz => nomatch hz) (by decide) rfl (by decide) nL_19 (by decide +kernel) (k := fun q => ?_)
      refine r_astore dL_addStreet_17 (k := ?_)
      refine r_iconst dL_addStreet_19 ?_
      exact r_iret dL_addStreet_20 ⟨_, rfl, by rw [hc] <;> rfl, fun h => by omega, hQ⟩
    | 1, hE =>
      injection hE with hE
      subst hE
      refine r_catch (nm := IAE) [(0, 14, 17, 19)] (0, 14, 21, 21) [(0, 14, 25, 13)] rfl (List.forall_mem_cons.mpr ⟨⟨_, nL_19, by decide +kernel⟩, (fun z hz => nomatch hz)⟩) (by decide) rfl (by decide) nL_21 (by decide +kernel) (k := fun q => ?_)
      refine r_astore dL_addStreet_21 (k := ?_)
      refine r_iconst dL_addStreet_23 ?_
      exact r_iret dL_addStreet_24 ⟨_, rfl, by rw [hc] <;> rfl, fun h => by omega, hQ⟩
    | 2, hE =>
      injection hE with hE
      subst hE
      refine r_catch (nm := ISE) [(0, 14, 17, 19), (0, 14, 21, 21)] (0, 14, 25, 13) [] rfl (List.forall_mem_cons.mpr ⟨⟨_, nL_19, by decide +kernel⟩, (List.forall_mem_cons.mpr ⟨⟨_, nL_21, by decide +kernel⟩, (fun z hz => nomatch hz)⟩)⟩) (by decide) rfl (by decide) nL_13 (by decide +kernel) (k := fun q => ?_)
      refine r_astore dL_addStreet_25 (k := ?_)
      refine r_iconst dL_addStreet_27 ?_
      exact r_iret dL_addStreet_28 ⟨_, rfl, by rw [hc] <;> rfl, fun h => by omega, hQ⟩
    | c + 3, hE => exact nomatch hE
  refine r_aload dL_addStreet_0 rfl ?_
  refine r_iconst dL_addStreet_2 ?_
  refine r_aload_n dL_addStreet_3 rfl ?_
  refine r_iload_n dL_addStreet_4 rfl ?_
  refine r_iload_n dL_addStreet_5 rfl ?_
  refine r_iload_n dL_addStreet_6 rfl ?_
  refine r_iload dL_addStreet_7 rfl ?_
  refine r_callV (mi := iL_addStreet) vL_15 dL_addStreet_9 (hX.x 0 8 0) (y_addStreet hM hO u v l w ha hb hl) (hm := by first | exact ⟨Nat.le_of_ble_eq_true rfl, Nat.le_of_ble_eq_true rfl⟩ | (constructor <;> simp only [rmd] <;> omega)) (k := kI (fun r M1 h1 => ?_)) (kx := hx)
  obtain ⟨h0, rfl, hq⟩ := h1
  have hQ := hq_of hX ha9 (Or.inl rfl) hq
  refine r_i2l dL_addStreet_12 (rfl) ?_
  refine r_last dL_addStreet_13 (hQ.2.2.1.trans ha9) (j := 0) rfl (k := ?_)
  refine r_goto (tgt := 29) dL_addStreet_14 (by decide) ?_
  refine r_iconst dL_addStreet_29 ?_
  exact r_iret dL_addStreet_30 ⟨_, rfl, by rw [h0] <;> rfl, fun _ => by rw [mL_sL]; exact up_s _ _ _, hQ.put ha9 (Or.inl rfl) rfl rfl (fun b hb => Sm.L hb)⟩
theorem h_assign (hM : XM G M C σ) (hO : Ok σ T) (s r : Int) (ha : inR s) (hb : inR r) {a9 : Nat} (ha9 : mC M a9 = some (14, 1)) : Ht G iL_assign yL_assign 14 [.ref (eX C 0), .int (iz s), .int (iz r), .ref a9] M (HR G C a9 M (opAssign σ s r)) nX 4 24 := by
  have hX := hM.1
  refine ht_introH (by decide +kernel) rfl rfl rfl (Nat.le_of_ble_eq_true rfl) ?_
  have hx : ∀ E M1, CX G C M (opAssign σ s r) [NSE] E M1 → SXG G iL_assign (rmd 14 4 24) (QF G (HR G C a9 M (opAssign σ s r)) nX 4 24) 5 [(0, .ref (eX C 0)), (1, .int (iz s)), (2, .int (iz r)), (3, .ref a9)] M1 4 24 E := by
    rintro E M1 ⟨c, hc, hE, hq⟩
    have hQ := hq_of hX ha9 (Or.inl rfl) hq
    match c, hE with
    | 0, hE =>
      injection hE with hE
      subst hE
      refine r_catch (nm := NSE) [] (0, 10, 13, 19) [] rfl (fun z hz => nomatch hz) (by decide) rfl (by decide) nL_19 (by decide +kernel) (k := fun q => ?_)
      refine r_astore dL_assign_13 (k := ?_)
      refine r_iconst dL_assign_15 ?_
      exact r_iret dL_assign_16 ⟨_, rfl, by rw [hc] <;> rfl, fun h => by omega, hQ⟩
    | c + 1, hE => exact nomatch hE
  refine r_aload_n dL_assign_0 rfl ?_
  refine r_iconst dL_assign_1 ?_
  refine r_aload_n dL_assign_2 rfl ?_
  refine r_iload_n dL_assign_3 rfl ?_
  refine r_iload_n dL_assign_4 rfl ?_
  refine r_callV (mi := iL_assign) vL_31 dL_assign_5 (hX.x 0 8 0) (y_assign hM hO s r ha hb) (hm := by first | exact ⟨Nat.le_of_ble_eq_true rfl, Nat.le_of_ble_eq_true rfl⟩ | (constructor <;> simp only [rmd] <;> omega)) (k := kI (fun r M1 h1 => ?_)) (kx := hx)
  obtain ⟨h0, rfl, hq⟩ := h1
  have hQ := hq_of hX ha9 (Or.inl rfl) hq
  refine r_i2l dL_assign_8 (rfl) ?_
  refine r_last dL_assign_9 (hQ.2.2.1.trans ha9) (j := 0) rfl (k := ?_)
  refine r_goto (tgt := 17) dL_assign_10 (by decide) ?_
  refine r_iconst dL_assign_17 ?_
  exact r_iret dL_assign_18 ⟨_, rfl, by rw [h0] <;> rfl, fun _ => by rw [mL_sL]; exact up_s _ _ _, hQ.put ha9 (Or.inl rfl) rfl rfl (fun b hb => Sm.L hb)⟩
theorem h_bestMerge (hM : XM G M C σ) (hO : Ok σ T) {a9 : Nat} (ha9 : mC M a9 = some (14, 1)) : Ht G iL_bestMerge yL_bestMerge 28 [.ref (eX C 0), .ref a9] M (HR G C a9 M (opBest σ)) nX 340 11000 := by
  have hX := hM.1
  refine ht_introH (by decide +kernel) rfl rfl rfl (Nat.le_of_ble_eq_true rfl) ?_
  have hx : ∀ E M1, CX G C M (opBest σ) [NSE] E M1 → SXG G iL_bestMerge (rmd 28 340 11000) (QF G (HR G C a9 M (opBest σ)) nX 340 11000) 3 [(0, .ref (eX C 0)), (1, .ref a9)] M1 340 11000 E := by
    rintro E M1 ⟨c, hc, hE, hq⟩
    have hQ := hq_of hX ha9 (Or.inl rfl) hq
    match c, hE with
    | 0, hE =>
      injection hE with hE
      subst hE
      refine r_catch (nm := NSE) [] (0, 8, 11, 19) [] rfl (fun z hz => nomatch hz) (by decide) rfl (by decide) nL_19 (by decide +kernel) (k := fun q => ?_)
      refine r_astore_n dL_bestMerge_11 (k := ?_)
      refine r_iconst dL_bestMerge_12 ?_
      exact r_iret dL_bestMerge_13 ⟨_, rfl, by rw [hc] <;> rfl, fun h => by omega, hQ⟩
    | c + 1, hE => exact nomatch hE
  refine r_aload_n dL_bestMerge_0 rfl ?_
  refine r_iconst dL_bestMerge_1 ?_
  refine r_aload_n dL_bestMerge_2 rfl ?_
  refine r_callV (mi := iL_bestMerge) vL_109 dL_bestMerge_3 (hX.x 0 8 0) (y_bestMerge hM hO) (hm := by first | exact ⟨Nat.le_of_ble_eq_true rfl, Nat.le_of_ble_eq_true rfl⟩ | (constructor <;> simp only [rmd] <;> omega)) (k := kI (fun r M1 h1 => ?_)) (kx := hx)
  obtain ⟨h0, rfl, hq⟩ := h1
  have hQ := hq_of hX ha9 (Or.inl rfl) hq
  refine r_i2l dL_bestMerge_6 (rfl) ?_
  refine r_last dL_bestMerge_7 (hQ.2.2.1.trans ha9) (j := 0) rfl (k := ?_)
  refine r_goto (tgt := 14) dL_bestMerge_8 (by decide) ?_
  refine r_iconst dL_bestMerge_14 ?_
  exact r_iret dL_bestMerge_15 ⟨_, rfl, by rw [h0] <;> rfl, fun _ => by rw [mL_sL]; exact up_s _ _ _, hQ.put ha9 (Or.inl rfl) rfl rfl (fun b hb => Sm.L hb)⟩
theorem h_deliver (hM : XM G M C σ) (hO : Ok σ T) (r : Int) (ha : inR r) {a9 : Nat} (ha9 : mC M a9 = some (14, 1)) : Ht G iL_deliver yL_deliver 26 [.ref (eX C 0), .int (iz r), .ref a9] M (HR G C a9 M (opDeliver σ r)) nX 60 1400 := by
  have hX := hM.1
  refine ht_introH (by decide +kernel) rfl rfl rfl (Nat.le_of_ble_eq_true rfl) ?_
  have hx : ∀ E M1, CX G C M (opDeliver σ r) [NSE, ISE] E M1 → SXG G iL_deliver (rmd 26 60 1400) (QF G (HR G C a9 M (opDeliver σ r)) nX 60 1400) 4 [(0, .ref (eX C 0)), (1, .int (iz r)), (2, .ref a9)] M1 60 1400 E := by
    rintro E M1 ⟨c, hc, hE, hq⟩
    have hQ := hq_of hX ha9 (Or.inl rfl) hq
    match c, hE with
    | 0, hE =>
      injection hE with hE
      subst hE
      refine r_catch (nm := NSE) [] (0, 9, 12, 19) [(0, 9, 15, 13)] rfl (fun z hz => nomatch hz) (by decide) rfl (by decide) nL_19 (by decide +kernel) (k := fun q => ?_)
      refine r_astore_n dL_deliver_12 (k := ?_)
      refine r_iconst dL_deliver_13 ?_
      exact r_iret dL_deliver_14 ⟨_, rfl, by rw [hc] <;> rfl, fun h => by omega, hQ⟩
    | 1, hE =>
      injection hE with hE
      subst hE
      refine r_catch (nm := ISE) [(0, 9, 12, 19)] (0, 9, 15, 13) [] rfl (List.forall_mem_cons.mpr ⟨⟨_, nL_19, by decide +kernel⟩, (fun z hz => nomatch hz)⟩) (by decide) rfl (by decide) nL_13 (by decide +kernel) (k := fun q => ?_)
      refine r_astore_n dL_deliver_15 (k := ?_)
      refine r_iconst dL_deliver_16 ?_
      exact r_iret dL_deliver_17 ⟨_, rfl, by rw [hc] <;> rfl, fun h => by omega, hQ⟩
    | c + 2, hE => exact nomatch hE
  refine r_aload_n dL_deliver_0 rfl ?_
  refine r_iconst dL_deliver_1 ?_
  refine r_aload_n dL_deliver_2 rfl ?_
  refine r_iload_n dL_deliver_3 rfl ?_
  refine r_callV (mi := iL_deliver) vL_100 dL_deliver_4 (hX.x 0 8 0) (y_deliver hM hO r ha) (hm := by first | exact ⟨Nat.le_of_ble_eq_true rfl, Nat.le_of_ble_eq_true rfl⟩ | (constructor <;> simp only [rmd] <;> omega)) (k := kI (fun r M1 h1 => ?_)) (kx := hx)
  obtain ⟨h0, rfl, hq⟩ := h1
  have hQ := hq_of hX ha9 (Or.inl rfl) hq
  refine r_i2l dL_deliver_7 (rfl) ?_
  refine r_last dL_deliver_8 (hQ.2.2.1.trans ha9) (j := 0) rfl (k := ?_)
  refine r_goto (tgt := 18) dL_deliver_9 (by decide) ?_
  refine r_iconst dL_deliver_18 ?_
  exact r_iret dL_deliver_19 ⟨_, rfl, by rw [h0] <;> rfl, fun _ => by rw [mL_sL]; exact up_s _ _ _, hQ.put ha9 (Or.inl rfl) rfl rfl (fun b hb => Sm.L hb)⟩
theorem h_distance (hM : XM G M C σ) (hO : Ok σ T) (a b : Int) (ha : inR a) (hb : inR b) {a9 : Nat} (ha9 : mC M a9 = some (14, 1)) : Ht G iL_distance yL_distance 14 [.ref (eX C 0), .int (iz a), .int (iz b), .ref a9] M (HR G C a9 M (opDistance σ a b)) nX 4 24 := by
  have hX := hM.1
  refine ht_introH (by decide +kernel) rfl rfl rfl (Nat.le_of_ble_eq_true rfl) ?_
  have hx : ∀ E M1, CX G C M (opDistance σ a b) [NSE] E M1 → SXG G iL_distance (rmd 14 4 24) (QF G (HR G C a9 M (opDistance σ a b)) nX 4 24) 5 [(0, .ref (eX C 0)), (1, .int (iz a)), (2, .int (iz b)), (3, .ref a9)] M1 4 24 E := by
    rintro E M1 ⟨c, hc, hE, hq⟩
    have hQ := hq_of hX ha9 (Or.inl rfl) hq
    match c, hE with
    | 0, hE =>
      injection hE with hE
      subst hE
      refine r_catch (nm := NSE) [] (0, 10, 13, 19) [] rfl (fun z hz => nomatch hz) (by decide) rfl (by decide) nL_19 (by decide +kernel) (k := fun q => ?_)
      refine r_astore dL_distance_13 (k := ?_)
      refine r_iconst dL_distance_15 ?_
      exact r_iret dL_distance_16 ⟨_, rfl, by rw [hc] <;> rfl, fun h => by omega, hQ⟩
    | c + 1, hE => exact nomatch hE
  refine r_aload_n dL_distance_0 rfl ?_
  refine r_iconst dL_distance_1 ?_
  refine r_aload_n dL_distance_2 rfl ?_
  refine r_iload_n dL_distance_3 rfl ?_
  refine r_iload_n dL_distance_4 rfl ?_
  refine r_callV (mi := iL_distance) vL_62 dL_distance_5 (hX.x 0 8 0) (y_distance hM hO a b ha hb) (hm := by first | exact ⟨Nat.le_of_ble_eq_true rfl, Nat.le_of_ble_eq_true rfl⟩ | (constructor <;> simp only [rmd] <;> omega)) (k := kI (fun r M1 h1 => ?_)) (kx := hx)
  obtain ⟨h0, rfl, hq⟩ := h1
  have hQ := hq_of hX ha9 (Or.inl rfl) hq
  refine r_i2l dL_distance_8 (rfl) ?_
  refine r_last dL_distance_9 (hQ.2.2.1.trans ha9) (j := 0) rfl (k := ?_)
  refine r_goto (tgt := 17) dL_distance_10 (by decide) ?_
  refine r_iconst dL_distance_17 ?_
  exact r_iret dL_distance_18 ⟨_, rfl, by rw [h0] <;> rfl, fun _ => by rw [mL_sL]; exact up_s _ _ _, hQ.put ha9 (Or.inl rfl) rfl rfl (fun b hb => Sm.L hb)⟩
theorem h_distanceByRounds (hM : XM G M C σ) (hO : Ok σ T) (a b : Int) (ha : inR a) (hb : inR b) {a9 : Nat} (ha9 : mC M a9 = some (14, 1)) : Ht G iL_distanceByRounds yL_distanceByRounds 14 [.ref (eX C 0), .int (iz a), .int (iz b), .ref a9] M (HR G C a9 M (opDistance σ a b)) nX 4 24 := by
  have hX := hM.1
  refine ht_introH (by decide +kernel) rfl rfl rfl (Nat.le_of_ble_eq_true rfl) ?_
  have hx : ∀ E M1, CX G C M (opDistance σ a b) [NSE] E M1 → SXG G iL_distanceByRounds (rmd 14 4 24) (QF G (HR G C a9 M (opDistance σ a b)) nX 4 24) 5 [(0, .ref (eX C 0)), (1, .int (iz a)), (2, .int (iz b)), (3, .ref a9)] M1 4 24 E := by
    rintro E M1 ⟨c, hc, hE, hq⟩
    have hQ := hq_of hX ha9 (Or.inl rfl) hq
    match c, hE with
    | 0, hE =>
      injection hE with hE
      subst hE
      refine r_catch (nm := NSE) [] (0, 10, 13, 19) [] rfl (fun z hz => nomatch hz) (by decide) rfl (by decide) nL_19 (by decide +kernel) (k := fun q => ?_)
      refine r_astore dL_distanceByRounds_13 (k := ?_)
      refine r_iconst dL_distanceByRounds_15 ?_
      exact r_iret dL_distanceByRounds_16 ⟨_, rfl, by rw [hc] <;> rfl, fun h => by omega, hQ⟩
    | c + 1, hE => exact nomatch hE
  refine r_aload_n dL_distanceByRounds_0 rfl ?_
  refine r_iconst dL_distanceByRounds_1 ?_
  refine r_aload_n dL_distanceByRounds_2 rfl ?_
  refine r_iload_n dL_distanceByRounds_3 rfl ?_
  refine r_iload_n dL_distanceByRounds_4 rfl ?_
  refine r_callV (mi := iL_distanceByRounds) vL_65 dL_distanceByRounds_5 (hX.x 0 8 0) (y_distanceByRounds hM hO a b ha hb) (hm := by first | exact ⟨Nat.le_of_ble_eq_true rfl, Nat.le_of_ble_eq_true rfl⟩ | (constructor <;> simp only [rmd] <;> omega)) (k := kI (fun r M1 h1 => ?_)) (kx := hx)
  obtain ⟨h0, rfl, hq⟩ := h1
  have hQ := hq_of hX ha9 (Or.inl rfl) hq
  refine r_i2l dL_distanceByRounds_8 (rfl) ?_
  refine r_last dL_distanceByRounds_9 (hQ.2.2.1.trans ha9) (j := 0) rfl (k := ?_)
  refine r_goto (tgt := 17) dL_distanceByRounds_10 (by decide) ?_
  refine r_iconst dL_distanceByRounds_17 ?_
  exact r_iret dL_distanceByRounds_18 ⟨_, rfl, by rw [h0] <;> rfl, fun _ => by rw [mL_sL]; exact up_s _ _ _, hQ.put ha9 (Or.inl rfl) rfl rfl (fun b hb => Sm.L hb)⟩
theorem h_due (hM : XM G M C σ) (hO : Ok σ T) (r : Int) (ha : inR r) {a9 : Nat} (ha9 : mC M a9 = some (14, 1)) : Ht G iL_due yL_due 14 [.ref (eX C 0), .int (iz r), .ref a9] M (HR G C a9 M (opDue σ r)) nX 1 6 := by
  have hX := hM.1
  refine ht_introH (by decide +kernel) rfl rfl rfl (Nat.le_of_ble_eq_true rfl) ?_
  have hx : ∀ E M1, CX G C M (opDue σ r) [NSE] E M1 → SXG G iL_due (rmd 14 1 6) (QF G (HR G C a9 M (opDue σ r)) nX 1 6) 4 [(0, .ref (eX C 0)), (1, .int (iz r)), (2, .ref a9)] M1 1 6 E := by
    rintro E M1 ⟨c, hc, hE, hq⟩
    have hQ := hq_of hX ha9 (Or.inl rfl) hq
    match c, hE with
    | 0, hE =>
      injection hE with hE
      subst hE
      refine r_catch (nm := NSE) [] (0, 9, 12, 19) [] rfl (fun z hz => nomatch hz) (by decide) rfl (by decide) nL_19 (by decide +kernel) (k := fun q => ?_)
      refine r_astore_n dL_due_12 (k := ?_)
      refine r_iconst dL_due_13 ?_
      exact r_iret dL_due_14 ⟨_, rfl, by rw [hc] <;> rfl, fun h => by omega, hQ⟩
    | c + 1, hE => exact nomatch hE
  refine r_aload_n dL_due_0 rfl ?_
  refine r_iconst dL_due_1 ?_
  refine r_aload_n dL_due_2 rfl ?_
  refine r_iload_n dL_due_3 rfl ?_
  refine r_callV (mi := iL_due) vL_59 dL_due_4 (hX.x 0 8 0) (y_due hM hO r ha) (hm := by first | exact ⟨Nat.le_of_ble_eq_true rfl, Nat.le_of_ble_eq_true rfl⟩ | (constructor <;> simp only [rmd] <;> omega)) (k := kI (fun r M1 h1 => ?_)) (kx := hx)
  obtain ⟨h0, rfl, hq⟩ := h1
  have hQ := hq_of hX ha9 (Or.inl rfl) hq
  refine r_i2l dL_due_7 (rfl) ?_
  refine r_last dL_due_8 (hQ.2.2.1.trans ha9) (j := 0) rfl (k := ?_)
  refine r_goto (tgt := 15) dL_due_9 (by decide) ?_
  refine r_iconst dL_due_15 ?_
  exact r_iret dL_due_16 ⟨_, rfl, by rw [h0] <;> rfl, fun _ => by rw [mL_sL]; exact up_s _ _ _, hQ.put ha9 (Or.inl rfl) rfl rfl (fun b hb => Sm.L hb)⟩
theorem h_houseAt (hM : XM G M C σ) (hO : Ok σ T) (s d r : Int) (ha : inR s) (hb : inR d) (hl : inR r) {a9 : Nat} (ha9 : mC M a9 = some (14, 1)) : Ht G iL_houseAt yL_houseAt 14 [.ref (eX C 0), .int (iz s), .int (iz d), .int (iz r), .ref a9] M (HR G C a9 M (opHouseAt σ s d r)) nX 4 24 := by
  have hX := hM.1
  refine ht_introH (by decide +kernel) rfl rfl rfl (Nat.le_of_ble_eq_true rfl) ?_
  have hx : ∀ E M1, CX G C M (opHouseAt σ s d r) [NSE, IAE, IOB] E M1 → SXG G iL_houseAt (rmd 14 4 24) (QF G (HR G C a9 M (opHouseAt σ s d r)) nX 4 24) 7 [(0, .ref (eX C 0)), (1, .int (iz s)), (2, .int (iz d)), (3, .int (iz r)), (4, .ref a9)] M1 4 24 E := by
    rintro E M1 ⟨c, hc, hE, hq⟩
    have hQ := hq_of hX ha9 (Or.inl rfl) hq
    match c, hE with
    | 0, hE =>
      injection hE with hE
      subst hE
      refine r_catch (nm := NSE) [] (0, 12, 15, 19) [(0, 12, 19, 21), (0, 12, 23, 50)] rfl (fun z hz => nomatch hz) (by decide) rfl (by decide) nL_19 (by decide +kernel) (k := fun q => ?_)
      refine r_astore dL_houseAt_15 (k := ?_)
      refine r_iconst dL_houseAt_17 ?_
      exact r_iret dL_houseAt_18 ⟨_, rfl, by rw [hc] <;> rfl, fun h => by omega, hQ⟩
    | 1, hE =>
      injection hE with hE
      subst hE
      refine r_catch (nm := IAE) [(0, 12, 15, 19)] (0, 12, 19, 21) [(0, 12, 23, 50)] rfl (List.forall_mem_cons.mpr ⟨⟨_, nL_19, by decide +kernel⟩, (fun z hz => nomatch hz)⟩) (by decide) rfl (by decide) nL_21 (by decide +kernel) (k := fun q => ?_)
      refine r_astore dL_houseAt_19 (k := ?_)
      refine r_iconst dL_houseAt_21 ?_
      exact r_iret dL_houseAt_22 ⟨_, rfl, by rw [hc] <;> rfl, fun h => by omega, hQ⟩
    | 2, hE =>
      injection hE with hE
      subst hE
      refine r_catch (nm := IOB) [(0, 12, 15, 19), (0, 12, 19, 21)] (0, 12, 23, 50) [] rfl (List.forall_mem_cons.mpr ⟨⟨_, nL_19, by decide +kernel⟩, (List.forall_mem_cons.mpr ⟨⟨_, nL_21, by decide +kernel⟩, (fun z hz => nomatch hz)⟩)⟩) (by decide) rfl (by decide) nL_50 (by decide +kernel) (k := fun q => ?_)
      refine r_astore dL_houseAt_23 (k := ?_)
      refine r_iconst dL_houseAt_25 ?_
      exact r_iret dL_houseAt_26 ⟨_, rfl, by rw [hc] <;> rfl, fun h => by omega, hQ⟩
    | c + 3, hE => exact nomatch hE
  refine r_aload dL_houseAt_0 rfl ?_
  refine r_iconst dL_houseAt_2 ?_
  refine r_aload_n dL_houseAt_3 rfl ?_
  refine r_iload_n dL_houseAt_4 rfl ?_
  refine r_iload_n dL_houseAt_5 rfl ?_
  refine r_iload_n dL_houseAt_6 rfl ?_
  refine r_callV (mi := iL_houseAt) vL_47 dL_houseAt_7 (hX.x 0 8 0) (y_houseAt hM hO s d r ha hb hl) (hm := by first | exact ⟨Nat.le_of_ble_eq_true rfl, Nat.le_of_ble_eq_true rfl⟩ | (constructor <;> simp only [rmd] <;> omega)) (k := kI (fun r M1 h1 => ?_)) (kx := hx)
  obtain ⟨h0, rfl, hq⟩ := h1
  have hQ := hq_of hX ha9 (Or.inl rfl) hq
  refine r_i2l dL_houseAt_10 (rfl) ?_
  refine r_last dL_houseAt_11 (hQ.2.2.1.trans ha9) (j := 0) rfl (k := ?_)
  refine r_goto (tgt := 27) dL_houseAt_12 (by decide) ?_
  refine r_iconst dL_houseAt_27 ?_
  exact r_iret dL_houseAt_28 ⟨_, rfl, by rw [h0] <;> rfl, fun _ => by rw [mL_sL]; exact up_s _ _ _, hQ.put ha9 (Or.inl rfl) rfl rfl (fun b hb => Sm.L hb)⟩
theorem h_lengthByTrying (hM : XM G M C σ) (hO : Ok σ T) (r : Int) (ha : inR r) {a9 : Nat} (ha9 : mC M a9 = some (14, 1)) : Ht G iL_lengthByTrying yL_lengthByTrying 26 [.ref (eX C 0), .int (iz r), .ref a9] M (HR G C a9 M (opTry σ r)) nX 40 1100 := by
  have hX := hM.1
  refine ht_introH (by decide +kernel) rfl rfl rfl (Nat.le_of_ble_eq_true rfl) ?_
  have hx : ∀ E M1, CX G C M (opTry σ r) [NSE, ISE, UOE] E M1 → SXG G iL_lengthByTrying (rmd 26 40 1100) (QF G (HR G C a9 M (opTry σ r)) nX 40 1100) 4 [(0, .ref (eX C 0)), (1, .int (iz r)), (2, .ref a9)] M1 40 1100 E := by
    rintro E M1 ⟨c, hc, hE, hq⟩
    have hQ := hq_of hX ha9 (Or.inl rfl) hq
    match c, hE with
    | 0, hE =>
      injection hE with hE
      subst hE
      refine r_catch (nm := NSE) [] (0, 9, 12, 19) [(0, 9, 15, 13), (0, 9, 18, 80)] rfl (fun z hz => nomatch hz) (by decide) rfl (by decide) nL_19 (by decide +kernel) (k := fun q => ?_)
      refine r_astore_n dL_lengthByTrying_12 (k := ?_)
      refine r_iconst dL_lengthByTrying_13 ?_
      exact r_iret dL_lengthByTrying_14 ⟨_, rfl, by rw [hc] <;> rfl, fun h => by omega, hQ⟩
    | 1, hE =>
      injection hE with hE
      subst hE
      refine r_catch (nm := ISE) [(0, 9, 12, 19)] (0, 9, 15, 13) [(0, 9, 18, 80)] rfl (List.forall_mem_cons.mpr ⟨⟨_, nL_19, by decide +kernel⟩, (fun z hz => nomatch hz)⟩) (by decide) rfl (by decide) nL_13 (by decide +kernel) (k := fun q => ?_)
      refine r_astore_n dL_lengthByTrying_15 (k := ?_)
      refine r_iconst dL_lengthByTrying_16 ?_
      exact r_iret dL_lengthByTrying_17 ⟨_, rfl, by rw [hc] <;> rfl, fun h => by omega, hQ⟩
    | 2, hE =>
      injection hE with hE
      subst hE
      refine r_catch (nm := UOE) [(0, 9, 12, 19), (0, 9, 15, 13)] (0, 9, 18, 80) [] rfl (List.forall_mem_cons.mpr ⟨⟨_, nL_19, by decide +kernel⟩, (List.forall_mem_cons.mpr ⟨⟨_, nL_13, by decide +kernel⟩, (fun z hz => nomatch hz)⟩)⟩) (by decide) rfl (by decide) nL_80 (by decide +kernel) (k := fun q => ?_)
      refine r_astore_n dL_lengthByTrying_18 (k := ?_)
      refine r_iconst dL_lengthByTrying_19 ?_
      exact r_iret dL_lengthByTrying_20 ⟨_, rfl, by rw [hc] <;> rfl, fun h => by omega, hQ⟩
    | c + 3, hE => exact nomatch hE
  refine r_aload_n dL_lengthByTrying_0 rfl ?_
  refine r_iconst dL_lengthByTrying_1 ?_
  refine r_aload_n dL_lengthByTrying_2 rfl ?_
  refine r_iload_n dL_lengthByTrying_3 rfl ?_
  refine r_callV (mi := iL_lengthByTrying) vL_77 dL_lengthByTrying_4 (hX.x 0 8 0) (y_lengthByTrying hM hO r ha) (hm := by first | exact ⟨Nat.le_of_ble_eq_true rfl, Nat.le_of_ble_eq_true rfl⟩ | (constructor <;> simp only [rmd] <;> omega)) (k := kI (fun r M1 h1 => ?_)) (kx := hx)
  obtain ⟨h0, rfl, hq⟩ := h1
  have hQ := hq_of hX ha9 (Or.inl rfl) hq
  refine r_i2l dL_lengthByTrying_7 (rfl) ?_
  refine r_last dL_lengthByTrying_8 (hQ.2.2.1.trans ha9) (j := 0) rfl (k := ?_)
  refine r_goto (tgt := 21) dL_lengthByTrying_9 (by decide) ?_
  refine r_iconst dL_lengthByTrying_21 ?_
  exact r_iret dL_lengthByTrying_22 ⟨_, rfl, by rw [h0] <;> rfl, fun _ => by rw [mL_sL]; exact up_s _ _ _, hQ.put ha9 (Or.inl rfl) rfl rfl (fun b hb => Sm.L hb)⟩
theorem h_letters (hM : XM G M C σ) (hO : Ok σ T) (h c : Int) (ha : inR h) (hb : inR c) {a9 : Nat} (ha9 : mC M a9 = some (14, 1)) : Ht G iL_letters yL_letters 14 [.ref (eX C 0), .int (iz h), .int (iz c), .ref a9] M (HR G C a9 M (opLetters σ h c)) nX 4 24 := by
  have hX := hM.1
  refine ht_introH (by decide +kernel) rfl rfl rfl (Nat.le_of_ble_eq_true rfl) ?_
  have hx : ∀ E M1, CX G C M (opLetters σ h c) [NSE, IAE, ISE] E M1 → SXG G iL_letters (rmd 14 4 24) (QF G (HR G C a9 M (opLetters σ h c)) nX 4 24) 5 [(0, .ref (eX C 0)), (1, .int (iz h)), (2, .int (iz c)), (3, .ref a9)] M1 4 24 E := by
    rintro E M1 ⟨c, hc, hE, hq⟩
    have hQ := hq_of hX ha9 (Or.inl rfl) hq
    match c, hE with
    | 0, hE =>
      injection hE with hE
      subst hE
      refine r_catch (nm := NSE) [] (0, 10, 13, 19) [(0, 10, 17, 21), (0, 10, 21, 13)] rfl (fun z hz => nomatch hz) (by decide) rfl (by decide) nL_19 (by decide +kernel) (k := fun q => ?_)
      refine r_astore dL_letters_13 (k := ?_)
      refine r_iconst dL_letters_15 ?_
      exact r_iret dL_letters_16 ⟨_, rfl, by rw [hc] <;> rfl, fun h => by omega, hQ⟩
    | 1, hE =>
      injection hE with hE
      subst hE
      refine r_catch (nm := IAE) [(0, 10, 13, 19)] (0, 10, 17, 21) [(0, 10, 21, 13)] rfl (List.forall_mem_cons.mpr ⟨⟨_, nL_19, by decide +kernel⟩, (fun z hz => nomatch hz)⟩) (by decide) rfl (by decide) nL_21 (by decide +kernel) (k := fun q => ?_)
      refine r_astore dL_letters_17 (k := ?_)
      refine r_iconst dL_letters_19 ?_
      exact r_iret dL_letters_20 ⟨_, rfl, by rw [hc] <;> rfl, fun h => by omega, hQ⟩
    | 2, hE =>
      injection hE with hE
      subst hE
      refine r_catch (nm := ISE) [(0, 10, 13, 19), (0, 10, 17, 21)] (0, 10, 21, 13) [] rfl (List.forall_mem_cons.mpr ⟨⟨_, nL_19, by decide +kernel⟩, (List.forall_mem_cons.mpr ⟨⟨_, nL_21, by decide +kernel⟩, (fun z hz => nomatch hz)⟩)⟩) (by decide) rfl (by decide) nL_13 (by decide +kernel) (k := fun q => ?_)
      refine r_astore dL_letters_21 (k := ?_)
      refine r_iconst dL_letters_23 ?_
      exact r_iret dL_letters_24 ⟨_, rfl, by rw [hc] <;> rfl, fun h => by omega, hQ⟩
    | c + 3, hE => exact nomatch hE
  refine r_aload_n dL_letters_0 rfl ?_
  refine r_iconst dL_letters_1 ?_
  refine r_aload_n dL_letters_2 rfl ?_
  refine r_iload_n dL_letters_3 rfl ?_
  refine r_iload_n dL_letters_4 rfl ?_
  refine r_callV (mi := iL_letters) vL_38 dL_letters_5 (hX.x 0 8 0) (y_letters hM hO h c ha hb) (hm := by first | exact ⟨Nat.le_of_ble_eq_true rfl, Nat.le_of_ble_eq_true rfl⟩ | (constructor <;> simp only [rmd] <;> omega)) (k := kI (fun r M1 h1 => ?_)) (kx := hx)
  obtain ⟨h0, rfl, hq⟩ := h1
  have hQ := hq_of hX ha9 (Or.inl rfl) hq
  refine r_i2l dL_letters_8 (rfl) ?_
  refine r_last dL_letters_9 (hQ.2.2.1.trans ha9) (j := 0) rfl (k := ?_)
  refine r_goto (tgt := 25) dL_letters_10 (by decide) ?_
  refine r_iconst dL_letters_25 ?_
  exact r_iret dL_letters_26 ⟨_, rfl, by rw [h0] <;> rfl, fun _ => by rw [mL_sL]; exact up_s _ _ _, hQ.put ha9 (Or.inl rfl) rfl rfl (fun b hb => Sm.L hb)⟩
theorem h_lettersOf (hM : XM G M C σ) (hO : Ok σ T) (s : Int) (ha : inR s) {a9 : Nat} (ha9 : mC M a9 = some (14, 1)) : Ht G iL_lettersOf yL_lettersOf 14 [.ref (eX C 0), .int (iz s), .ref a9] M (HR G C a9 M (opLettersOf σ s)) nX 1 6 := by
  have hX := hM.1
  refine ht_introH (by decide +kernel) rfl rfl rfl (Nat.le_of_ble_eq_true rfl) ?_
  have hx : ∀ E M1, CX G C M (opLettersOf σ s) [NSE] E M1 → SXG G iL_lettersOf (rmd 14 1 6) (QF G (HR G C a9 M (opLettersOf σ s)) nX 1 6) 4 [(0, .ref (eX C 0)), (1, .int (iz s)), (2, .ref a9)] M1 1 6 E := by
    rintro E M1 ⟨c, hc, hE, hq⟩
    have hQ := hq_of hX ha9 (Or.inl rfl) hq
    match c, hE with
    | 0, hE =>
      injection hE with hE
      subst hE
      refine r_catch (nm := NSE) [] (0, 9, 12, 19) [] rfl (fun z hz => nomatch hz) (by decide) rfl (by decide) nL_19 (by decide +kernel) (k := fun q => ?_)
      refine r_astore_n dL_lettersOf_12 (k := ?_)
      refine r_iconst dL_lettersOf_13 ?_
      exact r_iret dL_lettersOf_14 ⟨_, rfl, by rw [hc] <;> rfl, fun h => by omega, hQ⟩
    | c + 1, hE => exact nomatch hE
  refine r_aload_n dL_lettersOf_0 rfl ?_
  refine r_iconst dL_lettersOf_1 ?_
  refine r_aload_n dL_lettersOf_2 rfl ?_
  refine r_iload_n dL_lettersOf_3 rfl ?_
  refine r_callV (mi := iL_lettersOf) vL_52 dL_lettersOf_4 (hX.x 0 8 0) (y_lettersOf hM hO s ha) (hm := by first | exact ⟨Nat.le_of_ble_eq_true rfl, Nat.le_of_ble_eq_true rfl⟩ | (constructor <;> simp only [rmd] <;> omega)) (k := kI (fun r M1 h1 => ?_)) (kx := hx)
  obtain ⟨h0, rfl, hq⟩ := h1
  have hQ := hq_of hX ha9 (Or.inl rfl) hq
  refine r_i2l dL_lettersOf_7 (rfl) ?_
  refine r_last dL_lettersOf_8 (hQ.2.2.1.trans ha9) (j := 0) rfl (k := ?_)
  refine r_goto (tgt := 15) dL_lettersOf_9 (by decide) ?_
  refine r_iconst dL_lettersOf_15 ?_
  exact r_iret dL_lettersOf_16 ⟨_, rfl, by rw [h0] <;> rfl, fun _ => by rw [mL_sL]; exact up_s _ _ _, hQ.put ha9 (Or.inl rfl) rfl rfl (fun b hb => Sm.L hb)⟩
theorem h_mergeInto (hM : XM G M C σ) (hO : Ok σ T) (x y : Int) (ha : inR x) (hb : inR y) {a9 : Nat} (ha9 : mC M a9 = some (14, 1)) : Ht G iL_mergeInto yL_mergeInto 28 [.ref (eX C 0), .int (iz x), .int (iz y), .ref a9] M (HR G C a9 M (opMerge σ x y)) nX 150 4500 := by
  have hX := hM.1
  refine ht_introH (by decide +kernel) rfl rfl rfl (Nat.le_of_ble_eq_true rfl) ?_
  have hx : ∀ E M1, CX G C M (opMerge σ x y) [NSE, IAE, ISE] E M1 → SXG G iL_mergeInto (rmd 28 150 4500) (QF G (HR G C a9 M (opMerge σ x y)) nX 150 4500) 5 [(0, .ref (eX C 0)), (1, .int (iz x)), (2, .int (iz y)), (3, .ref a9)] M1 150 4500 E := by
    rintro E M1 ⟨c, hc, hE, hq⟩
    have hQ := hq_of hX ha9 (Or.inl rfl) hq
    match c, hE with
    | 0, hE =>
      injection hE with hE
      subst hE
      refine r_catch (nm := NSE) [] (0, 10, 13, 19) [(0, 10, 17, 21), (0, 10, 21, 13)] rfl (fun z hz => nomatch hz) (by decide) rfl (by decide) nL_19 (by decide +kernel) (k := fun q => ?_)
      refine r_astore dL_mergeInto_13 (k := ?_)
      refine r_iconst dL_mergeInto_15 ?_
      exact r_iret dL_mergeInto_16 ⟨_, rfl, by rw [hc] <;> rfl, fun h => by omega, hQ⟩
    | 1, hE =>
      injection hE with hE
      subst hE
      refine r_catch (nm := IAE) [(0, 10, 13, 19)] (0, 10, 17, 21) [(0, 10, 21, 13)] rfl (List.forall_mem_cons.mpr ⟨⟨_, nL_19, by decide +kernel⟩, (fun z hz => nomatch hz)⟩) (by decide) rfl (by decide) nL_21 (by decide +kernel) (k := fun q => ?_)
      refine r_astore dL_mergeInto_17 (k := ?_)
      refine r_iconst dL_mergeInto_19 ?_
      exact r_iret dL_mergeInto_20 ⟨_, rfl, by rw [hc] <;> rfl, fun h => by omega, hQ⟩
    | 2, hE =>
      injection hE with hE
      subst hE
      refine r_catch (nm := ISE) [(0, 10, 13, 19), (0, 10, 17, 21)] (0, 10, 21, 13) [] rfl (List.forall_mem_cons.mpr ⟨⟨_, nL_19, by decide +kernel⟩, (List.forall_mem_cons.mpr ⟨⟨_, nL_21, by decide +kernel⟩, (fun z hz => nomatch hz)⟩)⟩) (by decide) rfl (by decide) nL_13 (by decide +kernel) (k := fun q => ?_)
      refine r_astore dL_mergeInto_21 (k := ?_)
      refine r_iconst dL_mergeInto_23 ?_
      exact r_iret dL_mergeInto_24 ⟨_, rfl, by rw [hc] <;> rfl, fun h => by omega, hQ⟩
    | c + 3, hE => exact nomatch hE
  refine r_aload_n dL_mergeInto_0 rfl ?_
  refine r_iconst dL_mergeInto_1 ?_
  refine r_aload_n dL_mergeInto_2 rfl ?_
  refine r_iload_n dL_mergeInto_3 rfl ?_
  refine r_iload_n dL_mergeInto_4 rfl ?_
  refine r_callV (mi := iL_mergeInto) vL_106 dL_mergeInto_5 (hX.x 0 8 0) (y_mergeInto hM hO x y ha hb) (hm := by first | exact ⟨Nat.le_of_ble_eq_true rfl, Nat.le_of_ble_eq_true rfl⟩ | (constructor <;> simp only [rmd] <;> omega)) (k := kI (fun r M1 h1 => ?_)) (kx := hx)
  obtain ⟨h0, rfl, hq⟩ := h1
  have hQ := hq_of hX ha9 (Or.inl rfl) hq
  refine r_i2l dL_mergeInto_8 (rfl) ?_
  refine r_last dL_mergeInto_9 (hQ.2.2.1.trans ha9) (j := 0) rfl (k := ?_)
  refine r_goto (tgt := 25) dL_mergeInto_10 (by decide) ?_
  refine r_iconst dL_mergeInto_25 ?_
  exact r_iret dL_mergeInto_26 ⟨_, rfl, by rw [h0] <;> rfl, fun _ => by rw [mL_sL]; exact up_s _ _ _, hQ.put ha9 (Or.inl rfl) rfl rfl (fun b hb => Sm.L hb)⟩
theorem h_needed (hM : XM G M C σ) (hO : Ok σ T) (r : Int) (ha : inR r) {a9 : Nat} (ha9 : mC M a9 = some (14, 1)) : Ht G iL_needed yL_needed 26 [.ref (eX C 0), .int (iz r), .ref a9] M (HR G C a9 M (opNeeded σ r)) nX 40 1100 := by
  have hX := hM.1
  refine ht_introH (by decide +kernel) rfl rfl rfl (Nat.le_of_ble_eq_true rfl) ?_
  have hx : ∀ E M1, CX G C M (opNeeded σ r) [NSE] E M1 → SXG G iL_needed (rmd 26 40 1100) (QF G (HR G C a9 M (opNeeded σ r)) nX 40 1100) 4 [(0, .ref (eX C 0)), (1, .int (iz r)), (2, .ref a9)] M1 40 1100 E := by
    rintro E M1 ⟨c, hc, hE, hq⟩
    have hQ := hq_of hX ha9 (Or.inl rfl) hq
    match c, hE with
    | 0, hE =>
      injection hE with hE
      subst hE
      refine r_catch (nm := NSE) [] (0, 9, 12, 19) [] rfl (fun z hz => nomatch hz) (by decide) rfl (by decide) nL_19 (by decide +kernel) (k := fun q => ?_)
      refine r_astore_n dL_needed_12 (k := ?_)
      refine r_iconst dL_needed_13 ?_
      exact r_iret dL_needed_14 ⟨_, rfl, by rw [hc] <;> rfl, fun h => by omega, hQ⟩
    | c + 1, hE => exact nomatch hE
  refine r_aload_n dL_needed_0 rfl ?_
  refine r_iconst dL_needed_1 ?_
  refine r_aload_n dL_needed_2 rfl ?_
  refine r_iload_n dL_needed_3 rfl ?_
  refine r_callV (mi := iL_needed) vL_68 dL_needed_4 (hX.x 0 8 0) (y_needed hM hO r ha) (hm := by first | exact ⟨Nat.le_of_ble_eq_true rfl, Nat.le_of_ble_eq_true rfl⟩ | (constructor <;> simp only [rmd] <;> omega)) (k := kI (fun r M1 h1 => ?_)) (kx := hx)
  obtain ⟨h0, rfl, hq⟩ := h1
  have hQ := hq_of hX ha9 (Or.inl rfl) hq
  refine r_i2l dL_needed_7 (rfl) ?_
  refine r_last dL_needed_8 (hQ.2.2.1.trans ha9) (j := 0) rfl (k := ?_)
  refine r_goto (tgt := 15) dL_needed_9 (by decide) ?_
  refine r_iconst dL_needed_15 ?_
  exact r_iret dL_needed_16 ⟨_, rfl, by rw [h0] <;> rfl, fun _ => by rw [mL_sL]; exact up_s _ _ _, hQ.put ha9 (Or.inl rfl) rfl rfl (fun b hb => Sm.L hb)⟩
theorem h_nextParcel (hM : XM G M C σ) (hO : Ok σ T) {a9 : Nat} (ha9 : mC M a9 = some (14, 1)) : Ht G iL_nextParcel yL_nextParcel 12 [.ref (eX C 0), .ref a9] M (HR G C a9 M (opNext σ)) nX 1 6 := by
  have hX := hM.1
  refine ht_introH (by decide +kernel) rfl rfl rfl (Nat.le_of_ble_eq_true rfl) ?_
  have hx : ∀ E M1, CX G C M (opNext σ) [NSE] E M1 → SXG G iL_nextParcel (rmd 12 1 6) (QF G (HR G C a9 M (opNext σ)) nX 1 6) 3 [(0, .ref (eX C 0)), (1, .ref a9)] M1 1 6 E := by
    rintro E M1 ⟨c, hc, hE, hq⟩
    have hQ := hq_of hX ha9 (Or.inl rfl) hq
    match c, hE with
    | 0, hE =>
      injection hE with hE
      subst hE
      refine r_catch (nm := NSE) [] (0, 8, 11, 19) [] rfl (fun z hz => nomatch hz) (by decide) rfl (by decide) nL_19 (by decide +kernel) (k := fun q => ?_)
      refine r_astore_n dL_nextParcel_11 (k := ?_)
      refine r_iconst dL_nextParcel_12 ?_
      exact r_iret dL_nextParcel_13 ⟨_, rfl, by rw [hc] <;> rfl, fun h => by omega, hQ⟩
    | c + 1, hE => exact nomatch hE
  refine r_aload_n dL_nextParcel_0 rfl ?_
  refine r_iconst dL_nextParcel_1 ?_
  refine r_aload_n dL_nextParcel_2 rfl ?_
  refine r_callV (mi := iL_nextParcel) vL_119 dL_nextParcel_3 (hX.x 0 8 0) (y_nextParcel hM hO) (hm := by first | exact ⟨Nat.le_of_ble_eq_true rfl, Nat.le_of_ble_eq_true rfl⟩ | (constructor <;> simp only [rmd] <;> omega)) (k := kI (fun r M1 h1 => ?_)) (kx := hx)
  obtain ⟨h0, rfl, hq⟩ := h1
  have hQ := hq_of hX ha9 (Or.inl rfl) hq
  refine r_i2l dL_nextParcel_6 (rfl) ?_
  refine r_last dL_nextParcel_7 (hQ.2.2.1.trans ha9) (j := 0) rfl (k := ?_)
  refine r_goto (tgt := 14) dL_nextParcel_8 (by decide) ?_
  refine r_iconst dL_nextParcel_14 ?_
  exact r_iret dL_nextParcel_15 ⟨_, rfl, by rw [h0] <;> rfl, fun _ => by rw [mL_sL]; exact up_s _ _ _, hQ.put ha9 (Or.inl rfl) rfl rfl (fun b hb => Sm.L hb)⟩
theorem h_parcel (hM : XM G M C σ) (hO : Ok σ T) (h w d : Int) (ha : inR h) (hb : inR w) (hl : inR d) {a9 : Nat} (ha9 : mC M a9 = some (14, 1)) : Ht G iL_parcel yL_parcel 18 [.ref (eX C 0), .int (iz h), .int (iz w), .int (iz d), .ref a9] M (HR G C a9 M (opParcel σ h w d)) nX 8 120 := by
  have hX := hM.1
  refine ht_introH (by decide +kernel) rfl rfl rfl (Nat.le_of_ble_eq_true rfl) ?_
  have hx : ∀ E M1, CX G C M (opParcel σ h w d) [NSE, IAE, ISE] E M1 → SXG G iL_parcel (rmd 18 8 120) (QF G (HR G C a9 M (opParcel σ h w d)) nX 8 120) 7 [(0, .ref (eX C 0)), (1, .int (iz h)), (2, .int (iz w)), (3, .int (iz d)), (4, .ref a9)] M1 8 120 E := by
    rintro E M1 ⟨c, hc, hE, hq⟩
    have hQ := hq_of hX ha9 (Or.inl rfl) hq
    match c, hE with
    | 0, hE =>
      injection hE with hE
      subst hE
      refine r_catch (nm := NSE) [] (0, 12, 15, 19) [(0, 12, 19, 21), (0, 12, 23, 13)] rfl (fun z hz => nomatch hz) (by decide) rfl (by decide) nL_19 (by decide +kernel) (k := fun q => ?_)
      refine r_astore dL_parcel_15 (k := ?_)
      refine r_iconst dL_parcel_17 ?_
      exact r_iret dL_parcel_18 ⟨_, rfl, by rw [hc] <;> rfl, fun h => by omega, hQ⟩
    | 1, hE =>
      injection hE with hE
      subst hE
      refine r_catch (nm := IAE) [(0, 12, 15, 19)] (0, 12, 19, 21) [(0, 12, 23, 13)] rfl (List.forall_mem_cons.mpr ⟨⟨_, nL_19, by decide +kernel⟩, (fun z hz => nomatch hz)⟩) (by decide) rfl (by decide) nL_21 (by decide +kernel) (k := fun q => ?_)
      refine r_astore dL_parcel_19 (k := ?_)
      refine r_iconst dL_parcel_21 ?_
      exact r_iret dL_parcel_22 ⟨_, rfl, by rw [hc] <;> rfl, fun h => by omega, hQ⟩
    | 2, hE =>
      injection hE with hE
      subst hE
      refine r_catch (nm := ISE) [(0, 12, 15, 19), (0, 12, 19, 21)] (0, 12, 23, 13) [] rfl (List.forall_mem_cons.mpr ⟨⟨_, nL_19, by decide +kernel⟩, (List.forall_mem_cons.mpr ⟨⟨_, nL_21, by decide +kernel⟩, (fun z hz => nomatch hz)⟩)⟩) (by decide) rfl (by decide) nL_13 (by decide +kernel) (k := fun q => ?_)
      refine r_astore dL_parcel_23 (k := ?_)
      refine r_iconst dL_parcel_25 ?_
      exact r_iret dL_parcel_26 ⟨_, rfl, by rw [hc] <;> rfl, fun h => by omega, hQ⟩
    | c + 3, hE => exact nomatch hE
  refine r_aload dL_parcel_0 rfl ?_
  refine r_iconst dL_parcel_2 ?_
  refine r_aload_n dL_parcel_3 rfl ?_
  refine r_iload_n dL_parcel_4 rfl ?_
  refine r_iload_n dL_parcel_5 rfl ?_
  refine r_iload_n dL_parcel_6 rfl ?_
  refine r_callV (mi := iL_parcel) vL_41 dL_parcel_7 (hX.x 0 8 0) (y_parcel hM hO h w d ha hb hl) (hm := by first | exact ⟨Nat.le_of_ble_eq_true rfl, Nat.le_of_ble_eq_true rfl⟩ | (constructor <;> simp only [rmd] <;> omega)) (k := kI (fun r M1 h1 => ?_)) (kx := hx)
  obtain ⟨h0, rfl, hq⟩ := h1
  have hQ := hq_of hX ha9 (Or.inl rfl) hq
  refine r_i2l dL_parcel_10 (rfl) ?_
  refine r_last dL_parcel_11 (hQ.2.2.1.trans ha9) (j := 0) rfl (k := ?_)
  refine r_goto (tgt := 27) dL_parcel_12 (by decide) ?_
  refine r_iconst dL_parcel_27 ?_
  exact r_iret dL_parcel_28 ⟨_, rfl, by rw [h0] <;> rfl, fun _ => by rw [mL_sL]; exact up_s _ _ _, hQ.put ha9 (Or.inl rfl) rfl rfl (fun b hb => Sm.L hb)⟩
theorem h_parcelState (hM : XM G M C σ) (hO : Ok σ T) (p : Int) (ha : inR p) {a9 : Nat} (ha9 : mC M a9 = some (14, 1)) : Ht G iL_parcelState yL_parcelState 14 [.ref (eX C 0), .int (iz p), .ref a9] M (HR G C a9 M (opState σ p)) nX 1 6 := by
  have hX := hM.1
  refine ht_introH (by decide +kernel) rfl rfl rfl (Nat.le_of_ble_eq_true rfl) ?_
  have hx : ∀ E M1, CX G C M (opState σ p) [NSE] E M1 → SXG G iL_parcelState (rmd 14 1 6) (QF G (HR G C a9 M (opState σ p)) nX 1 6) 4 [(0, .ref (eX C 0)), (1, .int (iz p)), (2, .ref a9)] M1 1 6 E := by
    rintro E M1 ⟨c, hc, hE, hq⟩
    have hQ := hq_of hX ha9 (Or.inl rfl) hq
    match c, hE with
    | 0, hE =>
      injection hE with hE
      subst hE
      refine r_catch (nm := NSE) [] (0, 9, 12, 19) [] rfl (fun z hz => nomatch hz) (by decide) rfl (by decide) nL_19 (by decide +kernel) (k := fun q => ?_)
      refine r_astore_n dL_parcelState_12 (k := ?_)
      refine r_iconst dL_parcelState_13 ?_
      exact r_iret dL_parcelState_14 ⟨_, rfl, by rw [hc] <;> rfl, fun h => by omega, hQ⟩
    | c + 1, hE => exact nomatch hE
  refine r_aload_n dL_parcelState_0 rfl ?_
  refine r_iconst dL_parcelState_1 ?_
  refine r_aload_n dL_parcelState_2 rfl ?_
  refine r_iload_n dL_parcelState_3 rfl ?_
  refine r_callV (mi := iL_parcelState) vL_112 dL_parcelState_4 (hX.x 0 8 0) (y_parcelState hM hO p ha) (hm := by first | exact ⟨Nat.le_of_ble_eq_true rfl, Nat.le_of_ble_eq_true rfl⟩ | (constructor <;> simp only [rmd] <;> omega)) (k := kI (fun r M1 h1 => ?_)) (kx := hx)
  obtain ⟨h0, rfl, hq⟩ := h1
  have hQ := hq_of hX ha9 (Or.inl rfl) hq
  refine r_i2l dL_parcelState_7 (rfl) ?_
  refine r_last dL_parcelState_8 (hQ.2.2.1.trans ha9) (j := 0) rfl (k := ?_)
  refine r_goto (tgt := 15) dL_parcelState_9 (by decide) ?_
  refine r_iconst dL_parcelState_15 ?_
  exact r_iret dL_parcelState_16 ⟨_, rfl, by rw [h0] <;> rfl, fun _ => by rw [mL_sL]; exact up_s _ _ _, hQ.put ha9 (Or.inl rfl) rfl rfl (fun b hb => Sm.L hb)⟩
theorem h_passAt (hM : XM G M C σ) (hO : Ok σ T) (r i : Int) (ha : inR r) (hb : inR i) {a9 : Nat} (ha9 : mC M a9 = some (14, 1)) : Ht G iL_passAt yL_passAt 26 [.ref (eX C 0), .int (iz r), .int (iz i), .ref a9] M (HR G C a9 M (opPassAt σ r i)) nX 60 1400 := by
  have hX := hM.1
  refine ht_introH (by decide +kernel) rfl rfl rfl (Nat.le_of_ble_eq_true rfl) ?_
  have hx : ∀ E M1, CX G C M (opPassAt σ r i) [NSE, ISE, IOB] E M1 → SXG G iL_passAt (rmd 26 60 1400) (QF G (HR G C a9 M (opPassAt σ r i)) nX 60 1400) 5 [(0, .ref (eX C 0)), (1, .int (iz r)), (2, .int (iz i)), (3, .ref a9)] M1 60 1400 E := by
    rintro E M1 ⟨c, hc, hE, hq⟩
    have hQ := hq_of hX ha9 (Or.inl rfl) hq
    match c, hE with
    | 0, hE =>
      injection hE with hE
      subst hE
      refine r_catch (nm := NSE) [] (0, 10, 13, 19) [(0, 10, 17, 13), (0, 10, 21, 50)] rfl (fun z hz => nomatch hz) (by decide) rfl (by decide) nL_19 (by decide +kernel) (k := fun q => ?_)
      refine r_astore dL_passAt_13 (k := ?_)
      refine r_iconst dL_passAt_15 ?_
      exact r_iret dL_passAt_16 ⟨_, rfl, by rw [hc] <;> rfl, fun h => by omega, hQ⟩
    | 1, hE =>
      injection hE with hE
      subst hE
      refine r_catch (nm := ISE) [(0, 10, 13, 19)] (0, 10, 17, 13) [(0, 10, 21, 50)] rfl (List.forall_mem_cons.mpr ⟨⟨_, nL_19, by decide +kernel⟩, (fun z hz => nomatch hz)⟩) (by decide) rfl (by decide) nL_13 (by decide +kernel) (k := fun q => ?_)
      refine r_astore dL_passAt_17 (k := ?_)
      refine r_iconst dL_passAt_19 ?_
      exact r_iret dL_passAt_20 ⟨_, rfl, by rw [hc] <;> rfl, fun h => by omega, hQ⟩
    | 2, hE =>
      injection hE with hE
      subst hE
      refine r_catch (nm := IOB) [(0, 10, 13, 19), (0, 10, 17, 13)] (0, 10, 21, 50) [] rfl (List.forall_mem_cons.mpr ⟨⟨_, nL_19, by decide +kernel⟩, (List.forall_mem_cons.mpr ⟨⟨_, nL_13, by decide +kernel⟩, (fun z hz => nomatch hz)⟩)⟩) (by decide) rfl (by decide) nL_50 (by decide +kernel) (k := fun q => ?_)
      refine r_astore dL_passAt_21 (k := ?_)
      refine r_iconst dL_passAt_23 ?_
      exact r_iret dL_passAt_24 ⟨_, rfl, by rw [hc] <;> rfl, fun h => by omega, hQ⟩
    | c + 3, hE => exact nomatch hE
  refine r_aload_n dL_passAt_0 rfl ?_
  refine r_iconst dL_passAt_1 ?_
  refine r_aload_n dL_passAt_2 rfl ?_
  refine r_iload_n dL_passAt_3 rfl ?_
  refine r_iload_n dL_passAt_4 rfl ?_
  refine r_callV (mi := iL_passAt) vL_82 dL_passAt_5 (hX.x 0 8 0) (y_passAt hM hO r i ha hb) (hm := by first | exact ⟨Nat.le_of_ble_eq_true rfl, Nat.le_of_ble_eq_true rfl⟩ | (constructor <;> simp only [rmd] <;> omega)) (k := kI (fun r M1 h1 => ?_)) (kx := hx)
  obtain ⟨h0, rfl, hq⟩ := h1
  have hQ := hq_of hX ha9 (Or.inl rfl) hq
  refine r_i2l dL_passAt_8 (rfl) ?_
  refine r_last dL_passAt_9 (hQ.2.2.1.trans ha9) (j := 0) rfl (k := ?_)
  refine r_goto (tgt := 25) dL_passAt_10 (by decide) ?_
  refine r_iconst dL_passAt_25 ?_
  exact r_iret dL_passAt_26 ⟨_, rfl, by rw [h0] <;> rfl, fun _ => by rw [mL_sL]; exact up_s _ _ _, hQ.put ha9 (Or.inl rfl) rfl rfl (fun b hb => Sm.L hb)⟩
theorem h_roundOf (hM : XM G M C σ) (hO : Ok σ T) (s : Int) (ha : inR s) {a9 : Nat} (ha9 : mC M a9 = some (14, 1)) : Ht G iL_roundOf yL_roundOf 14 [.ref (eX C 0), .int (iz s), .ref a9] M (HR G C a9 M (opRoundOf σ s)) nX 1 6 := by
  have hX := hM.1
  refine ht_introH (by decide +kernel) rfl rfl rfl (Nat.le_of_ble_eq_true rfl) ?_
  have hx : ∀ E M1, CX G C M (opRoundOf σ s) [NSE] E M1 → SXG G iL_roundOf (rmd 14 1 6) (QF G (HR G C a9 M (opRoundOf σ s)) nX 1 6) 4 [(0, .ref (eX C 0)), (1, .int (iz s)), (2, .ref a9)] M1 1 6 E := by
    rintro E M1 ⟨c, hc, hE, hq⟩
    have hQ := hq_of hX ha9 (Or.inl rfl) hq
    match c, hE with
    | 0, hE =>
      injection hE with hE
      subst hE
      refine r_catch (nm := NSE) [] (0, 9, 12, 19) [] rfl (fun z hz => nomatch hz) (by decide) rfl (by decide) nL_19 (by decide +kernel) (k := fun q => ?_)
      refine r_astore_n dL_roundOf_12 (k := ?_)
      refine r_iconst dL_roundOf_13 ?_
      exact r_iret dL_roundOf_14 ⟨_, rfl, by rw [hc] <;> rfl, fun h => by omega, hQ⟩
    | c + 1, hE => exact nomatch hE
  refine r_aload_n dL_roundOf_0 rfl ?_
  refine r_iconst dL_roundOf_1 ?_
  refine r_aload_n dL_roundOf_2 rfl ?_
  refine r_iload_n dL_roundOf_3 rfl ?_
  refine r_callV (mi := iL_roundOf) vL_44 dL_roundOf_4 (hX.x 0 8 0) (y_roundOf hM hO s ha) (hm := by first | exact ⟨Nat.le_of_ble_eq_true rfl, Nat.le_of_ble_eq_true rfl⟩ | (constructor <;> simp only [rmd] <;> omega)) (k := kI (fun r M1 h1 => ?_)) (kx := hx)
  obtain ⟨h0, rfl, hq⟩ := h1
  have hQ := hq_of hX ha9 (Or.inl rfl) hq
  refine r_i2l dL_roundOf_7 (rfl) ?_
  refine r_last dL_roundOf_8 (hQ.2.2.1.trans ha9) (j := 0) rfl (k := ?_)
  refine r_goto (tgt := 15) dL_roundOf_9 (by decide) ?_
  refine r_iconst dL_roundOf_15 ?_
  exact r_iret dL_roundOf_16 ⟨_, rfl, by rw [h0] <;> rfl, fun _ => by rw [mL_sL]; exact up_s _ _ _, hQ.put ha9 (Or.inl rfl) rfl rfl (fun b hb => Sm.L hb)⟩
theorem h_saving (hM : XM G M C σ) (hO : Ok σ T) (x y : Int) (ha : inR x) (hb : inR y) {a9 : Nat} (ha9 : mC M a9 = some (14, 1)) : Ht G iL_saving yL_saving 28 [.ref (eX C 0), .int (iz x), .int (iz y), .ref a9] M (HR G C a9 M (opSaving σ x y)) nX 100 3300 := by
  have hX := hM.1
  refine ht_introH (by decide +kernel) rfl rfl rfl (Nat.le_of_ble_eq_true rfl) ?_
  have hx : ∀ E M1, CX G C M (opSaving σ x y) [NSE, IAE, ISE] E M1 → SXG G iL_saving (rmd 28 100 3300) (QF G (HR G C a9 M (opSaving σ x y)) nX 100 3300) 5 [(0, .ref (eX C 0)), (1, .int (iz x)), (2, .int (iz y)), (3, .ref a9)] M1 100 3300 E := by
    rintro E M1 ⟨c, hc, hE, hq⟩
    have hQ := hq_of hX ha9 (Or.inl rfl) hq
    match c, hE with
    | 0, hE =>
      injection hE with hE
      subst hE
      refine r_catch (nm := NSE) [] (0, 10, 13, 19) [(0, 10, 17, 21), (0, 10, 21, 13)] rfl (fun z hz => nomatch hz) (by decide) rfl (by decide) nL_19 (by decide +kernel) (k := fun q => ?_)
      refine r_astore dL_saving_13 (k := ?_)
      refine r_iconst dL_saving_15 ?_
      exact r_iret dL_saving_16 ⟨_, rfl, by rw [hc] <;> rfl, fun h => by omega, hQ⟩
    | 1, hE =>
      injection hE with hE
      subst hE
      refine r_catch (nm := IAE) [(0, 10, 13, 19)] (0, 10, 17, 21) [(0, 10, 21, 13)] rfl (List.forall_mem_cons.mpr ⟨⟨_, nL_19, by decide +kernel⟩, (fun z hz => nomatch hz)⟩) (by decide) rfl (by decide) nL_21 (by decide +kernel) (k := fun q => ?_)
      refine r_astore dL_saving_17 (k := ?_)
      refine r_iconst dL_saving_19 ?_
      exact r_iret dL_saving_20 ⟨_, rfl, by rw [hc] <;> rfl, fun h => by omega, hQ⟩
    | 2, hE =>
      injection hE with hE
      subst hE
      refine r_catch (nm := ISE) [(0, 10, 13, 19), (0, 10, 17, 21)] (0, 10, 21, 13) [] rfl (List.forall_mem_cons.mpr ⟨⟨_, nL_19, by decide +kernel⟩, (List.forall_mem_cons.mpr ⟨⟨_, nL_21, by decide +kernel⟩, (fun z hz => nomatch hz)⟩)⟩) (by decide) rfl (by decide) nL_13 (by decide +kernel) (k := fun q => ?_)
      refine r_astore dL_saving_21 (k := ?_)
      refine r_iconst dL_saving_23 ?_
      exact r_iret dL_saving_24 ⟨_, rfl, by rw [hc] <;> rfl, fun h => by omega, hQ⟩
    | c + 3, hE => exact nomatch hE
  refine r_aload_n dL_saving_0 rfl ?_
  refine r_iconst dL_saving_1 ?_
  refine r_aload_n dL_saving_2 rfl ?_
  refine r_iload_n dL_saving_3 rfl ?_
  refine r_iload_n dL_saving_4 rfl ?_
  refine r_callV (mi := iL_saving) vL_103 dL_saving_5 (hX.x 0 8 0) (y_saving hM hO x y ha hb) (hm := by first | exact ⟨Nat.le_of_ble_eq_true rfl, Nat.le_of_ble_eq_true rfl⟩ | (constructor <;> simp only [rmd] <;> omega)) (k := kI (fun r M1 h1 => ?_)) (kx := hx)
  obtain ⟨h0, rfl, hq⟩ := h1
  have hQ := hq_of hX ha9 (Or.inl rfl) hq
  refine r_i2l dL_saving_8 (rfl) ?_
  refine r_last dL_saving_9 (hQ.2.2.1.trans ha9) (j := 0) rfl (k := ?_)
  refine r_goto (tgt := 25) dL_saving_10 (by decide) ?_
  refine r_iconst dL_saving_25 ?_
  exact r_iret dL_saving_26 ⟨_, rfl, by rw [h0] <;> rfl, fun _ => by rw [mL_sL]; exact up_s _ _ _, hQ.put ha9 (Or.inl rfl) rfl rfl (fun b hb => Sm.L hb)⟩
theorem h_setBag (hM : XM G M C σ) (hO : Ok σ T) (w : Int) (ha : inR w) {a9 : Nat} (ha9 : mC M a9 = some (14, 1)) : Ht G iL_setBag yL_setBag 14 [.ref (eX C 0), .int (iz w), .ref a9] M (HR G C a9 M (opSetBag σ w)) nX 1 6 := by
  have hX := hM.1
  refine ht_introH (by decide +kernel) rfl rfl rfl (Nat.le_of_ble_eq_true rfl) ?_
  have hx : ∀ E M1, CX G C M (opSetBag σ w) [IAE] E M1 → SXG G iL_setBag (rmd 14 1 6) (QF G (HR G C a9 M (opSetBag σ w)) nX 1 6) 4 [(0, .ref (eX C 0)), (1, .int (iz w)), (2, .ref a9)] M1 1 6 E := by
    rintro E M1 ⟨c, hc, hE, hq⟩
    have hQ := hq_of hX ha9 (Or.inl rfl) hq
    match c, hE with
    | 0, hE =>
      injection hE with hE
      subst hE
      refine r_catch (nm := IAE) [] (0, 9, 12, 21) [] rfl (fun z hz => nomatch hz) (by decide) rfl (by decide) nL_21 (by decide +kernel) (k := fun q => ?_)
      refine r_astore_n dL_setBag_12 (k := ?_)
      refine r_iconst dL_setBag_13 ?_
      exact r_iret dL_setBag_14 ⟨_, rfl, by rw [hc] <;> rfl, fun h => by omega, hQ⟩
    | c + 1, hE => exact nomatch hE
  refine r_aload_n dL_setBag_0 rfl ?_
  refine r_iconst dL_setBag_1 ?_
  refine r_aload_n dL_setBag_2 rfl ?_
  refine r_iload_n dL_setBag_3 rfl ?_
  refine r_callV (mi := iL_setBag) vL_35 dL_setBag_4 (hX.x 0 8 0) (y_setBag hM hO w ha) (hm := by first | exact ⟨Nat.le_of_ble_eq_true rfl, Nat.le_of_ble_eq_true rfl⟩ | (constructor <;> simp only [rmd] <;> omega)) (k := kI (fun r M1 h1 => ?_)) (kx := hx)
  obtain ⟨h0, rfl, hq⟩ := h1
  have hQ := hq_of hX ha9 (Or.inl rfl) hq
  refine r_i2l dL_setBag_7 (rfl) ?_
  refine r_last dL_setBag_8 (hQ.2.2.1.trans ha9) (j := 0) rfl (k := ?_)
  refine r_goto (tgt := 15) dL_setBag_9 (by decide) ?_
  refine r_iconst dL_setBag_15 ?_
  exact r_iret dL_setBag_16 ⟨_, rfl, by rw [h0] <;> rfl, fun _ => by rw [mL_sL]; exact up_s _ _ _, hQ.put ha9 (Or.inl rfl) rfl rfl (fun b hb => Sm.L hb)⟩
theorem h_tripOf (hM : XM G M C σ) (hO : Ok σ T) (p : Int) (ha : inR p) {a9 : Nat} (ha9 : mC M a9 = some (14, 1)) : Ht G iL_tripOf yL_tripOf 14 [.ref (eX C 0), .int (iz p), .ref a9] M (HR G C a9 M (opTrip σ p)) nX 2 12 := by
  have hX := hM.1
  refine ht_introH (by decide +kernel) rfl rfl rfl (Nat.le_of_ble_eq_true rfl) ?_
  have hx : ∀ E M1, CX G C M (opTrip σ p) [NSE, UOE] E M1 → SXG G iL_tripOf (rmd 14 2 12) (QF G (HR G C a9 M (opTrip σ p)) nX 2 12) 4 [(0, .ref (eX C 0)), (1, .int (iz p)), (2, .ref a9)] M1 2 12 E := by
    rintro E M1 ⟨c, hc, hE, hq⟩
    have hQ := hq_of hX ha9 (Or.inl rfl) hq
    match c, hE with
    | 0, hE =>
      injection hE with hE
      subst hE
      refine r_catch (nm := NSE) [] (0, 9, 12, 19) [(0, 9, 15, 80)] rfl (fun z hz => nomatch hz) (by decide) rfl (by decide) nL_19 (by decide +kernel) (k := fun q => ?_)
      refine r_astore_n dL_tripOf_12 (k := ?_)
      refine r_iconst dL_tripOf_13 ?_
      exact r_iret dL_tripOf_14 ⟨_, rfl, by rw [hc] <;> rfl, fun h => by omega, hQ⟩
    | 1, hE =>
      injection hE with hE
      subst hE
      refine r_catch (nm := UOE) [(0, 9, 12, 19)] (0, 9, 15, 80) [] rfl (List.forall_mem_cons.mpr ⟨⟨_, nL_19, by decide +kernel⟩, (fun z hz => nomatch hz)⟩) (by decide) rfl (by decide) nL_80 (by decide +kernel) (k := fun q => ?_)
      refine r_astore_n dL_tripOf_15 (k := ?_)
      refine r_iconst dL_tripOf_16 ?_
      exact r_iret dL_tripOf_17 ⟨_, rfl, by rw [hc] <;> rfl, fun h => by omega, hQ⟩
    | c + 2, hE => exact nomatch hE
  refine r_aload_n dL_tripOf_0 rfl ?_
  refine r_iconst dL_tripOf_1 ?_
  refine r_aload_n dL_tripOf_2 rfl ?_
  refine r_iload_n dL_tripOf_3 rfl ?_
  refine r_callV (mi := iL_tripOf) vL_122 dL_tripOf_4 (hX.x 0 8 0) (y_tripOf hM hO p ha) (hm := by first | exact ⟨Nat.le_of_ble_eq_true rfl, Nat.le_of_ble_eq_true rfl⟩ | (constructor <;> simp only [rmd] <;> omega)) (k := kI (fun r M1 h1 => ?_)) (kx := hx)
  obtain ⟨h0, rfl, hq⟩ := h1
  have hQ := hq_of hX ha9 (Or.inl rfl) hq
  refine r_i2l dL_tripOf_7 (rfl) ?_
  refine r_last dL_tripOf_8 (hQ.2.2.1.trans ha9) (j := 0) rfl (k := ?_)
  refine r_goto (tgt := 18) dL_tripOf_9 (by decide) ?_
  refine r_iconst dL_tripOf_18 ?_
  exact r_iret dL_tripOf_19 ⟨_, rfl, by rw [h0] <;> rfl, fun _ => by rw [mL_sL]; exact up_s _ _ _, hQ.put ha9 (Or.inl rfl) rfl rfl (fun b hb => Sm.L hb)⟩
theorem h_walkAt (hM : XM G M C σ) (hO : Ok σ T) (r i : Int) (ha : inR r) (hb : inR i) {a9 : Nat} (ha9 : mC M a9 = some (14, 1)) : Ht G iL_walkAt yL_walkAt 26 [.ref (eX C 0), .int (iz r), .int (iz i), .ref a9] M (HR G C a9 M (opWalkAt σ r i)) nX 60 1400 := by
  have hX := hM.1
  refine ht_introH (by decide +kernel) rfl rfl rfl (Nat.le_of_ble_eq_true rfl) ?_
  have hx : ∀ E M1, CX G C M (opWalkAt σ r i) [NSE, ISE, IOB] E M1 → SXG G iL_walkAt (rmd 26 60 1400) (QF G (HR G C a9 M (opWalkAt σ r i)) nX 60 1400) 5 [(0, .ref (eX C 0)), (1, .int (iz r)), (2, .int (iz i)), (3, .ref a9)] M1 60 1400 E := by
    rintro E M1 ⟨c, hc, hE, hq⟩
    have hQ := hq_of hX ha9 (Or.inl rfl) hq
    match c, hE with
    | 0, hE =>
      injection hE with hE
      subst hE
      refine r_catch (nm := NSE) [] (0, 10, 13, 19) [(0, 10, 17, 13), (0, 10, 21, 50)] rfl (fun z hz => nomatch hz) (by decide) rfl (by decide) nL_19 (by decide +kernel) (k := fun q => ?_)
      refine r_astore dL_walkAt_13 (k := ?_)
      refine r_iconst dL_walkAt_15 ?_
      exact r_iret dL_walkAt_16 ⟨_, rfl, by rw [hc] <;> rfl, fun h => by omega, hQ⟩
    | 1, hE =>
      injection hE with hE
      subst hE
      refine r_catch (nm := ISE) [(0, 10, 13, 19)] (0, 10, 17, 13) [(0, 10, 21, 50)] rfl (List.forall_mem_cons.mpr ⟨⟨_, nL_19, by decide +kernel⟩, (fun z hz => nomatch hz)⟩) (by decide) rfl (by decide) nL_13 (by decide +kernel) (k := fun q => ?_)
      refine r_astore dL_walkAt_17 (k := ?_)
      refine r_iconst dL_walkAt_19 ?_
      exact r_iret dL_walkAt_20 ⟨_, rfl, by rw [hc] <;> rfl, fun h => by omega, hQ⟩
    | 2, hE =>
      injection hE with hE
      subst hE
      refine r_catch (nm := IOB) [(0, 10, 13, 19), (0, 10, 17, 13)] (0, 10, 21, 50) [] rfl (List.forall_mem_cons.mpr ⟨⟨_, nL_19, by decide +kernel⟩, (List.forall_mem_cons.mpr ⟨⟨_, nL_13, by decide +kernel⟩, (fun z hz => nomatch hz)⟩)⟩) (by decide) rfl (by decide) nL_50 (by decide +kernel) (k := fun q => ?_)
      refine r_astore dL_walkAt_21 (k := ?_)
      refine r_iconst dL_walkAt_23 ?_
      exact r_iret dL_walkAt_24 ⟨_, rfl, by rw [hc] <;> rfl, fun h => by omega, hQ⟩
    | c + 3, hE => exact nomatch hE
  refine r_aload_n dL_walkAt_0 rfl ?_
  refine r_iconst dL_walkAt_1 ?_
  refine r_aload_n dL_walkAt_2 rfl ?_
  refine r_iload_n dL_walkAt_3 rfl ?_
  refine r_iload_n dL_walkAt_4 rfl ?_
  refine r_callV (mi := iL_walkAt) vL_88 dL_walkAt_5 (hX.x 0 8 0) (y_walkAt hM hO r i ha hb) (hm := by first | exact ⟨Nat.le_of_ble_eq_true rfl, Nat.le_of_ble_eq_true rfl⟩ | (constructor <;> simp only [rmd] <;> omega)) (k := kI (fun r M1 h1 => ?_)) (kx := hx)
  obtain ⟨h0, rfl, hq⟩ := h1
  have hQ := hq_of hX ha9 (Or.inl rfl) hq
  refine r_i2l dL_walkAt_8 (rfl) ?_
  refine r_last dL_walkAt_9 (hQ.2.2.1.trans ha9) (j := 0) rfl (k := ?_)
  refine r_goto (tgt := 25) dL_walkAt_10 (by decide) ?_
  refine r_iconst dL_walkAt_25 ?_
  exact r_iret dL_walkAt_26 ⟨_, rfl, by rw [h0] <;> rfl, fun _ => by rw [mL_sL]; exact up_s _ _ _, hQ.put ha9 (Or.inl rfl) rfl rfl (fun b hb => Sm.L hb)⟩
theorem h_walkLength (hM : XM G M C σ) (hO : Ok σ T) (r : Int) (ha : inR r) {a9 : Nat} (ha9 : mC M a9 = some (14, 1)) : Ht G iL_walkLength yL_walkLength 26 [.ref (eX C 0), .int (iz r), .ref a9] M (HR G C a9 M (opWalkLength σ r)) nX 40 1100 := by
  have hX := hM.1
  refine ht_introH (by decide +kernel) rfl rfl rfl (Nat.le_of_ble_eq_true rfl) ?_
  have hx : ∀ E M1, CX G C M (opWalkLength σ r) [NSE, ISE] E M1 → SXG G iL_walkLength (rmd 26 40 1100) (QF G (HR G C a9 M (opWalkLength σ r)) nX 40 1100) 4 [(0, .ref (eX C 0)), (1, .int (iz r)), (2, .ref a9)] M1 40 1100 E := by
    rintro E M1 ⟨c, hc, hE, hq⟩
    have hQ := hq_of hX ha9 (Or.inl rfl) hq
    match c, hE with
    | 0, hE =>
      injection hE with hE
      subst hE
      refine r_catch (nm := NSE) [] (0, 9, 12, 19) [(0, 9, 15, 13)] rfl (fun z hz => nomatch hz) (by decide) rfl (by decide) nL_19 (by decide +kernel) (k := fun q => ?_)
      refine r_astore_n dL_walkLength_12 (k := ?_)
      refine r_iconst dL_walkLength_13 ?_
      exact r_iret dL_walkLength_14 ⟨_, rfl, by rw [hc] <;> rfl, fun h => by omega, hQ⟩
    | 1, hE =>
      injection hE with hE
      subst hE
      refine r_catch (nm := ISE) [(0, 9, 12, 19)] (0, 9, 15, 13) [] rfl (List.forall_mem_cons.mpr ⟨⟨_, nL_19, by decide +kernel⟩, (fun z hz => nomatch hz)⟩) (by decide) rfl (by decide) nL_13 (by decide +kernel) (k := fun q => ?_)
      refine r_astore_n dL_walkLength_15 (k := ?_)
      refine r_iconst dL_walkLength_16 ?_
      exact r_iret dL_walkLength_17 ⟨_, rfl, by rw [hc] <;> rfl, fun h => by omega, hQ⟩
    | c + 2, hE => exact nomatch hE
  refine r_aload_n dL_walkLength_0 rfl ?_
  refine r_iconst dL_walkLength_1 ?_
  refine r_aload_n dL_walkLength_2 rfl ?_
  refine r_iload_n dL_walkLength_3 rfl ?_
  refine r_callV (mi := iL_walkLength) vL_74 dL_walkLength_4 (hX.x 0 8 0) (y_walkLength hM hO r ha) (hm := by first | exact ⟨Nat.le_of_ble_eq_true rfl, Nat.le_of_ble_eq_true rfl⟩ | (constructor <;> simp only [rmd] <;> omega)) (k := kI (fun r M1 h1 => ?_)) (kx := hx)
  obtain ⟨h0, rfl, hq⟩ := h1
  have hQ := hq_of hX ha9 (Or.inl rfl) hq
  refine r_i2l dL_walkLength_7 (rfl) ?_
  refine r_last dL_walkLength_8 (hQ.2.2.1.trans ha9) (j := 0) rfl (k := ?_)
  refine r_goto (tgt := 18) dL_walkLength_9 (by decide) ?_
  refine r_iconst dL_walkLength_18 ?_
  exact r_iret dL_walkLength_19 ⟨_, rfl, by rw [h0] <;> rfl, fun _ => by rw [mL_sL]; exact up_s _ _ _, hQ.put ha9 (Or.inl rfl) rfl rfl (fun b hb => Sm.L hb)⟩
theorem h_walkPlaces (hM : XM G M C σ) (hO : Ok σ T) (r : Int) (ha : inR r) {a9 : Nat} (ha9 : mC M a9 = some (14, 1)) : Ht G iL_walkPlaces yL_walkPlaces 26 [.ref (eX C 0), .int (iz r), .ref a9] M (HR G C a9 M (opWalkPlaces σ r)) nX 60 1400 := by
  have hX := hM.1
  refine ht_introH (by decide +kernel) rfl rfl rfl (Nat.le_of_ble_eq_true rfl) ?_
  have hx : ∀ E M1, CX G C M (opWalkPlaces σ r) [NSE, ISE] E M1 → SXG G iL_walkPlaces (rmd 26 60 1400) (QF G (HR G C a9 M (opWalkPlaces σ r)) nX 60 1400) 4 [(0, .ref (eX C 0)), (1, .int (iz r)), (2, .ref a9)] M1 60 1400 E := by
    rintro E M1 ⟨c, hc, hE, hq⟩
    have hQ := hq_of hX ha9 (Or.inl rfl) hq
    match c, hE with
    | 0, hE =>
      injection hE with hE
      subst hE
      refine r_catch (nm := NSE) [] (0, 9, 12, 19) [(0, 9, 15, 13)] rfl (fun z hz => nomatch hz) (by decide) rfl (by decide) nL_19 (by decide +kernel) (k := fun q => ?_)
      refine r_astore_n dL_walkPlaces_12 (k := ?_)
      refine r_iconst dL_walkPlaces_13 ?_
      exact r_iret dL_walkPlaces_14 ⟨_, rfl, by rw [hc] <;> rfl, fun h => by omega, hQ⟩
    | 1, hE =>
      injection hE with hE
      subst hE
      refine r_catch (nm := ISE) [(0, 9, 12, 19)] (0, 9, 15, 13) [] rfl (List.forall_mem_cons.mpr ⟨⟨_, nL_19, by decide +kernel⟩, (fun z hz => nomatch hz)⟩) (by decide) rfl (by decide) nL_13 (by decide +kernel) (k := fun q => ?_)
      refine r_astore_n dL_walkPlaces_15 (k := ?_)
      refine r_iconst dL_walkPlaces_16 ?_
      exact r_iret dL_walkPlaces_17 ⟨_, rfl, by rw [hc] <;> rfl, fun h => by omega, hQ⟩
    | c + 2, hE => exact nomatch hE
  refine r_aload_n dL_walkPlaces_0 rfl ?_
  refine r_iconst dL_walkPlaces_1 ?_
  refine r_aload_n dL_walkPlaces_2 rfl ?_
  refine r_iload_n dL_walkPlaces_3 rfl ?_
  refine r_callV (mi := iL_walkPlaces) vL_85 dL_walkPlaces_4 (hX.x 0 8 0) (y_walkPlaces hM hO r ha) (hm := by first | exact ⟨Nat.le_of_ble_eq_true rfl, Nat.le_of_ble_eq_true rfl⟩ | (constructor <;> simp only [rmd] <;> omega)) (k := kI (fun r M1 h1 => ?_)) (kx := hx)
  obtain ⟨h0, rfl, hq⟩ := h1
  have hQ := hq_of hX ha9 (Or.inl rfl) hq
  refine r_i2l dL_walkPlaces_7 (rfl) ?_
  refine r_last dL_walkPlaces_8 (hQ.2.2.1.trans ha9) (j := 0) rfl (k := ?_)
  refine r_goto (tgt := 18) dL_walkPlaces_9 (by decide) ?_
  refine r_iconst dL_walkPlaces_18 ?_
  exact r_iret dL_walkPlaces_19 ⟨_, rfl, by rw [h0] <;> rfl, fun _ => by rw [mL_sL]; exact up_s _ _ _, hQ.put ha9 (Or.inl rfl) rfl rfl (fun b hb => Sm.L hb)⟩
theorem h_walkTime (hM : XM G M C σ) (hO : Ok σ T) (r : Int) (ha : inR r) {a9 : Nat} (ha9 : mC M a9 = some (14, 1)) : Ht G iL_walkTime yL_walkTime 26 [.ref (eX C 0), .int (iz r), .ref a9] M (HR G C a9 M (opWalkTime σ r)) nX 40 1100 := by
  have hX := hM.1
  refine ht_introH (by decide +kernel) rfl rfl rfl (Nat.le_of_ble_eq_true rfl) ?_
  have hx : ∀ E M1, CX G C M (opWalkTime σ r) [NSE, ISE] E M1 → SXG G iL_walkTime (rmd 26 40 1100) (QF G (HR G C a9 M (opWalkTime σ r)) nX 40 1100) 4 [(0, .ref (eX C 0)), (1, .int (iz r)), (2, .ref a9)] M1 40 1100 E := by
    rintro E M1 ⟨c, hc, hE, hq⟩
    have hQ := hq_of hX ha9 (Or.inl rfl) hq
    match c, hE with
    | 0, hE =>
      injection hE with hE
      subst hE
      refine r_catch (nm := NSE) [] (0, 9, 12, 19) [(0, 9, 15, 13)] rfl (fun z hz => nomatch hz) (by decide) rfl (by decide) nL_19 (by decide +kernel) (k := fun q => ?_)
      refine r_astore_n dL_walkTime_12 (k := ?_)
      refine r_iconst dL_walkTime_13 ?_
      exact r_iret dL_walkTime_14 ⟨_, rfl, by rw [hc] <;> rfl, fun h => by omega, hQ⟩
    | 1, hE =>
      injection hE with hE
      subst hE
      refine r_catch (nm := ISE) [(0, 9, 12, 19)] (0, 9, 15, 13) [] rfl (List.forall_mem_cons.mpr ⟨⟨_, nL_19, by decide +kernel⟩, (fun z hz => nomatch hz)⟩) (by decide) rfl (by decide) nL_13 (by decide +kernel) (k := fun q => ?_)
      refine r_astore_n dL_walkTime_15 (k := ?_)
      refine r_iconst dL_walkTime_16 ?_
      exact r_iret dL_walkTime_17 ⟨_, rfl, by rw [hc] <;> rfl, fun h => by omega, hQ⟩
    | c + 2, hE => exact nomatch hE
  refine r_aload_n dL_walkTime_0 rfl ?_
  refine r_iconst dL_walkTime_1 ?_
  refine r_aload_n dL_walkTime_2 rfl ?_
  refine r_iload_n dL_walkTime_3 rfl ?_
  refine r_callV (mi := iL_walkTime) vL_91 dL_walkTime_4 (hX.x 0 8 0) (y_walkTime hM hO r ha) (hm := by first | exact ⟨Nat.le_of_ble_eq_true rfl, Nat.le_of_ble_eq_true rfl⟩ | (constructor <;> simp only [rmd] <;> omega)) (k := kI (fun r M1 h1 => ?_)) (kx := hx)
  obtain ⟨h0, rfl, hq⟩ := h1
  have hQ := hq_of hX ha9 (Or.inl rfl) hq
  refine r_i2l dL_walkTime_7 (rfl) ?_
  refine r_last dL_walkTime_8 (hQ.2.2.1.trans ha9) (j := 0) rfl (k := ?_)
  refine r_goto (tgt := 18) dL_walkTime_9 (by decide) ?_
  refine r_iconst dL_walkTime_18 ?_
  exact r_iret dL_walkTime_19 ⟨_, rfl, by rw [h0] <;> rfl, fun _ => by rw [mL_sL]; exact up_s _ _ _, hQ.put ha9 (Or.inl rfl) rfl rfl (fun b hb => Sm.L hb)⟩
theorem h_walkTo (hM : XM G M C σ) (hO : Ok σ T) (h : Int) (ha : inR h) {a9 : Nat} (ha9 : mC M a9 = some (14, 1)) : Ht G iL_walkTo yL_walkTo 26 [.ref (eX C 0), .int (iz h), .ref a9] M (HR G C a9 M (opWalkTo σ h)) nX 60 1400 := by
  have hX := hM.1
  refine ht_introH (by decide +kernel) rfl rfl rfl (Nat.le_of_ble_eq_true rfl) ?_
  have hx : ∀ E M1, CX G C M (opWalkTo σ h) [NSE, UOE, ISE] E M1 → SXG G iL_walkTo (rmd 26 60 1400) (QF G (HR G C a9 M (opWalkTo σ h)) nX 60 1400) 4 [(0, .ref (eX C 0)), (1, .int (iz h)), (2, .ref a9)] M1 60 1400 E := by
    rintro E M1 ⟨c, hc, hE, hq⟩
    have hQ := hq_of hX ha9 (Or.inl rfl) hq
    match c, hE with
    | 0, hE =>
      injection hE with hE
      subst hE
      refine r_catch (nm := NSE) [] (0, 9, 12, 19) [(0, 9, 15, 80), (0, 9, 18, 13)] rfl (fun z hz => nomatch hz) (by decide) rfl (by decide) nL_19 (by decide +kernel) (k := fun q => ?_)
      refine r_astore_n dL_walkTo_12 (k := ?_)
      refine r_iconst dL_walkTo_13 ?_
      exact r_iret dL_walkTo_14 ⟨_, rfl, by rw [hc] <;> rfl, fun h => by omega, hQ⟩
    | 1, hE =>
      injection hE with hE
      subst hE
      refine r_catch (nm := UOE) [(0, 9, 12, 19)] (0, 9, 15, 80) [(0, 9, 18, 13)] rfl (List.forall_mem_cons.mpr ⟨⟨_, nL_19, by decide +kernel⟩, (fun z hz => nomatch hz)⟩) (by decide) rfl (by decide) nL_80 (by decide +kernel) (k := fun q => ?_)
      refine r_astore_n dL_walkTo_15 (k := ?_)
      refine r_iconst dL_walkTo_16 ?_
      exact r_iret dL_walkTo_17 ⟨_, rfl, by rw [hc] <;> rfl, fun h => by omega, hQ⟩
    | 2, hE =>
      injection hE with hE
      subst hE
      refine r_catch (nm := ISE) [(0, 9, 12, 19), (0, 9, 15, 80)] (0, 9, 18, 13) [] rfl (List.forall_mem_cons.mpr ⟨⟨_, nL_19, by decide +kernel⟩, (List.forall_mem_cons.mpr ⟨⟨_, nL_80, by decide +kernel⟩, (fun z hz => nomatch hz)⟩)⟩) (by decide) rfl (by decide) nL_13 (by decide +kernel) (k := fun q => ?_)
      refine r_astore_n dL_walkTo_18 (k := ?_)
      refine r_iconst dL_walkTo_19 ?_
      exact r_iret dL_walkTo_20 ⟨_, rfl, by rw [hc] <;> rfl, fun h => by omega, hQ⟩
    | c + 3, hE => exact nomatch hE
  refine r_aload_n dL_walkTo_0 rfl ?_
  refine r_iconst dL_walkTo_1 ?_
  refine r_aload_n dL_walkTo_2 rfl ?_
  refine r_iload_n dL_walkTo_3 rfl ?_
  refine r_callV (mi := iL_walkTo) vL_97 dL_walkTo_4 (hX.x 0 8 0) (y_walkTo hM hO h ha) (hm := by first | exact ⟨Nat.le_of_ble_eq_true rfl, Nat.le_of_ble_eq_true rfl⟩ | (constructor <;> simp only [rmd] <;> omega)) (k := kI (fun r M1 h1 => ?_)) (kx := hx)
  obtain ⟨h0, rfl, hq⟩ := h1
  have hQ := hq_of hX ha9 (Or.inl rfl) hq
  refine r_i2l dL_walkTo_7 (rfl) ?_
  refine r_last dL_walkTo_8 (hQ.2.2.1.trans ha9) (j := 0) rfl (k := ?_)
  refine r_goto (tgt := 21) dL_walkTo_9 (by decide) ?_
  refine r_iconst dL_walkTo_21 ?_
  exact r_iret dL_walkTo_22 ⟨_, rfl, by rw [h0] <;> rfl, fun _ => by rw [mL_sL]; exact up_s _ _ _, hQ.put ha9 (Or.inl rfl) rfl rfl (fun b hb => Sm.L hb)⟩
end HLP
