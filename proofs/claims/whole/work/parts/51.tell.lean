/-! The class: what is told of lengths and times. -/
section TEL
variable {G : GC} {M M' : Mem} {C : CE} {σ : St} {T : Nat}
theorem XM.cw (hX : XB G M C σ) (hO : Ok σ T) {g : Nat} {m : List Nat} (hV : CW G M C σ (uns σ g (σ.1 1)) m) (hm : m.length ≤ 32) : XM G M C σ := by
  have p3 := hO.1.2.2.1
  refine ⟨hX, _, m, hV.1, ?_, hm⟩
  rw [List.length_map]
  have := (chz_uns (σ := σ) g (σ.1 1)).1
  omega
theorem CW.row {u m : List Nat} (hX : XB G M C σ) (h : CW G M C σ u m) (K : Nat → Int32) : CW G (sA M (eX C 17) K) C σ u m := ⟨h.1.row _ K (hX.x 17 11 2560), h.2.1, h.2.2⟩
def lenI (σ : St) (g : Nat) : Int := if hW σ g = true then (wL σ g : Int) else -1
theorem lenI_b (hW1 : Bool) (g : Nat) : -1 ≤ lenI σ g ∧ lenI σ g ≤ 100000 := by
  have : wL σ g ≤ 100000 := gV_le
  unfold lenI
  split <;> omega
theorem x_lengthOf (hM : XM G M C σ) (hO : Ok σ T) {g : Nat} (hg : g < 16) : Ht G iX8_lengthOf yX8_lengthOf 22 [.ref (eX C 0), .int (iz (g : Int))] M (rI fun r M' => r = iz (lenI σ g) ∧ Kx C M M' ∧ XM G M' C σ ∧ mA M' (eX C 8) = mA M (eX C 8)) nX 32 1072 := by
  obtain ⟨hX, l, m, hS, hl, hm⟩ := hM
  have p3 := hO.1.2.2.1
  have hul := uns_len σ g (σ.1 1)
  refine ht_intro (by decide +kernel) rfl rfl rfl (Nat.le_of_ble_eq_true rfl) ?_
  refine r_aload_n dX8_lengthOf_0 rfl ?_
  refine r_iload_n dX8_lengthOf_1 rfl ?_
  refine r_callV (mi := iX8_lengthOf) vX8_206 dX8_lengthOf_2 (hX.x 0 8 0) (x_collect hX hO hS (g := g) hg) (hm := by first | exact ⟨Nat.le_of_ble_eq_true rfl, Nat.le_of_ble_eq_true rfl⟩ | (constructor <;> simp only [rmd] <;> omega)) (k := kV (fun M1 h1 => ?_)) (kx := r_nox)
  obtain ⟨⟨k1, k8⟩, hV⟩ := h1
  have hX := hX.kx hO k1
  refine r_aload_n dX8_lengthOf_5 rfl ?_
  refine r_getR qX8_37 dX8_lengthOf_6 (hX.x 0 8 0) (hX.f 0 517 6) (kk := ?_)
  refine r_callV (mi := iX8_lengthOf) vX8_212 dX8_lengthOf_9 (hX.x 6 6 0) (x_isPossible hX hO hV (by omega)) (hm := by first | exact ⟨Nat.le_of_ble_eq_true rfl, Nat.le_of_ble_eq_true rfl⟩ | (constructor <;> simp only [rmd] <;> omega)) (k := kP ?_) (kx := r_nox)
  rw [ps_hW hO]
  refine r_bif_eq (tgt := 25) dX8_lengthOf_12 (by decide) (kt := fun z12 => ?_) (kf := fun z12 => ?_)
  · refine r_iconst dX8_lengthOf_25 ?_
    first
     | exact r_iret dX8_lengthOf_26 ⟨_, rfl, by unfold lenI; rw [if_pos z12], k1.tr k2, XM.cw (hX.kx hO k2) hO (hV.row hX K) hm, (mA_sAn _ _ _ _ (hX.ne (by decide))).trans k8⟩
     | exact r_iret dX8_lengthOf_26 ⟨_, rfl, by unfold lenI; rw [z12]; rfl, k1, XM.cw hX hO hV hm, k8⟩
  · refine r_aload_n dX8_lengthOf_15 rfl ?_
    refine r_getR qX8_37 dX8_lengthOf_16 (hX.x 0 8 0) (hX.f 0 517 6) (kk := ?_)
    refine r_callV (mi := iX8_lengthOf) vX8_219 dX8_lengthOf_19 (hX.x 6 6 0) (x_leastLength hX hO hV z12) (hm := by first | exact ⟨Nat.le_of_ble_eq_true rfl, Nat.le_of_ble_eq_true rfl⟩ | (constructor <;> simp only [rmd] <;> omega)) (k := kI (fun r M2 h2 => ?_)) (kx := r_nox)
    obtain ⟨rfl, K, rfl, -⟩ := h2
    have k2 := Kx.row (K := K) hX (Or.inr (Or.inr (Or.inl rfl)))
    refine r_goto (tgt := 26) dX8_lengthOf_22 (by decide) ?_
    first
     | exact r_iret dX8_lengthOf_26 ⟨_, rfl, by unfold lenI; rw [if_pos z12], k1.tr k2, XM.cw (hX.kx hO k2) hO (hV.row hX K) hm, (mA_sAn _ _ _ _ (hX.ne (by decide))).trans k8⟩
     | exact r_iret dX8_lengthOf_26 ⟨_, rfl, by unfold lenI; rw [z12]; rfl, k1, XM.cw hX hO hV hm, k8⟩
/-- a round that has a walk has been collected -/
theorem x_collectWalk (hM : XM G M C σ) (hO : Ok σ T) (r : Int) (ha : inR r) : Ht G iX8_collectWalk yX8_collectWalk 22 [.ref (eX C 0), .int (iz r)] M (rV fun M' => wlc σ r = 0 ∧ Kx C M M' ∧ XB G M' C σ ∧ ∃ m, m.length ≤ 32 ∧ CW G M' C σ (uns σ (2 ^ r.toNat) (σ.1 1)) m) (fun E M' => ((wlc σ r = 1 ∧ E = NSE) ∨ (wlc σ r = 2 ∧ E = ISE)) ∧ XQ G C M σ M') 34 1084 := by
  have hM0 := hM
  obtain ⟨hX, l, m, hS, hl, hm⟩ := hM
  have p3 := hO.1.2.2.1
  have p5 := hO.1.2.2.2.2.1
  have hul := uns_len σ (2 ^ r.toNat) (σ.1 1)
  refine ht_intro (by decide +kernel) rfl rfl rfl (Nat.le_of_ble_eq_true rfl) ?_
  refine r_aload_n dX8_collectWalk_0 rfl ?_
  refine r_iload_n dX8_collectWalk_1 rfl ?_
  refine r_callV (mi := iX8_collectWalk) vX8_124 dX8_collectWalk_2 (hX.x 0 8 0) (x_findRound hX (by omega) r ha) (hm := by first | exact ⟨Nat.le_of_ble_eq_true rfl, Nat.le_of_ble_eq_true rfl⟩ | (constructor <;> simp only [rmd] <;> omega)) (k := kT (fun hb1 => kPA ?_)) (kx := kxT (fun hb1 n hn => ⟨Or.inl ⟨wlc_1 hb1, rfl⟩, XQ.n hM0 hO hn⟩))
  refine r_pop dX8_collectWalk_5 (k := ?_)
  refine r_aload_n dX8_collectWalk_6 rfl ?_
  refine r_iload_n dX8_collectWalk_7 rfl ?_
  refine r_callS (mi := iX8_collectWalk) vX8_185 dX8_collectWalk_8 (x_groupOf r.toNat (z := r) (by omega) (by omega)) (hm := by first | exact ⟨Nat.le_of_ble_eq_true rfl, Nat.le_of_ble_eq_true rfl⟩ | (constructor <;> simp only [rmd] <;> omega)) (k := kP ?_) (kx := r_nox)
  refine r_callV (mi := iX8_collectWalk) vX8_206 dX8_collectWalk_11 (hX.x 0 8 0) (x_collect hX hO hS (g := 2 ^ r.toNat) (two_lt (by omega))) (hm := by first | exact ⟨Nat.le_of_ble_eq_true rfl, Nat.le_of_ble_eq_true rfl⟩ | (constructor <;> simp only [rmd] <;> omega)) (k := kV (fun M1 h1 => ?_)) (kx := r_nox)
  obtain ⟨⟨k1, k8⟩, hV⟩ := h1
  have hX := hX.kx hO k1
  refine r_aload_n dX8_collectWalk_14 rfl ?_
  refine r_getR qX8_37 dX8_collectWalk_15 (hX.x 0 8 0) (hX.f 0 517 6) (kk := ?_)
  refine r_callV (mi := iX8_collectWalk) vX8_212 dX8_collectWalk_18 (hX.x 6 6 0) (x_isPossible hX hO hV (by omega)) (hm := by first | exact ⟨Nat.le_of_ble_eq_true rfl, Nat.le_of_ble_eq_true rfl⟩ | (constructor <;> simp only [rmd] <;> omega)) (k := kP ?_) (kx := r_nox)
  rw [ps_hW hO]
  obtain ⟨r, rfl⟩ := nat_of (a := r) (by omega)
  rw [Int.toNat_natCast] at hV ⊢
  refine r_bif_ne (tgt := 35) dX8_collectWalk_21 (by decide) (kt := fun z21 => ?_) (kf := fun z21 => ?_)
  · exact r_vret dX8_collectWalk_35 (⟨rfl, wlc_0 (by omega) z21, k1, hX, m, hm, hV⟩)
  · exact r_throwXW (mi := iX8_collectWalk) xw_57 hX.gD (text := "the round has no walk") (is := 369) (by decide +kernel) dX8_collectWalk_24 dX8_collectWalk_27 dX8_collectWalk_28 dX8_collectWalk_31 dX8_collectWalk_34 (hm := by exact ⟨Nat.le_of_ble_eq_true rfl, Nat.le_of_ble_eq_true rfl⟩) (hm2 := by exact ⟨Nat.le_of_ble_eq_true rfl, Nat.le_of_ble_eq_true rfl⟩) (hx := fun n hn => ⟨Or.inr ⟨wlc_2 (by omega) z21, rfl⟩, XQ.tr k1.fx (XQ.n (XM.cw hX hO hV hm) hO hn)⟩)
theorem cx_w {o : Rs} {r : Int} {E : String} {rest : List String} (ho : wlc σ r ≠ 0 → o = (σ, wlc σ r, o.2.2)) (h : ((wlc σ r = 1 ∧ E = NSE) ∨ (wlc σ r = 2 ∧ E = ISE)) ∧ XQ G C M σ M') : CX G C M o (NSE :: ISE :: rest) E M' := by
  obtain ⟨h1, hq⟩ := h
  rcases h1 with ⟨h1, rfl⟩ | ⟨h1, rfl⟩
  · have e := ho (by omega)
    rw [h1] at e
    exact cx_of (c := 0) e rfl hq
  · have e := ho (by omega)
    rw [h1] at e
    exact cx_of (c := 1) e rfl hq
theorem kxW {mi : MI} {R : Room} {pc : Nat} {L : List (Nat × Value)} {kc ks mc ms : Nat} {PR : Option Value → Mem → Prop} {o : Rs} {r : Int} {rest : List String} (ho : wlc σ r ≠ 0 → o = (σ, wlc σ r, o.2.2)) (hh : mi.2.2.2.2.2 = [] := by rfl) (hm : kc ≤ mc ∧ ks ≤ ms := by exact ⟨Nat.le_of_ble_eq_true rfl, Nat.le_of_ble_eq_true rfl⟩) : ∀ E M', (((wlc σ r = 1 ∧ E = NSE) ∨ (wlc σ r = 2 ∧ E = ISE)) ∧ XQ G C M σ M') → SXG G mi R (QF G PR (CX G C M o (NSE :: ISE :: rest)) mc ms) pc L M' kc ks E := fun E M' h => r_out hh (cx_w ho h) hm
theorem XQ.cw (hM : XM G M C σ) (hO : Ok σ T) (k1 : Kx C M M') {g : Nat} {m : List Nat} (hV : CW G M' C σ (uns σ g (σ.1 1)) m) (hm : m.length ≤ 32) : XQ G C M σ M' := ⟨k1.fx, C, rfl, XM.cw (hM.1.kx hO k1) hO hV hm⟩
theorem y_needed (hM : XM G M C σ) (hO : Ok σ T) (r : Int) (ha : inR r) : Ht G iX8_needed yX8_needed 24 [.ref (eX C 0), .int (iz r)] M (CR G C M (opNeeded σ r)) (CX G C M (opNeeded σ r) [NSE]) 40 1100 := by
  have hM0 := hM
  obtain ⟨hX, l, m, hS, hl, hm⟩ := hM
  have p5 := hO.1.2.2.2.2.1
  refine ht_intro (by decide +kernel) rfl rfl rfl (Nat.le_of_ble_eq_true rfl) ?_
  refine r_aload_n dX8_needed_0 rfl ?_
  refine r_iload_n dX8_needed_1 rfl ?_
  refine r_callV (mi := iX8_needed) vX8_124 dX8_needed_2 (hX.x 0 8 0) (x_findRound hX (by omega) r ha) (hm := by first | exact ⟨Nat.le_of_ble_eq_true rfl, Nat.le_of_ble_eq_true rfl⟩ | (constructor <;> simp only [rmd] <;> omega)) (k := kT (fun hb1 => kPA ?_)) (kx := kxT (fun hb1 n hn => cx_rd (c := 0) hM0 hO hn (if_pos hb1) rfl))
  refine r_pop dX8_needed_5 (k := ?_)
  refine r_aload_n dX8_needed_6 rfl ?_
  refine r_iload_n dX8_needed_7 rfl ?_
  refine r_callS (mi := iX8_needed) vX8_185 dX8_needed_8 (x_groupOf r.toNat (z := r) (by omega) (by omega)) (hm := by first | exact ⟨Nat.le_of_ble_eq_true rfl, Nat.le_of_ble_eq_true rfl⟩ | (constructor <;> simp only [rmd] <;> omega)) (k := kP ?_) (kx := r_nox)
  refine r_callV (mi := iX8_needed) vX8_206 dX8_needed_11 (hX.x 0 8 0) (x_collect hX hO hS (g := 2 ^ r.toNat) (two_lt (by omega))) (hm := by first | exact ⟨Nat.le_of_ble_eq_true rfl, Nat.le_of_ble_eq_true rfl⟩ | (constructor <;> simp only [rmd] <;> omega)) (k := kV (fun M1 h1 => ?_)) (kx := r_nox)
  obtain ⟨⟨k1, k8⟩, hV⟩ := h1
  have hX := hX.kx hO k1
  refine r_aload_n dX8_needed_14 rfl ?_
  refine r_getR qX8_37 dX8_needed_15 (hX.x 0 8 0) (hX.f 0 517 6) (kk := ?_)
  refine r_getI qX8_209 dX8_needed_18 (hX.x 6 6 0) hV.2.1 (kk := ?_)
  exact r_iret dX8_needed_21 (cr_of (if_neg (fun h => h hb1)) rfl (XQ.cw hM0 hO k1 hV hm))
theorem y_hasWalk (hM : XM G M C σ) (hO : Ok σ T) (r : Int) (ha : inR r) : Ht G iX8_hasWalk yX8_hasWalk 24 [.ref (eX C 0), .int (iz r)] M (CR G C M (opHasWalk σ r)) (CX G C M (opHasWalk σ r) [NSE]) 40 1100 := by
  have hM0 := hM
  obtain ⟨hX, l, m, hS, hl, hm⟩ := hM
  have p3 := hO.1.2.2.1
  have p5 := hO.1.2.2.2.2.1
  have hul := uns_len σ (2 ^ r.toNat) (σ.1 1)
  refine ht_intro (by decide +kernel) rfl rfl rfl (Nat.le_of_ble_eq_true rfl) ?_
  refine r_aload_n dX8_hasWalk_0 rfl ?_
  refine r_iload_n dX8_hasWalk_1 rfl ?_
  refine r_callV (mi := iX8_hasWalk) vX8_124 dX8_hasWalk_2 (hX.x 0 8 0) (x_findRound hX (by omega) r ha) (hm := by first | exact ⟨Nat.le_of_ble_eq_true rfl, Nat.le_of_ble_eq_true rfl⟩ | (constructor <;> simp only [rmd] <;> omega)) (k := kT (fun hb1 => kPA ?_)) (kx := kxT (fun hb1 n hn => cx_rd (c := 0) hM0 hO hn (if_neg hb1) rfl))
  refine r_pop dX8_hasWalk_5 (k := ?_)
  refine r_aload_n dX8_hasWalk_6 rfl ?_
  refine r_iload_n dX8_hasWalk_7 rfl ?_
  refine r_callS (mi := iX8_hasWalk) vX8_185 dX8_hasWalk_8 (x_groupOf r.toNat (z := r) (by omega) (by omega)) (hm := by first | exact ⟨Nat.le_of_ble_eq_true rfl, Nat.le_of_ble_eq_true rfl⟩ | (constructor <;> simp only [rmd] <;> omega)) (k := kP ?_) (kx := r_nox)
  refine r_callV (mi := iX8_hasWalk) vX8_206 dX8_hasWalk_11 (hX.x 0 8 0) (x_collect hX hO hS (g := 2 ^ r.toNat) (two_lt (by omega))) (hm := by first | exact ⟨Nat.le_of_ble_eq_true rfl, Nat.le_of_ble_eq_true rfl⟩ | (constructor <;> simp only [rmd] <;> omega)) (k := kV (fun M1 h1 => ?_)) (kx := r_nox)
  obtain ⟨⟨k1, k8⟩, hV⟩ := h1
  have hX := hX.kx hO k1
  refine r_aload_n dX8_hasWalk_14 rfl ?_
  refine r_getR qX8_37 dX8_hasWalk_15 (hX.x 0 8 0) (hX.f 0 517 6) (kk := ?_)
  refine r_callV (mi := iX8_hasWalk) vX8_212 dX8_hasWalk_18 (hX.x 6 6 0) (x_isPossible hX hO hV (by omega)) (hm := by first | exact ⟨Nat.le_of_ble_eq_true rfl, Nat.le_of_ble_eq_true rfl⟩ | (constructor <;> simp only [rmd] <;> omega)) (k := kP ?_) (kx := r_nox)
  rw [ps_hW hO]
  exact r_zret dX8_hasWalk_21 (cr_of (if_pos hb1) rfl (XQ.cw hM0 hO k1 hV hm))
theorem wlc_hW {r : Int} (h : wlc σ r = 0) : hW σ (2 ^ r.toNat) = true ∧ bt2 r 0 (σ.1 3 - 1) := by
  obtain ⟨n, rfl, h1, h2⟩ := wlc_z h
  rw [Int.toNat_natCast]
  exact ⟨h2, by omega, by omega⟩
theorem y_walkLength (hM : XM G M C σ) (hO : Ok σ T) (r : Int) (ha : inR r) : Ht G iX8_walkLength yX8_walkLength 24 [.ref (eX C 0), .int (iz r)] M (CR G C M (opWalkLength σ r)) (CX G C M (opWalkLength σ r) [NSE, ISE]) 40 1100 := by
  have hX := hM.1
  refine ht_intro (by decide +kernel) rfl rfl rfl (Nat.le_of_ble_eq_true rfl) ?_
  refine r_aload_n dX8_walkLength_0 rfl ?_
  refine r_iload_n dX8_walkLength_1 rfl ?_
  refine r_callV (mi := iX8_walkLength) vX8_216 dX8_walkLength_2 (hX.x 0 8 0) (x_collectWalk hM hO r ha) (hm := by first | exact ⟨Nat.le_of_ble_eq_true rfl, Nat.le_of_ble_eq_true rfl⟩ | (constructor <;> simp only [rmd] <;> omega)) (k := kV (fun M1 h1 => ?_)) (kx := kxW (fun _ => rfl))
  obtain ⟨hw, k1, hX, m, hm, hV⟩ := h1
  refine r_aload_n dX8_walkLength_5 rfl ?_
  refine r_getR qX8_37 dX8_walkLength_6 (hX.x 0 8 0) (hX.f 0 517 6) (kk := ?_)
  refine r_callV (mi := iX8_walkLength) vX8_219 dX8_walkLength_9 (hX.x 6 6 0) (x_leastLength hX hO hV (wlc_hW hw).1) (hm := by first | exact ⟨Nat.le_of_ble_eq_true rfl, Nat.le_of_ble_eq_true rfl⟩ | (constructor <;> simp only [rmd] <;> omega)) (k := kI (fun r M2 h2 => ?_)) (kx := r_nox)
  obtain ⟨rfl, K, rfl, -⟩ := h2
  exact r_iret dX8_walkLength_12 (cr_of (Prod.ext rfl (Prod.ext hw rfl)) rfl (XQ.cw hM hO (k1.tr (Kx.row (K := K) hX (Or.inr (Or.inr (Or.inl rfl))))) (hV.row hX K) hm))
theorem opTry_e {r : Int} (h : wlc σ r ≠ 0) : opTry σ r = (σ, wlc σ r, 0) := if_pos h
theorem y_lengthByTrying (hM : XM G M C σ) (hO : Ok σ T) (r : Int) (ha : inR r) : Ht G iX8_lengthByTrying yX8_lengthByTrying 24 [.ref (eX C 0), .int (iz r)] M (CR G C M (opTry σ r)) (CX G C M (opTry σ r) [NSE, ISE, UOE]) 40 1100 := by
  have hX := hM.1
  refine ht_intro (by decide +kernel) rfl rfl rfl (Nat.le_of_ble_eq_true rfl) ?_
  refine r_aload_n dX8_lengthByTrying_0 rfl ?_
  refine r_iload_n dX8_lengthByTrying_1 rfl ?_
  refine r_callV (mi := iX8_lengthByTrying) vX8_216 dX8_lengthByTrying_2 (hX.x 0 8 0) (x_collectWalk hM hO r ha) (hm := by first | exact ⟨Nat.le_of_ble_eq_true rfl, Nat.le_of_ble_eq_true rfl⟩ | (constructor <;> simp only [rmd] <;> omega)) (k := kV (fun M1 h1 => ?_)) (kx := kxW (fun h => by rw [opTry_e h]))
  obtain ⟨hw, k1, hX, m, hm, hV⟩ := h1
  have h390 := hV.2.1
  rw [uns_l] at h390
  obtain ⟨hn8, -⟩ := hW_iff.mp (wlc_hW hw).1
  refine r_aload_n dX8_lengthByTrying_5 rfl ?_
  refine r_getR qX8_37 dX8_lengthByTrying_6 (hX.x 0 8 0) (hX.f 0 517 6) (kk := ?_)
  refine r_getI qX8_209 dX8_lengthByTrying_9 (hX.x 6 6 0) h390 (kk := ?_)
  refine r_iconst dX8_lengthByTrying_12 ?_
  refine r_icmp_le (tgt := 26) dX8_lengthByTrying_13 (by decide) (kt := fun z13 => ?_) (kf := fun z13 => ?_)
  · refine r_aload_n dX8_lengthByTrying_26 rfl ?_
    refine r_getR qX8_37 dX8_lengthByTrying_27 (hX.x 0 8 0) (hX.f 0 517 6) (kk := ?_)
    refine r_callV (mi := iX8_lengthByTrying) vX8_227 dX8_lengthByTrying_30 (hX.x 6 6 0) (x_tryAll hX hO hV (wlc_hW hw).1 (by omega)) (hm := by first | exact ⟨Nat.le_of_ble_eq_true rfl, Nat.le_of_ble_eq_true rfl⟩ | (constructor <;> simp only [rmd] <;> omega)) (k := kP ?_) (kx := r_nox)
    exact r_iret dX8_lengthByTrying_33 (cr_of ((if_neg (fun h => h hw)).trans (if_neg (by omega))) rfl (XQ.cw hM hO k1 hV hm))
  · exact r_throwX (mi := iX8_lengthByTrying) xw_222 hX.gD (text := "too many passes to try all orders") (is := 224) (by decide +kernel) dX8_lengthByTrying_16 dX8_lengthByTrying_19 dX8_lengthByTrying_20 dX8_lengthByTrying_22 dX8_lengthByTrying_25 (hm := by exact ⟨Nat.le_of_ble_eq_true rfl, Nat.le_of_ble_eq_true rfl⟩) (hm2 := by exact ⟨Nat.le_of_ble_eq_true rfl, Nat.le_of_ble_eq_true rfl⟩) (hx := fun n hn => cx_of (c := 2) ((if_neg (fun h => h hw)).trans (if_pos (by omega))) rfl (XQ.tr k1.fx (XQ.n (XM.cw hX hO hV hm) hO hn)))
theorem y_walkTime (hM : XM G M C σ) (hO : Ok σ T) (r : Int) (ha : inR r) : Ht G iX8_walkTime yX8_walkTime 24 [.ref (eX C 0), .int (iz r)] M (CR G C M (opWalkTime σ r)) (CX G C M (opWalkTime σ r) [NSE, ISE]) 40 1100 := by
  have hX := hM.1
  have p5 := hO.1.2.2.2.2.1
  refine ht_intro (by decide +kernel) rfl rfl rfl (Nat.le_of_ble_eq_true rfl) ?_
  refine r_aload_n dX8_walkTime_0 rfl ?_
  refine r_iload_n dX8_walkTime_1 rfl ?_
  refine r_callV (mi := iX8_walkTime) vX8_216 dX8_walkTime_2 (hX.x 0 8 0) (x_collectWalk hM hO r ha) (hm := by first | exact ⟨Nat.le_of_ble_eq_true rfl, Nat.le_of_ble_eq_true rfl⟩ | (constructor <;> simp only [rmd] <;> omega)) (k := kV (fun M1 h1 => ?_)) (kx := kxW (fun _ => rfl))
  obtain ⟨hw, k1, hX, m, hm, hV⟩ := h1
  obtain ⟨w1, w2⟩ := wlc_hW hw
  refine r_aload_n dX8_walkTime_5 rfl ?_
  refine r_getR qX8_37 dX8_walkTime_6 (hX.x 0 8 0) (hX.f 0 517 6) (kk := ?_)
  refine r_callV (mi := iX8_walkTime) vX8_219 dX8_walkTime_9 (hX.x 6 6 0) (x_leastLength hX hO hV w1) (hm := by first | exact ⟨Nat.le_of_ble_eq_true rfl, Nat.le_of_ble_eq_true rfl⟩ | (constructor <;> simp only [rmd] <;> omega)) (k := kI (fun r M2 h2 => ?_)) (kx := r_nox)
  obtain ⟨rfl, K, rfl, -⟩ := h2
  have k2 := Kx.row (K := K) hX (Or.inr (Or.inr (Or.inl rfl)))
  have hX2 := hX.kx hO k2
  have hQ := XQ.cw hM hO (k1.tr k2) (hV.row hX K) hm
  have hX := hX2
  refine r_aload_n dX8_walkTime_12 rfl ?_
  refine r_iload_n dX8_walkTime_13 rfl ?_
  refine r_callS (mi := iX8_walkTime) vX8_185 dX8_walkTime_14 (x_groupOf r.toNat (z := r) (by omega) (by omega)) (hm := by first | exact ⟨Nat.le_of_ble_eq_true rfl, Nat.le_of_ble_eq_true rfl⟩ | (constructor <;> simp only [rmd] <;> omega)) (k := kP ?_) (kx := r_nox)
  refine r_callV (mi := iX8_walkTime) vX8_250 dX8_walkTime_17 (hX.x 0 8 0) (x_stopTime hX hO (2 ^ r.toNat) (two_lt (by omega))) (hm := by first | exact ⟨Nat.le_of_ble_eq_true rfl, Nat.le_of_ble_eq_true rfl⟩ | (constructor <;> simp only [rmd] <;> omega)) (k := kP ?_) (kx := r_nox)
  refine r_iadd dX8_walkTime_20 ?_
  exact r_iret dX8_walkTime_21 (cr_of (Prod.ext rfl (Prod.ext hw rfl)) (congrArg iz (show (wL σ (2 ^ r.toNat) : Int) + (sT σ (2 ^ r.toNat) : Int) = (wT σ (2 ^ r.toNat) : Int) by unfold wT sT; omega)) hQ)
theorem y_isInTime (hM : XM G M C σ) (hO : Ok σ T) (r : Int) (ha : inR r) : Ht G iX8_isInTime yX8_isInTime 24 [.ref (eX C 0), .int (iz r)] M (CR G C M (opIsInTime σ r)) (CX G C M (opIsInTime σ r) [NSE]) 40 1100 := by
  have hX := hM.1
  have p5 := hO.1.2.2.2.2.1
  refine ht_intro (by decide +kernel) rfl rfl rfl (Nat.le_of_ble_eq_true rfl) ?_
  refine r_aload_n dX8_isInTime_0 rfl ?_
  refine r_iload_n dX8_isInTime_1 rfl ?_
  refine r_callV (mi := iX8_isInTime) vX8_124 dX8_isInTime_2 (hX.x 0 8 0) (x_findRound hX (by omega) r ha) (hm := by first | exact ⟨Nat.le_of_ble_eq_true rfl, Nat.le_of_ble_eq_true rfl⟩ | (constructor <;> simp only [rmd] <;> omega)) (k := kT (fun hb1 => kPA ?_)) (kx := kxT (fun hb1 n hn => cx_rd (c := 0) hM hO hn (if_pos hb1) rfl))
  obtain ⟨r, rfl⟩ := nat_of (a := r) (by omega)
  rw [Int.toNat_natCast]
  have hr : r < σ.1 3 := by omega
  have h9 := hO.2.2.2.1 r hr
  have hlb := lenI_b (σ := σ) true (2 ^ r)
  refine r_getI qX8_253 dX8_isInTime_5 (hX.k4 r hr) (hX.g256 r hr) (kk := ?_)
  refine r_istore_n dX8_isInTime_8 (k := ?_)
  refine r_iload_n dX8_isInTime_9 rfl ?_
  refine r_callS (mi := iX8_isInTime) vX8_185 dX8_isInTime_10 (x_groupOf r (z := r) rfl (by omega)) (hm := by first | exact ⟨Nat.le_of_ble_eq_true rfl, Nat.le_of_ble_eq_true rfl⟩ | (constructor <;> simp only [rmd] <;> omega)) (k := kP ?_) (kx := r_nox)
  refine r_istore_n dX8_isInTime_13 (k := ?_)
  refine r_aload_n dX8_isInTime_14 rfl ?_
  refine r_iload_n dX8_isInTime_15 rfl ?_
  refine r_aload_n dX8_isInTime_16 rfl ?_
  refine r_iload_n dX8_isInTime_17 rfl ?_
  refine r_callV (mi := iX8_isInTime) vX8_256 dX8_isInTime_18 (hX.x 0 8 0) (x_lengthOf hM hO (g := 2 ^ r) (two_lt (by omega))) (hm := by first | exact ⟨Nat.le_of_ble_eq_true rfl, Nat.le_of_ble_eq_true rfl⟩ | (constructor <;> simp only [rmd] <;> omega)) (k := kI (fun x M2 h2 => ?_)) (kx := r_nox)
  obtain ⟨rfl, k2, hM2, -⟩ := h2
  have hX := hM2.1
  refine r_iload_n dX8_isInTime_21 rfl ?_
  refine r_callV (mi := iX8_isInTime) vX8_259 dX8_isInTime_22 (hX.x 0 8 0) (x_isWithin hX hO (2 ^ r) (σ.2 9 r) (lenI σ (2 ^ r)) (two_lt (by omega)) h9.2 (by omega)) (hm := by first | exact ⟨Nat.le_of_ble_eq_true rfl, Nat.le_of_ble_eq_true rfl⟩ | (constructor <;> simp only [rmd] <;> omega)) (k := kP ?_) (kx := r_nox)
  have e9 : opIsInTime σ (r : Int) = (σ, 0, if decide (lenI σ (2 ^ r) ≠ -1 ∧ lenI σ (2 ^ r) + sT σ (2 ^ r) ≤ σ.2 9 r) = true then 1 else 0) := by
    unfold opIsInTime
    rw [if_neg (by omega), Int.toNat_natCast]
    have e8 : wT σ (2 ^ r) = wL σ (2 ^ r) + sT σ (2 ^ r) := by unfold wT sT; omega
    cases hw : hW σ (2 ^ r) with
    | true =>
      have : lenI σ (2 ^ r) = wL σ (2 ^ r) := if_pos hw
      rw [this, Bool.true_and]
      by_cases h : wT σ (2 ^ r) ≤ σ.2 9 r
      · rw [decide_eq_true h, decide_eq_true (show ((wL σ (2 ^ r) : Nat) : Int) ≠ -1 ∧ _ by omega)]
      · rw [decide_eq_false h, decide_eq_false (by omega)]
    | false =>
      have : lenI σ (2 ^ r) = -1 := if_neg (by rw [hw]; decide)
      rw [this, Bool.false_and, decide_eq_false (fun h => h.1 rfl)]
  exact r_zret dX8_isInTime_25 (cr_of e9 rfl (XQ.of k2.fx hM2))
end TEL
