/-! The class: the shortest walk's length. -/
section LEA
variable {G : GC} {M M' : Mem} {C : CE} {σ : St} {T : Nat}
theorem uns_l (g : Nat) : (uns σ g (σ.1 1)).length = uN σ g := rfl
theorem x_collect (hX : XB G M C σ) (hO : Ok σ T) {l m : List Nat} (hS : S2 G M C σ l m) {g : Nat} (hg : g < 16) : Ht G iX8_collect yX8_collect 20 [.ref (eX C 0), .int (iz (g : Int))] M (rV fun M' => Ky C M M' ∧ CW G M' C σ (uns σ g (σ.1 1)) m) nX 32 1072 := by
  have p3 := hO.1.2.2.1
  have hX0 := hX
  refine ht_intro (by decide +kernel) rfl rfl rfl (Nat.le_of_ble_eq_true rfl) ?_
  have loop : ∀ (k i : Nat) (M1 : Mem), i + k = σ.1 1 → Ky C M M1 → CW G M1 C σ (uns σ g i) m → SWG G iX8_collect (rmd 20 32 1072) (QF G (rV fun M' => Ky C M M' ∧ CW G M' C σ (uns σ g (σ.1 1)) m) nX 32 1072) 9 [(2, .int (iz (i : Int))), (0, .ref (eX C 0)), (1, .int (iz (g : Int)))] [] M1 (2 * i) (ksN i) := by
    intro k
    induction k with
    | zero =>
      intro i M1 hi k1 hW
      have hi2 : i = σ.1 1 := by omega
      subst hi2
      have hX := hX0.ky hO k1
      have hk := ksN_le (σ.1 1) (by omega)
      refine r_iload_n dX8_collect_9 rfl ?_
      refine r_aload_n dX8_collect_10 rfl ?_
      refine r_getR qX8_10 dX8_collect_11 (hX.x 0 8 0) (hX.f 0 512 1) (kk := ?_)
      refine r_callV (mi := iX8_collect) vX8_77 dX8_collect_14 (hX.x 1 10 0) (c_size (hX.l 1)) (hm := by first | exact ⟨Nat.le_of_ble_eq_true rfl, Nat.le_of_ble_eq_true rfl⟩ | (constructor <;> simp only [rmd] <;> omega)) (k := kP ?_) (kx := r_nox)
      refine r_icmp_ge (tgt := 59) dX8_collect_17 (by decide) (kt := fun z17 => ?_) (kf := fun z17 => (by exfalso; first | omega | simp_all))
      exact r_vret dX8_collect_59 (⟨rfl, k1, hW⟩)
    | succ k ih =>
      intro i M1 hi k1 hW
      have hi3 : i < σ.1 1 := by omega
      have hX := hX0.ky hO k1
      obtain ⟨c1, c2⟩ := chz_uns (σ := σ) g i
      have hul := uns_len σ g i
      have hk : ksN i + (6 * i + 22) ≤ 1072 := ksN_le (i + 1) (by omega)
      refine r_iload_n dX8_collect_9 rfl ?_
      refine r_aload_n dX8_collect_10 rfl ?_
      refine r_getR qX8_10 dX8_collect_11 (hX.x 0 8 0) (hX.f 0 512 1) (kk := ?_)
      refine r_callV (mi := iX8_collect) vX8_77 dX8_collect_14 (hX.x 1 10 0) (c_size (hX.l 1)) (hm := by first | exact ⟨Nat.le_of_ble_eq_true rfl, Nat.le_of_ble_eq_true rfl⟩ | (constructor <;> simp only [rmd] <;> omega)) (k := kP ?_) (kx := r_nox)
      refine r_icmp_ge (tgt := 59) dX8_collect_17 (by decide) (kt := fun z17 => (by exfalso; first | omega | simp_all)) (kf := fun z17 => ?_)
      refine r_aload_n dX8_collect_20 rfl ?_
      refine r_getR qX8_10 dX8_collect_21 (hX.x 0 8 0) (hX.f 0 512 1) (kk := ?_)
      refine r_iload_n dX8_collect_24 rfl ?_
      refine r_callV (mi := iX8_collect) vX8_153 dX8_collect_25 (hX.x 1 10 0) (c_get (hX.l 1) (hi3) (hX.q 1 _ (hi3))) (hm := by first | exact ⟨Nat.le_of_ble_eq_true rfl, Nat.le_of_ble_eq_true rfl⟩ | (constructor <;> simp only [rmd] <;> omega)) (k := kPA ?_) (kx := r_nox)
      refine r_cast nX8_83.1 dX8_collect_28 (hX.k5 _ (hi3)) (k := ?_)
      refine r_astore_n dX8_collect_31 (k := ?_)
      refine r_aload_n dX8_collect_32 rfl ?_
      refine r_iload_n dX8_collect_33 rfl ?_
      refine r_callS (mi := iX8_collect) vX8_353 dX8_collect_34 (x_isIn hX hO i g hi3 hg) (hm := ⟨by show 2 * i + 0 ≤ 32; omega, by show ksN i + 0 ≤ 1072; omega⟩) (k := kP ?_) (kx := r_nox)
      refine r_bif_eq (tgt := 53) dX8_collect_37 (by decide) (kt := fun z37 => ?_) (kf := fun z37 => ?_)
      · refine r_iinc dX8_collect_53 rfl (k := ?_)
        refine r_goto (tgt := 9) dX8_collect_56 (by decide) ?_
        first
         | (have e : uns σ g (i + 1) = uns σ g i ++ ub σ i := congrArg (uns σ g i ++ ·) (ua_T z37)
            rw [← e] at hW2
            exact r_loc' (ih (i + 1) M2 (by omega) (k1.tr k2) hW2) ⟨rfl, rfl, rfl, trivial⟩)
         | (have e : uns σ g (i + 1) = uns σ g i := (congrArg (uns σ g i ++ ·) (ua_F z37)).trans (List.append_nil _)
            rw [← e] at hW
            exact r_wid (kc' := 2 * (i + 1)) (ks' := ksN (i + 1)) (by omega) (by show ksN i + 0 ≤ ksN i + (6 * i + 22); omega) (r_loc' (ih (i + 1) M1 (by omega) k1 hW) ⟨rfl, rfl, rfl, trivial⟩))
      · refine r_aload_n dX8_collect_40 rfl ?_
        refine r_getR qX8_37 dX8_collect_41 (hX.x 0 8 0) (hX.f 0 517 6) (kk := ?_)
        refine r_aload_n dX8_collect_44 rfl ?_
        refine r_aload_n dX8_collect_45 rfl ?_
        refine r_aload_n dX8_collect_46 rfl ?_
        refine r_callV (mi := iX8_collect) vX8_361 dX8_collect_47 (hX.x 0 8 0) (x_dueSides hX hO i hi3) (hm := ⟨by show 2 * i + 0 + 0 ≤ 32; omega, by show ksN i + 0 + 0 ≤ 1072; omega⟩) (k := kP ?_) (kx := r_nox)
        refine r_callV (mi := iX8_collect) vX8_365 dX8_collect_50 (hX.x 6 6 0) (x_addNeeds hX hO hW hi3 hul c1 c2) (hm := ⟨by show 2 * i + 0 + 0 + 2 ≤ 32; omega, by show ksN i + 0 + 0 + (6 * i + 22) ≤ 1072; omega⟩) (k := kV (fun M2 h2 => ?_)) (kx := r_nox)
        obtain ⟨k2, hW2⟩ := h2
        have hX := hX.ky hO k2
        refine r_iinc dX8_collect_53 rfl (k := ?_)
        refine r_goto (tgt := 9) dX8_collect_56 (by decide) ?_
        first
         | (have e : uns σ g (i + 1) = uns σ g i ++ ub σ i := congrArg (uns σ g i ++ ·) (ua_T z37)
            rw [← e] at hW2
            exact r_loc' (ih (i + 1) M2 (by omega) (k1.tr k2) hW2) ⟨rfl, rfl, rfl, trivial⟩)
         | (have e : uns σ g (i + 1) = uns σ g i := (congrArg (uns σ g i ++ ·) (ua_F z37)).trans (List.append_nil _)
            rw [← e] at hW
            exact r_wid (kc' := 2 * (i + 1)) (ks' := ksN (i + 1)) (by omega) (by show ksN i + 0 ≤ ksN i + (6 * i + 22); omega) (r_loc' (ih (i + 1) M1 (by omega) k1 hW) ⟨rfl, rfl, rfl, trivial⟩))
  refine r_aload_n dX8_collect_0 rfl ?_
  refine r_getR qX8_37 dX8_collect_1 (hX.x 0 8 0) (hX.f 0 517 6) (kk := ?_)
  refine r_callV (mi := iX8_collect) vX8_360 dX8_collect_4 (hX.x 6 6 0) (x_clear hX hO hS) (hm := by first | exact ⟨Nat.le_of_ble_eq_true rfl, Nat.le_of_ble_eq_true rfl⟩ | (constructor <;> simp only [rmd] <;> omega)) (k := kV (fun M1 h1 => ?_)) (kx := r_nox)
  refine r_iconst dX8_collect_7 ?_
  refine r_istore_n dX8_collect_8 (k := ?_)
  exact r_loc' (loop (σ.1 1) 0 M1 (by omega) h1.1 h1.2) ⟨rfl, rfl, rfl, trivial⟩
theorem x_isPossible (hX : XB G M C σ) (hO : Ok σ T) {u m : List Nat} (hW : CW G M C σ u m) (hu : u.length ≤ 40) : Ht G iX6_isPossible yX6_isPossible 8 [.ref (eX C 6)] M (rP (bz (psB σ u)) M) nX 0 0 := by
  have p2 := hO.1.2.1
  have p1 := hO.1.1
  have w6 := hX.gr 11 10 10
  obtain ⟨hS, h390, hN⟩ := hW
  obtain ⟨e1, c1, e2, c2, s1, s2, hne⟩ := hS
  have hlen : ((chz σ u).map Prod.fst).length = (chz σ u).length := List.length_map ..
  have hle := chz_len (σ := σ) u
  refine ht_intro (by decide +kernel) rfl rfl rfl (Nat.le_of_ble_eq_true rfl) ?_
  have loop : ∀ (k i : Nat), i + k = (chz σ u).length → (∀ j, j < i → ld σ 0 (fr σ ((chz σ u).getD j (0, 0)).1) < 1000000) → SWG G iX6_isPossible (rmd 8 0 0) (QF G (rP (bz (psB σ u)) M) nX 0 0) 2 [(1, .int (iz (i : Int))), (0, .ref (eX C 6))] [] M 0 0 := by
    intro k
    induction k with
    | zero =>
      intro i hi hj
      have hi2 : i = (chz σ u).length := by omega
      have hall : (chz σ u).all (fun c => decide (ld σ 0 (fr σ c.1) < 1000000)) = true := by
        rw [List.all_eq_true]
        intro c hc
        obtain ⟨j, j1, j2⟩ := mem_getD2 hc
        rw [decide_eq_true_eq, ← j2]
        exact hj j (by omega)
      have e0 : psB σ u = decide (u.length ≤ 8) := by unfold psB; rw [hall]; rfl
      rw [e0]
      refine r_iload_n dX6_isPossible_2 rfl ?_
      refine r_aload_n dX6_isPossible_3 rfl ?_
      refine r_getR qX6_18 dX6_isPossible_4 (hX.x 6 6 0) (hX.f 6 385 15) (kk := ?_)
      refine r_callV (mi := iX6_isPossible) vX6_71 dX6_isPossible_7 (hX.x 15 10 0) (c_size s1.1) (hm := by first | exact ⟨Nat.le_of_ble_eq_true rfl, Nat.le_of_ble_eq_true rfl⟩ | (constructor <;> simp only [rmd] <;> omega)) (k := kP ?_) (kx := r_nox)
      rw [hlen]
      refine r_icmp_ge (tgt := 51) dX6_isPossible_10 (by decide) (kt := fun z10 => ?_) (kf := fun z10 => (by exfalso; first | omega | simp_all))
      refine r_aload_n dX6_isPossible_51 rfl ?_
      refine r_getI qX6_41 dX6_isPossible_52 (hX.x 6 6 0) h390 (kk := ?_)
      refine r_bipush dX6_isPossible_55 (k := ?_)
      refine r_icmp_gt (tgt := 64) dX6_isPossible_57 (by decide) (kt := fun z57 => ?_) (kf := fun z57 => ?_)
      · refine r_iconst dX6_isPossible_64 ?_
        first
         | exact r_iret dX6_isPossible_65 (rP_of (bz_d (by omega)))
         | exact r_iret dX6_isPossible_65 (rP_of (bz_nd (by omega)))
      · refine r_iconst dX6_isPossible_60 ?_
        refine r_goto (tgt := 65) dX6_isPossible_61 (by decide) ?_
        first
         | exact r_iret dX6_isPossible_65 (rP_of (bz_d (by omega)))
         | exact r_iret dX6_isPossible_65 (rP_of (bz_nd (by omega)))
    | succ k ih =>
      intro i hi hj
      have hi3 : i < (chz σ u).length := by omega
      obtain ⟨q1, q2⟩ := s1.2.2.2 i (by rw [hlen]; exact hi3)
      rw [map_getD] at q1 q2
      obtain ⟨g1, g2, g3, g4⟩ := fr_lt hO.st q2
      have hl1 := ld_le (σ := σ) 0 (fr σ ((chz σ u).getD i (0, 0)).1)
      refine r_iload_n dX6_isPossible_2 rfl ?_
      refine r_aload_n dX6_isPossible_3 rfl ?_
      refine r_getR qX6_18 dX6_isPossible_4 (hX.x 6 6 0) (hX.f 6 385 15) (kk := ?_)
      refine r_callV (mi := iX6_isPossible) vX6_71 dX6_isPossible_7 (hX.x 15 10 0) (c_size s1.1) (hm := by first | exact ⟨Nat.le_of_ble_eq_true rfl, Nat.le_of_ble_eq_true rfl⟩ | (constructor <;> simp only [rmd] <;> omega)) (k := kP ?_) (kx := r_nox)
      rw [hlen]
      refine r_icmp_ge (tgt := 51) dX6_isPossible_10 (by decide) (kt := fun z10 => (by exfalso; first | omega | simp_all)) (kf := fun z10 => ?_)
      refine r_aload_n dX6_isPossible_13 rfl ?_
      refine r_getR qX6_9 dX6_isPossible_14 (hX.x 6 6 0) (hX.f 6 384 5) (kk := ?_)
      refine r_getR qX6_75 dX6_isPossible_17 (hX.x 5 7 0) (hX.f 5 449 11) (kk := ?_)
      refine r_iconst dX6_isPossible_20 ?_
      refine r_aload_n dX6_isPossible_21 rfl ?_
      refine r_getR qX6_18 dX6_isPossible_22 (hX.x 6 6 0) (hX.f 6 385 15) (kk := ?_)
      refine r_iload_n dX6_isPossible_25 rfl ?_
      refine r_callV (mi := iX6_isPossible) vX6_80 dX6_isPossible_26 (hX.x 15 10 0) (c_get s1.1 (show i < _ by rw [hlen]; exact hi3) q1) (hm := by first | exact ⟨Nat.le_of_ble_eq_true rfl, Nat.le_of_ble_eq_true rfl⟩ | (constructor <;> simp only [rmd] <;> omega)) (k := kPA ?_) (kx := r_nox)
      refine r_cast nX6_63.1 dX6_isPossible_29 (hX.k3 _ q2) (k := ?_)
      refine r_getI qX6_84 dX6_isPossible_32 (hX.k3 _ q2) (hX.g193 _ q2) (kk := ?_)
      refine r_callV (mi := iX6_isPossible) vX6_87 dX6_isPossible_35 w6.1 (x_at w6 (i := 0) (by decide) (show fr σ ((chz σ u).getD i (0, 0)).1 < 10 by omega) (hX.gl 0 _ (by omega) (by omega))) (hm := by first | exact ⟨Nat.le_of_ble_eq_true rfl, Nat.le_of_ble_eq_true rfl⟩ | (constructor <;> simp only [rmd] <;> omega)) (k := kP ?_) (kx := r_nox)
      refine r_ldc (n := 1000000) kX6_91 dX6_isPossible_38 (k := ?_)
      refine r_icmp_lt (tgt := 45) dX6_isPossible_40 (by decide) (kt := fun z40 => ?_) (kf := fun z40 => ?_)
      · refine r_iinc dX6_isPossible_45 rfl (k := ?_)
        refine r_goto (tgt := 2) dX6_isPossible_48 (by decide) ?_
        refine r_loc' (ih (i + 1) (by omega) (fun j hj2 => ?_)) ⟨rfl, rfl, trivial⟩
        by_cases e : j = i
        · rw [e]; omega
        · exact hj j (by omega)
      · refine r_iconst dX6_isPossible_43 ?_
        exact r_iret dX6_isPossible_44 (rP_of (bz_F (by
  unfold psB
  have : (chz σ u).all (fun c => decide (ld σ 0 (fr σ c.1) < 1000000)) = false := by
    rw [Bool.eq_false_iff]
    intro h
    rw [List.all_eq_true] at h
    have := h _ (getD_mem (d := (0, 0)) hi3)
    rw [decide_eq_true_eq] at this
    omega
  rw [this]; rfl)))
  refine r_iconst dX6_isPossible_0 ?_
  refine r_istore_n dX6_isPossible_1 (k := ?_)
  exact r_loc' (loop (chz σ u).length 0 (by omega) (fun j hj => absurd hj (Nat.not_lt_zero j))) ⟨rfl, rfl, trivial⟩
theorem sl_9 : ∀ n : Nat, n < 9 → iz 1 <<< (iz (n : Int) &&& 31) = iz ((2 ^ n : Nat) : Int) := by decide +kernel
theorem x_allNeeds (hX : XB G M C σ) {n : Nat} (hn : n ≤ 8) (h390 : mI M 390 (eX C 6) = iz (n : Int)) : Ht G iX6_allNeeds yX6_allNeeds 1 [.ref (eX C 6)] M (rP (iz ((2 ^ n - 1 : Nat) : Int)) M) nX 0 0 := by
  have h1 := all_256 hn
  refine ht_intro (by decide +kernel) rfl rfl rfl (Nat.le_of_ble_eq_true rfl) ?_
  refine r_aload_n dX6_allNeeds_0 rfl ?_
  refine r_getI qX6_41 dX6_allNeeds_1 (hX.x 6 6 0) h390 (kk := ?_)
  refine r_bipush dX6_allNeeds_4 (k := ?_)
  refine r_icmp_le (tgt := 13) dX6_allNeeds_6 (by decide) (kt := fun z6 => ?_) (kf := fun z6 => (by exfalso; first | omega | simp_all))
  refine r_iconst dX6_allNeeds_13 ?_
  refine r_aload_n dX6_allNeeds_14 rfl ?_
  refine r_getI qX6_41 dX6_allNeeds_15 (hX.x 6 6 0) h390 (kk := ?_)
  refine r_ishl dX6_allNeeds_18 (sl_9 n (by omega)) ?_
  refine r_iconst dX6_allNeeds_19 ?_
  refine r_isub dX6_allNeeds_20 ?_
  exact r_iret dX6_allNeeds_21 (rP_of (congrArg iz (by omega)))
/-- what is left without a need -/
def Ld (L u : Nat) : Nat := if L.testBit u = true then L - 2 ^ u else L
theorem and_not : ∀ u : Nat, u < 8 → ∀ L : Nat, L < 256 → iz (L : Int) &&& (iz ((2 ^ u : Nat) : Int) ^^^ iz (-1)) = iz (Ld L u : Int) := by decide +kernel
theorem and_bit : ∀ u : Nat, u < 8 → ∀ L : Nat, L < 256 → iz (L : Int) &&& iz ((2 ^ u : Nat) : Int) = iz ((if L.testBit u = true then 2 ^ u else 0 : Nat) : Int) := by decide +kernel
theorem Ld_lt {L u : Nat} (h : L < 256) : Ld L u < 256 := by
  have := Nat.sub_le L (2 ^ u)
  unfold Ld
  split
  · exact Nat.lt_of_le_of_lt this h
  · exact h
theorem x_restWith (hX : XB G M C σ) (hO : Ok σ T) {p u L w : Nat} (hp : p / 2 < σ.1 1) (hu : u < 8) (hL : L < 256) (hN : mI M 196 (eA C 5 p) = iz ((2 ^ u : Nat) : Int)) (hw : mA M (eX C 17) (10 * Ld L u + tt σ p) = iz (w : Int)) : Ht G iX6_restWith yX6_restWith 3 [.ref (eX C 6), .ref (eA C 5 p), .int (iz (L : Int))] M (rP (iz ((ln σ p + w : Nat) : Int)) M) nX 0 0 := by
  have p2 := hO.1.2.1
  have w16 := hX.gr 16 256 10
  obtain ⟨g1, g2, g3, g4⟩ := fr_lt hO.st hp
  refine ht_intro (by decide +kernel) rfl rfl rfl (Nat.le_of_ble_eq_true rfl) ?_
  refine r_aload_n dX6_restWith_0 rfl ?_
  refine r_getI qX6_107 dX6_restWith_1 (hX.k3 p hp) (hX.g195 p hp) (kk := ?_)
  refine r_aload_n dX6_restWith_4 rfl ?_
  refine r_getR qX6_27 dX6_restWith_5 (hX.x 6 6 0) (hX.f 6 386 16) (kk := ?_)
  refine r_iload_n dX6_restWith_8 rfl ?_
  refine r_aload_n dX6_restWith_9 rfl ?_
  refine r_getI qX6_62 dX6_restWith_10 (hX.k3 p hp) hN (kk := ?_)
  refine r_iconst dX6_restWith_13 ?_
  refine r_ixor dX6_restWith_14 (rfl) ?_
  refine r_iand dX6_restWith_15 (and_not u hu L hL) ?_
  refine r_aload_n dX6_restWith_16 rfl ?_
  refine r_getI qX6_110 dX6_restWith_17 (hX.k3 p hp) (hX.g194 p hp) (kk := ?_)
  refine r_callV (mi := iX6_restWith) vX6_87 dX6_restWith_20 w16.1 (x_at w16 (Ld_lt hL) (show tt σ p < 10 by omega) hw) (hm := by first | exact ⟨Nat.le_of_ble_eq_true rfl, Nat.le_of_ble_eq_true rfl⟩ | (constructor <;> simp only [rmd] <;> omega)) (k := kP ?_) (kx := r_nox)
  refine r_iadd dX6_restWith_23 ?_
  exact r_iret dX6_restWith_24 (rP_mk _ _)
/-- the collected choices of a group, for the rows below -/
theorem CW.list {g : Nat} {m : List Nat} (h : CW G M C σ (uns σ g (σ.1 1)) m) : ∃ e c, LL G M (eX C 15) e (cM σ g) c ∧ ∀ i, i < cM σ g → mQ M e i = some (eA C 5 (cC σ g i).1) ∧ mI M 196 (eA C 5 (cC σ g i).1) = iz ((2 ^ (cC σ g i).2 : Nat) : Int) := by
  obtain ⟨⟨e1, c1, e2, c2, s1, s2, hne⟩, h390, hN⟩ := h
  have hlen : ((chz σ (uns σ g (σ.1 1))).map Prod.fst).length = cM σ g := List.length_map ..
  have h1 := s1.1
  rw [hlen] at h1
  refine ⟨e1, c1, h1, fun i hi => ⟨?_, hN _ (cC_mem hi)⟩⟩
  have := (s1.2.2.2 i (by rw [hlen]; exact hi)).1
  rw [map_getD] at this
  exact this
/-- the class's table is filled -/
def RsT (σ : St) (g n : Nat) (K : Nat → Int32) : Prop := ∀ L, L < n → ∀ y, y < 10 → K (10 * L + y) = iz (rT0 σ g L y : Int)
theorem lea_in (hX : XB G M C σ) (hO : Ok σ T) {g L : Nat} {m : List Nat} (hW : CW G M C σ (uns σ g (σ.1 1)) m) (hn : uN σ g ≤ 8) (hL1 : 1 ≤ L) (hL : L ≤ 2 ^ uN σ g - 1) {Qf : List Frame → Array Value → State → State → Prop} (kk : ∀ K, RsT σ g (L + 1) K → SWG G iX6_leastLength (rmd 10 0 0) Qf 108 [(1, .int (iz (L : Int))), (0, .ref (eX C 6))] [] (sA M (eX C 17) K) 0 0) :
    ∀ (k i : Nat) (K : Nat → Int32), i + k = cM σ g → RsT σ g L K → (∀ y, y < 10 → K (10 * L + y) = iz (rw0 σ g L y i : Int)) → SWG G iX6_leastLength (rmd 10 0 0) Qf 45 [(2, .int (iz (i : Int))), (1, .int (iz (L : Int))), (0, .ref (eX C 6))] [] (sA M (eX C 17) K) 0 0 := by
  have p2 := hO.1.2.1
  have hX0 := hX
  have hal := all_256 hn
  obtain ⟨e, c, hLL, hq⟩ := hW.list
  have hcM : cM σ g ≤ 16 := by
    have := chl_len σ (uU σ g) (uN σ g)
    show (chl σ (uU σ g) (uN σ g)).length ≤ 16
    omega
  intro k
  induction k with
  | zero =>
    intro i K hi hR hK
    have hi2 : i = cM σ g := by omega
    subst hi2
    have hX := hX.kx hO (Kx.row (K := K) hX (Or.inr (Or.inr (Or.inl rfl))))
    refine r_iload_n dX6_leastLength_45 rfl ?_
    refine r_aload_n dX6_leastLength_46 rfl ?_
    refine r_getR qX6_18 dX6_leastLength_47 (hX.x 6 6 0) (hX.f 6 385 15) (kk := ?_)
    refine r_callV (mi := iX6_leastLength) vX6_71 dX6_leastLength_50 (hX.x 15 10 0) (c_size (show LL G (sA M (eX C 17) K) (eX C 15) e (cM σ g) c from hLL)) (hm := by first | exact ⟨Nat.le_of_ble_eq_true rfl, Nat.le_of_ble_eq_true rfl⟩ | (constructor <;> simp only [rmd] <;> omega)) (k := kP ?_) (kx := r_nox)
    refine r_icmp_ge (tgt := 108) dX6_leastLength_53 (by decide) (kt := fun z53 => ?_) (kf := fun z53 => (by exfalso; first | omega | simp_all))
    refine r_loc' (kk K (fun L2 h2 y hy => ?_)) ⟨rfl, rfl, trivial⟩
    by_cases e9 : L2 = L
    · subst e9
      rw [hK y hy, rw0_all hO hn hL1 hL hy]; rfl
    · exact hR L2 (by omega) y hy
  | succ k ih =>
    intro i K hi hR hK
    have hi3 : i < cM σ g := by omega
    have hX := hX.kx hO (Kx.row (K := K) hX (Or.inr (Or.inr (Or.inl rfl))))
    obtain ⟨q1, q2⟩ := hq i hi3
    obtain ⟨i1, i2, -⟩ := cC_in (σ := σ) (g := g) hi3
    obtain ⟨f1, f2, f3, f4⟩ := fr_lt hO.st i2
    have hL256 : L < 256 := by omega
    have w16 := hX.gr 16 256 10
    have w6 := hX.gr 11 10 10
    obtain ⟨lb1, lb2⟩ := lbit (uN σ g) (by omega) L (by omega) _ i1
    have hle := rT0_le (σ := σ) g (L - 2 ^ (cC σ g i).2) (tt σ (cC σ g i).1)
    have tp := Nat.two_pow_pos (cC σ g i).2
    have hti : (if L.testBit (cC σ g i).2 = true then 2 ^ (cC σ g i).2 else 0 : Nat) ≤ 256 := by
      split
      · next h => have := (lb2 h).1; omega
      · omega
    refine r_iload_n dX6_leastLength_45 rfl ?_
    refine r_aload_n dX6_leastLength_46 rfl ?_
    refine r_getR qX6_18 dX6_leastLength_47 (hX.x 6 6 0) (hX.f 6 385 15) (kk := ?_)
    refine r_callV (mi := iX6_leastLength) vX6_71 dX6_leastLength_50 (hX.x 15 10 0) (c_size (show LL G (sA M (eX C 17) K) (eX C 15) e (cM σ g) c from hLL)) (hm := by first | exact ⟨Nat.le_of_ble_eq_true rfl, Nat.le_of_ble_eq_true rfl⟩ | (constructor <;> simp only [rmd] <;> omega)) (k := kP ?_) (kx := r_nox)
    refine r_icmp_ge (tgt := 108) dX6_leastLength_53 (by decide) (kt := fun z53 => (by exfalso; first | omega | simp_all)) (kf := fun z53 => ?_)
    refine r_aload_n dX6_leastLength_56 rfl ?_
    refine r_getR qX6_18 dX6_leastLength_57 (hX.x 6 6 0) (hX.f 6 385 15) (kk := ?_)
    refine r_iload_n dX6_leastLength_60 rfl ?_
    refine r_callV (mi := iX6_leastLength) vX6_80 dX6_leastLength_61 (hX.x 15 10 0) (c_get (show LL G (sA M (eX C 17) K) (eX C 15) e (cM σ g) c from hLL) hi3 (show mQ (sA M (eX C 17) K) e i = some (eA C 5 (cC σ g i).1) from q1)) (hm := by first | exact ⟨Nat.le_of_ble_eq_true rfl, Nat.le_of_ble_eq_true rfl⟩ | (constructor <;> simp only [rmd] <;> omega)) (k := kPA ?_) (kx := r_nox)
    refine r_cast nX6_63.1 dX6_leastLength_64 (hX.k3 _ i2) (k := ?_)
    refine r_astore_n dX6_leastLength_67 (k := ?_)
    refine r_iload_n dX6_leastLength_68 rfl ?_
    refine r_aload_n dX6_leastLength_69 rfl ?_
    refine r_getI qX6_62 dX6_leastLength_70 (hX.k3 _ i2) (show mI (sA M (eX C 17) K) 196 (eA C 5 (cC σ g i).1) = iz ((2 ^ (cC σ g i).2 : Nat) : Int) from q2) (kk := ?_)
    refine r_iand dX6_leastLength_73 (and_bit _ (by omega) L hL256) ?_
    refine r_if_eq (tgt := 102) dX6_leastLength_74 (by decide) (kt := fun z74 => ?_) (kf := fun z74 => ?_)
    · refine r_iinc dX6_leastLength_102 rfl (k := ?_)
      refine r_goto (tgt := 45) dX6_leastLength_105 (by decide) ?_
      first
       | (refine r_loc' (ih (i + 1) K2 (by omega) (fun L2 h2 y hy => ?_) (fun y hy => ?_)) ⟨rfl, rfl, rfl, trivial⟩
          · rw [k2 _ (by omega), mA_sA]; exact hR L2 h2 y hy
          · rw [k1 y hy]
            refine congrArg (fun n : Nat => iz (n : Int)) ?_
            show _ = if L.testBit (cC σ g i).2 = true then _ else _
            rw [if_pos hb]; rfl)
       | (have hb : ¬ L.testBit (cC σ g i).2 = true := fun h => by rw [if_pos h] at z74; omega
          refine r_loc' (ih (i + 1) K (by omega) hR (fun y hy => ?_)) ⟨rfl, rfl, rfl, trivial⟩
          rw [hK y hy]
          refine congrArg (fun n : Nat => iz (n : Int)) ?_
          show _ = if L.testBit (cC σ g i).2 = true then _ else _
          rw [if_neg hb])
    · have hb : L.testBit (cC σ g i).2 = true := by
        cases h : L.testBit (cC σ g i).2 with
        | true => rfl
        | false => rw [h] at z74; exact absurd rfl z74
      obtain ⟨lb3, lb4⟩ := lb2 hb
      have eLd : Ld L (cC σ g i).2 = L - 2 ^ (cC σ g i).2 := if_pos hb
      refine r_aload_n dX6_leastLength_77 rfl ?_
      refine r_getR qX6_27 dX6_leastLength_78 (hX.x 6 6 0) (hX.f 6 386 16) (kk := ?_)
      refine r_iload_n dX6_leastLength_81 rfl ?_
      refine r_aload_n dX6_leastLength_82 rfl ?_
      refine r_aload_n dX6_leastLength_83 rfl ?_
      refine r_iload_n dX6_leastLength_84 rfl ?_
      refine r_callV (mi := iX6_leastLength) vX6_103 dX6_leastLength_85 (hX.x 6 6 0) (x_restWith hX hO (u := (cC σ g i).2) (L := L) (w := rT0 σ g (L - 2 ^ (cC σ g i).2) (tt σ (cC σ g i).1)) i2 (by omega) hL256 q2 (by rw [mA_sA, eLd]; exact hR _ (by omega) _ (by omega))) (hm := by first | exact ⟨Nat.le_of_ble_eq_true rfl, Nat.le_of_ble_eq_true rfl⟩ | (constructor <;> simp only [rmd] <;> omega)) (k := kP ?_) (kx := r_nox)
      refine r_aload_n dX6_leastLength_88 rfl ?_
      refine r_getR qX6_9 dX6_leastLength_89 (hX.x 6 6 0) (hX.f 6 384 5) (kk := ?_)
      refine r_getR qX6_75 dX6_leastLength_92 (hX.x 5 7 0) (hX.f 5 449 11) (kk := ?_)
      refine r_aload_n dX6_leastLength_95 rfl ?_
      refine r_getI qX6_84 dX6_leastLength_96 (hX.k3 _ i2) (hX.g193 _ i2) (kk := ?_)
      refine r_callV (mi := iX6_leastLength) vX6_96 dX6_leastLength_99 w16.1 (x_lowerRow (len := ln σ (cC σ g i).1 + rT0 σ g (L - 2 ^ (cC σ g i).2) (tt σ (cC σ g i).1)) (B := fun y => rw0 σ g L y i) (D := fun y => ld σ (fr σ (cC σ g i).1) y) w16 w6 (hX.ne (by decide)) hL256 (show fr σ (cC σ g i).1 < 10 by omega) (by omega) (fun y hy => ⟨(congrFun (mA_sA _ _ _) _).trans (hK y hy), rw0_le _ _ _ _⟩) (fun y hy => ⟨hX.gl _ y (by omega) hy, ld_le _ _⟩)) (hm := by first | exact ⟨Nat.le_of_ble_eq_true rfl, Nat.le_of_ble_eq_true rfl⟩ | (constructor <;> simp only [rmd] <;> omega)) (k := kV (fun M2 hM2 => ?_)) (kx := r_nox)
      obtain ⟨K2, rfl, k1, k2⟩ := hM2
      rw [sA_sA]
      refine r_iinc dX6_leastLength_102 rfl (k := ?_)
      refine r_goto (tgt := 45) dX6_leastLength_105 (by decide) ?_
      first
       | (refine r_loc' (ih (i + 1) K2 (by omega) (fun L2 h2 y hy => ?_) (fun y hy => ?_)) ⟨rfl, rfl, rfl, trivial⟩
          · rw [k2 _ (by omega), mA_sA]; exact hR L2 h2 y hy
          · rw [k1 y hy]
            refine congrArg (fun n : Nat => iz (n : Int)) ?_
            show _ = if L.testBit (cC σ g i).2 = true then _ else _
            rw [if_pos hb]; rfl)
       | (have hb : ¬ L.testBit (cC σ g i).2 = true := fun h => by rw [if_pos h] at z74; omega
          refine r_loc' (ih (i + 1) K (by omega) hR (fun y hy => ?_)) ⟨rfl, rfl, rfl, trivial⟩
          rw [hK y hy]
          refine congrArg (fun n : Nat => iz (n : Int)) ?_
          show _ = if L.testBit (cC σ g i).2 = true then _ else _
          rw [if_neg hb])
theorem x_leastLength (hX : XB G M C σ) (hO : Ok σ T) {g : Nat} {m : List Nat} (hV : CW G M C σ (uns σ g (σ.1 1)) m) (hW1 : hW σ g = true) : Ht G iX6_leastLength yX6_leastLength 10 [.ref (eX C 6)] M (rI fun r M' => r = iz (wL σ g : Int) ∧ ∃ K, M' = sA M (eX C 17) K ∧ RsT σ g (2 ^ uN σ g) K) nX 0 0 := by
  have hX0 := hX
  obtain ⟨hn, hfin⟩ := hW_iff.mp hW1
  have hal := all_256 hn
  have h390 := hV.2.1
  rw [uns_l] at h390
  have w16 := hX.gr 16 256 10
  have w6 := hX.gr 11 10 10
  refine ht_intro (by decide +kernel) rfl rfl rfl (Nat.le_of_ble_eq_true rfl) ?_
  have loop : ∀ (k i : Nat) (K : Nat → Int32), i + k = 2 ^ uN σ g → 1 ≤ i → RsT σ g i K → SWG G iX6_leastLength (rmd 10 0 0) (QF G (rI fun r M' => r = iz (wL σ g : Int) ∧ ∃ K, M' = sA M (eX C 17) K ∧ RsT σ g (2 ^ uN σ g) K) nX 0 0) 27 [(1, .int (iz (i : Int))), (0, .ref (eX C 6))] [] (sA M (eX C 17) K) 0 0 := by
    intro k
    induction k with
    | zero =>
      intro i K hi h1 hR
      have hi2 : i = 2 ^ uN σ g := by omega
      have hX := hX0.kx hO (Kx.row (K := K) hX0 (Or.inr (Or.inr (Or.inl rfl))))
      have w16 := hX.gr 16 256 10
      have e0 : rT0 σ g (2 ^ uN σ g - 1) 0 = wL σ g := by
        unfold rT0
        rw [Nat.sub_self]
        exact cp_of hfin
      refine r_iload_n dX6_leastLength_27 rfl ?_
      refine r_aload_n dX6_leastLength_28 rfl ?_
      refine r_callV (mi := iX6_leastLength) vX6_100 dX6_leastLength_29 (hX.x 6 6 0) (x_allNeeds hX hn (show mI (sA M (eX C 17) K) 390 (eX C 6) = iz (uN σ g : Int) from h390)) (hm := by first | exact ⟨Nat.le_of_ble_eq_true rfl, Nat.le_of_ble_eq_true rfl⟩ | (constructor <;> simp only [rmd] <;> omega)) (k := kP ?_) (kx := r_nox)
      refine r_icmp_gt (tgt := 114) dX6_leastLength_32 (by decide) (kt := fun z32 => ?_) (kf := fun z32 => (by exfalso; first | omega | simp_all))
      refine r_aload_n dX6_leastLength_114 rfl ?_
      refine r_getR qX6_27 dX6_leastLength_115 (hX.x 6 6 0) (hX.f 6 386 16) (kk := ?_)
      refine r_aload_n dX6_leastLength_118 rfl ?_
      refine r_callV (mi := iX6_leastLength) vX6_100 dX6_leastLength_119 (hX.x 6 6 0) (x_allNeeds hX hn (show mI (sA M (eX C 17) K) 390 (eX C 6) = iz (uN σ g : Int) from h390)) (hm := by first | exact ⟨Nat.le_of_ble_eq_true rfl, Nat.le_of_ble_eq_true rfl⟩ | (constructor <;> simp only [rmd] <;> omega)) (k := kP ?_) (kx := r_nox)
      refine r_iconst dX6_leastLength_122 ?_
      refine r_callV (mi := iX6_leastLength) vX6_87 dX6_leastLength_123 w16.1 (x_at w16 (i := 2 ^ uN σ g - 1) (j := 0) (by omega) (by decide) ((congrFun (mA_sA _ _ _) _).trans (hR (2 ^ uN σ g - 1) (by omega) 0 (by decide)))) (hm := by first | exact ⟨Nat.le_of_ble_eq_true rfl, Nat.le_of_ble_eq_true rfl⟩ | (constructor <;> simp only [rmd] <;> omega)) (k := kP ?_) (kx := r_nox)
      exact r_iret dX6_leastLength_126 (⟨_, rfl, by rw [e0], K, rfl, by rw [← hi2]; exact hR⟩)
    | succ k ih =>
      intro i K hi h1 hR
      have hX := hX0.kx hO (Kx.row (K := K) hX0 (Or.inr (Or.inr (Or.inl rfl))))
      have w16 := hX.gr 16 256 10
      refine r_iload_n dX6_leastLength_27 rfl ?_
      refine r_aload_n dX6_leastLength_28 rfl ?_
      refine r_callV (mi := iX6_leastLength) vX6_100 dX6_leastLength_29 (hX.x 6 6 0) (x_allNeeds hX hn (show mI (sA M (eX C 17) K) 390 (eX C 6) = iz (uN σ g : Int) from h390)) (hm := by first | exact ⟨Nat.le_of_ble_eq_true rfl, Nat.le_of_ble_eq_true rfl⟩ | (constructor <;> simp only [rmd] <;> omega)) (k := kP ?_) (kx := r_nox)
      refine r_icmp_gt (tgt := 114) dX6_leastLength_32 (by decide) (kt := fun z32 => (by exfalso; first | omega | simp_all)) (kf := fun z32 => ?_)
      refine r_aload_n dX6_leastLength_35 rfl ?_
      refine r_getR qX6_27 dX6_leastLength_36 (hX.x 6 6 0) (hX.f 6 386 16) (kk := ?_)
      refine r_iload_n dX6_leastLength_39 rfl ?_
      refine r_callV (mi := iX6_leastLength) vX6_92 dX6_leastLength_40 w16.1 (x_clearRow w16 (show i < 256 by omega)) (hm := by first | exact ⟨Nat.le_of_ble_eq_true rfl, Nat.le_of_ble_eq_true rfl⟩ | (constructor <;> simp only [rmd] <;> omega)) (k := kV (fun M2 hM2 => ?_)) (kx := r_nox)
      obtain ⟨K2, rfl, k1, k2⟩ := hM2
      rw [sA_sA]
      refine r_iconst dX6_leastLength_43 ?_
      refine r_istore_n dX6_leastLength_44 (k := ?_)
      refine r_loc' (lea_in hX0 hO hV hn h1 (by omega) (fun K3 hR3 => ?_) (cM σ g) 0 K2 (by omega) (fun L2 h2 y hy => ?_) (fun y hy => k1 y hy)) ⟨rfl, rfl, rfl, trivial⟩
      · refine r_iinc dX6_leastLength_108 rfl (k := ?_)
        refine r_goto (tgt := 27) dX6_leastLength_111 (by decide) ?_
        exact r_loc' (ih (i + 1) K3 (by omega) (by omega) hR3) ⟨rfl, rfl, trivial⟩
      · rw [k2 _ (by omega), mA_sA]; exact hR L2 h2 y hy
  refine r_aload_n dX6_leastLength_0 rfl ?_
  refine r_getR qX6_27 dX6_leastLength_1 (hX.x 6 6 0) (hX.f 6 386 16) (kk := ?_)
  refine r_iconst dX6_leastLength_4 ?_
  refine r_callV (mi := iX6_leastLength) vX6_92 dX6_leastLength_5 w16.1 (x_clearRow w16 (show 0 < 256 by decide)) (hm := by first | exact ⟨Nat.le_of_ble_eq_true rfl, Nat.le_of_ble_eq_true rfl⟩ | (constructor <;> simp only [rmd] <;> omega)) (k := kV (fun M1 hM1 => ?_)) (kx := r_nox)
  obtain ⟨K1, rfl, k1, -⟩ := hM1
  have hX := hX0.kx hO (Kx.row (K := K1) hX0 (Or.inr (Or.inr (Or.inl rfl))))
  have w16 := hX.gr 16 256 10
  have w6 := hX.gr 11 10 10
  refine r_aload_n dX6_leastLength_8 rfl ?_
  refine r_getR qX6_27 dX6_leastLength_9 (hX.x 6 6 0) (hX.f 6 386 16) (kk := ?_)
  refine r_iconst dX6_leastLength_12 ?_
  refine r_iconst dX6_leastLength_13 ?_
  refine r_aload_n dX6_leastLength_14 rfl ?_
  refine r_getR qX6_9 dX6_leastLength_15 (hX.x 6 6 0) (hX.f 6 384 5) (kk := ?_)
  refine r_getR qX6_75 dX6_leastLength_18 (hX.x 5 7 0) (hX.f 5 449 11) (kk := ?_)
  refine r_iconst dX6_leastLength_21 ?_
  refine r_callV (mi := iX6_leastLength) vX6_96 dX6_leastLength_22 w16.1 (x_lowerRow (i := 0) (r := 0) (len := 0) (B := fun _ => 1000000) (D := fun y => ld σ 0 y) w16 w6 (hX.ne (by decide)) (by decide) (by decide) (by decide) (fun y hy => ⟨(congrFun (mA_sA _ _ _) _).trans (k1 y hy), by decide⟩) (fun y hy => ⟨hX.gl 0 y (by decide) hy, ld_le _ _⟩)) (hm := by first | exact ⟨Nat.le_of_ble_eq_true rfl, Nat.le_of_ble_eq_true rfl⟩ | (constructor <;> simp only [rmd] <;> omega)) (k := kV (fun M2 hM2 => ?_)) (kx := r_nox)
  obtain ⟨K2, rfl, k3, -⟩ := hM2
  rw [sA_sA]
  refine r_iconst dX6_leastLength_25 ?_
  refine r_istore_n dX6_leastLength_26 (k := ?_)
  refine r_loc' (loop (2 ^ uN σ g - 1) 1 K2 (by omega) (by decide) (fun L hL y hy => ?_)) ⟨rfl, rfl, trivial⟩
  have e : L = 0 := by omega
  subst e
  rw [k3 y hy, rT0_0]
  have := ld_le (σ := σ) 0 y
  refine congrArg (fun n : Nat => iz (n : Int)) ?_
  show min 1000000 (0 + ld σ 0 y) = ld σ 0 y
  omega
end LEA
