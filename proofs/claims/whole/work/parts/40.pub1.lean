/-! The class: plain calls. -/
section PB0
variable {G : GC} {M : Mem} {C : CE} {σ σ' : St} {T : Nat}
theorem stS_at (σ : St) (j v : Nat) : (stS σ j v).1 j = v := up_s _ _ _
theorem XM.sj (h : XM G M C σ) (j f v : Nat) (hj : (j = 5 ∧ f = 520) ∨ (j = 6 ∧ f = 521) ∨ (j = 8 ∧ f = 522) ∨ (j = 7 ∧ f = 523)) : XM G (sI M f (upd (mI M f) (eX C 0) (iz (v : Int)))) C (stS σ j v) := by
  have hX := h.1
  have n : ∀ i, i ≠ j → (stS σ j v).1 i = σ.1 i := fun i hi => up_n _ _ hi
  have s : (stS σ j v).1 j = v := up_s _ _ _
  refine h.obj (fun i h1 h2 => n i (by omega)) rfl (fun a b _ _ => congrFun (congrFun (dst_congr (σ := σ) (σ' := stS σ j v) (n 0 (by omega)) (n 1 (by omega)) (fun _ _ => rfl)) a) b) ?_
  rcases hj with ⟨rfl, rfl⟩ | ⟨rfl, rfl⟩ | ⟨rfl, rfl⟩ | ⟨rfl, rfl⟩ <;> refine ⟨?_, ?_, ?_, ?_, ?_, ?_⟩ <;> first
    | (rw [s]; exact sI_at _ _ _)
    | (rw [n _ (by decide)]; exact (sI_n (by decide)).trans hX.i519)
    | (rw [n _ (by decide)]; exact (sI_n (by decide)).trans hX.i520)
    | (rw [n _ (by decide)]; exact (sI_n (by decide)).trans hX.i521)
    | (rw [n _ (by decide)]; exact (sI_n (by decide)).trans hX.i522)
    | (rw [n _ (by decide)]; exact (sI_n (by decide)).trans hX.i523)
    | (rw [n _ (by decide)]; exact hX.j524)
theorem XM.s0 (h : XM G M C σ) (hO : Ok σ T) : XM G (sI M 519 (upd (mI M 519) (eX C 0) (iz ((σ.1 0 + 1 : Nat) : Int)))) C (stS σ 0 (σ.1 0 + 1)) := by
  have hX := h.1
  have n : ∀ i, i ≠ 0 → (stS σ 0 (σ.1 0 + 1)).1 i = σ.1 i := fun i hi => up_n _ _ hi
  have s : (stS σ 0 (σ.1 0 + 1)).1 0 = σ.1 0 + 1 := stS_at σ 0 _
  have hS' : StOk (stS σ 0 (σ.1 0 + 1)) := fun q hq => by
    rw [n 1 (by omega)] at hq
    obtain ⟨a1, a2, a3, a4, a5⟩ := hO.st q hq
    rw [s]
    exact ⟨Nat.lt_succ_of_lt a1, Nat.lt_succ_of_lt a2, a3, a4, a5⟩
  refine h.obj (fun i h1 h2 => n i (by omega)) rfl (fun a b _ _ => dst_places hO.st hS' (n 1 (by omega)) (fun _ _ => rfl) a b) ⟨?_, ?_, ?_, ?_, ?_, ?_⟩
  · rw [s]; exact sI_at _ _ _
  · rw [n _ (by decide)]; exact (sI_n (by decide)).trans hX.i520
  · rw [n _ (by decide)]; exact (sI_n (by decide)).trans hX.i521
  · rw [n _ (by decide)]; exact (sI_n (by decide)).trans hX.i522
  · rw [n _ (by decide)]; exact (sI_n (by decide)).trans hX.i523
  · rw [n _ (by decide)]; exact hX.j524
theorem XM.s9 (h : XM G M C σ) (v : Nat) : XM G (sJ M 524 (va_up (mJ M 524) (eX C 0) (lN v))) C (stS σ 9 v) := by
  obtain ⟨hX, l, m, hs, hl, hm⟩ := h
  have hb0 := hX.x 0 8 0
  have n : ∀ i, i ≠ 9 → (stS σ 9 v).1 i = σ.1 i := fun i hi => up_n _ _ hi
  have hM : ∀ b, b ≠ eX C 0 → Sm M (sJ M 524 (va_up (mJ M 524) (eX C 0) (lN v))) b := fun b hb => Sm.Ju hb
  refine ⟨hX.core hb0 (Or.inl rfl) hM rfl (fun _ => rfl) (fun j h1 h2 => n j (by omega)) (fun _ _ => rfl) (fun a b _ _ => congrFun (congrFun (dst_congr (σ := σ) (σ' := stS σ 9 v) (n 0 (by omega)) (n 1 (by omega)) (fun _ _ => rfl)) a) b) ⟨?_, ?_, ?_, ?_, ?_, ?_⟩ (fun s hs => ⟨hX.g320 s hs, hX.g321 s hs, hX.g322 s hs, hX.g323 s hs, hX.g324 s hs, hX.g325 s hs, hX.g326 s hs⟩) (fun i hi => ⟨hX.g64 i hi, hX.g65 i hi, hX.g66 i hi, hX.g67 i hi, hX.g68 i hi⟩) (fun q hq => ⟨hX.g128 q hq, hX.g129 q hq, hX.g130 q hq, hX.g131 q hq⟩), l, m, hs.core hb0 (Or.inl rfl) hM (n 1 (by omega)), hl, hm⟩
  · rw [n _ (by decide)]; exact hX.i519
  · rw [n _ (by decide)]; exact hX.i520
  · rw [n _ (by decide)]; exact hX.i521
  · rw [n _ (by decide)]; exact hX.i522
  · rw [n _ (by decide)]; exact hX.i523
  · rw [show (stS σ 9 v).1 9 = v from stS_at σ 9 v, mJ_sJ, up_s]
theorem FX.j {f b0 t0 : Nat} {x : Int64} (hb0 : mC M b0 = some (t0, 0)) (ht : t0 < 9) : FX C M (sJ M f (va_up (mJ M f) b0 x)) :=
  ⟨Nat.le_refl _, fun b x hb hx _ => Sm.Ju (by
    obtain ⟨t, z⟩ := x
    exact ne_ty hb hb0 (by simp only at hx; omega))⟩
theorem XM.fx0 (h : XM G M C σ) (f : Nat) (x : Int32) : FX C M (sI M f (upd (mI M f) (eX C 0) x)) := FX.i (h.1.x 0 8 0) (by decide)
theorem XQ.of {M' : Mem} (h : FX C M M') (k : XM G M' C σ) : XQ G C M σ M' := ⟨h, C, rfl, k⟩
/-- a call that reads alone -/
abbrev CQ (G : GC) (C : CE) (M : Mem) (o : Rs) : Option Value → Mem → Prop := CR G C M o
theorem cr_rd {o : Rs} {z : Int} {r : Int32} (h : XM G M C σ) (ho : o = (σ, 0, z)) (hr : r = iz z) : CR G C M o (some (.int r)) M := cr_of ho hr (XQ.rf h)
theorem cx_rd {o : Rs} {z : Int} {c : Nat} {ex : List String} {E : String} {n : Nat} (h : XM G M C σ) (hO : Ok σ T) (hn : mN M ≤ n) (ho : o = (σ, c + 1, z)) (hE : ex[c]? = some E) : CX G C M o ex E (sN M n) := cx_of ho hE (XQ.n h hO hn)
end PB0
section PB1
variable {G : GC} {M : Mem} {C : CE} {σ : St} {T : Nat}
theorem y_addPlace (hM : XM G M C σ) (hO : Ok σ T) : Ht G iX8_addPlace yX8_addPlace 12 [.ref (eX C 0)] M (CR G C M (opAddPlace σ)) (CX G C M (opAddPlace σ) [ISE]) 1 6 := by
  have hX := hM.1
  have p2 := hO.1.2.1
  refine ht_intro (by decide +kernel) rfl rfl rfl (Nat.le_of_ble_eq_true rfl) ?_
  refine r_aload_n dX8_addPlace_0 rfl ?_
  refine r_getI qX8_50 dX8_addPlace_1 (hX.x 0 8 0) hX.i519 (kk := ?_)
  refine r_bipush dX8_addPlace_4 (k := ?_)
  refine r_icmp_lt (tgt := 19) dX8_addPlace_6 (by decide) (kt := fun z6 => ?_) (kf := fun z6 => ?_)
  · refine r_aload_n dX8_addPlace_19 rfl ?_
    refine r_dup dX8_addPlace_20 (k := ?_)
    refine r_getI qX8_50 dX8_addPlace_21 (hX.x 0 8 0) hX.i519 (kk := ?_)
    refine r_iconst dX8_addPlace_24 ?_
    refine r_iadd dX8_addPlace_25 ?_
    refine r_putI qX8_50 dX8_addPlace_26 (hX.x 0 8 0) (kk := ?_)
    refine gm (P := fun M' => XM G M' C (stS σ 0 (σ.1 0 + 1)) ∧ FX C M M') ⟨hM.s0 hO, hM.fx0 _ _⟩ (fun M1 hM1 => ?_)
    have hX := hM1.1.1
    refine r_aload_n dX8_addPlace_29 rfl ?_
    refine r_getI qX8_50 dX8_addPlace_30 (x := iz ((σ.1 0 + 1 : Nat) : Int)) (hX.x 0 8 0) (hX.i519.trans (by rw [stS_at σ 0 (σ.1 0 + 1)])) (kk := ?_)
    refine r_iconst dX8_addPlace_33 ?_
    refine r_isub dX8_addPlace_34 ?_
    exact r_iret dX8_addPlace_35 (cr_of (if_neg (by omega)) (congrArg iz (by omega)) (XQ.of hM1.2 hM1.1))
  · exact r_throwX (mi := iX8_addPlace) xw_57 hX.gD (text := "no more places") (is := 59) (by decide +kernel) dX8_addPlace_9 dX8_addPlace_12 dX8_addPlace_13 dX8_addPlace_15 dX8_addPlace_18 (hm := by exact ⟨Nat.le_of_ble_eq_true rfl, Nat.le_of_ble_eq_true rfl⟩) (hm2 := by exact ⟨Nat.le_of_ble_eq_true rfl, Nat.le_of_ble_eq_true rfl⟩) (hx := fun n hn => cx_rd (c := 0) hM hO hn (if_pos (by omega)) rfl)
theorem y_setBag (hM : XM G M C σ) (hO : Ok σ T) (w : Int) (ha : inR w) : Ht G iX8_setBag yX8_setBag 12 [.ref (eX C 0), .int (iz w)] M (CR G C M (opSetBag σ w)) (CX G C M (opSetBag σ w) [IAE]) 1 6 := by
  have hX := hM.1
  refine ht_intro (by decide +kernel) rfl rfl rfl (Nat.le_of_ble_eq_true rfl) ?_
  refine r_iconst dX8_setBag_0 ?_
  refine r_bipush dX8_setBag_1 (k := ?_)
  refine r_iload_n dX8_setBag_3 rfl ?_
  refine r_callS (mi := iX8_setBag) vX8_68 dX8_setBag_4 (x_isFrom 0 99 w (by omega) (by omega) ha) (hm := by exact ⟨Nat.le_of_ble_eq_true rfl, Nat.le_of_ble_eq_true rfl⟩) (k := kP ?_) (kx := r_nox)
  refine r_dif_ne (tgt := 20) dX8_setBag_7 (by decide) (kt := fun z7 => ?_) (kf := fun z7 => ?_)
  · obtain ⟨w, rfl⟩ := nat_of (a := w) (by omega)
    refine r_aload_n dX8_setBag_20 rfl ?_
    refine r_getI qX8_54 dX8_setBag_21 (hX.x 0 8 0) hX.i520 (kk := ?_)
    refine r_istore_n dX8_setBag_24 (k := ?_)
    refine r_aload_n dX8_setBag_25 rfl ?_
    refine r_iload_n dX8_setBag_26 rfl ?_
    refine r_putI qX8_54 dX8_setBag_27 (hX.x 0 8 0) (kk := ?_)
    refine r_iload_n dX8_setBag_30 rfl ?_
    exact r_iret dX8_setBag_31 (cr_of (if_neg (by omega)) rfl (XQ.of (hM.fx0 _ _) (hM.sj 5 520 w (Or.inl ⟨rfl, rfl⟩))))
  · exact r_throwX (mi := iX8_setBag) xw_72 hX.gD (text := "the weight is out of range") (is := 131) (by decide +kernel) dX8_setBag_10 dX8_setBag_13 dX8_setBag_14 dX8_setBag_16 dX8_setBag_19 (hm := by exact ⟨Nat.le_of_ble_eq_true rfl, Nat.le_of_ble_eq_true rfl⟩) (hm2 := by exact ⟨Nat.le_of_ble_eq_true rfl, Nat.le_of_ble_eq_true rfl⟩) (hx := fun n hn => cx_rd (c := 0) hM hO hn (if_pos (by omega)) rfl)
theorem y_letters (hM : XM G M C σ) (hO : Ok σ T) (h c : Int) (ha : inR h) (hb : inR c) : Ht G iX8_letters yX8_letters 12 [.ref (eX C 0), .int (iz h), .int (iz c)] M (CR G C M (opLetters σ h c)) (CX G C M (opLetters σ h c) [NSE, IAE, ISE]) 4 24 := by
  have hX := hM.1
  have p4 := hO.1.2.2.2.1
  refine ht_intro (by decide +kernel) rfl rfl rfl (Nat.le_of_ble_eq_true rfl) ?_
  refine r_aload_n dX8_letters_0 rfl ?_
  refine r_iload_n dX8_letters_1 rfl ?_
  refine r_callV (mi := iX8_letters) vX8_133 dX8_letters_2 (hX.x 0 8 0) (x_findHouse hX (by omega) h ha) (hm := by exact ⟨Nat.le_of_ble_eq_true rfl, Nat.le_of_ble_eq_true rfl⟩) (k := kT (fun hb1 => kPA ?_)) (kx := kxT (fun hb1 n hn => cx_rd (c := 0) hM hO hn (if_pos hb1) rfl))
  obtain ⟨h, rfl⟩ := nat_of (a := h) (by omega)
  rw [Int.toNat_natCast]
  have hh : h < σ.1 2 := by omega
  have h8 := (hO.2.2.1 h hh).2.2.2
  refine r_astore_n dX8_letters_5 (k := ?_)
  refine r_iconst dX8_letters_6 ?_
  refine r_bipush dX8_letters_7 (k := ?_)
  refine r_iload_n dX8_letters_9 rfl ?_
  refine r_callS (mi := iX8_letters) vX8_68 dX8_letters_10 (x_isFrom 1 20 c (by omega) (by omega) hb) (hm := by exact ⟨Nat.le_of_ble_eq_true rfl, Nat.le_of_ble_eq_true rfl⟩) (k := kP ?_) (kx := r_nox)
  refine r_dif_ne (tgt := 26) dX8_letters_13 (by decide) (kt := fun z13 => ?_) (kf := fun z13 => ?_)
  · refine r_aload_n dX8_letters_26 rfl ?_
    refine r_getI qX8_139 dX8_letters_27 (hX.k1 h hh) (hX.g68 h hh) (kk := ?_)
    refine r_iload_n dX8_letters_30 rfl ?_
    refine r_iadd dX8_letters_31 ?_
    refine r_bipush dX8_letters_32 (k := ?_)
    refine r_icmp_le (tgt := 47) dX8_letters_34 (by decide) (kt := fun z34 => ?_) (kf := fun z34 => ?_)
    · obtain ⟨c, rfl⟩ := nat_of (a := c) (by omega)
      refine r_aload_n dX8_letters_47 rfl ?_
      refine r_dup dX8_letters_48 (k := ?_)
      refine r_getI qX8_139 dX8_letters_49 (hX.k1 h hh) (hX.g68 h hh) (kk := ?_)
      refine r_iload_n dX8_letters_52 rfl ?_
      refine r_iadd dX8_letters_53 ?_
      refine r_putI qX8_139 dX8_letters_54 (hX.k1 h hh) (kk := ?_)
      refine r_aload_n dX8_letters_57 rfl ?_
      refine r_getI qX8_139 dX8_letters_58 (x := iz ((σ.2 8 h : Int) + (c : Int))) (hX.k1 h hh) (sI_at _ _ _) (kk := ?_)
      exact r_iret dX8_letters_61 (cr_of (by unfold opLetters; rw [Int.toNat_natCast, Int.toNat_natCast]; repeat (first | rw [if_pos (by omega)] | rw [if_neg (by omega)])) rfl (XQ.el hM (v := σ.2 8 h + c) (t0 := 1) (Or.inl ⟨rfl, rfl, rfl, rfl⟩) hh rfl))
    · exact r_throwX (mi := iX8_letters) xw_57 hX.gD (text := "too many letters for the house") (is := 142) (by decide +kernel) dX8_letters_37 dX8_letters_40 dX8_letters_41 dX8_letters_43 dX8_letters_46 (hm := by exact ⟨Nat.le_of_ble_eq_true rfl, Nat.le_of_ble_eq_true rfl⟩) (hm2 := by exact ⟨Nat.le_of_ble_eq_true rfl, Nat.le_of_ble_eq_true rfl⟩) (hx := fun n hn => cx_rd (c := 2) hM hO hn (by unfold opLetters; rw [Int.toNat_natCast]; repeat (first | rw [if_pos (by omega)] | rw [if_neg (by omega)])) rfl)
  · exact r_throwX (mi := iX8_letters) xw_72 hX.gD (text := "the number of letters is out of range") (is := 137) (by decide +kernel) dX8_letters_16 dX8_letters_19 dX8_letters_20 dX8_letters_22 dX8_letters_25 (hm := by exact ⟨Nat.le_of_ble_eq_true rfl, Nat.le_of_ble_eq_true rfl⟩) (hm2 := by exact ⟨Nat.le_of_ble_eq_true rfl, Nat.le_of_ble_eq_true rfl⟩) (hx := fun n hn => cx_rd (c := 1) hM hO hn (by unfold opLetters; repeat (first | rw [if_pos (by omega)] | rw [if_neg (by omega)])) rfl)
theorem y_places (hM : XM G M C σ) : Ht G iX8_places yX8_places 12 [.ref (eX C 0)] M (CR G C M (σ, 0, σ.1 0)) nX 0 0 := by
  have hX := hM.1
  refine ht_intro (by decide +kernel) rfl rfl rfl (Nat.le_of_ble_eq_true rfl) ?_
  refine r_aload_n dX8_places_0 rfl ?_
  refine r_getI qX8_50 dX8_places_1 (hX.x 0 8 0) hX.i519 (kk := ?_)
  exact r_iret dX8_places_4 (cr_rd hM rfl rfl)
theorem y_streets (hM : XM G M C σ) : Ht G iX8_streets yX8_streets 12 [.ref (eX C 0)] M (CR G C M (σ, 0, σ.1 1)) nX 0 0 := by
  have hX := hM.1
  refine ht_intro (by decide +kernel) rfl rfl rfl (Nat.le_of_ble_eq_true rfl) ?_
  refine r_aload_n dX8_streets_0 rfl ?_
  refine r_getR qX8_10 dX8_streets_1 (hX.x 0 8 0) (hX.f 0 512 1) (kk := ?_)
  refine r_callV (mi := iX8_streets) vX8_77 dX8_streets_4 (hX.x 1 10 0) (c_size (hX.l 1)) (hm := by exact ⟨Nat.le_of_ble_eq_true rfl, Nat.le_of_ble_eq_true rfl⟩) (k := kP ?_) (kx := r_nox)
  exact r_iret dX8_streets_7 (cr_rd hM rfl rfl)
theorem y_houses (hM : XM G M C σ) : Ht G iX8_houses yX8_houses 12 [.ref (eX C 0)] M (CR G C M (σ, 0, σ.1 2)) nX 0 0 := by
  have hX := hM.1
  refine ht_intro (by decide +kernel) rfl rfl rfl (Nat.le_of_ble_eq_true rfl) ?_
  refine r_aload_n dX8_houses_0 rfl ?_
  refine r_getR qX8_16 dX8_houses_1 (hX.x 0 8 0) (hX.f 0 513 2) (kk := ?_)
  refine r_callV (mi := iX8_houses) vX8_77 dX8_houses_4 (hX.x 2 10 0) (c_size (hX.l 2)) (hm := by exact ⟨Nat.le_of_ble_eq_true rfl, Nat.le_of_ble_eq_true rfl⟩) (k := kP ?_) (kx := r_nox)
  exact r_iret dX8_houses_7 (cr_rd hM rfl rfl)
theorem y_vanClock (hM : XM G M C σ) : Ht G iX8_vanClock yX8_vanClock 12 [.ref (eX C 0)] M (CR G C M (σ, 0, σ.1 6)) nX 0 0 := by
  have hX := hM.1
  refine ht_intro (by decide +kernel) rfl rfl rfl (Nat.le_of_ble_eq_true rfl) ?_
  refine r_aload_n dX8_vanClock_0 rfl ?_
  refine r_getI qX8_164 dX8_vanClock_1 (hX.x 0 8 0) hX.i521 (kk := ?_)
  exact r_iret dX8_vanClock_4 (cr_rd hM rfl rfl)
theorem y_late (hM : XM G M C σ) : Ht G iX8_late yX8_late 12 [.ref (eX C 0)] M (CR G C M (σ, 0, σ.1 7)) nX 0 0 := by
  have hX := hM.1
  refine ht_intro (by decide +kernel) rfl rfl rfl (Nat.le_of_ble_eq_true rfl) ?_
  refine r_aload_n dX8_late_0 rfl ?_
  refine r_getI qX8_323 dX8_late_1 (hX.x 0 8 0) hX.i523 (kk := ?_)
  exact r_iret dX8_late_4 (cr_rd hM rfl rfl)
theorem y_walked (hM : XM G M C σ) : Ht G iX8_walked yX8_walked 12 [.ref (eX C 0)] M (rJ fun r M' => r = lN (σ.1 9) ∧ XQ G C M σ M') nX 0 0 := by
  have hX := hM.1
  refine ht_intro (by decide +kernel) rfl rfl rfl (Nat.le_of_ble_eq_true rfl) ?_
  refine r_aload_n dX8_walked_0 rfl ?_
  refine r_getJ qX8_272 dX8_walked_1 (hX.x 0 8 0) hX.j524 (kk := ?_)
  exact r_lret dX8_walked_4 (⟨_, rfl, rfl, XQ.rf hM⟩)
theorem y_roundOf (hM : XM G M C σ) (hO : Ok σ T) (s : Int) (ha : inR s) : Ht G iX8_roundOf yX8_roundOf 12 [.ref (eX C 0), .int (iz s)] M (CR G C M (opRoundOf σ s)) (CX G C M (opRoundOf σ s) [NSE]) 1 6 := by
  have hX := hM.1
  have p3 := hO.1.2.2.1
  refine ht_intro (by decide +kernel) rfl rfl rfl (Nat.le_of_ble_eq_true rfl) ?_
  refine r_aload_n dX8_roundOf_0 rfl ?_
  refine r_iload_n dX8_roundOf_1 rfl ?_
  refine r_callV (mi := iX8_roundOf) vX8_99 dX8_roundOf_2 (hX.x 0 8 0) (x_findStreet hX (by omega) s ha) (hm := by exact ⟨Nat.le_of_ble_eq_true rfl, Nat.le_of_ble_eq_true rfl⟩) (k := kT (fun hb1 => kPA ?_)) (kx := kxT (fun hb1 n hn => cx_rd (c := 0) hM hO hn (if_neg hb1) rfl))
  refine r_getI qX8_128 dX8_roundOf_5 (hX.k5 s.toNat (by omega)) (hX.g326 s.toNat (by omega)) (kk := ?_)
  exact r_iret dX8_roundOf_8 (cr_rd hM (if_pos hb1) rfl)
theorem y_lettersOf (hM : XM G M C σ) (hO : Ok σ T) (s : Int) (ha : inR s) : Ht G iX8_lettersOf yX8_lettersOf 12 [.ref (eX C 0), .int (iz s)] M (CR G C M (opLettersOf σ s)) (CX G C M (opLettersOf σ s) [NSE]) 1 6 := by
  have hX := hM.1
  have p3 := hO.1.2.2.2.1
  refine ht_intro (by decide +kernel) rfl rfl rfl (Nat.le_of_ble_eq_true rfl) ?_
  refine r_aload_n dX8_lettersOf_0 rfl ?_
  refine r_iload_n dX8_lettersOf_1 rfl ?_
  refine r_callV (mi := iX8_lettersOf) vX8_133 dX8_lettersOf_2 (hX.x 0 8 0) (x_findHouse hX (by omega) s ha) (hm := by exact ⟨Nat.le_of_ble_eq_true rfl, Nat.le_of_ble_eq_true rfl⟩) (k := kT (fun hb1 => kPA ?_)) (kx := kxT (fun hb1 n hn => cx_rd (c := 0) hM hO hn (if_neg hb1) rfl))
  refine r_getI qX8_139 dX8_lettersOf_5 (hX.k1 s.toNat (by omega)) (hX.g68 s.toNat (by omega)) (kk := ?_)
  exact r_iret dX8_lettersOf_8 (cr_rd hM (if_pos hb1) rfl)
theorem y_isDue (hM : XM G M C σ) (hO : Ok σ T) (s : Int) (ha : inR s) : Ht G iX8_isDue yX8_isDue 12 [.ref (eX C 0), .int (iz s)] M (CR G C M (opIsDue σ s)) (CX G C M (opIsDue σ s) [NSE]) 1 6 := by
  have hX := hM.1
  have p3 := hO.1.2.2.2.1
  refine ht_intro (by decide +kernel) rfl rfl rfl (Nat.le_of_ble_eq_true rfl) ?_
  refine r_aload_n dX8_isDue_0 rfl ?_
  refine r_aload_n dX8_isDue_1 rfl ?_
  refine r_iload_n dX8_isDue_2 rfl ?_
  refine r_callV (mi := iX8_isDue) vX8_133 dX8_isDue_3 (hX.x 0 8 0) (x_findHouse hX (by omega) s ha) (hm := by exact ⟨Nat.le_of_ble_eq_true rfl, Nat.le_of_ble_eq_true rfl⟩) (k := kT (fun hb1 => kPA ?_)) (kx := kxT (fun hb1 n hn => cx_rd (c := 0) hM hO hn (if_neg hb1) rfl))
  refine r_callV (mi := iX8_isDue) vX8_157 dX8_isDue_6 (hX.x 0 8 0) (x_hasPost hX hO s.toNat (by omega)) (hm := by exact ⟨Nat.le_of_ble_eq_true rfl, Nat.le_of_ble_eq_true rfl⟩) (k := kP ?_) (kx := r_nox)
  exact r_zret dX8_isDue_9 (cr_rd hM (if_pos hb1) rfl)
theorem y_due (hM : XM G M C σ) (hO : Ok σ T) (r : Int) (ha : inR r) : Ht G iX8_due yX8_due 12 [.ref (eX C 0), .int (iz r)] M (CR G C M (opDue σ r)) (CX G C M (opDue σ r) [NSE]) 1 6 := by
  have hX := hM.1
  have p5 := hO.1.2.2.2.2.1
  refine ht_intro (by decide +kernel) rfl rfl rfl (Nat.le_of_ble_eq_true rfl) ?_
  refine r_aload_n dX8_due_0 rfl ?_
  refine r_iload_n dX8_due_1 rfl ?_
  refine r_callV (mi := iX8_due) vX8_124 dX8_due_2 (hX.x 0 8 0) (x_findRound hX (by omega) r ha) (hm := by exact ⟨Nat.le_of_ble_eq_true rfl, Nat.le_of_ble_eq_true rfl⟩) (k := kT (fun hb1 => kPA ?_)) (kx := kxT (fun hb1 n hn => cx_rd (c := 0) hM hO hn (if_neg hb1) rfl))
  refine r_pop dX8_due_5 (k := ?_)
  refine r_aload_n dX8_due_6 rfl ?_
  refine r_iload_n dX8_due_7 rfl ?_
  refine r_callS (mi := iX8_due) vX8_185 dX8_due_8 (x_groupOf r.toNat (z := r) (by omega) (by omega)) (hm := by exact ⟨Nat.le_of_ble_eq_true rfl, Nat.le_of_ble_eq_true rfl⟩) (k := kP ?_) (kx := r_nox)
  refine r_callV (mi := iX8_due) vX8_189 dX8_due_11 (hX.x 0 8 0) (x_dueHouses hX hO (2 ^ r.toNat) (two_lt (by omega))) (hm := by exact ⟨Nat.le_of_ble_eq_true rfl, Nat.le_of_ble_eq_true rfl⟩) (k := kP ?_) (kx := r_nox)
  exact r_iret dX8_due_14 (cr_rd hM (if_pos hb1) rfl)
theorem y_assign (hM : XM G M C σ) (hO : Ok σ T) (s r : Int) (ha : inR s) (hb : inR r) : Ht G iX8_assign yX8_assign 12 [.ref (eX C 0), .int (iz s), .int (iz r)] M (CR G C M (opAssign σ s r)) (CX G C M (opAssign σ s r) [NSE]) 4 24 := by
  have hX := hM.1
  have p3 := hO.1.2.2.1
  have p5 := hO.1.2.2.2.2.1
  refine ht_intro (by decide +kernel) rfl rfl rfl (Nat.le_of_ble_eq_true rfl) ?_
  refine r_aload_n dX8_assign_0 rfl ?_
  refine r_iload_n dX8_assign_1 rfl ?_
  refine r_callV (mi := iX8_assign) vX8_99 dX8_assign_2 (hX.x 0 8 0) (x_findStreet hX (by omega) s ha) (hm := by exact ⟨Nat.le_of_ble_eq_true rfl, Nat.le_of_ble_eq_true rfl⟩) (k := kT (fun hb1 => kPA ?_)) (kx := kxT (fun hb1 n hn => cx_rd (c := 0) hM hO hn (if_pos (Or.inl hb1)) rfl))
  refine r_astore_n dX8_assign_5 (k := ?_)
  refine r_aload_n dX8_assign_6 rfl ?_
  refine r_iload_n dX8_assign_7 rfl ?_
  refine r_callV (mi := iX8_assign) vX8_124 dX8_assign_8 (hX.x 0 8 0) (x_findRound hX (by omega) r hb) (hm := by exact ⟨Nat.le_of_ble_eq_true rfl, Nat.le_of_ble_eq_true rfl⟩) (k := kT (fun hb2 => kPA ?_)) (kx := kxT (fun hb2 n hn => cx_rd (c := 0) hM hO hn (if_pos (Or.inr hb2)) rfl))
  obtain ⟨s, rfl⟩ := nat_of (a := s) (by omega)
  obtain ⟨r, rfl⟩ := nat_of (a := r) (by omega)
  rw [Int.toNat_natCast, Int.toNat_natCast]
  have hs : s < σ.1 1 := by omega
  refine r_pop dX8_assign_11 (k := ?_)
  refine r_aload_n dX8_assign_12 rfl ?_
  refine r_getI qX8_128 dX8_assign_13 (hX.k5 s hs) (hX.g326 s hs) (kk := ?_)
  refine r_istore dX8_assign_16 (k := ?_)
  refine r_aload_n dX8_assign_18 rfl ?_
  refine r_iload_n dX8_assign_19 rfl ?_
  refine r_putI qX8_128 dX8_assign_20 (hX.k5 s hs) (kk := ?_)
  refine r_iload dX8_assign_23 rfl ?_
  exact r_iret dX8_assign_25 (cr_of (by unfold opAssign; rw [Int.toNat_natCast, Int.toNat_natCast]; repeat (first | rw [if_pos (by omega)] | rw [if_neg (by omega)])) rfl (XQ.el hM (v := r + 1) (t0 := 5) (Or.inr (Or.inl ⟨rfl, rfl, rfl, rfl⟩)) hs (congrArg iz (by omega))))
theorem y_parcelState (hM : XM G M C σ) (hO : Ok σ T) (p : Int) (ha : inR p) : Ht G iX8_parcelState yX8_parcelState 12 [.ref (eX C 0), .int (iz p)] M (CR G C M (opState σ p)) (CX G C M (opState σ p) [NSE]) 1 6 := by
  have hX := hM.1
  have p6 := hO.1.2.2.2.2.2.1
  refine ht_intro (by decide +kernel) rfl rfl rfl (Nat.le_of_ble_eq_true rfl) ?_
  refine r_aload_n dX8_parcelState_0 rfl ?_
  refine r_iload_n dX8_parcelState_1 rfl ?_
  refine r_callV (mi := iX8_parcelState) vX8_293 dX8_parcelState_2 (hX.x 0 8 0) (x_findParcel hX (by omega) p ha) (hm := by exact ⟨Nat.le_of_ble_eq_true rfl, Nat.le_of_ble_eq_true rfl⟩) (k := kT (fun hb1 => kPA ?_)) (kx := kxT (fun hb1 n hn => cx_rd (c := 0) hM hO hn (if_pos hb1) rfl))
  obtain ⟨p, rfl⟩ := nat_of (a := p) (by omega)
  rw [Int.toNat_natCast]
  have hp : p < σ.1 4 := by omega
  have h14 := (hO.2.2.2.2 p hp).2.2.2.2.2
  refine r_getI qX8_297 dX8_parcelState_5 (hX.k2 p hp) (hX.g131 p hp) (kk := ?_)
  refine r_if_eq (tgt := 16) dX8_parcelState_8 (by decide) (kt := fun z8 => ?_) (kf := fun z8 => ?_)
  · refine r_bipush dX8_parcelState_16 (k := ?_)
    first
     | exact r_iret dX8_parcelState_18 (cr_rd hM (by unfold opState; exact if_neg (by omega)) (by rw [Int.toNat_natCast, if_pos (by omega)])) rfl (by decide +kernel)
     | exact r_iret dX8_parcelState_18 (cr_rd hM (by unfold opState; exact if_neg (by omega)) (by rw [Int.toNat_natCast, if_neg (by omega)])) rfl (by decide +kernel)
  · refine r_bipush dX8_parcelState_11 (k := ?_)
    refine r_goto (tgt := 18) dX8_parcelState_13 (by decide) ?_
    first
     | exact r_iret dX8_parcelState_18 (cr_rd hM (by unfold opState; exact if_neg (by omega)) (by rw [Int.toNat_natCast, if_pos (by omega)])) rfl (by decide +kernel)
     | exact r_iret dX8_parcelState_18 (cr_rd hM (by unfold opState; exact if_neg (by omega)) (by rw [Int.toNat_natCast, if_neg (by omega)])) rfl (by decide +kernel)
theorem y_isHeavy (hM : XM G M C σ) (hO : Ok σ T) (p : Int) (ha : inR p) : Ht G iX8_isHeavy yX8_isHeavy 12 [.ref (eX C 0), .int (iz p)] M (CR G C M (opHeavy σ p)) (CX G C M (opHeavy σ p) [NSE]) 1 6 := by
  have hX := hM.1
  have p6 := hO.1.2.2.2.2.2.1
  have p7 := hO.1.2.2.2.2.2.2.1
  refine ht_intro (by decide +kernel) rfl rfl rfl (Nat.le_of_ble_eq_true rfl) ?_
  refine r_aload_n dX8_isHeavy_0 rfl ?_
  refine r_iload_n dX8_isHeavy_1 rfl ?_
  refine r_callV (mi := iX8_isHeavy) vX8_293 dX8_isHeavy_2 (hX.x 0 8 0) (x_findParcel hX (by omega) p ha) (hm := by exact ⟨Nat.le_of_ble_eq_true rfl, Nat.le_of_ble_eq_true rfl⟩) (k := kT (fun hb1 => kPA ?_)) (kx := kxT (fun hb1 n hn => cx_rd (c := 0) hM hO hn (if_neg hb1) rfl))
  obtain ⟨p, rfl⟩ := nat_of (a := p) (by omega)
  rw [Int.toNat_natCast]
  have hp : p < σ.1 4 := by omega
  have h11 := (hO.2.2.2.2 p hp).2.2.1
  refine r_getI qX8_301 dX8_isHeavy_5 (hX.k2 p hp) (hX.g129 p hp) (kk := ?_)
  refine r_aload_n dX8_isHeavy_8 rfl ?_
  refine r_getI qX8_54 dX8_isHeavy_9 (hX.x 0 8 0) hX.i520 (kk := ?_)
  refine r_icmp_le (tgt := 19) dX8_isHeavy_12 (by decide) (kt := fun z12 => ?_) (kf := fun z12 => ?_)
  · refine r_iconst dX8_isHeavy_19 ?_
    first
     | exact r_zret (x := true) dX8_isHeavy_20 (cr_rd hM (by unfold opHeavy; exact if_pos (by omega)) (by rw [Int.toNat_natCast, if_pos (by omega)]; rfl))
     | exact r_zret (x := false) dX8_isHeavy_20 (cr_rd hM (by unfold opHeavy; exact if_pos (by omega)) (by rw [Int.toNat_natCast, if_neg (by omega)]; rfl))
  · refine r_iconst dX8_isHeavy_15 ?_
    refine r_goto (tgt := 20) dX8_isHeavy_16 (by decide) ?_
    first
     | exact r_zret (x := true) dX8_isHeavy_20 (cr_rd hM (by unfold opHeavy; exact if_pos (by omega)) (by rw [Int.toNat_natCast, if_pos (by omega)]; rfl))
     | exact r_zret (x := false) dX8_isHeavy_20 (cr_rd hM (by unfold opHeavy; exact if_pos (by omega)) (by rw [Int.toNat_natCast, if_neg (by omega)]; rfl))
theorem y_lateShare (hM : XM G M C σ) (hO : Ok σ T) : Ht G iX8_lateShare yX8_lateShare 12 [.ref (eX C 0)] M (rF fun r M' => σ.1 8 ≠ 0 ∧ r = FP.fdiv (FP.i2f (iz (σ.1 7 : Int))) (FP.i2f (iz (σ.1 8 : Int))) ∧ XQ G C M σ M') (fun E M' => σ.1 8 = 0 ∧ E = ARE ∧ XQ G C M σ M') 1 6 := by
  have hX := hM.1
  have p9 := hO.1.2.2.2.2.2.2.2.2.1
  have p10 := hO.1.2.2.2.2.2.2.2.2.2.1
  have pT := hO.1.2.2.2.2.2.2.2.2.2.2.2.2.1
  refine ht_intro (by decide +kernel) rfl rfl rfl (Nat.le_of_ble_eq_true rfl) ?_
  refine r_aload_n dX8_lateShare_0 rfl ?_
  refine r_getI qX8_317 dX8_lateShare_1 (hX.x 0 8 0) hX.i522 (kk := ?_)
  refine r_if_ne (tgt := 18) dX8_lateShare_4 (by decide) (kt := fun z4 => ?_) (kf := fun z4 => ?_)
  · refine r_aload_n dX8_lateShare_18 rfl ?_
    refine r_getI qX8_323 dX8_lateShare_19 (hX.x 0 8 0) hX.i523 (kk := ?_)
    refine r_i2f dX8_lateShare_22 ?_
    refine r_aload_n dX8_lateShare_23 rfl ?_
    refine r_getI qX8_317 dX8_lateShare_24 (hX.x 0 8 0) hX.i522 (kk := ?_)
    refine r_i2f dX8_lateShare_27 ?_
    refine r_fdiv dX8_lateShare_28 (fdiv_ok (fin_i2f _ (by omega)).1 ((fin_i2f _ (by omega)).2 (by omega))) ?_
    exact r_fret dX8_lateShare_29 (⟨_, rfl, by omega, rfl, XQ.rf hM⟩)
  · exact r_throwXW (mi := iX8_lateShare) xw_326 hX.gD (text := "the van has delivered none") (is := 328) (by decide +kernel) dX8_lateShare_7 dX8_lateShare_10 dX8_lateShare_11 dX8_lateShare_14 dX8_lateShare_17 (hm := by exact ⟨Nat.le_of_ble_eq_true rfl, Nat.le_of_ble_eq_true rfl⟩) (hm2 := by exact ⟨Nat.le_of_ble_eq_true rfl, Nat.le_of_ble_eq_true rfl⟩) (hx := fun n hn => ⟨by omega, rfl, XQ.n hM hO hn⟩)
theorem no_post {h : Nat} (hp : post σ h = false) : σ.2 8 h = 0 := by
  unfold post at hp
  rw [Bool.or_eq_false_iff, decide_eq_false_iff_not] at hp
  omega
theorem y_meanLetters (hM : XM G M C σ) (hO : Ok σ T) : Ht G iX8_meanLetters yX8_meanLetters 12 [.ref (eX C 0)] M (rD fun r M' => cnt (post σ) (σ.1 2) ≠ 0 ∧ r = FP.ddiv (FP.i2d (iz (sumL σ (σ.1 2) : Int))) (FP.i2d (iz (cnt (post σ) (σ.1 2) : Int))) ∧ XQ G C M σ M') (fun E M' => cnt (post σ) (σ.1 2) = 0 ∧ E = ARE ∧ XQ G C M σ M') 1 6 := by
  have hX := hM.1
  have p4 := hO.1.2.2.2.1
  have hc := cnt_le (post σ) (σ.1 2)
  have hs := sumL_le hO (σ.1 2) (Nat.le_refl _)
  refine ht_intro (by decide +kernel) rfl rfl rfl (Nat.le_of_ble_eq_true rfl) ?_
  have loop : ∀ (k i : Nat), i + k = σ.1 2 → SWG G iX8_meanLetters (rmd 12 1 6) (QF G (rD fun r M' => cnt (post σ) (σ.1 2) ≠ 0 ∧ r = FP.ddiv (FP.i2d (iz (sumL σ (σ.1 2) : Int))) (FP.i2d (iz (cnt (post σ) (σ.1 2) : Int))) ∧ XQ G C M σ M') (fun E M' => cnt (post σ) (σ.1 2) = 0 ∧ E = ARE ∧ XQ G C M σ M') 1 6) 6 [(3, .int (iz (i : Int))), (2, .int (iz (cnt (post σ) i : Int))), (1, .int (iz (sumL σ i : Int))), (0, .ref (eX C 0))] [] M 0 0 := by
    intro k
    induction k with
    | zero =>
      intro i hi
      have hi2 : i = σ.1 2 := by omega
      subst hi2
      refine r_iload_n dX8_meanLetters_6 rfl ?_
      refine r_aload_n dX8_meanLetters_7 rfl ?_
      refine r_getR qX8_16 dX8_meanLetters_8 (hX.x 0 8 0) (hX.f 0 513 2) (kk := ?_)
      refine r_callV (mi := iX8_meanLetters) vX8_77 dX8_meanLetters_11 (hX.x 2 10 0) (c_size (hX.l 2)) (hm := by exact ⟨Nat.le_of_ble_eq_true rfl, Nat.le_of_ble_eq_true rfl⟩) (k := kP ?_) (kx := r_nox)
      refine r_icmp_ge (tgt := 56) dX8_meanLetters_14 (by decide) (kt := fun z14 => ?_) (kf := fun z14 => (by exfalso; first | omega | simp_all))
      refine r_iload_n dX8_meanLetters_56 rfl ?_
      refine r_if_ne (tgt := 71) dX8_meanLetters_57 (by decide) (kt := fun z57 => ?_) (kf := fun z57 => ?_)
      · refine r_iload_n dX8_meanLetters_71 rfl ?_
        refine r_i2d dX8_meanLetters_72 ?_
        refine r_iload_n dX8_meanLetters_73 rfl ?_
        refine r_i2d dX8_meanLetters_74 ?_
        refine r_ddiv dX8_meanLetters_75 (ddiv_ok (fin_i2d _ (by omega)) (fin_i2d2 _ (by omega) (by omega))) ?_
        exact r_dret dX8_meanLetters_76 (⟨_, rfl, by omega, rfl, XQ.rf hM⟩)
      · exact r_throwXW (mi := iX8_meanLetters) xw_326 hX.gD (text := "no house is due") (is := 331) (by decide +kernel) dX8_meanLetters_60 dX8_meanLetters_63 dX8_meanLetters_64 dX8_meanLetters_67 dX8_meanLetters_70 (hm := by exact ⟨Nat.le_of_ble_eq_true rfl, Nat.le_of_ble_eq_true rfl⟩) (hm2 := by exact ⟨Nat.le_of_ble_eq_true rfl, Nat.le_of_ble_eq_true rfl⟩) (hx := fun n hn => ⟨by omega, rfl, XQ.n hM hO hn⟩)
    | succ k ih =>
      intro i hi
      have hi3 : i < σ.1 2 := by omega
      refine r_iload_n dX8_meanLetters_6 rfl ?_
      refine r_aload_n dX8_meanLetters_7 rfl ?_
      refine r_getR qX8_16 dX8_meanLetters_8 (hX.x 0 8 0) (hX.f 0 513 2) (kk := ?_)
      refine r_callV (mi := iX8_meanLetters) vX8_77 dX8_meanLetters_11 (hX.x 2 10 0) (c_size (hX.l 2)) (hm := by exact ⟨Nat.le_of_ble_eq_true rfl, Nat.le_of_ble_eq_true rfl⟩) (k := kP ?_) (kx := r_nox)
      refine r_icmp_ge (tgt := 56) dX8_meanLetters_14 (by decide) (kt := fun z14 => (by exfalso; first | omega | simp_all)) (kf := fun z14 => ?_)
      refine r_aload_n dX8_meanLetters_17 rfl ?_
      refine r_getR qX8_16 dX8_meanLetters_18 (hX.x 0 8 0) (hX.f 0 513 2) (kk := ?_)
      refine r_iload_n dX8_meanLetters_21 rfl ?_
      refine r_callV (mi := iX8_meanLetters) vX8_153 dX8_meanLetters_22 (hX.x 2 10 0) (c_get (hX.l 2) (hi3) (hX.q 2 _ (hi3))) (hm := by exact ⟨Nat.le_of_ble_eq_true rfl, Nat.le_of_ble_eq_true rfl⟩) (k := kPA ?_) (kx := r_nox)
      refine r_cast nX8_110.1 dX8_meanLetters_25 (hX.k1 _ (hi3)) (k := ?_)
      refine r_astore dX8_meanLetters_28 (k := ?_)
      refine r_aload_n dX8_meanLetters_30 rfl ?_
      refine r_aload dX8_meanLetters_31 rfl ?_
      refine r_callV (mi := iX8_meanLetters) vX8_157 dX8_meanLetters_33 (hX.x 0 8 0) (x_hasPost hX hO i hi3) (hm := by exact ⟨Nat.le_of_ble_eq_true rfl, Nat.le_of_ble_eq_true rfl⟩) (k := kP ?_) (kx := r_nox)
      refine r_bif_eq (tgt := 50) dX8_meanLetters_36 (by decide) (kt := fun z36 => ?_) (kf := fun z36 => ?_)
      · refine r_iinc dX8_meanLetters_50 rfl (k := ?_)
        refine r_goto (tgt := 6) dX8_meanLetters_53 (by decide) ?_
        first
         | exact r_loc' (ih (i + 1) (by omega)) ⟨rfl, lkI (cnt_T (by assumption)).symm, rfl, rfl, trivial⟩
         | exact r_loc' (ih (i + 1) (by omega)) ⟨rfl, lkI ((cnt_F (by assumption)).trans (Int.add_zero _)).symm, lkI (congrArg Int.ofNat (show sumL σ i = sumL σ i + σ.2 8 i by rw [no_post (by assumption)]; rfl)), rfl, trivial⟩
      · refine r_iload_n dX8_meanLetters_39 rfl ?_
        refine r_aload dX8_meanLetters_40 rfl ?_
        refine r_getI qX8_139 dX8_meanLetters_42 (hX.k1 i hi3) (hX.g68 i hi3) (kk := ?_)
        refine r_iadd dX8_meanLetters_45 ?_
        refine r_istore_n dX8_meanLetters_46 (k := ?_)
        refine r_iinc dX8_meanLetters_47 rfl (k := ?_)
        refine r_iinc dX8_meanLetters_50 rfl (k := ?_)
        refine r_goto (tgt := 6) dX8_meanLetters_53 (by decide) ?_
        first
         | exact r_loc' (ih (i + 1) (by omega)) ⟨rfl, lkI (cnt_T (by assumption)).symm, rfl, rfl, trivial⟩
         | exact r_loc' (ih (i + 1) (by omega)) ⟨rfl, lkI ((cnt_F (by assumption)).trans (Int.add_zero _)).symm, lkI (congrArg Int.ofNat (show sumL σ i = sumL σ i + σ.2 8 i by rw [no_post (by assumption)]; rfl)), rfl, trivial⟩
  refine r_iconst dX8_meanLetters_0 ?_
  refine r_istore_n dX8_meanLetters_1 (k := ?_)
  refine r_iconst dX8_meanLetters_2 ?_
  refine r_istore_n dX8_meanLetters_3 (k := ?_)
  refine r_iconst dX8_meanLetters_4 ?_
  refine r_istore_n dX8_meanLetters_5 (k := ?_)
  exact r_loc' (loop (σ.1 2) 0 (by omega)) ⟨rfl, rfl, rfl, rfl, trivial⟩
theorem y_houseAt (hM : XM G M C σ) (hO : Ok σ T) (s d r : Int) (ha : inR s) (hb : inR d) (hl : inR r) : Ht G iX8_houseAt yX8_houseAt 12 [.ref (eX C 0), .int (iz s), .int (iz d), .int (iz r)] M (CR G C M (opHouseAt σ s d r)) (CX G C M (opHouseAt σ s d r) [NSE, IAE, IOB]) 4 24 := by
  have hX := hM.1
  obtain ⟨⟨p1, p2, p3, p4, p5, -⟩, hS, hH, -⟩ := id hO
  refine ht_intro (by decide +kernel) rfl rfl rfl (Nat.le_of_ble_eq_true rfl) ?_
  have loop : ∀ s d : Nat, s < σ.1 1 → d ≤ 1 → ∀ k i : Nat, i + k = σ.1 2 → fnd (atB σ s d r) i = none → SWG G iX8_houseAt (rmd 12 4 24) (QF G (CR G C M (opHouseAt σ s d r)) (CX G C M (opHouseAt σ s d r) [NSE, IAE, IOB]) 4 24) 29 [(5, .int (iz (i : Int))), (4, .ref (eA C 1 s)), (0, .ref (eX C 0)), (2, .int (iz (d : Int))), (3, .int (iz r))] [] M 1 6 := by
    intro s d hs hd k
    induction k with
    | zero =>
      intro i hi hf
      have hi2 : i = σ.1 2 := by omega
      subst hi2
      refine r_iload dX8_houseAt_29 rfl ?_
      refine r_aload_n dX8_houseAt_31 rfl ?_
      refine r_getR qX8_16 dX8_houseAt_32 (hX.x 0 8 0) (hX.f 0 513 2) (kk := ?_)
      refine r_callV (mi := iX8_houseAt) vX8_77 dX8_houseAt_35 (hX.x 2 10 0) (c_size (hX.l 2)) (hm := by exact ⟨Nat.le_of_ble_eq_true rfl, Nat.le_of_ble_eq_true rfl⟩) (k := kP ?_) (kx := r_nox)
      refine r_icmp_ge (tgt := 96) dX8_houseAt_38 (by decide) (kt := fun z38 => ?_) (kf := fun z38 => (by exfalso; first | omega | simp_all))
      exact r_throwX (mi := iX8_houseAt) xw_180 hX.gD (text := "no such rank") (is := 182) (by decide +kernel) dX8_houseAt_96 dX8_houseAt_99 dX8_houseAt_100 dX8_houseAt_102 dX8_houseAt_105 (hm := by exact ⟨Nat.le_of_ble_eq_true rfl, Nat.le_of_ble_eq_true rfl⟩) (hm2 := by exact ⟨Nat.le_of_ble_eq_true rfl, Nat.le_of_ble_eq_true rfl⟩) (hx := fun n hn => cx_rd (c := 2) hM hO hn (by unfold opHouseAt; rw [if_neg (by omega), if_neg (by omega), hf]) rfl)
    | succ k ih =>
      intro i hi hf
      have hi3 : i < σ.1 2 := by omega
      obtain ⟨h1, h2, h3, h4⟩ := hH i hi3
      have ei := hX.inj 1 _ _ h1 hs
      have hc := cnt_le (rankB σ i) (σ.1 2)
      have hc2 : rank σ i = cnt (rankB σ i) (σ.1 2) := rfl
      refine r_iload dX8_houseAt_29 rfl ?_
      refine r_aload_n dX8_houseAt_31 rfl ?_
      refine r_getR qX8_16 dX8_houseAt_32 (hX.x 0 8 0) (hX.f 0 513 2) (kk := ?_)
      refine r_callV (mi := iX8_houseAt) vX8_77 dX8_houseAt_35 (hX.x 2 10 0) (c_size (hX.l 2)) (hm := by exact ⟨Nat.le_of_ble_eq_true rfl, Nat.le_of_ble_eq_true rfl⟩) (k := kP ?_) (kx := r_nox)
      refine r_icmp_ge (tgt := 96) dX8_houseAt_38 (by decide) (kt := fun z38 => (by exfalso; first | omega | simp_all)) (kf := fun z38 => ?_)
      refine r_aload_n dX8_houseAt_41 rfl ?_
      refine r_getR qX8_16 dX8_houseAt_42 (hX.x 0 8 0) (hX.f 0 513 2) (kk := ?_)
      refine r_iload dX8_houseAt_45 rfl ?_
      refine r_callV (mi := iX8_houseAt) vX8_153 dX8_houseAt_47 (hX.x 2 10 0) (c_get (hX.l 2) (hi3) (hX.q 2 _ (hi3))) (hm := by exact ⟨Nat.le_of_ble_eq_true rfl, Nat.le_of_ble_eq_true rfl⟩) (k := kPA ?_) (kx := r_nox)
      refine r_cast nX8_110.1 dX8_houseAt_50 (hX.k1 _ (hi3)) (k := ?_)
      refine r_astore dX8_houseAt_53 (k := ?_)
      refine r_aload dX8_houseAt_55 rfl ?_
      refine r_getR qX8_169 dX8_houseAt_57 (hX.k1 i hi3) (hX.g65 i hi3) (kk := ?_)
      refine r_aload dX8_houseAt_60 rfl ?_
      refine r_acmp_ne (tgt := 90) dX8_houseAt_62 (by decide) (kt := fun z62 => ?_) (kf := fun z62 => ?_)
      · refine r_iinc dX8_houseAt_90 rfl (k := ?_)
        refine r_goto (tgt := 29) dX8_houseAt_93 (by decide) ?_
        first | replace z62 := ei.mp z62 | replace z62 := mt ei.mpr z62
        exact r_loc' (ih (i + 1) (by omega) (fnd_none hf (by unfold atB; simp only [Bool.and_eq_false_iff, decide_eq_false_iff_not]; omega))) ⟨rfl, rfl, rfl, rfl, rfl, trivial⟩
      · refine r_aload dX8_houseAt_65 rfl ?_
        refine r_getI qX8_173 dX8_houseAt_67 (hX.k1 i hi3) (hX.g66 i hi3) (kk := ?_)
        refine r_iload_n dX8_houseAt_70 rfl ?_
        refine r_icmp_ne (tgt := 90) dX8_houseAt_71 (by decide) (kt := fun z71 => ?_) (kf := fun z71 => ?_)
        · refine r_iinc dX8_houseAt_90 rfl (k := ?_)
          refine r_goto (tgt := 29) dX8_houseAt_93 (by decide) ?_
          first | replace z62 := ei.mp z62 | replace z62 := mt ei.mpr z62
          exact r_loc' (ih (i + 1) (by omega) (fnd_none hf (by unfold atB; simp only [Bool.and_eq_false_iff, decide_eq_false_iff_not]; omega))) ⟨rfl, rfl, rfl, rfl, rfl, trivial⟩
        · refine r_aload_n dX8_houseAt_74 rfl ?_
          refine r_aload dX8_houseAt_75 rfl ?_
          refine r_callV (mi := iX8_houseAt) vX8_176 dX8_houseAt_77 (hX.x 0 8 0) (x_rankOf hX hO i hi3) (hm := by exact ⟨Nat.le_of_ble_eq_true rfl, Nat.le_of_ble_eq_true rfl⟩) (k := kP ?_) (kx := r_nox)
          refine r_iload_n dX8_houseAt_80 rfl ?_
          refine r_icmp_ne (tgt := 90) dX8_houseAt_81 (by decide) (kt := fun z81 => ?_) (kf := fun z81 => ?_)
          · refine r_iinc dX8_houseAt_90 rfl (k := ?_)
            refine r_goto (tgt := 29) dX8_houseAt_93 (by decide) ?_
            first | replace z62 := ei.mp z62 | replace z62 := mt ei.mpr z62
            exact r_loc' (ih (i + 1) (by omega) (fnd_none hf (by unfold atB; simp only [Bool.and_eq_false_iff, decide_eq_false_iff_not]; omega))) ⟨rfl, rfl, rfl, rfl, rfl, trivial⟩
          · refine r_aload dX8_houseAt_84 rfl ?_
            refine r_getI qX8_115 dX8_houseAt_86 (hX.k1 i hi3) (hX.g64 i hi3) (kk := ?_)
            replace z62 := ei.mp z62
            exact r_iret dX8_houseAt_89 (cr_rd hM (by unfold opHouseAt; rw [if_neg (by omega), if_neg (by omega), show σ.1 2 = i + 1 + k by omega, fnd_hit hf (by unfold atB; simp only [Bool.and_eq_true, decide_eq_true_eq]; omega) k]) rfl)
  refine r_aload_n dX8_houseAt_0 rfl ?_
  refine r_iload_n dX8_houseAt_1 rfl ?_
  refine r_callV (mi := iX8_houseAt) vX8_99 dX8_houseAt_2 (hX.x 0 8 0) (x_findStreet hX (by omega) s ha) (hm := by exact ⟨Nat.le_of_ble_eq_true rfl, Nat.le_of_ble_eq_true rfl⟩) (k := kT (fun hb1 => kPA ?_)) (kx := kxT (fun hb1 n hn => cx_rd (c := 0) hM hO hn (if_pos hb1) rfl))
  refine r_astore dX8_houseAt_5 (k := ?_)
  refine r_iconst dX8_houseAt_7 ?_
  refine r_iconst dX8_houseAt_8 ?_
  refine r_iload_n dX8_houseAt_9 rfl ?_
  refine r_callS (mi := iX8_houseAt) vX8_68 dX8_houseAt_10 (x_isFrom 0 1 d (by omega) (by omega) hb) (hm := by exact ⟨Nat.le_of_ble_eq_true rfl, Nat.le_of_ble_eq_true rfl⟩) (k := kP ?_) (kx := r_nox)
  refine r_dif_ne (tgt := 26) dX8_houseAt_13 (by decide) (kt := fun z13 => ?_) (kf := fun z13 => ?_)
  · obtain ⟨s, rfl⟩ := nat_of (a := s) (by omega)
    obtain ⟨d, rfl⟩ := nat_of (a := d) (by omega)
    refine r_iconst dX8_houseAt_26 ?_
    refine r_istore dX8_houseAt_27 (k := ?_)
    exact r_loc' (loop s d (by omega) (by omega) (σ.1 2) 0 (by omega) rfl) ⟨rfl, rfl, rfl, rfl, rfl, trivial⟩
  · exact r_throwX (mi := iX8_houseAt) xw_72 hX.gD (text := "the side is out of range") (is := 167) (by decide +kernel) dX8_houseAt_16 dX8_houseAt_19 dX8_houseAt_20 dX8_houseAt_22 dX8_houseAt_25 (hm := by exact ⟨Nat.le_of_ble_eq_true rfl, Nat.le_of_ble_eq_true rfl⟩) (hm2 := by exact ⟨Nat.le_of_ble_eq_true rfl, Nat.le_of_ble_eq_true rfl⟩) (hx := fun n hn => cx_rd (c := 1) hM hO hn (by unfold opHouseAt; rw [if_neg (by omega)]; exact if_pos (by omega)) rfl)
end PB1
