/-! The class: shortest ways. -/
section WYS
variable {G : GC} {M M1 : Mem} {C : CE} {σ τ : St} {T : Nat}
theorem bt_10 : ∀ y : Nat, y < 10 → ∀ g : Nat, g < 1024 → (iz (g : Int) >>> (iz (y : Int) &&& 31)) &&& iz 1 = bz (g.testBit y) := by decide +kernel
/-- the three tables of the ways -/
def WY (M : Mem) (C : CE) : Prop := mC M (eX C 5) = some (7, 0) ∧ mR M 448 (eX C 5) = some (eX C 9) ∧ mR M 449 (eX C 5) = some (eX C 11) ∧ mR M 450 (eX C 5) = some (eX C 13) ∧ GR M (eX C 9) (eX C 10) 10 10 ∧ GR M (eX C 11) (eX C 12) 10 10 ∧ GR M (eX C 13) (eX C 14) 1 10 ∧ eX C 10 ≠ eX C 12
theorem XB.wy (h : XB G M C σ) : WY M C := ⟨h.x 5 7 0, h.f 5 448 9, h.f 5 449 11, h.f 5 450 13, h.gr 9 10 10, h.gr 11 10 10, h.gr 13 1 10, h.ne (by decide)⟩
theorem WY.sA {b : Nat} {K : Nat → Int32} (h : WY M C) : WY (sA M b K) C := h
def DvT (M : Mem) (C : CE) (σ : St) : Prop := ∀ a b, a < 10 → b < 10 → mA M (eX C 10) (10 * a + b) = iz (dv σ a b : Int)
/-- the nearest place that is not taken -/
def NrP (D : Nat → Nat) (tk n : Nat) (z w : Int) : Prop := (z = -1 ∧ w = 1000000 ∧ ∀ y, y < n → tk.testBit y = true ∨ 1000000 ≤ D y) ∨ ∃ p : Nat, z = p ∧ w = D p ∧ p < n ∧ tk.testBit p = false ∧ D p < 1000000 ∧ ∀ y, y < n → tk.testBit y = false → D p ≤ D y
theorem x_nearest (hW : WY M C) {a tk : Nat} {D : Nat → Nat} (ha : a < 10) (ht : tk < 1024) (hD : ∀ y, y < 10 → mA M (eX C 12) (10 * a + y) = iz (D y : Int) ∧ D y ≤ 1000000) : Ht G iX7_nearestNotTaken yX7_nearestNotTaken 3 [.ref (eX C 5), .int (iz (a : Int)), .int (iz (tk : Int))] M (rI fun r M' => M' = M ∧ ∃ z w, r = iz z ∧ NrP D tk 10 z w) nX 0 0 := by
  obtain ⟨w1, w2, w3, w4, w5, w6, w7, w8⟩ := id hW
  refine ht_intro (by decide +kernel) rfl rfl rfl (Nat.le_of_ble_eq_true rfl) ?_
  have loop : ∀ (k i : Nat) (z w : Int), i + k = 10 → NrP D tk i z w → SWG G iX7_nearestNotTaken (rmd 3 0 0) (QF G (rI fun r M' => M' = M ∧ ∃ z w, r = iz z ∧ NrP D tk 10 z w) nX 0 0) 9 [(5, .int (iz (i : Int))), (4, .int (iz w)), (3, .int (iz z)), (0, .ref (eX C 5)), (1, .int (iz (a : Int))), (2, .int (iz (tk : Int)))] [] M 0 0 := by
    intro k
    induction k with
    | zero =>
      intro i z w hi hN
      have hi2 : i = 10 := by omega
      subst hi2
      refine r_iload dX7_nearestNotTaken_9 rfl ?_
      refine r_bipush dX7_nearestNotTaken_11 (k := ?_)
      refine r_icmp_ge (tgt := 61) dX7_nearestNotTaken_13 (by decide) (kt := fun z13 => ?_) (kf := fun z13 => (by exfalso; first | omega | simp_all))
      refine r_iload_n dX7_nearestNotTaken_61 rfl ?_
      exact r_iret dX7_nearestNotTaken_62 (⟨_, rfl, rfl, z, w, rfl, hN⟩)
    | succ k ih =>
      intro i z w hi hN
      obtain ⟨d1, d2⟩ := hD i (by omega)
      have hw : 0 ≤ w ∧ w ≤ 1000000 := by
        rcases hN with ⟨-, h, -⟩ | ⟨p, -, h, -, -, h2, -⟩ <;> omega
      refine r_iload dX7_nearestNotTaken_9 rfl ?_
      refine r_bipush dX7_nearestNotTaken_11 (k := ?_)
      refine r_icmp_ge (tgt := 61) dX7_nearestNotTaken_13 (by decide) (kt := fun z13 => (by exfalso; first | omega | simp_all)) (kf := fun z13 => ?_)
      refine r_iload_n dX7_nearestNotTaken_16 rfl ?_
      refine r_iload dX7_nearestNotTaken_17 rfl ?_
      refine r_ishr dX7_nearestNotTaken_19 (rfl) ?_
      refine r_iconst dX7_nearestNotTaken_20 ?_
      refine r_iand dX7_nearestNotTaken_21 (bt_10 i (by omega) tk ht) ?_
      refine r_bif_ne (tgt := 55) dX7_nearestNotTaken_22 (by decide) (kt := fun z22 => ?_) (kf := fun z22 => ?_)
      · refine r_iinc dX7_nearestNotTaken_55 rfl (k := ?_)
        refine r_goto (tgt := 9) dX7_nearestNotTaken_58 (by decide) ?_
        first
         | exact r_loc' (ih (i + 1) (i : Int) (D i : Int) (by omega) (Or.inr ⟨i, rfl, rfl, by omega, z22, by omega, fun y hy hb => by
              by_cases e : y = i
              · rw [e]; exact Nat.le_refl _
              · rcases hN with ⟨h1, h2, h3⟩ | ⟨p, h1, h2, h3, h4, h5, h6⟩
                · rcases h3 y (by omega) with h | h
                  · rw [h] at hb; cases hb
                  · omega
                · have := h6 y (by omega) hb; omega⟩)) ⟨rfl, rfl, rfl, rfl, rfl, rfl, trivial⟩
         | exact r_loc' (ih (i + 1) z w (by omega) (by
              rcases hN with ⟨h1, h2, h3⟩ | ⟨p, h1, h2, h3, h4, h5, h6⟩
              · refine Or.inl ⟨h1, h2, fun y hy => ?_⟩
                by_cases e : y = i
                · subst e
                  first
                    | exact Or.inl z22
                    | exact Or.inr (by omega)
                · exact h3 y (by omega)
              · refine Or.inr ⟨p, h1, h2, by omega, h4, h5, fun y hy hb => ?_⟩
                by_cases e : y = i
                · subst e
                  first
                    | omega
                    | exact absurd hb (by rw [z22]; decide)
                · exact h6 y (by omega) hb)) ⟨rfl, rfl, rfl, rfl, rfl, rfl, trivial⟩
      · refine r_aload_n dX7_nearestNotTaken_25 rfl ?_
        refine r_getR qX7_20 dX7_nearestNotTaken_26 w1 w3 (kk := ?_)
        refine r_iload_n dX7_nearestNotTaken_29 rfl ?_
        refine r_iload dX7_nearestNotTaken_30 rfl ?_
        refine r_callV (mi := iX7_nearestNotTaken) vX7_48 dX7_nearestNotTaken_32 w6.1 (x_at w6 ha (show i < 10 by omega) d1) (hm := by exact ⟨Nat.le_of_ble_eq_true rfl, Nat.le_of_ble_eq_true rfl⟩) (k := kP ?_) (kx := r_nox)
        refine r_iload dX7_nearestNotTaken_35 rfl ?_
        refine r_icmp_ge (tgt := 55) dX7_nearestNotTaken_37 (by decide) (kt := fun z37 => ?_) (kf := fun z37 => ?_)
        · refine r_iinc dX7_nearestNotTaken_55 rfl (k := ?_)
          refine r_goto (tgt := 9) dX7_nearestNotTaken_58 (by decide) ?_
          first
           | exact r_loc' (ih (i + 1) (i : Int) (D i : Int) (by omega) (Or.inr ⟨i, rfl, rfl, by omega, z22, by omega, fun y hy hb => by
                by_cases e : y = i
                · rw [e]; exact Nat.le_refl _
                · rcases hN with ⟨h1, h2, h3⟩ | ⟨p, h1, h2, h3, h4, h5, h6⟩
                  · rcases h3 y (by omega) with h | h
                    · rw [h] at hb; cases hb
                    · omega
                  · have := h6 y (by omega) hb; omega⟩)) ⟨rfl, rfl, rfl, rfl, rfl, rfl, trivial⟩
           | exact r_loc' (ih (i + 1) z w (by omega) (by
                rcases hN with ⟨h1, h2, h3⟩ | ⟨p, h1, h2, h3, h4, h5, h6⟩
                · refine Or.inl ⟨h1, h2, fun y hy => ?_⟩
                  by_cases e : y = i
                  · subst e
                    first
                      | exact Or.inl z22
                      | exact Or.inr (by omega)
                  · exact h3 y (by omega)
                · refine Or.inr ⟨p, h1, h2, by omega, h4, h5, fun y hy hb => ?_⟩
                  by_cases e : y = i
                  · subst e
                    first
                      | omega
                      | exact absurd hb (by rw [z22]; decide)
                  · exact h6 y (by omega) hb)) ⟨rfl, rfl, rfl, rfl, rfl, rfl, trivial⟩
        · refine r_iload dX7_nearestNotTaken_40 rfl ?_
          refine r_istore_n dX7_nearestNotTaken_42 (k := ?_)
          refine r_aload_n dX7_nearestNotTaken_43 rfl ?_
          refine r_getR qX7_20 dX7_nearestNotTaken_44 w1 w3 (kk := ?_)
          refine r_iload_n dX7_nearestNotTaken_47 rfl ?_
          refine r_iload dX7_nearestNotTaken_48 rfl ?_
          refine r_callV (mi := iX7_nearestNotTaken) vX7_48 dX7_nearestNotTaken_50 w6.1 (x_at w6 ha (show i < 10 by omega) d1) (hm := by exact ⟨Nat.le_of_ble_eq_true rfl, Nat.le_of_ble_eq_true rfl⟩) (k := kP ?_) (kx := r_nox)
          refine r_istore dX7_nearestNotTaken_53 (k := ?_)
          refine r_iinc dX7_nearestNotTaken_55 rfl (k := ?_)
          refine r_goto (tgt := 9) dX7_nearestNotTaken_58 (by decide) ?_
          first
           | exact r_loc' (ih (i + 1) (i : Int) (D i : Int) (by omega) (Or.inr ⟨i, rfl, rfl, by omega, z22, by omega, fun y hy hb => by
                by_cases e : y = i
                · rw [e]; exact Nat.le_refl _
                · rcases hN with ⟨h1, h2, h3⟩ | ⟨p, h1, h2, h3, h4, h5, h6⟩
                  · rcases h3 y (by omega) with h | h
                    · rw [h] at hb; cases hb
                    · omega
                  · have := h6 y (by omega) hb; omega⟩)) ⟨rfl, rfl, rfl, rfl, rfl, rfl, trivial⟩
           | exact r_loc' (ih (i + 1) z w (by omega) (by
                rcases hN with ⟨h1, h2, h3⟩ | ⟨p, h1, h2, h3, h4, h5, h6⟩
                · refine Or.inl ⟨h1, h2, fun y hy => ?_⟩
                  by_cases e : y = i
                  · subst e
                    first
                      | exact Or.inl z22
                      | exact Or.inr (by omega)
                  · exact h3 y (by omega)
                · refine Or.inr ⟨p, h1, h2, by omega, h4, h5, fun y hy hb => ?_⟩
                  by_cases e : y = i
                  · subst e
                    first
                      | omega
                      | exact absurd hb (by rw [z22]; decide)
                  · exact h6 y (by omega) hb)) ⟨rfl, rfl, rfl, rfl, rfl, rfl, trivial⟩
  refine r_iconst dX7_nearestNotTaken_0 ?_
  refine r_istore_n dX7_nearestNotTaken_1 (k := ?_)
  refine r_ldc (n := 1000000) kX7_64 dX7_nearestNotTaken_2 (k := ?_)
  refine r_istore dX7_nearestNotTaken_4 (k := ?_)
  refine r_iconst dX7_nearestNotTaken_6 ?_
  refine r_istore dX7_nearestNotTaken_7 (k := ?_)
  exact r_loc' (loop 10 0 (-1) 1000000 (by omega) (Or.inl ⟨rfl, rfl, fun y hy => absurd hy (Nat.not_lt_zero y)⟩)) ⟨rfl, rfl, rfl, rfl, rfl, rfl, trivial⟩
/-- a row of the distances holds D -/
def RwA (M : Mem) (C : CE) (a : Nat) (D : Nat → Nat) (K : Nat → Int32) : Prop := (∀ y, y < 10 → K (10 * a + y) = iz (D y : Int)) ∧ ∀ q, q < 10 * a ∨ 10 * a + 10 ≤ q → K q = mA M (eX C 12) q
theorem meas_in (hW : WY M C) (hT : DvT M C σ) {a p : Nat} {D : Nat → Nat} (ha : a < 10) (hp : p < 10) (hpp : dv σ p p = 1000000) (hD : ∀ y, y < 10 → D y ≤ 1000000) {v2 v3 : Value} {Qf : List Frame → Array Value → State → State → Prop} (kk : ∀ K, RwA M C a (fun y => min (D y) (D p + dv σ p y)) K → SWG G iX7_measureFrom (rmd 6 0 0) Qf 99 [(4, .int (iz (p : Int))), (3, v3), (2, v2), (0, .ref (eX C 5)), (1, .int (iz (a : Int)))] [] (sA M (eX C 12) K) 0 0) :
    ∀ (k i : Nat) (K : Nat → Int32), i + k = 10 → RwA M C a (fun y => if y < i then min (D y) (D p + dv σ p y) else D y) K → SWG G iX7_measureFrom (rmd 6 0 0) Qf 35 [(5, .int (iz (i : Int))), (4, .int (iz (p : Int))), (3, v3), (2, v2), (0, .ref (eX C 5)), (1, .int (iz (a : Int)))] [] (sA M (eX C 12) K) 0 0 := by
  intro k
  induction k with
  | zero =>
    intro i K hi hR
    have hi2 : i = 10 := by omega
    subst hi2
    refine r_iload dX7_measureFrom_35 rfl ?_
    refine r_bipush dX7_measureFrom_37 (k := ?_)
    refine r_icmp_ge (tgt := 99) dX7_measureFrom_39 (by decide) (kt := fun z39 => ?_) (kf := fun z39 => (by exfalso; first | omega | simp_all))
    exact r_loc' (kk K ⟨fun y hy => (hR.1 y hy).trans (congrArg (fun n : Nat => iz (n : Int)) (if_pos hy)), hR.2⟩) ⟨rfl, rfl, rfl, rfl, rfl, trivial⟩
  | succ k ih =>
    intro i K hi hR
    have hW : WY (sA M (eX C 12) K) C := hW
    obtain ⟨w1, w2, w3, w4, w5, w6, w7, w8⟩ := id hW
    have hi10 : i < 10 := by omega
    have dp := hD p hp
    have di := hD i hi10
    have dd : dv σ p i ≤ 1000000 := dv_le _ _
    have e1 : mA (sA M (eX C 12) K) (eX C 12) (10 * a + p) = iz (D p : Int) := by
      rw [mA_sA, hR.1 p hp]
      refine congrArg (fun n : Nat => iz (n : Int)) ?_
      show (if p < i then min (D p) (D p + dv σ p p) else D p) = D p
      split <;> omega
    have e2 : mA (sA M (eX C 12) K) (eX C 12) (10 * a + i) = iz (D i : Int) := by
      rw [mA_sA, hR.1 i hi10]
      exact congrArg (fun n : Nat => iz (n : Int)) (if_neg (Nat.lt_irrefl i))
    have e3 : mA (sA M (eX C 12) K) (eX C 10) (10 * p + i) = iz (dv σ p i : Int) := (congrFun (mA_sAn _ _ _ _ w8) _).trans (hT p i hp hi10)
    refine r_iload dX7_measureFrom_35 rfl ?_
    refine r_bipush dX7_measureFrom_37 (k := ?_)
    refine r_icmp_ge (tgt := 99) dX7_measureFrom_39 (by decide) (kt := fun z39 => (by exfalso; first | omega | simp_all)) (kf := fun z39 => ?_)
    refine r_aload_n dX7_measureFrom_42 rfl ?_
    refine r_getR qX7_20 dX7_measureFrom_43 w1 w3 (kk := ?_)
    refine r_iload_n dX7_measureFrom_46 rfl ?_
    refine r_iload dX7_measureFrom_47 rfl ?_
    refine r_callV (mi := iX7_measureFrom) vX7_48 dX7_measureFrom_49 w6.1 (x_at w6 ha hp e1) (hm := by exact ⟨Nat.le_of_ble_eq_true rfl, Nat.le_of_ble_eq_true rfl⟩) (k := kP ?_) (kx := r_nox)
    refine r_aload_n dX7_measureFrom_52 rfl ?_
    refine r_getR qX7_14 dX7_measureFrom_53 w1 w2 (kk := ?_)
    refine r_iload dX7_measureFrom_56 rfl ?_
    refine r_iload dX7_measureFrom_58 rfl ?_
    refine r_callV (mi := iX7_measureFrom) vX7_48 dX7_measureFrom_60 w5.1 (x_at w5 hp hi10 e3) (hm := by exact ⟨Nat.le_of_ble_eq_true rfl, Nat.le_of_ble_eq_true rfl⟩) (k := kP ?_) (kx := r_nox)
    refine r_iadd dX7_measureFrom_63 ?_
    refine r_istore dX7_measureFrom_64 (k := ?_)
    refine r_iload dX7_measureFrom_66 rfl ?_
    refine r_aload_n dX7_measureFrom_68 rfl ?_
    refine r_getR qX7_20 dX7_measureFrom_69 w1 w3 (kk := ?_)
    refine r_iload_n dX7_measureFrom_72 rfl ?_
    refine r_iload dX7_measureFrom_73 rfl ?_
    refine r_callV (mi := iX7_measureFrom) vX7_48 dX7_measureFrom_75 w6.1 (x_at w6 ha hi10 e2) (hm := by exact ⟨Nat.le_of_ble_eq_true rfl, Nat.le_of_ble_eq_true rfl⟩) (k := kP ?_) (kx := r_nox)
    refine r_icmp_ge (tgt := 93) dX7_measureFrom_78 (by decide) (kt := fun z78 => ?_) (kf := fun z78 => ?_)
    · refine r_iinc dX7_measureFrom_93 rfl (k := ?_)
      refine r_goto (tgt := 35) dX7_measureFrom_96 (by decide) ?_
      first
       | (refine r_loc' (ih (i + 1) K (by omega) ⟨fun y hy => (hR.1 y hy).trans (congrArg (fun n : Nat => iz (n : Int)) ?_), hR.2⟩) ⟨rfl, rfl, rfl, rfl, rfl, rfl, trivial⟩
          show (if y < i then min (D y) (D p + dv σ p y) else D y) = if y < i + 1 then min (D y) (D p + dv σ p y) else D y
          by_cases e : y = i
          · subst e
            rw [if_neg (by omega), if_pos (by omega)]; omega
          · by_cases e2 : y < i
            · rw [if_pos e2, if_pos (by omega)]
            · rw [if_neg e2, if_neg (by omega)])
       | (refine r_loc' (ih (i + 1) _ (by omega) ⟨fun y hy => ?_, fun q hq => ?_⟩) ⟨rfl, rfl, rfl, rfl, rfl, rfl, trivial⟩
          · by_cases e : y = i
            · subst e
              simp only [upd, if_true]
              refine congrArg iz ?_
              rw [if_pos (by omega)]; omega
            · have : 10 * a + y ≠ 10 * a + i := by omega
              simp only [upd, if_neg this]
              rw [hR.1 y hy]
              refine congrArg (fun n : Nat => iz (n : Int)) ?_
              show (if y < i then min (D y) (D p + dv σ p y) else D y) = if y < i + 1 then min (D y) (D p + dv σ p y) else D y
              by_cases e2 : y < i
              · rw [if_pos e2, if_pos (by omega)]
              · rw [if_neg e2, if_neg (by omega)]
          · have : q ≠ 10 * a + i := by omega
            simp only [upd, if_neg this]; exact hR.2 q hq)
    · refine r_aload_n dX7_measureFrom_81 rfl ?_
      refine r_getR qX7_20 dX7_measureFrom_82 w1 w3 (kk := ?_)
      refine r_iload_n dX7_measureFrom_85 rfl ?_
      refine r_iload dX7_measureFrom_86 rfl ?_
      refine r_iload dX7_measureFrom_88 rfl ?_
      refine r_callV (mi := iX7_measureFrom) vX7_26 dX7_measureFrom_90 w6.1 (x_put w6 ha hi10) (hm := by exact ⟨Nat.le_of_ble_eq_true rfl, Nat.le_of_ble_eq_true rfl⟩) (k := kPV ?_) (kx := r_nox)
      rw [sA_sA, mA_sA]
      refine r_iinc dX7_measureFrom_93 rfl (k := ?_)
      refine r_goto (tgt := 35) dX7_measureFrom_96 (by decide) ?_
      first
       | (refine r_loc' (ih (i + 1) K (by omega) ⟨fun y hy => (hR.1 y hy).trans (congrArg (fun n : Nat => iz (n : Int)) ?_), hR.2⟩) ⟨rfl, rfl, rfl, rfl, rfl, rfl, trivial⟩
          show (if y < i then min (D y) (D p + dv σ p y) else D y) = if y < i + 1 then min (D y) (D p + dv σ p y) else D y
          by_cases e : y = i
          · subst e
            rw [if_neg (by omega), if_pos (by omega)]; omega
          · by_cases e2 : y < i
            · rw [if_pos e2, if_pos (by omega)]
            · rw [if_neg e2, if_neg (by omega)])
       | (refine r_loc' (ih (i + 1) _ (by omega) ⟨fun y hy => ?_, fun q hq => ?_⟩) ⟨rfl, rfl, rfl, rfl, rfl, rfl, trivial⟩
          · by_cases e : y = i
            · subst e
              simp only [upd, if_true]
              refine congrArg iz ?_
              rw [if_pos (by omega)]; omega
            · have : 10 * a + y ≠ 10 * a + i := by omega
              simp only [upd, if_neg this]
              rw [hR.1 y hy]
              refine congrArg (fun n : Nat => iz (n : Int)) ?_
              show (if y < i then min (D y) (D p + dv σ p y) else D y) = if y < i + 1 then min (D y) (D p + dv σ p y) else D y
              by_cases e2 : y < i
              · rw [if_pos e2, if_pos (by omega)]
              · rw [if_neg e2, if_neg (by omega)]
          · have : q ≠ 10 * a + i := by omega
            simp only [upd, if_neg this]; exact hR.2 q hq)
theorem x_measure (hW : WY M C) (hT : DvT M C σ) (hS : StOk σ) (hp10 : σ.1 0 ≤ 10) {a : Nat} {D0 : Nat → Nat} (ha : a < 10) (hD0 : ∀ y, y < 10 → mA M (eX C 12) (10 * a + y) = iz (D0 y : Int)) (hJ : DJ σ a 0 D0) : Ht G iX7_measureFrom yX7_measureFrom 6 [.ref (eX C 5), .int (iz (a : Int))] M (rV (RowP M (eX C 12) 10 a (ld σ a))) nX 0 0 := by
  have tkb : ∀ tk p : Nat, tk < 1024 → p < 10 → tk ||| 2 ^ p < 1024 := fun tk p h1 h2 => Nat.or_lt_two_pow (n := 10) h1 (Nat.pow_lt_pow_right (by omega) h2)
  refine ht_intro (by decide +kernel) rfl rfl rfl (Nat.le_of_ble_eq_true rfl) ?_
  have loop : ∀ (k i tk : Nat) (D : Nat → Nat) (K : Nat → Int32), i + k = 10 → tk < 1024 → i ≤ cnt (fun y => tk.testBit y) 10 → DJ σ a tk D → RwA M C a D K → SWG G iX7_measureFrom (rmd 6 0 0) (QF G (rV (RowP M (eX C 12) 10 a (ld σ a))) nX 0 0) 4 [(3, .int (iz (i : Int))), (2, .int (iz (tk : Int))), (0, .ref (eX C 5)), (1, .int (iz (a : Int)))] [] (sA M (eX C 12) K) 0 0 := by
    intro k
    induction k with
    | zero =>
      intro i tk D K hi htk hc hJ hR
      have hi2 : i = 10 := by omega
      subst hi2
      have hall := cnt_full hc
      have he := dj_e hS hp10 ha hJ (fun t ht => Or.inl (hall t ht))
      refine r_iload_n dX7_measureFrom_4 rfl ?_
      refine r_bipush dX7_measureFrom_5 (k := ?_)
      refine r_icmp_ge (tgt := 105) dX7_measureFrom_7 (by decide) (kt := fun z7 => ?_) (kf := fun z7 => (by exfalso; first | omega | simp_all))
      exact r_vret dX7_measureFrom_105 (⟨rfl, K, rfl, fun y hy => by rw [hR.1 y hy, he y hy], hR.2⟩)
    | succ k ih =>
      intro i tk D K hi htk hc hJ hR
      have hW1 : WY (sA M (eX C 12) K) C := hW
      refine r_iload_n dX7_measureFrom_4 rfl ?_
      refine r_bipush dX7_measureFrom_5 (k := ?_)
      refine r_icmp_ge (tgt := 105) dX7_measureFrom_7 (by decide) (kt := fun z7 => (by exfalso; first | omega | simp_all)) (kf := fun z7 => ?_)
      refine r_aload_n dX7_measureFrom_10 rfl ?_
      refine r_iload_n dX7_measureFrom_11 rfl ?_
      refine r_iload_n dX7_measureFrom_12 rfl ?_
      refine r_callV (mi := iX7_measureFrom) vX7_61 dX7_measureFrom_13 hW1.1 (x_nearest hW1 (D := D) ha htk (fun y hy => ⟨(congrFun (mA_sA _ _ _) _).trans (hR.1 y hy), hJ.2.1 y hy⟩)) (hm := by exact ⟨Nat.le_of_ble_eq_true rfl, Nat.le_of_ble_eq_true rfl⟩) (k := kI (fun r M2 hr => ?_)) (kx := r_nox)
      obtain ⟨rfl, z, w, rfl, hN⟩ := hr
      have hz : -1 ≤ z ∧ z < 10 := by rcases hN with ⟨h, -⟩ | ⟨p, h, -, h3, -⟩ <;> omega
      refine r_istore dX7_measureFrom_16 (k := ?_)
      refine r_iload dX7_measureFrom_18 rfl ?_
      refine r_iconst dX7_measureFrom_20 ?_
      refine r_icmp_ne (tgt := 25) dX7_measureFrom_21 (by decide) (kt := fun z21 => ?_) (kf := fun z21 => ?_)
      · obtain ⟨p, h1, h2, h3, h4, h5, h6⟩ := hN.resolve_left (fun h => by have := h.1; omega)
        subst h1
        refine r_iload_n dX7_measureFrom_25 rfl ?_
        refine r_iconst dX7_measureFrom_26 ?_
        refine r_iload dX7_measureFrom_27 rfl ?_
        refine r_ishl dX7_measureFrom_29 (sl_1 rfl (by omega)) ?_
        refine r_ior dX7_measureFrom_30 (iz_or _ _) ?_
        refine r_istore_n dX7_measureFrom_31 (k := ?_)
        refine r_iconst dX7_measureFrom_32 ?_
        refine r_istore dX7_measureFrom_33 (k := ?_)
        refine r_loc' (meas_in (v2 := .int (iz ((tk ||| 2 ^ p : Nat) : Int))) (v3 := .int (iz (i : Int))) hW hT ha h3 (dv_self hS p) hJ.2.1 (fun K2 hR2 => ?_) 10 0 K (by omega) ⟨fun y hy => hR.1 y hy, hR.2⟩) ⟨rfl, rfl, rfl, rfl, rfl, rfl, trivial⟩
        have hJ2 := dj_s hS hJ h3 h4 h6
        have hc2 := cnt_lt (P := fun y => tk.testBit y) (Q := fun y => (tk ||| 2 ^ p).testBit y) (n := 10) (i := p) (fun j _ hj => by rw [tb_or, hj]; rfl) h3 h4 (by rw [tb_or, decide_eq_true rfl]; exact Bool.or_true _)
        refine r_iinc dX7_measureFrom_99 rfl (k := ?_)
        refine r_goto (tgt := 4) dX7_measureFrom_102 (by decide) ?_
        exact r_loc' (ih (i + 1) (tk ||| 2 ^ p) _ K2 (by omega) (tkb tk p htk h3) (by omega) hJ2 hR2) ⟨rfl, rfl, rfl, rfl, trivial⟩
      · rcases hN with ⟨h1, h2, h3⟩ | ⟨p, h1, -⟩
        · have he := dj_e hS hp10 ha hJ h3
          exact r_vret dX7_measureFrom_24 ⟨rfl, K, rfl, fun y hy => by rw [hR.1 y hy, he y hy], hR.2⟩
        · exfalso; omega
  refine r_iconst dX7_measureFrom_0 ?_
  refine r_istore_n dX7_measureFrom_1 (k := ?_)
  refine r_iconst dX7_measureFrom_2 ?_
  refine r_istore_n dX7_measureFrom_3 (k := ?_)
  have e := loop 10 0 0 D0 (mA M (eX C 12)) (by omega) (by decide) (Nat.zero_le _) hJ ⟨hD0, fun _ _ => rfl⟩
  rw [sA_id] at e
  exact r_loc' e ⟨rfl, rfl, rfl, rfl, trivial⟩
/-- the tables of the distances, the rows before n of the village τ, the others of σ -/
def LdT (M : Mem) (C : CE) (σ τ : St) (n : Nat) : Prop := ∀ a b, a < 10 → b < 10 → mA M (eX C 12) (10 * a + b) = iz ((if a < n then ld τ a b else ld σ a b : Nat) : Int)
theorem con_loop (hW : WY M C) (hT : DvT M C τ) (hS : StOk σ) (hS' : StOk τ) (hp10 : τ.1 0 ≤ 10) (hsub : ∀ P, Feas τ P → Feas σ P) {PR : Option Value → Mem → Prop} {L : List (Nat × Value)} (hL : lk L 0 = some (.ref (eX C 5))) (hL4 : ok1 L 4 = true) (kk : ∀ K, LdT (sA M (eX C 12) K) C σ τ 10 → PR none (sA M (eX C 12) K)) :
    ∀ (k i : Nat) (K : Nat → Int32), i + k = 10 → LdT (sA M (eX C 12) K) C σ τ i → SWG G iX7_connect (rmd 8 0 0) (QF G PR nX 0 0) 63 [(4, .int (iz (i : Int))), (0, .ref (eX C 5))] [] (sA M (eX C 12) K) 0 0 := by
  intro k
  induction k with
  | zero =>
    intro i K hi hL
    have hi2 : i = 10 := by omega
    subst hi2
    refine r_iload dX7_connect_63 rfl ?_
    refine r_bipush dX7_connect_65 (k := ?_)
    refine r_icmp_ge (tgt := 82) dX7_connect_67 (by decide) (kt := fun z67 => ?_) (kf := fun z67 => (by exfalso; first | omega | simp_all))
    exact r_vret dX7_connect_82 (kk K hL)
  | succ k ih =>
    intro i K hi hL
    have hi10 : i < 10 := by omega
    have hW1 : WY (sA M (eX C 12) K) C := hW
    have hT1 : DvT (sA M (eX C 12) K) C τ := fun a b ha hb => (congrFun (mA_sAn _ _ _ _ hW.2.2.2.2.2.2.2) _).trans (hT a b ha hb)
    refine r_iload dX7_connect_63 rfl ?_
    refine r_bipush dX7_connect_65 (k := ?_)
    refine r_icmp_ge (tgt := 82) dX7_connect_67 (by decide) (kt := fun z67 => (by exfalso; first | omega | simp_all)) (kf := fun z67 => ?_)
    refine r_aload_n dX7_connect_70 rfl ?_
    refine r_iload dX7_connect_71 rfl ?_
    refine r_callV (mi := iX7_connect) vX7_57 dX7_connect_73 hW1.1 (x_measure hW1 hT1 hS' hp10 (D0 := ld σ i) hi10 (fun y hy => (hL i y hi10 hy).trans (congrArg (fun n : Nat => iz (n : Int)) (if_neg (Nat.lt_irrefl i)))) (dj_0 hS hS' hsub)) (hm := by exact ⟨Nat.le_of_ble_eq_true rfl, Nat.le_of_ble_eq_true rfl⟩) (k := kV (fun M2 hM2 => ?_)) (kx := r_nox)
    obtain ⟨K2, rfl, hK1, hK2⟩ := hM2
    rw [sA_sA]
    refine r_iinc dX7_connect_76 rfl (k := ?_)
    refine r_goto (tgt := 63) dX7_connect_79 (by decide) ?_
    refine r_loc' (ih (i + 1) K2 (by omega) (fun a b ha hb => ?_)) ⟨rfl, rfl, trivial⟩
    rw [mA_sA]
    by_cases e : a = i
    · subst e
      rw [hK1 b hb, if_pos (by omega)]
    · rw [hK2 _ (by omega), hL a b ha hb]
      refine congrArg (fun n : Nat => iz (n : Int)) ?_
      by_cases e2 : a < i
      · rw [if_pos e2, if_pos (by omega)]
      · rw [if_neg e2, if_neg (by omega)]
theorem x_connect (hW : WY M C) (hG : GridP M C σ) (hS : StOk σ) (hS' : StOk τ) (hp10 : τ.1 0 ≤ 10) (hsub : ∀ P, Feas τ P → Feas σ P) {st ps u v l : Nat} (hu : u < 10) (hv : v < 10) (huv : u ≠ v) (hl : l ≤ 99) (s1 : mC M st = some (5, 0)) (s2 : mR M 324 st = some ps) (s3 : mI M 322 st = iz (l : Int)) (q1 : mC M ps = some (3, 0)) (q2 : mI M 193 ps = iz (u : Int)) (q3 : mI M 194 ps = iz (v : Int))
    (hdv : ∀ a b, a < 10 → b < 10 → dv τ a b = if (a = u ∧ b = v) ∨ (a = v ∧ b = u) then min l (dv σ u v) else dv σ a b) : Ht G iX7_connect yX7_connect 8 [.ref (eX C 5), .ref st] M (rV fun M' => ∃ K1 K2, M' = sA (sA M (eX C 10) K1) (eX C 12) K2 ∧ GridP M' C τ) nX 0 0 := by
  obtain ⟨w1, w2, w3, w4, w5, w6, w7, w8⟩ := id hW
  have dd : dv σ u v ≤ 1000000 := dv_le _ _
  refine ht_intro (by decide +kernel) rfl rfl rfl (Nat.le_of_ble_eq_true rfl) ?_
  refine r_aload_n dX7_connect_0 rfl ?_
  refine r_getR qX7_30 dX7_connect_1 s1 s2 (kk := ?_)
  refine r_astore_n dX7_connect_4 (k := ?_)
  refine r_aload_n dX7_connect_5 rfl ?_
  refine r_getI qX7_36 dX7_connect_6 s1 s3 (kk := ?_)
  refine r_aload_n dX7_connect_9 rfl ?_
  refine r_getR qX7_14 dX7_connect_10 w1 w2 (kk := ?_)
  refine r_aload_n dX7_connect_13 rfl ?_
  refine r_getI qX7_40 dX7_connect_14 q1 q2 (kk := ?_)
  refine r_aload_n dX7_connect_17 rfl ?_
  refine r_getI qX7_45 dX7_connect_18 q1 q3 (kk := ?_)
  refine r_callV (mi := iX7_connect) vX7_48 dX7_connect_21 w5.1 (x_at w5 hu hv (hG.1 u v hu hv)) (hm := by exact ⟨Nat.le_of_ble_eq_true rfl, Nat.le_of_ble_eq_true rfl⟩) (k := kP ?_) (kx := r_nox)
  refine r_mmin vX7_52 dX7_connect_24 (hc := (by by_cases e : (dv σ u v : Int) < (l : Int); rw [if_pos e]; omega; rw [if_neg e]; omega : _ = ((min l (dv σ u v) : Nat) : Int))) (hm := by exact ⟨Nat.le_of_ble_eq_true rfl, Nat.le_of_ble_eq_true rfl⟩) (k := ?_)
  refine r_istore_n dX7_connect_27 (k := ?_)
  refine r_aload_n dX7_connect_28 rfl ?_
  refine r_getR qX7_14 dX7_connect_29 w1 w2 (kk := ?_)
  refine r_aload_n dX7_connect_32 rfl ?_
  refine r_getI qX7_40 dX7_connect_33 q1 q2 (kk := ?_)
  refine r_aload_n dX7_connect_36 rfl ?_
  refine r_getI qX7_45 dX7_connect_37 q1 q3 (kk := ?_)
  refine r_iload_n dX7_connect_40 rfl ?_
  refine r_callV (mi := iX7_connect) vX7_26 dX7_connect_41 w5.1 (x_put w5 hu hv) (hm := by exact ⟨Nat.le_of_ble_eq_true rfl, Nat.le_of_ble_eq_true rfl⟩) (k := kPV ?_) (kx := r_nox)
  refine r_aload_n dX7_connect_44 rfl ?_
  refine r_getR qX7_14 dX7_connect_45 (show mC (sA M _ _) (eX C 5) = some (7, 0) from w1) (show mR (sA M _ _) 448 (eX C 5) = some (eX C 9) from w2) (kk := ?_)
  refine r_aload_n dX7_connect_48 rfl ?_
  refine r_getI qX7_45 dX7_connect_49 (show mC (sA M _ _) ps = some (3, 0) from q1) (show mI (sA M _ _) 194 ps = iz (v : Int) from q3) (kk := ?_)
  refine r_aload_n dX7_connect_52 rfl ?_
  refine r_getI qX7_40 dX7_connect_53 (show mC (sA M _ _) ps = some (3, 0) from q1) (show mI (sA M _ _) 193 ps = iz (u : Int) from q2) (kk := ?_)
  refine r_iload_n dX7_connect_56 rfl ?_
  refine r_callV (mi := iX7_connect) vX7_26 dX7_connect_57 (show mC (sA M _ _) (eX C 9) = some (0, 0) from w5.1) (x_put (show GR (sA M (eX C 10) (upd (mA M (eX C 10)) (10 * u + v) (iz ((min l (dv σ u v) : Nat) : Int)))) (eX C 9) (eX C 10) 10 10 from w5) hv hu) (hm := by exact ⟨Nat.le_of_ble_eq_true rfl, Nat.le_of_ble_eq_true rfl⟩) (k := kPV ?_) (kx := r_nox)
  rw [sA_sA, mA_sA]
  refine r_iconst dX7_connect_60 ?_
  refine r_istore dX7_connect_61 (k := ?_)
  have hT : DvT (sA M (eX C 10) (upd (upd (mA M (eX C 10)) (10 * u + v) (iz ((min l (dv σ u v) : Nat) : Int))) (10 * v + u) (iz ((min l (dv σ u v) : Nat) : Int)))) C τ := by
    intro a b ha hb
    rw [mA_sA, hdv a b ha hb]
    by_cases e1 : a = v ∧ b = u
    · obtain ⟨rfl, rfl⟩ := e1
      rw [if_pos (Or.inr ⟨rfl, rfl⟩)]; simp [upd]
    · have n1 : 10 * a + b ≠ 10 * v + u := by omega
      by_cases e2 : a = u ∧ b = v
      · obtain ⟨rfl, rfl⟩ := e2
        rw [if_pos (Or.inl ⟨rfl, rfl⟩)]; simp [upd]
      · have n2 : 10 * a + b ≠ 10 * u + v := by omega
        rw [if_neg (by omega)]
        simp only [upd, if_neg n1, if_neg n2]
        exact hG.1 a b ha hb
  generalize upd (upd (mA M (eX C 10)) (10 * u + v) (iz ((min l (dv σ u v) : Nat) : Int))) (10 * v + u) (iz ((min l (dv σ u v) : Nat) : Int)) = K1 at hT ⊢
  have e := con_loop (G := G) (σ := σ) (PR := rV fun M' => ∃ K1 K2, M' = sA (sA M (eX C 10) K1) (eX C 12) K2 ∧ GridP M' C τ) (show WY (sA M (eX C 10) K1) C from hW) hT hS hS' hp10 hsub (L := [(0, .ref (eX C 5))]) rfl rfl (fun K hK => ⟨rfl, K1, K, rfl, fun a b ha hb => (congrFun (mA_sAn _ _ _ _ w8) _).trans (hT a b ha hb), fun a b ha hb => (hK a b ha hb).trans (congrArg (fun n : Nat => iz (n : Int)) (if_pos ha))⟩) 10 0 (mA (sA M (eX C 10) K1) (eX C 12)) (by omega) (by
    rw [sA_id]
    intro a b ha hb
    rw [mA_sAn _ _ _ _ w8.symm, hG.2 a b ha hb]
    exact congrArg (fun n : Nat => iz (n : Int)) (if_neg (Nat.not_lt_zero a)).symm)
  rw [sA_id] at e
  exact r_loc' e ⟨rfl, rfl, trivial⟩
end WYS
