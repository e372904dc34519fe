/-! The class: tables, passes, what is new. -/
section GRD0
theorem and_1 : ∀ p : Nat, p < 64 → iz (p : Int) &&& iz 1 = iz ((p % 2 : Nat) : Int) := by decide +kernel
theorem shr_1 : ∀ p : Nat, p < 64 → iz (p : Int) >>> (iz 1 &&& 31) = iz ((p / 2 : Nat) : Int) := by decide +kernel
theorem mI_sR (M : Mem) (f : Nat) (K : Nat → Option Nat) : mI (sR M f K) = mI M := rfl
theorem mR_sI (M : Mem) (f : Nat) (K : Nat → Int32) : mR (sI M f K) = mR M := rfl
theorem row_lt {i j m n : Nat} (hi : i < m) (hj : j < n) : n * i + j < m * n := by
  have h1 : n * i + n ≤ n * m := by
    have := Nat.mul_le_mul_left n hi
    rw [Nat.mul_succ] at this
    exact this
  rw [Nat.mul_comm m n]
  omega
theorem ix_c (i j n : Nat) : (i : Int) * (n : Int) + (j : Int) = ((n * i + j : Nat) : Int) := by
  rw [Int.natCast_add, Int.natCast_mul, Int.mul_comm]
end GRD0
section GRD
variable {G : GC} {M : Mem} {C : CE} {σ : St} {T : Nat}
/-- a table g of m rows of n numbers, in the row c -/
def GR (M : Mem) (g c m n : Nat) : Prop := mC M g = some (0, 0) ∧ mI M 0 g = iz (m : Int) ∧ mI M 1 g = iz (n : Int) ∧ mR M 2 g = some c ∧ mC M c = some (11, m * n) ∧ m ≤ 300 ∧ n ≤ 10
theorem XB.gr (h : XB G M C σ) (a m n : Nat) (hk : (a, m, n) ∈ xG ∧ (a, 2, a + 1) ∈ xF ∧ a + 1 < 20 ∧ a < 20 ∧ xT a = 0 ∧ xL a = 0 ∧ xT (a + 1) = 11 ∧ xL (a + 1) = m * n ∧ m ≤ 300 ∧ n ≤ 10 := by decide) : GR M (eX C a) (eX C (a + 1)) m n :=
  ⟨h.x a 0 0 ⟨hk.2.2.2.1, hk.2.2.2.2.1, hk.2.2.2.2.2.1⟩, h.d0 a m n hk.1, h.d1 a m n hk.1, h.f a 2 (a + 1) hk.2.1, h.x (a + 1) 11 (m * n) ⟨hk.2.2.1, hk.2.2.2.2.2.2.1, hk.2.2.2.2.2.2.2.1⟩, hk.2.2.2.2.2.2.2.2⟩
theorem x_at {g c m n i j : Nat} {v : Int32} (hg : GR M g c m n) (hi : i < m) (hj : j < n) (hv : mA M c (n * i + j) = v) : Ht G iX0_at yX0_at 1 [.ref g, .int (iz (i : Int)), .int (iz (j : Int))] M (rP v M) nX 0 0 := by
  obtain ⟨g1, g2, g3, g4, g5, g6, g7⟩ := hg
  refine ht_intro (by decide +kernel) rfl rfl rfl (Nat.le_of_ble_eq_true rfl) ?_
  have hlt := row_lt hi hj
  have hmn : m * n ≤ 3000 := Nat.mul_le_mul g6 g7
  refine r_iload_n dX0_at_0 rfl ?_
  refine r_if_lt (tgt := 24) dX0_at_1 (by decide) (kt := fun z1 => (by exfalso; first | omega | simp_all)) (kf := fun z1 => ?_)
  refine r_iload_n dX0_at_4 rfl ?_
  refine r_aload_n dX0_at_5 rfl ?_
  refine r_getI qX0_9 dX0_at_6 g1 g2 (kk := ?_)
  refine r_icmp_ge (tgt := 24) dX0_at_9 (by decide) (kt := fun z9 => (by exfalso; first | omega | simp_all)) (kf := fun z9 => ?_)
  refine r_iload_n dX0_at_12 rfl ?_
  refine r_if_lt (tgt := 24) dX0_at_13 (by decide) (kt := fun z13 => (by exfalso; first | omega | simp_all)) (kf := fun z13 => ?_)
  refine r_iload_n dX0_at_16 rfl ?_
  refine r_aload_n dX0_at_17 rfl ?_
  refine r_getI qX0_15 dX0_at_18 g1 g3 (kk := ?_)
  refine r_icmp_lt (tgt := 27) dX0_at_21 (by decide) (kt := fun z21 => ?_) (kf := fun z21 => (by exfalso; first | omega | simp_all))
  refine r_aload_n dX0_at_27 rfl ?_
  refine r_getR qX0_24 dX0_at_28 g1 g4 (kk := ?_)
  refine r_iload_n dX0_at_31 rfl ?_
  refine r_aload_n dX0_at_32 rfl ?_
  refine r_getI qX0_15 dX0_at_33 g1 g3 (kk := ?_)
  refine r_imul dX0_at_36 ?_
  refine r_iload_n dX0_at_37 rfl ?_
  refine r_iadd dX0_at_38 ?_
  refine r_iald dX0_at_39 g5 (ix_c i j n) hv hlt (k := ?_)
  exact r_iret dX0_at_40 (rP_mk _ _)
theorem x_put {g c m n i j : Nat} {v : Int32} (hg : GR M g c m n) (hi : i < m) (hj : j < n) : Ht G iX0_put yX0_put 1 [.ref g, .int (iz (i : Int)), .int (iz (j : Int)), .int v] M (rPV (sA M c (upd (mA M c) (n * i + j) v))) nX 0 0 := by
  obtain ⟨g1, g2, g3, g4, g5, g6, g7⟩ := hg
  refine ht_intro (by decide +kernel) rfl rfl rfl (Nat.le_of_ble_eq_true rfl) ?_
  have hlt := row_lt hi hj
  have hmn : m * n ≤ 3000 := Nat.mul_le_mul g6 g7
  refine r_iload_n dX0_put_0 rfl ?_
  refine r_if_lt (tgt := 38) dX0_put_1 (by decide) (kt := fun z1 => (by exfalso; first | omega | simp_all)) (kf := fun z1 => ?_)
  refine r_iload_n dX0_put_4 rfl ?_
  refine r_aload_n dX0_put_5 rfl ?_
  refine r_getI qX0_9 dX0_put_6 g1 g2 (kk := ?_)
  refine r_icmp_ge (tgt := 38) dX0_put_9 (by decide) (kt := fun z9 => (by exfalso; first | omega | simp_all)) (kf := fun z9 => ?_)
  refine r_iload_n dX0_put_12 rfl ?_
  refine r_if_lt (tgt := 38) dX0_put_13 (by decide) (kt := fun z13 => (by exfalso; first | omega | simp_all)) (kf := fun z13 => ?_)
  refine r_iload_n dX0_put_16 rfl ?_
  refine r_aload_n dX0_put_17 rfl ?_
  refine r_getI qX0_15 dX0_put_18 g1 g3 (kk := ?_)
  refine r_icmp_ge (tgt := 38) dX0_put_21 (by decide) (kt := fun z21 => (by exfalso; first | omega | simp_all)) (kf := fun z21 => ?_)
  refine r_aload_n dX0_put_24 rfl ?_
  refine r_getR qX0_24 dX0_put_25 g1 g4 (kk := ?_)
  refine r_iload_n dX0_put_28 rfl ?_
  refine r_aload_n dX0_put_29 rfl ?_
  refine r_getI qX0_15 dX0_put_30 g1 g3 (kk := ?_)
  refine r_imul dX0_put_33 ?_
  refine r_iload_n dX0_put_34 rfl ?_
  refine r_iadd dX0_put_35 ?_
  refine r_iload_n dX0_put_36 rfl ?_
  refine r_iast dX0_put_37 g5 (ix_c i j n) hlt (k := ?_)
  exact r_vret dX0_put_38 (⟨rfl, rfl⟩)
/-- a row i of the row c of n holds B, the rest is as before -/
def RowP (M : Mem) (c n i : Nat) (B : Nat → Nat) (M' : Mem) : Prop := ∃ K, M' = sA M c K ∧ (∀ k, k < n → K (n * i + k) = iz (B k : Int)) ∧ ∀ q, q < n * i ∨ n * i + n ≤ q → K q = mA M c q
theorem x_clearRow {g c m n i : Nat} (hg : GR M g c m n) (hi : i < m) : Ht G iX0_clearRow yX0_clearRow 3 [.ref g, .int (iz (i : Int))] M (rV (RowP M c n i (fun _ => 1000000))) nX 0 0 := by
  have hg0 := hg
  obtain ⟨g1, g2, g3, g4, g5, g6, g7⟩ := hg
  refine ht_intro (by decide +kernel) rfl rfl rfl (Nat.le_of_ble_eq_true rfl) ?_
  have loop : ∀ (k j : Nat) (K : Nat → Int32), j + k = n → (∀ q, q < j → K (n * i + q) = iz 1000000) → (∀ q, q < n * i ∨ n * i + n ≤ q → K q = mA M c q) → SWG G iX0_clearRow (rmd 3 0 0) (QF G (rV (RowP M c n i (fun _ => 1000000))) nX 0 0) 2 [(2, .int (iz (j : Int))), (0, .ref g), (1, .int (iz (i : Int)))] [] (sA M c K) 0 0 := by
    intro k
    induction k with
    | zero =>
      intro j K hj hK hK2
      refine r_iload_n dX0_clearRow_2 rfl ?_
      refine r_aload_n dX0_clearRow_3 rfl ?_
      refine r_getI qX0_15 dX0_clearRow_4 g1 g3 (kk := ?_)
      refine r_icmp_ge (tgt := 24) dX0_clearRow_7 (by decide) (kt := fun z7 => ?_) (kf := fun z7 => (by exfalso; first | omega | simp_all))
      exact r_vret dX0_clearRow_24 (⟨rfl, K, rfl, fun k hk => hK k (by omega), hK2⟩)
    | succ k ih =>
      intro j K hj hK hK2
      refine r_iload_n dX0_clearRow_2 rfl ?_
      refine r_aload_n dX0_clearRow_3 rfl ?_
      refine r_getI qX0_15 dX0_clearRow_4 g1 g3 (kk := ?_)
      refine r_icmp_ge (tgt := 24) dX0_clearRow_7 (by decide) (kt := fun z7 => (by exfalso; first | omega | simp_all)) (kf := fun z7 => ?_)
      refine r_aload_n dX0_clearRow_10 rfl ?_
      refine r_iload_n dX0_clearRow_11 rfl ?_
      refine r_iload_n dX0_clearRow_12 rfl ?_
      refine r_ldc (n := 1000000) kX0_28 dX0_clearRow_13 (k := ?_)
      refine r_callV (mi := iX0_clearRow) vX0_35 dX0_clearRow_15 (show mC (sA M c K) g = some (0, 0) from g1) (x_put (v := iz 1000000) (show GR (sA M c K) g c m n from hg0) hi (show j < n by omega)) (hm := by exact ⟨Nat.le_of_ble_eq_true rfl, Nat.le_of_ble_eq_true rfl⟩) (k := kPV ?_) (kx := r_nox)
      rw [sA_sA]
      refine r_iinc dX0_clearRow_18 rfl (k := ?_)
      refine r_goto (tgt := 2) dX0_clearRow_21 (by decide) ?_
      refine r_loc' (ih (j + 1) _ (by omega) (fun q hq => ?_) (fun q hq => ?_)) ⟨rfl, rfl, rfl, trivial⟩
      · rw [mA_sA]
        by_cases e : q = j
        · subst e; simp [upd]
        · have : n * i + q ≠ n * i + j := by omega
          simp only [upd, if_neg this]; exact hK q (by omega)
      · rw [mA_sA]
        have : q ≠ n * i + j := by omega
        simp only [upd, if_neg this]; exact hK2 q hq
  refine r_iconst dX0_clearRow_0 ?_
  refine r_istore_n dX0_clearRow_1 (k := ?_)
  have e := loop n 0 (mA M c) (by omega) (fun q hq => absurd hq (Nat.not_lt_zero q)) (fun q _ => rfl)
  rw [sA_id] at e
  exact r_loc' e ⟨rfl, rfl, rfl, trivial⟩
theorem x_lowerRow {g c m n i g' c' m' r len : Nat} {B D : Nat → Nat} (hg : GR M g c m n) (hg' : GR M g' c' m' n) (hcc : c' ≠ c) (hi : i < m) (hr : r < m') (hlen : len ≤ 1100000) (hB : ∀ k, k < n → mA M c (n * i + k) = iz (B k : Int) ∧ B k ≤ 1000000) (hD : ∀ k, k < n → mA M c' (n * r + k) = iz (D k : Int) ∧ D k ≤ 1000000) : Ht G iX0_lowerRow yX0_lowerRow 1 [.ref g, .int (iz (i : Int)), .int (iz (len : Int)), .ref g', .int (iz (r : Int))] M (rV (RowP M c n i (fun k => min (B k) (len + D k)))) nX 0 0 := by
  obtain ⟨g1, g2, g3, g4, g5, g6, g7⟩ := hg
  obtain ⟨f1, f2, f3, f4, f5, f6, f7⟩ := hg'
  refine ht_intro (by decide +kernel) rfl rfl rfl (Nat.le_of_ble_eq_true rfl) ?_
  have hmn : m * n ≤ 3000 := Nat.mul_le_mul g6 g7
  have hmn' : m' * n ≤ 3000 := Nat.mul_le_mul f6 f7
  have loop : ∀ (k j : Nat) (K : Nat → Int32), j + k = n → (∀ q, q < j → K (n * i + q) = iz ((min (B q) (len + D q) : Nat) : Int)) → (∀ q, q < n * i ∨ n * i + j ≤ q → K q = mA M c q) → SWG G iX0_lowerRow (rmd 1 0 0) (QF G (rV (RowP M c n i (fun k => min (B k) (len + D k)))) nX 0 0) 58 [(7, .int (iz (j : Int))), (6, .int (iz ((r : Int) * (n : Int)))), (5, .int (iz ((i : Int) * (n : Int)))), (0, .ref g), (2, .int (iz (len : Int))), (3, .ref g')] [] (sA M c K) 0 0 := by
    intro k
    induction k with
    | zero =>
      intro j K hj hK hK2
      refine r_iload dX0_lowerRow_58 rfl ?_
      refine r_aload_n dX0_lowerRow_60 rfl ?_
      refine r_getI qX0_15 dX0_lowerRow_61 g1 g3 (kk := ?_)
      refine r_icmp_ge (tgt := 114) dX0_lowerRow_64 (by decide) (kt := fun z64 => ?_) (kf := fun z64 => (by exfalso; first | omega | simp_all))
      exact r_vret dX0_lowerRow_114 (⟨rfl, K, rfl, fun k hk => hK k (by omega), fun q hq => hK2 q (by omega)⟩)
    | succ k ih =>
      intro j K hj hK hK2
      have hjn : j < n := by omega
      obtain ⟨b1, b2⟩ := hB j hjn
      obtain ⟨d1, d2⟩ := hD j hjn
      have l1 := row_lt hi hjn
      have l2 := row_lt hr hjn
      have e1 : mA (sA M c K) c' (n * r + j) = iz (D j : Int) := (congrFun (mA_sAn _ _ _ _ hcc) _).trans d1
      have e2 : mA (sA M c K) c (n * i + j) = iz (B j : Int) := (congrFun (mA_sA _ _ _) _).trans ((hK2 _ (by omega)).trans b1)
      refine r_iload dX0_lowerRow_58 rfl ?_
      refine r_aload_n dX0_lowerRow_60 rfl ?_
      refine r_getI qX0_15 dX0_lowerRow_61 g1 g3 (kk := ?_)
      refine r_icmp_ge (tgt := 114) dX0_lowerRow_64 (by decide) (kt := fun z64 => (by exfalso; first | omega | simp_all)) (kf := fun z64 => ?_)
      refine r_iload_n dX0_lowerRow_67 rfl ?_
      refine r_aload_n dX0_lowerRow_68 rfl ?_
      refine r_getR qX0_24 dX0_lowerRow_69 f1 f4 (kk := ?_)
      refine r_iload dX0_lowerRow_72 rfl ?_
      refine r_iload dX0_lowerRow_74 rfl ?_
      refine r_iadd dX0_lowerRow_76 ?_
      refine r_iald dX0_lowerRow_77 f5 (ix_c r j n) e1 l2 (k := ?_)
      refine r_iadd dX0_lowerRow_78 ?_
      refine r_istore dX0_lowerRow_79 (k := ?_)
      refine r_iload dX0_lowerRow_81 rfl ?_
      refine r_aload_n dX0_lowerRow_83 rfl ?_
      refine r_getR qX0_24 dX0_lowerRow_84 g1 g4 (kk := ?_)
      refine r_iload dX0_lowerRow_87 rfl ?_
      refine r_iload dX0_lowerRow_89 rfl ?_
      refine r_iadd dX0_lowerRow_91 ?_
      refine r_iald dX0_lowerRow_92 g5 (ix_c i j n) e2 l1 (k := ?_)
      refine r_icmp_ge (tgt := 108) dX0_lowerRow_93 (by decide) (kt := fun z93 => ?_) (kf := fun z93 => ?_)
      · refine r_iinc dX0_lowerRow_108 rfl (k := ?_)
        refine r_goto (tgt := 58) dX0_lowerRow_111 (by decide) ?_
        first
          | (refine r_loc' (ih (j + 1) K (by omega) (fun q hq => ?_) (fun q hq => hK2 q (by omega))) ⟨rfl, rfl, rfl, rfl, rfl, rfl, trivial⟩
             by_cases e : q = j
             · subst e
               rw [hK2 _ (by omega), b1, Nat.min_eq_left (by omega)]
             · exact hK q (by omega))
          | (refine r_loc' (ih (j + 1) _ (by omega) (fun q hq => ?_) (fun q hq => ?_)) ⟨rfl, rfl, rfl, rfl, rfl, rfl, trivial⟩
             · rw [mA_sA]
               by_cases e : q = j
               · subst e
                 simp only [upd, if_true]
                 rw [Nat.min_eq_right (by omega)]; rfl
               · have : n * i + q ≠ n * i + j := by omega
                 simp only [upd, if_neg this]; exact hK q (by omega)
             · rw [mA_sA]
               have : q ≠ n * i + j := by omega
               simp only [upd, if_neg this]; exact hK2 q (by omega))
      · refine r_aload_n dX0_lowerRow_96 rfl ?_
        refine r_getR qX0_24 dX0_lowerRow_97 g1 g4 (kk := ?_)
        refine r_iload dX0_lowerRow_100 rfl ?_
        refine r_iload dX0_lowerRow_102 rfl ?_
        refine r_iadd dX0_lowerRow_104 ?_
        refine r_iload dX0_lowerRow_105 rfl ?_
        refine r_iast dX0_lowerRow_107 g5 (ix_c i j n) l1 (k := ?_)
        rw [sA_sA]
        refine r_iinc dX0_lowerRow_108 rfl (k := ?_)
        refine r_goto (tgt := 58) dX0_lowerRow_111 (by decide) ?_
        first
          | (refine r_loc' (ih (j + 1) K (by omega) (fun q hq => ?_) (fun q hq => hK2 q (by omega))) ⟨rfl, rfl, rfl, rfl, rfl, rfl, trivial⟩
             by_cases e : q = j
             · subst e
               rw [hK2 _ (by omega), b1, Nat.min_eq_left (by omega)]
             · exact hK q (by omega))
          | (refine r_loc' (ih (j + 1) _ (by omega) (fun q hq => ?_) (fun q hq => ?_)) ⟨rfl, rfl, rfl, rfl, rfl, rfl, trivial⟩
             · rw [mA_sA]
               by_cases e : q = j
               · subst e
                 simp only [upd, if_true]
                 rw [Nat.min_eq_right (by omega)]; rfl
               · have : n * i + q ≠ n * i + j := by omega
                 simp only [upd, if_neg this]; exact hK q (by omega)
             · rw [mA_sA]
               have : q ≠ n * i + j := by omega
               simp only [upd, if_neg this]; exact hK2 q (by omega))
  refine r_iload_n dX0_lowerRow_0 rfl ?_
  refine r_if_lt (tgt := 37) dX0_lowerRow_1 (by decide) (kt := fun z1 => (by exfalso; first | omega | simp_all)) (kf := fun z1 => ?_)
  refine r_iload_n dX0_lowerRow_4 rfl ?_
  refine r_aload_n dX0_lowerRow_5 rfl ?_
  refine r_getI qX0_9 dX0_lowerRow_6 g1 g2 (kk := ?_)
  refine r_icmp_ge (tgt := 37) dX0_lowerRow_9 (by decide) (kt := fun z9 => (by exfalso; first | omega | simp_all)) (kf := fun z9 => ?_)
  refine r_iload dX0_lowerRow_12 rfl ?_
  refine r_if_lt (tgt := 37) dX0_lowerRow_14 (by decide) (kt := fun z14 => (by exfalso; first | omega | simp_all)) (kf := fun z14 => ?_)
  refine r_iload dX0_lowerRow_17 rfl ?_
  refine r_aload_n dX0_lowerRow_19 rfl ?_
  refine r_getI qX0_9 dX0_lowerRow_20 f1 f2 (kk := ?_)
  refine r_icmp_ge (tgt := 37) dX0_lowerRow_23 (by decide) (kt := fun z23 => (by exfalso; first | omega | simp_all)) (kf := fun z23 => ?_)
  refine r_aload_n dX0_lowerRow_26 rfl ?_
  refine r_getI qX0_15 dX0_lowerRow_27 g1 g3 (kk := ?_)
  refine r_aload_n dX0_lowerRow_30 rfl ?_
  refine r_getI qX0_15 dX0_lowerRow_31 f1 f3 (kk := ?_)
  refine r_icmp_eq (tgt := 38) dX0_lowerRow_34 (by decide) (kt := fun z34 => ?_) (kf := fun z34 => (by exfalso; first | omega | simp_all))
  refine r_iload_n dX0_lowerRow_38 rfl ?_
  refine r_aload_n dX0_lowerRow_39 rfl ?_
  refine r_getI qX0_15 dX0_lowerRow_40 g1 g3 (kk := ?_)
  refine r_imul dX0_lowerRow_43 ?_
  refine r_istore dX0_lowerRow_44 (k := ?_)
  refine r_iload dX0_lowerRow_46 rfl ?_
  refine r_aload_n dX0_lowerRow_48 rfl ?_
  refine r_getI qX0_15 dX0_lowerRow_49 g1 g3 (kk := ?_)
  refine r_imul dX0_lowerRow_52 ?_
  refine r_istore dX0_lowerRow_53 (k := ?_)
  refine r_iconst dX0_lowerRow_55 ?_
  refine r_istore dX0_lowerRow_56 (k := ?_)
  have e := loop n 0 (mA M c) (by omega) (fun q hq => absurd hq (Nat.not_lt_zero q)) (fun q _ => rfl)
  rw [sA_id] at e
  exact r_loc' e ⟨rfl, rfl, rfl, rfl, rfl, rfl, trivial⟩
theorem x_initG {a m n : Nat} (hc : mC M a = some (0, 0)) (ha : a < mN M) (hm : 1 ≤ m ∧ m ≤ 300) (hn : 1 ≤ n ∧ n ≤ 10) {mn : Nat} (hmn : m * n = mn) : Ht G iX0_init yX0_init 3 [.ref a, .int (iz (m : Int)), .int (iz (n : Int))] M (rV fun M' => GR M' a (mN M) m n ∧ mN M' = mN M + 1 ∧ (∀ b, b < mN M → b ≠ a → Sm M M' b) ∧ ∀ k, k < mn → mA M' (mN M) k = iz 1000000) nX 1 mn := by
  have hmn2 : m * n ≤ 3000 := Nat.mul_le_mul hm.2 hn.2
  have e0 : (m : Int) * (n : Int) = (mn : Int) := by rw [← hmn, Int.natCast_mul]
  have hne : a ≠ mN M := Nat.ne_of_lt ha
  refine ht_intro (by decide +kernel) rfl rfl rfl (Nat.le_of_ble_eq_true rfl) ?_
  refine r_aload_n dX0_init_0 rfl ?_
  refine r_oinit vX0_3 dX0_init_1 (k := ?_)
  refine r_aload_n dX0_init_4 rfl ?_
  refine r_iload_n dX0_init_5 rfl ?_
  refine r_putI qX0_9 dX0_init_6 hc (kk := ?_)
  refine r_aload_n dX0_init_9 rfl ?_
  refine r_iload_n dX0_init_10 rfl ?_
  refine r_putI qX0_15 dX0_init_11 hc (kk := ?_)
  refine r_aload_n dX0_init_14 rfl ?_
  refine r_iconst dX0_init_15 ?_
  refine r_iload_n dX0_init_16 rfl ?_
  refine r_iload_n dX0_init_17 rfl ?_
  refine r_imul dX0_init_18 ?_
  rw [e0]
  refine r_mmax vX0_18 dX0_init_19 (hc := (by rw [if_pos (by have := Nat.mul_le_mul hm.1 hn.1; omega)] : _ = (mn : Int))) (hm := ⟨by simp [rmd], by simp [rmd]⟩) (k := ?_)
  refine r_newa (aty := .int) (t := 11) wA_int dX0_init_22 rfl (hm := ⟨by simp [rmd], by simp [rmd]⟩) (k := fun hlt hgb => ?_)
  refine r_putR qX0_24 dX0_init_24 ((Sm.nw (M := sI (sI M _ _) _ _) hne).c hc) (kk := ?_)
  refine gm (P := fun M' => GR M' a (mN M) m n ∧ mN M' = mN M + 1 ∧ ∀ b, b < mN M → b ≠ a → Sm M M' b) ⟨⟨(Sm.nw (M := sI (sI M _ _) _ _) hne).c hc, by rw [mI_sR]; refine (Sm.nw (M := sI (sI M _ _) _ _) hne).i ?_; rw [mI_sIn _ _ _ _ (by decide), mI_sI]; simp [upd], by rw [mI_sR]; refine (Sm.nw (M := sI (sI M _ _) _ _) hne).i ?_; rw [mI_sI]; simp [upd], by show mR (sR _ 2 _) 2 a = _; rw [mR_sR, up_s]; rfl, by rw [hmn]; exact nw_c _ _ _, hm.2, hn.2⟩, rfl, fun b hb hba => ((Sm.Iu hba).tr (Sm.Iu hba)).tr ((Sm.nw (M := sI (sI M _ _) _ _) (Nat.ne_of_lt hb)).tr (Sm.Ru hba))⟩ (fun M1 hP => ?_)
  obtain ⟨hg, hN, hS⟩ := hP
  refine r_aload_n dX0_init_27 rfl ?_
  refine r_getR qX0_24 dX0_init_28 hg.1 hg.2.2.2.1 (kk := ?_)
  refine r_ldc (n := 1000000) kX0_28 dX0_init_31 (k := ?_)
  refine r_callS (mi := iX0_init) vX0_29 dX0_init_33 (c_fill (M := M1) (a := mN M) (n := mn) (v := iz 1000000) (by rw [← hmn]; exact hg.2.2.2.2.1) (by omega)) (hm := ⟨by simp [rmd], by simp [rmd]⟩) (k := kPV ?_) (kx := r_nox)
  exact r_vret dX0_init_36 (⟨rfl, hg, hN, fun b hb hba => (hS b hb hba).tr (Sm.A (Nat.ne_of_lt hb)), fun k hk => by rw [mA_sA]; exact if_pos hk⟩)
end GRD
section PSS
variable {G : GC} {M : Mem} {C : CE} {σ : St} {T : Nat}
theorem x_isForward (hX : XB G M C σ) (p : Nat) (hp : p / 2 < σ.1 1) (h16 : σ.1 1 ≤ 16) : Ht G iX3_isForward yX3_isForward 1 [.ref (eA C 5 p)] M (rP (bz (decide (p % 2 = 0))) M) nX 0 0 := by
  refine ht_intro (by decide +kernel) rfl rfl rfl (Nat.le_of_ble_eq_true rfl) ?_
  refine r_aload_n dX3_isForward_0 rfl ?_
  refine r_getI qX3_7 dX3_isForward_1 (hX.k3 p hp) (hX.g192 p hp) (kk := ?_)
  refine r_iconst dX3_isForward_4 ?_
  refine r_iand dX3_isForward_5 (and_1 p (by omega)) ?_
  refine r_if_ne (tgt := 13) dX3_isForward_6 (by decide) (kt := fun z6 => ?_) (kf := fun z6 => ?_)
  · refine r_iconst dX3_isForward_13 ?_
    first
     | exact r_iret dX3_isForward_14 (rP_of (bz_d (by omega)))
     | exact r_iret dX3_isForward_14 (rP_of (bz_nd (by omega)))
  · refine r_iconst dX3_isForward_9 ?_
    refine r_goto (tgt := 14) dX3_isForward_10 (by decide) ?_
    first
     | exact r_iret dX3_isForward_14 (rP_of (bz_d (by omega)))
     | exact r_iret dX3_isForward_14 (rP_of (bz_nd (by omega)))
theorem x_goesBy (hX : XB G M C σ) (hO : Ok σ T) (p h : Nat) (hp : p / 2 < σ.1 1) (hh : h < σ.1 2) : Ht G iX3_goesBy yX3_goesBy 1 [.ref (eA C 5 p), .ref (eA C 2 h)] M (rP (bz (pas σ p h)) M) nX 0 0 := by
  obtain ⟨⟨-, -, p3, -⟩, hS, hH, -⟩ := id hO
  obtain ⟨h1, h2, -⟩ := hH h hh
  have s6 := (hS _ h1).2.2.2.2.2.1
  have e0 : pas σ p h = (decide (p / 2 = σ.2 5 h) && (decide (σ.2 13 (p / 2) = 0) || decide (p % 2 = σ.2 6 h))) := rfl
  refine ht_intro (by decide +kernel) rfl rfl rfl (Nat.le_of_ble_eq_true rfl) ?_
  have fin : ∀ b : Bool, (σ.2 13 (σ.2 5 h) = 0 ∨ σ.2 6 h = p % 2 ↔ b = true) → SWG G iX3_goesBy (rmd 1 0 0) (QF G (rP (bz (pas σ p h)) M) nX 0 0) 28 [(0, .ref (eA C 5 p)), (1, .ref (eA C 2 h))] [.int (bz b)] M 0 0 := by
    intro b hb
    refine r_istore_n dX3_goesBy_28 (k := ?_)
    refine r_iload_n dX3_goesBy_29 rfl ?_
    refine r_bif_eq (tgt := 53) dX3_goesBy_30 (by decide) (kt := fun z30 => ?_) (kf := fun z30 => ?_)
    · refine r_iconst dX3_goesBy_53 ?_
      rw [e0]
      first
       | (have hb2 := hb.mpr z30
          exact r_iret dX3_goesBy_54 (rP_of (bz_T (by rw [show p / 2 = σ.2 5 h by omega, decide_eq_true rfl, Bool.true_and, Bool.or_eq_true, decide_eq_true_eq, decide_eq_true_eq]; omega))))
       | exact r_iret dX3_goesBy_54 (rP_of (bz_F (by rw [decide_eq_false (by omega)]; rfl)))
       | (have hb2 : ¬ (σ.2 13 (σ.2 5 h) = 0 ∨ σ.2 6 h = p % 2) := fun hh => by rw [hb.mp hh] at z30; cases z30
          exact r_iret dX3_goesBy_54 (rP_of (bz_F (by
            by_cases e9 : p / 2 = σ.2 5 h
            · rw [e9, decide_eq_false (show ¬ σ.2 13 (σ.2 5 h) = 0 by omega), decide_eq_false (show ¬ p % 2 = σ.2 6 h by omega)]; exact Bool.and_false _
            · rw [decide_eq_false e9]; rfl))))
    · refine r_aload_n dX3_goesBy_33 rfl ?_
      refine r_getI qX3_7 dX3_goesBy_34 (hX.k3 p hp) (hX.g192 p hp) (kk := ?_)
      refine r_iconst dX3_goesBy_37 ?_
      refine r_ishr dX3_goesBy_38 (shr_1 p (by omega)) ?_
      refine r_aload_n dX3_goesBy_39 rfl ?_
      refine r_getR qX3_22 dX3_goesBy_40 (hX.k1 h hh) (hX.g65 h hh) (kk := ?_)
      refine r_getI qX3_37 dX3_goesBy_43 (hX.k5 _ h1) (hX.g320 _ h1) (kk := ?_)
      refine r_icmp_ne (tgt := 53) dX3_goesBy_46 (by decide) (kt := fun z46 => ?_) (kf := fun z46 => ?_)
      · refine r_iconst dX3_goesBy_53 ?_
        rw [e0]
        first
         | (have hb2 := hb.mpr z30
            exact r_iret dX3_goesBy_54 (rP_of (bz_T (by rw [show p / 2 = σ.2 5 h by omega, decide_eq_true rfl, Bool.true_and, Bool.or_eq_true, decide_eq_true_eq, decide_eq_true_eq]; omega))))
         | exact r_iret dX3_goesBy_54 (rP_of (bz_F (by rw [decide_eq_false (by omega)]; rfl)))
         | (have hb2 : ¬ (σ.2 13 (σ.2 5 h) = 0 ∨ σ.2 6 h = p % 2) := fun hh => by rw [hb.mp hh] at z30; cases z30
            exact r_iret dX3_goesBy_54 (rP_of (bz_F (by
              by_cases e9 : p / 2 = σ.2 5 h
              · rw [e9, decide_eq_false (show ¬ σ.2 13 (σ.2 5 h) = 0 by omega), decide_eq_false (show ¬ p % 2 = σ.2 6 h by omega)]; exact Bool.and_false _
              · rw [decide_eq_false e9]; rfl))))
      · refine r_iconst dX3_goesBy_49 ?_
        refine r_goto (tgt := 54) dX3_goesBy_50 (by decide) ?_
        rw [e0]
        first
         | (have hb2 := hb.mpr z30
            exact r_iret dX3_goesBy_54 (rP_of (bz_T (by rw [show p / 2 = σ.2 5 h by omega, decide_eq_true rfl, Bool.true_and, Bool.or_eq_true, decide_eq_true_eq, decide_eq_true_eq]; omega))))
         | exact r_iret dX3_goesBy_54 (rP_of (bz_F (by rw [decide_eq_false (by omega)]; rfl)))
         | (have hb2 : ¬ (σ.2 13 (σ.2 5 h) = 0 ∨ σ.2 6 h = p % 2) := fun hh => by rw [hb.mp hh] at z30; cases z30
            exact r_iret dX3_goesBy_54 (rP_of (bz_F (by
              by_cases e9 : p / 2 = σ.2 5 h
              · rw [e9, decide_eq_false (show ¬ σ.2 13 (σ.2 5 h) = 0 by omega), decide_eq_false (show ¬ p % 2 = σ.2 6 h by omega)]; exact Bool.and_false _
              · rw [decide_eq_false e9]; rfl))))
  refine r_aload_n dX3_goesBy_0 rfl ?_
  refine r_getR qX3_22 dX3_goesBy_1 (hX.k1 h hh) (hX.g65 h hh) (kk := ?_)
  refine r_getI qX3_28 dX3_goesBy_4 (hX.k5 _ h1) (hX.g323 _ h1) (kk := ?_)
  refine r_if_eq (tgt := 23) dX3_goesBy_7 (by decide) (kt := fun z7 => ?_) (kf := fun z7 => ?_)
  · refine r_iconst dX3_goesBy_23 ?_
    refine r_goto (tgt := 28) dX3_goesBy_24 (by decide) ?_
    first
     | exact r_loc' (fin true (by simp only [iff_true]; omega)) ⟨rfl, rfl, trivial⟩
     | exact r_loc' (fin false (by simp only [Bool.false_eq_true, iff_false]; omega)) ⟨rfl, rfl, trivial⟩
  · refine r_aload_n dX3_goesBy_10 rfl ?_
    refine r_getI qX3_34 dX3_goesBy_11 (hX.k1 h hh) (hX.g66 h hh) (kk := ?_)
    refine r_aload_n dX3_goesBy_14 rfl ?_
    refine r_getI qX3_7 dX3_goesBy_15 (hX.k3 p hp) (hX.g192 p hp) (kk := ?_)
    refine r_iconst dX3_goesBy_18 ?_
    refine r_iand dX3_goesBy_19 (and_1 p (by omega)) ?_
    refine r_icmp_ne (tgt := 27) dX3_goesBy_20 (by decide) (kt := fun z20 => ?_) (kf := fun z20 => ?_)
    · refine r_iconst dX3_goesBy_27 ?_
      first
       | exact r_loc' (fin true (by simp only [iff_true]; omega)) ⟨rfl, rfl, trivial⟩
       | exact r_loc' (fin false (by simp only [Bool.false_eq_true, iff_false]; omega)) ⟨rfl, rfl, trivial⟩
    · refine r_iconst dX3_goesBy_23 ?_
      refine r_goto (tgt := 28) dX3_goesBy_24 (by decide) ?_
      first
       | exact r_loc' (fin true (by simp only [iff_true]; omega)) ⟨rfl, rfl, trivial⟩
       | exact r_loc' (fin false (by simp only [Bool.false_eq_true, iff_false]; omega)) ⟨rfl, rfl, trivial⟩
theorem x_passLengthTo (hX : XB G M C σ) (h16 : σ.1 1 ≤ 16) (p h : Nat) (hp : p / 2 < σ.1 1) (hh : h < σ.1 2) (hl : σ.2 7 h ≤ ln σ p) : Ht G iX3_lengthTo yX3_lengthTo 2 [.ref (eA C 5 p), .ref (eA C 2 h)] M (rP (iz (part σ p h : Int)) M) nX 0 0 := by
  refine ht_intro (by decide +kernel) rfl rfl rfl (Nat.le_of_ble_eq_true rfl) ?_
  refine r_aload_n dX3_lengthTo_0 rfl ?_
  refine r_callV (mi := iX3_lengthTo) vX3_38 dX3_lengthTo_1 (hX.k3 p hp) (x_isForward hX p hp h16) (hm := by exact ⟨Nat.le_of_ble_eq_true rfl, Nat.le_of_ble_eq_true rfl⟩) (k := kP ?_) (kx := r_nox)
  refine r_dif_eq (tgt := 14) dX3_lengthTo_4 (by decide) (kt := fun z4 => ?_) (kf := fun z4 => ?_)
  · refine r_aload_n dX3_lengthTo_14 rfl ?_
    refine r_getI qX3_19 dX3_lengthTo_15 (hX.k3 p hp) (hX.g195 p hp) (kk := ?_)
    refine r_aload_n dX3_lengthTo_18 rfl ?_
    refine r_getI qX3_42 dX3_lengthTo_19 (hX.k1 h hh) (hX.g67 h hh) (kk := ?_)
    refine r_isub dX3_lengthTo_22 ?_
    first
     | exact r_iret dX3_lengthTo_23 (rP_of (congrArg iz (show (σ.2 7 h : Int) = ((part σ p h : Nat) : Int) by unfold part; rw [if_pos (by omega)])))
     | exact r_iret dX3_lengthTo_23 (rP_of (congrArg iz (show (ln σ p : Int) - (σ.2 7 h : Int) = ((part σ p h : Nat) : Int) by unfold part; rw [if_neg (by omega)]; omega)))
  · refine r_aload_n dX3_lengthTo_7 rfl ?_
    refine r_getI qX3_42 dX3_lengthTo_8 (hX.k1 h hh) (hX.g67 h hh) (kk := ?_)
    refine r_goto (tgt := 23) dX3_lengthTo_11 (by decide) ?_
    first
     | exact r_iret dX3_lengthTo_23 (rP_of (congrArg iz (show (σ.2 7 h : Int) = ((part σ p h : Nat) : Int) by unfold part; rw [if_pos (by omega)])))
     | exact r_iret dX3_lengthTo_23 (rP_of (congrArg iz (show (ln σ p : Int) - (σ.2 7 h : Int) = ((part σ p h : Nat) : Int) by unfold part; rw [if_neg (by omega)]; omega)))
/-- behind the constructors -/
def NewP (M : Mem) (a : Nat) (M' : Mem) : Prop := mN M' = mN M ∧ mC M' = mC M ∧ ∀ b, b ≠ a → Sm M M' b
theorem x_initH {a st : Nat} {n s o : Int32} (hc : mC M a = some (1, 0)) : Ht G iX1_init yX1_init 2 [.ref a, .int n, .ref st, .int s, .int o] M (rV fun M' => NewP M a M' ∧ mI M' 64 a = n ∧ mR M' 65 a = some st ∧ mI M' 66 a = s ∧ mI M' 67 a = o ∧ mI M' 68 a = mI M 68 a) nX 0 0 := by
  refine ht_intro (by decide +kernel) rfl rfl rfl (Nat.le_of_ble_eq_true rfl) ?_
  refine r_aload_n dX1_init_0 rfl ?_
  refine r_oinit vX1_1 dX1_init_1 (k := ?_)
  refine r_aload_n dX1_init_4 rfl ?_
  refine r_iload_n dX1_init_5 rfl ?_
  refine r_putI qX1_7 dX1_init_6 hc (kk := ?_)
  refine r_aload_n dX1_init_9 rfl ?_
  refine r_aload_n dX1_init_10 rfl ?_
  refine r_putR qX1_13 dX1_init_11 hc (kk := ?_)
  refine r_aload_n dX1_init_14 rfl ?_
  refine r_iload_n dX1_init_15 rfl ?_
  refine r_putI qX1_17 dX1_init_16 hc (kk := ?_)
  refine r_aload_n dX1_init_19 rfl ?_
  refine r_iload dX1_init_20 rfl ?_
  refine r_putI qX1_20 dX1_init_22 hc (kk := ?_)
  exact r_vret dX1_init_25 (⟨rfl, ⟨rfl, rfl, fun b hb => (((Sm.Iu hb).tr (Sm.Ru hb)).tr (Sm.Iu hb)).tr (Sm.Iu hb)⟩, by rw [mI_sIn _ _ _ _ (by decide), mI_sIn _ _ _ _ (by decide), mI_sR, mI_sI]; simp [upd], by show mR (sR _ _ _) 65 a = _; rw [mR_sR, up_s], by rw [mI_sIn _ _ _ _ (by decide), mI_sI]; simp [upd], by rw [mI_sI]; simp [upd], by rw [mI_sIn _ _ _ _ (by decide), mI_sIn _ _ _ _ (by decide), mI_sR, mI_sIn _ _ _ _ (by decide)]⟩)
theorem x_initP {a st : Nat} {s o : Int32} (hc : mC M a = some (2, 0)) : Ht G iX2_init yX2_init 2 [.ref a, .ref st, .int s, .int o] M (rV fun M' => NewP M a M' ∧ mR M' 128 a = some st ∧ mI M' 129 a = s ∧ mI M' 130 a = o ∧ mI M' 131 a = mI M 131 a) nX 0 0 := by
  refine ht_intro (by decide +kernel) rfl rfl rfl (Nat.le_of_ble_eq_true rfl) ?_
  refine r_aload_n dX2_init_0 rfl ?_
  refine r_oinit vX2_1 dX2_init_1 (k := ?_)
  refine r_aload_n dX2_init_4 rfl ?_
  refine r_aload_n dX2_init_5 rfl ?_
  refine r_putR qX2_7 dX2_init_6 hc (kk := ?_)
  refine r_aload_n dX2_init_9 rfl ?_
  refine r_iload_n dX2_init_10 rfl ?_
  refine r_putI qX2_13 dX2_init_11 hc (kk := ?_)
  refine r_aload_n dX2_init_14 rfl ?_
  refine r_iload_n dX2_init_15 rfl ?_
  refine r_putI qX2_17 dX2_init_16 hc (kk := ?_)
  exact r_vret dX2_init_19 (⟨rfl, ⟨rfl, rfl, fun b hb => ((Sm.Ru hb).tr (Sm.Iu hb)).tr (Sm.Iu hb)⟩, by show mR (sR _ _ _) 128 a = _; rw [mR_sR, up_s], by rw [mI_sIn _ _ _ _ (by decide), mI_sI]; simp [upd], by rw [mI_sI]; simp [upd], by rw [mI_sIn _ _ _ _ (by decide), mI_sIn _ _ _ _ (by decide)]; rfl⟩)
theorem x_initPs {a : Nat} {n f t l : Int32} (hc : mC M a = some (3, 0)) : Ht G iX3_init yX3_init 2 [.ref a, .int n, .int f, .int t, .int l] M (rV fun M' => NewP M a M' ∧ mI M' 192 a = n ∧ mI M' 193 a = f ∧ mI M' 194 a = t ∧ mI M' 195 a = l) nX 0 0 := by
  refine ht_intro (by decide +kernel) rfl rfl rfl (Nat.le_of_ble_eq_true rfl) ?_
  refine r_aload_n dX3_init_0 rfl ?_
  refine r_oinit vX3_1 dX3_init_1 (k := ?_)
  refine r_aload_n dX3_init_4 rfl ?_
  refine r_iload_n dX3_init_5 rfl ?_
  refine r_putI qX3_7 dX3_init_6 hc (kk := ?_)
  refine r_aload_n dX3_init_9 rfl ?_
  refine r_iload_n dX3_init_10 rfl ?_
  refine r_putI qX3_13 dX3_init_11 hc (kk := ?_)
  refine r_aload_n dX3_init_14 rfl ?_
  refine r_iload_n dX3_init_15 rfl ?_
  refine r_putI qX3_16 dX3_init_16 hc (kk := ?_)
  refine r_aload_n dX3_init_19 rfl ?_
  refine r_iload dX3_init_20 rfl ?_
  refine r_putI qX3_19 dX3_init_22 hc (kk := ?_)
  exact r_vret dX3_init_25 (⟨rfl, ⟨rfl, rfl, fun b hb => (((Sm.Iu hb).tr (Sm.Iu hb)).tr (Sm.Iu hb)).tr (Sm.Iu hb)⟩, by rw [mI_sIn _ _ _ _ (by decide), mI_sIn _ _ _ _ (by decide), mI_sIn _ _ _ _ (by decide), mI_sI]; simp [upd], by rw [mI_sIn _ _ _ _ (by decide), mI_sIn _ _ _ _ (by decide), mI_sI]; simp [upd], by rw [mI_sIn _ _ _ _ (by decide), mI_sI]; simp [upd], by rw [mI_sI]; simp [upd]⟩)
theorem x_initR {a : Nat} {l : Int32} (hc : mC M a = some (4, 0)) : Ht G iX4_init yX4_init 2 [.ref a, .int l] M (rV fun M' => NewP M a M' ∧ mI M' 256 a = l) nX 0 0 := by
  refine ht_intro (by decide +kernel) rfl rfl rfl (Nat.le_of_ble_eq_true rfl) ?_
  refine r_aload_n dX4_init_0 rfl ?_
  refine r_oinit vX4_1 dX4_init_1 (k := ?_)
  refine r_aload_n dX4_init_4 rfl ?_
  refine r_iload_n dX4_init_5 rfl ?_
  refine r_putI qX4_7 dX4_init_6 hc (kk := ?_)
  exact r_vret dX4_init_9 (⟨rfl, ⟨rfl, rfl, fun b hb => Sm.Iu hb⟩, by rw [mI_sI]; simp [upd]⟩)
end PSS
