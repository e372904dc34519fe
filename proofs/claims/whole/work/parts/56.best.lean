/-! The class: the best merge. -/
section BST
variable {G : GC} {M M' : Mem} {C : CE} {σ : St} {T : Nat}
/-- the row of the pairs, so far -/
def PM (C : CE) (σ : St) (i j : Nat) (M : Mem) : Prop := ∀ p q, p < σ.1 3 → q < σ.1 3 → (p < i ∨ q < i ∨ (p = i ∧ q < j) ∨ (q = i ∧ p < j)) → mA M (eX C 8) (4 * p + q) = iz (lenI σ (2 ^ p ||| 2 ^ q))
def pc4 : Nat → Nat
  | 0 => 0
  | 1 => 4
  | 2 => 7
  | 3 => 9
  | _ => 10
theorem pc4_s : ∀ i : Nat, i < 4 → pc4 (i + 1) = pc4 i + (4 - i) ∧ pc4 (i + 1) ≤ 10 := by decide +kernel
theorem pc4_le : ∀ i : Nat, i < 5 → pc4 i ≤ 10 := by decide +kernel
theorem PM.put {i j : Nat} (h : PM C σ i j M) (hi : i < 4) (hj : j < 4) (h5 : σ.1 3 ≤ 4) : PM C σ i (j + 1) (sA (sA M (eX C 8) (upd (mA M (eX C 8)) (4 * i + j) (iz (lenI σ (2 ^ i ||| 2 ^ j))))) (eX C 8) (upd (mA (sA M (eX C 8) (upd (mA M (eX C 8)) (4 * i + j) (iz (lenI σ (2 ^ i ||| 2 ^ j))))) (eX C 8)) (4 * j + i) (iz (lenI σ (2 ^ i ||| 2 ^ j))))) := fun p q hp hq hd => by
  rw [mA_sA, mA_sA]
  by_cases e1 : 4 * p + q = 4 * j + i
  · by_cases e3 : p = j ∧ q = i
    · rw [e1]; simp only [upd, if_true]; rw [e3.1, e3.2, Nat.or_comm]
    · simp only [upd, e1, if_true]
      exfalso; omega
  · simp only [upd, if_neg e1]
    by_cases e2 : 4 * p + q = 4 * i + j
    · rw [if_pos e2]
      have e3 : p = i ∧ q = j := by omega
      rw [e3.1, e3.2]
    · rw [if_neg e2]
      exact h p q hp hq (by omega)
theorem x_measurePairs (hM : XM G M C σ) (hO : Ok σ T) : Ht G iX8_measurePairs yX8_measurePairs 24 [.ref (eX C 0)] M (rV fun M' => Kx C M M' ∧ XM G M' C σ ∧ PM C σ (σ.1 3) (σ.1 3) M') nX 320 10720 := by
  have p5 := hO.1.2.2.2.2.1
  refine ht_intro (by decide +kernel) rfl rfl rfl (Nat.le_of_ble_eq_true rfl) ?_
  have inner : ∀ (i : Nat), i < σ.1 3 → (∀ M1, Kx C M M1 → XM G M1 C σ → PM C σ (i + 1) (i + 1) M1 → SWG G iX8_measurePairs (rmd 24 320 10720) (QF G (rV fun M' => Kx C M M' ∧ XM G M' C σ ∧ PM C σ (σ.1 3) (σ.1 3) M') nX 320 10720) 2 [(1, .int (iz ((i + 1 : Nat) : Int))), (0, .ref (eX C 0))] [] M1 (32 * pc4 (i + 1)) (1072 * pc4 (i + 1))) → ∀ (k j : Nat) (M1 : Mem), j + k = σ.1 3 → i ≤ j → Kx C M M1 → XM G M1 C σ → PM C σ i j M1 → SWG G iX8_measurePairs (rmd 24 320 10720) (QF G (rV fun M' => Kx C M M' ∧ XM G M' C σ ∧ PM C σ (σ.1 3) (σ.1 3) M') nX 320 10720) 15 [(2, .int (iz (j : Int))), (1, .int (iz (i : Int))), (0, .ref (eX C 0))] [] M1 (32 * (pc4 i + (j - i))) (1072 * (pc4 i + (j - i))) := by
    intro i hi3 kk k
    obtain ⟨c1, c2⟩ := pc4_s i (by omega)
    induction k with
    | zero =>
      intro j M1 hj hij k1 hM1 hP
      have hX := hM1.1
      refine r_iload_n dX8_measurePairs_15 rfl ?_
      refine r_aload_n dX8_measurePairs_16 rfl ?_
      refine r_getR qX8_19 dX8_measurePairs_17 (hX.x 0 8 0) (hX.f 0 514 3) (kk := ?_)
      refine r_callV (mi := iX8_measurePairs) vX8_77 dX8_measurePairs_20 (hX.x 3 10 0) (c_size (n := σ.1 3) (hX.l 3)) (hm := ⟨by show 32 * (pc4 i + (j - i)) + 0 ≤ 320; omega, by show 1072 * (pc4 i + (j - i)) + 0 ≤ 10720; omega⟩) (k := kP ?_) (kx := r_nox)
      refine r_icmp_ge (tgt := 66) dX8_measurePairs_23 (by decide) (kt := fun z23 => ?_) (kf := fun z23 => (by exfalso; first | omega | simp_all))
      refine r_iinc dX8_measurePairs_66 rfl (k := ?_)
      refine r_goto (tgt := 2) dX8_measurePairs_69 (by decide) ?_
      refine r_wid (kc' := 32 * pc4 (i + 1)) (ks' := 1072 * pc4 (i + 1)) (by show 32 * (pc4 i + (j - i)) + 0 ≤ _; omega) (by show 1072 * (pc4 i + (j - i)) + 0 ≤ _; omega) ?_
      exact r_loc' (kk M1 k1 hM1 (fun p q hp hq hd => hP p q hp hq (by omega))) ⟨rfl, rfl, trivial⟩
    | succ k ih =>
      intro j M1 hj hij k1 hM1 hP
      have hX := hM1.1
      have hj3 : j < σ.1 3 := by omega
      refine r_iload_n dX8_measurePairs_15 rfl ?_
      refine r_aload_n dX8_measurePairs_16 rfl ?_
      refine r_getR qX8_19 dX8_measurePairs_17 (hX.x 0 8 0) (hX.f 0 514 3) (kk := ?_)
      refine r_callV (mi := iX8_measurePairs) vX8_77 dX8_measurePairs_20 (hX.x 3 10 0) (c_size (n := σ.1 3) (hX.l 3)) (hm := ⟨by show 32 * (pc4 i + (j - i)) + 0 ≤ 320; omega, by show 1072 * (pc4 i + (j - i)) + 0 ≤ 10720; omega⟩) (k := kP ?_) (kx := r_nox)
      refine r_icmp_ge (tgt := 66) dX8_measurePairs_23 (by decide) (kt := fun z23 => (by exfalso; first | omega | simp_all)) (kf := fun z23 => ?_)
      refine r_aload_n dX8_measurePairs_26 rfl ?_
      refine r_iload_n dX8_measurePairs_27 rfl ?_
      refine r_callS (mi := iX8_measurePairs) vX8_185 dX8_measurePairs_28 (x_groupOf i (z := i) rfl (by omega)) (hm := ⟨by show 32 * (pc4 i + (j - i)) + 0 + 0 ≤ 320; omega, by show 1072 * (pc4 i + (j - i)) + 0 + 0 ≤ 10720; omega⟩) (k := kP ?_) (kx := r_nox)
      refine r_iload_n dX8_measurePairs_31 rfl ?_
      refine r_callS (mi := iX8_measurePairs) vX8_185 dX8_measurePairs_32 (x_groupOf j (z := j) rfl (by omega)) (hm := ⟨by show 32 * (pc4 i + (j - i)) + 0 + 0 + 0 ≤ 320; omega, by show 1072 * (pc4 i + (j - i)) + 0 + 0 + 0 ≤ 10720; omega⟩) (k := kP ?_) (kx := r_nox)
      refine r_ior dX8_measurePairs_35 (or_bo i (by omega) j (by omega)) ?_
      refine r_callV (mi := iX8_measurePairs) vX8_256 dX8_measurePairs_36 (hX.x 0 8 0) (x_lengthOf hM1 hO (g := 2 ^ i ||| 2 ^ j) (or_16 i (by omega) j (by omega))) (hm := ⟨by show 32 * (pc4 i + (j - i)) + 0 + 0 + 0 + 32 ≤ 320; omega, by show 1072 * (pc4 i + (j - i)) + 0 + 0 + 0 + 1072 ≤ 10720; omega⟩) (k := kI (fun r3 M2 h3 => ?_)) (kx := r_nox)
      obtain ⟨rfl, k3, hM2, h8⟩ := h3
      have hX := hM2.1
      have k1 := k1.tr k3
      have hP2 : PM C σ i j M2 := fun p q hp hq hd => by rw [h8]; exact hP p q hp hq hd
      have w7 := hX.gr 7 4 4
      refine r_wid (kc' := 32 * (pc4 i + (j + 1 - i))) (ks' := 1072 * (pc4 i + (j + 1 - i))) (by show 32 * (pc4 i + (j - i)) + 0 + 0 + 0 + 32 ≤ _; omega) (by show 1072 * (pc4 i + (j - i)) + 0 + 0 + 0 + 1072 ≤ _; omega) ?_
      refine r_istore_n dX8_measurePairs_39 (k := ?_)
      refine r_aload_n dX8_measurePairs_40 rfl ?_
      refine r_getR qX8_46 dX8_measurePairs_41 (hX.x 0 8 0) (hX.f 0 518 7) (kk := ?_)
      refine r_iload_n dX8_measurePairs_44 rfl ?_
      refine r_iload_n dX8_measurePairs_45 rfl ?_
      refine r_iload_n dX8_measurePairs_46 rfl ?_
      refine r_callV (mi := iX8_measurePairs) vX8_375 dX8_measurePairs_47 w7.1 (x_put w7 (show i < 4 by omega) (show j < 4 by omega)) (hm := ⟨by show 32 * (pc4 i + (j + 1 - i)) + 0 ≤ 320; omega, by show 1072 * (pc4 i + (j + 1 - i)) + 0 ≤ 10720; omega⟩) (k := kPV ?_) (kx := r_nox)
      refine r_aload_n dX8_measurePairs_50 rfl ?_
      refine r_getR qX8_46 dX8_measurePairs_51 (hX.x 0 8 0) (hX.f 0 518 7) (kk := ?_)
      refine r_iload_n dX8_measurePairs_54 rfl ?_
      refine r_iload_n dX8_measurePairs_55 rfl ?_
      refine r_iload_n dX8_measurePairs_56 rfl ?_
      refine r_callV (mi := iX8_measurePairs) vX8_375 dX8_measurePairs_57 (show mC (sA M2 (eX C 8) (upd (mA M2 (eX C 8)) (4 * i + j) (iz (lenI σ (2 ^ i ||| 2 ^ j))))) (eX C 7) = some (0, 0) from w7.1) (x_put (show GR (sA M2 (eX C 8) (upd (mA M2 (eX C 8)) (4 * i + j) (iz (lenI σ (2 ^ i ||| 2 ^ j))))) (eX C 7) (eX C 8) 4 4 from w7) (show j < 4 by omega) (show i < 4 by omega)) (hm := ⟨by show 32 * (pc4 i + (j + 1 - i)) + 0 + 0 ≤ 320; omega, by show 1072 * (pc4 i + (j + 1 - i)) + 0 + 0 ≤ 10720; omega⟩) (k := kPV ?_) (kx := r_nox)
      have hP4 := PM.put hP2 (show i < 4 by omega) (show j < 4 by omega) p5
      refine gm (P := fun M4 => (∃ K, M4 = sA M2 (eX C 8) K) ∧ PM C σ i (j + 1) M4) ⟨⟨_, sA_sA _ _ _ _⟩, hP4⟩ (fun M4 h4 => ?_)
      obtain ⟨⟨K, hK⟩, hP4⟩ := h4
      have k4 : Kx C M2 M4 := by rw [hK]; exact Kx.row hX (Or.inl rfl)
      have hM4 : XM G M4 C σ := by
        rw [hK]
        obtain ⟨hX9, l, m, hS, hl, hm⟩ := hM2
        exact ⟨hX9.kx hO (Kx.row hX9 (Or.inl rfl)), l, m, hS.row _ K (hX9.x 8 11 16), hl, hm⟩
      have hX := hM4.1
      refine r_iinc dX8_measurePairs_60 rfl (k := ?_)
      refine r_goto (tgt := 15) dX8_measurePairs_63 (by decide) ?_
      exact r_loc' (ih (j + 1) M4 (by omega) (by omega) (k1.tr k4) hM4 hP4) ⟨rfl, rfl, rfl, trivial⟩
  have outer : ∀ (k i : Nat) (M1 : Mem), i + k = σ.1 3 → Kx C M M1 → XM G M1 C σ → PM C σ i i M1 → SWG G iX8_measurePairs (rmd 24 320 10720) (QF G (rV fun M' => Kx C M M' ∧ XM G M' C σ ∧ PM C σ (σ.1 3) (σ.1 3) M') nX 320 10720) 2 [(1, .int (iz (i : Int))), (0, .ref (eX C 0))] [] M1 (32 * pc4 i) (1072 * pc4 i) := by
    intro k
    induction k with
    | zero =>
      intro i M1 hi k1 hM1 hP
      have hi2 : i = σ.1 3 := by omega
      subst hi2
      have hX := hM1.1
      have c2 := pc4_le (σ.1 3) (by omega)
      refine r_iload_n dX8_measurePairs_2 rfl ?_
      refine r_aload_n dX8_measurePairs_3 rfl ?_
      refine r_getR qX8_19 dX8_measurePairs_4 (hX.x 0 8 0) (hX.f 0 514 3) (kk := ?_)
      refine r_callV (mi := iX8_measurePairs) vX8_77 dX8_measurePairs_7 (hX.x 3 10 0) (c_size (n := σ.1 3) (hX.l 3)) (hm := ⟨by show 32 * pc4 (σ.1 3) + 0 ≤ 320; omega, by show 1072 * pc4 (σ.1 3) + 0 ≤ 10720; omega⟩) (k := kP ?_) (kx := r_nox)
      refine r_icmp_ge (tgt := 72) dX8_measurePairs_10 (by decide) (kt := fun z10 => ?_) (kf := fun z10 => (by exfalso; first | omega | simp_all))
      exact r_vret dX8_measurePairs_72 ⟨rfl, k1, hM1, hP⟩ (hm := ⟨by show 32 * pc4 (σ.1 3) + 0 ≤ 320; omega, by show 1072 * pc4 (σ.1 3) + 0 ≤ 10720; omega⟩)
    | succ k ih =>
      intro i M1 hi k1 hM1 hP
      have hi3 : i < σ.1 3 := by omega
      have hX := hM1.1
      have c2 := pc4_le i (by omega)
      refine r_iload_n dX8_measurePairs_2 rfl ?_
      refine r_aload_n dX8_measurePairs_3 rfl ?_
      refine r_getR qX8_19 dX8_measurePairs_4 (hX.x 0 8 0) (hX.f 0 514 3) (kk := ?_)
      refine r_callV (mi := iX8_measurePairs) vX8_77 dX8_measurePairs_7 (hX.x 3 10 0) (c_size (n := σ.1 3) (hX.l 3)) (hm := ⟨by show 32 * pc4 i + 0 ≤ 320; omega, by show 1072 * pc4 i + 0 ≤ 10720; omega⟩) (k := kP ?_) (kx := r_nox)
      refine r_icmp_ge (tgt := 72) dX8_measurePairs_10 (by decide) (kt := fun z10 => (by exfalso; first | omega | simp_all)) (kf := fun z10 => ?_)
      refine r_iload_n dX8_measurePairs_13 rfl ?_
      refine r_istore_n dX8_measurePairs_14 (k := ?_)
      refine r_wid (kc' := 32 * (pc4 i + (i - i))) (ks' := 1072 * (pc4 i + (i - i))) (by show 32 * pc4 i + 0 ≤ _; omega) (by show 1072 * pc4 i + 0 ≤ _; omega) ?_
      exact r_loc' (inner i hi3 (fun M2 k2 hM2 hP2 => ih (i + 1) M2 (by omega) k2 hM2 hP2) (σ.1 3 - i) i M1 (by omega) (Nat.le_refl _) k1 hM1 hP) ⟨rfl, rfl, rfl, trivial⟩
  refine r_iconst dX8_measurePairs_0 ?_
  refine r_istore_n dX8_measurePairs_1 (k := ?_)
  exact r_loc' (outer (σ.1 3) 0 M (by omega) Kx.rf hM (fun p q hp hq hd => by omega)) ⟨rfl, rfl, trivial⟩
/-- what merging b into a saves, if the limit allows it -/
def swI (σ : St) (a b : Nat) : Int := if lenI σ (2 ^ a) = -1 ∨ lenI σ (2 ^ b) = -1 ∨ ¬ (lenI σ (2 ^ a ||| 2 ^ b) ≠ -1 ∧ lenI σ (2 ^ a ||| 2 ^ b) + sT σ (2 ^ a ||| 2 ^ b) ≤ σ.2 9 a) then 0 else lenI σ (2 ^ a) + lenI σ (2 ^ b) - lenI σ (2 ^ a ||| 2 ^ b)
theorem swI_b (a b : Nat) : -100001 ≤ swI σ a b ∧ swI σ a b ≤ 200001 := by
  have b1 := lenI_b (σ := σ) true (2 ^ a)
  have b2 := lenI_b (σ := σ) true (2 ^ b)
  have b3 := lenI_b (σ := σ) true (2 ^ a ||| 2 ^ b)
  unfold swI
  split <;> omega
theorem bms_sw {a b : Nat} {t : Int × Int} (ha : a < σ.1 3) (hb : b < σ.1 3) (ht : 0 ≤ t.1) : bms σ a b t = if a = b then t else if t.1 < swI σ a b then (swI σ a b, 4 * (a : Int) + b) else t := by
  unfold bms
  rw [show bo (a : Int) (b : Int) = 2 ^ a ||| 2 ^ b from rfl]
  by_cases hab : a = b
  · have h2 : svC σ (a : Int) (b : Int) = 2 := (if_neg (by omega)).trans (if_pos (by omega))
    rw [if_pos hab, if_neg (fun h => by rw [h2] at h; omega)]
  · rw [if_neg hab]
    obtain ⟨s1, s2⟩ := svC_n ha hb hab
    have hw := win_iff (σ := σ) (g := 2 ^ a ||| 2 ^ b) (l := σ.2 9 a)
    by_cases hx : lenX σ a b
    · have h3 := s1 hx
      have h0 : swI σ a b = 0 := by
        refine if_pos ?_
        rcases hx with h | h | h
        · exact Or.inl h
        · exact Or.inr (Or.inl h)
        · exact Or.inr (Or.inr (fun h9 => h9.1 h))
      rw [if_neg (fun h => by rw [h3] at h; omega), h0, if_neg (by omega)]
    · obtain ⟨h3, h4⟩ := s2 hx
      unfold lenX at hx
      have hw3 : hW σ (2 ^ a ||| 2 ^ b) = true := (lenI_w (fun h => hx (Or.inr (Or.inr h)))).2
      by_cases hl : σ.2 9 a < wT σ (2 ^ a ||| 2 ^ b)
      · have h0 : swI σ a b = 0 := if_pos (Or.inr (Or.inr (fun h9 => hw.mp h9 (Or.inr hl))))
        rw [if_neg (fun h => by omega), h0, if_neg (by omega)]
      · have h0 : swI σ a b = svV σ a b := by
          rw [h4]
          refine if_neg (fun h => ?_)
          rcases h with h | h | h
          · exact hx (Or.inl h)
          · exact hx (Or.inr (Or.inl h))
          · exact h (hw.mpr (fun h9 => h9.elim (fun h8 => by rw [hw3] at h8; cases h8) hl))
        rw [h0]
        by_cases ht2 : t.1 < svV σ a b
        · rw [if_pos ⟨h3, ht2, by omega⟩, if_pos ht2]
        · rw [if_neg (fun h => ht2 h.2.1), if_neg ht2]
theorem x_savedWithin (hX : XB G M C σ) (hO : Ok σ T) (hP : PM C σ (σ.1 3) (σ.1 3) M) {a b : Nat} (ha : a < σ.1 3) (hb : b < σ.1 3) : Ht G iX8_savedWithin yX8_savedWithin 24 [.ref (eX C 0), .int (iz (σ.2 9 a : Int)), .int (iz (a : Int)), .int (iz (b : Int))] M (rP (iz (swI σ a b)) M) nX 0 0 := by
  have p5 := hO.1.2.2.2.2.1
  have h9 := hO.2.2.2.1 a ha
  have w7 := hX.gr 7 4 4
  have b1 := lenI_b (σ := σ) true (2 ^ a)
  have b2 := lenI_b (σ := σ) true (2 ^ b)
  have b3 := lenI_b (σ := σ) true (2 ^ a ||| 2 ^ b)
  have q1 := hP a a ha ha (by omega)
  have q2 := hP b b hb hb (by omega)
  have q3 := hP a b ha hb (by omega)
  rw [Nat.or_self] at q1 q2
  refine ht_intro (by decide +kernel) rfl rfl rfl (Nat.le_of_ble_eq_true rfl) ?_
  refine r_iload_n dX8_savedWithin_0 rfl ?_
  refine r_callS (mi := iX8_savedWithin) vX8_185 dX8_savedWithin_1 (x_groupOf a (z := a) rfl (by omega)) (hm := by first | exact ⟨Nat.le_of_ble_eq_true rfl, Nat.le_of_ble_eq_true rfl⟩ | (constructor <;> simp only [rmd] <;> omega)) (k := kP ?_) (kx := r_nox)
  refine r_iload_n dX8_savedWithin_4 rfl ?_
  refine r_callS (mi := iX8_savedWithin) vX8_185 dX8_savedWithin_5 (x_groupOf b (z := b) rfl (by omega)) (hm := by first | exact ⟨Nat.le_of_ble_eq_true rfl, Nat.le_of_ble_eq_true rfl⟩ | (constructor <;> simp only [rmd] <;> omega)) (k := kP ?_) (kx := r_nox)
  refine r_ior dX8_savedWithin_8 (or_bo a (by omega) b (by omega)) ?_
  refine r_istore dX8_savedWithin_9 (k := ?_)
  refine r_aload_n dX8_savedWithin_11 rfl ?_
  refine r_getR qX8_46 dX8_savedWithin_12 (hX.x 0 8 0) (hX.f 0 518 7) (kk := ?_)
  refine r_iload_n dX8_savedWithin_15 rfl ?_
  refine r_iload_n dX8_savedWithin_16 rfl ?_
  refine r_callV (mi := iX8_savedWithin) vX8_195 dX8_savedWithin_17 w7.1 (x_at w7 (show a < 4 by omega) (show a < 4 by omega) q1) (hm := by first | exact ⟨Nat.le_of_ble_eq_true rfl, Nat.le_of_ble_eq_true rfl⟩ | (constructor <;> simp only [rmd] <;> omega)) (k := kP ?_) (kx := r_nox)
  refine r_istore dX8_savedWithin_20 (k := ?_)
  refine r_aload_n dX8_savedWithin_22 rfl ?_
  refine r_getR qX8_46 dX8_savedWithin_23 (hX.x 0 8 0) (hX.f 0 518 7) (kk := ?_)
  refine r_iload_n dX8_savedWithin_26 rfl ?_
  refine r_iload_n dX8_savedWithin_27 rfl ?_
  refine r_callV (mi := iX8_savedWithin) vX8_195 dX8_savedWithin_28 w7.1 (x_at w7 (show b < 4 by omega) (show b < 4 by omega) q2) (hm := by first | exact ⟨Nat.le_of_ble_eq_true rfl, Nat.le_of_ble_eq_true rfl⟩ | (constructor <;> simp only [rmd] <;> omega)) (k := kP ?_) (kx := r_nox)
  refine r_istore dX8_savedWithin_31 (k := ?_)
  refine r_aload_n dX8_savedWithin_33 rfl ?_
  refine r_getR qX8_46 dX8_savedWithin_34 (hX.x 0 8 0) (hX.f 0 518 7) (kk := ?_)
  refine r_iload_n dX8_savedWithin_37 rfl ?_
  refine r_iload_n dX8_savedWithin_38 rfl ?_
  refine r_callV (mi := iX8_savedWithin) vX8_195 dX8_savedWithin_39 w7.1 (x_at w7 (show a < 4 by omega) (show b < 4 by omega) q3) (hm := by first | exact ⟨Nat.le_of_ble_eq_true rfl, Nat.le_of_ble_eq_true rfl⟩ | (constructor <;> simp only [rmd] <;> omega)) (k := kP ?_) (kx := r_nox)
  refine r_istore dX8_savedWithin_42 (k := ?_)
  refine r_iload dX8_savedWithin_44 rfl ?_
  refine r_iconst dX8_savedWithin_46 ?_
  refine r_icmp_eq (tgt := 68) dX8_savedWithin_47 (by decide) (kt := fun z47 => ?_) (kf := fun z47 => ?_)
  · refine r_iconst dX8_savedWithin_68 ?_
    exact r_iret dX8_savedWithin_69 (rP_of (by rw [show swI σ a b = 0 from if_pos (by first | exact Or.inl (by assumption) | exact Or.inr (Or.inl (by assumption)) | exact Or.inr (Or.inr (by assumption)))]))
  · refine r_iload dX8_savedWithin_50 rfl ?_
    refine r_iconst dX8_savedWithin_52 ?_
    refine r_icmp_eq (tgt := 68) dX8_savedWithin_53 (by decide) (kt := fun z53 => ?_) (kf := fun z53 => ?_)
    · refine r_iconst dX8_savedWithin_68 ?_
      exact r_iret dX8_savedWithin_69 (rP_of (by rw [show swI σ a b = 0 from if_pos (by first | exact Or.inl (by assumption) | exact Or.inr (Or.inl (by assumption)) | exact Or.inr (Or.inr (by assumption)))]))
    · refine r_aload_n dX8_savedWithin_56 rfl ?_
      refine r_iload_n dX8_savedWithin_57 rfl ?_
      refine r_iload dX8_savedWithin_58 rfl ?_
      refine r_iload dX8_savedWithin_60 rfl ?_
      refine r_callV (mi := iX8_savedWithin) vX8_259 dX8_savedWithin_62 (hX.x 0 8 0) (x_isWithin hX hO (2 ^ a ||| 2 ^ b) (σ.2 9 a) (lenI σ (2 ^ a ||| 2 ^ b)) (or_16 a (by omega) b (by omega)) h9.2 (by omega)) (hm := by first | exact ⟨Nat.le_of_ble_eq_true rfl, Nat.le_of_ble_eq_true rfl⟩ | (constructor <;> simp only [rmd] <;> omega)) (k := kP ?_) (kx := r_nox)
      refine r_dif_ne (tgt := 70) dX8_savedWithin_65 (by decide) (kt := fun z65 => ?_) (kf := fun z65 => ?_)
      · refine r_iload dX8_savedWithin_70 rfl ?_
        refine r_iload dX8_savedWithin_72 rfl ?_
        refine r_iadd dX8_savedWithin_74 ?_
        refine r_iload dX8_savedWithin_75 rfl ?_
        refine r_isub dX8_savedWithin_77 ?_
        exact r_iret dX8_savedWithin_78 (rP_of (congrArg iz (show _ = swI σ a b from (if_neg (fun h => h.elim z47 (fun h => h.elim z53 (fun h => h z65)))).symm)))
      · refine r_iconst dX8_savedWithin_68 ?_
        exact r_iret dX8_savedWithin_69 (rP_of (by rw [show swI σ a b = 0 from if_pos (by first | exact Or.inl (by assumption) | exact Or.inr (Or.inl (by assumption)) | exact Or.inr (Or.inr (by assumption)))]))
theorem y_bestMerge (hM : XM G M C σ) (hO : Ok σ T) : Ht G iX8_bestMerge yX8_bestMerge 26 [.ref (eX C 0)] M (CR G C M (opBest σ)) (CX G C M (opBest σ) [NSE]) 340 11000 := by
  have p5 := hO.1.2.2.2.2.1
  have hX := hM.1
  refine ht_intro (by decide +kernel) rfl rfl rfl (Nat.le_of_ble_eq_true rfl) ?_
  have inner : ∀ (M1 : Mem), XM G M1 C σ → PM C σ (σ.1 3) (σ.1 3) M1 → ∀ (i : Nat), i < σ.1 3 → (SWG G iX8_bestMerge (rmd 26 340 11000) (QF G (CR G C M (opBest σ)) (CX G C M (opBest σ) [NSE]) 340 11000) 10 [(3, .int (iz ((i + 1 : Nat) : Int))), (2, .int (iz (bmo σ (i + 1)).1)), (1, .int (iz (bmo σ (i + 1)).2)), (0, .ref (eX C 0))] [] M1 330 10900) → ∀ (k j : Nat), j + k = σ.1 3 → SWG G iX8_bestMerge (rmd 26 340 11000) (QF G (CR G C M (opBest σ)) (CX G C M (opBest σ) [NSE]) 340 11000) 40 [(5, .int (iz (j : Int))), (4, .int (iz (σ.2 9 i : Int))), (3, .int (iz (i : Int))), (2, .int (iz (bmi σ i (bmo σ i) j).1)), (1, .int (iz (bmi σ i (bmo σ i) j).2)), (0, .ref (eX C 0))] [] M1 330 10900 := by
    intro M1 hM1 hP i hi3 kk k
    have hX := hM1.1
    induction k with
    | zero =>
      intro j hj
      have hj2 : j = σ.1 3 := by omega
      subst hj2
      refine r_iload dX8_bestMerge_40 rfl ?_
      refine r_aload_n dX8_bestMerge_42 rfl ?_
      refine r_getR qX8_19 dX8_bestMerge_43 (hX.x 0 8 0) (hX.f 0 514 3) (kk := ?_)
      refine r_callV (mi := iX8_bestMerge) vX8_77 dX8_bestMerge_46 (hX.x 3 10 0) (c_size (n := σ.1 3) (hX.l 3)) (hm := by first | exact ⟨Nat.le_of_ble_eq_true rfl, Nat.le_of_ble_eq_true rfl⟩ | (constructor <;> simp only [rmd] <;> omega)) (k := kP ?_) (kx := r_nox)
      refine r_icmp_ge (tgt := 95) dX8_bestMerge_49 (by decide) (kt := fun z49 => ?_) (kf := fun z49 => (by exfalso; first | omega | simp_all))
      refine r_iinc dX8_bestMerge_95 rfl (k := ?_)
      refine r_goto (tgt := 10) dX8_bestMerge_98 (by decide) ?_
      exact r_loc' kk ⟨rfl, rfl, rfl, rfl, trivial⟩
    | succ k ih =>
      intro j hj
      have hj3 : j < σ.1 3 := by omega
      have hok : bmOk (bmi σ i (bmo σ i) j) := bmi_ok (by omega) (bmo_ok p5 i (by omega)) j (by omega)
      unfold bmOk at hok
      have hsw := swI_b (σ := σ) i j
      have hb := bms_sw (σ := σ) (t := bmi σ i (bmo σ i) j) hi3 hj3 hok.1
      have hs : bmi σ i (bmo σ i) (j + 1) = bms σ i j (bmi σ i (bmo σ i) j) := rfl
      rw [hb] at hs
      refine r_iload dX8_bestMerge_40 rfl ?_
      refine r_aload_n dX8_bestMerge_42 rfl ?_
      refine r_getR qX8_19 dX8_bestMerge_43 (hX.x 0 8 0) (hX.f 0 514 3) (kk := ?_)
      refine r_callV (mi := iX8_bestMerge) vX8_77 dX8_bestMerge_46 (hX.x 3 10 0) (c_size (n := σ.1 3) (hX.l 3)) (hm := by first | exact ⟨Nat.le_of_ble_eq_true rfl, Nat.le_of_ble_eq_true rfl⟩ | (constructor <;> simp only [rmd] <;> omega)) (k := kP ?_) (kx := r_nox)
      refine r_icmp_ge (tgt := 95) dX8_bestMerge_49 (by decide) (kt := fun z49 => (by exfalso; first | omega | simp_all)) (kf := fun z49 => ?_)
      refine r_iload_n dX8_bestMerge_52 rfl ?_
      refine r_iload dX8_bestMerge_53 rfl ?_
      refine r_icmp_ne (tgt := 62) dX8_bestMerge_55 (by decide) (kt := fun z55 => ?_) (kf := fun z55 => ?_)
      · refine r_aload_n dX8_bestMerge_62 rfl ?_
        refine r_iload dX8_bestMerge_63 rfl ?_
        refine r_iload_n dX8_bestMerge_65 rfl ?_
        refine r_iload dX8_bestMerge_66 rfl ?_
        refine r_callV (mi := iX8_bestMerge) vX8_284 dX8_bestMerge_68 (hX.x 0 8 0) (x_savedWithin hX hO hP hi3 hj3) (hm := by first | exact ⟨Nat.le_of_ble_eq_true rfl, Nat.le_of_ble_eq_true rfl⟩ | (constructor <;> simp only [rmd] <;> omega)) (k := kP ?_) (kx := r_nox)
        refine r_istore dX8_bestMerge_71 (k := ?_)
        refine r_iload dX8_bestMerge_73 rfl ?_
        refine r_iload_n dX8_bestMerge_75 rfl ?_
        refine r_icmp_le (tgt := 89) dX8_bestMerge_76 (by decide) (kt := fun z76 => ?_) (kf := fun z76 => ?_)
        · refine r_iinc dX8_bestMerge_89 rfl (k := ?_)
          refine r_goto (tgt := 40) dX8_bestMerge_92 (by decide) ?_
          first
           | (exfalso; omega)
           | (rw [if_neg (by omega), if_pos (by omega)] at hs
              exact r_loc' (ih (j + 1) (by omega)) ⟨rfl, rfl, rfl, by rw [hs]; rfl, by rw [hs]; rfl, rfl, trivial⟩)
           | (rw [if_neg (by omega), if_neg (by omega)] at hs
              exact r_loc' (ih (j + 1) (by omega)) ⟨rfl, rfl, rfl, by rw [hs]; rfl, by rw [hs]; rfl, rfl, trivial⟩)
           | (rw [if_pos (by omega)] at hs
              exact r_loc' (ih (j + 1) (by omega)) ⟨rfl, rfl, rfl, by rw [hs]; rfl, by rw [hs]; rfl, rfl, trivial⟩)
        · refine r_iload dX8_bestMerge_79 rfl ?_
          refine r_istore_n dX8_bestMerge_81 (k := ?_)
          refine r_iconst dX8_bestMerge_82 ?_
          refine r_iload_n dX8_bestMerge_83 rfl ?_
          refine r_imul dX8_bestMerge_84 ?_
          refine r_iload dX8_bestMerge_85 rfl ?_
          refine r_iadd dX8_bestMerge_87 ?_
          refine r_istore_n dX8_bestMerge_88 (k := ?_)
          refine r_iinc dX8_bestMerge_89 rfl (k := ?_)
          refine r_goto (tgt := 40) dX8_bestMerge_92 (by decide) ?_
          first
           | (exfalso; omega)
           | (rw [if_neg (by omega), if_pos (by omega)] at hs
              exact r_loc' (ih (j + 1) (by omega)) ⟨rfl, rfl, rfl, by rw [hs]; rfl, by rw [hs]; rfl, rfl, trivial⟩)
           | (rw [if_neg (by omega), if_neg (by omega)] at hs
              exact r_loc' (ih (j + 1) (by omega)) ⟨rfl, rfl, rfl, by rw [hs]; rfl, by rw [hs]; rfl, rfl, trivial⟩)
           | (rw [if_pos (by omega)] at hs
              exact r_loc' (ih (j + 1) (by omega)) ⟨rfl, rfl, rfl, by rw [hs]; rfl, by rw [hs]; rfl, rfl, trivial⟩)
      · refine r_iconst dX8_bestMerge_58 ?_
        refine r_goto (tgt := 71) dX8_bestMerge_59 (by decide) ?_
        refine r_istore dX8_bestMerge_71 (k := ?_)
        refine r_iload dX8_bestMerge_73 rfl ?_
        refine r_iload_n dX8_bestMerge_75 rfl ?_
        refine r_icmp_le (tgt := 89) dX8_bestMerge_76 (by decide) (kt := fun z76 => ?_) (kf := fun z76 => ?_)
        · refine r_iinc dX8_bestMerge_89 rfl (k := ?_)
          refine r_goto (tgt := 40) dX8_bestMerge_92 (by decide) ?_
          first
           | (exfalso; omega)
           | (rw [if_neg (by omega), if_pos (by omega)] at hs
              exact r_loc' (ih (j + 1) (by omega)) ⟨rfl, rfl, rfl, by rw [hs]; rfl, by rw [hs]; rfl, rfl, trivial⟩)
           | (rw [if_neg (by omega), if_neg (by omega)] at hs
              exact r_loc' (ih (j + 1) (by omega)) ⟨rfl, rfl, rfl, by rw [hs]; rfl, by rw [hs]; rfl, rfl, trivial⟩)
           | (rw [if_pos (by omega)] at hs
              exact r_loc' (ih (j + 1) (by omega)) ⟨rfl, rfl, rfl, by rw [hs]; rfl, by rw [hs]; rfl, rfl, trivial⟩)
        · refine r_iload dX8_bestMerge_79 rfl ?_
          refine r_istore_n dX8_bestMerge_81 (k := ?_)
          refine r_iconst dX8_bestMerge_82 ?_
          refine r_iload_n dX8_bestMerge_83 rfl ?_
          refine r_imul dX8_bestMerge_84 ?_
          refine r_iload dX8_bestMerge_85 rfl ?_
          refine r_iadd dX8_bestMerge_87 ?_
          refine r_istore_n dX8_bestMerge_88 (k := ?_)
          refine r_iinc dX8_bestMerge_89 rfl (k := ?_)
          refine r_goto (tgt := 40) dX8_bestMerge_92 (by decide) ?_
          first
           | (exfalso; omega)
           | (rw [if_neg (by omega), if_pos (by omega)] at hs
              exact r_loc' (ih (j + 1) (by omega)) ⟨rfl, rfl, rfl, by rw [hs]; rfl, by rw [hs]; rfl, rfl, trivial⟩)
           | (rw [if_neg (by omega), if_neg (by omega)] at hs
              exact r_loc' (ih (j + 1) (by omega)) ⟨rfl, rfl, rfl, by rw [hs]; rfl, by rw [hs]; rfl, rfl, trivial⟩)
           | (rw [if_pos (by omega)] at hs
              exact r_loc' (ih (j + 1) (by omega)) ⟨rfl, rfl, rfl, by rw [hs]; rfl, by rw [hs]; rfl, rfl, trivial⟩)
  have outer : ∀ (M1 : Mem), XM G M1 C σ → PM C σ (σ.1 3) (σ.1 3) M1 → FX C M M1 → ∀ (k i : Nat), i + k = σ.1 3 → SWG G iX8_bestMerge (rmd 26 340 11000) (QF G (CR G C M (opBest σ)) (CX G C M (opBest σ) [NSE]) 340 11000) 10 [(3, .int (iz (i : Int))), (2, .int (iz (bmo σ i).1)), (1, .int (iz (bmo σ i).2)), (0, .ref (eX C 0))] [] M1 330 10900 := by
    intro M1 hM1 hP hF k
    have hX := hM1.1
    induction k with
    | zero =>
      intro i hi
      have hi2 : i = σ.1 3 := by omega
      subst hi2
      have hok : bmOk (bmo σ (σ.1 3)) := bmo_ok p5 (σ.1 3) (by omega)
      unfold bmOk at hok
      refine r_iload_n dX8_bestMerge_10 rfl ?_
      refine r_aload_n dX8_bestMerge_11 rfl ?_
      refine r_getR qX8_19 dX8_bestMerge_12 (hX.x 0 8 0) (hX.f 0 514 3) (kk := ?_)
      refine r_callV (mi := iX8_bestMerge) vX8_77 dX8_bestMerge_15 (hX.x 3 10 0) (c_size (n := σ.1 3) (hX.l 3)) (hm := by first | exact ⟨Nat.le_of_ble_eq_true rfl, Nat.le_of_ble_eq_true rfl⟩ | (constructor <;> simp only [rmd] <;> omega)) (k := kP ?_) (kx := r_nox)
      refine r_icmp_ge (tgt := 101) dX8_bestMerge_18 (by decide) (kt := fun z18 => ?_) (kf := fun z18 => (by exfalso; first | omega | simp_all))
      refine r_iload_n dX8_bestMerge_101 rfl ?_
      refine r_iconst dX8_bestMerge_102 ?_
      refine r_icmp_ne (tgt := 117) dX8_bestMerge_103 (by decide) (kt := fun z103 => ?_) (kf := fun z103 => ?_)
      · refine r_iload_n dX8_bestMerge_117 rfl ?_
        exact r_iret dX8_bestMerge_118 (cr_of (if_neg (by omega)) rfl (XQ.of hF hM1))
      · exact r_throwXW (mi := iX8_bestMerge) xw_288 hX.gD (text := "no merge saves anything") (is := 290) (by decide +kernel) dX8_bestMerge_106 dX8_bestMerge_109 dX8_bestMerge_110 dX8_bestMerge_113 dX8_bestMerge_116 (hm := by exact ⟨Nat.le_of_ble_eq_true rfl, Nat.le_of_ble_eq_true rfl⟩) (hm2 := by exact ⟨Nat.le_of_ble_eq_true rfl, Nat.le_of_ble_eq_true rfl⟩) (hx := fun n hn => cx_of (c := 0) (if_pos (by omega)) rfl (XQ.tr hF (XQ.n hM1 hO hn)))
    | succ k ih =>
      intro i hi
      have hi3 : i < σ.1 3 := by omega
      refine r_iload_n dX8_bestMerge_10 rfl ?_
      refine r_aload_n dX8_bestMerge_11 rfl ?_
      refine r_getR qX8_19 dX8_bestMerge_12 (hX.x 0 8 0) (hX.f 0 514 3) (kk := ?_)
      refine r_callV (mi := iX8_bestMerge) vX8_77 dX8_bestMerge_15 (hX.x 3 10 0) (c_size (n := σ.1 3) (hX.l 3)) (hm := by first | exact ⟨Nat.le_of_ble_eq_true rfl, Nat.le_of_ble_eq_true rfl⟩ | (constructor <;> simp only [rmd] <;> omega)) (k := kP ?_) (kx := r_nox)
      refine r_icmp_ge (tgt := 101) dX8_bestMerge_18 (by decide) (kt := fun z18 => (by exfalso; first | omega | simp_all)) (kf := fun z18 => ?_)
      refine r_aload_n dX8_bestMerge_21 rfl ?_
      refine r_getR qX8_19 dX8_bestMerge_22 (hX.x 0 8 0) (hX.f 0 514 3) (kk := ?_)
      refine r_iload_n dX8_bestMerge_25 rfl ?_
      refine r_callV (mi := iX8_bestMerge) vX8_153 dX8_bestMerge_26 (hX.x 3 10 0) (c_get (hX.l 3) (hi3) (hX.q 3 _ (hi3))) (hm := by first | exact ⟨Nat.le_of_ble_eq_true rfl, Nat.le_of_ble_eq_true rfl⟩ | (constructor <;> simp only [rmd] <;> omega)) (k := kPA ?_) (kx := r_nox)
      refine r_cast nX8_120.1 dX8_bestMerge_29 (hX.k4 _ (hi3)) (k := ?_)
      refine r_getI qX8_253 dX8_bestMerge_32 (hX.k4 i hi3) (hX.g256 i hi3) (kk := ?_)
      refine r_istore dX8_bestMerge_35 (k := ?_)
      refine r_iconst dX8_bestMerge_37 ?_
      refine r_istore dX8_bestMerge_38 (k := ?_)
      exact r_loc' (inner M1 hM1 hP i hi3 (ih (i + 1) (by omega)) (σ.1 3) 0 (by omega)) ⟨rfl, rfl, rfl, rfl, rfl, rfl, trivial⟩
  refine r_aload_n dX8_bestMerge_0 rfl ?_
  refine r_callV (mi := iX8_bestMerge) vX8_281 dX8_bestMerge_1 (hX.x 0 8 0) (x_measurePairs hM hO) (hm := by first | exact ⟨Nat.le_of_ble_eq_true rfl, Nat.le_of_ble_eq_true rfl⟩ | (constructor <;> simp only [rmd] <;> omega)) (k := kV (fun M1 h1 => ?_)) (kx := r_nox)
  obtain ⟨k1, hM1, hP⟩ := h1
  refine r_iconst dX8_bestMerge_4 ?_
  refine r_istore_n dX8_bestMerge_5 (k := ?_)
  refine r_iconst dX8_bestMerge_6 ?_
  refine r_istore_n dX8_bestMerge_7 (k := ?_)
  refine r_iconst dX8_bestMerge_8 ?_
  refine r_istore_n dX8_bestMerge_9 (k := ?_)
  refine r_wid (kc' := 330) (ks' := 10900) (Nat.le_of_ble_eq_true rfl) (Nat.le_of_ble_eq_true rfl) ?_
  exact r_loc' (outer M1 hM1 hP k1.fx (σ.1 3) 0 (by omega)) ⟨rfl, rfl, rfl, rfl, trivial⟩
end BST
