/-! The class: trying all orders, what is told of lengths and times. -/
section TRY
variable {G : GC} {M M' : Mem} {C : CE} {σ : St} {T : Nat}
theorem pc_dn : ∀ L : Nat, L < 256 → ∀ u : Nat, u < 8 → L.testBit u = true → cnt (fun v => (L - 2 ^ u).testBit v) 8 + 1 = cnt (fun v => L.testBit v) 8 := by decide +kernel
theorem pc_z : ∀ L : Nat, L < 256 → cnt (fun v => L.testBit v) 8 = 0 → L = 0 := by decide +kernel
theorem x_tried (hX : XB G M C σ) (hO : Ok σ T) {g : Nat} {m : List Nat} (hV : CW G M C σ (uns σ g (σ.1 1)) m) (hn : uN σ g ≤ 8) : ∀ (k L p dep : Nat), cnt (fun v => L.testBit v) 8 ≤ k → dep + k ≤ 5 → L ≤ 2 ^ uN σ g - 1 → p < σ.1 0 → Ht G iX6_triedRest yX6_triedRest (8 + k) [.ref (eX C 6), .int (iz (L : Int)), .int (iz (p : Int)), .int (iz (dep : Int))] M (rP (iz (rT0 σ g L p : Int)) M) nX 0 0 := by
  have p2 := hO.1.2.1
  have p1 := hO.1.1
  have hal := all_256 hn
  have w6 := hX.gr 11 10 10
  obtain ⟨e, c, hLL, hq⟩ := hV.list
  have hcM : cM σ g ≤ 16 := by
    have := chl_len σ (uU σ g) (uN σ g)
    show (chl σ (uU σ g) (uN σ g)).length ≤ 16
    omega
  intro k
  induction k with
  | zero =>
    intro L p dep hk hd hL hp
    have hL0 : L = 0 := pc_z L (by omega) (by omega)
    subst hL0
    refine ht_intro (by decide +kernel) rfl rfl rfl (Nat.le_of_ble_eq_true rfl) ?_
    refine r_iload_n dX6_triedRest_0 rfl ?_
    refine r_if_ne (tgt := 17) dX6_triedRest_1 (by decide) (kt := fun z1 => (by exfalso; first | omega | simp_all)) (kf := fun z1 => ?_)
    refine r_aload_n dX6_triedRest_4 rfl ?_
    refine r_getR qX6_9 dX6_triedRest_5 (hX.x 6 6 0) (hX.f 6 384 5) (kk := ?_)
    refine r_getR qX6_75 dX6_triedRest_8 (hX.x 5 7 0) (hX.f 5 449 11) (kk := ?_)
    refine r_iload_n dX6_triedRest_11 rfl ?_
    refine r_iconst dX6_triedRest_12 ?_
    refine r_callV (mi := iX6_triedRest) vX6_87 dX6_triedRest_13 w6.1 (x_at w6 (show p < 10 by omega) (show 0 < 10 by decide) (hX.gl p 0 (by omega) (by decide))) (hm := by first | exact ⟨Nat.le_of_ble_eq_true rfl, Nat.le_of_ble_eq_true rfl⟩ | (constructor <;> simp only [rmd] <;> omega)) (k := kP ?_) (kx := r_nox)
    exact r_iret dX6_triedRest_16 (rP_of (by rw [rT0_0, ld_sym]))
  | succ k ih =>
    intro L p dep hk hd hL hp
    refine ht_intro (by decide +kernel) rfl rfl rfl (Nat.le_of_ble_eq_true rfl) ?_
    have hL256 : L < 256 := by omega
    have loop : 1 ≤ L → ∀ (j i : Nat), i + j = cM σ g → SWG G iX6_triedRest (rmd (8 + (k + 1)) 0 0) (QF G (rP (iz (rT0 σ g L p : Int)) M) nX 0 0) 32 [(5, .int (iz (i : Int))), (4, .int (iz (rw0 σ g L p i : Int))), (0, .ref (eX C 6)), (1, .int (iz (L : Int))), (2, .int (iz (p : Int))), (3, .int (iz (dep : Int)))] [] M 0 0 := by
      intro hL1 j
      induction j with
      | zero =>
        intro i hi
        have hi2 : i = cM σ g := by omega
        subst hi2
        refine r_iload dX6_triedRest_32 rfl ?_
        refine r_aload_n dX6_triedRest_34 rfl ?_
        refine r_getR qX6_18 dX6_triedRest_35 (hX.x 6 6 0) (hX.f 6 385 15) (kk := ?_)
        refine r_callV (mi := iX6_triedRest) vX6_71 dX6_triedRest_38 (hX.x 15 10 0) (c_size hLL) (hR := (by constructor <;> simp only [rmd] <;> omega)) (hm := (by constructor <;> simp only [rmd] <;> omega)) (k := kP ?_) (kx := r_nox)
        refine r_icmp_ge (tgt := 129) dX6_triedRest_41 (by decide) (kt := fun z41 => ?_) (kf := fun z41 => (by exfalso; first | omega | simp_all))
        refine r_iload dX6_triedRest_129 rfl ?_
        exact r_iret dX6_triedRest_131 (rP_of (by rw [rw0_all hO hn hL1 hL (by omega)]; rfl))
      | succ j ihj =>
        intro i hi
        have hi3 : i < cM σ g := by omega
        obtain ⟨q1, q2⟩ := hq i hi3
        obtain ⟨i1, i2, -⟩ := cC_in (σ := σ) (g := g) hi3
        obtain ⟨f1, f2, f3, f4⟩ := fr_lt hO.st i2
        obtain ⟨lb1, lb2⟩ := lbit (uN σ g) (by omega) L (by omega) _ i1
        have hle := rT0_le (σ := σ) g (L - 2 ^ (cC σ g i).2) (tt σ (cC σ g i).1)
        have hle2 := rw0_le (σ := σ) g L p i
        have hle3 := ld_le (σ := σ) p (fr σ (cC σ g i).1)
        have tp := Nat.two_pow_pos (cC σ g i).2
        have hti : (if L.testBit (cC σ g i).2 = true then 2 ^ (cC σ g i).2 else 0 : Nat) ≤ 256 := by
          split
          · next h => have := (lb2 h).1; omega
          · omega
        refine r_iload dX6_triedRest_32 rfl ?_
        refine r_aload_n dX6_triedRest_34 rfl ?_
        refine r_getR qX6_18 dX6_triedRest_35 (hX.x 6 6 0) (hX.f 6 385 15) (kk := ?_)
        refine r_callV (mi := iX6_triedRest) vX6_71 dX6_triedRest_38 (hX.x 15 10 0) (c_size hLL) (hR := (by constructor <;> simp only [rmd] <;> omega)) (hm := (by constructor <;> simp only [rmd] <;> omega)) (k := kP ?_) (kx := r_nox)
        refine r_icmp_ge (tgt := 129) dX6_triedRest_41 (by decide) (kt := fun z41 => (by exfalso; first | omega | simp_all)) (kf := fun z41 => ?_)
        refine r_aload_n dX6_triedRest_44 rfl ?_
        refine r_getR qX6_18 dX6_triedRest_45 (hX.x 6 6 0) (hX.f 6 385 15) (kk := ?_)
        refine r_iload dX6_triedRest_48 rfl ?_
        refine r_callV (mi := iX6_triedRest) vX6_80 dX6_triedRest_50 (hX.x 15 10 0) (c_get hLL hi3 q1) (hR := (by constructor <;> simp only [rmd] <;> omega)) (hm := (by constructor <;> simp only [rmd] <;> omega)) (k := kPA ?_) (kx := r_nox)
        refine r_cast nX6_63.1 dX6_triedRest_53 (hX.k3 _ i2) (k := ?_)
        refine r_astore dX6_triedRest_56 (k := ?_)
        refine r_iload_n dX6_triedRest_58 rfl ?_
        refine r_aload dX6_triedRest_59 rfl ?_
        refine r_getI qX6_62 dX6_triedRest_61 (hX.k3 _ i2) q2 (kk := ?_)
        refine r_iand dX6_triedRest_64 (and_bit _ (by omega) L hL256) ?_
        refine r_if_eq (tgt := 123) dX6_triedRest_65 (by decide) (kt := fun z65 => ?_) (kf := fun z65 => ?_)
        · refine r_iinc dX6_triedRest_123 rfl (k := ?_)
          refine r_goto (tgt := 32) dX6_triedRest_126 (by decide) ?_
          first
           | (have e9 : rw0 σ g L p (i + 1) = min (rw0 σ g L p i) (ln σ (cC σ g i).1 + rT0 σ g (L - 2 ^ (cC σ g i).2) (tt σ (cC σ g i).1) + ld σ p (fr σ (cC σ g i).1)) := by
                show (if L.testBit (cC σ g i).2 = true then _ else _) = _
                rw [if_pos hb, ld_sym p]; rfl
              exact r_loc' (ihj (i + 1) (by omega)) ⟨rfl, by rw [e9]; rfl, rfl, rfl, rfl, rfl, trivial⟩)
           | (have hb : ¬ L.testBit (cC σ g i).2 = true := fun h => by rw [if_pos h] at z65; omega
              have e9 : rw0 σ g L p (i + 1) = rw0 σ g L p i := by
                show (if L.testBit (cC σ g i).2 = true then _ else _) = _
                rw [if_neg hb]
              exact r_loc' (ihj (i + 1) (by omega)) ⟨rfl, by rw [e9]; rfl, rfl, rfl, rfl, rfl, trivial⟩)
        · have hb : L.testBit (cC σ g i).2 = true := by
            cases h : L.testBit (cC σ g i).2 with
            | true => rfl
            | false => rw [h] at z65; exact absurd rfl z65
          obtain ⟨lb3, lb4⟩ := lb2 hb
          have eLd : Ld L (cC σ g i).2 = L - 2 ^ (cC σ g i).2 := if_pos hb
          have hpc := pc_dn L hL256 (cC σ g i).2 (by omega) hb
          refine r_aload_n dX6_triedRest_68 rfl ?_
          refine r_getR qX6_9 dX6_triedRest_69 (hX.x 6 6 0) (hX.f 6 384 5) (kk := ?_)
          refine r_getR qX6_75 dX6_triedRest_72 (hX.x 5 7 0) (hX.f 5 449 11) (kk := ?_)
          refine r_iload_n dX6_triedRest_75 rfl ?_
          refine r_aload dX6_triedRest_76 rfl ?_
          refine r_getI qX6_84 dX6_triedRest_78 (hX.k3 _ i2) (hX.g193 _ i2) (kk := ?_)
          refine r_callV (mi := iX6_triedRest) vX6_87 dX6_triedRest_81 w6.1 (x_at w6 (show p < 10 by omega) (show fr σ (cC σ g i).1 < 10 by omega) (hX.gl p _ (by omega) (by omega))) (hR := (by constructor <;> simp only [rmd] <;> omega)) (hm := (by constructor <;> simp only [rmd] <;> omega)) (k := kP ?_) (kx := r_nox)
          refine r_aload dX6_triedRest_84 rfl ?_
          refine r_getI qX6_107 dX6_triedRest_86 (hX.k3 _ i2) (hX.g195 _ i2) (kk := ?_)
          refine r_iadd dX6_triedRest_89 ?_
          refine r_istore dX6_triedRest_90 (k := ?_)
          refine r_iload dX6_triedRest_92 rfl ?_
          refine r_iload dX6_triedRest_94 rfl ?_
          refine r_aload_n dX6_triedRest_96 rfl ?_
          refine r_iload_n dX6_triedRest_97 rfl ?_
          refine r_aload dX6_triedRest_98 rfl ?_
          refine r_getI qX6_62 dX6_triedRest_100 (hX.k3 _ i2) q2 (kk := ?_)
          refine r_iconst dX6_triedRest_103 ?_
          refine r_ixor dX6_triedRest_104 (rfl) ?_
          refine r_iand dX6_triedRest_105 ((and_not _ (by omega) L hL256).trans (by rw [eLd])) ?_
          refine r_aload dX6_triedRest_106 rfl ?_
          refine r_getI qX6_110 dX6_triedRest_108 (hX.k3 _ i2) (hX.g194 _ i2) (kk := ?_)
          refine r_iload_n dX6_triedRest_111 rfl ?_
          refine r_iconst dX6_triedRest_112 ?_
          refine r_iadd dX6_triedRest_113 ?_
          refine r_callS (mi := iX6_triedRest) vX6_113 dX6_triedRest_114 (ih (L - 2 ^ (cC σ g i).2) (tt σ (cC σ g i).1) (dep + 1) (by omega) (by omega) (by omega) f2) (hR := (by constructor <;> simp only [rmd] <;> first | omega | (show 8 + (8 + 11) + 64 * (8 + k) ≤ 64 * (8 + (k + 1)); omega))) (hm := (by constructor <;> simp only [rmd] <;> omega)) (k := kP ?_) (kx := r_nox)
          refine r_iadd dX6_triedRest_117 ?_
          refine r_mmin vX6_117 dX6_triedRest_118 (hc := (by by_cases e9 : ((ld σ p (fr σ (cC σ g i).1) : Int) + (ln σ (cC σ g i).1 : Int)) + (rT0 σ g (L - 2 ^ (cC σ g i).2) (tt σ (cC σ g i).1) : Int) < (rw0 σ g L p i : Int); rw [if_pos e9]; omega; rw [if_neg e9]; omega : _ = ((min (rw0 σ g L p i) (ln σ (cC σ g i).1 + rT0 σ g (L - 2 ^ (cC σ g i).2) (tt σ (cC σ g i).1) + ld σ p (fr σ (cC σ g i).1)) : Nat) : Int))) (hm := (by constructor <;> simp only [rmd] <;> omega)) (hR1 := (by constructor <;> simp only [rmd] <;> first | omega | (show 0 + 13 ≤ 64 * (8 + (k + 1)); omega))) (k := ?_)
          refine r_istore dX6_triedRest_121 (k := ?_)
          refine r_iinc dX6_triedRest_123 rfl (k := ?_)
          refine r_goto (tgt := 32) dX6_triedRest_126 (by decide) ?_
          first
           | (have e9 : rw0 σ g L p (i + 1) = min (rw0 σ g L p i) (ln σ (cC σ g i).1 + rT0 σ g (L - 2 ^ (cC σ g i).2) (tt σ (cC σ g i).1) + ld σ p (fr σ (cC σ g i).1)) := by
                show (if L.testBit (cC σ g i).2 = true then _ else _) = _
                rw [if_pos hb, ld_sym p]; rfl
              exact r_loc' (ihj (i + 1) (by omega)) ⟨rfl, by rw [e9]; rfl, rfl, rfl, rfl, rfl, trivial⟩)
           | (have hb : ¬ L.testBit (cC σ g i).2 = true := fun h => by rw [if_pos h] at z65; omega
              have e9 : rw0 σ g L p (i + 1) = rw0 σ g L p i := by
                show (if L.testBit (cC σ g i).2 = true then _ else _) = _
                rw [if_neg hb]
              exact r_loc' (ihj (i + 1) (by omega)) ⟨rfl, by rw [e9]; rfl, rfl, rfl, rfl, rfl, trivial⟩)
    by_cases hL0 : L = 0
    · subst hL0
      skip
      refine r_iload_n dX6_triedRest_0 rfl ?_
      refine r_if_ne (tgt := 17) dX6_triedRest_1 (by decide) (kt := fun z1 => (by exfalso; first | omega | simp_all)) (kf := fun z1 => ?_)
      refine r_aload_n dX6_triedRest_4 rfl ?_
      refine r_getR qX6_9 dX6_triedRest_5 (hX.x 6 6 0) (hX.f 6 384 5) (kk := ?_)
      refine r_getR qX6_75 dX6_triedRest_8 (hX.x 5 7 0) (hX.f 5 449 11) (kk := ?_)
      refine r_iload_n dX6_triedRest_11 rfl ?_
      refine r_iconst dX6_triedRest_12 ?_
      refine r_callV (mi := iX6_triedRest) vX6_87 dX6_triedRest_13 w6.1 (x_at w6 (show p < 10 by omega) (show 0 < 10 by decide) (hX.gl p 0 (by omega) (by decide))) (hR := (by constructor <;> simp only [rmd] <;> omega)) (hm := (by constructor <;> simp only [rmd] <;> omega)) (k := kP ?_) (kx := r_nox)
      exact r_iret dX6_triedRest_16 (rP_of (by rw [rT0_0, ld_sym]))
    · skip
      refine r_iload_n dX6_triedRest_0 rfl ?_
      refine r_if_ne (tgt := 17) dX6_triedRest_1 (by decide) (kt := fun z1 => ?_) (kf := fun z1 => (by exfalso; first | omega | simp_all))
      refine r_ldc (n := 1000000) kX6_91 dX6_triedRest_17 (k := ?_)
      refine r_istore dX6_triedRest_19 (k := ?_)
      refine r_iload_n dX6_triedRest_21 rfl ?_
      refine r_iconst dX6_triedRest_22 ?_
      refine r_icmp_lt (tgt := 29) dX6_triedRest_23 (by decide) (kt := fun z23 => ?_) (kf := fun z23 => (by exfalso; first | omega | simp_all))
      refine r_iconst dX6_triedRest_29 ?_
      refine r_istore dX6_triedRest_30 (k := ?_)
      exact r_loc' (loop (by omega) (cM σ g) 0 (by omega)) ⟨rfl, rfl, rfl, rfl, rfl, rfl, trivial⟩
theorem x_tryAll (hX : XB G M C σ) (hO : Ok σ T) {g : Nat} {m : List Nat} (hV : CW G M C σ (uns σ g (σ.1 1)) m) (hW1 : hW σ g = true) (h5 : uN σ g ≤ 5) : Ht G iX6_leastLengthByTrying yX6_leastLengthByTrying 16 [.ref (eX C 6)] M (rP (iz (wL σ g : Int)) M) nX 0 0 := by
  have p1 := hO.1.1
  have h390 := hV.2.1
  rw [uns_l] at h390
  have hpc : ∀ n : Nat, n < 6 → cnt (fun v => (2 ^ n - 1).testBit v) 8 ≤ 5 := by decide +kernel
  have e0 : rT0 σ g (2 ^ uN σ g - 1) 0 = wL σ g := by
    unfold rT0
    rw [Nat.sub_self]
    exact cp_of (hW_iff.mp hW1).2
  refine ht_intro (by decide +kernel) rfl rfl rfl (Nat.le_of_ble_eq_true rfl) ?_
  refine r_aload_n dX6_leastLengthByTrying_0 rfl ?_
  refine r_aload_n dX6_leastLengthByTrying_1 rfl ?_
  refine r_callV (mi := iX6_leastLengthByTrying) vX6_100 dX6_leastLengthByTrying_2 (hX.x 6 6 0) (x_allNeeds hX (by omega) h390) (hm := by first | exact ⟨Nat.le_of_ble_eq_true rfl, Nat.le_of_ble_eq_true rfl⟩ | (constructor <;> simp only [rmd] <;> omega)) (k := kP ?_) (kx := r_nox)
  refine r_iconst dX6_leastLengthByTrying_5 ?_
  refine r_iconst dX6_leastLengthByTrying_6 ?_
  refine r_callS (mi := iX6_leastLengthByTrying) vX6_113 dX6_leastLengthByTrying_7 (x_tried hX hO hV (by omega) 5 (2 ^ uN σ g - 1) 0 0 (hpc _ (by omega)) (by omega) (Nat.le_refl _) (by omega)) (hm := by first | exact ⟨Nat.le_of_ble_eq_true rfl, Nat.le_of_ble_eq_true rfl⟩ | (constructor <;> simp only [rmd] <;> omega)) (k := kP ?_) (kx := r_nox)
  exact r_iret dX6_leastLengthByTrying_10 (rP_of (by rw [e0]))
end TRY
