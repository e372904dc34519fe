/-! The class: what merging saves; rounds are merged. -/
section MRC
variable {G : GC} {M M' : Mem} {C : CE} {σ : St} {T : Nat}
theorem or_bo : ∀ a : Nat, a < 4 → ∀ b : Nat, b < 4 → iz ((2 ^ a : Nat) : Int) ||| iz ((2 ^ b : Nat) : Int) = iz ((2 ^ a ||| 2 ^ b : Nat) : Int) := by decide +kernel
theorem lenI_m {g : Nat} : lenI σ g = -1 ↔ hW σ g = false := by
  unfold lenI
  cases hW σ g with
  | true => rw [if_pos rfl]; exact ⟨fun h => by omega, fun h => by cases h⟩
  | false => rw [if_neg (by decide)]; exact ⟨fun _ => rfl, fun _ => rfl⟩
theorem lenI_w {g : Nat} (h : lenI σ g ≠ -1) : lenI σ g = wL σ g ∧ hW σ g = true := by
  have h2 : hW σ g = true := by
    cases hw : hW σ g with
    | true => rfl
    | false => exact absurd (lenI_m.mpr hw) h
  exact ⟨if_pos h2, h2⟩
def lenX (σ : St) (x y : Nat) : Prop := lenI σ (2 ^ x) = -1 ∨ lenI σ (2 ^ y) = -1 ∨ lenI σ (2 ^ x ||| 2 ^ y) = -1
theorem svC_n {x y : Nat} (hx : x < σ.1 3) (hy : y < σ.1 3) (hne : x ≠ y) : (lenX σ x y → svC σ x y = 3) ∧ (¬ lenX σ x y → svC σ x y = 0 ∧ svV σ x y = lenI σ (2 ^ x) + lenI σ (2 ^ y) - lenI σ (2 ^ x ||| 2 ^ y)) := by
  have e : svC σ x y = if hW σ (2 ^ x) = false ∨ hW σ (2 ^ y) = false ∨ hW σ (2 ^ x ||| 2 ^ y) = false then 3 else 0 := by
    unfold svC
    rw [if_neg (by omega), if_neg (by omega)]
    rfl
  rw [e]
  unfold lenX
  constructor
  · rintro (h | h | h)
    · exact if_pos (Or.inl (lenI_m.mp h))
    · exact if_pos (Or.inr (Or.inl (lenI_m.mp h)))
    · exact if_pos (Or.inr (Or.inr (lenI_m.mp h)))
  · intro h
    obtain ⟨w1, v1⟩ := lenI_w (fun h9 => h (Or.inl h9))
    obtain ⟨w2, v2⟩ := lenI_w (fun h9 => h (Or.inr (Or.inl h9)))
    obtain ⟨w3, v3⟩ := lenI_w (fun h9 => h (Or.inr (Or.inr h9)))
    refine ⟨if_neg (fun h9 => by rw [v1, v2, v3] at h9; simp at h9), ?_⟩
    rw [w1, w2, w3]; rfl
theorem svC_0 {x y : Int} (h : svC σ x y = 0) : ∃ a b : Nat, x = a ∧ y = b ∧ a < σ.1 3 ∧ b < σ.1 3 ∧ a ≠ b ∧ hW σ (2 ^ a) = true ∧ hW σ (2 ^ b) = true ∧ hW σ (2 ^ a ||| 2 ^ b) = true := by
  unfold svC at h
  by_cases h1 : ¬ bt2 x 0 (σ.1 3 - 1) ∨ ¬ bt2 y 0 (σ.1 3 - 1)
  · rw [if_pos h1] at h; cases h
  · rw [if_neg h1] at h
    by_cases h2 : x = y
    · rw [if_pos h2] at h; cases h
    · rw [if_neg h2] at h
      have hx : bt2 x 0 (σ.1 3 - 1) := Classical.byContradiction fun h9 => h1 (Or.inl h9)
      have hy : bt2 y 0 (σ.1 3 - 1) := Classical.byContradiction fun h9 => h1 (Or.inr h9)
      obtain ⟨a, rfl⟩ := nat_of (a := x) (by omega)
      obtain ⟨b, rfl⟩ := nat_of (a := y) (by omega)
      refine ⟨a, b, rfl, rfl, by omega, by omega, by omega, ?_⟩
      rw [Int.toNat_natCast, Int.toNat_natCast, show bo (a : Int) (b : Int) = 2 ^ a ||| 2 ^ b from rfl] at h
      by_cases h3 : hW σ (2 ^ a) = false ∨ hW σ (2 ^ b) = false ∨ hW σ (2 ^ a ||| 2 ^ b) = false
      · rw [if_pos h3] at h; cases h
      · cases w1 : hW σ (2 ^ a) with
        | false => exact absurd (Or.inl w1) h3
        | true =>
          cases w2 : hW σ (2 ^ b) with
          | false => exact absurd (Or.inr (Or.inl w2)) h3
          | true =>
            cases w3 : hW σ (2 ^ a ||| 2 ^ b) with
            | false => exact absurd (Or.inr (Or.inr w3)) h3
            | true => exact ⟨rfl, rfl, rfl⟩
theorem x_checkedSaving (hM : XM G M C σ) (hO : Ok σ T) (x y : Int) (ha : inR x) (hb : inR y) : Ht G iX8_checkedSaving yX8_checkedSaving 24 [.ref (eX C 0), .int (iz x), .int (iz y)] M (rI fun r M' => svC σ x y = 0 ∧ r = iz (svV σ x y) ∧ Kx C M M' ∧ XM G M' C σ) (CX G C M (opSaving σ x y) [NSE, IAE, ISE]) 100 3300 := by
  have hX := hM.1
  have p5 := hO.1.2.2.2.2.1
  refine ht_intro (by decide +kernel) rfl rfl rfl (Nat.le_of_ble_eq_true rfl) ?_
  refine r_aload_n dX8_checkedSaving_0 rfl ?_
  refine r_iload_n dX8_checkedSaving_1 rfl ?_
  refine r_callV (mi := iX8_checkedSaving) vX8_124 dX8_checkedSaving_2 (hX.x 0 8 0) (x_findRound hX (by omega) x ha) (hm := by first | exact ⟨Nat.le_of_ble_eq_true rfl, Nat.le_of_ble_eq_true rfl⟩ | (constructor <;> simp only [rmd] <;> omega)) (k := kT (fun hb1 => kPA ?_)) (kx := kxT (fun hb1 n hn => cx_rd (c := 0) hM hO hn (Prod.ext rfl (Prod.ext (if_pos (Or.inl hb1)) rfl)) rfl))
  refine r_pop dX8_checkedSaving_5 (k := ?_)
  refine r_aload_n dX8_checkedSaving_6 rfl ?_
  refine r_iload_n dX8_checkedSaving_7 rfl ?_
  refine r_callV (mi := iX8_checkedSaving) vX8_124 dX8_checkedSaving_8 (hX.x 0 8 0) (x_findRound hX (by omega) y hb) (hm := by first | exact ⟨Nat.le_of_ble_eq_true rfl, Nat.le_of_ble_eq_true rfl⟩ | (constructor <;> simp only [rmd] <;> omega)) (k := kT (fun hb2 => kPA ?_)) (kx := kxT (fun hb2 n hn => cx_rd (c := 0) hM hO hn (Prod.ext rfl (Prod.ext (if_pos (Or.inr hb2)) rfl)) rfl))
  obtain ⟨x, rfl⟩ := nat_of (a := x) (by omega)
  obtain ⟨y, rfl⟩ := nat_of (a := y) (by omega)
  have hx : x < σ.1 3 := by omega
  have hy : y < σ.1 3 := by omega
  refine r_pop dX8_checkedSaving_11 (k := ?_)
  refine r_iload_n dX8_checkedSaving_12 rfl ?_
  refine r_iload_n dX8_checkedSaving_13 rfl ?_
  refine r_icmp_ne (tgt := 28) dX8_checkedSaving_14 (by decide) (kt := fun z14 => ?_) (kf := fun z14 => ?_)
  · obtain ⟨sv1, sv2⟩ := svC_n hx hy (by omega)
    refine r_aload_n dX8_checkedSaving_28 rfl ?_
    refine r_iload_n dX8_checkedSaving_29 rfl ?_
    refine r_callS (mi := iX8_checkedSaving) vX8_185 dX8_checkedSaving_30 (x_groupOf x (z := x) rfl (by omega)) (hm := by first | exact ⟨Nat.le_of_ble_eq_true rfl, Nat.le_of_ble_eq_true rfl⟩ | (constructor <;> simp only [rmd] <;> omega)) (k := kP ?_) (kx := r_nox)
    refine r_callV (mi := iX8_checkedSaving) vX8_256 dX8_checkedSaving_33 (hX.x 0 8 0) (x_lengthOf hM hO (g := 2 ^ x) (two_lt (by omega))) (hm := by first | exact ⟨Nat.le_of_ble_eq_true rfl, Nat.le_of_ble_eq_true rfl⟩ | (constructor <;> simp only [rmd] <;> omega)) (k := kI (fun r1 M1 h1 => ?_)) (kx := r_nox)
    obtain ⟨rfl, k1, hM1, -⟩ := h1
    have hX := hM1.1
    refine r_istore_n dX8_checkedSaving_36 (k := ?_)
    refine r_aload_n dX8_checkedSaving_37 rfl ?_
    refine r_iload_n dX8_checkedSaving_38 rfl ?_
    refine r_callS (mi := iX8_checkedSaving) vX8_185 dX8_checkedSaving_39 (x_groupOf y (z := y) rfl (by omega)) (hm := by first | exact ⟨Nat.le_of_ble_eq_true rfl, Nat.le_of_ble_eq_true rfl⟩ | (constructor <;> simp only [rmd] <;> omega)) (k := kP ?_) (kx := r_nox)
    refine r_callV (mi := iX8_checkedSaving) vX8_256 dX8_checkedSaving_42 (hX.x 0 8 0) (x_lengthOf hM1 hO (g := 2 ^ y) (two_lt (by omega))) (hm := by first | exact ⟨Nat.le_of_ble_eq_true rfl, Nat.le_of_ble_eq_true rfl⟩ | (constructor <;> simp only [rmd] <;> omega)) (k := kI (fun r2 M2 h2 => ?_)) (kx := r_nox)
    obtain ⟨rfl, k2, hM2, -⟩ := h2
    have hX := hM2.1
    have k1 := k1.tr k2
    refine r_istore dX8_checkedSaving_45 (k := ?_)
    refine r_aload_n dX8_checkedSaving_47 rfl ?_
    refine r_iload_n dX8_checkedSaving_48 rfl ?_
    refine r_callS (mi := iX8_checkedSaving) vX8_185 dX8_checkedSaving_49 (x_groupOf x (z := x) rfl (by omega)) (hm := by first | exact ⟨Nat.le_of_ble_eq_true rfl, Nat.le_of_ble_eq_true rfl⟩ | (constructor <;> simp only [rmd] <;> omega)) (k := kP ?_) (kx := r_nox)
    refine r_iload_n dX8_checkedSaving_52 rfl ?_
    refine r_callS (mi := iX8_checkedSaving) vX8_185 dX8_checkedSaving_53 (x_groupOf y (z := y) rfl (by omega)) (hm := by first | exact ⟨Nat.le_of_ble_eq_true rfl, Nat.le_of_ble_eq_true rfl⟩ | (constructor <;> simp only [rmd] <;> omega)) (k := kP ?_) (kx := r_nox)
    refine r_ior dX8_checkedSaving_56 (or_bo x (by omega) y (by omega)) ?_
    refine r_callV (mi := iX8_checkedSaving) vX8_256 dX8_checkedSaving_57 (hX.x 0 8 0) (x_lengthOf hM2 hO (g := 2 ^ x ||| 2 ^ y) (or_16 x (by omega) y (by omega))) (hm := by first | exact ⟨Nat.le_of_ble_eq_true rfl, Nat.le_of_ble_eq_true rfl⟩ | (constructor <;> simp only [rmd] <;> omega)) (k := kI (fun r3 M3 h3 => ?_)) (kx := r_nox)
    obtain ⟨rfl, k3, hM3, -⟩ := h3
    have hX := hM3.1
    have k1 := k1.tr k3
    have b1 := lenI_b (σ := σ) true (2 ^ x)
    have b2 := lenI_b (σ := σ) true (2 ^ y)
    have b3 := lenI_b (σ := σ) true (2 ^ x ||| 2 ^ y)
    refine r_istore dX8_checkedSaving_60 (k := ?_)
    refine r_iload_n dX8_checkedSaving_62 rfl ?_
    refine r_iconst dX8_checkedSaving_63 ?_
    refine r_icmp_eq (tgt := 79) dX8_checkedSaving_64 (by decide) (kt := fun z64 => ?_) (kf := fun z64 => ?_)
    · exact r_throwXW (mi := iX8_checkedSaving) xw_57 hX.gD (text := "one of the rounds has no walk") (is := 373) (by decide +kernel) dX8_checkedSaving_79 dX8_checkedSaving_82 dX8_checkedSaving_83 dX8_checkedSaving_86 dX8_checkedSaving_89 (hm := by exact ⟨Nat.le_of_ble_eq_true rfl, Nat.le_of_ble_eq_true rfl⟩) (hm2 := by exact ⟨Nat.le_of_ble_eq_true rfl, Nat.le_of_ble_eq_true rfl⟩) (hx := fun n hn => cx_of (c := 2) (Prod.ext rfl (Prod.ext (sv1 (by unfold lenX; first | exact Or.inl (by assumption) | exact Or.inr (Or.inl (by assumption)) | exact Or.inr (Or.inr (by omega)))) rfl)) rfl (XQ.tr k1.fx (XQ.n hM3 hO hn)))
    · refine r_iload dX8_checkedSaving_67 rfl ?_
      refine r_iconst dX8_checkedSaving_69 ?_
      refine r_icmp_eq (tgt := 79) dX8_checkedSaving_70 (by decide) (kt := fun z70 => ?_) (kf := fun z70 => ?_)
      · exact r_throwXW (mi := iX8_checkedSaving) xw_57 hX.gD (text := "one of the rounds has no walk") (is := 373) (by decide +kernel) dX8_checkedSaving_79 dX8_checkedSaving_82 dX8_checkedSaving_83 dX8_checkedSaving_86 dX8_checkedSaving_89 (hm := by exact ⟨Nat.le_of_ble_eq_true rfl, Nat.le_of_ble_eq_true rfl⟩) (hm2 := by exact ⟨Nat.le_of_ble_eq_true rfl, Nat.le_of_ble_eq_true rfl⟩) (hx := fun n hn => cx_of (c := 2) (Prod.ext rfl (Prod.ext (sv1 (by unfold lenX; first | exact Or.inl (by assumption) | exact Or.inr (Or.inl (by assumption)) | exact Or.inr (Or.inr (by omega)))) rfl)) rfl (XQ.tr k1.fx (XQ.n hM3 hO hn)))
      · refine r_iload dX8_checkedSaving_73 rfl ?_
        refine r_iconst dX8_checkedSaving_75 ?_
        refine r_icmp_ne (tgt := 90) dX8_checkedSaving_76 (by decide) (kt := fun z76 => ?_) (kf := fun z76 => ?_)
        · obtain ⟨v1, v2⟩ := sv2 (by unfold lenX; omega)
          refine r_iload_n dX8_checkedSaving_90 rfl ?_
          refine r_iload dX8_checkedSaving_91 rfl ?_
          refine r_iadd dX8_checkedSaving_93 ?_
          refine r_iload dX8_checkedSaving_94 rfl ?_
          refine r_isub dX8_checkedSaving_96 ?_
          exact r_iret dX8_checkedSaving_97 (⟨_, rfl, v1, congrArg iz v2.symm, k1, hM3⟩)
        · exact r_throwXW (mi := iX8_checkedSaving) xw_57 hX.gD (text := "one of the rounds has no walk") (is := 373) (by decide +kernel) dX8_checkedSaving_79 dX8_checkedSaving_82 dX8_checkedSaving_83 dX8_checkedSaving_86 dX8_checkedSaving_89 (hm := by exact ⟨Nat.le_of_ble_eq_true rfl, Nat.le_of_ble_eq_true rfl⟩) (hm2 := by exact ⟨Nat.le_of_ble_eq_true rfl, Nat.le_of_ble_eq_true rfl⟩) (hx := fun n hn => cx_of (c := 2) (Prod.ext rfl (Prod.ext (sv1 (by unfold lenX; first | exact Or.inl (by assumption) | exact Or.inr (Or.inl (by assumption)) | exact Or.inr (Or.inr (by omega)))) rfl)) rfl (XQ.tr k1.fx (XQ.n hM3 hO hn)))
  · exact r_throwXW (mi := iX8_checkedSaving) xw_72 hX.gD (text := "both rounds are the same") (is := 371) (by decide +kernel) dX8_checkedSaving_17 dX8_checkedSaving_20 dX8_checkedSaving_21 dX8_checkedSaving_24 dX8_checkedSaving_27 (hm := by exact ⟨Nat.le_of_ble_eq_true rfl, Nat.le_of_ble_eq_true rfl⟩) (hm2 := by exact ⟨Nat.le_of_ble_eq_true rfl, Nat.le_of_ble_eq_true rfl⟩) (hx := fun n hn => cx_rd (c := 1) hM hO hn (Prod.ext rfl (Prod.ext ((if_neg (by omega)).trans (if_pos (by omega))) rfl)) rfl)
theorem y_saving (hM : XM G M C σ) (hO : Ok σ T) (x y : Int) (ha : inR x) (hb : inR y) : Ht G iX8_saving yX8_saving 26 [.ref (eX C 0), .int (iz x), .int (iz y)] M (CR G C M (opSaving σ x y)) (CX G C M (opSaving σ x y) [NSE, IAE, ISE]) 100 3300 := by
  have hX := hM.1
  refine ht_intro (by decide +kernel) rfl rfl rfl (Nat.le_of_ble_eq_true rfl) ?_
  refine r_aload_n dX8_saving_0 rfl ?_
  refine r_iload_n dX8_saving_1 rfl ?_
  refine r_iload_n dX8_saving_2 rfl ?_
  refine r_callV (mi := iX8_saving) vX8_276 dX8_saving_3 (hX.x 0 8 0) (x_checkedSaving hM hO x y ha hb) (hm := by first | exact ⟨Nat.le_of_ble_eq_true rfl, Nat.le_of_ble_eq_true rfl⟩ | (constructor <;> simp only [rmd] <;> omega)) (k := kI (fun r M1 h1 => ?_)) (kx := (fun E M2 h9 => r_out rfl h9 ⟨Nat.le_of_ble_eq_true rfl, Nat.le_of_ble_eq_true rfl⟩))
  obtain ⟨h0, rfl, k1, hM1⟩ := h1
  exact r_iret dX8_saving_6 (cr_of (Prod.ext rfl (Prod.ext h0 rfl)) rfl (XQ.of k1.fx hM1))
theorem mgF_T {a b i : Nat} (h : σ.2 4 i = b + 1) : stA (stF σ 4 (mgF σ a b i)) 4 i (a + 1) = stF σ 4 (mgF σ a b (i + 1)) := by
  unfold stA
  rw [stF_stF, stF_at]
  refine congrArg (stF σ 4) (funext fun q => ?_)
  show va_up (mgF σ a b i) i (a + 1) q = _
  by_cases e : q = i
  · subst e
    rw [up_s]
    exact (if_pos ⟨Nat.lt_succ_self _, h⟩).symm
  · rw [up_n _ _ e]
    unfold mgF
    by_cases e2 : q < i ∧ σ.2 4 q = b + 1
    · rw [if_pos e2, if_pos ⟨by omega, e2.2⟩]
    · rw [if_neg e2, if_neg (fun h => e2 ⟨by omega, h.2⟩)]
theorem mgF_F {a b i : Nat} (h : ¬ σ.2 4 i = b + 1) : mgF σ a b i = mgF σ a b (i + 1) := by
  funext q
  unfold mgF
  by_cases e2 : q < i ∧ σ.2 4 q = b + 1
  · rw [if_pos e2, if_pos ⟨by omega, e2.2⟩]
  · rw [if_neg e2, if_neg (fun h9 => ?_)]
    by_cases e : q = i
    · subst e; exact h h9.2
    · exact e2 ⟨by omega, h9.2⟩
theorem opMerge_x {x y : Int} {l : List String} {E : String} (h : CX G C M (opSaving σ x y) l E M') : CX G C M (opMerge σ x y) l E M' := by
  obtain ⟨c, h1, h2, h3⟩ := h
  have h1 : svC σ x y = c + 1 := h1
  exact cx_of (z := 0) (show opMerge σ x y = (σ, c + 1, 0) by unfold opMerge; rw [if_pos (by omega), h1]) h2 h3
theorem y_mergeInto (hM : XM G M C σ) (hO : Ok σ T) (x y : Int) (ha : inR x) (hb : inR y) : Ht G iX8_mergeInto yX8_mergeInto 26 [.ref (eX C 0), .int (iz x), .int (iz y)] M (CR G C M (opMerge σ x y)) (CX G C M (opMerge σ x y) [NSE, IAE, ISE]) 150 4500 := by
  have hX := hM.1
  have p3 := hO.1.2.2.1
  have p5 := hO.1.2.2.2.2.1
  refine ht_intro (by decide +kernel) rfl rfl rfl (Nat.le_of_ble_eq_true rfl) ?_
  have loop : ∀ (a b : Nat) (v : Int32) (v4 : Int32) (o : Rs), a < σ.1 3 → b < σ.1 3 → (∃ z, v = iz z ∧ o = (stF σ 4 (mgF σ a b (σ.1 1)), 0, z)) → ∀ (k i : Nat) (M1 : Mem), i + k = σ.1 1 → FX C M M1 → XM G M1 C (stF σ 4 (mgF σ a b i)) → SWG G iX8_mergeInto (rmd 26 150 4500) (QF G (CR G C M o) (CX G C M o [NSE, IAE, ISE]) 150 4500) 55 [(5, .int (iz (i : Int))), (4, .int v4), (3, .int v), (0, .ref (eX C 0)), (1, .int (iz (a : Int))), (2, .int (iz (b : Int)))] [] M1 150 4500 := by
    intro a b v v4 o ha hb hv k
    obtain ⟨z, rfl, ho⟩ := hv
    induction k with
    | zero =>
      intro i M1 hi hF hM1
      have hi2 : i = σ.1 1 := by omega
      subst hi2
      have hX := hM1.1
      refine r_iload dX8_mergeInto_55 rfl ?_
      refine r_aload_n dX8_mergeInto_57 rfl ?_
      refine r_getR qX8_10 dX8_mergeInto_58 (hX.x 0 8 0) (hX.f 0 512 1) (kk := ?_)
      refine r_callV (mi := iX8_mergeInto) vX8_77 dX8_mergeInto_61 (hX.x 1 10 0) (c_size (n := σ.1 1) (hX.l 1)) (hm := by first | exact ⟨Nat.le_of_ble_eq_true rfl, Nat.le_of_ble_eq_true rfl⟩ | (constructor <;> simp only [rmd] <;> omega)) (k := kP ?_) (kx := r_nox)
      refine r_icmp_ge (tgt := 102) dX8_mergeInto_64 (by decide) (kt := fun z64 => ?_) (kf := fun z64 => (by exfalso; first | omega | simp_all))
      refine r_iload_n dX8_mergeInto_102 rfl ?_
      exact r_iret dX8_mergeInto_103 (cr_of ho rfl (XQ.of hF hM1))
    | succ k ih =>
      intro i M1 hi hF hM1
      have hi3 : i < σ.1 1 := by omega
      have hX := hM1.1
      have s7 := (hO.2.1 i hi3).2.2.2.2.2.2
      have e4 : mgF σ a b i i = σ.2 4 i := if_neg (by omega)
      have v326 : mI M1 326 (eA C 1 i) = iz ((σ.2 4 i : Int) - 1) := (hX.g326 i hi3).trans (by show iz ((mgF σ a b i i : Int) - 1) = _; rw [e4])
      refine r_iload dX8_mergeInto_55 rfl ?_
      refine r_aload_n dX8_mergeInto_57 rfl ?_
      refine r_getR qX8_10 dX8_mergeInto_58 (hX.x 0 8 0) (hX.f 0 512 1) (kk := ?_)
      refine r_callV (mi := iX8_mergeInto) vX8_77 dX8_mergeInto_61 (hX.x 1 10 0) (c_size (n := σ.1 1) (hX.l 1)) (hm := by first | exact ⟨Nat.le_of_ble_eq_true rfl, Nat.le_of_ble_eq_true rfl⟩ | (constructor <;> simp only [rmd] <;> omega)) (k := kP ?_) (kx := r_nox)
      refine r_icmp_ge (tgt := 102) dX8_mergeInto_64 (by decide) (kt := fun z64 => (by exfalso; first | omega | simp_all)) (kf := fun z64 => ?_)
      refine r_aload_n dX8_mergeInto_67 rfl ?_
      refine r_getR qX8_10 dX8_mergeInto_68 (hX.x 0 8 0) (hX.f 0 512 1) (kk := ?_)
      refine r_iload dX8_mergeInto_71 rfl ?_
      refine r_callV (mi := iX8_mergeInto) vX8_153 dX8_mergeInto_73 (hX.x 1 10 0) (c_get (hX.l 1) (hi3) (hX.q 1 _ (hi3))) (hm := by first | exact ⟨Nat.le_of_ble_eq_true rfl, Nat.le_of_ble_eq_true rfl⟩ | (constructor <;> simp only [rmd] <;> omega)) (k := kPA ?_) (kx := r_nox)
      refine r_cast nX8_83.1 dX8_mergeInto_76 (hX.k5 _ (hi3)) (k := ?_)
      refine r_astore dX8_mergeInto_79 (k := ?_)
      refine r_aload dX8_mergeInto_81 rfl ?_
      refine r_getI qX8_128 dX8_mergeInto_83 (hX.k5 i hi3) v326 (kk := ?_)
      refine r_iload_n dX8_mergeInto_86 rfl ?_
      refine r_icmp_ne (tgt := 96) dX8_mergeInto_87 (by decide) (kt := fun z87 => ?_) (kf := fun z87 => ?_)
      · refine r_iinc dX8_mergeInto_96 rfl (k := ?_)
        refine r_goto (tgt := 55) dX8_mergeInto_99 (by decide) ?_
        first
         | (rw [mgF_F (a := a) (by omega)] at hM1
            exact r_loc' (ih (i + 1) M1 (by omega) hF hM1) ⟨rfl, rfl, rfl, rfl, rfl, rfl, trivial⟩)
         | (have hq := XM.el hM1 (j := 1) (f := 326) (i := i) (k := 4) (v := a + 1) (t0 := 5) (x := iz (a : Int)) (Or.inr (Or.inl ⟨rfl, rfl, rfl, rfl⟩)) hi3 (congrArg iz (by omega))
            rw [mgF_T (by omega)] at hq
            exact r_loc' (ih (i + 1) _ (by omega) (hF.tr rfl (FX.i (hX.k5 i hi3) (by decide))) hq) ⟨rfl, rfl, rfl, rfl, rfl, rfl, trivial⟩)
      · refine r_aload dX8_mergeInto_90 rfl ?_
        refine r_iload_n dX8_mergeInto_92 rfl ?_
        refine r_putI qX8_128 dX8_mergeInto_93 (hX.k5 i hi3) (kk := ?_)
        refine r_iinc dX8_mergeInto_96 rfl (k := ?_)
        refine r_goto (tgt := 55) dX8_mergeInto_99 (by decide) ?_
        first
         | (rw [mgF_F (a := a) (by omega)] at hM1
            exact r_loc' (ih (i + 1) M1 (by omega) hF hM1) ⟨rfl, rfl, rfl, rfl, rfl, rfl, trivial⟩)
         | (have hq := XM.el hM1 (j := 1) (f := 326) (i := i) (k := 4) (v := a + 1) (t0 := 5) (x := iz (a : Int)) (Or.inr (Or.inl ⟨rfl, rfl, rfl, rfl⟩)) hi3 (congrArg iz (by omega))
            rw [mgF_T (by omega)] at hq
            exact r_loc' (ih (i + 1) _ (by omega) (hF.tr rfl (FX.i (hX.k5 i hi3) (by decide))) hq) ⟨rfl, rfl, rfl, rfl, rfl, rfl, trivial⟩)
  refine r_aload_n dX8_mergeInto_0 rfl ?_
  refine r_iload_n dX8_mergeInto_1 rfl ?_
  refine r_iload_n dX8_mergeInto_2 rfl ?_
  refine r_callV (mi := iX8_mergeInto) vX8_276 dX8_mergeInto_3 (hX.x 0 8 0) (x_checkedSaving hM hO x y ha hb) (hm := by first | exact ⟨Nat.le_of_ble_eq_true rfl, Nat.le_of_ble_eq_true rfl⟩ | (constructor <;> simp only [rmd] <;> omega)) (k := kI (fun r M1 h1 => ?_)) (kx := (fun E M2 h9 => r_out rfl (opMerge_x h9) ⟨Nat.le_of_ble_eq_true rfl, Nat.le_of_ble_eq_true rfl⟩))
  obtain ⟨h0, rfl, k1, hM1⟩ := h1
  have hX := hM1.1
  obtain ⟨a, b, rfl, rfl, ha3, hb3, hab, w1, w2, w3⟩ := svC_0 h0
  have h9 := hO.2.2.2.1 a ha3
  have hbo : bo (a : Int) (b : Int) = 2 ^ a ||| 2 ^ b := rfl
  have hlb := lenI_b (σ := σ) true (2 ^ a ||| 2 ^ b)
  have e0 : opMerge σ (a : Int) (b : Int) = if σ.2 9 a < wT σ (2 ^ a ||| 2 ^ b) then (σ, 3, 0) else (stF σ 4 (mgF σ a b (σ.1 1)), 0, svV σ a b) := by
    unfold opMerge
    rw [if_neg (by omega)]; rfl
  refine r_istore_n dX8_mergeInto_6 (k := ?_)
  refine r_iload_n dX8_mergeInto_7 rfl ?_
  refine r_callS (mi := iX8_mergeInto) vX8_185 dX8_mergeInto_8 (x_groupOf a (z := a) rfl (by omega)) (hm := by first | exact ⟨Nat.le_of_ble_eq_true rfl, Nat.le_of_ble_eq_true rfl⟩ | (constructor <;> simp only [rmd] <;> omega)) (k := kP ?_) (kx := r_nox)
  refine r_iload_n dX8_mergeInto_11 rfl ?_
  refine r_callS (mi := iX8_mergeInto) vX8_185 dX8_mergeInto_12 (x_groupOf b (z := b) rfl (by omega)) (hm := by first | exact ⟨Nat.le_of_ble_eq_true rfl, Nat.le_of_ble_eq_true rfl⟩ | (constructor <;> simp only [rmd] <;> omega)) (k := kP ?_) (kx := r_nox)
  refine r_ior dX8_mergeInto_15 (or_bo a (by omega) b (by omega)) ?_
  refine r_istore dX8_mergeInto_16 (k := ?_)
  refine r_aload_n dX8_mergeInto_18 rfl ?_
  refine r_aload_n dX8_mergeInto_19 rfl ?_
  refine r_iload_n dX8_mergeInto_20 rfl ?_
  refine r_callV (mi := iX8_mergeInto) vX8_124 dX8_mergeInto_21 (hX.x 0 8 0) (x_findRound hX (by omega) (a : Int) (by omega)) (hm := by first | exact ⟨Nat.le_of_ble_eq_true rfl, Nat.le_of_ble_eq_true rfl⟩ | (constructor <;> simp only [rmd] <;> omega)) (k := kT (fun hb1 => kPA ?_)) (kx := kxT (fun hb1 n hn => absurd (show bt2 (a : Int) 0 (σ.1 3 - 1) by omega) hb1))
  rw [Int.toNat_natCast]
  refine r_getI qX8_253 dX8_mergeInto_24 (hX.k4 a ha3) (hX.g256 a ha3) (kk := ?_)
  refine r_aload_n dX8_mergeInto_27 rfl ?_
  refine r_iload dX8_mergeInto_28 rfl ?_
  refine r_callV (mi := iX8_mergeInto) vX8_256 dX8_mergeInto_30 (hX.x 0 8 0) (x_lengthOf hM1 hO (g := 2 ^ a ||| 2 ^ b) (or_16 a (by omega) b (by omega))) (hm := by first | exact ⟨Nat.le_of_ble_eq_true rfl, Nat.le_of_ble_eq_true rfl⟩ | (constructor <;> simp only [rmd] <;> omega)) (k := kI (fun r3 M3 h3 => ?_)) (kx := r_nox)
  obtain ⟨rfl, k3, hM3, -⟩ := h3
  have hX := hM3.1
  have k1 := k1.tr k3
  refine r_iload dX8_mergeInto_33 rfl ?_
  refine r_callV (mi := iX8_mergeInto) vX8_259 dX8_mergeInto_35 (hX.x 0 8 0) (x_isWithin hX hO (2 ^ a ||| 2 ^ b) (σ.2 9 a) (lenI σ (2 ^ a ||| 2 ^ b)) (or_16 a (by omega) b (by omega)) h9.2 (by omega)) (hm := by first | exact ⟨Nat.le_of_ble_eq_true rfl, Nat.le_of_ble_eq_true rfl⟩ | (constructor <;> simp only [rmd] <;> omega)) (k := kP ?_) (kx := r_nox)
  refine r_dif_ne (tgt := 52) dX8_mergeInto_38 (by decide) (kt := fun z38 => ?_) (kf := fun z38 => ?_)
  · have hne := win_iff.mp z38
    refine r_iconst dX8_mergeInto_52 ?_
    refine r_istore dX8_mergeInto_53 (k := ?_)
    refine r_wid (kc' := 150) (ks' := 4500) (Nat.le_of_ble_eq_true rfl) (Nat.le_of_ble_eq_true rfl) ?_
    refine r_loc' (loop a b (iz (svV σ a b)) _ _ ha3 hb3 ⟨_, rfl, e0.trans (if_neg (fun h => hne (Or.inr h)))⟩ (σ.1 1) 0 M3 (by omega) k1.fx ?_) ⟨rfl, rfl, rfl, rfl, rfl, rfl, trivial⟩
    rw [show mgF σ a b 0 = σ.2 4 from funext fun q => if_neg (by omega), stF_id]
    exact hM3
  · exact r_throwXW (mi := iX8_mergeInto) xw_57 hX.gD (text := "the merged round would not be in time") (is := 279) (by decide +kernel) dX8_mergeInto_41 dX8_mergeInto_44 dX8_mergeInto_45 dX8_mergeInto_48 dX8_mergeInto_51 (hm := by exact ⟨Nat.le_of_ble_eq_true rfl, Nat.le_of_ble_eq_true rfl⟩) (hm2 := by exact ⟨Nat.le_of_ble_eq_true rfl, Nat.le_of_ble_eq_true rfl⟩) (hx := fun n hn => cx_of (c := 2) (e0.trans (if_pos (Classical.byContradiction fun h => z38 (win_iff.mpr (fun h8 => h8.elim (fun h7 => by rw [w3] at h7; cases h7) h))))) rfl (XQ.tr k1.fx (XQ.n hM3 hO hn)))
end MRC
