/-! The class: how it begins. -/
section INI
variable {G : GC} {M M1 M2 : Mem}
/-- k cells come; of w only the links change -/
def Bn (M M' : Mem) (w k : Nat) : Prop := mN M' = mN M + k ∧ (∀ b, b < mN M → b ≠ w → Sm M M' b) ∧ mC M' w = mC M w ∧ (∀ f, mI M' f w = mI M f w) ∧ ∀ f, mJ M' f w = mJ M f w
theorem Bn.tr {w k j : Nat} (h : Bn M M1 w k) (h2 : Bn M1 M2 w j) : Bn M M2 w (k + j) :=
  ⟨by rw [h2.1, h.1, Nat.add_assoc], fun b hb hne => (h.2.1 b hb hne).tr (h2.2.1 b (by have := h.1; omega) hne), h2.2.2.1.trans h.2.2.1, fun f => (h2.2.2.2.1 f).trans (h.2.2.2.1 f), fun f => (h2.2.2.2.2 f).trans (h.2.2.2.2 f)⟩
theorem GR.sm {g c m n : Nat} (h : GR M g c m n) (h1 : Sm M M1 g) (h2 : Sm M M1 c) : GR M1 g c m n :=
  ⟨h1.c h.1, h1.i h.2.1, h1.i h.2.2.1, h1.r h.2.2.2.1, h2.c h.2.2.2.2.1, h.2.2.2.2.2⟩
theorem bn_grid {w f n0 m n mn : Nat} (hw : w < mN M) (hn0 : mN M = n0) (hf : f ≠ 2) (h : GR M2 (mN M) (mN (nw M 0 0)) m n ∧ mN M2 = mN (nw M 0 0) + 1 ∧ (∀ b, b < mN (nw M 0 0) → b ≠ mN M → Sm (nw M 0 0) M2 b) ∧ ∀ k, k < mn → mA M2 (mN (nw M 0 0)) k = iz 1000000) :
    Bn M (sR M2 f (va_up (mR M2 f) w (some (mN M)))) w 2 ∧ GR (sR M2 f (va_up (mR M2 f) w (some (mN M)))) n0 (n0 + 1) m n ∧ (∀ k, k < mn → mA (sR M2 f (va_up (mR M2 f) w (some (mN M)))) (n0 + 1) k = iz 1000000) ∧ mR (sR M2 f (va_up (mR M2 f) w (some (mN M)))) f w = some n0 ∧ ∀ f', f' ≠ f → mR (sR M2 f (va_up (mR M2 f) w (some (mN M)))) f' w = mR M f' w := by
  subst hn0
  obtain ⟨hg, hN, hS, hr⟩ := h
  have sb : ∀ b, b < mN M → Sm M M2 b := fun b hb => (Sm.nw (Nat.ne_of_lt hb)).tr (hS b (Nat.lt_succ_of_lt hb) (Nat.ne_of_lt hb))
  refine ⟨⟨hN, fun b hb hne => (sb b hb).tr (Sm.Ru hne), (sb w hw).1, (sb w hw).2.1, (sb w hw).2.2.2.1⟩, ⟨hg.1, hg.2.1, hg.2.2.1, ?_, hg.2.2.2.2⟩, hr, ?_, fun f' hf' => ?_⟩
  · exact (congrFun (mR_sRn _ _ _ _ hf.symm) _).trans hg.2.2.2.1
  · rw [mR_sR]; exact up_s _ _ _
  · exact (congrFun (mR_sRn _ _ _ _ hf') _).trans ((sb w hw).2.2.1 f')
theorem bn_list {w f n0 e : Nat} (hw : w < mN M) (hn0 : mN M = n0) (hf : f ≠ 641) (h : LL G M2 (mN M) e 0 0 ∧ mN M2 = mN (nw M 10 0) ∧ mC M2 = mC (nw M 10 0) ∧ ∀ b, b ≠ mN M → Sm (nw M 10 0) M2 b) :
    Bn M (sR M2 f (va_up (mR M2 f) w (some (mN M)))) w 1 ∧ LL G (sR M2 f (va_up (mR M2 f) w (some (mN M)))) n0 e 0 0 ∧ mR (sR M2 f (va_up (mR M2 f) w (some (mN M)))) f w = some n0 ∧ ∀ f', f' ≠ f → mR (sR M2 f (va_up (mR M2 f) w (some (mN M)))) f' w = mR M f' w := by
  subst hn0
  obtain ⟨hg, hN, hC, hS⟩ := h
  have sb : ∀ b, b < mN M → Sm M M2 b := fun b hb => (Sm.nw (Nat.ne_of_lt hb)).tr (hS b (Nat.ne_of_lt hb))
  refine ⟨⟨hN, fun b hb hne => (sb b hb).tr (Sm.Ru hne), (sb w hw).1, (sb w hw).2.1, (sb w hw).2.2.2.1⟩, ⟨hg.1, hg.2.1, ?_, hg.2.2.2⟩, ?_, fun f' hf' => ?_⟩
  · exact (congrFun (mR_sRn _ _ _ _ hf.symm) _).trans hg.2.2.1
  · rw [mR_sR]; exact up_s _ _ _
  · exact (congrFun (mR_sRn _ _ _ _ hf') _).trans ((sb w hw).2.2.1 f')
theorem x_initWays {w : Nat} (hc : mC M w = some (7, 0)) (hw : w < mN M) : Ht G iX7_init yX7_init 6 [.ref w] M (rV fun M' => Bn M M' w 6 ∧ (mR M' 448 w = some (mN M) ∧ mR M' 449 w = some (mN M + 2) ∧ mR M' 450 w = some (mN M + 4)) ∧ GR M' (mN M) (mN M + 1) 10 10 ∧ GR M' (mN M + 2) (mN M + 3) 10 10 ∧ GR M' (mN M + 4) (mN M + 5) 1 10 ∧ (∀ k, k < 100 → mA M' (mN M + 1) k = iz 1000000) ∧ ∀ i j, i < 10 → j < 10 → mA M' (mN M + 3) (10 * i + j) = iz ((if i = j then 0 else 1000000 : Nat) : Int)) nX 6 220 := by
  refine ht_intro (by decide +kernel) rfl rfl rfl (Nat.le_of_ble_eq_true rfl) ?_
  have loop : ∀ (M3 : Mem), (Bn M M3 w 6 ∧ (mR M3 448 w = some (mN M) ∧ mR M3 449 w = some (mN M + 2) ∧ mR M3 450 w = some (mN M + 4)) ∧ GR M3 (mN M) (mN M + 1) 10 10 ∧ GR M3 (mN M + 2) (mN M + 3) 10 10 ∧ GR M3 (mN M + 4) (mN M + 5) 1 10 ∧ (∀ k, k < 100 → mA M3 (mN M + 1) k = iz 1000000)) → ∀ (k i : Nat) (K : Nat → Int32), i + k = 10 → (∀ p q, p < 10 → q < 10 → K (10 * p + q) = iz ((if p = q ∧ p < i then 0 else 1000000 : Nat) : Int)) → SWG G iX7_init (rmd 6 6 220) (QF G (rV fun M' => Bn M M' w 6 ∧ (mR M' 448 w = some (mN M) ∧ mR M' 449 w = some (mN M + 2) ∧ mR M' 450 w = some (mN M + 4)) ∧ GR M' (mN M) (mN M + 1) 10 10 ∧ GR M' (mN M + 2) (mN M + 3) 10 10 ∧ GR M' (mN M + 4) (mN M + 5) 1 10 ∧ (∀ k, k < 100 → mA M' (mN M + 1) k = iz 1000000) ∧ ∀ i j, i < 10 → j < 10 → mA M' (mN M + 3) (10 * i + j) = iz ((if i = j then 0 else 1000000 : Nat) : Int)) nX 6 220) 50 [(1, .int (iz (i : Int))), (0, .ref w)] [] (sA M3 (mN M + 3) K) 6 220 := by
    intro M3 hM3 k
    obtain ⟨hB, ⟨r1, r2, r3⟩, g1, g2, g3, hr⟩ := hM3
    have hc3 : mC M3 w = some (7, 0) := hB.2.2.1.trans hc
    have ne3 : ∀ b, b < mN M + 3 → b ≠ mN M + 3 := fun b hb => by omega
    induction k with
    | zero =>
      intro i K hi hK
      refine r_iload_n dX7_init_50 rfl ?_
      refine r_bipush dX7_init_51 (k := ?_)
      refine r_icmp_ge (tgt := 72) dX7_init_53 (by decide) (kt := fun z53 => ?_) (kf := fun z53 => (by exfalso; first | omega | simp_all))
      exact r_vret dX7_init_72 (⟨rfl, ⟨hB.1, fun b hb hne => (hB.2.1 b hb hne).tr (Sm.A (by omega)), hB.2.2.1, hB.2.2.2.1, hB.2.2.2.2⟩, ⟨r1, r2, r3⟩, g1, g2, g3, fun q hq => (congrFun (mA_sAn _ _ _ _ (by omega)) q).trans (hr q hq), fun p q hp hq => (congrFun (mA_sA _ _ _) _).trans ((hK p q hp hq).trans (by by_cases e : p = q; rw [if_pos e, if_pos ⟨e, by omega⟩]; rw [if_neg e, if_neg (fun h => e h.1)]))⟩)
    | succ k ih =>
      intro i K hi hK
      refine r_iload_n dX7_init_50 rfl ?_
      refine r_bipush dX7_init_51 (k := ?_)
      refine r_icmp_ge (tgt := 72) dX7_init_53 (by decide) (kt := fun z53 => (by exfalso; first | omega | simp_all)) (kf := fun z53 => ?_)
      refine r_aload_n dX7_init_56 rfl ?_
      refine r_getR qX7_20 dX7_init_57 (show mC (sA M3 (mN M + 3) K) w = some (7, 0) from hc3) (show mR (sA M3 (mN M + 3) K) 449 w = some (mN M + 2) from r2) (kk := ?_)
      refine r_iload_n dX7_init_60 rfl ?_
      refine r_iload_n dX7_init_61 rfl ?_
      refine r_iconst dX7_init_62 ?_
      refine r_callV (mi := iX7_init) vX7_26 dX7_init_63 (show mC (sA M3 (mN M + 3) K) (mN M + 2) = some (0, 0) from g2.1) (x_put (show GR (sA M3 (mN M + 3) K) (mN M + 2) (mN M + 3) 10 10 from g2) (show i < 10 by omega) (show i < 10 by omega)) (hm := by first | exact ⟨Nat.le_of_ble_eq_true rfl, Nat.le_of_ble_eq_true rfl⟩ | (constructor <;> simp only [rmd] <;> omega)) (k := kPV ?_) (kx := r_nox)
      rw [sA_sA, mA_sA]
      refine r_iinc dX7_init_66 rfl (k := ?_)
      refine r_goto (tgt := 50) dX7_init_69 (by decide) ?_
      refine r_loc' (ih (i + 1) _ (by omega) (fun p q hp hq => ?_)) ⟨rfl, rfl, trivial⟩
      by_cases e : 10 * p + q = 10 * i + i
      · rw [if_pos ⟨by omega, by omega⟩]
        simp only [upd, e, if_true]
        rfl
      · simp only [upd, if_neg e]
        rw [hK p q hp hq]
        by_cases e2 : p = q ∧ p < i
        · rw [if_pos e2, if_pos ⟨e2.1, by omega⟩]
        · rw [if_neg e2, if_neg (fun h => e2 ⟨h.1, by omega⟩)]
  refine r_aload_n dX7_init_0 rfl ?_
  refine r_oinit vX7_3 dX7_init_1 (k := ?_)
  refine r_aload_n dX7_init_4 rfl ?_
  refine r_new nX7_9 dX7_init_5 (hm := ⟨by decide, by decide⟩) (k := fun hlt hgb => ?_)
  refine r_dup dX7_init_8 (k := ?_)
  refine r_bipush dX7_init_9 (k := ?_)
  refine r_bipush dX7_init_11 (k := ?_)
  refine r_callI (mi := iX7_init) vX7_11 dX7_init_13 (x_initG (nw_c M 0 0) (Nat.lt_succ_self _) (m := 10) (n := 10) (by decide) (by decide) (mn := 100) rfl) (hm := by first | exact ⟨Nat.le_of_ble_eq_true rfl, Nat.le_of_ble_eq_true rfl⟩ | (constructor <;> simp only [rmd] <;> omega)) (k := kV (fun M1 h1 => ?_)) (kx := r_nox)
  refine r_putR qX7_14 dX7_init_16 (((Sm.nw (Nat.ne_of_lt hw)).tr (h1.2.2.1 w (Nat.lt_succ_of_lt hw) (Nat.ne_of_lt hw))).c hc) (kk := ?_)
  refine gm (P := fun M3 => Bn M M3 w 2 ∧ GR M3 (mN M) (mN M + 1) 10 10 ∧ (∀ k, k < 100 → mA M3 (mN M + 1) k = iz 1000000) ∧ mR M3 448 w = some (mN M)) ((fun h => ⟨h.1, h.2.1, h.2.2.1, h.2.2.2.1⟩) (bn_grid hw rfl (f := 448) (by decide) h1)) (fun M3 hP => ?_)
  obtain ⟨b1, g1, hr, r1⟩ := hP
  have hn3 : mN M3 = mN M + 2 := b1.1
  have hw3 : w < mN M3 := by omega
  refine r_aload_n dX7_init_19 rfl ?_
  refine r_new nX7_9 dX7_init_20 (hm := ⟨by decide, by decide⟩) (k := fun hlt hgb => ?_)
  refine r_dup dX7_init_23 (k := ?_)
  refine r_bipush dX7_init_24 (k := ?_)
  refine r_bipush dX7_init_26 (k := ?_)
  refine r_callI (mi := iX7_init) vX7_11 dX7_init_28 (x_initG (nw_c M3 0 0) (Nat.lt_succ_self _) (m := 10) (n := 10) (by decide) (by decide) (mn := 100) rfl) (hm := by first | exact ⟨Nat.le_of_ble_eq_true rfl, Nat.le_of_ble_eq_true rfl⟩ | (constructor <;> simp only [rmd] <;> omega)) (k := kV (fun M4 h1 => ?_)) (kx := r_nox)
  refine r_putR qX7_20 dX7_init_31 (((Sm.nw (Nat.ne_of_lt hw3)).tr (h1.2.2.1 w (Nat.lt_succ_of_lt hw3) (Nat.ne_of_lt hw3))).c (b1.2.2.1.trans hc)) (kk := ?_)
  refine gm (P := fun M5 => Bn M M5 w 4 ∧ GR M5 (mN M) (mN M + 1) 10 10 ∧ GR M5 (mN M + 2) (mN M + 3) 10 10 ∧ (∀ k, k < 100 → mA M5 (mN M + 1) k = iz 1000000) ∧ (∀ k, k < 100 → mA M5 (mN M + 3) k = iz 1000000) ∧ mR M5 448 w = some (mN M) ∧ mR M5 449 w = some (mN M + 2)) ((fun h => by
    obtain ⟨b2, g2, hr2, r2, ro⟩ := h
    have s1 := b2.2.1 (mN M) (by omega) (by omega)
    have s2 := b2.2.1 (mN M + 1) (by omega) (by omega)
    exact ⟨b1.tr b2, g1.sm s1 s2, g2, fun k hk => (congrFun s2.aa k).trans (hr k hk), hr2, (ro 448 (by decide)).trans r1, r2⟩) (bn_grid hw3 hn3 (f := 449) (by decide) h1)) (fun M5 hP => ?_)
  obtain ⟨b1, g1, g2, hr, hr2, r1, r2⟩ := hP
  have hn5 : mN M5 = mN M + 4 := b1.1
  have hw5 : w < mN M5 := by omega
  refine r_aload_n dX7_init_34 rfl ?_
  refine r_new nX7_9 dX7_init_35 (hm := ⟨by decide, by decide⟩) (k := fun hlt hgb => ?_)
  refine r_dup dX7_init_38 (k := ?_)
  refine r_iconst dX7_init_39 ?_
  refine r_bipush dX7_init_40 (k := ?_)
  refine r_callI (mi := iX7_init) vX7_11 dX7_init_42 (x_initG (nw_c M5 0 0) (Nat.lt_succ_self _) (m := 1) (n := 10) (by decide) (by decide) (mn := 10) rfl) (hm := by first | exact ⟨Nat.le_of_ble_eq_true rfl, Nat.le_of_ble_eq_true rfl⟩ | (constructor <;> simp only [rmd] <;> omega)) (k := kV (fun M6 h1 => ?_)) (kx := r_nox)
  refine r_putR qX7_23 dX7_init_45 (((Sm.nw (Nat.ne_of_lt hw5)).tr (h1.2.2.1 w (Nat.lt_succ_of_lt hw5) (Nat.ne_of_lt hw5))).c (b1.2.2.1.trans hc)) (kk := ?_)
  refine gm (P := fun M7 => (Bn M M7 w 6 ∧ (mR M7 448 w = some (mN M) ∧ mR M7 449 w = some (mN M + 2) ∧ mR M7 450 w = some (mN M + 4)) ∧ GR M7 (mN M) (mN M + 1) 10 10 ∧ GR M7 (mN M + 2) (mN M + 3) 10 10 ∧ GR M7 (mN M + 4) (mN M + 5) 1 10 ∧ (∀ k, k < 100 → mA M7 (mN M + 1) k = iz 1000000)) ∧ (∀ k, k < 100 → mA M7 (mN M + 3) k = iz 1000000)) ((fun h => by
    obtain ⟨b2, g3, -, r3, ro⟩ := h
    have s1 := b2.2.1 (mN M) (by omega) (by omega)
    have s2 := b2.2.1 (mN M + 1) (by omega) (by omega)
    have s3 := b2.2.1 (mN M + 2) (by omega) (by omega)
    have s4 := b2.2.1 (mN M + 3) (by omega) (by omega)
    exact ⟨⟨b1.tr b2, ⟨(ro 448 (by decide)).trans r1, (ro 449 (by decide)).trans r2, r3⟩, g1.sm s1 s2, g2.sm s3 s4, g3, fun k hk => (congrFun s2.aa k).trans (hr k hk)⟩, fun k hk => (congrFun s4.aa k).trans (hr2 k hk)⟩) (bn_grid hw5 hn5 (f := 450) (by decide) h1)) (fun M7 hP => ?_)
  obtain ⟨hP, hr2⟩ := hP
  refine r_wid (kc' := 6) (ks' := 220) (Nat.le_of_ble_eq_true rfl) (Nat.le_of_ble_eq_true rfl) ?_
  refine r_iconst dX7_init_48 ?_
  refine r_istore_n dX7_init_49 (k := ?_)
  have e := loop M7 hP 10 0 (mA M7 (mN M + 3)) (by decide) (fun p q hp hq => (hr2 _ (by omega)).trans (by rw [if_neg (fun h => Nat.not_lt_zero _ h.2)]; rfl))
  rw [sA_id] at e
  exact r_loc' e ⟨rfl, rfl, trivial⟩
end INI
