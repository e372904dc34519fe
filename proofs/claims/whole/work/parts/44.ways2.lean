/-! The class: ways by rounds, the next place, what is told of distances; a street comes. -/
section KXI
variable {G : GC} {M M' : Mem} {C : CE} {σ : St} {T : Nat}
/-- a row that calls may write -/
theorem Kx.row (hX : XB G M C σ) {k : Nat} {K : Nat → Int32} (hk : k = 8 ∨ k = 14 ∨ k = 17 ∨ k = 19) : Kx C M (sA M (eX C k) K) := by
  have hk20 : k < 20 := by omega
  have hc : mC M (eX C k) = some (11, xL k) := by
    have := hX.1.1 k hk20
    rw [show xT k = 11 by rcases hk with e | e | e | e <;> subst e <;> rfl] at this
    exact this
  refine ⟨fun _ _ h => h, fun b x hb _ _ _ _ h8 h14 h17 h19 => Sm.A ?_, fun _ _ _ _ _ => rfl, fun _ => rfl, fun j h1 h2 => ?_, Nat.le_refl _⟩
  · rcases hk with e | e | e | e <;> subst e <;> assumption
  · have hl := hX.l j ⟨h1, h2⟩
    obtain ⟨t, z, a1, a2⟩ := hl.ar2
    exact ⟨Sm.A (ne_ty hl.1 hc (by decide)), fun _ => Sm.A (ne_ty a1 hc (by omega))⟩
theorem S2.row {l m : List Nat} (h : S2 G M C σ l m) (b : Nat) (K : Nat → Int32) {z : Nat} (hb : mC M b = some (11, z)) : S2 G (sA M b K) C σ l m := by
  obtain ⟨e1, c1, e2, c2, s1, s2, h3⟩ := h
  obtain ⟨t, z', a1, a2⟩ := s1.1.ar2
  obtain ⟨t', z'', b1, b2⟩ := s2.1.ar2
  exact ⟨e1, c1, e2, c2, s1.sm rfl (Sm.A (ne_ty s1.1.1 hb (by decide))) (Sm.A (ne_ty a1 hb (by omega))), s2.sm rfl (Sm.A (ne_ty s2.1.1 hb (by decide))) (Sm.A (ne_ty b1 hb (by omega))), h3⟩
theorem XQ.row (h : XM G M C σ) (hO : Ok σ T) {k z : Nat} {K : Nat → Int32} (hk : k = 8 ∨ k = 14 ∨ k = 17 ∨ k = 19) (hb : mC M (eX C k) = some (11, z)) : XQ G C M σ (sA M (eX C k) K) := by
  obtain ⟨hX, l, m, hS, h1, h2⟩ := h
  exact XQ.kx ⟨hX, l, m, hS, h1, h2⟩ hO (Kx.row hX hk) (hS.row _ K hb) h1 h2
end KXI
section WY2
variable {G : GC} {M M1 : Mem} {C : CE} {σ τ : St} {T : Nat}
theorem x_reachBy (hX : XB G M C σ) (hO : Ok σ T) {p : Nat} {R : Nat → Nat} (hp : p / 2 < σ.1 1) {K : Nat → Int32} (hK : ∀ y, y < 10 → K y = iz (R y : Int) ∧ R y ≤ 1000000) : Ht G iX7_reachBy yX7_reachBy 3 [.ref (eX C 5), .ref (eA C 5 p)] (sA M (eX C 14) K) (rI fun r M' => r = bz (decide (R (fr σ p) + ln σ p < R (tt σ p))) ∧ ∃ K', M' = sA M (eX C 14) K' ∧ ∀ y, y < 10 → K' y = iz (rx σ p R y : Int)) nX 0 0 := by
  have p2 := hO.1.2.1
  have hX := hX.kx hO (Kx.row (K := K) hX (Or.inr (Or.inl rfl)))
  have w7 := hX.gr 13 1 10
  obtain ⟨q1, q2, q3, q4⟩ := fr_lt hO.st hp
  obtain ⟨k1, k2⟩ := hK (fr σ p) (by omega)
  obtain ⟨k3, k4⟩ := hK (tt σ p) (by omega)
  have e1 : mA (sA M (eX C 14) K) (eX C 14) (10 * 0 + fr σ p) = iz (R (fr σ p) : Int) := by rw [mA_sA, Nat.mul_zero, Nat.zero_add]; exact k1
  have e2 : mA (sA M (eX C 14) K) (eX C 14) (10 * 0 + tt σ p) = iz (R (tt σ p) : Int) := by rw [mA_sA, Nat.mul_zero, Nat.zero_add]; exact k3
  refine ht_intro (by decide +kernel) rfl rfl rfl (Nat.le_of_ble_eq_true rfl) ?_
  refine r_aload_n dX7_reachBy_0 rfl ?_
  refine r_getR qX7_23 dX7_reachBy_1 (hX.x 5 7 0) (hX.f 5 450 13) (kk := ?_)
  refine r_iconst dX7_reachBy_4 ?_
  refine r_aload_n dX7_reachBy_5 rfl ?_
  refine r_getI qX7_40 dX7_reachBy_6 (hX.k3 p hp) (hX.g193 p hp) (kk := ?_)
  refine r_callV (mi := iX7_reachBy) vX7_48 dX7_reachBy_9 w7.1 (x_at w7 (i := 0) (by decide) (show fr σ p < 10 by omega) e1) (hm := by exact ⟨Nat.le_of_ble_eq_true rfl, Nat.le_of_ble_eq_true rfl⟩) (k := kP ?_) (kx := r_nox)
  refine r_aload_n dX7_reachBy_12 rfl ?_
  refine r_getI qX7_82 dX7_reachBy_13 (hX.k3 p hp) (hX.g195 p hp) (kk := ?_)
  refine r_iadd dX7_reachBy_16 ?_
  refine r_istore_n dX7_reachBy_17 (k := ?_)
  refine r_iload_n dX7_reachBy_18 rfl ?_
  refine r_aload_n dX7_reachBy_19 rfl ?_
  refine r_getR qX7_23 dX7_reachBy_20 (hX.x 5 7 0) (hX.f 5 450 13) (kk := ?_)
  refine r_iconst dX7_reachBy_23 ?_
  refine r_aload_n dX7_reachBy_24 rfl ?_
  refine r_getI qX7_45 dX7_reachBy_25 (hX.k3 p hp) (hX.g194 p hp) (kk := ?_)
  refine r_callV (mi := iX7_reachBy) vX7_48 dX7_reachBy_28 w7.1 (x_at w7 (i := 0) (by decide) (show tt σ p < 10 by omega) e2) (hm := by exact ⟨Nat.le_of_ble_eq_true rfl, Nat.le_of_ble_eq_true rfl⟩) (k := kP ?_) (kx := r_nox)
  refine r_icmp_lt (tgt := 36) dX7_reachBy_31 (by decide) (kt := fun z31 => ?_) (kf := fun z31 => ?_)
  · refine r_aload_n dX7_reachBy_36 rfl ?_
    refine r_getR qX7_23 dX7_reachBy_37 (hX.x 5 7 0) (hX.f 5 450 13) (kk := ?_)
    refine r_iconst dX7_reachBy_40 ?_
    refine r_aload_n dX7_reachBy_41 rfl ?_
    refine r_getI qX7_45 dX7_reachBy_42 (hX.k3 p hp) (hX.g194 p hp) (kk := ?_)
    refine r_iload_n dX7_reachBy_45 rfl ?_
    refine r_callV (mi := iX7_reachBy) vX7_26 dX7_reachBy_46 w7.1 (x_put w7 (i := 0) (by decide) (show tt σ p < 10 by omega)) (hm := by exact ⟨Nat.le_of_ble_eq_true rfl, Nat.le_of_ble_eq_true rfl⟩) (k := kPV ?_) (kx := r_nox)
    rw [sA_sA, mA_sA]
    refine r_iconst dX7_reachBy_49 ?_
    exact r_iret dX7_reachBy_50 ⟨_, rfl, bz_d (by omega), _, rfl, fun y hy => by
      have hlt : R (fr σ p) + ln σ p < R (tt σ p) := by omega
      by_cases e : y = tt σ p
      · subst e
        rw [Nat.mul_zero, Nat.zero_add]
        simp only [upd, if_true]
        show iz _ = iz ((if _ ∧ _ then _ else _ : Nat) : Int)
        rw [if_pos ⟨rfl, hlt⟩]; rfl
      · have n : ¬ y = 10 * 0 + tt σ p := by omega
        simp only [upd, if_neg n]
        rw [(hK y hy).1]
        show iz _ = iz ((if _ ∧ _ then _ else _ : Nat) : Int)
        rw [if_neg (fun h => e h.1)]⟩
  · refine r_iconst dX7_reachBy_34 ?_
    exact r_iret dX7_reachBy_35 ⟨_, rfl, bz_nd (by omega), K, rfl, fun y hy => by
      rw [(hK y hy).1]
      refine congrArg (fun n : Nat => iz (n : Int)) ?_
      show R y = if y = tt σ p ∧ R (fr σ p) + ln σ p < R (tt σ p) then _ else R y
      rw [if_neg (by omega)]⟩
theorem by_in (hX : XB G M C σ) (hO : Ok σ T) {a : Nat} (ha : a < 10) {R0 : Nat → Nat} {x2 x3 x5 : Int32} {PR : Option Value → Mem → Prop} (kk : ∀ (ch : Bool) (R : Nat → Nat) (K : Nat → Int32), RD σ a R0 (σ.1 1) ch R → (∀ y, y < 10 → K y = iz (R y : Int)) → SWG G iX7_leastByRounds (rmd 8 0 0) (QF G PR nX 0 0) 115 [(5, .int x5), (4, .int (bz ch)), (0, .ref (eX C 5)), (1, .ref (eX C 1)), (2, .int x2), (3, .int x3)] [] (sA M (eX C 14) K) 0 0) :
    ∀ (k i : Nat) (ch : Bool) (R : Nat → Nat) (K : Nat → Int32), i + k = σ.1 1 → RD σ a R0 i ch R → (∀ y, y < 10 → K y = iz (R y : Int)) → SWG G iX7_leastByRounds (rmd 8 0 0) (QF G PR nX 0 0) 62 [(6, .int (iz (i : Int))), (5, .int x5), (4, .int (bz ch)), (0, .ref (eX C 5)), (1, .ref (eX C 1)), (2, .int x2), (3, .int x3)] [] (sA M (eX C 14) K) 0 0 := by
  have p3 := hO.1.2.2.1
  have hX0 := hX
  intro k
  induction k with
  | zero =>
    intro i ch R K hi hR hK
    have hi2 : i = σ.1 1 := by omega
    subst hi2
    have hX := hX.kx hO (Kx.row (K := K) hX (Or.inr (Or.inl rfl)))
    refine r_iload dX7_leastByRounds_62 rfl ?_
    refine r_aload_n dX7_leastByRounds_64 rfl ?_
    refine r_callV (mi := iX7_leastByRounds) vX7_65 dX7_leastByRounds_65 (hX.x 1 10 0) (c_size (hX.l 1)) (hm := by exact ⟨Nat.le_of_ble_eq_true rfl, Nat.le_of_ble_eq_true rfl⟩) (k := kP ?_) (kx := r_nox)
    refine r_icmp_ge (tgt := 115) dX7_leastByRounds_68 (by decide) (kt := fun z68 => ?_) (kf := fun z68 => (by exfalso; first | omega | simp_all))
    exact r_loc' (kk ch R K hR hK) ⟨rfl, rfl, rfl, rfl, rfl, rfl, trivial⟩
  | succ k ih =>
    intro i ch R K hi hR hK
    have hi3 : i < σ.1 1 := by omega
    have hX := hX0.kx hO (Kx.row (K := K) hX0 (Or.inr (Or.inl rfl)))
    have hb := hR.1
    refine r_iload dX7_leastByRounds_62 rfl ?_
    refine r_aload_n dX7_leastByRounds_64 rfl ?_
    refine r_callV (mi := iX7_leastByRounds) vX7_65 dX7_leastByRounds_65 (hX.x 1 10 0) (c_size (hX.l 1)) (hm := by exact ⟨Nat.le_of_ble_eq_true rfl, Nat.le_of_ble_eq_true rfl⟩) (k := kP ?_) (kx := r_nox)
    refine r_icmp_ge (tgt := 115) dX7_leastByRounds_68 (by decide) (kt := fun z68 => (by exfalso; first | omega | simp_all)) (kf := fun z68 => ?_)
    refine r_aload_n dX7_leastByRounds_71 rfl ?_
    refine r_iload dX7_leastByRounds_72 rfl ?_
    refine r_callV (mi := iX7_leastByRounds) vX7_71 dX7_leastByRounds_74 (hX.x 1 10 0) (c_get (hX.l 1) hi3 (hX.q 1 i hi3)) (hm := by exact ⟨Nat.le_of_ble_eq_true rfl, Nat.le_of_ble_eq_true rfl⟩) (k := kPA ?_) (kx := r_nox)
    refine r_cast nX7_31.1 dX7_leastByRounds_77 (hX.k5 i hi3) (k := ?_)
    refine r_astore dX7_leastByRounds_80 (k := ?_)
    refine r_aload_n dX7_leastByRounds_82 rfl ?_
    refine r_aload dX7_leastByRounds_83 rfl ?_
    refine r_getR qX7_30 dX7_leastByRounds_85 (hX.k5 i hi3) (hX.g324 i hi3) (kk := ?_)
    refine r_callV (mi := iX7_leastByRounds) vX7_75 dX7_leastByRounds_88 (hX.x 5 7 0) (x_reachBy hX0 hO (p := 2 * i) (R := R) (by omega) (fun y hy => ⟨hK y hy, (hb.2 y hy).2⟩)) (hm := by exact ⟨Nat.le_of_ble_eq_true rfl, Nat.le_of_ble_eq_true rfl⟩) (k := kI (fun r M2 hr => ?_)) (kx := r_nox)
    obtain ⟨rfl, K2, rfl, hK2⟩ := hr
    have hX := hX0.kx hO (Kx.row (K := K2) hX0 (Or.inr (Or.inl rfl)))
    refine r_dif_ne (tgt := 106) dX7_leastByRounds_91 (by decide) (kt := fun z91 => ?_) (kf := fun z91 => ?_)
    · refine r_iconst dX7_leastByRounds_106 ?_
      refine r_istore dX7_leastByRounds_107 (k := ?_)
      refine r_iinc dX7_leastByRounds_109 rfl (k := ?_)
      refine r_goto (tgt := 62) dX7_leastByRounds_112 (by decide) ?_
      first
        | exact r_loc' (ih (i + 1) true _ K3 (by omega) (rd_2 hO.st hO.1.2.1 ha hR hi3 z91 true (Or.inl rfl)) hK3) ⟨rfl, rfl, rfl, rfl, rfl, rfl, rfl, trivial⟩
        | exact r_loc' (ih (i + 1) ch _ K3 (by omega) (rd_2 hO.st hO.1.2.1 ha hR hi3 z91 ch (Or.inr ⟨rfl, z103⟩)) hK3) ⟨rfl, rfl, rfl, rfl, rfl, rfl, rfl, trivial⟩
        | exact r_loc' (ih (i + 1) true _ K2 (by omega) (rd_1 hO.st hO.1.2.1 ha hR hi3 z91) hK2) ⟨rfl, rfl, rfl, rfl, rfl, rfl, rfl, trivial⟩
    · refine r_aload_n dX7_leastByRounds_94 rfl ?_
      refine r_aload dX7_leastByRounds_95 rfl ?_
      refine r_getR qX7_79 dX7_leastByRounds_97 (hX.k5 i hi3) (hX.g325 i hi3) (kk := ?_)
      refine r_callV (mi := iX7_leastByRounds) vX7_75 dX7_leastByRounds_100 (hX.x 5 7 0) (x_reachBy hX0 hO (p := 2 * i + 1) (R := rx σ (2 * i) R) (by omega) (fun y hy => ⟨hK2 y hy, Nat.le_trans (rx_le _ _ _) (hb.2 y hy).2⟩)) (hm := by exact ⟨Nat.le_of_ble_eq_true rfl, Nat.le_of_ble_eq_true rfl⟩) (k := kI (fun r M3 hr => ?_)) (kx := r_nox)
      obtain ⟨rfl, K3, rfl, hK3⟩ := hr
      have hrx : rx σ (2 * i) R = R := funext fun y => by unfold rx; rw [if_neg (fun h => z91 h.2)]
      rw [hrx] at hK3 ⊢
      refine r_dif_eq (tgt := 109) dX7_leastByRounds_103 (by decide) (kt := fun z103 => ?_) (kf := fun z103 => ?_)
      · refine r_iinc dX7_leastByRounds_109 rfl (k := ?_)
        refine r_goto (tgt := 62) dX7_leastByRounds_112 (by decide) ?_
        first
          | exact r_loc' (ih (i + 1) true _ K3 (by omega) (rd_2 hO.st hO.1.2.1 ha hR hi3 z91 true (Or.inl rfl)) hK3) ⟨rfl, rfl, rfl, rfl, rfl, rfl, rfl, trivial⟩
          | exact r_loc' (ih (i + 1) ch _ K3 (by omega) (rd_2 hO.st hO.1.2.1 ha hR hi3 z91 ch (Or.inr ⟨rfl, z103⟩)) hK3) ⟨rfl, rfl, rfl, rfl, rfl, rfl, rfl, trivial⟩
          | exact r_loc' (ih (i + 1) true _ K2 (by omega) (rd_1 hO.st hO.1.2.1 ha hR hi3 z91) hK2) ⟨rfl, rfl, rfl, rfl, rfl, rfl, rfl, trivial⟩
      · refine r_iconst dX7_leastByRounds_106 ?_
        refine r_istore dX7_leastByRounds_107 (k := ?_)
        refine r_iinc dX7_leastByRounds_109 rfl (k := ?_)
        refine r_goto (tgt := 62) dX7_leastByRounds_112 (by decide) ?_
        first
          | exact r_loc' (ih (i + 1) true _ K3 (by omega) (rd_2 hO.st hO.1.2.1 ha hR hi3 z91 true (Or.inl rfl)) hK3) ⟨rfl, rfl, rfl, rfl, rfl, rfl, rfl, trivial⟩
          | exact r_loc' (ih (i + 1) ch _ K3 (by omega) (rd_2 hO.st hO.1.2.1 ha hR hi3 z91 ch (Or.inr ⟨rfl, z103⟩)) hK3) ⟨rfl, rfl, rfl, rfl, rfl, rfl, rfl, trivial⟩
          | exact r_loc' (ih (i + 1) true _ K2 (by omega) (rd_1 hO.st hO.1.2.1 ha hR hi3 z91) hK2) ⟨rfl, rfl, rfl, rfl, rfl, rfl, rfl, trivial⟩
/-- what i rounds have brought -/
def BO (σ : St) (a i : Nat) (ch : Bool) (R : Nat → Nat) : Prop := BF σ a R ∧ (i + 1 ≤ rc σ a R ∨ 10 ≤ rc σ a R) ∧ (ch = false → ∀ y, y < 10 → R y = ld σ a y)
theorem by_out (hX : XB G M C σ) (hO : Ok σ T) {a b : Nat} (ha : a < 10) (hb : b < 10) {x2 : Int32} {M0 : Mem} :
    ∀ (k i : Nat) (ch : Bool) (R : Nat → Nat) (K : Nat → Int32), i + k = 10 → BO σ a i ch R → (∀ y, y < 10 → K y = iz (R y : Int)) → SWG G iX7_leastByRounds (rmd 8 0 0) (QF G (rI fun r M' => r = iz (ld σ a b : Int) ∧ ∃ K, M' = sA M (eX C 14) K) nX 0 0) 44 [(5, .int (iz (i : Int))), (4, .int (bz ch)), (0, .ref (eX C 5)), (1, .ref (eX C 1)), (2, .int x2), (3, .int (iz (b : Int)))] [] (sA M (eX C 14) K) 0 0 := by
  have hX0 := hX
  intro k
  induction k with
  | zero =>
    intro i ch R K hi hB hK
    have hi2 : i = 10 := by omega
    subst hi2
    have hX := hX.kx hO (Kx.row (K := K) hX (Or.inr (Or.inl rfl)))
    have w7 := hX.gr 13 1 10
    have e1 : mA (sA M (eX C 14) K) (eX C 14) (10 * 0 + b) = iz (ld σ a b : Int) := by rw [mA_sA, Nat.mul_zero, Nat.zero_add, hK b hb, rc_all (σ := σ) (a := a) (R := R) (hB.2.1.elim (fun h => by omega) id) b hb]
    refine r_iload dX7_leastByRounds_44 rfl ?_
    refine r_bif_eq (tgt := 121) dX7_leastByRounds_46 (by decide) (kt := fun z46 => ?_) (kf := fun z46 => ?_)
    · refine r_aload_n dX7_leastByRounds_121 rfl ?_
      refine r_getR qX7_23 dX7_leastByRounds_122 (hX.x 5 7 0) (hX.f 5 450 13) (kk := ?_)
      refine r_iconst dX7_leastByRounds_125 ?_
      refine r_iload_n dX7_leastByRounds_126 rfl ?_
      refine r_callV (mi := iX7_leastByRounds) vX7_48 dX7_leastByRounds_127 w7.1 (x_at w7 (i := 0) (by decide) hb e1) (hm := by exact ⟨Nat.le_of_ble_eq_true rfl, Nat.le_of_ble_eq_true rfl⟩) (k := kP ?_) (kx := r_nox)
      exact r_iret dX7_leastByRounds_130 (⟨_, rfl, rfl, K, rfl⟩)
    · refine r_iload dX7_leastByRounds_49 rfl ?_
      refine r_bipush dX7_leastByRounds_51 (k := ?_)
      refine r_icmp_ge (tgt := 121) dX7_leastByRounds_53 (by decide) (kt := fun z53 => ?_) (kf := fun z53 => (by exfalso; first | omega | simp_all))
      refine r_aload_n dX7_leastByRounds_121 rfl ?_
      refine r_getR qX7_23 dX7_leastByRounds_122 (hX.x 5 7 0) (hX.f 5 450 13) (kk := ?_)
      refine r_iconst dX7_leastByRounds_125 ?_
      refine r_iload_n dX7_leastByRounds_126 rfl ?_
      refine r_callV (mi := iX7_leastByRounds) vX7_48 dX7_leastByRounds_127 w7.1 (x_at w7 (i := 0) (by decide) hb e1) (hm := by exact ⟨Nat.le_of_ble_eq_true rfl, Nat.le_of_ble_eq_true rfl⟩) (k := kP ?_) (kx := r_nox)
      exact r_iret dX7_leastByRounds_130 (⟨_, rfl, rfl, K, rfl⟩)
  | succ k ih =>
    intro i ch R K hi hB hK
    have hX := hX.kx hO (Kx.row (K := K) hX (Or.inr (Or.inl rfl)))
    have w7 := hX.gr 13 1 10
    refine r_iload dX7_leastByRounds_44 rfl ?_
    refine r_bif_eq (tgt := 121) dX7_leastByRounds_46 (by decide) (kt := fun z46 => ?_) (kf := fun z46 => ?_)
    · refine r_aload_n dX7_leastByRounds_121 rfl ?_
      refine r_getR qX7_23 dX7_leastByRounds_122 (hX.x 5 7 0) (hX.f 5 450 13) (kk := ?_)
      refine r_iconst dX7_leastByRounds_125 ?_
      refine r_iload_n dX7_leastByRounds_126 rfl ?_
      have e1 : mA (sA M (eX C 14) K) (eX C 14) (10 * 0 + b) = iz (ld σ a b : Int) := by rw [mA_sA, Nat.mul_zero, Nat.zero_add, hK b hb, hB.2.2 z46 b hb]
      refine r_callV (mi := iX7_leastByRounds) vX7_48 dX7_leastByRounds_127 w7.1 (x_at w7 (i := 0) (by decide) hb e1) (hm := by exact ⟨Nat.le_of_ble_eq_true rfl, Nat.le_of_ble_eq_true rfl⟩) (k := kP ?_) (kx := r_nox)
      exact r_iret dX7_leastByRounds_130 (⟨_, rfl, rfl, K, rfl⟩)
    · refine r_iload dX7_leastByRounds_49 rfl ?_
      refine r_bipush dX7_leastByRounds_51 (k := ?_)
      refine r_icmp_ge (tgt := 121) dX7_leastByRounds_53 (by decide) (kt := fun z53 => (by exfalso; first | omega | simp_all)) (kf := fun z53 => ?_)
      refine r_iconst dX7_leastByRounds_56 ?_
      refine r_istore dX7_leastByRounds_57 (k := ?_)
      refine r_iconst dX7_leastByRounds_59 ?_
      refine r_istore dX7_leastByRounds_60 (k := ?_)
      refine r_loc' (by_in hX0 hO ha (R0 := R) (x2 := x2) (x3 := iz (b : Int)) (x5 := iz (i : Int)) (fun ch2 R2 K2 hR2 hK2 => ?_) (σ.1 1) 0 false R K (by omega) (rd_0 hB.1) hK) ⟨rfl, rfl, rfl, rfl, rfl, rfl, rfl, trivial⟩
      obtain ⟨f1, f2⟩ := rd_e hO.st hO.1.2.1 ha hB.1 hR2
      refine r_iinc dX7_leastByRounds_115 rfl (k := ?_)
      refine r_goto (tgt := 44) dX7_leastByRounds_118 (by decide) ?_
      exact r_loc' (ih (i + 1) ch2 R2 K2 (by omega) ⟨hR2.1, by have := hB.2.1; omega, f1⟩ hK2) ⟨rfl, rfl, rfl, rfl, rfl, rfl, trivial⟩
theorem x_leastByRounds (hX : XB G M C σ) (hO : Ok σ T) {a b : Nat} (ha : a < 10) (hb : b < 10) : Ht G iX7_leastByRounds yX7_leastByRounds 8 [.ref (eX C 5), .ref (eX C 1), .int (iz (a : Int)), .int (iz (b : Int))] M (rI fun r M' => r = iz (ld σ a b : Int) ∧ ∃ K, M' = sA M (eX C 14) K) nX 0 0 := by
  have hX0 := hX
  refine ht_intro (by decide +kernel) rfl rfl rfl (Nat.le_of_ble_eq_true rfl) ?_
  have loop : ∀ (k i : Nat) (K : Nat → Int32), i + k = 10 → (∀ y, y < i → K y = iz ((if y = a then 0 else 1000000 : Nat) : Int)) → SWG G iX7_leastByRounds (rmd 8 0 0) (QF G (rI fun r M' => r = iz (ld σ a b : Int) ∧ ∃ K, M' = sA M (eX C 14) K) nX 0 0) 3 [(4, .int (iz (i : Int))), (0, .ref (eX C 5)), (1, .ref (eX C 1)), (2, .int (iz (a : Int))), (3, .int (iz (b : Int)))] [] (sA M (eX C 14) K) 0 0 := by
    intro k
    induction k with
    | zero =>
      intro i K hi hK
      have hi2 : i = 10 := by omega
      subst hi2
      have hB : BF σ a (fun y => if y = a then 0 else 1000000) := ⟨if_pos rfl, fun y hy => by
        show ld σ a y ≤ (if y = a then 0 else 1000000) ∧ (if y = a then 0 else 1000000) ≤ 1000000
        by_cases e : y = a
        · rw [if_pos e, e, ld_self hO.st]; omega
        · rw [if_neg e]; exact ⟨ld_le _ _, Nat.le_refl _⟩⟩
      refine r_iload dX7_leastByRounds_3 rfl ?_
      refine r_bipush dX7_leastByRounds_5 (k := ?_)
      refine r_icmp_ge (tgt := 38) dX7_leastByRounds_7 (by decide) (kt := fun z7 => ?_) (kf := fun z7 => (by exfalso; first | omega | simp_all))
      refine r_iconst dX7_leastByRounds_38 ?_
      refine r_istore dX7_leastByRounds_39 (k := ?_)
      refine r_iconst dX7_leastByRounds_41 ?_
      refine r_istore dX7_leastByRounds_42 (k := ?_)
      exact r_loc' (by_out (x2 := iz (a : Int)) (M0 := M) hX0 hO ha hb 10 0 true _ K (by omega) ⟨hB, Or.inl (rc_1 hO.st ha hB), fun h => by cases h⟩ hK) ⟨rfl, rfl, rfl, rfl, rfl, rfl, trivial⟩
    | succ k ih =>
      intro i K hi hK
      have hX := hX.kx hO (Kx.row (K := K) hX (Or.inr (Or.inl rfl)))
      have w7 := hX.gr 13 1 10
      have hi10 : i < 10 := by omega
      refine r_iload dX7_leastByRounds_3 rfl ?_
      refine r_bipush dX7_leastByRounds_5 (k := ?_)
      refine r_icmp_ge (tgt := 38) dX7_leastByRounds_7 (by decide) (kt := fun z7 => (by exfalso; first | omega | simp_all)) (kf := fun z7 => ?_)
      refine r_aload_n dX7_leastByRounds_10 rfl ?_
      refine r_getR qX7_23 dX7_leastByRounds_11 (hX.x 5 7 0) (hX.f 5 450 13) (kk := ?_)
      refine r_iconst dX7_leastByRounds_14 ?_
      refine r_iload dX7_leastByRounds_15 rfl ?_
      refine r_iload dX7_leastByRounds_17 rfl ?_
      refine r_iload_n dX7_leastByRounds_19 rfl ?_
      refine r_icmp_ne (tgt := 27) dX7_leastByRounds_20 (by decide) (kt := fun z20 => ?_) (kf := fun z20 => ?_)
      · refine r_ldc (n := 1000000) kX7_64 dX7_leastByRounds_27 (k := ?_)
        refine r_callV (mi := iX7_leastByRounds) vX7_26 dX7_leastByRounds_29 w7.1 (x_put w7 (i := 0) (by decide) hi10) (hm := by exact ⟨Nat.le_of_ble_eq_true rfl, Nat.le_of_ble_eq_true rfl⟩) (k := kPV ?_) (kx := r_nox)
        rw [sA_sA, mA_sA, Nat.mul_zero, Nat.zero_add]
        refine r_iinc dX7_leastByRounds_32 rfl (k := ?_)
        refine r_goto (tgt := 3) dX7_leastByRounds_35 (by decide) ?_
        refine r_loc' (ih (i + 1) _ (by omega) (fun y hy => ?_)) ⟨rfl, rfl, rfl, rfl, rfl, trivial⟩
        by_cases e : y = i
        · subst e
          simp only [upd, if_true]
          first
            | (rw [if_pos (by omega)]; rfl)
            | (rw [if_neg (by omega)]; rfl)
        · simp only [upd, if_neg e]; exact hK y (by omega)
      · refine r_iconst dX7_leastByRounds_23 ?_
        refine r_goto (tgt := 29) dX7_leastByRounds_24 (by decide) ?_
        refine r_callV (mi := iX7_leastByRounds) vX7_26 dX7_leastByRounds_29 w7.1 (x_put w7 (i := 0) (by decide) hi10) (hm := by exact ⟨Nat.le_of_ble_eq_true rfl, Nat.le_of_ble_eq_true rfl⟩) (k := kPV ?_) (kx := r_nox)
        rw [sA_sA, mA_sA, Nat.mul_zero, Nat.zero_add]
        refine r_iinc dX7_leastByRounds_32 rfl (k := ?_)
        refine r_goto (tgt := 3) dX7_leastByRounds_35 (by decide) ?_
        refine r_loc' (ih (i + 1) _ (by omega) (fun y hy => ?_)) ⟨rfl, rfl, rfl, rfl, rfl, trivial⟩
        by_cases e : y = i
        · subst e
          simp only [upd, if_true]
          first
            | (rw [if_pos (by omega)]; rfl)
            | (rw [if_neg (by omega)]; rfl)
        · simp only [upd, if_neg e]; exact hK y (by omega)
  refine r_iconst dX7_leastByRounds_0 ?_
  refine r_istore dX7_leastByRounds_1 (k := ?_)
  have e := loop 10 0 (mA M (eX C 14)) (by omega) (fun y hy => absurd hy (Nat.not_lt_zero y))
  rw [sA_id] at e
  exact r_loc' e ⟨rfl, rfl, rfl, rfl, rfl, trivial⟩
theorem x_nextPlace (hX : XB G M C σ) (hO : Ok σ T) {a b : Nat} (ha : a < σ.1 0) (hb : b < σ.1 0) (hab : a ≠ b) (hd : dst σ a b < 100000) : Ht G iX7_nextPlace yX7_nextPlace 3 [.ref (eX C 5), .int (iz (a : Int)), .int (iz (b : Int))] M (rP (iz (nx σ a b : Int)) M) nX 0 0 := by
  have p2 := hO.1.2.1
  have w5 := hX.gr 9 10 10
  have w6 := hX.gr 11 10 10
  obtain ⟨n1, n2, n3, n4, n5⟩ := nx_spec hO.st hab hd
  have d1 := ld_le (σ := σ) a b
  refine ht_intro (by decide +kernel) rfl rfl rfl (Nat.le_of_ble_eq_true rfl) ?_
  have loop : ∀ (k i : Nat), i + k = 10 → i ≤ nx σ a b → SWG G iX7_nextPlace (rmd 3 0 0) (QF G (rP (iz (nx σ a b : Int)) M) nX 0 0) 2 [(3, .int (iz (i : Int))), (0, .ref (eX C 5)), (1, .int (iz (a : Int))), (2, .int (iz (b : Int)))] [] M 0 0 := by
    intro k
    induction k with
    | zero => intro i hi hn; exfalso; omega
    | succ k ih =>
      intro i hi hn
      have d2 := ld_le (σ := σ) i b
      have d3 := dv_le (σ := σ) a i
      have hq := nx_eq hO.st p2 (a := a) (b := b) (q := i) (by omega) (by omega) (by omega) hab hd
      refine r_iload_n dX7_nextPlace_2 rfl ?_
      refine r_bipush dX7_nextPlace_3 (k := ?_)
      refine r_icmp_ge (tgt := 47) dX7_nextPlace_5 (by decide) (kt := fun z5 => (by exfalso; first | omega | simp_all)) (kf := fun z5 => ?_)
      refine r_aload_n dX7_nextPlace_8 rfl ?_
      refine r_getR qX7_14 dX7_nextPlace_9 (hX.x 5 7 0) (hX.f 5 448 9) (kk := ?_)
      refine r_iload_n dX7_nextPlace_12 rfl ?_
      refine r_iload_n dX7_nextPlace_13 rfl ?_
      refine r_callV (mi := iX7_nextPlace) vX7_48 dX7_nextPlace_14 w5.1 (x_at w5 (show a < 10 by omega) (show i < 10 by omega) (hX.gd a i (by omega) (by omega))) (hm := by exact ⟨Nat.le_of_ble_eq_true rfl, Nat.le_of_ble_eq_true rfl⟩) (k := kP ?_) (kx := r_nox)
      refine r_aload_n dX7_nextPlace_17 rfl ?_
      refine r_getR qX7_20 dX7_nextPlace_18 (hX.x 5 7 0) (hX.f 5 449 11) (kk := ?_)
      refine r_iload_n dX7_nextPlace_21 rfl ?_
      refine r_iload_n dX7_nextPlace_22 rfl ?_
      refine r_callV (mi := iX7_nextPlace) vX7_48 dX7_nextPlace_23 w6.1 (x_at w6 (show i < 10 by omega) (show b < 10 by omega) (hX.gl i b (by omega) (by omega))) (hm := by exact ⟨Nat.le_of_ble_eq_true rfl, Nat.le_of_ble_eq_true rfl⟩) (k := kP ?_) (kx := r_nox)
      refine r_iadd dX7_nextPlace_26 ?_
      refine r_aload_n dX7_nextPlace_27 rfl ?_
      refine r_getR qX7_20 dX7_nextPlace_28 (hX.x 5 7 0) (hX.f 5 449 11) (kk := ?_)
      refine r_iload_n dX7_nextPlace_31 rfl ?_
      refine r_iload_n dX7_nextPlace_32 rfl ?_
      refine r_callV (mi := iX7_nextPlace) vX7_48 dX7_nextPlace_33 w6.1 (x_at w6 (show a < 10 by omega) (show b < 10 by omega) (hX.gl a b (by omega) (by omega))) (hm := by exact ⟨Nat.le_of_ble_eq_true rfl, Nat.le_of_ble_eq_true rfl⟩) (k := kP ?_) (kx := r_nox)
      refine r_icmp_ne (tgt := 41) dX7_nextPlace_36 (by decide) (kt := fun z36 => ?_) (kf := fun z36 => ?_)
      · refine r_iinc dX7_nextPlace_41 rfl (k := ?_)
        refine r_goto (tgt := 2) dX7_nextPlace_44 (by decide) ?_
        refine r_loc' (ih (i + 1) (by omega) ?_) ⟨rfl, rfl, rfl, rfl, trivial⟩
        have : i ≠ nx σ a b := fun e => by
          rw [← e] at n1
          have := hq.mpr n1
          omega
        omega
      · refine r_iload_n dX7_nextPlace_39 rfl ?_
        have e : i = nx σ a b := by
          apply Classical.byContradiction
          intro hne
          have := n2 i (by omega)
          rw [hq.mp (by omega)] at this
          cases this
        exact r_iret dX7_nextPlace_40 (rP_of (by rw [e]))
  refine r_iconst dX7_nextPlace_0 ?_
  refine r_istore_n dX7_nextPlace_1 (k := ?_)
  exact r_loc' (loop 10 0 (by omega) (Nat.zero_le _)) ⟨rfl, rfl, rfl, rfl, trivial⟩
theorem opDist_eq {a b : Nat} (ha : a < σ.1 0) (hb : b < σ.1 0) : opDistance σ (a : Int) (b : Int) = (σ, 0, if ld σ a b < 1000000 then (ld σ a b : Int) else -1) := by
  unfold opDistance
  rw [if_neg (by omega), Int.toNat_natCast, Int.toNat_natCast]
  unfold ld cp
  by_cases e : dst σ a b < 100000
  · rw [if_pos e, if_pos e, if_pos (by omega)]
  · rw [if_neg e, if_neg e, if_neg (by omega)]
theorem y_distance (hM : XM G M C σ) (hO : Ok σ T) (a b : Int) (ha : inR a) (hb : inR b) : Ht G iX8_distance yX8_distance 12 [.ref (eX C 0), .int (iz a), .int (iz b)] M (CR G C M (opDistance σ a b)) (CX G C M (opDistance σ a b) [NSE]) 4 24 := by
  have hX := hM.1
  have p2 := hO.1.2.1
  have w6 := hX.gr 11 10 10
  refine ht_intro (by decide +kernel) rfl rfl rfl (Nat.le_of_ble_eq_true rfl) ?_
  refine r_aload_n dX8_distance_0 rfl ?_
  refine r_iload_n dX8_distance_1 rfl ?_
  refine r_callV (mi := iX8_distance) vX8_64 dX8_distance_2 (hX.x 0 8 0) (x_checkPlace hX p2 a ha) (hm := by exact ⟨Nat.le_of_ble_eq_true rfl, Nat.le_of_ble_eq_true rfl⟩) (k := kT (fun hb1 => kPV ?_)) (kx := kxT (fun hb1 n hn => cx_rd (c := 0) hM hO hn (if_pos (Or.inl hb1)) rfl))
  refine r_aload_n dX8_distance_5 rfl ?_
  refine r_iload_n dX8_distance_6 rfl ?_
  refine r_callV (mi := iX8_distance) vX8_64 dX8_distance_7 (hX.x 0 8 0) (x_checkPlace hX p2 b hb) (hm := by exact ⟨Nat.le_of_ble_eq_true rfl, Nat.le_of_ble_eq_true rfl⟩) (k := kT (fun hb2 => kPV ?_)) (kx := kxT (fun hb2 n hn => cx_rd (c := 0) hM hO hn (if_pos (Or.inr hb2)) rfl))
  obtain ⟨a, rfl⟩ := nat_of (a := a) (by omega)
  obtain ⟨b, rfl⟩ := nat_of (a := b) (by omega)
  refine r_aload_n dX8_distance_10 rfl ?_
  refine r_getR qX8_28 dX8_distance_11 (hX.x 0 8 0) (hX.f 0 516 5) (kk := ?_)
  refine r_getR qX8_192 dX8_distance_14 (hX.x 5 7 0) (hX.f 5 449 11) (kk := ?_)
  refine r_iload_n dX8_distance_17 rfl ?_
  refine r_iload_n dX8_distance_18 rfl ?_
  refine r_callV (mi := iX8_distance) vX8_195 dX8_distance_19 w6.1 (x_at w6 (show a < 10 by omega) (show b < 10 by omega) (hX.gl a b (by omega) (by omega))) (hm := by exact ⟨Nat.le_of_ble_eq_true rfl, Nat.le_of_ble_eq_true rfl⟩) (k := kP ?_) (kx := r_nox)
  refine r_callS (mi := iX8_distance) vX8_199 dX8_distance_22 (x_noneIfNoWay (ld σ a b) (ld_le _ _)) (hm := by exact ⟨Nat.le_of_ble_eq_true rfl, Nat.le_of_ble_eq_true rfl⟩) (k := kP ?_) (kx := r_nox)
  exact r_iret dX8_distance_25 (cr_rd hM (opDist_eq (by omega) (by omega)) rfl)
theorem y_distanceByRounds (hM : XM G M C σ) (hO : Ok σ T) (a b : Int) (ha : inR a) (hb : inR b) : Ht G iX8_distanceByRounds yX8_distanceByRounds 12 [.ref (eX C 0), .int (iz a), .int (iz b)] M (CR G C M (opDistance σ a b)) (CX G C M (opDistance σ a b) [NSE]) 4 24 := by
  have hX := hM.1
  have p2 := hO.1.2.1
  refine ht_intro (by decide +kernel) rfl rfl rfl (Nat.le_of_ble_eq_true rfl) ?_
  refine r_aload_n dX8_distanceByRounds_0 rfl ?_
  refine r_iload_n dX8_distanceByRounds_1 rfl ?_
  refine r_callV (mi := iX8_distanceByRounds) vX8_64 dX8_distanceByRounds_2 (hX.x 0 8 0) (x_checkPlace hX p2 a ha) (hm := by exact ⟨Nat.le_of_ble_eq_true rfl, Nat.le_of_ble_eq_true rfl⟩) (k := kT (fun hb1 => kPV ?_)) (kx := kxT (fun hb1 n hn => cx_rd (c := 0) hM hO hn (if_pos (Or.inl hb1)) rfl))
  refine r_aload_n dX8_distanceByRounds_5 rfl ?_
  refine r_iload_n dX8_distanceByRounds_6 rfl ?_
  refine r_callV (mi := iX8_distanceByRounds) vX8_64 dX8_distanceByRounds_7 (hX.x 0 8 0) (x_checkPlace hX p2 b hb) (hm := by exact ⟨Nat.le_of_ble_eq_true rfl, Nat.le_of_ble_eq_true rfl⟩) (k := kT (fun hb2 => kPV ?_)) (kx := kxT (fun hb2 n hn => cx_rd (c := 0) hM hO hn (if_pos (Or.inr hb2)) rfl))
  obtain ⟨a, rfl⟩ := nat_of (a := a) (by omega)
  obtain ⟨b, rfl⟩ := nat_of (a := b) (by omega)
  refine r_aload_n dX8_distanceByRounds_10 rfl ?_
  refine r_getR qX8_28 dX8_distanceByRounds_11 (hX.x 0 8 0) (hX.f 0 516 5) (kk := ?_)
  refine r_aload_n dX8_distanceByRounds_14 rfl ?_
  refine r_getR qX8_10 dX8_distanceByRounds_15 (hX.x 0 8 0) (hX.f 0 512 1) (kk := ?_)
  refine r_iload_n dX8_distanceByRounds_18 rfl ?_
  refine r_iload_n dX8_distanceByRounds_19 rfl ?_
  refine r_callV (mi := iX8_distanceByRounds) vX8_202 dX8_distanceByRounds_20 (hX.x 5 7 0) (x_leastByRounds hX hO (show a < 10 by omega) (show b < 10 by omega)) (hm := by exact ⟨Nat.le_of_ble_eq_true rfl, Nat.le_of_ble_eq_true rfl⟩) (k := kI (fun r M2 hr => ?_)) (kx := r_nox)
  obtain ⟨rfl, K, rfl⟩ := hr
  refine r_callS (mi := iX8_distanceByRounds) vX8_199 dX8_distanceByRounds_23 (x_noneIfNoWay (ld σ a b) (ld_le _ _)) (hm := by exact ⟨Nat.le_of_ble_eq_true rfl, Nat.le_of_ble_eq_true rfl⟩) (k := kP ?_) (kx := r_nox)
  exact r_iret dX8_distanceByRounds_26 (cr_of (opDist_eq (by omega) (by omega)) rfl (XQ.row hM hO (Or.inr (Or.inl rfl)) (hX.x 14 11 10)))
end WY2
