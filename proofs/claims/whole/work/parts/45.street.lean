/-! The class: a street comes. -/
section STR
variable {G : GC} {M M1 M2 : Mem} {C : CE} {σ τ : St} {T : Nat}
theorem x_initS {a u v l n : Nat} {w : Bool} (hc : mC M a = some (5, 0)) (ha : a < mN M) : Ht G iX5_init yX5_init 4 [.ref a, .int (iz (n : Int)), .int (iz (u : Int)), .int (iz (v : Int)), .int (iz (l : Int)), .int (bz w)] M (rV fun M' => (mN M' = mN M + 2 ∧ ∀ b, b < mN M → b ≠ a → Sm M M' b) ∧ mC M' a = some (5, 0) ∧ (mI M' 320 a = iz (n : Int) ∧ mI M' 321 a = iz (u : Int) ∧ mI M' 322 a = iz (l : Int) ∧ mI M' 323 a = bz w ∧ mR M' 324 a = some (mN M) ∧ mR M' 325 a = some (mN M + 1) ∧ mI M' 326 a = iz (-1)) ∧
    (mC M' (mN M) = some (3, 0) ∧ mI M' 192 (mN M) = iz ((2 * n : Nat) : Int) ∧ mI M' 193 (mN M) = iz (u : Int) ∧ mI M' 194 (mN M) = iz (v : Int) ∧ mI M' 195 (mN M) = iz (l : Int)) ∧ (mC M' (mN M + 1) = some (3, 0) ∧ mI M' 192 (mN M + 1) = iz ((2 * n + 1 : Nat) : Int) ∧ mI M' 193 (mN M + 1) = iz (v : Int) ∧ mI M' 194 (mN M + 1) = iz (u : Int) ∧ mI M' 195 (mN M + 1) = iz (l : Int))) nX 2 12 := by
  refine ht_intro (by decide +kernel) rfl rfl rfl (Nat.le_of_ble_eq_true rfl) ?_
  refine r_aload_n dX5_init_0 rfl ?_
  refine r_oinit vX5_3 dX5_init_1 (k := ?_)
  refine r_aload_n dX5_init_4 rfl ?_
  refine r_iload_n dX5_init_5 rfl ?_
  refine r_putI qX5_9 dX5_init_6 hc (kk := ?_)
  refine r_aload_n dX5_init_9 rfl ?_
  refine r_iload_n dX5_init_10 rfl ?_
  refine r_putI qX5_15 dX5_init_11 hc (kk := ?_)
  refine r_aload_n dX5_init_14 rfl ?_
  refine r_iload dX5_init_15 rfl ?_
  refine r_putI qX5_18 dX5_init_17 hc (kk := ?_)
  refine r_aload_n dX5_init_20 rfl ?_
  refine r_iload dX5_init_21 rfl ?_
  refine r_putZ qX5_21 dX5_init_23 hc (kk := ?_)
  refine gm (P := fun M' => (mN M' = mN M ∧ mC M' = mC M ∧ ∀ b, b ≠ a → Sm M M' b) ∧ mI M' 320 a = iz (n : Int) ∧ mI M' 321 a = iz (u : Int) ∧ mI M' 322 a = iz (l : Int) ∧ mI M' 323 a = bz w) ⟨⟨rfl, rfl, fun b hb => (((Sm.Iu hb).tr (Sm.Iu hb)).tr (Sm.Iu hb)).tr (Sm.Iu hb)⟩, ?_, ?_, ?_, ?_⟩ (fun M1 hP => ?_)
  · exact (sI_n (by decide)).trans ((sI_n (by decide)).trans ((sI_n (by decide)).trans (sI_at _ _ _)))
  · exact (sI_n (by decide)).trans ((sI_n (by decide)).trans (sI_at _ _ _))
  · exact (sI_n (by decide)).trans (sI_at _ _ _)
  · exact sI_at _ _ _
  obtain ⟨⟨n1, n2, n3⟩, f0, f1, f2, f3⟩ := hP
  have hca : mC M1 a = some (5, 0) := (congrFun n2 a).trans hc
  have hane : a ≠ mN M1 := by omega
  refine r_aload_n dX5_init_26 rfl ?_
  refine r_new nX5_25 dX5_init_27 (hm := ⟨by decide, by decide⟩) (k := fun hlt hgb => ?_)
  refine r_dup dX5_init_30 (k := ?_)
  refine r_iconst dX5_init_31 ?_
  refine r_iload_n dX5_init_32 rfl ?_
  refine r_imul dX5_init_33 ?_
  refine r_iload_n dX5_init_34 rfl ?_
  refine r_iload_n dX5_init_35 rfl ?_
  refine r_iload dX5_init_36 rfl ?_
  refine r_callI (mi := iX5_init) vX5_27 dX5_init_38 (x_initPs (nw_c M1 3 0)) (hm := by exact ⟨Nat.le_of_ble_eq_true rfl, Nat.le_of_ble_eq_true rfl⟩) (k := kV (fun M2 hN => ?_)) (kx := r_nox)
  obtain ⟨⟨m1, m2, m3⟩, g1, g2, g3, g4⟩ := hN
  have sa : Sm M1 M2 a := (Sm.nw hane).tr (m3 a hane)
  have hN2 : mN M2 = mN M + 1 := m1.trans (congrArg (· + 1) n1)
  have hp1 : mC M2 (mN M) = some (3, 0) := by rw [← n1]; exact (congrFun m2 _).trans (nw_c M1 3 0)
  rw [n1] at g1 g2 g3 g4 ⊢
  refine r_putR qX5_30 dX5_init_41 (sa.c hca) (kk := ?_)
  refine gm (P := fun M' => (mN M' = mN M + 1 ∧ ∀ b, b < mN M → b ≠ a → Sm M M' b) ∧ mC M' a = some (5, 0) ∧ (mI M' 320 a = iz (n : Int) ∧ mI M' 321 a = iz (u : Int) ∧ mI M' 322 a = iz (l : Int) ∧ mI M' 323 a = bz w ∧ mR M' 324 a = some (mN M)) ∧ mC M' (mN M) = some (3, 0) ∧ mI M' 192 (mN M) = iz ((2 : Int) * (n : Int)) ∧ mI M' 193 (mN M) = iz (u : Int) ∧ mI M' 194 (mN M) = iz (v : Int) ∧ mI M' 195 (mN M) = iz (l : Int)) ⟨⟨hN2, fun b hb hba => (n3 b hba).tr ((Sm.nw (by omega)).tr ((m3 b (by omega)).tr (Sm.Ru hba)))⟩, sa.c hca, ⟨sa.i f0, sa.i f1, sa.i f2, sa.i f3, by show mR (sR _ 324 _) 324 a = _; rw [mR_sR, up_s]⟩, hp1, g1, g2, g3, g4⟩ (fun M3 hP => ?_)
  obtain ⟨⟨n1, n3⟩, hca, ⟨f0, f1, f2, f3, f4⟩, hp1, g1, g2, g3, g4⟩ := hP
  have hane : a ≠ mN M3 := by omega
  refine r_aload_n dX5_init_44 rfl ?_
  refine r_new nX5_25 dX5_init_45 (hm := ⟨by decide, by decide⟩) (k := fun hlt hgb => ?_)
  refine r_dup dX5_init_48 (k := ?_)
  refine r_iconst dX5_init_49 ?_
  refine r_iload_n dX5_init_50 rfl ?_
  refine r_imul dX5_init_51 ?_
  refine r_iconst dX5_init_52 ?_
  refine r_iadd dX5_init_53 ?_
  refine r_iload_n dX5_init_54 rfl ?_
  refine r_iload_n dX5_init_55 rfl ?_
  refine r_iload dX5_init_56 rfl ?_
  refine r_callI (mi := iX5_init) vX5_27 dX5_init_58 (x_initPs (nw_c M3 3 0)) (hm := by exact ⟨Nat.le_of_ble_eq_true rfl, Nat.le_of_ble_eq_true rfl⟩) (k := kV (fun M4 hN => ?_)) (kx := r_nox)
  obtain ⟨⟨m1, m2, m3⟩, k1, k2, k3, k4⟩ := hN
  have sa : Sm M3 M4 a := (Sm.nw hane).tr (m3 a hane)
  have sp : Sm M3 M4 (mN M) := (Sm.nw (by omega)).tr (m3 _ (by omega))
  have hN4 : mN M4 = mN M + 2 := m1.trans (congrArg (· + 1) n1)
  have hp2 : mC M4 (mN M + 1) = some (3, 0) := by rw [← n1]; exact (congrFun m2 _).trans (nw_c M3 3 0)
  rw [n1] at k1 k2 k3 k4 ⊢
  refine r_putR qX5_34 dX5_init_61 (sa.c hca) (kk := ?_)
  refine r_aload_n dX5_init_64 rfl ?_
  refine r_iconst dX5_init_65 ?_
  refine r_putI qX5_37 dX5_init_66 (sa.c hca) (kk := ?_)
  exact r_vret dX5_init_69 (⟨rfl, ⟨hN4, fun b hb hba => (n3 b hb hba).tr ((Sm.nw (by omega)).tr ((m3 b (by omega)).tr ((Sm.Ru hba).tr (Sm.Iu hba))))⟩, sa.c hca, ⟨(sI_n (by decide)).trans (sa.i f0), (sI_n (by decide)).trans (sa.i f1), (sI_n (by decide)).trans (sa.i f2), (sI_n (by decide)).trans (sa.i f3), (congrFun (mR_sRn _ _ _ _ (by decide)) _).trans (sa.r f4), by show mR (sR _ 325 _) 325 a = _; rw [mR_sR, up_s], sI_at _ _ _⟩, ⟨sp.c hp1, (sI_n (by decide)).trans (sp.i g1), (sI_n (by decide)).trans (sp.i g2), (sI_n (by decide)).trans (sp.i g3), (sI_n (by decide)).trans (sp.i g4)⟩, hp2, (sI_n (by decide)).trans k1, (sI_n (by decide)).trans k2, (sI_n (by decide)).trans k3, (sI_n (by decide)).trans k4⟩)
theorem sh_sym (a b k : Nat) : sh σ a b k = sh σ b a k := by
  induction k with
  | zero => rfl
  | succ k ih =>
    unfold sh
    rw [ih]
    by_cases e : (σ.2 1 k = a ∧ σ.2 2 k = b) ∨ (σ.2 1 k = b ∧ σ.2 2 k = a)
    · rw [if_pos e, if_pos (Or.symm e)]
    · rw [if_neg e, if_neg (fun h => e (Or.symm h))]
theorem sh_pre {a b : Nat} (k : Nat) (h : ∀ s, s < k → τ.2 1 s = σ.2 1 s ∧ τ.2 2 s = σ.2 2 s ∧ τ.2 3 s = σ.2 3 s) : sh τ a b k = sh σ a b k := by
  induction k with
  | zero => rfl
  | succ k ih =>
    obtain ⟨h1, h2, h3⟩ := h k (by omega)
    unfold sh
    rw [ih (fun s hs => h s (by omega)), h1, h2, h3]
def sAS (σ : St) (u v l w : Nat) : St := stS (stA (stA (stA (stA (stA σ 1 (σ.1 1) u) 2 (σ.1 1) v) 3 (σ.1 1) l) 13 (σ.1 1) w) 4 (σ.1 1) 0) 1 (σ.1 1 + 1)
theorem sAS_o {u v l w k i : Nat} (h : ¬ (k = 1 ∨ k = 2 ∨ k = 3 ∨ k = 13 ∨ k = 4) ∨ i ≠ σ.1 1) : (sAS σ u v l w).2 k i = σ.2 k i := by
  show (stA (stA (stA (stA (stA σ 1 (σ.1 1) u) 2 (σ.1 1) v) 3 (σ.1 1) l) 13 (σ.1 1) w) 4 (σ.1 1) 0).2 k i = _
  rw [stA_o (by omega), stA_o (by omega), stA_o (by omega), stA_o (by omega), stA_o (by omega)]
theorem sAS_n {u v l w : Nat} : (sAS σ u v l w).2 1 (σ.1 1) = u ∧ (sAS σ u v l w).2 2 (σ.1 1) = v ∧ (sAS σ u v l w).2 3 (σ.1 1) = l ∧ (sAS σ u v l w).2 13 (σ.1 1) = w ∧ (sAS σ u v l w).2 4 (σ.1 1) = 0 := by
  refine ⟨?_, ?_, ?_, ?_, ?_⟩ <;> simp [sAS, stS, stA, stF, va_up]
theorem sAS_dv {u v l w a b : Nat} (hl : l ≤ 99) : dv (sAS σ u v l w) a b = if (a = u ∧ b = v) ∨ (a = v ∧ b = u) then min l (dv σ u v) else dv σ a b := by
  obtain ⟨z1, z2, z3, -, -⟩ := sAS_n (σ := σ) (u := u) (v := v) (l := l) (w := w)
  have e1 : (sAS σ u v l w).1 1 = σ.1 1 + 1 := stS_at _ 1 _
  have e2 : sh (sAS σ u v l w) a b (σ.1 1) = sh σ a b (σ.1 1) := sh_pre _ (fun s hs => ⟨sAS_o (Or.inr (by omega)), sAS_o (Or.inr (by omega)), sAS_o (Or.inr (by omega))⟩)
  have e3 : shh (sAS σ u v l w) a b = if (u = a ∧ v = b) ∨ (u = b ∧ v = a) then min (sh σ a b (σ.1 1)) l else sh σ a b (σ.1 1) := by
    unfold shh
    rw [e1]
    conv => lhs; unfold sh
    rw [e2, z1, z2, z3]
  have hle := sh_le (σ := σ) u v (σ.1 1)
  have key : cp (min (sh σ u v (σ.1 1)) l) = min l (dv σ u v) := by
    unfold dv shh cp
    rw [if_pos (by omega)]
    split <;> omega
  unfold dv
  rw [e3]
  by_cases e : (a = u ∧ b = v) ∨ (a = v ∧ b = u)
  · rw [if_pos e, if_pos (by omega)]
    rcases e with ⟨rfl, rfl⟩ | ⟨rfl, rfl⟩
    · exact key
    · rw [sh_sym]; exact key
  · rw [if_neg e, if_neg (by omega)]; rfl
theorem sAS_st {u v l w : Nat} (hO : Ok σ T) (hu : u < σ.1 0) (hv : v < σ.1 0) (huv : u ≠ v) (hl : 1 ≤ l ∧ l ≤ 99) : StOk (sAS σ u v l w) := fun s hs => by
  obtain ⟨z1, z2, z3, -, -⟩ := sAS_n (σ := σ) (u := u) (v := v) (l := l) (w := w)
  have e1 : (sAS σ u v l w).1 1 = σ.1 1 + 1 := stS_at _ 1 _
  have e0 : (sAS σ u v l w).1 0 = σ.1 0 := stS_o (by decide)
  rw [e0]
  by_cases e : s = σ.1 1
  · subst e
    rw [z1, z2, z3]
    exact ⟨hu, hv, huv, hl.1, hl.2⟩
  · rw [sAS_o (Or.inr e), sAS_o (Or.inr e), sAS_o (Or.inr e)]
    exact hO.st s (by omega)
theorem WY.sm (h : XB G M C σ) (hs : ∀ k, k = 5 ∨ k = 9 ∨ k = 10 ∨ k = 11 ∨ k = 12 ∨ k = 13 ∨ k = 14 → Sm M M2 (eX C k)) : WY M2 C := by
  obtain ⟨w1, w2, w3, w4, ⟨a1, a2, a3, a4, a5, a6, a7⟩, ⟨b1, b2, b3, b4, b5, b6, b7⟩, ⟨c1, c2, c3, c4, c5, c6, c7⟩, w8⟩ := h.wy
  exact ⟨(hs 5 (by decide)).c w1, (hs 5 (by decide)).r w2, (hs 5 (by decide)).r w3, (hs 5 (by decide)).r w4, ⟨(hs 9 (by decide)).c a1, (hs 9 (by decide)).i a2, (hs 9 (by decide)).i a3, (hs 9 (by decide)).r a4, (hs 10 (by decide)).c a5, a6, a7⟩, ⟨(hs 11 (by decide)).c b1, (hs 11 (by decide)).i b2, (hs 11 (by decide)).i b3, (hs 11 (by decide)).r b4, (hs 12 (by decide)).c b5, b6, b7⟩, ⟨(hs 13 (by decide)).c c1, (hs 13 (by decide)).i c2, (hs 13 (by decide)).i c3, (hs 13 (by decide)).r c4, (hs 14 (by decide)).c c5, c6, c7⟩, w8⟩
/-- elements with a new street at a -/
def gS (C : CE) (σ : St) (a : Nat) : Nat → Nat → Nat := va_up (gA C σ 1 a) 5 (va_up (va_up (eA C 5) (2 * σ.1 1) (a + 1)) (2 * σ.1 1 + 1) (a + 2))
theorem gS_1 (a : Nat) {k i : Nat} (h : k ≠ 5) : gS C σ a k i = gA C σ 1 a k i := congrFun (up_n _ _ h) i
theorem gS_5 (a : Nat) {p : Nat} (h : p / 2 < σ.1 1) : gS C σ a 5 p = eA C 5 p := by
  unfold gS
  rw [up_s, up_n _ _ (by omega), up_n _ _ (by omega)]
theorem gS_n (a : Nat) : gS C σ a 5 (2 * σ.1 1) = a + 1 ∧ gS C σ a 5 (2 * σ.1 1 + 1) = a + 2 := by
  unfold gS
  rw [up_s, up_s, up_n _ _ (by omega), up_s]
  exact ⟨rfl, rfl⟩
theorem y_addStreet (hM : XM G M C σ) (hO : Ok σ T) (u v l : Int) (w : Bool) (ha : inR u) (hb : inR v) (hl : inR l) : Ht G iX8_addStreet yX8_addStreet 16 [.ref (eX C 0), .int (iz u), .int (iz v), .int (iz l), .int (bz w)] M (CR G C M (opAddStreet σ u v l w)) (CX G C M (opAddStreet σ u v l w) [NSE, IAE, ISE]) 8 120 := by
  have hX := hM.1
  have hX0 := hM.1
  have p2 := hO.1.2.1
  have p3 := hO.1.2.2.1
  have hc := hX.cl 1
  refine ht_intro (by decide +kernel) rfl rfl rfl (Nat.le_of_ble_eq_true rfl) ?_
  refine r_aload_n dX8_addStreet_0 rfl ?_
  refine r_iload_n dX8_addStreet_1 rfl ?_
  refine r_callV (mi := iX8_addStreet) vX8_64 dX8_addStreet_2 (hX.x 0 8 0) (x_checkPlace hX p2 u ha) (hm := by exact ⟨Nat.le_of_ble_eq_true rfl, Nat.le_of_ble_eq_true rfl⟩) (k := kT (fun hb1 => kPV ?_)) (kx := kxT (fun hb1 n hn => cx_rd (c := 0) hM hO hn (if_pos (Or.inl hb1)) rfl))
  refine r_aload_n dX8_addStreet_5 rfl ?_
  refine r_iload_n dX8_addStreet_6 rfl ?_
  refine r_callV (mi := iX8_addStreet) vX8_64 dX8_addStreet_7 (hX.x 0 8 0) (x_checkPlace hX p2 v hb) (hm := by exact ⟨Nat.le_of_ble_eq_true rfl, Nat.le_of_ble_eq_true rfl⟩) (k := kT (fun hb2 => kPV ?_)) (kx := kxT (fun hb2 n hn => cx_rd (c := 0) hM hO hn (if_pos (Or.inr hb2)) rfl))
  refine r_iload_n dX8_addStreet_10 rfl ?_
  refine r_iload_n dX8_addStreet_11 rfl ?_
  refine r_icmp_eq (tgt := 25) dX8_addStreet_12 (by decide) (kt := fun z12 => ?_) (kf := fun z12 => ?_)
  · exact r_throwX (mi := iX8_addStreet) xw_72 hX.gD (text := "the ends are the same or the length is out of range") (is := 74) (by decide +kernel) dX8_addStreet_25 dX8_addStreet_28 dX8_addStreet_29 dX8_addStreet_31 dX8_addStreet_34 (hm := by exact ⟨Nat.le_of_ble_eq_true rfl, Nat.le_of_ble_eq_true rfl⟩) (hm2 := by exact ⟨Nat.le_of_ble_eq_true rfl, Nat.le_of_ble_eq_true rfl⟩) (hx := fun n hn => cx_rd (c := 1) hM hO hn (by unfold opAddStreet; rw [if_neg (by omega)]; exact if_pos (by omega)) rfl)
  · refine r_iconst dX8_addStreet_15 ?_
    refine r_bipush dX8_addStreet_16 (k := ?_)
    refine r_iload_n dX8_addStreet_18 rfl ?_
    refine r_callS (mi := iX8_addStreet) vX8_68 dX8_addStreet_19 (x_isFrom 1 99 l (by omega) (by omega) hl) (hm := by exact ⟨Nat.le_of_ble_eq_true rfl, Nat.le_of_ble_eq_true rfl⟩) (k := kP ?_) (kx := r_nox)
    refine r_dif_ne (tgt := 35) dX8_addStreet_22 (by decide) (kt := fun z22 => ?_) (kf := fun z22 => ?_)
    · refine r_aload_n dX8_addStreet_35 rfl ?_
      refine r_getR qX8_10 dX8_addStreet_36 (hX.x 0 8 0) (hX.f 0 512 1) (kk := ?_)
      refine r_callV (mi := iX8_addStreet) vX8_77 dX8_addStreet_39 (hX.x 1 10 0) (c_size (hX.l 1)) (hm := by exact ⟨Nat.le_of_ble_eq_true rfl, Nat.le_of_ble_eq_true rfl⟩) (k := kP ?_) (kx := r_nox)
      refine r_bipush dX8_addStreet_42 (k := ?_)
      refine r_icmp_lt (tgt := 57) dX8_addStreet_44 (by decide) (kt := fun z44 => ?_) (kf := fun z44 => ?_)
      · obtain ⟨u, rfl⟩ := nat_of (a := u) (by omega)
        obtain ⟨v, rfl⟩ := nat_of (a := v) (by omega)
        obtain ⟨l, rfl⟩ := nat_of (a := l) (by omega)
        have e0 : opAddStreet σ u v l w = (sAS σ u v l (if w then 1 else 0), 0, (σ.1 1 : Int)) := by
          unfold opAddStreet; rw [Int.toNat_natCast, Int.toNat_natCast, Int.toNat_natCast]; exact (if_neg (by omega)).trans ((if_neg (by omega)).trans (if_neg (by omega)))
        refine r_lt (fun hl0 => ?_)
        have gl : ∀ b x, mC M b = some x → b < mN M := fun b x hb => (hl0 b x.1 x.2 hb).1
        refine r_new nX8_83 dX8_addStreet_57 (hm := ⟨by decide, by decide⟩) (k := fun hlt hgb => ?_)
        have hX := nw_keep gl hX0 hO 5
        refine r_dup dX8_addStreet_60 (k := ?_)
        refine r_aload_n dX8_addStreet_61 rfl ?_
        refine r_getR qX8_10 dX8_addStreet_62 (hX.x 0 8 0) (hX.f 0 512 1) (kk := ?_)
        refine r_callV (mi := iX8_addStreet) vX8_77 dX8_addStreet_65 (hX.x 1 10 0) (c_size (hX.l 1)) (hm := by exact ⟨Nat.le_of_ble_eq_true rfl, Nat.le_of_ble_eq_true rfl⟩) (k := kP ?_) (kx := r_nox)
        refine r_iload_n dX8_addStreet_68 rfl ?_
        refine r_iload_n dX8_addStreet_69 rfl ?_
        refine r_iload_n dX8_addStreet_70 rfl ?_
        refine r_iload dX8_addStreet_71 rfl ?_
        refine r_callI (mi := iX8_addStreet) vX8_85 dX8_addStreet_73 (x_initS (u := u) (v := v) (l := l) (n := σ.1 1) (w := w) (nw_c M 5 0) (Nat.lt_succ_self _)) (hm := by exact ⟨Nat.le_of_ble_eq_true rfl, Nat.le_of_ble_eq_true rfl⟩) (k := kV (fun M1 hN => ?_)) (kx := r_nox)
        obtain ⟨⟨n1, n3⟩, hca, ⟨f0, f1, f2, f3, f4, f5, f6⟩, ⟨g0, g1, g2, g3, g4⟩, k0, k1, k2, k3, k4⟩ := hN
        have hs1 : ∀ b, b < mN M → Sm M M1 b := fun b hb => (Sm.nw (Nat.ne_of_lt hb)).tr (n3 b (Nat.lt_succ_of_lt hb) (Nat.ne_of_lt hb))
        have hN1 : mN M1 = mN M + 3 := n1
        have hnn : mN (nw M 5 0) = mN M + 1 := rfl
        rw [hnn] at f4 f5 g0 g1 g2 g3 g4 k0 k1 k2 k3 k4
        have hX := hX0.kx hO (Kx.fresh gl hs1 (by omega) hX0)
        refine r_astore dX8_addStreet_76 (k := ?_)
        refine r_aload_n dX8_addStreet_78 rfl ?_
        refine r_getR qX8_10 dX8_addStreet_79 (hX.x 0 8 0) (hX.f 0 512 1) (kk := ?_)
        refine r_aload dX8_addStreet_82 rfl ?_
        refine r_callV (mi := iX8_addStreet) vX8_88 dX8_addStreet_84 (hX.x 1 10 0) (c_add (t := 5) (hX.l 1) (fun _ => hX.obs 1) (by omega) hca (by decide) (ne_ty hca (hX.x 1 10 0) (by decide))) (hm := ⟨Nat.le_trans (Nat.add_le_add_left (ite_1 _ _) _) (Nat.le_of_ble_eq_true rfl), Nat.le_trans (Nat.add_le_add_left (ite_2 (b := 60) (by omega)) _) (Nat.le_of_ble_eq_true rfl)⟩) (k := kI (fun r M2 hA => ?_)) (kx := r_nox)
        refine r_wid (kc' := 8) (ks' := 110) (Nat.le_trans (Nat.add_le_add_left (ite_1 _ _) _) (by decide)) (Nat.le_trans (Nat.add_le_add_left (ite_2 (b := 60) (by omega)) _) (by decide)) ?_
        have a5 : ∀ b, b < mN M1 → b ≠ eX C 1 → b ≠ eE C 1 → Sm M1 M2 b := by obtain ⟨_, _, _, _, _, _, h, _⟩ := hA; exact h
        have lE : eE C 1 < mN M := by obtain ⟨t, z, b1, b2⟩ := (hX0.l 1).ar2; exact gl _ _ b1
        have lX : eX C 1 < mN M := gl _ _ (hX0.x 1 10 0)
        have eTy : ∀ k, k < 20 → xT k ≠ 10 → Sm M M2 (eX C k) := fun k hk hx => by
          have hck := hX0.1.1 k hk
          have lk := gl _ _ hck
          obtain ⟨t, z, b1, b2⟩ := (hX0.l 1).ar2
          exact (hs1 _ lk).tr (a5 _ (by omega) (ne_ty hck (hX0.x 1 10 0) hx) (ne_ty hck b1 (fun e => by
            have : ∀ k, k < 20 → xT k ≠ 13 ∧ xT k ≠ 17 := by decide
            have := this k hk; omega)))
        have hW2 : WY M2 C := WY.sm hX0 (fun k hk => eTy k (by omega) (by rcases hk with e | e | e | e | e | e | e <;> subst e <;> decide))
        have hG2 : GridP M2 C σ := hX0.2.2.2.2.2.2.2.2.2.1.same rfl (eTy 10 (by decide) (by decide)) (eTy 12 (by decide) (by decide)) rfl rfl (fun _ _ => rfl)
        have s0 : Sm M1 M2 (mN M) := a5 _ (by omega) (by omega) (by omega)
        have s1 : Sm M1 M2 (mN M + 1) := a5 _ (by omega) (by omega) (by omega)
        have s2 : Sm M1 M2 (mN M + 2) := a5 _ (by omega) (by omega) (by omega)
        refine r_pop dX8_addStreet_87 (k := ?_)
        refine r_aload_n dX8_addStreet_88 rfl ?_
        refine r_getR qX8_28 dX8_addStreet_89 ((eTy 0 (by decide) (by decide)).c (hX0.x 0 8 0)) ((eTy 0 (by decide) (by decide)).r (hX0.f 0 516 5)) (kk := ?_)
        refine r_aload dX8_addStreet_92 rfl ?_
        refine r_callV (mi := iX8_addStreet) vX8_92 dX8_addStreet_94 hW2.1 (x_connect (σ := σ) (τ := sAS σ u v l (if w then 1 else 0)) (u := u) (v := v) (l := l) hW2 hG2 hO.st (sAS_st hO (by omega) (by omega) (by omega) (by omega)) (by rw [show (sAS σ u v l (if w then 1 else 0)).1 0 = σ.1 0 from stS_o (by decide)]; exact p2) (fun P hP s hs => by have := hP s (by rw [show (sAS σ u v l (if w then 1 else 0)).1 1 = σ.1 1 + 1 from stS_at _ 1 _]; omega); rw [sAS_o (Or.inr (by omega)), sAS_o (Or.inr (by omega)), sAS_o (Or.inr (by omega))] at this; exact this) (by omega) (by omega) (by omega) (by omega) (s0.c hca) (s0.r f4) (s0.i f2) (s1.c g0) (s1.i g2) (s1.i g3) (fun a b _ _ => sAS_dv (by omega))) (hm := by exact ⟨Nat.le_of_ble_eq_true rfl, Nat.le_of_ble_eq_true rfl⟩) (k := kV (fun M3 hM3 => ?_)) (kx := r_nox)
        obtain ⟨K1, K2, hM3e, hG3⟩ := hM3
        have h23 : ∀ b, b ≠ eX C 10 → b ≠ eX C 12 → Sm M2 M3 b := fun b h1 h2 => by rw [hM3e]; exact (Sm.A h1).tr (Sm.A h2)
        have hc3 : mC M3 = mC M2 := by rw [hM3e]; rfl
        have hn3 : mN M3 = mN M2 := by rw [hM3e]; rfl
        clear hM3e
        obtain ⟨e', cap', g, sa, hle, hbs⟩ := Gw.mk (j := 1) (σ' := sAS σ u v l (if w then 1 else 0)) (A' := gS C σ (mN M)) (M3 := M3) hX0 (by decide) (by omega) gl hs1 (by omega) ⟨Nat.le_refl _, by omega⟩ hca hA h23 hc3 (stS_at _ 1 _) (fun k hk => stS_o hk) (fun k i hk hi => by
          by_cases e : k = 1 ∨ k = 2 ∨ k = 3 ∨ k = 13 ∨ k = 4
          · have : i < σ.1 1 := by rcases e with e | e | e | e | e <;> (subst e; exact hi)
            exact sAS_o (Or.inr (by omega))
          · exact sAS_o (Or.inl e)) (fun k i hk => by
          rcases hk with ⟨rfl, h⟩ | ⟨h1, h2, h3⟩
          · exact gS_5 _ h
          · rw [gS_1 _ (by omega)]; exact gA_o 1 _ (Or.inr h3)) (by rw [gS_1 _ (by decide)]; exact gA_n 1 _)
        have l10 : eX C 10 < mN M := gl _ _ (hX0.x 10 11 100)
        have l12 : eX C 12 < mN M := gl _ _ (hX0.x 12 11 100)
        have t1 : Sm M1 M3 (mN M + 1) := s1.tr (h23 _ (by omega) (by omega))
        have t2 : Sm M1 M3 (mN M + 2) := s2.tr (h23 _ (by omega) (by omega))
        have e1 : (sAS σ u v l (if w then 1 else 0)).1 1 = σ.1 1 + 1 := stS_at _ 1 _
        have hz := sAS_n (σ := σ) (u := u) (v := v) (l := l) (w := if w then 1 else 0)
        have hf := fr_2 (σ := sAS σ u v l (if w then 1 else 0)) (σ.1 1)
        rw [hz.1, hz.2.1, hz.2.2.1] at hf
        have hgn := gS_n (C := C) (σ := σ) (mN M)
        have hg1 : gS C σ (mN M) 1 (σ.1 1) = mN M := (gS_1 _ (by decide)).trans (gA_n 1 _)
        have nS : ∀ s, s < (sAS σ u v l (if w then 1 else 0)).1 1 → ¬ s < σ.1 1 → StreetP M3 (gC C 1 e' cap' (gS C σ (mN M))) (sAS σ u v l (if w then 1 else 0)) s := by
          intro s h1 h2
          have : s = σ.1 1 := by omega
          subst this
          show mI M3 320 (gS C σ (mN M) 1 (σ.1 1)) = _ ∧ mI M3 321 (gS C σ (mN M) 1 (σ.1 1)) = _ ∧ mI M3 322 (gS C σ (mN M) 1 (σ.1 1)) = _ ∧ mI M3 323 (gS C σ (mN M) 1 (σ.1 1)) = _ ∧ mR M3 324 (gS C σ (mN M) 1 (σ.1 1)) = some (gS C σ (mN M) 5 _) ∧ mR M3 325 (gS C σ (mN M) 1 (σ.1 1)) = some (gS C σ (mN M) 5 _) ∧ mI M3 326 (gS C σ (mN M) 1 (σ.1 1)) = _
          rw [hg1, hz.1, hz.2.2.1, hz.2.2.2.1, hz.2.2.2.2, hgn.1, hgn.2]
          exact ⟨sa.i f0, sa.i f1, sa.i f2, sa.i (f3.trans (bz_vz w)), sa.r f4, sa.r f5, sa.i f6⟩
        have nP : ∀ p, p / 2 < (sAS σ u v l (if w then 1 else 0)).1 1 → ¬ p / 2 < σ.1 1 → PassP M3 (gC C 1 e' cap' (gS C σ (mN M))) (sAS σ u v l (if w then 1 else 0)) p ∧ mN M ≤ gS C σ (mN M) 5 p := by
          intro p h1 h2
          have : p = 2 * σ.1 1 ∨ p = 2 * σ.1 1 + 1 := by omega
          rcases this with rfl | rfl
          · show (mC M3 (gS C σ (mN M) 5 _) = _ ∧ mI M3 192 (gS C σ (mN M) 5 _) = _ ∧ mI M3 193 (gS C σ (mN M) 5 _) = _ ∧ mI M3 194 (gS C σ (mN M) 5 _) = _ ∧ mI M3 195 (gS C σ (mN M) 5 _) = _) ∧ _
            rw [hgn.1, hf.1, hf.2.1, hf.2.2.1]
            exact ⟨⟨t1.c g0, t1.i g1, t1.i g2, t1.i g3, t1.i g4⟩, by omega⟩
          · show (mC M3 (gS C σ (mN M) 5 _) = _ ∧ mI M3 192 (gS C σ (mN M) 5 _) = _ ∧ mI M3 193 (gS C σ (mN M) 5 _) = _ ∧ mI M3 194 (gS C σ (mN M) 5 _) = _ ∧ mI M3 195 (gS C σ (mN M) 5 _) = _) ∧ _
            rw [hgn.2, hf.2.2.2.1, hf.2.2.2.2.1, hf.2.2.2.2.2]
            exact ⟨⟨t2.c k0, t2.i k1, t2.i k2, t2.i k3, t2.i k4⟩, by omega⟩
        have n5 : ∀ p q, p / 2 < (sAS σ u v l (if w then 1 else 0)).1 1 → ¬ p / 2 < σ.1 1 → q / 2 < (sAS σ u v l (if w then 1 else 0)).1 1 → ¬ q / 2 < σ.1 1 → gS C σ (mN M) 5 p = gS C σ (mN M) 5 q → p = q := by
          intro p q h1 h2 h3 h4 h5
          have a1 : p = 2 * σ.1 1 ∨ p = 2 * σ.1 1 + 1 := by omega
          have a2 : q = 2 * σ.1 1 ∨ q = 2 * σ.1 1 + 1 := by omega
          rcases a1 with rfl | rfl <;> rcases a2 with rfl | rfl
          · rfl
          · rw [hgn.1, hgn.2] at h5; omega
          · rw [hgn.1, hgn.2] at h5; omega
          · rfl
        have nk : ∀ k, k ≠ 1 → ∀ q, q < (sAS σ u v l (if w then 1 else 0)).1 k → ¬ q < σ.1 k → False := fun k hk q h1 h2 => h2 (by rw [← show (sAS σ u v l (if w then 1 else 0)).1 k = σ.1 k from stS_o hk]; exact h1)
        have hXB : XB G M3 (gC C 1 e' cap' (gS C σ (mN M))) (sAS σ u v l (if w then 1 else 0)) := hX0.grow hO g nS nP (fun q h1 h2 => (nk 2 (by decide) q h1 h2).elim) (fun q h1 h2 => (nk 3 (by decide) q h1 h2).elim) (fun q h1 h2 => (nk 4 (by decide) q h1 h2).elim) n5 hG3
        have hQ : XQ G C M (sAS σ u v l (if w then 1 else 0)) M3 := by
          obtain ⟨l1, m1, hS, hl1, hm1⟩ := hM.2
          exact ⟨g.fx hX0 (by omega), gC C 1 e' cap' (gS C σ (mN M)), rfl, hXB, l1, m1, hS.grow hX0 g, hl1, hm1⟩
        refine r_aload dX8_addStreet_97 rfl ?_
        refine r_getI qX8_96 dX8_addStreet_99 (sa.c hca) (sa.i f0) (kk := ?_)
        exact r_iret dX8_addStreet_102 (cr_of e0 rfl hQ)
      · exact r_throwX (mi := iX8_addStreet) xw_57 hX.gD (text := "no more streets") (is := 81) (by decide +kernel) dX8_addStreet_47 dX8_addStreet_50 dX8_addStreet_51 dX8_addStreet_53 dX8_addStreet_56 (hm := by exact ⟨Nat.le_of_ble_eq_true rfl, Nat.le_of_ble_eq_true rfl⟩) (hm2 := by exact ⟨Nat.le_of_ble_eq_true rfl, Nat.le_of_ble_eq_true rfl⟩) (hx := fun n hn => cx_rd (c := 2) hM hO hn (by unfold opAddStreet; rw [if_neg (by omega)]; exact (if_neg (by omega)).trans (if_pos (by omega))) rfl)
    · exact r_throwX (mi := iX8_addStreet) xw_72 hX.gD (text := "the ends are the same or the length is out of range") (is := 74) (by decide +kernel) dX8_addStreet_25 dX8_addStreet_28 dX8_addStreet_29 dX8_addStreet_31 dX8_addStreet_34 (hm := by exact ⟨Nat.le_of_ble_eq_true rfl, Nat.le_of_ble_eq_true rfl⟩) (hm2 := by exact ⟨Nat.le_of_ble_eq_true rfl, Nat.le_of_ble_eq_true rfl⟩) (hx := fun n hn => cx_rd (c := 1) hM hO hn (by unfold opAddStreet; rw [if_neg (by omega)]; exact if_pos (by omega)) rfl)
end STR
