/-! ArrayList.add. -/
section ADDS
variable {G : GC} {M : Mem}
/-- what comes of a list that is added to -/
def AddP (G : GC) (M : Mem) (l e n cap a : Nat) (M' : Mem) : Prop := ∃ e' cap', LL G M' l e' (n + 1) cap' ∧ mC M' e' = some (13, cap') ∧ mQ M' e' n = some a ∧ (∀ j, j < n → mQ M' e' j = mQ M e j) ∧ (∀ b, b < mN M → b ≠ l → b ≠ e → Sm M M' b) ∧ (∀ b, b < mN M → mC M' b = mC M b) ∧ mN M ≤ mN M' ∧ ((e' = e ∧ cap' = cap ∧ n < cap ∧ mN M' = mN M) ∨ (e' = mN M ∧ n = cap ∧ cap' ≤ cap + cap / 2 + 10 ∧ mN M' = mN M + 1 ∧ Sm M M' e))
def GrowP (M : Mem) (l e n : Nat) (r : Nat) (M' : Mem) : Prop := r = mN M ∧ ∃ nc, mC M' (mN M) = some (13, nc) ∧ mR M' 641 l = some (mN M) ∧ mC M' l = mC M l ∧ mI M' 642 l = mI M 642 l ∧ (∀ j, j < n → mQ M' (mN M) j = mQ M e j) ∧ (∀ b, b < mN M → b ≠ l → Sm M M' b) ∧ mN M' = mN M + 1 ∧ n < nc ∧ nc ≤ n + n / 2 + 10
theorem growP_of {l e n nc : Nat} {Q : Nat → Option Nat} {M1 : Mem} (hl : l < mN M) (hM : M1 = sQ (nw M 13 nc) (mN M) Q) (hQ : ∀ j, j < n → Q j = mQ M e j) (h1 : n < nc) (h2 : nc ≤ n + n / 2 + 10) : GrowP M l e n (mN M) (sR M1 641 (va_up (mR M1 641) l (some (mN M)))) := by
  have s1 : ∀ b, b < mN M → Sm M M1 b := fun b hb => by rw [hM]; exact (Sm.nw (Nat.ne_of_lt hb)).tr (Sm.Q (Nat.ne_of_lt hb))
  have c1 : mC M1 (mN M) = some (13, nc) := by rw [hM]; exact nw_c M 13 nc
  have q1 : mQ M1 (mN M) = Q := by rw [hM, mQ_sQ]
  have n1 : mN M1 = mN M + 1 := by rw [hM]; rfl
  refine ⟨rfl, nc, c1, by rw [mR_sR, up_s], (s1 l hl).1, (s1 l hl).2.1 642, fun j hj => ?_, fun b hb hbl => (s1 b hb).tr (Sm.Ru hbl), n1, h1, h2⟩
  show mQ M1 (mN M) j = _
  rw [q1]; exact hQ j hj
theorem max_1n {n : Nat} (h : 1 ≤ n) (h2 : n ≤ 40000) : n + max 1 (n / 2) ≤ n + n / 2 + 10 ∧ n < n + max 1 (n / 2) ∧ n + max 1 (n / 2) ≤ 90000 := by
  have h3 : max 1 (n / 2) ≤ n / 2 + 1 := Nat.max_le.mpr ⟨by omega, by omega⟩
  have h4 : 1 ≤ max 1 (n / 2) := Nat.le_max_left _ _
  omega
theorem c_grow1 {l e n : Nat} (h : LL G M l e n n) (ho : Obs M e n) : Ht G iJx4a65c_grow_92f84 yJx4a65c_grow_92f84 8 [.ref l, .int (iz ((n + 1 : Nat) : Int))] M (rA (GrowP M l e n)) nX 1 (n + n / 2 + 10) := by
  obtain ⟨h1, h2, h3, h4, h5, h6⟩ := id h
  refine ht_intro (by decide +kernel) rfl rfl rfl (Nat.le_of_ble_eq_true rfl) ?_
  by_cases hn : n = 0
  · subst hn
    have h7 : e = G.2.2.2 ∧ mC M e = some (17, 0) := by
      rcases h6 with h6 | ⟨-, h6⟩
      · omega
      · exact h6
    obtain ⟨he, h8⟩ := h7
    subst he
    refine r_aload_n dJx4a65c_grow_92f84_0 rfl ?_
    refine r_getR qJx4a65c_9 dJx4a65c_grow_92f84_1 (by assumption) (by assumption) (kk := ?_)
    refine r_alen dJx4a65c_grow_92f84_4 h8 (k := ?_)
    refine r_istore_n dJx4a65c_grow_92f84_5 (k := ?_)
    refine r_iload_n dJx4a65c_grow_92f84_6 rfl ?_
    refine r_if_gt (tgt := 20) dJx4a65c_grow_92f84_7 (by decide) (kt := fun z7 => (by exfalso; first | omega | simp_all)) (kf := fun z7 => ?_)
    refine r_aload_n dJx4a65c_grow_92f84_10 rfl ?_
    refine r_getR qJx4a65c_9 dJx4a65c_grow_92f84_11 (by assumption) (by assumption) (kk := ?_)
    refine r_gete qJx4a65c_39 dJx4a65c_grow_92f84_14 ?_
    refine r_acmp_eq (tgt := 45) dJx4a65c_grow_92f84_17 (by decide) (kt := fun z17 => ?_) (kf := fun z17 => (by exfalso; first | omega | simp_all))
    refine r_aload_n dJx4a65c_grow_92f84_45 rfl ?_
    refine r_bipush dJx4a65c_grow_92f84_46 (k := ?_)
    refine r_iload_n dJx4a65c_grow_92f84_48 rfl ?_
    refine r_mmax vJx4a65c_79 dJx4a65c_grow_92f84_49 (hc := (rfl : _ = (10 : Int))) (hm := ⟨by simp [rmd], by simp [rmd]⟩) (k := ?_)
    refine r_newq nJx4a65c_7 dJx4a65c_grow_92f84_52 (N := 10) rfl (hm := ⟨by simp [rmd], by simp [rmd]⟩) (k := fun hlt hgb => ?_)
    refine r_dup_x1 dJx4a65c_grow_92f84_55 (k := ?_)
    refine r_putR qJx4a65c_9 dJx4a65c_grow_92f84_56 ((Sm.nw (Nat.ne_of_lt (hlt l _ _ h1))).c h1) (kk := ?_)
    exact r_aret dJx4a65c_grow_92f84_59 (⟨_, rfl, growP_of (nc := 10) (hlt l _ _ h1) (sQ_id _ _).symm (fun j hj => by omega) (by omega) (by omega)⟩)
  · have h7 : mC M e = some (13, n) := by
      rcases h6 with h6 | ⟨h6, -⟩
      · exact h6.2
      · omega
    have hsh : iz (n : Int) >>> (iz 1 &&& 31) = iz ((n / 2 : Nat) : Int) := by
      rw [← iz_nI, ← iz_nI]
      have k := pk_shrN (n := n) (by omega) (iz 1 &&& 31) 1 (by decide +kernel)
      rw [Nat.pow_one] at k
      exact k
    obtain ⟨x1, x2, x3⟩ := max_1n (n := n) (by omega) h5
    generalize hmm : n + max 1 (n / 2) = nc at x1 x2 x3
    refine r_lt (fun hlt => ?_)
    have hl9 := (hlt l _ _ h1).1
    refine r_aload_n dJx4a65c_grow_92f84_0 rfl ?_
    refine r_getR qJx4a65c_9 dJx4a65c_grow_92f84_1 (by assumption) (by assumption) (kk := ?_)
    refine r_alen dJx4a65c_grow_92f84_4 h7 (k := ?_)
    refine r_istore_n dJx4a65c_grow_92f84_5 (k := ?_)
    refine r_iload_n dJx4a65c_grow_92f84_6 rfl ?_
    refine r_if_gt (tgt := 20) dJx4a65c_grow_92f84_7 (by decide) (kt := fun z7 => ?_) (kf := fun z7 => (by exfalso; first | omega | simp_all))
    refine r_iload_n dJx4a65c_grow_92f84_20 rfl ?_
    refine r_iload_n dJx4a65c_grow_92f84_21 rfl ?_
    refine r_iload_n dJx4a65c_grow_92f84_22 rfl ?_
    refine r_isub dJx4a65c_grow_92f84_23 ?_
    refine r_iload_n dJx4a65c_grow_92f84_24 rfl ?_
    refine r_iconst dJx4a65c_grow_92f84_25 ?_
    refine r_ishr dJx4a65c_grow_92f84_26 hsh ?_
    rw [show ((n + 1 : Nat) : Int) - (n : Int) = ((1 : Nat) : Int) by omega]
    refine r_callS vJx4a65c_73 dJx4a65c_grow_92f84_27 (c_newLength n 1 (n / 2) (by omega) (by omega) (by omega) h5 (by omega)) (hm := ⟨by omega, by omega⟩) (k := kP ?_) (kx := r_nox)
    rw [hmm]
    refine r_istore_n dJx4a65c_grow_92f84_30 (k := ?_)
    refine r_aload_n dJx4a65c_grow_92f84_31 rfl ?_
    refine r_aload_n dJx4a65c_grow_92f84_32 rfl ?_
    refine r_getR qJx4a65c_9 dJx4a65c_grow_92f84_33 (by assumption) (by assumption) (kk := ?_)
    refine r_iload_n dJx4a65c_grow_92f84_36 rfl ?_
    refine r_callS vJx4a65c_66 dJx4a65c_grow_92f84_37 (c_copyOf (nc := nc) h7 (by omega) (by omega) ho) (hm := ⟨by simp [rmd], by simp [rmd]; omega⟩) (k := kA fun r M' hr => ?_) (kx := r_nox)
    obtain ⟨rfl, rfl⟩ := hr
    refine r_dup_x1 dJx4a65c_grow_92f84_40 (k := ?_)
    refine r_putR qJx4a65c_9 dJx4a65c_grow_92f84_41 ((Sm.Q (Nat.ne_of_lt hl9)).c ((Sm.nw (Nat.ne_of_lt hl9)).c h1)) (kk := ?_)
    exact r_aret dJx4a65c_grow_92f84_44 (⟨_, rfl, growP_of (nc := nc) hl9 rfl (fun j hj => (pk_cpy_in (sp := 0) (dp := 0) (n := n) (Nat.zero_le j) (by omega)).trans (by simp)) x2 x1⟩)
theorem c_grow0 {l e n : Nat} (h : LL G M l e n n) (ho : Obs M e n) : Ht G iJx4a65c_grow_d5877 yJx4a65c_grow_d5877 10 [.ref l] M (rA (GrowP M l e n)) nX 1 (n + n / 2 + 10) := by
  obtain ⟨h1, h2, h3, h4, h5, h6⟩ := id h
  refine ht_intro (by decide +kernel) rfl rfl rfl (Nat.le_of_ble_eq_true rfl) ?_
  refine r_aload_n dJx4a65c_grow_d5877_0 rfl ?_
  refine r_aload_n dJx4a65c_grow_d5877_1 rfl ?_
  refine r_getI qJx4a65c_48 dJx4a65c_grow_d5877_2 (by assumption) (by assumption) (kk := ?_)
  refine r_iconst dJx4a65c_grow_d5877_5 ?_
  refine r_iadd dJx4a65c_grow_d5877_6 ?_
  refine r_callV vJx4a65c_69 dJx4a65c_grow_d5877_7 (by assumption) (c_grow1 h ho) (hm := ⟨by simp [rmd], by simp [rmd]⟩) (k := kA fun r M' hr => ?_) (kx := r_nox)
  exact r_aret dJx4a65c_grow_d5877_10 (⟨_, rfl, hr⟩)
theorem addP_of {M1 : Mem} {l e n nc a : Nat} (p1 : mC M1 (mN M) = some (13, nc)) (p2 : mR M1 641 l = some (mN M)) (hc2 : mC M1 l = some (10, 0)) (p5 : ∀ j, j < n → mQ M1 (mN M) j = mQ M e j) (p6 : ∀ b, b < mN M → b ≠ l → Sm M M1 b) (p7 : mN M1 = mN M + 1) (q1 : n < nc) (hnc : nc ≤ 40000) (hee : e < mN M) (hle : l ≠ e) (q2 : nc ≤ n + n / 2 + 10) (hl : l < mN M := by omega) (h1 : mC M l = some (10, 0) := by assumption) :
    AddP G M l e n n a (sI (sQ M1 (mN M) (va_up (mQ M1 (mN M)) n (some a))) (64 * 10 + 2) (upd (mI (sQ M1 (mN M) (va_up (mQ M1 (mN M)) n (some a))) (64 * 10 + 2)) l (iz ((n : Int) + 1)))) := by
  have s2 : ∀ b, b ≠ l → b ≠ mN M → Sm M1 (sI (sQ M1 (mN M) (va_up (mQ M1 (mN M)) n (some a))) (64 * 10 + 2) (upd (mI (sQ M1 (mN M) (va_up (mQ M1 (mN M)) n (some a))) (64 * 10 + 2)) l (iz ((n : Int) + 1)))) b := fun b hb hb2 => (Sm.Q hb2).tr (Sm.Iu hb)
  have eq : mQ (sI (sQ M1 (mN M) (va_up (mQ M1 (mN M)) n (some a))) (64 * 10 + 2) (upd (mI (sQ M1 (mN M) (va_up (mQ M1 (mN M)) n (some a))) (64 * 10 + 2)) l (iz ((n : Int) + 1)))) (mN M) = va_up (mQ M1 (mN M)) n (some a) := mQ_sQ _ _ _
  have ei : mI (sI (sQ M1 (mN M) (va_up (mQ M1 (mN M)) n (some a))) (64 * 10 + 2) (upd (mI (sQ M1 (mN M) (va_up (mQ M1 (mN M)) n (some a))) (64 * 10 + 2)) l (iz ((n : Int) + 1)))) 642 l = iz ((n : Int) + 1) := by
    show mI (sI _ 642 _) 642 l = _
    rw [mI_sI]; simp [upd]
  have ec : mC (sI (sQ M1 (mN M) (va_up (mQ M1 (mN M)) n (some a))) (64 * 10 + 2) (upd (mI (sQ M1 (mN M) (va_up (mQ M1 (mN M)) n (some a))) (64 * 10 + 2)) l (iz ((n : Int) + 1)))) = mC M1 := rfl
  have er : mR (sI (sQ M1 (mN M) (va_up (mQ M1 (mN M)) n (some a))) (64 * 10 + 2) (upd (mI (sQ M1 (mN M) (va_up (mQ M1 (mN M)) n (some a))) (64 * 10 + 2)) l (iz ((n : Int) + 1)))) = mR M1 := rfl
  have en : mN (sI (sQ M1 (mN M) (va_up (mQ M1 (mN M)) n (some a))) (64 * 10 + 2) (upd (mI (sQ M1 (mN M) (va_up (mQ M1 (mN M)) n (some a))) (64 * 10 + 2)) l (iz ((n : Int) + 1)))) = mN M1 := rfl
  generalize sI (sQ M1 (mN M) (va_up (mQ M1 (mN M)) n (some a))) (64 * 10 + 2) (upd (mI (sQ M1 (mN M) (va_up (mQ M1 (mN M)) n (some a))) (64 * 10 + 2)) l (iz ((n : Int) + 1))) = M2 at s2 eq ei ec er en ⊢
  have hc9 : mC M2 (mN M) = some (13, nc) := by rw [ec]; exact p1
  refine ⟨mN M, nc, ⟨by rw [ec]; exact hc2, ei, by rw [er]; exact p2, q1, hnc, Or.inl ⟨by omega, hc9⟩⟩, hc9, by rw [eq, up_s], fun j hj => by rw [eq, up_n _ _ (by omega)]; exact p5 j hj, fun b hb hb1 hb2 => (p6 b hb hb1).tr (s2 b hb1 (Nat.ne_of_lt hb)), fun b hb => ?_, by omega, Or.inr ⟨rfl, rfl, q2, by omega, (p6 e hee hle.symm).tr (s2 e hle.symm (Nat.ne_of_lt hee))⟩⟩
  rw [ec]
  by_cases hbl : b = l
  · rw [hbl, hc2, h1]
  · exact (p6 b hb hbl).1
theorem c_add3 {l e n cap a t : Nat} (h : LL G M l e n cap) (ho : n = cap → Obs M e n) (h20 : cap ≤ 20000) (ha : mC M a = some (t, 0)) (ht : t < 11) (hal : a ≠ l) : Ht G iJx4a65c_add_72be8 yJx4a65c_add_72be8 12 [.ref l, .ref a, .ref e, .int (iz (n : Int))] M (rV (AddP G M l e n cap a)) nX (if n < cap then 0 else 1) (if n < cap then 0 else n + n / 2 + 10) := by
  obtain ⟨h1, h2, h3, h4, h5, h6⟩ := id h
  have hsum : ((n + 1 : Nat) : Int) = (n : Int) + 1 := rfl
  refine ht_intro (by decide +kernel) rfl rfl rfl (Nat.le_of_ble_eq_true rfl) ?_
  by_cases hn : n < cap
  · rw [if_pos hn, if_pos hn]
    have h7 : mC M e = some (13, cap) := by
      rcases h6 with h6 | h6
      · exact h6.2
      · omega
    have hle : l ≠ e := fun q => by rw [q, h7] at h1; cases h1
    refine r_iload_n dJx4a65c_add_72be8_0 rfl ?_
    refine r_aload_n dJx4a65c_add_72be8_1 rfl ?_
    refine r_alen dJx4a65c_add_72be8_2 h7 (k := ?_)
    refine r_icmp_ne (tgt := 11) dJx4a65c_add_72be8_3 (by decide) (kt := fun z3 => ?_) (kf := fun z3 => (by exfalso; first | omega | simp_all))
    refine r_aload_n dJx4a65c_add_72be8_11 rfl ?_
    refine r_iload_n dJx4a65c_add_72be8_12 rfl ?_
    refine r_aload_n dJx4a65c_add_72be8_13 rfl ?_
    refine r_aast dJx4a65c_add_72be8_14 h7 ha rfl ht (k := ?_)
    refine r_aload_n dJx4a65c_add_72be8_15 rfl ?_
    refine r_iload_n dJx4a65c_add_72be8_16 rfl ?_
    refine r_iconst dJx4a65c_add_72be8_17 ?_
    refine r_iadd dJx4a65c_add_72be8_18 ?_
    refine r_putI qJx4a65c_48 dJx4a65c_add_72be8_19 (by assumption) (kk := ?_)
    exact r_vret dJx4a65c_add_72be8_22 (⟨rfl, e, cap, ⟨h1, by rw [mI_sI]; simp [upd], h3, hn, h5, h6⟩, h7, by show mQ (sQ M e _) e n = _; rw [mQ_sQ, up_s], fun j hj => by show mQ (sQ M e _) e j = _; rw [mQ_sQ, up_n _ _ (by omega)], fun b _ hb1 hb2 => (Sm.Q hb2).tr (Sm.Iu hb1), fun b _ => rfl, Nat.le_refl _, Or.inl ⟨rfl, rfl, hn, rfl⟩⟩)
  · have hnc : n = cap := by omega
    subst hnc
    rw [if_neg hn, if_neg hn]
    refine r_lt (fun hlt => ?_)
    have hll := (hlt l _ _ h1).1
    have haa := (hlt a _ _ ha).1
    have hle : l ≠ e := fun q => by
      rcases h6 with ⟨-, h6⟩ | ⟨-, -, h6⟩ <;> rw [← q, h1] at h6 <;> cases h6
    have hlen : ∃ t9, mC M e = some (t9, n) ∧ 11 ≤ t9 ∧ t9 < 18 := by
      rcases h6 with ⟨-, h6⟩ | ⟨h0, -, h6⟩
      · exact ⟨13, h6, by omega, by omega⟩
      · exact ⟨17, by rw [h0]; exact h6, by omega, by omega⟩
    obtain ⟨t9, g1, g2, g3⟩ := hlen
    have hee := (hlt e _ _ g1).1
    refine r_iload_n dJx4a65c_add_72be8_0 rfl ?_
    refine r_aload_n dJx4a65c_add_72be8_1 rfl ?_
    refine r_alen dJx4a65c_add_72be8_2 g1 ⟨g2, g3⟩ (k := ?_)
    refine r_icmp_ne (tgt := 11) dJx4a65c_add_72be8_3 (by decide) (kt := fun z3 => (by exfalso; first | omega | simp_all)) (kf := fun z3 => ?_)
    refine r_aload_n dJx4a65c_add_72be8_6 rfl ?_
    refine r_callV vJx4a65c_129 dJx4a65c_add_72be8_7 (by assumption) (c_grow0 h (ho rfl)) (hm := ⟨by simp [rmd], by simp [rmd]⟩) (k := kA fun r M' hr => ?_) (kx := r_nox)
    obtain ⟨rfl, nc, p1, p2, p3, p4, p5, p6, p7, q1, q2⟩ := hr
    have hc2 : mC M' l = some (10, 0) := p3.trans h1
    have hc3 : mC M' a = some (t, 0) := (p6 a haa hal).c ha
    refine r_astore_n dJx4a65c_add_72be8_10 (k := ?_)
    refine r_aload_n dJx4a65c_add_72be8_11 rfl ?_
    refine r_iload_n dJx4a65c_add_72be8_12 rfl ?_
    refine r_aload_n dJx4a65c_add_72be8_13 rfl ?_
    refine r_aast dJx4a65c_add_72be8_14 p1 hc3 rfl ht (k := ?_)
    refine r_aload_n dJx4a65c_add_72be8_15 rfl ?_
    refine r_iload_n dJx4a65c_add_72be8_16 rfl ?_
    refine r_iconst dJx4a65c_add_72be8_17 ?_
    refine r_iadd dJx4a65c_add_72be8_18 ?_
    refine r_putI qJx4a65c_48 dJx4a65c_add_72be8_19 hc2 (kk := ?_)
    exact r_vret dJx4a65c_add_72be8_22 (⟨rfl, addP_of p1 p2 hc2 p5 p6 p7 q1 (by omega) hee hle q2⟩)
/-- List.add -/
theorem c_add {l e n cap a t : Nat} (h : LL G M l e n cap) (ho : n = cap → Obs M e n) (h20 : cap ≤ 20000) (ha : mC M a = some (t, 0)) (ht : t < 11) (hal : a ≠ l) : Ht G iJx4a65c_add_9ea2d yJx4a65c_add_9ea2d 14 [.ref l, .ref a] M (rI fun _ => AddP G M l e n cap a) nX (if n < cap then 0 else 1) (if n < cap then 0 else n + n / 2 + 10) := by
  obtain ⟨h1, h2, h3, h4, h5, h6⟩ := id h
  obtain ⟨u, hu⟩ : ∃ u : Int, mI M 640 l = iz u := ⟨_, iz_of _⟩
  have hle : e ≠ l := fun q => by
    rcases h6 with ⟨-, h6⟩ | ⟨-, -, h6⟩ <;> rw [q, h1] at h6 <;> cases h6
  refine ht_intro (by decide +kernel) rfl rfl rfl (Nat.le_of_ble_eq_true rfl) ?_
  refine r_aload_n dJx4a65c_add_9ea2d_0 rfl ?_
  refine r_dup dJx4a65c_add_9ea2d_1 (k := ?_)
  refine r_getI qJx4a65c_63 dJx4a65c_add_9ea2d_2 h1 hu (kk := ?_)
  refine r_iconst dJx4a65c_add_9ea2d_5 ?_
  refine r_iadd dJx4a65c_add_9ea2d_6 ?_
  refine r_putI qJx4a65c_63 dJx4a65c_add_9ea2d_7 (by assumption) (kk := ?_)
  refine r_aload_n dJx4a65c_add_9ea2d_10 rfl ?_
  refine r_aload_n dJx4a65c_add_9ea2d_11 rfl ?_
  refine r_aload_n dJx4a65c_add_9ea2d_12 rfl ?_
  refine r_getR qJx4a65c_9 dJx4a65c_add_9ea2d_13 (by assumption) (by assumption) (kk := ?_)
  refine r_aload_n dJx4a65c_add_9ea2d_16 rfl ?_
  refine r_getI qJx4a65c_48 dJx4a65c_add_9ea2d_17 (by assumption) (by assumption) (kk := ?_)
  refine r_callV vJx4a65c_131 dJx4a65c_add_9ea2d_20 (by assumption) (c_add3 (M := sI M 640 (upd (mI M 640) l (iz (u + 1)))) (e := e) (n := n) (cap := cap) (t := t) h ho h20 ha ht hal) (hm := ⟨by simp [rmd], by simp [rmd]⟩) (k := kV fun M' hM => ?_) (kx := r_nox)
  refine r_iconst dJx4a65c_add_9ea2d_23 ?_
  obtain ⟨e', cap', g1, g2, g3, g4, g5, g6, g7, g8⟩ := hM
  exact r_iret dJx4a65c_add_9ea2d_24 (⟨_, rfl, e', cap', g1, g2, g3, g4, fun b hb hb1 hb2 => (Sm.Iu hb1).tr (g5 b hb hb1 hb2), g6, g7, g8.elim Or.inl (fun ⟨q1, q2, q3, q4, q5⟩ => Or.inr ⟨q1, q2, q3, q4, (Sm.Iu hle).tr q5⟩)⟩)
theorem qJxc12de_7 : Cond.fieldLink RJxc12de 7 (cT 10 0).1 (cT 10 0).2.1 (cT 10 0).2.2.1 ∈ wG := wG_of (by decide +kernel) (by decide +kernel)
theorem c_acInit {l : Nat} : Ht G iJxa1e45_init_da8c8 yJxa1e45_init_da8c8 2 [.ref l] M (rPV M) nX 0 0 := by
  refine ht_intro (by decide +kernel) rfl rfl rfl (Nat.le_of_ble_eq_true rfl) ?_
  refine r_aload_n dJxa1e45_init_da8c8_0 rfl ?_
  refine r_oinit vJxa1e45_1 dJxa1e45_init_da8c8_1 (k := ?_)
  exact r_vret dJxa1e45_init_da8c8_4 (⟨rfl, rfl⟩)
theorem c_alInit {l : Nat} (hl : mC M l = some (10, 0)) : Ht G iJxc12de_init_da8c8 yJxc12de_init_da8c8 4 [.ref l] M (rPV (sI M 640 (upd (mI M 640) l (iz 0)))) nX 0 0 := by
  refine ht_intro (by decide +kernel) rfl rfl rfl (Nat.le_of_ble_eq_true rfl) ?_
  refine r_aload_n dJxc12de_init_da8c8_0 rfl ?_
  refine r_callI vJxc12de_1 dJxc12de_init_da8c8_1 (c_acInit) (hm := ⟨by omega, by omega⟩) (k := kPV ?_) (kx := r_nox)
  refine r_aload_n dJxc12de_init_da8c8_4 rfl ?_
  refine r_iconst dJxc12de_init_da8c8_5 ?_
  refine r_putDI (t := 10) (k := 0) qJxc12de_7 dJxc12de_init_da8c8_6 hl (kk := ?_)
  exact r_vret dJxc12de_init_da8c8_9 (⟨rfl, rfl⟩)
/-- List.<init> -/
theorem c_listInit {l : Nat} (hl : mC M l = some (10, 0)) (h2 : mI M 642 l = iz 0) (hE : mC M G.2.2.2 = some (17, 0)) : Ht G iJx4a65c_init_da8c8 yJx4a65c_init_da8c8 6 [.ref l] M (rV fun M' => LL G M' l G.2.2.2 0 0 ∧ mN M' = mN M ∧ mC M' = mC M ∧ ∀ b, b ≠ l → Sm M M' b) nX 0 0 := by
  refine ht_intro (by decide +kernel) rfl rfl rfl (Nat.le_of_ble_eq_true rfl) ?_
  refine r_aload_n dJx4a65c_init_da8c8_0 rfl ?_
  refine r_callI vJx4a65c_1 dJx4a65c_init_da8c8_1 (c_alInit hl) (hm := ⟨by omega, by omega⟩) (k := kPV ?_) (kx := r_nox)
  refine r_aload_n dJx4a65c_init_da8c8_4 rfl ?_
  refine r_gete qJx4a65c_39 dJx4a65c_init_da8c8_5 ?_
  refine r_putR qJx4a65c_9 dJx4a65c_init_da8c8_8 hl (kk := ?_)
  exact r_vret dJx4a65c_init_da8c8_11 (⟨rfl, ⟨hl, (congrFun (mI_sIn M 640 642 (upd (mI M 640) l (iz 0)) (by decide)) l).trans h2, by rw [mR_sR, up_s], Nat.le_refl _, by omega, Or.inr ⟨rfl, rfl, hE⟩⟩, rfl, rfl, fun b hb => (Sm.Iu hb).tr (Sm.Ru hb)⟩)
end ADDS
