/-! The JDK's methods under lists and arrays. -/
section LISTS
variable {G : GC} {M : Mem}
theorem c_checkIndexP (i n : Nat) (h : i < n) (hn : n < 2147483648) : Ht G iJ3_checkIndex_8e157 yJ3_checkIndex_8e157 2 [.int (iz i), .int (iz n), .null] M (rP (iz i) M) nX 0 0 := by
  refine ht_intro (by decide +kernel) rfl rfl rfl (Nat.le_of_ble_eq_true rfl) ?_
  refine r_iload_n dJ3_checkIndex_8e157_0 rfl ?_
  refine r_if_lt (tgt := 9) dJ3_checkIndex_8e157_1 (by decide) (kt := fun z1 => (by exfalso; first | omega | simp_all)) (kf := fun z1 => ?_)
  refine r_iload_n dJ3_checkIndex_8e157_4 rfl ?_
  refine r_iload_n dJ3_checkIndex_8e157_5 rfl ?_
  refine r_icmp_lt (tgt := 16) dJ3_checkIndex_8e157_6 (by decide) (kt := fun z6 => ?_) (kf := fun z6 => (by exfalso; first | omega | simp_all))
  refine r_iload_n dJ3_checkIndex_8e157_16 rfl ?_
  exact r_iret dJ3_checkIndex_8e157_17 (rP_mk _ _)
theorem c_checkIndex (i n : Nat) (h : i < n) (hn : n < 2147483648) : Ht G iJ15_checkIndex_7cf53 yJ15_checkIndex_7cf53 4 [.int (iz i), .int (iz n)] M (rP (iz i) M) nX 0 0 := by
  refine ht_intro (by decide +kernel) rfl rfl rfl (Nat.le_of_ble_eq_true rfl) ?_
  refine r_iload_n dJ15_checkIndex_7cf53_0 rfl ?_
  refine r_iload_n dJ15_checkIndex_7cf53_1 rfl ?_
  refine r_null dJ15_checkIndex_7cf53_2 ?_
  refine r_callS vJ15_105 dJ15_checkIndex_7cf53_3 (c_checkIndexP i n h hn) (hm := ⟨by omega, by omega⟩) (k := kP ?_) (kx := r_nox)
  exact r_iret dJ15_checkIndex_7cf53_6 (rP_mk _ _)
/-- a list l of n elements, its row e of cap places -/
def LL (G : GC) (M : Mem) (l e n cap : Nat) : Prop := mC M l = some (10, 0) ∧ mI M 642 l = iz (n : Int) ∧ mR M 641 l = some e ∧ n ≤ cap ∧ cap ≤ 40000 ∧ ((0 < cap ∧ mC M e = some (13, cap)) ∨ (cap = 0 ∧ e = G.2.2.2 ∧ mC M e = some (17, 0)))
theorem c_size {l e n cap : Nat} (h : LL G M l e n cap) : Ht G iJx4a65c_size_8abf5 yJx4a65c_size_8abf5 2 [.ref l] M (rP (iz (n : Int)) M) nX 0 0 := by
  obtain ⟨h1, h2, h3, h4, h5, h6⟩ := h
  refine ht_intro (by decide +kernel) rfl rfl rfl (Nat.le_of_ble_eq_true rfl) ?_
  refine r_aload_n dJx4a65c_size_8abf5_0 rfl ?_
  refine r_getI qJx4a65c_48 dJx4a65c_size_8abf5_1 (by assumption) (by assumption) (kk := ?_)
  exact r_iret dJx4a65c_size_8abf5_4 (rP_mk _ _)
theorem c_elementData {l e n cap i a : Nat} (h : LL G M l e n cap) (hi : i < n) (ha : mQ M e i = some a) : Ht G iJx4a65c_elementData_915e3 yJx4a65c_elementData_915e3 2 [.ref l, .int (iz (i : Int))] M (rPA a M) nX 0 0 := by
  obtain ⟨h1, h2, h3, h4, h5, h6⟩ := h
  have h7 : mC M e = some (13, cap) := by
    rcases h6 with h6 | h6
    · exact h6.2
    · omega
  refine ht_intro (by decide +kernel) rfl rfl rfl (Nat.le_of_ble_eq_true rfl) ?_
  refine r_aload_n dJx4a65c_elementData_915e3_0 rfl ?_
  refine r_getR qJx4a65c_9 dJx4a65c_elementData_915e3_1 (by assumption) (by assumption) (kk := ?_)
  refine r_iload_n dJx4a65c_elementData_915e3_4 rfl ?_
  refine r_aald dJx4a65c_elementData_915e3_5 h7 rfl ha (k := ?_)
  exact r_aret dJx4a65c_elementData_915e3_6 (⟨rfl, rfl⟩)
theorem c_get {l e n cap i a : Nat} (h : LL G M l e n cap) (hi : i < n) (ha : mQ M e i = some a) : Ht G iJx4a65c_get_915e3 yJx4a65c_get_915e3 6 [.ref l, .int (iz (i : Int))] M (rPA a M) nX 0 0 := by
  obtain ⟨h1, h2, h3, h4, h5, h6⟩ := id h
  refine ht_intro (by decide +kernel) rfl rfl rfl (Nat.le_of_ble_eq_true rfl) ?_
  refine r_iload_n dJx4a65c_get_915e3_0 rfl ?_
  refine r_aload_n dJx4a65c_get_915e3_1 rfl ?_
  refine r_getI qJx4a65c_48 dJx4a65c_get_915e3_2 (by assumption) (by assumption) (kk := ?_)
  refine r_callS vJx4a65c_118 dJx4a65c_get_915e3_5 (c_checkIndex i n hi (by omega)) (hm := ⟨by omega, by omega⟩) (k := kP ?_) (kx := r_nox)
  refine r_pop dJx4a65c_get_915e3_8 (k := ?_)
  refine r_aload_n dJx4a65c_get_915e3_9 rfl ?_
  refine r_iload_n dJx4a65c_get_915e3_10 rfl ?_
  refine r_callV vJx4a65c_123 dJx4a65c_get_915e3_11 (by assumption) (c_elementData h hi ha) (hm := ⟨by omega, by omega⟩) (k := kPA ?_) (kx := r_nox)
  exact r_aret dJx4a65c_get_915e3_14 (⟨rfl, rfl⟩)
theorem c_newLength (a b c : Nat) (h1 : 0 < a) (h3 : 0 < b) (h4 : c ≤ a) (h2 : a ≤ 40000) (h5 : b ≤ 40000) : Ht G iJ8_newLength_cabcc yJ8_newLength_cabcc 4 [.int (iz a), .int (iz b), .int (iz c)] M (rP (iz ((a + max b c : Nat) : Int)) M) nX 0 0 := by
  have hr : ∀ x : Nat, x ≤ 100000 → inR (x : Int) := fun x hx => by constructor <;> omega
  have hm : (if (b : Int) < c then (c : Int) else b) = ((max b c : Nat) : Int) := by split <;> omega
  have hmx : max b c ≤ 40000 := by omega
  refine ht_intro (by decide +kernel) rfl rfl rfl (Nat.le_of_ble_eq_true rfl) ?_
  refine r_iload_n dJ8_newLength_cabcc_0 rfl ?_
  refine r_iload_n dJ8_newLength_cabcc_1 rfl ?_
  refine r_iload_n dJ8_newLength_cabcc_2 rfl ?_
  refine r_mmax vJ8_194 dJ8_newLength_cabcc_3 (hc := hm) (k := ?_)
  refine r_iadd dJ8_newLength_cabcc_6 ?_
  refine r_istore_n dJ8_newLength_cabcc_7 (k := ?_)
  refine r_iconst dJ8_newLength_cabcc_8 ?_
  refine r_iload_n dJ8_newLength_cabcc_9 rfl ?_
  refine r_icmp_ge (tgt := 21) dJ8_newLength_cabcc_10 (by decide) (kt := fun z10 => (by exfalso; first | omega | simp_all)) (kf := fun z10 => ?_)
  refine r_iload_n dJ8_newLength_cabcc_13 rfl ?_
  refine r_ldc (n := 2147483639) kJ8_200 dJ8_newLength_cabcc_14 (k := ?_)
  refine r_icmp_gt (tgt := 21) dJ8_newLength_cabcc_16 (by decide) (kt := fun z16 => (by exfalso; first | omega | simp_all)) (kf := fun z16 => ?_)
  refine r_iload_n dJ8_newLength_cabcc_19 rfl ?_
  exact r_iret dJ8_newLength_cabcc_20 (rP_of (by congr 1))
/-- null or known objects -/
def Obs (M : Mem) (e n : Nat) : Prop := ∀ i, i < n → ∀ y, mQ M e i = some y → ∃ t, t < 11 ∧ mC M y = some (t, 0)
theorem c_copyOf3 {e cap nc mir : Nat} (hM : va_Mi "[Ljava/lang/Object;" mir G.1) (he : mC M e = some (13, cap)) (h1 : cap ≤ nc) (h2 : nc ≤ 90000) (ho : Obs M e cap) : Ht G iJ7_copyOf_6403c yJ7_copyOf_6403c 4 [.ref e, .int (iz (nc : Int)), .ref mir] M (rA fun r M' => r = mN M ∧ M' = sQ (nw M 13 nc) (mN M) (va_cpy (mQ M e) (fun _ => none) 0 0 cap)) nX 1 nc := by
  have hr : ∀ x : Nat, x ≤ 100000 → inR (x : Int) := fun x hx => by constructor <;> omega
  have hm : (if (nc : Int) < cap then (nc : Int) else cap) = (cap : Int) := by split <;> omega
  refine ht_intro (by decide +kernel) rfl rfl rfl (Nat.le_of_ble_eq_true rfl) ?_
  refine r_aload_n dJ7_copyOf_6403c_0 rfl ?_
  refine r_ldcM nJ7_110 hM dJ7_copyOf_6403c_1 ?_
  refine r_acmp_ne (tgt := 13) dJ7_copyOf_6403c_3 (by decide) (kt := fun z3 => (by exfalso; first | omega | simp_all)) (kf := fun z3 => ?_)
  refine r_iload_n dJ7_copyOf_6403c_6 rfl ?_
  refine r_newq nJ7_2 dJ7_copyOf_6403c_7 rfl (hm := ⟨by simp [rmd], by simp [rmd]⟩) (k := fun hlt hgb => ?_)
  refine r_goto (tgt := 24) dJ7_copyOf_6403c_10 (by decide) ?_
  have hne : e ≠ mN M := Nat.ne_of_lt (hlt e _ _ he)
  have he' : mC (nw M 13 nc) e = some (13, cap) := (Sm.nw hne).c he
  refine r_astore_n dJ7_copyOf_6403c_24 (k := ?_)
  refine r_aload_n dJ7_copyOf_6403c_25 rfl ?_
  refine r_iconst dJ7_copyOf_6403c_26 ?_
  refine r_aload_n dJ7_copyOf_6403c_27 rfl ?_
  refine r_iconst dJ7_copyOf_6403c_28 ?_
  refine r_aload_n dJ7_copyOf_6403c_29 rfl ?_
  refine r_alen dJ7_copyOf_6403c_30 he' (k := ?_)
  refine r_iload_n dJ7_copyOf_6403c_31 rfl ?_
  refine r_mmin vJ7_304 dJ7_copyOf_6403c_32 (hc := hm) (hm := ⟨by simp [rmd], by simp [rmd]⟩) (k := ?_)
  refine r_copy vJ7_150 he' (nw_c M 13 nc) hne.symm (Nat.le_refl _) h1 (by omega) (fun i hi y hy => ?_) dJ7_copyOf_6403c_35 (k := ?_)
  · rw [(Sm.nw hne).qq] at hy
    obtain ⟨t, ht, hc⟩ := ho i hi y hy
    exact ⟨t, ht, (Sm.nw (Nat.ne_of_lt (hlt y _ _ hc))).c hc⟩
  refine r_aload_n dJ7_copyOf_6403c_38 rfl ?_
  exact r_aret dJ7_copyOf_6403c_39 (⟨_, rfl, rfl, by rw [(Sm.nw hne).qq, nw_q]⟩)
theorem c_copyOf {e cap nc : Nat} (he : mC M e = some (13, cap)) (h1 : cap ≤ nc) (h2 : nc ≤ 90000) (ho : Obs M e cap) : Ht G iJ7_copyOf_1904c yJ7_copyOf_1904c 6 [.ref e, .int (iz (nc : Int))] M (rA fun r M' => r = mN M ∧ M' = sQ (nw M 13 nc) (mN M) (va_cpy (mQ M e) (fun _ => none) 0 0 cap)) nX 1 nc := by
  refine ht_intro (by decide +kernel) rfl rfl rfl (Nat.le_of_ble_eq_true rfl) ?_
  refine r_aload_n dJ7_copyOf_1904c_0 rfl ?_
  refine r_iload_n dJ7_copyOf_1904c_1 rfl ?_
  refine r_aload_n dJ7_copyOf_1904c_2 rfl ?_
  refine r_getC vJ7_86 (by assumption) dJ7_copyOf_1904c_3 (k := fun mir hmir => ?_)
  refine r_callS vJ7_300 dJ7_copyOf_1904c_6 (c_copyOf3 hmir he h1 h2 ho) (hm := ⟨by simp [rmd], by simp [rmd]⟩) (k := kA fun r M' hr => ?_) (kx := r_nox)
  exact r_aret dJ7_copyOf_1904c_9 (⟨r, rfl, hr⟩)
theorem up_lt {α : Type} (i j : Nat) (v w : α) : (if j = i then v else if j < i then v else w) = if j < i + 1 then v else w := by
  by_cases h : j = i
  · rw [if_pos h, if_pos (by omega)]
  · rw [if_neg h]
    by_cases h2 : j < i
    · rw [if_pos h2, if_pos (by omega)]
    · rw [if_neg h2, if_neg (by omega)]
theorem c_fill {a n : Nat} {v : Int32} (ha : mC M a = some (11, n)) (hn : n ≤ 1000000) : Ht G iJ7_fill_53178 yJ7_fill_53178 2 [.ref a, .int v] M (rPV (sA M a fun j => if j < n then v else mA M a j)) nX 0 0 := by
  refine ht_intro (by decide +kernel) rfl rfl rfl (Nat.le_of_ble_eq_true rfl) ?_
  have loop : ∀ k i : Nat, i + k = n → ∀ (M' : Mem) (K : Nat → Int32), M' = sA M a K → (∀ j, K j = if j < i then v else mA M a j) → SWG G iJ7_fill_53178 (rmd 2 0 0) (QF G (rPV (sA M a fun j => if j < n then v else mA M a j)) nX 0 0) 5 [(2, .int (iz (i : Int))), (3, .int (iz (n : Int))), (0, .ref a), (1, .int v)] [] M' 0 0 := by
    intro k
    induction k with
    | zero =>
      intro i hi M' K hM hK
      subst hM
      have e : (fun j => if j < n then v else mA M a j) = K := funext fun j => by rw [hK, show i = n by omega]
      refine r_iload_n dJ7_fill_53178_5 rfl ?_
      refine r_iload_n dJ7_fill_53178_6 rfl ?_
      refine r_icmp_ge (tgt := 20) dJ7_fill_53178_7 (by decide) (kt := fun z7 => ?_) (kf := fun z7 => (by exfalso; first | omega | simp_all))
      exact r_vret dJ7_fill_53178_20 (⟨rfl, by rw [e]⟩)
    | succ k ih =>
      intro i hi M' K hM hK
      subst hM
      refine r_iload_n dJ7_fill_53178_5 rfl ?_
      refine r_iload_n dJ7_fill_53178_6 rfl ?_
      refine r_icmp_ge (tgt := 20) dJ7_fill_53178_7 (by decide) (kt := fun z7 => (by exfalso; first | omega | simp_all)) (kf := fun z7 => ?_)
      refine r_aload_n dJ7_fill_53178_10 rfl ?_
      refine r_iload_n dJ7_fill_53178_11 rfl ?_
      refine r_iload_n dJ7_fill_53178_12 rfl ?_
      refine r_iast dJ7_fill_53178_13 ha rfl (k := ?_)
      refine r_iinc dJ7_fill_53178_14 rfl (k := ?_)
      refine r_goto (tgt := 5) dJ7_fill_53178_17 (by decide) ?_
      exact r_loc' (ih (i + 1) (by omega) _ (upd K i v) (by rw [mA_sA, sA_sA]) (fun j => by simp only [upd, hK, up_lt])) ⟨rfl, rfl, rfl, rfl, trivial⟩
  refine r_iconst dJ7_fill_53178_0 ?_
  refine r_istore_n dJ7_fill_53178_1 (k := ?_)
  refine r_aload_n dJ7_fill_53178_2 rfl ?_
  refine r_alen dJ7_fill_53178_3 (by assumption) (k := ?_)
  refine r_istore_n dJ7_fill_53178_4 (k := ?_)
  exact r_loc' (loop n 0 (by omega) _ _ (sA_id M a).symm (fun j => by simp)) ⟨rfl, rfl, rfl, rfl, trivial⟩
/-- what comes of a list that is emptied -/
theorem c_clear {l e n cap : Nat} (h : LL G M l e n cap) : Ht G iJx4a65c_clear_da8c8 yJx4a65c_clear_da8c8 2 [.ref l] M (rV fun M' => LL G M' l e 0 cap ∧ mN M' = mN M ∧ (∀ b, b ≠ l → b ≠ e → Sm M M' b) ∧ (cap = 0 → Sm M M' e)) nX 0 0 := by
  obtain ⟨h1, h2, h3, h4, h5, h6⟩ := h
  refine ht_intro (by decide +kernel) rfl rfl rfl (Nat.le_of_ble_eq_true rfl) ?_
  obtain ⟨u, hu⟩ : ∃ u : Int, mI M 640 l = iz u := ⟨_, iz_of _⟩
  have loop : ∀ k i : Nat, i + k = n → ∀ (M' : Mem), mC M' = mC M → mN M' = mN M → LL G M' l e 0 cap → (∀ b, b ≠ l → b ≠ e → Sm M M' b) → (cap = 0 → Sm M M' e) → SWG G iJx4a65c_clear_da8c8 (rmd 2 0 0) (QF G (rV fun M' => LL G M' l e 0 cap ∧ mN M' = mN M ∧ (∀ b, b ≠ l → b ≠ e → Sm M M' b) ∧ (cap = 0 → Sm M M' e)) nX 0 0) 27 [(3, .int (iz (i : Int))), (2, .int (iz (n : Int))), (1, .ref e)] [] M' 0 0 := by
    intro k
    induction k with
    | zero =>
      intro i hi M' hc hn hL hf hg
      refine r_iload_n dJx4a65c_clear_da8c8_27 rfl ?_
      refine r_iload_n dJx4a65c_clear_da8c8_28 rfl ?_
      refine r_icmp_ge (tgt := 42) dJx4a65c_clear_da8c8_29 (by decide) (kt := fun z29 => ?_) (kf := fun z29 => (by exfalso; first | omega | simp_all))
      exact r_vret dJx4a65c_clear_da8c8_42 (⟨rfl, hL, hn, hf, hg⟩)
    | succ k ih =>
      intro i hi M' hc hn hL hf hg
      have h7 : mC M' e = some (13, cap) := by
        rw [hc]
        rcases h6 with h6 | h6
        · exact h6.2
        · omega
      have hle : l ≠ e := fun q => by rw [q, ← hc, h7] at h1; cases h1
      obtain ⟨g1, g2, g3, g4, g5, g6⟩ := hL
      refine r_iload_n dJx4a65c_clear_da8c8_27 rfl ?_
      refine r_iload_n dJx4a65c_clear_da8c8_28 rfl ?_
      refine r_icmp_ge (tgt := 42) dJx4a65c_clear_da8c8_29 (by decide) (kt := fun z29 => (by exfalso; first | omega | simp_all)) (kf := fun z29 => ?_)
      refine r_aload_n dJx4a65c_clear_da8c8_32 rfl ?_
      refine r_iload_n dJx4a65c_clear_da8c8_33 rfl ?_
      refine r_null dJx4a65c_clear_da8c8_34 ?_
      refine r_aastN dJx4a65c_clear_da8c8_35 h7 rfl (k := ?_)
      refine r_iinc dJx4a65c_clear_da8c8_36 rfl (k := ?_)
      refine r_goto (tgt := 27) dJx4a65c_clear_da8c8_39 (by decide) ?_
      exact r_loc' (ih (i + 1) (by omega) _ hc hn ⟨g1, g2, g3, g4, g5, g6⟩ (fun b hb1 hb2 => (hf b hb1 hb2).tr (Sm.Q hb2)) (fun hcap => by omega)) ⟨rfl, rfl, rfl, trivial⟩
  refine r_aload_n dJx4a65c_clear_da8c8_0 rfl ?_
  refine r_dup dJx4a65c_clear_da8c8_1 (k := ?_)
  refine r_getI qJx4a65c_63 dJx4a65c_clear_da8c8_2 h1 hu (kk := ?_)
  refine r_iconst dJx4a65c_clear_da8c8_5 ?_
  refine r_iadd dJx4a65c_clear_da8c8_6 ?_
  refine r_putI qJx4a65c_63 dJx4a65c_clear_da8c8_7 (by assumption) (kk := ?_)
  refine r_aload_n dJx4a65c_clear_da8c8_10 rfl ?_
  refine r_getR qJx4a65c_9 dJx4a65c_clear_da8c8_11 (by assumption) (by assumption) (kk := ?_)
  refine r_astore_n dJx4a65c_clear_da8c8_14 (k := ?_)
  refine r_aload_n dJx4a65c_clear_da8c8_15 rfl ?_
  refine r_getI qJx4a65c_48 dJx4a65c_clear_da8c8_16 (by assumption) (by assumption) (kk := ?_)
  refine r_istore_n dJx4a65c_clear_da8c8_19 (k := ?_)
  refine r_aload_n dJx4a65c_clear_da8c8_20 rfl ?_
  refine r_iconst dJx4a65c_clear_da8c8_21 ?_
  refine r_dup_x1 dJx4a65c_clear_da8c8_22 (k := ?_)
  refine r_putI qJx4a65c_48 dJx4a65c_clear_da8c8_23 (by assumption) (kk := ?_)
  refine r_istore_n dJx4a65c_clear_da8c8_26 (k := ?_)
  refine r_loc' (loop n 0 (by omega) _ rfl rfl ?_ ?_ ?_) ⟨rfl, rfl, rfl, trivial⟩
  · exact ⟨h1, by rw [mI_sI]; simp [upd], h3, by omega, h5, h6⟩
  · exact fun b hb1 hb2 => (Sm.Iu hb1).tr (Sm.Iu hb1)
  · intro hcap
    have hle : e ≠ l := fun q => by
      rcases h6 with ⟨-, h6⟩ | ⟨-, -, h6⟩ <;> rw [q, h1] at h6 <;> cases h6
    exact (Sm.Iu hle).tr (Sm.Iu hle)
end LISTS
