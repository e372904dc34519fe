/-! The class: a new day. -/
section DAY
variable {G : GC} {M M' : Mem} {C : CE} {σ : St} {T : Nat}
theorem xT_le : ∀ k : Nat, k < 20 → xT k ≤ 11 := by decide +kernel
theorem xF_4 : ∀ q ∈ xF, q.1 < 20 ∧ q.1 ≠ 4 := by decide +kernel
theorem xG_4 : ∀ q ∈ xG, q.1 < 20 ∧ q.1 ≠ 4 := by decide +kernel
/-- the list of the parcels is cleared -/
theorem XM.clr4 (h : XM G M C σ) (h1 : LL G M' (eX C 4) (eE C 4) 0 (eC C 4)) (hn : mN M' = mN M) (h3 : ∀ b, b ≠ eX C 4 → b ≠ eE C 4 → Sm M M' b) (h4 : eC C 4 = 0 → Sm M M' (eE C 4)) : FX C M M' ∧ XM G M' C (stS σ 4 0) := by
  obtain ⟨hX, l, m, hS, hl, hm⟩ := h
  have h0 := hX
  obtain ⟨⟨f1, f2, f3, f4⟩, s, li, st, pp, hh, rr, qq, ⟨i1, i2, i3⟩, gd⟩ := hX
  have l4 := h0.l 4
  obtain ⟨ty, z, a1, a2⟩ := l4.ar2
  have n : ∀ j, j ≠ 4 → (stS σ 4 0).1 j = σ.1 j := fun j hj => up_n σ.1 0 hj
  have n4 : (stS σ 4 0).1 4 = 0 := up_s σ.1 4 0
  have sq : ∀ b t z, mC M b = some (t, z) → t ≠ 10 → t ≠ 13 → Sm M M' b := fun b t z hb h10 h13 => by
    by_cases e1 : b = eE C 4
    · rw [e1]
      refine h4 ?_
      rcases l4.arr with ⟨c1, c2⟩ | ⟨c1, -⟩
      · rw [e1, c2] at hb; cases hb; exact absurd rfl h13
      · exact c1
    · exact h3 b (ne_ty hb l4.1 h10) e1
  have sx : ∀ k, k < 20 → k ≠ 4 → Sm M M' (eX C k) := fun k hk hk4 => by
    have := xT_le k hk
    exact h3 _ (h0.ne hk4 hk (by omega)) (ne_ty (f1 k hk) a1 (by omega))
  have se : ∀ (lo e n' c : Nat), LL G M lo e n' c → (0 < c → 0 < eC C 4 → e ≠ eE C 4) → Sm M M' e := fun lo e n' c hL hne => by
    by_cases e2 : e = eE C 4
    · rw [e2]
      refine h4 ?_
      rcases l4.arr with ⟨c1, c2⟩ | ⟨c1, -⟩
      · exfalso
        rcases hL.arr with ⟨d1, d2⟩ | ⟨d1, d2, d3⟩
        · exact hne d1 c1 e2
        · rw [e2, c2] at d3; cases d3
      · exact c1
    · obtain ⟨ty', z', b1, b2⟩ := hL.ar2
      exact h3 _ (ne_ty b1 l4.1 (by omega)) e2
  refine ⟨⟨Nat.le_of_eq hn.symm, fun b x hb hx _ => ?_⟩, ⟨⟨fun k hk => ?_, fun q hq => ?_, fun q hq => ?_, f4⟩, ?_, fun j hj1 hj2 => ?_, fun i hi => ?_, fun p hp => ?_, fun i hi => ?_, fun i hi => ?_, fun i hi => ?_, ⟨fun j hj1 hj2 a b ha hb => ?_, fun p q hp hq => ?_, i3⟩, ⟨fun a b ha hb => ?_, fun a b ha hb => ?_⟩, gd.2⟩, l, m, ?_, hl, hm⟩
  · obtain ⟨t, z9⟩ := x
    exact sq b t z9 hb (by simp only at hx; omega) (by simp only at hx; omega)
  · by_cases e : k = 4
    · subst e; exact h1.1
    · exact (sx k hk e).c (f1 k hk)
  · exact (sx _ (xF_4 q hq).1 (xF_4 q hq).2).r (f2 q hq)
  · have e := sx _ (xG_4 q hq).1 (xG_4 q hq).2
    exact ⟨e.i (f3 q hq).1, e.i (f3 q hq).2⟩
  · have s0 := sx 0 (by decide) (by decide)
    unfold SP0
    rw [n 0 (by decide), n 5 (by decide), n 6 (by decide), n 8 (by decide), n 7 (by decide), n 9 (by decide)]
    exact ⟨s0.i s.1, s0.i s.2.1, s0.i s.2.2.1, s0.i s.2.2.2.1, s0.i s.2.2.2.2.1, s0.j s.2.2.2.2.2⟩
  · by_cases e : j = 4
    · subst e
      unfold ListP
      rw [n4]
      exact ⟨h1, h0.cl 4, fun i hi => absurd hi (Nat.not_lt_zero i)⟩
    · unfold ListP
      rw [n j e]
      obtain ⟨g1, g2, g3⟩ := li j hj1 hj2
      have s2 := se _ _ _ _ g1 (fun d1 c1 => h0.ez j 4 e ⟨hj1, hj2⟩ (by decide) d1 c1)
      refine ⟨g1.sm (sx j (by omega) e) s2, g2, fun i hi => ⟨by rw [s2.qq]; exact (g3 i hi).1, (sq _ (eT j) 0 (g3 i hi).2 ?_ ?_).c (g3 i hi).2⟩⟩
      · unfold eT; split <;> omega
      · unfold eT; split <;> omega
  · rw [n 1 (by decide)] at hi
    have e := sq _ 5 0 (h0.k5 i hi) (by decide) (by decide)
    obtain ⟨b1, b2, b3, b4, b5, b6, b7⟩ := st i hi
    exact ⟨e.i b1, e.i b2, e.i b3, e.i b4, e.r b5, e.r b6, e.i b7⟩
  · rw [n 1 (by decide)] at hp
    obtain ⟨b0, b1, b2, b3, b4⟩ := pp p hp
    have e := sq _ 3 0 b0 (by decide) (by decide)
    exact ⟨e.c b0, e.i b1, e.i b2, e.i b3, e.i b4⟩
  · rw [n 2 (by decide)] at hi
    have e := sq _ 1 0 (h0.k1 i hi) (by decide) (by decide)
    obtain ⟨b1, b2, b3, b4, b5⟩ := hh i hi
    exact ⟨e.i b1, e.r b2, e.i b3, e.i b4, e.i b5⟩
  · rw [n 3 (by decide)] at hi
    exact (sq _ 4 0 (h0.k4 i hi) (by decide) (by decide)).i (rr i hi)
  · rw [n4] at hi; exact absurd hi (Nat.not_lt_zero i)
  · by_cases e : j = 4
    · subst e; rw [n4] at ha; exact absurd ha (Nat.not_lt_zero a)
    · rw [n j e] at ha hb; exact i1 j hj1 hj2 a b ha hb
  · rw [n 1 (by decide)] at hp hq
    exact i2 p q hp hq
  · rw [(sx 10 (by decide) (by decide)).aa, dv_congr (σ := σ) (n 1 (by decide)) (fun _ _ => rfl)]
    exact gd.1.1 a b ha hb
  · rw [(sx 12 (by decide) (by decide)).aa]
    have e : ld (stS σ 4 0) a b = ld σ a b := congrArg cp (congrFun (congrFun (dst_congr (σ := σ) (σ' := stS σ 4 0) (n 0 (by decide)) (n 1 (by decide)) (fun _ _ => rfl)) a) b)
    rw [e]
    exact gd.1.2 a b ha hb
  · obtain ⟨e1, c1, e2, c2, s1, s2, hne⟩ := hS
    exact ⟨e1, c1, e2, c2, s1.sm (n 1 (by decide)) (sx 15 (by decide) (by decide)) (se _ _ _ _ s1.1 (fun d1 d2 => s1.2.2.1 d1 4 (by decide) (by decide) d2)), s2.sm (n 1 (by decide)) (sx 18 (by decide) (by decide)) (se _ _ _ _ s2.1 (fun d1 d2 => s2.2.2.1 d1 4 (by decide) (by decide) d2)), hne⟩
/-- letters taken away so far -/
def zF (σ : St) (i h : Nat) : Nat := if h < i then 0 else σ.2 8 h
theorem zF_s {i : Nat} : stA (stF σ 8 (zF σ i)) 8 i 0 = stF σ 8 (zF σ (i + 1)) := by
  unfold stA
  rw [stF_stF, stF_at]
  refine congrArg (stF σ 8) (funext fun q => ?_)
  show va_up (zF σ i) i 0 q = _
  by_cases e : q = i
  · subst e
    rw [up_s]
    exact (if_pos (Nat.lt_succ_self _)).symm
  · rw [up_n _ _ e]
    unfold zF
    by_cases e2 : q < i
    · rw [if_pos e2, if_pos (by omega)]
    · rw [if_neg e2, if_neg (by omega)]
theorem y_newDay (hM : XM G M C σ) (hO : Ok σ T) : Ht G iX8_newDay yX8_newDay 12 [.ref (eX C 0)] M (CR G C M (opNewDay σ)) nX 0 0 := by
  have hX := hM.1
  have p4 := hO.1.2.2.2.1
  have p6 := hO.1.2.2.2.2.2.1
  have p15 := hO.1.2.2.2.2.2.2.2.2.2.2.2.2.2.2
  refine ht_intro (by decide +kernel) rfl rfl rfl (Nat.le_of_ble_eq_true rfl) ?_
  have loop2 : ∀ (k i : Nat) (M1 : Mem), i + k = σ.1 2 → FX C M M1 → XM G M1 C (stF σ 8 (zF σ i)) → SWG G iX8_newDay (rmd 12 0 0) (QF G (CR G C M (opNewDay σ)) nX 0 0) 44 [(2, .int (iz (i : Int))), (1, .int (iz (cnt (post σ) (σ.1 2) : Int))), (0, .ref (eX C 0))] [] M1 0 0 := by
    intro k
    induction k with
    | zero =>
      intro i M1 hi hF hM1
      have hi2 : i = σ.1 2 := by omega
      subst hi2
      have hX := hM1.1
      have e0 : zF σ (σ.1 2) = fun _ => 0 := funext fun h => by
        unfold zF
        by_cases e : h < σ.1 2
        · exact if_pos e
        · rw [if_neg e]; exact p15 h (by omega)
      refine r_iload_n dX8_newDay_44 rfl ?_
      refine r_aload_n dX8_newDay_45 rfl ?_
      refine r_getR qX8_16 dX8_newDay_46 (hX.x 0 8 0) (hX.f 0 513 2) (kk := ?_)
      refine r_callV (mi := iX8_newDay) vX8_77 dX8_newDay_49 (hX.x 2 10 0) (c_size (n := σ.1 2) (hX.l 2)) (hm := by first | exact ⟨Nat.le_of_ble_eq_true rfl, Nat.le_of_ble_eq_true rfl⟩ | (constructor <;> simp only [rmd] <;> omega)) (k := kP ?_) (kx := r_nox)
      refine r_icmp_ge (tgt := 76) dX8_newDay_52 (by decide) (kt := fun z52 => ?_) (kf := fun z52 => (by exfalso; first | omega | simp_all))
      refine r_aload_n dX8_newDay_76 rfl ?_
      refine r_getR qX8_22 dX8_newDay_77 (hX.x 0 8 0) (hX.f 0 515 4) (kk := ?_)
      refine r_callV (mi := iX8_newDay) vX8_161 dX8_newDay_80 (hX.x 4 10 0) (c_clear (hX.l 4)) (hm := by first | exact ⟨Nat.le_of_ble_eq_true rfl, Nat.le_of_ble_eq_true rfl⟩ | (constructor <;> simp only [rmd] <;> omega)) (k := kV (fun M2 h2 => ?_)) (kx := r_nox)
      obtain ⟨g1, g2, g3, g4⟩ := h2
      obtain ⟨f2, hM2⟩ := hM1.clr4 g1 g2 g3 g4
      have hX := hM2.1
      refine r_aload_n dX8_newDay_83 rfl ?_
      refine r_iconst dX8_newDay_84 ?_
      refine r_putI qX8_164 dX8_newDay_85 (hX.x 0 8 0) (kk := ?_)
      refine r_iload_n dX8_newDay_88 rfl ?_
      exact r_iret dX8_newDay_89 (cr_of rfl rfl (XQ.of ((hF.tr rfl f2).tr rfl (FX.i (hX.x 0 8 0) (by decide))) (by rw [e0] at hM2; exact hM2.sj 6 521 0 (by decide))))
    | succ k ih =>
      intro i M1 hi hF hM1
      have hi3 : i < σ.1 2 := by omega
      have hX := hM1.1
      refine r_iload_n dX8_newDay_44 rfl ?_
      refine r_aload_n dX8_newDay_45 rfl ?_
      refine r_getR qX8_16 dX8_newDay_46 (hX.x 0 8 0) (hX.f 0 513 2) (kk := ?_)
      refine r_callV (mi := iX8_newDay) vX8_77 dX8_newDay_49 (hX.x 2 10 0) (c_size (n := σ.1 2) (hX.l 2)) (hm := by first | exact ⟨Nat.le_of_ble_eq_true rfl, Nat.le_of_ble_eq_true rfl⟩ | (constructor <;> simp only [rmd] <;> omega)) (k := kP ?_) (kx := r_nox)
      refine r_icmp_ge (tgt := 76) dX8_newDay_52 (by decide) (kt := fun z52 => (by exfalso; first | omega | simp_all)) (kf := fun z52 => ?_)
      refine r_aload_n dX8_newDay_55 rfl ?_
      refine r_getR qX8_16 dX8_newDay_56 (hX.x 0 8 0) (hX.f 0 513 2) (kk := ?_)
      refine r_iload_n dX8_newDay_59 rfl ?_
      refine r_callV (mi := iX8_newDay) vX8_153 dX8_newDay_60 (hX.x 2 10 0) (c_get (hX.l 2) (hi3) (hX.q 2 _ (hi3))) (hm := by first | exact ⟨Nat.le_of_ble_eq_true rfl, Nat.le_of_ble_eq_true rfl⟩ | (constructor <;> simp only [rmd] <;> omega)) (k := kPA ?_) (kx := r_nox)
      refine r_cast nX8_110.1 dX8_newDay_63 (hX.k1 _ (hi3)) (k := ?_)
      refine r_iconst dX8_newDay_66 ?_
      refine r_putI qX8_139 dX8_newDay_67 (hX.k1 i hi3) (kk := ?_)
      have hq := XM.el hM1 (j := 2) (f := 68) (i := i) (k := 8) (v := 0) (t0 := 1) (x := iz 0) (Or.inl ⟨rfl, rfl, rfl, rfl⟩) hi3 rfl
      rw [zF_s] at hq
      refine r_iinc dX8_newDay_70 rfl (k := ?_)
      refine r_goto (tgt := 44) dX8_newDay_73 (by decide) ?_
      exact r_loc' (ih (i + 1) _ (by omega) (hF.tr rfl (FX.i (hX.k1 i hi3) (by decide))) hq) ⟨rfl, rfl, rfl, trivial⟩
  have loop1 : ∀ (k i : Nat), i + k = σ.1 2 → SWG G iX8_newDay (rmd 12 0 0) (QF G (CR G C M (opNewDay σ)) nX 0 0) 4 [(2, .int (iz (i : Int))), (1, .int (iz (cnt (post σ) i : Int))), (0, .ref (eX C 0))] [] M 0 0 := by
    intro k
    induction k with
    | zero =>
      intro i hi
      have hi2 : i = σ.1 2 := by omega
      subst hi2
      refine r_iload_n dX8_newDay_4 rfl ?_
      refine r_aload_n dX8_newDay_5 rfl ?_
      refine r_getR qX8_16 dX8_newDay_6 (hX.x 0 8 0) (hX.f 0 513 2) (kk := ?_)
      refine r_callV (mi := iX8_newDay) vX8_77 dX8_newDay_9 (hX.x 2 10 0) (c_size (n := σ.1 2) (hX.l 2)) (hm := by first | exact ⟨Nat.le_of_ble_eq_true rfl, Nat.le_of_ble_eq_true rfl⟩ | (constructor <;> simp only [rmd] <;> omega)) (k := kP ?_) (kx := r_nox)
      refine r_icmp_ge (tgt := 42) dX8_newDay_12 (by decide) (kt := fun z12 => ?_) (kf := fun z12 => (by exfalso; first | omega | simp_all))
      refine r_iconst dX8_newDay_42 ?_
      refine r_istore_n dX8_newDay_43 (k := ?_)
      refine r_loc' (loop2 (σ.1 2) 0 M (by omega) FX.rf ?_) ⟨rfl, rfl, rfl, trivial⟩
      rw [show zF σ 0 = σ.2 8 from funext fun q => if_neg (by omega), stF_id]
      exact hM
    | succ k ih =>
      intro i hi
      have hi3 : i < σ.1 2 := by omega
      have hc := cnt_le (post σ) i
      have hs : cnt (post σ) (i + 1) = cnt (post σ) i + if post σ i = true then 1 else 0 := rfl
      refine r_iload_n dX8_newDay_4 rfl ?_
      refine r_aload_n dX8_newDay_5 rfl ?_
      refine r_getR qX8_16 dX8_newDay_6 (hX.x 0 8 0) (hX.f 0 513 2) (kk := ?_)
      refine r_callV (mi := iX8_newDay) vX8_77 dX8_newDay_9 (hX.x 2 10 0) (c_size (n := σ.1 2) (hX.l 2)) (hm := by first | exact ⟨Nat.le_of_ble_eq_true rfl, Nat.le_of_ble_eq_true rfl⟩ | (constructor <;> simp only [rmd] <;> omega)) (k := kP ?_) (kx := r_nox)
      refine r_icmp_ge (tgt := 42) dX8_newDay_12 (by decide) (kt := fun z12 => (by exfalso; first | omega | simp_all)) (kf := fun z12 => ?_)
      refine r_aload_n dX8_newDay_15 rfl ?_
      refine r_aload_n dX8_newDay_16 rfl ?_
      refine r_getR qX8_16 dX8_newDay_17 (hX.x 0 8 0) (hX.f 0 513 2) (kk := ?_)
      refine r_iload_n dX8_newDay_20 rfl ?_
      refine r_callV (mi := iX8_newDay) vX8_153 dX8_newDay_21 (hX.x 2 10 0) (c_get (hX.l 2) (hi3) (hX.q 2 _ (hi3))) (hm := by first | exact ⟨Nat.le_of_ble_eq_true rfl, Nat.le_of_ble_eq_true rfl⟩ | (constructor <;> simp only [rmd] <;> omega)) (k := kPA ?_) (kx := r_nox)
      refine r_cast nX8_110.1 dX8_newDay_24 (hX.k1 _ (hi3)) (k := ?_)
      refine r_callV (mi := iX8_newDay) vX8_157 dX8_newDay_27 (hX.x 0 8 0) (x_hasPost hX hO i hi3) (hm := by first | exact ⟨Nat.le_of_ble_eq_true rfl, Nat.le_of_ble_eq_true rfl⟩ | (constructor <;> simp only [rmd] <;> omega)) (k := kP ?_) (kx := r_nox)
      refine r_bif_eq (tgt := 36) dX8_newDay_30 (by decide) (kt := fun z30 => ?_) (kf := fun z30 => ?_)
      · refine r_iinc dX8_newDay_36 rfl (k := ?_)
        refine r_goto (tgt := 4) dX8_newDay_39 (by decide) ?_
        first
         | (rw [z30, if_pos rfl] at hs
            exact r_loc' (ih (i + 1) (by omega)) ⟨rfl, by rw [hs]; rfl, rfl, trivial⟩)
         | (rw [z30, if_neg (by decide)] at hs
            exact r_loc' (ih (i + 1) (by omega)) ⟨rfl, by rw [hs]; rfl, rfl, trivial⟩)
      · refine r_iinc dX8_newDay_33 rfl (k := ?_)
        refine r_iinc dX8_newDay_36 rfl (k := ?_)
        refine r_goto (tgt := 4) dX8_newDay_39 (by decide) ?_
        first
         | (rw [z30, if_pos rfl] at hs
            exact r_loc' (ih (i + 1) (by omega)) ⟨rfl, by rw [hs]; rfl, rfl, trivial⟩)
         | (rw [z30, if_neg (by decide)] at hs
            exact r_loc' (ih (i + 1) (by omega)) ⟨rfl, by rw [hs]; rfl, rfl, trivial⟩)
  refine r_iconst dX8_newDay_0 ?_
  refine r_istore_n dX8_newDay_1 (k := ?_)
  refine r_iconst dX8_newDay_2 ?_
  refine r_istore_n dX8_newDay_3 (k := ?_)
  exact r_loc' (loop1 (σ.1 2) 0 (by omega)) ⟨rfl, rfl, rfl, trivial⟩
end DAY
