/-! The class: houses, rounds, parcels come. -/
section GMK
variable {G : GC} {M M1 M2 M3 : Mem} {C : CE} {σ σ' : St} {T : Nat}
/-- fresh cells come -/
theorem Kx.fresh (gl : ∀ b x, mC M b = some x → b < mN M) (hs : ∀ b, b < mN M → Sm M M1 b) (hn : mN M ≤ mN M1) (hX : XB G M C σ) : Kx C M M1 := by
  refine ⟨fun b x hb => (hs b (gl b x hb)).c hb, fun b x hb _ _ _ _ _ _ _ _ => hs b (gl b x hb), fun b f hb _ _ => (hs b (gl _ _ hb)).2.1 f, fun f => (hs _ (gl _ _ (hX.x 6 6 0))).2.2.1 f, fun j h1 h2 => ?_, hn⟩
  have hl := hX.l j ⟨h1, h2⟩
  obtain ⟨t, z, a1, -⟩ := hl.ar2
  exact ⟨hs _ (gl _ _ hl.1), fun _ => hs _ (gl _ _ a1)⟩
def gA (C : CE) (σ : St) (j a : Nat) : Nat → Nat → Nat := va_up (eA C) j (va_up (eA C j) (σ.1 j) a)
theorem gA_o (j a : Nat) {k i : Nat} (h : (k = 5 ∧ j ≤ 4) ∨ i < σ.1 k) : gA C σ j a k i = eA C k i := by
  unfold gA
  by_cases e : k = j
  · subst e
    rw [up_s]; exact up_n _ _ (by omega)
  · rw [up_n _ _ e]
theorem gA_n (j a : Nat) : gA C σ j a j (σ.1 j) = a := by unfold gA; rw [up_s, up_s]
theorem Gw.mk (h : XB G M C σ) {j a : Nat} {A' : Nat → Nat → Nat} (j1 : 1 ≤ j ∧ j ≤ 4) (hn : σ.1 j ≤ 40) (gl : ∀ b x, mC M b = some x → b < mN M)
    (hs : ∀ b, b < mN M → Sm M M1 b) (h1 : mN M ≤ mN M1) (ha : mN M ≤ a ∧ a < mN M1) (hca : mC M1 a = some (eT j, 0)) (hA : AddP G M1 (eX C j) (eE C j) (σ.1 j) (eC C j) a M2)
    (h3 : ∀ b, b ≠ eX C 10 → b ≠ eX C 12 → Sm M2 M3 b) (hc3 : mC M3 = mC M2) (hn1 : σ'.1 j = σ.1 j + 1) (hn2 : ∀ k, k ≠ j → σ'.1 k = σ.1 k) (hr : ∀ k i, k < 15 → i < σ.1 (nOf k) → σ'.2 k i = σ.2 k i)
    (hA1 : ∀ k i, (k = 5 ∧ i / 2 < σ.1 1) ∨ (1 ≤ k ∧ k ≤ 4 ∧ i < σ.1 k) → A' k i = eA C k i) (hA2 : A' j (σ.1 j) = a) :
    ∃ e' cap', Gw G M M3 C σ σ' j a e' cap' A' ∧ Sm M1 M3 a ∧ mN M1 ≤ mN M2 ∧ (∀ b, b < mN M → b ≠ eX C j → b ≠ eE C j → Sm M M2 b) := by
  obtain ⟨e', cap', a1, a2, a3, a4, a5, a6, a7, a8⟩ := hA
  have hl := h.l j j1
  obtain ⟨t, z, b1, b2⟩ := hl.ar2
  have lX := gl _ _ hl.1
  have lE := gl _ _ b1
  have c10 := h.x 10 11 100
  have c12 := h.x 12 11 100
  have l10 := gl _ _ c10
  have l12 := gl _ _ c12
  have m1 : ∀ b, b < mN M → mC M1 b = mC M b := fun b hb => (hs b hb).1
  have m2 : ∀ b, b < mN M → mC M2 b = mC M b := fun b hb => (a6 b (by omega)).trans (m1 b hb)
  have e10 : mC M2 (eX C 10) = some (11, 100) := (m2 _ l10).trans c10
  have e12 : mC M2 (eX C 12) = some (11, 100) := (m2 _ l12).trans c12
  have sl : Sm M2 M3 (eX C j) := h3 _ (h.ne (by omega) (by omega)) (h.ne (by omega) (by omega))
  have se' : Sm M2 M3 e' := h3 _ (ne_ty a2 e10 (by decide)) (ne_ty a2 e12 (by decide))
  have hbase : ∀ b, b < mN M → b ≠ eX C j → b ≠ eE C j → Sm M M2 b := fun b hb h1' h2' => (hs b hb).tr (a5 b (by omega) h1' h2')
  have sa : Sm M1 M3 a := (a5 a ha.2 (by omega) (by omega)).tr (h3 a (by omega) (by omega))
  refine ⟨e', cap', ⟨fun b hb q1 q2 q3 q4 => (hbase b hb q1 q2).tr (h3 b q3 q4), fun b hb => by rw [hc3]; exact m2 b hb, a1.sm sl se', ?_, ?_, fun i hi => ?_, ?_, ha.1, by rw [sa.1]; exact hca, gl, ⟨hn1, hn2⟩, hr, hA1, hA2, j1.1, j1.2⟩, sa, a7, hbase⟩
  · have := h.cl j j1
    rcases a8 with ⟨-, g2, -⟩ | ⟨-, g2, g3, -⟩ <;> omega
  · rw [se'.qq]; exact a3
  · rw [se'.qq, a4 i hi, (hs _ lE).qq]
  · rcases a8 with ⟨g1, g2, g3, g4⟩ | ⟨g1, g2, g3, g4, g5⟩
    · exact Or.inl ⟨by omega, g1, g2⟩
    · exact Or.inr ⟨by omega, ((hs _ lE).tr g5).tr (h3 _ (ne_ty ((m2 _ lE).trans b1) e10 (by omega)) (ne_ty ((m2 _ lE).trans b1) e12 (by omega)))⟩
theorem stA_o {k k' i n v : Nat} (h : k' ≠ k ∨ i ≠ n) : (stA σ k n v).2 k' i = σ.2 k' i := by
  show va_up σ.2 k (va_up (σ.2 k) n v) k' i = _
  by_cases e : k' = k
  · subst e
    rw [up_s, up_n _ _ (h.resolve_left (fun e => e rfl))]
  · rw [up_n _ _ e]
theorem stS_o {j v i : Nat} (h : i ≠ j) : (stS σ j v).1 i = σ.1 i := up_n _ _ h
theorem ite_1 (n c : Nat) : (if n < c then 0 else 1) ≤ 1 := by split <;> omega
theorem ite_2 {n c b m : Nat} (h : m ≤ b) : (if n < c then 0 else m) ≤ b := by split <;> omega
/-- the tables are as before -/
theorem GridP.same {C' : CE} (h : GridP M C σ) (hC : eX C' = eX C) (h1 : Sm M M3 (eX C 10)) (h2 : Sm M M3 (eX C 12)) (n0 : σ'.1 0 = σ.1 0) (n1 : σ'.1 1 = σ.1 1) (hr : ∀ k, k = 1 ∨ k = 2 ∨ k = 3 → σ'.2 k = σ.2 k) : GridP M3 C' σ' := by
  refine ⟨fun a b ha hb => ?_, fun a b ha hb => ?_⟩
  · rw [hC, h1.aa, dv_congr n1 hr]; exact h.1 a b ha hb
  · unfold ld
    rw [hC, h2.aa, dst_congr n0 n1 hr]; exact h.2 a b ha hb
theorem XQ.gw (hM : XM G M C σ) (hO : Ok σ T) {j a e' cap' : Nat} {A' : Nat → Nat → Nat} (hj : j = 2 ∨ j = 3 ∨ j = 4) (g : Gw G M M2 C σ σ' j a e' cap' A') (hle : mN M ≤ mN M2) (hbs : ∀ b, b < mN M → b ≠ eX C j → b ≠ eE C j → Sm M M2 b) (hr : ∀ k, k = 1 ∨ k = 2 ∨ k = 3 → σ'.2 k = σ.2 k)
    (nH : ∀ q, q < σ'.1 2 → ¬ q < σ.1 2 → HouseP M2 (gC C j e' cap' A') σ' q) (nR : ∀ q, q < σ'.1 3 → ¬ q < σ.1 3 → mI M2 256 (A' 3 q) = iz (σ'.2 9 q : Int)) (nQ : ∀ q, q < σ'.1 4 → ¬ q < σ.1 4 → ParcelP M2 (gC C j e' cap' A') σ' q) : XQ G C M σ' M2 := by
  have hX := hM.1
  have g0 := g
  obtain ⟨-, -, -, -, -, -, -, -, -, gl, ⟨gn, gm⟩, -, -, -, j1, j4⟩ := g
  obtain ⟨t, z, b1, b2⟩ := (hX.l j ⟨j1, j4⟩).ar2
  have e1 : σ'.1 1 = σ.1 1 := gm 1 (by omega)
  have s10 : Sm M M2 (eX C 10) := hbs _ (gl _ _ (hX.x 10 11 100)) (hX.ne (by omega) (by omega) (by omega)) (ne_ty b1 (hX.x 10 11 100) (by omega)).symm
  have s12 : Sm M M2 (eX C 12) := hbs _ (gl _ _ (hX.x 12 11 100)) (hX.ne (by omega) (by omega) (by omega)) (ne_ty b1 (hX.x 12 11 100) (by omega)).symm
  have hG : GridP M2 (gC C j e' cap' A') σ' := hX.2.2.2.2.2.2.2.2.2.1.same rfl s10 s12 (gm 0 (by omega)) e1 hr
  have hXB := hX.grow hO g0 (fun q h1 h2 => absurd h1 (by rw [e1]; exact h2)) (fun q h1 h2 => absurd h1 (by rw [e1]; exact h2)) nH nR nQ (fun p q h1 h2 _ _ _ => absurd h1 (by rw [e1]; exact h2)) hG
  obtain ⟨l, m, hS, hl1, hm1⟩ := hM.2
  exact ⟨g0.fx hX hle, gC C j e' cap' A', rfl, hXB, l, m, hS.grow hX g0, hl1, hm1⟩
theorem nw_keep (gl : ∀ b x, mC M b = some x → b < mN M) (hX : XB G M C σ) (hO : Ok σ T) (t : Nat) : XB G (nw M t 0) C σ := hX.kx hO (Kx.fresh gl (fun b hb => Sm.nw (Nat.ne_of_lt hb)) (Nat.le_succ _) hX)
end GMK
section PB2
variable {G : GC} {M : Mem} {C : CE} {σ : St} {T : Nat}
def sAH (σ : St) (s d o : Nat) : St := stS (stA (stA (stA σ 5 (σ.1 2) s) 6 (σ.1 2) d) 7 (σ.1 2) o) 2 (σ.1 2 + 1)
theorem sAH_o {s d o k i : Nat} (h : ¬ (k = 5 ∨ k = 6 ∨ k = 7) ∨ i ≠ σ.1 2) : (sAH σ s d o).2 k i = σ.2 k i := by
  show (stA (stA (stA σ 5 (σ.1 2) s) 6 (σ.1 2) d) 7 (σ.1 2) o).2 k i = _
  rw [stA_o (by omega), stA_o (by omega), stA_o (by omega)]
theorem sAH_n {s d o : Nat} : (sAH σ s d o).2 5 (σ.1 2) = s ∧ (sAH σ s d o).2 6 (σ.1 2) = d ∧ (sAH σ s d o).2 7 (σ.1 2) = o := by
  refine ⟨?_, ?_, ?_⟩ <;> simp [sAH, stS, stA, stF, va_up]
def sAR (σ : St) (l : Nat) : St := stS (stA σ 9 (σ.1 3) l) 3 (σ.1 3 + 1)
theorem sAR_o {l k i : Nat} (h : ¬ (k = 9) ∨ i ≠ σ.1 3) : (sAR σ l).2 k i = σ.2 k i := stA_o (by omega)
theorem sAR_n {l : Nat} : (sAR σ l).2 9 (σ.1 3) = l := by simp [sAR, stS, stA, stF, va_up]
def sAP (σ : St) (h w d : Nat) : St := stS (stA (stA (stA (stA σ 10 (σ.1 4) h) 11 (σ.1 4) w) 12 (σ.1 4) d) 14 (σ.1 4) 0) 4 (σ.1 4 + 1)
theorem sAP_o {h w d k i : Nat} (hh : ¬ (k = 10 ∨ k = 11 ∨ k = 12 ∨ k = 14) ∨ i ≠ σ.1 4) : (sAP σ h w d).2 k i = σ.2 k i := by
  show (stA (stA (stA (stA σ 10 (σ.1 4) h) 11 (σ.1 4) w) 12 (σ.1 4) d) 14 (σ.1 4) 0).2 k i = _
  rw [stA_o (by omega), stA_o (by omega), stA_o (by omega), stA_o (by omega)]
theorem sAP_n {h w d : Nat} : (sAP σ h w d).2 10 (σ.1 4) = h ∧ (sAP σ h w d).2 11 (σ.1 4) = w ∧ (sAP σ h w d).2 12 (σ.1 4) = d ∧ (sAP σ h w d).2 14 (σ.1 4) = 0 := by
  refine ⟨?_, ?_, ?_, ?_⟩ <;> simp [sAP, stS, stA, stF, va_up]
theorem y_addHouse (hM : XM G M C σ) (hO : Ok σ T) (s d o : Int) (ha : inR s) (hb : inR d) (hl : inR o) : Ht G iX8_addHouse yX8_addHouse 16 [.ref (eX C 0), .int (iz s), .int (iz d), .int (iz o)] M (CR G C M (opAddHouse σ s d o)) (CX G C M (opAddHouse σ s d o) [NSE, IAE, ISE]) 8 120 := by
  have hX := hM.1
  have hX0 := hM.1
  have p4 := hO.1.2.2.2.1
  have p3 := hO.1.2.2.1
  have hc := hX.cl 2
  refine ht_intro (by decide +kernel) rfl rfl rfl (Nat.le_of_ble_eq_true rfl) ?_
  refine r_aload_n dX8_addHouse_0 rfl ?_
  refine r_iload_n dX8_addHouse_1 rfl ?_
  refine r_callV (mi := iX8_addHouse) vX8_99 dX8_addHouse_2 (hX.x 0 8 0) (x_findStreet hX (by omega) s ha) (hm := by exact ⟨Nat.le_of_ble_eq_true rfl, Nat.le_of_ble_eq_true rfl⟩) (k := kT (fun hb1 => kPA ?_)) (kx := kxT (fun hb1 n hn => cx_rd (c := 0) hM hO hn (if_pos hb1) rfl))
  obtain ⟨s, rfl⟩ := nat_of (a := s) (by omega)
  rw [Int.toNat_natCast]
  have hs : s < σ.1 1 := by omega
  have s5 := (hO.2.1 s hs).2.2.2.2.1
  refine r_astore dX8_addHouse_5 (k := ?_)
  refine r_iconst dX8_addHouse_7 ?_
  refine r_iconst dX8_addHouse_8 ?_
  refine r_iload_n dX8_addHouse_9 rfl ?_
  refine r_callS (mi := iX8_addHouse) vX8_68 dX8_addHouse_10 (x_isFrom 0 1 d (by omega) (by omega) hb) (hm := by exact ⟨Nat.le_of_ble_eq_true rfl, Nat.le_of_ble_eq_true rfl⟩) (k := kP ?_) (kx := r_nox)
  refine r_dif_eq (tgt := 29) dX8_addHouse_13 (by decide) (kt := fun z13 => ?_) (kf := fun z13 => ?_)
  · exact r_throwX (mi := iX8_addHouse) xw_72 hX.gD (text := "the side or the offset is out of range") (is := 106) (by decide +kernel) dX8_addHouse_29 dX8_addHouse_32 dX8_addHouse_33 dX8_addHouse_35 dX8_addHouse_38 (hm := by exact ⟨Nat.le_of_ble_eq_true rfl, Nat.le_of_ble_eq_true rfl⟩) (hm2 := by exact ⟨Nat.le_of_ble_eq_true rfl, Nat.le_of_ble_eq_true rfl⟩) (hx := fun n hn => cx_rd (c := 1) hM hO hn (by unfold opAddHouse; rw [Int.toNat_natCast]; repeat (first | rw [if_pos (by omega)] | rw [if_neg (by omega)])) rfl)
  · refine r_iconst dX8_addHouse_16 ?_
    refine r_aload dX8_addHouse_17 rfl ?_
    refine r_getI qX8_103 dX8_addHouse_19 (hX.k5 s hs) (hX.g322 s hs) (kk := ?_)
    refine r_iload_n dX8_addHouse_22 rfl ?_
    refine r_callS (mi := iX8_addHouse) vX8_68 dX8_addHouse_23 (x_isFrom 0 (σ.2 3 s) o (by omega) (by omega) hl) (hm := by exact ⟨Nat.le_of_ble_eq_true rfl, Nat.le_of_ble_eq_true rfl⟩) (k := kP ?_) (kx := r_nox)
    refine r_dif_ne (tgt := 39) dX8_addHouse_26 (by decide) (kt := fun z26 => ?_) (kf := fun z26 => ?_)
    · refine r_aload_n dX8_addHouse_39 rfl ?_
      refine r_getR qX8_16 dX8_addHouse_40 (hX.x 0 8 0) (hX.f 0 513 2) (kk := ?_)
      refine r_callV (mi := iX8_addHouse) vX8_77 dX8_addHouse_43 (hX.x 2 10 0) (c_size (hX.l 2)) (hm := by exact ⟨Nat.le_of_ble_eq_true rfl, Nat.le_of_ble_eq_true rfl⟩) (k := kP ?_) (kx := r_nox)
      refine r_bipush dX8_addHouse_46 (k := ?_)
      refine r_icmp_lt (tgt := 61) dX8_addHouse_48 (by decide) (kt := fun z48 => ?_) (kf := fun z48 => ?_)
      · obtain ⟨d, rfl⟩ := nat_of (a := d) (by omega)
        obtain ⟨o, rfl⟩ := nat_of (a := o) (by omega)
        have e0 : opAddHouse σ s d o = (sAH σ s d o, 0, (σ.1 2 : Int)) := by
          unfold opAddHouse; rw [Int.toNat_natCast, Int.toNat_natCast, Int.toNat_natCast]; exact (if_neg (by omega)).trans ((if_neg (by omega)).trans (if_neg (by omega)))
        refine r_lt (fun hl0 => ?_)
        have gl : ∀ b x, mC M b = some x → b < mN M := fun b x hb => (hl0 b x.1 x.2 hb).1
        refine r_new nX8_110 dX8_addHouse_61 (hm := ⟨by decide, by decide⟩) (k := fun hlt hgb => ?_)
        have hX := nw_keep gl hX0 hO 1
        refine r_dup dX8_addHouse_64 (k := ?_)
        refine r_aload_n dX8_addHouse_65 rfl ?_
        refine r_getR qX8_16 dX8_addHouse_66 (hX.x 0 8 0) (hX.f 0 513 2) (kk := ?_)
        refine r_callV (mi := iX8_addHouse) vX8_77 dX8_addHouse_69 (hX.x 2 10 0) (c_size (hX.l 2)) (hm := by exact ⟨Nat.le_of_ble_eq_true rfl, Nat.le_of_ble_eq_true rfl⟩) (k := kP ?_) (kx := r_nox)
        refine r_aload dX8_addHouse_72 rfl ?_
        refine r_iload_n dX8_addHouse_74 rfl ?_
        refine r_iload_n dX8_addHouse_75 rfl ?_
        refine r_callI (mi := iX8_addHouse) vX8_112 dX8_addHouse_76 (x_initH (nw_c M 1 0)) (hm := by exact ⟨Nat.le_of_ble_eq_true rfl, Nat.le_of_ble_eq_true rfl⟩) (k := kV (fun M1 hN => ?_)) (kx := r_nox)
        obtain ⟨⟨n1, n2, n3⟩, f1, f2, f3, f4, f5⟩ := hN
        have hs1 : ∀ b, b < mN M → Sm M M1 b := fun b hb => (Sm.nw (Nat.ne_of_lt hb)).tr (n3 b (Nat.ne_of_lt hb))
        have hN1 : mN M1 = mN M + 1 := n1
        have hca : mC M1 (mN M) = some (1, 0) := (congrFun n2 _).trans (nw_c M 1 0)
        have hX := hX0.kx hO (Kx.fresh gl hs1 (by omega) hX0)
        refine r_astore dX8_addHouse_79 (k := ?_)
        refine r_aload_n dX8_addHouse_81 rfl ?_
        refine r_getR qX8_16 dX8_addHouse_82 (hX.x 0 8 0) (hX.f 0 513 2) (kk := ?_)
        refine r_aload dX8_addHouse_85 rfl ?_
        refine r_callV (mi := iX8_addHouse) vX8_88 dX8_addHouse_87 (hX.x 2 10 0) (c_add (t := 1) (hX.l 2) (fun _ => hX.obs 2) (by omega) hca (by decide) (ne_ty hca (hX.x 2 10 0) (by decide))) (hm := ⟨Nat.le_trans (Nat.add_le_add_left (ite_1 _ _) _) (Nat.le_of_ble_eq_true rfl), Nat.le_trans (Nat.add_le_add_left (ite_2 (b := 60) (by omega)) _) (Nat.le_of_ble_eq_true rfl)⟩) (k := kI (fun r M2 hA => ?_)) (kx := r_nox)
        refine r_wid (kc' := 3) (ks' := 80) (Nat.le_trans (Nat.add_le_add_left (ite_1 _ _) _) (by decide)) (Nat.le_trans (Nat.add_le_add_left (ite_2 (b := 60) (by omega)) _) (by decide)) ?_
        obtain ⟨e', cap', g, sa, hle, hbs⟩ := Gw.mk (j := 2) (σ' := sAH σ s d o) (A' := gA C σ 2 (mN M)) (M3 := M2) hX0 (by decide) (by omega) gl hs1 (by omega) ⟨Nat.le_refl _, by omega⟩ hca hA (fun _ _ _ => Sm.rf) rfl (stS_at _ 2 _) (fun k hk => stS_o hk) (fun k i hk hi => by
          by_cases e : k = 5 ∨ k = 6 ∨ k = 7
          · have : i < σ.1 2 := by rcases e with e | e | e <;> (subst e; exact hi)
            exact sAH_o (Or.inr (by omega))
          · exact sAH_o (Or.inl e)) (fun k i hk => gA_o 2 _ (by omega)) (gA_n 2 _)
        have e2 : (sAH σ s d o).1 2 = σ.1 2 + 1 := stS_at _ 2 _
        have nH : ∀ q, q < (sAH σ s d o).1 2 → ¬ q < σ.1 2 → HouseP M2 (gC C 2 e' cap' (gA C σ 2 (mN M))) (sAH σ s d o) q := by
          intro q h1 h2
          have : q = σ.1 2 := by omega
          subst this
          show mI M2 64 (gA C σ 2 (mN M) 2 (σ.1 2)) = _ ∧ mR M2 65 (gA C σ 2 (mN M) 2 (σ.1 2)) = some (gA C σ 2 (mN M) 1 _) ∧ mI M2 66 (gA C σ 2 (mN M) 2 (σ.1 2)) = _ ∧ mI M2 67 (gA C σ 2 (mN M) 2 (σ.1 2)) = _ ∧ mI M2 68 (gA C σ 2 (mN M) 2 (σ.1 2)) = _
          obtain ⟨z1, z2, z3⟩ := sAH_n (σ := σ) (s := s) (d := d) (o := o)
          rw [gA_n, z1, z2, z3, sAH_o (Or.inl (by decide)), gA_o 2 _ (Or.inr hs), hO.1.2.2.2.2.2.2.2.2.2.2.2.2.2.2 _ (Nat.le_refl _)]
          exact ⟨sa.i f1, sa.r f2, sa.i f3, sa.i f4, sa.i (f5.trans ((nw_i M 1 0 68).trans iz_0))⟩
        have hQ : XQ G C M (sAH σ s d o) M2 := XQ.gw hM hO (Or.inl rfl) g (by omega) hbs (fun k hk => funext fun i => sAH_o (Or.inl (by omega))) nH (fun q h1 h2 => absurd h1 (by rw [show (sAH σ s d o).1 3 = σ.1 3 from stS_o (by decide)]; exact h2)) (fun q h1 h2 => absurd h1 (by rw [show (sAH σ s d o).1 4 = σ.1 4 from stS_o (by decide)]; exact h2))
        refine r_pop dX8_addHouse_90 (k := ?_)
        refine r_aload dX8_addHouse_91 rfl ?_
        refine r_getI qX8_115 dX8_addHouse_93 (sa.c hca) (sa.i f1) (kk := ?_)
        exact r_iret dX8_addHouse_96 (cr_of e0 rfl hQ)
      · exact r_throwX (mi := iX8_addHouse) xw_57 hX.gD (text := "no more houses") (is := 108) (by decide +kernel) dX8_addHouse_51 dX8_addHouse_54 dX8_addHouse_55 dX8_addHouse_57 dX8_addHouse_60 (hm := by exact ⟨Nat.le_of_ble_eq_true rfl, Nat.le_of_ble_eq_true rfl⟩) (hm2 := by exact ⟨Nat.le_of_ble_eq_true rfl, Nat.le_of_ble_eq_true rfl⟩) (hx := fun n hn => cx_rd (c := 2) hM hO hn (by unfold opAddHouse; rw [Int.toNat_natCast]; repeat (first | rw [if_pos (by omega)] | rw [if_neg (by omega)])) rfl)
    · exact r_throwX (mi := iX8_addHouse) xw_72 hX.gD (text := "the side or the offset is out of range") (is := 106) (by decide +kernel) dX8_addHouse_29 dX8_addHouse_32 dX8_addHouse_33 dX8_addHouse_35 dX8_addHouse_38 (hm := by exact ⟨Nat.le_of_ble_eq_true rfl, Nat.le_of_ble_eq_true rfl⟩) (hm2 := by exact ⟨Nat.le_of_ble_eq_true rfl, Nat.le_of_ble_eq_true rfl⟩) (hx := fun n hn => cx_rd (c := 1) hM hO hn (by unfold opAddHouse; rw [Int.toNat_natCast]; repeat (first | rw [if_pos (by omega)] | rw [if_neg (by omega)])) rfl)
theorem y_addRound (hM : XM G M C σ) (hO : Ok σ T) (l : Int) (ha : inR l) : Ht G iX8_addRound yX8_addRound 16 [.ref (eX C 0), .int (iz l)] M (CR G C M (opAddRound σ l)) (CX G C M (opAddRound σ l) [IAE, ISE]) 8 120 := by
  have hX := hM.1
  have hX0 := hM.1
  have p5 := hO.1.2.2.2.2.1
  have hc := hX.cl 3
  refine ht_intro (by decide +kernel) rfl rfl rfl (Nat.le_of_ble_eq_true rfl) ?_
  refine r_iconst dX8_addRound_0 ?_
  refine r_sipush dX8_addRound_1 (k := ?_)
  refine r_iload_n dX8_addRound_4 rfl ?_
  refine r_callS (mi := iX8_addRound) vX8_68 dX8_addRound_5 (x_isFrom 1 999 l (by omega) (by omega) ha) (hm := by exact ⟨Nat.le_of_ble_eq_true rfl, Nat.le_of_ble_eq_true rfl⟩) (k := kP ?_) (kx := r_nox)
  refine r_dif_ne (tgt := 21) dX8_addRound_8 (by decide) (kt := fun z8 => ?_) (kf := fun z8 => ?_)
  · refine r_aload_n dX8_addRound_21 rfl ?_
    refine r_getR qX8_19 dX8_addRound_22 (hX.x 0 8 0) (hX.f 0 514 3) (kk := ?_)
    refine r_callV (mi := iX8_addRound) vX8_77 dX8_addRound_25 (hX.x 3 10 0) (c_size (hX.l 3)) (hm := by exact ⟨Nat.le_of_ble_eq_true rfl, Nat.le_of_ble_eq_true rfl⟩) (k := kP ?_) (kx := r_nox)
    refine r_iconst dX8_addRound_28 ?_
    refine r_icmp_lt (tgt := 42) dX8_addRound_29 (by decide) (kt := fun z29 => ?_) (kf := fun z29 => ?_)
    · obtain ⟨l, rfl⟩ := nat_of (a := l) (by omega)
      have e0 : opAddRound σ l = (sAR σ l, 0, (σ.1 3 : Int)) := by
        unfold opAddRound; rw [Int.toNat_natCast]; exact (if_neg (by omega)).trans (if_neg (by omega))
      refine r_lt (fun hl0 => ?_)
      have gl : ∀ b x, mC M b = some x → b < mN M := fun b x hb => (hl0 b x.1 x.2 hb).1
      refine r_aload_n dX8_addRound_42 rfl ?_
      refine r_getR qX8_19 dX8_addRound_43 (hX.x 0 8 0) (hX.f 0 514 3) (kk := ?_)
      refine r_new nX8_120 dX8_addRound_46 (hm := ⟨by decide, by decide⟩) (k := fun hlt hgb => ?_)
      have hX := nw_keep gl hX0 hO 4
      refine r_dup dX8_addRound_49 (k := ?_)
      refine r_iload_n dX8_addRound_50 rfl ?_
      refine r_callI (mi := iX8_addRound) vX8_122 dX8_addRound_51 (x_initR (nw_c M 4 0)) (hm := by exact ⟨Nat.le_of_ble_eq_true rfl, Nat.le_of_ble_eq_true rfl⟩) (k := kV (fun M1 hN => ?_)) (kx := r_nox)
      obtain ⟨⟨n1, n2, n3⟩, f1⟩ := hN
      have hs1 : ∀ b, b < mN M → Sm M M1 b := fun b hb => (Sm.nw (Nat.ne_of_lt hb)).tr (n3 b (Nat.ne_of_lt hb))
      have hN1 : mN M1 = mN M + 1 := n1
      have hca : mC M1 (mN M) = some (4, 0) := (congrFun n2 _).trans (nw_c M 4 0)
      have hX := hX0.kx hO (Kx.fresh gl hs1 (by omega) hX0)
      refine r_callV (mi := iX8_addRound) vX8_88 dX8_addRound_54 (hX.x 3 10 0) (c_add (t := 4) (hX.l 3) (fun _ => hX.obs 3) (by omega) hca (by decide) (ne_ty hca (hX.x 3 10 0) (by decide))) (hm := ⟨Nat.le_trans (Nat.add_le_add_left (ite_1 _ _) _) (Nat.le_of_ble_eq_true rfl), Nat.le_trans (Nat.add_le_add_left (ite_2 (b := 60) (by omega)) _) (Nat.le_of_ble_eq_true rfl)⟩) (k := kI (fun r M2 hA => ?_)) (kx := r_nox)
      refine r_wid (kc' := 3) (ks' := 80) (Nat.le_trans (Nat.add_le_add_left (ite_1 _ _) _) (by decide)) (Nat.le_trans (Nat.add_le_add_left (ite_2 (b := 60) (by omega)) _) (by decide)) ?_
      obtain ⟨e', cap', g, sa, hle, hbs⟩ := Gw.mk (j := 3) (σ' := sAR σ l) (A' := gA C σ 3 (mN M)) (M3 := M2) hX0 (by decide) (by omega) gl hs1 (by omega) ⟨Nat.le_refl _, by omega⟩ hca hA (fun _ _ _ => Sm.rf) rfl (stS_at _ 3 _) (fun k hk => stS_o hk) (fun k i hk hi => by
        by_cases e : k = 9
        · have : i < σ.1 3 := by rcases e with e <;> (subst e; exact hi)
          exact sAR_o (Or.inr (by omega))
        · exact sAR_o (Or.inl e)) (fun k i hk => gA_o 3 _ (by omega)) (gA_n 3 _)
      have e2 : (sAR σ l).1 3 = σ.1 3 + 1 := stS_at _ 3 _
      have nR : ∀ q, q < (sAR σ l).1 3 → ¬ q < σ.1 3 → mI M2 256 (gA C σ 3 (mN M) 3 q) = iz ((sAR σ l).2 9 q : Int) := by
        intro q h1 h2
        have : q = σ.1 3 := by omega
        subst this
        rw [gA_n, sAR_n]
        exact sa.i f1
      have hQ : XQ G C M (sAR σ l) M2 := XQ.gw hM hO (Or.inr (Or.inl rfl)) g (by omega) hbs (fun k hk => funext fun i => sAR_o (Or.inl (by omega))) (fun q h1 h2 => absurd h1 (by rw [show (sAR σ l).1 2 = σ.1 2 from stS_o (by decide)]; exact h2)) nR (fun q h1 h2 => absurd h1 (by rw [show (sAR σ l).1 4 = σ.1 4 from stS_o (by decide)]; exact h2))
      refine r_pop dX8_addRound_57 (k := ?_)
      refine r_aload_n dX8_addRound_58 rfl ?_
      refine r_getR qX8_19 dX8_addRound_59 (x := eX C 3) ((hbs _ (gl _ _ (hX0.x 0 8 0)) (hX0.ne (by decide)) (by obtain ⟨t, z, b1, b2⟩ := (hX0.l 3).ar2; exact (ne_ty b1 (hX0.x 0 8 0) (by omega)).symm)).c (hX0.x 0 8 0)) ((hbs _ (gl _ _ (hX0.x 0 8 0)) (hX0.ne (by decide)) (by obtain ⟨t, z, b1, b2⟩ := (hX0.l 3).ar2; exact (ne_ty b1 (hX0.x 0 8 0) (by omega)).symm)).r (hX0.f 0 514 3)) (kk := ?_)
      refine r_callV (mi := iX8_addRound) vX8_77 dX8_addRound_62 (g.2.2.1).1 (c_size (g.2.2.1)) (hm := by exact ⟨Nat.le_of_ble_eq_true rfl, Nat.le_of_ble_eq_true rfl⟩) (k := kP ?_) (kx := r_nox)
      refine r_iconst dX8_addRound_65 ?_
      refine r_isub dX8_addRound_66 ?_
      exact r_iret dX8_addRound_67 (cr_of e0 (congrArg iz (by omega)) hQ)
    · exact r_throwX (mi := iX8_addRound) xw_57 hX.gD (text := "no more rounds") (is := 118) (by decide +kernel) dX8_addRound_32 dX8_addRound_35 dX8_addRound_36 dX8_addRound_38 dX8_addRound_41 (hm := by exact ⟨Nat.le_of_ble_eq_true rfl, Nat.le_of_ble_eq_true rfl⟩) (hm2 := by exact ⟨Nat.le_of_ble_eq_true rfl, Nat.le_of_ble_eq_true rfl⟩) (hx := fun n hn => cx_rd (c := 1) hM hO hn (by unfold opAddRound; repeat (first | rw [if_pos (by omega)] | rw [if_neg (by omega)])) rfl)
  · exact r_throwX (mi := iX8_addRound) xw_72 hX.gD (text := "the limit is out of range") (is := 116) (by decide +kernel) dX8_addRound_11 dX8_addRound_14 dX8_addRound_15 dX8_addRound_17 dX8_addRound_20 (hm := by exact ⟨Nat.le_of_ble_eq_true rfl, Nat.le_of_ble_eq_true rfl⟩) (hm2 := by exact ⟨Nat.le_of_ble_eq_true rfl, Nat.le_of_ble_eq_true rfl⟩) (hx := fun n hn => cx_rd (c := 0) hM hO hn (if_pos (by omega)) rfl)
theorem y_parcel (hM : XM G M C σ) (hO : Ok σ T) (h w d : Int) (ha : inR h) (hb : inR w) (hl : inR d) : Ht G iX8_parcel yX8_parcel 16 [.ref (eX C 0), .int (iz h), .int (iz w), .int (iz d)] M (CR G C M (opParcel σ h w d)) (CX G C M (opParcel σ h w d) [NSE, IAE, ISE]) 8 120 := by
  have hX := hM.1
  have hX0 := hM.1
  have p4 := hO.1.2.2.2.1
  have p6 := hO.1.2.2.2.2.2.1
  have hc := hX.cl 4
  refine ht_intro (by decide +kernel) rfl rfl rfl (Nat.le_of_ble_eq_true rfl) ?_
  refine r_aload_n dX8_parcel_0 rfl ?_
  refine r_iload_n dX8_parcel_1 rfl ?_
  refine r_callV (mi := iX8_parcel) vX8_133 dX8_parcel_2 (hX.x 0 8 0) (x_findHouse hX (by omega) h ha) (hm := by exact ⟨Nat.le_of_ble_eq_true rfl, Nat.le_of_ble_eq_true rfl⟩) (k := kT (fun hb1 => kPA ?_)) (kx := kxT (fun hb1 n hn => cx_rd (c := 0) hM hO hn (if_pos hb1) rfl))
  obtain ⟨h, rfl⟩ := nat_of (a := h) (by omega)
  rw [Int.toNat_natCast]
  have hh : h < σ.1 2 := by omega
  refine r_astore dX8_parcel_5 (k := ?_)
  refine r_iconst dX8_parcel_7 ?_
  refine r_bipush dX8_parcel_8 (k := ?_)
  refine r_iload_n dX8_parcel_10 rfl ?_
  refine r_callS (mi := iX8_parcel) vX8_68 dX8_parcel_11 (x_isFrom 1 99 w (by omega) (by omega) hb) (hm := by exact ⟨Nat.le_of_ble_eq_true rfl, Nat.le_of_ble_eq_true rfl⟩) (k := kP ?_) (kx := r_nox)
  refine r_dif_eq (tgt := 28) dX8_parcel_14 (by decide) (kt := fun z14 => ?_) (kf := fun z14 => ?_)
  · exact r_throwX (mi := iX8_parcel) xw_72 hX.gD (text := "the weight or the deadline is out of range") (is := 144) (by decide +kernel) dX8_parcel_28 dX8_parcel_31 dX8_parcel_32 dX8_parcel_34 dX8_parcel_37 (hm := by exact ⟨Nat.le_of_ble_eq_true rfl, Nat.le_of_ble_eq_true rfl⟩) (hm2 := by exact ⟨Nat.le_of_ble_eq_true rfl, Nat.le_of_ble_eq_true rfl⟩) (hx := fun n hn => cx_rd (c := 1) hM hO hn (by unfold opParcel; repeat (first | rw [if_pos (by omega)] | rw [if_neg (by omega)])) rfl)
  · refine r_iconst dX8_parcel_17 ?_
    refine r_sipush dX8_parcel_18 (k := ?_)
    refine r_iload_n dX8_parcel_21 rfl ?_
    refine r_callS (mi := iX8_parcel) vX8_68 dX8_parcel_22 (x_isFrom 1 999 d (by omega) (by omega) hl) (hm := by exact ⟨Nat.le_of_ble_eq_true rfl, Nat.le_of_ble_eq_true rfl⟩) (k := kP ?_) (kx := r_nox)
    refine r_dif_ne (tgt := 38) dX8_parcel_25 (by decide) (kt := fun z25 => ?_) (kf := fun z25 => ?_)
    · refine r_aload_n dX8_parcel_38 rfl ?_
      refine r_getR qX8_22 dX8_parcel_39 (hX.x 0 8 0) (hX.f 0 515 4) (kk := ?_)
      refine r_callV (mi := iX8_parcel) vX8_77 dX8_parcel_42 (hX.x 4 10 0) (c_size (hX.l 4)) (hm := by exact ⟨Nat.le_of_ble_eq_true rfl, Nat.le_of_ble_eq_true rfl⟩) (k := kP ?_) (kx := r_nox)
      refine r_bipush dX8_parcel_45 (k := ?_)
      refine r_icmp_lt (tgt := 60) dX8_parcel_47 (by decide) (kt := fun z47 => ?_) (kf := fun z47 => ?_)
      · obtain ⟨w, rfl⟩ := nat_of (a := w) (by omega)
        obtain ⟨d, rfl⟩ := nat_of (a := d) (by omega)
        have e0 : opParcel σ h w d = (sAP σ h w d, 0, (σ.1 4 : Int)) := by
          unfold opParcel; rw [Int.toNat_natCast, Int.toNat_natCast, Int.toNat_natCast]; exact (if_neg (by omega)).trans ((if_neg (by omega)).trans (if_neg (by omega)))
        refine r_lt (fun hl0 => ?_)
        have gl : ∀ b x, mC M b = some x → b < mN M := fun b x hb => (hl0 b x.1 x.2 hb).1
        refine r_aload_n dX8_parcel_60 rfl ?_
        refine r_getR qX8_22 dX8_parcel_61 (hX.x 0 8 0) (hX.f 0 515 4) (kk := ?_)
        refine r_new nX8_148 dX8_parcel_64 (hm := ⟨by decide, by decide⟩) (k := fun hlt hgb => ?_)
        have hX := nw_keep gl hX0 hO 2
        refine r_dup dX8_parcel_67 (k := ?_)
        refine r_aload dX8_parcel_68 rfl ?_
        refine r_iload_n dX8_parcel_70 rfl ?_
        refine r_iload_n dX8_parcel_71 rfl ?_
        refine r_callI (mi := iX8_parcel) vX8_150 dX8_parcel_72 (x_initP (nw_c M 2 0)) (hm := by exact ⟨Nat.le_of_ble_eq_true rfl, Nat.le_of_ble_eq_true rfl⟩) (k := kV (fun M1 hN => ?_)) (kx := r_nox)
        obtain ⟨⟨n1, n2, n3⟩, f1, f2, f3, f4⟩ := hN
        have hs1 : ∀ b, b < mN M → Sm M M1 b := fun b hb => (Sm.nw (Nat.ne_of_lt hb)).tr (n3 b (Nat.ne_of_lt hb))
        have hN1 : mN M1 = mN M + 1 := n1
        have hca : mC M1 (mN M) = some (2, 0) := (congrFun n2 _).trans (nw_c M 2 0)
        have hX := hX0.kx hO (Kx.fresh gl hs1 (by omega) hX0)
        refine r_callV (mi := iX8_parcel) vX8_88 dX8_parcel_75 (hX.x 4 10 0) (c_add (t := 2) (hX.l 4) (fun _ => hX.obs 4) (by omega) hca (by decide) (ne_ty hca (hX.x 4 10 0) (by decide))) (hm := ⟨Nat.le_trans (Nat.add_le_add_left (ite_1 _ _) _) (Nat.le_of_ble_eq_true rfl), Nat.le_trans (Nat.add_le_add_left (ite_2 (b := 60) (by omega)) _) (Nat.le_of_ble_eq_true rfl)⟩) (k := kI (fun r M2 hA => ?_)) (kx := r_nox)
        refine r_wid (kc' := 3) (ks' := 80) (Nat.le_trans (Nat.add_le_add_left (ite_1 _ _) _) (by decide)) (Nat.le_trans (Nat.add_le_add_left (ite_2 (b := 60) (by omega)) _) (by decide)) ?_
        obtain ⟨e', cap', g, sa, hle, hbs⟩ := Gw.mk (j := 4) (σ' := sAP σ h w d) (A' := gA C σ 4 (mN M)) (M3 := M2) hX0 (by decide) (by omega) gl hs1 (by omega) ⟨Nat.le_refl _, by omega⟩ hca hA (fun _ _ _ => Sm.rf) rfl (stS_at _ 4 _) (fun k hk => stS_o hk) (fun k i hk hi => by
          by_cases e : k = 10 ∨ k = 11 ∨ k = 12 ∨ k = 14
          · have : i < σ.1 4 := by rcases e with e | e | e | e <;> (subst e; exact hi)
            exact sAP_o (Or.inr (by omega))
          · exact sAP_o (Or.inl e)) (fun k i hk => gA_o 4 _ (by omega)) (gA_n 4 _)
        have e2 : (sAP σ h w d).1 4 = σ.1 4 + 1 := stS_at _ 4 _
        have nQ : ∀ q, q < (sAP σ h w d).1 4 → ¬ q < σ.1 4 → ParcelP M2 (gC C 4 e' cap' (gA C σ 4 (mN M))) (sAP σ h w d) q := by
          intro q h1 h2
          have : q = σ.1 4 := by omega
          subst this
          show mR M2 128 (gA C σ 4 (mN M) 4 (σ.1 4)) = some (gA C σ 4 (mN M) 2 _) ∧ mI M2 129 (gA C σ 4 (mN M) 4 (σ.1 4)) = _ ∧ mI M2 130 (gA C σ 4 (mN M) 4 (σ.1 4)) = _ ∧ mI M2 131 (gA C σ 4 (mN M) 4 (σ.1 4)) = _
          obtain ⟨z1, z2, z3, z4⟩ := sAP_n (σ := σ) (h := h) (w := w) (d := d)
          rw [gA_n, z1, z2, z3, z4, gA_o 4 _ (Or.inr hh)]
          exact ⟨sa.r f1, sa.i f2, sa.i f3, sa.i (f4.trans ((nw_i M 2 0 131).trans iz_0))⟩
        have hQ : XQ G C M (sAP σ h w d) M2 := XQ.gw hM hO (Or.inr (Or.inr rfl)) g (by omega) hbs (fun k hk => funext fun i => sAP_o (Or.inl (by omega))) (fun q h1 h2 => absurd h1 (by rw [show (sAP σ h w d).1 2 = σ.1 2 from stS_o (by decide)]; exact h2)) (fun q h1 h2 => absurd h1 (by rw [show (sAP σ h w d).1 3 = σ.1 3 from stS_o (by decide)]; exact h2)) nQ
        refine r_pop dX8_parcel_78 (k := ?_)
        refine r_aload_n dX8_parcel_79 rfl ?_
        refine r_getR qX8_22 dX8_parcel_80 (x := eX C 4) ((hbs _ (gl _ _ (hX0.x 0 8 0)) (hX0.ne (by decide)) (by obtain ⟨t, z, b1, b2⟩ := (hX0.l 4).ar2; exact (ne_ty b1 (hX0.x 0 8 0) (by omega)).symm)).c (hX0.x 0 8 0)) ((hbs _ (gl _ _ (hX0.x 0 8 0)) (hX0.ne (by decide)) (by obtain ⟨t, z, b1, b2⟩ := (hX0.l 4).ar2; exact (ne_ty b1 (hX0.x 0 8 0) (by omega)).symm)).r (hX0.f 0 515 4)) (kk := ?_)
        refine r_callV (mi := iX8_parcel) vX8_77 dX8_parcel_83 (g.2.2.1).1 (c_size (g.2.2.1)) (hm := by exact ⟨Nat.le_of_ble_eq_true rfl, Nat.le_of_ble_eq_true rfl⟩) (k := kP ?_) (kx := r_nox)
        refine r_iconst dX8_parcel_86 ?_
        refine r_isub dX8_parcel_87 ?_
        exact r_iret dX8_parcel_88 (cr_of e0 (congrArg iz (by omega)) hQ)
      · exact r_throwX (mi := iX8_parcel) xw_57 hX.gD (text := "no more parcels on this day") (is := 146) (by decide +kernel) dX8_parcel_50 dX8_parcel_53 dX8_parcel_54 dX8_parcel_56 dX8_parcel_59 (hm := by exact ⟨Nat.le_of_ble_eq_true rfl, Nat.le_of_ble_eq_true rfl⟩) (hm2 := by exact ⟨Nat.le_of_ble_eq_true rfl, Nat.le_of_ble_eq_true rfl⟩) (hx := fun n hn => cx_rd (c := 2) hM hO hn (by unfold opParcel; repeat (first | rw [if_pos (by omega)] | rw [if_neg (by omega)])) rfl)
    · exact r_throwX (mi := iX8_parcel) xw_72 hX.gD (text := "the weight or the deadline is out of range") (is := 144) (by decide +kernel) dX8_parcel_28 dX8_parcel_31 dX8_parcel_32 dX8_parcel_34 dX8_parcel_37 (hm := by exact ⟨Nat.le_of_ble_eq_true rfl, Nat.le_of_ble_eq_true rfl⟩) (hm2 := by exact ⟨Nat.le_of_ble_eq_true rfl, Nat.le_of_ble_eq_true rfl⟩) (hx := fun n hn => cx_rd (c := 1) hM hO hn (by unfold opParcel; repeat (first | rw [if_pos (by omega)] | rw [if_neg (by omega)])) rfl)
end PB2
