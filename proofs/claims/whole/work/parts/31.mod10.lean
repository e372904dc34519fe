/-! The reference: merging, parcels and the van, shares. -/
section FPN
theorem enc32 (s : Bool) (c : Nat) (q : Int) (hc : c < 16777216) (hq : q ≤ 104) : FP.Core.encode FP.Core.b32 (.fin s c q) % 2147483648 ≤ 2139095040 := by
  have e1 : FP.Core.b32.tails = 8388608 := by decide +kernel
  have e2 : FP.Core.b32.exps = 256 := by decide +kernel
  have e3 : FP.Core.b32.qmin = -149 := by decide +kernel
  unfold FP.Core.encode FP.Core.assemble
  simp only [e1, e2, e3]
  cases s <;> simp only [Bool.toNat_true, Bool.toNat_false] <;> split <;> omega
theorem enc64 (s : Bool) (c : Nat) (q : Int) (hc : c < 9007199254740992) (hq : q ≤ 971) : FP.Core.encode FP.Core.b64 (.fin s c q) % 9223372036854775808 ≤ 9218868437227405312 := by
  have e1 : FP.Core.b64.tails = 4503599627370496 := by decide +kernel
  have e2 : FP.Core.b64.exps = 2048 := by decide +kernel
  have e3 : FP.Core.b64.qmin = -1074 := by decide +kernel
  unfold FP.Core.encode FP.Core.assemble
  simp only [e1, e2, e3]
  cases s <;> simp only [Bool.toNat_true, Bool.toNat_false] <;> split <;> omega
theorem vf32 {n : Nat} (h : n % 2147483648 ≤ 2139095040) : vf_n32 (.ofNat n) := by
  unfold vf_n32
  rw [UInt32.le_iff_toNat_le, UInt32.toNat_and, UInt32.toNat_ofNat']
  show n % 2 ^ 32 &&& 2 ^ 31 - 1 ≤ 2139095040
  rw [Nat.and_two_pow_sub_one_eq_mod]
  omega
theorem vf64 {n : Nat} (h : n % 9223372036854775808 ≤ 9218868437227405312) : vf_n64 (.ofNat n) := by
  unfold vf_n64
  rw [UInt64.le_iff_toNat_le, UInt64.toNat_and, UInt64.toNat_ofNat']
  show n % 2 ^ 64 &&& 2 ^ 63 - 1 ≤ 9218868437227405312
  rw [Nat.and_two_pow_sub_one_eq_mod]
  omega
theorem rr32 (s : Bool) (a b : Nat) (e : Int) : FP.Core.encode FP.Core.b32 (FP.Core.roundRatio FP.Core.b32 s a b e) % 2147483648 ≤ 2139095040 := by
  have e3 : FP.Core.b32.qmin = -149 := by decide +kernel
  have e4 : FP.Core.b32.qmax = 104 := by decide +kernel
  have e5 : FP.Core.b32.tails = 8388608 := by decide +kernel
  have e6 : 2 ^ FP.Core.b32.p = 16777216 := by decide +kernel
  have ei : ∀ s, FP.Core.encode FP.Core.b32 (.inf s) % 2147483648 ≤ 2139095040 := by decide +kernel
  unfold FP.Core.roundRatio
  split
  · exact enc32 s 0 _ (by omega) (by omega)
  · unfold FP.Core.roundAt FP.Core.settle FP.Core.bound
    split
    · split
      · exact enc32 s _ _ (by omega) (by omega)
      · exact ei s
    · split
      · exact enc32 s _ _ (by omega) (by omega)
      · exact ei s
theorem rr64 (s : Bool) (a b : Nat) (e : Int) : FP.Core.encode FP.Core.b64 (FP.Core.roundRatio FP.Core.b64 s a b e) % 9223372036854775808 ≤ 9218868437227405312 := by
  have e3 : FP.Core.b64.qmin = -1074 := by decide +kernel
  have e4 : FP.Core.b64.qmax = 971 := by decide +kernel
  have e5 : FP.Core.b64.tails = 4503599627370496 := by decide +kernel
  have e6 : 2 ^ FP.Core.b64.p = 9007199254740992 := by decide +kernel
  have ei : ∀ s, FP.Core.encode FP.Core.b64 (.inf s) % 9223372036854775808 ≤ 9218868437227405312 := by decide +kernel
  unfold FP.Core.roundRatio
  split
  · exact enc64 s 0 _ (by omega) (by omega)
  · unfold FP.Core.roundAt FP.Core.settle FP.Core.bound
    split
    · split
      · exact enc64 s _ _ (by omega) (by omega)
      · exact ei s
    · split
      · exact enc64 s _ _ (by omega) (by omega)
      · exact ei s
def finN : FP.Core.Datum → Bool
  | .fin _ _ _ => true
  | _ => false
def finP : FP.Core.Datum → Bool
  | .fin _ c _ => c != 0
  | _ => false
theorem fdiv_ok {x y : UInt32} (hx : finN (FP.Core.decode FP.Core.b32 x.toNat) = true) (hy : finP (FP.Core.decode FP.Core.b32 y.toNat) = true) : vf_n32 (FP.fdiv x y) := by
  refine vf32 (?_ : FP.Core.div FP.Core.b32 x.toNat y.toNat % 2147483648 ≤ 2139095040)
  unfold FP.Core.div
  cases e : FP.Core.decode FP.Core.b32 x.toNat with
  | nan => rw [e] at hx; cases hx
  | inf s => rw [e] at hx; cases hx
  | fin s c q =>
    cases e2 : FP.Core.decode FP.Core.b32 y.toNat with
    | nan => rw [e2] at hy; cases hy
    | inf s => rw [e2] at hy; cases hy
    | fin t d r =>
      rw [e2] at hy
      unfold FP.Core.quotient
      simp only []
      rw [if_neg (fun h => by subst h; cases hy)]
      exact rr32 _ _ _ _
theorem ddiv_ok {x y : UInt64} (hx : finN (FP.Core.decode FP.Core.b64 x.toNat) = true) (hy : finP (FP.Core.decode FP.Core.b64 y.toNat) = true) : vf_n64 (FP.ddiv x y) := by
  refine vf64 (?_ : FP.Core.div FP.Core.b64 x.toNat y.toNat % 9223372036854775808 ≤ 9218868437227405312)
  unfold FP.Core.div
  cases e : FP.Core.decode FP.Core.b64 x.toNat with
  | nan => rw [e] at hx; cases hx
  | inf s => rw [e] at hx; cases hx
  | fin s c q =>
    cases e2 : FP.Core.decode FP.Core.b64 y.toNat with
    | nan => rw [e2] at hy; cases hy
    | inf s => rw [e2] at hy; cases hy
    | fin t d r =>
      rw [e2] at hy
      unfold FP.Core.quotient
      simp only []
      rw [if_neg (fun h => by subst h; cases hy)]
      exact rr64 _ _ _ _
theorem fin_i2f : ∀ n : Nat, n < 520 → finN (FP.Core.decode FP.Core.b32 (FP.i2f (iz (n : Int))).toNat) = true ∧ (n ≠ 0 → finP (FP.Core.decode FP.Core.b32 (FP.i2f (iz (n : Int))).toNat) = true) := by decide +kernel
theorem fin_i2d0 : ∀ a : Nat, a < 60 → ∀ b : Nat, b < 50 → finN (FP.Core.decode FP.Core.b64 (FP.i2d (iz ((50 * a + b : Nat) : Int))).toNat) = true := by decide +kernel
theorem fin_i2d (n : Nat) (h : n < 3000) : finN (FP.Core.decode FP.Core.b64 (FP.i2d (iz (n : Int))).toNat) = true := by
  have := fin_i2d0 (n / 50) (by omega) (n % 50) (by omega)
  rw [show 50 * (n / 50) + n % 50 = n by omega] at this
  exact this
theorem fin_i2d2 : ∀ n : Nat, n < 31 → n ≠ 0 → finP (FP.Core.decode FP.Core.b64 (FP.i2d (iz (n : Int))).toNat) = true := by decide +kernel
end FPN
section MRG
variable {σ : St} {T : Nat}
theorem or_16 : ∀ a : Nat, a < 4 → ∀ b : Nat, b < 4 → 2 ^ a ||| 2 ^ b < 16 := by decide +kernel
/-- two rounds as one -/
def bo (x y : Int) : Nat := 2 ^ x.toNat ||| 2 ^ y.toNat
def svC (σ : St) (x y : Int) : Nat := if ¬ bt2 x 0 (σ.1 3 - 1) ∨ ¬ bt2 y 0 (σ.1 3 - 1) then 1 else if x = y then 2 else if hW σ (2 ^ x.toNat) = false ∨ hW σ (2 ^ y.toNat) = false ∨ hW σ (bo x y) = false then 3 else 0
def svV (σ : St) (x y : Int) : Int := wL σ (2 ^ x.toNat) + wL σ (2 ^ y.toNat) - wL σ (bo x y)
def opSaving (σ : St) (x y : Int) : Rs := (σ, svC σ x y, svV σ x y)
def mgF (σ : St) (a b i s : Nat) : Nat := if s < i ∧ σ.2 4 s = b + 1 then a + 1 else σ.2 4 s
def opMerge (σ : St) (x y : Int) : Rs := if svC σ x y ≠ 0 then (σ, svC σ x y, 0) else if σ.2 9 x.toNat < wT σ (bo x y) then (σ, 3, 0) else (stF σ 4 (mgF σ x.toNat y.toNat (σ.1 1)), 0, svV σ x y)
def bms (σ : St) (a b : Nat) (t : Int × Int) : Int × Int := if svC σ a b = 0 ∧ t.1 < svV σ a b ∧ wT σ (bo a b) ≤ σ.2 9 a then (svV σ a b, 4 * a + b) else t
def bmi (σ : St) (a : Nat) (t : Int × Int) : Nat → Int × Int
  | 0 => t
  | b + 1 => bms σ a b (bmi σ a t b)
def bmo (σ : St) : Nat → Int × Int
  | 0 => (0, -1)
  | a + 1 => bmi σ a (bmo σ a) (σ.1 3)
def opBest (σ : St) : Rs := if (bmo σ (σ.1 3)).2 < 0 then (σ, 1, 0) else (σ, 0, (bmo σ (σ.1 3)).2)
theorem svV_le (x y : Int) : -100000 ≤ svV σ x y ∧ svV σ x y ≤ 200000 := by
  have h1 : wL σ (2 ^ x.toNat) ≤ 100000 := gV_le
  have h2 : wL σ (2 ^ y.toNat) ≤ 100000 := gV_le
  have h3 : wL σ (bo x y) ≤ 100000 := gV_le
  unfold svV; omega
def bmOk (t : Int × Int) : Prop := 0 ≤ t.1 ∧ t.1 ≤ 200000 ∧ -1 ≤ t.2 ∧ t.2 < 16
theorem bms_ok {a b : Nat} {t : Int × Int} (ha : a < 4) (hb : b < 4) (h : bmOk t) : bmOk (bms σ a b t) := by
  have := svV_le (σ := σ) a b
  unfold bms bmOk at *
  split
  · show 0 ≤ svV σ a b ∧ svV σ a b ≤ 200000 ∧ -1 ≤ 4 * (a : Int) + b ∧ 4 * (a : Int) + b < 16
    omega
  · exact h
theorem bmi_ok {a : Nat} {t : Int × Int} (ha : a < 4) (h : bmOk t) : ∀ b, b ≤ 4 → bmOk (bmi σ a t b)
  | 0, _ => h
  | b + 1, hb => bms_ok ha (by omega) (bmi_ok ha h b (by omega))
theorem bmo_ok (hr : σ.1 3 ≤ 4) : ∀ a, a ≤ 4 → bmOk (bmo σ a)
  | 0, _ => by unfold bmOk bmo; omega
  | a + 1, ha => bmi_ok (by omega) (bmo_ok hr a (by omega)) _ hr
end MRG
section MD10
variable {G : GC} {M M0 : Mem} {Y : Nat → Nat} {σ : St} {T : Nat} {Qf : List Frame → Array Value → State → State → Prop}
def svc (σ : St) (a b : Nat) : Nat := if hW σ (2 ^ a) = false ∨ hW σ (2 ^ b) = false ∨ hW σ (2 ^ a ||| 2 ^ b) = false then 3 else 0
theorem m_savingBy (hP : MP Y M0 σ 0 M) (hO : Ok σ T) (a b : Nat) (ha : a < σ.1 3) (hb : b < σ.1 3) : Ht G iX9_savingBy yX9_savingBy 10 [.ref (Y 0), .int (iz (a : Int)), .int (iz (b : Int))] M (rI fun r M' => MP Y M0 σ (svc σ a b) M' ∧ (svc σ a b = 0 → r = iz (svV σ a b) ∧ mI M' 606 (Y 0) = iz (wL σ (2 ^ a ||| 2 ^ b) : Int))) nX 0 0 := by
  have p5 := hO.1.2.2.2.2.1
  have hM := hP.1
  have l1 : wL σ (2 ^ a) ≤ 100000 := gV_le
  have l2 : wL σ (2 ^ b) ≤ 100000 := gV_le
  have l3 : wL σ (2 ^ a ||| 2 ^ b) ≤ 100000 := gV_le
  refine ht_intro (by decide +kernel) rfl rfl rfl (Nat.le_of_ble_eq_true rfl) ?_
  refine r_aload_n dX9_savingBy_0 rfl ?_
  refine r_iconst dX9_savingBy_1 ?_
  refine r_iload_n dX9_savingBy_2 rfl ?_
  refine r_ishl dX9_savingBy_3 (sl_1 rfl (by omega)) ?_
  refine r_callV (mi := iX9_savingBy) vX9_187 dX9_savingBy_4 hM.o (m_walks hM hO (2 ^ a) (two_lt (by omega))) (hm := ⟨by omega, by omega⟩) (k := kI (fun x M2 hP2 => ?_)) (kx := r_nox)
  obtain ⟨hW2, hx⟩ := hP2
  subst hx
  have hA := (hW2.mp hP).2
  have hP := (hW2.mp hP).1
  have hM := hP.1
  refine r_bif_ne (tgt := 16) dX9_savingBy_7 (by decide) (kt := fun z7 => ?_) (kf := fun z7 => ?_)
  · refine r_aload_n dX9_savingBy_16 rfl ?_
    refine r_getI qX9_184 dX9_savingBy_17 hM.o (hA.2.2 z7).1 (kk := ?_)
    refine r_istore_n dX9_savingBy_20 (k := ?_)
    refine r_aload_n dX9_savingBy_21 rfl ?_
    refine r_iconst dX9_savingBy_22 ?_
    refine r_iload_n dX9_savingBy_23 rfl ?_
    refine r_ishl dX9_savingBy_24 (sl_1 rfl (by omega)) ?_
    refine r_callV (mi := iX9_savingBy) vX9_187 dX9_savingBy_25 hM.o (m_walks hM hO (2 ^ b) (two_lt (by omega))) (hm := ⟨by omega, by omega⟩) (k := kI (fun x M3 hP3 => ?_)) (kx := r_nox)
    obtain ⟨hW3, hx⟩ := hP3
    subst hx
    have hA := (hW3.mp hP).2
    have hP := (hW3.mp hP).1
    have hM := hP.1
    refine r_bif_ne (tgt := 37) dX9_savingBy_28 (by decide) (kt := fun z28 => ?_) (kf := fun z28 => ?_)
    · refine r_iload_n dX9_savingBy_37 rfl ?_
      refine r_aload_n dX9_savingBy_38 rfl ?_
      refine r_getI qX9_184 dX9_savingBy_39 hM.o (hA.2.2 z28).1 (kk := ?_)
      refine r_iadd dX9_savingBy_42 ?_
      refine r_istore_n dX9_savingBy_43 (k := ?_)
      refine r_aload_n dX9_savingBy_44 rfl ?_
      refine r_iconst dX9_savingBy_45 ?_
      refine r_iload_n dX9_savingBy_46 rfl ?_
      refine r_ishl dX9_savingBy_47 (sl_1 rfl (by omega)) ?_
      refine r_iconst dX9_savingBy_48 ?_
      refine r_iload_n dX9_savingBy_49 rfl ?_
      refine r_ishl dX9_savingBy_50 (sl_1 rfl (by omega)) ?_
      refine r_ior dX9_savingBy_51 (iz_or _ _) ?_
      refine r_callV (mi := iX9_savingBy) vX9_187 dX9_savingBy_52 hM.o (m_walks hM hO (2 ^ a ||| 2 ^ b) (or_16 a (by omega) b (by omega))) (hm := ⟨by omega, by omega⟩) (k := kI (fun x M4 hP4 => ?_)) (kx := r_nox)
      obtain ⟨hW4, hx⟩ := hP4
      subst hx
      have hA := (hW4.mp hP).2
      have hP := (hW4.mp hP).1
      have hM := hP.1
      refine r_bif_ne (tgt := 64) dX9_savingBy_55 (by decide) (kt := fun z55 => ?_) (kf := fun z55 => ?_)
      · refine r_iload_n dX9_savingBy_64 rfl ?_
        refine r_aload_n dX9_savingBy_65 rfl ?_
        refine r_getI qX9_184 dX9_savingBy_66 hM.o (hA.2.2 z55).1 (kk := ?_)
        refine r_isub dX9_savingBy_69 ?_
        have e : svc σ a b = 0 := if_neg (by rw [z7, z28, z55]; simp)
        exact r_iret dX9_savingBy_70 ⟨_, rfl, by rw [e]; exact hP, fun _ => ⟨rfl, (hA.2.2 z55).1⟩⟩
      · refine r_aload_n dX9_savingBy_58 rfl ?_
        refine r_iconst dX9_savingBy_59 ?_
        refine r_callV (mi := iX9_savingBy) vX9_100 dX9_savingBy_60 hM.o (m_fails hM.o 3) (hm := ⟨by omega, by omega⟩) (k := kP ?_) (kx := r_nox)
        have e : svc σ a b = 3 := if_pos (Or.inr (Or.inr z55))
        exact r_iret dX9_savingBy_63 ⟨_, rfl, by rw [e]; exact mpf hP 3, fun h => by rw [e] at h; cases h⟩
    · refine r_aload_n dX9_savingBy_31 rfl ?_
      refine r_iconst dX9_savingBy_32 ?_
      refine r_callV (mi := iX9_savingBy) vX9_100 dX9_savingBy_33 hM.o (m_fails hM.o 3) (hm := ⟨by omega, by omega⟩) (k := kP ?_) (kx := r_nox)
      have e : svc σ a b = 3 := if_pos (Or.inr (Or.inl z28))
      exact r_iret dX9_savingBy_36 ⟨_, rfl, by rw [e]; exact mpf hP 3, fun h => by rw [e] at h; cases h⟩
  · refine r_aload_n dX9_savingBy_10 rfl ?_
    refine r_iconst dX9_savingBy_11 ?_
    refine r_callV (mi := iX9_savingBy) vX9_100 dX9_savingBy_12 hM.o (m_fails hM.o 3) (hm := ⟨by omega, by omega⟩) (k := kP ?_) (kx := r_nox)
    have e : svc σ a b = 3 := if_pos (Or.inl z7)
    exact r_iret dX9_savingBy_15 ⟨_, rfl, by rw [e]; exact mpf hP 3, fun h => by rw [e] at h; cases h⟩
theorem svC_b {a b : Nat} (ha : a < σ.1 3) (hb : b < σ.1 3) (h : a ≠ b) : svC σ a b = svc σ a b := by
  unfold svC
  rw [if_neg (by omega), if_neg (by omega)]
  rfl
theorem m_saving (hM : RM M Y σ) (hO : Ok σ T) (x y : Int) (hx : inR x) (hy : inR y) : Ht G iX9_saving yX9_saving 11 [.ref (Y 0), .int (iz x), .int (iz y)] M (rI fun r M' => MP Y M σ (svC σ x y) M' ∧ (svC σ x y = 0 → r = iz (svV σ x y) ∧ mI M' 606 (Y 0) = iz (wL σ (bo x y) : Int))) nX 0 0 := by
  have p5 := hO.1.2.2.2.2.1
  refine ht_intro (by decide +kernel) rfl rfl rfl (Nat.le_of_ble_eq_true rfl) ?_
  refine r_aload_n dX9_saving_0 rfl ?_
  refine r_iconst dX9_saving_1 ?_
  refine r_putI qX9_81 dX9_saving_2 hM.o (kk := ?_)
  refine gm (P := MP Y M σ 0) (mp0 hM) (fun M1 hP => ?_)
  have hM := hP.1
  refine r_aload_n dX9_saving_5 rfl ?_
  refine r_iload_n dX9_saving_6 rfl ?_
  refine r_callV (mi := iX9_saving) vX9_111 dX9_saving_7 hM.o (m_isRound hM (by omega) x hx) (hm := ⟨by omega, by omega⟩) (k := kP ?_) (kx := r_nox)
  refine r_dif_eq (tgt := 21) dX9_saving_10 (by decide) (kt := fun z10 => ?_) (kf := fun z10 => ?_)
  · refine r_aload_n dX9_saving_21 rfl ?_
    refine r_iconst dX9_saving_22 ?_
    refine r_callV (mi := iX9_saving) vX9_100 dX9_saving_23 hM.o (m_fails hM.o 1) (hm := ⟨by omega, by omega⟩) (k := kP ?_) (kx := r_nox)
    have e : svC σ x y = 1 := if_pos (by omega)
    exact r_iret dX9_saving_26 ⟨_, rfl, by rw [e]; exact mpf hP 1, fun h => by rw [e] at h; cases h⟩
  · refine r_aload_n dX9_saving_13 rfl ?_
    refine r_iload_n dX9_saving_14 rfl ?_
    refine r_callV (mi := iX9_saving) vX9_111 dX9_saving_15 hM.o (m_isRound hM (by omega) y hy) (hm := ⟨by omega, by omega⟩) (k := kP ?_) (kx := r_nox)
    refine r_dif_ne (tgt := 27) dX9_saving_18 (by decide) (kt := fun z18 => ?_) (kf := fun z18 => ?_)
    · refine r_iload_n dX9_saving_27 rfl ?_
      refine r_iload_n dX9_saving_28 rfl ?_
      refine r_icmp_ne (tgt := 40) dX9_saving_29 (by decide) (kt := fun z29 => ?_) (kf := fun z29 => ?_)
      · obtain ⟨a, rfl⟩ := nat_of (a := x) (by omega)
        obtain ⟨b, rfl⟩ := nat_of (a := y) (by omega)
        have e := svC_b (σ := σ) (a := a) (b := b) (by omega) (by omega) (by omega)
        refine r_aload_n dX9_saving_40 rfl ?_
        refine r_iload_n dX9_saving_41 rfl ?_
        refine r_iload_n dX9_saving_42 rfl ?_
        refine r_callV (mi := iX9_saving) vX9_218 dX9_saving_43 hM.o (m_savingBy hP hO a b (by omega) (by omega)) (hm := ⟨by omega, by omega⟩) (k := kI (fun r M2 hP2 => ?_)) (kx := r_nox)
        first
         | exact r_iret dX9_saving_46 ⟨_, rfl, by rw [e]; exact hP2⟩
         | exact r_iret dX9_saving_46 ⟨_, rfl, by rw [e]; exact mpf hP 2, fun h => by rw [e] at h; cases h⟩
      · refine r_aload_n dX9_saving_32 rfl ?_
        refine r_iconst dX9_saving_33 ?_
        refine r_callV (mi := iX9_saving) vX9_100 dX9_saving_34 hM.o (m_fails hM.o 2) (hm := ⟨by omega, by omega⟩) (k := kP ?_) (kx := r_nox)
        have e : svC σ x y = 2 := by unfold svC; rw [if_neg (by omega)]; exact if_pos (by omega)
        refine r_goto (tgt := 46) dX9_saving_37 (by decide) ?_
        first
         | exact r_iret dX9_saving_46 ⟨_, rfl, by rw [e]; exact hP2⟩
         | exact r_iret dX9_saving_46 ⟨_, rfl, by rw [e]; exact mpf hP 2, fun h => by rw [e] at h; cases h⟩
    · refine r_aload_n dX9_saving_21 rfl ?_
      refine r_iconst dX9_saving_22 ?_
      refine r_callV (mi := iX9_saving) vX9_100 dX9_saving_23 hM.o (m_fails hM.o 1) (hm := ⟨by omega, by omega⟩) (k := kP ?_) (kx := r_nox)
      have e : svC σ x y = 1 := if_pos (by omega)
      exact r_iret dX9_saving_26 ⟨_, rfl, by rw [e]; exact mpf hP 1, fun h => by rw [e] at h; cases h⟩
theorem m_saving' (hM : RM M Y σ) (hO : Ok σ T) (x y : Int) (hx : inR x) (hy : inR y) : Ht G iX9_saving yX9_saving 11 [.ref (Y 0), .int (iz x), .int (iz y)] M (MR Y M (opSaving σ x y)) nX 0 0 :=
  ht_weak (m_saving hM hO x y hx hy) (fun v M' h => ⟨h.choose, h.choose_spec.1, h.choose_spec.2.1, fun e => (h.choose_spec.2.2 e).1⟩) (fun _ _ h => h)
theorem svC_z {x y : Int} (h : svC σ x y = 0) : ∃ a b : Nat, x = a ∧ y = b ∧ a < σ.1 3 ∧ b < σ.1 3 ∧ a ≠ b := by
  unfold svC at h
  by_cases e : ¬ bt2 x 0 (σ.1 3 - 1) ∨ ¬ bt2 y 0 (σ.1 3 - 1)
  · rw [if_pos e] at h; omega
  · rw [if_neg e] at h
    by_cases e2 : x = y
    · rw [if_pos e2] at h; omega
    · exact ⟨x.toNat, y.toNat, by omega, by omega, by omega, by omega, by omega⟩
theorem merge_loop (hO : Ok σ T) (a b : Nat) (ha : a < σ.1 3) (hb : b < σ.1 3) {r : Int32} {PR : Option Value → Mem → Prop} (kk : ∀ M1, MP Y M0 (stF σ 4 (mgF σ a b (σ.1 1))) 0 M1 → PR (some (.int r)) M1) : ∀ (k i : Nat) (M1 : Mem), i + k = σ.1 1 → MP Y M0 (stF σ 4 (mgF σ a b i)) 0 M1 → SWG G iX9_mergeInto (rmd 12 0 0) (QF G PR nX 0 0) 45 [(4, .int (iz (i : Int))), (3, .int r), (0, .ref (Y 0)), (1, .int (iz (a : Int))), (2, .int (iz (b : Int)))] [] M1 0 0 := by
  have p3 := hO.1.2.2.1
  have p5 := hO.1.2.2.2.2.1
  intro k
  induction k with
  | zero =>
    intro i M1 hi hP
    have hi2 : i = σ.1 1 := by omega
    subst hi2
    have hM := hP.1
    refine r_iload dX9_mergeInto_45 rfl ?_
    refine r_aload_n dX9_mergeInto_47 rfl ?_
    refine r_getI qX9_84 dX9_mergeInto_48 hM.o (x := iz (σ.1 1 : Int)) (hM.s 1) (kk := ?_)
    refine r_icmp_ge (tgt := 89) dX9_mergeInto_51 (by decide) (kt := fun z51 => ?_) (kf := fun z51 => (by exfalso; first | omega | simp_all))
    refine r_iload_n dX9_mergeInto_89 rfl ?_
    exact r_iret dX9_mergeInto_90 (kk M1 hP)
  | succ k ih =>
    intro i M1 hi hP
    have hi3 : i < σ.1 1 := by omega
    have hM := hP.1
    have s7 := (hO.2.1 i hi3).2.2.2.2.2.2
    have e4 : mgF σ a b i i = σ.2 4 i := if_neg (by omega)
    have v4 : mA M1 (Y 4) i = iz ((σ.2 4 i : Int) - 1) := (hM.v4 i hi3).trans (by show iz ((mgF σ a b i i : Int) - 1) = _; rw [e4])
    refine r_iload dX9_mergeInto_45 rfl ?_
    refine r_aload_n dX9_mergeInto_47 rfl ?_
    refine r_getI qX9_84 dX9_mergeInto_48 hM.o (x := iz (σ.1 1 : Int)) (hM.s 1) (kk := ?_)
    refine r_icmp_ge (tgt := 89) dX9_mergeInto_51 (by decide) (kt := fun z51 => (by exfalso; first | omega | simp_all)) (kf := fun z51 => ?_)
    refine r_aload_n dX9_mergeInto_54 rfl ?_
    refine r_getR qX9_19 dX9_mergeInto_55 hM.o (hM.r 4) (kk := ?_)
    refine r_iload dX9_mergeInto_58 rfl ?_
    refine r_aload_n dX9_mergeInto_60 rfl ?_
    refine r_getR qX9_19 dX9_mergeInto_61 hM.o (hM.r 4) (kk := ?_)
    refine r_iload dX9_mergeInto_64 rfl ?_
    refine r_iald dX9_mergeInto_66 (hM.cc 4 11 16) rfl v4 (k := ?_)
    refine r_iload_n dX9_mergeInto_67 rfl ?_
    refine r_icmp_ne (tgt := 75) dX9_mergeInto_68 (by decide) (kt := fun z68 => ?_) (kf := fun z68 => ?_)
    · refine r_aload_n dX9_mergeInto_75 rfl ?_
      refine r_getR qX9_19 dX9_mergeInto_76 hM.o (hM.r 4) (kk := ?_)
      refine r_iload dX9_mergeInto_79 rfl ?_
      refine r_iald dX9_mergeInto_81 (hM.cc 4 11 16) rfl v4 (k := ?_)
      refine r_iast dX9_mergeInto_82 (hM.cc 4 11 16) rfl (k := ?_)
      refine r_iinc dX9_mergeInto_83 rfl (k := ?_)
      refine r_goto (tgt := 45) dX9_mergeInto_86 (by decide) ?_
      refine r_loc' (ih (i + 1) _ (by omega) ?_) ⟨rfl, rfl, rfl, rfl, rfl, trivial⟩
      rw [← stF_stF σ 4 (mgF σ a b i)]
      refine mp_a hP 4 (fun q hq2 => ?_)
      by_cases e : q = i
      · subst e
        simp only [upd, if_true]
        first
          | (rw [show mgF σ a b (q + 1) q = a + 1 from if_pos ⟨by omega, by omega⟩]; show iz _ = iz _; congr 1; omega)
          | (rw [show mgF σ a b (q + 1) q = σ.2 4 q from if_neg (by omega)]; show iz _ = iz _; rfl)
      · simp only [upd, if_neg e]
        rw [hM.v4 q hq2, stF_at]
        show iz _ = iz _
        congr 2
        congr 1
        unfold mgF
        by_cases e2 : q < i ∧ σ.2 4 q = b + 1
        · rw [if_pos e2, if_pos ⟨by omega, e2.2⟩]
        · rw [if_neg e2, if_neg (fun h => e2 ⟨by omega, h.2⟩)]
    · refine r_iload_n dX9_mergeInto_71 rfl ?_
      refine r_goto (tgt := 82) dX9_mergeInto_72 (by decide) ?_
      refine r_iast dX9_mergeInto_82 (hM.cc 4 11 16) rfl (k := ?_)
      refine r_iinc dX9_mergeInto_83 rfl (k := ?_)
      refine r_goto (tgt := 45) dX9_mergeInto_86 (by decide) ?_
      refine r_loc' (ih (i + 1) _ (by omega) ?_) ⟨rfl, rfl, rfl, rfl, rfl, trivial⟩
      rw [← stF_stF σ 4 (mgF σ a b i)]
      refine mp_a hP 4 (fun q hq2 => ?_)
      by_cases e : q = i
      · subst e
        simp only [upd, if_true]
        first
          | (rw [show mgF σ a b (q + 1) q = a + 1 from if_pos ⟨by omega, by omega⟩]; show iz _ = iz _; congr 1; omega)
          | (rw [show mgF σ a b (q + 1) q = σ.2 4 q from if_neg (by omega)]; show iz _ = iz _; rfl)
      · simp only [upd, if_neg e]
        rw [hM.v4 q hq2, stF_at]
        show iz _ = iz _
        congr 2
        congr 1
        unfold mgF
        by_cases e2 : q < i ∧ σ.2 4 q = b + 1
        · rw [if_pos e2, if_pos ⟨by omega, e2.2⟩]
        · rw [if_neg e2, if_neg (fun h => e2 ⟨by omega, h.2⟩)]
theorem m_mergeInto (hM : RM M Y σ) (hO : Ok σ T) (x y : Int) (hx : inR x) (hy : inR y) : Ht G iX9_mergeInto yX9_mergeInto 12 [.ref (Y 0), .int (iz x), .int (iz y)] M (MR Y M (opMerge σ x y)) nX 0 0 := by
  have p5 := hO.1.2.2.2.2.1
  have hc : svC σ x y ≤ 3 := by unfold svC; repeat (first | omega | split)
  refine ht_intro (by decide +kernel) rfl rfl rfl (Nat.le_of_ble_eq_true rfl) ?_
  refine r_aload_n dX9_mergeInto_0 rfl ?_
  refine r_iload_n dX9_mergeInto_1 rfl ?_
  refine r_iload_n dX9_mergeInto_2 rfl ?_
  refine r_callV (mi := iX9_mergeInto) vX9_221 dX9_mergeInto_3 hM.o (m_saving hM hO x y hx hy) (hm := ⟨by omega, by omega⟩) (k := kI (fun r M2 hP2 => ?_)) (kx := r_nox)
  obtain ⟨hP, hr⟩ := hP2
  have hM := hP.1
  refine r_istore_n dX9_mergeInto_6 (k := ?_)
  refine r_aload_n dX9_mergeInto_7 rfl ?_
  refine r_getI qX9_81 dX9_mergeInto_8 hM.o hP.2.1 (kk := ?_)
  refine r_if_le (tgt := 16) dX9_mergeInto_11 (by decide) (kt := fun z11 => ?_) (kf := fun z11 => ?_)
  · have z0 : svC σ x y = 0 := by omega
    obtain ⟨a, b, rfl, rfl, ha, hb, hab⟩ := svC_z z0
    obtain ⟨hr, hI⟩ := hr z0
    rw [z0] at hP
    have hr4 := (hO.2.2.2.1 a ha)
    have hwt := wT_le hO (2 ^ a ||| 2 ^ b)
    have e0 : bo (a : Int) (b : Int) = 2 ^ a ||| 2 ^ b := rfl
    refine r_aload_n dX9_mergeInto_16 rfl ?_
    refine r_iconst dX9_mergeInto_17 ?_
    refine r_iload_n dX9_mergeInto_18 rfl ?_
    refine r_ishl dX9_mergeInto_19 (sl_1 rfl (by omega)) ?_
    refine r_iconst dX9_mergeInto_20 ?_
    refine r_iload_n dX9_mergeInto_21 rfl ?_
    refine r_ishl dX9_mergeInto_22 (sl_1 rfl (by omega)) ?_
    refine r_ior dX9_mergeInto_23 (iz_or _ _) ?_
    refine r_callV (mi := iX9_mergeInto) vX9_208 dX9_mergeInto_24 hM.o (m_timeOf hM hO (2 ^ a ||| 2 ^ b) (wL σ (2 ^ a ||| 2 ^ b)) (or_16 a (by omega) b (by omega)) gV_le hI) (hm := ⟨by omega, by omega⟩) (k := kP ?_) (kx := r_nox)
    refine gs (show iz ((wL σ (2 ^ a ||| 2 ^ b) + 2 * dueN σ (2 ^ a ||| 2 ^ b) + lightN σ (2 ^ a ||| 2 ^ b) : Nat) : Int) = iz (wT σ (2 ^ a ||| 2 ^ b) : Int) from rfl) ?_
    refine r_aload_n dX9_mergeInto_27 rfl ?_
    refine r_getR qX9_34 dX9_mergeInto_28 hM.o (hM.r 9) (kk := ?_)
    refine r_iload_n dX9_mergeInto_31 rfl ?_
    refine r_iald dX9_mergeInto_32 (hM.cc 9 11 4) rfl (hM.v 9 _ (ha)) (k := ?_)
    refine r_icmp_le (tgt := 42) dX9_mergeInto_33 (by decide) (kt := fun z33 => ?_) (kf := fun z33 => ?_)
    · refine r_iconst dX9_mergeInto_42 ?_
      refine r_istore dX9_mergeInto_43 (k := ?_)
      refine r_loc' (merge_loop hO a b ha hb (r := r) (fun M3 hP3 => mr_of hP3 (by unfold opMerge; rw [if_neg (by omega), e0, Int.toNat_natCast]; exact if_neg (by omega)) (fun _ => hr)) (σ.1 1) 0 _ (by omega) ?_) ⟨rfl, rfl, rfl, rfl, rfl, trivial⟩
      rw [show mgF σ a b 0 = σ.2 4 from funext fun s => if_neg (by omega), stF_id]; exact hP
    · refine r_aload_n dX9_mergeInto_36 rfl ?_
      refine r_iconst dX9_mergeInto_37 ?_
      refine r_callV (mi := iX9_mergeInto) vX9_100 dX9_mergeInto_38 hM.o (m_fails hM.o 3) (hm := ⟨by omega, by omega⟩) (k := kP ?_) (kx := r_nox)
      exact r_iret dX9_mergeInto_41 (mr_of (mpf hP 3) (by unfold opMerge; rw [if_neg (by omega), e0, Int.toNat_natCast]; exact if_pos (by omega)) (fun h => absurd h (by decide)))
  · refine r_iconst dX9_mergeInto_14 ?_
    exact r_iret dX9_mergeInto_15 (mr_of hP (by unfold opMerge; exact if_pos (by omega)) (fun h => absurd h (by omega)))
end MD10
