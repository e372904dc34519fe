/-! The reference: merging, parcels and the van, shares. -/
section FPN
theorem enc32 (s : Bool) (c : Nat) (q : Int) (hc : c < 16777216) (hq : q ≤ 104) : FP.Core.encode FP.Core.b32 (.fin s c q) % 2147483648 ≤ 2139095040 := by
  have e1 : FP.Core.b32.tails = 8388608 := by decide +kernel
  have e2 : FP.Core.b32.exps = 256 := by decide +kernel
  have e3 : FP.Core.b32.qmin = -149 := by decide +kernel
  unfold FP.Core.encode FP.Core.assemble
  simp only [e1, e2, e3]
  cases s <;> simp only [Bool.toNat_true, Bool.toNat_false] <;> split <;> omega
theorem enc64 (s : Bool) (c : Nat) (q : Int) (hc : c < 9007199254740992) (hq : q ≤ 971) : FP.Core.encode FP.Core.b64 (.fin s c q) % 9223372036854775808 ≤ 9218868437227405312 := by
  have e1 : FP.Core.b64.tails = 4503599627370496 := by decide +kernel
  have e2 : FP.Core.b64.exps = 2048 := by decide +kernel
  have e3 : FP.Core.b64.qmin = -1074 := by decide +kernel
  unfold FP.Core.encode FP.Core.assemble
  simp only [e1, e2, e3]
  cases s <;> simp only [Bool.toNat_true, Bool.toNat_false] <;> split <;> omega
theorem vf32 {n : Nat} (h : n % 2147483648 ≤ 2139095040) : vf_n32 (.ofNat n) := by
  unfold vf_n32
  rw [UInt32.le_iff_toNat_le, UInt32.toNat_and, UInt32.toNat_ofNat']
  show n % 2 ^ 32 &&& 2 ^ 31 - 1 ≤ 2139095040
  rw [Nat.and_two_pow_sub_one_eq_mod]
  omega
theorem vf64 {n : Nat} (h : n % 9223372036854775808 ≤ 9218868437227405312) : vf_n64 (.ofNat n) := by
  unfold vf_n64
  rw [UInt64.le_iff_toNat_le, UInt64.toNat_and, UInt64.toNat_ofNat']
  show n % 2 ^ 64 &&& 2 ^ 63 - 1 ≤ 9218868437227405312
  rw [Nat.and_two_pow_sub_one_eq_mod]
  omega
theorem rr32 (s : Bool) (a b : Nat) (e : Int) : FP.Core.encode FP.Core.b32 (FP.Core.roundRatio FP.Core.b32 s a b e) % 2147483648 ≤ 2139095040 := by
  have e3 : FP.Core.b32.qmin = -149 := by decide +kernel
  have e4 : FP.Core.b32.qmax = 104 := by decide +kernel
  have e5 : FP.Core.b32.tails = 8388608 := by decide +kernel
  have e6 : 2 ^ FP.Core.b32.p = 16777216 := by decide +kernel
  have ei : ∀ s, FP.Core.encode FP.Core.b32 (.inf s) % 2147483648 ≤ 2139095040 := by decide +kernel
  unfold FP.Core.roundRatio
  split
  · exact enc32 s 0 _ (by omega) (by omega)
  · unfold FP.Core.roundAt FP.Core.settle FP.Core.bound
    split
    · split
      · exact enc32 s _ _ (by omega) (by omega)
      · exact ei s
    · split
      · exact enc32 s _ _ (by omega) (by omega)
      · exact ei s
theorem rr64 (s : Bool) (a b : Nat) (e : Int) : FP.Core.encode FP.Core.b64 (FP.Core.roundRatio FP.Core.b64 s a b e) % 9223372036854775808 ≤ 9218868437227405312 := by
  have e3 : FP.Core.b64.qmin = -1074 := by decide +kernel
  have e4 : FP.Core.b64.qmax = 971 := by decide +kernel
  have e5 : FP.Core.b64.tails = 4503599627370496 := by decide +kernel
  have e6 : 2 ^ FP.Core.b64.p = 9007199254740992 := by decide +kernel
  have ei : ∀ s, FP.Core.encode FP.Core.b64 (.inf s) % 9223372036854775808 ≤ 9218868437227405312 := by decide +kernel
  unfold FP.Core.roundRatio
  split
  · exact enc64 s 0 _ (by omega) (by omega)
  · unfold FP.Core.roundAt FP.Core.settle FP.Core.bound
    split
    · split
      · exact enc64 s _ _ (by omega) (by omega)
      · exact ei s
    · split
      · exact enc64 s _ _ (by omega) (by omega)
      · exact ei s
def finN : FP.Core.Datum → Bool
  | .fin _ _ _ => true
  | _ => false
def finP : FP.Core.Datum → Bool
  | .fin _ c _ => c != 0
  | _ => false
theorem fdiv_ok {x y : UInt32} (hx : finN (FP.Core.decode FP.Core.b32 x.toNat) = true) (hy : finP (FP.Core.decode FP.Core.b32 y.toNat) = true) : vf_n32 (FP.fdiv x y) := by
  refine vf32 (?_ : FP.Core.div FP.Core.b32 x.toNat y.toNat % 2147483648 ≤ 2139095040)
  unfold FP.Core.div
  cases e : FP.Core.decode FP.Core.b32 x.toNat with
  | nan => rw [e] at hx; cases hx
  | inf s => rw [e] at hx; cases hx
  | fin s c q =>
    cases e2 : FP.Core.decode FP.Core.b32 y.toNat with
    | nan => rw [e2] at hy; cases hy
    | inf s => rw [e2] at hy; cases hy
    | fin t d r =>
      rw [e2] at hy
      unfold FP.Core.quotient
      simp only []
      rw [if_neg (fun h => by subst h; cases hy)]
      exact rr32 _ _ _ _
theorem ddiv_ok {x y : UInt64} (hx : finN (FP.Core.decode FP.Core.b64 x.toNat) = true) (hy : finP (FP.Core.decode FP.Core.b64 y.toNat) = true) : vf_n64 (FP.ddiv x y) := by
  refine vf64 (?_ : FP.Core.div FP.Core.b64 x.toNat y.toNat % 9223372036854775808 ≤ 9218868437227405312)
  unfold FP.Core.div
  cases e : FP.Core.decode FP.Core.b64 x.toNat with
  | nan => rw [e] at hx; cases hx
  | inf s => rw [e] at hx; cases hx
  | fin s c q =>
    cases e2 : FP.Core.decode FP.Core.b64 y.toNat with
    | nan => rw [e2] at hy; cases hy
    | inf s => rw [e2] at hy; cases hy
    | fin t d r =>
      rw [e2] at hy
      unfold FP.Core.quotient
      simp only []
      rw [if_neg (fun h => by subst h; cases hy)]
      exact rr64 _ _ _ _
theorem fin_i2f : ∀ n : Nat, n < 520 → finN (FP.Core.decode FP.Core.b32 (FP.i2f (iz (n : Int))).toNat) = true ∧ (n ≠ 0 → finP (FP.Core.decode FP.Core.b32 (FP.i2f (iz (n : Int))).toNat) = true) := by decide +kernel
theorem fin_i2d : ∀ n : Nat, n < 3000 → finN (FP.Core.decode FP.Core.b64 (FP.i2d (iz (n : Int))).toNat) = true := by decide +kernel
theorem fin_i2d2 : ∀ n : Nat, n < 31 → n ≠ 0 → finP (FP.Core.decode FP.Core.b64 (FP.i2d (iz (n : Int))).toNat) = true := by decide +kernel
end FPN
