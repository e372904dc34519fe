/-! The law's helper for the share. -/
section HLG
theorem dec_nn {n : Nat} (h : n % 2147483648 ≤ 2139095040) : FP.Core.decode FP.Core.b32 n ≠ .nan := by
  have e1 : FP.Core.b32.tails = 8388608 := by decide +kernel
  have e2 : FP.Core.b32.exps = 256 := by decide +kernel
  unfold FP.Core.decode FP.Core.fieldE FP.Core.fieldT
  rw [e1, e2]
  split
  · split
    · exact fun h => by cases h
    · omega
  · split <;> exact fun h => by cases h
theorem f2d_ok {x : UInt32} (h : vf_n32 x) : vf_n64 (FP.f2d x) := by
  have hn : x.toNat % 2147483648 ≤ 2139095040 := by
    unfold vf_n32 at h
    rw [UInt32.le_iff_toNat_le, UInt32.toNat_and] at h
    have e : x.toNat &&& 2147483647 = x.toNat % 2147483648 := Nat.and_two_pow_sub_one_eq_mod x.toNat 31
    rw [← e]; exact h
  have hd := dec_nn hn
  have h0 : ¬ FP.Core.fIsNaN x = true := fun h9 => hd (of_decide_eq_true h9)
  have ei : ∀ s, FP.Core.encode FP.Core.b64 (.inf s) % 9223372036854775808 ≤ 9218868437227405312 := by decide +kernel
  unfold FP.f2d
  rw [if_neg h0]
  refine vf64 (?_ : FP.Core.encode FP.Core.b64 (FP.Core.round FP.Core.b64 (FP.Core.decode FP.Core.b32 x.toNat)) % 9223372036854775808 ≤ 9218868437227405312)
  cases e : FP.Core.decode FP.Core.b32 x.toNat with
  | nan => exact absurd e hd
  | inf s => exact ei s
  | fin s c q => exact rr64 s c 1 q
variable {G : GC} {M M' : Mem} {C : CE} {σ : St} {T : Nat}
theorem h_lateShare (hM : XM G M C σ) (hO : Ok σ T) {a9 : Nat} (ha9 : mC M a9 = some (15, 1)) : Ht G iL_lateShare yL_lateShare 14 [.ref (eX C 0), .ref a9] M (rI fun r M' => ((σ.1 8 = 0 ∧ r = iz 1) ∨ (σ.1 8 ≠ 0 ∧ r = iz 0 ∧ mD M' a9 0 = FP.f2d (FP.fdiv (FP.i2f (iz (σ.1 7 : Int))) (FP.i2f (iz (σ.1 8 : Int)))))) ∧ HQ G C a9 M σ M') nX 1 6 := by
  have hX := hM.1
  have p9 := hO.1.2.2.2.2.2.2.2.2.1
  have p10 := hO.1.2.2.2.2.2.2.2.2.2.1
  have pT := hO.1.2.2.2.2.2.2.2.2.2.2.2.2.1
  refine ht_introH (by decide +kernel) rfl rfl rfl (Nat.le_of_ble_eq_true rfl) ?_
  have hx : ∀ E M1, (σ.1 8 = 0 ∧ E = ARE ∧ XQ G C M σ M1) → SXG G iL_lateShare (rmd 14 1 6) (QF G (rI fun r M' => ((σ.1 8 = 0 ∧ r = iz 1) ∨ (σ.1 8 ≠ 0 ∧ r = iz 0 ∧ mD M' a9 0 = FP.f2d (FP.fdiv (FP.i2f (iz (σ.1 7 : Int))) (FP.i2f (iz (σ.1 8 : Int)))))) ∧ HQ G C a9 M σ M') nX 1 6) 3 [(0, .ref (eX C 0)), (1, .ref a9)] M1 1 6 E := by
    rintro E M1 ⟨hc, rfl, hq⟩
    have hQ := hq_of hX ha9 (Or.inr rfl) hq
    refine r_catch (nm := ARE) [] (0, 8, 11, 133) [] rfl (fun z hz => nomatch hz) (by decide) rfl (by decide) nL_133 (by decide +kernel) (k := fun q => ?_)
    refine r_astore_n dL_lateShare_11 (k := ?_)
    refine r_iconst dL_lateShare_12 ?_
    exact r_iret dL_lateShare_13 ⟨_, rfl, Or.inl ⟨hc, rfl⟩, hQ⟩
  refine r_aload_n dL_lateShare_0 rfl ?_
  refine r_iconst dL_lateShare_1 ?_
  refine r_aload_n dL_lateShare_2 rfl ?_
  refine r_callV (mi := iL_lateShare) vL_129 dL_lateShare_3 (hX.x 0 8 0) (y_lateShare hM hO) (hm := by first | exact ⟨Nat.le_of_ble_eq_true rfl, Nat.le_of_ble_eq_true rfl⟩ | (constructor <;> simp only [rmd] <;> omega)) (k := kF (fun r M1 h1 => ?_)) (kx := hx)
  obtain ⟨h0, rfl, hq⟩ := h1
  have hQ := hq_of hX ha9 (Or.inr rfl) hq
  refine r_f2d dL_lateShare_6 (f2d_ok (fdiv_ok (fin_i2f _ (by omega)).1 ((fin_i2f _ (by omega)).2 h0))) ?_
  refine r_dast dL_lateShare_7 (hQ.2.2.1.trans ha9) (j := 0) rfl (k := ?_)
  refine r_goto (tgt := 14) dL_lateShare_8 (by decide) ?_
  refine r_iconst dL_lateShare_14 ?_
  exact r_iret dL_lateShare_15 ⟨_, rfl, Or.inr ⟨h0, rfl, by rw [mD_sD]; exact up_s _ _ _⟩, hQ.put ha9 (Or.inr rfl) rfl rfl (fun b hb => Sm.D hb)⟩
end HLG
