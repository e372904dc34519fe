/-! The law's helper for the mean. -/
section HLF
variable {G : GC} {M M' : Mem} {C : CE} {σ : St} {T : Nat}
theorem h_meanLetters (hM : XM G M C σ) (hO : Ok σ T) {a9 : Nat} (ha9 : mC M a9 = some (15, 1)) : Ht G iL_meanLetters yL_meanLetters 14 [.ref (eX C 0), .ref a9] M (rI fun r M' => ((cnt (post σ) (σ.1 2) = 0 ∧ r = iz 1) ∨ (cnt (post σ) (σ.1 2) ≠ 0 ∧ r = iz 0 ∧ mD M' a9 0 = FP.ddiv (FP.i2d (iz (sumL σ (σ.1 2) : Int))) (FP.i2d (iz (cnt (post σ) (σ.1 2) : Int))))) ∧ HQ G C a9 M σ M') nX 1 6 := by
  have hX := hM.1
  refine ht_introH (by decide +kernel) rfl rfl rfl (Nat.le_of_ble_eq_true rfl) ?_
  have hx : ∀ E M1, (cnt (post σ) (σ.1 2) = 0 ∧ E = ARE ∧ XQ G C M σ M1) → SXG G iL_meanLetters (rmd 14 1 6) (QF G (rI fun r M' => ((cnt (post σ) (σ.1 2) = 0 ∧ r = iz 1) ∨ (cnt (post σ) (σ.1 2) ≠ 0 ∧ r = iz 0 ∧ mD M' a9 0 = FP.ddiv (FP.i2d (iz (sumL σ (σ.1 2) : Int))) (FP.i2d (iz (cnt (post σ) (σ.1 2) : Int))))) ∧ HQ G C a9 M σ M') nX 1 6) 3 [(0, .ref (eX C 0)), (1, .ref a9)] M1 1 6 E := by
    rintro E M1 ⟨hc, rfl, hq⟩
    have hQ := hq_of hX ha9 (Or.inr rfl) hq
    refine r_catch (nm := ARE) [] (0, 7, 10, 133) [] rfl (fun z hz => nomatch hz) (by decide) rfl (by decide) nL_133 (by decide +kernel) (k := fun q => ?_)
    refine r_astore_n dL_meanLetters_10 (k := ?_)
    refine r_iconst dL_meanLetters_11 ?_
    exact r_iret dL_meanLetters_12 ⟨_, rfl, Or.inl ⟨hc, rfl⟩, hQ⟩
  refine r_aload_n dL_meanLetters_0 rfl ?_
  refine r_iconst dL_meanLetters_1 ?_
  refine r_aload_n dL_meanLetters_2 rfl ?_
  refine r_callV (mi := iL_meanLetters) vL_135 dL_meanLetters_3 (hX.x 0 8 0) (y_meanLetters hM hO) (hm := by first | exact ⟨Nat.le_of_ble_eq_true rfl, Nat.le_of_ble_eq_true rfl⟩ | (constructor <;> simp only [rmd] <;> omega)) (k := kD (fun r M1 h1 => ?_)) (kx := hx)
  obtain ⟨h0, rfl, hq⟩ := h1
  have hQ := hq_of hX ha9 (Or.inr rfl) hq
  refine r_dast dL_meanLetters_6 (hQ.2.2.1.trans ha9) (j := 0) rfl (k := ?_)
  refine r_goto (tgt := 13) dL_meanLetters_7 (by decide) ?_
  refine r_iconst dL_meanLetters_13 ?_
  exact r_iret dL_meanLetters_14 ⟨_, rfl, Or.inr ⟨h0, rfl, by rw [mD_sD]; exact up_s _ _ _⟩, hQ.put ha9 (Or.inr rfl) rfl rfl (fun b hb => Sm.D hb)⟩
end HLF
