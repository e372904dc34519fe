/-! The law's world. -/
section WLD
variable {G : GC} {M M1 M2 : Mem} {C : CE} {Y : Nat → Nat} {σ σ' : St} {T : Nat}
/-- the class and the reference say the same village; a holds numbers, b fractions -/
def TW (G : GC) (M : Mem) (C : CE) (Y : Nat → Nat) (σ : St) (T a b : Nat) : Prop := XM G M C σ ∧ RM M Y σ ∧ Ok σ T ∧ DJ2 C Y ∧ mC M a = some (14, 1) ∧ mC M b = some (15, 1)
/-- behind a helper: the reference as it was -/
theorem TW.hlp {a b w : Nat} (h : TW G M C Y σ T a b) (hw : w = a ∨ w = b) (hQ : HQ G C w M σ' M1) : RM M1 Y σ ∧ mC M1 a = some (14, 1) ∧ mC M1 b = some (15, 1) ∧ ∃ C', eX C' = eX C ∧ XM G M1 C' σ' ∧ DJ2 C' Y := by
  obtain ⟨hM, hR, hO, hd, ha, hb⟩ := h
  obtain ⟨-, q2, q3, C', q4, q5⟩ := hQ
  have hwt : ∃ t, mC M w = some (t, 1) ∧ (t = 14 ∨ t = 15) := by
    rcases hw with rfl | rfl
    · exact ⟨14, ha, Or.inl rfl⟩
    · exact ⟨15, hb, Or.inr rfl⟩
  obtain ⟨tw, hw1, hw2⟩ := hwt
  have key : ∀ j, j = 0 ∨ j ∈ arK → Sm M M1 (Y j) := fun j hj => by
    obtain ⟨t, z, h5, h6⟩ := hR.kind hj
    exact q2 _ (t, z) h5 (by show t = 9 ∨ t = 11 ∨ t = 12 ∨ t = 14 ∨ t = 15 ∨ t = 16 ∨ t = 17; omega) (fun k hk e => hd k hk j hj e.symm) (ne_ty h5 hw1 (by omega))
  have ka : ∀ c t, mC M c = some (t, 1) → t = 14 ∨ t = 15 → mC M1 c = some (t, 1) := fun c t hc ht => by
    by_cases e : c = w
    · rw [e, q3, ← e]; exact hc
    · exact (q2 c (t, 1) hc (by show t = 9 ∨ t = 11 ∨ t = 12 ∨ t = 14 ∨ t = 15 ∨ t = 16 ∨ t = 17; omega) (out_ne hM.1 hc (by omega)) e).c hc
  refine ⟨hR.sm (key 0 (Or.inl rfl)) (fun k hk => key k (Or.inr hk)), ka a 14 ha (Or.inl rfl), ka b 15 hb (Or.inr rfl), C', q4, q5, fun k hk j hj => ?_⟩
  rw [q4]; exact hd k hk j hj
/-- and behind the reference's call -/
theorem TW.step {a b c : Nat} {C' : CE} (hR : RM M1 Y σ) (ha : mC M1 a = some (14, 1)) (hb : mC M1 b = some (15, 1)) (hX : XM G M1 C' σ') (hd : DJ2 C' Y) (hP : MP Y M1 σ' c M2) (hO : Ok σ' T) : TW G M2 C' Y σ' T a b := by
  obtain ⟨p1, -, p3⟩ := hP
  have ka : ∀ d t, mC M1 d = some (t, 1) → t = 14 ∨ t = 15 → mC M2 d = some (t, 1) := fun d t hc ht => by
    have key : ∀ j, j = 0 ∨ j ∈ arK → d ≠ Y j := fun j hj => by
      obtain ⟨t', z, h5, h6⟩ := hR.kind hj
      exact ne_ty hc h5 (by omega)
    exact (p3.2 d (key 0 (Or.inl rfl)) (fun k hk => key k (Or.inr hk))).c hc
  exact ⟨hX.ref hR hd p3, p1, hO, hd, ka a 14 ha (Or.inl rfl), ka b 15 hb (Or.inr rfl)⟩
end WLD
