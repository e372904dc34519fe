/-! The script's numbers. -/
section SCR
theorem scr_in (x : Int32) : inR x.toInt := ⟨Int32.le_toInt x, Int32.toInt_lt x |> fun h => by have h : x.toInt < 2 ^ 31 := h; omega⟩
theorem and63 (x : Int32) : 0 ≤ (x &&& 63).toInt ∧ (x &&& 63).toInt ≤ 63 := by
  have e : (x &&& 63).toInt = (x.toBitVec &&& 63#32).toInt := rfl
  have h : (x.toBitVec &&& 63#32).toNat ≤ 63 := by
    rw [BitVec.toNat_and]; exact Nat.and_le_right
  rw [e, BitVec.toInt_eq_toNat_cond]
  split <;> omega
end SCR
