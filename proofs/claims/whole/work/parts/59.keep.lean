/-! Every call keeps the bounds. -/
section KEEP
variable {σ : St} {T : Nat}
theorem Ok.up (hO : Ok σ T) (hT : T < 512) : Ok σ (T + 1) := by
  obtain ⟨⟨g1, g2, g3, g4, g5, g6, g7, g8, g9, g10, g11, g12, g13, g14, g15⟩, h2, h3, h4, h5⟩ := hO
  exact ⟨⟨g1, g2, g3, g4, g5, g6, g7, by omega, by omega, by omega, g11, by omega, by omega, g14, g15⟩, h2, h3, h4, h5⟩
theorem ok_5 (hO : Ok σ T) {v : Nat} (hv : v ≤ 99) : Ok (stS σ 5 v) T := by
  obtain ⟨⟨g1, g2, g3, g4, g5, g6, g7, g8, g9, g10, g11, g12, g13, g14, g15⟩, h2, h3, h4, h5⟩ := hO
  exact ⟨⟨g1, g2, g3, g4, g5, g6, hv, g8, g9, g10, g11, g12, g13, g14, g15⟩, h2, h3, h4, h5⟩
theorem ok_4 (hO : Ok σ T) {F : Nat → Nat} (hF : ∀ s, s < σ.1 1 → F s ≤ σ.1 3) : Ok (stF σ 4 F) T := by
  obtain ⟨h1, h2, h3, h4, h5⟩ := hO
  refine ⟨h1, fun s hs => ?_, h3, h4, h5⟩
  obtain ⟨a1, a2, a3, a4, a5, a6, a7⟩ := h2 s hs
  exact ⟨a1, a2, a3, a4, a5, a6, hF s hs⟩
theorem va_le {F : Nat → Nat} {i v n m : Nat} (h : ∀ s, s < n → F s ≤ m) (hv : v ≤ m) : ∀ s, s < n → va_up F i v s ≤ m := fun s hs => by
  by_cases e : s = i
  · subst e; rw [up_s]; exact hv
  · rw [up_n _ _ e]; exact h s hs
theorem k_setBag (hO : Ok σ T) (w : Int) : Ok (opSetBag σ w).1 T := by
  unfold opSetBag
  split
  · exact hO
  · exact ok_5 hO (by omega)
theorem k_assign (hO : Ok σ T) (s r : Int) : Ok (opAssign σ s r).1 T := by
  unfold opAssign
  split
  · exact hO
  · exact ok_4 hO (va_le (fun s hs => (hO.2.1 s hs).2.2.2.2.2.2) (by omega))
theorem k_letters (hO : Ok σ T) (h c : Int) : Ok (opLetters σ h c).1 T := by
  unfold opLetters
  split
  · exact hO
  · split
    · exact hO
    · split
      · exact hO
      · refine ok_8 hO (va_le (fun s hs => (hO.2.2.1 s hs).2.2.2) (by omega)) (fun i hi => ?_)
        rw [up_n _ _ (by omega)]
        exact hO.1.2.2.2.2.2.2.2.2.2.2.2.2.2.2 i hi
theorem k_addPlace (hO : Ok σ T) : Ok (opAddPlace σ).1 T := by
  unfold opAddPlace
  split
  · exact hO
  · next h =>
    obtain ⟨⟨g1, g2, g3, g4, g5, g6, g7, g8, g9, g10, g11, g12, g13, g14, g15⟩, h2, h3, h4, h5⟩ := hO
    refine ⟨⟨by show 1 ≤ σ.1 0 + 1; omega, by show σ.1 0 + 1 ≤ 10; omega, g3, g4, g5, g6, g7, g8, g9, g10, g11, g12, g13, g14, g15⟩, fun s hs => ?_, h3, h4, h5⟩
    obtain ⟨a1, a2, a3, a4, a5, a6, a7⟩ := h2 s hs
    exact ⟨Nat.lt_succ_of_lt a1, Nat.lt_succ_of_lt a2, a3, a4, a5, a6, a7⟩
theorem k_addRound (hO : Ok σ T) (l : Int) : Ok (opAddRound σ l).1 T := by
  unfold opAddRound
  split
  · exact hO
  · split
    · exact hO
    · next h1 h =>
      obtain ⟨⟨g1, g2, g3, g4, g5, g6, g7, g8, g9, g10, g11, g12, g13, g14, g15⟩, h2, h3, h4, h5⟩ := hO
      refine ⟨⟨g1, g2, g3, g4, by show σ.1 3 + 1 ≤ 4; omega, g6, g7, g8, g9, g10, g11, g12, g13, g14, g15⟩, fun s hs => ?_, h3, fun r hr => ?_, h5⟩
      · obtain ⟨a1, a2, a3, a4, a5, a6, a7⟩ := h2 s hs
        exact ⟨a1, a2, a3, a4, a5, a6, Nat.le_succ_of_le a7⟩
      · show 1 ≤ va_up (σ.2 9) (σ.1 3) l.toNat r ∧ va_up (σ.2 9) (σ.1 3) l.toNat r ≤ 999
        have hr : r < σ.1 3 + 1 := hr
        by_cases e : r = σ.1 3
        · rw [e, up_s]; omega
        · rw [up_n _ _ e]; exact h4 r (by omega)
theorem k_addHouse (hO : Ok σ T) (s d o : Int) : Ok (opAddHouse σ s d o).1 T := by
  unfold opAddHouse
  split
  · exact hO
  · split
    · exact hO
    · split
      · exact hO
      · next c1 c2 c3 =>
        obtain ⟨⟨g1, g2, g3, g4, g5, g6, g7, g8, g9, g10, g11, g12, g13, g14, g15⟩, h2, h3, h4, h5⟩ := hO
        refine ⟨⟨g1, g2, g3, by show σ.1 2 + 1 ≤ 30; omega, g5, g6, g7, g8, g9, g10, g11, g12, g13, g14, fun i hi => g15 i (Nat.le_of_succ_le hi)⟩, h2, fun h hh => ?_, h4, fun q hq => ?_⟩
        · show va_up (σ.2 5) (σ.1 2) s.toNat h < σ.1 1 ∧ va_up (σ.2 6) (σ.1 2) d.toNat h ≤ 1 ∧ va_up (σ.2 7) (σ.1 2) o.toNat h ≤ σ.2 3 (va_up (σ.2 5) (σ.1 2) s.toNat h) ∧ σ.2 8 h ≤ 99
          have hh : h < σ.1 2 + 1 := hh
          by_cases e : h = σ.1 2
          · have := g15 h (by omega)
            rw [e, up_s, up_s, up_s, ← e]
            exact ⟨by omega, by omega, by omega, by omega⟩
          · rw [up_n _ _ e, up_n _ _ e, up_n _ _ e]
            exact h3 h (by omega)
        · obtain ⟨a1, a2, a3, a4, a5, a6⟩ := h5 q hq
          exact ⟨Nat.lt_succ_of_lt a1, a2, a3, a4, a5, a6⟩
theorem k_parcel (hO : Ok σ T) (h w d : Int) : Ok (opParcel σ h w d).1 T := by
  unfold opParcel
  split
  · exact hO
  · split
    · exact hO
    · split
      · exact hO
      · next c1 c2 c3 =>
        obtain ⟨⟨g1, g2, g3, g4, g5, g6, g7, g8, g9, g10, g11, g12, g13, g14, g15⟩, h2, h3, h4, h5⟩ := hO
        refine ⟨⟨g1, g2, g3, g4, g5, by show σ.1 4 + 1 ≤ 20; omega, g7, g8, g9, g10, g11, g12, g13, g14, g15⟩, h2, h3, h4, fun q hq => ?_⟩
        show va_up (σ.2 10) (σ.1 4) h.toNat q < σ.1 2 ∧ 1 ≤ va_up (σ.2 11) (σ.1 4) w.toNat q ∧ va_up (σ.2 11) (σ.1 4) w.toNat q ≤ 99 ∧ 1 ≤ va_up (σ.2 12) (σ.1 4) d.toNat q ∧ va_up (σ.2 12) (σ.1 4) d.toNat q ≤ 999 ∧ va_up (σ.2 14) (σ.1 4) 0 q ≤ 1
        have hq : q < σ.1 4 + 1 := hq
        by_cases e : q = σ.1 4
        · rw [e, up_s, up_s, up_s, up_s]
          exact ⟨by omega, by omega, by omega, by omega, by omega, by omega⟩
        · rw [up_n _ _ e, up_n _ _ e, up_n _ _ e, up_n _ _ e]
          exact h5 q (by omega)
theorem k_addStreet (hO : Ok σ T) (a b l : Int) (w : Bool) : Ok (opAddStreet σ a b l w).1 T := by
  unfold opAddStreet
  split
  · exact hO
  · split
    · exact hO
    · split
      · exact hO
      · next c1 c2 c3 =>
        obtain ⟨⟨g1, g2, g3, g4, g5, g6, g7, g8, g9, g10, g11, g12, g13, g14, g15⟩, h2, h3, h4, h5⟩ := hO
        refine ⟨⟨g1, g2, by show σ.1 1 + 1 ≤ 16; omega, g4, g5, g6, g7, g8, g9, g10, g11, g12, g13, g14, g15⟩, fun s hs => ?_, fun h hh => ?_, h4, h5⟩
        · show va_up (σ.2 1) (σ.1 1) a.toNat s < σ.1 0 ∧ va_up (σ.2 2) (σ.1 1) b.toNat s < σ.1 0 ∧ va_up (σ.2 1) (σ.1 1) a.toNat s ≠ va_up (σ.2 2) (σ.1 1) b.toNat s ∧ 1 ≤ va_up (σ.2 3) (σ.1 1) l.toNat s ∧ va_up (σ.2 3) (σ.1 1) l.toNat s ≤ 99 ∧ va_up (σ.2 13) (σ.1 1) (if w then 1 else 0) s ≤ 1 ∧ va_up (σ.2 4) (σ.1 1) 0 s ≤ σ.1 3
          have hs : s < σ.1 1 + 1 := hs
          by_cases e : s = σ.1 1
          · rw [e, up_s, up_s, up_s, up_s, up_s]
            exact ⟨by omega, by omega, by omega, by omega, by omega, by split <;> omega, by omega⟩
          · rw [up_n _ _ e, up_n _ _ e, up_n _ _ e, up_n _ _ e, up_n _ _ e]
            exact h2 s (by omega)
        · obtain ⟨a1, a2, a3, a4⟩ := h3 h hh
          refine ⟨Nat.lt_succ_of_lt a1, a2, ?_, a4⟩
          show σ.2 7 h ≤ va_up (σ.2 3) (σ.1 1) l.toNat (σ.2 5 h)
          rw [up_n _ _ (by omega)]; exact a3
theorem k_newDay (hO : Ok σ T) : Ok (opNewDay σ).1 T := by
  obtain ⟨⟨g1, g2, g3, g4, g5, g6, g7, g8, g9, g10, g11, g12, g13, g14, g15⟩, h2, h3, h4, h5⟩ := hO
  refine ⟨⟨g1, g2, g3, g4, g5, Nat.zero_le _, g7, Nat.zero_le _, g9, g10, g11, g12, g13, g14, fun i hi => rfl⟩, h2, fun h hh => ?_, h4, fun q hq => absurd hq (Nat.not_lt_zero q)⟩
  obtain ⟨a1, a2, a3, a4⟩ := h3 h hh
  exact ⟨a1, a2, a3, Nat.zero_le _⟩
theorem k_merge (hO : Ok σ T) (x y : Int) : Ok (opMerge σ x y).1 T := by
  unfold opMerge
  split
  · exact hO
  · next h =>
    obtain ⟨a, b, rfl, rfl, ha, hb, -⟩ := svC_0 (Classical.byContradiction h)
    split
    · exact hO
    · refine ok_4 hO (fun s hs => ?_)
      have := (hO.2.1 s hs).2.2.2.2.2.2
      unfold mgF
      rw [Int.toNat_natCast, Int.toNat_natCast]
      split <;> omega
theorem wL_le (hO : Ok σ T) {g : Nat} (h : hW σ g = true) : wL σ g ≤ 9000 := by
  obtain ⟨hn, hl⟩ := hW_iff.mp h
  have := gV_gap hO hn _ 0 0 (Nat.le_refl _) (Nat.zero_le _) hO.1.1 hl
  have : gV σ g 0 0 = wL σ g := rfl
  omega
theorem k_deliver (hO : Ok σ T) (hT : T < 512) (r : Int) : Ok (opDeliver σ r).1 (T + 1) := by
  unfold opDeliver
  split
  · exact hO.up hT
  · split
    · exact hO.up hT
    · next c1 c2 =>
      have hw : hW σ (2 ^ r.toNat) = true := by
        cases h : hW σ (2 ^ r.toNat) with
        | true => rfl
        | false => exact absurd (Or.inl h) c2
      have hl := wL_le hO hw
      have p15 := hO.1.2.2.2.2.2.2.2.2.2.2.2.2.2.2
      have hO2 : Ok (stF (stF σ 14 (dlF σ (2 ^ r.toNat) (σ.1 4))) 8 (leF σ (2 ^ r.toNat) (σ.1 2))) T := ok_8 (ok_14 hO (dlF_le hO _ (σ.1 4))) (fun h hh => by
        have := (hO.2.2.1 h hh).2.2.2
        unfold leF; split <;> omega) (fun h hh => by
        have := p15 h hh
        unfold leF; split <;> omega)
      have hq := hO.1.2.2.2.2.2.2.2.2.2.2.2.1
      obtain ⟨⟨g1, g2, g3, g4, g5, g6, g7, g8, g9, g10, g11, g12, g13, g14, g15⟩, h2, h3, h4, h5⟩ := hO2.up hT
      exact ⟨⟨g1, g2, g3, g4, g5, g6, g7, g8, g9, g10, g11, by show σ.1 9 + wL σ (2 ^ r.toNat) ≤ 10000 * (T + 1); omega, g13, g14, g15⟩, h2, h3, h4, h5⟩
theorem tp_le (hO : Ok σ T) {p : Nat} (hp : p < σ.1 4) (h : fT σ p < 100000) : tp σ p ≤ 700 := by
  have p2 := hO.1.2.1
  have h10 := (hO.2.2.2.2 p hp).1
  obtain ⟨h5, -, h7, -⟩ := hO.2.2.1 _ h10
  obtain ⟨h1, -, -, -, h3, -⟩ := hO.2.1 _ h5
  have : fT σ p ≤ 891 := dst_gap hO.st p2 (show 0 < 10 by decide) (show σ.2 1 (σ.2 5 (σ.2 10 p)) < 10 by omega) h
  unfold tp; omega
theorem k_dispatch (hO : Ok σ T) (hT : T < 512) : Ok (opDispatch σ).1 (T + 1) := by
  unfold opDispatch
  split
  · exact hO.up hT
  · split
    · exact hO.up hT
    · next c1 c2 =>
      have hr := nh_rg (σ := σ) (σ.1 4)
      have hp : (nh σ (σ.1 4)).toNat < σ.1 4 := by omega
      have htp := tp_le hO hp (by omega)
      have hO2 : Ok (stA σ 14 (nh σ (σ.1 4)).toNat 1) T := ok_14 hO (va_le (fun q hq => (hO.2.2.2.2 q hq).2.2.2.2.2) (Nat.le_refl _))
      have b8 := hO.1.2.2.2.2.2.2.2.1
      have b9 := hO.1.2.2.2.2.2.2.2.2.1
      have b10 := hO.1.2.2.2.2.2.2.2.2.2.1
      have b11 := hO.1.2.2.2.2.2.2.2.2.2.2.1
      obtain ⟨⟨g1, g2, g3, g4, g5, g6, g7, g8, g9, g10, g11, g12, g13, g14, g15⟩, h2, h3, h4, h5⟩ := hO2.up hT
      split
      · exact ⟨⟨g1, g2, g3, g4, g5, g6, g7, by show σ.1 6 + tp σ (nh σ (σ.1 4)).toNat ≤ 700 * (T + 1); omega, by show σ.1 7 + 1 ≤ T + 1; omega, by show σ.1 8 + 1 ≤ T + 1; omega, by show σ.1 7 + 1 ≤ σ.1 8 + 1; omega, g12, g13, g14, g15⟩, h2, h3, h4, h5⟩
      · exact ⟨⟨g1, g2, g3, g4, g5, g6, g7, by show σ.1 6 + tp σ (nh σ (σ.1 4)).toNat ≤ 700 * (T + 1); omega, by show σ.1 7 + 0 ≤ T + 1; omega, by show σ.1 8 + 1 ≤ T + 1; omega, by show σ.1 7 + 0 ≤ σ.1 8 + 1; omega, g12, g13, g14, g15⟩, h2, h3, h4, h5⟩
end KEEP
