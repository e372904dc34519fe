/-! The class: how it begins, whole. -/
section IN3
variable {G : GC} {M M1 M2 : Mem}
def cr : Nat → Nat
  | 1 => 0 | 2 => 1 | 3 => 2 | 4 => 3 | 5 => 4 | 6 => 11 | 7 => 17 | 8 => 18 | 9 => 5 | 10 => 6 | 11 => 7 | 12 => 8 | 13 => 9 | 14 => 10 | 15 => 12 | 16 => 13 | 17 => 14 | 18 => 15 | _ => 16
theorem cr_inj : ∀ i : Nat, i < 20 → ∀ j : Nat, j < 20 → i ≠ 0 → j ≠ 0 → cr i = cr j → i = j := by decide +kernel
def cX (w n k : Nat) : Nat := if k = 0 then w else n + cr k
/-- the ghosts of a new class -/
def C0 (G : GC) (w n : Nat) : CE := (cX w n, fun _ _ => 0, fun _ => G.2.2.2, fun _ => 0)
def LPs (G : GC) (w n i : Nat) (M' : Mem) : Prop := ∀ j, j < i → LL G M' (n + j) G.2.2.2 0 0 ∧ mR M' (512 + j) w = some (n + j)
theorem LPs.keep {w n i k : Nat} (h : LPs G w n i M1) (b : Bn M1 M2 w k) (hn : n + i ≤ mN M1) (hwn : w < n) (hE : G.2.2.2 < mN M1) (hEw : G.2.2.2 ≠ w) (ro : ∀ f, f < 512 + i → mR M2 f w = mR M1 f w) : LPs G w n i M2 := fun j hj =>
  ⟨(h j hj).1.sm (b.2.1 _ (by omega) (by omega)) (b.2.1 _ hE hEw), (ro _ (by omega)).trans (h j hj).2⟩
theorem LPs.add {w n i : Nat} (h : LPs G w n i M1) (h1 : LL G M1 (n + i) G.2.2.2 0 0) (h2 : mR M1 (512 + i) w = some (n + i)) : LPs G w n (i + 1) M1 := fun j hj => by
  by_cases e : j = i
  · subst e; exact ⟨h1, h2⟩
  · exact h j (by omega)
def WQ (n : Nat) (M' : Mem) : Prop := mC M' (n + 4) = some (7, 0) ∧ (mR M' 448 (n + 4) = some (n + 5) ∧ mR M' 449 (n + 4) = some (n + 7) ∧ mR M' 450 (n + 4) = some (n + 9)) ∧ GR M' (n + 5) (n + 6) 10 10 ∧ GR M' (n + 7) (n + 8) 10 10 ∧ GR M' (n + 9) (n + 10) 1 10 ∧ (∀ k, k < 100 → mA M' (n + 6) k = iz 1000000) ∧ ∀ i j, i < 10 → j < 10 → mA M' (n + 8) (10 * i + j) = iz ((if i = j then 0 else 1000000 : Nat) : Int)
theorem WQ.sm {n : Nat} (h : WQ n M1) (s : ∀ b, n + 4 ≤ b → b ≤ n + 10 → Sm M1 M2 b) : WQ n M2 := by
  obtain ⟨h1, ⟨h2, h3, h4⟩, g1, g2, g3, v1, v2⟩ := h
  have s4 := s (n + 4) (by omega) (by omega)
  have s6 := s (n + 6) (by omega) (by omega)
  have s8 := s (n + 8) (by omega) (by omega)
  exact ⟨s4.c h1, ⟨s4.r h2, s4.r h3, s4.r h4⟩, g1.sm (s _ (by omega) (by omega)) s6, g2.sm (s _ (by omega) (by omega)) s8, g3.sm (s _ (by omega) (by omega)) (s _ (by omega) (by omega)), fun k hk => (congrFun s6.aa k).trans (v1 k hk), fun i j hi hj => (congrFun s8.aa _).trans (v2 i j hi hj)⟩
theorem KQ.sm {v n w : Nat} (h : KQ G v n w M1) (sw : Sm M1 M2 w) (sE : Sm M1 M2 G.2.2.2) (s : ∀ b, n ≤ b → b ≤ n + 4 → Sm M1 M2 b) : KQ G v n w M2 := by
  obtain ⟨⟨h0, h1, h2, h3, h4⟩, l1, g1, l2, c⟩ := h
  exact ⟨⟨sw.r h0, sw.r h1, sw.r h2, sw.r h3, sw.r h4⟩, l1.sm (s _ (by omega) (by omega)) sE, g1.sm (s _ (by omega) (by omega)) (s _ (by omega) (by omega)), l2.sm (s _ (by omega) (by omega)) sE, (s _ (by omega) (by omega)).c c⟩
theorem st0_z : ∀ j, 1 ≤ j → j ≤ 4 → st0.1 j = 0 := fun j h1 h2 => by
  show (if j = 0 then 1 else if j = 5 then 5 else if j = 10 then 30 else 0) = 0
  rw [if_neg (by omega), if_neg (by omega), if_neg (by omega)]
theorem st0_dv : ∀ a : Nat, a < 10 → ∀ b : Nat, b < 10 → dv st0 a b = 1000000 ∧ ld st0 a b = if a = b then 0 else 1000000 := by decide +kernel
theorem xm0 {w n : Nat} (hD : GD G) (hwn : w < n) (hc : mC M w = some (8, 0)) (i0 : mI M 519 w = iz 1) (i1 : mI M 520 w = iz 5) (i2 : mI M 521 w = 0) (i3 : mI M 522 w = 0) (i4 : mI M 523 w = 0) (i5 : mJ M 524 w = 0) (hL : LPs G w n 4 M) (r4 : mR M 516 w = some (n + 4)) (r5 : mR M 517 w = some (n + 11)) (r6 : mR M 518 w = some (n + 17)) (hW : WQ n M) (hK1 : mC M (n + 11) = some (6, 0)) (hK : KQ G (n + 4) (n + 12) (n + 11) M) (hG : GR M (n + 17) (n + 18) 4 4) : XM G M (C0 G w n) st0 := by
  obtain ⟨w1, ⟨w2, w3, w4⟩, g1, g2, g3, v1, v2⟩ := hW
  obtain ⟨⟨k0, k1, k2, k3, k4⟩, l1, g4, l2, c4⟩ := hK
  obtain ⟨a0, b0⟩ := hL 0 (by decide)
  obtain ⟨a1, b1⟩ := hL 1 (by decide)
  obtain ⟨a2, b2⟩ := hL 2 (by decide)
  obtain ⟨a3, b3⟩ := hL 3 (by decide)
  refine ⟨⟨⟨fun k hk => ?_, fun q hq => ?_, fun q hq => ?_, fun i j hi hj e => ?_⟩, ⟨i0, i1, i2.trans iz_0, i3.trans iz_0, i4.trans iz_0, i5⟩, fun j h1 h2 => ?_, fun s hs => absurd hs (Nat.not_lt_zero s), fun p hp => absurd hp (Nat.not_lt_zero _), fun s hs => absurd hs (Nat.not_lt_zero s), fun s hs => absurd hs (Nat.not_lt_zero s), fun s hs => absurd hs (Nat.not_lt_zero s), ⟨fun j h1 h2 a b ha => ?_, fun p q hp => absurd hp (Nat.not_lt_zero _), fun j k _ _ _ _ _ h => absurd h (Nat.lt_irrefl 0)⟩, ⟨fun a b ha hb => ?_, fun a b ha hb => ?_⟩, hD⟩, [], [], ⟨G.2.2.2, 0, G.2.2.2, 0, ⟨l1, Nat.zero_le _, fun h => absurd h (Nat.lt_irrefl 0), fun i hi => absurd hi (Nat.not_lt_zero i)⟩, ⟨l2, Nat.zero_le _, fun h => absurd h (Nat.lt_irrefl 0), fun i hi => absurd hi (Nat.not_lt_zero i)⟩, fun h => absurd h (Nat.lt_irrefl 0)⟩, Nat.zero_le _, Nat.zero_le _⟩
  · match k, hk with
    | 0, _ => exact hc
    | 1, _ => exact a0.1
    | 2, _ => exact a1.1
    | 3, _ => exact a2.1
    | 4, _ => exact a3.1
    | 5, _ => exact w1
    | 6, _ => exact hK1
    | 7, _ => exact hG.1
    | 8, _ => exact hG.2.2.2.2.1
    | 9, _ => exact g1.1
    | 10, _ => exact g1.2.2.2.2.1
    | 11, _ => exact g2.1
    | 12, _ => exact g2.2.2.2.2.1
    | 13, _ => exact g3.1
    | 14, _ => exact g3.2.2.2.2.1
    | 15, _ => exact l1.1
    | 16, _ => exact g4.1
    | 17, _ => exact g4.2.2.2.2.1
    | 18, _ => exact l2.1
    | 19, _ => exact c4
    | k + 20, h => exact absurd h (by omega)
  · unfold xF at hq
    repeat (rcases List.mem_cons.mp hq with rfl | hq; first | exact b0 | exact b1 | exact b2 | exact b3 | exact r4 | exact r5 | exact r6 | exact w2 | exact w3 | exact w4 | exact k0 | exact k1 | exact k2 | exact k3 | exact k4 | exact hG.2.2.2.1 | exact g1.2.2.2.1 | exact g2.2.2.2.1 | exact g3.2.2.2.1 | exact g4.2.2.2.1)
    exact nomatch hq
  · unfold xG at hq
    repeat (rcases List.mem_cons.mp hq with rfl | hq; first | exact ⟨hG.2.1, hG.2.2.1⟩ | exact ⟨g1.2.1, g1.2.2.1⟩ | exact ⟨g2.2.1, g2.2.2.1⟩ | exact ⟨g3.2.1, g3.2.2.1⟩ | exact ⟨g4.2.1, g4.2.2.1⟩)
    exact nomatch hq
  · have e : (if i = 0 then w else n + cr i) = if j = 0 then w else n + cr j := e
    by_cases h1 : i = 0
    · by_cases h2 : j = 0
      · rw [h1, h2]
      · rw [if_pos h1, if_neg h2] at e; omega
    · by_cases h2 : j = 0
      · rw [if_neg h1, if_pos h2] at e; omega
      · rw [if_neg h1, if_neg h2] at e
        exact cr_inj i hi j hj h1 h2 (by omega)
  · refine ⟨?_, Nat.zero_le _, fun i hi => absurd hi (by rw [st0_z j h1 h2]; exact Nat.not_lt_zero i)⟩
    rw [st0_z j h1 h2]
    match j, h1, h2 with
    | 1, _, _ => exact a0
    | 2, _, _ => exact a1
    | 3, _, _ => exact a2
    | 4, _, _ => exact a3
    | j + 5, _, h => exact absurd h (by omega)
    | 0, h, _ => exact absurd h (by decide)
  · rw [st0_z j h1 h2] at ha; exact absurd ha (Nat.not_lt_zero a)
  · rw [(st0_dv a ha b hb).1]; exact v1 _ (by omega)
  · rw [(st0_dv a ha b hb).2]; exact v2 a b ha hb
end IN3
