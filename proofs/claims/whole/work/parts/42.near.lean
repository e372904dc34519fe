/-! Shortest ways as the class finds them: numbers alone. -/
section NEAR
variable {σ τ : St}
theorem ld_le (a b : Nat) : ld σ a b ≤ 1000000 := cp_le _
theorem dv_le (a b : Nat) : dv σ a b ≤ 1000000 := cp_le _
theorem ld_self (hS : StOk σ) (a : Nat) : ld σ a a = 0 := by unfold ld cp; rw [dst_self hS]; rfl
theorem ld_sym (a b : Nat) : ld σ a b = ld σ b a := by unfold ld; rw [dst_sym]
theorem cp_lt {n : Nat} (h : cp n < 1000000) : n < 100000 ∧ cp n = n := by
  unfold cp at *
  by_cases e : n < 100000
  · rw [if_pos e]; exact ⟨e, rfl⟩
  · rw [if_neg e] at h; omega
theorem cp_of {n : Nat} (h : n < 100000) : cp n = n := if_pos h
/-- a street between two places is no shorter than the table says -/
theorem dv_st {s : Nat} (hS : StOk σ) (hs : s < σ.1 1) : dv σ (σ.2 1 s) (σ.2 2 s) ≤ σ.2 3 s ∧ dv σ (σ.2 2 s) (σ.2 1 s) ≤ σ.2 3 s := by
  obtain ⟨-, -, -, -, h5⟩ := hS s hs
  have h1 := sh_st (σ := σ) (σ.2 1 s) (σ.2 2 s) s (σ.1 1) hs (Or.inl ⟨rfl, rfl⟩)
  have h2 := sh_st (σ := σ) (σ.2 2 s) (σ.2 1 s) s (σ.1 1) hs (Or.inr ⟨rfl, rfl⟩)
  have e1 : shh σ (σ.2 1 s) (σ.2 2 s) ≤ σ.2 3 s := h1
  have e2 : shh σ (σ.2 2 s) (σ.2 1 s) ≤ σ.2 3 s := h2
  unfold dv
  rw [cp_of (by omega), cp_of (by omega)]
  exact ⟨e1, e2⟩
/-- what the table says is a street's, or nothing -/
theorem dv_at (a b : Nat) : dv σ a b = 1000000 ∨ ∃ s, s < σ.1 1 ∧ ((σ.2 1 s = a ∧ σ.2 2 s = b) ∨ (σ.2 1 s = b ∧ σ.2 2 s = a)) ∧ dv σ a b = σ.2 3 s := by
  rcases sh_at (σ := σ) a b (σ.1 1) with h | ⟨s, h1, h2, h3⟩
  · left
    unfold dv
    rw [show shh σ a b = 100000 from h]
    decide +kernel
  · by_cases e : shh σ a b < 100000
    · right
      refine ⟨s, h1, h2, ?_⟩
      unfold dv
      rw [cp_of e]; exact h3
    · left; unfold dv cp; exact if_neg e
theorem dv_self (hS : StOk σ) (a : Nat) : dv σ a a = 1000000 := by
  rcases dv_at (σ := σ) a a with h | ⟨s, h1, h2, -⟩
  · exact h
  · have := (hS s h1).2.2.1
    omega
theorem feas_dv (hS : StOk σ) {P : Nat → Nat} (hP : Feas σ P) (hC : ∀ b, P b ≤ 1000000) (a b : Nat) : P b ≤ P a + dv σ a b := by
  rcases dv_at (σ := σ) a b with h | ⟨s, h1, h2, h3⟩
  · have := hC b; omega
  · obtain ⟨g1, g2⟩ := hP s h1
    rcases h2 with ⟨e1, e2⟩ | ⟨e1, e2⟩ <;> rw [e1, e2] at g1 g2 <;> omega
/-- numbers that no street beats are no greater than the distances -/
theorem feas_ld (hS : StOk σ) {P : Nat → Nat} {a : Nat} (h0 : P a = 0) (hP : Feas σ P) (hC : ∀ b, P b ≤ 1000000) (b : Nat) : P b ≤ ld σ a b := by
  have h := (dst_is hS a).2.2.2 (fun c => min (P c) 100000) (by show min (P a) 100000 = 0; omega) (fun s hs => by
    obtain ⟨g1, g2⟩ := hP s hs
    show min (P (σ.2 2 s)) 100000 ≤ min (P (σ.2 1 s)) 100000 + σ.2 3 s ∧ min (P (σ.2 1 s)) 100000 ≤ min (P (σ.2 2 s)) 100000 + σ.2 3 s
    omega) (fun c => by show min (P c) 100000 ≤ 100000; omega) b
  have h2 : min (P b) 100000 ≤ dst σ a b := h
  have h3 := hC b
  unfold ld cp
  split <;> omega
theorem ld_gp (hS : StOk σ) (hp : σ.1 0 ≤ 10) {a b : Nat} (ha : a < 10) (hb : b < 10) (h : ld σ a b < 1000000) : ld σ a b ≤ 891 ∧ ld σ a b = dst σ a b := by
  obtain ⟨h1, h2⟩ := cp_lt h
  have := dst_gap hS hp ha hb h1
  unfold ld
  rw [h2]; exact ⟨this, rfl⟩
theorem ld_feas (hS : StOk σ) (hp : σ.1 0 ≤ 10) {a : Nat} (ha : a < 10) : Feas σ (ld σ a) := fun s hs => by
  obtain ⟨g1, g2⟩ := (dst_is hS a).2.1 s hs
  obtain ⟨s1, s2, s3, s4, s5⟩ := hS s hs
  have l1 := dst_gap hS hp ha (show σ.2 1 s < 10 by omega)
  have l2 := dst_gap hS hp ha (show σ.2 2 s < 10 by omega)
  unfold ld cp
  by_cases e1 : dst σ a (σ.2 1 s) < 100000
  · have := l1 e1
    rw [if_pos e1, if_pos (by omega)]; exact ⟨g1, g2⟩
  · have e2 : ¬ dst σ a (σ.2 2 s) < 100000 := fun e => by have := l2 e; omega
    rw [if_neg e1, if_neg e2]; omega
/-- the class's distances are told by their being feasible and upper -/
theorem ld_uniq (hS : StOk σ) (hp : σ.1 0 ≤ 10) {a : Nat} (ha : a < 10) {R : Nat → Nat} (h0 : R a = 0) (hC : ∀ y, y < 10 → R y ≤ 1000000) (hF : ∀ s, s < σ.1 1 → R (σ.2 2 s) ≤ R (σ.2 1 s) + σ.2 3 s ∧ R (σ.2 1 s) ≤ R (σ.2 2 s) + σ.2 3 s) (hU : ∀ y, y < 10 → ld σ a y ≤ R y) (y : Nat) (hy : y < 10) : R y = ld σ a y := by
  have h := feas_ld (σ := σ) hS (P := fun b => if b < 10 then R b else 1000000) (a := a) (by show (if a < 10 then R a else 1000000) = 0; rw [if_pos ha]; exact h0) (fun s hs => by
    obtain ⟨s1, s2, -⟩ := hS s hs
    show (if σ.2 2 s < 10 then R (σ.2 2 s) else 1000000) ≤ (if σ.2 1 s < 10 then R (σ.2 1 s) else 1000000) + _ ∧ (if σ.2 1 s < 10 then R (σ.2 1 s) else 1000000) ≤ (if σ.2 2 s < 10 then R (σ.2 2 s) else 1000000) + _
    rw [if_pos (by omega), if_pos (by omega)]
    exact hF s hs) (fun b => by
    show (if b < 10 then R b else 1000000) ≤ 1000000
    split
    · next e => exact hC b e
    · exact Nat.le_refl _) y
  have h2 : (if y < 10 then R y else 1000000) ≤ ld σ a y := h
  rw [if_pos hy] at h2
  exact Nat.le_antisymm h2 (hU y hy)
/-- the nearest places that are taken -/
def DJ (σ : St) (a tk : Nat) (D : Nat → Nat) : Prop := D a = 0 ∧ (∀ y, y < 10 → D y ≤ 1000000) ∧ (∀ P : Nat → Nat, P a = 0 → Feas σ P → (∀ b, P b ≤ 1000000) → ∀ y, y < 10 → P y ≤ D y) ∧ (∀ t y, t < 10 → y < 10 → tk.testBit t = true → tk.testBit y = false → D t ≤ D y) ∧ ∀ t y, t < 10 → y < 10 → tk.testBit t = true → D y ≤ D t + dv σ t y
theorem dj_0 (hS : StOk σ) (hS' : StOk τ) {a : Nat} (hsub : ∀ P, Feas τ P → Feas σ P) : DJ τ a 0 (ld σ a) :=
  ⟨ld_self hS a, fun y _ => ld_le _ _, fun P h0 hF hC y _ => feas_ld hS h0 (hsub P hF) hC y, fun t y _ _ h _ => (by rw [Nat.zero_testBit] at h; cases h), fun t y _ _ h => (by rw [Nat.zero_testBit] at h; cases h)⟩
theorem tb_or (tk p y : Nat) : (tk ||| 2 ^ p).testBit y = (tk.testBit y || decide (p = y)) := by rw [Nat.testBit_or, Nat.testBit_two_pow]
theorem dj_s (hS : StOk σ) {a tk p : Nat} {D : Nat → Nat} (h : DJ σ a tk D) (hp : p < 10) (hb : tk.testBit p = false) (hmin : ∀ y, y < 10 → tk.testBit y = false → D p ≤ D y) : DJ σ a (tk ||| 2 ^ p) (fun y => min (D y) (D p + dv σ p y)) := by
  obtain ⟨h1, h2, h3, h4, h5⟩ := h
  have hpp := dv_self hS p
  refine ⟨by show min (D a) _ = 0; omega, fun y hy => by have := h2 y hy; show min (D y) _ ≤ _; omega, fun P h0 hF hC y hy => ?_, fun t y ht hy bt by' => ?_, fun t y ht hy bt => ?_⟩
  · have g1 := h3 P h0 hF hC y hy
    have g2 := h3 P h0 hF hC p hp
    have g3 := feas_dv hS hF hC p y
    show P y ≤ min (D y) (D p + dv σ p y)
    omega
  · rw [tb_or] at bt by'
    rw [Bool.or_eq_false_iff, decide_eq_false_iff_not] at by'
    have g1 := hmin y hy by'.1
    show min (D t) (D p + dv σ p t) ≤ min (D y) (D p + dv σ p y)
    rcases Bool.or_eq_true _ _ ▸ bt with e | e
    · have := h4 t p ht hp e hb
      have := h4 t y ht hy e by'.1
      omega
    · rw [decide_eq_true_eq] at e
      subst e; omega
  · rw [tb_or] at bt
    show min (D y) (D p + dv σ p y) ≤ min (D t) (D p + dv σ p t) + dv σ t y
    rcases Bool.or_eq_true _ _ ▸ bt with e | e
    · have := h4 t p ht hp e hb
      have := h5 t y ht hy e
      omega
    · rw [decide_eq_true_eq] at e
      subst e; omega
theorem dj_e (hS : StOk σ) (hp : σ.1 0 ≤ 10) {a tk : Nat} (ha : a < 10) {D : Nat → Nat} (h : DJ σ a tk D) (hend : ∀ t, t < 10 → tk.testBit t = true ∨ 1000000 ≤ D t) (y : Nat) (hy : y < 10) : D y = ld σ a y := by
  obtain ⟨h1, h2, h3, h4, h5⟩ := h
  refine ld_uniq hS hp ha h1 h2 (fun s hs => ?_) (fun y hy => h3 _ (ld_self hS a) (ld_feas hS hp ha) (fun b => ld_le _ _) y hy) y hy
  obtain ⟨s1, s2, s3, s4, s5⟩ := hS s hs
  obtain ⟨d1, d2⟩ := dv_st hS hs
  have a1 := h2 (σ.2 1 s) (by omega)
  have a2 := h2 (σ.2 2 s) (by omega)
  constructor
  · rcases hend (σ.2 1 s) (by omega) with e | e
    · have := h5 _ (σ.2 2 s) (by omega) (by omega) e; omega
    · omega
  · rcases hend (σ.2 2 s) (by omega) with e | e
    · have := h5 _ (σ.2 1 s) (by omega) (by omega) e; omega
    · omega
/-- Bellman and Ford: upper numbers -/
def BF (σ : St) (a : Nat) (R : Nat → Nat) : Prop := R a = 0 ∧ ∀ y, y < 10 → ld σ a y ≤ R y ∧ R y ≤ 1000000
/-- one pass may lower -/
def rx (σ : St) (p : Nat) (R : Nat → Nat) : Nat → Nat := fun y => if y = tt σ p ∧ R (fr σ p) + ln σ p < R (tt σ p) then R (fr σ p) + ln σ p else R y
theorem pass_feas {P : Nat → Nat} (hP : Feas σ P) {p : Nat} (hp : p / 2 < σ.1 1) : P (tt σ p) ≤ P (fr σ p) + ln σ p := by
  obtain ⟨g1, g2⟩ := hP _ hp
  unfold tt fr ln
  split
  · exact g1
  · exact g2
theorem rx_le (p : Nat) (R : Nat → Nat) (y : Nat) : rx σ p R y ≤ R y := by
  unfold rx
  split
  · next e => rw [e.1]; omega
  · exact Nat.le_refl _
theorem rx_tt (p : Nat) (R : Nat → Nat) : rx σ p R (tt σ p) ≤ R (fr σ p) + ln σ p := by
  unfold rx
  by_cases e : R (fr σ p) + ln σ p < R (tt σ p)
  · rw [if_pos ⟨rfl, e⟩]; exact Nat.le_refl _
  · rw [if_neg (fun h => e h.2)]; omega
theorem bf_rx (hS : StOk σ) (hp : σ.1 0 ≤ 10) {a p : Nat} (ha : a < 10) {R : Nat → Nat} (h : BF σ a R) (hpp : p / 2 < σ.1 1) : BF σ a (rx σ p R) := by
  have f := pass_feas (ld_feas hS hp ha) hpp
  obtain ⟨q1, q2, q3, q4⟩ := fr_lt hS hpp
  have g1 := h.2 (fr σ p) (by omega)
  have g2 := h.2 (tt σ p) (by omega)
  refine ⟨?_, fun y hy => ?_⟩
  · have := rx_le (σ := σ) p R a; have := h.1; omega
  · have g3 := h.2 y hy
    refine ⟨?_, Nat.le_trans (rx_le p R y) g3.2⟩
    show ld σ a y ≤ (if y = tt σ p ∧ R (fr σ p) + ln σ p < R (tt σ p) then R (fr σ p) + ln σ p else R y)
    split
    · next e => rw [e.1]; omega
    · exact g3.1
theorem fr_2 (i : Nat) : fr σ (2 * i) = σ.2 1 i ∧ tt σ (2 * i) = σ.2 2 i ∧ ln σ (2 * i) = σ.2 3 i ∧ fr σ (2 * i + 1) = σ.2 2 i ∧ tt σ (2 * i + 1) = σ.2 1 i ∧ ln σ (2 * i + 1) = σ.2 3 i := by
  unfold fr tt ln
  rw [if_pos (by omega), if_pos (by omega), if_neg (by omega), if_neg (by omega), show 2 * i / 2 = i by omega, show (2 * i + 1) / 2 = i by omega]
  exact ⟨rfl, rfl, rfl, rfl, rfl, rfl⟩
/-- a round over the first i streets, from the numbers R0; ch: something has changed -/
def RD (σ : St) (a : Nat) (R0 : Nat → Nat) (i : Nat) (ch : Bool) (R : Nat → Nat) : Prop := BF σ a R ∧ (∀ y, y < 10 → R y ≤ R0 y) ∧ (∀ p, p / 2 < i → R0 (fr σ p) = ld σ a (fr σ p) → ld σ a (fr σ p) + ln σ p = ld σ a (tt σ p) → R (tt σ p) = ld σ a (tt σ p)) ∧ (ch = false → (∀ y, y < 10 → R y = R0 y) ∧ ∀ p, p / 2 < i → R0 (tt σ p) ≤ R0 (fr σ p) + ln σ p)
theorem rd_0 {a : Nat} {R0 : Nat → Nat} (h : BF σ a R0) : RD σ a R0 0 false R0 := ⟨h, fun _ _ => Nat.le_refl _, fun p hp => absurd hp (Nat.not_lt_zero _), fun _ => ⟨fun _ _ => rfl, fun p hp => absurd hp (Nat.not_lt_zero _)⟩⟩
theorem rd_1 (hS : StOk σ) (hp : σ.1 0 ≤ 10) {a i : Nat} (ha : a < 10) {R0 R : Nat → Nat} {ch : Bool} (h : RD σ a R0 i ch R) (hi : i < σ.1 1) (hb : R (fr σ (2 * i)) + ln σ (2 * i) < R (tt σ (2 * i))) : RD σ a R0 (i + 1) true (rx σ (2 * i) R) := by
  obtain ⟨h1, h2, h3, h4⟩ := h
  have hpi : 2 * i / 2 < σ.1 1 := by omega
  have b1 := bf_rx hS hp ha h1 hpi
  obtain ⟨q1, q2, q3, q4⟩ := fr_lt hS hpi
  obtain ⟨e1, e2, e3, e4, e5, e6⟩ := fr_2 (σ := σ) i
  refine ⟨b1, fun y hy => Nat.le_trans (rx_le _ _ _) (h2 y hy), fun p hpp hr ht => ?_, fun h => by cases h⟩
  have key : tt σ p < 10 → R (tt σ p) = ld σ a (tt σ p) → rx σ (2 * i) R (tt σ p) = ld σ a (tt σ p) := fun hy e => by
    have := rx_le (σ := σ) (2 * i) R (tt σ p)
    have := (b1.2 (tt σ p) hy).1
    omega
  by_cases c : p / 2 < i
  · have hpl := fr_lt hS (show p / 2 < σ.1 1 by omega)
    exact key (by omega) (h3 p c hr ht)
  · by_cases c2 : p = 2 * i
    · subst c2
      have g1 := (h1.2 (fr σ (2 * i)) (by omega)).1
      have g2 := h2 (fr σ (2 * i)) (by omega)
      have g3 := rx_tt (σ := σ) (2 * i) R
      have g4 := (b1.2 (tt σ (2 * i)) (by omega)).1
      omega
    · have c3 : p = 2 * i + 1 := by omega
      subst c3
      exfalso
      rw [e4] at hr
      rw [e2] at hb
      have g1 := (h1.2 (σ.2 2 i) (by omega)).1
      have g2 := h2 (σ.2 2 i) (by omega)
      have g3 := rx_tt (σ := σ) (2 * i) R
      rw [e2] at g3
      have g4 := (b1.2 (σ.2 2 i) (by omega)).1
      omega
theorem rd_2 (hS : StOk σ) (hp : σ.1 0 ≤ 10) {a i : Nat} (ha : a < 10) {R0 R : Nat → Nat} {ch : Bool} (h : RD σ a R0 i ch R) (hi : i < σ.1 1) (hb : ¬ R (fr σ (2 * i)) + ln σ (2 * i) < R (tt σ (2 * i))) (ch' : Bool) (hch : ch' = true ∨ (ch' = ch ∧ ¬ R (fr σ (2 * i + 1)) + ln σ (2 * i + 1) < R (tt σ (2 * i + 1)))) : RD σ a R0 (i + 1) ch' (rx σ (2 * i + 1) R) := by
  obtain ⟨h1, h2, h3, h4⟩ := h
  have hpi : 2 * i / 2 < σ.1 1 := by omega
  have hpi' : (2 * i + 1) / 2 < σ.1 1 := by omega
  have b1 := bf_rx hS hp ha h1 hpi'
  obtain ⟨q1, q2, q3, q4⟩ := fr_lt hS hpi
  obtain ⟨e1, e2, e3, e4, e5, e6⟩ := fr_2 (σ := σ) i
  have key : ∀ y, y < 10 → R y = ld σ a y → rx σ (2 * i + 1) R y = ld σ a y := fun y hy e => by
    have := rx_le (σ := σ) (2 * i + 1) R y
    have := (b1.2 y hy).1
    omega
  refine ⟨b1, fun y hy => Nat.le_trans (rx_le _ _ _) (h2 y hy), fun p hpp hr ht => ?_, fun hc => ?_⟩
  · by_cases c : p / 2 < i
    · have hpl := fr_lt hS (show p / 2 < σ.1 1 by omega)
      exact key _ (by omega) (h3 p c hr ht)
    · by_cases c2 : p = 2 * i
      · subst c2
        refine key _ (by omega) ?_
        have g1 := (h1.2 (fr σ (2 * i)) (by omega)).1
        have g2 := h2 (fr σ (2 * i)) (by omega)
        have g4 := (h1.2 (tt σ (2 * i)) (by omega)).1
        omega
      · have c3 : p = 2 * i + 1 := by omega
        subst c3
        have g1 := (h1.2 (fr σ (2 * i + 1)) (by omega)).1
        have g2 := h2 (fr σ (2 * i + 1)) (by omega)
        have g3 := rx_tt (σ := σ) (2 * i + 1) R
        have g4 := (b1.2 (tt σ (2 * i + 1)) (by omega)).1
        omega
  · rcases hch with hch | ⟨hch, hb2⟩
    · rw [hch] at hc; cases hc
    · rw [hch] at hc
      obtain ⟨k1, k2⟩ := h4 hc
      refine ⟨fun y hy => ?_, fun p hpp => ?_⟩
      · unfold rx
        rw [if_neg (fun h => hb2 h.2)]
        exact k1 y hy
      · by_cases c : p / 2 < i
        · exact k2 p c
        · by_cases c2 : p = 2 * i
          · subst c2
            rw [← k1 _ (by omega), ← k1 _ (by omega)]; omega
          · have c3 : p = 2 * i + 1 := by omega
            subst c3
            rw [← k1 _ (by omega), ← k1 _ (by omega)]; omega
/-- a place that a way reaches has one just before it -/
theorem tight (hS : StOk σ) (hp : σ.1 0 ≤ 10) {a y : Nat} (ha : a < 10) (hya : y ≠ a) (hl : ld σ a y < 1000000) : ∃ p, p / 2 < σ.1 1 ∧ tt σ p = y ∧ ld σ a (fr σ p) + ln σ p = ld σ a y := by
  apply Classical.byContradiction
  intro hno
  have hno2 : ∀ p, p / 2 < σ.1 1 → tt σ p = y → ld σ a (fr σ p) + ln σ p ≠ ld σ a y := fun p h1 h2 h3 => hno ⟨p, h1, h2, h3⟩
  have hf := ld_feas hS hp ha
  have h := feas_ld (σ := σ) hS (P := fun b => if b = y then ld σ a y + 1 else ld σ a b) (a := a) (by show (if a = y then _ else _) = 0; rw [if_neg (fun e => hya e.symm)]; exact ld_self hS a) (fun s hs => ?_) (fun b => by
    have := ld_le (σ := σ) a b
    show (if b = y then ld σ a y + 1 else ld σ a b) ≤ 1000000
    split <;> omega) y
  · have h2 : (if y = y then ld σ a y + 1 else ld σ a y) ≤ ld σ a y := h
    rw [if_pos rfl] at h2
    omega
  · obtain ⟨s1, s2, s3, s4, s5⟩ := hS s hs
    obtain ⟨g1, g2⟩ := hf s hs
    obtain ⟨e1, e2, e3, e4, e5, e6⟩ := fr_2 (σ := σ) s
    have n1 := hno2 (2 * s) (by omega)
    have n2 := hno2 (2 * s + 1) (by omega)
    rw [e1, e2, e3] at n1
    rw [e4, e5, e6] at n2
    show (if σ.2 2 s = y then ld σ a y + 1 else ld σ a (σ.2 2 s)) ≤ (if σ.2 1 s = y then ld σ a y + 1 else ld σ a (σ.2 1 s)) + σ.2 3 s ∧ (if σ.2 1 s = y then ld σ a y + 1 else ld σ a (σ.2 1 s)) ≤ (if σ.2 2 s = y then ld σ a y + 1 else ld σ a (σ.2 2 s)) + σ.2 3 s
    by_cases c1 : σ.2 2 s = y
    · have c2 : ¬ σ.2 1 s = y := by omega
      rw [if_pos c1, if_neg c2]
      have := n1 c1
      rw [c1] at g1 g2
      omega
    · by_cases c2 : σ.2 1 s = y
      · rw [if_neg c1, if_pos c2]
        have := n2 c2
        rw [c2] at g1 g2
        omega
      · rw [if_neg c1, if_neg c2]; exact ⟨g1, g2⟩
theorem min_wrong {f : Nat → Nat} {W : Nat → Prop} : ∀ n, (∃ y, y < 10 ∧ W y ∧ f y ≤ n) → ∃ y, y < 10 ∧ W y ∧ ∀ z, z < 10 → f z < f y → ¬ W z
  | 0, ⟨y, h1, h2, h3⟩ => ⟨y, h1, h2, fun z _ hz => absurd hz (by omega)⟩
  | n + 1, ⟨y, h1, h2, h3⟩ => by
    by_cases e : ∃ z, z < 10 ∧ W z ∧ f z ≤ n
    · exact min_wrong n e
    · exact ⟨y, h1, h2, fun z hz hzy hw => e ⟨z, hz, hw, by omega⟩⟩
def rc (σ : St) (a : Nat) (R : Nat → Nat) : Nat := cnt (fun y => decide (R y = ld σ a y)) 10
theorem cnt_true {P : Nat → Bool} : ∀ n, (∀ i, i < n → P i = true) → cnt P n = n
  | 0, _ => rfl
  | n + 1, h => by
    simp only [cnt, h n (by omega), if_true]
    rw [cnt_true n (fun i hi => h i (by omega))]
theorem rd_e (hS : StOk σ) (hp : σ.1 0 ≤ 10) {a : Nat} (ha : a < 10) {R0 R : Nat → Nat} {ch : Bool} (h0 : BF σ a R0) (h : RD σ a R0 (σ.1 1) ch R) : (ch = false → ∀ y, y < 10 → R y = ld σ a y) ∧ (rc σ a R0 + 1 ≤ rc σ a R ∨ 10 ≤ rc σ a R) := by
  obtain ⟨h1, h2, h3, h4⟩ := h
  constructor
  · intro hc
    obtain ⟨k1, k2⟩ := h4 hc
    refine ld_uniq hS hp ha h1.1 (fun y hy => (h1.2 y hy).2) (fun s hs => ?_) (fun y hy => (h1.2 y hy).1)
    obtain ⟨s1, s2, -⟩ := hS s hs
    obtain ⟨e1, e2, e3, e4, e5, e6⟩ := fr_2 (σ := σ) s
    have g1 := k2 (2 * s) (by omega)
    have g2 := k2 (2 * s + 1) (by omega)
    rw [e1, e2, e3] at g1
    rw [e4, e5, e6] at g2
    rw [k1 _ (by omega), k1 _ (by omega)]
    exact ⟨g1, g2⟩
  · by_cases c : ∃ y, y < 10 ∧ R0 y ≠ ld σ a y
    · left
      obtain ⟨y0, c1, c2⟩ := c
      obtain ⟨y, d1, d2, d3⟩ := min_wrong (f := ld σ a) (W := fun y => R0 y ≠ ld σ a y) 1000000 ⟨y0, c1, c2, ld_le _ _⟩
      have b0 := h0.2 y d1
      obtain ⟨p, p1, p2, p3⟩ := tight hS hp ha (y := y) (fun e => d2 (by rw [e, h0.1, ld_self hS])) (by omega)
      obtain ⟨q1, q2, q3, q4⟩ := fr_lt hS p1
      have hr : R0 (fr σ p) = ld σ a (fr σ p) := Classical.byContradiction fun e => d3 (fr σ p) (by omega) (by omega) e
      have hy := h3 p p1 hr (by rw [p2]; exact p3)
      rw [p2] at hy
      refine cnt_lt (fun j hj hpj => ?_) d1 (decide_eq_false d2) (decide_eq_true hy)
      rw [decide_eq_true_eq] at hpj ⊢
      have := h2 j hj
      have := (h1.2 j hj).1
      omega
    · right
      refine Nat.le_of_eq (cnt_true 10 (fun i hi => ?_)).symm
      rw [decide_eq_true_eq]
      have e : R0 i = ld σ a i := Classical.byContradiction fun e => c ⟨i, hi, e⟩
      have := h2 i hi
      have := (h1.2 i hi).1
      omega
theorem rc_1 (hS : StOk σ) {a : Nat} (ha : a < 10) {R : Nat → Nat} (h : BF σ a R) : 1 ≤ rc σ a R := by
  have := cnt_lt (P := fun _ => false) (Q := fun y => decide (R y = ld σ a y)) (n := 10) (i := a) (fun j _ hh => nomatch hh) ha rfl (by rw [decide_eq_true_eq, h.1, ld_self hS])
  unfold rc
  omega
theorem rc_all {a : Nat} {R : Nat → Nat} (h : 10 ≤ rc σ a R) (y : Nat) (hy : y < 10) : R y = ld σ a y := by
  have := cnt_full h y hy
  rw [decide_eq_true_eq] at this
  exact this
/-- the class's next place and the reference's -/
theorem nx_eq (hS : StOk σ) (hp : σ.1 0 ≤ 10) {a b q : Nat} (ha : a < 10) (hb : b < 10) (hq : q < 10) (hab : a ≠ b) (hd : dst σ a b < 100000) : dv σ a q + ld σ q b = ld σ a b ↔ nxB σ a b q = true := by
  have e1 : ld σ a b = dst σ a b := cp_of hd
  have g := dst_gap hS hp ha hb hd
  unfold nxB
  rw [Bool.and_eq_true, decide_eq_true_eq, decide_eq_true_eq]
  constructor
  · intro h
    have h1 : dv σ a q < 1000000 := by omega
    have h2 : ld σ q b < 1000000 := by omega
    obtain ⟨k1, k2⟩ := cp_lt h1
    obtain ⟨k3, k4⟩ := cp_lt h2
    refine ⟨fun e => ?_, ?_⟩
    · rw [e, dv_self hS] at h1; omega
    · have e2 : dv σ a q = shh σ a q := k2
      have e3 : ld σ q b = dst σ q b := k4
      omega
  · rintro ⟨-, h⟩
    have e2 : dv σ a q = shh σ a q := cp_of (by omega)
    have e3 : ld σ q b = dst σ q b := cp_of (by omega)
    omega
end NEAR
