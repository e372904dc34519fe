/-! Shortest ways, as numbers. -/
section DIST
def bs (a b : Nat) : Nat := if a = b then 0 else 100000
/-- the way straight along one of the first s streets -/
def eg (σ : St) : Nat → Nat → Nat → Nat
  | 0, a, b => bs a b
  | s + 1, a, b => if (a = σ.2 1 s ∧ b = σ.2 2 s) ∨ (a = σ.2 2 s ∧ b = σ.2 1 s) then min (eg σ s (σ.2 1 s) (σ.2 2 s)) (σ.2 3 s) else eg σ s a b
def fw (σ : St) : Nat → Nat → Nat → Nat
  | 0, a, b => eg σ (σ.1 1) a b
  | c + 1, a, b => min (fw σ c a b) (fw σ c a c + fw σ c c b)
def dst (σ : St) (a b : Nat) : Nat := fw σ (σ.1 0) a b
/-- a street's two ends in a village -/
def StOk (σ : St) : Prop := ∀ s, s < σ.1 1 → σ.2 1 s < σ.1 0 ∧ σ.2 2 s < σ.1 0 ∧ σ.2 1 s ≠ σ.2 2 s ∧ 1 ≤ σ.2 3 s ∧ σ.2 3 s ≤ 99
theorem Ok.st {σ : St} {T : Nat} (h : Ok σ T) : StOk σ := fun s hs => by
  obtain ⟨h1, h2, h3, h4, h5, -⟩ := h.2.1 s hs
  exact ⟨h1, h2, h3, h4, h5⟩
variable {σ : St}
theorem eg_le (s a b : Nat) : eg σ s a b ≤ 100000 := by
  induction s generalizing a b with
  | zero => unfold eg bs; split <;> omega
  | succ s ih =>
    unfold eg
    have := ih (σ.2 1 s) (σ.2 2 s)
    split
    · omega
    · exact ih a b
theorem eg_sym (s a b : Nat) : eg σ s a b = eg σ s b a := by
  induction s with
  | zero => unfold eg bs; split <;> split <;> omega
  | succ s ih =>
    unfold eg
    by_cases h : (a = σ.2 1 s ∧ b = σ.2 2 s) ∨ (a = σ.2 2 s ∧ b = σ.2 1 s)
    · rw [if_pos h, if_pos (by omega)]
    · rw [if_neg h, if_neg (by omega), ih]
theorem eg_self (hS : StOk σ) (s : Nat) (hs : s ≤ σ.1 1) (a : Nat) : eg σ s a a = 0 := by
  induction s with
  | zero => unfold eg bs; rw [if_pos rfl]
  | succ s ih =>
    obtain ⟨-, -, h3, -⟩ := hS s (by omega)
    unfold eg
    rw [if_neg (by omega), ih (by omega)]
theorem eg_st (s k : Nat) (hs : s < k) (hk : k ≤ σ.1 1) : eg σ k (σ.2 1 s) (σ.2 2 s) ≤ σ.2 3 s := by
  induction k with
  | zero => omega
  | succ k ih =>
    unfold eg
    by_cases e : s = k
    · subst e; rw [if_pos (Or.inl ⟨rfl, rfl⟩)]; omega
    · have h := ih (by omega) (by omega)
      by_cases h2 : (σ.2 1 s = σ.2 1 k ∧ σ.2 2 s = σ.2 2 k) ∨ (σ.2 1 s = σ.2 2 k ∧ σ.2 2 s = σ.2 1 k)
      · rw [if_pos h2]
        rcases h2 with ⟨h3, h4⟩ | ⟨h3, h4⟩
        · rw [h3, h4] at h; omega
        · rw [h3, h4, eg_sym] at h; omega
      · rw [if_neg h2]; exact h
/-- no street beats the numbers P -/
def Feas (σ : St) (P : Nat → Nat) : Prop := ∀ s, s < σ.1 1 → P (σ.2 2 s) ≤ P (σ.2 1 s) + σ.2 3 s ∧ P (σ.2 1 s) ≤ P (σ.2 2 s) + σ.2 3 s
theorem eg_pot {P : Nat → Nat} (hP : Feas σ P) (hC : ∀ b, P b ≤ 100000) (s : Nat) (hs : s ≤ σ.1 1) (a b : Nat) : P b ≤ P a + eg σ s a b := by
  induction s generalizing a b with
  | zero =>
    unfold eg bs
    have := hC b
    by_cases e : a = b
    · subst e; omega
    · rw [if_neg e]; omega
  | succ s ih =>
    unfold eg
    have h1 := ih (by omega) (σ.2 1 s) (σ.2 2 s)
    have h2 := ih (by omega) (σ.2 2 s) (σ.2 1 s)
    rw [eg_sym] at h2
    obtain ⟨g1, g2⟩ := hP s (by omega)
    by_cases h : (a = σ.2 1 s ∧ b = σ.2 2 s) ∨ (a = σ.2 2 s ∧ b = σ.2 1 s)
    · rw [if_pos h]
      rcases h with ⟨h3, h4⟩ | ⟨h3, h4⟩
      · rw [h3, h4]; omega
      · rw [h3, h4]; omega
    · rw [if_neg h]; exact ih (by omega) a b
theorem fw_le (k a b : Nat) : fw σ k a b ≤ 100000 := by
  induction k with
  | zero => exact eg_le _ a b
  | succ k ih => unfold fw; omega
theorem fw_sym (k a b : Nat) : fw σ k a b = fw σ k b a := by
  induction k generalizing a b with
  | zero => exact eg_sym _ a b
  | succ k ih => unfold fw; rw [ih a b, ih a k, ih k b]; omega
theorem fw_self (hS : StOk σ) (k a : Nat) : fw σ k a a = 0 := by
  induction k with
  | zero => exact eg_self hS _ (Nat.le_refl _) a
  | succ k ih => unfold fw; omega
theorem fw_c1 (hS : StOk σ) (c a : Nat) : fw σ (c + 1) a c = fw σ c a c := by
  have := fw_self hS c c
  show min (fw σ c a c) (fw σ c a c + fw σ c c c) = _
  omega
theorem fw_c2 (hS : StOk σ) (c b : Nat) : fw σ (c + 1) c b = fw σ c c b := by
  have := fw_self hS c c
  show min (fw σ c c b) (fw σ c c c + fw σ c c b) = _
  omega
theorem fw_dec (k a b : Nat) : fw σ k a b ≤ eg σ (σ.1 1) a b := by
  induction k with
  | zero => exact Nat.le_refl _
  | succ k ih => unfold fw; omega
theorem fw_pot {P : Nat → Nat} (hP : Feas σ P) (hC : ∀ b, P b ≤ 100000) (k a b : Nat) : P b ≤ P a + fw σ k a b := by
  induction k generalizing a b with
  | zero => exact eg_pot hP hC _ (Nat.le_refl _) a b
  | succ k ih =>
    have h1 := ih a b
    have h2 := ih a k
    have h3 := ih k b
    unfold fw; omega
theorem fw_tri (hS : StOk σ) (k a b c : Nat) (hc : c < k) : fw σ k a b ≤ fw σ k a c + fw σ k c b := by
  induction k generalizing a b c with
  | zero => omega
  | succ k ih =>
    have hkk := fw_self hS k k
    unfold fw
    by_cases e : c = k
    · subst e; omega
    · have h1 := ih a b c (by omega)
      have h2 := ih k b c (by omega)
      have h3 := ih a k c (by omega)
      have h4 := ih k k c (by omega)
      omega
/-- D: the least lengths from a, N where no way leads -/
def IsDist (σ : St) (N a : Nat) (D : Nat → Nat) : Prop := D a = 0 ∧ Feas σ D ∧ (∀ b, D b ≤ N) ∧ ∀ P : Nat → Nat, P a = 0 → Feas σ P → (∀ b, P b ≤ N) → ∀ b, P b ≤ D b
theorem IsDist.uniq {N a : Nat} {D E : Nat → Nat} (h : IsDist σ N a D) (k : IsDist σ N a E) (b : Nat) : D b = E b :=
  Nat.le_antisymm (k.2.2.2 D h.1 h.2.1 h.2.2.1 b) (h.2.2.2 E k.1 k.2.1 k.2.2.1 b)
theorem dst_is (hS : StOk σ) (a : Nat) : IsDist σ 100000 a (dst σ a) := by
  refine ⟨fw_self hS _ a, fun s hs => ?_, fun b => fw_le _ a b, fun P h0 h1 h2 b => ?_⟩
  · obtain ⟨h1, h2, -⟩ := hS s hs
    have t1 := fw_tri hS (σ.1 0) a (σ.2 2 s) (σ.2 1 s) h1
    have t2 := fw_tri hS (σ.1 0) a (σ.2 1 s) (σ.2 2 s) h2
    have e1 := fw_dec (σ := σ) (σ.1 0) (σ.2 1 s) (σ.2 2 s)
    have e2 := fw_dec (σ := σ) (σ.1 0) (σ.2 2 s) (σ.2 1 s)
    have e3 := eg_st (σ := σ) s (σ.1 1) hs (Nat.le_refl _)
    rw [eg_sym] at e2
    unfold dst
    omega
  · have := fw_pot h1 h2 (σ.1 0) a b
    unfold dst
    omega
theorem cnt_lt {P Q : Nat → Bool} {n i : Nat} (h : ∀ j, j < n → P j = true → Q j = true) (hi : i < n) (hP : P i = false) (hQ : Q i = true) : cnt P n + 1 ≤ cnt Q n := by
  induction n with
  | zero => omega
  | succ n ih =>
    have mono : ∀ m, m ≤ n → cnt P m ≤ cnt Q m := by
      intro m hm
      induction m with
      | zero => exact Nat.le_refl _
      | succ m ih2 =>
        have h1 := ih2 (by omega)
        simp only [cnt]
        cases e : P m with
        | false => simp only [Bool.false_eq_true, if_false]; omega
        | true => rw [h m (by omega) e]; simp only [if_true]; omega
    simp only [cnt]
    by_cases e : i = n
    · subst e
      rw [hP, hQ]
      have := mono i (Nat.le_refl _)
      simp only [Bool.false_eq_true, if_false, if_true]; omega
    · have h1 := ih (fun j hj => h j (by omega)) (by omega)
      cases e2 : P n with
      | false => simp only [Bool.false_eq_true, if_false]; omega
      | true => rw [h n (by omega) e2]; simp only [if_true]; omega
theorem cnt_full {P : Nat → Bool} {n : Nat} (h : n ≤ cnt P n) : ∀ i, i < n → P i = true := by
  induction n with
  | zero => intro i hi; omega
  | succ n ih =>
    have hc := cnt_le P n
    simp only [cnt] at h
    cases e : P n with
    | false => rw [e] at h; simp only [Bool.false_eq_true, if_false] at h; omega
    | true =>
      rw [e] at h
      simp only [if_true] at h
      intro i hi
      by_cases e2 : i = n
      · rw [e2]; exact e
      · exact ih (by omega) i (by omega)
/-- places that a way reaches are near -/
theorem IsDist.gap {N a : Nat} {D : Nat → Nat} (hS : StOk σ) (hp : σ.1 0 ≤ 10) (hN : 1000 ≤ N) (ha : a < 10) (h : IsDist σ N a D) (b : Nat) (hb : b < 10) (hD : D b < N) : D b ≤ 891 := by
  have step : ∀ t, t ≤ 800 → t < D b → ∃ c, c < 10 ∧ t < D c ∧ D c ≤ t + 99 := by
    intro t ht htb
    apply Classical.byContradiction
    intro hno
    have hno2 : ∀ c, c < 10 → D c ≤ t ∨ t + 99 < D c := fun c hc => by
      apply Classical.byContradiction
      intro h2
      exact hno ⟨c, hc, by omega, by omega⟩
    have hP := h.2.2.2 (fun c => if D c ≤ t then D c else N) (by rw [if_pos (by rw [h.1]; omega)]; exact h.1) ?_ ?_ b
    · rw [if_neg (by omega)] at hP; omega
    · intro s hs
      obtain ⟨h1, h2, -, h4, h5⟩ := hS s hs
      obtain ⟨g1, g2⟩ := h.2.1 s hs
      have q1 := hno2 (σ.2 1 s) (by omega)
      have q2 := hno2 (σ.2 2 s) (by omega)
      have c1 := h.2.2.1 (σ.2 1 s)
      have c2 := h.2.2.1 (σ.2 2 s)
      show (if D (σ.2 2 s) ≤ t then D (σ.2 2 s) else N) ≤ (if D (σ.2 1 s) ≤ t then D (σ.2 1 s) else N) + σ.2 3 s ∧ (if D (σ.2 1 s) ≤ t then D (σ.2 1 s) else N) ≤ (if D (σ.2 2 s) ≤ t then D (σ.2 2 s) else N) + σ.2 3 s
      by_cases e1 : D (σ.2 1 s) ≤ t
      · have e2 : D (σ.2 2 s) ≤ t := by omega
        rw [if_pos e1, if_pos e2]; exact ⟨g1, g2⟩
      · have e2 : ¬ D (σ.2 2 s) ≤ t := by omega
        rw [if_neg e1, if_neg e2]; omega
    · intro c
      have := h.2.2.1 c
      show (if D c ≤ t then D c else N) ≤ N
      split <;> omega
  apply Classical.byContradiction
  intro hbig
  have count : ∀ j, j ≤ 9 → j + 1 ≤ cnt (fun c => decide (D c ≤ 99 * j)) 10 := by
    intro j
    induction j with
    | zero =>
      intro _
      have := cnt_lt (P := fun _ => false) (Q := fun c => decide (D c ≤ 99 * 0)) (n := 10) (i := a) (fun j _ hh => nomatch hh) ha rfl (by rw [decide_eq_true_eq, h.1]; omega)
      omega
    | succ j ih =>
      intro hj
      have h1 := ih (by omega)
      obtain ⟨c, hc, c1, c2⟩ := step (99 * j) (by omega) (by omega)
      have := cnt_lt (P := fun c => decide (D c ≤ 99 * j)) (Q := fun c => decide (D c ≤ 99 * (j + 1))) (n := 10) (i := c) (fun i _ hh => by rw [decide_eq_true_eq] at hh ⊢; omega) hc (by rw [decide_eq_false_iff_not]; omega) (by rw [decide_eq_true_eq]; omega)
      omega
  have := cnt_full (count 9 (by omega)) b hb
  rw [decide_eq_true_eq] at this
  omega
/-- the class's numbers and the reference's -/
theorem IsDist.cap {a : Nat} {D : Nat → Nat} (hS : StOk σ) (hp : σ.1 0 ≤ 10) (ha : a < 10) (h : IsDist σ 1000000 a D) (b : Nat) (hb : b < 10) : D b = if dst σ a b < 100000 then dst σ a b else 1000000 := by
  have key : IsDist σ 100000 a (fun c => if c < 10 then (if D c < 1000000 then D c else 100000) else min (D c) 100000) := by
    refine ⟨(if_pos ha).trans ((if_pos (by rw [h.1]; omega)).trans h.1), fun s hs => ?_, fun c => ?_, fun P h0 h1 h2 c => ?_⟩
    · obtain ⟨h1, h2, -, h4, h5⟩ := hS s hs
      obtain ⟨g1, g2⟩ := h.2.1 s hs
      have q1 := h.gap hS hp (by omega) ha (σ.2 1 s) (by omega)
      have q2 := h.gap hS hp (by omega) ha (σ.2 2 s) (by omega)
      simp only []
      rw [if_pos (show σ.2 1 s < 10 by omega), if_pos (show σ.2 2 s < 10 by omega)]
      by_cases e1 : D (σ.2 1 s) < 1000000
      · have := q1 e1
        rw [if_pos e1, if_pos (by omega)]; exact ⟨g1, g2⟩
      · have e2 : ¬ D (σ.2 2 s) < 1000000 := fun e2 => by have := q2 e2; omega
        rw [if_neg e1, if_neg e2]; omega
    · show (if c < 10 then (if D c < 1000000 then D c else 100000) else min (D c) 100000) ≤ 100000
      have := h.gap hS hp (by omega) ha c
      by_cases e : c < 10
      · rw [if_pos e]
        by_cases e2 : D c < 1000000
        · have := this e e2
          rw [if_pos e2]; omega
        · rw [if_neg e2]; omega
      · rw [if_neg e]; omega
    · have g := h.2.2.2 P h0 h1 (fun b => by have := h2 b; omega) c
      have g2 := h2 c
      show P c ≤ (if c < 10 then (if D c < 1000000 then D c else 100000) else min (D c) 100000)
      by_cases e : c < 10
      · rw [if_pos e]
        by_cases e2 : D c < 1000000
        · rw [if_pos e2]; exact g
        · rw [if_neg e2]; exact g2
      · rw [if_neg e]; omega
  have e := key.uniq (dst_is hS a) b
  have hg := h.gap hS hp (by omega) ha b hb
  have hc := h.2.2.1 b
  rw [← e, if_pos hb]
  by_cases e2 : D b < 1000000
  · have := hg e2
    rw [if_pos e2, if_pos (by omega)]
  · rw [if_neg e2, if_neg (by omega)]; omega
theorem dst_gap (hS : StOk σ) (hp : σ.1 0 ≤ 10) {a b : Nat} (ha : a < 10) (hb : b < 10) (h : dst σ a b < 100000) : dst σ a b ≤ 891 := (dst_is hS a).gap hS hp (by omega) ha b hb h
theorem dst_sym (a b : Nat) : dst σ a b = dst σ b a := fw_sym _ a b
theorem dst_self (hS : StOk σ) (a : Nat) : dst σ a a = 0 := fw_self hS _ a
theorem dst_le (a b : Nat) : dst σ a b ≤ 100000 := fw_le _ a b
theorem dst_tri (hS : StOk σ) (a b c : Nat) (hc : c < σ.1 0) : dst σ a b ≤ dst σ a c + dst σ c b := fw_tri hS _ a b c hc
end DIST
