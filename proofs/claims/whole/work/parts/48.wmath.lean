/-! Walks: what is possible, what the class's table holds; numbers alone. -/
section WMA
variable {σ : St} {T : Nat}
theorem chz_ub (u : List Nat) (s : Nat) : (chz σ (u ++ ub σ s)).length ≤ (chz σ u).length + 2 ∧ ∀ c ∈ chz σ (u ++ ub σ s), c ∈ chz σ u ∨ c.1 / 2 = s := by
  have a1 : ∀ (v : List Nat) (x : Nat), x / 2 = s → (chz σ (v ++ [x])).length ≤ (chz σ v).length + 2 ∧ (σ.2 13 s ≠ 0 → (chz σ (v ++ [x])).length ≤ (chz σ v).length + 1) ∧ (∀ c ∈ chz σ (v ++ [x]), c ∈ chz σ v ∨ c.1 = x ∨ (c.1 = x + 1 ∧ σ.2 13 s = 0)) := by
    intro v x hx
    rw [chz_app, hx]
    by_cases e : σ.2 13 s = 0
    · rw [if_pos e]
      refine ⟨by simp, fun h => absurd e h, fun c hc => ?_⟩
      rcases List.mem_append.mp hc with h | h
      · exact Or.inl h
      · rcases List.mem_append.mp h with h | h
        · rw [List.mem_singleton] at h; subst h; exact Or.inr (Or.inl rfl)
        · rw [List.mem_singleton] at h; subst h; exact Or.inr (Or.inr ⟨rfl, e⟩)
    · rw [if_neg e]
      refine ⟨by simp, fun _ => by simp, fun c hc => ?_⟩
      rcases List.mem_append.mp hc with h | h
      · exact Or.inl h
      · rw [List.append_nil, List.mem_singleton] at h
        subst h; exact Or.inr (Or.inl rfl)
  unfold ub
  by_cases e : σ.2 13 s = 0
  · rw [if_pos e]
    split
    · obtain ⟨b1, -, b3⟩ := a1 u (2 * s) (by omega)
      exact ⟨b1, fun c hc => (b3 c hc).elim Or.inl (fun h => Or.inr (by omega))⟩
    · rw [List.append_nil]; exact ⟨Nat.le_add_right _ _, fun c hc => Or.inl hc⟩
  · rw [if_neg e]
    by_cases h0 : sd σ s 0 = true
    · rw [if_pos h0]
      obtain ⟨-, b2, b3⟩ := a1 u (2 * s) (by omega)
      by_cases h1 : sd σ s 1 = true
      · rw [if_pos h1, ← List.append_assoc]
        obtain ⟨-, c2, c3⟩ := a1 (u ++ [2 * s]) (2 * s + 1) (by omega)
        have := b2 e
        have := c2 e
        refine ⟨by omega, fun c hc => ?_⟩
        rcases c3 c hc with h | h
        · exact (b3 c h).elim Or.inl (fun h => Or.inr (by omega))
        · exact Or.inr (by omega)
      · rw [if_neg h1, List.append_nil]
        have := b2 e
        exact ⟨by omega, fun c hc => (b3 c hc).elim Or.inl (fun h => Or.inr (by omega))⟩
    · rw [if_neg h0, List.nil_append]
      by_cases h1 : sd σ s 1 = true
      · rw [if_pos h1]
        obtain ⟨-, b2, b3⟩ := a1 u (2 * s + 1) (by omega)
        have := b2 e
        exact ⟨by omega, fun c hc => (b3 c hc).elim Or.inl (fun h => Or.inr (by omega))⟩
      · rw [if_neg h1, List.append_nil]; exact ⟨Nat.le_add_right _ _, fun c hc => Or.inl hc⟩
theorem chz_uns (g : Nat) : ∀ i, (chz σ (uns σ g i)).length ≤ 2 * i ∧ ∀ c ∈ chz σ (uns σ g i), c.1 / 2 < i
  | 0 => ⟨Nat.le_refl _, fun c hc => nomatch hc⟩
  | i + 1 => by
    obtain ⟨h1, h2⟩ := chz_uns g i
    show (chz σ (uns σ g i ++ ua σ g i)).length ≤ _ ∧ ∀ c ∈ chz σ (uns σ g i ++ ua σ g i), _
    by_cases e : inG σ i g = true
    · rw [ua_T e]
      obtain ⟨a1, a2⟩ := chz_ub (σ := σ) (uns σ g i) i
      refine ⟨by omega, fun c hc => ?_⟩
      rcases a2 c hc with h | h
      · have := h2 c h; omega
      · omega
    · rw [ua_F (by rw [Bool.eq_false_iff]; exact e), List.append_nil]
      exact ⟨by omega, fun c hc => by have := h2 c hc; omega⟩
theorem map_getD (l : List (Nat × Nat)) (i : Nat) : (l.map Prod.fst).getD i 0 = (l.getD i (0, 0)).1 := by
  rw [List.getD_eq_getElem?_getD, List.getD_eq_getElem?_getD, List.getElem?_map]
  cases l[i]? <;> rfl
/-- what the class takes for possible -/
def psB (σ : St) (u : List Nat) : Bool := (chz σ u).all (fun c => decide (ld σ 0 (fr σ c.1) < 1000000)) && decide (u.length ≤ 8)
theorem chl_mem {U : Nat → Nat} {u : Nat} : ∀ n, u < n → (U u, u) ∈ chl σ U n
  | 0, h => absurd h (Nat.not_lt_zero _)
  | n + 1, h => by
    show _ ∈ chl σ U n ++ ([(U n, n)] ++ _)
    by_cases e : u = n
    · subst e; exact List.mem_append.mpr (Or.inr (List.mem_append.mpr (Or.inl (List.mem_singleton.mpr rfl))))
    · exact List.mem_append.mpr (Or.inl (chl_mem n (by omega)))
theorem mem_getD2 {l : List (Nat × Nat)} {x : Nat × Nat} (h : x ∈ l) : ∃ i, i < l.length ∧ l.getD i (0, 0) = x := by
  obtain ⟨i, h1, h2⟩ := List.getElem_of_mem h
  exact ⟨i, h1, by rw [List.getD_eq_getElem?_getD, List.getElem?_eq_getElem h1, h2]; rfl⟩
theorem cost_fin {V : Nat → Nat → Nat} {S p : Nat} {c : Nat × Nat} (h : cost σ V S p c < 100000) : dst σ p (fr σ c.1) < 100000 ∧ V (S ||| 2 ^ c.2) (tt σ c.1) < 100000 := by
  unfold cost at h; omega
theorem gV_gap (hO : Ok σ T) {g : Nat} (hn : uN σ g ≤ 8) : ∀ (k S p : Nat), 2 ^ uN σ g - 1 - S ≤ k → S ≤ 2 ^ uN σ g - 1 → p < σ.1 0 → gV σ g S p < 100000 → gV σ g S p + 1000 * cnt (fun v => S.testBit v) (uN σ g) ≤ 9000 := by
  have hS := hO.st
  have p2 := hO.1.2.1
  have p1 := hO.1.1
  intro k
  induction k with
  | zero =>
    intro S p h1 h2 hp hl
    have e : S = 2 ^ uN σ g - 1 := by omega
    subst e
    rw [gV_all] at hl ⊢
    have := dst_gap hS p2 (show p < 10 by omega) (show 0 < 10 by omega) hl
    rw [pc_all _ (by omega)]
    omega
  | succ k ih =>
    intro S p h1 h2 hp hl
    by_cases e : S = 2 ^ uN σ g - 1
    · subst e
      rw [gV_all] at hl ⊢
      have := dst_gap hS p2 (show p < 10 by omega) (show 0 < 10 by omega) hl
      rw [pc_all _ (by omega)]
      omega
    · have hlt : S < 2 ^ uN σ g - 1 := by omega
      rw [gV_eq hn hlt] at hl ⊢
      obtain ⟨c, c1, -, c3, c4, -⟩ := bm_hit _ hl
      rw [c4] at hl ⊢
      obtain ⟨f1, f2⟩ := cost_fin hl
      obtain ⟨i1, i2, -⟩ := cC_in c1
      obtain ⟨q1, q2, q3, q4⟩ := fr_lt hS i2
      obtain ⟨b1, b2⟩ := bit_up hn h2 i1 c3
      have h3 := ih (S ||| 2 ^ (cC σ g c).2) (tt σ (cC σ g c).1) (by omega) b2 q2 f2
      have h4 := pc_up (uN σ g) (by omega) S (by have := Nat.two_pow_pos (uN σ g); omega) _ i1 c3
      have h5 := dst_gap hS p2 (show p < 10 by omega) (show fr σ (cC σ g c).1 < 10 by omega) f1
      unfold cost at *
      rw [h4] at h3
      omega
theorem gV_fin (hO : Ok σ T) {g : Nat} (hn : uN σ g ≤ 8) (hall : ∀ c ∈ chs σ g, dst σ 0 (fr σ c.1) < 100000) : ∀ (k S p : Nat), 2 ^ uN σ g - 1 - S ≤ k → S ≤ 2 ^ uN σ g - 1 → p < σ.1 0 → dst σ 0 p < 100000 → gV σ g S p < 100000 := by
  have hS := hO.st
  have p2 := hO.1.2.1
  have p1 := hO.1.1
  have fin : ∀ p, dst σ 0 p < 100000 → gV σ g (2 ^ uN σ g - 1) p < 100000 := fun p h => by rw [gV_all, dst_sym]; exact h
  intro k
  induction k with
  | zero =>
    intro S p h1 h2 hp hl
    rw [show S = 2 ^ uN σ g - 1 by omega]; exact fin p hl
  | succ k ih =>
    intro S p h1 h2 hp hl
    by_cases e : S = 2 ^ uN σ g - 1
    · rw [e]; exact fin p hl
    · have hlt : S < 2 ^ uN σ g - 1 := by omega
      have hS2 : S < 2 ^ uN σ g := by omega
      have hu : ∃ u, u < uN σ g ∧ S.testBit u = false := by
        apply Classical.byContradiction
        intro hno
        refine e (pc_max (uN σ g) (by omega) S hS2 (cnt_true _ (fun i hi => ?_)))
        cases hb : S.testBit i with
        | true => rfl
        | false => exact absurd ⟨i, hi, hb⟩ hno
      obtain ⟨u, u1, u2⟩ := hu
      have hm : (uU σ g u, u) ∈ chs σ g := chl_mem _ u1
      obtain ⟨c, c1, c2⟩ := mem_getD2 hm
      have hc : cC σ g c = (uU σ g u, u) := c2
      obtain ⟨i1, i2, -⟩ := cC_in (σ := σ) (g := g) c1
      have i2 : uU σ g u / 2 < σ.1 1 := by rw [hc] at i2; exact i2
      obtain ⟨q1, q2, q3, q4⟩ := fr_lt hS i2
      have d1 : dst σ 0 (fr σ (uU σ g u)) < 100000 := hall _ hm
      have g1 := dst_gap hS p2 (show 0 < 10 by omega) (show fr σ (uU σ g u) < 10 by omega) d1
      have g2 := dst_gap hS p2 (show 0 < 10 by omega) (show p < 10 by omega) hl
      have g3 := dst_tri hS p (fr σ (uU σ g u)) 0 (by omega)
      rw [dst_sym p 0] at g3
      have g4 := dst_gap hS p2 (show p < 10 by omega) (show fr σ (uU σ g u) < 10 by omega) (by omega)
      have g5 := pass_feas (dst_is hS 0).2.1 i2
      obtain ⟨b1, b2⟩ := bit_up hn h2 u1 u2
      have h3 := ih (S ||| 2 ^ u) (tt σ (uU σ g u)) (by omega) b2 q2 (by omega)
      have h4 := gV_gap hO hn _ _ _ (Nat.le_refl _) b2 q2 h3
      rw [gV_eq hn hlt]
      have h5 : (bm σ (gV σ g) (cC σ g) S p (cM σ g)).1 ≤ dst σ p (fr σ (uU σ g u)) + ln σ (uU σ g u) + gV σ g (S ||| 2 ^ u) (tt σ (uU σ g u)) := by
        have := bm_low (σ := σ) (V := gV σ g) (C := cC σ g) (S := S) (p := p) (cM σ g) c c1 (by rw [hc]; exact u2)
        rw [hc] at this
        exact this
      have h6 : dst σ p (fr σ (uU σ g u)) + ln σ (uU σ g u) + gV σ g (S ||| 2 ^ u) (tt σ (uU σ g u)) < 100000 := by omega
      exact Nat.lt_of_le_of_lt h5 h6
theorem same_street {p q : Nat} (h : p / 2 = q / 2) : (fr σ p = fr σ q ∧ tt σ p = tt σ q) ∨ (fr σ p = tt σ q ∧ tt σ p = fr σ q) := by
  unfold fr tt
  rw [h]
  by_cases e1 : p % 2 = 0 <;> by_cases e2 : q % 2 = 0
  · rw [if_pos e1, if_pos e2, if_pos e1, if_pos e2]; exact Or.inl ⟨rfl, rfl⟩
  · rw [if_pos e1, if_neg e2, if_pos e1, if_neg e2]; exact Or.inr ⟨rfl, rfl⟩
  · rw [if_neg e1, if_pos e2, if_neg e1, if_pos e2]; exact Or.inr ⟨rfl, rfl⟩
  · rw [if_neg e1, if_neg e2, if_neg e1, if_neg e2]; exact Or.inl ⟨rfl, rfl⟩
theorem chs_street {g : Nat} {c : Nat × Nat} (h : c ∈ chs σ g) : c.2 < uN σ g ∧ c.1 / 2 = uU σ g c.2 / 2 ∧ c.1 / 2 < σ.1 1 := by
  obtain ⟨h1, h2⟩ := chl_in h
  have h3 := uU_in h1
  refine ⟨h1, ?_⟩
  rcases h2 with h2 | ⟨h2, h4⟩
  · rw [h2]; exact ⟨rfl, h3.1⟩
  · have h5 := h3.2.2 h4
    have : c.1 / 2 = uU σ g c.2 / 2 := by omega
    rw [this]; exact ⟨rfl, h3.1⟩
theorem cC_mem {g k : Nat} (h : k < cM σ g) : cC σ g k ∈ chs σ g := getD_mem h
/-- the walk's places are near the post office -/
theorem tr_near (hO : Ok σ T) {g : Nat} (hW1 : hW σ g = true) : ∀ k, k ≤ uN σ g → dst σ 0 (tr σ g k).2 < 100000 ∧ (k < uN σ g → dst σ 0 (fr σ (wP σ g k)) < 100000 ∧ dst σ 0 (tt σ (wP σ g k)) < 100000) := by
  have hS := hO.st
  have p2 := hO.1.2.1
  have p1 := hO.1.1
  obtain ⟨w1, w2, w3, w4⟩ := wk_fin hS p1 hW1
  intro k
  have step : ∀ k, k < uN σ g → dst σ 0 (tr σ g k).2 < 100000 → dst σ 0 (fr σ (wP σ g k)) < 100000 ∧ dst σ 0 (tt σ (wP σ g k)) < 100000 := fun k hk h => by
    obtain ⟨a1, a2, a3, a4⟩ := w1 k hk
    obtain ⟨q1, q2, q3, q4⟩ := fr_lt hS a3
    have g1 := dst_gap hS p2 (show 0 < 10 by omega) (show (tr σ g k).2 < 10 by omega) h
    have g2 := dst_gap hS p2 (show (tr σ g k).2 < 10 by omega) (show fr σ (wP σ g k) < 10 by omega) a2
    have g3 := dst_tri hS 0 (fr σ (wP σ g k)) (tr σ g k).2 a1
    have g5 := pass_feas (dst_is hS 0).2.1 a3
    omega
  induction k with
  | zero =>
    intro _
    have e : dst σ 0 (tr σ g 0).2 < 100000 := by show dst σ 0 0 < 100000; rw [dst_self hS]; omega
    exact ⟨e, fun h => step 0 h e⟩
  | succ k ih =>
    intro hk
    have e : dst σ 0 (tr σ g (k + 1)).2 < 100000 := ((ih (by omega)).2 (by omega)).2
    exact ⟨e, fun h => step (k + 1) h e⟩
theorem ps_hW (hO : Ok σ T) (g : Nat) : psB σ (uns σ g (σ.1 1)) = hW σ g := by
  have hS := hO.st
  have p2 := hO.1.2.1
  have p1 := hO.1.1
  have e : (psB σ (uns σ g (σ.1 1)) = true) ↔ hW σ g = true := by
    unfold psB
    rw [chz_chs, Bool.and_eq_true, List.all_eq_true, decide_eq_true_eq]
    constructor
    · rintro ⟨h1, h2⟩
      refine hW_iff.mpr ⟨h2, gV_fin hO h2 (fun c hc => ?_) _ 0 0 (Nat.le_refl _) (Nat.zero_le _) (by omega) (by rw [dst_self hS]; omega)⟩
      have := h1 c hc
      rw [decide_eq_true_eq] at this
      exact (cp_lt this).1
    · intro h
      refine ⟨fun c hc => ?_, (hW_iff.mp h).1⟩
      rw [decide_eq_true_eq]
      obtain ⟨c1, c2, c3⟩ := chs_street hc
      obtain ⟨w1, w2, w3, w4⟩ := wk_fin hS p1 h
      have hbit : (tr σ g (uN σ g)).1.testBit c.2 = true := by
        rw [w4, Nat.testBit_two_pow_sub_one]
        exact decide_eq_true c1
      obtain ⟨j, j1, j2⟩ := tr_bit _ hbit
      have hj := (tr_near hO h j (by omega)).2 j1
      obtain ⟨a1, a2, a3, a4⟩ := w1 j j1
      have hin : bC σ g (tr σ g j).1 (tr σ g j).2 < cM σ g := by
        have hg : gV σ g (tr σ g j).1 (tr σ g j).2 < 100000 := by
          have := (tr_ok hS p1 h j (by omega)).2.2.2.1
          have := (hW_iff.mp h).2
          omega
        have hlt : (tr σ g j).1 < 2 ^ uN σ g - 1 := by
          obtain ⟨t1, t2, -⟩ := tr_ok hS p1 h j (by omega)
          apply Classical.byContradiction
          intro hh
          have : (tr σ g j).1 = 2 ^ uN σ g - 1 := by omega
          rw [this, pc_all _ (by have := (hW_iff.mp h).1; omega)] at t2
          omega
        rw [gV_eq (hW_iff.mp h).1 hlt] at hg
        obtain ⟨c', d1, d2, -⟩ := bm_hit _ hg
        unfold bC
        rw [d2, Int.toNat_natCast]; exact d1
      obtain ⟨-, e2, -⟩ := chs_street (cC_mem hin)
      have hst : c.1 / 2 = wP σ g j / 2 := by
        rw [c2, ← j2]; exact e2.symm
      have hr : dst σ 0 (fr σ c.1) < 100000 := by
        rcases same_street (σ := σ) hst with ⟨s1, -⟩ | ⟨s1, -⟩
        · rw [s1]; exact hj.1
        · rw [s1]; exact hj.2
      show cp (dst σ 0 (fr σ c.1)) < 1000000
      rw [cp_of hr]; omega
  cases h1 : psB σ (uns σ g (σ.1 1)) with
  | true => exact (e.mp h1).symm
  | false =>
    cases h2 : hW σ g with
    | false => rfl
    | true => rw [e.mpr h2] at h1; cases h1
/-- the class's table, by what is left: row L, place p, of the first k choices -/
def rw0 (σ : St) (g L p : Nat) : Nat → Nat
  | 0 => 1000000
  | k + 1 => if L.testBit (cC σ g k).2 = true then min (rw0 σ g L p k) (ln σ (cC σ g k).1 + cp (gV σ g (2 ^ uN σ g - 1 - (L - 2 ^ (cC σ g k).2)) (tt σ (cC σ g k).1)) + ld σ (fr σ (cC σ g k).1) p) else rw0 σ g L p k
theorem lbit : ∀ n : Nat, n < 9 → ∀ L : Nat, L < 2 ^ n → ∀ u : Nat, u < n → ((2 ^ n - 1 - L).testBit u = !L.testBit u) ∧ (L.testBit u = true → 2 ^ u ≤ L ∧ 2 ^ n - 1 - (L - 2 ^ u) = (2 ^ n - 1 - L) ||| 2 ^ u) := by decide +kernel
theorem bm_s1 {V : Nat → Nat → Nat} {C : Nat → Nat × Nat} {S p k : Nat} : (bm σ V C S p (k + 1)).1 = if S.testBit (C k).2 = false ∧ cost σ V S p (C k) < (bm σ V C S p k).1 then cost σ V S p (C k) else (bm σ V C S p k).1 := by
  show (if _ then _ else _ : Nat × Int).1 = _
  split <;> rfl
theorem rw0_bm (hO : Ok σ T) {g L p : Nat} (hn : uN σ g ≤ 8) (hL : L ≤ 2 ^ uN σ g - 1) (hp : p < 10) : ∀ k, k ≤ cM σ g → rw0 σ g L p k = cp (bm σ (gV σ g) (cC σ g) (2 ^ uN σ g - 1 - L) p k).1
  | 0, _ => by show 1000000 = cp 100000; decide +kernel
  | k + 1, hk => by
    have ih := rw0_bm hO hn hL hp k (by omega)
    have hS := hO.st
    have p2 := hO.1.2.1
    obtain ⟨i1, i2, -⟩ := cC_in (σ := σ) (g := g) (k := k) (by omega)
    obtain ⟨q1, q2, q3, q4⟩ := fr_lt hS i2
    obtain ⟨b1, b2⟩ := lbit (uN σ g) (by omega) L (by have := Nat.two_pow_pos (uN σ g); omega) _ i1
    have hle := bm_le (σ := σ) (V := gV σ g) (C := cC σ g) (S := 2 ^ uN σ g - 1 - L) (p := p) k
    rw [bm_s1]
    show (if L.testBit (cC σ g k).2 = true then _ else _) = _
    cases hb : L.testBit (cC σ g k).2 with
    | false =>
      rw [hb] at b1
      rw [if_neg (by decide), if_neg (fun h => by rw [b1] at h; exact absurd h.1 (by decide))]
      exact ih
    | true =>
      rw [hb] at b1
      obtain ⟨b3, b4⟩ := b2 hb
      rw [if_pos rfl, ih, b4]
      have hsub : (2 ^ uN σ g - 1 - L) ||| 2 ^ (cC σ g k).2 ≤ 2 ^ uN σ g - 1 := (bit_up hn (Nat.sub_le _ _) i1 b1).2
      have hgap := gV_gap hO hn _ ((2 ^ uN σ g - 1 - L) ||| 2 ^ (cC σ g k).2) (tt σ (cC σ g k).1) (Nat.le_refl _) hsub q2
      have hle2 : gV σ g ((2 ^ uN σ g - 1 - L) ||| 2 ^ (cC σ g k).2) (tt σ (cC σ g k).1) ≤ 100000 := gV_le
      have hd := dst_gap hS p2 (show fr σ (cC σ g k).1 < 10 by omega) hp
      have hd2 := dst_le (σ := σ) (fr σ (cC σ g k).1) p
      have hc : cost σ (gV σ g) (2 ^ uN σ g - 1 - L) p (cC σ g k) = dst σ (fr σ (cC σ g k).1) p + ln σ (cC σ g k).1 + gV σ g ((2 ^ uN σ g - 1 - L) ||| 2 ^ (cC σ g k).2) (tt σ (cC σ g k).1) := by unfold cost; rw [dst_sym]
      rw [hc, b1]
      generalize (bm σ (gV σ g) (cC σ g) (2 ^ uN σ g - 1 - L) p k).1 = B at hle ⊢
      generalize gV σ g ((2 ^ uN σ g - 1 - L) ||| 2 ^ (cC σ g k).2) (tt σ (cC σ g k).1) = W at hgap hle2 ⊢
      unfold ld
      generalize dst σ (fr σ (cC σ g k).1) p = D at hd hd2 ⊢
      generalize ln σ (cC σ g k).1 = N at q3 q4 ⊢
      generalize cnt (fun v => ((2 ^ uN σ g - 1 - L) ||| 2 ^ (cC σ g k).2).testBit v) (uN σ g) = Z at hgap
      have cB : (B < 100000 → cp B = B) ∧ (¬ B < 100000 → cp B = 1000000) := ⟨fun h => if_pos h, fun h => if_neg h⟩
      have cW : (W < 100000 → cp W = W) ∧ (¬ W < 100000 → cp W = 1000000) := ⟨fun h => if_pos h, fun h => if_neg h⟩
      have cD : (D < 100000 → cp D = D) ∧ (¬ D < 100000 → cp D = 1000000) := ⟨fun h => if_pos h, fun h => if_neg h⟩
      have cS : (D + N + W < 100000 → cp (D + N + W) = D + N + W) := fun h => if_pos h
      by_cases h : D + N + W < B
      · rw [if_pos ⟨rfl, h⟩]
        have := hd (by omega)
        have := hgap (by omega)
        by_cases h1 : B < 100000 <;> omega
      · rw [if_neg (fun hh => h hh.2)]
        by_cases h1 : B < 100000 <;> by_cases h2 : W < 100000 <;> by_cases h3 : D < 100000 <;> omega
theorem rw0_all (hO : Ok σ T) {g L p : Nat} (hn : uN σ g ≤ 8) (hL0 : 1 ≤ L) (hL : L ≤ 2 ^ uN σ g - 1) (hp : p < 10) : rw0 σ g L p (cM σ g) = cp (gV σ g (2 ^ uN σ g - 1 - L) p) := by
  rw [rw0_bm hO hn hL hp _ (Nat.le_refl _), ← gV_eq hn (by omega)]
/-- the table's row -/
def rT0 (σ : St) (g L p : Nat) : Nat := cp (gV σ g (2 ^ uN σ g - 1 - L) p)
theorem rT0_0 (g p : Nat) : rT0 σ g 0 p = ld σ 0 p := by
  unfold rT0 ld
  rw [Nat.sub_zero, gV_all, dst_sym]
theorem rT0_le (g L p : Nat) : rT0 σ g L p ≤ 1000000 := cp_le _
theorem rw0_le (g L p k : Nat) : rw0 σ g L p k ≤ 1000000 := by
  induction k with
  | zero => exact Nat.le_refl _
  | succ k ih =>
    show (if _ then min _ _ else _) ≤ _
    split
    · exact Nat.le_trans (Nat.min_le_left _ _) ih
    · exact ih
end WMA
