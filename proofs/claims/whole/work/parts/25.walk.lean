/-! Walks, as numbers. -/
section WALK
def sd (σ : St) (s d : Nat) : Bool := any (fun h => decide (σ.2 5 h = s) && decide (σ.2 6 h = d) && post σ h) (σ.1 2)
/-- what one street needs -/
def ua (σ : St) (g s : Nat) : List Nat := if inG σ s g = true then (if σ.2 13 s = 0 then (if (sd σ s 0 || sd σ s 1) = true then [2 * s] else []) else (if sd σ s 0 = true then [2 * s] else []) ++ (if sd σ s 1 = true then [2 * s + 1] else [])) else []
def uns (σ : St) (g : Nat) : Nat → List Nat
  | 0 => []
  | s + 1 => uns σ g s ++ ua σ g s
def uN (σ : St) (g : Nat) : Nat := (uns σ g (σ.1 1)).length
def uU (σ : St) (g k : Nat) : Nat := (uns σ g (σ.1 1)).getD k 0
def fr (σ : St) (p : Nat) : Nat := if p % 2 = 0 then σ.2 1 (p / 2) else σ.2 2 (p / 2)
def tt (σ : St) (p : Nat) : Nat := if p % 2 = 0 then σ.2 2 (p / 2) else σ.2 1 (p / 2)
def ln (σ : St) (p : Nat) : Nat := σ.2 3 (p / 2)
/-- the passes that can be made, each with its need -/
def chl (σ : St) (U : Nat → Nat) : Nat → List (Nat × Nat)
  | 0 => []
  | k + 1 => chl σ U k ++ ([(U k, k)] ++ if σ.2 13 (U k / 2) = 0 then [(U k + 1, k)] else [])
def chs (σ : St) (g : Nat) : List (Nat × Nat) := chl σ (uU σ g) (uN σ g)
def cC (σ : St) (g k : Nat) : Nat × Nat := (chs σ g).getD k (0, 0)
def cM (σ : St) (g : Nat) : Nat := (chs σ g).length
def cost (σ : St) (V : Nat → Nat → Nat) (S p : Nat) (c : Nat × Nat) : Nat := dst σ p (fr σ c.1) + ln σ c.1 + V (S ||| 2 ^ c.2) (tt σ c.1)
def bm (σ : St) (V : Nat → Nat → Nat) (C : Nat → Nat × Nat) (S p : Nat) : Nat → Nat × Int
  | 0 => (100000, -1)
  | k + 1 => if S.testBit (C k).2 = false ∧ cost σ V S p (C k) < (bm σ V C S p k).1 then (cost σ V S p (C k), k) else bm σ V C S p k
def vV (σ : St) (C : Nat → Nat × Nat) (m all : Nat) (S p : Nat) : Nat :=
  if hS : S < all then (bm σ (fun S' p' => if h : S < S' ∧ S' ≤ all then vV σ C m all S' p' else 0) C S p m).1 else dst σ p 0
termination_by all - S
decreasing_by omega
theorem bm_congr {σ : St} {V W : Nat → Nat → Nat} {C : Nat → Nat × Nat} {S p : Nat} : ∀ k, (∀ j, j < k → S.testBit (C j).2 = false → V (S ||| 2 ^ (C j).2) (tt σ (C j).1) = W (S ||| 2 ^ (C j).2) (tt σ (C j).1)) → bm σ V C S p k = bm σ W C S p k
  | 0, _ => rfl
  | k + 1, h => by
    unfold bm
    rw [bm_congr k (fun j hj => h j (by omega))]
    by_cases e : S.testBit (C k).2 = false
    · have : cost σ V S p (C k) = cost σ W S p (C k) := by unfold cost; rw [h k (by omega) e]
      rw [this]
    · rw [if_neg (fun hh => e hh.1), if_neg (fun hh => e hh.1)]
theorem bm_le {σ : St} {V : Nat → Nat → Nat} {C : Nat → Nat × Nat} {S p : Nat} (k : Nat) : (bm σ V C S p k).1 ≤ 100000 := by
  induction k with
  | zero => exact Nat.le_refl _
  | succ k ih => unfold bm; split <;> first | exact ih | (show cost σ V S p (C k) ≤ 100000; omega)
theorem bm_ge {σ : St} {V : Nat → Nat → Nat} {C : Nat → Nat × Nat} {S p : Nat} (k : Nat) : -1 ≤ (bm σ V C S p k).2 ∧ (bm σ V C S p k).2 < k := by
  induction k with
  | zero => exact ⟨Int.le_refl _, by show (-1 : Int) < ((0 : Nat) : Int); omega⟩
  | succ k ih => unfold bm; split <;> first | (show -1 ≤ (k : Int) ∧ (k : Int) < ((k + 1 : Nat) : Int); omega) | (constructor <;> omega)
/-- the best choice, if there is one -/
theorem bm_hit {σ : St} {V : Nat → Nat → Nat} {C : Nat → Nat × Nat} {S p : Nat} (k : Nat) (h : (bm σ V C S p k).1 < 100000) : ∃ c, c < k ∧ (bm σ V C S p k).2 = (c : Int) ∧ S.testBit (C c).2 = false ∧ (bm σ V C S p k).1 = cost σ V S p (C c) ∧ (∀ j, j < c → S.testBit (C j).2 = false → (bm σ V C S p k).1 < cost σ V S p (C j)) := by
  have low : ∀ k j, j < k → S.testBit (C j).2 = false → (bm σ V C S p k).1 ≤ cost σ V S p (C j) := by
    intro k
    induction k with
    | zero => intro j hj; omega
    | succ k ih =>
      intro j hj hb
      unfold bm
      by_cases e : S.testBit (C k).2 = false ∧ cost σ V S p (C k) < (bm σ V C S p k).1
      · rw [if_pos e]
        by_cases e2 : j = k
        · rw [e2]; exact Nat.le_refl _
        · have := ih j (by omega) hb
          show cost σ V S p (C k) ≤ _
          omega
      · rw [if_neg e]
        by_cases e2 : j = k
        · subst e2
          have : ¬ cost σ V S p (C j) < (bm σ V C S p j).1 := fun hh => e ⟨hb, hh⟩
          omega
        · exact ih j (by omega) hb
  induction k with
  | zero => exact absurd h (by show ¬ (100000 : Nat) < 100000; omega)
  | succ k ih =>
    unfold bm at h ⊢
    by_cases e : S.testBit (C k).2 = false ∧ cost σ V S p (C k) < (bm σ V C S p k).1
    · rw [if_pos e]
      exact ⟨k, by omega, rfl, e.1, rfl, fun j hj hb => Nat.lt_of_lt_of_le e.2 (low k j hj hb)⟩
    · rw [if_neg e] at h ⊢
      obtain ⟨c, h1, h2⟩ := ih h
      exact ⟨c, by omega, h2⟩
theorem bm_low {σ : St} {V : Nat → Nat → Nat} {C : Nat → Nat × Nat} {S p : Nat} (k j : Nat) (hj : j < k) (hb : S.testBit (C j).2 = false) : (bm σ V C S p k).1 ≤ cost σ V S p (C j) := by
  induction k with
  | zero => omega
  | succ k ih =>
    unfold bm
    by_cases e : S.testBit (C k).2 = false ∧ cost σ V S p (C k) < (bm σ V C S p k).1
    · rw [if_pos e]
      by_cases e2 : j = k
      · rw [e2]; exact Nat.le_refl _
      · have := ih (by omega)
        show cost σ V S p (C k) ≤ _
        omega
    · rw [if_neg e]
      by_cases e2 : j = k
      · subst e2
        have : ¬ cost σ V S p (C j) < (bm σ V C S p j).1 := fun hh => e ⟨hb, hh⟩
        omega
      · exact ih (by omega)
theorem bit_up0 : ∀ n : Nat, n < 9 → ∀ S : Nat, S < 2 ^ n → ∀ u : Nat, u < n → S.testBit u = false → S < (S ||| 2 ^ u) ∧ (S ||| 2 ^ u) ≤ 2 ^ n - 1 := by decide +kernel
theorem bit_up {n S u : Nat} (hn : n ≤ 8) (hS : S ≤ 2 ^ n - 1) (hu : u < n) (hb : S.testBit u = false) : S < (S ||| 2 ^ u) ∧ (S ||| 2 ^ u) ≤ 2 ^ n - 1 := bit_up0 n (by omega) S (by have := Nat.two_pow_pos n; omega) u hu hb
theorem vV_le {σ : St} {C : Nat → Nat × Nat} {m all S p : Nat} : vV σ C m all S p ≤ 100000 := by
  rw [vV]
  split
  · exact bm_le _
  · exact dst_le _ _
theorem vV_eq {σ : St} {C : Nat → Nat × Nat} {m n S p : Nat} (hn : n ≤ 8) (hC : ∀ k, k < m → (C k).2 < n) (hS : S < 2 ^ n - 1) : vV σ C m (2 ^ n - 1) S p = (bm σ (vV σ C m (2 ^ n - 1)) C S p m).1 := by
  conv => lhs; rw [vV]
  rw [dif_pos hS]
  congr 1
  refine bm_congr m (fun j hj hb => ?_)
  obtain ⟨h1, h2⟩ := bit_up hn (by omega) (hC j hj) hb
  rw [dif_pos ⟨h1, h2⟩]
theorem vV_all {σ : St} {C : Nat → Nat × Nat} {m all p : Nat} : vV σ C m all all p = dst σ p 0 := by
  rw [vV, dif_neg (by omega)]
/-- the least lengths of the rounds g, by what is made -/
def gV (σ : St) (g S p : Nat) : Nat := vV σ (cC σ g) (cM σ g) (2 ^ uN σ g - 1) S p
def wL (σ : St) (g : Nat) : Nat := gV σ g 0 0
def hW (σ : St) (g : Nat) : Bool := decide (uN σ g ≤ 8) && decide (wL σ g < 100000)
def bC (σ : St) (g S p : Nat) : Nat := (bm σ (gV σ g) (cC σ g) S p (cM σ g)).2.toNat
/-- what is made and where the walk stands, behind k passes -/
def tr (σ : St) (g : Nat) : Nat → Nat × Nat
  | 0 => (0, 0)
  | k + 1 => ((tr σ g k).1 ||| 2 ^ (cC σ g (bC σ g (tr σ g k).1 (tr σ g k).2)).2, tt σ (cC σ g (bC σ g (tr σ g k).1 (tr σ g k).2)).1)
def wP (σ : St) (g k : Nat) : Nat := (cC σ g (bC σ g (tr σ g k).1 (tr σ g k).2)).1
theorem uns_in {σ : St} {g k x : Nat} (h : x ∈ uns σ g k) : x / 2 < k ∧ inG σ (x / 2) g = true ∧ (σ.2 13 (x / 2) = 0 → x % 2 = 0) := by
  induction k with
  | zero => exact nomatch h
  | succ k ih =>
    rcases List.mem_append.mp h with h | h
    · obtain ⟨h1, h2⟩ := ih h
      exact ⟨by omega, h2⟩
    · unfold ua at h
      by_cases e : inG σ k g = true
      · rw [if_pos e] at h
        by_cases e2 : σ.2 13 k = 0
        · rw [if_pos e2] at h
          split at h
          · rw [List.mem_singleton] at h
            subst h
            rw [show 2 * k / 2 = k by omega]
            exact ⟨by omega, e, fun _ => by omega⟩
          · exact nomatch h
        · rw [if_neg e2] at h
          rcases List.mem_append.mp h with h | h
          · split at h
            · rw [List.mem_singleton] at h
              subst h
              rw [show 2 * k / 2 = k by omega]
              exact ⟨by omega, e, fun _ => by omega⟩
            · exact nomatch h
          · split at h
            · rw [List.mem_singleton] at h
              subst h
              rw [show (2 * k + 1) / 2 = k by omega]
              exact ⟨by omega, e, fun hh => absurd hh e2⟩
            · exact nomatch h
      · rw [if_neg e] at h; exact nomatch h
theorem ua_len (σ : St) (g s : Nat) : (ua σ g s).length ≤ 2 := by
  unfold ua
  split
  · split
    · split <;> simp
    · split <;> split <;> simp
  · simp
theorem uns_len (σ : St) (g k : Nat) : (uns σ g k).length ≤ 2 * k := by
  induction k with
  | zero => exact Nat.le_refl _
  | succ k ih =>
    have := ua_len σ g k
    simp only [uns, List.length_append]
    omega
theorem getD_mem {α : Type} {l : List α} {k : Nat} {d : α} (h : k < l.length) : l.getD k d ∈ l := by
  rw [List.getD_eq_getElem?_getD, List.getElem?_eq_getElem h]
  exact List.getElem_mem h
theorem uU_in {σ : St} {g k : Nat} (h : k < uN σ g) : uU σ g k / 2 < σ.1 1 ∧ inG σ (uU σ g k / 2) g = true ∧ (σ.2 13 (uU σ g k / 2) = 0 → uU σ g k % 2 = 0) := uns_in (getD_mem h)
theorem chl_in {σ : St} {U : Nat → Nat} {n : Nat} {c : Nat × Nat} (h : c ∈ chl σ U n) : c.2 < n ∧ (c.1 = U c.2 ∨ (c.1 = U c.2 + 1 ∧ σ.2 13 (U c.2 / 2) = 0)) := by
  induction n with
  | zero => exact nomatch h
  | succ n ih =>
    rcases List.mem_append.mp h with h | h
    · obtain ⟨h1, h2⟩ := ih h
      exact ⟨by omega, h2⟩
    · rcases List.mem_append.mp h with h | h
      · rw [List.mem_singleton] at h
        subst h
        exact ⟨by show n < n + 1; omega, Or.inl rfl⟩
      · split at h
        · next e =>
          rw [List.mem_singleton] at h
          subst h
          exact ⟨by show n < n + 1; omega, Or.inr ⟨rfl, e⟩⟩
        · exact nomatch h
theorem chl_len (σ : St) (U : Nat → Nat) (n : Nat) : (chl σ U n).length ≤ 2 * n := by
  induction n with
  | zero => exact Nat.le_refl _
  | succ n ih =>
    simp only [chl, List.length_append]
    split <;> simp only [List.length_cons, List.length_nil] <;> omega
theorem cC_in {σ : St} {g k : Nat} (h : k < cM σ g) : (cC σ g k).2 < uN σ g ∧ (cC σ g k).1 / 2 < σ.1 1 ∧ inG σ ((cC σ g k).1 / 2) g = true := by
  obtain ⟨h1, h2⟩ := chl_in (getD_mem (d := (0, 0)) h)
  have h3 := uU_in h1
  refine ⟨h1, ?_⟩
  unfold cC chs
  rcases h2 with h2 | ⟨h2, h4⟩
  · rw [h2]; exact ⟨h3.1, h3.2.1⟩
  · have h5 := h3.2.2 h4
    rw [h2, show (uU σ g ((chl σ (uU σ g) (uN σ g)).getD k (0, 0)).2 + 1) / 2 = uU σ g ((chl σ (uU σ g) (uN σ g)).getD k (0, 0)).2 / 2 by omega]
    exact ⟨h3.1, h3.2.1⟩
theorem gV_eq {σ : St} {g S p : Nat} (hn : uN σ g ≤ 8) (hS : S < 2 ^ uN σ g - 1) : gV σ g S p = (bm σ (gV σ g) (cC σ g) S p (cM σ g)).1 := vV_eq hn (fun k hk => (cC_in hk).1) hS
theorem gV_all {σ : St} {g p : Nat} : gV σ g (2 ^ uN σ g - 1) p = dst σ p 0 := vV_all
theorem gV_le {σ : St} {g S p : Nat} : gV σ g S p ≤ 100000 := vV_le
theorem fr_lt {σ : St} (hS : StOk σ) {p : Nat} (h : p / 2 < σ.1 1) : fr σ p < σ.1 0 ∧ tt σ p < σ.1 0 ∧ 1 ≤ ln σ p ∧ ln σ p ≤ 99 := by
  obtain ⟨h1, h2, h3, h4, h5⟩ := hS _ h
  unfold fr tt ln
  split <;> exact ⟨by omega, by omega, h4, h5⟩
end WALK
