/-! The village as numbers: both the class and the reference are held against this. -/
section STATE
/-- scalars: 0 places, 1 streets, 2 houses, 3 rounds, 4 parcels, 5 bag, 6 clock, 7 late, 8 taken, 9 walked; rows: 1 first, 2 second, 3 length, 4 round + 1, 5 street of a house, 6 side, 7 offset, 8 letters, 9 limit, 10 house of a parcel, 11 weight, 12 deadline, 13 wide, 14 delivered -/
abbrev St : Type := (Nat → Nat) × (Nat → Nat → Nat)
def stS (σ : St) (j v : Nat) : St := (va_up σ.1 j v, σ.2)
def stF (σ : St) (k : Nat) (F : Nat → Nat) : St := (σ.1, va_up σ.2 k F)
def stA (σ : St) (k i v : Nat) : St := stF σ k (va_up (σ.2 k) i v)
/-- the scalar that counts a row's places in use -/
def nOf (k : Nat) : Nat := match k with | 1 => 1 | 2 => 1 | 3 => 1 | 4 => 1 | 13 => 1 | 5 => 2 | 6 => 2 | 7 => 2 | 8 => 10 | 9 => 3 | _ => 4
def vz (k v : Nat) : Int32 := if k = 4 then iz ((v : Int) - 1) else iz (v : Int)
/-- what always holds; T: the calls so far -/
def Ok (σ : St) (T : Nat) : Prop := (1 ≤ σ.1 0 ∧ σ.1 0 ≤ 10 ∧ σ.1 1 ≤ 16 ∧ σ.1 2 ≤ 30 ∧ σ.1 3 ≤ 4 ∧ σ.1 4 ≤ 20 ∧ σ.1 5 ≤ 99 ∧ σ.1 6 ≤ 700 * T ∧ σ.1 7 ≤ T ∧ σ.1 8 ≤ T ∧ σ.1 7 ≤ σ.1 8 ∧ σ.1 9 ≤ 10000 * T ∧ T ≤ 512 ∧ σ.1 10 = 30 ∧ ∀ i, σ.1 2 ≤ i → σ.2 8 i = 0) ∧
  (∀ i, i < σ.1 1 → σ.2 1 i < σ.1 0 ∧ σ.2 2 i < σ.1 0 ∧ σ.2 1 i ≠ σ.2 2 i ∧ 1 ≤ σ.2 3 i ∧ σ.2 3 i ≤ 99 ∧ σ.2 13 i ≤ 1 ∧ σ.2 4 i ≤ σ.1 3) ∧
  (∀ h, h < σ.1 2 → σ.2 5 h < σ.1 1 ∧ σ.2 6 h ≤ 1 ∧ σ.2 7 h ≤ σ.2 3 (σ.2 5 h) ∧ σ.2 8 h ≤ 99) ∧
  (∀ r, r < σ.1 3 → 1 ≤ σ.2 9 r ∧ σ.2 9 r ≤ 999) ∧
  (∀ q, q < σ.1 4 → σ.2 10 q < σ.1 2 ∧ 1 ≤ σ.2 11 q ∧ σ.2 11 q ≤ 99 ∧ 1 ≤ σ.2 12 q ∧ σ.2 12 q ≤ 999 ∧ σ.2 14 q ≤ 1)
theorem Ok.h8 {σ : St} {T h : Nat} (hO : Ok σ T) (hh : h < σ.1 2) : h < σ.1 (nOf 8) := by
  obtain ⟨⟨-, -, -, p2, -, -, -, -, -, -, -, -, -, p10, -⟩, -⟩ := hO
  show h < σ.1 10; omega
/-- how many of the first n -/
def cnt (P : Nat → Bool) : Nat → Nat
  | 0 => 0
  | n + 1 => cnt P n + (if P n then 1 else 0)
theorem cnt_le (P : Nat → Bool) : ∀ n, cnt P n ≤ n
  | 0 => Nat.le_refl 0
  | n + 1 => by
    have := cnt_le P n
    simp only [cnt]
    split <;> omega
def any (P : Nat → Bool) : Nat → Bool
  | 0 => false
  | n + 1 => any P n || P n
theorem any_iff (P : Nat → Bool) : ∀ n, any P n = true ↔ ∃ i, i < n ∧ P i = true
  | 0 => by simp [any]
  | n + 1 => by
    simp only [any, Bool.or_eq_true, any_iff P n]
    constructor
    · rintro (⟨i, h1, h2⟩ | h)
      · exact ⟨i, by omega, h2⟩
      · exact ⟨n, by omega, h⟩
    · rintro ⟨i, h1, h2⟩
      by_cases e : i = n
      · subst e; exact Or.inr h2
      · exact Or.inl ⟨i, by omega, h2⟩
theorem any_f (P : Nat → Bool) (n : Nat) (h : ∀ i, i < n → P i = false) : any P n = false := by
  cases e : any P n with
  | false => rfl
  | true =>
    obtain ⟨i, h1, h2⟩ := (any_iff P n).mp e
    rw [h i h1] at h2; cases h2
theorem any_t (P : Nat → Bool) {n i : Nat} (h : i < n) (h2 : P i = true) : any P n = true := (any_iff P n).mpr ⟨i, h, h2⟩
theorem cnt_any (P : Nat → Bool) : ∀ n, (0 < cnt P n ↔ any P n = true)
  | 0 => by simp [cnt, any]
  | n + 1 => by
    simp only [cnt, any, Bool.or_eq_true, ← cnt_any P n]
    cases P n <;> simp
/-- a parcel for the rounds -/
def light (σ : St) (q : Nat) : Bool := σ.2 14 q == 0 && decide (σ.2 11 q ≤ σ.1 5)
def forH (σ : St) (h q : Nat) : Bool := σ.2 10 q == h && light σ q
/-- a house is due -/
def post (σ : St) (h : Nat) : Bool := decide (0 < σ.2 8 h) || any (forH σ h) (σ.1 4)
/-- a street belongs to the rounds g -/
def inG (σ : St) (s g : Nat) : Bool := σ.2 4 s != 0 && g.testBit (σ.2 4 s - 1)
def dueB (σ : St) (g h : Nat) : Bool := inG σ (σ.2 5 h) g && post σ h
def dueN (σ : St) (g : Nat) : Nat := cnt (dueB σ g) (σ.1 2)
def lightB (σ : St) (g q : Nat) : Bool := inG σ (σ.2 5 (σ.2 10 q)) g && light σ q
def lightN (σ : St) (g : Nat) : Nat := cnt (lightB σ g) (σ.1 4)
def rankB (σ : St) (h m : Nat) : Bool := σ.2 5 m == σ.2 5 h && σ.2 6 m == σ.2 6 h && (decide (σ.2 7 m < σ.2 7 h) || (σ.2 7 m == σ.2 7 h && decide (m < h)))
def rank (σ : St) (h : Nat) : Nat := cnt (rankB σ h) (σ.1 2)
end STATE
section REFM
/-- the reference's rows: which there are, their kinds and lengths -/
def arK : List Nat := [1, 2, 3, 4, 5, 6, 7, 8, 9, 10, 11, 12, 13, 14, 25, 26, 28, 29, 31, 32, 35]
def arT (k : Nat) : Nat := if k = 13 ∨ k = 14 then 12 else 11
def arL (k : Nat) : Nat := match k with | 1 => 16 | 2 => 16 | 3 => 16 | 4 => 16 | 13 => 16 | 5 => 30 | 6 => 30 | 7 => 30 | 8 => 30 | 9 => 4 | 25 => 100 | 26 => 64 | 28 => 2560 | 29 => 8 | 31 => 16 | 32 => 16 | 35 => 128 | _ => 20
/-- the reference in the memory: Y 0 its object, Y k its row of the field k -/
def RM (M : Mem) (Y : Nat → Nat) (σ : St) : Prop := mC M (Y 0) = some (9, 0) ∧ (∀ k, k ∈ arK → mR M (576 + k) (Y 0) = some (Y k) ∧ mC M (Y k) = some (arT k, arL k)) ∧ (∀ k j, k ∈ arK → j ∈ arK → Y k = Y j → k = j) ∧
  (∀ j, j < 9 → mI M (591 + j) (Y 0) = iz (σ.1 j : Int)) ∧ mJ M 600 (Y 0) = lN (σ.1 9) ∧ ∀ k, 1 ≤ k → k < 15 → ∀ i, i < σ.1 (nOf k) → mA M (Y k) i = vz k (σ.2 k i)
theorem RM.o {M : Mem} {Y : Nat → Nat} {σ : St} (h : RM M Y σ) : mC M (Y 0) = some (9, 0) := h.1
theorem RM.r {M : Mem} {Y : Nat → Nat} {σ : St} (h : RM M Y σ) (k : Nat) (hk : k ∈ arK := by decide) : mR M (576 + k) (Y 0) = some (Y k) := (h.2.1 k hk).1
theorem RM.c {M : Mem} {Y : Nat → Nat} {σ : St} (h : RM M Y σ) (k : Nat) (hk : k ∈ arK := by decide) : mC M (Y k) = some (arT k, arL k) := (h.2.1 k hk).2
theorem RM.s {M : Mem} {Y : Nat → Nat} {σ : St} (h : RM M Y σ) (j : Nat) (hj : j < 9 := by decide) : mI M (591 + j) (Y 0) = iz (σ.1 j : Int) := h.2.2.2.1 j hj
theorem RM.j {M : Mem} {Y : Nat → Nat} {σ : St} (h : RM M Y σ) : mJ M 600 (Y 0) = lN (σ.1 9) := h.2.2.2.2.1
theorem RM.a {M : Mem} {Y : Nat → Nat} {σ : St} (h : RM M Y σ) (k i : Nat) (hi : i < σ.1 (nOf k)) (h1 : 1 ≤ k := by decide) (h2 : k < 15 := by decide) : mA M (Y k) i = vz k (σ.2 k i) := h.2.2.2.2.2 k h1 h2 i hi
theorem RM.v {M : Mem} {Y : Nat → Nat} {σ : St} (h : RM M Y σ) (k i : Nat) (hi : i < σ.1 (nOf k)) (h1 : 1 ≤ k := by decide) (h2 : k < 15 := by decide) (h3 : k ≠ 4 := by decide) : mA M (Y k) i = iz (σ.2 k i : Int) := (h.a k i hi h1 h2).trans (if_neg h3)
theorem RM.v4 {M : Mem} {Y : Nat → Nat} {σ : St} (h : RM M Y σ) (i : Nat) (hi : i < σ.1 1) : mA M (Y 4) i = iz ((σ.2 4 i : Int) - 1) := (h.a 4 i hi).trans (if_pos rfl)
theorem RM.cc {M : Mem} {Y : Nat → Nat} {σ : St} (h : RM M Y σ) (k t z : Nat) (hk : k ∈ arK ∧ arT k = t ∧ arL k = z := by decide) : mC M (Y k) = some (t, z) := by
  rw [← hk.2.1, ← hk.2.2]; exact h.c k hk.1
theorem RM.ne {M : Mem} {Y : Nat → Nat} {σ : St} (h : RM M Y σ) {k j : Nat} (hkj : k ≠ j) (hk : k ∈ arK := by decide) (hj : j ∈ arK := by decide) : Y k ≠ Y j := fun e => hkj (h.2.2.1 k j hk hj e)
theorem nOf_0 (k : Nat) : nOf k ≠ 0 := by unfold nOf; split <;> decide
theorem arT_ge (k : Nat) : 11 ≤ arT k ∧ arT k ≤ 12 := by unfold arT; split <;> omega
theorem RM.o_ne {M : Mem} {Y : Nat → Nat} {σ : St} (h : RM M Y σ) {k : Nat} (hk : k ∈ arK) : Y k ≠ Y 0 := fun e => by
  have h1 := h.c k hk
  rw [e, h.o] at h1
  have := arT_ge k
  have h2 : (9 : Nat) = arT k := congrArg (fun o : Option (Nat × Nat) => (o.getD (0, 0)).1) h1
  omega
/-- the cells of the reference stay -/
theorem RM.sm {M M' : Mem} {Y : Nat → Nat} {σ : St} (h : RM M Y σ) (h0 : Sm M M' (Y 0)) (ha : ∀ k, k ∈ arK → Sm M M' (Y k)) : RM M' Y σ :=
  ⟨h0.c h.o, fun k hk => ⟨h0.r (h.r k hk), (ha k hk).c (h.c k hk)⟩, h.2.2.1, fun j hj => h0.i (h.s j hj), h0.j h.j, fun k h1 h2 i hi => by
    have hk : k ∈ arK := by
      have : ∀ k, 1 ≤ k → k < 15 → k ∈ arK := by
        intro k h1 h2
        match k, h1, h2 with
        | 1, _, _ | 2, _, _ | 3, _, _ | 4, _, _ | 5, _, _ | 6, _, _ | 7, _, _ | 8, _, _ | 9, _, _ | 10, _, _ | 11, _, _ | 12, _, _ | 13, _, _ | 14, _, _ => decide
      exact this k h1 h2
    rw [(ha k hk).aa]; exact h.a k i hi h1 h2⟩
/-- a number of the object that is no scalar of the village is written -/
theorem RM.w {M : Mem} {Y : Nat → Nat} {σ : St} (h : RM M Y σ) {f : Nat} {x : Int32} (hf : f < 591 ∨ 600 ≤ f := by decide) : RM (sI M f (upd (mI M f) (Y 0) x)) Y σ := by
  refine ⟨h.o, fun k hk => h.2.1 k hk, h.2.2.1, fun j hj => ?_, h.j, h.2.2.2.2.2⟩
  show mI (sI M f _) (591 + j) (Y 0) = _
  rw [mI_sIn _ _ _ _ (by omega)]; exact h.s j hj
/-- a row that is no row of the village is written -/
theorem RM.x {M : Mem} {Y : Nat → Nat} {σ : St} (h : RM M Y σ) {k : Nat} {K : Nat → Int32} (hk : 15 ≤ k := by decide) (hk2 : k ∈ arK := by decide) : RM (sA M (Y k) K) Y σ := by
  refine ⟨h.o, fun j hj => h.2.1 j hj, h.2.2.1, h.2.2.2.1, h.j, fun j h1 h2 i hi => ?_⟩
  have hj : j ∈ arK := by
    have : ∀ k, 1 ≤ k → k < 15 → k ∈ arK := by
      intro k h1 h2
      match k, h1, h2 with
      | 1, _, _ | 2, _, _ | 3, _, _ | 4, _, _ | 5, _, _ | 6, _, _ | 7, _, _ | 8, _, _ | 9, _, _ | 10, _, _ | 11, _, _ | 12, _, _ | 13, _, _ | 14, _, _ => decide
    exact this j h1 h2
  show mA (sA M (Y k) K) (Y j) i = _
  rw [mA_sAn _ _ _ _ (h.ne (by omega) hj hk2)]; exact h.a j i hi h1 h2
/-- a scalar is written -/
theorem RM.ws {M : Mem} {Y : Nat → Nat} {σ : St} (h : RM M Y σ) (j v : Nat) {f : Nat} (hf : f = 591 + j) (hj : j < 9) (hgrow : ∀ k, 1 ≤ k → k < 15 → ∀ i, i < (stS σ j v).1 (nOf k) → mA M (Y k) i = vz k (σ.2 k i)) : RM (sI M f (upd (mI M f) (Y 0) (iz (v : Int)))) Y (stS σ j v) := by
  subst hf
  refine ⟨h.o, fun k hk => h.2.1 k hk, h.2.2.1, fun i hi => ?_, ?_, hgrow⟩
  · show mI (sI M (591 + j) _) (591 + i) (Y 0) = iz ((va_up σ.1 j v i : Nat) : Int)
    by_cases e : i = j
    · subst e; rw [mI_sI, up_s]; simp [upd]
    · rw [mI_sIn _ _ _ _ (by omega), up_n _ _ e]; exact h.s i hi
  · show mJ M 600 (Y 0) = lN (va_up σ.1 j v 9)
    rw [up_n _ _ (by omega)]; exact h.j
theorem arK_of : ∀ k, 1 ≤ k → k < 15 → k ∈ arK := by
  intro k h1 h2
  match k, h1, h2 with
  | 1, _, _ | 2, _, _ | 3, _, _ | 4, _, _ | 5, _, _ | 6, _, _ | 7, _, _ | 8, _, _ | 9, _, _ | 10, _, _ | 11, _, _ | 12, _, _ | 13, _, _ | 14, _, _ => decide
/-- one place of a row holds what the village says -/
def RAt (M : Mem) (Y : Nat → Nat) (σ : St) (k i : Nat) : Prop := mA M (Y k) i = vz k (σ.2 k i)
theorem RAt.self {M : Mem} {Y : Nat → Nat} {σ : St} (k i v : Nat) : RAt (sA M (Y k) (upd (mA M (Y k)) i (vz k v))) Y (stA σ k i v) k i := by
  show mA (sA M (Y k) _) (Y k) i = vz k (va_up σ.2 k (va_up (σ.2 k) i v) k i)
  rw [mA_sA, up_s, up_s]; simp [upd]
theorem RAt.oth {M : Mem} {Y : Nat → Nat} {σ : St} {k i v j i2 : Nat} (h : RAt M Y σ j i2) (hY : Y j ≠ Y k) (hj : j ≠ k) : RAt (sA M (Y k) (upd (mA M (Y k)) i (vz k v))) Y (stA σ k i v) j i2 := by
  show mA (sA M (Y k) _) (Y j) i2 = vz j (va_up σ.2 k (va_up (σ.2 k) i v) j i2)
  rw [mA_sAn _ _ _ _ hY, up_n _ _ hj]; exact h
theorem RM.wa {M : Mem} {Y : Nat → Nat} {σ : St} (h : RM M Y σ) (k i v : Nat) (h1 : 1 ≤ k := by decide) (h2 : k < 15 := by decide) : RM (sA M (Y k) (upd (mA M (Y k)) i (vz k v))) Y (stA σ k i v) := by
  refine ⟨h.o, fun j hj => h.2.1 j hj, h.2.2.1, h.2.2.2.1, h.j, fun j g1 g2 i2 hi => ?_⟩
  by_cases e : j = k
  · subst e
    show mA (sA M (Y j) _) (Y j) i2 = vz j (va_up σ.2 j (va_up (σ.2 j) i v) j i2)
    rw [mA_sA, up_s]
    by_cases e2 : i2 = i
    · subst e2; rw [up_s]; simp [upd]
    · rw [up_n _ _ e2]; simp only [upd, if_neg e2]; exact h.a j i2 hi g1 g2
  · exact RAt.oth (h.a j i2 hi g1 g2) (h.ne e (arK_of j g1 g2) (arK_of k h1 h2)) e
/-- a whole row changes -/
theorem RM.wf {M : Mem} {Y : Nat → Nat} {σ : St} (h : RM M Y σ) (k : Nat) {K : Nat → Int32} {F : Nat → Nat} (hK : ∀ i, i < σ.1 (nOf k) → K i = vz k (F i)) (h1 : 1 ≤ k := by decide) (h2 : k < 15 := by decide) : RM (sA M (Y k) K) Y (stF σ k F) := by
  refine ⟨h.o, fun j hj => h.2.1 j hj, h.2.2.1, h.2.2.2.1, h.j, fun j g1 g2 i2 hi => ?_⟩
  by_cases e : j = k
  · subst e
    show mA (sA M (Y j) _) (Y j) i2 = vz j (va_up σ.2 j F j i2)
    rw [mA_sA, up_s]; exact hK i2 hi
  · show mA (sA M (Y k) _) (Y j) i2 = vz j (va_up σ.2 k F j i2)
    rw [mA_sAn _ _ _ _ (h.ne e (arK_of j g1 g2) (arK_of k h1 h2)), up_n _ _ e]; exact h.a j i2 hi g1 g2
/-- a row's count grows by one -/
theorem RM.grow {M : Mem} {Y : Nat → Nat} {σ : St} (h : RM M Y σ) (j : Nat) {f : Nat} {z : Int} (hf : f = 591 + j) (hz : z = ((σ.1 j + 1 : Nat) : Int)) (hj : j < 9) (hx : ∀ k, 1 ≤ k → k < 15 → nOf k = j → RAt M Y σ k (σ.1 j)) : RM (sI M f (upd (mI M f) (Y 0) (iz z))) Y (stS σ j (σ.1 j + 1)) := by
  subst hz
  refine h.ws j (σ.1 j + 1) hf hj (fun k h1 h2 i hi => ?_)
  by_cases e : nOf k = j
  · have hi2 : i < σ.1 j + 1 := by
      have : (stS σ j (σ.1 j + 1)).1 (nOf k) = σ.1 j + 1 := by rw [e]; exact up_s _ _ _
      omega
    by_cases e2 : i = σ.1 j
    · rw [e2]; exact hx k h1 h2 e
    · exact h.a k i (by rw [e]; omega) h1 h2
  · have : (stS σ j (σ.1 j + 1)).1 (nOf k) = σ.1 (nOf k) := up_n _ _ e
    exact h.a k i (by omega) h1 h2
theorem RM.wj {M : Mem} {Y : Nat → Nat} {σ : St} (h : RM M Y σ) (v : Nat) : RM (sJ M 600 (va_up (mJ M 600) (Y 0) (lN v))) Y (stS σ 9 v) := by
  refine ⟨h.o, fun k hk => h.2.1 k hk, h.2.2.1, fun i hi => ?_, ?_, fun k h1 h2 i hi => ?_⟩
  · show mI M (591 + i) (Y 0) = iz ((va_up σ.1 9 v i : Nat) : Int)
    rw [up_n _ _ (by omega)]; exact h.s i hi
  · show mJ (sJ M 600 _) 600 (Y 0) = lN (va_up σ.1 9 v 9)
    rw [mJ_sJ, up_s, up_s]
  · have : (stS σ 9 v).1 (nOf k) = σ.1 (nOf k) := up_n _ _ (by unfold nOf; split <;> decide)
    exact h.a k i (by omega) h1 h2
/-- what the reference's methods leave alone -/
def FrM (Y : Nat → Nat) (M M' : Mem) : Prop := mN M' = mN M ∧ ∀ b, b ≠ Y 0 → (∀ k, k ∈ arK → b ≠ Y k) → Sm M M' b
theorem FrM.rf {Y : Nat → Nat} {M : Mem} : FrM Y M M := ⟨rfl, fun _ _ _ => Sm.rf⟩
theorem FrM.tr {Y : Nat → Nat} {M M' M'' : Mem} (h : FrM Y M M') (k : FrM Y M' M'') : FrM Y M M'' := ⟨k.1.trans h.1, fun b h0 h1 => (h.2 b h0 h1).tr (k.2 b h0 h1)⟩
theorem FrM.i {Y : Nat → Nat} {M : Mem} {f : Nat} {x : Int32} : FrM Y M (sI M f (upd (mI M f) (Y 0) x)) := ⟨rfl, fun _ h0 _ => Sm.Iu h0⟩
theorem FrM.j {Y : Nat → Nat} {M : Mem} {f : Nat} {x : Int64} : FrM Y M (sJ M f (va_up (mJ M f) (Y 0) x)) := ⟨rfl, fun _ h0 _ => Sm.Ju h0⟩
theorem FrM.a {Y : Nat → Nat} {M : Mem} (k : Nat) {K : Nat → Int32} (hk : k ∈ arK := by decide) : FrM Y M (sA M (Y k) K) := ⟨rfl, fun _ _ h1 => Sm.A (h1 k hk)⟩
/-- behind a call of the reference: the village, what it has thrown, what it left alone -/
def MP (Y : Nat → Nat) (M : Mem) (σ : St) (c : Nat) (M' : Mem) : Prop := RM M' Y σ ∧ mI M' 576 (Y 0) = iz (c : Int) ∧ FrM Y M M'
/-- behind the stores of a new thing's rows -/
def AP (Y : Nat → Nat) (M : Mem) (σ : St) (n : Nat) (l : List Nat) (M' : Mem) : Prop := MP Y M σ 0 M' ∧ ∀ k ∈ l, RAt M' Y σ k n
theorem ap_0 {Y : Nat → Nat} {M M' : Mem} {σ : St} (n : Nat) (h : MP Y M σ 0 M') : AP Y M σ n [] M' := ⟨h, fun _ h => nomatch h⟩
theorem ap_st {Y : Nat → Nat} {M M1 : Mem} {σ : St} {l : List Nat} {x : Int32} {k i v : Nat} (h : AP Y M σ i l M1) (hv : x = vz k v := by rfl) (hl : ∀ p ∈ l, p ≠ k ∧ p ∈ arK := by decide) (h1 : 1 ≤ k := by decide) (h2 : k < 15 := by decide) : AP Y M (stA σ k i v) i (k :: l) (sA M1 (Y k) (upd (mA M1 (Y k)) i x)) := by
  subst hv
  have hk := arK_of k h1 h2
  refine ⟨⟨h.1.1.wa k i v h1 h2, h.1.2.1, h.1.2.2.tr (FrM.a k hk)⟩, fun p hp => ?_⟩
  rcases List.mem_cons.mp hp with e | e
  · rw [e]; exact RAt.self k i v
  · exact (h.2 p e).oth (h.1.1.ne (hl p e).1 (hl p e).2 hk) (hl p e).1
theorem ap_grow {Y : Nat → Nat} {M M1 : Mem} {σ : St} {l : List Nat} {n : Nat} (h : AP Y M σ n l M1) (j : Nat) {f : Nat} {z : Int} (hl : ∀ k, k < 15 → nOf k = j → k ∈ l ∨ k = 0 := by decide) (hn : n = σ.1 j := by rfl) (hf : f = 591 + j := by rfl) (hz : z = ((n + 1 : Nat) : Int) := by rfl) (hj : j < 9 := by decide) : MP Y M (stS σ j (n + 1)) 0 (sI M1 f (upd (mI M1 f) (Y 0) (iz z))) := by
  subst hn
  exact ⟨h.1.1.grow j hf hz hj (fun k h1 h2 h3 => h.2 k ((hl k h2 h3).resolve_right (by omega))), (congrFun (mI_sIn _ _ _ _ (by omega)) _).trans h.1.2.1, h.1.2.2.tr FrM.i⟩
theorem bz_vz (w : Bool) : bz w = vz 13 (if w then 1 else 0) := by cases w <;> rfl
end REFM
