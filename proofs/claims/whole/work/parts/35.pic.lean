/-! The class in the memory. -/
section PIC
/-- ghosts: fixed addresses (0 the object, 1 to 4 lists, 5 ways, 6 walk, 7 8 pairs, 9 10 direct, 11 12 least, 13 14 reached, 15 choices, 16 17 rest, 18 made, 19 stops); elements (1 streets, 2 houses, 3 rounds, 4 parcels, 5 passes); rows of the lists 1 to 4; their lengths -/
abbrev CE : Type := (Nat → Nat) × (Nat → Nat → Nat) × (Nat → Nat) × (Nat → Nat)
def eX (C : CE) : Nat → Nat := C.1
def eA (C : CE) : Nat → Nat → Nat := C.2.1
def eE (C : CE) : Nat → Nat := C.2.2.1
def eC (C : CE) : Nat → Nat := C.2.2.2
def xT (k : Nat) : Nat := match k with | 0 => 8 | 5 => 7 | 6 => 6 | 7 => 0 | 9 => 0 | 11 => 0 | 13 => 0 | 16 => 0 | 8 => 11 | 10 => 11 | 12 => 11 | 14 => 11 | 17 => 11 | 19 => 11 | _ => 10
def xL (k : Nat) : Nat := match k with | 8 => 16 | 10 => 100 | 12 => 100 | 14 => 10 | 17 => 2560 | 19 => 90 | _ => 0
def xF : List (Nat × Nat × Nat) := [(0, 512, 1), (0, 513, 2), (0, 514, 3), (0, 515, 4), (0, 516, 5), (0, 517, 6), (0, 518, 7), (5, 448, 9), (5, 449, 11), (5, 450, 13), (6, 384, 5), (6, 385, 15), (6, 386, 16), (6, 387, 18), (6, 388, 19), (7, 2, 8), (9, 2, 10), (11, 2, 12), (13, 2, 14), (16, 2, 17)]
def xG : List (Nat × Nat × Nat) := [(7, 4, 4), (9, 10, 10), (11, 10, 10), (13, 1, 10), (16, 256, 10)]
def eT (j : Nat) : Nat := match j with | 1 => 5 | 2 => 1 | 3 => 4 | 4 => 2 | _ => 3
/-- the class's numbers for what has no way -/
def cp (n : Nat) : Nat := if n < 100000 then n else 1000000
def ld (σ : St) (a b : Nat) : Nat := cp (dst σ a b)
def dv (σ : St) (a b : Nat) : Nat := cp (shh σ a b)
/-- the fixed cells -/
def FP0 (M : Mem) (X : Nat → Nat) : Prop := (∀ k, k < 20 → mC M (X k) = some (xT k, xL k)) ∧ (∀ q ∈ xF, mR M q.2.1 (X q.1) = some (X q.2.2)) ∧ (∀ q ∈ xG, mI M 0 (X q.1) = iz (q.2.1 : Int) ∧ mI M 1 (X q.1) = iz (q.2.2 : Int)) ∧ ∀ i j, i < 20 → j < 20 → X i = X j → i = j
def SP0 (M : Mem) (C : CE) (σ : St) : Prop := mI M 519 (eX C 0) = iz (σ.1 0 : Int) ∧ mI M 520 (eX C 0) = iz (σ.1 5 : Int) ∧ mI M 521 (eX C 0) = iz (σ.1 6 : Int) ∧ mI M 522 (eX C 0) = iz (σ.1 8 : Int) ∧ mI M 523 (eX C 0) = iz (σ.1 7 : Int) ∧ mJ M 524 (eX C 0) = lN (σ.1 9)
def StreetP (M : Mem) (C : CE) (σ : St) (s : Nat) : Prop := mI M 320 (eA C 1 s) = iz (s : Int) ∧ mI M 321 (eA C 1 s) = iz (σ.2 1 s : Int) ∧ mI M 322 (eA C 1 s) = iz (σ.2 3 s : Int) ∧ mI M 323 (eA C 1 s) = iz (σ.2 13 s : Int) ∧ mR M 324 (eA C 1 s) = some (eA C 5 (2 * s)) ∧ mR M 325 (eA C 1 s) = some (eA C 5 (2 * s + 1)) ∧ mI M 326 (eA C 1 s) = iz ((σ.2 4 s : Int) - 1)
def PassP (M : Mem) (C : CE) (σ : St) (p : Nat) : Prop := mC M (eA C 5 p) = some (3, 0) ∧ mI M 192 (eA C 5 p) = iz (p : Int) ∧ mI M 193 (eA C 5 p) = iz (fr σ p : Int) ∧ mI M 194 (eA C 5 p) = iz (tt σ p : Int) ∧ mI M 195 (eA C 5 p) = iz (ln σ p : Int)
def HouseP (M : Mem) (C : CE) (σ : St) (h : Nat) : Prop := mI M 64 (eA C 2 h) = iz (h : Int) ∧ mR M 65 (eA C 2 h) = some (eA C 1 (σ.2 5 h)) ∧ mI M 66 (eA C 2 h) = iz (σ.2 6 h : Int) ∧ mI M 67 (eA C 2 h) = iz (σ.2 7 h : Int) ∧ mI M 68 (eA C 2 h) = iz (σ.2 8 h : Int)
def ParcelP (M : Mem) (C : CE) (σ : St) (q : Nat) : Prop := mR M 128 (eA C 4 q) = some (eA C 2 (σ.2 10 q)) ∧ mI M 129 (eA C 4 q) = iz (σ.2 11 q : Int) ∧ mI M 130 (eA C 4 q) = iz (σ.2 12 q : Int) ∧ mI M 131 (eA C 4 q) = iz (σ.2 14 q : Int)
def ListP (G : GC) (M : Mem) (C : CE) (σ : St) (j : Nat) : Prop := LL G M (eX C j) (eE C j) (σ.1 j) (eC C j) ∧ eC C j ≤ 100 ∧ ∀ i, i < σ.1 j → mQ M (eE C j) i = some (eA C j i) ∧ mC M (eA C j i) = some (eT j, 0)
def InjP (C : CE) (σ : St) : Prop := (∀ j, 1 ≤ j → j ≤ 4 → ∀ a b, a < σ.1 j → b < σ.1 j → eA C j a = eA C j b → a = b) ∧ (∀ p q, p / 2 < σ.1 1 → q / 2 < σ.1 1 → eA C 5 p = eA C 5 q → p = q) ∧ ∀ j k, 1 ≤ j → j ≤ 4 → 1 ≤ k → k ≤ 4 → j ≠ k → 0 < eC C j → 0 < eC C k → eE C j ≠ eE C k
def GridP (M : Mem) (C : CE) (σ : St) : Prop := (∀ a b, a < 10 → b < 10 → mA M (eX C 10) (10 * a + b) = iz (dv σ a b : Int)) ∧ ∀ a b, a < 10 → b < 10 → mA M (eX C 12) (10 * a + b) = iz (ld σ a b : Int)
/-- all but the walk's lists -/
def XB (G : GC) (M : Mem) (C : CE) (σ : St) : Prop := FP0 M (eX C) ∧ SP0 M C σ ∧ (∀ j, 1 ≤ j → j ≤ 4 → ListP G M C σ j) ∧ (∀ s, s < σ.1 1 → StreetP M C σ s) ∧ (∀ p, p / 2 < σ.1 1 → PassP M C σ p) ∧ (∀ h, h < σ.1 2 → HouseP M C σ h) ∧ (∀ r, r < σ.1 3 → mI M 256 (eA C 3 r) = iz (σ.2 9 r : Int)) ∧ (∀ q, q < σ.1 4 → ParcelP M C σ q) ∧ InjP C σ ∧ GridP M C σ ∧ GD G
variable {G : GC} {M M' : Mem} {C : CE} {σ : St} {T : Nat}
theorem XB.x (h : XB G M C σ) (k t z : Nat) (hk : k < 20 ∧ xT k = t ∧ xL k = z := by decide) : mC M (eX C k) = some (t, z) := by
  rw [← hk.2.1, ← hk.2.2]; exact h.1.1 k hk.1
theorem XB.f (h : XB G M C σ) (a f b : Nat) (hk : (a, f, b) ∈ xF := by decide) : mR M f (eX C a) = some (eX C b) := h.1.2.1 _ hk
theorem XB.d0 (h : XB G M C σ) (a m n : Nat) (hk : (a, m, n) ∈ xG := by decide) : mI M 0 (eX C a) = iz (m : Int) := (h.1.2.2.1 _ hk).1
theorem XB.d1 (h : XB G M C σ) (a m n : Nat) (hk : (a, m, n) ∈ xG := by decide) : mI M 1 (eX C a) = iz (n : Int) := (h.1.2.2.1 _ hk).2
theorem XB.ne (h : XB G M C σ) {i j : Nat} (hij : i ≠ j) (hi : i < 20 := by decide) (hj : j < 20 := by decide) : eX C i ≠ eX C j := fun e => hij (h.1.2.2.2 i j hi hj e)
theorem XB.i519 (h : XB G M C σ) : mI M 519 (eX C 0) = iz (σ.1 0 : Int) := h.2.1.1
theorem XB.i520 (h : XB G M C σ) : mI M 520 (eX C 0) = iz (σ.1 5 : Int) := h.2.1.2.1
theorem XB.i521 (h : XB G M C σ) : mI M 521 (eX C 0) = iz (σ.1 6 : Int) := h.2.1.2.2.1
theorem XB.i522 (h : XB G M C σ) : mI M 522 (eX C 0) = iz (σ.1 8 : Int) := h.2.1.2.2.2.1
theorem XB.i523 (h : XB G M C σ) : mI M 523 (eX C 0) = iz (σ.1 7 : Int) := h.2.1.2.2.2.2.1
theorem XB.j524 (h : XB G M C σ) : mJ M 524 (eX C 0) = lN (σ.1 9) := h.2.1.2.2.2.2.2
theorem XB.l (h : XB G M C σ) (j : Nat) (hj : 1 ≤ j ∧ j ≤ 4 := by decide) : LL G M (eX C j) (eE C j) (σ.1 j) (eC C j) := (h.2.2.1 j hj.1 hj.2).1
theorem XB.cl (h : XB G M C σ) (j : Nat) (hj : 1 ≤ j ∧ j ≤ 4 := by decide) : eC C j ≤ 100 := (h.2.2.1 j hj.1 hj.2).2.1
theorem XB.q (h : XB G M C σ) (j i : Nat) (hi : i < σ.1 j) (hj : 1 ≤ j ∧ j ≤ 4 := by decide) : mQ M (eE C j) i = some (eA C j i) := ((h.2.2.1 j hj.1 hj.2).2.2 i hi).1
theorem XB.k (h : XB G M C σ) (j i t : Nat) (hi : i < σ.1 j) (hj : (1 ≤ j ∧ j ≤ 4) ∧ eT j = t := by decide) : mC M (eA C j i) = some (t, 0) := by
  rw [← hj.2]; exact ((h.2.2.1 j hj.1.1 hj.1.2).2.2 i hi).2
theorem XB.obs (h : XB G M C σ) (j : Nat) (hj : 1 ≤ j ∧ j ≤ 4 := by decide) : Obs M (eE C j) (σ.1 j) := fun i hi y hy => by
  obtain ⟨h1, h2⟩ := (h.2.2.1 j hj.1 hj.2).2.2 i hi
  rw [h1] at hy
  cases hy
  exact ⟨eT j, by unfold eT; split <;> omega, h2⟩
theorem XB.k5 (h : XB G M C σ) (s : Nat) (hs : s < σ.1 1) : mC M (eA C 1 s) = some (5, 0) := h.k 1 s 5 hs
theorem XB.k1 (h : XB G M C σ) (s : Nat) (hs : s < σ.1 2) : mC M (eA C 2 s) = some (1, 0) := h.k 2 s 1 hs
theorem XB.k4 (h : XB G M C σ) (s : Nat) (hs : s < σ.1 3) : mC M (eA C 3 s) = some (4, 0) := h.k 3 s 4 hs
theorem XB.k2 (h : XB G M C σ) (s : Nat) (hs : s < σ.1 4) : mC M (eA C 4 s) = some (2, 0) := h.k 4 s 2 hs
theorem XB.k3 (h : XB G M C σ) (p : Nat) (hp : p / 2 < σ.1 1) : mC M (eA C 5 p) = some (3, 0) := (h.2.2.2.2.1 p hp).1
theorem XB.g320 (h : XB G M C σ) (s : Nat) (hs : s < σ.1 1) : mI M 320 (eA C 1 s) = iz (s : Int) := (h.2.2.2.1 s hs).1
theorem XB.g321 (h : XB G M C σ) (s : Nat) (hs : s < σ.1 1) : mI M 321 (eA C 1 s) = iz (σ.2 1 s : Int) := (h.2.2.2.1 s hs).2.1
theorem XB.g322 (h : XB G M C σ) (s : Nat) (hs : s < σ.1 1) : mI M 322 (eA C 1 s) = iz (σ.2 3 s : Int) := (h.2.2.2.1 s hs).2.2.1
theorem XB.g323 (h : XB G M C σ) (s : Nat) (hs : s < σ.1 1) : mI M 323 (eA C 1 s) = iz (σ.2 13 s : Int) := (h.2.2.2.1 s hs).2.2.2.1
theorem XB.g324 (h : XB G M C σ) (s : Nat) (hs : s < σ.1 1) : mR M 324 (eA C 1 s) = some (eA C 5 (2 * s)) := (h.2.2.2.1 s hs).2.2.2.2.1
theorem XB.g325 (h : XB G M C σ) (s : Nat) (hs : s < σ.1 1) : mR M 325 (eA C 1 s) = some (eA C 5 (2 * s + 1)) := (h.2.2.2.1 s hs).2.2.2.2.2.1
theorem XB.g326 (h : XB G M C σ) (s : Nat) (hs : s < σ.1 1) : mI M 326 (eA C 1 s) = iz ((σ.2 4 s : Int) - 1) := (h.2.2.2.1 s hs).2.2.2.2.2.2
theorem XB.g192 (h : XB G M C σ) (p : Nat) (hp : p / 2 < σ.1 1) : mI M 192 (eA C 5 p) = iz (p : Int) := (h.2.2.2.2.1 p hp).2.1
theorem XB.g193 (h : XB G M C σ) (p : Nat) (hp : p / 2 < σ.1 1) : mI M 193 (eA C 5 p) = iz (fr σ p : Int) := (h.2.2.2.2.1 p hp).2.2.1
theorem XB.g194 (h : XB G M C σ) (p : Nat) (hp : p / 2 < σ.1 1) : mI M 194 (eA C 5 p) = iz (tt σ p : Int) := (h.2.2.2.2.1 p hp).2.2.2.1
theorem XB.g195 (h : XB G M C σ) (p : Nat) (hp : p / 2 < σ.1 1) : mI M 195 (eA C 5 p) = iz (ln σ p : Int) := (h.2.2.2.2.1 p hp).2.2.2.2
theorem XB.g64 (h : XB G M C σ) (s : Nat) (hs : s < σ.1 2) : mI M 64 (eA C 2 s) = iz (s : Int) := (h.2.2.2.2.2.1 s hs).1
theorem XB.g65 (h : XB G M C σ) (s : Nat) (hs : s < σ.1 2) : mR M 65 (eA C 2 s) = some (eA C 1 (σ.2 5 s)) := (h.2.2.2.2.2.1 s hs).2.1
theorem XB.g66 (h : XB G M C σ) (s : Nat) (hs : s < σ.1 2) : mI M 66 (eA C 2 s) = iz (σ.2 6 s : Int) := (h.2.2.2.2.2.1 s hs).2.2.1
theorem XB.g67 (h : XB G M C σ) (s : Nat) (hs : s < σ.1 2) : mI M 67 (eA C 2 s) = iz (σ.2 7 s : Int) := (h.2.2.2.2.2.1 s hs).2.2.2.1
theorem XB.g68 (h : XB G M C σ) (s : Nat) (hs : s < σ.1 2) : mI M 68 (eA C 2 s) = iz (σ.2 8 s : Int) := (h.2.2.2.2.2.1 s hs).2.2.2.2
theorem XB.g256 (h : XB G M C σ) (s : Nat) (hs : s < σ.1 3) : mI M 256 (eA C 3 s) = iz (σ.2 9 s : Int) := h.2.2.2.2.2.2.1 s hs
theorem XB.g128 (h : XB G M C σ) (s : Nat) (hs : s < σ.1 4) : mR M 128 (eA C 4 s) = some (eA C 2 (σ.2 10 s)) := (h.2.2.2.2.2.2.2.1 s hs).1
theorem XB.g129 (h : XB G M C σ) (s : Nat) (hs : s < σ.1 4) : mI M 129 (eA C 4 s) = iz (σ.2 11 s : Int) := (h.2.2.2.2.2.2.2.1 s hs).2.1
theorem XB.g130 (h : XB G M C σ) (s : Nat) (hs : s < σ.1 4) : mI M 130 (eA C 4 s) = iz (σ.2 12 s : Int) := (h.2.2.2.2.2.2.2.1 s hs).2.2.1
theorem XB.g131 (h : XB G M C σ) (s : Nat) (hs : s < σ.1 4) : mI M 131 (eA C 4 s) = iz (σ.2 14 s : Int) := (h.2.2.2.2.2.2.2.1 s hs).2.2.2
theorem XB.inj (h : XB G M C σ) (j a b : Nat) (ha : a < σ.1 j) (hb : b < σ.1 j) (hj : 1 ≤ j ∧ j ≤ 4 := by decide) : eA C j a = eA C j b ↔ a = b := ⟨fun e => h.2.2.2.2.2.2.2.2.1.1 j hj.1 hj.2 a b ha hb e, fun e => by rw [e]⟩
theorem XB.inj5 (h : XB G M C σ) (a b : Nat) (ha : a / 2 < σ.1 1) (hb : b / 2 < σ.1 1) : eA C 5 a = eA C 5 b ↔ a = b := ⟨fun e => h.2.2.2.2.2.2.2.2.1.2.1 a b ha hb e, fun e => by rw [e]⟩
theorem XB.ez (h : XB G M C σ) (j k : Nat) (hjk : j ≠ k) (hj : 1 ≤ j ∧ j ≤ 4) (hk : 1 ≤ k ∧ k ≤ 4) (h1 : 0 < eC C j) (h2 : 0 < eC C k) : eE C j ≠ eE C k := h.2.2.2.2.2.2.2.2.1.2.2 j k hj.1 hj.2 hk.1 hk.2 hjk h1 h2
theorem XB.gd (h : XB G M C σ) (a b : Nat) (ha : a < 10) (hb : b < 10) : mA M (eX C 10) (10 * a + b) = iz (dv σ a b : Int) := h.2.2.2.2.2.2.2.2.2.1.1 a b ha hb
theorem XB.gl (h : XB G M C σ) (a b : Nat) (ha : a < 10) (hb : b < 10) : mA M (eX C 12) (10 * a + b) = iz (ld σ a b : Int) := h.2.2.2.2.2.2.2.2.2.1.2 a b ha hb
theorem XB.gD (h : XB G M C σ) : GD G := h.2.2.2.2.2.2.2.2.2.2
theorem cp_le (n : Nat) : cp n ≤ 1000000 := by unfold cp; split <;> omega
/-- cells of the class that calls of the walk may write: the rows 8, 14, 17, 19, the passes' needs and begins, the walk's numbers, its lists -/
def Kx (C : CE) (M M' : Mem) : Prop := (∀ b x, mC M b = some x → mC M' b = some x) ∧
  (∀ b x, mC M b = some x → x.1 ≠ 3 → x.1 ≠ 6 → x.1 ≠ 10 → x.1 ≠ 13 → b ≠ eX C 8 → b ≠ eX C 14 → b ≠ eX C 17 → b ≠ eX C 19 → Sm M M' b) ∧
  (∀ b f, mC M b = some (3, 0) → f ≠ 196 → f ≠ 197 → mI M' f b = mI M f b) ∧ (∀ f, mR M' f (eX C 6) = mR M f (eX C 6)) ∧ (∀ j, 1 ≤ j → j ≤ 4 → Sm M M' (eX C j) ∧ (0 < eC C j → Sm M M' (eE C j))) ∧ mN M ≤ mN M'
theorem Kx.rf : Kx C M M := ⟨fun _ _ h => h, fun _ _ _ _ _ _ _ _ _ _ _ => Sm.rf, fun _ _ _ _ _ => rfl, fun _ => rfl, fun _ _ _ => ⟨Sm.rf, fun _ => Sm.rf⟩, Nat.le_refl _⟩
theorem Kx.tr {M'' : Mem} (h : Kx C M M') (k : Kx C M' M'') : Kx C M M'' :=
  ⟨fun b x hb => k.1 b x (h.1 b x hb), fun b x hb a1 a2 a3 a4 a5 a6 a7 a8 => (h.2.1 b x hb a1 a2 a3 a4 a5 a6 a7 a8).tr (k.2.1 b x (h.1 b x hb) a1 a2 a3 a4 a5 a6 a7 a8), fun b f hb h1 h2 => (k.2.2.1 b f (h.1 _ _ hb) h1 h2).trans (h.2.2.1 b f hb h1 h2), fun f => (k.2.2.2.1 f).trans (h.2.2.2.1 f), fun j h1 h2 => ⟨(h.2.2.2.2.1 j h1 h2).1.tr (k.2.2.2.2.1 j h1 h2).1, fun h3 => ((h.2.2.2.2.1 j h1 h2).2 h3).tr ((k.2.2.2.2.1 j h1 h2).2 h3)⟩, Nat.le_trans h.2.2.2.2.2 k.2.2.2.2.2⟩
/-- as long as no cell of the class but those changes -/
theorem XB.kx (h : XB G M C σ) (hO : Ok σ T) (k : Kx C M M') : XB G M' C σ := by
  have h0 := h
  obtain ⟨⟨f1, f2, f3, f4⟩, s, l, st, pp, hh, rr, qq, inj, gd⟩ := h
  obtain ⟨k1, k2, k3, k4, k5, k6⟩ := k
  have kq : ∀ i, i < 20 → i = 0 ∨ i = 5 ∨ i = 7 ∨ i = 9 ∨ i = 10 ∨ i = 11 ∨ i = 12 ∨ i = 13 ∨ i = 16 → Sm M M' (eX C i) := by
    intro i hi hi2
    refine k2 _ _ (f1 i hi) ?_ ?_ ?_ ?_ (h0.ne (by omega) hi) (h0.ne (by omega) hi) (h0.ne (by omega) hi) (h0.ne (by omega) hi)
    all_goals (rcases hi2 with e | e | e | e | e | e | e | e | e <;> subst e <;> decide)
  have ne11 : ∀ b t z i, mC M b = some (t, z) → t ≠ 11 → i < 20 → xT i = 11 → b ≠ eX C i := fun b t z i hb ht hi hx e => by
    rw [e, f1 i hi, hx] at hb
    cases hb
    exact ht rfl
  have ke : ∀ b t, mC M b = some (t, 0) → t = 5 ∨ t = 1 ∨ t = 4 ∨ t = 2 → Sm M M' b := by
    intro b t hb ht
    exact k2 b _ hb (by show t ≠ 3; omega) (by show t ≠ 6; omega) (by show t ≠ 10; omega) (by show t ≠ 13; omega) (ne11 b t 0 8 hb (by omega) (by decide) rfl) (ne11 b t 0 14 hb (by omega) (by decide) rfl) (ne11 b t 0 17 hb (by omega) (by decide) rfl) (ne11 b t 0 19 hb (by omega) (by decide) rfl)
  have s0 := kq 0 (by decide) (by decide)
  refine ⟨⟨fun i hi => k1 _ _ (f1 i hi), fun q hq => ?_, fun q hq => ?_, f4⟩, ⟨s0.i s.1, s0.i s.2.1, s0.i s.2.2.1, s0.i s.2.2.2.1, s0.i s.2.2.2.2.1, s0.j s.2.2.2.2.2⟩, fun j h1 h2 => ?_, fun i hi => ?_, fun p hp => ?_, fun i hi => ?_, fun i hi => (ke _ 4 (h0.k4 i hi) (by decide)).i (rr i hi), fun i hi => ?_, inj, ⟨fun a b ha hb => ?_, fun a b ha hb => ?_⟩, gd.2⟩
  · by_cases e : q.1 = 6
    · rw [e, k4, ← e]; exact f2 q hq
    · refine (kq q.1 ?_ ?_).r (f2 q hq)
      · have : ∀ q ∈ xF, q.1 < 20 := by decide
        exact this q hq
      · have : ∀ q ∈ xF, q.1 ≠ 6 → (q.1 = 0 ∨ q.1 = 5 ∨ q.1 = 7 ∨ q.1 = 9 ∨ q.1 = 10 ∨ q.1 = 11 ∨ q.1 = 12 ∨ q.1 = 13 ∨ q.1 = 16) := by decide
        exact this q hq e
  · have a1 : ∀ q ∈ xG, q.1 < 20 ∧ (q.1 = 0 ∨ q.1 = 5 ∨ q.1 = 7 ∨ q.1 = 9 ∨ q.1 = 10 ∨ q.1 = 11 ∨ q.1 = 12 ∨ q.1 = 13 ∨ q.1 = 16) := by decide
    have sq := kq q.1 (a1 q hq).1 (a1 q hq).2
    exact ⟨sq.i (f3 q hq).1, sq.i (f3 q hq).2⟩
  · obtain ⟨⟨l1, l2, l3, l4, l5, l6⟩, l7, l8⟩ := l j h1 h2
    obtain ⟨k51, k52⟩ := k5 j h1 h2
    refine ⟨⟨k51.c l1, k51.i l2, k51.r l3, l4, l5, ?_⟩, l7, fun i hi => ⟨?_, k1 _ _ (l8 i hi).2⟩⟩
    · rcases l6 with ⟨c1, c2⟩ | ⟨c1, c2, c3⟩
      · exact Or.inl ⟨c1, k1 _ _ c2⟩
      · exact Or.inr ⟨c1, c2, k1 _ _ c3⟩
    · rw [(k52 (by omega)).qq]; exact (l8 i hi).1
  · have e := ke _ 5 (h0.k5 i hi) (by decide)
    obtain ⟨a1, a2, a3, a4, a5, a6, a7⟩ := st i hi
    exact ⟨e.i a1, e.i a2, e.i a3, e.i a4, e.r a5, e.r a6, e.i a7⟩
  · obtain ⟨a0, a1, a2, a3, a4⟩ := pp p hp
    exact ⟨k1 _ _ a0, (k3 _ _ a0 (by decide) (by decide)).trans a1, (k3 _ _ a0 (by decide) (by decide)).trans a2, (k3 _ _ a0 (by decide) (by decide)).trans a3, (k3 _ _ a0 (by decide) (by decide)).trans a4⟩
  · have e := ke _ 1 (h0.k1 i hi) (by decide)
    obtain ⟨a1, a2, a3, a4, a5⟩ := hh i hi
    exact ⟨e.i a1, e.r a2, e.i a3, e.i a4, e.i a5⟩
  · have e := ke _ 2 (h0.k2 i hi) (by decide)
    obtain ⟨a1, a2, a3, a4⟩ := qq i hi
    exact ⟨e.r a1, e.i a2, e.i a3, e.i a4⟩
  · rw [(kq 10 (by decide) (by decide)).aa]; exact gd.1.1 a b ha hb
  · rw [(kq 12 (by decide) (by decide)).aa]; exact gd.1.2 a b ha hb
/-- the walk's list j: its passes -/
def SL (G : GC) (M : Mem) (C : CE) (σ : St) (j e cap : Nat) (l : List Nat) : Prop := LL G M (eX C j) e l.length cap ∧ cap ≤ 100 ∧ (0 < cap → ∀ k, 1 ≤ k → k ≤ 4 → 0 < eC C k → e ≠ eE C k) ∧ ∀ i, i < l.length → mQ M e i = some (eA C 5 (l.getD i 0)) ∧ l.getD i 0 / 2 < σ.1 1
def S2 (G : GC) (M : Mem) (C : CE) (σ : St) (l m : List Nat) : Prop := ∃ e1 c1 e2 c2, SL G M C σ 15 e1 c1 l ∧ SL G M C σ 18 e2 c2 m ∧ (0 < c1 → 0 < c2 → e1 ≠ e2)
/-- the whole class -/
def XM (G : GC) (M : Mem) (C : CE) (σ : St) : Prop := XB G M C σ ∧ ∃ l m, S2 G M C σ l m ∧ l.length ≤ 32 ∧ m.length ≤ 32
/-- what the world outside the class keeps -/
def FX (C : CE) (M M' : Mem) : Prop := mN M ≤ mN M' ∧ ∀ b x, mC M b = some x → (x.1 = 9 ∨ x.1 = 11 ∨ x.1 = 12 ∨ x.1 = 14 ∨ x.1 = 15 ∨ x.1 = 16 ∨ x.1 = 17) → (∀ k, k < 20 → b ≠ eX C k) → Sm M M' b
theorem FX.rf : FX C M M := ⟨Nat.le_refl _, fun _ _ _ _ _ => Sm.rf⟩
theorem FX.tr {M'' : Mem} {C' : CE} (h : FX C M M') (hC : eX C' = eX C) (k : FX C' M' M'') : FX C M M'' := ⟨Nat.le_trans h.1 k.1, fun b x hb hx hn => (h.2 b x hb hx hn).tr (k.2 b x ((h.2 b x hb hx hn).c hb) hx (by rw [hC]; exact hn))⟩
theorem Kx.fx (h : Kx C M M') : FX C M M' := ⟨h.2.2.2.2.2, fun b x hb hx hn => h.2.1 b x hb (by omega) (by omega) (by omega) (by omega) (hn 8 (by decide)) (hn 14 (by decide)) (hn 17 (by decide)) (hn 19 (by decide))⟩
/-- an exception's cells come, no old cell changes -/
theorem Kx.sN {n : Nat} (h : mN M ≤ n) : Kx C M (sN M n) := ⟨fun _ _ h => h, fun _ _ _ _ _ _ _ _ _ _ _ => Sm.n n, fun _ _ _ _ _ => rfl, fun _ => rfl, fun _ _ _ => ⟨Sm.n n, fun _ => Sm.n n⟩, h⟩
theorem SL.sN {n j e cap : Nat} {l : List Nat} (h : SL G M C σ j e cap l) : SL G (sN M n) C σ j e cap l := h
theorem S2.sN {n : Nat} {l m : List Nat} (h : S2 G M C σ l m) : S2 G (sN M n) C σ l m := h
theorem XM.sN {n : Nat} (h : XM G M C σ) (hO : Ok σ T) (hn : mN M ≤ n) : XM G (sN M n) C σ := ⟨h.1.kx hO (Kx.sN hn), h.2⟩
/-- what comes of a call of the class -/
def XQ (G : GC) (C : CE) (M : Mem) (σ' : St) (M' : Mem) : Prop := FX C M M' ∧ ∃ C', eX C' = eX C ∧ XM G M' C' σ'
theorem XQ.rf (h : XM G M C σ) : XQ G C M σ M := ⟨FX.rf, C, rfl, h⟩
theorem XQ.n {n : Nat} (h : XM G M C σ) (hO : Ok σ T) (hn : mN M ≤ n) : XQ G C M σ (sN M n) := ⟨(Kx.sN hn).fx, C, rfl, h.sN hO hn⟩
def CR (G : GC) (C : CE) (M : Mem) (o : Rs) : Option Value → Mem → Prop := rI fun r M' => o.2.1 = 0 ∧ r = iz o.2.2 ∧ XQ G C M o.1 M'
def CX (G : GC) (C : CE) (M : Mem) (o : Rs) (ex : List String) : String → Mem → Prop := fun E M' => ∃ c, o.2.1 = c + 1 ∧ ex[c]? = some E ∧ XQ G C M o.1 M'
theorem cr_of {o : Rs} {σ' : St} {z : Int} {r : Int32} (ho : o = (σ', 0, z)) (hr : r = iz z) (hq : XQ G C M σ' M') : CR G C M o (some (.int r)) M' := by
  subst ho; exact ⟨r, rfl, rfl, hr, hq⟩
theorem cx_of {o : Rs} {σ' : St} {z : Int} {c : Nat} {ex : List String} {E : String} (ho : o = (σ', c + 1, z)) (hE : ex[c]? = some E) (hq : XQ G C M σ' M') : CX G C M o ex E M' := by
  subst ho; exact ⟨c, rfl, hE, hq⟩
/-- answers R where P holds, else throws -/
def rT (P : Prop) (R : Option Value → Mem → Prop) : Option Value → Mem → Prop := fun v M' => P ∧ R v M'
def xT1 (P : Prop) (cls : String) (M : Mem) : String → Mem → Prop := fun E M' => ¬ P ∧ E = cls ∧ ∃ n, mN M ≤ n ∧ M' = sN M n
theorem xT1_of {P : Prop} {cls : String} {n : Nat} (h : ¬ P) (hn : mN M ≤ n) : xT1 P cls M cls (sN M n) := ⟨h, rfl, n, hn, rfl⟩
section KT
variable {mi : MI} {R : Room} {Qf : List Frame → Array Value → State → State → Prop} {pc : Nat} {L : List (Nat × Value)} {st : List Value} {kc ks : Nat}
theorem kT {P : Prop} {Q : Option Value → Mem → Prop} (h : P → ∀ v M', Q v M' → SWG G mi R Qf pc L (v.toList ++ st) M' kc ks) : ∀ v M', rT P Q v M' → SWG G mi R Qf pc L (v.toList ++ st) M' kc ks := fun v M' hh => h hh.1 v M' hh.2
/-- a callee's throw goes out -/
theorem kxT {P : Prop} {cls : String} {PR : Option Value → Mem → Prop} {PX : String → Mem → Prop} {mc ms : Nat} (h : ¬ P → ∀ n, mN M ≤ n → PX cls (sN M n)) (hh : mi.2.2.2.2.2 = [] := by rfl) (hm : kc ≤ mc ∧ ks ≤ ms := by exact ⟨Nat.le_of_ble_eq_true rfl, Nat.le_of_ble_eq_true rfl⟩) : ∀ E M', xT1 P cls M E M' → SXG G mi R (QF G PR PX mc ms) pc L M' kc ks E := by
  rintro E M' ⟨h1, rfl, n, hn, rfl⟩
  exact r_out hh (h h1 n hn) hm
end KT
end PIC
