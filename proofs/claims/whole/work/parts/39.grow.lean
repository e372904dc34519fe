/-! The class: a list of the village grows, or is emptied. -/
section GRO
variable {G : GC} {M M2 : Mem} {C : CE} {σ σ' : St} {T : Nat}
/-- what a row's new place leaves of the village -/
def Gw (G : GC) (M M2 : Mem) (C : CE) (σ σ' : St) (j a e' cap' : Nat) (A' : Nat → Nat → Nat) : Prop :=
  (∀ b, b < mN M → b ≠ eX C j → b ≠ eE C j → b ≠ eX C 10 → b ≠ eX C 12 → Sm M M2 b) ∧ (∀ b, b < mN M → mC M2 b = mC M b) ∧
  LL G M2 (eX C j) e' (σ.1 j + 1) cap' ∧ cap' ≤ 100 ∧ mQ M2 e' (σ.1 j) = some a ∧ (∀ i, i < σ.1 j → mQ M2 e' i = mQ M (eE C j) i) ∧
  ((0 < eC C j ∧ e' = eE C j ∧ cap' = eC C j) ∨ (mN M ≤ e' ∧ Sm M M2 (eE C j))) ∧ mN M ≤ a ∧ mC M2 a = some (eT j, 0) ∧ (∀ b x, mC M b = some x → b < mN M) ∧
  (σ'.1 j = σ.1 j + 1 ∧ ∀ k, k ≠ j → σ'.1 k = σ.1 k) ∧ (∀ k i, k < 15 → i < σ.1 (nOf k) → σ'.2 k i = σ.2 k i) ∧
  (∀ k i, (k = 5 ∧ i / 2 < σ.1 1) ∨ (1 ≤ k ∧ k ≤ 4 ∧ i < σ.1 k) → A' k i = eA C k i) ∧ A' j (σ.1 j) = a ∧ 1 ≤ j ∧ j ≤ 4
/-- the new ghosts -/
def gC (C : CE) (j e' cap' : Nat) (A' : Nat → Nat → Nat) : CE := (eX C, A', va_up (eE C) j e', va_up (eC C) j cap')
theorem Gw.s8 {j a e' cap' : Nat} {A' : Nat → Nat → Nat} (g : Gw G M M2 C σ σ' j a e' cap' A') (h : XB G M C σ) {b t z : Nat} (hb : mC M b = some (t, z)) (ht : t ≠ 10 ∧ t ≠ 13 ∧ t ≠ 17 ∧ t ≠ 11) : Sm M M2 b := by
  obtain ⟨g1, -, -, -, -, -, -, -, -, gl, -, -, -, -, j1, j4⟩ := g
  have hl := h.l j ⟨j1, j4⟩
  obtain ⟨t', z', a1, a2⟩ := hl.ar2
  exact g1 b (gl _ _ hb) (ne_ty hb hl.1 ht.1) (ne_ty hb a1 (by omega)) (ne_ty hb (h.x 10 11 100) (by omega)) (ne_ty hb (h.x 12 11 100) (by omega))
theorem Gw.s11 {j a e' cap' : Nat} {A' : Nat → Nat → Nat} (g : Gw G M M2 C σ σ' j a e' cap' A') (h : XB G M C σ) {b z : Nat} (hb : mC M b = some (11, z)) (h1 : b ≠ eX C 10) (h2 : b ≠ eX C 12) : Sm M M2 b := by
  obtain ⟨g1, -, -, -, -, -, -, -, -, gl, -, -, -, -, j1, j4⟩ := g
  have hl := h.l j ⟨j1, j4⟩
  obtain ⟨t', z', a1, a2⟩ := hl.ar2
  exact g1 b (gl _ _ hb) (ne_ty hb hl.1 (by omega)) (ne_ty hb a1 (by omega)) h1 h2
theorem Gw.xl {j a e' cap' : Nat} {A' : Nat → Nat → Nat} (g : Gw G M M2 C σ σ' j a e' cap' A') (h : XB G M C σ) {l e n cap : Nat} (hL : LL G M l e n cap) (hlj : l ≠ eX C j) (he : 0 < cap → 0 < eC C j → e ≠ eE C j) : Sm M M2 l ∧ Sm M M2 e := by
  obtain ⟨g1, -, -, -, -, -, g7, -, -, gl, -, -, -, -, j1, j4⟩ := g
  have hl := h.l j ⟨j1, j4⟩
  obtain ⟨t', z', a1, a2⟩ := hl.ar2
  obtain ⟨t, z, b1, b2⟩ := hL.ar2
  refine ⟨g1 l (gl _ _ hL.1) hlj (ne_ty hL.1 a1 (by omega)) (ne_ty hL.1 (h.x 10 11 100) (by omega)) (ne_ty hL.1 (h.x 12 11 100) (by omega)), ?_⟩
  by_cases ee : e = eE C j
  · rcases g7 with ⟨g6, g7, g8⟩ | ⟨-, g7⟩
    · exfalso
      rcases hl.arr with ⟨c1, c2⟩ | ⟨c1, -⟩
      · rcases hL.arr with ⟨d1, d2⟩ | ⟨d1, d2, d3⟩
        · exact he d1 c1 ee
        · rw [ee, c2] at d3; cases d3
      · omega
    · rw [ee]; exact g7
  · exact g1 e (gl _ _ b1) (ne_ty b1 hl.1 (by omega)) ee (ne_ty b1 (h.x 10 11 100) (by omega)) (ne_ty b1 (h.x 12 11 100) (by omega))
/-- a fresh row is no old one -/
theorem Gw.fr {j a e' cap' : Nat} {A' : Nat → Nat → Nat} (g : Gw G M M2 C σ σ' j a e' cap' A') {l e n cap : Nat} (hL : LL G M l e n cap) (he : 0 < cap → 0 < eC C j → e ≠ eE C j) (hc : 0 < cap) : e ≠ e' := by
  obtain ⟨-, -, -, -, -, -, g7, -, -, gl, -⟩ := g
  obtain ⟨t, z, b1, b2⟩ := hL.ar2
  have := gl _ _ b1
  rcases g7 with ⟨g6, g7, -⟩ | ⟨g7, -⟩
  · rw [g7]; exact he hc g6
  · omega
theorem XB.grow {j a e' cap' : Nat} {A' : Nat → Nat → Nat} (h : XB G M C σ) (hO : Ok σ T) (g : Gw G M M2 C σ σ' j a e' cap' A')
    (nS : ∀ s, s < σ'.1 1 → ¬ s < σ.1 1 → StreetP M2 (gC C j e' cap' A') σ' s) (nP : ∀ p, p / 2 < σ'.1 1 → ¬ p / 2 < σ.1 1 → PassP M2 (gC C j e' cap' A') σ' p ∧ mN M ≤ A' 5 p)
    (nH : ∀ s, s < σ'.1 2 → ¬ s < σ.1 2 → HouseP M2 (gC C j e' cap' A') σ' s) (nR : ∀ s, s < σ'.1 3 → ¬ s < σ.1 3 → mI M2 256 (A' 3 s) = iz (σ'.2 9 s : Int)) (nQ : ∀ s, s < σ'.1 4 → ¬ s < σ.1 4 → ParcelP M2 (gC C j e' cap' A') σ' s)
    (n5 : ∀ p q, p / 2 < σ'.1 1 → ¬ p / 2 < σ.1 1 → q / 2 < σ'.1 1 → ¬ q / 2 < σ.1 1 → A' 5 p = A' 5 q → p = q) (hG : GridP M2 (gC C j e' cap' A') σ') : XB G M2 (gC C j e' cap' A') σ' := by
  have h0 := h
  have g0 := g
  obtain ⟨⟨f1, f2, f3, f4⟩, s, l, st, pp, hh, rr, qq, ⟨i1, i2, i3⟩, gd⟩ := h
  obtain ⟨g1, g2, g3, g4, g5, g6, g7, g8, g9, gl, ⟨gn, gm⟩, gr, gA, gAn, j1, j4⟩ := g
  obtain ⟨⟨-, -, -, -, -, -, -, -, -, -, -, -, -, p10, -⟩, hSt, hHo, -, hPa⟩ := id hO
  have p2 : σ.1 2 ≤ σ.1 (nOf 8) := by show σ.1 2 ≤ σ.1 10; have := hO.1.2.2.2.1; omega
  have old : ∀ b x, mC M b = some x → b < mN M := gl
  have s0 := g0.s8 h0 (h0.x 0 8 0) (by decide)
  have cc : ∀ b x, mC M b = some x → mC M2 b = some x := fun b x hb => (g2 b (gl b x hb)).trans hb
  have eA1 : ∀ k i, (1 ≤ k ∧ k ≤ 4 ∧ i < σ.1 k) → A' k i = eA C k i := fun k i hk => gA k i (Or.inr hk)
  have eA5 : ∀ p, p / 2 < σ.1 1 → A' 5 p = eA C 5 p := fun p hp => gA 5 p (Or.inl ⟨rfl, hp⟩)
  have eX' : eX (gC C j e' cap' A') = eX C := rfl
  refine ⟨⟨fun k hk => cc _ _ (f1 k hk), fun q hq => ?_, fun q hq => ?_, f4⟩, ⟨?_, ?_, ?_, ?_, ?_, ?_⟩, fun k k1 k4 => ?_, fun i hi => ?_, fun p hp => ?_, fun i hi => ?_, fun i hi => ?_, fun i hi => ?_, ⟨fun k k1 k4 x y hx hy e => ?_, fun p q hp hq e => ?_, fun x y x1 x4 y1 y4 hxy hcx hcy => ?_⟩, hG, gd.2⟩
  · have hx : ∀ q ∈ xF, q.1 < 20 ∧ (xT q.1 ≠ 10 ∧ xT q.1 ≠ 13 ∧ xT q.1 ≠ 17 ∧ xT q.1 ≠ 11) := by decide
    exact (g0.s8 h0 (f1 q.1 (hx q hq).1) (hx q hq).2).r (f2 q hq)
  · have hx : ∀ q ∈ xG, q.1 < 20 ∧ (xT q.1 ≠ 10 ∧ xT q.1 ≠ 13 ∧ xT q.1 ≠ 17 ∧ xT q.1 ≠ 11) := by decide
    have e := g0.s8 h0 (f1 q.1 (hx q hq).1) (hx q hq).2
    exact ⟨e.i (f3 q hq).1, e.i (f3 q hq).2⟩
  · rw [gm 0 (by omega)]; exact s0.i s.1
  · rw [gm 5 (by omega)]; exact s0.i s.2.1
  · rw [gm 6 (by omega)]; exact s0.i s.2.2.1
  · rw [gm 8 (by omega)]; exact s0.i s.2.2.2.1
  · rw [gm 7 (by omega)]; exact s0.i s.2.2.2.2.1
  · rw [gm 9 (by omega)]; exact s0.j s.2.2.2.2.2
  · by_cases e : k = j
    · subst e
      refine ⟨?_, ?_, fun i hi => ?_⟩
      · show LL G M2 (eX C k) (va_up (eE C) k e' k) (σ'.1 k) (va_up (eC C) k cap' k)
        rw [up_s, up_s, gn]; exact g3
      · show va_up (eC C) k cap' k ≤ 100
        rw [up_s]; exact g4
      · show mQ M2 (va_up (eE C) k e' k) i = some (A' k i) ∧ mC M2 (A' k i) = some (eT k, 0)
        rw [up_s]
        by_cases e2 : i = σ.1 k
        · subst e2; rw [gAn]; exact ⟨g5, g9⟩
        · have hi2 : i < σ.1 k := by omega
          rw [eA1 k i ⟨k1, k4, hi2⟩, g6 i hi2]
          exact ⟨((l k k1 k4).2.2 i hi2).1, cc _ _ ((l k k1 k4).2.2 i hi2).2⟩
    · obtain ⟨a1, a2, a3⟩ := l k k1 k4
      obtain ⟨b1, b2⟩ := g0.xl h0 a1 (h0.ne e (by omega) (by omega)) (fun c1 c2 => i3 k j k1 k4 j1 j4 e c1 c2)
      refine ⟨?_, ?_, fun i hi => ?_⟩
      · show LL G M2 (eX C k) (va_up (eE C) j e' k) (σ'.1 k) (va_up (eC C) j cap' k)
        rw [up_n _ _ e, up_n _ _ e, gm k e]; exact a1.sm b1 b2
      · show va_up (eC C) j cap' k ≤ 100
        rw [up_n _ _ e]; exact a2
      · show mQ M2 (va_up (eE C) j e' k) i = some (A' k i) ∧ mC M2 (A' k i) = some (eT k, 0)
        rw [gm k e] at hi
        rw [up_n _ _ e, eA1 k i ⟨k1, k4, hi⟩, b2.qq]
        exact ⟨(a3 i hi).1, cc _ _ (a3 i hi).2⟩
  · by_cases hn : i < σ.1 1
    · have e := g0.s8 h0 (h0.k5 i hn) (by decide)
      have c1 : A' 1 i = eA C 1 i := eA1 1 i ⟨by omega, by omega, hn⟩
      show mI M2 320 (A' 1 i) = _ ∧ mI M2 321 (A' 1 i) = _ ∧ mI M2 322 (A' 1 i) = _ ∧ mI M2 323 (A' 1 i) = _ ∧ mR M2 324 (A' 1 i) = some (A' 5 (2 * i)) ∧ mR M2 325 (A' 1 i) = some (A' 5 (2 * i + 1)) ∧ mI M2 326 (A' 1 i) = _
      rw [c1, eA5 (2 * i) (by omega), eA5 (2 * i + 1) (by omega), gr 1 i (by omega) hn, gr 3 i (by omega) hn, gr 13 i (by omega) hn, gr 4 i (by omega) hn]
      exact ⟨e.i (h0.g320 i hn), e.i (h0.g321 i hn), e.i (h0.g322 i hn), e.i (h0.g323 i hn), e.r (h0.g324 i hn), e.r (h0.g325 i hn), e.i (h0.g326 i hn)⟩
    · exact nS i hi hn
  · by_cases hn : p / 2 < σ.1 1
    · have e := g0.s8 h0 (h0.k3 p hn) (by decide)
      have e1 : fr σ' p = fr σ p := by unfold fr; rw [gr 1 _ (by omega) hn, gr 2 _ (by omega) hn]
      have e2 : tt σ' p = tt σ p := by unfold tt; rw [gr 1 _ (by omega) hn, gr 2 _ (by omega) hn]
      have e3 : ln σ' p = ln σ p := by unfold ln; rw [gr 3 _ (by omega) hn]
      show mC M2 (A' 5 p) = _ ∧ mI M2 192 (A' 5 p) = _ ∧ mI M2 193 (A' 5 p) = iz (fr σ' p : Int) ∧ mI M2 194 (A' 5 p) = iz (tt σ' p : Int) ∧ mI M2 195 (A' 5 p) = iz (ln σ' p : Int)
      rw [eA5 p hn, e1, e2, e3]
      exact ⟨e.c (h0.k3 p hn), e.i (h0.g192 p hn), e.i (h0.g193 p hn), e.i (h0.g194 p hn), e.i (h0.g195 p hn)⟩
    · exact (nP p hp hn).1
  · by_cases hn : i < σ.1 2
    · have e := g0.s8 h0 (h0.k1 i hn) (by decide)
      have c1 : A' 2 i = eA C 2 i := eA1 2 i ⟨by omega, by omega, hn⟩
      show mI M2 64 (A' 2 i) = _ ∧ mR M2 65 (A' 2 i) = some (A' 1 (σ'.2 5 i)) ∧ mI M2 66 (A' 2 i) = _ ∧ mI M2 67 (A' 2 i) = _ ∧ mI M2 68 (A' 2 i) = _
      rw [c1, gr 5 i (by omega) hn, gr 6 i (by omega) hn, gr 7 i (by omega) hn, gr 8 i (by omega) (by omega), eA1 1 (σ.2 5 i) ⟨by omega, by omega, (hHo i hn).1⟩]
      exact ⟨e.i (h0.g64 i hn), e.r (h0.g65 i hn), e.i (h0.g66 i hn), e.i (h0.g67 i hn), e.i (h0.g68 i hn)⟩
    · exact nH i hi hn
  · by_cases hn : i < σ.1 3
    · have e := g0.s8 h0 (h0.k4 i hn) (by decide)
      show mI M2 256 (A' 3 i) = _
      rw [eA1 3 i ⟨by omega, by omega, hn⟩, gr 9 i (by omega) hn]
      exact e.i (h0.g256 i hn)
    · exact nR i hi hn
  · by_cases hn : i < σ.1 4
    · have e := g0.s8 h0 (h0.k2 i hn) (by decide)
      show mR M2 128 (A' 4 i) = some (A' 2 (σ'.2 10 i)) ∧ mI M2 129 (A' 4 i) = _ ∧ mI M2 130 (A' 4 i) = _ ∧ mI M2 131 (A' 4 i) = _
      rw [eA1 4 i ⟨by omega, by omega, hn⟩, gr 10 i (by omega) hn, gr 11 i (by omega) hn, gr 12 i (by omega) hn, gr 14 i (by omega) hn, eA1 2 (σ.2 10 i) ⟨by omega, by omega, (hPa i hn).1⟩]
      exact ⟨e.r (h0.g128 i hn), e.i (h0.g129 i hn), e.i (h0.g130 i hn), e.i (h0.g131 i hn)⟩
    · exact nQ i hi hn
  · have e2 : A' k x = A' k y := e
    by_cases ek : k = j
    · subst ek
      by_cases ex : x = σ.1 k
      · by_cases ey : y = σ.1 k
        · omega
        · exfalso
          rw [ex, gAn, eA1 k y ⟨k1, k4, by omega⟩] at e2
          have := gl _ _ ((l k k1 k4).2.2 y (by omega)).2
          omega
      · by_cases ey : y = σ.1 k
        · exfalso
          rw [ey, gAn, eA1 k x ⟨k1, k4, by omega⟩] at e2
          have := gl _ _ ((l k k1 k4).2.2 x (by omega)).2
          omega
        · rw [eA1 k x ⟨k1, k4, by omega⟩, eA1 k y ⟨k1, k4, by omega⟩] at e2
          exact i1 k k1 k4 x y (by omega) (by omega) e2
    · rw [gm k ek] at hx hy
      rw [eA1 k x ⟨k1, k4, hx⟩, eA1 k y ⟨k1, k4, hy⟩] at e2
      exact i1 k k1 k4 x y hx hy e2
  · have e2 : A' 5 p = A' 5 q := e
    by_cases hp2 : p / 2 < σ.1 1
    · by_cases hq2 : q / 2 < σ.1 1
      · rw [eA5 p hp2, eA5 q hq2] at e2
        exact i2 p q hp2 hq2 e2
      · exfalso
        have h1 := (nP q hq hq2).2
        have h2 := gl _ _ (h0.k3 p hp2)
        rw [eA5 p hp2] at e2
        omega
    · by_cases hq2 : q / 2 < σ.1 1
      · exfalso
        have h1 := (nP p hp hp2).2
        have h2 := gl _ _ (h0.k3 q hq2)
        rw [eA5 q hq2] at e2
        omega
      · exact n5 p q hp hp2 hq hq2 e2
  · show va_up (eE C) j e' x ≠ va_up (eE C) j e' y
    have hcx2 : 0 < va_up (eC C) j cap' x := hcx
    have hcy2 : 0 < va_up (eC C) j cap' y := hcy
    by_cases ex : x = j
    · subst ex
      rw [up_n _ _ (Ne.symm hxy)] at hcy2
      rw [up_s, up_n _ _ (Ne.symm hxy)]
      exact (g0.fr (h0.l y ⟨y1, y4⟩) (fun c1 c2 => i3 y x y1 y4 x1 x4 (Ne.symm hxy) c1 c2) hcy2).symm
    · by_cases ey : y = j
      · subst ey
        rw [up_n _ _ ex] at hcx2
        rw [up_s, up_n _ _ ex]
        exact g0.fr (h0.l x ⟨x1, x4⟩) (fun c1 c2 => i3 x y x1 x4 y1 y4 hxy c1 c2) hcx2
      · rw [up_n _ _ ex] at hcx2
        rw [up_n _ _ ey] at hcy2
        rw [up_n _ _ ex, up_n _ _ ey]
        exact i3 x y x1 x4 y1 y4 hxy hcx2 hcy2
theorem SL.grow {j a e' cap' : Nat} {A' : Nat → Nat → Nat} (h : XB G M C σ) (g : Gw G M M2 C σ σ' j a e' cap' A') {i e c : Nat} {l : List Nat} (hi : i = 15 ∨ i = 18) (s : SL G M C σ i e c l) : SL G M2 (gC C j e' cap' A') σ' i e c l := by
  have g0 := g
  obtain ⟨g1, g2, g3, g4, g5, g6, g7, g8, g9, gl, ⟨gn, gm⟩, gr, gA, gAn, j1, j4⟩ := g
  obtain ⟨s1, s2, s3, s4⟩ := s
  have he : 0 < c → 0 < eC C j → e ≠ eE C j := fun c1 c2 => s3 c1 j j1 j4 c2
  obtain ⟨b1, b2⟩ := g0.xl h s1 (h.ne (by omega) (by omega) (by omega)) he
  have n1 : σ.1 1 ≤ σ'.1 1 := by
    by_cases e1 : j = 1
    · subst e1; omega
    · rw [gm 1 (fun h => e1 h.symm)]; exact Nat.le_refl _
  refine ⟨s1.sm b1 b2, s2, fun c1 k k1 k4 ck => ?_, fun q hq => ⟨?_, Nat.lt_of_lt_of_le (s4 q hq).2 n1⟩⟩
  · show e ≠ va_up (eE C) j e' k
    have ck2 : 0 < va_up (eC C) j cap' k := ck
    by_cases ek : k = j
    · subst ek; rw [up_s]; exact g0.fr s1 he c1
    · rw [up_n _ _ ek] at ck2 ⊢
      exact s3 c1 k k1 k4 ck2
  · rw [b2.qq]
    show _ = some (A' 5 _)
    rw [gA 5 _ (Or.inl ⟨rfl, (s4 q hq).2⟩)]
    exact (s4 q hq).1
theorem S2.grow {j a e' cap' : Nat} {A' : Nat → Nat → Nat} (h : XB G M C σ) (g : Gw G M M2 C σ σ' j a e' cap' A') {l m : List Nat} (s : S2 G M C σ l m) : S2 G M2 (gC C j e' cap' A') σ' l m := by
  obtain ⟨e1, c1, e2, c2, s1, s2, s3⟩ := s
  exact ⟨e1, c1, e2, c2, s1.grow h g (Or.inl rfl), s2.grow h g (Or.inr rfl), s3⟩
theorem Gw.fx {j a e' cap' : Nat} {A' : Nat → Nat → Nat} (g : Gw G M M2 C σ σ' j a e' cap' A') (h : XB G M C σ) (hn : mN M ≤ mN M2) : FX C M M2 := by
  have g0 := g
  obtain ⟨g1, g2, g3, g4, g5, g6, g7, g8, g9, gl, ⟨gn, gm⟩, gr, gA, gAn, j1, j4⟩ := g
  refine ⟨hn, fun b x hb hx hk => ?_⟩
  obtain ⟨t, z⟩ := x
  have hx2 : t = 9 ∨ t = 11 ∨ t = 12 ∨ t = 14 ∨ t = 15 ∨ t = 16 ∨ t = 17 := hx
  have hl := h.l j ⟨j1, j4⟩
  obtain ⟨t', z', a1, a2⟩ := hl.ar2
  by_cases ee : b = eE C j
  · rcases g7 with ⟨g6', -, -⟩ | ⟨-, g7⟩
    · exfalso
      rcases hl.arr with ⟨-, c2⟩ | ⟨c1, -⟩
      · rw [ee, c2] at hb; cases hb; omega
      · omega
    · rw [ee]; exact g7
  · exact g1 b (gl _ _ hb) (hk j (by omega)) ee (hk 10 (by decide)) (hk 12 (by decide))
end GRO
