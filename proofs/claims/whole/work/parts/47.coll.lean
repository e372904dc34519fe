/-! The class: the passes that a group needs. -/
section COL
variable {G : GC} {M M' : Mem} {C : CE} {σ : St} {T : Nat}
/-- as Kx; and the row of the pairs stays -/
def Ky (C : CE) (M M' : Mem) : Prop := Kx C M M' ∧ mA M' (eX C 8) = mA M (eX C 8)
theorem Ky.rf : Ky C M M := ⟨Kx.rf, rfl⟩
theorem Ky.tr {M'' : Mem} (h : Ky C M M') (k : Ky C M' M'') : Ky C M M'' := ⟨h.1.tr k.1, k.2.trans h.2⟩
theorem XB.ky (hX : XB G M C σ) (hO : Ok σ T) (k : Ky C M M') : XB G M' C σ := hX.kx hO k.1
theorem Ky.i (hX : XB G M C σ) {f b : Nat} {x : Int32} (h : (mC M b = some (3, 0) ∧ (f = 196 ∨ f = 197)) ∨ mC M b = some (6, 0)) : Ky C M (sI M f (upd (mI M f) b x)) := ⟨Kx.i hX h, rfl⟩
theorem x_clear (hX : XB G M C σ) (hO : Ok σ T) {l m : List Nat} (hS : S2 G M C σ l m) : Ht G iX6_clear yX6_clear 4 [.ref (eX C 6)] M (rV fun M' => Ky C M M' ∧ CW G M' C σ [] m) nX 0 0 := by
  obtain ⟨e1, c1, e2, c2, s1, s2, hne⟩ := hS
  refine ht_intro (by decide +kernel) rfl rfl rfl (Nat.le_of_ble_eq_true rfl) ?_
  refine r_lt (fun hl0 => ?_)
  have gl : ∀ b x, mC M b = some x → b < mN M := fun b x hb => (hl0 b x.1 x.2 hb).1
  refine r_aload_n dX6_clear_0 rfl ?_
  refine r_getR qX6_18 dX6_clear_1 (hX.x 6 6 0) (hX.f 6 385 15) (kk := ?_)
  refine r_callV (mi := iX6_clear) vX6_38 dX6_clear_4 s1.1.1 (c_clear s1.1) (hm := by first | exact ⟨Nat.le_of_ble_eq_true rfl, Nat.le_of_ble_eq_true rfl⟩ | (constructor <;> simp only [rmd] <;> omega)) (k := kV (fun M1 h1 => ?_)) (kx := r_nox)
  obtain ⟨h1, h2, h3, h4⟩ := h1
  obtain ⟨k1, hS1⟩ := S2.clr15 hX gl s1 s2 hne h1 (Tch.clr s1.1 h1 h2 h3 h4)
  have k1 : Ky C M M1 := ⟨k1, by
    obtain ⟨ty, z, a1, a2⟩ := s1.1.ar2
    exact (h3 _ (hX.ne (by decide)) (ne_ty (hX.x 8 11 16) a1 (by omega))).aa⟩
  have h6 := k1.1.1 _ _ (hX.x 6 6 0)
  refine r_aload_n dX6_clear_7 rfl ?_
  refine r_iconst dX6_clear_8 ?_
  refine r_putI qX6_41 dX6_clear_9 h6 (kk := ?_)
  exact r_vret dX6_clear_12 (⟨rfl, k1.tr (Ky.i (hX.ky hO k1) (Or.inr h6)), hS1.i (Or.inr h6), sI_at _ _ _, fun c hc => nomatch hc⟩)
theorem x_addChoice (hX : XB G M C σ) (hO : Ok σ T) {l m : List Nat} (hS : S2 G M C σ l m) {p k n : Nat} (hp : p / 2 < σ.1 1) (hk : k < 32) (h6 : mI M 390 (eX C 6) = iz (k : Int)) (hl : l.length ≤ n) (hn : n ≤ 40) : Ht G iX6_addChoice yX6_addChoice 16 [.ref (eX C 6), .ref (eA C 5 p)] M (rV fun M' => Ky C M M' ∧ S2 G M' C σ (l ++ [p]) m ∧ mI M' 390 (eX C 6) = iz (k : Int) ∧ mI M' 196 (eA C 5 p) = iz ((2 ^ k : Nat) : Int) ∧ ∀ q, q / 2 < σ.1 1 → q ≠ p → mI M' 196 (eA C 5 q) = mI M 196 (eA C 5 q)) nX 1 (n + n / 2 + 10) := by
  have hX0 := hX
  refine ht_intro (by decide +kernel) rfl rfl rfl (Nat.le_of_ble_eq_true rfl) ?_
  refine r_aload_n dX6_addChoice_0 rfl ?_
  refine r_iconst dX6_addChoice_1 ?_
  refine r_aload_n dX6_addChoice_2 rfl ?_
  refine r_getI qX6_41 dX6_addChoice_3 (hX.x 6 6 0) h6 (kk := ?_)
  refine r_ishl dX6_addChoice_6 (sl_32 k hk) ?_
  refine r_putI qX6_62 dX6_addChoice_7 (hX.k3 p hp) (kk := ?_)
  have kx1 := Ky.i (f := 196) (x := iz ((2 ^ k : Nat) : Int)) hX0 (Or.inl ⟨hX0.k3 p hp, Or.inl rfl⟩)
  have hS1 := hS.i (f := 196) (x := iz ((2 ^ k : Nat) : Int)) (Or.inl (hX0.k3 p hp))
  have v1 : mI (sI M 196 (upd (mI M 196) (eA C 5 p) (iz ((2 ^ k : Nat) : Int)))) 390 (eX C 6) = iz (k : Int) := (sI_n (by decide)).trans h6
  have v2 : mI (sI M 196 (upd (mI M 196) (eA C 5 p) (iz ((2 ^ k : Nat) : Int)))) 196 (eA C 5 p) = iz ((2 ^ k : Nat) : Int) := sI_at _ _ _
  have v3 : ∀ q, q / 2 < σ.1 1 → q ≠ p → mI (sI M 196 (upd (mI M 196) (eA C 5 p) (iz ((2 ^ k : Nat) : Int)))) 196 (eA C 5 q) = mI M 196 (eA C 5 q) := fun q hq hne => sI_o (fun e => hne ((hX0.inj5 q p hq hp).mp e))
  refine gm (P := fun M1 => Ky C M M1 ∧ S2 G M1 C σ l m ∧ mI M1 390 (eX C 6) = iz (k : Int) ∧ mI M1 196 (eA C 5 p) = iz ((2 ^ k : Nat) : Int) ∧ ∀ q, q / 2 < σ.1 1 → q ≠ p → mI M1 196 (eA C 5 q) = mI M 196 (eA C 5 q)) ⟨kx1, hS1, v1, v2, v3⟩ (fun M1 hP => ?_)
  obtain ⟨kx1, hS1, v1, v2, v3⟩ := hP
  have hX := hX0.ky hO kx1
  obtain ⟨e1, c1, e2, c2, s1, s2, hne⟩ := hS1
  refine r_lt (fun hl0 => ?_)
  have gl : ∀ b x, mC M1 b = some x → b < mN M1 := fun b x hb => (hl0 b x.1 x.2 hb).1
  have hc1 := s1.2.1
  have hob : Obs M1 e1 l.length := fun i hi y hy => by
    obtain ⟨q1, q2⟩ := s1.2.2.2 i hi
    rw [q1] at hy; cases hy
    exact ⟨3, by decide, hX.k3 _ q2⟩
  refine r_aload_n dX6_addChoice_10 rfl ?_
  refine r_getR qX6_18 dX6_addChoice_11 (hX.x 6 6 0) (hX.f 6 385 15) (kk := ?_)
  refine r_aload_n dX6_addChoice_14 rfl ?_
  refine r_callV (mi := iX6_addChoice) vX6_67 dX6_addChoice_15 (hX.x 15 10 0) (c_add (t := 3) s1.1 (fun _ => hob) (by omega) (hX.k3 p hp) (by decide) (ne_ty (hX.k3 p hp) (hX.x 15 10 0) (by decide))) (hm := ⟨Nat.le_trans (Nat.add_le_add_left (ite_1 _ _) _) (Nat.le_of_ble_eq_true rfl), Nat.le_trans (Nat.add_le_add_left (ite_2 (b := n + n / 2 + 10) (by omega)) _) (by show 0 + (n + n / 2 + 10) ≤ n + n / 2 + 10; omega)⟩) (k := kI (fun r M2 hA => ?_)) (kx := r_nox)
  refine r_wid (kc' := 1) (ks' := n + n / 2 + 10) (Nat.le_trans (Nat.add_le_add_left (ite_1 _ _) _) (by decide)) (Nat.le_trans (Nat.add_le_add_left (ite_2 (b := n + n / 2 + 10) (by omega)) _) (by omega)) ?_
  obtain ⟨kx2, hS2⟩ := S2.add15 hX gl s1 s2 hne hp (by omega) hA
  have ha5 : ∀ b, b < mN M1 → b ≠ eX C 15 → b ≠ e1 → Sm M1 M2 b := by obtain ⟨_, _, _, _, _, _, h, _⟩ := hA; exact h
  have kx2 : Ky C M1 M2 := ⟨kx2, by
    obtain ⟨ty, z, a1, a2⟩ := s1.1.ar2
    exact (ha5 _ (gl _ _ (hX.x 8 11 16)) (hX.ne (by decide)) (ne_ty (hX.x 8 11 16) a1 (by omega))).aa⟩
  have sq : ∀ b t, mC M1 b = some (t, 0) → t = 3 ∨ t = 6 → Sm M1 M2 b := fun b t hb ht => by
    obtain ⟨ty, z, a1, a2⟩ := s1.1.ar2
    exact ha5 b (gl _ _ hb) (ne_ty hb s1.1.1 (by omega)) (ne_ty hb a1 (by omega))
  refine r_pop dX6_addChoice_18 (k := ?_)
  exact r_vret dX6_addChoice_19 (⟨rfl, kx1.tr kx2, hS2, (sq _ 6 (hX.x 6 6 0) (Or.inr rfl)).i v1, (sq _ 3 (hX.k3 p hp) (Or.inl rfl)).i v2, fun q hq hne2 => (sq _ 3 (hX.k3 q hq) (Or.inl rfl)).i (v3 q hq hne2)⟩)
/-- what one street needs, by its sides that are due -/
def ub (σ : St) (s : Nat) : List Nat := if σ.2 13 s = 0 then (if (sd σ s 0 || sd σ s 1) = true then [2 * s] else []) else (if sd σ s 0 = true then [2 * s] else []) ++ (if sd σ s 1 = true then [2 * s + 1] else [])
theorem ua_T {g s : Nat} (h : inG σ s g = true) : ua σ g s = ub σ s := if_pos h
theorem ua_F {g s : Nat} (h : inG σ s g = false) : ua σ g s = [] := if_neg (by rw [h]; decide)
theorem dsN_bits (s : Nat) : ∃ D : Nat, D = dsN σ s (σ.1 2) ∧ D < 4 ∧ (D % 2 = 1 ↔ sd σ s 0 = true) ∧ (2 ≤ D ↔ sd σ s 1 = true) := by
  refine ⟨_, rfl, ?_⟩
  show (if sd σ s 0 = true then 1 else 0) + (if sd σ s 1 = true then 2 else 0) < 4 ∧ (((if sd σ s 0 = true then 1 else 0) + (if sd σ s 1 = true then 2 else 0)) % 2 = 1 ↔ _) ∧ (2 ≤ (if sd σ s 0 = true then 1 else 0) + (if sd σ s 1 = true then 2 else 0) ↔ _)
  cases sd σ s 0 <;> cases sd σ s 1 <;> decide
theorem and_d1 : ∀ D : Nat, D < 4 → iz (D : Int) &&& iz 1 = iz ((D % 2 : Nat) : Int) := by decide +kernel
theorem and_d2 : ∀ D : Nat, D < 4 → iz (D : Int) &&& iz 2 = iz ((2 * (D / 2) : Nat) : Int) := by decide +kernel
theorem CW.kx {u m : List Nat} (h : CW G M C σ u m) : S2 G M C σ ((chz σ u).map Prod.fst) m := h.1
/-- one more choice: p, for the need k -/
theorem x_addNeeds (hX : XB G M C σ) (hO : Ok σ T) {u m : List Nat} (hW : CW G M C σ u m) {s : Nat} (hs : s < σ.1 1) (hu : u.length ≤ 2 * s) (hch : (chz σ u).length ≤ 2 * s) (hin : ∀ c ∈ chz σ u, c.1 / 2 < s) : Ht G iX6_addNeeds yX6_addNeeds 18 [.ref (eX C 6), .ref (eA C 1 s), .int (iz (dsN σ s (σ.1 2) : Int))] M (rV fun M' => Ky C M M' ∧ CW G M' C σ (u ++ ub σ s) m) nX 2 (6 * s + 22) := by
  have p3 := hO.1.2.2.1
  have w13 := (hO.2.1 s hs).2.2.2.2.2.1
  obtain ⟨D, hD, d4, b0, b1⟩ := dsN_bits (σ := σ) s
  rw [← hD]
  have hX0 := hX
  obtain ⟨hS, h390, hN⟩ := hW
  refine ht_intro (by decide +kernel) rfl rfl rfl (Nat.le_of_ble_eq_true rfl) ?_
  have hlen : ((chz σ u).map Prod.fst).length ≤ 2 * s := by rw [List.length_map]; exact hch
  have hun : u.length < 32 := by omega
  -- one unit for the side d of a wide street
  have one : ∀ (M1 : Mem) (v : List Nat) (x : Nat), x / 2 = s → v.length ≤ 2 * s + 1 → σ.2 13 s ≠ 0 → Ky C M M1 → CW G M1 C σ v m → (∀ c ∈ chz σ v, c.1 ≠ x) → ∀ M2, Ky C M1 M2 → S2 G M2 C σ ((chz σ v).map Prod.fst ++ [x]) m → mI M2 390 (eX C 6) = iz (v.length : Int) → mI M2 196 (eA C 5 x) = iz ((2 ^ v.length : Nat) : Int) → (∀ q, q / 2 < σ.1 1 → q ≠ x → mI M2 196 (eA C 5 q) = mI M1 196 (eA C 5 q)) → (∀ c ∈ chz σ v, c.1 / 2 < σ.1 1) → Ky C M (sI M2 390 (upd (mI M2 390) (eX C 6) (iz ((v.length : Int) + 1)))) ∧ CW G (sI M2 390 (upd (mI M2 390) (eX C 6) (iz ((v.length : Int) + 1)))) C σ (v ++ [x]) m := by
    intro M1 v x hx hv hw k1 hW1 hd M2 k2 hS2 hI hN2 hN3 hlt
    have hX1 := hX0.ky hO k1
    have hX2 := hX1.ky hO k2
    have e : chz σ (v ++ [x]) = chz σ v ++ [(x, v.length)] := by rw [chz_app, hx, if_neg hw]; rfl
    refine ⟨(k1.tr k2).tr (Ky.i hX2 (Or.inr (hX2.x 6 6 0))), ?_, ?_, fun c hc => ?_⟩
    · rw [e, List.map_append]
      exact hS2.i (Or.inr (hX2.x 6 6 0))
    · rw [List.length_append]; exact sI_at _ _ _
    · rw [e] at hc
      refine (sI_n (by decide)).trans ?_
      rcases List.mem_append.mp hc with h | h
      · rw [hN3 c.1 (hlt c h) (hd c h)]; exact hW1.2.2 c h
      · rw [List.mem_singleton] at h
        subst h; exact hN2
  have inn : ∀ c ∈ chz σ u, c.1 / 2 < σ.1 1 := fun c hc => by have := hin c hc; omega
  -- the tail: the second side of a wide street
  have tail : ∀ (M1 : Mem) (v : List Nat) (x3 : Int32) (kc ks : Nat), v.length ≤ 2 * s + 1 → (chz σ v).length ≤ 2 * s + 1 → Ky C M M1 → CW G M1 C σ v m → (∀ c ∈ chz σ v, c.1 ≠ 2 * s + 1) → (∀ c ∈ chz σ v, c.1 / 2 < σ.1 1) → v ++ (if σ.2 13 s ≠ 0 ∧ sd σ s 1 = true then [2 * s + 1] else []) = u ++ ub σ s → kc ≤ 1 ∨ (kc ≤ 2 ∧ σ.2 13 s = 0) → ks ≤ 3 * s + 11 ∨ (ks ≤ 6 * s + 22 ∧ σ.2 13 s = 0) → SWG G iX6_addNeeds (rmd 18 2 (6 * s + 22)) (QF G (rV fun M' => Ky C M M' ∧ CW G M' C σ (u ++ ub σ s) m) nX 2 (6 * s + 22)) 91 [(4, .int (bz (decide (2 ≤ D)))), (3, .int x3), (0, .ref (eX C 6)), (1, .ref (eA C 1 s)), (2, .int (iz (D : Int)))] [] M1 kc ks := by
    intro M1 v x3 kc ks hv hcv k1 hW1 hd hlt heq hkc hks
    have hX := hX0.ky hO k1
    have hX1 := hX
    refine r_aload_n dX6_addNeeds_91 rfl ?_
    refine r_getI qX6_45 dX6_addNeeds_92 (hX.k5 s hs) (hX.g323 s hs) (kk := ?_)
    refine r_if_eq (tgt := 121) dX6_addNeeds_95 (by decide) (kt := fun z95 => ?_) (kf := fun z95 => ?_)
    · first
       | (exfalso; omega)
       | (rw [if_pos ⟨by omega, b1.mp z100⟩] at heq
          have h9 := one M1 v (2 * s + 1) (by omega) hv (by omega) k1 hW1 hd M2 k2 q1 q2 q3 q4 hlt
          rw [heq] at h9
          exact r_vret dX6_addNeeds_121 ⟨rfl, h9⟩ (hm := ⟨by omega, by omega⟩))
       | (rw [if_neg (fun h => by first | exact h.1 (by omega) | exact z100 (b1.mpr h.2)), List.append_nil] at heq
          rw [heq] at hW1
          exact r_vret dX6_addNeeds_121 ⟨rfl, k1, hW1⟩ (hm := ⟨by omega, by omega⟩))
    · refine r_iload dX6_addNeeds_98 rfl ?_
      refine r_dif_eq (tgt := 121) dX6_addNeeds_100 (by decide) (kt := fun z100 => ?_) (kf := fun z100 => ?_)
      · first
         | (exfalso; omega)
         | (rw [if_pos ⟨by omega, b1.mp z100⟩] at heq
            have h9 := one M1 v (2 * s + 1) (by omega) hv (by omega) k1 hW1 hd M2 k2 q1 q2 q3 q4 hlt
            rw [heq] at h9
            exact r_vret dX6_addNeeds_121 ⟨rfl, h9⟩ (hm := ⟨by omega, by omega⟩))
         | (rw [if_neg (fun h => by first | exact h.1 (by omega) | exact z100 (b1.mpr h.2)), List.append_nil] at heq
            rw [heq] at hW1
            exact r_vret dX6_addNeeds_121 ⟨rfl, k1, hW1⟩ (hm := ⟨by omega, by omega⟩))
      · refine r_aload_n dX6_addNeeds_103 rfl ?_
        refine r_aload_n dX6_addNeeds_104 rfl ?_
        refine r_getR qX6_59 dX6_addNeeds_105 (hX.k5 s hs) (hX.g325 s hs) (kk := ?_)
        refine r_callV (mi := iX6_addNeeds) vX6_55 dX6_addNeeds_108 (hX.x 6 6 0) (x_addChoice hX hO hW1.1 (p := 2 * s + 1) (k := v.length) (n := 2 * s + 1) (by omega) (by omega) hW1.2.1 (by rw [List.length_map]; exact hcv) (by omega)) (hm := ⟨by show kc + 1 ≤ 2; omega, by show ks + (2 * s + 1 + (2 * s + 1) / 2 + 10) ≤ 6 * s + 22; omega⟩) (k := kV (fun M2 h2 => ?_)) (kx := r_nox)
        obtain ⟨k2, q1, q2, q3, q4⟩ := h2
        have hX := hX1.ky hO k2
        refine r_aload_n dX6_addNeeds_111 rfl ?_
        refine r_dup dX6_addNeeds_112 (k := ?_)
        refine r_getI qX6_41 dX6_addNeeds_113 (hX.x 6 6 0) q2 (kk := ?_)
        refine r_iconst dX6_addNeeds_116 ?_
        refine r_iadd dX6_addNeeds_117 ?_
        refine r_putI qX6_41 dX6_addNeeds_118 (hX.x 6 6 0) (kk := ?_)
        first
         | (exfalso; omega)
         | (rw [if_pos ⟨by omega, b1.mp z100⟩] at heq
            have h9 := one M1 v (2 * s + 1) (by omega) hv (by omega) k1 hW1 hd M2 k2 q1 q2 q3 q4 hlt
            rw [heq] at h9
            exact r_vret dX6_addNeeds_121 ⟨rfl, h9⟩ (hm := ⟨by omega, by omega⟩))
         | (rw [if_neg (fun h => by first | exact h.1 (by omega) | exact z100 (b1.mpr h.2)), List.append_nil] at heq
            rw [heq] at hW1
            exact r_vret dX6_addNeeds_121 ⟨rfl, k1, hW1⟩ (hm := ⟨by omega, by omega⟩))
  -- from 25 on
  have main : SWG G iX6_addNeeds (rmd 18 2 (6 * s + 22)) (QF G (rV fun M' => Ky C M M' ∧ CW G M' C σ (u ++ ub σ s) m) nX 2 (6 * s + 22)) 25 [(4, .int (bz (decide (2 ≤ D)))), (3, .int (bz (decide (D % 2 = 1)))), (0, .ref (eX C 6)), (1, .ref (eA C 1 s)), (2, .int (iz (D : Int)))] [] M 0 0 := by
    by_cases hw : σ.2 13 s = 0
    · by_cases hd0 : D = 0
      · have hub : ub σ s = [] := by
          unfold ub
          rw [if_pos hw, if_neg (fun h => by
            rw [Bool.or_eq_true] at h
            rcases h with h | h
            · have := b0.mpr h; omega
            · have := b1.mpr h; omega)]
        refine r_aload_n dX6_addNeeds_25 rfl ?_
        refine r_getI qX6_45 dX6_addNeeds_26 (hX.k5 s hs) (hX.g323 s hs) (kk := ?_)
        refine r_if_ne (tgt := 62) dX6_addNeeds_29 (by decide) (kt := fun z29 => (by exfalso; first | omega | simp_all)) (kf := fun z29 => ?_)
        refine r_iload_n dX6_addNeeds_32 rfl ?_
        refine r_if_eq (tgt := 62) dX6_addNeeds_33 (by decide) (kt := fun z33 => ?_) (kf := fun z33 => (by exfalso; first | omega | simp_all))
        refine r_aload_n dX6_addNeeds_62 rfl ?_
        refine r_getI qX6_45 dX6_addNeeds_63 (hX.k5 s hs) (hX.g323 s hs) (kk := ?_)
        refine r_if_eq (tgt := 91) dX6_addNeeds_66 (by decide) (kt := fun z66 => ?_) (kf := fun z66 => (by exfalso; first | omega | simp_all))
        exact r_loc' (tail M u _ 0 0 (by omega) (by omega) Ky.rf ⟨hS, h390, hN⟩ (fun c hc e => by have := hin c hc; omega) inn (by rw [if_neg (fun h => h.1 hw), hub]) (Or.inl (by omega)) (Or.inl (by omega))) ⟨rfl, rfl, rfl, rfl, rfl, trivial⟩
      · have hub : ub σ s = [2 * s] := by
          unfold ub
          rw [if_pos hw, if_pos (by
            rw [Bool.or_eq_true, ← b0, ← b1]; omega)]
        have e : chz σ (u ++ [2 * s]) = chz σ u ++ [(2 * s, u.length), (2 * s + 1, u.length)] := by rw [chz_app, show 2 * s / 2 = s by omega, if_pos hw]; rfl
        refine r_aload_n dX6_addNeeds_25 rfl ?_
        refine r_getI qX6_45 dX6_addNeeds_26 (hX.k5 s hs) (hX.g323 s hs) (kk := ?_)
        refine r_if_ne (tgt := 62) dX6_addNeeds_29 (by decide) (kt := fun z29 => (by exfalso; first | omega | simp_all)) (kf := fun z29 => ?_)
        refine r_iload_n dX6_addNeeds_32 rfl ?_
        refine r_if_eq (tgt := 62) dX6_addNeeds_33 (by decide) (kt := fun z33 => (by exfalso; first | omega | simp_all)) (kf := fun z33 => ?_)
        refine r_aload_n dX6_addNeeds_36 rfl ?_
        refine r_aload_n dX6_addNeeds_37 rfl ?_
        refine r_getR qX6_51 dX6_addNeeds_38 (hX.k5 s hs) (hX.g324 s hs) (kk := ?_)
        refine r_callV (mi := iX6_addNeeds) vX6_55 dX6_addNeeds_41 (hX.x 6 6 0) (x_addChoice hX hO hS (p := 2 * s) (k := u.length) (n := 2 * s) (by omega) (by omega) h390 hlen (by omega)) (hm := ⟨by show 0 + 1 ≤ 2; omega, by show 0 + (2 * s + 2 * s / 2 + 10) ≤ 6 * s + 22; omega⟩) (k := kV (fun M2 h2 => ?_)) (kx := r_nox)
        obtain ⟨k2, q1, q2, q3, q4⟩ := h2
        have hX := hX0.ky hO k2
        refine r_aload_n dX6_addNeeds_44 rfl ?_
        refine r_aload_n dX6_addNeeds_45 rfl ?_
        refine r_getR qX6_59 dX6_addNeeds_46 (hX.k5 s hs) (hX.g325 s hs) (kk := ?_)
        refine r_callV (mi := iX6_addNeeds) vX6_55 dX6_addNeeds_49 (hX.x 6 6 0) (x_addChoice hX hO q1 (p := 2 * s + 1) (k := u.length) (n := 2 * s + 1) (by omega) (by omega) q2 (by rw [List.length_append, List.length_singleton]; omega) (by omega)) (hm := ⟨by show 0 + 1 + 1 ≤ 2; omega, by show 0 + (2 * s + 2 * s / 2 + 10) + (2 * s + 1 + (2 * s + 1) / 2 + 10) ≤ 6 * s + 22; omega⟩) (k := kV (fun M3 h3 => ?_)) (kx := r_nox)
        obtain ⟨k3, t1, t2, t3, t4⟩ := h3
        have hX := hX.ky hO k3
        refine r_aload_n dX6_addNeeds_52 rfl ?_
        refine r_dup dX6_addNeeds_53 (k := ?_)
        refine r_getI qX6_41 dX6_addNeeds_54 (hX.x 6 6 0) t2 (kk := ?_)
        refine r_iconst dX6_addNeeds_57 ?_
        refine r_iadd dX6_addNeeds_58 ?_
        refine r_putI qX6_41 dX6_addNeeds_59 (hX.x 6 6 0) (kk := ?_)
        have hW4 : Ky C M (sI M3 390 (upd (mI M3 390) (eX C 6) (iz ((u.length : Int) + 1)))) ∧ CW G (sI M3 390 (upd (mI M3 390) (eX C 6) (iz ((u.length : Int) + 1)))) C σ (u ++ [2 * s]) m := by
          refine ⟨(k2.tr k3).tr (Ky.i hX (Or.inr (hX.x 6 6 0))), ?_, ?_, fun c hc => ?_⟩
          · rw [e, List.map_append]
            have := t1.i (f := 390) (x := iz ((u.length : Int) + 1)) (Or.inr (hX.x 6 6 0))
            rw [List.append_assoc] at this
            exact this
          · rw [List.length_append]; exact sI_at _ _ _
          · rw [e] at hc
            refine (sI_n (by decide)).trans ?_
            rcases List.mem_append.mp hc with h | h
            · have h5 := hin c h
              rw [t4 c.1 (by omega) (by omega), q4 c.1 (by omega) (by omega)]; exact hN c h
            · rcases List.mem_cons.mp h with h | h
              · subst h
                rw [t4 _ (by show 2 * s / 2 < _; omega) (by show 2 * s ≠ _; omega)]; exact q3
              · rw [List.mem_singleton] at h
                subst h; exact t3
        generalize sI M3 390 (upd (mI M3 390) (eX C 6) (iz ((u.length : Int) + 1))) = M4 at hW4 ⊢
        have hX := hX0.ky hO hW4.1
        refine r_aload_n dX6_addNeeds_62 rfl ?_
        refine r_getI qX6_45 dX6_addNeeds_63 (hX.k5 s hs) (hX.g323 s hs) (kk := ?_)
        refine r_if_eq (tgt := 91) dX6_addNeeds_66 (by decide) (kt := fun z66 => ?_) (kf := fun z66 => (by exfalso; first | omega | simp_all))
        have hin4 : ∀ c ∈ chz σ (u ++ [2 * s]), c.1 / 2 < σ.1 1 := fun c hc => by
          rw [e] at hc
          rcases List.mem_append.mp hc with h | h
          · exact inn c h
          · rcases List.mem_cons.mp h with h | h
            · subst h; show 2 * s / 2 < _; omega
            · rw [List.mem_singleton] at h
              subst h; show (2 * s + 1) / 2 < _; omega
        rw [← hub] at hW4
        obtain ⟨kx4, hW4⟩ := hW4
        have hrv : ∀ (x3 x4 : Int32), SWG G iX6_addNeeds (rmd 18 2 (6 * s + 22)) (QF G (rV fun M' => Ky C M M' ∧ CW G M' C σ (u ++ ub σ s) m) nX 2 (6 * s + 22)) 91 [(4, .int x4), (3, .int x3), (0, .ref (eX C 6)), (1, .ref (eA C 1 s)), (2, .int (iz (D : Int)))] [] M4 (0 + 1 + 1) (0 + (2 * s + 2 * s / 2 + 10) + (2 * s + 1 + (2 * s + 1) / 2 + 10)) := by
          intro x3 x4
          refine r_aload_n dX6_addNeeds_91 rfl ?_
          refine r_getI qX6_45 dX6_addNeeds_92 (hX.k5 s hs) (hX.g323 s hs) (kk := ?_)
          refine r_if_eq (tgt := 121) dX6_addNeeds_95 (by decide) (kt := fun z95 => ?_) (kf := fun z95 => (by exfalso; first | omega | simp_all))
          exact r_vret dX6_addNeeds_121 (⟨rfl, kx4, hW4⟩)
        exact r_loc' (hrv _ _) ⟨rfl, rfl, rfl, rfl, rfl, trivial⟩
    · by_cases hd1 : D % 2 = 1
      · skip
        refine r_aload_n dX6_addNeeds_25 rfl ?_
        refine r_getI qX6_45 dX6_addNeeds_26 (hX.k5 s hs) (hX.g323 s hs) (kk := ?_)
        refine r_if_ne (tgt := 62) dX6_addNeeds_29 (by decide) (kt := fun z29 => ?_) (kf := fun z29 => (by exfalso; first | omega | simp_all))
        refine r_aload_n dX6_addNeeds_62 rfl ?_
        refine r_getI qX6_45 dX6_addNeeds_63 (hX.k5 s hs) (hX.g323 s hs) (kk := ?_)
        refine r_if_eq (tgt := 91) dX6_addNeeds_66 (by decide) (kt := fun z66 => (by exfalso; first | omega | simp_all)) (kf := fun z66 => ?_)
        refine r_iload_n dX6_addNeeds_69 rfl ?_
        refine r_dif_eq (tgt := 91) dX6_addNeeds_70 (by decide) (kt := fun z70 => ?_) (kf := fun z70 => ?_)
        · first
           | (exfalso; omega)
           | (have h9 := one M u (2 * s) (by omega) (by omega) hw Ky.rf ⟨hS, h390, hN⟩ (fun c hc e => by have := hin c hc; omega) M2 k2 q1 q2 q3 q4 inn
              have e : chz σ (u ++ [2 * s]) = chz σ u ++ [(2 * s, u.length)] := by rw [chz_app, show 2 * s / 2 = s by omega, if_neg hw]; rfl
              refine r_loc' (tail _ (u ++ [2 * s]) _ _ _ ?_ ?_ h9.1 h9.2 (fun c hc => ?_) (fun c hc => ?_) ?_ (Or.inl (by omega)) (Or.inl (by omega))) ⟨rfl, rfl, rfl, rfl, rfl, trivial⟩
              · rw [List.length_append, List.length_singleton]; omega
              · rw [e, List.length_append, List.length_singleton]; omega
              · rw [e] at hc
                rcases List.mem_append.mp hc with h | h
                · have := hin c h; omega
                · rw [List.mem_singleton] at h; subst h; show 2 * s ≠ _; omega
              · rw [e] at hc
                rcases List.mem_append.mp hc with h | h
                · exact inn c h
                · rw [List.mem_singleton] at h; subst h; show 2 * s / 2 < _; omega
              · unfold ub
                rw [if_neg hw, if_pos (b0.mp hd1), List.append_assoc]
                congr 2
                by_cases h1 : sd σ s 1 = true
                · rw [if_pos ⟨hw, h1⟩, if_pos h1]
                · rw [if_neg (fun h => h1 h.2), if_neg h1])
        · refine r_aload_n dX6_addNeeds_73 rfl ?_
          refine r_aload_n dX6_addNeeds_74 rfl ?_
          refine r_getR qX6_51 dX6_addNeeds_75 (hX.k5 s hs) (hX.g324 s hs) (kk := ?_)
          refine r_callV (mi := iX6_addNeeds) vX6_55 dX6_addNeeds_78 (hX.x 6 6 0) (x_addChoice hX hO hS (p := 2 * s) (k := u.length) (n := 2 * s) (by omega) (by omega) h390 hlen (by omega)) (hm := ⟨by show 0 + 1 ≤ 2; omega, by show 0 + (2 * s + 2 * s / 2 + 10) ≤ 6 * s + 22; omega⟩) (k := kV (fun M2 h2 => ?_)) (kx := r_nox)
          obtain ⟨k2, q1, q2, q3, q4⟩ := h2
          have hX := hX0.ky hO k2
          refine r_aload_n dX6_addNeeds_81 rfl ?_
          refine r_dup dX6_addNeeds_82 (k := ?_)
          refine r_getI qX6_41 dX6_addNeeds_83 (hX.x 6 6 0) q2 (kk := ?_)
          refine r_iconst dX6_addNeeds_86 ?_
          refine r_iadd dX6_addNeeds_87 ?_
          refine r_putI qX6_41 dX6_addNeeds_88 (hX.x 6 6 0) (kk := ?_)
          first
           | (exfalso; omega)
           | (have h9 := one M u (2 * s) (by omega) (by omega) hw Ky.rf ⟨hS, h390, hN⟩ (fun c hc e => by have := hin c hc; omega) M2 k2 q1 q2 q3 q4 inn
              have e : chz σ (u ++ [2 * s]) = chz σ u ++ [(2 * s, u.length)] := by rw [chz_app, show 2 * s / 2 = s by omega, if_neg hw]; rfl
              refine r_loc' (tail _ (u ++ [2 * s]) _ _ _ ?_ ?_ h9.1 h9.2 (fun c hc => ?_) (fun c hc => ?_) ?_ (Or.inl (by omega)) (Or.inl (by omega))) ⟨rfl, rfl, rfl, rfl, rfl, trivial⟩
              · rw [List.length_append, List.length_singleton]; omega
              · rw [e, List.length_append, List.length_singleton]; omega
              · rw [e] at hc
                rcases List.mem_append.mp hc with h | h
                · have := hin c h; omega
                · rw [List.mem_singleton] at h; subst h; show 2 * s ≠ _; omega
              · rw [e] at hc
                rcases List.mem_append.mp hc with h | h
                · exact inn c h
                · rw [List.mem_singleton] at h; subst h; show 2 * s / 2 < _; omega
              · unfold ub
                rw [if_neg hw, if_pos (b0.mp hd1), List.append_assoc]
                congr 2
                by_cases h1 : sd σ s 1 = true
                · rw [if_pos ⟨hw, h1⟩, if_pos h1]
                · rw [if_neg (fun h => h1 h.2), if_neg h1])
      · skip
        refine r_aload_n dX6_addNeeds_25 rfl ?_
        refine r_getI qX6_45 dX6_addNeeds_26 (hX.k5 s hs) (hX.g323 s hs) (kk := ?_)
        refine r_if_ne (tgt := 62) dX6_addNeeds_29 (by decide) (kt := fun z29 => ?_) (kf := fun z29 => (by exfalso; first | omega | simp_all))
        refine r_aload_n dX6_addNeeds_62 rfl ?_
        refine r_getI qX6_45 dX6_addNeeds_63 (hX.k5 s hs) (hX.g323 s hs) (kk := ?_)
        refine r_if_eq (tgt := 91) dX6_addNeeds_66 (by decide) (kt := fun z66 => (by exfalso; first | omega | simp_all)) (kf := fun z66 => ?_)
        refine r_iload_n dX6_addNeeds_69 rfl ?_
        refine r_dif_eq (tgt := 91) dX6_addNeeds_70 (by decide) (kt := fun z70 => ?_) (kf := fun z70 => ?_)
        · refine r_loc' (tail M u _ 0 0 (by omega) (by omega) Ky.rf ⟨hS, h390, hN⟩ (fun c hc e => by have := hin c hc; omega) inn ?_ (Or.inl (by omega)) (Or.inl (by omega))) ⟨rfl, rfl, rfl, rfl, rfl, trivial⟩
          unfold ub
          rw [if_neg hw, if_neg (fun h => hd1 (b0.mpr h)), List.nil_append]
          congr 1
          by_cases h1 : sd σ s 1 = true
          · rw [if_pos ⟨hw, h1⟩, if_pos h1]
          · rw [if_neg (fun h => h1 h.2), if_neg h1]
        · refine r_aload_n dX6_addNeeds_73 rfl ?_
          refine r_aload_n dX6_addNeeds_74 rfl ?_
          refine r_getR qX6_51 dX6_addNeeds_75 (hX.k5 s hs) (hX.g324 s hs) (kk := ?_)
          exfalso; omega
  have eT : ∀ b : Bool, iz 1 = bz true ∧ iz 0 = bz false := fun _ => ⟨rfl, rfl⟩
  refine r_iload_n dX6_addNeeds_0 rfl ?_
  refine r_iconst dX6_addNeeds_1 ?_
  refine r_iand dX6_addNeeds_2 (and_d1 D d4) ?_
  refine r_if_eq (tgt := 10) dX6_addNeeds_3 (by decide) (kt := fun z3 => ?_) (kf := fun z3 => ?_)
  · refine r_iconst dX6_addNeeds_10 ?_
    refine r_istore_n dX6_addNeeds_11 (k := ?_)
    refine r_iload_n dX6_addNeeds_12 rfl ?_
    refine r_iconst dX6_addNeeds_13 ?_
    refine r_iand dX6_addNeeds_14 (and_d2 D d4) ?_
    refine r_if_eq (tgt := 22) dX6_addNeeds_15 (by decide) (kt := fun z15 => ?_) (kf := fun z15 => ?_)
    · refine r_iconst dX6_addNeeds_22 ?_
      refine r_istore dX6_addNeeds_23 (k := ?_)
      first
       | (exfalso; omega)
       | (have e1 : (decide (D % 2 = 1)) = true := decide_eq_true (by omega)
          have e2 : (decide (2 ≤ D)) = true := decide_eq_true (by omega)
          rw [e1, e2] at main
          exact r_loc' main ⟨rfl, rfl, rfl, rfl, rfl, trivial⟩)
       | (have e1 : (decide (D % 2 = 1)) = true := decide_eq_true (by omega)
          have e2 : (decide (2 ≤ D)) = false := decide_eq_false (by omega)
          rw [e1, e2] at main
          exact r_loc' main ⟨rfl, rfl, rfl, rfl, rfl, trivial⟩)
       | (have e1 : (decide (D % 2 = 1)) = false := decide_eq_false (by omega)
          have e2 : (decide (2 ≤ D)) = true := decide_eq_true (by omega)
          rw [e1, e2] at main
          exact r_loc' main ⟨rfl, rfl, rfl, rfl, rfl, trivial⟩)
       | (have e1 : (decide (D % 2 = 1)) = false := decide_eq_false (by omega)
          have e2 : (decide (2 ≤ D)) = false := decide_eq_false (by omega)
          rw [e1, e2] at main
          exact r_loc' main ⟨rfl, rfl, rfl, rfl, rfl, trivial⟩)
    · refine r_iconst dX6_addNeeds_18 ?_
      refine r_goto (tgt := 23) dX6_addNeeds_19 (by decide) ?_
      refine r_istore dX6_addNeeds_23 (k := ?_)
      first
       | (exfalso; omega)
       | (have e1 : (decide (D % 2 = 1)) = true := decide_eq_true (by omega)
          have e2 : (decide (2 ≤ D)) = true := decide_eq_true (by omega)
          rw [e1, e2] at main
          exact r_loc' main ⟨rfl, rfl, rfl, rfl, rfl, trivial⟩)
       | (have e1 : (decide (D % 2 = 1)) = true := decide_eq_true (by omega)
          have e2 : (decide (2 ≤ D)) = false := decide_eq_false (by omega)
          rw [e1, e2] at main
          exact r_loc' main ⟨rfl, rfl, rfl, rfl, rfl, trivial⟩)
       | (have e1 : (decide (D % 2 = 1)) = false := decide_eq_false (by omega)
          have e2 : (decide (2 ≤ D)) = true := decide_eq_true (by omega)
          rw [e1, e2] at main
          exact r_loc' main ⟨rfl, rfl, rfl, rfl, rfl, trivial⟩)
       | (have e1 : (decide (D % 2 = 1)) = false := decide_eq_false (by omega)
          have e2 : (decide (2 ≤ D)) = false := decide_eq_false (by omega)
          rw [e1, e2] at main
          exact r_loc' main ⟨rfl, rfl, rfl, rfl, rfl, trivial⟩)
  · refine r_iconst dX6_addNeeds_6 ?_
    refine r_goto (tgt := 11) dX6_addNeeds_7 (by decide) ?_
    refine r_istore_n dX6_addNeeds_11 (k := ?_)
    refine r_iload_n dX6_addNeeds_12 rfl ?_
    refine r_iconst dX6_addNeeds_13 ?_
    refine r_iand dX6_addNeeds_14 (and_d2 D d4) ?_
    refine r_if_eq (tgt := 22) dX6_addNeeds_15 (by decide) (kt := fun z15 => ?_) (kf := fun z15 => ?_)
    · refine r_iconst dX6_addNeeds_22 ?_
      refine r_istore dX6_addNeeds_23 (k := ?_)
      first
       | (exfalso; omega)
       | (have e1 : (decide (D % 2 = 1)) = true := decide_eq_true (by omega)
          have e2 : (decide (2 ≤ D)) = true := decide_eq_true (by omega)
          rw [e1, e2] at main
          exact r_loc' main ⟨rfl, rfl, rfl, rfl, rfl, trivial⟩)
       | (have e1 : (decide (D % 2 = 1)) = true := decide_eq_true (by omega)
          have e2 : (decide (2 ≤ D)) = false := decide_eq_false (by omega)
          rw [e1, e2] at main
          exact r_loc' main ⟨rfl, rfl, rfl, rfl, rfl, trivial⟩)
       | (have e1 : (decide (D % 2 = 1)) = false := decide_eq_false (by omega)
          have e2 : (decide (2 ≤ D)) = true := decide_eq_true (by omega)
          rw [e1, e2] at main
          exact r_loc' main ⟨rfl, rfl, rfl, rfl, rfl, trivial⟩)
       | (have e1 : (decide (D % 2 = 1)) = false := decide_eq_false (by omega)
          have e2 : (decide (2 ≤ D)) = false := decide_eq_false (by omega)
          rw [e1, e2] at main
          exact r_loc' main ⟨rfl, rfl, rfl, rfl, rfl, trivial⟩)
    · refine r_iconst dX6_addNeeds_18 ?_
      refine r_goto (tgt := 23) dX6_addNeeds_19 (by decide) ?_
      refine r_istore dX6_addNeeds_23 (k := ?_)
      first
       | (exfalso; omega)
       | (have e1 : (decide (D % 2 = 1)) = true := decide_eq_true (by omega)
          have e2 : (decide (2 ≤ D)) = true := decide_eq_true (by omega)
          rw [e1, e2] at main
          exact r_loc' main ⟨rfl, rfl, rfl, rfl, rfl, trivial⟩)
       | (have e1 : (decide (D % 2 = 1)) = true := decide_eq_true (by omega)
          have e2 : (decide (2 ≤ D)) = false := decide_eq_false (by omega)
          rw [e1, e2] at main
          exact r_loc' main ⟨rfl, rfl, rfl, rfl, rfl, trivial⟩)
       | (have e1 : (decide (D % 2 = 1)) = false := decide_eq_false (by omega)
          have e2 : (decide (2 ≤ D)) = true := decide_eq_true (by omega)
          rw [e1, e2] at main
          exact r_loc' main ⟨rfl, rfl, rfl, rfl, rfl, trivial⟩)
       | (have e1 : (decide (D % 2 = 1)) = false := decide_eq_false (by omega)
          have e2 : (decide (2 ≤ D)) = false := decide_eq_false (by omega)
          rw [e1, e2] at main
          exact r_loc' main ⟨rfl, rfl, rfl, rfl, rfl, trivial⟩)
end COL
