/-! The law from its entry to its loop. -/
section LWS
variable {G : GC} {M M' : Mem} {C : CE} {Y : Nat → Nat} {σ : St} {n sc : Nat}
theorem XM.bel (h : XM G M C σ) (hlt : ∀ a t z, mC M a = some (t, z) → a < mN M) (hs : ∀ b, b < mN M → Sm M M' b) : XM G M' C σ := h.fr (fun b hb => hs b (by
  rcases hb with ⟨t, z, h1, -⟩ | ⟨k, hk, rfl⟩
  · exact hlt _ _ _ h1
  · exact hlt _ _ _ (h.1.1.1 k hk)))
theorem RM.bel (h : RM M Y σ) (hlt : ∀ a t z, mC M a = some (t, z) → a < mN M) (hs : ∀ b, b < mN M → Sm M M' b) : RM M' Y σ := by
  have key : ∀ j, j = 0 ∨ j ∈ arK → Sm M M' (Y j) := fun j hj => by
    obtain ⟨t, z, h5, -⟩ := h.kind hj
    exact hs _ (hlt _ _ _ h5)
  exact h.sm (key 0 (Or.inl rfl)) (fun k hk => key k (Or.inr hk))
theorem y0_ge (a k : Nat) : a ≤ Y0 a (a + 1) k := by
  unfold Y0
  split <;> omega
theorem q_start (hn : n ≤ 2560) (hsc : mC M sc = some (16, n)) (hE : mC M G.2.2.2 = some (17, 0)) (hD : GD G) (hlt : ∀ a t z, mC M a = some (t, z) → a < mN M) : SWG G iL_law room_1 (LQ G) 0 [(0, .ref sc)] [] M 0 0 := by
  refine r_new (t := 8) nL_8 dL_law_0 (hm := ⟨Nat.le_of_ble_eq_true rfl, Nat.le_of_ble_eq_true rfl⟩) (k := fun hlt0 hgb0 => ?_)
  refine r_dup dL_law_3 (k := ?_)
  have hs0 := hlt _ _ _ hsc
  have he0 := hlt _ _ _ hE
  have hE1 : mC (nw M 8 0) G.2.2.2 = some (17, 0) := (Sm.nw (by omega)).c hE
  refine r_callI (mi := iL_law) vL_139 dL_law_4 (x_init (nw_c M 8 0) (by show mN M < mN M + 1; omega) (fun f => nw_i M 8 0 f) (fun f => if_pos rfl) hE1 (by show G.2.2.2 < mN M + 1; omega) hD) (hm := ⟨Nat.le_of_ble_eq_true rfl, Nat.le_of_ble_eq_true rfl⟩) (k := kV (fun M1 h1 => ?_)) (kx := r_nox)
  obtain ⟨hX, hN1, hS1⟩ := h1
  have hN1 : mN M1 = mN M + 1 + 19 := hN1
  have hS1 : ∀ b, b < mN M → Sm M M1 b := fun b hb => (Sm.nw (by omega)).tr (hS1 b (by show b < mN M + 1; omega) (by omega))
  refine r_astore_n dL_law_7 (k := ?_)
  refine r_lt (fun hlt1 => ?_)
  have hlt1 : ∀ a t z, mC M1 a = some (t, z) → a < mN M1 := fun a t z h => (hlt1 a t z h).1
  refine r_new (t := 9) nL_140 dL_law_8 (hm := ⟨Nat.le_of_ble_eq_true rfl, Nat.le_of_ble_eq_true rfl⟩) (k := fun hlt2 hgb2 => ?_)
  refine r_dup dL_law_11 (k := ?_)
  refine r_callI (mi := iL_law) vL_142 dL_law_12 (m_init (nw_c M1 9 0) (by show mN M1 < mN M1 + 1; omega) (fun f => nw_i M1 9 0 f) (fun f => if_pos rfl)) (hm := ⟨Nat.le_of_ble_eq_true rfl, Nat.le_of_ble_eq_true rfl⟩) (k := kV (fun M2 h2 => ?_)) (kx := r_nox)
  obtain ⟨hR, hN2, hS2⟩ := h2
  have hN2 : mN M2 = mN M1 + 1 + 21 := hN2
  have hR : RM M2 (Y0 (mN M1) (mN M1 + 1)) st0 := hR
  have hS2 : ∀ b, b < mN M1 → Sm M1 M2 b := fun b hb => (Sm.nw (by omega)).tr (hS2 b (by show b < mN M1 + 1; omega) (by omega))
  refine r_astore_n dL_law_15 (k := ?_)
  refine r_lt (fun hlt2 => ?_)
  have hlt2 : ∀ a t z, mC M2 a = some (t, z) → a < mN M2 := fun a t z h => (hlt2 a t z h).1
  refine r_iconst dL_law_16 ?_
  refine r_newa (aty := .long) (t := 14) (N := 1) wA_long dL_law_17 rfl (hm := ⟨Nat.le_of_ble_eq_true rfl, Nat.le_of_ble_eq_true rfl⟩) (k := fun _ _ => ?_)
  refine r_astore_n dL_law_19 (k := ?_)
  refine r_iconst dL_law_20 ?_
  refine r_newa (aty := .double) (t := 15) (N := 1) wA_double dL_law_21 rfl (hm := ⟨Nat.le_of_ble_eq_true rfl, Nat.le_of_ble_eq_true rfl⟩) (k := fun _ _ => ?_)
  refine r_astore dL_law_23 (k := ?_)
  refine r_iconst dL_law_25 ?_
  refine r_istore dL_law_26 (k := ?_)
  have hS3 : ∀ b, b < mN M2 → Sm M2 (nw (nw M2 14 1) 15 1) b := fun b hb => (Sm.nw (by omega)).tr (Sm.nw (by show b ≠ mN M2 + 1; omega))
  have hX2 := (hX.bel hlt1 hS2).bel hlt2 hS3
  have hR2 := hR.bel hlt2 hS3
  have hJ : DJ2 (C0 G (mN M) (mN M + 1)) (Y0 (mN M1) (mN M1 + 1)) := fun k hk j _ e => by
    have h1 := hlt1 _ _ _ (hX.1.1.1 k hk)
    have h2 := y0_ge (mN M1) j
    have e : eX (C0 G (mN M) (mN M + 1)) k = Y0 (mN M1) (mN M1 + 1) j := e
    have h1 : eX (C0 G (mN M) (mN M + 1)) k < mN M1 := h1
    omega
  have hc3 : mC (nw (nw M2 14 1) 15 1) (mN M2) = some (14, 1) := (Sm.nw (by show mN M2 ≠ mN M2 + 1; omega)).c (nw_c M2 14 1)
  have hc4 : mC (nw (nw M2 14 1) 15 1) (mN M2 + 1) = some (15, 1) := nw_c (nw M2 14 1) 15 1
  have hss : Sm M (nw (nw M2 14 1) 15 1) sc := ((hS1 sc hs0).tr (hS2 sc (by omega))).tr (hS3 sc (by omega))
  have hW : LW G (nw (nw M2 14 1) 15 1) (C0 G (mN M) (mN M + 1)) (Y0 (mN M1) (mN M1 + 1)) st0 0 (mN M2) (mN M2 + 1) sc n (mN M) (mA M sc) := ⟨⟨hX2, hR2, st0_ok, hJ, hc3, hc4⟩, ⟨hss.c hsc, hss.aa⟩, rfl⟩
  exact r_loc' (q_loop hn 512 0 rfl _ _ _ _ _ hW (Nat.le_of_ble_eq_true rfl) (Nat.le_of_ble_eq_true rfl)) ⟨rfl, rfl, rfl, rfl, rfl, rfl, trivial⟩
end LWS
