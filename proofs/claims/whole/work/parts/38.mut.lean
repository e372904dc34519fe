/-! The class: what its writes do to the village. -/
section MUT
variable {G : GC} {M M' : Mem} {C : CE} {σ σ' : St} {T : Nat}
theorem sh_congr (h2 : ∀ k, k = 1 ∨ k = 2 ∨ k = 3 → σ'.2 k = σ.2 k) (a b k : Nat) : sh σ' a b k = sh σ a b k := by
  induction k with
  | zero => rfl
  | succ k ih => unfold sh; rw [ih, h2 1 (by omega), h2 2 (by omega), h2 3 (by omega)]
theorem dv_congr (h1 : σ'.1 1 = σ.1 1) (h2 : ∀ k, k = 1 ∨ k = 2 ∨ k = 3 → σ'.2 k = σ.2 k) (a b : Nat) : dv σ' a b = dv σ a b := by
  unfold dv shh; rw [h1, sh_congr h2]
theorem dst_places (hS : StOk σ) (hS' : StOk σ') (h1 : σ'.1 1 = σ.1 1) (h2 : ∀ k, k = 1 ∨ k = 2 ∨ k = 3 → σ'.2 k = σ.2 k) (a b : Nat) : dst σ' a b = dst σ a b := by
  have e : ∀ P, Feas σ' P ↔ Feas σ P := fun P => by unfold Feas; rw [h1, h2 1 (by omega), h2 2 (by omega), h2 3 (by omega)]
  have k := dst_is hS a
  refine (dst_is hS' a).uniq (⟨k.1, (e _).mpr k.2.1, k.2.2.1, fun P h0 hf hc => k.2.2.2 P h0 ((e P).mp hf) hc⟩ : IsDist σ' 100000 a (dst σ a)) b
theorem LL.arr {l e n cap : Nat} (h : LL G M l e n cap) : (0 < cap ∧ mC M e = some (13, cap)) ∨ (cap = 0 ∧ e = G.2.2.2 ∧ mC M e = some (17, 0)) := h.2.2.2.2.2
theorem LL.ar2 {l e n cap : Nat} (h : LL G M l e n cap) : ∃ t z, mC M e = some (t, z) ∧ (t = 13 ∨ t = 17) := by
  rcases h.arr with ⟨-, h⟩ | ⟨-, -, h⟩
  · exact ⟨13, cap, h, Or.inl rfl⟩
  · exact ⟨17, 0, h, Or.inr rfl⟩
theorem ne_ty {b b' t t' z z' : Nat} (h : mC M b = some (t, z)) (h' : mC M b' = some (t', z')) (ht : t ≠ t') : b ≠ b' := fun e => by
  rw [e, h'] at h; cases h; exact ht rfl
theorem LL.sm {l e n cap : Nat} (h : LL G M l e n cap) (h1 : Sm M M' l) (h2 : Sm M M' e) : LL G M' l e n cap := by
  obtain ⟨l1, l2, l3, l4, l5, l6⟩ := h
  refine ⟨h1.c l1, h1.i l2, h1.r l3, l4, l5, ?_⟩
  rcases l6 with ⟨c1, c2⟩ | ⟨c1, c2, c3⟩
  · exact Or.inl ⟨c1, h2.c c2⟩
  · exact Or.inr ⟨c1, c2, h2.c c3⟩
theorem SL.sm {j e cap : Nat} {l : List Nat} (h : SL G M C σ j e cap l) (n1 : σ'.1 1 = σ.1 1) (h1 : Sm M M' (eX C j)) (h2 : Sm M M' e) : SL G M' C σ' j e cap l :=
  ⟨h.1.sm h1 h2, h.2.1, h.2.2.1, fun i hi => ⟨by rw [h2.qq]; exact (h.2.2.2 i hi).1, by rw [n1]; exact (h.2.2.2 i hi).2⟩⟩
/-- one cell's numbers change -/
theorem XB.core (h : XB G M C σ) {b0 t0 : Nat} (hb0 : mC M b0 = some (t0, 0)) (ht0 : t0 = 8 ∨ t0 = 5 ∨ t0 = 1 ∨ t0 = 2)
    (hM : ∀ b, b ≠ b0 → Sm M M' b) (hc : mC M' b0 = mC M b0) (hr : ∀ f, mR M' f b0 = mR M f b0)
    (n14 : ∀ j, 1 ≤ j → j ≤ 4 → σ'.1 j = σ.1 j) (h2 : ∀ k, k = 1 ∨ k = 2 ∨ k = 3 ∨ k = 9 → σ'.2 k = σ.2 k) (hd : ∀ a b, a < 10 → b < 10 → dst σ' a b = dst σ a b)
    (hS : SP0 M' C σ') (hst : ∀ s, s < σ.1 1 → StreetP M' C σ' s) (hh : ∀ i, i < σ.1 2 → HouseP M' C σ' i) (hq : ∀ q, q < σ.1 4 → ParcelP M' C σ' q) : XB G M' C σ' := by
  have h0 := h
  obtain ⟨⟨f1, f2, f3, f4⟩, s, l, st, pp, -, rr, -, ⟨i1, i2, i3⟩, gd⟩ := h
  have n1 := n14 1 (by omega) (by omega)
  have nb : ∀ b t z, mC M b = some (t, z) → t ≠ t0 → Sm M M' b := fun b t z hb ht => hM b (ne_ty hb hb0 ht)
  have hcs : ∀ b, mC M' b = mC M b := fun b => by
    by_cases e : b = b0
    · rw [e]; exact hc
    · exact (hM b e).1
  refine ⟨⟨fun k hk => (hcs _).trans (f1 k hk), fun q hq => ?_, fun q hq => ?_, f4⟩, hS, fun j h1 h3 => ?_, fun i hi => hst i (by omega), fun p hp => ?_, fun i hi => hh i (by have := n14 2 (by omega) (by omega); omega), fun i hi => ?_, fun i hi => hq i (by have := n14 4 (by omega) (by omega); omega), ⟨fun j h1 h3 a b ha hb => ?_, fun p q hp hq => i2 p q (by omega) (by omega), i3⟩, ⟨fun a b ha hb => ?_, fun a b ha hb => ?_⟩, gd.2⟩
  · by_cases e : eX C q.1 = b0
    · rw [e, hr, ← e]; exact f2 q hq
    · exact (hM _ e).r (f2 q hq)
  · have hx : ∀ q ∈ xG, q.1 < 20 ∧ xT q.1 = 0 := by decide
    have e := f1 q.1 (hx q hq).1
    rw [(hx q hq).2] at e
    have sq := nb _ _ _ e (by omega)
    exact ⟨sq.i (f3 q hq).1, sq.i (f3 q hq).2⟩
  · obtain ⟨l1, l2, l3⟩ := l j h1 h3
    obtain ⟨t, z, a1, a2⟩ := l1.ar2
    have se := nb _ _ _ a1 (by omega)
    refine ⟨?_, l2, fun i hi => ?_⟩
    · rw [n14 j h1 h3]; exact l1.sm (nb _ _ _ l1.1 (by omega)) se
    · rw [n14 j h1 h3] at hi
      rw [se.qq, hcs]; exact l3 i hi
  · obtain ⟨a0, a1, a2, a3, a4⟩ := pp p (by omega)
    have sp := nb _ _ _ a0 (by omega)
    have e1 : fr σ' p = fr σ p := by unfold fr; rw [h2 1 (by omega), h2 2 (by omega)]
    have e2 : tt σ' p = tt σ p := by unfold tt; rw [h2 1 (by omega), h2 2 (by omega)]
    have e3 : ln σ' p = ln σ p := by unfold ln; rw [h2 3 (by omega)]
    unfold PassP
    rw [e1, e2, e3]
    exact ⟨sp.c a0, sp.i a1, sp.i a2, sp.i a3, sp.i a4⟩
  · have n3 := n14 3 (by omega) (by omega)
    rw [h2 9 (by omega)]
    exact (nb _ _ _ (h0.k4 i (by omega)) (by omega)).i (rr i (by omega))
  · rw [n14 j h1 h3] at ha hb
    exact i1 j h1 h3 a b ha hb
  · rw [dv_congr n1 (fun k hk => h2 k (by omega)), (nb _ _ _ (h0.x 10 11 100) (by omega)).aa]; exact gd.1.1 a b ha hb
  · unfold ld
    rw [hd a b ha hb, (nb _ _ _ (h0.x 12 11 100) (by omega)).aa]; exact gd.1.2 a b ha hb
theorem S2.core {l m : List Nat} (h : S2 G M C σ l m) {b0 t0 : Nat} (hb0 : mC M b0 = some (t0, 0)) (ht0 : t0 = 8 ∨ t0 = 5 ∨ t0 = 1 ∨ t0 = 2) (hM : ∀ b, b ≠ b0 → Sm M M' b) (n1 : σ'.1 1 = σ.1 1) : S2 G M' C σ' l m := by
  obtain ⟨e1, c1, e2, c2, s1, s2, h3⟩ := h
  have nb : ∀ b t z, mC M b = some (t, z) → t ≠ t0 → Sm M M' b := fun b t z hb ht => hM b (ne_ty hb hb0 ht)
  obtain ⟨t, z, a1, a2⟩ := s1.1.ar2
  obtain ⟨t', z', b1, b2⟩ := s2.1.ar2
  exact ⟨e1, c1, e2, c2, s1.sm n1 (nb _ _ _ s1.1.1 (by omega)) (nb _ _ _ a1 (by omega)), s2.sm n1 (nb _ _ _ s2.1.1 (by omega)) (nb _ _ _ b1 (by omega)), h3⟩
/-- a number of the object is written -/
theorem XM.obj (h : XM G M C σ) {f : Nat} {x : Int32} (n14 : ∀ j, 1 ≤ j → j ≤ 4 → σ'.1 j = σ.1 j) (h2 : σ'.2 = σ.2) (hd : ∀ a b, a < 10 → b < 10 → dst σ' a b = dst σ a b)
    (hS : SP0 (sI M f (upd (mI M f) (eX C 0) x)) C σ') : XM G (sI M f (upd (mI M f) (eX C 0) x)) C σ' := by
  obtain ⟨hX, l, m, hs, hl, hm⟩ := h
  have hb0 := hX.x 0 8 0
  have hM : ∀ b, b ≠ eX C 0 → Sm M (sI M f (upd (mI M f) (eX C 0) x)) b := fun b hb => Sm.Iu hb
  have k : ∀ b t z, mC M b = some (t, z) → t ≠ 8 → Sm M (sI M f (upd (mI M f) (eX C 0) x)) b := fun b t z hb ht => hM b (ne_ty hb hb0 ht)
  refine ⟨hX.core hb0 (Or.inl rfl) hM rfl (fun _ => rfl) n14 (fun k _ => by rw [h2]) hd hS (fun s hs => ?_) (fun i hi => ?_) (fun q hq => ?_), l, m, hs.core hb0 (Or.inl rfl) hM (n14 1 (by omega) (by omega)), hl, hm⟩
  · have e := k _ _ _ (hX.k5 s hs) (by omega)
    unfold StreetP; rw [h2]
    exact ⟨e.i (hX.g320 s hs), e.i (hX.g321 s hs), e.i (hX.g322 s hs), e.i (hX.g323 s hs), e.r (hX.g324 s hs), e.r (hX.g325 s hs), e.i (hX.g326 s hs)⟩
  · have e := k _ _ _ (hX.k1 i hi) (by omega)
    unfold HouseP; rw [h2]
    exact ⟨e.i (hX.g64 i hi), e.r (hX.g65 i hi), e.i (hX.g66 i hi), e.i (hX.g67 i hi), e.i (hX.g68 i hi)⟩
  · have e := k _ _ _ (hX.k2 q hq) (by omega)
    unfold ParcelP; rw [h2]
    exact ⟨e.r (hX.g128 q hq), e.i (hX.g129 q hq), e.i (hX.g130 q hq), e.i (hX.g131 q hq)⟩
theorem sI_at (f a : Nat) (x : Int32) : mI (sI M f (upd (mI M f) a x)) f a = x := by rw [mI_sI]; simp [upd]
theorem sI_n {f a g b : Nat} {x : Int32} (h : g ≠ f) : mI (sI M f (upd (mI M f) a x)) g b = mI M g b := congrFun (mI_sIn _ _ _ _ h) b
theorem sI_o {f a g b : Nat} {x : Int32} (h : b ≠ a) : mI (sI M f (upd (mI M f) a x)) g b = mI M g b := by
  by_cases e : g = f
  · subst e; rw [mI_sI]; simp [upd, h]
  · exact sI_n e
/-- a number of an element is written -/
theorem XM.el (h : XM G M C σ) {f j i k v t0 : Nat} {x : Int32} (hj : (j = 2 ∧ f = 68 ∧ k = 8 ∧ t0 = 1) ∨ (j = 1 ∧ f = 326 ∧ k = 4 ∧ t0 = 5) ∨ (j = 4 ∧ f = 131 ∧ k = 14 ∧ t0 = 2)) (hi : i < σ.1 j) (hx : x = vz k v) : XM G (sI M f (upd (mI M f) (eA C j i) x)) C (stA σ k i v) := by
  obtain ⟨hX, l, m, hs, hl, hm⟩ := h
  have hj4 : 1 ≤ j ∧ j ≤ 4 := by omega
  have hb0 : mC M (eA C j i) = some (t0, 0) := hX.k j i t0 hi ⟨hj4, by rcases hj with ⟨a, b, c, d⟩ | ⟨a, b, c, d⟩ | ⟨a, b, c, d⟩ <;> subst a <;> exact d.symm⟩
  have hM : ∀ b, b ≠ eA C j i → Sm M (sI M f (upd (mI M f) (eA C j i) x)) b := fun b hb => Sm.Iu hb
  have r : ∀ q, q ≠ k → (stA σ k i v).2 q = σ.2 q := fun q hq => up_n _ _ hq
  have rk : ∀ q, (stA σ k i v).2 k q = if q = i then v else σ.2 k q := fun q => by
    show va_up σ.2 k (va_up (σ.2 k) i v) k q = _
    rw [up_s]; simp [va_up]
  have e0 : eA C j i ≠ eX C 0 := ne_ty hb0 (hX.x 0 8 0) (by omega)
  refine ⟨hX.core hb0 (by omega) hM rfl (fun _ => rfl) (fun _ _ _ => rfl) (fun q hq => r q (by omega)) (fun a b _ _ => congrFun (congrFun (dst_congr (σ := σ) (σ' := stA σ k i v) rfl rfl (fun q hq => r q (by omega))) a) b) ⟨(sI_o e0.symm).trans hX.i519, (sI_o e0.symm).trans hX.i520, (sI_o e0.symm).trans hX.i521, (sI_o e0.symm).trans hX.i522, (sI_o e0.symm).trans hX.i523, hX.j524⟩ (fun s hs => ?_) (fun s hs => ?_) (fun s hs => ?_), l, m, hs.core hb0 (by omega) hM rfl, hl, hm⟩
  · rcases hj with ⟨a, b, c, d⟩ | ⟨a, b, c, d⟩ | ⟨a, b, c, d⟩ <;> subst a b c d
    · have e := hM _ (ne_ty (hX.k5 s hs) hb0 (by omega))
      unfold StreetP
      rw [r 1 (by omega), r 3 (by omega), r 13 (by omega), r 4 (by omega)]
      exact ⟨e.i (hX.g320 s hs), e.i (hX.g321 s hs), e.i (hX.g322 s hs), e.i (hX.g323 s hs), e.r (hX.g324 s hs), e.r (hX.g325 s hs), e.i (hX.g326 s hs)⟩
    · unfold StreetP
      rw [r 1 (by omega), r 3 (by omega), r 13 (by omega), rk]
      by_cases e : s = i
      · subst e
        rw [if_pos rfl]
        exact ⟨(sI_n (by decide)).trans (hX.g320 s hs), (sI_n (by decide)).trans (hX.g321 s hs), (sI_n (by decide)).trans (hX.g322 s hs), (sI_n (by decide)).trans (hX.g323 s hs), hX.g324 s hs, hX.g325 s hs, (sI_at _ _ _).trans hx⟩
      · rw [if_neg e]
        have e := hM _ (fun h => e ((hX.inj 1 s i hs hi).mp h))
        exact ⟨e.i (hX.g320 s hs), e.i (hX.g321 s hs), e.i (hX.g322 s hs), e.i (hX.g323 s hs), e.r (hX.g324 s hs), e.r (hX.g325 s hs), e.i (hX.g326 s hs)⟩
    · have e := hM _ (ne_ty (hX.k5 s hs) hb0 (by omega))
      unfold StreetP
      rw [r 1 (by omega), r 3 (by omega), r 13 (by omega), r 4 (by omega)]
      exact ⟨e.i (hX.g320 s hs), e.i (hX.g321 s hs), e.i (hX.g322 s hs), e.i (hX.g323 s hs), e.r (hX.g324 s hs), e.r (hX.g325 s hs), e.i (hX.g326 s hs)⟩
  · rcases hj with ⟨a, b, c, d⟩ | ⟨a, b, c, d⟩ | ⟨a, b, c, d⟩ <;> subst a b c d
    · unfold HouseP
      rw [r 5 (by omega), r 6 (by omega), r 7 (by omega), rk]
      by_cases e : s = i
      · subst e
        rw [if_pos rfl]
        exact ⟨(sI_n (by decide)).trans (hX.g64 s hs), hX.g65 s hs, (sI_n (by decide)).trans (hX.g66 s hs), (sI_n (by decide)).trans (hX.g67 s hs), (sI_at _ _ _).trans hx⟩
      · rw [if_neg e]
        have e := hM _ (fun h => e ((hX.inj 2 s i hs hi).mp h))
        exact ⟨e.i (hX.g64 s hs), e.r (hX.g65 s hs), e.i (hX.g66 s hs), e.i (hX.g67 s hs), e.i (hX.g68 s hs)⟩
    · have e := hM _ (ne_ty (hX.k1 s hs) hb0 (by omega))
      unfold HouseP
      rw [r 5 (by omega), r 6 (by omega), r 7 (by omega), r 8 (by omega)]
      exact ⟨e.i (hX.g64 s hs), e.r (hX.g65 s hs), e.i (hX.g66 s hs), e.i (hX.g67 s hs), e.i (hX.g68 s hs)⟩
    · have e := hM _ (ne_ty (hX.k1 s hs) hb0 (by omega))
      unfold HouseP
      rw [r 5 (by omega), r 6 (by omega), r 7 (by omega), r 8 (by omega)]
      exact ⟨e.i (hX.g64 s hs), e.r (hX.g65 s hs), e.i (hX.g66 s hs), e.i (hX.g67 s hs), e.i (hX.g68 s hs)⟩
  · rcases hj with ⟨a, b, c, d⟩ | ⟨a, b, c, d⟩ | ⟨a, b, c, d⟩ <;> subst a b c d
    · have e := hM _ (ne_ty (hX.k2 s hs) hb0 (by omega))
      unfold ParcelP
      rw [r 10 (by omega), r 11 (by omega), r 12 (by omega), r 14 (by omega)]
      exact ⟨e.r (hX.g128 s hs), e.i (hX.g129 s hs), e.i (hX.g130 s hs), e.i (hX.g131 s hs)⟩
    · have e := hM _ (ne_ty (hX.k2 s hs) hb0 (by omega))
      unfold ParcelP
      rw [r 10 (by omega), r 11 (by omega), r 12 (by omega), r 14 (by omega)]
      exact ⟨e.r (hX.g128 s hs), e.i (hX.g129 s hs), e.i (hX.g130 s hs), e.i (hX.g131 s hs)⟩
    · unfold ParcelP
      rw [r 10 (by omega), r 11 (by omega), r 12 (by omega), rk]
      by_cases e : s = i
      · subst e
        rw [if_pos rfl]
        exact ⟨hX.g128 s hs, (sI_n (by decide)).trans (hX.g129 s hs), (sI_n (by decide)).trans (hX.g130 s hs), (sI_at _ _ _).trans hx⟩
      · rw [if_neg e]
        have e := hM _ (fun h => e ((hX.inj 4 s i hs hi).mp h))
        exact ⟨e.r (hX.g128 s hs), e.i (hX.g129 s hs), e.i (hX.g130 s hs), e.i (hX.g131 s hs)⟩
theorem FX.i {f b0 t0 : Nat} {x : Int32} (hb0 : mC M b0 = some (t0, 0)) (ht : t0 < 9) : FX C M (sI M f (upd (mI M f) b0 x)) :=
  ⟨Nat.le_refl _, fun b x hb hx _ => Sm.Iu (by
    obtain ⟨t, z⟩ := x
    exact ne_ty hb hb0 (by simp only at hx; omega))⟩
theorem XQ.el (h : XM G M C σ) {f j i k v t0 : Nat} {x : Int32} (hj : (j = 2 ∧ f = 68 ∧ k = 8 ∧ t0 = 1) ∨ (j = 1 ∧ f = 326 ∧ k = 4 ∧ t0 = 5) ∨ (j = 4 ∧ f = 131 ∧ k = 14 ∧ t0 = 2)) (hi : i < σ.1 j) (hx : x = vz k v) : XQ G C M (stA σ k i v) (sI M f (upd (mI M f) (eA C j i) x)) :=
  ⟨FX.i (h.1.k j i t0 hi ⟨by omega, by rcases hj with ⟨a, b, c, d⟩ | ⟨a, b, c, d⟩ | ⟨a, b, c, d⟩ <;> subst a <;> exact d.symm⟩) (by omega), C, rfl, h.el hj hi hx⟩
theorem XQ.tr {M'' : Mem} (h : FX C M M') (k : XQ G C M' σ M'') : XQ G C M σ M'' := ⟨h.tr rfl k.1, k.2⟩
theorem XQ.kx (h : XM G M C σ) (hO : Ok σ T) (k : Kx C M M') {l m : List Nat} (hs : S2 G M' C σ l m) (hl : l.length ≤ 32) (hm : m.length ≤ 32) : XQ G C M σ M' := ⟨k.fx, C, rfl, h.1.kx hO k, l, m, hs, hl, hm⟩
end MUT
