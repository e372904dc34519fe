/-! The walk's two lists: what touches one of them. -/
section TCH
variable {G : GC} {M M' : Mem} {C : CE} {σ : St} {T : Nat}
/-- only the list l and its row e change -/
def Tch (M M' : Mem) (l e c : Nat) : Prop := mN M ≤ mN M' ∧ (∀ b, b < mN M → b ≠ l → b ≠ e → Sm M M' b) ∧ (∀ b, b < mN M → mC M' b = mC M b) ∧ (c = 0 → Sm M M' e)
theorem Tch.add {l e n c a : Nat} (hL : LL G M l e n c) (h : AddP G M l e n c a M') : Tch M M' l e c := by
  obtain ⟨e', cap', a1, a2, a3, a4, a5, a6, a7, a8⟩ := h
  refine ⟨a7, a5, a6, fun hc => ?_⟩
  rcases a8 with ⟨-, -, h, -⟩ | ⟨-, -, -, -, h⟩
  · omega
  · exact h
theorem Tch.clr {l e n c : Nat} (hL : LL G M l e n c) (h : LL G M' l e 0 c) (hn : mN M' = mN M) (hs : ∀ b, b ≠ l → b ≠ e → Sm M M' b) (h0 : c = 0 → Sm M M' e) : Tch M M' l e c := by
  refine ⟨Nat.le_of_eq hn.symm, fun b _ h1 h2 => hs b h1 h2, fun b _ => ?_, h0⟩
  by_cases e1 : b = l
  · rw [e1, h.1, hL.1]
  · by_cases e2 : b = e
    · rw [e2]
      rcases hL.arr with ⟨c1, c2⟩ | ⟨c1, c2, c3⟩
      · rcases h.arr with ⟨d1, d2⟩ | ⟨d1, d2, d3⟩
        · rw [c2, d2]
        · omega
      · rcases h.arr with ⟨d1, d2⟩ | ⟨d1, d2, d3⟩
        · omega
        · rw [c3, d3]
    · exact (hs b e1 e2).1
theorem Kx.tch (hX : XB G M C σ) (gl : ∀ b x, mC M b = some x → b < mN M) {i e c : Nat} {l : List Nat} (hi : i = 15 ∨ i = 18) (s : SL G M C σ i e c l) (t : Tch M M' (eX C i) e c) : Kx C M M' := by
  obtain ⟨s1, s2, s3, s4⟩ := s
  obtain ⟨t1, t2, t3, t4⟩ := t
  have hl := s1.1
  obtain ⟨ty, z, a1, a2⟩ := s1.ar2
  have key : ∀ b t0 z0, mC M b = some (t0, z0) → t0 ≠ 10 → t0 ≠ 13 → Sm M M' b := fun b t0 z0 hb h10 h13 => by
    by_cases e1 : b = e
    · rw [e1]
      refine t4 ?_
      rcases s1.arr with ⟨c1, c2⟩ | ⟨c1, -⟩
      · rw [e1, c2] at hb; cases hb; exact absurd rfl h13
      · exact c1
    · exact t2 b (gl _ _ hb) (ne_ty hb hl h10) e1
  refine ⟨fun b x hb => (t3 b (gl _ _ hb)).trans hb, fun b x hb h3 h6 h10 h13 _ _ _ _ => key b x.1 x.2 hb h10 h13, fun b f hb _ _ => (key b 3 0 hb (by decide) (by decide)).2.1 f, fun f => (key _ 6 0 (hX.x 6 6 0) (by decide) (by decide)).2.2.1 f, fun j h1 h2 => ?_, t1⟩
  have hlj := hX.l j ⟨h1, h2⟩
  obtain ⟨tj, zj, b1, b2⟩ := hlj.ar2
  refine ⟨t2 _ (gl _ _ hlj.1) (hX.ne (by omega) (by omega) (by omega)) (ne_ty hlj.1 a1 (by omega)), fun hc => ?_⟩
  refine t2 _ (gl _ _ b1) (ne_ty b1 hl (by omega)) (fun e1 => ?_)
  by_cases hc0 : 0 < c
  · exact s3 hc0 j h1 h2 hc e1.symm
  · rcases hlj.arr with ⟨-, c2⟩ | ⟨c1, -⟩
    · rcases s1.arr with ⟨d1, -⟩ | ⟨-, -, d3⟩
      · omega
      · rw [e1, d3] at c2; cases c2
    · omega
/-- the other list stays -/
theorem SL.oth (hX : XB G M C σ) (gl : ∀ b x, mC M b = some x → b < mN M) {i e c j e2 c2 : Nat} {l m : List Nat} (hi : i < 20) (hj : j < 20) (hij : j ≠ i) (s : SL G M C σ i e c l) (s2 : SL G M C σ j e2 c2 m) (hne : 0 < c → 0 < c2 → e ≠ e2) (t : Tch M M' (eX C i) e c) : SL G M' C σ j e2 c2 m := by
  obtain ⟨t1, t2, t3, t4⟩ := t
  obtain ⟨ty, z, a1, a2⟩ := s.1.ar2
  obtain ⟨ty2, z2, b1, b2⟩ := s2.1.ar2
  refine s2.sm rfl (t2 _ (gl _ _ s2.1.1) (hX.ne hij hj hi) (ne_ty s2.1.1 a1 (by omega))) ?_
  by_cases e1 : e2 = e
  · rw [e1]
    refine t4 ?_
    rcases s.1.arr with ⟨c1, d1⟩ | ⟨c1, -⟩
    · rcases s2.1.arr with ⟨g1, g2⟩ | ⟨g1, g2, g3⟩
      · exact absurd e1.symm (hne c1 g1)
      · rw [e1, d1] at g3; cases g3
    · exact c1
  · exact t2 _ (gl _ _ b1) (ne_ty b1 s.1.1 (by omega)) e1
theorem getD_app (l : List Nat) (x i : Nat) : (l ++ [x]).getD i 0 = if i = l.length then x else l.getD i 0 := by
  rw [List.getD_eq_getElem?_getD, List.getD_eq_getElem?_getD]
  by_cases h1 : i < l.length
  · rw [List.getElem?_append_left h1, if_neg (by omega)]
  · by_cases h2 : i = l.length
    · subst h2
      rw [List.getElem?_append_right (Nat.le_refl _), if_pos rfl, Nat.sub_self]; rfl
    · rw [List.getElem?_append_right (by omega), if_neg h2, List.getElem?_eq_none (by simp; omega), List.getElem?_eq_none (by omega)]
theorem SL.add {i e c p : Nat} {l : List Nat} (s : SL G M C σ i e c l) (gE : ∀ k, 1 ≤ k → k ≤ 4 → eE C k < mN M) (hp : p / 2 < σ.1 1) (hl : l.length ≤ 40) (h : AddP G M (eX C i) e l.length c (eA C 5 p) M') : ∃ e' c', SL G M' C σ i e' c' (l ++ [p]) ∧ ((0 < c ∧ e' = e ∧ c' = c) ∨ mN M ≤ e') := by
  obtain ⟨e', cap', a1, a2, a3, a4, a5, a6, a7, a8⟩ := h
  obtain ⟨s1, s2, s3, s4⟩ := s
  have hd : (0 < c ∧ e' = e ∧ cap' = c) ∨ mN M ≤ e' := by
    rcases a8 with ⟨g1, g2, g3, -⟩ | ⟨g1, -⟩
    · exact Or.inl ⟨by omega, g1, g2⟩
    · exact Or.inr (by omega)
  refine ⟨e', cap', ⟨by rw [List.length_append]; exact a1, ?_, fun hc k h1 h2 h3 => ?_, fun q hq => ?_⟩, hd⟩
  · rcases a8 with ⟨-, g2, -⟩ | ⟨-, g2, g3, -⟩ <;> omega
  · rcases hd with ⟨d1, d2, d3⟩ | d1
    · rw [d2]; exact s3 d1 k h1 h2 h3
    · have := gE k h1 h2; omega
  · rw [getD_app]
    rw [List.length_append, List.length_singleton] at hq
    by_cases e1 : q = l.length
    · rw [if_pos e1, e1]; exact ⟨a3, hp⟩
    · rw [if_neg e1, a4 q (by omega)]
      exact s4 q (by omega)
theorem XB.gE (hX : XB G M C σ) (gl : ∀ b x, mC M b = some x → b < mN M) : ∀ k, 1 ≤ k → k ≤ 4 → eE C k < mN M := fun k h1 h2 => by
  obtain ⟨t, z, a1, -⟩ := (hX.l k ⟨h1, h2⟩).ar2
  exact gl _ _ a1
theorem S2.add15 (hX : XB G M C σ) (gl : ∀ b x, mC M b = some x → b < mN M) {e1 c1 e2 c2 p : Nat} {l m : List Nat} (s1 : SL G M C σ 15 e1 c1 l) (s2 : SL G M C σ 18 e2 c2 m) (hne : 0 < c1 → 0 < c2 → e1 ≠ e2) (hp : p / 2 < σ.1 1) (hl : l.length ≤ 40) (h : AddP G M (eX C 15) e1 l.length c1 (eA C 5 p) M') : Kx C M M' ∧ S2 G M' C σ (l ++ [p]) m := by
  have t := Tch.add s1.1 h
  obtain ⟨e', c', n1, n2⟩ := s1.add (hX.gE gl) hp hl h
  have o := s1.oth hX gl (by decide) (by decide) (by decide) s2 hne t
  obtain ⟨ty, z, a1, -⟩ := s2.1.ar2
  have := gl _ _ a1
  refine ⟨Kx.tch hX gl (Or.inl rfl) s1 t, e', c', e2, c2, n1, o, fun h1 h2 => ?_⟩
  rcases n2 with ⟨d1, d2, -⟩ | d1
  · rw [d2]; exact hne d1 h2
  · omega
theorem S2.add18 (hX : XB G M C σ) (gl : ∀ b x, mC M b = some x → b < mN M) {e1 c1 e2 c2 p : Nat} {l m : List Nat} (s1 : SL G M C σ 15 e1 c1 l) (s2 : SL G M C σ 18 e2 c2 m) (hne : 0 < c1 → 0 < c2 → e1 ≠ e2) (hp : p / 2 < σ.1 1) (hl : m.length ≤ 40) (h : AddP G M (eX C 18) e2 m.length c2 (eA C 5 p) M') : Kx C M M' ∧ S2 G M' C σ l (m ++ [p]) := by
  have t := Tch.add s2.1 h
  obtain ⟨e', c', n1, n2⟩ := s2.add (hX.gE gl) hp hl h
  have o := s2.oth hX gl (by decide) (by decide) (by decide) s1 (fun h1 h2 h3 => hne h2 h1 h3.symm) t
  obtain ⟨ty, z, a1, -⟩ := s1.1.ar2
  have := gl _ _ a1
  refine ⟨Kx.tch hX gl (Or.inr rfl) s2 t, e1, c1, e', c', o, n1, fun h1 h2 => ?_⟩
  rcases n2 with ⟨d1, d2, -⟩ | d1
  · rw [d2]; exact hne h1 d1
  · omega
theorem SL.nil {i e c : Nat} {l : List Nat} (s : SL G M C σ i e c l) (h : LL G M' (eX C i) e 0 c) : SL G M' C σ i e c [] := ⟨h, s.2.1, s.2.2.1, fun q hq => absurd hq (Nat.not_lt_zero q)⟩
theorem S2.clr15 (hX : XB G M C σ) (gl : ∀ b x, mC M b = some x → b < mN M) {e1 c1 e2 c2 : Nat} {l m : List Nat} (s1 : SL G M C σ 15 e1 c1 l) (s2 : SL G M C σ 18 e2 c2 m) (hne : 0 < c1 → 0 < c2 → e1 ≠ e2) (h : LL G M' (eX C 15) e1 0 c1) (t : Tch M M' (eX C 15) e1 c1) : Kx C M M' ∧ S2 G M' C σ [] m :=
  ⟨Kx.tch hX gl (Or.inl rfl) s1 t, e1, c1, e2, c2, s1.nil h, s1.oth hX gl (by decide) (by decide) (by decide) s2 hne t, hne⟩
theorem S2.clr18 (hX : XB G M C σ) (gl : ∀ b x, mC M b = some x → b < mN M) {e1 c1 e2 c2 : Nat} {l m : List Nat} (s1 : SL G M C σ 15 e1 c1 l) (s2 : SL G M C σ 18 e2 c2 m) (hne : 0 < c1 → 0 < c2 → e1 ≠ e2) (h : LL G M' (eX C 18) e2 0 c2) (t : Tch M M' (eX C 18) e2 c2) : Kx C M M' ∧ S2 G M' C σ l [] :=
  ⟨Kx.tch hX gl (Or.inr rfl) s2 t, e1, c1, e2, c2, s2.oth hX gl (by decide) (by decide) (by decide) s1 (fun h1 h2 h3 => hne h2 h1 h3.symm) t, s2.nil h, hne⟩
/-- a number of a pass or of the walk is written -/
theorem Kx.i (hX : XB G M C σ) {f b : Nat} {x : Int32} (h : (mC M b = some (3, 0) ∧ (f = 196 ∨ f = 197)) ∨ mC M b = some (6, 0)) : Kx C M (sI M f (upd (mI M f) b x)) := by
  have nb : ∀ b' t z, mC M b' = some (t, z) → t ≠ 3 → t ≠ 6 → b' ≠ b := fun b' t z h1 h2 h3 => by
    rcases h with ⟨h, -⟩ | h <;> exact ne_ty h1 h (by assumption)
  refine ⟨fun _ _ h => h, fun b' x' hb' h3 h6 _ _ _ _ _ _ => Sm.Iu (nb b' x'.1 x'.2 hb' h3 h6), fun b' g hb' h1 h2 => ?_, fun _ => rfl, fun j h1 h2 => ?_, Nat.le_refl _⟩
  · by_cases e : b' = b
    · rcases h with ⟨-, h⟩ | h
      · exact sI_n (by omega)
      · rw [e, h] at hb'; cases hb'
    · exact sI_o e
  · have hl := hX.l j ⟨h1, h2⟩
    obtain ⟨t, z, a1, a2⟩ := hl.ar2
    exact ⟨Sm.Iu (nb _ _ _ hl.1 (by decide) (by decide)), fun _ => Sm.Iu (nb _ _ _ a1 (by omega) (by omega))⟩
theorem S2.i {l m : List Nat} (h : S2 G M C σ l m) {f b : Nat} {x : Int32} (hb : mC M b = some (3, 0) ∨ mC M b = some (6, 0)) : S2 G (sI M f (upd (mI M f) b x)) C σ l m := by
  have nb : ∀ b' t z, mC M b' = some (t, z) → t ≠ 3 → t ≠ 6 → b' ≠ b := fun b' t z h1 h2 h3 => by
    rcases hb with h | h <;> exact ne_ty h1 h (by assumption)
  obtain ⟨e1, c1, e2, c2, s1, s2, h3⟩ := h
  obtain ⟨t, z, a1, a2⟩ := s1.1.ar2
  obtain ⟨t', z', b1, b2⟩ := s2.1.ar2
  exact ⟨e1, c1, e2, c2, s1.sm rfl (Sm.Iu (nb _ _ _ s1.1.1 (by decide) (by decide))) (Sm.Iu (nb _ _ _ a1 (by omega) (by omega))), s2.sm rfl (Sm.Iu (nb _ _ _ s2.1.1 (by decide) (by decide))) (Sm.Iu (nb _ _ _ b1 (by omega) (by omega))), h3⟩
/-- the choices, by the needs -/
def chz (σ : St) (u : List Nat) : List (Nat × Nat) := chl σ (fun k => u.getD k 0) u.length
theorem chl_congr {U V : Nat → Nat} : ∀ n, (∀ k, k < n → U k = V k) → chl σ U n = chl σ V n
  | 0, _ => rfl
  | n + 1, h => by
    show chl σ U n ++ _ = chl σ V n ++ _
    rw [chl_congr n (fun k hk => h k (by omega)), h n (by omega)]
theorem chz_app (u : List Nat) (x : Nat) : chz σ (u ++ [x]) = chz σ u ++ ([(x, u.length)] ++ if σ.2 13 (x / 2) = 0 then [(x + 1, u.length)] else []) := by
  unfold chz
  rw [List.length_append, List.length_singleton]
  show chl σ _ u.length ++ _ = _
  have e : (u ++ [x]).getD u.length 0 = x := by rw [getD_app, if_pos rfl]
  rw [chl_congr u.length (V := fun k => u.getD k 0) (fun k hk => by show (u ++ [x]).getD k 0 = _; rw [getD_app, if_neg (by omega)])]
  simp only [e]
theorem chz_chs (g : Nat) : chz σ (uns σ g (σ.1 1)) = chs σ g := rfl
theorem chz_len (u : List Nat) : (chz σ u).length ≤ 2 * u.length := chl_len _ _ _
/-- what has been collected: the units u -/
def CW (G : GC) (M : Mem) (C : CE) (σ : St) (u m : List Nat) : Prop := S2 G M C σ ((chz σ u).map Prod.fst) m ∧ mI M 390 (eX C 6) = iz (u.length : Int) ∧ ∀ c ∈ chz σ u, mI M 196 (eA C 5 c.1) = iz ((2 ^ c.2 : Nat) : Int)
def ksN : Nat → Nat
  | 0 => 0
  | i + 1 => ksN i + (6 * i + 22)
theorem ksN_le : ∀ i : Nat, i < 17 → ksN i ≤ 1072 := by decide +kernel
theorem sl_32 : ∀ r : Nat, r < 32 → iz 1 <<< (iz (r : Int) &&& 31) = iz ((2 ^ r : Nat) : Int) := by decide +kernel
end TCH
