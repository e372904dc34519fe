/-! The two worlds side by side: a call of the one leaves the other. -/
section TWO
variable {G : GC} {M M' : Mem} {C : CE} {σ σ' : St} {T : Nat} {Y : Nat → Nat}
/-- the class stays where only cells of other kinds change -/
theorem XM.fr (h : XM G M C σ) (hs : ∀ b, (∃ t z, mC M b = some (t, z) ∧ (t < 9 ∨ t = 10 ∨ t = 13 ∨ t = 17)) ∨ (∃ k, k < 20 ∧ b = eX C k) → Sm M M' b) : XM G M' C σ := by
  obtain ⟨hX, l, m, hS, hl, hm⟩ := h
  have h0 := hX
  obtain ⟨⟨f1, f2, f3, f4⟩, s, li, st, pp, hh, rr, qq, inj, gd⟩ := hX
  have sx : ∀ k, k < 20 → Sm M M' (eX C k) := fun k hk => hs _ (Or.inr ⟨k, hk, rfl⟩)
  have sq : ∀ b t z, mC M b = some (t, z) → (t < 9 ∨ t = 10 ∨ t = 13 ∨ t = 17) → Sm M M' b := fun b t z hb h1 => hs b (Or.inl ⟨t, z, hb, h1⟩)
  have se : ∀ (lo e n' c : Nat), LL G M lo e n' c → Sm M M' e := fun lo e n' c hL => by
    obtain ⟨t, z, b1, b2⟩ := hL.ar2
    exact sq e t z b1 (by omega)
  have s0 := sx 0 (by decide)
  refine ⟨⟨⟨fun k hk => (sx k hk).c (f1 k hk), fun q hq => (sx _ (xF_4 q hq).1).r (f2 q hq), fun q hq => ⟨(sx _ (xG_4 q hq).1).i (f3 q hq).1, (sx _ (xG_4 q hq).1).i (f3 q hq).2⟩, f4⟩, ⟨s0.i s.1, s0.i s.2.1, s0.i s.2.2.1, s0.i s.2.2.2.1, s0.i s.2.2.2.2.1, s0.j s.2.2.2.2.2⟩, fun j hj1 hj2 => ?_, fun i hi => ?_, fun p hp => ?_, fun i hi => ?_, fun i hi => (sq _ 4 0 (h0.k4 i hi) (by decide)).i (rr i hi), fun i hi => ?_, inj, ⟨fun a b ha hb => ?_, fun a b ha hb => ?_⟩, gd.2⟩, l, m, ?_, hl, hm⟩
  · obtain ⟨g1, g2, g3⟩ := li j hj1 hj2
    have s2 := se _ _ _ _ g1
    refine ⟨g1.sm (sx j (by omega)) s2, g2, fun i hi => ⟨by rw [s2.qq]; exact (g3 i hi).1, (sq _ (eT j) 0 (g3 i hi).2 ?_).c (g3 i hi).2⟩⟩
    unfold eT; split <;> omega
  · have e := sq _ 5 0 (h0.k5 i hi) (by decide)
    obtain ⟨b1, b2, b3, b4, b5, b6, b7⟩ := st i hi
    exact ⟨e.i b1, e.i b2, e.i b3, e.i b4, e.r b5, e.r b6, e.i b7⟩
  · obtain ⟨b0, b1, b2, b3, b4⟩ := pp p hp
    have e := sq _ 3 0 b0 (by decide)
    exact ⟨e.c b0, e.i b1, e.i b2, e.i b3, e.i b4⟩
  · have e := sq _ 1 0 (h0.k1 i hi) (by decide)
    obtain ⟨b1, b2, b3, b4, b5⟩ := hh i hi
    exact ⟨e.i b1, e.r b2, e.i b3, e.i b4, e.i b5⟩
  · have e := sq _ 2 0 (h0.k2 i hi) (by decide)
    obtain ⟨b1, b2, b3, b4⟩ := qq i hi
    exact ⟨e.r b1, e.i b2, e.i b3, e.i b4⟩
  · rw [(sx 10 (by decide)).aa]; exact gd.1.1 a b ha hb
  · rw [(sx 12 (by decide)).aa]; exact gd.1.2 a b ha hb
  · obtain ⟨e1, c1, e2, c2, s1, s2, hne⟩ := hS
    exact ⟨e1, c1, e2, c2, s1.sm rfl (sx 15 (by decide)) (se _ _ _ _ s1.1), s2.sm rfl (sx 18 (by decide)) (se _ _ _ _ s2.1), hne⟩
/-- the two worlds share no cell -/
def DJ2 (C : CE) (Y : Nat → Nat) : Prop := ∀ k, k < 20 → ∀ j, j = 0 ∨ j ∈ arK → eX C k ≠ Y j
theorem RM.kind (h : RM M Y σ) {j : Nat} (hj : j = 0 ∨ j ∈ arK) : ∃ t z, mC M (Y j) = some (t, z) ∧ (t = 9 ∨ t = 11 ∨ t = 12) := by
  rcases hj with rfl | hj
  · exact ⟨9, 0, h.o, Or.inl rfl⟩
  · have := arT_ge j
    exact ⟨arT j, arL j, h.c j hj, by omega⟩
/-- a call of the reference leaves the class -/
theorem XM.ref (h : XM G M C σ) (hR : RM M Y σ') (hd : DJ2 C Y) (hF : FrM Y M M') : XM G M' C σ := by
  have key : ∀ b, (∀ j, j = 0 ∨ j ∈ arK → b ≠ Y j) → Sm M M' b := fun b hb => hF.2 b (hb 0 (Or.inl rfl)) (fun k hk => hb k (Or.inr hk))
  refine h.fr (fun b hb => key b (fun j hj e => ?_))
  rcases hb with ⟨t, z, h1, h2⟩ | ⟨k, hk, rfl⟩
  · obtain ⟨t', z', h5, h6⟩ := hR.kind hj
    rw [e, h5] at h1
    have : t' = t := congrArg (fun o : Option (Nat × Nat) => (o.getD (0, 0)).1) h1
    omega
  · exact hd k hk j hj e
/-- a call of the class leaves the reference -/
theorem RM.cls (h : RM M Y σ) (hd : DJ2 C Y) (hF : FX C M M') : RM M' Y σ := by
  have key : ∀ j, j = 0 ∨ j ∈ arK → Sm M M' (Y j) := fun j hj => by
    obtain ⟨t, z, h5, h6⟩ := h.kind hj
    exact hF.2 _ (t, z) h5 (by show t = 9 ∨ t = 11 ∨ t = 12 ∨ t = 14 ∨ t = 15 ∨ t = 16 ∨ t = 17; omega) (fun k hk e => hd k hk j hj e.symm)
  exact h.sm (key 0 (Or.inl rfl)) (fun k hk => key k (Or.inr hk))
/-- behind a helper of the law that stores its answer in the row a -/
def HQ (G : GC) (C : CE) (a : Nat) (M : Mem) (σ' : St) (M' : Mem) : Prop := mN M ≤ mN M' ∧ (∀ b x, mC M b = some x → (x.1 = 9 ∨ x.1 = 11 ∨ x.1 = 12 ∨ x.1 = 14 ∨ x.1 = 15 ∨ x.1 = 16 ∨ x.1 = 17) → (∀ k, k < 20 → b ≠ eX C k) → b ≠ a → Sm M M' b) ∧ mC M' a = mC M a ∧ ∃ C', eX C' = eX C ∧ XM G M' C' σ'
theorem out_ne (hX : XB G M C σ) {a t z : Nat} (ha : mC M a = some (t, z)) (ht : 12 ≤ t) : ∀ k, k < 20 → a ≠ eX C k := fun k hk => by
  have := xT_le k hk
  exact ne_ty ha (hX.1.1 k hk) (by omega)
theorem hq_of (hX : XB G M C σ) {a t z : Nat} (ha : mC M a = some (t, z)) (ht : t = 14 ∨ t = 15) (h : XQ G C M σ' M') : HQ G C a M σ' M' :=
  ⟨h.1.1, fun b x hb hx hk _ => h.1.2 b x hb hx hk, (h.1.2 a (t, z) ha (by show t = 9 ∨ t = 11 ∨ t = 12 ∨ t = 14 ∨ t = 15 ∨ t = 16 ∨ t = 17; omega) (out_ne hX ha (by omega))).1, h.2⟩
theorem HQ.put {a t z : Nat} (h : HQ G C a M σ' M') (ha : mC M a = some (t, z)) (ht : t = 14 ∨ t = 15) {M'' : Mem} (hn : mN M'' = mN M') (hc : mC M'' = mC M') (hs : ∀ b, b ≠ a → Sm M' M'' b) : HQ G C a M σ' M'' := by
  obtain ⟨h1, h2, h3, C', h4, h5⟩ := h
  have ha' : mC M' a = some (t, z) := h3.trans ha
  refine ⟨hn ▸ h1, fun b x hb hx hk hne => (h2 b x hb hx hk hne).tr (hs b hne), (congrFun hc a).trans h3, C', h4, h5.fr (fun b hb => hs b (fun e => ?_))⟩
  rcases hb with ⟨t', z', h6, h7⟩ | ⟨k, hk, h6⟩
  · rw [e, ha'] at h6
    have : t = t' := congrArg (fun o : Option (Nat × Nat) => (o.getD (0, 0)).1) h6
    omega
  · exact out_ne h5.1 ha' (by omega) k hk (e.symm.trans h6)
def HR (G : GC) (C : CE) (a : Nat) (M : Mem) (o : Rs) : Option Value → Mem → Prop := rI fun r M' => r = iz (o.2.1 : Int) ∧ (o.2.1 = 0 → mL M' a 0 = (iz o.2.2).toInt64) ∧ HQ G C a M o.1 M'
end TWO
