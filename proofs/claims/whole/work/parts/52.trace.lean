/-! The class: the walk is traced. -/
section TRC
variable {G : GC} {M M' : Mem} {C : CE} {σ : St} {T : Nat}
def wPs (σ : St) (g : Nat) : Nat → List Nat
  | 0 => []
  | k + 1 => wPs σ g k ++ [wP σ g k]
theorem wPs_len (g : Nat) : ∀ k, (wPs σ g k).length = k
  | 0 => rfl
  | k + 1 => by show (wPs σ g k ++ [_]).length = _; rw [List.length_append, wPs_len g k]; rfl
theorem wPs_at (g : Nat) : ∀ k j, j < k → (wPs σ g k).getD j 0 = wP σ g j
  | 0, _, h => absurd h (Nat.not_lt_zero _)
  | k + 1, j, h => by
    show (wPs σ g k ++ [_]).getD j 0 = _
    rw [getD_app, wPs_len]
    split
    · next e => rw [e]
    · exact wPs_at g k j (by omega)
/-- where the j-th pass begins -/
def bg (σ : St) (g j : Nat) : Nat := wS σ g j + dst σ (tr σ g j).2 (fr σ (wP σ g j))
def StC (C : CE) (l : List Nat) (M : Mem) : Prop := mI M 389 (eX C 6) = iz (l.length : Int) ∧ ∀ i, i < l.length → mA M (eX C 19) i = iz (l.getD i 0 : Int)
def Sx (G : GC) (C : CE) (σ : St) (M M' : Mem) : Prop := Kx C M M' ∧ (∀ u m, CW G M C σ u m → CW G M' C σ u m) ∧ mA M' (eX C 17) = mA M (eX C 17) ∧ ∀ p, p / 2 < σ.1 1 → mI M' 197 (eA C 5 p) = mI M 197 (eA C 5 p)
theorem Sx.rf : Sx G C σ M M := ⟨Kx.rf, fun _ _ h => h, rfl, fun _ _ => rfl⟩
theorem Sx.tr {M'' : Mem} (h : Sx G C σ M M') (k : Sx G C σ M' M'') : Sx G C σ M M'' := ⟨h.1.tr k.1, fun u m w => k.2.1 u m (h.2.1 u m w), k.2.2.1.trans h.2.2.1, fun p hp => (k.2.2.2 p hp).trans (h.2.2.2 p hp)⟩
theorem Sx.row (hX : XB G M C σ) (K : Nat → Int32) : Sx G C σ M (sA M (eX C 19) K) := ⟨Kx.row hX (Or.inr (Or.inr (Or.inr rfl))), fun u m h => ⟨h.1.row _ K (hX.x 19 11 90), h.2.1, h.2.2⟩, mA_sAn _ _ _ _ (hX.ne (by decide)), fun _ _ => rfl⟩
theorem Sx.i (hX : XB G M C σ) (x : Int32) : Sx G C σ M (sI M 389 (upd (mI M 389) (eX C 6) x)) := ⟨Kx.i hX (Or.inr (hX.x 6 6 0)), fun u m h => ⟨h.1.i (Or.inr (hX.x 6 6 0)), (sI_n (by decide)).trans h.2.1, fun c hc => (sI_n (by decide)).trans (h.2.2 c hc)⟩, rfl, fun p _ => sI_n (by decide)⟩
/-- what is traced: i passes begun, the places l, the passes m -/
def TQ (G : GC) (C : CE) (σ : St) (g i : Nat) (l m : List Nat) (M : Mem) : Prop := CW G M C σ (uns σ g (σ.1 1)) m ∧ RsT σ g (2 ^ uN σ g) (mA M (eX C 17)) ∧ StC C l M ∧ ∀ j, j < i → mI M 197 (eA C 5 (wP σ g j)) = iz (bg σ g j : Int)
theorem TQ.sx {g i : Nat} {l l' m : List Nat} (h : TQ G C σ g i l m M) (hw : ∀ j, j < i → wP σ g j / 2 < σ.1 1) (s : Sx G C σ M M') (hl : StC C l' M') : TQ G C σ g i l' m M' := ⟨s.2.1 _ _ h.1, by rw [s.2.2.1]; exact h.2.1, hl, fun j hj => (s.2.2.2 _ (hw j hj)).trans (h.2.2.2 j hj)⟩
theorem TQ.put (hX : XB G M C σ) {g i : Nat} {l m : List Nat} (h : TQ G C σ g i l m M) (hw : ∀ j, j < i + 1 → wP σ g j / 2 < σ.1 1) (hne : ∀ j, j < i → wP σ g j ≠ wP σ g i) : Kx C M (sI M 197 (upd (mI M 197) (eA C 5 (wP σ g i)) (iz (bg σ g i : Int)))) ∧ TQ G C σ g (i + 1) l m (sI M 197 (upd (mI M 197) (eA C 5 (wP σ g i)) (iz (bg σ g i : Int)))) := by
  have hi := hX.k3 _ (hw i (by omega))
  refine ⟨Kx.i hX (Or.inl ⟨hi, Or.inr rfl⟩), ⟨h.1.1.i (Or.inl hi), (sI_n (by decide)).trans h.1.2.1, fun c hc => (sI_n (by decide)).trans (h.1.2.2 c hc)⟩, h.2.1, ⟨(sI_n (by decide)).trans h.2.2.1.1, h.2.2.1.2⟩, fun j hj => ?_⟩
  by_cases e : j = i
  · subst e; exact sI_at _ _ _
  · exact (sI_o (fun e2 => hne j (by omega) ((hX.inj5 _ _ (hw j hj) (hw i (by omega))).mp e2))).trans (h.2.2.2 j (by omega))
theorem TQ.add (hX : XB G M C σ) (gl : ∀ b x, mC M b = some x → b < mN M) {g i : Nat} {l m : List Nat} (h : TQ G C σ g i l m M) (hw : ∀ j, j < i → wP σ g j / 2 < σ.1 1) {e1 c1 e2 c2 p : Nat} {l1 : List Nat} (hl1 : l1 = (chz σ (uns σ g (σ.1 1))).map Prod.fst) (s1 : SL G M C σ 15 e1 c1 l1) (s2 : SL G M C σ 18 e2 c2 m) (hne : 0 < c1 → 0 < c2 → e1 ≠ e2) (hp : p / 2 < σ.1 1) (hl : m.length ≤ 40) (hA : AddP G M (eX C 18) e2 m.length c2 (eA C 5 p) M') : Kx C M M' ∧ TQ G C σ g i l (m ++ [p]) M' := by
  obtain ⟨k, s⟩ := S2.add18 hX gl s1 s2 hne hp hl hA
  rw [hl1] at s
  have hc := (chz_uns (σ := σ) g (σ.1 1)).2
  have ha5 : ∀ b, b < mN M → b ≠ eX C 18 → b ≠ e2 → Sm M M' b := by obtain ⟨_, _, _, _, _, _, h, _⟩ := hA; exact h
  have sq : ∀ b t z, mC M b = some (t, z) → t = 3 ∨ t = 6 ∨ t = 11 → Sm M M' b := fun b t z hb ht => by
    obtain ⟨ty, z', a1, a2⟩ := s2.1.ar2
    exact ha5 b (gl _ _ hb) (ne_ty hb s2.1.1 (by omega)) (ne_ty hb a1 (by omega))
  refine ⟨k, ⟨s, (sq _ 6 0 (hX.x 6 6 0) (by decide)).i h.1.2.1, fun c hcc => (sq _ 3 0 (hX.k3 _ (hc c hcc)) (by decide)).i (h.1.2.2 c hcc)⟩, ?_, ⟨(sq _ 6 0 (hX.x 6 6 0) (by decide)).i h.2.2.1.1, fun q hq => ?_⟩, fun j hj => (sq _ 3 0 (hX.k3 _ (hw j hj)) (by decide)).i (h.2.2.2 j hj)⟩
  · rw [(sq _ 11 2560 (hX.x 17 11 2560) (by decide)).aa]; exact h.2.1
  · rw [(sq _ 11 90 (hX.x 19 11 90) (by decide)).aa]; exact h.2.2.1.2 q hq
theorem CW.clr (hX : XB G M C σ) (gl : ∀ b x, mC M b = some x → b < mN M) {g : Nat} {m : List Nat} (h : CW G M C σ (uns σ g (σ.1 1)) m) {e1 c1 e2 c2 : Nat} {l1 : List Nat} (hl1 : l1 = (chz σ (uns σ g (σ.1 1))).map Prod.fst) (s1 : SL G M C σ 15 e1 c1 l1) (s2 : SL G M C σ 18 e2 c2 m) (hne : 0 < c1 → 0 < c2 → e1 ≠ e2) (h1 : LL G M' (eX C 18) e2 0 c2) (h2 : mN M' = mN M) (h3 : ∀ b, b ≠ eX C 18 → b ≠ e2 → Sm M M' b) (h4 : c2 = 0 → Sm M M' e2) : Kx C M M' ∧ CW G M' C σ (uns σ g (σ.1 1)) [] ∧ mA M' (eX C 17) = mA M (eX C 17) := by
  obtain ⟨k, s⟩ := S2.clr18 hX gl s1 s2 hne h1 (Tch.clr s2.1 h1 h2 h3 h4)
  rw [hl1] at s
  have hc := (chz_uns (σ := σ) g (σ.1 1)).2
  have sq : ∀ b t z, mC M b = some (t, z) → t = 3 ∨ t = 6 ∨ t = 11 → Sm M M' b := fun b t z hb ht => by
    obtain ⟨ty, z', a1, a2⟩ := s2.1.ar2
    exact h3 b (ne_ty hb s2.1.1 (by omega)) (ne_ty hb a1 (by omega))
  exact ⟨k, ⟨s, (sq _ 6 0 (hX.x 6 6 0) (by decide)).i h.2.1, fun c hcc => (sq _ 3 0 (hX.k3 _ (hc c hcc)) (by decide)).i (h.2.2 c hcc)⟩, (sq _ 11 2560 (hX.x 17 11 2560) (by decide)).aa⟩
theorem tr_has {g : Nat} : ∀ k j, j < k → (tr σ g k).1.testBit (cC σ g (bC σ g (tr σ g j).1 (tr σ g j).2)).2 = true
  | 0, _, h => absurd h (Nat.not_lt_zero _)
  | k + 1, j, h => by
    rw [show (tr σ g (k + 1)).1 = (tr σ g k).1 ||| 2 ^ (cC σ g (bC σ g (tr σ g k).1 (tr σ g k).2)).2 from rfl, Nat.testBit_or, Bool.or_eq_true]
    by_cases e : j = k
    · subst e; exact Or.inr (by rw [Nat.testBit_two_pow, decide_eq_true_eq])
    · exact Or.inl (tr_has k j (by omega))
theorem pw_inj : ∀ a : Nat, a < 8 → ∀ b : Nat, b < 8 → iz ((2 ^ a : Nat) : Int) = iz ((2 ^ b : Nat) : Int) → a = b := by decide +kernel
theorem wP_ne (hO : Ok σ T) {g : Nat} {m : List Nat} (hV : CW G M C σ (uns σ g (σ.1 1)) m) (hW1 : hW σ g = true) {j k : Nat} (hjk : j < k) (hk : k < uN σ g) : wP σ g j ≠ wP σ g k := fun e => by
  have hn := (hW_iff.mp hW1).1
  obtain ⟨e0, c0, -, hq⟩ := hV.list
  obtain ⟨-, -, -, -, hj5⟩ := tr_ok hO.st hO.1.1 hW1 j (by omega)
  obtain ⟨-, g2, -⟩ := hj5 (by omega)
  obtain ⟨-, -, -, -, hk5⟩ := tr_ok hO.st hO.1.1 hW1 k (by omega)
  obtain ⟨-, f2, -, f4, -⟩ := hk5 hk
  have a1 := (hq _ g2).2
  have a2 := (hq _ f2).2
  have e' : (cC σ g (bC σ g (tr σ g j).1 (tr σ g j).2)).1 = (cC σ g (bC σ g (tr σ g k).1 (tr σ g k).2)).1 := e
  have i1 := (cC_in (σ := σ) g2).1
  have i2 := (cC_in (σ := σ) f2).1
  rw [e', a2] at a1
  have h9 := pw_inj _ (by omega) _ (by omega) a1
  have h := tr_has (σ := σ) (g := g) k j hjk
  rw [← h9, f4] at h
  cases h
theorem x_comeTo (hX : XB G M C σ) (hO : Ok σ T) {l : List Nat} (hU : StC C l M) (x : Nat) (hl : l.length < 90) : Ht G iX6_comeTo yX6_comeTo 1 [.ref (eX C 6), .int (iz (x : Int))] M (rV fun M' => Sx G C σ M M' ∧ StC C (l ++ [x]) M') nX 0 0 := by
  refine ht_intro (by decide +kernel) rfl rfl rfl (Nat.le_of_ble_eq_true rfl) ?_
  refine r_aload_n dX6_comeTo_0 rfl ?_
  refine r_getI qX6_125 dX6_comeTo_1 (hX.x 6 6 0) hU.1 (kk := ?_)
  refine r_aload_n dX6_comeTo_4 rfl ?_
  refine r_getR qX6_34 dX6_comeTo_5 (hX.x 6 6 0) (hX.f 6 388 19) (kk := ?_)
  refine r_alen dX6_comeTo_8 (hX.x 19 11 90) (k := ?_)
  refine r_icmp_ge (tgt := 32) dX6_comeTo_9 (by decide) (kt := fun z9 => (by exfalso; first | omega | simp_all)) (kf := fun z9 => ?_)
  refine r_aload_n dX6_comeTo_12 rfl ?_
  refine r_getR qX6_34 dX6_comeTo_13 (hX.x 6 6 0) (hX.f 6 388 19) (kk := ?_)
  refine r_aload_n dX6_comeTo_16 rfl ?_
  refine r_getI qX6_125 dX6_comeTo_17 (hX.x 6 6 0) hU.1 (kk := ?_)
  refine r_iload_n dX6_comeTo_20 rfl ?_
  refine r_iast dX6_comeTo_21 (hX.x 19 11 90) rfl (k := ?_)
  refine gm (P := fun M2 => Sx G C σ M M2 ∧ mA M2 (eX C 19) = upd (mA M (eX C 19)) l.length (iz (x : Int)) ∧ mI M2 389 (eX C 6) = iz (l.length : Int)) ⟨Sx.row hX _, mA_sA _ _ _, hU.1⟩ (fun M2 hP2 => ?_)
  obtain ⟨s2, hA2, hI2⟩ := hP2
  have hX := hX.kx hO s2.1
  refine r_aload_n dX6_comeTo_22 rfl ?_
  refine r_dup dX6_comeTo_23 (k := ?_)
  refine r_getI qX6_125 dX6_comeTo_24 (hX.x 6 6 0) hI2 (kk := ?_)
  refine r_iconst dX6_comeTo_27 ?_
  refine r_iadd dX6_comeTo_28 ?_
  refine r_putI qX6_125 dX6_comeTo_29 (hX.x 6 6 0) (kk := ?_)
  refine r_vret dX6_comeTo_32 ⟨rfl, s2.tr (Sx.i hX _), (sI_at _ _ _).trans (by rw [List.length_append]; rfl), fun i hi => ?_⟩
  show mA M2 (eX C 19) i = _
  rw [hA2, getD_app]
  rw [List.length_append, List.length_singleton] at hi
  by_cases e : i = l.length
  · subst e; rw [if_pos rfl]; simp [upd]
  · rw [if_neg e]; simp only [upd, if_neg e]; exact hU.2 i (by omega)
theorem x_goTo (hX : XB G M C σ) (hO : Ok σ T) {a b : Nat} (ha : a < σ.1 0) (hb : b < σ.1 0) (hd : dst σ a b < 100000) {l : List Nat} (hU : StC C l M) (hl : l.length + 9 ≤ 90) : Ht G iX6_goTo yX6_goTo 4 [.ref (eX C 6), .int (iz (b : Int)), .int (iz (a : Int))] M (rV fun M' => Sx G C σ M M' ∧ StC C (l ++ gl σ b 10 a) M') nX 0 0 := by
  have hX0 := hX
  have p2 := hO.1.2.1
  refine ht_intro (by decide +kernel) rfl rfl rfl (Nat.le_of_ble_eq_true rfl) ?_
  have loop : ∀ (f i a' : Nat) (l' : List Nat) (M1 : Mem), i + f = 10 → a' < σ.1 0 → dst σ a' b < 100000 → Sx G C σ M M1 → StC C l' M1 → l'.length + rk σ b a' ≤ 90 → l' ++ gl σ b f a' = l ++ gl σ b 10 a → SWG G iX6_goTo (rmd 4 0 0) (QF G (rV fun M' => Sx G C σ M M' ∧ StC C (l ++ gl σ b 10 a) M') nX 0 0) 5 [(4, .int (iz (i : Int))), (3, .int (iz (a' : Int))), (0, .ref (eX C 6)), (1, .int (iz (b : Int)))] [] M1 0 0 := by
    intro f
    induction f with
    | zero =>
      intro i a' l' M1 hi ha' hd' s hU' hl' he
      rw [show gl σ b 0 a' = [] from rfl, List.append_nil] at he
      subst he
      refine r_iload dX6_goTo_5 rfl ?_
      refine r_bipush dX6_goTo_7 (k := ?_)
      refine r_icmp_ge (tgt := 38) dX6_goTo_9 (by decide) (kt := fun z9 => ?_) (kf := fun z9 => (by exfalso; first | omega | simp_all))
      exact r_vret dX6_goTo_38 (⟨rfl, s, hU'⟩)
    | succ f ih =>
      intro i a' l' M1 hi ha' hd' s hU' hl' he
      have hX := hX0.kx hO s.1
      by_cases e : a' = b
      · rw [show gl σ b (f + 1) a' = [] from if_pos e, List.append_nil] at he
        subst he
        refine r_iload dX6_goTo_5 rfl ?_
        refine r_bipush dX6_goTo_7 (k := ?_)
        refine r_icmp_ge (tgt := 38) dX6_goTo_9 (by decide) (kt := fun z9 => (by exfalso; first | omega | simp_all)) (kf := fun z9 => ?_)
        refine r_iload_n dX6_goTo_12 rfl ?_
        refine r_iload_n dX6_goTo_13 rfl ?_
        refine r_icmp_eq (tgt := 38) dX6_goTo_14 (by decide) (kt := fun z14 => ?_) (kf := fun z14 => (by exfalso; first | omega | simp_all))
        exact r_vret dX6_goTo_38 (⟨rfl, s, hU'⟩)
      · rw [show gl σ b (f + 1) a' = nx σ a' b :: gl σ b f (nx σ a' b) from if_neg e] at he
        obtain ⟨-, -, n3, n4, -⟩ := nx_spec hO.st e hd'
        have hrk := rk_lt n3 n4
        refine r_iload dX6_goTo_5 rfl ?_
        refine r_bipush dX6_goTo_7 (k := ?_)
        refine r_icmp_ge (tgt := 38) dX6_goTo_9 (by decide) (kt := fun z9 => (by exfalso; first | omega | simp_all)) (kf := fun z9 => ?_)
        refine r_iload_n dX6_goTo_12 rfl ?_
        refine r_iload_n dX6_goTo_13 rfl ?_
        refine r_icmp_eq (tgt := 38) dX6_goTo_14 (by decide) (kt := fun z14 => (by exfalso; first | omega | simp_all)) (kf := fun z14 => ?_)
        refine r_aload_n dX6_goTo_17 rfl ?_
        refine r_getR qX6_9 dX6_goTo_18 (hX.x 6 6 0) (hX.f 6 384 5) (kk := ?_)
        refine r_iload_n dX6_goTo_21 rfl ?_
        refine r_iload_n dX6_goTo_22 rfl ?_
        refine r_callV (mi := iX6_goTo) vX6_141 dX6_goTo_23 (hX.x 5 7 0) (x_nextPlace hX hO ha' hb e hd') (hm := by first | exact ⟨Nat.le_of_ble_eq_true rfl, Nat.le_of_ble_eq_true rfl⟩ | (constructor <;> simp only [rmd] <;> omega)) (k := kP ?_) (kx := r_nox)
        refine r_istore_n dX6_goTo_26 (k := ?_)
        refine r_aload_n dX6_goTo_27 rfl ?_
        refine r_iload_n dX6_goTo_28 rfl ?_
        refine r_callV (mi := iX6_goTo) vX6_128 dX6_goTo_29 (hX.x 6 6 0) (x_comeTo hX hO hU' (nx σ a' b) (by omega)) (hm := by first | exact ⟨Nat.le_of_ble_eq_true rfl, Nat.le_of_ble_eq_true rfl⟩ | (constructor <;> simp only [rmd] <;> omega)) (k := kV (fun M2 h2 => ?_)) (kx := r_nox)
        refine r_iinc dX6_goTo_32 rfl (k := ?_)
        refine r_goto (tgt := 5) dX6_goTo_35 (by decide) ?_
        exact r_loc' (ih (i + 1) (nx σ a' b) (l' ++ [nx σ a' b]) M2 (by omega) n3 (by omega) (s.tr h2.1) h2.2 (by rw [List.length_append, List.length_singleton]; omega) (by rw [List.append_assoc]; exact he)) ⟨rfl, rfl, rfl, rfl, trivial⟩
  have hrk := rk_le (σ := σ) (b := b) ha p2
  refine r_iload_n dX6_goTo_0 rfl ?_
  refine r_istore_n dX6_goTo_1 (k := ?_)
  refine r_iconst dX6_goTo_2 ?_
  refine r_istore dX6_goTo_3 (k := ?_)
  exact r_loc' (loop 10 0 a l M (by omega) ha hd Sx.rf hU (by omega) rfl) ⟨rfl, rfl, rfl, rfl, trivial⟩
theorem x_bestPass (hX : XB G M C σ) (hO : Ok σ T) {g : Nat} {m : List Nat} (hV : CW G M C σ (uns σ g (σ.1 1)) m) (hn : uN σ g ≤ 8) {S p : Nat} (hS : S < 2 ^ uN σ g - 1) (hp : p < σ.1 0) (hR : RsT σ g (2 ^ uN σ g) (mA M (eX C 17))) (hf : gV σ g S p < 100000) : Ht G iX6_bestPass yX6_bestPass 8 [.ref (eX C 6), .int (iz ((2 ^ uN σ g - 1 - S : Nat) : Int)), .int (iz (p : Int))] M (rPA (eA C 5 (cC σ g (bC σ g S p)).1) M) nX 0 0 := by
  have p2 := hO.1.2.1
  have w6 := hX.gr 11 10 10
  have w16 := hX.gr 16 256 10
  have hal := all_256 hn
  obtain ⟨e, c, hLL, hq⟩ := hV.list
  have hcM : cM σ g ≤ 16 := by
    have := chl_len σ (uU σ g) (uN σ g)
    show (chl σ (uU σ g) (uN σ g)).length ≤ 16
    omega
  have h5 := gV_eq (p := p) hn hS
  obtain ⟨b, b1, b2, b3, b4, b5⟩ := bm_hit (cM σ g) (h5 ▸ hf)
  have eb : bC σ g S p = b := by unfold bC; rw [b2]; rfl
  rw [eb]
  rw [← h5] at b4 b5
  have hrT : rT0 σ g (2 ^ uN σ g - 1 - S) p = gV σ g S p := by
    unfold rT0
    rw [show 2 ^ uN σ g - 1 - (2 ^ uN σ g - 1 - S) = S by omega]
    exact cp_of hf
  obtain ⟨L, hL⟩ : ∃ L, L = 2 ^ uN σ g - 1 - S := ⟨_, rfl⟩
  rw [← hL] at hrT ⊢
  have hLS : 2 ^ uN σ g - 1 - L = S := by omega
  have hL256 : L < 256 := by omega
  refine ht_intro (by decide +kernel) rfl rfl rfl (Nat.le_of_ble_eq_true rfl) ?_
  have loop : ∀ (k i : Nat), i + k = b → SWG G iX6_bestPass (rmd 8 0 0) (QF G (rPA (eA C 5 (cC σ g b).1) M) nX 0 0) 2 [(3, .int (iz (i : Int))), (0, .ref (eX C 6)), (1, .int (iz (L : Int))), (2, .int (iz (p : Int)))] [] M 0 0 := by
    intro k
    induction k with
    | zero =>
      intro i hi
      have hi2 : i = b := by omega
      subst hi2
      obtain ⟨q1, q2⟩ := hq i b1
      obtain ⟨i1, i2, -⟩ := cC_in (σ := σ) (g := g) b1
      obtain ⟨f1, f2, f3, f4⟩ := fr_lt hO.st i2
      obtain ⟨lb1, lb2⟩ := lbit (uN σ g) (by omega) L (by omega) _ i1
      have hb : L.testBit (cC σ g i).2 = true := by
        rw [hLS, b3] at lb1
        cases h : L.testBit (cC σ g i).2 with
        | true => rfl
        | false => rw [h] at lb1; cases lb1
      obtain ⟨lb3, lb4⟩ := lb2 hb
      rw [hLS] at lb4
      have eLd : Ld L (cC σ g i).2 = L - 2 ^ (cC σ g i).2 := if_pos hb
      rw [b4] at hf hrT
      obtain ⟨cf1, cf2⟩ := cost_fin hf
      have e1 : ld σ p (fr σ (cC σ g i).1) = dst σ p (fr σ (cC σ g i).1) := cp_of cf1
      have e2 : rT0 σ g (L - 2 ^ (cC σ g i).2) (tt σ (cC σ g i).1) = gV σ g (S ||| 2 ^ (cC σ g i).2) (tt σ (cC σ g i).1) := by
        unfold rT0
        rw [lb4]
        exact cp_of cf2
      have hco : cost σ (gV σ g) S p (cC σ g i) = dst σ p (fr σ (cC σ g i).1) + ln σ (cC σ g i).1 + gV σ g (S ||| 2 ^ (cC σ g i).2) (tt σ (cC σ g i).1) := rfl
      have tp := Nat.two_pow_pos (cC σ g i).2
      refine r_iload_n dX6_bestPass_2 rfl ?_
      refine r_aload_n dX6_bestPass_3 rfl ?_
      refine r_getR qX6_18 dX6_bestPass_4 (hX.x 6 6 0) (hX.f 6 385 15) (kk := ?_)
      refine r_callV (mi := iX6_bestPass) vX6_71 dX6_bestPass_7 (hX.x 15 10 0) (c_size hLL) (hm := by first | exact ⟨Nat.le_of_ble_eq_true rfl, Nat.le_of_ble_eq_true rfl⟩ | (constructor <;> simp only [rmd] <;> omega)) (k := kP ?_) (kx := r_nox)
      refine r_icmp_ge (tgt := 85) dX6_bestPass_10 (by decide) (kt := fun z10 => (by exfalso; first | omega | simp_all)) (kf := fun z10 => ?_)
      refine r_aload_n dX6_bestPass_13 rfl ?_
      refine r_getR qX6_18 dX6_bestPass_14 (hX.x 6 6 0) (hX.f 6 385 15) (kk := ?_)
      refine r_iload_n dX6_bestPass_17 rfl ?_
      refine r_callV (mi := iX6_bestPass) vX6_80 dX6_bestPass_18 (hX.x 15 10 0) (c_get hLL b1 q1) (hm := by first | exact ⟨Nat.le_of_ble_eq_true rfl, Nat.le_of_ble_eq_true rfl⟩ | (constructor <;> simp only [rmd] <;> omega)) (k := kPA ?_) (kx := r_nox)
      refine r_cast nX6_63.1 dX6_bestPass_21 (hX.k3 _ i2) (k := ?_)
      refine r_astore dX6_bestPass_24 (k := ?_)
      refine r_aload_n dX6_bestPass_26 rfl ?_
      refine r_getR qX6_9 dX6_bestPass_27 (hX.x 6 6 0) (hX.f 6 384 5) (kk := ?_)
      refine r_getR qX6_75 dX6_bestPass_30 (hX.x 5 7 0) (hX.f 5 449 11) (kk := ?_)
      refine r_iload_n dX6_bestPass_33 rfl ?_
      refine r_aload dX6_bestPass_34 rfl ?_
      refine r_getI qX6_84 dX6_bestPass_36 (hX.k3 _ i2) (hX.g193 _ i2) (kk := ?_)
      refine r_callV (mi := iX6_bestPass) vX6_87 dX6_bestPass_39 w6.1 (x_at w6 (show p < 10 by omega) (show fr σ (cC σ g i).1 < 10 by omega) (hX.gl p _ (by omega) (by omega))) (hm := by first | exact ⟨Nat.le_of_ble_eq_true rfl, Nat.le_of_ble_eq_true rfl⟩ | (constructor <;> simp only [rmd] <;> omega)) (k := kP ?_) (kx := r_nox)
      refine r_aload_n dX6_bestPass_42 rfl ?_
      refine r_aload dX6_bestPass_43 rfl ?_
      refine r_iload_n dX6_bestPass_45 rfl ?_
      refine r_callV (mi := iX6_bestPass) vX6_103 dX6_bestPass_46 (hX.x 6 6 0) (x_restWith hX hO (u := (cC σ g i).2) (L := L) (w := rT0 σ g (L - 2 ^ (cC σ g i).2) (tt σ (cC σ g i).1)) i2 (by omega) hL256 q2 (by rw [eLd]; exact hR _ (by omega) _ (by omega))) (hm := by first | exact ⟨Nat.le_of_ble_eq_true rfl, Nat.le_of_ble_eq_true rfl⟩ | (constructor <;> simp only [rmd] <;> omega)) (k := kP ?_) (kx := r_nox)
      refine r_iadd dX6_bestPass_49 ?_
      refine r_istore dX6_bestPass_50 (k := ?_)
      refine r_iload_n dX6_bestPass_52 rfl ?_
      refine r_aload dX6_bestPass_53 rfl ?_
      refine r_getI qX6_62 dX6_bestPass_55 (hX.k3 _ i2) q2 (kk := ?_)
      refine r_iand dX6_bestPass_58 ((and_bit _ (by omega) L hL256).trans (by rw [if_pos hb])) ?_
      refine r_if_eq (tgt := 79) dX6_bestPass_59 (by decide) (kt := fun z59 => (by exfalso; first | omega | simp_all)) (kf := fun z59 => ?_)
      refine r_iload dX6_bestPass_62 rfl ?_
      refine r_aload_n dX6_bestPass_64 rfl ?_
      refine r_getR qX6_27 dX6_bestPass_65 (hX.x 6 6 0) (hX.f 6 386 16) (kk := ?_)
      refine r_iload_n dX6_bestPass_68 rfl ?_
      refine r_iload_n dX6_bestPass_69 rfl ?_
      refine r_callV (mi := iX6_bestPass) vX6_87 dX6_bestPass_70 w16.1 (x_at w16 (i := L) (j := p) (by omega) (by omega) (hR L (by omega) p (by omega))) (hm := by first | exact ⟨Nat.le_of_ble_eq_true rfl, Nat.le_of_ble_eq_true rfl⟩ | (constructor <;> simp only [rmd] <;> omega)) (k := kP ?_) (kx := r_nox)
      refine r_icmp_ne (tgt := 79) dX6_bestPass_73 (by decide) (kt := fun z73 => (by exfalso; first | omega | simp_all)) (kf := fun z73 => ?_)
      refine r_aload dX6_bestPass_76 rfl ?_
      exact r_aret dX6_bestPass_78 (⟨rfl, rfl⟩)
    | succ k ih =>
      intro i hi
      have hib : i < b := by omega
      have hi3 : i < cM σ g := by omega
      obtain ⟨q1, q2⟩ := hq i hi3
      obtain ⟨i1, i2, -⟩ := cC_in (σ := σ) (g := g) hi3
      obtain ⟨f1, f2, f3, f4⟩ := fr_lt hO.st i2
      obtain ⟨lb1, lb2⟩ := lbit (uN σ g) (by omega) L (by omega) _ i1
      rw [hLS] at lb1
      have tp := Nat.two_pow_pos (cC σ g i).2
      have d1 := ld_le (σ := σ) p (fr σ (cC σ g i).1)
      have d2 := rT0_le (σ := σ) g (Ld L (cC σ g i).2) (tt σ (cC σ g i).1)
      have d3 := rT0_le (σ := σ) g L p
      have d4 : Ld L (cC σ g i).2 ≤ L := by
        unfold Ld
        split
        · exact Nat.sub_le _ _
        · exact Nat.le_refl _
      have hti : (if L.testBit (cC σ g i).2 = true then 2 ^ (cC σ g i).2 else 0 : Nat) ≤ 256 := by
        split
        · next h => have := (lb2 h).1; omega
        · omega
      refine r_iload_n dX6_bestPass_2 rfl ?_
      refine r_aload_n dX6_bestPass_3 rfl ?_
      refine r_getR qX6_18 dX6_bestPass_4 (hX.x 6 6 0) (hX.f 6 385 15) (kk := ?_)
      refine r_callV (mi := iX6_bestPass) vX6_71 dX6_bestPass_7 (hX.x 15 10 0) (c_size hLL) (hm := by first | exact ⟨Nat.le_of_ble_eq_true rfl, Nat.le_of_ble_eq_true rfl⟩ | (constructor <;> simp only [rmd] <;> omega)) (k := kP ?_) (kx := r_nox)
      refine r_icmp_ge (tgt := 85) dX6_bestPass_10 (by decide) (kt := fun z10 => (by exfalso; first | omega | simp_all)) (kf := fun z10 => ?_)
      refine r_aload_n dX6_bestPass_13 rfl ?_
      refine r_getR qX6_18 dX6_bestPass_14 (hX.x 6 6 0) (hX.f 6 385 15) (kk := ?_)
      refine r_iload_n dX6_bestPass_17 rfl ?_
      refine r_callV (mi := iX6_bestPass) vX6_80 dX6_bestPass_18 (hX.x 15 10 0) (c_get hLL hi3 q1) (hm := by first | exact ⟨Nat.le_of_ble_eq_true rfl, Nat.le_of_ble_eq_true rfl⟩ | (constructor <;> simp only [rmd] <;> omega)) (k := kPA ?_) (kx := r_nox)
      refine r_cast nX6_63.1 dX6_bestPass_21 (hX.k3 _ i2) (k := ?_)
      refine r_astore dX6_bestPass_24 (k := ?_)
      refine r_aload_n dX6_bestPass_26 rfl ?_
      refine r_getR qX6_9 dX6_bestPass_27 (hX.x 6 6 0) (hX.f 6 384 5) (kk := ?_)
      refine r_getR qX6_75 dX6_bestPass_30 (hX.x 5 7 0) (hX.f 5 449 11) (kk := ?_)
      refine r_iload_n dX6_bestPass_33 rfl ?_
      refine r_aload dX6_bestPass_34 rfl ?_
      refine r_getI qX6_84 dX6_bestPass_36 (hX.k3 _ i2) (hX.g193 _ i2) (kk := ?_)
      refine r_callV (mi := iX6_bestPass) vX6_87 dX6_bestPass_39 w6.1 (x_at w6 (show p < 10 by omega) (show fr σ (cC σ g i).1 < 10 by omega) (hX.gl p _ (by omega) (by omega))) (hm := by first | exact ⟨Nat.le_of_ble_eq_true rfl, Nat.le_of_ble_eq_true rfl⟩ | (constructor <;> simp only [rmd] <;> omega)) (k := kP ?_) (kx := r_nox)
      refine r_aload_n dX6_bestPass_42 rfl ?_
      refine r_aload dX6_bestPass_43 rfl ?_
      refine r_iload_n dX6_bestPass_45 rfl ?_
      refine r_callV (mi := iX6_bestPass) vX6_103 dX6_bestPass_46 (hX.x 6 6 0) (x_restWith hX hO (u := (cC σ g i).2) (L := L) (w := rT0 σ g (Ld L (cC σ g i).2) (tt σ (cC σ g i).1)) i2 (by omega) hL256 q2 (hR _ (by omega) _ (by omega))) (hm := by first | exact ⟨Nat.le_of_ble_eq_true rfl, Nat.le_of_ble_eq_true rfl⟩ | (constructor <;> simp only [rmd] <;> omega)) (k := kP ?_) (kx := r_nox)
      refine r_iadd dX6_bestPass_49 ?_
      refine r_istore dX6_bestPass_50 (k := ?_)
      refine r_iload_n dX6_bestPass_52 rfl ?_
      refine r_aload dX6_bestPass_53 rfl ?_
      refine r_getI qX6_62 dX6_bestPass_55 (hX.k3 _ i2) q2 (kk := ?_)
      refine r_iand dX6_bestPass_58 ((and_bit _ (by omega) L hL256)) ?_
      refine r_if_eq (tgt := 79) dX6_bestPass_59 (by decide) (kt := fun z59 => ?_) (kf := fun z59 => ?_)
      · refine r_iinc dX6_bestPass_79 rfl (k := ?_)
        refine r_goto (tgt := 2) dX6_bestPass_82 (by decide) ?_
        exact r_loc' (ih (i + 1) (by omega)) ⟨rfl, rfl, rfl, rfl, trivial⟩
      · have hb : L.testBit (cC σ g i).2 = true := by
          cases h : L.testBit (cC σ g i).2 with
          | true => rfl
          | false => rw [h] at z59; exact absurd rfl z59
        obtain ⟨lb3, lb4⟩ := lb2 hb
        rw [hLS] at lb4
        have eLd : Ld L (cC σ g i).2 = L - 2 ^ (cC σ g i).2 := if_pos hb
        have hSb : S.testBit (cC σ g i).2 = false := by rw [lb1, hb]; rfl
        have hco : gV σ g S p < dst σ p (fr σ (cC σ g i).1) + ln σ (cC σ g i).1 + gV σ g (S ||| 2 ^ (cC σ g i).2) (tt σ (cC σ g i).1) := b5 i hib hSb
        have hno : ld σ p (fr σ (cC σ g i).1) + (ln σ (cC σ g i).1 + rT0 σ g (Ld L (cC σ g i).2) (tt σ (cC σ g i).1)) ≠ rT0 σ g L p := by
          rw [hrT, eLd]
          unfold ld rT0
          rw [lb4]
          generalize gV σ g (S ||| 2 ^ (cC σ g i).2) (tt σ (cC σ g i).1) = W at hco ⊢
          generalize dst σ p (fr σ (cC σ g i).1) = D at hco ⊢
          unfold cp
          split <;> split <;> omega
        refine r_iload dX6_bestPass_62 rfl ?_
        refine r_aload_n dX6_bestPass_64 rfl ?_
        refine r_getR qX6_27 dX6_bestPass_65 (hX.x 6 6 0) (hX.f 6 386 16) (kk := ?_)
        refine r_iload_n dX6_bestPass_68 rfl ?_
        refine r_iload_n dX6_bestPass_69 rfl ?_
        refine r_callV (mi := iX6_bestPass) vX6_87 dX6_bestPass_70 w16.1 (x_at w16 (i := L) (j := p) (by omega) (by omega) (hR L (by omega) p (by omega))) (hm := by first | exact ⟨Nat.le_of_ble_eq_true rfl, Nat.le_of_ble_eq_true rfl⟩ | (constructor <;> simp only [rmd] <;> omega)) (k := kP ?_) (kx := r_nox)
        refine r_icmp_ne (tgt := 79) dX6_bestPass_73 (by decide) (kt := fun z73 => ?_) (kf := fun z73 => (by exfalso; first | omega | simp_all))
        refine r_iinc dX6_bestPass_79 rfl (k := ?_)
        refine r_goto (tgt := 2) dX6_bestPass_82 (by decide) ?_
        exact r_loc' (ih (i + 1) (by omega)) ⟨rfl, rfl, rfl, rfl, trivial⟩
  refine r_iconst dX6_bestPass_0 ?_
  refine r_istore_n dX6_bestPass_1 (k := ?_)
  exact r_loc' (loop b 0 (by omega)) ⟨rfl, rfl, rfl, rfl, trivial⟩
def tsN : Nat → Nat
  | 0 => 0
  | i + 1 => tsN i + (i + i / 2 + 10)
theorem tsN_le : ∀ i : Nat, i < 9 → tsN i ≤ 120 := by decide +kernel
theorem x_trace (hX : XB G M C σ) (hO : Ok σ T) {g : Nat} {m : List Nat} (hV : CW G M C σ (uns σ g (σ.1 1)) m) (hW1 : hW σ g = true) : Ht G iX6_trace yX6_trace 16 [.ref (eX C 6)] M (rV fun M' => Kx C M M' ∧ TQ G C σ g (uN σ g) (wSt σ g) (wPs σ g (uN σ g)) M') nX 8 120 := by
  have hX0 := hX
  have p1 := hO.1.1
  have p2 := hO.1.2.1
  have hSt := hO.st
  obtain ⟨hn, hfin⟩ := hW_iff.mp hW1
  obtain ⟨w1, w2, w3, w4⟩ := wk_fin hSt p1 hW1
  have hal := all_256 hn
  refine ht_intro (by decide +kernel) rfl rfl rfl (Nat.le_of_ble_eq_true rfl) ?_
  have loop : ∀ (k i : Nat) (M1 : Mem), i + k = uN σ g → Kx C M M1 → TQ G C σ g i (stp σ g i) (wPs σ g i) M1 → SWG G iX6_trace (rmd 16 8 120) (QF G (rV fun M' => Kx C M M' ∧ TQ G C σ g (uN σ g) (wSt σ g) (wPs σ g (uN σ g)) M') nX 8 120) 32 [(4, .int (iz (i : Int))), (3, .int (iz ((tr σ g i).2 : Int))), (2, .int (iz ((2 ^ uN σ g - 1 - (tr σ g i).1 : Nat) : Int))), (1, .int (iz (wL σ g : Int))), (0, .ref (eX C 6))] [] M1 i (tsN i) := by
    intro k
    induction k with
    | zero =>
      intro i M1 hi k1 hT
      have hi2 : i = uN σ g := by omega
      subst hi2
      have hX := hX0.kx hO k1
      have h390 := hT.1.2.1
      rw [uns_l] at h390
      have hts := tsN_le (uN σ g) (by omega)
      have hsl := stp_len hSt p1 p2 hW1 (uN σ g) (Nat.le_refl _)
      refine r_iload dX6_trace_32 rfl ?_
      refine r_aload_n dX6_trace_34 rfl ?_
      refine r_getI qX6_41 dX6_trace_35 (hX.x 6 6 0) h390 (kk := ?_)
      refine r_icmp_ge (tgt := 120) dX6_trace_38 (by decide) (kt := fun z38 => ?_) (kf := fun z38 => (by exfalso; first | omega | simp_all))
      refine r_aload_n dX6_trace_120 rfl ?_
      refine r_iconst dX6_trace_121 ?_
      refine r_iload_n dX6_trace_122 rfl ?_
      refine r_callV (mi := iX6_trace) vX6_138 dX6_trace_123 (hX.x 6 6 0) (x_goTo hX hO (a := (tr σ g (uN σ g)).2) (b := 0) w2 p1 w3 hT.2.2.1 (by omega)) (hm := by first | exact ⟨Nat.le_of_ble_eq_true rfl, Nat.le_of_ble_eq_true rfl⟩ | (constructor <;> simp only [rmd] <;> omega)) (k := kV (fun M2 h2 => ?_)) (kx := r_nox)
      exact r_vret dX6_trace_126 (⟨rfl, k1.tr h2.1.1, hT.sx (fun j hj => (w1 j hj).2.2.1) h2.1 h2.2⟩)
    | succ k ih =>
      intro i M1 hi k1 hT
      have hi3 : i < uN σ g := by omega
      have hX := hX0.kx hO k1
      have h390 := hT.1.2.1
      rw [uns_l] at h390
      obtain ⟨t1, t2, t3, t4, t5⟩ := tr_ok hSt p1 hW1 i (by omega)
      obtain ⟨g1, g2, g3, g4, g5, -⟩ := t5 hi3
      obtain ⟨a1, a2, a3, a4⟩ := w1 i hi3
      obtain ⟨-, -, -, u4, -⟩ := tr_ok hSt p1 hW1 (i + 1) (by omega)
      have hsl := stp_len hSt p1 p2 hW1 i (by omega)
      obtain ⟨e0, c0, -, hq⟩ := hT.1.list
      have q2 := (hq _ g2).2
      have i1 := (cC_in (σ := σ) g2).1
      obtain ⟨f1, f2, f3, f4⟩ := fr_lt hSt a3
      have hgl := gl_len hSt (b := fr σ (wP σ g i)) (fun _ _ _ => trivial) 10 (tr σ g i).2 a1 a2
      have hrk := rk_le (σ := σ) (b := fr σ (wP σ g i)) a1 p2
      obtain ⟨L, hL⟩ : ∃ L, L = 2 ^ uN σ g - 1 - (tr σ g i).1 := ⟨_, rfl⟩
      obtain ⟨u, hu⟩ : ∃ u, u = (cC σ g (bC σ g (tr σ g i).1 (tr σ g i).2)).2 := ⟨_, rfl⟩
      rw [← hu] at q2 i1 g4
      have q2 : mI M1 196 (eA C 5 (wP σ g i)) = iz ((2 ^ u : Nat) : Int) := q2
      have htr : (tr σ g (i + 1)).1 = (tr σ g i).1 ||| 2 ^ u := by rw [hu]; rfl
      have htt : (tr σ g (i + 1)).2 = tt σ (wP σ g i) := rfl
      have hLS : 2 ^ uN σ g - 1 - L = (tr σ g i).1 := by omega
      obtain ⟨lb1, lb2⟩ := lbit (uN σ g) (by omega) L (by omega) u i1
      have hb : L.testBit u = true := by
        rw [hLS, g4] at lb1
        cases h : L.testBit u with
        | true => rfl
        | false => rw [h] at lb1; cases lb1
      obtain ⟨lb3, lb4⟩ := lb2 hb
      rw [hLS, ← htr] at lb4
      have eLd : Ld L u = L - 2 ^ u := if_pos hb
      have tp := Nat.two_pow_pos u
      have hgl2 : gV σ g (tr σ g (i + 1)).1 (tr σ g (i + 1)).2 < 100000 := by omega
      have e2 : rT0 σ g (L - 2 ^ u) (tt σ (wP σ g i)) = gV σ g (tr σ g (i + 1)).1 (tr σ g (i + 1)).2 := by
        unfold rT0
        rw [lb4, ← htt]
        exact cp_of hgl2
      have hws : wS σ g (i + 1) = bg σ g i + ln σ (wP σ g i) := by
        show wS σ g i + (dst σ (tr σ g i).2 (fr σ (wP σ g i)) + ln σ (wP σ g i)) = _
        unfold bg; omega
      have hts := tsN_le (i + 1) (by omega)
      have hts2 : tsN (i + 1) = tsN i + (i + i / 2 + 10) := rfl
      have hw : ∀ j, j < i + 1 → wP σ g j / 2 < σ.1 1 := fun j hj => (w1 j (by omega)).2.2.1
      refine r_iload dX6_trace_32 rfl ?_
      refine r_aload_n dX6_trace_34 rfl ?_
      refine r_getI qX6_41 dX6_trace_35 (hX.x 6 6 0) h390 (kk := ?_)
      refine r_icmp_ge (tgt := 120) dX6_trace_38 (by decide) (kt := fun z38 => (by exfalso; first | omega | simp_all)) (kf := fun z38 => ?_)
      refine r_aload_n dX6_trace_41 rfl ?_
      refine r_iload_n dX6_trace_42 rfl ?_
      refine r_iload_n dX6_trace_43 rfl ?_
      refine r_callV (mi := iX6_trace) vX6_131 dX6_trace_44 (hX.x 6 6 0) (x_bestPass hX hO hT.1 hn (S := (tr σ g i).1) (p := (tr σ g i).2) g1 t3 hT.2.1 (by omega)) (hm := by first | exact ⟨Nat.le_of_ble_eq_true rfl, Nat.le_of_ble_eq_true rfl⟩ | (constructor <;> simp only [rmd] <;> omega)) (k := kPA ?_) (kx := r_nox)
      rw [← hL]
      refine r_astore dX6_trace_47 (k := ?_)
      refine r_aload dX6_trace_49 rfl ?_
      refine r_ifnonnull (tgt := 55) dX6_trace_51 (by decide) ?_
      refine r_aload dX6_trace_55 rfl ?_
      refine r_iload_n dX6_trace_57 rfl ?_
      refine r_aload_n dX6_trace_58 rfl ?_
      refine r_aload dX6_trace_59 rfl ?_
      refine r_iload_n dX6_trace_61 rfl ?_
      refine r_callV (mi := iX6_trace) vX6_103 dX6_trace_62 (hX.x 6 6 0) (x_restWith (p := wP σ g i) hX hO (u := u) (L := L) (w := rT0 σ g (L - 2 ^ u) (tt σ (wP σ g i))) a3 (by omega) (by omega) q2 (by rw [eLd]; exact hT.2.1 _ (by omega) _ (by omega))) (hm := by first | exact ⟨Nat.le_of_ble_eq_true rfl, Nat.le_of_ble_eq_true rfl⟩ | (constructor <;> simp only [rmd] <;> omega)) (k := kP ?_) (kx := r_nox)
      refine r_isub dX6_trace_65 ?_
      refine gs (congrArg iz (show (wL σ g : Int) - ((ln σ (wP σ g i) + rT0 σ g (L - 2 ^ u) (tt σ (wP σ g i)) : Nat) : Int) = (bg σ g i : Int) by omega)) ?_
      refine r_putI qX6_135 dX6_trace_66 (hX.k3 _ a3) (kk := ?_)
      refine gm (P := fun M2 => Kx C M1 M2 ∧ TQ G C σ g (i + 1) (stp σ g i) (wPs σ g i) M2) (TQ.put hX hT hw (fun j hj => wP_ne hO hT.1 hW1 hj hi3)) (fun M2 hP => ?_)
      obtain ⟨k2, hT⟩ := hP
      have k1 := k1.tr k2
      have hX := hX.kx hO k2
      refine r_aload_n dX6_trace_69 rfl ?_
      refine r_aload dX6_trace_70 rfl ?_
      refine r_getI qX6_84 dX6_trace_72 (hX.k3 _ a3) (hX.g193 _ a3) (kk := ?_)
      refine r_iload_n dX6_trace_75 rfl ?_
      refine r_callV (mi := iX6_trace) vX6_138 dX6_trace_76 (hX.x 6 6 0) (x_goTo hX hO (a := (tr σ g i).2) (b := fr σ (wP σ g i)) a1 f1 a2 hT.2.2.1 (by omega)) (hm := by first | exact ⟨Nat.le_of_ble_eq_true rfl, Nat.le_of_ble_eq_true rfl⟩ | (constructor <;> simp only [rmd] <;> omega)) (k := kV (fun M3 h3 => ?_)) (kx := r_nox)
      have hT := hT.sx hw h3.1 h3.2
      have k1 := k1.tr h3.1.1
      have hX := hX.kx hO h3.1.1
      refine r_aload_n dX6_trace_79 rfl ?_
      refine r_aload dX6_trace_80 rfl ?_
      refine r_getI qX6_110 dX6_trace_82 (hX.k3 _ a3) (hX.g194 _ a3) (kk := ?_)
      refine r_callV (mi := iX6_trace) vX6_128 dX6_trace_85 (hX.x 6 6 0) (x_comeTo hX hO hT.2.2.1 (tt σ (wP σ g i)) (by rw [List.length_append]; omega)) (hm := by first | exact ⟨Nat.le_of_ble_eq_true rfl, Nat.le_of_ble_eq_true rfl⟩ | (constructor <;> simp only [rmd] <;> omega)) (k := kV (fun M4 h4 => ?_)) (kx := r_nox)
      have hT := hT.sx hw h4.1 h4.2
      have k1 := k1.tr h4.1.1
      have hX := hX.kx hO h4.1.1
      have hT9 := hT
      obtain ⟨e1, c1, e2, c2, s1, s2, hne⟩ := hT9.1.1
      refine r_lt (fun hl0 => ?_)
      have gl9 : ∀ b x, mC M4 b = some x → b < mN M4 := fun b x hb => (hl0 b x.1 x.2 hb).1
      have hc2 := s2.2.1
      have hml := wPs_len (σ := σ) g i
      have hob : Obs M4 e2 (wPs σ g i).length := fun q hq y hy => by
        obtain ⟨q1, q2⟩ := s2.2.2.2 q hq
        rw [q1] at hy; cases hy
        exact ⟨3, by decide, hX.k3 _ q2⟩
      refine r_aload_n dX6_trace_88 rfl ?_
      refine r_getR qX6_31 dX6_trace_89 (hX.x 6 6 0) (hX.f 6 387 18) (kk := ?_)
      refine r_aload dX6_trace_92 rfl ?_
      refine r_callV (mi := iX6_trace) vX6_67 dX6_trace_94 (hX.x 18 10 0) (c_add (t := 3) s2.1 (fun _ => hob) (by omega) (hX.k3 _ a3) (by decide) (ne_ty (hX.k3 _ a3) (hX.x 18 10 0) (by decide))) (hm := ⟨Nat.le_trans (Nat.add_le_add_left (ite_1 _ _) _) (by show i + 1 ≤ 8; omega), Nat.le_trans (Nat.add_le_add_left (ite_2 (b := i + i / 2 + 10) (by omega)) _) (by show tsN i + (i + i / 2 + 10) ≤ 120; omega)⟩) (k := kI (fun r M5 hA => ?_)) (kx := r_nox)
      refine r_wid (kc' := i + 1) (ks' := tsN (i + 1)) (Nat.add_le_add_left (ite_1 _ _) _) (Nat.add_le_add_left (ite_2 (b := i + i / 2 + 10) (by omega)) _) ?_
      obtain ⟨k5, hT⟩ := TQ.add hX gl9 hT hw rfl s1 s2 hne a3 (by omega) hA
      have k1 := k1.tr k5
      have hX := hX.kx hO k5
      have q5 : mI M5 196 (eA C 5 (wP σ g i)) = iz ((2 ^ u : Nat) : Int) := by
        obtain ⟨e9, c9, -, hq9⟩ := hT.1.list
        rw [hu]; exact (hq9 _ g2).2
      refine r_pop dX6_trace_97 (k := ?_)
      refine r_iload_n dX6_trace_98 rfl ?_
      refine r_aload dX6_trace_99 rfl ?_
      refine r_getI qX6_62 dX6_trace_101 (hX.k3 _ a3) q5 (kk := ?_)
      refine r_iconst dX6_trace_104 ?_
      refine r_ixor dX6_trace_105 (rfl) ?_
      refine r_iand dX6_trace_106 ((and_not u (by omega) L (by omega)).trans (by rw [eLd])) ?_
      refine r_istore_n dX6_trace_107 (k := ?_)
      refine r_aload dX6_trace_108 rfl ?_
      refine r_getI qX6_110 dX6_trace_110 (hX.k3 _ a3) (hX.g194 _ a3) (kk := ?_)
      refine r_istore_n dX6_trace_113 (k := ?_)
      refine r_iinc dX6_trace_114 rfl (k := ?_)
      refine r_goto (tgt := 32) dX6_trace_117 (by decide) ?_
      exact r_loc' (ih (i + 1) M5 (by omega) k1 hT) ⟨rfl, rfl, by rw [show 2 ^ uN σ g - 1 - (tr σ g (i + 1)).1 = L - 2 ^ u by omega]; rfl, rfl, rfl, trivial⟩
  refine r_aload_n dX6_trace_0 rfl ?_
  refine r_callV (mi := iX6_trace) vX6_122 dX6_trace_1 (hX.x 6 6 0) (x_leastLength hX hO hV hW1) (hm := by first | exact ⟨Nat.le_of_ble_eq_true rfl, Nat.le_of_ble_eq_true rfl⟩ | (constructor <;> simp only [rmd] <;> omega)) (k := kI (fun r M1 h1 => ?_)) (kx := r_nox)
  obtain ⟨rfl, K, hM1, hR⟩ := h1
  have k1 : Kx C M M1 := by rw [hM1]; exact Kx.row hX (Or.inr (Or.inr (Or.inl rfl)))
  have hV1 : CW G M1 C σ (uns σ g (σ.1 1)) m := by rw [hM1]; exact hV.row hX K
  have hR : RsT σ g (2 ^ uN σ g) (mA M1 (eX C 17)) := by rw [hM1, mA_sA]; exact hR
  clear hM1
  have hX := hX.kx hO k1
  have h390 := hV1.2.1
  rw [uns_l] at h390
  refine r_istore_n dX6_trace_4 (k := ?_)
  refine r_aload_n dX6_trace_5 rfl ?_
  refine r_callV (mi := iX6_trace) vX6_100 dX6_trace_6 (hX.x 6 6 0) (x_allNeeds hX hn h390) (hm := by first | exact ⟨Nat.le_of_ble_eq_true rfl, Nat.le_of_ble_eq_true rfl⟩ | (constructor <;> simp only [rmd] <;> omega)) (k := kP ?_) (kx := r_nox)
  refine r_istore_n dX6_trace_9 (k := ?_)
  refine r_iconst dX6_trace_10 ?_
  refine r_istore_n dX6_trace_11 (k := ?_)
  obtain ⟨e1, c1, e2, c2, s1, s2, hne⟩ := id hV1.1
  refine r_lt (fun hl0 => ?_)
  have gl9 : ∀ b x, mC M1 b = some x → b < mN M1 := fun b x hb => (hl0 b x.1 x.2 hb).1
  refine r_aload_n dX6_trace_12 rfl ?_
  refine r_getR qX6_31 dX6_trace_13 (hX.x 6 6 0) (hX.f 6 387 18) (kk := ?_)
  refine r_callV (mi := iX6_trace) vX6_38 dX6_trace_16 (hX.x 18 10 0) (c_clear s2.1) (hm := by first | exact ⟨Nat.le_of_ble_eq_true rfl, Nat.le_of_ble_eq_true rfl⟩ | (constructor <;> simp only [rmd] <;> omega)) (k := kV (fun M2 h2 => ?_)) (kx := r_nox)
  obtain ⟨h1, h2, h3, h4⟩ := h2
  obtain ⟨k2, hV2, hR2⟩ := CW.clr hX gl9 hV1 rfl s1 s2 hne h1 h2 h3 h4
  rw [← hR2] at hR
  have hX := hX.kx hO k2
  have k1 := k1.tr k2
  refine r_aload_n dX6_trace_19 rfl ?_
  refine r_iconst dX6_trace_20 ?_
  refine r_putI qX6_125 dX6_trace_21 (hX.x 6 6 0) (kk := ?_)
  have s3 := Sx.i hX (iz 0)
  refine gm (P := fun M3 => Sx G C σ M2 M3 ∧ StC C [] M3) ⟨s3, sI_at _ _ _, fun i hi => absurd hi (Nat.not_lt_zero _)⟩ (fun M3 hP => ?_)
  obtain ⟨s3, hs3⟩ := hP
  have hX := hX.kx hO s3.1
  refine r_aload_n dX6_trace_24 rfl ?_
  refine r_iconst dX6_trace_25 ?_
  refine r_callV (mi := iX6_trace) vX6_128 dX6_trace_26 (hX.x 6 6 0) (x_comeTo hX hO hs3 0 (by decide)) (hm := by first | exact ⟨Nat.le_of_ble_eq_true rfl, Nat.le_of_ble_eq_true rfl⟩ | (constructor <;> simp only [rmd] <;> omega)) (k := kV (fun M4 h4 => ?_)) (kx := r_nox)
  refine r_iconst dX6_trace_29 ?_
  refine r_istore dX6_trace_30 (k := ?_)
  have s4 := s3.tr h4.1
  refine r_loc' (loop (uN σ g) 0 M4 (by omega) (k1.tr s4.1) ⟨s4.2.1 _ _ hV2, by rw [s4.2.2.1]; exact hR, h4.2, fun j hj => absurd hj (Nat.not_lt_zero _)⟩) ⟨rfl, rfl, rfl, rfl, rfl, trivial⟩
end TRC
