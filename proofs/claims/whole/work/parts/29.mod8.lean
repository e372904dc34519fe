/-! The reference: the places of a walk. -/
section STEP
variable {σ : St} {T : Nat}
/-- the shortest street between two places -/
def sh (σ : St) (a b : Nat) : Nat → Nat
  | 0 => 100000
  | s + 1 => if (σ.2 1 s = a ∧ σ.2 2 s = b) ∨ (σ.2 1 s = b ∧ σ.2 2 s = a) then min (sh σ a b s) (σ.2 3 s) else sh σ a b s
def shh (σ : St) (a b : Nat) : Nat := sh σ a b (σ.1 1)
theorem sh_le (a b k : Nat) : sh σ a b k ≤ 100000 := by
  induction k with
  | zero => exact Nat.le_refl _
  | succ k ih => unfold sh; split <;> omega
theorem sh_st (a b s k : Nat) (hs : s < k) (h : (σ.2 1 s = a ∧ σ.2 2 s = b) ∨ (σ.2 1 s = b ∧ σ.2 2 s = a)) : sh σ a b k ≤ σ.2 3 s := by
  induction k with
  | zero => omega
  | succ k ih =>
    unfold sh
    by_cases e : s = k
    · subst e; rw [if_pos h]; omega
    · have := ih (by omega)
      split <;> omega
theorem sh_at (a b k : Nat) : sh σ a b k = 100000 ∨ ∃ s, s < k ∧ ((σ.2 1 s = a ∧ σ.2 2 s = b) ∨ (σ.2 1 s = b ∧ σ.2 2 s = a)) ∧ sh σ a b k = σ.2 3 s := by
  induction k with
  | zero => exact Or.inl rfl
  | succ k ih =>
    unfold sh
    by_cases e : (σ.2 1 k = a ∧ σ.2 2 k = b) ∨ (σ.2 1 k = b ∧ σ.2 2 k = a)
    · rw [if_pos e]
      rcases Nat.le_total (sh σ a b k) (σ.2 3 k) with h | h
      · rw [Nat.min_eq_left h]
        rcases ih with ih | ⟨s, h1, h2, h3⟩
        · exact Or.inl ih
        · exact Or.inr ⟨s, by omega, h2, h3⟩
      · rw [Nat.min_eq_right h]
        exact Or.inr ⟨k, by omega, e, rfl⟩
    · rw [if_neg e]
      rcases ih with ih | ⟨s, h1, h2, h3⟩
      · exact Or.inl ih
      · exact Or.inr ⟨s, by omega, h2, h3⟩
def nxB (σ : St) (a b q : Nat) : Bool := decide (q ≠ a) && decide (shh σ a q + dst σ q b = dst σ a b)
theorem dst_feas (hS : StOk σ) (b : Nat) : Feas σ (fun c => dst σ c b) := fun s hs => by
  have := (dst_is hS b).2.1 s hs
  show dst σ (σ.2 2 s) b ≤ dst σ (σ.2 1 s) b + σ.2 3 s ∧ dst σ (σ.2 1 s) b ≤ dst σ (σ.2 2 s) b + σ.2 3 s
  rw [dst_sym (σ.2 2 s) b, dst_sym (σ.2 1 s) b]; exact this
/-- a place next on the way -/
theorem nx_ex (hS : StOk σ) {a b : Nat} (hab : a ≠ b) (hd : dst σ a b < 100000) : ∃ q, q < σ.1 0 ∧ nxB σ a b q = true := by
  have main : ∃ q, q ≠ a ∧ shh σ a q + dst σ q b = dst σ a b := by
    apply Classical.byContradiction
    intro hno
    have hno2 : ∀ q, q ≠ a → shh σ a q + dst σ q b ≠ dst σ a b := fun q h1 h2 => hno ⟨q, h1, h2⟩
    have hF := dst_feas hS b
    have step : ∀ q s, s < σ.1 1 → q ≠ a → ((σ.2 1 s = a ∧ σ.2 2 s = q) ∨ (σ.2 1 s = q ∧ σ.2 2 s = a)) → dst σ a b + 1 ≤ dst σ q b + σ.2 3 s := by
      intro q s hs hq he
      have h1 := sh_st a q s (σ.1 1) hs he
      have h2 := hno2 q hq
      unfold shh at h2
      rcases sh_at (σ := σ) a q (σ.1 1) with h3 | ⟨s', h3, h4, h5⟩
      · omega
      · have h6 := hF s' h3
        simp only [] at h6
        rcases h4 with ⟨e1, e2⟩ | ⟨e1, e2⟩ <;> (rw [e1, e2] at h6; omega)
    have hP := (dst_is hS b).2.2.2 (fun c => if c = a then dst σ a b + 1 else dst σ c b) (by rw [if_neg (Ne.symm hab)]; exact dst_self hS b) ?_ ?_ a
    · rw [if_pos rfl, dst_sym b a] at hP; omega
    · intro s hs
      have h6 := hF s hs
      have h7 := (hS s hs).2.2.1
      simp only [] at h6 ⊢
      by_cases e1 : σ.2 1 s = a
      · have e2 : σ.2 2 s ≠ a := by omega
        have h8 := step (σ.2 2 s) s hs e2 (Or.inl ⟨e1, rfl⟩)
        rw [if_neg e2, if_pos e1]
        rw [e1] at h6
        omega
      · by_cases e2 : σ.2 2 s = a
        · have h8 := step (σ.2 1 s) s hs e1 (Or.inr ⟨rfl, e2⟩)
          rw [if_pos e2, if_neg e1]
          rw [e2] at h6
          omega
        · rw [if_neg e1, if_neg e2]; exact h6
    · intro c
      have := dst_le (σ := σ) c b
      show (if c = a then dst σ a b + 1 else dst σ c b) ≤ 100000
      split <;> omega
  obtain ⟨q, h1, h2⟩ := main
  have hq : q < σ.1 0 := by
    unfold shh at h2
    rcases sh_at (σ := σ) a q (σ.1 1) with h3 | ⟨s', h3, h4, h5⟩
    · omega
    · have := hS s' h3
      rcases h4 with ⟨e1, e2⟩ | ⟨e1, e2⟩ <;> omega
  refine ⟨q, hq, ?_⟩
  unfold nxB
  rw [decide_eq_true h1, decide_eq_true h2]; rfl
theorem nx_lt (hS : StOk σ) {a b q : Nat} (h : nxB σ a b q = true) (hd : dst σ a b < 100000) : q < σ.1 0 ∧ dst σ q b < dst σ a b ∧ q ≠ a := by
  unfold nxB at h
  rw [Bool.and_eq_true, decide_eq_true_eq, decide_eq_true_eq] at h
  have h2 := h.2
  unfold shh at h2
  rcases sh_at (σ := σ) a q (σ.1 1) with h3 | ⟨s', h3, h4, h5⟩
  · omega
  · have := hS s' h3
    rcases h4 with ⟨e1, e2⟩ | ⟨e1, e2⟩ <;> exact ⟨by omega, by omega, h.1⟩
theorem fnd_spec {P : Nat → Bool} {n q : Nat} (h : fnd P n = some q) : q < n ∧ P q = true ∧ ∀ j, j < q → P j = false := by
  induction n with
  | zero => cases h
  | succ n ih =>
    unfold fnd at h
    cases e : fnd P n with
    | some i =>
      rw [e] at h
      obtain ⟨h1, h2⟩ := ih (e.trans h)
      exact ⟨by omega, h2⟩
    | none =>
      rw [e] at h
      simp only [] at h
      split at h
      · next e2 =>
        cases h
        refine ⟨by omega, e2, fun j hj => ?_⟩
        cases e3 : P j with
        | false => rfl
        | true =>
          exfalso
          have hh : ∀ m, j < m → fnd P m ≠ none := by
            intro m hm
            induction m with
            | zero => omega
            | succ m ih =>
              unfold fnd
              cases e4 : fnd P m with
              | some i => exact nofun
              | none =>
                simp only []
                by_cases e5 : j = m
                · subst e5; rw [if_pos e3]; exact nofun
                · exact absurd e4 (ih (by omega))
          exact hh q hj e
      · cases h
theorem fnd_ex {P : Nat → Bool} {n q : Nat} (hq : q < n) (h : P q = true) : ∃ i, fnd P n = some i := by
  induction n with
  | zero => omega
  | succ n ih =>
    unfold fnd
    cases e : fnd P n with
    | some i => exact ⟨i, rfl⟩
    | none =>
      simp only []
      by_cases e2 : q = n
      · subst e2; rw [if_pos h]; exact ⟨_, rfl⟩
      · obtain ⟨i, hi⟩ := ih (by omega)
        rw [e] at hi; cases hi
def nx (σ : St) (a b : Nat) : Nat := (fnd (nxB σ a b) (σ.1 0)).getD 0
theorem nx_spec (hS : StOk σ) {a b : Nat} (hab : a ≠ b) (hd : dst σ a b < 100000) : nxB σ a b (nx σ a b) = true ∧ (∀ j, j < nx σ a b → nxB σ a b j = false) ∧ nx σ a b < σ.1 0 ∧ dst σ (nx σ a b) b < dst σ a b ∧ nx σ a b ≠ a := by
  obtain ⟨q, h1, h2⟩ := nx_ex hS hab hd
  obtain ⟨i, hi⟩ := fnd_ex h1 h2
  have e : nx σ a b = i := by unfold nx; rw [hi]; rfl
  obtain ⟨g1, g2, g3⟩ := fnd_spec hi
  rw [e]
  exact ⟨g2, g3, nx_lt hS g2 hd⟩
/-- the places on the way to b -/
def gl (σ : St) (b : Nat) : Nat → Nat → List Nat
  | 0, _ => []
  | f + 1, a => if a = b then [] else nx σ a b :: gl σ b f (nx σ a b)
def rk (σ : St) (b a : Nat) : Nat := cnt (fun q => decide (dst σ q b < dst σ a b)) (σ.1 0)
theorem rk_lt {a b q : Nat} (hq : q < σ.1 0) (h : dst σ q b < dst σ a b) : rk σ b q + 1 ≤ rk σ b a :=
  cnt_lt (i := q) (fun j _ hh => by rw [decide_eq_true_eq] at hh ⊢; omega) hq (decide_eq_false (by omega)) (decide_eq_true h)
theorem rk_le {a b : Nat} (ha : a < σ.1 0) (hp : σ.1 0 ≤ 10) : rk σ b a ≤ 9 := by
  have h1 := cnt_lt (P := fun q => decide (dst σ q b < dst σ a b)) (Q := fun _ => true) (n := σ.1 0) (i := a) (fun _ _ _ => rfl) ha (decide_eq_false (by omega)) rfl
  have h2 := cnt_le (fun _ => true) (σ.1 0)
  unfold rk; omega
theorem gl_len (hS : StOk σ) {b : Nat} (hd : ∀ a, a < σ.1 0 → dst σ a b < 100000 → True) : ∀ f a, a < σ.1 0 → dst σ a b < 100000 → (gl σ b f a).length ≤ rk σ b a := by
  intro f
  induction f with
  | zero => intro a _ _; exact Nat.zero_le _
  | succ f ih =>
    intro a ha hd
    unfold gl
    by_cases e : a = b
    · rw [if_pos e]; exact Nat.zero_le _
    · rw [if_neg e]
      obtain ⟨-, -, h3, h4, -⟩ := nx_spec hS e hd
      have := ih (nx σ a b) h3 (by omega)
      have := rk_lt h3 h4
      rw [List.length_cons]; omega
/-- the places so far, behind k passes -/
def stp (σ : St) (g : Nat) : Nat → List Nat
  | 0 => [0]
  | k + 1 => stp σ g k ++ gl σ (fr σ (wP σ g k)) 10 (tr σ g k).2 ++ [tt σ (wP σ g k)]
def wSt (σ : St) (g : Nat) : List Nat := stp σ g (uN σ g) ++ gl σ 0 10 (tr σ g (uN σ g)).2
theorem pc_max : ∀ n : Nat, n < 9 → ∀ S : Nat, S < 2 ^ n → cnt (fun v => S.testBit v) n = n → S = 2 ^ n - 1 := by decide +kernel
/-- the ways of a walk are open -/
theorem wk_fin (hS : StOk σ) (hp : 1 ≤ σ.1 0) {g : Nat} (hW1 : hW σ g = true) : (∀ k, k < uN σ g → (tr σ g k).2 < σ.1 0 ∧ dst σ (tr σ g k).2 (fr σ (wP σ g k)) < 100000 ∧ wP σ g k / 2 < σ.1 1 ∧ inG σ (wP σ g k / 2) g = true) ∧ (tr σ g (uN σ g)).2 < σ.1 0 ∧ dst σ (tr σ g (uN σ g)).2 0 < 100000 ∧ (tr σ g (uN σ g)).1 = 2 ^ uN σ g - 1 := by
  obtain ⟨hn, hl⟩ := hW_iff.mp hW1
  refine ⟨fun k hk => ?_, ?_⟩
  · obtain ⟨h1, h2, h3, h4, h5⟩ := tr_ok hS hp hW1 k (by omega)
    obtain ⟨g1, g2, g3, g4, g5, -⟩ := h5 hk
    have hc := cC_in g2
    refine ⟨h3, ?_, hc.2⟩
    have : dst σ (tr σ g k).2 (fr σ (wP σ g k)) ≤ cost σ (gV σ g) (tr σ g k).1 (tr σ g k).2 (cC σ g (bC σ g (tr σ g k).1 (tr σ g k).2)) := by
      unfold cost wP; omega
    omega
  · obtain ⟨h1, h2, h3, h4, -⟩ := tr_ok hS hp hW1 (uN σ g) (Nat.le_refl _)
    have e := pc_max _ (by omega) _ (by have := Nat.two_pow_pos (uN σ g); omega) h2
    rw [e, gV_all] at h4
    exact ⟨h3, by omega, e⟩
theorem stp_len (hS : StOk σ) (hp : 1 ≤ σ.1 0) (hp2 : σ.1 0 ≤ 10) {g : Nat} (hW1 : hW σ g = true) : ∀ k, k ≤ uN σ g → (stp σ g k).length ≤ 1 + 10 * k := by
  intro k
  induction k with
  | zero => intro _; exact Nat.le_refl _
  | succ k ih =>
    intro hk
    obtain ⟨h1, h2, -⟩ := (wk_fin hS hp hW1).1 k (by omega)
    have h3 := gl_len hS (fun _ _ _ => trivial) 10 (tr σ g k).2 h1 h2
    have h4 := rk_le (b := fr σ (wP σ g k)) h1 hp2
    have h5 := ih (by omega)
    simp only [stp, List.length_append, List.length_cons, List.length_nil]
    omega
end STEP
section MD8
variable {G : GC} {M M0 : Mem} {Y : Nat → Nat} {σ : St} {T : Nat} {Qf : List Frame → Array Value → State → State → Prop}
/-- the reference's list of places -/
def StP (Y : Nat → Nat) (l : List Nat) (M : Mem) : Prop := mI M 612 (Y 0) = iz (l.length : Int) ∧ ∀ i, i < l.length → mA M (Y 35) i = iz (l.getD i 0 : Int)
theorem m_comesTo (hM : RM M Y σ) {l : List Nat} (hU : StP Y l M) (x : Nat) (hl : l.length < 128) : Ht G iX9_comesTo yX9_comesTo 2 [.ref (Y 0), .int (iz (x : Int))] M (rV fun M' => Kp Y [612] [35] M M' ∧ StP Y (l ++ [x]) M') nX 0 0 := by
  refine ht_intro (by decide +kernel) rfl rfl rfl (Nat.le_of_ble_eq_true rfl) ?_
  refine r_aload_n dX9_comesTo_0 rfl ?_
  refine r_getR qX9_78 dX9_comesTo_1 hM.o (hM.r 35) (kk := ?_)
  refine r_aload_n dX9_comesTo_4 rfl ?_
  refine r_getI qX9_193 dX9_comesTo_5 hM.o hU.1 (kk := ?_)
  refine r_iload_n dX9_comesTo_8 rfl ?_
  refine r_iast dX9_comesTo_9 (hM.cc 35 11 128) rfl (k := ?_)
  refine gm (P := fun M2 => Kp Y [612] [35] M M2 ∧ mA M2 (Y 35) = upd (mA M (Y 35)) l.length (iz (x : Int)) ∧ mI M2 612 (Y 0) = iz (l.length : Int)) ⟨Kp.a, mA_sA _ _ _, hU.1⟩ (fun M2 hP2 => ?_)
  obtain ⟨hK2, hA2, hI2⟩ := hP2
  have hM := hK2.rm hM
  refine r_aload_n dX9_comesTo_10 rfl ?_
  refine r_dup dX9_comesTo_11 (k := ?_)
  refine r_getI qX9_193 dX9_comesTo_12 hM.o hI2 (kk := ?_)
  refine r_iconst dX9_comesTo_15 ?_
  refine r_iadd dX9_comesTo_16 ?_
  refine r_putI qX9_193 dX9_comesTo_17 hM.o (kk := ?_)
  refine r_vret dX9_comesTo_20 ⟨rfl, hK2.tr Kp.i, by rw [mI_sI, List.length_append]; simp [upd], fun i hi => ?_⟩
  show mA M2 (Y 35) i = _
  rw [hA2]
  rw [List.length_append] at hi
  by_cases e : i = l.length
  · subst e; rw [getD_app2]; simp [upd]
  · have hi2 : i < l.length := by simp only [List.length_cons, List.length_nil] at hi; omega
    rw [getD_app1 hi2]; simp only [upd, if_neg e]; exact hU.2 i hi2
theorem m_shortest (hM : RM M Y σ) (hO : Ok σ T) (a b : Nat) (ha : a < 20) (hb : b < 20) : Ht G iX9_shortest yX9_shortest 3 [.ref (Y 0), .int (iz (a : Int)), .int (iz (b : Int))] M (rP (iz (shh σ a b : Int)) M) nX 0 0 := by
  obtain ⟨⟨p1, p2, p3, p4, p5, -⟩, hS, -⟩ := id hO
  refine ht_intro (by decide +kernel) rfl rfl rfl (Nat.le_of_ble_eq_true rfl) ?_
  have loop : ∀ k i : Nat, i + k = σ.1 1 → SWG G iX9_shortest (rmd 3 0 0) (QF G (rP (iz (shh σ a b : Int)) M) nX 0 0) 6 [(4, .int (iz (i : Int))), (3, .int (iz (sh σ a b i : Int))), (0, .ref (Y 0)), (1, .int (iz (a : Int))), (2, .int (iz (b : Int)))] [] M 0 0 := by
    intro k
    induction k with
    | zero =>
      intro i hi
      have hi2 : i = σ.1 1 := by omega
      subst hi2
      refine r_iload dX9_shortest_6 rfl ?_
      refine r_aload_n dX9_shortest_8 rfl ?_
      refine r_getI qX9_84 dX9_shortest_9 hM.o (x := iz (σ.1 1 : Int)) (hM.s 1) (kk := ?_)
      refine r_icmp_ge (tgt := 77) dX9_shortest_12 (by decide) (kt := fun z12 => ?_) (kf := fun z12 => (by exfalso; first | omega | simp_all))
      refine r_iload_n dX9_shortest_77 rfl ?_
      exact r_iret dX9_shortest_78 (rP_mk _ _)
    | succ k ih =>
      intro i hi
      have hi3 : i < σ.1 1 := by omega
      obtain ⟨s1, s2, -, s4, s5, -⟩ := hS i hi3
      have hl := sh_le (σ := σ) a b i
      refine r_iload dX9_shortest_6 rfl ?_
      refine r_aload_n dX9_shortest_8 rfl ?_
      refine r_getI qX9_84 dX9_shortest_9 hM.o (x := iz (σ.1 1 : Int)) (hM.s 1) (kk := ?_)
      refine r_icmp_ge (tgt := 77) dX9_shortest_12 (by decide) (kt := fun z12 => (by exfalso; first | omega | simp_all)) (kf := fun z12 => ?_)
      refine r_aload_n dX9_shortest_15 rfl ?_
      refine r_getR qX9_9 dX9_shortest_16 hM.o (hM.r 1) (kk := ?_)
      refine r_iload dX9_shortest_19 rfl ?_
      refine r_iald dX9_shortest_21 (hM.cc 1 11 16) rfl (hM.v 1 _ (hi3)) (k := ?_)
      refine r_iload_n dX9_shortest_22 rfl ?_
      refine r_icmp_ne (tgt := 37) dX9_shortest_23 (by decide) (kt := fun z23 => ?_) (kf := fun z23 => ?_)
      · refine r_aload_n dX9_shortest_37 rfl ?_
        refine r_getR qX9_9 dX9_shortest_38 hM.o (hM.r 1) (kk := ?_)
        refine r_iload dX9_shortest_41 rfl ?_
        refine r_iald dX9_shortest_43 (hM.cc 1 11 16) rfl (hM.v 1 _ (hi3)) (k := ?_)
        refine r_iload_n dX9_shortest_44 rfl ?_
        refine r_icmp_ne (tgt := 71) dX9_shortest_45 (by decide) (kt := fun z45 => ?_) (kf := fun z45 => ?_)
        · refine r_iinc dX9_shortest_71 rfl (k := ?_)
          refine r_goto (tgt := 6) dX9_shortest_74 (by decide) ?_
          refine r_loc' (ih (i + 1) (by omega)) ⟨rfl, ?_, rfl, rfl, rfl, trivial⟩
          first
            | exact lkI (congrArg Nat.cast (if_pos (show (σ.2 1 i = a ∧ σ.2 2 i = b) ∨ (σ.2 1 i = b ∧ σ.2 2 i = a) by omega)).symm)
            | exact lkI (congrArg Nat.cast (if_neg (show ¬ ((σ.2 1 i = a ∧ σ.2 2 i = b) ∨ (σ.2 1 i = b ∧ σ.2 2 i = a)) by omega)).symm)
        · refine r_aload_n dX9_shortest_48 rfl ?_
          refine r_getR qX9_13 dX9_shortest_49 hM.o (hM.r 2) (kk := ?_)
          refine r_iload dX9_shortest_52 rfl ?_
          refine r_iald dX9_shortest_54 (hM.cc 2 11 16) rfl (hM.v 2 _ (hi3)) (k := ?_)
          refine r_iload_n dX9_shortest_55 rfl ?_
          refine r_icmp_ne (tgt := 71) dX9_shortest_56 (by decide) (kt := fun z56 => ?_) (kf := fun z56 => ?_)
          · refine r_iinc dX9_shortest_71 rfl (k := ?_)
            refine r_goto (tgt := 6) dX9_shortest_74 (by decide) ?_
            refine r_loc' (ih (i + 1) (by omega)) ⟨rfl, ?_, rfl, rfl, rfl, trivial⟩
            first
              | exact lkI (congrArg Nat.cast (if_pos (show (σ.2 1 i = a ∧ σ.2 2 i = b) ∨ (σ.2 1 i = b ∧ σ.2 2 i = a) by omega)).symm)
              | exact lkI (congrArg Nat.cast (if_neg (show ¬ ((σ.2 1 i = a ∧ σ.2 2 i = b) ∨ (σ.2 1 i = b ∧ σ.2 2 i = a)) by omega)).symm)
          · refine r_iload_n dX9_shortest_59 rfl ?_
            refine r_aload_n dX9_shortest_60 rfl ?_
            refine r_getR qX9_16 dX9_shortest_61 hM.o (hM.r 3) (kk := ?_)
            refine r_iload dX9_shortest_64 rfl ?_
            refine r_iald dX9_shortest_66 (hM.cc 3 11 16) rfl (hM.v 3 _ (hi3)) (k := ?_)
            refine r_mmin vX9_137 dX9_shortest_67 (hc := mm_nat rfl rfl) (k := ?_)
            refine r_istore_n dX9_shortest_70 (k := ?_)
            refine r_iinc dX9_shortest_71 rfl (k := ?_)
            refine r_goto (tgt := 6) dX9_shortest_74 (by decide) ?_
            refine r_loc' (ih (i + 1) (by omega)) ⟨rfl, ?_, rfl, rfl, rfl, trivial⟩
            first
              | exact lkI (congrArg Nat.cast (if_pos (show (σ.2 1 i = a ∧ σ.2 2 i = b) ∨ (σ.2 1 i = b ∧ σ.2 2 i = a) by omega)).symm)
              | exact lkI (congrArg Nat.cast (if_neg (show ¬ ((σ.2 1 i = a ∧ σ.2 2 i = b) ∨ (σ.2 1 i = b ∧ σ.2 2 i = a)) by omega)).symm)
      · refine r_aload_n dX9_shortest_26 rfl ?_
        refine r_getR qX9_13 dX9_shortest_27 hM.o (hM.r 2) (kk := ?_)
        refine r_iload dX9_shortest_30 rfl ?_
        refine r_iald dX9_shortest_32 (hM.cc 2 11 16) rfl (hM.v 2 _ (hi3)) (k := ?_)
        refine r_iload_n dX9_shortest_33 rfl ?_
        refine r_icmp_eq (tgt := 59) dX9_shortest_34 (by decide) (kt := fun z34 => ?_) (kf := fun z34 => ?_)
        · refine r_iload_n dX9_shortest_59 rfl ?_
          refine r_aload_n dX9_shortest_60 rfl ?_
          refine r_getR qX9_16 dX9_shortest_61 hM.o (hM.r 3) (kk := ?_)
          refine r_iload dX9_shortest_64 rfl ?_
          refine r_iald dX9_shortest_66 (hM.cc 3 11 16) rfl (hM.v 3 _ (hi3)) (k := ?_)
          refine r_mmin vX9_137 dX9_shortest_67 (hc := mm_nat rfl rfl) (k := ?_)
          refine r_istore_n dX9_shortest_70 (k := ?_)
          refine r_iinc dX9_shortest_71 rfl (k := ?_)
          refine r_goto (tgt := 6) dX9_shortest_74 (by decide) ?_
          refine r_loc' (ih (i + 1) (by omega)) ⟨rfl, ?_, rfl, rfl, rfl, trivial⟩
          first
            | exact lkI (congrArg Nat.cast (if_pos (show (σ.2 1 i = a ∧ σ.2 2 i = b) ∨ (σ.2 1 i = b ∧ σ.2 2 i = a) by omega)).symm)
            | exact lkI (congrArg Nat.cast (if_neg (show ¬ ((σ.2 1 i = a ∧ σ.2 2 i = b) ∨ (σ.2 1 i = b ∧ σ.2 2 i = a)) by omega)).symm)
        · refine r_aload_n dX9_shortest_37 rfl ?_
          refine r_getR qX9_9 dX9_shortest_38 hM.o (hM.r 1) (kk := ?_)
          refine r_iload dX9_shortest_41 rfl ?_
          refine r_iald dX9_shortest_43 (hM.cc 1 11 16) rfl (hM.v 1 _ (hi3)) (k := ?_)
          refine r_iload_n dX9_shortest_44 rfl ?_
          refine r_icmp_ne (tgt := 71) dX9_shortest_45 (by decide) (kt := fun z45 => ?_) (kf := fun z45 => ?_)
          · refine r_iinc dX9_shortest_71 rfl (k := ?_)
            refine r_goto (tgt := 6) dX9_shortest_74 (by decide) ?_
            refine r_loc' (ih (i + 1) (by omega)) ⟨rfl, ?_, rfl, rfl, rfl, trivial⟩
            first
              | exact lkI (congrArg Nat.cast (if_pos (show (σ.2 1 i = a ∧ σ.2 2 i = b) ∨ (σ.2 1 i = b ∧ σ.2 2 i = a) by omega)).symm)
              | exact lkI (congrArg Nat.cast (if_neg (show ¬ ((σ.2 1 i = a ∧ σ.2 2 i = b) ∨ (σ.2 1 i = b ∧ σ.2 2 i = a)) by omega)).symm)
          · refine r_aload_n dX9_shortest_48 rfl ?_
            refine r_getR qX9_13 dX9_shortest_49 hM.o (hM.r 2) (kk := ?_)
            refine r_iload dX9_shortest_52 rfl ?_
            refine r_iald dX9_shortest_54 (hM.cc 2 11 16) rfl (hM.v 2 _ (hi3)) (k := ?_)
            refine r_iload_n dX9_shortest_55 rfl ?_
            refine r_icmp_ne (tgt := 71) dX9_shortest_56 (by decide) (kt := fun z56 => ?_) (kf := fun z56 => ?_)
            · refine r_iinc dX9_shortest_71 rfl (k := ?_)
              refine r_goto (tgt := 6) dX9_shortest_74 (by decide) ?_
              refine r_loc' (ih (i + 1) (by omega)) ⟨rfl, ?_, rfl, rfl, rfl, trivial⟩
              first
                | exact lkI (congrArg Nat.cast (if_pos (show (σ.2 1 i = a ∧ σ.2 2 i = b) ∨ (σ.2 1 i = b ∧ σ.2 2 i = a) by omega)).symm)
                | exact lkI (congrArg Nat.cast (if_neg (show ¬ ((σ.2 1 i = a ∧ σ.2 2 i = b) ∨ (σ.2 1 i = b ∧ σ.2 2 i = a)) by omega)).symm)
            · refine r_iload_n dX9_shortest_59 rfl ?_
              refine r_aload_n dX9_shortest_60 rfl ?_
              refine r_getR qX9_16 dX9_shortest_61 hM.o (hM.r 3) (kk := ?_)
              refine r_iload dX9_shortest_64 rfl ?_
              refine r_iald dX9_shortest_66 (hM.cc 3 11 16) rfl (hM.v 3 _ (hi3)) (k := ?_)
              refine r_mmin vX9_137 dX9_shortest_67 (hc := mm_nat rfl rfl) (k := ?_)
              refine r_istore_n dX9_shortest_70 (k := ?_)
              refine r_iinc dX9_shortest_71 rfl (k := ?_)
              refine r_goto (tgt := 6) dX9_shortest_74 (by decide) ?_
              refine r_loc' (ih (i + 1) (by omega)) ⟨rfl, ?_, rfl, rfl, rfl, trivial⟩
              first
                | exact lkI (congrArg Nat.cast (if_pos (show (σ.2 1 i = a ∧ σ.2 2 i = b) ∨ (σ.2 1 i = b ∧ σ.2 2 i = a) by omega)).symm)
                | exact lkI (congrArg Nat.cast (if_neg (show ¬ ((σ.2 1 i = a ∧ σ.2 2 i = b) ∨ (σ.2 1 i = b ∧ σ.2 2 i = a)) by omega)).symm)
  refine r_ldc (n := 100000) kX9_136 dX9_shortest_0 (k := ?_)
  refine r_istore_n dX9_shortest_2 (k := ?_)
  refine r_iconst dX9_shortest_3 ?_
  refine r_istore dX9_shortest_4 (k := ?_)
  exact r_loc' (loop (σ.1 1) 0 (by omega)) ⟨rfl, rfl, rfl, rfl, rfl, trivial⟩
theorem goes_in (hM : RM M Y σ) (hO : Ok σ T) (a b q : Nat) (ha : a < σ.1 0) (hb : b < σ.1 0) (hF : FarP Y (σ.1 0) (dst σ) M) (hq : q < σ.1 0) (hq1 : nxB σ a b q = true) (hq2 : ∀ j, j < q → nxB σ a b j = false) {v : Value} (kk : SWG G iX9_goes (rmd 4 0 0) Qf 56 [(4, .int (iz (q : Int))), (3, .int (iz (a : Int))), (0, .ref (Y 0)), (1, v), (2, .int (iz (b : Int)))] [] M 0 0) : ∀ k i : Nat, i + k = q → SWG G iX9_goes (rmd 4 0 0) Qf 10 [(4, .int (iz (i : Int))), (3, .int (iz (a : Int))), (0, .ref (Y 0)), (1, v), (2, .int (iz (b : Int)))] [] M 0 0 := by
  obtain ⟨⟨p1, p2, p3, p4, p5, -⟩, hS, -⟩ := id hO
  have hl := dst_le (σ := σ) a b
  intro k
  induction k with
  | zero =>
    intro i hi
    have hi2 : i = q := by omega
    subst hi2
    unfold nxB at hq1
    rw [Bool.and_eq_true, decide_eq_true_eq, decide_eq_true_eq] at hq1
    obtain ⟨q1, q2⟩ := hq1
    refine r_iload dX9_goes_10 rfl ?_
    refine r_iload_n dX9_goes_12 rfl ?_
    refine r_icmp_eq (tgt := 50) dX9_goes_13 (by decide) (kt := fun z13 => (by exfalso; first | omega | simp_all)) (kf := fun z13 => ?_)
    refine r_aload_n dX9_goes_16 rfl ?_
    refine r_iload_n dX9_goes_17 rfl ?_
    refine r_iload dX9_goes_18 rfl ?_
    refine r_callV (mi := iX9_goes) vX9_196 dX9_goes_20 hM.o (m_shortest hM hO a i (by omega) (by omega)) (hm := ⟨by omega, by omega⟩) (k := kP ?_) (kx := r_nox)
    refine r_aload_n dX9_goes_23 rfl ?_
    refine r_getR qX9_60 dX9_goes_24 hM.o (hM.r 25) (kk := ?_)
    refine r_bipush dX9_goes_27 (k := ?_)
    refine r_iload dX9_goes_29 rfl ?_
    refine r_imul dX9_goes_31 ?_
    refine r_iload_n dX9_goes_32 rfl ?_
    refine r_iadd dX9_goes_33 ?_
    refine r_iald dX9_goes_34 (hM.cc 25 11 100) (j := 10 * i + b) (by omega) (hF i b hq hb) (k := ?_)
    refine r_iadd dX9_goes_35 ?_
    refine r_aload_n dX9_goes_36 rfl ?_
    refine r_getR qX9_60 dX9_goes_37 hM.o (hM.r 25) (kk := ?_)
    refine r_bipush dX9_goes_40 (k := ?_)
    refine r_iload_n dX9_goes_42 rfl ?_
    refine r_imul dX9_goes_43 ?_
    refine r_iload_n dX9_goes_44 rfl ?_
    refine r_iadd dX9_goes_45 ?_
    refine r_iald dX9_goes_46 (hM.cc 25 11 100) (j := 10 * a + b) (by omega) (hF a b ha hb) (k := ?_)
    refine r_icmp_eq (tgt := 56) dX9_goes_47 (by decide) (kt := fun z47 => ?_) (kf := fun z47 => (by exfalso; first | omega | simp_all))
    exact kk
  | succ k ih =>
    intro i hi
    have hi3 : i < σ.1 0 := by omega
    have hl2 := dst_le (σ := σ) i b
    have hl3 : shh σ a i ≤ 100000 := sh_le (σ := σ) a i (σ.1 1)
    have hn := hq2 i (by omega)
    unfold nxB at hn
    rw [Bool.and_eq_false_iff, decide_eq_false_iff_not, decide_eq_false_iff_not] at hn
    refine r_iload dX9_goes_10 rfl ?_
    refine r_iload_n dX9_goes_12 rfl ?_
    refine r_icmp_eq (tgt := 50) dX9_goes_13 (by decide) (kt := fun z13 => ?_) (kf := fun z13 => ?_)
    · refine r_iinc dX9_goes_50 rfl (k := ?_)
      refine r_goto (tgt := 10) dX9_goes_53 (by decide) ?_
      exact r_loc' (ih (i + 1) (by omega)) ⟨rfl, rfl, rfl, rfl, rfl, trivial⟩
    · refine r_aload_n dX9_goes_16 rfl ?_
      refine r_iload_n dX9_goes_17 rfl ?_
      refine r_iload dX9_goes_18 rfl ?_
      refine r_callV (mi := iX9_goes) vX9_196 dX9_goes_20 hM.o (m_shortest hM hO a i (by omega) (by omega)) (hm := ⟨by omega, by omega⟩) (k := kP ?_) (kx := r_nox)
      refine r_aload_n dX9_goes_23 rfl ?_
      refine r_getR qX9_60 dX9_goes_24 hM.o (hM.r 25) (kk := ?_)
      refine r_bipush dX9_goes_27 (k := ?_)
      refine r_iload dX9_goes_29 rfl ?_
      refine r_imul dX9_goes_31 ?_
      refine r_iload_n dX9_goes_32 rfl ?_
      refine r_iadd dX9_goes_33 ?_
      refine r_iald dX9_goes_34 (hM.cc 25 11 100) (j := 10 * i + b) (by omega) (hF i b hi3 hb) (k := ?_)
      refine r_iadd dX9_goes_35 ?_
      refine r_aload_n dX9_goes_36 rfl ?_
      refine r_getR qX9_60 dX9_goes_37 hM.o (hM.r 25) (kk := ?_)
      refine r_bipush dX9_goes_40 (k := ?_)
      refine r_iload_n dX9_goes_42 rfl ?_
      refine r_imul dX9_goes_43 ?_
      refine r_iload_n dX9_goes_44 rfl ?_
      refine r_iadd dX9_goes_45 ?_
      refine r_iald dX9_goes_46 (hM.cc 25 11 100) (j := 10 * a + b) (by omega) (hF a b ha hb) (k := ?_)
      refine r_icmp_eq (tgt := 56) dX9_goes_47 (by decide) (kt := fun z47 => (by exfalso; first | omega | simp_all)) (kf := fun z47 => ?_)
      refine r_iinc dX9_goes_50 rfl (k := ?_)
      refine r_goto (tgt := 10) dX9_goes_53 (by decide) ?_
      exact r_loc' (ih (i + 1) (by omega)) ⟨rfl, rfl, rfl, rfl, rfl, trivial⟩
theorem m_goes (hM : RM M Y σ) (hO : Ok σ T) (a b : Nat) (ha : a < σ.1 0) (hb : b < σ.1 0) (hd : dst σ a b < 100000) (hF : FarP Y (σ.1 0) (dst σ) M) {l : List Nat} (hU : StP Y l M) (hl : l.length + 9 < 128) : Ht G iX9_goes yX9_goes 4 [.ref (Y 0), .int (iz (a : Int)), .int (iz (b : Int))] M (rV fun M' => Kp Y [612] [35] M M' ∧ StP Y (l ++ gl σ b 10 a) M') nX 0 0 := by
  have hSt := hO.st
  obtain ⟨⟨p1, p2, p3, p4, p5, -⟩, hS, -⟩ := id hO
  have hr := rk_le (b := b) ha p2
  refine ht_intro (by decide +kernel) rfl rfl rfl (Nat.le_of_ble_eq_true rfl) ?_
  have loop : ∀ (f c : Nat) (l' : List Nat) (M1 : Mem), rk σ b c < f → c < σ.1 0 → dst σ c b < 100000 → l'.length + rk σ b c < 128 → Kp Y [612] [35] M M1 → StP Y l' M1 → l ++ gl σ b 10 a = l' ++ gl σ b f c → SWG G iX9_goes (rmd 4 0 0) (QF G (rV fun M' => Kp Y [612] [35] M M' ∧ StP Y (l ++ gl σ b 10 a) M') nX 0 0) 2 [(3, .int (iz (c : Int))), (0, .ref (Y 0)), (1, .int (iz (a : Int))), (2, .int (iz (b : Int)))] [] M1 0 0 := by
    intro f
    induction f with
    | zero => intro c l' M1 h; omega
    | succ f ih =>
      intro c l' M1 hf hc hdc hll hK hU hE
      have hF := hF.kp hK hM
      have hM := hK.rm hM
      refine r_iload_n dX9_goes_2 rfl ?_
      refine r_iload_n dX9_goes_3 rfl ?_
      refine r_icmp_eq (tgt := 68) dX9_goes_4 (by decide) (kt := fun z4 => ?_) (kf := fun z4 => ?_)
      · exact r_vret dX9_goes_68 (⟨rfl, hK, by rw [hE]; unfold gl; rw [if_pos (by omega), List.append_nil]; exact hU⟩)
      · refine r_iconst dX9_goes_7 ?_
        refine r_istore dX9_goes_8 (k := ?_)
        have hcb : c ≠ b := by omega
        obtain ⟨n1, n2, n3, n4, n5⟩ := nx_spec hSt hcb hdc
        have hrk := rk_lt n3 n4
        refine r_loc' (goes_in hM hO c b (nx σ c b) hc hb hF n3 n1 n2 (v := .int (iz (a : Int))) ?_ (nx σ c b) 0 (by omega)) ⟨rfl, rfl, rfl, rfl, rfl, trivial⟩
        refine r_aload_n dX9_goes_56 rfl ?_
        refine r_iload dX9_goes_57 rfl ?_
        refine r_callV (mi := iX9_goes) vX9_199 dX9_goes_59 hM.o (m_comesTo hM hU (nx σ c b) (by omega)) (hm := ⟨by omega, by omega⟩) (k := kV (fun M2 hP2 => ?_)) (kx := r_nox)
        obtain ⟨hK2, hU⟩ := hP2
        refine r_iload dX9_goes_62 rfl ?_
        refine r_istore_n dX9_goes_64 (k := ?_)
        refine r_goto (tgt := 2) dX9_goes_65 (by decide) ?_
        refine r_loc' (ih (nx σ c b) _ M2 (by omega) n3 (by omega) (by rw [List.length_append, List.length_cons, List.length_nil]; omega) (hK.tr hK2) hU ?_) ⟨rfl, rfl, rfl, rfl, trivial⟩
        rw [hE, List.append_assoc]
        congr 1
        exact (if_neg hcb : (if c = b then [] else nx σ c b :: gl σ b f (nx σ c b)) = nx σ c b :: gl σ b f (nx σ c b))
  refine r_iload_n dX9_goes_0 rfl ?_
  refine r_istore_n dX9_goes_1 (k := ?_)
  exact r_loc' (loop 10 a l M (by omega) ha hd (by omega) Kp.rf hU rfl) ⟨rfl, rfl, rfl, rfl, trivial⟩
theorem m_findsSteps (hM : RM M Y σ) (hO : Ok σ T) (g : Nat) (hW1 : hW σ g = true) (hA : WaP Y σ g M) : Ht G iX9_findsSteps yX9_findsSteps 5 [.ref (Y 0)] M (rV fun M' => Kp Y [612] [35] M M' ∧ StP Y (wSt σ g) M') nX 0 0 := by
  have hSt := hO.st
  obtain ⟨⟨p1, p2, p3, p4, p5, -⟩, hS, -⟩ := id hO
  have hn := (hW_iff.mp hW1).1
  obtain ⟨w1, w2, w3, w4⟩ := wk_fin hSt p1 hW1
  have hsl := stp_len hSt p1 p2 hW1
  obtain ⟨hF, hU, hWk⟩ := hA
  have hWk := (hWk hW1).2
  refine ht_intro (by decide +kernel) rfl rfl rfl (Nat.le_of_ble_eq_true rfl) ?_
  have loop : ∀ (k i : Nat) (M1 : Mem), i + k = uN σ g → Kp Y [612] [35] M M1 → StP Y (stp σ g i) M1 → SWG G iX9_findsSteps (rmd 5 0 0) (QF G (rV fun M' => Kp Y [612] [35] M M' ∧ StP Y (wSt σ g) M') nX 0 0) 14 [(2, .int (iz (i : Int))), (1, .int (iz ((tr σ g i).2 : Int))), (0, .ref (Y 0))] [] M1 0 0 := by
    intro k
    induction k with
    | zero =>
      intro i M1 hi hK hP
      have hi2 : i = uN σ g := by omega
      subst hi2
      have hF := hF.kp hK hM
      have hU := hU.kp hK hM
      have hM := hK.rm hM
      have hs := hsl (uN σ g) (by omega)
      refine r_iload_n dX9_findsSteps_14 rfl ?_
      refine r_aload_n dX9_findsSteps_15 rfl ?_
      refine r_getI qX9_149 dX9_findsSteps_16 hM.o (x := iz (uN σ g : Int)) hU.1 (kk := ?_)
      refine r_icmp_ge (tgt := 59) dX9_findsSteps_19 (by decide) (kt := fun z19 => ?_) (kf := fun z19 => (by exfalso; first | omega | simp_all))
      refine r_aload_n dX9_findsSteps_59 rfl ?_
      refine r_iload_n dX9_findsSteps_60 rfl ?_
      refine r_iconst dX9_findsSteps_61 ?_
      refine r_callV (mi := iX9_findsSteps) vX9_202 dX9_findsSteps_62 hM.o (m_goes hM hO (tr σ g (uN σ g)).2 0 w2 (by omega) w3 hF hP (by omega)) (hm := ⟨by omega, by omega⟩) (k := kV (fun M2 hP2 => ?_)) (kx := r_nox)
      exact r_vret dX9_findsSteps_65 (⟨rfl, hK.tr hP2.1, hP2.2⟩)
    | succ k ih =>
      intro i M1 hi hK hP
      have hi3 : i < uN σ g := by omega
      have hF := hF.kp hK hM
      have hU := hU.kp hK hM
      have hWi : mA M1 (Y 29) i = iz (wP σ g i : Int) := by rw [hK.row hM 29]; exact hWk i hi3
      have hM := hK.rm hM
      have hs := hsl i (by omega)
      obtain ⟨v1, v2, v3, -⟩ := w1 i hi3
      obtain ⟨f1, f2, -⟩ := fr_lt hSt v3
      have h3 := gl_len hSt (fun _ _ _ => trivial) 10 (tr σ g i).2 v1 v2
      have h4 := rk_le (b := fr σ (wP σ g i)) v1 p2
      refine r_iload_n dX9_findsSteps_14 rfl ?_
      refine r_aload_n dX9_findsSteps_15 rfl ?_
      refine r_getI qX9_149 dX9_findsSteps_16 hM.o (x := iz (uN σ g : Int)) hU.1 (kk := ?_)
      refine r_icmp_ge (tgt := 59) dX9_findsSteps_19 (by decide) (kt := fun z19 => (by exfalso; first | omega | simp_all)) (kf := fun z19 => ?_)
      refine r_aload_n dX9_findsSteps_22 rfl ?_
      refine r_iload_n dX9_findsSteps_23 rfl ?_
      refine r_aload_n dX9_findsSteps_24 rfl ?_
      refine r_aload_n dX9_findsSteps_25 rfl ?_
      refine r_getR qX9_69 dX9_findsSteps_26 hM.o (hM.r 29) (kk := ?_)
      refine r_iload_n dX9_findsSteps_29 rfl ?_
      refine r_iald dX9_findsSteps_30 (hM.cc 29 11 8) rfl hWi (k := ?_)
      refine r_callV (mi := iX9_findsSteps) vX9_172 dX9_findsSteps_31 hM.o (m_from hM hO (wP σ g i) v3) (hm := ⟨by omega, by omega⟩) (k := kP ?_) (kx := r_nox)
      refine r_callV (mi := iX9_findsSteps) vX9_202 dX9_findsSteps_34 hM.o (m_goes hM hO (tr σ g i).2 (fr σ (wP σ g i)) v1 f1 v2 hF hP (by omega)) (hm := ⟨by omega, by omega⟩) (k := kV (fun M2 hP2 => ?_)) (kx := r_nox)
      obtain ⟨hK2, hP⟩ := hP2
      have hWi : mA M2 (Y 29) i = iz (wP σ g i : Int) := by rw [hK2.row hM 29]; exact hWi
      have hM := hK2.rm hM
      have hK := hK.tr hK2
      refine r_aload_n dX9_findsSteps_37 rfl ?_
      refine r_aload_n dX9_findsSteps_38 rfl ?_
      refine r_getR qX9_69 dX9_findsSteps_39 hM.o (hM.r 29) (kk := ?_)
      refine r_iload_n dX9_findsSteps_42 rfl ?_
      refine r_iald dX9_findsSteps_43 (hM.cc 29 11 8) rfl hWi (k := ?_)
      refine r_callV (mi := iX9_findsSteps) vX9_175 dX9_findsSteps_44 hM.o (m_to hM hO (wP σ g i) v3) (hm := ⟨by omega, by omega⟩) (k := kP ?_) (kx := r_nox)
      refine r_istore_n dX9_findsSteps_47 (k := ?_)
      refine r_aload_n dX9_findsSteps_48 rfl ?_
      refine r_iload_n dX9_findsSteps_49 rfl ?_
      refine r_callV (mi := iX9_findsSteps) vX9_199 dX9_findsSteps_50 hM.o (m_comesTo hM hP (tt σ (wP σ g i)) (by rw [List.length_append]; omega)) (hm := ⟨by omega, by omega⟩) (k := kV (fun M3 hP3 => ?_)) (kx := r_nox)
      obtain ⟨hK3, hP⟩ := hP3
      refine r_iinc dX9_findsSteps_53 rfl (k := ?_)
      refine r_goto (tgt := 14) dX9_findsSteps_56 (by decide) ?_
      exact r_loc' (ih (i + 1) M3 (by omega) (hK.tr hK3) hP) ⟨rfl, rfl, rfl, trivial⟩
  refine r_aload_n dX9_findsSteps_0 rfl ?_
  refine r_iconst dX9_findsSteps_1 ?_
  refine r_putI qX9_193 dX9_findsSteps_2 hM.o (kk := ?_)
  refine gm (P := fun M2 => Kp Y [612] [35] M M2 ∧ StP Y [] M2) ⟨Kp.i, by rw [mI_sI]; simp [upd], fun i hi => absurd hi (by simp)⟩ (fun M2 hP2 => ?_)
  obtain ⟨hK, hP⟩ := hP2
  have hM2 := hK.rm hM
  refine r_aload_n dX9_findsSteps_5 rfl ?_
  refine r_iconst dX9_findsSteps_6 ?_
  refine r_callV (mi := iX9_findsSteps) vX9_199 dX9_findsSteps_7 hM2.o (m_comesTo hM2 hP 0 (by simp)) (hm := ⟨by omega, by omega⟩) (k := kV (fun M3 hP3 => ?_)) (kx := r_nox)
  refine r_iconst dX9_findsSteps_10 ?_
  refine r_istore_n dX9_findsSteps_11 (k := ?_)
  refine r_iconst dX9_findsSteps_12 ?_
  refine r_istore_n dX9_findsSteps_13 (k := ?_)
  exact r_loc' (loop (uN σ g) 0 _ (by omega) (hK.tr hP3.1) hP3.2) ⟨rfl, rfl, rfl, trivial⟩
def opWalkPlaces (σ : St) (r : Int) : Rs := (σ, wlc σ r, (wSt σ (2 ^ r.toNat)).length)
def opWalkAt (σ : St) (r i : Int) : Rs := if wlc σ r ≠ 0 then (σ, wlc σ r, 0) else if bt2 i 0 ((wSt σ (2 ^ r.toNat)).length - 1) then (σ, 0, (wSt σ (2 ^ r.toNat)).getD i.toNat 0) else (σ, 3, 0)
theorem wSt_len (hO : Ok σ T) {g : Nat} (hW1 : hW σ g = true) : 1 ≤ (wSt σ g).length ∧ (wSt σ g).length ≤ 90 := by
  have hSt := hO.st
  obtain ⟨⟨p1, p2, p3, p4, p5, -⟩, hS, -⟩ := id hO
  have hn := (hW_iff.mp hW1).1
  obtain ⟨w1, w2, w3, w4⟩ := wk_fin hSt p1 hW1
  have h1 := stp_len hSt p1 p2 hW1 (uN σ g) (Nat.le_refl _)
  have h3 := gl_len hSt (fun _ _ _ => trivial) 10 (tr σ g (uN σ g)).2 w2 w3
  have h4 := rk_le (b := 0) w2 p2
  have h5 : ∀ k, 1 ≤ (stp σ g k).length := by
    intro k
    cases k with
    | zero => exact Nat.le_refl _
    | succ k => simp only [stp, List.length_append, List.length_cons, List.length_nil]; omega
  have h6 := h5 (uN σ g)
  unfold wSt
  rw [List.length_append]
  omega
theorem m_walkPlaces (hM : RM M Y σ) (hO : Ok σ T) (r : Int) (ha : inR r) : Ht G iX9_walkPlaces yX9_walkPlaces 11 [.ref (Y 0), .int (iz r)] M (MR Y M (opWalkPlaces σ r)) nX 0 0 := by
  refine ht_intro (by decide +kernel) rfl rfl rfl (Nat.le_of_ble_eq_true rfl) ?_
  refine r_aload_n dX9_walkPlaces_0 rfl ?_
  refine r_iload_n dX9_walkPlaces_1 rfl ?_
  refine r_callV (mi := iX9_walkPlaces) vX9_190 dX9_walkPlaces_2 hM.o (m_isWalkless hM hO r ha) (hm := ⟨by omega, by omega⟩) (k := kI (fun x M2 hP2 => ?_)) (kx := r_nox)
  obtain ⟨hP, hx, hA⟩ := hP2
  subst hx
  have hM := hP.1
  refine r_dif_eq (tgt := 10) dX9_walkPlaces_5 (by decide) (kt := fun z5 => ?_) (kf := fun z5 => ?_)
  · have z0 : wlc σ r = 0 := by omega
    obtain ⟨n, rfl, hn, hw⟩ := wlc_z z0
    refine r_aload_n dX9_walkPlaces_10 rfl ?_
    refine r_callV (mi := iX9_walkPlaces) vX9_205 dX9_walkPlaces_11 hM.o (m_findsSteps hM hO (2 ^ n) hw (hA z0)) (hm := ⟨by omega, by omega⟩) (k := kV (fun M3 hP3 => ?_)) (kx := r_nox)
    obtain ⟨hK3, hS3⟩ := hP3
    have hP := hK3.mp hP
    have hM := hP.1
    refine r_aload_n dX9_walkPlaces_14 rfl ?_
    refine r_getI qX9_193 dX9_walkPlaces_15 hM.o hS3.1 (kk := ?_)
    exact r_iret dX9_walkPlaces_18 (mr_of hP rfl (fun _ => rfl))
  · refine r_iconst dX9_walkPlaces_8 ?_
    exact r_iret dX9_walkPlaces_9 (mr_of hP rfl (fun h => absurd h z5))
theorem m_walkAt (hM : RM M Y σ) (hO : Ok σ T) (r i : Int) (ha : inR r) (hb : inR i) : Ht G iX9_walkAt yX9_walkAt 11 [.ref (Y 0), .int (iz r), .int (iz i)] M (MR Y M (opWalkAt σ r i)) nX 0 0 := by
  refine ht_intro (by decide +kernel) rfl rfl rfl (Nat.le_of_ble_eq_true rfl) ?_
  refine r_aload_n dX9_walkAt_0 rfl ?_
  refine r_iload_n dX9_walkAt_1 rfl ?_
  refine r_callV (mi := iX9_walkAt) vX9_190 dX9_walkAt_2 hM.o (m_isWalkless hM hO r ha) (hm := ⟨by omega, by omega⟩) (k := kI (fun x M2 hP2 => ?_)) (kx := r_nox)
  obtain ⟨hP, hx, hA⟩ := hP2
  subst hx
  have hM := hP.1
  refine r_dif_eq (tgt := 10) dX9_walkAt_5 (by decide) (kt := fun z5 => ?_) (kf := fun z5 => ?_)
  · have z0 : wlc σ r = 0 := by omega
    obtain ⟨n, rfl, hn, hw⟩ := wlc_z z0
    have hwl := wSt_len hO hw
    refine r_aload_n dX9_walkAt_10 rfl ?_
    refine r_callV (mi := iX9_walkAt) vX9_205 dX9_walkAt_11 hM.o (m_findsSteps hM hO (2 ^ n) hw (hA z0)) (hm := ⟨by omega, by omega⟩) (k := kV (fun M3 hP3 => ?_)) (kx := r_nox)
    obtain ⟨hK3, hS3⟩ := hP3
    have hP := hK3.mp hP
    have hM := hP.1
    refine r_iload_n dX9_walkAt_14 rfl ?_
    refine r_iconst dX9_walkAt_15 ?_
    refine r_aload_n dX9_walkAt_16 rfl ?_
    refine r_getI qX9_193 dX9_walkAt_17 hM.o hS3.1 (kk := ?_)
    refine r_iconst dX9_walkAt_20 ?_
    refine r_isub dX9_walkAt_21 ?_
    refine r_callS (mi := iX9_walkAt) vX9_87 dX9_walkAt_22 (m_isBetween i 0 (((wSt σ (2 ^ n)).length : Int) - 1) hb (by omega) (by omega)) (hm := ⟨by omega, by omega⟩) (k := kP ?_) (kx := r_nox)
    refine r_dif_eq (tgt := 37) dX9_walkAt_25 (by decide) (kt := fun z25 => ?_) (kf := fun z25 => ?_)
    · refine r_aload_n dX9_walkAt_37 rfl ?_
      refine r_iconst dX9_walkAt_38 ?_
      refine r_callV (mi := iX9_walkAt) vX9_100 dX9_walkAt_39 hM.o (m_fails hM.o 3) (hm := ⟨by omega, by omega⟩) (k := kP ?_) (kx := r_nox)
      first
       | exact r_iret dX9_walkAt_42 (mr_of hP (by unfold opWalkAt; rw [if_neg (by omega), Int.toNat_natCast, Int.toNat_natCast, if_pos (by omega), z0]) (fun _ => rfl))
       | exact r_iret dX9_walkAt_42 (mr_of (mpf hP 3) (by unfold opWalkAt; rw [if_neg (by omega), Int.toNat_natCast, if_neg (by omega)]) (fun h => absurd h (by decide)))
    · obtain ⟨i, rfl⟩ := nat_of (a := i) (by omega)
      refine r_aload_n dX9_walkAt_28 rfl ?_
      refine r_getR qX9_78 dX9_walkAt_29 hM.o (hM.r 35) (kk := ?_)
      refine r_iload_n dX9_walkAt_32 rfl ?_
      refine r_iald dX9_walkAt_33 (hM.cc 35 11 128) rfl (hS3.2 i (by omega)) (k := ?_)
      refine r_goto (tgt := 42) dX9_walkAt_34 (by decide) ?_
      first
       | exact r_iret dX9_walkAt_42 (mr_of hP (by unfold opWalkAt; rw [if_neg (by omega), Int.toNat_natCast, Int.toNat_natCast, if_pos (by omega), z0]) (fun _ => rfl))
       | exact r_iret dX9_walkAt_42 (mr_of (mpf hP 3) (by unfold opWalkAt; rw [if_neg (by omega), Int.toNat_natCast, if_neg (by omega)]) (fun h => absurd h (by decide)))
  · refine r_iconst dX9_walkAt_8 ?_
    exact r_iret dX9_walkAt_9 (mr_of hP (by unfold opWalkAt; exact if_pos z5) (fun h => absurd h z5))
end MD8
