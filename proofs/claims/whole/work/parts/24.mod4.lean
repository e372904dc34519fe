/-! The reference: shortest ways. -/
section KP
variable {M M' M'' M0 : Mem} {Y : Nat → Nat} {σ : St} {fs ks fs' ks' : List Nat} {c : Nat}
/-- only these numbers and rows of the reference have changed -/
def Kp (Y : Nat → Nat) (fs ks : List Nat) (M M' : Mem) : Prop := mN M' = mN M ∧ mC M' = mC M ∧ (∀ b, b ≠ Y 0 → (∀ k ∈ ks, b ≠ Y k) → Sm M M' b) ∧ (∀ f, f ∉ fs → mI M' f (Y 0) = mI M f (Y 0)) ∧ (∀ f, mR M' f (Y 0) = mR M f (Y 0)) ∧ ∀ f, mJ M' f (Y 0) = mJ M f (Y 0)
theorem Kp.rf : Kp Y fs ks M M := ⟨rfl, rfl, fun _ _ _ => Sm.rf, fun _ _ => rfl, fun _ => rfl, fun _ => rfl⟩
theorem Kp.tr (h : Kp Y fs ks M M') (k : Kp Y fs ks M' M'') : Kp Y fs ks M M'' := ⟨k.1.trans h.1, k.2.1.trans h.2.1, fun b h1 h2 => (h.2.2.1 b h1 h2).tr (k.2.2.1 b h1 h2), fun f hf => (k.2.2.2.1 f hf).trans (h.2.2.2.1 f hf), fun f => (k.2.2.2.2.1 f).trans (h.2.2.2.2.1 f), fun f => (k.2.2.2.2.2 f).trans (h.2.2.2.2.2 f)⟩
theorem Kp.up (h : Kp Y fs ks M M') (h1 : ∀ f ∈ fs, f ∈ fs' := by decide) (h2 : ∀ k ∈ ks, k ∈ ks' := by decide) : Kp Y fs' ks' M M' := ⟨h.1, h.2.1, fun b g1 g2 => h.2.2.1 b g1 (fun k hk => g2 k (h2 k hk)), fun f hf => h.2.2.2.1 f (fun hh => hf (h1 f hh)), h.2.2.2.2⟩
theorem Kp.i {f : Nat} {x : Int32} (hf : f ∈ fs := by decide) : Kp Y fs ks M (sI M f (upd (mI M f) (Y 0) x)) := ⟨rfl, rfl, fun _ h1 _ => Sm.Iu h1, fun f' hf' => congrFun (mI_sIn _ _ _ _ (fun e => by subst e; exact hf' hf)) _, fun _ => rfl, fun _ => rfl⟩
theorem Kp.a {k : Nat} {K : Nat → Int32} (hk : k ∈ ks := by decide) : Kp Y fs ks M (sA M (Y k) K) := ⟨rfl, rfl, fun _ _ h2 => Sm.A (h2 k hk), fun _ _ => rfl, fun _ => rfl, fun _ => rfl⟩
theorem Kp.row (h : Kp Y fs ks M M') (hM : RM M Y σ) (k : Nat) (hk : k ∈ arK := by decide) (h1 : ∀ j ∈ ks, j ≠ k ∧ j ∈ arK := by decide) : mA M' (Y k) = mA M (Y k) := (h.2.2.1 (Y k) (hM.o_ne hk) (fun j hj => hM.ne (h1 j hj).1.symm hk (h1 j hj).2)).aa
theorem Kp.fld (h : Kp Y fs ks M M') (f : Nat) (hf : f ∉ fs := by decide) : mI M' f (Y 0) = mI M f (Y 0) := h.2.2.2.1 f hf
theorem Kp.rm (h : Kp Y fs ks M M') (hM : RM M Y σ) (hf : ∀ f ∈ fs, f < 591 ∨ 600 ≤ f := by decide) (hk : ∀ k ∈ ks, 15 ≤ k ∧ k ∈ arK := by decide) : RM M' Y σ := by
  refine ⟨by rw [h.2.1]; exact hM.o, fun k hk2 => ⟨(h.2.2.2.2.1 _).trans (hM.r k hk2), by rw [h.2.1]; exact hM.c k hk2⟩, hM.2.2.1, fun j hj => (h.fld _ (fun hh => by have := hf _ hh; omega)).trans (hM.s j hj), (h.2.2.2.2.2 _).trans hM.j, fun k h1 h2 i hi => ?_⟩
  rw [h.row hM k (arK_of k h1 h2) (fun j hj => ⟨by have := (hk j hj).1; omega, (hk j hj).2⟩)]
  exact hM.a k i hi h1 h2
theorem Kp.mp (h : Kp Y fs ks M M') (hP : MP Y M0 σ c M) (hf : ∀ f ∈ fs, (f < 591 ∨ 600 ≤ f) ∧ f ≠ 576 := by decide) (hk : ∀ k ∈ ks, 15 ≤ k ∧ k ∈ arK := by decide) : MP Y M0 σ c M' :=
  ⟨h.rm hP.1 (fun f hh => (hf f hh).1) hk, (h.fld _ (fun hh => (hf _ hh).2 rfl)).trans hP.2.1, hP.2.2.tr ⟨h.1, fun b h0 h1 => h.2.2.1 b h0 (fun k hh => h1 k (hk k hh).2)⟩⟩
end KP
section MD4
variable {G : GC} {M : Mem} {Y : Nat → Nat} {σ : St} {T : Nat} {Qf : List Frame → Array Value → State → State → Prop}
theorem mm_nat {a b : Int} {n m : Nat} (ha : a = (n : Int)) (hb : b = (m : Int)) : (if b < a then b else a) = ((min n m : Nat) : Int) := by
  subst ha; subst hb
  split <;> omega
/-- the reference's table up to x -/
def FarL (Y : Nat → Nat) (x : Nat) (F : Nat → Nat → Nat) (M : Mem) : Prop := ∀ i, i < x → mA M (Y 25) i = iz (F (i / 10) (i % 10) : Int)
theorem FarL.st {x : Nat} {F : Nat → Nat → Nat} {v : Int} (h : FarL Y x F M) (hv : v = (F (x / 10) (x % 10) : Int)) : FarL Y (x + 1) F (sA M (Y 25) (upd (mA M (Y 25)) x (iz v))) := by
  intro i hi
  rw [mA_sA]
  by_cases e : i = x
  · subst e; simp [upd, hv]
  · simp only [upd, if_neg e]; exact h i (by omega)
/-- the reference's table -/
def FarP (Y : Nat → Nat) (n : Nat) (F : Nat → Nat → Nat) (M : Mem) : Prop := ∀ a b, a < n → b < n → mA M (Y 25) (10 * a + b) = iz (F a b : Int)
theorem FarP.st {n a b : Nat} {F F' : Nat → Nat → Nat} {v : Int} (h : FarP Y n F M) (ha : a < 10) (hb : b < 10) (hn : n ≤ 10) (hv : v = (F' a b : Int)) (ho : ∀ a' b', a' < n → b' < n → ¬ (a' = a ∧ b' = b) → F' a' b' = F a' b') : FarP Y n F' (sA M (Y 25) (upd (mA M (Y 25)) (10 * a + b) (iz v))) := by
  intro a' b' ha' hb'
  rw [mA_sA]
  by_cases e : a' = a ∧ b' = b
  · obtain ⟨rfl, rfl⟩ := e; simp [upd, hv]
  · have : 10 * a' + b' ≠ 10 * a + b := fun h => e (by omega)
    simp only [upd, if_neg this]
    rw [ho a' b' ha' hb' e]; exact h a' b' ha' hb'
theorem FarP.mono {n m : Nat} {F F' : Nat → Nat → Nat} (h : FarP Y n F M) (hm : m ≤ n) (hF : ∀ a b, a < m → b < m → F a b = F' a b) : FarP Y m F' M := fun a b ha hb => by rw [← hF a b ha hb]; exact h a b (by omega) (by omega)
theorem meas1i (hM : RM M Y σ) (a : Nat) (ha : a < 10) (kk : ∀ M1, Kp Y [] [25] M M1 → FarL Y (10 * a + 10) bs M1 → SWG G iX9_measures (rmd 3 0 0) Qf 44 [(1, .int (iz (a : Int))), (0, .ref (Y 0))] [] M1 0 0) : ∀ (k b : Nat) (M1 : Mem), b + k = 10 → Kp Y [] [25] M M1 → FarL Y (10 * a + b) bs M1 → SWG G iX9_measures (rmd 3 0 0) Qf 10 [(2, .int (iz (b : Int))), (1, .int (iz (a : Int))), (0, .ref (Y 0))] [] M1 0 0 := by
  intro k
  induction k with
  | zero =>
    intro b M1 hb hK hF
    have hb2 : b = 10 := by omega
    subst hb2
    refine r_iload_n dX9_measures_10 rfl ?_
    refine r_bipush dX9_measures_11 (k := ?_)
    refine r_icmp_ge (tgt := 44) dX9_measures_13 (by decide) (kt := fun z13 => ?_) (kf := fun z13 => (by exfalso; first | omega | simp_all))
    exact r_loc' (kk M1 hK hF) ⟨rfl, rfl, trivial⟩
  | succ k ih =>
    intro b M1 hb hK hF
    have hM := hK.rm hM
    refine r_iload_n dX9_measures_10 rfl ?_
    refine r_bipush dX9_measures_11 (k := ?_)
    refine r_icmp_ge (tgt := 44) dX9_measures_13 (by decide) (kt := fun z13 => (by exfalso; first | omega | simp_all)) (kf := fun z13 => ?_)
    refine r_aload_n dX9_measures_16 rfl ?_
    refine r_getR qX9_60 dX9_measures_17 hM.o (hM.r 25) (kk := ?_)
    refine r_bipush dX9_measures_20 (k := ?_)
    refine r_iload_n dX9_measures_22 rfl ?_
    refine r_imul dX9_measures_23 ?_
    refine r_iload_n dX9_measures_24 rfl ?_
    refine r_iadd dX9_measures_25 ?_
    refine r_iload_n dX9_measures_26 rfl ?_
    refine r_iload_n dX9_measures_27 rfl ?_
    refine r_icmp_ne (tgt := 35) dX9_measures_28 (by decide) (kt := fun z28 => ?_) (kf := fun z28 => ?_)
    · refine r_ldc (n := 100000) kX9_136 dX9_measures_35 (k := ?_)
      refine r_iast dX9_measures_37 (hM.cc 25 11 100) (j := 10 * a + b) (by omega) (k := ?_)
      refine r_iinc dX9_measures_38 rfl (k := ?_)
      refine r_goto (tgt := 10) dX9_measures_41 (by decide) ?_
      refine r_loc' (ih (b + 1) _ (by omega) (hK.tr Kp.a) (hF.st ?_)) ⟨rfl, rfl, rfl, trivial⟩
      rw [show (10 * a + b) / 10 = a by omega, show (10 * a + b) % 10 = b by omega]
      unfold bs
      first
        | rw [if_pos (by omega)]; rfl
        | rw [if_neg (by omega)]; rfl
    · refine r_iconst dX9_measures_31 ?_
      refine r_goto (tgt := 37) dX9_measures_32 (by decide) ?_
      refine r_iast dX9_measures_37 (hM.cc 25 11 100) (j := 10 * a + b) (by omega) (k := ?_)
      refine r_iinc dX9_measures_38 rfl (k := ?_)
      refine r_goto (tgt := 10) dX9_measures_41 (by decide) ?_
      refine r_loc' (ih (b + 1) _ (by omega) (hK.tr Kp.a) (hF.st ?_)) ⟨rfl, rfl, rfl, trivial⟩
      rw [show (10 * a + b) / 10 = a by omega, show (10 * a + b) % 10 = b by omega]
      unfold bs
      first
        | rw [if_pos (by omega)]; rfl
        | rw [if_neg (by omega)]; rfl
theorem meas1 (hM : RM M Y σ) (kk : ∀ M1, Kp Y [] [25] M M1 → FarL Y 100 bs M1 → SWG G iX9_measures (rmd 3 0 0) Qf 50 [(0, .ref (Y 0))] [] M1 0 0) : ∀ (k a : Nat) (M1 : Mem), a + k = 10 → Kp Y [] [25] M M1 → FarL Y (10 * a) bs M1 → SWG G iX9_measures (rmd 3 0 0) Qf 2 [(1, .int (iz (a : Int))), (0, .ref (Y 0))] [] M1 0 0 := by
  intro k
  induction k with
  | zero =>
    intro a M1 ha hK hF
    have ha2 : a = 10 := by omega
    subst ha2
    refine r_iload_n dX9_measures_2 rfl ?_
    refine r_bipush dX9_measures_3 (k := ?_)
    refine r_icmp_ge (tgt := 50) dX9_measures_5 (by decide) (kt := fun z5 => ?_) (kf := fun z5 => (by exfalso; first | omega | simp_all))
    exact r_loc' (kk M1 hK hF) ⟨rfl, trivial⟩
  | succ k ih =>
    intro a M1 ha hK hF
    have hM := hK.rm hM
    refine r_iload_n dX9_measures_2 rfl ?_
    refine r_bipush dX9_measures_3 (k := ?_)
    refine r_icmp_ge (tgt := 50) dX9_measures_5 (by decide) (kt := fun z5 => (by exfalso; first | omega | simp_all)) (kf := fun z5 => ?_)
    refine r_iconst dX9_measures_8 ?_
    refine r_istore_n dX9_measures_9 (k := ?_)
    refine r_loc' (meas1i hM a (by omega) (fun M2 hK2 hF2 => ?_) 10 0 M1 (by omega) Kp.rf hF) ⟨rfl, rfl, rfl, trivial⟩
    refine r_iinc dX9_measures_44 rfl (k := ?_)
    refine r_goto (tgt := 2) dX9_measures_47 (by decide) ?_
    exact r_loc' (ih (a + 1) M2 (by omega) (hK.tr hK2) (by rw [show 10 * (a + 1) = 10 * a + 10 by omega]; exact hF2)) ⟨rfl, rfl, trivial⟩
theorem meas2 (hM : RM M Y σ) (hO : Ok σ T) (kk : ∀ M1, Kp Y [] [25] M M1 → FarP Y 10 (eg σ (σ.1 1)) M1 → SWG G iX9_measures (rmd 3 0 0) Qf 133 [(0, .ref (Y 0))] [] M1 0 0) : ∀ (k s : Nat) (M1 : Mem), s + k = σ.1 1 → Kp Y [] [25] M M1 → FarP Y 10 (eg σ s) M1 → SWG G iX9_measures (rmd 3 0 0) Qf 52 [(1, .int (iz (s : Int))), (0, .ref (Y 0))] [] M1 0 0 := by
  obtain ⟨⟨p1, p2, p3, -⟩, hS, -⟩ := id hO
  intro k
  induction k with
  | zero =>
    intro s M1 hs hK hF
    have hs2 : s = σ.1 1 := by omega
    subst hs2
    have hM := hK.rm hM
    refine r_iload_n dX9_measures_52 rfl ?_
    refine r_aload_n dX9_measures_53 rfl ?_
    refine r_getI qX9_84 dX9_measures_54 hM.o (x := iz (σ.1 1 : Int)) (hM.s 1) (kk := ?_)
    refine r_icmp_ge (tgt := 133) dX9_measures_57 (by decide) (kt := fun z57 => ?_) (kf := fun z57 => (by exfalso; first | omega | simp_all))
    exact r_loc' (kk M1 hK hF) ⟨rfl, trivial⟩
  | succ k ih =>
    intro s M1 hs hK hF
    have hM := hK.rm hM
    have hs3 : s < σ.1 1 := by omega
    obtain ⟨s1, s2, s3, s4, s5, s6, s7⟩ := hS s hs3
    have hl := eg_le (σ := σ) s (σ.2 1 s) (σ.2 2 s)
    refine r_iload_n dX9_measures_52 rfl ?_
    refine r_aload_n dX9_measures_53 rfl ?_
    refine r_getI qX9_84 dX9_measures_54 hM.o (x := iz (σ.1 1 : Int)) (hM.s 1) (kk := ?_)
    refine r_icmp_ge (tgt := 133) dX9_measures_57 (by decide) (kt := fun z57 => (by exfalso; first | omega | simp_all)) (kf := fun z57 => ?_)
    refine r_bipush dX9_measures_60 (k := ?_)
    refine r_aload_n dX9_measures_62 rfl ?_
    refine r_getR qX9_9 dX9_measures_63 hM.o (hM.r 1) (kk := ?_)
    refine r_iload_n dX9_measures_66 rfl ?_
    refine r_iald dX9_measures_67 (hM.cc 1 11 16) rfl (hM.v 1 _ (hs3)) (k := ?_)
    refine r_imul dX9_measures_68 ?_
    refine r_aload_n dX9_measures_69 rfl ?_
    refine r_getR qX9_13 dX9_measures_70 hM.o (hM.r 2) (kk := ?_)
    refine r_iload_n dX9_measures_73 rfl ?_
    refine r_iald dX9_measures_74 (hM.cc 2 11 16) rfl (hM.v 2 _ (hs3)) (k := ?_)
    refine r_iadd dX9_measures_75 ?_
    refine r_istore_n dX9_measures_76 (k := ?_)
    refine r_bipush dX9_measures_77 (k := ?_)
    refine r_aload_n dX9_measures_79 rfl ?_
    refine r_getR qX9_13 dX9_measures_80 hM.o (hM.r 2) (kk := ?_)
    refine r_iload_n dX9_measures_83 rfl ?_
    refine r_iald dX9_measures_84 (hM.cc 2 11 16) rfl (hM.v 2 _ (hs3)) (k := ?_)
    refine r_imul dX9_measures_85 ?_
    refine r_aload_n dX9_measures_86 rfl ?_
    refine r_getR qX9_9 dX9_measures_87 hM.o (hM.r 1) (kk := ?_)
    refine r_iload_n dX9_measures_90 rfl ?_
    refine r_iald dX9_measures_91 (hM.cc 1 11 16) rfl (hM.v 1 _ (hs3)) (k := ?_)
    refine r_iadd dX9_measures_92 ?_
    refine r_istore_n dX9_measures_93 (k := ?_)
    refine r_aload_n dX9_measures_94 rfl ?_
    refine r_getR qX9_60 dX9_measures_95 hM.o (hM.r 25) (kk := ?_)
    refine r_iload_n dX9_measures_98 rfl ?_
    refine r_aload_n dX9_measures_99 rfl ?_
    refine r_getR qX9_60 dX9_measures_100 hM.o (hM.r 25) (kk := ?_)
    refine r_iload_n dX9_measures_103 rfl ?_
    refine r_iald dX9_measures_104 (hM.cc 25 11 100) (j := 10 * σ.2 1 s + σ.2 2 s) (by omega) (hF (σ.2 1 s) (σ.2 2 s) (by omega) (by omega)) (k := ?_)
    refine r_aload_n dX9_measures_105 rfl ?_
    refine r_getR qX9_16 dX9_measures_106 hM.o (hM.r 3) (kk := ?_)
    refine r_iload_n dX9_measures_109 rfl ?_
    refine r_iald dX9_measures_110 (hM.cc 3 11 16) rfl (hM.v 3 _ (hs3)) (k := ?_)
    refine r_mmin vX9_137 dX9_measures_111 (hc := mm_nat rfl rfl) (k := ?_)
    refine r_iast dX9_measures_114 (hM.cc 25 11 100) (j := 10 * σ.2 1 s + σ.2 2 s) (by omega) (k := ?_)
    refine gm (P := fun M2 => Kp Y [] [25] M1 M2 ∧ FarP Y 10 (fun a b => if a = σ.2 1 s ∧ b = σ.2 2 s then min (eg σ s (σ.2 1 s) (σ.2 2 s)) (σ.2 3 s) else eg σ s a b) M2) ⟨Kp.a, hF.st (by omega) (by omega) (by omega) (congrArg Nat.cast (if_pos ⟨rfl, rfl⟩).symm) (fun a' b' _ _ h => if_neg h)⟩ (fun M2 hP2 => ?_)
    obtain ⟨hK2, hF2⟩ := hP2
    have hM := hK2.rm hM
    refine r_aload_n dX9_measures_115 rfl ?_
    refine r_getR qX9_60 dX9_measures_116 hM.o (hM.r 25) (kk := ?_)
    refine r_iload_n dX9_measures_119 rfl ?_
    refine r_aload_n dX9_measures_120 rfl ?_
    refine r_getR qX9_60 dX9_measures_121 hM.o (hM.r 25) (kk := ?_)
    refine r_iload_n dX9_measures_124 rfl ?_
    refine r_iald dX9_measures_125 (hM.cc 25 11 100) (j := 10 * σ.2 1 s + σ.2 2 s) (by omega) (v := iz ((min (eg σ s (σ.2 1 s) (σ.2 2 s)) (σ.2 3 s) : Nat) : Int)) ((hF2 (σ.2 1 s) (σ.2 2 s) (by omega) (by omega)).trans (congrArg (fun n : Nat => iz (n : Int)) (if_pos ⟨rfl, rfl⟩))) (k := ?_)
    refine r_iast dX9_measures_126 (hM.cc 25 11 100) (j := 10 * σ.2 2 s + σ.2 1 s) (by omega) (k := ?_)
    refine r_iinc dX9_measures_127 rfl (k := ?_)
    refine r_goto (tgt := 52) dX9_measures_130 (by decide) ?_
    refine r_loc' (ih (s + 1) _ (by omega) ((hK.tr hK2).tr Kp.a) (hF2.st (by omega) (by omega) (by omega) ?_ (fun a' b' _ _ h => ?_))) ⟨rfl, rfl, trivial⟩
    · exact congrArg Nat.cast (if_pos (Or.inr ⟨rfl, rfl⟩)).symm
    · show (if _ then _ else _) = (if _ then _ else _)
      by_cases e : a' = σ.2 1 s ∧ b' = σ.2 2 s
      · rw [if_pos e, if_pos (Or.inl e)]
      · rw [if_neg e, if_neg (by omega)]
/-- in the middle of a turn -/
def fwm (σ : St) (c a b : Nat) (x y : Nat) : Nat := if x < a ∨ (x = a ∧ y < b) then fw σ (c + 1) x y else fw σ c x y
theorem fwm_c1 (hS : StOk σ) (c a b x : Nat) : fwm σ c a b x c = fw σ c x c := by unfold fwm; split <;> first | exact fw_c1 hS c x | rfl
theorem fwm_c2 (hS : StOk σ) (c a b y : Nat) : fwm σ c a b c y = fw σ c c y := by unfold fwm; split <;> first | exact fw_c2 hS c y | rfl
theorem meas3b (hM : RM M Y σ) (hO : Ok σ T) (c a : Nat) (hc : c < σ.1 0) (ha : a < σ.1 0) (kk : ∀ M1, Kp Y [] [25] M M1 → FarP Y (σ.1 0) (fwm σ c (a + 1) 0) M1 → SWG G iX9_measures (rmd 3 0 0) Qf 217 [(2, .int (iz (a : Int))), (1, .int (iz (c : Int))), (0, .ref (Y 0))] [] M1 0 0) : ∀ (k b : Nat) (M1 : Mem), b + k = σ.1 0 → Kp Y [] [25] M M1 → FarP Y (σ.1 0) (fwm σ c a b) M1 → SWG G iX9_measures (rmd 3 0 0) Qf 155 [(3, .int (iz (b : Int))), (2, .int (iz (a : Int))), (1, .int (iz (c : Int))), (0, .ref (Y 0))] [] M1 0 0 := by
  have hS := hO.st
  obtain ⟨⟨p1, p2, p3, -⟩, -⟩ := id hO
  intro k
  induction k with
  | zero =>
    intro b M1 hb hK hF
    have hb2 : b = σ.1 0 := by omega
    subst hb2
    have hM := hK.rm hM
    refine r_iload_n dX9_measures_155 rfl ?_
    refine r_aload_n dX9_measures_156 rfl ?_
    refine r_getI qX9_53 dX9_measures_157 hM.o (x := iz (σ.1 0 : Int)) (hM.s 0) (kk := ?_)
    refine r_icmp_ge (tgt := 217) dX9_measures_160 (by decide) (kt := fun z160 => ?_) (kf := fun z160 => (by exfalso; first | omega | simp_all))
    exact r_loc' (kk M1 hK (hF.mono (Nat.le_refl _) (fun x y hx hy => by unfold fwm; by_cases e : x < a ∨ (x = a ∧ y < σ.1 0); rw [if_pos e, if_pos (by omega)]; rw [if_neg e, if_neg (by omega)]))) ⟨rfl, rfl, rfl, trivial⟩
  | succ k ih =>
    intro b M1 hb hK hF
    have hM := hK.rm hM
    have e1 := hF a b ha (by omega)
    have e2 := hF a c ha hc
    have e3 := hF c b hc (by omega)
    rw [show fwm σ c a b a b = fw σ c a b by unfold fwm; rw [if_neg (by omega)]] at e1
    rw [fwm_c1 hS] at e2
    rw [fwm_c2 hS] at e3
    have l1 := fw_le (σ := σ) c a b
    have l2 := fw_le (σ := σ) c a c
    have l3 := fw_le (σ := σ) c c b
    refine r_iload_n dX9_measures_155 rfl ?_
    refine r_aload_n dX9_measures_156 rfl ?_
    refine r_getI qX9_53 dX9_measures_157 hM.o (x := iz (σ.1 0 : Int)) (hM.s 0) (kk := ?_)
    refine r_icmp_ge (tgt := 217) dX9_measures_160 (by decide) (kt := fun z160 => (by exfalso; first | omega | simp_all)) (kf := fun z160 => ?_)
    refine r_aload_n dX9_measures_163 rfl ?_
    refine r_getR qX9_60 dX9_measures_164 hM.o (hM.r 25) (kk := ?_)
    refine r_bipush dX9_measures_167 (k := ?_)
    refine r_iload_n dX9_measures_169 rfl ?_
    refine r_imul dX9_measures_170 ?_
    refine r_iload_n dX9_measures_171 rfl ?_
    refine r_iadd dX9_measures_172 ?_
    refine r_aload_n dX9_measures_173 rfl ?_
    refine r_getR qX9_60 dX9_measures_174 hM.o (hM.r 25) (kk := ?_)
    refine r_bipush dX9_measures_177 (k := ?_)
    refine r_iload_n dX9_measures_179 rfl ?_
    refine r_imul dX9_measures_180 ?_
    refine r_iload_n dX9_measures_181 rfl ?_
    refine r_iadd dX9_measures_182 ?_
    refine r_iald dX9_measures_183 (hM.cc 25 11 100) (j := 10 * a + b) (by omega) e1 (k := ?_)
    refine r_aload_n dX9_measures_184 rfl ?_
    refine r_getR qX9_60 dX9_measures_185 hM.o (hM.r 25) (kk := ?_)
    refine r_bipush dX9_measures_188 (k := ?_)
    refine r_iload_n dX9_measures_190 rfl ?_
    refine r_imul dX9_measures_191 ?_
    refine r_iload_n dX9_measures_192 rfl ?_
    refine r_iadd dX9_measures_193 ?_
    refine r_iald dX9_measures_194 (hM.cc 25 11 100) (j := 10 * a + c) (by omega) e2 (k := ?_)
    refine r_aload_n dX9_measures_195 rfl ?_
    refine r_getR qX9_60 dX9_measures_196 hM.o (hM.r 25) (kk := ?_)
    refine r_bipush dX9_measures_199 (k := ?_)
    refine r_iload_n dX9_measures_201 rfl ?_
    refine r_imul dX9_measures_202 ?_
    refine r_iload_n dX9_measures_203 rfl ?_
    refine r_iadd dX9_measures_204 ?_
    refine r_iald dX9_measures_205 (hM.cc 25 11 100) (j := 10 * c + b) (by omega) e3 (k := ?_)
    refine r_iadd dX9_measures_206 ?_
    refine r_mmin vX9_137 dX9_measures_207 (hc := mm_nat (n := fw σ c a b) (m := fw σ c a c + fw σ c c b) rfl (by omega)) (k := ?_)
    refine r_iast dX9_measures_210 (hM.cc 25 11 100) (j := 10 * a + b) (by omega) (k := ?_)
    refine r_iinc dX9_measures_211 rfl (k := ?_)
    refine r_goto (tgt := 155) dX9_measures_214 (by decide) ?_
    refine r_loc' (ih (b + 1) _ (by omega) (hK.tr Kp.a) (hF.st (by omega) (by omega) p2 ?_ (fun x y _ _ h => ?_))) ⟨rfl, rfl, rfl, rfl, trivial⟩
    · unfold fwm; rw [if_pos (by omega)]; rfl
    · unfold fwm
      by_cases e : x < a ∨ (x = a ∧ y < b)
      · rw [if_pos e, if_pos (by omega)]
      · rw [if_neg e, if_neg (by omega)]
theorem meas3a (hM : RM M Y σ) (hO : Ok σ T) (c : Nat) (hc : c < σ.1 0) (kk : ∀ M1, Kp Y [] [25] M M1 → FarP Y (σ.1 0) (fw σ (c + 1)) M1 → SWG G iX9_measures (rmd 3 0 0) Qf 223 [(1, .int (iz (c : Int))), (0, .ref (Y 0))] [] M1 0 0) : ∀ (k a : Nat) (M1 : Mem), a + k = σ.1 0 → Kp Y [] [25] M M1 → FarP Y (σ.1 0) (fwm σ c a 0) M1 → SWG G iX9_measures (rmd 3 0 0) Qf 145 [(2, .int (iz (a : Int))), (1, .int (iz (c : Int))), (0, .ref (Y 0))] [] M1 0 0 := by
  obtain ⟨⟨p1, p2, p3, -⟩, -⟩ := id hO
  intro k
  induction k with
  | zero =>
    intro a M1 ha hK hF
    have ha2 : a = σ.1 0 := by omega
    subst ha2
    have hM := hK.rm hM
    refine r_iload_n dX9_measures_145 rfl ?_
    refine r_aload_n dX9_measures_146 rfl ?_
    refine r_getI qX9_53 dX9_measures_147 hM.o (x := iz (σ.1 0 : Int)) (hM.s 0) (kk := ?_)
    refine r_icmp_ge (tgt := 223) dX9_measures_150 (by decide) (kt := fun z150 => ?_) (kf := fun z150 => (by exfalso; first | omega | simp_all))
    exact r_loc' (kk M1 hK (hF.mono (Nat.le_refl _) (fun x y hx hy => by unfold fwm; rw [if_pos (by omega)]))) ⟨rfl, rfl, trivial⟩
  | succ k ih =>
    intro a M1 ha hK hF
    have hM := hK.rm hM
    refine r_iload_n dX9_measures_145 rfl ?_
    refine r_aload_n dX9_measures_146 rfl ?_
    refine r_getI qX9_53 dX9_measures_147 hM.o (x := iz (σ.1 0 : Int)) (hM.s 0) (kk := ?_)
    refine r_icmp_ge (tgt := 223) dX9_measures_150 (by decide) (kt := fun z150 => (by exfalso; first | omega | simp_all)) (kf := fun z150 => ?_)
    refine r_iconst dX9_measures_153 ?_
    refine r_istore_n dX9_measures_154 (k := ?_)
    refine r_loc' (meas3b hM hO c a hc (by omega) (fun M2 hK2 hF2 => ?_) (σ.1 0) 0 M1 (by omega) Kp.rf hF) ⟨rfl, rfl, rfl, rfl, trivial⟩
    refine r_iinc dX9_measures_217 rfl (k := ?_)
    refine r_goto (tgt := 145) dX9_measures_220 (by decide) ?_
    exact r_loc' (ih (a + 1) M2 (by omega) (hK.tr hK2) hF2) ⟨rfl, rfl, rfl, trivial⟩
theorem meas3 (hM : RM M Y σ) (hO : Ok σ T) (kk : ∀ M1, Kp Y [] [25] M M1 → FarP Y (σ.1 0) (dst σ) M1 → SWG G iX9_measures (rmd 3 0 0) Qf 229 [(0, .ref (Y 0))] [] M1 0 0) : ∀ (k c : Nat) (M1 : Mem), c + k = σ.1 0 → Kp Y [] [25] M M1 → FarP Y (σ.1 0) (fw σ c) M1 → SWG G iX9_measures (rmd 3 0 0) Qf 135 [(1, .int (iz (c : Int))), (0, .ref (Y 0))] [] M1 0 0 := by
  obtain ⟨⟨p1, p2, p3, -⟩, -⟩ := id hO
  intro k
  induction k with
  | zero =>
    intro c M1 hc hK hF
    have hc2 : c = σ.1 0 := by omega
    subst hc2
    have hM := hK.rm hM
    refine r_iload_n dX9_measures_135 rfl ?_
    refine r_aload_n dX9_measures_136 rfl ?_
    refine r_getI qX9_53 dX9_measures_137 hM.o (x := iz (σ.1 0 : Int)) (hM.s 0) (kk := ?_)
    refine r_icmp_ge (tgt := 229) dX9_measures_140 (by decide) (kt := fun z140 => ?_) (kf := fun z140 => (by exfalso; first | omega | simp_all))
    exact r_loc' (kk M1 hK hF) ⟨rfl, trivial⟩
  | succ k ih =>
    intro c M1 hc hK hF
    have hM := hK.rm hM
    refine r_iload_n dX9_measures_135 rfl ?_
    refine r_aload_n dX9_measures_136 rfl ?_
    refine r_getI qX9_53 dX9_measures_137 hM.o (x := iz (σ.1 0 : Int)) (hM.s 0) (kk := ?_)
    refine r_icmp_ge (tgt := 229) dX9_measures_140 (by decide) (kt := fun z140 => (by exfalso; first | omega | simp_all)) (kf := fun z140 => ?_)
    refine r_iconst dX9_measures_143 ?_
    refine r_istore_n dX9_measures_144 (k := ?_)
    refine r_loc' (meas3a hM hO c (by omega) (fun M2 hK2 hF2 => ?_) (σ.1 0) 0 M1 (by omega) Kp.rf (hF.mono (Nat.le_refl _) (fun x y hx hy => by unfold fwm; rw [if_neg (by omega)]))) ⟨rfl, rfl, rfl, trivial⟩
    refine r_iinc dX9_measures_223 rfl (k := ?_)
    refine r_goto (tgt := 135) dX9_measures_226 (by decide) ?_
    exact r_loc' (ih (c + 1) M2 (by omega) (hK.tr hK2) hF2) ⟨rfl, rfl, trivial⟩
theorem m_measures (hM : RM M Y σ) (hO : Ok σ T) : Ht G iX9_measures yX9_measures 3 [.ref (Y 0)] M (rV fun M' => Kp Y [] [25] M M' ∧ FarP Y (σ.1 0) (dst σ) M') nX 0 0 := by
  have hp := hO.1.2.1
  refine ht_intro (by decide +kernel) rfl rfl rfl (Nat.le_of_ble_eq_true rfl) ?_
  refine r_iconst dX9_measures_0 ?_
  refine r_istore_n dX9_measures_1 (k := ?_)
  refine r_loc' (meas1 hM (fun M1 hK1 hF1 => ?_) 10 0 M (by omega) Kp.rf (fun i hi => absurd hi (by omega))) ⟨rfl, rfl, trivial⟩
  refine r_iconst dX9_measures_50 ?_
  refine r_istore_n dX9_measures_51 (k := ?_)
  refine r_loc' (meas2 hM hO (fun M2 hK2 hF2 => ?_) (σ.1 1) 0 M1 (by omega) hK1 (fun a b ha hb => by rw [hF1 _ (by omega), show (10 * a + b) / 10 = a by omega, show (10 * a + b) % 10 = b by omega]; rfl)) ⟨rfl, rfl, trivial⟩
  refine r_iconst dX9_measures_133 ?_
  refine r_istore_n dX9_measures_134 (k := ?_)
  refine r_loc' (meas3 hM hO (fun M3 hK3 hF3 => ?_) (σ.1 0) 0 M2 (by omega) hK2 (hF2.mono hp (fun _ _ _ _ => rfl))) ⟨rfl, rfl, trivial⟩
  exact r_vret dX9_measures_229 (⟨rfl, hK3, hF3⟩)
def opDistance (σ : St) (a b : Int) : Rs := if ¬ bt2 a 0 (σ.1 0 - 1) ∨ ¬ bt2 b 0 (σ.1 0 - 1) then (σ, 1, 0) else (σ, 0, if dst σ a.toNat b.toNat < 100000 then dst σ a.toNat b.toNat else -1)
theorem m_distance (hM : RM M Y σ) (hO : Ok σ T) (a b : Int) (ha : inR a) (hb : inR b) : Ht G iX9_distance yX9_distance 10 [.ref (Y 0), .int (iz a), .int (iz b)] M (MR Y M (opDistance σ a b)) nX 0 0 := by
  obtain ⟨⟨p1, p2, p3, -⟩, -⟩ := id hO
  refine ht_intro (by decide +kernel) rfl rfl rfl (Nat.le_of_ble_eq_true rfl) ?_
  refine r_aload_n dX9_distance_0 rfl ?_
  refine r_iconst dX9_distance_1 ?_
  refine r_putI qX9_81 dX9_distance_2 hM.o (kk := ?_)
  refine gm (P := MP Y M σ 0) (mp0 hM) (fun M1 hP => ?_)
  have hM := hP.1
  refine r_aload_n dX9_distance_5 rfl ?_
  refine r_iload_n dX9_distance_6 rfl ?_
  refine r_callV (mi := iX9_distance) vX9_104 dX9_distance_7 hM.o (m_isPlace hM (by omega) a ha) (hm := ⟨by omega, by omega⟩) (k := kP ?_) (kx := r_nox)
  refine r_dif_eq (tgt := 21) dX9_distance_10 (by decide) (kt := fun z10 => ?_) (kf := fun z10 => ?_)
  · refine r_aload_n dX9_distance_21 rfl ?_
    refine r_iconst dX9_distance_22 ?_
    refine r_callV (mi := iX9_distance) vX9_100 dX9_distance_23 hM.o (m_fails hM.o 1) (hm := ⟨by omega, by omega⟩) (k := kP ?_) (kx := r_nox)
    exact r_iret dX9_distance_26 (mr_of (mpf hP 1) (by unfold opDistance; repeat (first | rw [if_pos (by omega)] | rw [if_neg (by omega)])) (fun h => absurd h (by decide)))
  · refine r_aload_n dX9_distance_13 rfl ?_
    refine r_iload_n dX9_distance_14 rfl ?_
    refine r_callV (mi := iX9_distance) vX9_104 dX9_distance_15 hM.o (m_isPlace hM (by omega) b hb) (hm := ⟨by omega, by omega⟩) (k := kP ?_) (kx := r_nox)
    refine r_dif_ne (tgt := 27) dX9_distance_18 (by decide) (kt := fun z18 => ?_) (kf := fun z18 => ?_)
    · obtain ⟨a, rfl⟩ := nat_of (a := a) (by omega)
      obtain ⟨b, rfl⟩ := nat_of (a := b) (by omega)
      have hl := dst_le (σ := σ) a b
      refine r_aload_n dX9_distance_27 rfl ?_
      refine r_callV (mi := iX9_distance) vX9_143 dX9_distance_28 hM.o (m_measures hM hO) (hm := ⟨by omega, by omega⟩) (k := kV (fun M2 hP2 => ?_)) (kx := r_nox)
      obtain ⟨hK, hF⟩ := hP2
      have hP := hK.mp hP
      have hM := hP.1
      refine r_aload_n dX9_distance_31 rfl ?_
      refine r_getR qX9_60 dX9_distance_32 hM.o (hM.r 25) (kk := ?_)
      refine r_bipush dX9_distance_35 (k := ?_)
      refine r_iload_n dX9_distance_37 rfl ?_
      refine r_imul dX9_distance_38 ?_
      refine r_iload_n dX9_distance_39 rfl ?_
      refine r_iadd dX9_distance_40 ?_
      refine r_iald dX9_distance_41 (hM.cc 25 11 100) (j := 10 * a + b) (by omega) (hF a b (by omega) (by omega)) (k := ?_)
      refine r_ldc (n := 100000) kX9_136 dX9_distance_42 (k := ?_)
      refine r_icmp_ge (tgt := 61) dX9_distance_44 (by decide) (kt := fun z44 => ?_) (kf := fun z44 => ?_)
      · refine r_iconst dX9_distance_61 ?_
        first
         | exact r_iret dX9_distance_62 (mr_of hP (by unfold opDistance; exact if_neg (by omega)) (fun _ => by rw [Int.toNat_natCast, Int.toNat_natCast]; rw [if_pos (by omega)]))
         | exact r_iret dX9_distance_62 (mr_of hP (by unfold opDistance; exact if_neg (by omega)) (fun _ => by rw [Int.toNat_natCast, Int.toNat_natCast]; rw [if_neg (by omega)]))
      · refine r_aload_n dX9_distance_47 rfl ?_
        refine r_getR qX9_60 dX9_distance_48 hM.o (hM.r 25) (kk := ?_)
        refine r_bipush dX9_distance_51 (k := ?_)
        refine r_iload_n dX9_distance_53 rfl ?_
        refine r_imul dX9_distance_54 ?_
        refine r_iload_n dX9_distance_55 rfl ?_
        refine r_iadd dX9_distance_56 ?_
        refine r_iald dX9_distance_57 (hM.cc 25 11 100) (j := 10 * a + b) (by omega) (hF a b (by omega) (by omega)) (k := ?_)
        refine r_goto (tgt := 62) dX9_distance_58 (by decide) ?_
        first
         | exact r_iret dX9_distance_62 (mr_of hP (by unfold opDistance; exact if_neg (by omega)) (fun _ => by rw [Int.toNat_natCast, Int.toNat_natCast]; rw [if_pos (by omega)]))
         | exact r_iret dX9_distance_62 (mr_of hP (by unfold opDistance; exact if_neg (by omega)) (fun _ => by rw [Int.toNat_natCast, Int.toNat_natCast]; rw [if_neg (by omega)]))
    · refine r_aload_n dX9_distance_21 rfl ?_
      refine r_iconst dX9_distance_22 ?_
      refine r_callV (mi := iX9_distance) vX9_100 dX9_distance_23 hM.o (m_fails hM.o 1) (hm := ⟨by omega, by omega⟩) (k := kP ?_) (kx := r_nox)
      exact r_iret dX9_distance_26 (mr_of (mpf hP 1) (by unfold opDistance; repeat (first | rw [if_pos (by omega)] | rw [if_neg (by omega)])) (fun h => absurd h (by decide)))
theorem m_distanceByRounds (hM : RM M Y σ) (hO : Ok σ T) (a b : Int) (ha : inR a) (hb : inR b) : Ht G iX9_distanceByRounds yX9_distanceByRounds 11 [.ref (Y 0), .int (iz a), .int (iz b)] M (MR Y M (opDistance σ a b)) nX 0 0 := by
  refine ht_intro (by decide +kernel) rfl rfl rfl (Nat.le_of_ble_eq_true rfl) ?_
  refine r_aload_n dX9_distanceByRounds_0 rfl ?_
  refine r_iload_n dX9_distanceByRounds_1 rfl ?_
  refine r_iload_n dX9_distanceByRounds_2 rfl ?_
  refine r_callV (mi := iX9_distanceByRounds) vX9_146 dX9_distanceByRounds_3 hM.o (m_distance hM hO a b ha hb) (hm := ⟨by omega, by omega⟩) (k := kI (fun r M' hP => ?_)) (kx := r_nox)
  exact r_iret dX9_distanceByRounds_6 (⟨_, rfl, hP⟩)
end MD4
