/-! The reference: walks. -/
section TRACE
variable {σ : St} {g : Nat}
theorem bm_yes {V : Nat → Nat → Nat} {C : Nat → Nat × Nat} {S p k : Nat} (h1 : S.testBit (C k).2 = false) (h2 : cost σ V S p (C k) < (bm σ V C S p k).1) : bm σ V C S p (k + 1) = (cost σ V S p (C k), (k : Int)) := if_pos ⟨h1, h2⟩
theorem bm_no {V : Nat → Nat → Nat} {C : Nat → Nat × Nat} {S p k : Nat} (h : S.testBit (C k).2 = true ∨ ¬ cost σ V S p (C k) < (bm σ V C S p k).1) : bm σ V C S p (k + 1) = bm σ V C S p k := if_neg (fun hh => by
  rcases h with h | h
  · rw [h] at hh; exact nomatch hh.1
  · exact h hh.2)
theorem pc_up : ∀ n : Nat, n < 9 → ∀ S : Nat, S < 2 ^ n → ∀ u : Nat, u < n → S.testBit u = false → cnt (fun v => (S ||| 2 ^ u).testBit v) n = cnt (fun v => S.testBit v) n + 1 := by decide +kernel
theorem pc_all : ∀ n : Nat, n < 9 → cnt (fun v => (2 ^ n - 1).testBit v) n = n := by decide +kernel
theorem pc_0 : ∀ n : Nat, n < 9 → cnt (fun v => (0 : Nat).testBit v) n = 0 := by decide +kernel
/-- what is passed on the first k passes and on the ways to them -/
def wS (σ : St) (g : Nat) : Nat → Nat
  | 0 => 0
  | k + 1 => wS σ g k + (dst σ (tr σ g k).2 (fr σ (wP σ g k)) + ln σ (wP σ g k))
theorem hW_iff : hW σ g = true ↔ uN σ g ≤ 8 ∧ wL σ g < 100000 := by
  unfold hW; rw [Bool.and_eq_true, decide_eq_true_eq, decide_eq_true_eq]
theorem tr_ok (hS : StOk σ) (hp : 1 ≤ σ.1 0) (hW1 : hW σ g = true) : ∀ k, k ≤ uN σ g → (tr σ g k).1 ≤ 2 ^ uN σ g - 1 ∧ cnt (fun v => (tr σ g k).1.testBit v) (uN σ g) = k ∧ (tr σ g k).2 < σ.1 0 ∧ wS σ g k + gV σ g (tr σ g k).1 (tr σ g k).2 = wL σ g ∧
    (k < uN σ g → (tr σ g k).1 < 2 ^ uN σ g - 1 ∧ bC σ g (tr σ g k).1 (tr σ g k).2 < cM σ g ∧ (bm σ (gV σ g) (cC σ g) (tr σ g k).1 (tr σ g k).2 (cM σ g)).2 = (bC σ g (tr σ g k).1 (tr σ g k).2 : Int) ∧ (tr σ g k).1.testBit (cC σ g (bC σ g (tr σ g k).1 (tr σ g k).2)).2 = false ∧ gV σ g (tr σ g k).1 (tr σ g k).2 = cost σ (gV σ g) (tr σ g k).1 (tr σ g k).2 (cC σ g (bC σ g (tr σ g k).1 (tr σ g k).2)) ∧
      ∀ j, j < bC σ g (tr σ g k).1 (tr σ g k).2 → (tr σ g k).1.testBit (cC σ g j).2 = false → gV σ g (tr σ g k).1 (tr σ g k).2 < cost σ (gV σ g) (tr σ g k).1 (tr σ g k).2 (cC σ g j)) := by
  obtain ⟨hn, hl⟩ := hW_iff.mp hW1
  have post : ∀ k, k < uN σ g → (tr σ g k).1 ≤ 2 ^ uN σ g - 1 → cnt (fun v => (tr σ g k).1.testBit v) (uN σ g) = k → gV σ g (tr σ g k).1 (tr σ g k).2 < 100000 → (tr σ g k).1 < 2 ^ uN σ g - 1 ∧ bC σ g (tr σ g k).1 (tr σ g k).2 < cM σ g ∧ (bm σ (gV σ g) (cC σ g) (tr σ g k).1 (tr σ g k).2 (cM σ g)).2 = (bC σ g (tr σ g k).1 (tr σ g k).2 : Int) ∧ (tr σ g k).1.testBit (cC σ g (bC σ g (tr σ g k).1 (tr σ g k).2)).2 = false ∧ gV σ g (tr σ g k).1 (tr σ g k).2 = cost σ (gV σ g) (tr σ g k).1 (tr σ g k).2 (cC σ g (bC σ g (tr σ g k).1 (tr σ g k).2)) ∧
      ∀ j, j < bC σ g (tr σ g k).1 (tr σ g k).2 → (tr σ g k).1.testBit (cC σ g j).2 = false → gV σ g (tr σ g k).1 (tr σ g k).2 < cost σ (gV σ g) (tr σ g k).1 (tr σ g k).2 (cC σ g j) := by
    intro k hk h1 h2 h3
    have h4 : (tr σ g k).1 < 2 ^ uN σ g - 1 := by
      rcases Nat.lt_or_ge (tr σ g k).1 (2 ^ uN σ g - 1) with h | h
      · exact h
      · exfalso
        have e : (tr σ g k).1 = 2 ^ uN σ g - 1 := by omega
        rw [e] at h2
        rw [pc_all _ (by omega)] at h2
        omega
    have h5 := gV_eq (p := (tr σ g k).2) hn h4
    obtain ⟨c, c1, c2, c3, c4, c5⟩ := bm_hit (cM σ g) (h5 ▸ h3)
    have e : bC σ g (tr σ g k).1 (tr σ g k).2 = c := by unfold bC; rw [c2]; rfl
    refine ⟨h4, ?_⟩
    rw [e]
    exact ⟨c1, c2, c3, h5.trans c4, fun j hj hb => by rw [h5]; exact c5 j hj hb⟩
  intro k
  induction k with
  | zero =>
    intro _
    have a1 : (tr σ g 0).1 ≤ 2 ^ uN σ g - 1 := Nat.zero_le _
    have a2 : cnt (fun v => (tr σ g 0).1.testBit v) (uN σ g) = 0 := pc_0 _ (by omega)
    exact ⟨a1, a2, hp, Nat.zero_add _, fun hk => post 0 hk a1 a2 hl⟩
  | succ k ih =>
    intro hk
    obtain ⟨h1, h2, h3, h4, h5⟩ := ih (by omega)
    obtain ⟨g1, g2, g3, g4, g5, -⟩ := h5 (by omega)
    have hc := cC_in g2
    have hf := fr_lt hS hc.2.1
    obtain ⟨u1, u2⟩ := bit_up hn (by omega) hc.1 g4
    have a1 : (tr σ g (k + 1)).1 ≤ 2 ^ uN σ g - 1 := u2
    have a2 : cnt (fun v => (tr σ g (k + 1)).1.testBit v) (uN σ g) = k + 1 := by
      show cnt (fun v => ((tr σ g k).1 ||| 2 ^ (cC σ g (bC σ g (tr σ g k).1 (tr σ g k).2)).2).testBit v) (uN σ g) = k + 1
      rw [pc_up _ (by omega) _ (by have := Nat.two_pow_pos (uN σ g); omega) _ hc.1 g4, h2]
    have a4 : wS σ g (k + 1) + gV σ g (tr σ g (k + 1)).1 (tr σ g (k + 1)).2 = wL σ g := by
      rw [← h4, g5]
      show wS σ g k + (dst σ (tr σ g k).2 (fr σ (wP σ g k)) + ln σ (wP σ g k)) + gV σ g ((tr σ g k).1 ||| 2 ^ (cC σ g (bC σ g (tr σ g k).1 (tr σ g k).2)).2) (tt σ (wP σ g k)) = wS σ g k + (dst σ (tr σ g k).2 (fr σ (wP σ g k)) + ln σ (wP σ g k) + gV σ g ((tr σ g k).1 ||| 2 ^ (cC σ g (bC σ g (tr σ g k).1 (tr σ g k).2)).2) (tt σ (wP σ g k)))
      omega
    exact ⟨a1, a2, hf.2.1, a4, fun hk => post (k + 1) hk a1 a2 (by omega)⟩
end TRACE
section MD6
variable {G : GC} {M M0 : Mem} {Y : Nat → Nat} {σ : St} {T : Nat} {Qf : List Frame → Array Value → State → State → Prop}
/-- the reference's table of what is left, from S on -/
def LeftP (Y : Nat → Nat) (σ : St) (g S : Nat) (M : Mem) : Prop := ∀ S', S ≤ S' → S' ≤ 2 ^ uN σ g - 1 → ∀ p, p < σ.1 0 → mA M (Y 28) (10 * S' + p) = iz (gV σ g S' p : Int)
theorem LeftP.kp {g S : Nat} {M' : Mem} {fs ks : List Nat} (h : LeftP Y σ g S M) (hK : Kp Y fs ks M M') (hM : RM M Y σ) (h2 : ∀ j ∈ ks, j ≠ 28 ∧ j ∈ arK := by decide) : LeftP Y σ g S M' := fun S' h1 h3 p hp => by rw [hK.row hM 28 (by decide) h2]; exact h S' h1 h3 p hp
theorem all_256 {n : Nat} (h : n ≤ 8) : 2 ^ n ≤ 256 ∧ 1 ≤ 2 ^ n := ⟨Nat.pow_le_pow_right (by omega) h, Nat.two_pow_pos n⟩
theorem m_bestChoice (hM : RM M Y σ) (hO : Ok σ T) (g S p : Nat) (hF : FarP Y (σ.1 0) (dst σ) M) (hC : ChP Y (chs σ g) M) (hn : uN σ g ≤ 8) (hS : S ≤ 2 ^ uN σ g - 1) (hp : p < σ.1 0) (hL : LeftP Y σ g (S + 1) M) : Ht G iX9_bestChoice yX9_bestChoice 3 [.ref (Y 0), .int (iz (S : Int)), .int (iz (p : Int))] M (rI fun r M' => Kp Y [610] [] M M' ∧ mI M' 610 (Y 0) = iz ((bm σ (gV σ g) (cC σ g) S p (cM σ g)).1 : Int) ∧ r = iz (bm σ (gV σ g) (cC σ g) S p (cM σ g)).2) nX 0 0 := by
  have hSt := hO.st
  have hO2 := hO
  obtain ⟨⟨p1, p2, p3, p4, p5, -⟩, hSS, -⟩ := hO
  have hal := all_256 hn
  have hcl : cM σ g ≤ 16 := by have := chl_len σ (uU σ g) (uN σ g); unfold cM chs; omega
  refine ht_intro (by decide +kernel) rfl rfl rfl (Nat.le_of_ble_eq_true rfl) ?_
  have loop : ∀ (k i : Nat) (M1 : Mem), i + k = cM σ g → Kp Y [610] [] M M1 → mI M1 610 (Y 0) = iz ((bm σ (gV σ g) (cC σ g) S p i).1 : Int) → SWG G iX9_bestChoice (rmd 3 0 0) (QF G (rI fun r M' => Kp Y [610] [] M M' ∧ mI M' 610 (Y 0) = iz ((bm σ (gV σ g) (cC σ g) S p (cM σ g)).1 : Int) ∧ r = iz (bm σ (gV σ g) (cC σ g) S p (cM σ g)).2) nX 0 0) 11 [(4, .int (iz (i : Int))), (3, .int (iz (bm σ (gV σ g) (cC σ g) S p i).2)), (0, .ref (Y 0)), (1, .int (iz (S : Int))), (2, .int (iz (p : Int)))] [] M1 0 0 := by
    intro k
    induction k with
    | zero =>
      intro i M1 hi hK hI
      have hi2 : i = cM σ g := by omega
      subst hi2
      have hC := hC.kp hK hM
      have hM := hK.rm hM
      refine r_iload dX9_bestChoice_11 rfl ?_
      refine r_aload_n dX9_bestChoice_13 rfl ?_
      refine r_getI qX9_162 dX9_bestChoice_14 hM.o (x := iz (cM σ g : Int)) hC.1 (kk := ?_)
      refine r_icmp_ge (tgt := 135) dX9_bestChoice_17 (by decide) (kt := fun z17 => ?_) (kf := fun z17 => (by exfalso; first | omega | simp_all))
      refine r_iload_n dX9_bestChoice_135 rfl ?_
      exact r_iret dX9_bestChoice_136 (⟨_, rfl, hK, hI, rfl⟩)
    | succ k ih =>
      intro i M1 hi hK hI
      have hi3 : i < cM σ g := by omega
      have hF := hF.kp hK hM
      have hL := hL.kp hK hM
      have hC := hC.kp hK hM
      have hM := hK.rm hM
      obtain ⟨c1, c2, c3⟩ := cC_in hi3
      obtain ⟨f1, f2, f3, f4⟩ := fr_lt hSt c2
      have hb := bm_le (σ := σ) (V := gV σ g) (C := cC σ g) (S := S) (p := p) i
      have hd := dst_le (σ := σ) p (fr σ (cC σ g i).1)
      have hv := gV_le (σ := σ) (g := g) (S := S ||| 2 ^ (cC σ g i).2) (p := tt σ (cC σ g i).1)
      have e31 : mA M1 (Y 31) i = iz ((cC σ g i).1 : Int) := (hC.2 i hi3).1
      have e32 : mA M1 (Y 32) i = iz ((cC σ g i).2 : Int) := (hC.2 i hi3).2
      have hcost : (cost σ (gV σ g) S p (cC σ g i) : Int) = dst σ p (fr σ (cC σ g i).1) + ln σ (cC σ g i).1 + gV σ g (S ||| 2 ^ (cC σ g i).2) (tt σ (cC σ g i).1) := by unfold cost; omega
      refine r_iload dX9_bestChoice_11 rfl ?_
      refine r_aload_n dX9_bestChoice_13 rfl ?_
      refine r_getI qX9_162 dX9_bestChoice_14 hM.o (x := iz (cM σ g : Int)) hC.1 (kk := ?_)
      refine r_icmp_ge (tgt := 135) dX9_bestChoice_17 (by decide) (kt := fun z17 => (by exfalso; first | omega | simp_all)) (kf := fun z17 => ?_)
      refine r_iload_n dX9_bestChoice_20 rfl ?_
      refine r_aload_n dX9_bestChoice_21 rfl ?_
      refine r_getR qX9_75 dX9_bestChoice_22 hM.o (hM.r 32) (kk := ?_)
      refine r_iload dX9_bestChoice_25 rfl ?_
      refine r_iald dX9_bestChoice_27 (hM.cc 32 11 16) rfl e32 (k := ?_)
      refine r_ishr dX9_bestChoice_28 (rfl) ?_
      refine r_iconst dX9_bestChoice_29 ?_
      refine r_iand dX9_bestChoice_30 (bt_sh rfl (by omega) (by omega)) ?_
      refine r_iconst dX9_bestChoice_31 ?_
      refine r_b1_ne (tgt := 38) dX9_bestChoice_32 (by decide) (kt := fun z32 => ?_) (kf := fun z32 => ?_)
      · obtain ⟨u1, u2⟩ := bit_up hn hS c1 z32
        refine r_aload_n dX9_bestChoice_38 rfl ?_
        refine r_getR qX9_60 dX9_bestChoice_39 hM.o (hM.r 25) (kk := ?_)
        refine r_bipush dX9_bestChoice_42 (k := ?_)
        refine r_iload_n dX9_bestChoice_44 rfl ?_
        refine r_imul dX9_bestChoice_45 ?_
        refine r_aload_n dX9_bestChoice_46 rfl ?_
        refine r_aload_n dX9_bestChoice_47 rfl ?_
        refine r_getR qX9_72 dX9_bestChoice_48 hM.o (hM.r 31) (kk := ?_)
        refine r_iload dX9_bestChoice_51 rfl ?_
        refine r_iald dX9_bestChoice_53 (hM.cc 31 11 16) rfl e31 (k := ?_)
        refine r_callV (mi := iX9_bestChoice) vX9_172 dX9_bestChoice_54 hM.o (m_from hM hO2 (cC σ g i).1 c2) (hm := ⟨by omega, by omega⟩) (k := kP ?_) (kx := r_nox)
        refine r_iadd dX9_bestChoice_57 ?_
        refine r_iald dX9_bestChoice_58 (hM.cc 25 11 100) (j := 10 * p + fr σ (cC σ g i).1) (by omega) (hF _ _ hp f1) (k := ?_)
        refine r_aload_n dX9_bestChoice_59 rfl ?_
        refine r_getR qX9_16 dX9_bestChoice_60 hM.o (hM.r 3) (kk := ?_)
        refine r_aload_n dX9_bestChoice_63 rfl ?_
        refine r_getR qX9_72 dX9_bestChoice_64 hM.o (hM.r 31) (kk := ?_)
        refine r_iload dX9_bestChoice_67 rfl ?_
        refine r_iald dX9_bestChoice_69 (hM.cc 31 11 16) rfl e31 (k := ?_)
        refine r_iconst dX9_bestChoice_70 ?_
        refine r_idiv dX9_bestChoice_71 (k := ?_)
        refine r_iald dX9_bestChoice_72 (hM.cc 3 11 16) (j := (cC σ g i).1 / 2) (by omega) (v := iz (ln σ (cC σ g i).1 : Int)) (hM.v 3 _ c2) (k := ?_)
        refine r_iadd dX9_bestChoice_73 ?_
        refine r_aload_n dX9_bestChoice_74 rfl ?_
        refine r_getR qX9_66 dX9_bestChoice_75 hM.o (hM.r 28) (kk := ?_)
        refine r_bipush dX9_bestChoice_78 (k := ?_)
        refine r_iload_n dX9_bestChoice_80 rfl ?_
        refine r_iconst dX9_bestChoice_81 ?_
        refine r_aload_n dX9_bestChoice_82 rfl ?_
        refine r_getR qX9_75 dX9_bestChoice_83 hM.o (hM.r 32) (kk := ?_)
        refine r_iload dX9_bestChoice_86 rfl ?_
        refine r_iald dX9_bestChoice_88 (hM.cc 32 11 16) rfl e32 (k := ?_)
        refine r_ishl dX9_bestChoice_89 (sl_1 rfl (by omega)) ?_
        refine r_ior dX9_bestChoice_90 (iz_or _ _) ?_
        refine r_imul dX9_bestChoice_91 ?_
        refine r_aload_n dX9_bestChoice_92 rfl ?_
        refine r_aload_n dX9_bestChoice_93 rfl ?_
        refine r_getR qX9_72 dX9_bestChoice_94 hM.o (hM.r 31) (kk := ?_)
        refine r_iload dX9_bestChoice_97 rfl ?_
        refine r_iald dX9_bestChoice_99 (hM.cc 31 11 16) rfl e31 (k := ?_)
        refine r_callV (mi := iX9_bestChoice) vX9_175 dX9_bestChoice_100 hM.o (m_to hM hO2 (cC σ g i).1 c2) (hm := ⟨by omega, by omega⟩) (k := kP ?_) (kx := r_nox)
        refine r_iadd dX9_bestChoice_103 ?_
        refine r_iald dX9_bestChoice_104 (hM.cc 28 11 2560) (j := 10 * (S ||| 2 ^ (cC σ g i).2) + tt σ (cC σ g i).1) (by omega) (hL _ (by omega) u2 _ f2) (k := ?_)
        refine r_iadd dX9_bestChoice_105 ?_
        refine r_istore dX9_bestChoice_106 (k := ?_)
        refine r_iload dX9_bestChoice_108 rfl ?_
        refine r_aload_n dX9_bestChoice_110 rfl ?_
        refine r_getI qX9_169 dX9_bestChoice_111 hM.o hI (kk := ?_)
        refine r_icmp_lt (tgt := 120) dX9_bestChoice_114 (by decide) (kt := fun z114 => ?_) (kf := fun z114 => ?_)
        · refine r_aload_n dX9_bestChoice_120 rfl ?_
          refine r_iload dX9_bestChoice_121 rfl ?_
          refine r_putI qX9_169 dX9_bestChoice_123 hM.o (kk := ?_)
          refine r_iload dX9_bestChoice_126 rfl ?_
          refine r_istore_n dX9_bestChoice_128 (k := ?_)
          refine r_iinc dX9_bestChoice_129 rfl (k := ?_)
          refine r_goto (tgt := 11) dX9_bestChoice_132 (by decide) ?_
          first
           | refine r_loc' (ih (i + 1) _ (by omega) hK ?_) ⟨rfl, ?_, rfl, rfl, rfl, trivial⟩ <;> rw [bm_no (by first | exact Or.inl z32 | exact Or.inr (by omega))]
             · exact hI
             · rfl
           | refine r_loc' (ih (i + 1) _ (by omega) (hK.tr Kp.i) ?_) ⟨rfl, ?_, rfl, rfl, rfl, trivial⟩ <;> rw [bm_yes z32 (by omega)]
             · rw [mI_sI]; simp only [upd, if_true]; rw [hcost]
             · rfl
        · refine r_goto (tgt := 129) dX9_bestChoice_117 (by decide) ?_
          refine r_iinc dX9_bestChoice_129 rfl (k := ?_)
          refine r_goto (tgt := 11) dX9_bestChoice_132 (by decide) ?_
          first
           | refine r_loc' (ih (i + 1) _ (by omega) hK ?_) ⟨rfl, ?_, rfl, rfl, rfl, trivial⟩ <;> rw [bm_no (by first | exact Or.inl z32 | exact Or.inr (by omega))]
             · exact hI
             · rfl
           | refine r_loc' (ih (i + 1) _ (by omega) (hK.tr Kp.i) ?_) ⟨rfl, ?_, rfl, rfl, rfl, trivial⟩ <;> rw [bm_yes z32 (by omega)]
             · rw [mI_sI]; simp only [upd, if_true]; rw [hcost]
             · rfl
      · refine r_goto (tgt := 129) dX9_bestChoice_35 (by decide) ?_
        refine r_iinc dX9_bestChoice_129 rfl (k := ?_)
        refine r_goto (tgt := 11) dX9_bestChoice_132 (by decide) ?_
        first
         | refine r_loc' (ih (i + 1) _ (by omega) hK ?_) ⟨rfl, ?_, rfl, rfl, rfl, trivial⟩ <;> rw [bm_no (by first | exact Or.inl z32 | exact Or.inr (by omega))]
           · exact hI
           · rfl
         | refine r_loc' (ih (i + 1) _ (by omega) (hK.tr Kp.i) ?_) ⟨rfl, ?_, rfl, rfl, rfl, trivial⟩ <;> rw [bm_yes z32 (by omega)]
           · rw [mI_sI]; simp only [upd, if_true]; rw [hcost]
           · rfl
  refine r_iconst dX9_bestChoice_0 ?_
  refine r_istore_n dX9_bestChoice_1 (k := ?_)
  refine r_aload_n dX9_bestChoice_2 rfl ?_
  refine r_ldc (n := 100000) kX9_136 dX9_bestChoice_3 (k := ?_)
  refine r_putI qX9_169 dX9_bestChoice_5 hM.o (kk := ?_)
  refine r_iconst dX9_bestChoice_8 ?_
  refine r_istore dX9_bestChoice_9 (k := ?_)
  refine r_loc' (loop (cM σ g) 0 _ (by omega) Kp.i (by rw [mI_sI]; simp only [upd, if_true]; rfl)) ⟨rfl, rfl, rfl, rfl, rfl, trivial⟩
theorem walks_in (hM : RM M Y σ) (hO : Ok σ T) (g S : Nat) (hF : FarP Y (σ.1 0) (dst σ) M) (hC : ChP Y (chs σ g) M) (hn : uN σ g ≤ 8) (hS : S ≤ 2 ^ uN σ g - 1) (hL : LeftP Y σ g (S + 1) M) {v : Value} (kk : ∀ M1, Kp Y [610] [28] M M1 → LeftP Y σ g S M1 → SWG G iX9_walks (rmd 9 0 0) Qf 100 [(3, .int (iz (S : Int))), (2, .int (iz ((2 ^ uN σ g - 1 : Nat) : Int))), (1, v), (0, .ref (Y 0))] [] M1 0 0) : ∀ (k p : Nat) (M1 : Mem), p + k = σ.1 0 → Kp Y [610] [28] M M1 → LeftP Y σ g (S + 1) M1 → (∀ q, q < p → mA M1 (Y 28) (10 * S + q) = iz (gV σ g S q : Int)) → SWG G iX9_walks (rmd 9 0 0) Qf 42 [(4, .int (iz (p : Int))), (3, .int (iz (S : Int))), (2, .int (iz ((2 ^ uN σ g - 1 : Nat) : Int))), (1, v), (0, .ref (Y 0))] [] M1 0 0 := by
  have hO2 := hO
  obtain ⟨⟨p1, p2, p3, p4, p5, -⟩, hSS, -⟩ := hO
  have hal := all_256 hn
  intro k
  induction k with
  | zero =>
    intro p M1 hp hK hL1 hR1
    have hp2 : p = σ.1 0 := by omega
    subst hp2
    have hM := hK.rm hM
    refine r_iload dX9_walks_42 rfl ?_
    refine r_aload_n dX9_walks_44 rfl ?_
    refine r_getI qX9_53 dX9_walks_45 hM.o (x := iz (σ.1 0 : Int)) (hM.s 0) (kk := ?_)
    refine r_icmp_ge (tgt := 100) dX9_walks_48 (by decide) (kt := fun z48 => ?_) (kf := fun z48 => (by exfalso; first | omega | simp_all))
    refine r_loc' (kk M1 hK (fun S' h1 h2 q hq => ?_)) ⟨rfl, rfl, rfl, rfl, trivial⟩
    by_cases e : S' = S
    · subst e; exact hR1 q hq
    · exact hL1 S' (by omega) h2 q hq
  | succ k ih =>
    intro p M1 hp hK hL1 hR1
    have hF := hF.kp hK hM
    have hC := hC.kp hK hM
    have hM := hK.rm hM
    have hp3 : p < σ.1 0 := by omega
    refine r_iload dX9_walks_42 rfl ?_
    refine r_aload_n dX9_walks_44 rfl ?_
    refine r_getI qX9_53 dX9_walks_45 hM.o (x := iz (σ.1 0 : Int)) (hM.s 0) (kk := ?_)
    refine r_icmp_ge (tgt := 100) dX9_walks_48 (by decide) (kt := fun z48 => (by exfalso; first | omega | simp_all)) (kf := fun z48 => ?_)
    refine r_aload_n dX9_walks_51 rfl ?_
    refine r_iload_n dX9_walks_52 rfl ?_
    refine r_iload dX9_walks_53 rfl ?_
    refine r_callV (mi := iX9_walks) vX9_181 dX9_walks_55 hM.o (m_bestChoice hM hO2 g S p hF hC hn hS hp3 hL1) (hm := ⟨by omega, by omega⟩) (k := kI (fun r M2 hP2 => ?_)) (kx := r_nox)
    obtain ⟨hK2, hI2, hr⟩ := hP2
    have hL1 := hL1.kp hK2 hM
    have hR1 : ∀ q, q < p → mA M2 (Y 28) (10 * S + q) = iz (gV σ g S q : Int) := fun q hq => by rw [hK2.row hM 28]; exact hR1 q hq
    have hF := hF.kp hK2 hM
    have hM := hK2.rm hM
    have hK := hK.tr (hK2.up)
    refine r_istore dX9_walks_58 (k := ?_)
    refine r_aload_n dX9_walks_60 rfl ?_
    refine r_getR qX9_66 dX9_walks_61 hM.o (hM.r 28) (kk := ?_)
    refine r_bipush dX9_walks_64 (k := ?_)
    refine r_iload_n dX9_walks_66 rfl ?_
    refine r_imul dX9_walks_67 ?_
    refine r_iload dX9_walks_68 rfl ?_
    refine r_iadd dX9_walks_70 ?_
    refine r_iload_n dX9_walks_71 rfl ?_
    refine r_iload_n dX9_walks_72 rfl ?_
    refine r_icmp_ne (tgt := 89) dX9_walks_73 (by decide) (kt := fun z73 => ?_) (kf := fun z73 => ?_)
    · refine r_aload_n dX9_walks_89 rfl ?_
      refine r_getI qX9_169 dX9_walks_90 hM.o hI2 (kk := ?_)
      refine r_iast dX9_walks_93 (hM.cc 28 11 2560) (j := 10 * S + p) (by omega) (k := ?_)
      refine r_iinc dX9_walks_94 rfl (k := ?_)
      refine r_goto (tgt := 42) dX9_walks_97 (by decide) ?_
      refine r_loc' (ih (p + 1) _ (by omega) (hK.tr Kp.a) (fun S' h1 h2 q hq => ?_) (fun q hq => ?_)) ⟨rfl, rfl, rfl, rfl, rfl, trivial⟩
      · have : 10 * S' + q ≠ 10 * S + p := by omega
        rw [mA_sA]; simp only [upd, if_neg this]; exact hL1 S' h1 h2 q hq
      · rw [mA_sA]
        by_cases e : q = p
        · subst e
          simp only [upd, if_true]
          first
            | (rw [gV_eq hn (by omega)]; done)
            | (rw [show S = 2 ^ uN σ g - 1 by omega, gV_all]; done)
        · have : 10 * S + q ≠ 10 * S + p := by omega
          simp only [upd, if_neg this]; exact hR1 q (by omega)
    · refine r_aload_n dX9_walks_76 rfl ?_
      refine r_getR qX9_60 dX9_walks_77 hM.o (hM.r 25) (kk := ?_)
      refine r_bipush dX9_walks_80 (k := ?_)
      refine r_iload dX9_walks_82 rfl ?_
      refine r_imul dX9_walks_84 ?_
      refine r_iald dX9_walks_85 (hM.cc 25 11 100) (j := 10 * p) (by omega) (v := iz (dst σ p 0 : Int)) (hF p 0 hp3 (by omega)) (k := ?_)
      refine r_goto (tgt := 93) dX9_walks_86 (by decide) ?_
      refine r_iast dX9_walks_93 (hM.cc 28 11 2560) (j := 10 * S + p) (by omega) (k := ?_)
      refine r_iinc dX9_walks_94 rfl (k := ?_)
      refine r_goto (tgt := 42) dX9_walks_97 (by decide) ?_
      refine r_loc' (ih (p + 1) _ (by omega) (hK.tr Kp.a) (fun S' h1 h2 q hq => ?_) (fun q hq => ?_)) ⟨rfl, rfl, rfl, rfl, rfl, trivial⟩
      · have : 10 * S' + q ≠ 10 * S + p := by omega
        rw [mA_sA]; simp only [upd, if_neg this]; exact hL1 S' h1 h2 q hq
      · rw [mA_sA]
        by_cases e : q = p
        · subst e
          simp only [upd, if_true]
          first
            | (rw [gV_eq hn (by omega)]; done)
            | (rw [show S = 2 ^ uN σ g - 1 by omega, gV_all]; done)
        · have : 10 * S + q ≠ 10 * S + p := by omega
          simp only [upd, if_neg this]; exact hR1 q (by omega)
theorem walks_out (hM : RM M Y σ) (hO : Ok σ T) (g : Nat) (hF : FarP Y (σ.1 0) (dst σ) M) (hC : ChP Y (chs σ g) M) (hn : uN σ g ≤ 8) {v : Value} (kk : ∀ M1, Kp Y [610] [28] M M1 → LeftP Y σ g 0 M1 → SWG G iX9_walks (rmd 9 0 0) Qf 106 [(2, .int (iz ((2 ^ uN σ g - 1 : Nat) : Int))), (1, v), (0, .ref (Y 0))] [] M1 0 0) : ∀ (k : Nat) (M1 : Mem), k ≤ 2 ^ uN σ g → Kp Y [610] [28] M M1 → LeftP Y σ g k M1 → SWG G iX9_walks (rmd 9 0 0) Qf 35 [(3, .int (iz ((k : Int) - 1))), (2, .int (iz ((2 ^ uN σ g - 1 : Nat) : Int))), (1, v), (0, .ref (Y 0))] [] M1 0 0 := by
  have hal := all_256 hn
  intro k
  induction k with
  | zero =>
    intro M1 hk hK hL1
    have hM := hK.rm hM
    refine r_iload_n dX9_walks_35 rfl ?_
    refine r_if_lt (tgt := 106) dX9_walks_36 (by decide) (kt := fun z36 => ?_) (kf := fun z36 => (by exfalso; first | omega | simp_all))
    exact r_loc' (kk M1 hK hL1) ⟨rfl, rfl, rfl, trivial⟩
  | succ k ih =>
    intro M1 hk hK hL1
    have hF := hF.kp hK hM
    have hC := hC.kp hK hM
    have hM := hK.rm hM
    refine r_iload_n dX9_walks_35 rfl ?_
    refine r_if_lt (tgt := 106) dX9_walks_36 (by decide) (kt := fun z36 => (by exfalso; first | omega | simp_all)) (kf := fun z36 => ?_)
    refine r_iconst dX9_walks_39 ?_
    refine r_istore dX9_walks_40 (k := ?_)
    refine r_loc' (walks_in hM hO g k hF hC hn (by omega) hL1 (fun M2 hK2 hL2 => ?_) (σ.1 0) 0 M1 (by omega) Kp.rf hL1 (fun q hq => absurd hq (by omega))) ⟨rfl, lkI (by omega), rfl, rfl, rfl, trivial⟩
    refine r_iinc dX9_walks_100 rfl (k := ?_)
    refine r_goto (tgt := 35) dX9_walks_103 (by decide) ?_
    exact r_loc' (ih M2 (by omega) (hK.tr hK2) hL2) ⟨rfl, rfl, rfl, rfl, trivial⟩
/-- a walk is written down -/
def WkP (Y : Nat → Nat) (σ : St) (g : Nat) (M : Mem) : Prop := hW σ g = true → mI M 606 (Y 0) = iz (wL σ g : Int) ∧ ∀ k, k < uN σ g → mA M (Y 29) k = iz (wP σ g k : Int)
def WsP (Y : Nat → Nat) (σ : St) (g : Nat) (M M' : Mem) : Prop := Kp Y [603, 606, 609, 610] [25, 26, 28, 29, 31, 32] M M' ∧ FarP Y (σ.1 0) (dst σ) M' ∧ UnP Y (uns σ g (σ.1 1)) M' ∧ WkP Y σ g M'
theorem walks_tr (hM : RM M Y σ) (hO : Ok σ T) (g : Nat) (hF : FarP Y (σ.1 0) (dst σ) M) (hC : ChP Y (chs σ g) M) (hU : UnP Y (uns σ g (σ.1 1)) M) (hW1 : hW σ g = true) (hL : LeftP Y σ g 0 M) (hI : mI M 606 (Y 0) = iz (wL σ g : Int)) {M00 : Mem} {v : Value} (hK0 : Kp Y [603, 606, 609, 610] [25, 26, 28, 29, 31, 32] M00 M) : ∀ (k i : Nat) (M1 : Mem), i + k = uN σ g → Kp Y [610] [29] M M1 → (∀ j, j < i → mA M1 (Y 29) j = iz (wP σ g j : Int)) → SWG G iX9_walks (rmd 9 0 0) (QF G (rI fun r M' => WsP Y σ g M00 M' ∧ r = bz (hW σ g)) nX 0 0) 135 [(5, .int (iz (i : Int))), (4, .int (iz ((tr σ g i).2 : Int))), (3, .int (iz ((tr σ g i).1 : Int))), (1, v), (0, .ref (Y 0))] [] M1 0 0 := by
  have hO2 := hO
  have hSt := hO.st
  obtain ⟨⟨p1, p2, p3, p4, p5, -⟩, hSS, -⟩ := hO
  have hn := (hW_iff.mp hW1).1
  have hal := all_256 hn
  have hcl : cM σ g ≤ 16 := by have := chl_len σ (uU σ g) (uN σ g); unfold cM chs; omega
  intro k
  induction k with
  | zero =>
    intro i M1 hi hK hR
    have hi2 : i = uN σ g := by omega
    subst hi2
    have hF := hF.kp hK hM
    have hU := hU.kp hK hM
    have hI : mI M1 606 (Y 0) = iz (wL σ g : Int) := (hK.fld 606).trans hI
    have hM := hK.rm hM
    refine r_iload dX9_walks_135 rfl ?_
    refine r_aload_n dX9_walks_137 rfl ?_
    refine r_getI qX9_149 dX9_walks_138 hM.o (x := iz (uN σ g : Int)) hU.1 (kk := ?_)
    refine r_icmp_ge (tgt := 198) dX9_walks_141 (by decide) (kt := fun z141 => ?_) (kf := fun z141 => (by exfalso; first | omega | simp_all))
    refine r_iconst dX9_walks_198 ?_
    exact r_iret dX9_walks_199 (⟨_, rfl, ⟨hK0.tr hK.up, hF, hU, fun _ => ⟨hI, hR⟩⟩, by rw [hW1]; rfl⟩)
  | succ k ih =>
    intro i M1 hi hK hR
    have hi3 : i < uN σ g := by omega
    have hF := hF.kp hK hM
    have hU := hU.kp hK hM
    have hC := hC.kp hK hM
    have hL := hL.kp hK hM
    have hM := hK.rm hM
    obtain ⟨t1, t2, t3, t4, t5⟩ := tr_ok hSt p1 hW1 i (by omega)
    obtain ⟨g1, g2, g3, g4, g5, -⟩ := t5 hi3
    obtain ⟨c1, c2, c3⟩ := cC_in g2
    refine r_iload dX9_walks_135 rfl ?_
    refine r_aload_n dX9_walks_137 rfl ?_
    refine r_getI qX9_149 dX9_walks_138 hM.o (x := iz (uN σ g : Int)) hU.1 (kk := ?_)
    refine r_icmp_ge (tgt := 198) dX9_walks_141 (by decide) (kt := fun z141 => (by exfalso; first | omega | simp_all)) (kf := fun z141 => ?_)
    refine r_aload_n dX9_walks_144 rfl ?_
    refine r_iload_n dX9_walks_145 rfl ?_
    refine r_iload dX9_walks_146 rfl ?_
    refine r_callV (mi := iX9_walks) vX9_181 dX9_walks_148 hM.o (m_bestChoice hM hO2 g (tr σ g i).1 (tr σ g i).2 hF hC hn t1 t3 (fun S' h1 h2 => hL S' (by omega) h2)) (hm := ⟨by omega, by omega⟩) (k := kI (fun r M2 hP2 => ?_)) (kx := r_nox)
    obtain ⟨hK2, hI2, hr⟩ := hP2
    rw [g3] at hr
    subst hr
    have hC := hC.kp hK2 hM
    have hR : ∀ j, j < i → mA M2 (Y 29) j = iz (wP σ g j : Int) := fun j hj => by rw [hK2.row hM 29]; exact hR j hj
    have hM := hK2.rm hM
    have hK := hK.tr hK2.up
    have e31 := (hC.2 _ g2).1
    have e32 := (hC.2 _ g2).2
    refine r_istore dX9_walks_151 (k := ?_)
    refine r_aload_n dX9_walks_153 rfl ?_
    refine r_getR qX9_69 dX9_walks_154 hM.o (hM.r 29) (kk := ?_)
    refine r_iload dX9_walks_157 rfl ?_
    refine r_aload_n dX9_walks_159 rfl ?_
    refine r_getR qX9_72 dX9_walks_160 hM.o (hM.r 31) (kk := ?_)
    refine r_iload dX9_walks_163 rfl ?_
    refine r_iald dX9_walks_165 (hM.cc 31 11 16) rfl e31 (k := ?_)
    refine r_iast dX9_walks_166 (hM.cc 29 11 8) rfl (k := ?_)
    refine gm (P := fun M3 => Kp Y [610] [29] M2 M3 ∧ (∀ j, j < i + 1 → mA M3 (Y 29) j = iz (wP σ g j : Int))) ⟨Kp.a, fun j hj => ?_⟩ (fun M3 hP3 => ?_)
    · rw [mA_sA]
      by_cases e : j = i
      · subst e; simp only [upd, if_true]; rfl
      · simp only [upd, if_neg e]; exact hR j (by omega)
    obtain ⟨hK3, hR⟩ := hP3
    have hC := hC.kp hK3 hM
    have hM := hK3.rm hM
    have hK := hK.tr hK3
    have e32 := (hC.2 _ g2).2
    refine r_iload_n dX9_walks_167 rfl ?_
    refine r_iconst dX9_walks_168 ?_
    refine r_aload_n dX9_walks_169 rfl ?_
    refine r_getR qX9_75 dX9_walks_170 hM.o (hM.r 32) (kk := ?_)
    refine r_iload dX9_walks_173 rfl ?_
    refine r_iald dX9_walks_175 (hM.cc 32 11 16) rfl e32 (k := ?_)
    refine r_ishl dX9_walks_176 (sl_1 rfl (by show (cC σ g (bC σ g (tr σ g i).1 (tr σ g i).2)).2 < 16; omega)) ?_
    refine r_ior dX9_walks_177 (iz_or _ _) ?_
    refine r_istore_n dX9_walks_178 (k := ?_)
    refine r_aload_n dX9_walks_179 rfl ?_
    refine r_aload_n dX9_walks_180 rfl ?_
    refine r_getR qX9_69 dX9_walks_181 hM.o (hM.r 29) (kk := ?_)
    refine r_iload dX9_walks_184 rfl ?_
    refine r_iald dX9_walks_186 (hM.cc 29 11 8) rfl (hR i (by omega)) (k := ?_)
    refine r_callV (mi := iX9_walks) vX9_175 dX9_walks_187 hM.o (m_to hM hO2 (wP σ g i) c2) (hm := ⟨by omega, by omega⟩) (k := kP ?_) (kx := r_nox)
    refine r_istore dX9_walks_190 (k := ?_)
    refine r_iinc dX9_walks_192 rfl (k := ?_)
    refine r_goto (tgt := 135) dX9_walks_195 (by decide) ?_
    exact r_loc' (ih (i + 1) _ (by omega) hK hR) ⟨rfl, rfl, rfl, rfl, rfl, trivial⟩
theorem m_walks (hM : RM M Y σ) (hO : Ok σ T) (g : Nat) (hg : g < 16) : Ht G iX9_walks yX9_walks 9 [.ref (Y 0), .int (iz (g : Int))] M (rI fun r M' => WsP Y σ g M M' ∧ r = bz (hW σ g)) nX 0 0 := by
  have hO2 := hO
  obtain ⟨⟨p1, p2, p3, p4, p5, -⟩, hSS, -⟩ := hO
  have hul := uns_len σ g (σ.1 1)
  have e0 : (uns σ g (σ.1 1)).length = uN σ g := rfl
  refine ht_intro (by decide +kernel) rfl rfl rfl (Nat.le_of_ble_eq_true rfl) ?_
  refine r_aload_n dX9_walks_0 rfl ?_
  refine r_callV (mi := iX9_walks) vX9_143 dX9_walks_1 hM.o (m_measures hM hO2) (hm := ⟨by omega, by omega⟩) (k := kV (fun M1 hP1 => ?_)) (kx := r_nox)
  obtain ⟨hK1, hF⟩ := hP1
  have hM := hK1.rm hM
  refine r_aload_n dX9_walks_4 rfl ?_
  refine r_iload_n dX9_walks_5 rfl ?_
  refine r_callV (mi := iX9_walks) vX9_159 dX9_walks_6 hM.o (m_findsNeeds hM hO2 g hg) (hm := ⟨by omega, by omega⟩) (k := kV (fun M2 hP2 => ?_)) (kx := r_nox)
  obtain ⟨hK2, hU⟩ := hP2
  have hF := hF.kp hK2 hM
  have hM := hK2.rm hM
  have hK := (hK1.up (fs' := [603, 606, 609, 610]) (ks' := [25, 26, 28, 29, 31, 32])).tr hK2.up
  refine r_aload_n dX9_walks_9 rfl ?_
  refine r_getI qX9_149 dX9_walks_10 hM.o (x := iz (uN σ g : Int)) hU.1 (kk := ?_)
  refine r_bipush dX9_walks_13 (k := ?_)
  refine r_icmp_le (tgt := 20) dX9_walks_15 (by decide) (kt := fun z15 => ?_) (kf := fun z15 => ?_)
  · have hn : uN σ g ≤ 8 := by omega
    have hal := all_256 hn
    refine r_aload_n dX9_walks_20 rfl ?_
    refine r_callV (mi := iX9_walks) vX9_178 dX9_walks_21 hM.o (m_findsChoices hM hO2 g hU hn) (hm := ⟨by omega, by omega⟩) (k := kV (fun M3 hP3 => ?_)) (kx := r_nox)
    obtain ⟨hK3, hC⟩ := hP3
    have hF := hF.kp hK3 hM
    have hU := hU.kp hK3 hM
    have hM := hK3.rm hM
    have hK := hK.tr hK3.up
    refine r_iconst dX9_walks_24 ?_
    refine r_aload_n dX9_walks_25 rfl ?_
    refine r_getI qX9_149 dX9_walks_26 hM.o (x := iz (uN σ g : Int)) hU.1 (kk := ?_)
    refine r_ishl dX9_walks_29 (sl_1 rfl (by omega)) ?_
    refine r_iconst dX9_walks_30 ?_
    refine r_isub dX9_walks_31 ?_
    refine r_istore_n dX9_walks_32 (k := ?_)
    refine r_iload_n dX9_walks_33 rfl ?_
    refine r_istore_n dX9_walks_34 (k := ?_)
    refine r_loc' (walks_out hM hO2 g hF hC hn (v := .int (iz (g : Int))) (fun M4 hK4 hL4 => ?_) (2 ^ uN σ g) _ (Nat.le_refl _) Kp.rf (fun S' h1 h2 => absurd h2 (by omega))) ⟨rfl, lkI (by omega), rfl, rfl, trivial⟩
    have hF := hF.kp hK4 hM
    have hU := hU.kp hK4 hM
    have hC := hC.kp hK4 hM
    have hM := hK4.rm hM
    have hK := hK.tr hK4.up
    have hwl : wL σ g ≤ 100000 := gV_le
    refine r_aload_n dX9_walks_106 rfl ?_
    refine r_aload_n dX9_walks_107 rfl ?_
    refine r_getR qX9_66 dX9_walks_108 hM.o (hM.r 28) (kk := ?_)
    refine r_iconst dX9_walks_111 ?_
    refine r_iald dX9_walks_112 (hM.cc 28 11 2560) (j := 0) rfl (v := iz (wL σ g : Int)) (hL4 0 (by omega) (by omega) 0 (by omega)) (k := ?_)
    refine r_putI qX9_184 dX9_walks_113 hM.o (kk := ?_)
    refine gm (P := fun M5 => Kp Y [606] [] M4 M5 ∧ mI M5 606 (Y 0) = iz (wL σ g : Int)) ⟨Kp.i, by rw [mI_sI]; simp [upd]⟩ (fun M5 hP5 => ?_)
    obtain ⟨hK5, hI5⟩ := hP5
    have hF := hF.kp hK5 hM
    have hU := hU.kp hK5 hM
    have hC := hC.kp hK5 hM
    have hL := hL4.kp hK5 hM
    have hM := hK5.rm hM
    have hK := hK.tr hK5.up
    refine r_aload_n dX9_walks_116 rfl ?_
    refine r_getI qX9_184 dX9_walks_117 hM.o hI5 (kk := ?_)
    refine r_ldc (n := 100000) kX9_136 dX9_walks_120 (k := ?_)
    refine r_icmp_lt (tgt := 127) dX9_walks_122 (by decide) (kt := fun z122 => ?_) (kf := fun z122 => ?_)
    · have hW1 : hW σ g = true := hW_iff.mpr ⟨hn, by omega⟩
      refine r_iconst dX9_walks_127 ?_
      refine r_istore_n dX9_walks_128 (k := ?_)
      refine r_iconst dX9_walks_129 ?_
      refine r_istore dX9_walks_130 (k := ?_)
      refine r_iconst dX9_walks_132 ?_
      refine r_istore dX9_walks_133 (k := ?_)
      exact r_loc' (walks_tr hM hO2 g hF hC hU hW1 hL hI5 (v := .int (iz (g : Int))) hK (uN σ g) 0 _ (by omega) Kp.rf (fun j hj => absurd hj (by omega))) ⟨rfl, rfl, rfl, rfl, rfl, trivial⟩
    · refine r_iconst dX9_walks_125 ?_
      have hW0 : hW σ g = false := by unfold hW; rw [decide_eq_false (show ¬ wL σ g < 100000 by omega)]; exact Bool.and_false _
      exact r_zret (x := false) dX9_walks_126 ⟨_, rfl, ⟨hK, hF, hU, fun h => by rw [hW0] at h; cases h⟩, by rw [hW0]⟩
  · refine r_iconst dX9_walks_18 ?_
    have hW0 : hW σ g = false := by unfold hW; rw [decide_eq_false (by omega)]; rfl
    exact r_zret (x := false) dX9_walks_19 ⟨_, rfl, ⟨hK, hF, hU, fun h => by rw [hW0] at h; cases h⟩, by rw [hW0]⟩
end MD6
