/-! The law's world and the ends of its cases. -/
section LWD
variable {G : GC} {M M1 M2 : Mem} {C : CE} {Y : Nat → Nat} {σ σ' : St} {T T' a b sc n x : Nat} {S : Nat → Int32}
/-- the village on both sides, the script beside it -/
def LW (G : GC) (M : Mem) (C : CE) (Y : Nat → Nat) (σ : St) (T a b sc n x : Nat) (S : Nat → Int32) : Prop := TW G M C Y σ T a b ∧ (mC M sc = some (16, n) ∧ mA M sc = S) ∧ eX C 0 = x
abbrev LB (sc x y a b i : Nat) : List (Nat × Value) := [(0, .ref sc), (1, .ref x), (2, .ref y), (3, .ref a), (4, .ref b), (5, .int (iz (i : Int)))]
theorem LW.mid {w : Nat} (h : LW G M C Y σ T a b sc n x S) (hw : w = a ∨ w = b) (hQ : HQ G C w M σ' M1) : mC M1 sc = some (16, n) ∧ mA M1 sc = S := by
  obtain ⟨hT, ⟨hc, hS⟩, hx⟩ := h
  have hX := hT.1.1
  have hne : sc ≠ w := by
    rcases hw with rfl | rfl
    · exact ne_ty hc hT.2.2.2.2.1 (by omega)
    · exact ne_ty hc hT.2.2.2.2.2 (by omega)
  have hs : Sm M M1 sc := hQ.2.1 sc (16, n) hc (by show (16 : Nat) = 9 ∨ (16 : Nat) = 11 ∨ (16 : Nat) = 12 ∨ (16 : Nat) = 14 ∨ (16 : Nat) = 15 ∨ (16 : Nat) = 16 ∨ (16 : Nat) = 17; omega) (out_ne hX hc (by omega)) hne
  exact ⟨hs.c hc, hs.aa.trans hS⟩
theorem LW.step {w c : Nat} (h : LW G M C Y σ T a b sc n x S) (hw : w = a ∨ w = b) (hQ : HQ G C w M σ' M1) (hP : MP Y M1 σ' c M2) (hO : Ok σ' T') : (∃ C', LW G M2 C' Y σ' T' a b sc n x S) ∧ mL M2 a = mL M1 a ∧ mD M2 b = mD M1 b := by
  obtain ⟨hR1, ha1, hb1, C', hC, hX1, hD1⟩ := h.1.hlp hw hQ
  have hm := h.mid hw hQ
  have hF := hP.2.2
  have key : ∀ d t z, mC M1 d = some (t, z) → 14 ≤ t → Sm M1 M2 d := fun d t z hd ht => by
    have kj : ∀ j, j = 0 ∨ j ∈ arK → d ≠ Y j := fun j hj => by
      obtain ⟨t', z', h5, h6⟩ := hR1.kind hj
      exact ne_ty hd h5 (by omega)
    exact hF.2 d (kj 0 (Or.inl rfl)) (fun k hk => kj k (Or.inr hk))
  have ks := key sc 16 n hm.1 (by omega)
  exact ⟨⟨C', TW.step hR1 ha1 hb1 hX1 hD1 hP hO, ⟨ks.c hm.1, ks.aa.trans hm.2⟩, (congrFun hC 0).trans h.2.2⟩, (key a 14 1 ha1 (by omega)).ll, (key b 15 1 hb1 (by omega)).dd⟩
/-- what is owed behind a case: the world again, one call more -/
def KL (G : GC) (Qf : List Frame → Array Value → State → State → Prop) (Y : Nat → Nat) (T a b sc n x : Nat) (S : Nat → Int32) (kc ks : Nat) : Prop := ∀ (M' : Mem) (C' : CE) (σ' : St), LW G M' C' Y σ' (T + 1) a b sc n x S → SWG G iL_law room_1 Qf 2566 (LB sc x (Y 0) a b (5 * T)) [] M' kc ks
theorem wlc_le (σ : St) (r : Int) : wlc σ r < 4 := by
  unfold wlc; (repeat' split) <;> exact Nat.le_of_ble_eq_true rfl
theorem svC_le (σ : St) (x y : Int) : svC σ x y < 4 := by
  unfold svC; (repeat' split) <;> exact Nat.le_of_ble_eq_true rfl
theorem lg_self (x : Int64) : lg_cmp x x = iz 0 := by
  have h : ¬ x > x := fun h => by
    have := Int64.lt_iff_toInt_lt.mp h
    omega
  unfold lg_cmp
  rw [if_neg h, if_pos rfl]
  exact iz_0
theorem i64_0 : (iz 0).toInt64 = Int64.ofNat 0 := by decide +kernel
theorem i64_1 : (iz 1).toInt64 = Int64.ofNat 1 := by decide +kernel
/-- a fraction that is no NaN is itself -/
theorem dec_n64 {n : Nat} (h : n % 9223372036854775808 ≤ 9218868437227405312) : FP.Core.decode FP.Core.b64 n ≠ .nan := by
  have e1 : FP.Core.b64.tails = 4503599627370496 := by decide +kernel
  have e2 : FP.Core.b64.exps = 2048 := by decide +kernel
  unfold FP.Core.decode FP.Core.fieldE FP.Core.fieldT
  rw [e1, e2]
  split
  · split
    · exact fun h => by cases h
    · omega
  · split <;> exact fun h => by cases h
theorem cmp_z (z : Int) : compare z z = Ordering.eq := by
  show compareOfLessAndEq z z = _
  unfold compareOfLessAndEq
  rw [if_neg (by omega), if_pos rfl]
theorem dcmp_s {v : UInt64} (h : vf_n64 v) : Op.cmpValue (FP.dcmp v v) .l = iz 0 := by
  have hn : v.toNat % 9223372036854775808 ≤ 9218868437227405312 := by
    unfold vf_n64 at h
    rw [UInt64.le_iff_toNat_le, UInt64.toNat_and] at h
    have e : v.toNat &&& 9223372036854775807 = v.toNat % 9223372036854775808 := Nat.and_two_pow_sub_one_eq_mod v.toNat 63
    rw [← e]; exact h
  have hd := dec_n64 hn
  have e : FP.dcmp v v = some .eq := by
    show FP.Core.order (FP.Core.decode FP.Core.b64 v.toNat) (FP.Core.decode FP.Core.b64 v.toNat) = some .eq
    cases e : FP.Core.decode FP.Core.b64 v.toNat with
    | nan => exact absurd e hd
    | inf s => exact congrArg some (cmp_z _)
    | fin s c q => exact congrArg some (cmp_z _)
  rw [e]
  exact iz_0
end LWD
section LWR
variable {G : GC} {Qf : List Frame → Array Value → State → State → Prop} {L : List (Nat × Value)} {st : List Value} {M : Mem} {kc ks : Nat} {C : CE} {Y : Nat → Nat} {σ : St} {T a b sc n x i : Nat} {S : Nat → Int32}
theorem r_icmp_same {mi : MI} {R : Room} {pc : Nat} {y : Int32} {off : Int} {tgt : Nat} (d : decode mi.2.1 pc = .ok (.if_icmp .eq off, 3)) (ht : (pc : Int) + off = (tgt : Int)) (k : SWG G mi R Qf tgt L st M kc ks) : SWG G mi R Qf pc L (.int y :: .int y :: st) M kc ks := by
  intro p l e s m args below meth c E ls H locs hl hR hf
  exact lv_icmp_eq E.1 E.2.1 d ht (fun _ => k p l e s m args below meth c E ls H locs hl hR hf) (fun q => absurd rfl q)
/-- a number of the script -/
theorem ld_scr {pc k : Nat} {kk : Int} (d0 : decode code pc = .ok (.aload_n 0, 1)) (d1 : decode code (pc + 1) = .ok (.iload 5, 2)) (d3 : decode code (pc + 3) = .ok (.iconst kk, 1)) (d4 : decode code (pc + 4) = .ok (.iadd, 1)) (d5 : decode code (pc + 5) = .ok (.iaload, 1)) (hk : kk = (k : Int)) (hL0 : lk L ((0 : Fin 4) : Nat) = some (.ref sc)) (hL5 : lk L 5 = some (.int (iz (i : Int)))) (hs : mC M sc = some (16, n) ∧ mA M sc = S) (hi : i + k < n) (hn : n ≤ 2560)
    (kx : SWG G iL_law room_1 Qf (pc + 6) L (.int (iz (S (i + k)).toInt) :: st) M kc ks) : SWG G iL_law room_1 Qf pc L st M kc ks := by
  subst hk
  refine r_aload_n d0 hL0 ?_
  refine r_iload d1 hL5 ?_
  refine r_iconst d3 ?_
  refine r_iadd d4 ?_
  exact r_iald d5 hs.1 (j := i + k) (by omega) (by rw [hs.2]; exact iz_of _) (hj := hi) (hn := by omega) (k := kx)
/-- is it other than 0 -/
theorem ld_bit {pc : Nat} {z : Int} (d0 : decode code pc = .ok (.ifCond .eq 7, 3)) (d3 : decode code (pc + 3) = .ok (.iconst 1, 1)) (d4 : decode code (pc + 4) = .ok (.goto 4, 3)) (d7 : decode code (pc + 7) = .ok (.iconst 0, 1)) (hz : inR z) (kx : SWG G iL_law room_1 Qf (pc + 8) L (.int (bz (decide (z ≠ 0))) :: st) M kc ks) : SWG G iL_law room_1 Qf pc L (.int (iz z) :: st) M kc ks := by
  refine r_if_eq (tgt := pc + 7) d0 (by omega) (ha := hz) (kt := fun h => ?_) (kf := fun h => ?_)
  · refine r_iconst d7 ?_
    rw [bz_nd (P := z ≠ 0) (fun q => q h)]
    exact kx
  · refine r_iconst d3 ?_
    refine r_goto (tgt := pc + 8) d4 (by omega) ?_
    rw [bz_d (P := z ≠ 0) h]
    exact kx
/-- the end of a case with a number -/
theorem tail_i {p c : Nat} {z g : Int} {r2 : Int32} (d0 : decode code p = .ok (.istore 7, 2)) (d2 : decode code (p + 2) = .ok (.aload_n 2, 1)) (d3 : decode code (p + 3) = .ok (.invokevirtual 149, 3)) (d6 : decode code (p + 6) = .ok (.iload 6, 2)) (d8 : decode code (p + 8) = .ok (.if_icmp .eq 5, 3)) (d13 : decode code (p + 13) = .ok (.iload 6, 2)) (d15 : decode code (p + 15) = .ok (.ifCond .ne 15, 3)) (d18 : decode code (p + 18) = .ok (.aload_n 3, 1)) (d19 : decode code (p + 19) = .ok (.iconst 0, 1)) (d20 : decode code (p + 20) = .ok (.laload, 1)) (d21 : decode code (p + 21) = .ok (.iload 7, 2)) (d23 : decode code (p + 23) = .ok (.i2l, 1)) (d24 : decode code (p + 24) = .ok (.lcmp, 1)) (d25 : decode code (p + 25) = .ok (.ifCond .eq 5, 3)) (d30 : decode code (p + 30) = .ok (.goto g, 3)) (hg : ((p + 30 : Nat) : Int) + g = ((2566 : Nat) : Int))
    (hR : RM M Y σ) (hI : mI M 576 (Y 0) = iz (c : Int)) (hr : c = 0 → r2 = iz z) (hL : c = 0 → mL M a 0 = (iz z).toInt64) (hc : c < 4) (ha : mC M a = some (14, 1)) (hk : kc ≤ room_1.cells ∧ ks ≤ room_1.slots) (K : SWG G iL_law room_1 Qf 2566 (LB sc x (Y 0) a b i) [] M kc ks) :
    SWG G iL_law room_1 Qf p ((6, .int (iz (c : Int))) :: LB sc x (Y 0) a b i) [.int r2] M kc ks := by
  refine r_istore d0 (k := ?_)
  refine r_aload_n d2 rfl ?_
  refine r_callV (mi := iL_law) vL_149 d3 hR.o (m_thrown hR.o hI) (hm := hk) (k := kP ?_) (kx := r_nox)
  refine r_iload d6 rfl ?_
  refine r_icmp_same (tgt := p + 13) d8 (by omega) ?_
  refine r_iload d13 rfl ?_
  refine r_if_ne (tgt := p + 30) d15 (by omega) (kt := fun h => ?_) (kf := fun h => ?_)
  · refine r_goto (tgt := 2566) d30 hg ?_
    exact r_loc' K ⟨rfl, rfl, rfl, rfl, rfl, rfl, trivial⟩
  · refine r_aload_n d18 rfl ?_
    refine r_iconst d19 ?_
    refine r_lald d20 ha (j := 0) rfl (hL (by omega)) (k := ?_)
    refine r_iload d21 rfl ?_
    refine r_i2l d23 (congrArg Int32.toInt64 (hr (by omega))) ?_
    refine r_lcmp d24 ?_
    rw [lg_self]
    refine r_if_eq (tgt := p + 30) d25 (by omega) (kt := fun _ => ?_) (kf := fun h => absurd rfl h)
    refine r_goto (tgt := 2566) d30 hg ?_
    exact r_loc' K ⟨rfl, rfl, rfl, rfl, rfl, rfl, trivial⟩
/-- the end of a case with yes or no -/
theorem tail_b {p c : Nat} {z g : Int} {r2 : Int32} (d0 : decode code p = .ok (.istore 7, 2)) (d2 : decode code (p + 2) = .ok (.aload_n 2, 1)) (d3 : decode code (p + 3) = .ok (.invokevirtual 149, 3)) (d6 : decode code (p + 6) = .ok (.iload 6, 2)) (d8 : decode code (p + 8) = .ok (.if_icmp .eq 5, 3)) (d13 : decode code (p + 13) = .ok (.iload 6, 2)) (d15 : decode code (p + 15) = .ok (.ifCond .ne 22, 3)) (d18 : decode code (p + 18) = .ok (.aload_n 3, 1)) (d19 : decode code (p + 19) = .ok (.iconst 0, 1)) (d20 : decode code (p + 20) = .ok (.laload, 1)) (d21 : decode code (p + 21) = .ok (.iload 7, 2)) (d23 : decode code (p + 23) = .ok (.ifCond .eq 7, 3)) (d26 : decode code (p + 26) = .ok (.lconst 1, 1)) (d27 : decode code (p + 27) = .ok (.goto 4, 3)) (d30 : decode code (p + 30) = .ok (.lconst 0, 1)) (d31 : decode code (p + 31) = .ok (.lcmp, 1)) (d32 : decode code (p + 32) = .ok (.ifCond .eq 5, 3)) (d37 : decode code (p + 37) = .ok (.goto g, 3)) (hg : ((p + 37 : Nat) : Int) + g = ((2566 : Nat) : Int))
    (hR : RM M Y σ) (hI : mI M 576 (Y 0) = iz (c : Int)) (hr : c = 0 → r2 = iz z) (hL : c = 0 → mL M a 0 = (iz z).toInt64) (hz : z = 0 ∨ z = 1) (hc : c < 4) (ha : mC M a = some (14, 1)) (hk : kc ≤ room_1.cells ∧ ks ≤ room_1.slots) (K : SWG G iL_law room_1 Qf 2566 (LB sc x (Y 0) a b i) [] M kc ks) :
    SWG G iL_law room_1 Qf p ((6, .int (iz (c : Int))) :: LB sc x (Y 0) a b i) [.int r2] M kc ks := by
  refine r_istore d0 (k := ?_)
  refine r_aload_n d2 rfl ?_
  refine r_callV (mi := iL_law) vL_149 d3 hR.o (m_thrown hR.o hI) (hm := hk) (k := kP ?_) (kx := r_nox)
  refine r_iload d6 rfl ?_
  refine r_icmp_same (tgt := p + 13) d8 (by omega) ?_
  refine r_iload d13 rfl ?_
  refine r_if_ne (tgt := p + 37) d15 (by omega) (kt := fun h => ?_) (kf := fun h => ?_)
  · refine r_goto (tgt := 2566) d37 hg ?_
    exact r_loc' K ⟨rfl, rfl, rfl, rfl, rfl, rfl, trivial⟩
  · have h0 : c = 0 := by omega
    have hL := hL h0
    have hr := hr h0
    subst hr
    refine r_aload_n d18 rfl ?_
    refine r_iconst d19 ?_
    rcases hz with rfl | rfl
    · refine r_lald d20 ha (j := 0) rfl (hL.trans i64_0) (k := ?_)
      refine r_iload d21 rfl ?_
      refine r_if_eq (tgt := p + 30) d23 (by omega) (kt := fun _ => ?_) (kf := fun h => absurd rfl h)
      refine r_lconst (v := Int64.ofNat 0) d30 (h := rfl) (k := ?_)
      refine r_lcmp d31 ?_
      rw [lg_self]
      refine r_if_eq (tgt := p + 37) d32 (by omega) (kt := fun _ => ?_) (kf := fun h => absurd rfl h)
      refine r_goto (tgt := 2566) d37 hg ?_
      exact r_loc' K ⟨rfl, rfl, rfl, rfl, rfl, rfl, trivial⟩
    · refine r_lald d20 ha (j := 0) rfl (hL.trans i64_1) (k := ?_)
      refine r_iload d21 rfl ?_
      refine r_if_eq (tgt := p + 30) d23 (by omega) (kt := fun h => by exfalso; omega) (kf := fun h => ?_)
      refine r_lconst (v := Int64.ofNat 1) d26 (h := rfl) (k := ?_)
      refine r_goto (tgt := p + 31) d27 (by omega) ?_
      refine r_lcmp d31 ?_
      rw [lg_self]
      refine r_if_eq (tgt := p + 37) d32 (by omega) (kt := fun _ => ?_) (kf := fun h => absurd rfl h)
      refine r_goto (tgt := 2566) d37 hg ?_
      exact r_loc' K ⟨rfl, rfl, rfl, rfl, rfl, rfl, trivial⟩
end LWR
