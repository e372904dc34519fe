/-! The reference: on the walk to a house; delivering. -/
section WTO
variable {σ : St} {T : Nat}
def pas (σ : St) (p h : Nat) : Bool := decide (p / 2 = σ.2 5 h) && (decide (σ.2 13 (p / 2) = 0) || decide (p % 2 = σ.2 6 h))
def kf (σ : St) (g h : Nat) : Nat := (fnd (fun k => pas σ (wP σ g k) h) (uN σ g)).getD 0
def part (σ : St) (p h : Nat) : Nat := if p % 2 = 0 then σ.2 7 h else ln σ p - σ.2 7 h
def wto (σ : St) (g h : Nat) : Nat := wS σ g (kf σ g h) + dst σ (tr σ g (kf σ g h)).2 (fr σ (wP σ g (kf σ g h))) + part σ (wP σ g (kf σ g h)) h
theorem uns_mem {g s k x : Nat} (hs : s < k) (hx : x ∈ ua σ g s) : x ∈ uns σ g k := by
  induction k with
  | zero => omega
  | succ k ih =>
    by_cases e : s = k
    · subst e; exact List.mem_append_right _ hx
    · exact List.mem_append_left _ (ih (by omega))
theorem mem_getD {l : List Nat} {x : Nat} (h : x ∈ l) : ∃ i, i < l.length ∧ l.getD i 0 = x := by
  obtain ⟨i, h1, h2⟩ := List.getElem_of_mem h
  exact ⟨i, h1, by rw [List.getD_eq_getElem?_getD, List.getElem?_eq_getElem h1]; exact h2⟩
theorem tr_bit {g u : Nat} : ∀ k, (tr σ g k).1.testBit u = true → ∃ j, j < k ∧ (cC σ g (bC σ g (tr σ g j).1 (tr σ g j).2)).2 = u := by
  intro k
  induction k with
  | zero => intro h; rw [show (tr σ g 0).1 = 0 from rfl, Nat.zero_testBit] at h; cases h
  | succ k ih =>
    intro h
    rw [show (tr σ g (k + 1)).1 = (tr σ g k).1 ||| 2 ^ (cC σ g (bC σ g (tr σ g k).1 (tr σ g k).2)).2 from rfl, Nat.testBit_or, Bool.or_eq_true] at h
    rcases h with h | h
    · obtain ⟨j, h1, h2⟩ := ih h
      exact ⟨j, by omega, h2⟩
    · rw [Nat.testBit_two_pow, decide_eq_true_eq] at h
      exact ⟨k, by omega, h⟩
theorem sd_of {h : Nat} (hh : h < σ.1 2) (hp : post σ h = true) : sd σ (σ.2 5 h) (σ.2 6 h) = true :=
  any_t _ hh (by rw [decide_eq_true rfl, decide_eq_true rfl, hp]; rfl)
/-- a due house is passed -/
theorem kf_ex (hO : Ok σ T) {g h : Nat} (hW1 : hW σ g = true) (hh : h < σ.1 2) (hp : post σ h = true) (hg : inG σ (σ.2 5 h) g = true) : kf σ g h < uN σ g ∧ pas σ (wP σ g (kf σ g h)) h = true ∧ ∀ j, j < kf σ g h → pas σ (wP σ g j) h = false := by
  have hSt := hO.st
  obtain ⟨h5, h6, -⟩ := hO.2.2.1 h hh
  have p1 := hO.1.1
  have hsd := sd_of hh hp
  obtain ⟨w1, w2, w3, w4⟩ := wk_fin hSt p1 hW1
  have key : ∃ x, x ∈ uns σ g (σ.1 1) ∧ x / 2 = σ.2 5 h ∧ (σ.2 13 (σ.2 5 h) = 0 ∨ x % 2 = σ.2 6 h) := by
    by_cases e : σ.2 13 (σ.2 5 h) = 0
    · refine ⟨2 * σ.2 5 h, uns_mem h5 ?_, by omega, Or.inl e⟩
      unfold ua
      rw [if_pos hg, if_pos e]
      have : (sd σ (σ.2 5 h) 0 || sd σ (σ.2 5 h) 1) = true := by
        rw [Bool.or_eq_true]
        rcases Nat.lt_or_ge (σ.2 6 h) 1 with e2 | e2
        · exact Or.inl (by rw [show σ.2 6 h = 0 by omega] at hsd; exact hsd)
        · exact Or.inr (by rw [show σ.2 6 h = 1 by omega] at hsd; exact hsd)
      rw [if_pos this]; exact List.mem_singleton.mpr rfl
    · rcases Nat.lt_or_ge (σ.2 6 h) 1 with e2 | e2
      · rw [show σ.2 6 h = 0 by omega] at hsd
        refine ⟨2 * σ.2 5 h, uns_mem h5 ?_, by omega, Or.inr (by omega)⟩
        unfold ua
        rw [if_pos hg, if_neg e, if_pos hsd]; exact List.mem_append_left _ (List.mem_singleton.mpr rfl)
      · rw [show σ.2 6 h = 1 by omega] at hsd
        refine ⟨2 * σ.2 5 h + 1, uns_mem h5 ?_, by omega, Or.inr (by omega)⟩
        unfold ua
        rw [if_pos hg, if_neg e, if_pos hsd]; exact List.mem_append_right _ (List.mem_singleton.mpr rfl)
  obtain ⟨x, x1, x2, x3⟩ := key
  obtain ⟨u, u1, u2⟩ := mem_getD x1
  have hb : (tr σ g (uN σ g)).1.testBit u = true := by rw [w4, Nat.testBit_two_pow_sub_one]; exact decide_eq_true u1
  obtain ⟨j, j1, j2⟩ := tr_bit _ hb
  obtain ⟨-, -, -, -, t5⟩ := tr_ok hSt p1 hW1 j (by omega)
  obtain ⟨g1, g2, -⟩ := t5 j1
  obtain ⟨c1, c2⟩ := chl_in (getD_mem (d := (0, 0)) g2)
  have hj : pas σ (wP σ g j) h = true := by
    unfold pas
    rw [Bool.and_eq_true, Bool.or_eq_true, decide_eq_true_eq, decide_eq_true_eq, decide_eq_true_eq]
    have e0 : (chl σ (uU σ g) (uN σ g)).getD (bC σ g (tr σ g j).1 (tr σ g j).2) (0, 0) = cC σ g (bC σ g (tr σ g j).1 (tr σ g j).2) := rfl
    rw [e0, j2] at c2
    have e1 : uU σ g u = x := u2
    rw [e1] at c2
    have e2 : wP σ g j = (cC σ g (bC σ g (tr σ g j).1 (tr σ g j).2)).1 := rfl
    have hin := uns_in x1
    rcases c2 with c2 | ⟨c2, c3⟩
    · rw [e2, c2, x2]
      exact ⟨rfl, x3⟩
    · have := hin.2.2 c3
      rw [e2, c2, show (x + 1) / 2 = x / 2 by omega, x2]
      rw [x2] at c3
      exact ⟨rfl, Or.inl c3⟩
  obtain ⟨i, hi⟩ := fnd_ex (P := fun k => pas σ (wP σ g k) h) j1 hj
  have e : kf σ g h = i := by unfold kf; rw [hi]; rfl
  rw [e]
  exact fnd_spec hi
theorem wS_le (hO : Ok σ T) {g : Nat} (hW1 : hW σ g = true) (k : Nat) (hk : k ≤ uN σ g) : wS σ g k ≤ wL σ g := by
  have := (tr_ok hO.st hO.1.1 hW1 k hk).2.2.2.1
  omega
end WTO
section MD9
variable {G : GC} {M M0 : Mem} {Y : Nat → Nat} {σ : St} {T : Nat} {Qf : List Frame → Array Value → State → State → Prop}
theorem m_passes (hM : RM M Y σ) (hO : Ok σ T) (p h : Nat) (hp : p / 2 < σ.1 1) (hh : h < σ.1 2) : Ht G iX9_passes yX9_passes 2 [.ref (Y 0), .int (iz (p : Int)), .int (iz (h : Int))] M (rP (bz (pas σ p h)) M) nX 0 0 := by
  obtain ⟨⟨-, -, p3, p4, -⟩, hS, hH, -⟩ := id hO
  obtain ⟨h1, h2, -⟩ := hH h hh
  have s6 := (hS _ hp).2.2.2.2.2.1
  refine ht_intro (by decide +kernel) rfl rfl rfl (Nat.le_of_ble_eq_true rfl) ?_
  refine r_iload_n dX9_passes_0 rfl ?_
  refine r_iconst dX9_passes_1 ?_
  refine r_idiv dX9_passes_2 (k := ?_)
  refine r_aload_n dX9_passes_3 rfl ?_
  refine r_getR qX9_22 dX9_passes_4 hM.o (hM.r 5) (kk := ?_)
  refine r_iload_n dX9_passes_7 rfl ?_
  refine r_iald dX9_passes_8 (hM.cc 5 11 30) rfl (hM.v 5 _ (hh)) (k := ?_)
  refine r_icmp_ne (tgt := 39) dX9_passes_9 (by decide) (kt := fun z9 => ?_) (kf := fun z9 => ?_)
  · refine r_iconst dX9_passes_39 ?_
    first
     | exact r_zret (x := true) dX9_passes_40 (rP_of (congrArg bz (show true = pas σ p h by unfold pas; symm; simp only [Bool.and_eq_true, Bool.or_eq_true, decide_eq_true_eq]; omega)))
     | exact r_zret (x := false) dX9_passes_40 (rP_of (congrArg bz (show false = pas σ p h by unfold pas; symm; simp only [Bool.and_eq_false_iff, Bool.or_eq_false_iff, decide_eq_false_iff_not]; omega)))
  · refine r_aload_n dX9_passes_12 rfl ?_
    refine r_getR qX9_46 dX9_passes_13 hM.o (hM.r 13) (kk := ?_)
    refine r_iload_n dX9_passes_16 rfl ?_
    refine r_iconst dX9_passes_17 ?_
    refine r_idiv dX9_passes_18 (k := ?_)
    refine r_zald dX9_passes_19 (hM.cc 13 12 16) (j := p / 2) (by omega) (hM.v 13 _ hp) (k := ?_)
    refine r_if_eq (tgt := 35) dX9_passes_20 (by decide) (kt := fun z20 => ?_) (kf := fun z20 => ?_)
    · refine r_iconst dX9_passes_35 ?_
      refine r_goto (tgt := 40) dX9_passes_36 (by decide) ?_
      first
       | exact r_zret (x := true) dX9_passes_40 (rP_of (congrArg bz (show true = pas σ p h by unfold pas; symm; simp only [Bool.and_eq_true, Bool.or_eq_true, decide_eq_true_eq]; omega)))
       | exact r_zret (x := false) dX9_passes_40 (rP_of (congrArg bz (show false = pas σ p h by unfold pas; symm; simp only [Bool.and_eq_false_iff, Bool.or_eq_false_iff, decide_eq_false_iff_not]; omega)))
    · refine r_iload_n dX9_passes_23 rfl ?_
      refine r_iconst dX9_passes_24 ?_
      refine r_irem dX9_passes_25 (k := ?_)
      refine r_aload_n dX9_passes_26 rfl ?_
      refine r_getR qX9_25 dX9_passes_27 hM.o (hM.r 6) (kk := ?_)
      refine r_iload_n dX9_passes_30 rfl ?_
      refine r_iald dX9_passes_31 (hM.cc 6 11 30) rfl (hM.v 6 _ (hh)) (k := ?_)
      refine r_icmp_ne (tgt := 39) dX9_passes_32 (by decide) (kt := fun z32 => ?_) (kf := fun z32 => ?_)
      · refine r_iconst dX9_passes_39 ?_
        first
         | exact r_zret (x := true) dX9_passes_40 (rP_of (congrArg bz (show true = pas σ p h by unfold pas; symm; simp only [Bool.and_eq_true, Bool.or_eq_true, decide_eq_true_eq]; omega)))
         | exact r_zret (x := false) dX9_passes_40 (rP_of (congrArg bz (show false = pas σ p h by unfold pas; symm; simp only [Bool.and_eq_false_iff, Bool.or_eq_false_iff, decide_eq_false_iff_not]; omega)))
      · refine r_iconst dX9_passes_35 ?_
        refine r_goto (tgt := 40) dX9_passes_36 (by decide) ?_
        first
         | exact r_zret (x := true) dX9_passes_40 (rP_of (congrArg bz (show true = pas σ p h by unfold pas; symm; simp only [Bool.and_eq_true, Bool.or_eq_true, decide_eq_true_eq]; omega)))
         | exact r_zret (x := false) dX9_passes_40 (rP_of (congrArg bz (show false = pas σ p h by unfold pas; symm; simp only [Bool.and_eq_false_iff, Bool.or_eq_false_iff, decide_eq_false_iff_not]; omega)))
def opWalkTo (σ : St) (h : Int) : Rs := if ¬ bt2 h 0 (σ.1 2 - 1) then (σ, 1, 0) else if post σ h.toNat = false ∨ σ.2 4 (σ.2 5 h.toNat) = 0 then (σ, 2, 0) else if hW σ (2 ^ (σ.2 4 (σ.2 5 h.toNat) - 1)) = false then (σ, 3, 0) else (σ, 0, wto σ (2 ^ (σ.2 4 (σ.2 5 h.toNat) - 1)) h.toNat)
theorem walkTo_loop (hP : MP Y M0 σ 0 M) (hO : Ok σ T) {g h : Nat} (hW1 : hW σ g = true) (hh : h < σ.1 2) (hA : WaP Y σ g M) (k1 : kf σ g h < uN σ g) (k2 : pas σ (wP σ g (kf σ g h)) h = true) (k3 : ∀ j, j < kf σ g h → pas σ (wP σ g j) h = false) : ∀ k i : Nat, i + k = kf σ g h → SWG G iX9_walkTo (rmd 11 0 0) (QF G (MR Y M0 (σ, 0, ((wto σ g h : Nat) : Int))) nX 0 0) 80 [(4, .int (iz (i : Int))), (3, .int (iz ((tr σ g i).2 : Int))), (2, .int (iz (wS σ g i : Int))), (0, .ref (Y 0)), (1, .int (iz (h : Int)))] [] M 0 0 := by
  have hSt := hO.st
  obtain ⟨⟨p1, p2, p3, p4, p5, -⟩, hS, hH, -⟩ := id hO
  have hM := hP.1
  have hn := (hW_iff.mp hW1).1
  have hwl : wL σ g ≤ 100000 := gV_le
  obtain ⟨w1, -⟩ := wk_fin hSt p1 hW1
  obtain ⟨hF, hU, hWk⟩ := hA
  have hWk := (hWk hW1).2
  obtain ⟨h1, h2, h3, h4⟩ := hH h hh
  intro k
  induction k with
  | zero =>
    intro i hi
    have hi2 : i = kf σ g h := by omega
    rw [← hi2] at k1 k2
    obtain ⟨v1, v2, v3, -⟩ := w1 i k1
    have hws := wS_le hO hW1 i (by omega)
    obtain ⟨f1, f2, f3, f4⟩ := fr_lt hSt v3
    have hpas := k2
    unfold pas at hpas
    rw [Bool.and_eq_true, decide_eq_true_eq] at hpas
    have hln : ln σ (wP σ g i) = σ.2 3 (σ.2 5 h) := by unfold ln; rw [hpas.1]
    have hw : ((wto σ g h : Nat) : Int) = wS σ g i + dst σ (tr σ g i).2 (fr σ (wP σ g i)) + part σ (wP σ g i) h := by unfold wto; rw [← hi2]; omega
    refine r_aload_n dX9_walkTo_80 rfl ?_
    refine r_aload_n dX9_walkTo_81 rfl ?_
    refine r_getR qX9_69 dX9_walkTo_82 hM.o (hM.r 29) (kk := ?_)
    refine r_iload dX9_walkTo_85 rfl ?_
    refine r_iald dX9_walkTo_87 (hM.cc 29 11 8) rfl (hWk i (by omega)) (k := ?_)
    refine r_iload_n dX9_walkTo_88 rfl ?_
    refine r_callV (mi := iX9_walkTo) vX9_211 dX9_walkTo_89 hM.o (m_passes hM hO (wP σ g i) h v3 hh) (hm := ⟨by omega, by omega⟩) (k := kP ?_) (kx := r_nox)
    refine r_bif_ne (tgt := 152) dX9_walkTo_92 (by decide) (kt := fun z92 => ?_) (kf := fun z92 => absurd (k2.symm.trans z92) Bool.noConfusion)
    refine r_aload_n dX9_walkTo_152 rfl ?_
    refine r_getR qX9_69 dX9_walkTo_153 hM.o (hM.r 29) (kk := ?_)
    refine r_iload dX9_walkTo_156 rfl ?_
    refine r_iald dX9_walkTo_158 (hM.cc 29 11 8) rfl (hWk i (by omega)) (k := ?_)
    refine r_iconst dX9_walkTo_159 ?_
    refine r_irem dX9_walkTo_160 (k := ?_)
    refine r_if_ne (tgt := 173) dX9_walkTo_161 (by decide) (kt := fun z161 => ?_) (kf := fun z161 => ?_)
    · refine r_aload_n dX9_walkTo_173 rfl ?_
      refine r_getR qX9_16 dX9_walkTo_174 hM.o (hM.r 3) (kk := ?_)
      refine r_aload_n dX9_walkTo_177 rfl ?_
      refine r_getR qX9_69 dX9_walkTo_178 hM.o (hM.r 29) (kk := ?_)
      refine r_iload dX9_walkTo_181 rfl ?_
      refine r_iald dX9_walkTo_183 (hM.cc 29 11 8) rfl (hWk i (by omega)) (k := ?_)
      refine r_iconst dX9_walkTo_184 ?_
      refine r_idiv dX9_walkTo_185 (k := ?_)
      refine r_iald dX9_walkTo_186 (hM.cc 3 11 16) (j := wP σ g i / 2) (by omega) (v := iz (ln σ (wP σ g i) : Int)) (hM.v 3 _ v3) (k := ?_)
      refine r_aload_n dX9_walkTo_187 rfl ?_
      refine r_getR qX9_28 dX9_walkTo_188 hM.o (hM.r 7) (kk := ?_)
      refine r_iload_n dX9_walkTo_191 rfl ?_
      refine r_iald dX9_walkTo_192 (hM.cc 7 11 30) rfl (hM.v 7 _ (hh)) (k := ?_)
      refine r_isub dX9_walkTo_193 ?_
      refine r_istore dX9_walkTo_194 (k := ?_)
      refine r_iload_n dX9_walkTo_196 rfl ?_
      refine r_aload_n dX9_walkTo_197 rfl ?_
      refine r_getR qX9_60 dX9_walkTo_198 hM.o (hM.r 25) (kk := ?_)
      refine r_bipush dX9_walkTo_201 (k := ?_)
      refine r_iload_n dX9_walkTo_203 rfl ?_
      refine r_imul dX9_walkTo_204 ?_
      refine r_aload_n dX9_walkTo_205 rfl ?_
      refine r_aload_n dX9_walkTo_206 rfl ?_
      refine r_getR qX9_69 dX9_walkTo_207 hM.o (hM.r 29) (kk := ?_)
      refine r_iload dX9_walkTo_210 rfl ?_
      refine r_iald dX9_walkTo_212 (hM.cc 29 11 8) rfl (hWk i (by omega)) (k := ?_)
      refine r_callV (mi := iX9_walkTo) vX9_172 dX9_walkTo_213 hM.o (m_from hM hO (wP σ g i) v3) (hm := ⟨by omega, by omega⟩) (k := kP ?_) (kx := r_nox)
      refine r_iadd dX9_walkTo_216 ?_
      refine r_iald dX9_walkTo_217 (hM.cc 25 11 100) (j := 10 * (tr σ g i).2 + fr σ (wP σ g i)) (by omega) (hF _ _ v1 f1) (k := ?_)
      refine r_iadd dX9_walkTo_218 ?_
      refine r_iload dX9_walkTo_219 rfl ?_
      refine r_iadd dX9_walkTo_221 ?_
      exact r_iret dX9_walkTo_222 (mr_of hP rfl (fun _ => congrArg iz (by rw [hw]; unfold part; first | (rw [if_pos (by omega)]; done) | (rw [if_neg (by omega)]; omega))))
    · refine r_aload_n dX9_walkTo_164 rfl ?_
      refine r_getR qX9_28 dX9_walkTo_165 hM.o (hM.r 7) (kk := ?_)
      refine r_iload_n dX9_walkTo_168 rfl ?_
      refine r_iald dX9_walkTo_169 (hM.cc 7 11 30) rfl (hM.v 7 _ (hh)) (k := ?_)
      refine r_goto (tgt := 194) dX9_walkTo_170 (by decide) ?_
      refine r_istore dX9_walkTo_194 (k := ?_)
      refine r_iload_n dX9_walkTo_196 rfl ?_
      refine r_aload_n dX9_walkTo_197 rfl ?_
      refine r_getR qX9_60 dX9_walkTo_198 hM.o (hM.r 25) (kk := ?_)
      refine r_bipush dX9_walkTo_201 (k := ?_)
      refine r_iload_n dX9_walkTo_203 rfl ?_
      refine r_imul dX9_walkTo_204 ?_
      refine r_aload_n dX9_walkTo_205 rfl ?_
      refine r_aload_n dX9_walkTo_206 rfl ?_
      refine r_getR qX9_69 dX9_walkTo_207 hM.o (hM.r 29) (kk := ?_)
      refine r_iload dX9_walkTo_210 rfl ?_
      refine r_iald dX9_walkTo_212 (hM.cc 29 11 8) rfl (hWk i (by omega)) (k := ?_)
      refine r_callV (mi := iX9_walkTo) vX9_172 dX9_walkTo_213 hM.o (m_from hM hO (wP σ g i) v3) (hm := ⟨by omega, by omega⟩) (k := kP ?_) (kx := r_nox)
      refine r_iadd dX9_walkTo_216 ?_
      refine r_iald dX9_walkTo_217 (hM.cc 25 11 100) (j := 10 * (tr σ g i).2 + fr σ (wP σ g i)) (by omega) (hF _ _ v1 f1) (k := ?_)
      refine r_iadd dX9_walkTo_218 ?_
      refine r_iload dX9_walkTo_219 rfl ?_
      refine r_iadd dX9_walkTo_221 ?_
      exact r_iret dX9_walkTo_222 (mr_of hP rfl (fun _ => congrArg iz (by rw [hw]; unfold part; first | (rw [if_pos (by omega)]; done) | (rw [if_neg (by omega)]; omega))))
  | succ k ih =>
    intro i hi
    obtain ⟨v1, v2, v3, -⟩ := w1 i (by omega)
    have hws := wS_le hO hW1 i (by omega)
    obtain ⟨f1, f2, f3, f4⟩ := fr_lt hSt v3
    have hk3 := k3 i (by omega)
    refine r_aload_n dX9_walkTo_80 rfl ?_
    refine r_aload_n dX9_walkTo_81 rfl ?_
    refine r_getR qX9_69 dX9_walkTo_82 hM.o (hM.r 29) (kk := ?_)
    refine r_iload dX9_walkTo_85 rfl ?_
    refine r_iald dX9_walkTo_87 (hM.cc 29 11 8) rfl (hWk i (by omega)) (k := ?_)
    refine r_iload_n dX9_walkTo_88 rfl ?_
    refine r_callV (mi := iX9_walkTo) vX9_211 dX9_walkTo_89 hM.o (m_passes hM hO (wP σ g i) h v3 hh) (hm := ⟨by omega, by omega⟩) (k := kP ?_) (kx := r_nox)
    refine r_bif_ne (tgt := 152) dX9_walkTo_92 (by decide) (kf := fun z92 => ?_) (kt := fun z92 => absurd (hk3.symm.trans z92) Bool.noConfusion)
    refine r_iload_n dX9_walkTo_95 rfl ?_
    refine r_aload_n dX9_walkTo_96 rfl ?_
    refine r_getR qX9_60 dX9_walkTo_97 hM.o (hM.r 25) (kk := ?_)
    refine r_bipush dX9_walkTo_100 (k := ?_)
    refine r_iload_n dX9_walkTo_102 rfl ?_
    refine r_imul dX9_walkTo_103 ?_
    refine r_aload_n dX9_walkTo_104 rfl ?_
    refine r_aload_n dX9_walkTo_105 rfl ?_
    refine r_getR qX9_69 dX9_walkTo_106 hM.o (hM.r 29) (kk := ?_)
    refine r_iload dX9_walkTo_109 rfl ?_
    refine r_iald dX9_walkTo_111 (hM.cc 29 11 8) rfl (hWk i (by omega)) (k := ?_)
    refine r_callV (mi := iX9_walkTo) vX9_172 dX9_walkTo_112 hM.o (m_from hM hO (wP σ g i) v3) (hm := ⟨by omega, by omega⟩) (k := kP ?_) (kx := r_nox)
    refine r_iadd dX9_walkTo_115 ?_
    refine r_iald dX9_walkTo_116 (hM.cc 25 11 100) (j := 10 * (tr σ g i).2 + fr σ (wP σ g i)) (by omega) (hF _ _ v1 f1) (k := ?_)
    refine r_aload_n dX9_walkTo_117 rfl ?_
    refine r_getR qX9_16 dX9_walkTo_118 hM.o (hM.r 3) (kk := ?_)
    refine r_aload_n dX9_walkTo_121 rfl ?_
    refine r_getR qX9_69 dX9_walkTo_122 hM.o (hM.r 29) (kk := ?_)
    refine r_iload dX9_walkTo_125 rfl ?_
    refine r_iald dX9_walkTo_127 (hM.cc 29 11 8) rfl (hWk i (by omega)) (k := ?_)
    refine r_iconst dX9_walkTo_128 ?_
    refine r_idiv dX9_walkTo_129 (k := ?_)
    refine r_iald dX9_walkTo_130 (hM.cc 3 11 16) (j := wP σ g i / 2) (by omega) (v := iz (ln σ (wP σ g i) : Int)) (hM.v 3 _ v3) (k := ?_)
    refine r_iadd dX9_walkTo_131 ?_
    refine r_iadd dX9_walkTo_132 ?_
    refine r_istore_n dX9_walkTo_133 (k := ?_)
    refine r_aload_n dX9_walkTo_134 rfl ?_
    refine r_aload_n dX9_walkTo_135 rfl ?_
    refine r_getR qX9_69 dX9_walkTo_136 hM.o (hM.r 29) (kk := ?_)
    refine r_iload dX9_walkTo_139 rfl ?_
    refine r_iald dX9_walkTo_141 (hM.cc 29 11 8) rfl (hWk i (by omega)) (k := ?_)
    refine r_callV (mi := iX9_walkTo) vX9_175 dX9_walkTo_142 hM.o (m_to hM hO (wP σ g i) v3) (hm := ⟨by omega, by omega⟩) (k := kP ?_) (kx := r_nox)
    refine r_istore_n dX9_walkTo_145 (k := ?_)
    refine r_iinc dX9_walkTo_146 rfl (k := ?_)
    refine r_goto (tgt := 80) dX9_walkTo_149 (by decide) ?_
    exact r_loc' (ih (i + 1) (by omega)) ⟨rfl, rfl, lkI (show _ = ((wS σ g i + (dst σ (tr σ g i).2 (fr σ (wP σ g i)) + ln σ (wP σ g i)) : Nat) : Int) by omega), rfl, rfl, trivial⟩
theorem m_walkTo (hM : RM M Y σ) (hO : Ok σ T) (h : Int) (ha : inR h) : Ht G iX9_walkTo yX9_walkTo 11 [.ref (Y 0), .int (iz h)] M (MR Y M (opWalkTo σ h)) nX 0 0 := by
  have hSt := hO.st
  obtain ⟨⟨p1, p2, p3, p4, p5, -⟩, hS, hH, -⟩ := id hO
  refine ht_intro (by decide +kernel) rfl rfl rfl (Nat.le_of_ble_eq_true rfl) ?_
  refine r_aload_n dX9_walkTo_0 rfl ?_
  refine r_iconst dX9_walkTo_1 ?_
  refine r_putI qX9_81 dX9_walkTo_2 hM.o (kk := ?_)
  refine gm (P := MP Y M σ 0) (mp0 hM) (fun M1 hP => ?_)
  have hM := hP.1
  refine r_aload_n dX9_walkTo_5 rfl ?_
  refine r_iload_n dX9_walkTo_6 rfl ?_
  refine r_callV (mi := iX9_walkTo) vX9_114 dX9_walkTo_7 hM.o (m_isHouse hM (by omega) h ha) (hm := ⟨by omega, by omega⟩) (k := kP ?_) (kx := r_nox)
  refine r_dif_ne (tgt := 19) dX9_walkTo_10 (by decide) (kt := fun z10 => ?_) (kf := fun z10 => ?_)
  · obtain ⟨h, rfl⟩ := nat_of (a := h) (by omega)
    have hh : h < σ.1 2 := by omega
    obtain ⟨h1, h2, h3, h4⟩ := hH h hh
    obtain ⟨-, -, -, s4, s5, -, s7⟩ := hS _ h1
    refine r_aload_n dX9_walkTo_19 rfl ?_
    refine r_iload_n dX9_walkTo_20 rfl ?_
    refine r_callV (mi := iX9_walkTo) vX9_123 dX9_walkTo_21 hM.o (m_isDueNow hM hO h hh) (hm := ⟨by omega, by omega⟩) (k := kP ?_) (kx := r_nox)
    refine r_bif_eq (tgt := 41) dX9_walkTo_24 (by decide) (kt := fun z24 => ?_) (kf := fun z24 => ?_)
    · refine r_aload_n dX9_walkTo_41 rfl ?_
      refine r_iconst dX9_walkTo_42 ?_
      refine r_callV (mi := iX9_walkTo) vX9_100 dX9_walkTo_43 hM.o (m_fails hM.o 2) (hm := ⟨by omega, by omega⟩) (k := kP ?_) (kx := r_nox)
      exact r_iret dX9_walkTo_46 (mr_of (mpf hP 2) (by unfold opWalkTo; rw [if_neg (by omega), Int.toNat_natCast, if_pos (by first | exact Or.inl z24 | exact Or.inr (by omega))]) (fun h => absurd h (by decide)))
    · refine r_aload_n dX9_walkTo_27 rfl ?_
      refine r_getR qX9_19 dX9_walkTo_28 hM.o (hM.r 4) (kk := ?_)
      refine r_aload_n dX9_walkTo_31 rfl ?_
      refine r_getR qX9_22 dX9_walkTo_32 hM.o (hM.r 5) (kk := ?_)
      refine r_iload_n dX9_walkTo_35 rfl ?_
      refine r_iald dX9_walkTo_36 (hM.cc 5 11 30) rfl (hM.v 5 _ (hh)) (k := ?_)
      refine r_iald dX9_walkTo_37 (hM.cc 4 11 16) rfl (hM.v4 _ (h1)) (k := ?_)
      refine r_if_ge (tgt := 47) dX9_walkTo_38 (by decide) (kt := fun z38 => ?_) (kf := fun z38 => ?_)
      · have hne : ¬ (post σ h = false ∨ σ.2 4 (σ.2 5 h) = 0) := by rw [z24]; simp; omega
        have hgi : inG σ (σ.2 5 h) (2 ^ (σ.2 4 (σ.2 5 h) - 1)) = true := by unfold inG; rw [Nat.testBit_two_pow_self, bne_iff_ne.mpr (by omega)]; rfl
        refine r_aload_n dX9_walkTo_47 rfl ?_
        refine r_iconst dX9_walkTo_48 ?_
        refine r_aload_n dX9_walkTo_49 rfl ?_
        refine r_getR qX9_19 dX9_walkTo_50 hM.o (hM.r 4) (kk := ?_)
        refine r_aload_n dX9_walkTo_53 rfl ?_
        refine r_getR qX9_22 dX9_walkTo_54 hM.o (hM.r 5) (kk := ?_)
        refine r_iload_n dX9_walkTo_57 rfl ?_
        refine r_iald dX9_walkTo_58 (hM.cc 5 11 30) rfl (hM.v 5 _ (hh)) (k := ?_)
        refine r_iald dX9_walkTo_59 (hM.cc 4 11 16) rfl (hM.v4 _ (h1)) (k := ?_)
        refine r_ishl dX9_walkTo_60 (sl_1 (r := σ.2 4 (σ.2 5 h) - 1) (by omega) (by omega)) ?_
        refine r_callV (mi := iX9_walkTo) vX9_187 dX9_walkTo_61 hM.o (m_walks hM hO (2 ^ (σ.2 4 (σ.2 5 h) - 1)) (two_lt (by omega))) (hm := ⟨by omega, by omega⟩) (k := kI (fun x M2 hP2 => ?_)) (kx := r_nox)
        obtain ⟨hW2, hx⟩ := hP2
        subst hx
        have hA := (hW2.mp hP).2
        have hP := (hW2.mp hP).1
        have hM := hP.1
        refine r_bif_ne (tgt := 73) dX9_walkTo_64 (by decide) (kt := fun z64 => ?_) (kf := fun z64 => ?_)
        · obtain ⟨k1, k2, k3⟩ := kf_ex hO z64 hh (by rcases Bool.eq_false_or_eq_true (post σ h) with e | e; exact e; exact absurd (Or.inl e) hne) hgi
          have hres : opWalkTo σ (h : Int) = (σ, 0, ((wto σ (2 ^ (σ.2 4 (σ.2 5 h) - 1)) h : Nat) : Int)) := by unfold opWalkTo; rw [if_neg (by omega), Int.toNat_natCast, if_neg hne, if_neg (by rw [z64]; exact nofun)]
          rw [hres]
          refine r_iconst dX9_walkTo_73 ?_
          refine r_istore_n dX9_walkTo_74 (k := ?_)
          refine r_iconst dX9_walkTo_75 ?_
          refine r_istore_n dX9_walkTo_76 (k := ?_)
          refine r_iconst dX9_walkTo_77 ?_
          refine r_istore dX9_walkTo_78 (k := ?_)
          exact r_loc' (walkTo_loop hP hO z64 hh hA k1 k2 k3 (kf σ (2 ^ (σ.2 4 (σ.2 5 h) - 1)) h) 0 (by omega)) ⟨rfl, rfl, rfl, rfl, rfl, trivial⟩
        · refine r_aload_n dX9_walkTo_67 rfl ?_
          refine r_iconst dX9_walkTo_68 ?_
          refine r_callV (mi := iX9_walkTo) vX9_100 dX9_walkTo_69 hM.o (m_fails hM.o 3) (hm := ⟨by omega, by omega⟩) (k := kP ?_) (kx := r_nox)
          exact r_iret dX9_walkTo_72 (mr_of (mpf hP 3) (by unfold opWalkTo; rw [if_neg (by omega), Int.toNat_natCast, if_neg hne, if_pos z64]) (fun h => absurd h (by decide)))
      · refine r_aload_n dX9_walkTo_41 rfl ?_
        refine r_iconst dX9_walkTo_42 ?_
        refine r_callV (mi := iX9_walkTo) vX9_100 dX9_walkTo_43 hM.o (m_fails hM.o 2) (hm := ⟨by omega, by omega⟩) (k := kP ?_) (kx := r_nox)
        exact r_iret dX9_walkTo_46 (mr_of (mpf hP 2) (by unfold opWalkTo; rw [if_neg (by omega), Int.toNat_natCast, if_pos (by first | exact Or.inl z24 | exact Or.inr (by omega))]) (fun h => absurd h (by decide)))
  · refine r_aload_n dX9_walkTo_13 rfl ?_
    refine r_iconst dX9_walkTo_14 ?_
    refine r_callV (mi := iX9_walkTo) vX9_100 dX9_walkTo_15 hM.o (m_fails hM.o 1) (hm := ⟨by omega, by omega⟩) (k := kP ?_) (kx := r_nox)
    exact r_iret dX9_walkTo_18 (mr_of (mpf hP 1) (by unfold opWalkTo; repeat (first | rw [if_pos (by omega)] | rw [if_neg (by omega)])) (fun h => absurd h (by decide)))
/-- handed over so far -/
def dlF (σ : St) (g i q : Nat) : Nat := if q < i ∧ lightB σ g q = true then 1 else σ.2 14 q
def leF (σ : St) (g i h : Nat) : Nat := if h < i ∧ inG σ (σ.2 5 h) g = true then 0 else σ.2 8 h
theorem ok_14 (hO : Ok σ T) {F : Nat → Nat} (hF : ∀ q, q < σ.1 4 → F q ≤ 1) : Ok (stF σ 14 F) T := by
  obtain ⟨h1, h2, h3, h4, h5⟩ := hO
  refine ⟨h1, h2, h3, h4, fun q hq => ?_⟩
  obtain ⟨a1, a2, a3, a4, a5, a6⟩ := h5 q hq
  exact ⟨a1, a2, a3, a4, a5, hF q hq⟩
theorem ok_8 (hO : Ok σ T) {F : Nat → Nat} (hF : ∀ h, h < σ.1 2 → F h ≤ 99) (hF2 : ∀ h, σ.1 2 ≤ h → F h = 0) : Ok (stF σ 8 F) T := by
  obtain ⟨⟨g1, g2, g3, g4, g5, g6, g7, g8, g9, g10, g11, g12, g13, g14, g15⟩, h2, h3, h4, h5⟩ := hO
  refine ⟨⟨g1, g2, g3, g4, g5, g6, g7, g8, g9, g10, g11, g12, g13, g14, hF2⟩, h2, fun h hh => ?_, h4, h5⟩
  obtain ⟨a1, a2, a3, a4⟩ := h3 h hh
  exact ⟨a1, a2, a3, hF h hh⟩
theorem or_t {x : Nat} (h : x ≤ 1) : iz (x : Int) ||| iz 1 = bz true := by
  rcases Nat.lt_or_ge x 1 with e | e
  · rw [show x = 0 by omega]; decide +kernel
  · rw [show x = 1 by omega]; decide +kernel
theorem or_f {x : Nat} (h : x ≤ 1) : iz (x : Int) ||| iz 0 = bz (decide (x = 1)) := by
  rcases Nat.lt_or_ge x 1 with e | e
  · rw [show x = 0 by omega]; decide +kernel
  · rw [show x = 1 by omega]; decide +kernel
theorem dlF_le (hO : Ok σ T) (g i : Nat) : ∀ q, q < σ.1 4 → dlF σ g i q ≤ 1 := fun q hq => by
  have := (hO.2.2.2.2 q hq).2.2.2.2.2
  unfold dlF; split <;> omega
theorem stF_id (σ : St) (k : Nat) : stF σ k (σ.2 k) = σ := Prod.ext rfl (funext fun j => by
  by_cases e : j = k
  · subst e; exact up_s _ _ _
  · exact up_n _ _ e)
theorem iz_long {w : Nat} (h : w < 2147483648) : (iz (w : Int)).toInt64 = lN w := by
  apply Int64.toInt_inj.mp
  rw [Int32.toInt_toInt64, iz_toInt ⟨by omega, by omega⟩]
  show (w : Int) = (BitVec.ofNat 64 w).toInt
  rw [BitVec.toInt_eq_toNat_cond, BitVec.toNat_ofNat]
  split <;> omega
def opDeliver (σ : St) (r : Int) : Rs := if ¬ bt2 r 0 (σ.1 3 - 1) then (σ, 1, 0) else if hW σ (2 ^ r.toNat) = false ∨ σ.2 9 r.toNat < wT σ (2 ^ r.toNat) then (σ, 2, 0) else
  (stS (stF (stF σ 14 (dlF σ (2 ^ r.toNat) (σ.1 4))) 8 (leF σ (2 ^ r.toNat) (σ.1 2))) 9 (σ.1 9 + wL σ (2 ^ r.toNat)), 0, dueN σ (2 ^ r.toNat))
theorem dlv1 (hO : Ok σ T) (g : Nat) (hg : g < 16) {w : Nat} {v1 v3 : Int32} (kk : ∀ M1, MP Y M0 (stF σ 14 (dlF σ g (σ.1 4))) 0 M1 → mI M1 606 (Y 0) = iz (w : Int) → SWG G iX9_deliver (rmd 11 0 0) Qf 114 [(0, .ref (Y 0)), (1, .int v1), (2, .int (iz (g : Int))), (3, .int v3)] [] M1 0 0) : ∀ (k i : Nat) (M1 : Mem), i + k = σ.1 4 → MP Y M0 (stF σ 14 (dlF σ g i)) 0 M1 → mI M1 606 (Y 0) = iz (w : Int) → SWG G iX9_deliver (rmd 11 0 0) Qf 60 [(4, .int (iz (i : Int))), (0, .ref (Y 0)), (1, .int v1), (2, .int (iz (g : Int))), (3, .int v3)] [] M1 0 0 := by
  intro k
  induction k with
  | zero =>
    intro i M1 hi hP hI
    have hi2 : i = σ.1 4 := by omega
    subst hi2
    have p6 := hO.1.2.2.2.2.2.1
    have hM := hP.1
    refine r_iload dX9_deliver_60 rfl ?_
    refine r_aload_n dX9_deliver_62 rfl ?_
    refine r_getI qX9_97 dX9_deliver_63 hM.o (x := iz (σ.1 4 : Int)) (hM.s 4) (kk := ?_)
    refine r_icmp_ge (tgt := 114) dX9_deliver_66 (by decide) (kt := fun z66 => ?_) (kf := fun z66 => (by exfalso; first | omega | simp_all))
    exact r_loc' (kk M1 hP hI) ⟨rfl, rfl, rfl, rfl, trivial⟩
  | succ k ih =>
    intro i M1 hi hP hI
    have p6 := hO.1.2.2.2.2.2.1
    have p4 := hO.1.2.2.2.1
    have hi3 : i < σ.1 4 := by omega
    have hq := (hO.2.2.2.2 i hi3).1
    have hM := hP.1
    have hO2 := ok_14 hO (dlF_le hO g i)
    have e14 : dlF σ g i i = σ.2 14 i := if_neg (by omega)
    have hl14 : σ.2 14 i ≤ 1 := (hO.2.2.2.2 i hi3).2.2.2.2.2
    have el : light (stF σ 14 (dlF σ g i)) i = light σ i := by
      show ((dlF σ g i i == 0) && decide (σ.2 11 i ≤ σ.1 5)) = _
      rw [e14]; rfl
    have v14 : mA M1 (Y 14) i = iz (σ.2 14 i : Int) := (hM.v 14 i hi3).trans (by show iz (dlF σ g i i : Int) = _; rw [e14])
    refine r_iload dX9_deliver_60 rfl ?_
    refine r_aload_n dX9_deliver_62 rfl ?_
    refine r_getI qX9_97 dX9_deliver_63 hM.o (x := iz (σ.1 4 : Int)) (hM.s 4) (kk := ?_)
    refine r_icmp_ge (tgt := 114) dX9_deliver_66 (by decide) (kt := fun z66 => (by exfalso; first | omega | simp_all)) (kf := fun z66 => ?_)
    refine r_aload_n dX9_deliver_69 rfl ?_
    refine r_getR qX9_50 dX9_deliver_70 hM.o (hM.r 14) (kk := ?_)
    refine r_iload dX9_deliver_73 rfl ?_
    refine r_dup2 dX9_deliver_75 (k := ?_)
    refine r_zald dX9_deliver_76 (hM.cc 14 12 20) rfl v14 (k := ?_)
    refine r_aload_n dX9_deliver_77 rfl ?_
    refine r_aload_n dX9_deliver_78 rfl ?_
    refine r_getR qX9_37 dX9_deliver_79 hM.o (hM.r 10) (kk := ?_)
    refine r_iload dX9_deliver_82 rfl ?_
    refine r_iald dX9_deliver_84 (hM.cc 10 11 20) rfl (v := iz (σ.2 10 i : Int)) (hM.v 10 i hi3) (k := ?_)
    refine r_iload_n dX9_deliver_85 rfl ?_
    refine r_callV (mi := iX9_deliver) vX9_129 dX9_deliver_86 hM.o (m_isAt hM hO2 (σ.2 10 i) g hq hg) (hm := ⟨by omega, by omega⟩) (k := kP ?_) (kx := r_nox)
    refine r_bif_eq (tgt := 105) dX9_deliver_89 (by decide) (kt := fun z89 => ?_) (kf := fun z89 => ?_)
    · refine r_iconst dX9_deliver_105 ?_
      first
       | refine r_ior dX9_deliver_106 (or_t hl14) ?_
       | refine r_ior dX9_deliver_106 (or_f hl14) ?_
      refine r_zast dX9_deliver_107 (hM.cc 14 12 20) rfl (k := ?_)
      refine r_iinc dX9_deliver_108 rfl (k := ?_)
      refine r_goto (tgt := 60) dX9_deliver_111 (by decide) ?_
      refine r_loc' (ih (i + 1) _ (by omega) ?_ hI) ⟨rfl, rfl, rfl, rfl, rfl, trivial⟩
      rw [← stF_stF σ 14 (dlF σ g i)]
      refine mp_a hP 14 (fun q hq2 => ?_)
      by_cases e : q = i
      · subst e
        simp only [upd, if_true]
        have hlb : lightB σ g q = (inG σ (σ.2 5 (σ.2 10 q)) g && light σ q) := rfl
        first
          | (have e1 : lightB σ g q = true := by rw [hlb, ← el]; exact (Bool.and_eq_true _ _).mpr ⟨z89, z98⟩
             rw [show dlF σ g (q + 1) q = 1 from if_pos ⟨by omega, e1⟩]; rfl)
          | (have e1 : ¬ lightB σ g q = true := by rw [hlb, ← el, z98, Bool.and_false]; exact Bool.false_ne_true
             rw [show dlF σ g (q + 1) q = σ.2 14 q from if_neg (fun h => e1 h.2)]
             rcases Nat.lt_or_ge (σ.2 14 q) 1 with e2 | e2
             · rw [show σ.2 14 q = 0 by omega]; rfl
             · rw [show σ.2 14 q = 1 by omega]; rfl)
          | (have e1 : ¬ lightB σ g q = true := by rw [hlb, show inG σ (σ.2 5 (σ.2 10 q)) g = false from z89, Bool.false_and]; exact Bool.false_ne_true
             rw [show dlF σ g (q + 1) q = σ.2 14 q from if_neg (fun h => e1 h.2)]
             rcases Nat.lt_or_ge (σ.2 14 q) 1 with e2 | e2
             · rw [show σ.2 14 q = 0 by omega]; rfl
             · rw [show σ.2 14 q = 1 by omega]; rfl)
      · simp only [upd, if_neg e]
        rw [hM.v 14 q hq2, stF_at]
        show iz _ = iz _
        congr 2
        unfold dlF
        by_cases e2 : q < i ∧ lightB σ g q = true
        · rw [if_pos e2, if_pos ⟨by omega, e2.2⟩]
        · rw [if_neg e2, if_neg (fun h => e2 ⟨by omega, h.2⟩)]
    · refine r_aload_n dX9_deliver_92 rfl ?_
      refine r_iload dX9_deliver_93 rfl ?_
      refine r_callV (mi := iX9_deliver) vX9_117 dX9_deliver_95 hM.o (m_isLight hM hO2 i hi3) (hm := ⟨by omega, by omega⟩) (k := kP ?_) (kx := r_nox)
      refine r_bif_eq (tgt := 105) dX9_deliver_98 (by decide) (kt := fun z98 => ?_) (kf := fun z98 => ?_)
      · refine r_iconst dX9_deliver_105 ?_
        first
         | refine r_ior dX9_deliver_106 (or_t hl14) ?_
         | refine r_ior dX9_deliver_106 (or_f hl14) ?_
        refine r_zast dX9_deliver_107 (hM.cc 14 12 20) rfl (k := ?_)
        refine r_iinc dX9_deliver_108 rfl (k := ?_)
        refine r_goto (tgt := 60) dX9_deliver_111 (by decide) ?_
        refine r_loc' (ih (i + 1) _ (by omega) ?_ hI) ⟨rfl, rfl, rfl, rfl, rfl, trivial⟩
        rw [← stF_stF σ 14 (dlF σ g i)]
        refine mp_a hP 14 (fun q hq2 => ?_)
        by_cases e : q = i
        · subst e
          simp only [upd, if_true]
          have hlb : lightB σ g q = (inG σ (σ.2 5 (σ.2 10 q)) g && light σ q) := rfl
          first
            | (have e1 : lightB σ g q = true := by rw [hlb, ← el]; exact (Bool.and_eq_true _ _).mpr ⟨z89, z98⟩
               rw [show dlF σ g (q + 1) q = 1 from if_pos ⟨by omega, e1⟩]; rfl)
            | (have e1 : ¬ lightB σ g q = true := by rw [hlb, ← el, z98, Bool.and_false]; exact Bool.false_ne_true
               rw [show dlF σ g (q + 1) q = σ.2 14 q from if_neg (fun h => e1 h.2)]
               rcases Nat.lt_or_ge (σ.2 14 q) 1 with e2 | e2
               · rw [show σ.2 14 q = 0 by omega]; rfl
               · rw [show σ.2 14 q = 1 by omega]; rfl)
            | (have e1 : ¬ lightB σ g q = true := by rw [hlb, show inG σ (σ.2 5 (σ.2 10 q)) g = false from z89, Bool.false_and]; exact Bool.false_ne_true
               rw [show dlF σ g (q + 1) q = σ.2 14 q from if_neg (fun h => e1 h.2)]
               rcases Nat.lt_or_ge (σ.2 14 q) 1 with e2 | e2
               · rw [show σ.2 14 q = 0 by omega]; rfl
               · rw [show σ.2 14 q = 1 by omega]; rfl)
        · simp only [upd, if_neg e]
          rw [hM.v 14 q hq2, stF_at]
          show iz _ = iz _
          congr 2
          unfold dlF
          by_cases e2 : q < i ∧ lightB σ g q = true
          · rw [if_pos e2, if_pos ⟨by omega, e2.2⟩]
          · rw [if_neg e2, if_neg (fun h => e2 ⟨by omega, h.2⟩)]
      · refine r_iconst dX9_deliver_101 ?_
        refine r_goto (tgt := 106) dX9_deliver_102 (by decide) ?_
        first
         | refine r_ior dX9_deliver_106 (or_t hl14) ?_
         | refine r_ior dX9_deliver_106 (or_f hl14) ?_
        refine r_zast dX9_deliver_107 (hM.cc 14 12 20) rfl (k := ?_)
        refine r_iinc dX9_deliver_108 rfl (k := ?_)
        refine r_goto (tgt := 60) dX9_deliver_111 (by decide) ?_
        refine r_loc' (ih (i + 1) _ (by omega) ?_ hI) ⟨rfl, rfl, rfl, rfl, rfl, trivial⟩
        rw [← stF_stF σ 14 (dlF σ g i)]
        refine mp_a hP 14 (fun q hq2 => ?_)
        by_cases e : q = i
        · subst e
          simp only [upd, if_true]
          have hlb : lightB σ g q = (inG σ (σ.2 5 (σ.2 10 q)) g && light σ q) := rfl
          first
            | (have e1 : lightB σ g q = true := by rw [hlb, ← el]; exact (Bool.and_eq_true _ _).mpr ⟨z89, z98⟩
               rw [show dlF σ g (q + 1) q = 1 from if_pos ⟨by omega, e1⟩]; rfl)
            | (have e1 : ¬ lightB σ g q = true := by rw [hlb, ← el, z98, Bool.and_false]; exact Bool.false_ne_true
               rw [show dlF σ g (q + 1) q = σ.2 14 q from if_neg (fun h => e1 h.2)]
               rcases Nat.lt_or_ge (σ.2 14 q) 1 with e2 | e2
               · rw [show σ.2 14 q = 0 by omega]; rfl
               · rw [show σ.2 14 q = 1 by omega]; rfl)
            | (have e1 : ¬ lightB σ g q = true := by rw [hlb, show inG σ (σ.2 5 (σ.2 10 q)) g = false from z89, Bool.false_and]; exact Bool.false_ne_true
               rw [show dlF σ g (q + 1) q = σ.2 14 q from if_neg (fun h => e1 h.2)]
               rcases Nat.lt_or_ge (σ.2 14 q) 1 with e2 | e2
               · rw [show σ.2 14 q = 0 by omega]; rfl
               · rw [show σ.2 14 q = 1 by omega]; rfl)
        · simp only [upd, if_neg e]
          rw [hM.v 14 q hq2, stF_at]
          show iz _ = iz _
          congr 2
          unfold dlF
          by_cases e2 : q < i ∧ lightB σ g q = true
          · rw [if_pos e2, if_pos ⟨by omega, e2.2⟩]
          · rw [if_neg e2, if_neg (fun h => e2 ⟨by omega, h.2⟩)]
theorem dlv2 (hO : Ok σ T) (g : Nat) (hg : g < 16) {w : Nat} {v1 v3 : Int32} {F : Nat → Nat} (hFl : ∀ q, q < σ.1 4 → F q ≤ 1) (kk : ∀ M1, MP Y M0 (stF (stF σ 14 F) 8 (leF σ g (σ.1 2))) 0 M1 → mI M1 606 (Y 0) = iz (w : Int) → SWG G iX9_deliver (rmd 11 0 0) Qf 160 [(0, .ref (Y 0)), (1, .int v1), (2, .int (iz (g : Int))), (3, .int v3)] [] M1 0 0) : ∀ (k i : Nat) (M1 : Mem), i + k = σ.1 2 → MP Y M0 (stF (stF σ 14 F) 8 (leF σ g i)) 0 M1 → mI M1 606 (Y 0) = iz (w : Int) → SWG G iX9_deliver (rmd 11 0 0) Qf 117 [(4, .int (iz (i : Int))), (0, .ref (Y 0)), (1, .int v1), (2, .int (iz (g : Int))), (3, .int v3)] [] M1 0 0 := by
  have p15 : ∀ i, σ.1 2 ≤ i → σ.2 8 i = 0 := hO.1.2.2.2.2.2.2.2.2.2.2.2.2.2.2
  intro k
  induction k with
  | zero =>
    intro i M1 hi hP hI
    have hi2 : i = σ.1 2 := by omega
    subst hi2
    have p4 := hO.1.2.2.2.1
    have hM := hP.1
    refine r_iload dX9_deliver_117 rfl ?_
    refine r_aload_n dX9_deliver_119 rfl ?_
    refine r_getI qX9_91 dX9_deliver_120 hM.o (x := iz (σ.1 2 : Int)) (hM.s 2) (kk := ?_)
    refine r_icmp_ge (tgt := 160) dX9_deliver_123 (by decide) (kt := fun z123 => ?_) (kf := fun z123 => (by exfalso; first | omega | simp_all))
    exact r_loc' (kk M1 hP hI) ⟨rfl, rfl, rfl, rfl, trivial⟩
  | succ k ih =>
    intro i M1 hi hP hI
    have p4 := hO.1.2.2.2.1
    have p10 : σ.1 10 = 30 := hO.1.2.2.2.2.2.2.2.2.2.2.2.2.2.1
    have hi3 : i < σ.1 2 := by omega
    have hM := hP.1
    have hle : ∀ h, h < σ.1 2 → leF σ g i h ≤ 99 := fun h hh => by
      have := (hO.2.2.1 h hh).2.2.2
      unfold leF; split <;> omega
    have hO2 : Ok (stF (stF σ 14 F) 8 (leF σ g i)) T := ok_8 (ok_14 hO hFl) hle (fun h hh => by
      have := p15 h hh
      unfold leF; split <;> omega)
    have e8 : leF σ g i i = σ.2 8 i := if_neg (by omega)
    have v8 : mA M1 (Y 8) i = iz (σ.2 8 i : Int) := (hM.v 8 i (show i < σ.1 10 by omega)).trans (by show iz (leF σ g i i : Int) = _; rw [e8])
    refine r_iload dX9_deliver_117 rfl ?_
    refine r_aload_n dX9_deliver_119 rfl ?_
    refine r_getI qX9_91 dX9_deliver_120 hM.o (x := iz (σ.1 2 : Int)) (hM.s 2) (kk := ?_)
    refine r_icmp_ge (tgt := 160) dX9_deliver_123 (by decide) (kt := fun z123 => (by exfalso; first | omega | simp_all)) (kf := fun z123 => ?_)
    refine r_aload_n dX9_deliver_126 rfl ?_
    refine r_getR qX9_31 dX9_deliver_127 hM.o (hM.r 8) (kk := ?_)
    refine r_iload dX9_deliver_130 rfl ?_
    refine r_aload_n dX9_deliver_132 rfl ?_
    refine r_iload dX9_deliver_133 rfl ?_
    refine r_iload_n dX9_deliver_135 rfl ?_
    refine r_callV (mi := iX9_deliver) vX9_129 dX9_deliver_136 hM.o (m_isAt hM hO2 i g hi3 hg) (hm := ⟨by omega, by omega⟩) (k := kP ?_) (kx := r_nox)
    refine r_bif_eq (tgt := 146) dX9_deliver_139 (by decide) (kt := fun z139 => ?_) (kf := fun z139 => ?_)
    · refine r_aload_n dX9_deliver_146 rfl ?_
      refine r_getR qX9_31 dX9_deliver_147 hM.o (hM.r 8) (kk := ?_)
      refine r_iload dX9_deliver_150 rfl ?_
      refine r_iald dX9_deliver_152 (hM.cc 8 11 30) rfl v8 (k := ?_)
      refine r_iast dX9_deliver_153 (hM.cc 8 11 30) rfl (k := ?_)
      refine r_iinc dX9_deliver_154 rfl (k := ?_)
      refine r_goto (tgt := 117) dX9_deliver_157 (by decide) ?_
      refine r_loc' (ih (i + 1) _ (by omega) ?_ hI) ⟨rfl, rfl, rfl, rfl, rfl, trivial⟩
      rw [← stF_stF (stF σ 14 F) 8 (leF σ g i)]
      refine mp_a hP 8 (fun q hq2 => ?_)
      by_cases e : q = i
      · subst e
        simp only [upd, if_true]
        first
          | (rw [show leF σ g (q + 1) q = 0 from if_pos ⟨by omega, z139⟩]; rfl)
          | (have e1 : ¬ inG σ (σ.2 5 q) g = true := by rw [show inG σ (σ.2 5 q) g = false from z139]; exact Bool.false_ne_true
             rw [show leF σ g (q + 1) q = σ.2 8 q from if_neg (fun h => e1 h.2)]; rfl)
      · simp only [upd, if_neg e]
        rw [hM.v 8 q hq2, stF_at]
        show iz _ = iz _
        congr 2
        unfold leF
        by_cases e2 : q < i ∧ inG σ (σ.2 5 q) g = true
        · rw [if_pos e2, if_pos ⟨by omega, e2.2⟩]
        · rw [if_neg e2, if_neg (fun h => e2 ⟨by omega, h.2⟩)]
    · refine r_iconst dX9_deliver_142 ?_
      refine r_goto (tgt := 153) dX9_deliver_143 (by decide) ?_
      refine r_iast dX9_deliver_153 (hM.cc 8 11 30) rfl (k := ?_)
      refine r_iinc dX9_deliver_154 rfl (k := ?_)
      refine r_goto (tgt := 117) dX9_deliver_157 (by decide) ?_
      refine r_loc' (ih (i + 1) _ (by omega) ?_ hI) ⟨rfl, rfl, rfl, rfl, rfl, trivial⟩
      rw [← stF_stF (stF σ 14 F) 8 (leF σ g i)]
      refine mp_a hP 8 (fun q hq2 => ?_)
      by_cases e : q = i
      · subst e
        simp only [upd, if_true]
        first
          | (rw [show leF σ g (q + 1) q = 0 from if_pos ⟨by omega, z139⟩]; rfl)
          | (have e1 : ¬ inG σ (σ.2 5 q) g = true := by rw [show inG σ (σ.2 5 q) g = false from z139]; exact Bool.false_ne_true
             rw [show leF σ g (q + 1) q = σ.2 8 q from if_neg (fun h => e1 h.2)]; rfl)
      · simp only [upd, if_neg e]
        rw [hM.v 8 q hq2, stF_at]
        show iz _ = iz _
        congr 2
        unfold leF
        by_cases e2 : q < i ∧ inG σ (σ.2 5 q) g = true
        · rw [if_pos e2, if_pos ⟨by omega, e2.2⟩]
        · rw [if_neg e2, if_neg (fun h => e2 ⟨by omega, h.2⟩)]
theorem m_deliver (hM : RM M Y σ) (hO : Ok σ T) (r : Int) (ha : inR r) : Ht G iX9_deliver yX9_deliver 11 [.ref (Y 0), .int (iz r)] M (MR Y M (opDeliver σ r)) nX 0 0 := by
  obtain ⟨⟨p1, p2, p3, p4, p5, p6, -⟩, -, -, hR, -⟩ := id hO
  refine ht_intro (by decide +kernel) rfl rfl rfl (Nat.le_of_ble_eq_true rfl) ?_
  refine r_aload_n dX9_deliver_0 rfl ?_
  refine r_iconst dX9_deliver_1 ?_
  refine r_putI qX9_81 dX9_deliver_2 hM.o (kk := ?_)
  refine gm (P := MP Y M σ 0) (mp0 hM) (fun M1 hP => ?_)
  have hM := hP.1
  refine r_aload_n dX9_deliver_5 rfl ?_
  refine r_iload_n dX9_deliver_6 rfl ?_
  refine r_callV (mi := iX9_deliver) vX9_111 dX9_deliver_7 hM.o (m_isRound hM (by omega) r ha) (hm := ⟨by omega, by omega⟩) (k := kP ?_) (kx := r_nox)
  refine r_dif_ne (tgt := 19) dX9_deliver_10 (by decide) (kt := fun z10 => ?_) (kf := fun z10 => ?_)
  · obtain ⟨r, rfl⟩ := nat_of (a := r) (by omega)
    have hr3 : r < σ.1 3 := by omega
    obtain ⟨r1, r2⟩ := hR r hr3
    have hwt := wT_le hO (2 ^ r)
    have hwl : wL σ (2 ^ r) ≤ 100000 := gV_le
    refine r_iconst dX9_deliver_19 ?_
    refine r_iload_n dX9_deliver_20 rfl ?_
    refine r_ishl dX9_deliver_21 (sl_1 rfl (by omega)) ?_
    refine r_istore_n dX9_deliver_22 (k := ?_)
    refine r_aload_n dX9_deliver_23 rfl ?_
    refine r_iload_n dX9_deliver_24 rfl ?_
    refine r_callV (mi := iX9_deliver) vX9_187 dX9_deliver_25 hM.o (m_walks hM hO (2 ^ r) (two_lt (by omega))) (hm := ⟨by omega, by omega⟩) (k := kI (fun x M2 hP2 => ?_)) (kx := r_nox)
    obtain ⟨hW2, hx⟩ := hP2
    subst hx
    have hA := (hW2.mp hP).2
    have hP := (hW2.mp hP).1
    have hM := hP.1
    refine r_bif_eq (tgt := 45) dX9_deliver_28 (by decide) (kt := fun z28 => ?_) (kf := fun z28 => ?_)
    · refine r_aload_n dX9_deliver_45 rfl ?_
      refine r_iconst dX9_deliver_46 ?_
      refine r_callV (mi := iX9_deliver) vX9_100 dX9_deliver_47 hM.o (m_fails hM.o 2) (hm := ⟨by omega, by omega⟩) (k := kP ?_) (kx := r_nox)
      exact r_iret dX9_deliver_50 (mr_of (mpf hP 2) (by unfold opDeliver; rw [if_neg (by omega), Int.toNat_natCast, if_pos (by first | exact Or.inl z28 | exact Or.inr (by omega))]) (fun h => absurd h (by decide)))
    · refine r_aload_n dX9_deliver_31 rfl ?_
      refine r_iload_n dX9_deliver_32 rfl ?_
      refine r_callV (mi := iX9_deliver) vX9_208 dX9_deliver_33 hM.o (m_timeOf hM hO (2 ^ r) (wL σ (2 ^ r)) (two_lt (by omega)) gV_le (hA.2.2 z28).1) (hm := ⟨by omega, by omega⟩) (k := kP ?_) (kx := r_nox)
      refine gs (show iz ((wL σ (2 ^ r) + 2 * dueN σ (2 ^ r) + lightN σ (2 ^ r) : Nat) : Int) = iz (wT σ (2 ^ r) : Int) from rfl) ?_
      refine r_aload_n dX9_deliver_36 rfl ?_
      refine r_getR qX9_34 dX9_deliver_37 hM.o (hM.r 9) (kk := ?_)
      refine r_iload_n dX9_deliver_40 rfl ?_
      refine r_iald dX9_deliver_41 (hM.cc 9 11 4) rfl (hM.v 9 _ (hr3)) (k := ?_)
      refine r_icmp_le (tgt := 51) dX9_deliver_42 (by decide) (kt := fun z42 => ?_) (kf := fun z42 => ?_)
      · refine r_aload_n dX9_deliver_51 rfl ?_
        refine r_iload_n dX9_deliver_52 rfl ?_
        refine r_callV (mi := iX9_deliver) vX9_133 dX9_deliver_53 hM.o (m_dueAt hM hO (2 ^ r) (two_lt (by omega))) (hm := ⟨by omega, by omega⟩) (k := kP ?_) (kx := r_nox)
        refine r_istore_n dX9_deliver_56 (k := ?_)
        refine r_iconst dX9_deliver_57 ?_
        refine r_istore dX9_deliver_58 (k := ?_)
        have hI := (hA.2.2 z28).1
        refine r_loc' (dlv1 (M0 := M) hO (2 ^ r) (two_lt (by omega)) (w := wL σ (2 ^ r)) (v1 := iz (r : Int)) (v3 := iz (dueN σ (2 ^ r) : Int)) (fun M3 hP3 hI3 => ?_) (σ.1 4) 0 _ (by omega) ?_ hI) ⟨rfl, rfl, rfl, rfl, rfl, trivial⟩
        · refine r_iconst dX9_deliver_114 ?_
          refine r_istore dX9_deliver_115 (k := ?_)
          refine r_loc' (dlv2 (M0 := M) hO (2 ^ r) (two_lt (by omega)) (w := wL σ (2 ^ r)) (v1 := iz (r : Int)) (v3 := iz (dueN σ (2 ^ r) : Int)) (dlF_le hO (2 ^ r) (σ.1 4)) (fun M4 hP4 hI4 => ?_) (σ.1 2) 0 _ (by omega) ?_ hI3) ⟨rfl, rfl, rfl, rfl, rfl, trivial⟩
          · have hM := hP4.1
            refine r_aload_n dX9_deliver_160 rfl ?_
            refine r_dup dX9_deliver_161 (k := ?_)
            refine r_getJ qX9_214 dX9_deliver_162 hM.o hM.j (kk := ?_)
            refine r_aload_n dX9_deliver_165 rfl ?_
            refine r_getI qX9_184 dX9_deliver_166 hM.o hI4 (kk := ?_)
            refine r_i2l dX9_deliver_169 (iz_long (by omega)) ?_
            refine r_ladd dX9_deliver_170 ?_
            refine r_putJ qX9_214 dX9_deliver_171 hM.o (kk := ?_)
            refine gm (P := MP Y M (stS (stF (stF σ 14 (dlF σ (2 ^ r) (σ.1 4))) 8 (leF σ (2 ^ r) (σ.1 2))) 9 (σ.1 9 + wL σ (2 ^ r))) 0) ⟨by rw [lN_add]; exact hM.wj _, hP4.2.1, hP4.2.2.tr FrM.j⟩ (fun M5 hP5 => ?_)
            refine r_iload_n dX9_deliver_174 rfl ?_
            exact r_iret dX9_deliver_175 (mr_of hP5 (by unfold opDeliver; rw [if_neg (by omega), Int.toNat_natCast, if_neg (by rw [z28]; simp; omega)]) (fun _ => rfl))
          · rw [show leF σ (2 ^ r) 0 = σ.2 8 from funext fun h => if_neg (by omega), show stF (stF σ 14 (dlF σ (2 ^ r) (σ.1 4))) 8 (σ.2 8) = stF σ 14 (dlF σ (2 ^ r) (σ.1 4)) from stF_id (stF σ 14 (dlF σ (2 ^ r) (σ.1 4))) 8]; exact hP3
        · rw [show dlF σ (2 ^ r) 0 = σ.2 14 from funext fun q => if_neg (by omega), stF_id]; exact hP
      · refine r_aload_n dX9_deliver_45 rfl ?_
        refine r_iconst dX9_deliver_46 ?_
        refine r_callV (mi := iX9_deliver) vX9_100 dX9_deliver_47 hM.o (m_fails hM.o 2) (hm := ⟨by omega, by omega⟩) (k := kP ?_) (kx := r_nox)
        exact r_iret dX9_deliver_50 (mr_of (mpf hP 2) (by unfold opDeliver; rw [if_neg (by omega), Int.toNat_natCast, if_pos (by first | exact Or.inl z28 | exact Or.inr (by omega))]) (fun h => absurd h (by decide)))
  · refine r_aload_n dX9_deliver_13 rfl ?_
    refine r_iconst dX9_deliver_14 ?_
    refine r_callV (mi := iX9_deliver) vX9_100 dX9_deliver_15 hM.o (m_fails hM.o 1) (hm := ⟨by omega, by omega⟩) (k := kP ?_) (kx := r_nox)
    exact r_iret dX9_deliver_18 (mr_of (mpf hP 1) (by unfold opDeliver; repeat (first | rw [if_pos (by omega)] | rw [if_neg (by omega)])) (fun h => absurd h (by decide)))
end MD9
