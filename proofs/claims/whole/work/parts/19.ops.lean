/-! Rows for answers that are decided; what the plain calls do to the village. -/
section DIF
variable {G : GC} {mi : MI} {R : Room} {Qf : List Frame → Array Value → State → State → Prop} {pc : Nat} {L : List (Nat × Value)} {st : List Value} {M : Mem} {kc ks : Nat}
theorem r_dif_eq {P : Prop} [Decidable P] {off : Int} {tgt : Nat} (d : decode mi.2.1 pc = .ok (.ifCond .eq off, 3)) (ht : (pc : Int) + off = (tgt : Int)) (kt : ¬ P → SWG G mi R Qf tgt L st M kc ks) (kf : P → SWG G mi R Qf (pc + 3) L st M kc ks) : SWG G mi R Qf pc L (.int (bz (decide P)) :: st) M kc ks :=
  r_bif_eq d ht (fun h => kt (of_decide_eq_false h)) (fun h => kf (of_decide_eq_true h))
theorem r_dif_ne {P : Prop} [Decidable P] {off : Int} {tgt : Nat} (d : decode mi.2.1 pc = .ok (.ifCond .ne off, 3)) (ht : (pc : Int) + off = (tgt : Int)) (kt : P → SWG G mi R Qf tgt L st M kc ks) (kf : ¬ P → SWG G mi R Qf (pc + 3) L st M kc ks) : SWG G mi R Qf pc L (.int (bz (decide P)) :: st) M kc ks :=
  r_bif_ne d ht (fun h => kt (of_decide_eq_true h)) (fun h => kf (of_decide_eq_false h))
theorem bz_d {P : Prop} [Decidable P] (h : P) : iz 1 = bz (decide P) := by rw [decide_eq_true h]; rfl
theorem bz_nd {P : Prop} [Decidable P] (h : ¬ P) : iz 0 = bz (decide P) := by rw [decide_eq_false h]; rfl
theorem bz_T {b : Bool} (h : b = true) : iz 1 = bz b := by rw [h]; rfl
theorem bz_F {b : Bool} (h : b = false) : iz 0 = bz b := by rw [h]; rfl
end DIF
section OPS
abbrev Rs : Type := St × Nat × Int
/-- a number in a range -/
abbrev bt2 (v a b : Int) : Prop := a ≤ v ∧ v ≤ b
def opAddPlace (σ : St) : Rs := if σ.1 0 = 10 then (σ, 1, 0) else (stS σ 0 (σ.1 0 + 1), 0, σ.1 0)
def opAddStreet (σ : St) (a b l : Int) (w : Bool) : Rs :=
  if ¬ bt2 a 0 (σ.1 0 - 1) ∨ ¬ bt2 b 0 (σ.1 0 - 1) then (σ, 1, 0) else if a = b ∨ ¬ bt2 l 1 99 then (σ, 2, 0) else if σ.1 1 = 16 then (σ, 3, 0) else
  (stS (stA (stA (stA (stA (stA σ 1 (σ.1 1) a.toNat) 2 (σ.1 1) b.toNat) 3 (σ.1 1) l.toNat) 13 (σ.1 1) (if w then 1 else 0)) 4 (σ.1 1) 0) 1 (σ.1 1 + 1), 0, σ.1 1)
def opAddHouse (σ : St) (s d o : Int) : Rs :=
  if ¬ bt2 s 0 (σ.1 1 - 1) then (σ, 1, 0) else if ¬ bt2 d 0 1 ∨ ¬ bt2 o 0 (σ.2 3 s.toNat) then (σ, 2, 0) else if σ.1 2 = 30 then (σ, 3, 0) else
  (stS (stA (stA (stA σ 5 (σ.1 2) s.toNat) 6 (σ.1 2) d.toNat) 7 (σ.1 2) o.toNat) 2 (σ.1 2 + 1), 0, σ.1 2)
def opAddRound (σ : St) (l : Int) : Rs := if ¬ bt2 l 1 999 then (σ, 1, 0) else if σ.1 3 = 4 then (σ, 2, 0) else (stS (stA σ 9 (σ.1 3) l.toNat) 3 (σ.1 3 + 1), 0, σ.1 3)
def opAssign (σ : St) (s r : Int) : Rs := if ¬ bt2 s 0 (σ.1 1 - 1) ∨ ¬ bt2 r 0 (σ.1 3 - 1) then (σ, 1, 0) else (stA σ 4 s.toNat (r.toNat + 1), 0, (σ.2 4 s.toNat : Int) - 1)
def opSetBag (σ : St) (w : Int) : Rs := if ¬ bt2 w 0 99 then (σ, 1, 0) else (stS σ 5 w.toNat, 0, σ.1 5)
def opLetters (σ : St) (h c : Int) : Rs := if ¬ bt2 h 0 (σ.1 2 - 1) then (σ, 1, 0) else if ¬ bt2 c 1 20 then (σ, 2, 0) else if 99 < (σ.2 8 h.toNat : Int) + c then (σ, 3, 0) else (stA σ 8 h.toNat (σ.2 8 h.toNat + c.toNat), 0, (σ.2 8 h.toNat : Int) + c)
def opParcel (σ : St) (h w d : Int) : Rs := if ¬ bt2 h 0 (σ.1 2 - 1) then (σ, 1, 0) else if ¬ bt2 w 1 99 ∨ ¬ bt2 d 1 999 then (σ, 2, 0) else if σ.1 4 = 20 then (σ, 3, 0) else
  (stS (stA (stA (stA (stA σ 10 (σ.1 4) h.toNat) 11 (σ.1 4) w.toNat) 12 (σ.1 4) d.toNat) 14 (σ.1 4) 0) 4 (σ.1 4 + 1), 0, σ.1 4)
def opNewDay (σ : St) : Rs := (stS (stS (stF σ 8 (fun _ => 0)) 4 0) 6 0, 0, cnt (post σ) (σ.1 2))
def opRoundOf (σ : St) (s : Int) : Rs := if bt2 s 0 (σ.1 1 - 1) then (σ, 0, (σ.2 4 s.toNat : Int) - 1) else (σ, 1, 0)
def opLettersOf (σ : St) (h : Int) : Rs := if bt2 h 0 (σ.1 2 - 1) then (σ, 0, σ.2 8 h.toNat) else (σ, 1, 0)
def opIsDue (σ : St) (h : Int) : Rs := if bt2 h 0 (σ.1 2 - 1) then (σ, 0, if post σ h.toNat then 1 else 0) else (σ, 1, 0)
def opDue (σ : St) (r : Int) : Rs := if bt2 r 0 (σ.1 3 - 1) then (σ, 0, dueN σ (2 ^ r.toNat)) else (σ, 1, 0)
/-- the first of n with P, or none -/
def fnd (P : Nat → Bool) : Nat → Option Nat
  | 0 => none
  | n + 1 => match fnd P n with
    | some i => some i
    | none => if P n then some n else none
def atB (σ : St) (s d r : Int) (h : Nat) : Bool := decide ((σ.2 5 h : Int) = s) && decide ((σ.2 6 h : Int) = d) && decide ((rank σ h : Int) = r)
def opHouseAt (σ : St) (s d r : Int) : Rs := if ¬ bt2 s 0 (σ.1 1 - 1) then (σ, 1, 0) else if ¬ bt2 d 0 1 then (σ, 2, 0) else match fnd (atB σ s d r) (σ.1 2) with
  | some h => (σ, 0, h)
  | none => (σ, 3, 0)
end OPS
section MPS
variable {M M1 : Mem} {Y : Nat → Nat} {σ : St} {c c' : Nat}
theorem mp0 (h : RM M Y σ) : MP Y M σ 0 (sI M 576 (upd (mI M 576) (Y 0) (iz 0))) := ⟨h.w, by rw [mI_sI]; simp [upd], FrM.i⟩
theorem mpf (h : MP Y M σ c' M1) (c : Nat) : MP Y M σ c (sI M1 576 (upd (mI M1 576) (Y 0) (iz (c : Int)))) := ⟨h.1.w, by rw [mI_sI]; simp [upd], h.2.2.tr FrM.i⟩
/-- what a public call of the reference promises -/
def MR (Y : Nat → Nat) (M : Mem) (o : Rs) : Option Value → Mem → Prop := rI fun r M' => MP Y M o.1 o.2.1 M' ∧ (o.2.1 = 0 → r = iz o.2.2)
theorem mr_of {o : Rs} {σ' : St} {r : Int32} {M' : Mem} {z : Int} (h : MP Y M σ' c M') (ho : o = (σ', c, z)) (hr : c = 0 → r = iz z) : MR Y M o (some (.int r)) M' := by
  subst ho; exact ⟨r, rfl, h, hr⟩
end MPS
