/-! The law's loop. -/
section LWL
variable {G : GC} {Qf : List Frame → Array Value → State → State → Prop} {M : Mem} {kc ks : Nat} {C : CE} {Y : Nat → Nat} {σ : St} {T a b sc n x : Nat} {S : Nat → Int32}
theorem iz_63 : iz 63 = (63 : Int32) := by decide +kernel
/-- one call -/
theorem q_case (hW : LW G M C Y σ T a b sc n x S) (hT : T < 512) (hi : 5 * T + 5 ≤ n) (hn : n ≤ 2560) (hk : kc + 340 ≤ room_1.cells ∧ ks + 11000 ≤ room_1.slots) (K : KL G Qf Y T a b sc n x S (kc + 340) (ks + 11000)) {v : Int} (h0 : 0 ≤ v) (h63 : v ≤ 63) : SWG G iL_law room_1 Qf 44 (LB sc x (Y 0) a b (5 * T)) [.int (iz v)] M kc ks := by
  by_cases hv : v ≤ 42
  · rcases (by omega : v = 0 ∨ v = 1 ∨ v = 2 ∨ v = 3 ∨ v = 4 ∨ v = 5 ∨ v = 6 ∨ v = 7 ∨ v = 8 ∨ v = 9 ∨ v = 10 ∨ v = 11 ∨ v = 12 ∨ v = 13 ∨ v = 14 ∨ v = 15 ∨ v = 16 ∨ v = 17 ∨ v = 18 ∨ v = 19 ∨ v = 20 ∨ v = 21 ∨ v = 22 ∨ v = 23 ∨ v = 24 ∨ v = 25 ∨ v = 26 ∨ v = 27 ∨ v = 28 ∨ v = 29 ∨ v = 30 ∨ v = 31 ∨ v = 32 ∨ v = 33 ∨ v = 34 ∨ v = 35 ∨ v = 36 ∨ v = 37 ∨ v = 38 ∨ v = 39 ∨ v = 40 ∨ v = 41 ∨ v = 42) with rfl | rfl | rfl | rfl | rfl | rfl | rfl | rfl | rfl | rfl | rfl | rfl | rfl | rfl | rfl | rfl | rfl | rfl | rfl | rfl | rfl | rfl | rfl | rfl | rfl | rfl | rfl | rfl | rfl | rfl | rfl | rfl | rfl | rfl | rfl | rfl | rfl | rfl | rfl | rfl | rfl | rfl | rfl
    · exact r_tabIn (off := 188) (tgt := 232) dL_law_44 (by decide) (by decide) (by decide) rfl (by decide) (q_addPlace hW hT hi hn hk K)
    · exact r_tabIn (off := 232) (tgt := 276) dL_law_44 (by decide) (by decide) (by decide) rfl (by decide) (q_addStreet hW hT hi hn hk K)
    · exact r_tabIn (off := 340) (tgt := 384) dL_law_44 (by decide) (by decide) (by decide) rfl (by decide) (q_addHouse hW hT hi hn hk K)
    · exact r_tabIn (off := 420) (tgt := 464) dL_law_44 (by decide) (by decide) (by decide) rfl (by decide) (q_addRound hW hT hi hn hk K)
    · exact r_tabIn (off := 476) (tgt := 520) dL_law_44 (by decide) (by decide) (by decide) rfl (by decide) (q_assign hW hT hi hn hk K)
    · exact r_tabIn (off := 544) (tgt := 588) dL_law_44 (by decide) (by decide) (by decide) rfl (by decide) (q_setBag hW hT hi hn hk K)
    · exact r_tabIn (off := 600) (tgt := 644) dL_law_44 (by decide) (by decide) (by decide) rfl (by decide) (q_letters hW hT hi hn hk K)
    · exact r_tabIn (off := 668) (tgt := 712) dL_law_44 (by decide) (by decide) (by decide) rfl (by decide) (q_parcel hW hT hi hn hk K)
    · exact r_tabIn (off := 748) (tgt := 792) dL_law_44 (by decide) (by decide) (by decide) rfl (by decide) (q_newDay hW hT hi hn hk K)
    · exact r_tabIn (off := 761) (tgt := 805) dL_law_44 (by decide) (by decide) (by decide) rfl (by decide) (q_places hW hT hi hn hk K)
    · exact r_tabIn (off := 774) (tgt := 818) dL_law_44 (by decide) (by decide) (by decide) rfl (by decide) (q_streets hW hT hi hn hk K)
    · exact r_tabIn (off := 787) (tgt := 831) dL_law_44 (by decide) (by decide) (by decide) rfl (by decide) (q_houses hW hT hi hn hk K)
    · exact r_tabIn (off := 800) (tgt := 844) dL_law_44 (by decide) (by decide) (by decide) rfl (by decide) (q_roundOf hW hT hi hn hk K)
    · exact r_tabIn (off := 856) (tgt := 900) dL_law_44 (by decide) (by decide) (by decide) rfl (by decide) (q_houseAt hW hT hi hn hk K)
    · exact r_tabIn (off := 936) (tgt := 980) dL_law_44 (by decide) (by decide) (by decide) rfl (by decide) (q_lettersOf hW hT hi hn hk K)
    · exact r_tabIn (off := 992) (tgt := 1036) dL_law_44 (by decide) (by decide) (by decide) rfl (by decide) (q_isDue hW hT hi hn hk K)
    · exact r_tabIn (off := 1055) (tgt := 1099) dL_law_44 (by decide) (by decide) (by decide) rfl (by decide) (q_due hW hT hi hn hk K)
    · exact r_tabIn (off := 1111) (tgt := 1155) dL_law_44 (by decide) (by decide) (by decide) rfl (by decide) (q_distance hW hT hi hn hk K)
    · exact r_tabIn (off := 1179) (tgt := 1223) dL_law_44 (by decide) (by decide) (by decide) rfl (by decide) (q_distanceByRounds hW hT hi hn hk K)
    · exact r_tabIn (off := 1247) (tgt := 1291) dL_law_44 (by decide) (by decide) (by decide) rfl (by decide) (q_needed hW hT hi hn hk K)
    · exact r_tabIn (off := 1303) (tgt := 1347) dL_law_44 (by decide) (by decide) (by decide) rfl (by decide) (q_hasWalk hW hT hi hn hk K)
    · exact r_tabIn (off := 1366) (tgt := 1410) dL_law_44 (by decide) (by decide) (by decide) rfl (by decide) (q_walkLength hW hT hi hn hk K)
    · exact r_tabIn (off := 1422) (tgt := 1466) dL_law_44 (by decide) (by decide) (by decide) rfl (by decide) (q_lengthByTrying hW hT hi hn hk K)
    · exact r_tabIn (off := 1478) (tgt := 1522) dL_law_44 (by decide) (by decide) (by decide) rfl (by decide) (q_passAt hW hT hi hn hk K)
    · exact r_tabIn (off := 1546) (tgt := 1590) dL_law_44 (by decide) (by decide) (by decide) rfl (by decide) (q_walkPlaces hW hT hi hn hk K)
    · exact r_tabIn (off := 1602) (tgt := 1646) dL_law_44 (by decide) (by decide) (by decide) rfl (by decide) (q_walkAt hW hT hi hn hk K)
    · exact r_tabIn (off := 1670) (tgt := 1714) dL_law_44 (by decide) (by decide) (by decide) rfl (by decide) (q_walkTime hW hT hi hn hk K)
    · exact r_tabIn (off := 1726) (tgt := 1770) dL_law_44 (by decide) (by decide) (by decide) rfl (by decide) (q_isInTime hW hT hi hn hk K)
    · exact r_tabIn (off := 1789) (tgt := 1833) dL_law_44 (by decide) (by decide) (by decide) rfl (by decide) (q_walkTo hW hT hi hn hk K)
    · exact r_tabIn (off := 1845) (tgt := 1889) dL_law_44 (by decide) (by decide) (by decide) rfl (by decide) (q_deliver hW hT hi hn hk K)
    · exact r_tabIn (off := 1901) (tgt := 1945) dL_law_44 (by decide) (by decide) (by decide) rfl (by decide) (q_saving hW hT hi hn hk K)
    · exact r_tabIn (off := 1969) (tgt := 2013) dL_law_44 (by decide) (by decide) (by decide) rfl (by decide) (q_mergeInto hW hT hi hn hk K)
    · exact r_tabIn (off := 2037) (tgt := 2081) dL_law_44 (by decide) (by decide) (by decide) rfl (by decide) (q_bestMerge hW hT hi hn hk K)
    · exact r_tabIn (off := 2081) (tgt := 2125) dL_law_44 (by decide) (by decide) (by decide) rfl (by decide) (q_parcelState hW hT hi hn hk K)
    · exact r_tabIn (off := 2137) (tgt := 2181) dL_law_44 (by decide) (by decide) (by decide) rfl (by decide) (q_isHeavy hW hT hi hn hk K)
    · exact r_tabIn (off := 2200) (tgt := 2244) dL_law_44 (by decide) (by decide) (by decide) rfl (by decide) (q_nextParcel hW hT hi hn hk K)
    · exact r_tabIn (off := 2244) (tgt := 2288) dL_law_44 (by decide) (by decide) (by decide) rfl (by decide) (q_tripOf hW hT hi hn hk K)
    · exact r_tabIn (off := 2300) (tgt := 2344) dL_law_44 (by decide) (by decide) (by decide) rfl (by decide) (q_dispatch hW hT hi hn hk K)
    · exact r_tabIn (off := 2351) (tgt := 2395) dL_law_44 (by decide) (by decide) (by decide) rfl (by decide) (q_vanClock hW hT hi hn hk K)
    · exact r_tabIn (off := 2364) (tgt := 2408) dL_law_44 (by decide) (by decide) (by decide) rfl (by decide) (q_late hW hT hi hn hk K)
    · exact r_tabIn (off := 2377) (tgt := 2421) dL_law_44 (by decide) (by decide) (by decide) rfl (by decide) (q_walked hW hT hi hn hk K)
    · exact r_tabIn (off := 2391) (tgt := 2435) dL_law_44 (by decide) (by decide) (by decide) rfl (by decide) (q_lateShare hW hT hk K)
    · exact r_tabIn (off := 2457) (tgt := 2501) dL_law_44 (by decide) (by decide) (by decide) rfl (by decide) (q_meanLetters hW hT hk K)
  · refine r_tabOut (tgt := 2566) dL_law_44 (by constructor <;> omega) (Or.inr (by omega)) (by decide) ?_
    have hO := hW.1.2.2.1.up hT
    exact r_wid (by omega) (by omega) (K M C σ ⟨⟨hW.1.1, hW.1.2.1, hO, hW.1.2.2.2⟩, hW.2⟩)
end LWL
section LWM
variable {G : GC} {Y : Nat → Nat} {a b sc n x : Nat} {S : Nat → Int32}
theorem sum_c (kc d : Nat) : kc + 340 + 340 * d = kc + 340 * (d + 1) := by omega
theorem sum_s (ks d : Nat) : ks + 11000 + 11000 * d = ks + 11000 * (d + 1) := by omega
/-- what the law owes at its end: it answers yes -/
def LQ (G : GC) : List Frame → Array Value → State → State → Prop := QF G (rI fun r _ => r = iz 1) nX 603072 7219306
theorem q_loop (hn : n ≤ 2560) : ∀ (d T : Nat), T + d = 512 → ∀ (M : Mem) (C : CE) (σ : St) (kc ks : Nat), LW G M C Y σ T a b sc n x S → kc + 340 * d ≤ room_1.cells → ks + 11000 * d ≤ room_1.slots → SWG G iL_law room_1 (LQ G) 28 (LB sc x (Y 0) a b (5 * T)) [] M kc ks := by
  intro d
  induction d with
  | zero =>
    intro T hT M C σ kc ks hW h1 h2
    refine r_iload dL_law_28 rfl ?_
    refine r_aload_n dL_law_30 rfl ?_
    refine r_alen dL_law_31 hW.2.1.1 (k := ?_)
    refine r_iconst dL_law_32 ?_
    refine r_isub dL_law_33 ?_
    refine r_icmp_gt (tgt := 2572) dL_law_34 (by decide) (kt := fun _ => ?_) (kf := fun h => by exfalso; omega)
    refine r_iconst dL_law_2572 ?_
    exact r_zret (x := true) dL_law_2573 ⟨_, rfl, rfl⟩ (hm := ⟨Nat.le_trans (Nat.le_add_right _ _) h1, Nat.le_trans (Nat.le_add_right _ _) h2⟩)
  | succ d ih =>
    intro T hT M C σ kc ks hW h1 h2
    refine r_iload dL_law_28 rfl ?_
    refine r_aload_n dL_law_30 rfl ?_
    refine r_alen dL_law_31 hW.2.1.1 (k := ?_)
    refine r_iconst dL_law_32 ?_
    refine r_isub dL_law_33 ?_
    refine r_icmp_gt (tgt := 2572) dL_law_34 (by decide) (kt := fun _ => ?_) (kf := fun h => ?_)
    · refine r_iconst dL_law_2572 ?_
      exact r_zret (x := true) dL_law_2573 ⟨_, rfl, rfl⟩ (hm := ⟨Nat.le_trans (Nat.le_add_right _ _) h1, Nat.le_trans (Nat.le_add_right _ _) h2⟩)
    · refine r_aload_n dL_law_37 rfl ?_
      refine r_iload dL_law_38 rfl ?_
      refine r_iald dL_law_40 hW.2.1.1 (j := 5 * T) rfl (congrFun hW.2.1.2 _) (k := ?_)
      refine r_bipush dL_law_41 (k := ?_)
      obtain ⟨v, hv2, hv3⟩ : ∃ v : Int, S (5 * T) &&& iz 63 = iz v ∧ 0 ≤ v ∧ v ≤ 63 := ⟨(S (5 * T) &&& 63).toInt, by rw [iz_63]; exact iz_of _, and63 _⟩
      refine r_iand dL_law_43 hv2 ?_
      refine q_case hW (by omega) (by omega) hn ⟨Nat.le_trans (Nat.add_le_add_left (Nat.le_mul_of_pos_right 340 (Nat.succ_pos d)) kc) h1, Nat.le_trans (Nat.add_le_add_left (Nat.le_mul_of_pos_right 11000 (Nat.succ_pos d)) ks) h2⟩ ?_ hv3.1 hv3.2
      intro M' C' σ' hW'
      have e : ((5 * T : Nat) : Int) + 5 = ((5 * (T + 1) : Nat) : Int) := by omega
      refine r_iinc (z := ((5 * T : Nat) : Int)) dL_law_2566 rfl (k := ?_)
      rw [e]
      refine r_goto (tgt := 28) dL_law_2569 (by decide) ?_
      exact r_loc' (ih (T + 1) (by omega) M' C' σ' _ _ hW' (by rw [sum_c]; exact h1) (by rw [sum_s]; exact h2)) ⟨rfl, rfl, rfl, rfl, rfl, rfl, trivial⟩
end LWM
