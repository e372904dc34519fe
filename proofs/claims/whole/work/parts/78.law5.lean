/-! The law's cases with fractions. -/
section LWF
variable {G : GC} {Qf : List Frame → Array Value → State → State → Prop} {M : Mem} {kc ks : Nat} {C : CE} {Y : Nat → Nat} {σ : St} {T a b sc n x : Nat} {S : Nat → Int32}
theorem q_lateShare (hW : LW G M C Y σ T a b sc n x S) (hT : T < 512) (hk : kc + 340 ≤ room_1.cells ∧ ks + 11000 ≤ room_1.slots) (K : KL G Qf Y T a b sc n x S (kc + 340) (ks + 11000)) : SWG G iL_law room_1 Qf 2435 (LB sc x (Y 0) a b (5 * T)) [] M kc ks := by
  obtain ⟨hX, hR, hO, hD, ha, hb⟩ := id hW.1
  obtain rfl := hW.2.2
  obtain ⟨hk1, hk2⟩ := hk
  have p9 := hO.1.2.2.2.2.2.2.2.2.1
  have p10 := hO.1.2.2.2.2.2.2.2.2.2.1
  have pT := hO.1.2.2.2.2.2.2.2.2.2.2.2.2.1
  refine r_aload_n dL_law_2435 rfl ?_
  refine r_aload dL_law_2436 rfl ?_
  refine r_callSX (mi := iL_law) vL_284 dL_law_2438 (h_lateShare hX hO hb) (hm := ⟨by omega, by omega⟩) (k := kI (fun r M1 h1 => ?_)) (kx := r_nox)
  obtain ⟨h0, hQ⟩ := h1
  obtain ⟨hR1, -, -, -⟩ := hW.1.hlp (Or.inr rfl) hQ
  refine r_istore dL_law_2441 (k := ?_)
  refine r_aload_n dL_law_2443 rfl ?_
  refine r_callV (mi := iL_law) vL_287 dL_law_2444 hR1.o (m_lateShare hR1 hO) (hm := ⟨by omega, by omega⟩) (k := kF (fun q M2 h2 => ?_)) (kx := r_nox)
  obtain ⟨hP, hq⟩ := h2
  obtain ⟨⟨C', hW2⟩, -, hD2⟩ := hW.step (T' := T + 1) (Or.inr rfl) hQ hP (hO.up hT)
  have K2 := K M2 C' _ hW2
  refine r_fstore dL_law_2447 (k := ?_)
  refine r_aload_n dL_law_2449 rfl ?_
  rcases h0 with ⟨e, rfl⟩ | ⟨e, rfl, hv⟩
  · have hP2 : mI M2 576 (Y 0) = iz 1 := by rw [hP.2.1, if_pos e]; rfl
    refine r_callV (mi := iL_law) vL_149 dL_law_2450 hP.1.o (m_thrown hP.1.o hP2) (hm := ⟨by omega, by omega⟩) (k := kP ?_) (kx := r_nox)
    refine r_iload dL_law_2453 rfl ?_
    refine r_icmp_same (tgt := 2460) dL_law_2455 (by decide) ?_
    refine r_iload dL_law_2460 rfl ?_
    refine r_if_ne (tgt := 2498) dL_law_2462 (by decide) (kt := fun _ => ?_) (kf := fun h => absurd h (by decide))
    refine r_goto (tgt := 2566) dL_law_2498 (by decide) ?_
    exact r_loc' (r_wid (by omega) (by omega) K2) ⟨rfl, rfl, rfl, rfl, rfl, rfl, trivial⟩
  · have hP2 : mI M2 576 (Y 0) = iz 0 := by rw [hP.2.1, if_neg e]; rfl
    have hq := hq e
    subst hq
    have hf := f2d_ok (fdiv_ok (fin_i2f (σ.1 7) (by omega)).1 ((fin_i2f (σ.1 8) (by omega)).2 e))
    refine r_callV (mi := iL_law) vL_149 dL_law_2450 hP.1.o (m_thrown hP.1.o hP2) (hm := ⟨by omega, by omega⟩) (k := kP ?_) (kx := r_nox)
    refine r_iload dL_law_2453 rfl ?_
    refine r_icmp_same (tgt := 2460) dL_law_2455 (by decide) ?_
    refine r_iload dL_law_2460 rfl ?_
    refine r_if_ne (tgt := 2498) dL_law_2462 (by decide) (kt := fun h => absurd rfl h) (kf := fun _ => ?_)
    refine r_aload dL_law_2465 rfl ?_
    refine r_iconst dL_law_2467 ?_
    refine r_dald dL_law_2468 hW2.1.2.2.2.2.2 (j := 0) rfl ((congrFun hD2 0).trans hv) (k := ?_)
    refine r_fload dL_law_2469 rfl ?_
    refine r_f2d dL_law_2471 hf ?_
    refine r_dcmp dL_law_2472 ?_
    rw [dcmp_s hf]
    refine r_if_eq (tgt := 2498) dL_law_2473 (by decide) (kt := fun _ => ?_) (kf := fun h => absurd rfl h)
    refine r_goto (tgt := 2566) dL_law_2498 (by decide) ?_
    exact r_loc' (r_wid (by omega) (by omega) K2) ⟨rfl, rfl, rfl, rfl, rfl, rfl, trivial⟩
theorem q_meanLetters (hW : LW G M C Y σ T a b sc n x S) (hT : T < 512) (hk : kc + 340 ≤ room_1.cells ∧ ks + 11000 ≤ room_1.slots) (K : KL G Qf Y T a b sc n x S (kc + 340) (ks + 11000)) : SWG G iL_law room_1 Qf 2501 (LB sc x (Y 0) a b (5 * T)) [] M kc ks := by
  obtain ⟨hX, hR, hO, hD, ha, hb⟩ := id hW.1
  obtain rfl := hW.2.2
  obtain ⟨hk1, hk2⟩ := hk
  have p3 := hO.1.2.2.2.1
  have pl := sumL_le hO (σ.1 2) (Nat.le_refl _)
  have pc := cnt_le (post σ) (σ.1 2)
  refine r_aload_n dL_law_2501 rfl ?_
  refine r_aload dL_law_2502 rfl ?_
  refine r_callSX (mi := iL_law) vL_288 dL_law_2504 (h_meanLetters hX hO hb) (hm := ⟨by omega, by omega⟩) (k := kI (fun r M1 h1 => ?_)) (kx := r_nox)
  obtain ⟨h0, hQ⟩ := h1
  obtain ⟨hR1, -, -, -⟩ := hW.1.hlp (Or.inr rfl) hQ
  refine r_istore dL_law_2507 (k := ?_)
  refine r_aload_n dL_law_2509 rfl ?_
  refine r_callV (mi := iL_law) vL_290 dL_law_2510 hR1.o (m_meanLetters hR1 hO) (hm := ⟨by omega, by omega⟩) (k := kD (fun q M2 h2 => ?_)) (kx := r_nox)
  obtain ⟨hP, hq⟩ := h2
  obtain ⟨⟨C', hW2⟩, -, hD2⟩ := hW.step (T' := T + 1) (Or.inr rfl) hQ hP (hO.up hT)
  have K2 := K M2 C' _ hW2
  refine r_dstore dL_law_2513 (k := ?_)
  refine r_aload_n dL_law_2515 rfl ?_
  rcases h0 with ⟨e, rfl⟩ | ⟨e, rfl, hv⟩
  · have hP2 : mI M2 576 (Y 0) = iz 1 := by rw [hP.2.1, if_pos e]; rfl
    refine r_callV (mi := iL_law) vL_149 dL_law_2516 hP.1.o (m_thrown hP.1.o hP2) (hm := ⟨by omega, by omega⟩) (k := kP ?_) (kx := r_nox)
    refine r_iload dL_law_2519 rfl ?_
    refine r_icmp_same (tgt := 2526) dL_law_2521 (by decide) ?_
    refine r_iload dL_law_2526 rfl ?_
    refine r_if_ne (tgt := 2563) dL_law_2528 (by decide) (kt := fun _ => ?_) (kf := fun h => absurd h (by decide))
    refine r_goto (tgt := 2566) dL_law_2563 (by decide) ?_
    exact r_loc' (r_wid (by omega) (by omega) K2) ⟨rfl, rfl, rfl, rfl, rfl, rfl, trivial⟩
  · have hP2 : mI M2 576 (Y 0) = iz 0 := by rw [hP.2.1, if_neg e]; rfl
    have hq := hq e
    subst hq
    have hf := ddiv_ok (fin_i2d (sumL σ (σ.1 2)) (by omega)) (fin_i2d2 (cnt (post σ) (σ.1 2)) (by omega) e)
    refine r_callV (mi := iL_law) vL_149 dL_law_2516 hP.1.o (m_thrown hP.1.o hP2) (hm := ⟨by omega, by omega⟩) (k := kP ?_) (kx := r_nox)
    refine r_iload dL_law_2519 rfl ?_
    refine r_icmp_same (tgt := 2526) dL_law_2521 (by decide) ?_
    refine r_iload dL_law_2526 rfl ?_
    refine r_if_ne (tgt := 2563) dL_law_2528 (by decide) (kt := fun h => absurd rfl h) (kf := fun _ => ?_)
    refine r_aload dL_law_2531 rfl ?_
    refine r_iconst dL_law_2533 ?_
    refine r_dald dL_law_2534 hW2.1.2.2.2.2.2 (j := 0) rfl ((congrFun hD2 0).trans hv) (k := ?_)
    refine r_dload dL_law_2535 rfl ?_
    refine r_dcmp dL_law_2537 ?_
    rw [dcmp_s hf]
    refine r_if_eq (tgt := 2563) dL_law_2538 (by decide) (kt := fun _ => ?_) (kf := fun h => absurd rfl h)
    refine r_goto (tgt := 2566) dL_law_2563 (by decide) ?_
    exact r_loc' (r_wid (by omega) (by omega) K2) ⟨rfl, rfl, rfl, rfl, rfl, rfl, trivial⟩
end LWF
