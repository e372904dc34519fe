/-! What the class throws. -/
section XTH
variable {G : GC} {mi : MI} {R : Room} {Qf : List Frame → Array Value → State → State → Prop} {pc : Nat} {L : List (Nat × Value)} {st : List Value} {M : Mem} {kc ks : Nat}
theorem r_throwW {ik is ic : Nat} {cls text : String} {names : List String} {PR : Option Value → Mem → Prop} {PX : String → Mem → Prop} {mc ms : Nat} (hk : Cond.classLink mi.1 ik cls ∈ wG ∧ Cond.initialized cls ∈ wG ∧ (vx_atS mi.1 ic cls names).all (fun w => decide (w ∈ lw_tbl) && goodWord w) = true) (hs : (mi.1, is, text) ∈ gStr)
    (d0 : decode mi.2.1 pc = .ok (.new ik, 3)) (d3 : decode mi.2.1 (pc + 3) = .ok (.dup, 1)) (d4 : decode mi.2.1 (pc + 4) = .ok (.ldc_w is, 3)) (d6 : decode mi.2.1 (pc + 7) = .ok (.invokespecial ic, 3)) (d9 : decode mi.2.1 (pc + 10) = .ok (.athrow, 1))
    (hcls : Bundle.fit cls = true := by decide +kernel) (hnames : names.all Bundle.fit = true := by decide +kernel) (hh : mi.2.2.2.2.2 = [] := by rfl) (hR1 : names.length + 3 < R.frames ∧ (st.map fun v => v.category).sum + (13 * (names.length + 1) + 43) ≤ R.locals := by exact ⟨Nat.le_of_ble_eq_true rfl, Nat.le_of_ble_eq_true rfl⟩) (hm : kc + 1 ≤ mc ∧ ks + 6 ≤ ms) (hm2 : kc + 1 ≤ R.cells ∧ ks + 6 ≤ R.slots)
    (hx : ∀ n, mN M ≤ n → PX cls (sN M n)) : SWG G mi R (QF G PR PX mc ms) pc L st M kc ks := by
  intro p l e s m args below meth c E ls H locs hl hR hf
  have hts := E.2.2.2.2.1
  have hat : ∀ w ∈ vx_atS mi.1 ic cls names, w ∈ wG := fun w hw => by
    have h := List.all_eq_true.mp hk.2.2 w hw
    simp only [Bool.and_eq_true, decide_eq_true_eq] at h
    exact wG_of h.1 h.2
  obtain ⟨sa, hsa⟩ := E.2.2.2.2.2.2.2.1.2.2.2.2.2.2.2.2.1 _ hs
  have hg := E.2.2.2.2.2.2.2.1
  have hU : vx_Zq Bundle.tN "UNASSIGNED_STACK" Bundle.steD (fun q => gB G ≤ q) s s.heap := vx_Zq.moved E.2.2.2.2.2.2.1.alike (vx_Zq.kept (H1 := s.heap) hg.2.2.2.1 (fun a _ h2 => E.2.2.2.2.2.2.2.2.2.2.2.1 a (by omega)))
  have hN : vx_Zq Bundle.tN "SUPPRESSED_SENTINEL" Bundle.listD (fun q => gB G ≤ q) s s.heap := vx_Zq.moved E.2.2.2.2.2.2.1.alike (vx_Zq.kept (H1 := s.heap) hg.2.2.2.2.1 (fun a _ h2 => E.2.2.2.2.2.2.2.2.2.2.2.1 a (by omega)))
  intro T hT X
  refine vx_throwSW (names := names) E.1 E.2.1 hg.1 E.2.2.2.1 hcls (fun n hn => List.all_eq_true.mp hnames n hn) (hts _ hk.1) (hts _ hk.2.1) (vk_R.warm E.2.2.2.2.2.2.1 hsa) (fun w hw => hts w (hat w hw)) (fun w hw => ?_) hU hN (amb_S E hR hf X hT) (hl.1.trans E.2.2.1.symm) d0 d3 d4 d6 d9 (fun x hx => ?_) hR1.1 hR1.2 hm2.1 hm2.2 E.2.2.2.2.2.1 (fun t _ g2 g3 => ?_) hf hm.1 hm.2 T hT X
  · have hwG : w ∈ wG := by
      rcases List.mem_cons.mp hw with h | h
      · rw [h]; exact hk.1
      · rcases List.mem_cons.mp h with h | h
        · rw [h]; exact hk.2.1
        · exact hat w h
    unfold vx_ot
    rw [wG_good w hwG, Bool.or_true]
  · rw [E.2.2.2.2.2.2.2.2.2.2.1, hh] at hx
    exact nomatch hx
  · refine ⟨sN M t.heap.size, ⟨rfl, ?_, fun a ha => ?_, fun a t' z hz => ?_⟩, hx _ (by rw [← hR.1]; exact g2)⟩
    · show gB G ≤ t.heap.size
      have := hR.2.1
      have := hR.1
      omega
    · rw [g3 a (by have := hR.2.1; have := hR.1; omega)]; exact hR.2.2.1 a ha
    · obtain ⟨q1, q2, q3, q4⟩ := hR.2.2.2 a t' z hz
      have hlt : a < H.size := by rw [hR.1]; exact q1
      refine ⟨Nat.lt_of_lt_of_le hlt g2, q2, fun ht => ?_, fun ht => ?_⟩
      · obtain ⟨cell, c1, c2⟩ := q3 ht
        exact ⟨cell, by rw [g3 a hlt]; exact c1, c2⟩
      · rw [g3 a hlt]; exact q4 ht

end XTH
section XTW
set_option maxRecDepth 100000
theorem xw_57 : Cond.classLink RX8 57 "java/lang/IllegalStateException" ∈ wG ∧ Cond.initialized "java/lang/IllegalStateException" ∈ wG ∧ (vx_atS RX8 61 "java/lang/IllegalStateException" ["java/lang/RuntimeException", "java/lang/Exception"]).all (fun w => decide (w ∈ lw_tbl) && goodWord w) = true := ⟨nX8_57, wG_at 83 (by decide +kernel), by decide +kernel⟩
theorem xw_72 : Cond.classLink RX8 72 "java/lang/IllegalArgumentException" ∈ wG ∧ Cond.initialized "java/lang/IllegalArgumentException" ∈ wG ∧ (vx_atS RX8 76 "java/lang/IllegalArgumentException" ["java/lang/RuntimeException", "java/lang/Exception"]).all (fun w => decide (w ∈ lw_tbl) && goodWord w) = true := ⟨nX8_72, wG_at 85 (by decide +kernel), by decide +kernel⟩
theorem xw_180 : Cond.classLink RX8 180 "java/lang/IndexOutOfBoundsException" ∈ wG ∧ Cond.initialized "java/lang/IndexOutOfBoundsException" ∈ wG ∧ (vx_atS RX8 184 "java/lang/IndexOutOfBoundsException" ["java/lang/RuntimeException", "java/lang/Exception"]).all (fun w => decide (w ∈ lw_tbl) && goodWord w) = true := ⟨nX8_180, wG_at 95 (by decide +kernel), by decide +kernel⟩
theorem xw_222 : Cond.classLink RX8 222 "java/lang/UnsupportedOperationException" ∈ wG ∧ Cond.initialized "java/lang/UnsupportedOperationException" ∈ wG ∧ (vx_atS RX8 226 "java/lang/UnsupportedOperationException" ["java/lang/RuntimeException", "java/lang/Exception"]).all (fun w => decide (w ∈ lw_tbl) && goodWord w) = true := ⟨nX8_222, wG_at 98 (by decide +kernel), by decide +kernel⟩
theorem xw_288 : Cond.classLink RX8 288 "java/util/NoSuchElementException" ∈ wG ∧ Cond.initialized "java/util/NoSuchElementException" ∈ wG ∧ (vx_atS RX8 292 "java/util/NoSuchElementException" ["java/lang/RuntimeException", "java/lang/Exception"]).all (fun w => decide (w ∈ lw_tbl) && goodWord w) = true := ⟨nX8_288, wG_at 84 (by decide +kernel), by decide +kernel⟩
theorem xw_326 : Cond.classLink RX8 326 "java/lang/ArithmeticException" ∈ wG ∧ Cond.initialized "java/lang/ArithmeticException" ∈ wG ∧ (vx_atS RX8 330 "java/lang/ArithmeticException" ["java/lang/RuntimeException", "java/lang/Exception"]).all (fun w => decide (w ∈ lw_tbl) && goodWord w) = true := ⟨nX8_326, wG_at 99 (by decide +kernel), by decide +kernel⟩
end XTW
