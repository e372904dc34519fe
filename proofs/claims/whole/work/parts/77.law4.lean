/-! The law's cases. -/
section LWC2
variable {G : GC} {Qf : List Frame → Array Value → State → State → Prop} {M : Mem} {kc ks : Nat} {C : CE} {Y : Nat → Nat} {σ : St} {T a b sc n x : Nat} {S : Nat → Int32}
theorem q_walkTo (hW : LW G M C Y σ T a b sc n x S) (hT : T < 512) (hi : 5 * T + 5 ≤ n) (hn : n ≤ 2560) (hk : kc + 340 ≤ room_1.cells ∧ ks + 11000 ≤ room_1.slots) (K : KL G Qf Y T a b sc n x S (kc + 340) (ks + 11000)) : SWG G iL_law room_1 Qf 1833 (LB sc x (Y 0) a b (5 * T)) [] M kc ks := by
  obtain ⟨hX, hR, hO, hD, ha, hb⟩ := id hW.1
  have hs := hW.2.1
  obtain rfl := hW.2.2
  obtain ⟨hk1, hk2⟩ := hk
  refine r_aload_n dL_law_1833 rfl ?_
  refine ld_scr (k := 1) dL_law_1834 dL_law_1835 dL_law_1837 dL_law_1838 dL_law_1839 rfl rfl rfl hs (by omega) hn ?_
  refine r_aload_n dL_law_1840 rfl ?_
  refine r_callSX (mi := iL_law) vL_241 dL_law_1841 (h_walkTo hX hO ((S (5 * T + 1)).toInt) (scr_in _) ha) (hm := ⟨by omega, by omega⟩) (k := kI (fun r M1 h1 => ?_)) (kx := r_nox)
  obtain ⟨rfl, h0, hQ⟩ := h1
  obtain ⟨hR1, -, -, -⟩ := hW.1.hlp (Or.inl rfl) hQ
  have hs1 := hW.mid (Or.inl rfl) hQ
  refine r_istore dL_law_1844 (k := ?_)
  refine r_aload_n dL_law_1846 rfl ?_
  refine ld_scr (k := 1) dL_law_1847 dL_law_1848 dL_law_1850 dL_law_1851 dL_law_1852 rfl rfl rfl hs1 (by omega) hn ?_
  refine r_callV (mi := iL_law) vL_243 dL_law_1853 hR1.o (m_walkTo hR1 hO ((S (5 * T + 1)).toInt) (scr_in _)) (hm := ⟨by omega, by omega⟩) (k := kI (fun r2 M2 h2 => ?_)) (kx := r_nox)
  obtain ⟨hP, hr2⟩ := h2
  obtain ⟨⟨C', hW2⟩, hL2, -⟩ := hW.step (T' := T + 1) (σ' := (opWalkTo σ ((S (5 * T + 1)).toInt)).1) (c := (opWalkTo σ ((S (5 * T + 1)).toInt)).2.1) (Or.inl rfl) hQ hP ((by rw [show (opWalkTo σ ((S (5 * T + 1)).toInt)).1 = σ from by unfold opWalkTo; (repeat' split) <;> rfl]; exact hO.up hT))
  exact tail_i (p := 1856) (c := (opWalkTo σ ((S (5 * T + 1)).toInt)).2.1) (z := (opWalkTo σ ((S (5 * T + 1)).toInt)).2.2) dL_law_1856 dL_law_1858 dL_law_1859 dL_law_1862 dL_law_1864 dL_law_1869 dL_law_1871 dL_law_1874 dL_law_1875 dL_law_1876 dL_law_1877 dL_law_1879 dL_law_1880 dL_law_1881 dL_law_1886 (by decide) hP.1 hP.2.1 hr2 (fun h => (congrFun hL2 0).trans (h0 h)) (by unfold opWalkTo; (repeat' split) <;> first | exact Nat.le_of_ble_eq_true rfl | exact wlc_le _ _ | exact svC_le _ _ _) hW2.1.2.2.2.2.1 ⟨by omega, by omega⟩ (r_wid (by omega) (by omega) (K M2 C' _ hW2))
theorem q_deliver (hW : LW G M C Y σ T a b sc n x S) (hT : T < 512) (hi : 5 * T + 5 ≤ n) (hn : n ≤ 2560) (hk : kc + 340 ≤ room_1.cells ∧ ks + 11000 ≤ room_1.slots) (K : KL G Qf Y T a b sc n x S (kc + 340) (ks + 11000)) : SWG G iL_law room_1 Qf 1889 (LB sc x (Y 0) a b (5 * T)) [] M kc ks := by
  obtain ⟨hX, hR, hO, hD, ha, hb⟩ := id hW.1
  have hs := hW.2.1
  obtain rfl := hW.2.2
  obtain ⟨hk1, hk2⟩ := hk
  refine r_aload_n dL_law_1889 rfl ?_
  refine ld_scr (k := 1) dL_law_1890 dL_law_1891 dL_law_1893 dL_law_1894 dL_law_1895 rfl rfl rfl hs (by omega) hn ?_
  refine r_aload_n dL_law_1896 rfl ?_
  refine r_callSX (mi := iL_law) vL_244 dL_law_1897 (h_deliver hX hO ((S (5 * T + 1)).toInt) (scr_in _) ha) (hm := ⟨by omega, by omega⟩) (k := kI (fun r M1 h1 => ?_)) (kx := r_nox)
  obtain ⟨rfl, h0, hQ⟩ := h1
  obtain ⟨hR1, -, -, -⟩ := hW.1.hlp (Or.inl rfl) hQ
  have hs1 := hW.mid (Or.inl rfl) hQ
  refine r_istore dL_law_1900 (k := ?_)
  refine r_aload_n dL_law_1902 rfl ?_
  refine ld_scr (k := 1) dL_law_1903 dL_law_1904 dL_law_1906 dL_law_1907 dL_law_1908 rfl rfl rfl hs1 (by omega) hn ?_
  refine r_callV (mi := iL_law) vL_246 dL_law_1909 hR1.o (m_deliver hR1 hO ((S (5 * T + 1)).toInt) (scr_in _)) (hm := ⟨by omega, by omega⟩) (k := kI (fun r2 M2 h2 => ?_)) (kx := r_nox)
  obtain ⟨hP, hr2⟩ := h2
  obtain ⟨⟨C', hW2⟩, hL2, -⟩ := hW.step (T' := T + 1) (σ' := (opDeliver σ ((S (5 * T + 1)).toInt)).1) (c := (opDeliver σ ((S (5 * T + 1)).toInt)).2.1) (Or.inl rfl) hQ hP (k_deliver hO hT ((S (5 * T + 1)).toInt))
  exact tail_i (p := 1912) (c := (opDeliver σ ((S (5 * T + 1)).toInt)).2.1) (z := (opDeliver σ ((S (5 * T + 1)).toInt)).2.2) dL_law_1912 dL_law_1914 dL_law_1915 dL_law_1918 dL_law_1920 dL_law_1925 dL_law_1927 dL_law_1930 dL_law_1931 dL_law_1932 dL_law_1933 dL_law_1935 dL_law_1936 dL_law_1937 dL_law_1942 (by decide) hP.1 hP.2.1 hr2 (fun h => (congrFun hL2 0).trans (h0 h)) (by unfold opDeliver; (repeat' split) <;> first | exact Nat.le_of_ble_eq_true rfl | exact wlc_le _ _ | exact svC_le _ _ _) hW2.1.2.2.2.2.1 ⟨by omega, by omega⟩ (r_wid (by omega) (by omega) (K M2 C' _ hW2))
theorem q_saving (hW : LW G M C Y σ T a b sc n x S) (hT : T < 512) (hi : 5 * T + 5 ≤ n) (hn : n ≤ 2560) (hk : kc + 340 ≤ room_1.cells ∧ ks + 11000 ≤ room_1.slots) (K : KL G Qf Y T a b sc n x S (kc + 340) (ks + 11000)) : SWG G iL_law room_1 Qf 1945 (LB sc x (Y 0) a b (5 * T)) [] M kc ks := by
  obtain ⟨hX, hR, hO, hD, ha, hb⟩ := id hW.1
  have hs := hW.2.1
  obtain rfl := hW.2.2
  obtain ⟨hk1, hk2⟩ := hk
  refine r_aload_n dL_law_1945 rfl ?_
  refine ld_scr (k := 1) dL_law_1946 dL_law_1947 dL_law_1949 dL_law_1950 dL_law_1951 rfl rfl rfl hs (by omega) hn ?_
  refine ld_scr (k := 2) dL_law_1952 dL_law_1953 dL_law_1955 dL_law_1956 dL_law_1957 rfl rfl rfl hs (by omega) hn ?_
  refine r_aload_n dL_law_1958 rfl ?_
  refine r_callSX (mi := iL_law) vL_247 dL_law_1959 (h_saving hX hO ((S (5 * T + 1)).toInt) ((S (5 * T + 2)).toInt) (scr_in _) (scr_in _) ha) (hm := ⟨by omega, by omega⟩) (k := kI (fun r M1 h1 => ?_)) (kx := r_nox)
  obtain ⟨rfl, h0, hQ⟩ := h1
  obtain ⟨hR1, -, -, -⟩ := hW.1.hlp (Or.inl rfl) hQ
  have hs1 := hW.mid (Or.inl rfl) hQ
  refine r_istore dL_law_1962 (k := ?_)
  refine r_aload_n dL_law_1964 rfl ?_
  refine ld_scr (k := 1) dL_law_1965 dL_law_1966 dL_law_1968 dL_law_1969 dL_law_1970 rfl rfl rfl hs1 (by omega) hn ?_
  refine ld_scr (k := 2) dL_law_1971 dL_law_1972 dL_law_1974 dL_law_1975 dL_law_1976 rfl rfl rfl hs1 (by omega) hn ?_
  refine r_callV (mi := iL_law) vL_249 dL_law_1977 hR1.o (m_saving hR1 hO ((S (5 * T + 1)).toInt) ((S (5 * T + 2)).toInt) (scr_in _) (scr_in _)) (hm := ⟨by omega, by omega⟩) (k := kI (fun r2 M2 h2 => ?_)) (kx := r_nox)
  obtain ⟨hP, hr2⟩ := h2
  obtain ⟨⟨C', hW2⟩, hL2, -⟩ := hW.step (T' := T + 1) (σ' := (opSaving σ ((S (5 * T + 1)).toInt) ((S (5 * T + 2)).toInt)).1) (c := (opSaving σ ((S (5 * T + 1)).toInt) ((S (5 * T + 2)).toInt)).2.1) (Or.inl rfl) hQ hP ((by rw [show (opSaving σ ((S (5 * T + 1)).toInt) ((S (5 * T + 2)).toInt)).1 = σ from by unfold opSaving; (repeat' split) <;> rfl]; exact hO.up hT))
  exact tail_i (p := 1980) (c := (opSaving σ ((S (5 * T + 1)).toInt) ((S (5 * T + 2)).toInt)).2.1) (z := (opSaving σ ((S (5 * T + 1)).toInt) ((S (5 * T + 2)).toInt)).2.2) dL_law_1980 dL_law_1982 dL_law_1983 dL_law_1986 dL_law_1988 dL_law_1993 dL_law_1995 dL_law_1998 dL_law_1999 dL_law_2000 dL_law_2001 dL_law_2003 dL_law_2004 dL_law_2005 dL_law_2010 (by decide) hP.1 hP.2.1 (fun h => (hr2 h).1) (fun h => (congrFun hL2 0).trans (h0 h)) (by unfold opSaving; (repeat' split) <;> first | exact Nat.le_of_ble_eq_true rfl | exact wlc_le _ _ | exact svC_le _ _ _) hW2.1.2.2.2.2.1 ⟨by omega, by omega⟩ (r_wid (by omega) (by omega) (K M2 C' _ hW2))
theorem q_mergeInto (hW : LW G M C Y σ T a b sc n x S) (hT : T < 512) (hi : 5 * T + 5 ≤ n) (hn : n ≤ 2560) (hk : kc + 340 ≤ room_1.cells ∧ ks + 11000 ≤ room_1.slots) (K : KL G Qf Y T a b sc n x S (kc + 340) (ks + 11000)) : SWG G iL_law room_1 Qf 2013 (LB sc x (Y 0) a b (5 * T)) [] M kc ks := by
  obtain ⟨hX, hR, hO, hD, ha, hb⟩ := id hW.1
  have hs := hW.2.1
  obtain rfl := hW.2.2
  obtain ⟨hk1, hk2⟩ := hk
  refine r_aload_n dL_law_2013 rfl ?_
  refine ld_scr (k := 1) dL_law_2014 dL_law_2015 dL_law_2017 dL_law_2018 dL_law_2019 rfl rfl rfl hs (by omega) hn ?_
  refine ld_scr (k := 2) dL_law_2020 dL_law_2021 dL_law_2023 dL_law_2024 dL_law_2025 rfl rfl rfl hs (by omega) hn ?_
  refine r_aload_n dL_law_2026 rfl ?_
  refine r_callSX (mi := iL_law) vL_250 dL_law_2027 (h_mergeInto hX hO ((S (5 * T + 1)).toInt) ((S (5 * T + 2)).toInt) (scr_in _) (scr_in _) ha) (hm := ⟨by omega, by omega⟩) (k := kI (fun r M1 h1 => ?_)) (kx := r_nox)
  obtain ⟨rfl, h0, hQ⟩ := h1
  obtain ⟨hR1, -, -, -⟩ := hW.1.hlp (Or.inl rfl) hQ
  have hs1 := hW.mid (Or.inl rfl) hQ
  refine r_istore dL_law_2030 (k := ?_)
  refine r_aload_n dL_law_2032 rfl ?_
  refine ld_scr (k := 1) dL_law_2033 dL_law_2034 dL_law_2036 dL_law_2037 dL_law_2038 rfl rfl rfl hs1 (by omega) hn ?_
  refine ld_scr (k := 2) dL_law_2039 dL_law_2040 dL_law_2042 dL_law_2043 dL_law_2044 rfl rfl rfl hs1 (by omega) hn ?_
  refine r_callV (mi := iL_law) vL_252 dL_law_2045 hR1.o (m_mergeInto hR1 hO ((S (5 * T + 1)).toInt) ((S (5 * T + 2)).toInt) (scr_in _) (scr_in _)) (hm := ⟨by omega, by omega⟩) (k := kI (fun r2 M2 h2 => ?_)) (kx := r_nox)
  obtain ⟨hP, hr2⟩ := h2
  obtain ⟨⟨C', hW2⟩, hL2, -⟩ := hW.step (T' := T + 1) (σ' := (opMerge σ ((S (5 * T + 1)).toInt) ((S (5 * T + 2)).toInt)).1) (c := (opMerge σ ((S (5 * T + 1)).toInt) ((S (5 * T + 2)).toInt)).2.1) (Or.inl rfl) hQ hP ((k_merge hO ((S (5 * T + 1)).toInt) ((S (5 * T + 2)).toInt)).up hT)
  exact tail_i (p := 2048) (c := (opMerge σ ((S (5 * T + 1)).toInt) ((S (5 * T + 2)).toInt)).2.1) (z := (opMerge σ ((S (5 * T + 1)).toInt) ((S (5 * T + 2)).toInt)).2.2) dL_law_2048 dL_law_2050 dL_law_2051 dL_law_2054 dL_law_2056 dL_law_2061 dL_law_2063 dL_law_2066 dL_law_2067 dL_law_2068 dL_law_2069 dL_law_2071 dL_law_2072 dL_law_2073 dL_law_2078 (by decide) hP.1 hP.2.1 hr2 (fun h => (congrFun hL2 0).trans (h0 h)) (by unfold opMerge; (repeat' split) <;> first | exact Nat.le_of_ble_eq_true rfl | exact wlc_le _ _ | exact svC_le _ _ _) hW2.1.2.2.2.2.1 ⟨by omega, by omega⟩ (r_wid (by omega) (by omega) (K M2 C' _ hW2))
theorem q_bestMerge (hW : LW G M C Y σ T a b sc n x S) (hT : T < 512) (hi : 5 * T + 5 ≤ n) (hn : n ≤ 2560) (hk : kc + 340 ≤ room_1.cells ∧ ks + 11000 ≤ room_1.slots) (K : KL G Qf Y T a b sc n x S (kc + 340) (ks + 11000)) : SWG G iL_law room_1 Qf 2081 (LB sc x (Y 0) a b (5 * T)) [] M kc ks := by
  obtain ⟨hX, hR, hO, hD, ha, hb⟩ := id hW.1
  have hs := hW.2.1
  obtain rfl := hW.2.2
  obtain ⟨hk1, hk2⟩ := hk
  refine r_aload_n dL_law_2081 rfl ?_
  refine r_aload_n dL_law_2082 rfl ?_
  refine r_callSX (mi := iL_law) vL_253 dL_law_2083 (h_bestMerge hX hO ha) (hm := ⟨by omega, by omega⟩) (k := kI (fun r M1 h1 => ?_)) (kx := r_nox)
  obtain ⟨rfl, h0, hQ⟩ := h1
  obtain ⟨hR1, -, -, -⟩ := hW.1.hlp (Or.inl rfl) hQ
  have hs1 := hW.mid (Or.inl rfl) hQ
  refine r_istore dL_law_2086 (k := ?_)
  refine r_aload_n dL_law_2088 rfl ?_
  refine r_callV (mi := iL_law) vL_255 dL_law_2089 hR1.o (m_bestMerge hR1 hO) (hm := ⟨by omega, by omega⟩) (k := kI (fun r2 M2 h2 => ?_)) (kx := r_nox)
  obtain ⟨hP, hr2⟩ := h2
  obtain ⟨⟨C', hW2⟩, hL2, -⟩ := hW.step (T' := T + 1) (σ' := (opBest σ ).1) (c := (opBest σ ).2.1) (Or.inl rfl) hQ hP ((by rw [show (opBest σ ).1 = σ from by unfold opBest; (repeat' split) <;> rfl]; exact hO.up hT))
  exact tail_i (p := 2092) (c := (opBest σ ).2.1) (z := (opBest σ ).2.2) dL_law_2092 dL_law_2094 dL_law_2095 dL_law_2098 dL_law_2100 dL_law_2105 dL_law_2107 dL_law_2110 dL_law_2111 dL_law_2112 dL_law_2113 dL_law_2115 dL_law_2116 dL_law_2117 dL_law_2122 (by decide) hP.1 hP.2.1 hr2 (fun h => (congrFun hL2 0).trans (h0 h)) (by unfold opBest; (repeat' split) <;> first | exact Nat.le_of_ble_eq_true rfl | exact wlc_le _ _ | exact svC_le _ _ _) hW2.1.2.2.2.2.1 ⟨by omega, by omega⟩ (r_wid (by omega) (by omega) (K M2 C' _ hW2))
theorem q_parcelState (hW : LW G M C Y σ T a b sc n x S) (hT : T < 512) (hi : 5 * T + 5 ≤ n) (hn : n ≤ 2560) (hk : kc + 340 ≤ room_1.cells ∧ ks + 11000 ≤ room_1.slots) (K : KL G Qf Y T a b sc n x S (kc + 340) (ks + 11000)) : SWG G iL_law room_1 Qf 2125 (LB sc x (Y 0) a b (5 * T)) [] M kc ks := by
  obtain ⟨hX, hR, hO, hD, ha, hb⟩ := id hW.1
  have hs := hW.2.1
  obtain rfl := hW.2.2
  obtain ⟨hk1, hk2⟩ := hk
  refine r_aload_n dL_law_2125 rfl ?_
  refine ld_scr (k := 1) dL_law_2126 dL_law_2127 dL_law_2129 dL_law_2130 dL_law_2131 rfl rfl rfl hs (by omega) hn ?_
  refine r_aload_n dL_law_2132 rfl ?_
  refine r_callSX (mi := iL_law) vL_256 dL_law_2133 (h_parcelState hX hO ((S (5 * T + 1)).toInt) (scr_in _) ha) (hm := ⟨by omega, by omega⟩) (k := kI (fun r M1 h1 => ?_)) (kx := r_nox)
  obtain ⟨rfl, h0, hQ⟩ := h1
  obtain ⟨hR1, -, -, -⟩ := hW.1.hlp (Or.inl rfl) hQ
  have hs1 := hW.mid (Or.inl rfl) hQ
  refine r_istore dL_law_2136 (k := ?_)
  refine r_aload_n dL_law_2138 rfl ?_
  refine ld_scr (k := 1) dL_law_2139 dL_law_2140 dL_law_2142 dL_law_2143 dL_law_2144 rfl rfl rfl hs1 (by omega) hn ?_
  refine r_callV (mi := iL_law) vL_258 dL_law_2145 hR1.o (m_parcelState hR1 hO ((S (5 * T + 1)).toInt) (scr_in _)) (hm := ⟨by omega, by omega⟩) (k := kI (fun r2 M2 h2 => ?_)) (kx := r_nox)
  obtain ⟨hP, hr2⟩ := h2
  obtain ⟨⟨C', hW2⟩, hL2, -⟩ := hW.step (T' := T + 1) (σ' := (opState σ ((S (5 * T + 1)).toInt)).1) (c := (opState σ ((S (5 * T + 1)).toInt)).2.1) (Or.inl rfl) hQ hP ((by rw [show (opState σ ((S (5 * T + 1)).toInt)).1 = σ from by unfold opState; (repeat' split) <;> rfl]; exact hO.up hT))
  exact tail_i (p := 2148) (c := (opState σ ((S (5 * T + 1)).toInt)).2.1) (z := (opState σ ((S (5 * T + 1)).toInt)).2.2) dL_law_2148 dL_law_2150 dL_law_2151 dL_law_2154 dL_law_2156 dL_law_2161 dL_law_2163 dL_law_2166 dL_law_2167 dL_law_2168 dL_law_2169 dL_law_2171 dL_law_2172 dL_law_2173 dL_law_2178 (by decide) hP.1 hP.2.1 hr2 (fun h => (congrFun hL2 0).trans (h0 h)) (by unfold opState; (repeat' split) <;> first | exact Nat.le_of_ble_eq_true rfl | exact wlc_le _ _ | exact svC_le _ _ _) hW2.1.2.2.2.2.1 ⟨by omega, by omega⟩ (r_wid (by omega) (by omega) (K M2 C' _ hW2))
theorem q_isHeavy (hW : LW G M C Y σ T a b sc n x S) (hT : T < 512) (hi : 5 * T + 5 ≤ n) (hn : n ≤ 2560) (hk : kc + 340 ≤ room_1.cells ∧ ks + 11000 ≤ room_1.slots) (K : KL G Qf Y T a b sc n x S (kc + 340) (ks + 11000)) : SWG G iL_law room_1 Qf 2181 (LB sc x (Y 0) a b (5 * T)) [] M kc ks := by
  obtain ⟨hX, hR, hO, hD, ha, hb⟩ := id hW.1
  have hs := hW.2.1
  obtain rfl := hW.2.2
  obtain ⟨hk1, hk2⟩ := hk
  refine r_aload_n dL_law_2181 rfl ?_
  refine ld_scr (k := 1) dL_law_2182 dL_law_2183 dL_law_2185 dL_law_2186 dL_law_2187 rfl rfl rfl hs (by omega) hn ?_
  refine r_aload_n dL_law_2188 rfl ?_
  refine r_callSX (mi := iL_law) vL_259 dL_law_2189 (h_isHeavy hX hO ((S (5 * T + 1)).toInt) (scr_in _) ha) (hm := ⟨by omega, by omega⟩) (k := kI (fun r M1 h1 => ?_)) (kx := r_nox)
  obtain ⟨rfl, h0, hQ⟩ := h1
  obtain ⟨hR1, -, -, -⟩ := hW.1.hlp (Or.inl rfl) hQ
  have hs1 := hW.mid (Or.inl rfl) hQ
  refine r_istore dL_law_2192 (k := ?_)
  refine r_aload_n dL_law_2194 rfl ?_
  refine ld_scr (k := 1) dL_law_2195 dL_law_2196 dL_law_2198 dL_law_2199 dL_law_2200 rfl rfl rfl hs1 (by omega) hn ?_
  refine r_callV (mi := iL_law) vL_261 dL_law_2201 hR1.o (m_isHeavy hR1 hO ((S (5 * T + 1)).toInt) (scr_in _)) (hm := ⟨by omega, by omega⟩) (k := kI (fun r2 M2 h2 => ?_)) (kx := r_nox)
  obtain ⟨hP, hr2⟩ := h2
  obtain ⟨⟨C', hW2⟩, hL2, -⟩ := hW.step (T' := T + 1) (σ' := (opHeavy σ ((S (5 * T + 1)).toInt)).1) (c := (opHeavy σ ((S (5 * T + 1)).toInt)).2.1) (Or.inl rfl) hQ hP ((by rw [show (opHeavy σ ((S (5 * T + 1)).toInt)).1 = σ from by unfold opHeavy; (repeat' split) <;> rfl]; exact hO.up hT))
  exact tail_b (p := 2204) (c := (opHeavy σ ((S (5 * T + 1)).toInt)).2.1) (z := (opHeavy σ ((S (5 * T + 1)).toInt)).2.2) dL_law_2204 dL_law_2206 dL_law_2207 dL_law_2210 dL_law_2212 dL_law_2217 dL_law_2219 dL_law_2222 dL_law_2223 dL_law_2224 dL_law_2225 dL_law_2227 dL_law_2230 dL_law_2231 dL_law_2234 dL_law_2235 dL_law_2236 dL_law_2241 (by decide) hP.1 hP.2.1 hr2 (fun h => (congrFun hL2 0).trans (h0 h)) (by unfold opHeavy; repeat' (first | exact Or.inl rfl | exact Or.inr rfl | split)) (by unfold opHeavy; (repeat' split) <;> first | exact Nat.le_of_ble_eq_true rfl | exact wlc_le _ _ | exact svC_le _ _ _) hW2.1.2.2.2.2.1 ⟨by omega, by omega⟩ (r_wid (by omega) (by omega) (K M2 C' _ hW2))
theorem q_nextParcel (hW : LW G M C Y σ T a b sc n x S) (hT : T < 512) (hi : 5 * T + 5 ≤ n) (hn : n ≤ 2560) (hk : kc + 340 ≤ room_1.cells ∧ ks + 11000 ≤ room_1.slots) (K : KL G Qf Y T a b sc n x S (kc + 340) (ks + 11000)) : SWG G iL_law room_1 Qf 2244 (LB sc x (Y 0) a b (5 * T)) [] M kc ks := by
  obtain ⟨hX, hR, hO, hD, ha, hb⟩ := id hW.1
  have hs := hW.2.1
  obtain rfl := hW.2.2
  obtain ⟨hk1, hk2⟩ := hk
  refine r_aload_n dL_law_2244 rfl ?_
  refine r_aload_n dL_law_2245 rfl ?_
  refine r_callSX (mi := iL_law) vL_262 dL_law_2246 (h_nextParcel hX hO ha) (hm := ⟨by omega, by omega⟩) (k := kI (fun r M1 h1 => ?_)) (kx := r_nox)
  obtain ⟨rfl, h0, hQ⟩ := h1
  obtain ⟨hR1, -, -, -⟩ := hW.1.hlp (Or.inl rfl) hQ
  have hs1 := hW.mid (Or.inl rfl) hQ
  refine r_istore dL_law_2249 (k := ?_)
  refine r_aload_n dL_law_2251 rfl ?_
  refine r_callV (mi := iL_law) vL_264 dL_law_2252 hR1.o (m_nextParcel hR1 hO) (hm := ⟨by omega, by omega⟩) (k := kI (fun r2 M2 h2 => ?_)) (kx := r_nox)
  obtain ⟨hP, hr2⟩ := h2
  obtain ⟨⟨C', hW2⟩, hL2, -⟩ := hW.step (T' := T + 1) (σ' := (opNext σ ).1) (c := (opNext σ ).2.1) (Or.inl rfl) hQ hP ((by rw [show (opNext σ ).1 = σ from by unfold opNext; (repeat' split) <;> rfl]; exact hO.up hT))
  exact tail_i (p := 2255) (c := (opNext σ ).2.1) (z := (opNext σ ).2.2) dL_law_2255 dL_law_2257 dL_law_2258 dL_law_2261 dL_law_2263 dL_law_2268 dL_law_2270 dL_law_2273 dL_law_2274 dL_law_2275 dL_law_2276 dL_law_2278 dL_law_2279 dL_law_2280 dL_law_2285 (by decide) hP.1 hP.2.1 hr2 (fun h => (congrFun hL2 0).trans (h0 h)) (by unfold opNext; (repeat' split) <;> first | exact Nat.le_of_ble_eq_true rfl | exact wlc_le _ _ | exact svC_le _ _ _) hW2.1.2.2.2.2.1 ⟨by omega, by omega⟩ (r_wid (by omega) (by omega) (K M2 C' _ hW2))
theorem q_tripOf (hW : LW G M C Y σ T a b sc n x S) (hT : T < 512) (hi : 5 * T + 5 ≤ n) (hn : n ≤ 2560) (hk : kc + 340 ≤ room_1.cells ∧ ks + 11000 ≤ room_1.slots) (K : KL G Qf Y T a b sc n x S (kc + 340) (ks + 11000)) : SWG G iL_law room_1 Qf 2288 (LB sc x (Y 0) a b (5 * T)) [] M kc ks := by
  obtain ⟨hX, hR, hO, hD, ha, hb⟩ := id hW.1
  have hs := hW.2.1
  obtain rfl := hW.2.2
  obtain ⟨hk1, hk2⟩ := hk
  refine r_aload_n dL_law_2288 rfl ?_
  refine ld_scr (k := 1) dL_law_2289 dL_law_2290 dL_law_2292 dL_law_2293 dL_law_2294 rfl rfl rfl hs (by omega) hn ?_
  refine r_aload_n dL_law_2295 rfl ?_
  refine r_callSX (mi := iL_law) vL_265 dL_law_2296 (h_tripOf hX hO ((S (5 * T + 1)).toInt) (scr_in _) ha) (hm := ⟨by omega, by omega⟩) (k := kI (fun r M1 h1 => ?_)) (kx := r_nox)
  obtain ⟨rfl, h0, hQ⟩ := h1
  obtain ⟨hR1, -, -, -⟩ := hW.1.hlp (Or.inl rfl) hQ
  have hs1 := hW.mid (Or.inl rfl) hQ
  refine r_istore dL_law_2299 (k := ?_)
  refine r_aload_n dL_law_2301 rfl ?_
  refine ld_scr (k := 1) dL_law_2302 dL_law_2303 dL_law_2305 dL_law_2306 dL_law_2307 rfl rfl rfl hs1 (by omega) hn ?_
  refine r_callV (mi := iL_law) vL_267 dL_law_2308 hR1.o (m_tripOf hR1 hO ((S (5 * T + 1)).toInt) (scr_in _)) (hm := ⟨by omega, by omega⟩) (k := kI (fun r2 M2 h2 => ?_)) (kx := r_nox)
  obtain ⟨hP, hr2⟩ := h2
  obtain ⟨⟨C', hW2⟩, hL2, -⟩ := hW.step (T' := T + 1) (σ' := (opTrip σ ((S (5 * T + 1)).toInt)).1) (c := (opTrip σ ((S (5 * T + 1)).toInt)).2.1) (Or.inl rfl) hQ hP ((by rw [show (opTrip σ ((S (5 * T + 1)).toInt)).1 = σ from by unfold opTrip; (repeat' split) <;> rfl]; exact hO.up hT))
  exact tail_i (p := 2311) (c := (opTrip σ ((S (5 * T + 1)).toInt)).2.1) (z := (opTrip σ ((S (5 * T + 1)).toInt)).2.2) dL_law_2311 dL_law_2313 dL_law_2314 dL_law_2317 dL_law_2319 dL_law_2324 dL_law_2326 dL_law_2329 dL_law_2330 dL_law_2331 dL_law_2332 dL_law_2334 dL_law_2335 dL_law_2336 dL_law_2341 (by decide) hP.1 hP.2.1 hr2 (fun h => (congrFun hL2 0).trans (h0 h)) (by unfold opTrip; (repeat' split) <;> first | exact Nat.le_of_ble_eq_true rfl | exact wlc_le _ _ | exact svC_le _ _ _) hW2.1.2.2.2.2.1 ⟨by omega, by omega⟩ (r_wid (by omega) (by omega) (K M2 C' _ hW2))
theorem q_dispatch (hW : LW G M C Y σ T a b sc n x S) (hT : T < 512) (hi : 5 * T + 5 ≤ n) (hn : n ≤ 2560) (hk : kc + 340 ≤ room_1.cells ∧ ks + 11000 ≤ room_1.slots) (K : KL G Qf Y T a b sc n x S (kc + 340) (ks + 11000)) : SWG G iL_law room_1 Qf 2344 (LB sc x (Y 0) a b (5 * T)) [] M kc ks := by
  obtain ⟨hX, hR, hO, hD, ha, hb⟩ := id hW.1
  have hs := hW.2.1
  obtain rfl := hW.2.2
  obtain ⟨hk1, hk2⟩ := hk
  refine r_aload_n dL_law_2344 rfl ?_
  refine r_aload_n dL_law_2345 rfl ?_
  refine r_callSX (mi := iL_law) vL_268 dL_law_2346 (h_dispatch hX hO ha) (hm := ⟨by omega, by omega⟩) (k := kI (fun r M1 h1 => ?_)) (kx := r_nox)
  obtain ⟨rfl, h0, hQ⟩ := h1
  obtain ⟨hR1, -, -, -⟩ := hW.1.hlp (Or.inl rfl) hQ
  have hs1 := hW.mid (Or.inl rfl) hQ
  refine r_istore dL_law_2349 (k := ?_)
  refine r_aload_n dL_law_2351 rfl ?_
  refine r_callV (mi := iL_law) vL_270 dL_law_2352 hR1.o (m_dispatch hR1 hO) (hm := ⟨by omega, by omega⟩) (k := kI (fun r2 M2 h2 => ?_)) (kx := r_nox)
  obtain ⟨hP, hr2⟩ := h2
  obtain ⟨⟨C', hW2⟩, hL2, -⟩ := hW.step (T' := T + 1) (σ' := (opDispatch σ ).1) (c := (opDispatch σ ).2.1) (Or.inl rfl) hQ hP (k_dispatch hO hT)
  exact tail_b (p := 2355) (c := (opDispatch σ ).2.1) (z := (opDispatch σ ).2.2) dL_law_2355 dL_law_2357 dL_law_2358 dL_law_2361 dL_law_2363 dL_law_2368 dL_law_2370 dL_law_2373 dL_law_2374 dL_law_2375 dL_law_2376 dL_law_2378 dL_law_2381 dL_law_2382 dL_law_2385 dL_law_2386 dL_law_2387 dL_law_2392 (by decide) hP.1 hP.2.1 hr2 (fun h => (congrFun hL2 0).trans (h0 h)) (by unfold opDispatch; repeat' (first | exact Or.inl rfl | exact Or.inr rfl | split)) (by unfold opDispatch; (repeat' split) <;> first | exact Nat.le_of_ble_eq_true rfl | exact wlc_le _ _ | exact svC_le _ _ _) hW2.1.2.2.2.2.1 ⟨by omega, by omega⟩ (r_wid (by omega) (by omega) (K M2 C' _ hW2))
theorem q_vanClock (hW : LW G M C Y σ T a b sc n x S) (hT : T < 512) (hi : 5 * T + 5 ≤ n) (hn : n ≤ 2560) (hk : kc + 340 ≤ room_1.cells ∧ ks + 11000 ≤ room_1.slots) (K : KL G Qf Y T a b sc n x S (kc + 340) (ks + 11000)) : SWG G iL_law room_1 Qf 2395 (LB sc x (Y 0) a b (5 * T)) [] M kc ks := by
  obtain ⟨hX, hR, hO, hD, ha, hb⟩ := id hW.1
  have hs := hW.2.1
  obtain rfl := hW.2.2
  obtain ⟨hk1, hk2⟩ := hk
  refine r_aload_n dL_law_2395 rfl ?_
  refine r_callV (mi := iL_law) vL_271 dL_law_2396 (hX.1.x 0 8 0) (y_vanClock hX) (hm := ⟨by omega, by omega⟩) (k := kI (fun r M1 h1 => ?_)) (kx := r_nox)
  obtain ⟨-, rfl, hq⟩ := h1
  have hQ := hq_of hX.1 ha (Or.inl rfl) hq
  obtain ⟨hR1, -, -, -⟩ := hW.1.hlp (Or.inl rfl) hQ
  refine r_aload_n dL_law_2399 rfl ?_
  refine r_callV (mi := iL_law) vL_274 dL_law_2400 hR1.o (m_vanClock hR1) (hm := ⟨by omega, by omega⟩) (k := kI (fun r2 M2 h2 => ?_)) (kx := r_nox)
  obtain ⟨hP, hr2⟩ := h2
  have e := hr2 rfl
  subst e
  obtain ⟨⟨C', hW2⟩, -, -⟩ := hW.step (T' := T + 1) (Or.inl rfl) hQ hP (hO.up hT)
  refine r_icmp_same (tgt := 2566) dL_law_2403 (by decide) ?_
  exact r_wid (by omega) (by omega) (K M2 C' _ hW2)
theorem q_late (hW : LW G M C Y σ T a b sc n x S) (hT : T < 512) (hi : 5 * T + 5 ≤ n) (hn : n ≤ 2560) (hk : kc + 340 ≤ room_1.cells ∧ ks + 11000 ≤ room_1.slots) (K : KL G Qf Y T a b sc n x S (kc + 340) (ks + 11000)) : SWG G iL_law room_1 Qf 2408 (LB sc x (Y 0) a b (5 * T)) [] M kc ks := by
  obtain ⟨hX, hR, hO, hD, ha, hb⟩ := id hW.1
  have hs := hW.2.1
  obtain rfl := hW.2.2
  obtain ⟨hk1, hk2⟩ := hk
  refine r_aload_n dL_law_2408 rfl ?_
  refine r_callV (mi := iL_law) vL_275 dL_law_2409 (hX.1.x 0 8 0) (y_late hX) (hm := ⟨by omega, by omega⟩) (k := kI (fun r M1 h1 => ?_)) (kx := r_nox)
  obtain ⟨-, rfl, hq⟩ := h1
  have hQ := hq_of hX.1 ha (Or.inl rfl) hq
  obtain ⟨hR1, -, -, -⟩ := hW.1.hlp (Or.inl rfl) hQ
  refine r_aload_n dL_law_2412 rfl ?_
  refine r_callV (mi := iL_law) vL_278 dL_law_2413 hR1.o (m_late hR1) (hm := ⟨by omega, by omega⟩) (k := kI (fun r2 M2 h2 => ?_)) (kx := r_nox)
  obtain ⟨hP, hr2⟩ := h2
  have e := hr2 rfl
  subst e
  obtain ⟨⟨C', hW2⟩, -, -⟩ := hW.step (T' := T + 1) (Or.inl rfl) hQ hP (hO.up hT)
  refine r_icmp_same (tgt := 2566) dL_law_2416 (by decide) ?_
  exact r_wid (by omega) (by omega) (K M2 C' _ hW2)
theorem q_walked (hW : LW G M C Y σ T a b sc n x S) (hT : T < 512) (hi : 5 * T + 5 ≤ n) (hn : n ≤ 2560) (hk : kc + 340 ≤ room_1.cells ∧ ks + 11000 ≤ room_1.slots) (K : KL G Qf Y T a b sc n x S (kc + 340) (ks + 11000)) : SWG G iL_law room_1 Qf 2421 (LB sc x (Y 0) a b (5 * T)) [] M kc ks := by
  obtain ⟨hX, hR, hO, hD, ha, hb⟩ := id hW.1
  have hs := hW.2.1
  obtain rfl := hW.2.2
  obtain ⟨hk1, hk2⟩ := hk
  refine r_aload_n dL_law_2421 rfl ?_
  refine r_callV (mi := iL_law) vL_279 dL_law_2422 (hX.1.x 0 8 0) (y_walked hX) (hm := ⟨by omega, by omega⟩) (k := kJ (fun r M1 h1 => ?_)) (kx := r_nox)
  obtain ⟨rfl, hq⟩ := h1
  have hQ := hq_of hX.1 ha (Or.inl rfl) hq
  obtain ⟨hR1, -, -, -⟩ := hW.1.hlp (Or.inl rfl) hQ
  refine r_aload_n dL_law_2425 rfl ?_
  refine r_callV (mi := iL_law) vL_283 dL_law_2426 hR1.o (m_walked hR1) (hm := ⟨by omega, by omega⟩) (k := kJ (fun r2 M2 h2 => ?_)) (kx := r_nox)
  obtain ⟨hP, rfl⟩ := h2
  obtain ⟨⟨C', hW2⟩, -, -⟩ := hW.step (T' := T + 1) (Or.inl rfl) hQ hP (hO.up hT)
  refine r_lcmp dL_law_2429 ?_
  rw [lg_self]
  refine r_if_eq (tgt := 2566) dL_law_2430 (by decide) (kt := fun _ => ?_) (kf := fun h => absurd rfl h)
  exact r_wid (by omega) (by omega) (K M2 C' _ hW2)
end LWC2
