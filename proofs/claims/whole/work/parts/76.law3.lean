/-! The law's cases. -/
section LWC1
variable {G : GC} {Qf : List Frame → Array Value → State → State → Prop} {M : Mem} {kc ks : Nat} {C : CE} {Y : Nat → Nat} {σ : St} {T a b sc n x : Nat} {S : Nat → Int32}
theorem q_lettersOf (hW : LW G M C Y σ T a b sc n x S) (hT : T < 512) (hi : 5 * T + 5 ≤ n) (hn : n ≤ 2560) (hk : kc + 340 ≤ room_1.cells ∧ ks + 11000 ≤ room_1.slots) (K : KL G Qf Y T a b sc n x S (kc + 340) (ks + 11000)) : SWG G iL_law room_1 Qf 980 (LB sc x (Y 0) a b (5 * T)) [] M kc ks := by
  obtain ⟨hX, hR, hO, hD, ha, hb⟩ := id hW.1
  have hs := hW.2.1
  obtain rfl := hW.2.2
  obtain ⟨hk1, hk2⟩ := hk
  refine r_aload_n dL_law_980 rfl ?_
  refine ld_scr (k := 1) dL_law_981 dL_law_982 dL_law_984 dL_law_985 dL_law_986 rfl rfl rfl hs (by omega) hn ?_
  refine r_aload_n dL_law_987 rfl ?_
  refine r_callSX (mi := iL_law) vL_199 dL_law_988 (h_lettersOf hX hO ((S (5 * T + 1)).toInt) (scr_in _) ha) (hm := ⟨by omega, by omega⟩) (k := kI (fun r M1 h1 => ?_)) (kx := r_nox)
  obtain ⟨rfl, h0, hQ⟩ := h1
  obtain ⟨hR1, -, -, -⟩ := hW.1.hlp (Or.inl rfl) hQ
  have hs1 := hW.mid (Or.inl rfl) hQ
  refine r_istore dL_law_991 (k := ?_)
  refine r_aload_n dL_law_993 rfl ?_
  refine ld_scr (k := 1) dL_law_994 dL_law_995 dL_law_997 dL_law_998 dL_law_999 rfl rfl rfl hs1 (by omega) hn ?_
  refine r_callV (mi := iL_law) vL_201 dL_law_1000 hR1.o (m_lettersOf hR1 hO ((S (5 * T + 1)).toInt) (scr_in _)) (hm := ⟨by omega, by omega⟩) (k := kI (fun r2 M2 h2 => ?_)) (kx := r_nox)
  obtain ⟨hP, hr2⟩ := h2
  obtain ⟨⟨C', hW2⟩, hL2, -⟩ := hW.step (T' := T + 1) (σ' := (opLettersOf σ ((S (5 * T + 1)).toInt)).1) (c := (opLettersOf σ ((S (5 * T + 1)).toInt)).2.1) (Or.inl rfl) hQ hP ((by rw [show (opLettersOf σ ((S (5 * T + 1)).toInt)).1 = σ from by unfold opLettersOf; (repeat' split) <;> rfl]; exact hO.up hT))
  exact tail_i (p := 1003) (c := (opLettersOf σ ((S (5 * T + 1)).toInt)).2.1) (z := (opLettersOf σ ((S (5 * T + 1)).toInt)).2.2) dL_law_1003 dL_law_1005 dL_law_1006 dL_law_1009 dL_law_1011 dL_law_1016 dL_law_1018 dL_law_1021 dL_law_1022 dL_law_1023 dL_law_1024 dL_law_1026 dL_law_1027 dL_law_1028 dL_law_1033 (by decide) hP.1 hP.2.1 hr2 (fun h => (congrFun hL2 0).trans (h0 h)) (by unfold opLettersOf; (repeat' split) <;> first | exact Nat.le_of_ble_eq_true rfl | exact wlc_le _ _ | exact svC_le _ _ _) hW2.1.2.2.2.2.1 ⟨by omega, by omega⟩ (r_wid (by omega) (by omega) (K M2 C' _ hW2))
theorem q_isDue (hW : LW G M C Y σ T a b sc n x S) (hT : T < 512) (hi : 5 * T + 5 ≤ n) (hn : n ≤ 2560) (hk : kc + 340 ≤ room_1.cells ∧ ks + 11000 ≤ room_1.slots) (K : KL G Qf Y T a b sc n x S (kc + 340) (ks + 11000)) : SWG G iL_law room_1 Qf 1036 (LB sc x (Y 0) a b (5 * T)) [] M kc ks := by
  obtain ⟨hX, hR, hO, hD, ha, hb⟩ := id hW.1
  have hs := hW.2.1
  obtain rfl := hW.2.2
  obtain ⟨hk1, hk2⟩ := hk
  refine r_aload_n dL_law_1036 rfl ?_
  refine ld_scr (k := 1) dL_law_1037 dL_law_1038 dL_law_1040 dL_law_1041 dL_law_1042 rfl rfl rfl hs (by omega) hn ?_
  refine r_aload_n dL_law_1043 rfl ?_
  refine r_callSX (mi := iL_law) vL_202 dL_law_1044 (h_isDue hX hO ((S (5 * T + 1)).toInt) (scr_in _) ha) (hm := ⟨by omega, by omega⟩) (k := kI (fun r M1 h1 => ?_)) (kx := r_nox)
  obtain ⟨rfl, h0, hQ⟩ := h1
  obtain ⟨hR1, -, -, -⟩ := hW.1.hlp (Or.inl rfl) hQ
  have hs1 := hW.mid (Or.inl rfl) hQ
  refine r_istore dL_law_1047 (k := ?_)
  refine r_aload_n dL_law_1049 rfl ?_
  refine ld_scr (k := 1) dL_law_1050 dL_law_1051 dL_law_1053 dL_law_1054 dL_law_1055 rfl rfl rfl hs1 (by omega) hn ?_
  refine r_callV (mi := iL_law) vL_204 dL_law_1056 hR1.o (m_isDue hR1 hO ((S (5 * T + 1)).toInt) (scr_in _)) (hm := ⟨by omega, by omega⟩) (k := kI (fun r2 M2 h2 => ?_)) (kx := r_nox)
  obtain ⟨hP, hr2⟩ := h2
  obtain ⟨⟨C', hW2⟩, hL2, -⟩ := hW.step (T' := T + 1) (σ' := (opIsDue σ ((S (5 * T + 1)).toInt)).1) (c := (opIsDue σ ((S (5 * T + 1)).toInt)).2.1) (Or.inl rfl) hQ hP ((by rw [show (opIsDue σ ((S (5 * T + 1)).toInt)).1 = σ from by unfold opIsDue; (repeat' split) <;> rfl]; exact hO.up hT))
  exact tail_b (p := 1059) (c := (opIsDue σ ((S (5 * T + 1)).toInt)).2.1) (z := (opIsDue σ ((S (5 * T + 1)).toInt)).2.2) dL_law_1059 dL_law_1061 dL_law_1062 dL_law_1065 dL_law_1067 dL_law_1072 dL_law_1074 dL_law_1077 dL_law_1078 dL_law_1079 dL_law_1080 dL_law_1082 dL_law_1085 dL_law_1086 dL_law_1089 dL_law_1090 dL_law_1091 dL_law_1096 (by decide) hP.1 hP.2.1 hr2 (fun h => (congrFun hL2 0).trans (h0 h)) (by unfold opIsDue; repeat' (first | exact Or.inl rfl | exact Or.inr rfl | split)) (by unfold opIsDue; (repeat' split) <;> first | exact Nat.le_of_ble_eq_true rfl | exact wlc_le _ _ | exact svC_le _ _ _) hW2.1.2.2.2.2.1 ⟨by omega, by omega⟩ (r_wid (by omega) (by omega) (K M2 C' _ hW2))
theorem q_due (hW : LW G M C Y σ T a b sc n x S) (hT : T < 512) (hi : 5 * T + 5 ≤ n) (hn : n ≤ 2560) (hk : kc + 340 ≤ room_1.cells ∧ ks + 11000 ≤ room_1.slots) (K : KL G Qf Y T a b sc n x S (kc + 340) (ks + 11000)) : SWG G iL_law room_1 Qf 1099 (LB sc x (Y 0) a b (5 * T)) [] M kc ks := by
  obtain ⟨hX, hR, hO, hD, ha, hb⟩ := id hW.1
  have hs := hW.2.1
  obtain rfl := hW.2.2
  obtain ⟨hk1, hk2⟩ := hk
  refine r_aload_n dL_law_1099 rfl ?_
  refine ld_scr (k := 1) dL_law_1100 dL_law_1101 dL_law_1103 dL_law_1104 dL_law_1105 rfl rfl rfl hs (by omega) hn ?_
  refine r_aload_n dL_law_1106 rfl ?_
  refine r_callSX (mi := iL_law) vL_205 dL_law_1107 (h_due hX hO ((S (5 * T + 1)).toInt) (scr_in _) ha) (hm := ⟨by omega, by omega⟩) (k := kI (fun r M1 h1 => ?_)) (kx := r_nox)
  obtain ⟨rfl, h0, hQ⟩ := h1
  obtain ⟨hR1, -, -, -⟩ := hW.1.hlp (Or.inl rfl) hQ
  have hs1 := hW.mid (Or.inl rfl) hQ
  refine r_istore dL_law_1110 (k := ?_)
  refine r_aload_n dL_law_1112 rfl ?_
  refine ld_scr (k := 1) dL_law_1113 dL_law_1114 dL_law_1116 dL_law_1117 dL_law_1118 rfl rfl rfl hs1 (by omega) hn ?_
  refine r_callV (mi := iL_law) vL_207 dL_law_1119 hR1.o (m_due hR1 hO ((S (5 * T + 1)).toInt) (scr_in _)) (hm := ⟨by omega, by omega⟩) (k := kI (fun r2 M2 h2 => ?_)) (kx := r_nox)
  obtain ⟨hP, hr2⟩ := h2
  obtain ⟨⟨C', hW2⟩, hL2, -⟩ := hW.step (T' := T + 1) (σ' := (opDue σ ((S (5 * T + 1)).toInt)).1) (c := (opDue σ ((S (5 * T + 1)).toInt)).2.1) (Or.inl rfl) hQ hP ((by rw [show (opDue σ ((S (5 * T + 1)).toInt)).1 = σ from by unfold opDue; (repeat' split) <;> rfl]; exact hO.up hT))
  exact tail_i (p := 1122) (c := (opDue σ ((S (5 * T + 1)).toInt)).2.1) (z := (opDue σ ((S (5 * T + 1)).toInt)).2.2) dL_law_1122 dL_law_1124 dL_law_1125 dL_law_1128 dL_law_1130 dL_law_1135 dL_law_1137 dL_law_1140 dL_law_1141 dL_law_1142 dL_law_1143 dL_law_1145 dL_law_1146 dL_law_1147 dL_law_1152 (by decide) hP.1 hP.2.1 hr2 (fun h => (congrFun hL2 0).trans (h0 h)) (by unfold opDue; (repeat' split) <;> first | exact Nat.le_of_ble_eq_true rfl | exact wlc_le _ _ | exact svC_le _ _ _) hW2.1.2.2.2.2.1 ⟨by omega, by omega⟩ (r_wid (by omega) (by omega) (K M2 C' _ hW2))
theorem q_distance (hW : LW G M C Y σ T a b sc n x S) (hT : T < 512) (hi : 5 * T + 5 ≤ n) (hn : n ≤ 2560) (hk : kc + 340 ≤ room_1.cells ∧ ks + 11000 ≤ room_1.slots) (K : KL G Qf Y T a b sc n x S (kc + 340) (ks + 11000)) : SWG G iL_law room_1 Qf 1155 (LB sc x (Y 0) a b (5 * T)) [] M kc ks := by
  obtain ⟨hX, hR, hO, hD, ha, hb⟩ := id hW.1
  have hs := hW.2.1
  obtain rfl := hW.2.2
  obtain ⟨hk1, hk2⟩ := hk
  refine r_aload_n dL_law_1155 rfl ?_
  refine ld_scr (k := 1) dL_law_1156 dL_law_1157 dL_law_1159 dL_law_1160 dL_law_1161 rfl rfl rfl hs (by omega) hn ?_
  refine ld_scr (k := 2) dL_law_1162 dL_law_1163 dL_law_1165 dL_law_1166 dL_law_1167 rfl rfl rfl hs (by omega) hn ?_
  refine r_aload_n dL_law_1168 rfl ?_
  refine r_callSX (mi := iL_law) vL_208 dL_law_1169 (h_distance hX hO ((S (5 * T + 1)).toInt) ((S (5 * T + 2)).toInt) (scr_in _) (scr_in _) ha) (hm := ⟨by omega, by omega⟩) (k := kI (fun r M1 h1 => ?_)) (kx := r_nox)
  obtain ⟨rfl, h0, hQ⟩ := h1
  obtain ⟨hR1, -, -, -⟩ := hW.1.hlp (Or.inl rfl) hQ
  have hs1 := hW.mid (Or.inl rfl) hQ
  refine r_istore dL_law_1172 (k := ?_)
  refine r_aload_n dL_law_1174 rfl ?_
  refine ld_scr (k := 1) dL_law_1175 dL_law_1176 dL_law_1178 dL_law_1179 dL_law_1180 rfl rfl rfl hs1 (by omega) hn ?_
  refine ld_scr (k := 2) dL_law_1181 dL_law_1182 dL_law_1184 dL_law_1185 dL_law_1186 rfl rfl rfl hs1 (by omega) hn ?_
  refine r_callV (mi := iL_law) vL_210 dL_law_1187 hR1.o (m_distance hR1 hO ((S (5 * T + 1)).toInt) ((S (5 * T + 2)).toInt) (scr_in _) (scr_in _)) (hm := ⟨by omega, by omega⟩) (k := kI (fun r2 M2 h2 => ?_)) (kx := r_nox)
  obtain ⟨hP, hr2⟩ := h2
  obtain ⟨⟨C', hW2⟩, hL2, -⟩ := hW.step (T' := T + 1) (σ' := (opDistance σ ((S (5 * T + 1)).toInt) ((S (5 * T + 2)).toInt)).1) (c := (opDistance σ ((S (5 * T + 1)).toInt) ((S (5 * T + 2)).toInt)).2.1) (Or.inl rfl) hQ hP ((by rw [show (opDistance σ ((S (5 * T + 1)).toInt) ((S (5 * T + 2)).toInt)).1 = σ from by unfold opDistance; (repeat' split) <;> rfl]; exact hO.up hT))
  exact tail_i (p := 1190) (c := (opDistance σ ((S (5 * T + 1)).toInt) ((S (5 * T + 2)).toInt)).2.1) (z := (opDistance σ ((S (5 * T + 1)).toInt) ((S (5 * T + 2)).toInt)).2.2) dL_law_1190 dL_law_1192 dL_law_1193 dL_law_1196 dL_law_1198 dL_law_1203 dL_law_1205 dL_law_1208 dL_law_1209 dL_law_1210 dL_law_1211 dL_law_1213 dL_law_1214 dL_law_1215 dL_law_1220 (by decide) hP.1 hP.2.1 hr2 (fun h => (congrFun hL2 0).trans (h0 h)) (by unfold opDistance; (repeat' split) <;> first | exact Nat.le_of_ble_eq_true rfl | exact wlc_le _ _ | exact svC_le _ _ _) hW2.1.2.2.2.2.1 ⟨by omega, by omega⟩ (r_wid (by omega) (by omega) (K M2 C' _ hW2))
theorem q_distanceByRounds (hW : LW G M C Y σ T a b sc n x S) (hT : T < 512) (hi : 5 * T + 5 ≤ n) (hn : n ≤ 2560) (hk : kc + 340 ≤ room_1.cells ∧ ks + 11000 ≤ room_1.slots) (K : KL G Qf Y T a b sc n x S (kc + 340) (ks + 11000)) : SWG G iL_law room_1 Qf 1223 (LB sc x (Y 0) a b (5 * T)) [] M kc ks := by
  obtain ⟨hX, hR, hO, hD, ha, hb⟩ := id hW.1
  have hs := hW.2.1
  obtain rfl := hW.2.2
  obtain ⟨hk1, hk2⟩ := hk
  refine r_aload_n dL_law_1223 rfl ?_
  refine ld_scr (k := 1) dL_law_1224 dL_law_1225 dL_law_1227 dL_law_1228 dL_law_1229 rfl rfl rfl hs (by omega) hn ?_
  refine ld_scr (k := 2) dL_law_1230 dL_law_1231 dL_law_1233 dL_law_1234 dL_law_1235 rfl rfl rfl hs (by omega) hn ?_
  refine r_aload_n dL_law_1236 rfl ?_
  refine r_callSX (mi := iL_law) vL_211 dL_law_1237 (h_distanceByRounds hX hO ((S (5 * T + 1)).toInt) ((S (5 * T + 2)).toInt) (scr_in _) (scr_in _) ha) (hm := ⟨by omega, by omega⟩) (k := kI (fun r M1 h1 => ?_)) (kx := r_nox)
  obtain ⟨rfl, h0, hQ⟩ := h1
  obtain ⟨hR1, -, -, -⟩ := hW.1.hlp (Or.inl rfl) hQ
  have hs1 := hW.mid (Or.inl rfl) hQ
  refine r_istore dL_law_1240 (k := ?_)
  refine r_aload_n dL_law_1242 rfl ?_
  refine ld_scr (k := 1) dL_law_1243 dL_law_1244 dL_law_1246 dL_law_1247 dL_law_1248 rfl rfl rfl hs1 (by omega) hn ?_
  refine ld_scr (k := 2) dL_law_1249 dL_law_1250 dL_law_1252 dL_law_1253 dL_law_1254 rfl rfl rfl hs1 (by omega) hn ?_
  refine r_callV (mi := iL_law) vL_213 dL_law_1255 hR1.o (m_distanceByRounds hR1 hO ((S (5 * T + 1)).toInt) ((S (5 * T + 2)).toInt) (scr_in _) (scr_in _)) (hm := ⟨by omega, by omega⟩) (k := kI (fun r2 M2 h2 => ?_)) (kx := r_nox)
  obtain ⟨hP, hr2⟩ := h2
  obtain ⟨⟨C', hW2⟩, hL2, -⟩ := hW.step (T' := T + 1) (σ' := (opDistance σ ((S (5 * T + 1)).toInt) ((S (5 * T + 2)).toInt)).1) (c := (opDistance σ ((S (5 * T + 1)).toInt) ((S (5 * T + 2)).toInt)).2.1) (Or.inl rfl) hQ hP ((by rw [show (opDistance σ ((S (5 * T + 1)).toInt) ((S (5 * T + 2)).toInt)).1 = σ from by unfold opDistance; (repeat' split) <;> rfl]; exact hO.up hT))
  exact tail_i (p := 1258) (c := (opDistance σ ((S (5 * T + 1)).toInt) ((S (5 * T + 2)).toInt)).2.1) (z := (opDistance σ ((S (5 * T + 1)).toInt) ((S (5 * T + 2)).toInt)).2.2) dL_law_1258 dL_law_1260 dL_law_1261 dL_law_1264 dL_law_1266 dL_law_1271 dL_law_1273 dL_law_1276 dL_law_1277 dL_law_1278 dL_law_1279 dL_law_1281 dL_law_1282 dL_law_1283 dL_law_1288 (by decide) hP.1 hP.2.1 hr2 (fun h => (congrFun hL2 0).trans (h0 h)) (by unfold opDistance; (repeat' split) <;> first | exact Nat.le_of_ble_eq_true rfl | exact wlc_le _ _ | exact svC_le _ _ _) hW2.1.2.2.2.2.1 ⟨by omega, by omega⟩ (r_wid (by omega) (by omega) (K M2 C' _ hW2))
theorem q_needed (hW : LW G M C Y σ T a b sc n x S) (hT : T < 512) (hi : 5 * T + 5 ≤ n) (hn : n ≤ 2560) (hk : kc + 340 ≤ room_1.cells ∧ ks + 11000 ≤ room_1.slots) (K : KL G Qf Y T a b sc n x S (kc + 340) (ks + 11000)) : SWG G iL_law room_1 Qf 1291 (LB sc x (Y 0) a b (5 * T)) [] M kc ks := by
  obtain ⟨hX, hR, hO, hD, ha, hb⟩ := id hW.1
  have hs := hW.2.1
  obtain rfl := hW.2.2
  obtain ⟨hk1, hk2⟩ := hk
  refine r_aload_n dL_law_1291 rfl ?_
  refine ld_scr (k := 1) dL_law_1292 dL_law_1293 dL_law_1295 dL_law_1296 dL_law_1297 rfl rfl rfl hs (by omega) hn ?_
  refine r_aload_n dL_law_1298 rfl ?_
  refine r_callSX (mi := iL_law) vL_214 dL_law_1299 (h_needed hX hO ((S (5 * T + 1)).toInt) (scr_in _) ha) (hm := ⟨by omega, by omega⟩) (k := kI (fun r M1 h1 => ?_)) (kx := r_nox)
  obtain ⟨rfl, h0, hQ⟩ := h1
  obtain ⟨hR1, -, -, -⟩ := hW.1.hlp (Or.inl rfl) hQ
  have hs1 := hW.mid (Or.inl rfl) hQ
  refine r_istore dL_law_1302 (k := ?_)
  refine r_aload_n dL_law_1304 rfl ?_
  refine ld_scr (k := 1) dL_law_1305 dL_law_1306 dL_law_1308 dL_law_1309 dL_law_1310 rfl rfl rfl hs1 (by omega) hn ?_
  refine r_callV (mi := iL_law) vL_216 dL_law_1311 hR1.o (m_needed hR1 hO ((S (5 * T + 1)).toInt) (scr_in _)) (hm := ⟨by omega, by omega⟩) (k := kI (fun r2 M2 h2 => ?_)) (kx := r_nox)
  obtain ⟨hP, hr2⟩ := h2
  obtain ⟨⟨C', hW2⟩, hL2, -⟩ := hW.step (T' := T + 1) (σ' := (opNeeded σ ((S (5 * T + 1)).toInt)).1) (c := (opNeeded σ ((S (5 * T + 1)).toInt)).2.1) (Or.inl rfl) hQ hP ((by rw [show (opNeeded σ ((S (5 * T + 1)).toInt)).1 = σ from by unfold opNeeded; (repeat' split) <;> rfl]; exact hO.up hT))
  exact tail_i (p := 1314) (c := (opNeeded σ ((S (5 * T + 1)).toInt)).2.1) (z := (opNeeded σ ((S (5 * T + 1)).toInt)).2.2) dL_law_1314 dL_law_1316 dL_law_1317 dL_law_1320 dL_law_1322 dL_law_1327 dL_law_1329 dL_law_1332 dL_law_1333 dL_law_1334 dL_law_1335 dL_law_1337 dL_law_1338 dL_law_1339 dL_law_1344 (by decide) hP.1 hP.2.1 hr2 (fun h => (congrFun hL2 0).trans (h0 h)) (by unfold opNeeded; (repeat' split) <;> first | exact Nat.le_of_ble_eq_true rfl | exact wlc_le _ _ | exact svC_le _ _ _) hW2.1.2.2.2.2.1 ⟨by omega, by omega⟩ (r_wid (by omega) (by omega) (K M2 C' _ hW2))
theorem q_hasWalk (hW : LW G M C Y σ T a b sc n x S) (hT : T < 512) (hi : 5 * T + 5 ≤ n) (hn : n ≤ 2560) (hk : kc + 340 ≤ room_1.cells ∧ ks + 11000 ≤ room_1.slots) (K : KL G Qf Y T a b sc n x S (kc + 340) (ks + 11000)) : SWG G iL_law room_1 Qf 1347 (LB sc x (Y 0) a b (5 * T)) [] M kc ks := by
  obtain ⟨hX, hR, hO, hD, ha, hb⟩ := id hW.1
  have hs := hW.2.1
  obtain rfl := hW.2.2
  obtain ⟨hk1, hk2⟩ := hk
  refine r_aload_n dL_law_1347 rfl ?_
  refine ld_scr (k := 1) dL_law_1348 dL_law_1349 dL_law_1351 dL_law_1352 dL_law_1353 rfl rfl rfl hs (by omega) hn ?_
  refine r_aload_n dL_law_1354 rfl ?_
  refine r_callSX (mi := iL_law) vL_217 dL_law_1355 (h_hasWalk hX hO ((S (5 * T + 1)).toInt) (scr_in _) ha) (hm := ⟨by omega, by omega⟩) (k := kI (fun r M1 h1 => ?_)) (kx := r_nox)
  obtain ⟨rfl, h0, hQ⟩ := h1
  obtain ⟨hR1, -, -, -⟩ := hW.1.hlp (Or.inl rfl) hQ
  have hs1 := hW.mid (Or.inl rfl) hQ
  refine r_istore dL_law_1358 (k := ?_)
  refine r_aload_n dL_law_1360 rfl ?_
  refine ld_scr (k := 1) dL_law_1361 dL_law_1362 dL_law_1364 dL_law_1365 dL_law_1366 rfl rfl rfl hs1 (by omega) hn ?_
  refine r_callV (mi := iL_law) vL_219 dL_law_1367 hR1.o (m_hasWalk hR1 hO ((S (5 * T + 1)).toInt) (scr_in _)) (hm := ⟨by omega, by omega⟩) (k := kI (fun r2 M2 h2 => ?_)) (kx := r_nox)
  obtain ⟨hP, hr2⟩ := h2
  obtain ⟨⟨C', hW2⟩, hL2, -⟩ := hW.step (T' := T + 1) (σ' := (opHasWalk σ ((S (5 * T + 1)).toInt)).1) (c := (opHasWalk σ ((S (5 * T + 1)).toInt)).2.1) (Or.inl rfl) hQ hP ((by rw [show (opHasWalk σ ((S (5 * T + 1)).toInt)).1 = σ from by unfold opHasWalk; (repeat' split) <;> rfl]; exact hO.up hT))
  exact tail_b (p := 1370) (c := (opHasWalk σ ((S (5 * T + 1)).toInt)).2.1) (z := (opHasWalk σ ((S (5 * T + 1)).toInt)).2.2) dL_law_1370 dL_law_1372 dL_law_1373 dL_law_1376 dL_law_1378 dL_law_1383 dL_law_1385 dL_law_1388 dL_law_1389 dL_law_1390 dL_law_1391 dL_law_1393 dL_law_1396 dL_law_1397 dL_law_1400 dL_law_1401 dL_law_1402 dL_law_1407 (by decide) hP.1 hP.2.1 hr2 (fun h => (congrFun hL2 0).trans (h0 h)) (by unfold opHasWalk; repeat' (first | exact Or.inl rfl | exact Or.inr rfl | split)) (by unfold opHasWalk; (repeat' split) <;> first | exact Nat.le_of_ble_eq_true rfl | exact wlc_le _ _ | exact svC_le _ _ _) hW2.1.2.2.2.2.1 ⟨by omega, by omega⟩ (r_wid (by omega) (by omega) (K M2 C' _ hW2))
theorem q_walkLength (hW : LW G M C Y σ T a b sc n x S) (hT : T < 512) (hi : 5 * T + 5 ≤ n) (hn : n ≤ 2560) (hk : kc + 340 ≤ room_1.cells ∧ ks + 11000 ≤ room_1.slots) (K : KL G Qf Y T a b sc n x S (kc + 340) (ks + 11000)) : SWG G iL_law room_1 Qf 1410 (LB sc x (Y 0) a b (5 * T)) [] M kc ks := by
  obtain ⟨hX, hR, hO, hD, ha, hb⟩ := id hW.1
  have hs := hW.2.1
  obtain rfl := hW.2.2
  obtain ⟨hk1, hk2⟩ := hk
  refine r_aload_n dL_law_1410 rfl ?_
  refine ld_scr (k := 1) dL_law_1411 dL_law_1412 dL_law_1414 dL_law_1415 dL_law_1416 rfl rfl rfl hs (by omega) hn ?_
  refine r_aload_n dL_law_1417 rfl ?_
  refine r_callSX (mi := iL_law) vL_220 dL_law_1418 (h_walkLength hX hO ((S (5 * T + 1)).toInt) (scr_in _) ha) (hm := ⟨by omega, by omega⟩) (k := kI (fun r M1 h1 => ?_)) (kx := r_nox)
  obtain ⟨rfl, h0, hQ⟩ := h1
  obtain ⟨hR1, -, -, -⟩ := hW.1.hlp (Or.inl rfl) hQ
  have hs1 := hW.mid (Or.inl rfl) hQ
  refine r_istore dL_law_1421 (k := ?_)
  refine r_aload_n dL_law_1423 rfl ?_
  refine ld_scr (k := 1) dL_law_1424 dL_law_1425 dL_law_1427 dL_law_1428 dL_law_1429 rfl rfl rfl hs1 (by omega) hn ?_
  refine r_callV (mi := iL_law) vL_222 dL_law_1430 hR1.o (m_walkLength hR1 hO ((S (5 * T + 1)).toInt) (scr_in _)) (hm := ⟨by omega, by omega⟩) (k := kI (fun r2 M2 h2 => ?_)) (kx := r_nox)
  obtain ⟨hP, hr2⟩ := h2
  obtain ⟨⟨C', hW2⟩, hL2, -⟩ := hW.step (T' := T + 1) (σ' := (opWalkLength σ ((S (5 * T + 1)).toInt)).1) (c := (opWalkLength σ ((S (5 * T + 1)).toInt)).2.1) (Or.inl rfl) hQ hP ((by rw [show (opWalkLength σ ((S (5 * T + 1)).toInt)).1 = σ from by unfold opWalkLength; (repeat' split) <;> rfl]; exact hO.up hT))
  exact tail_i (p := 1433) (c := (opWalkLength σ ((S (5 * T + 1)).toInt)).2.1) (z := (opWalkLength σ ((S (5 * T + 1)).toInt)).2.2) dL_law_1433 dL_law_1435 dL_law_1436 dL_law_1439 dL_law_1441 dL_law_1446 dL_law_1448 dL_law_1451 dL_law_1452 dL_law_1453 dL_law_1454 dL_law_1456 dL_law_1457 dL_law_1458 dL_law_1463 (by decide) hP.1 hP.2.1 hr2 (fun h => (congrFun hL2 0).trans (h0 h)) (by unfold opWalkLength; (repeat' split) <;> first | exact Nat.le_of_ble_eq_true rfl | exact wlc_le _ _ | exact svC_le _ _ _) hW2.1.2.2.2.2.1 ⟨by omega, by omega⟩ (r_wid (by omega) (by omega) (K M2 C' _ hW2))
theorem q_lengthByTrying (hW : LW G M C Y σ T a b sc n x S) (hT : T < 512) (hi : 5 * T + 5 ≤ n) (hn : n ≤ 2560) (hk : kc + 340 ≤ room_1.cells ∧ ks + 11000 ≤ room_1.slots) (K : KL G Qf Y T a b sc n x S (kc + 340) (ks + 11000)) : SWG G iL_law room_1 Qf 1466 (LB sc x (Y 0) a b (5 * T)) [] M kc ks := by
  obtain ⟨hX, hR, hO, hD, ha, hb⟩ := id hW.1
  have hs := hW.2.1
  obtain rfl := hW.2.2
  obtain ⟨hk1, hk2⟩ := hk
  refine r_aload_n dL_law_1466 rfl ?_
  refine ld_scr (k := 1) dL_law_1467 dL_law_1468 dL_law_1470 dL_law_1471 dL_law_1472 rfl rfl rfl hs (by omega) hn ?_
  refine r_aload_n dL_law_1473 rfl ?_
  refine r_callSX (mi := iL_law) vL_223 dL_law_1474 (h_lengthByTrying hX hO ((S (5 * T + 1)).toInt) (scr_in _) ha) (hm := ⟨by omega, by omega⟩) (k := kI (fun r M1 h1 => ?_)) (kx := r_nox)
  obtain ⟨rfl, h0, hQ⟩ := h1
  obtain ⟨hR1, -, -, -⟩ := hW.1.hlp (Or.inl rfl) hQ
  have hs1 := hW.mid (Or.inl rfl) hQ
  refine r_istore dL_law_1477 (k := ?_)
  refine r_aload_n dL_law_1479 rfl ?_
  refine ld_scr (k := 1) dL_law_1480 dL_law_1481 dL_law_1483 dL_law_1484 dL_law_1485 rfl rfl rfl hs1 (by omega) hn ?_
  refine r_callV (mi := iL_law) vL_225 dL_law_1486 hR1.o (m_lengthByTrying hR1 hO ((S (5 * T + 1)).toInt) (scr_in _)) (hm := ⟨by omega, by omega⟩) (k := kI (fun r2 M2 h2 => ?_)) (kx := r_nox)
  obtain ⟨hP, hr2⟩ := h2
  obtain ⟨⟨C', hW2⟩, hL2, -⟩ := hW.step (T' := T + 1) (σ' := (opTry σ ((S (5 * T + 1)).toInt)).1) (c := (opTry σ ((S (5 * T + 1)).toInt)).2.1) (Or.inl rfl) hQ hP ((by rw [show (opTry σ ((S (5 * T + 1)).toInt)).1 = σ from by unfold opTry; (repeat' split) <;> rfl]; exact hO.up hT))
  exact tail_i (p := 1489) (c := (opTry σ ((S (5 * T + 1)).toInt)).2.1) (z := (opTry σ ((S (5 * T + 1)).toInt)).2.2) dL_law_1489 dL_law_1491 dL_law_1492 dL_law_1495 dL_law_1497 dL_law_1502 dL_law_1504 dL_law_1507 dL_law_1508 dL_law_1509 dL_law_1510 dL_law_1512 dL_law_1513 dL_law_1514 dL_law_1519 (by decide) hP.1 hP.2.1 hr2 (fun h => (congrFun hL2 0).trans (h0 h)) (by unfold opTry; (repeat' split) <;> first | exact Nat.le_of_ble_eq_true rfl | exact wlc_le _ _ | exact svC_le _ _ _) hW2.1.2.2.2.2.1 ⟨by omega, by omega⟩ (r_wid (by omega) (by omega) (K M2 C' _ hW2))
theorem q_passAt (hW : LW G M C Y σ T a b sc n x S) (hT : T < 512) (hi : 5 * T + 5 ≤ n) (hn : n ≤ 2560) (hk : kc + 340 ≤ room_1.cells ∧ ks + 11000 ≤ room_1.slots) (K : KL G Qf Y T a b sc n x S (kc + 340) (ks + 11000)) : SWG G iL_law room_1 Qf 1522 (LB sc x (Y 0) a b (5 * T)) [] M kc ks := by
  obtain ⟨hX, hR, hO, hD, ha, hb⟩ := id hW.1
  have hs := hW.2.1
  obtain rfl := hW.2.2
  obtain ⟨hk1, hk2⟩ := hk
  refine r_aload_n dL_law_1522 rfl ?_
  refine ld_scr (k := 1) dL_law_1523 dL_law_1524 dL_law_1526 dL_law_1527 dL_law_1528 rfl rfl rfl hs (by omega) hn ?_
  refine ld_scr (k := 2) dL_law_1529 dL_law_1530 dL_law_1532 dL_law_1533 dL_law_1534 rfl rfl rfl hs (by omega) hn ?_
  refine r_aload_n dL_law_1535 rfl ?_
  refine r_callSX (mi := iL_law) vL_226 dL_law_1536 (h_passAt hX hO ((S (5 * T + 1)).toInt) ((S (5 * T + 2)).toInt) (scr_in _) (scr_in _) ha) (hm := ⟨by omega, by omega⟩) (k := kI (fun r M1 h1 => ?_)) (kx := r_nox)
  obtain ⟨rfl, h0, hQ⟩ := h1
  obtain ⟨hR1, -, -, -⟩ := hW.1.hlp (Or.inl rfl) hQ
  have hs1 := hW.mid (Or.inl rfl) hQ
  refine r_istore dL_law_1539 (k := ?_)
  refine r_aload_n dL_law_1541 rfl ?_
  refine ld_scr (k := 1) dL_law_1542 dL_law_1543 dL_law_1545 dL_law_1546 dL_law_1547 rfl rfl rfl hs1 (by omega) hn ?_
  refine ld_scr (k := 2) dL_law_1548 dL_law_1549 dL_law_1551 dL_law_1552 dL_law_1553 rfl rfl rfl hs1 (by omega) hn ?_
  refine r_callV (mi := iL_law) vL_228 dL_law_1554 hR1.o (m_passAt hR1 hO ((S (5 * T + 1)).toInt) ((S (5 * T + 2)).toInt) (scr_in _) (scr_in _)) (hm := ⟨by omega, by omega⟩) (k := kI (fun r2 M2 h2 => ?_)) (kx := r_nox)
  obtain ⟨hP, hr2⟩ := h2
  obtain ⟨⟨C', hW2⟩, hL2, -⟩ := hW.step (T' := T + 1) (σ' := (opPassAt σ ((S (5 * T + 1)).toInt) ((S (5 * T + 2)).toInt)).1) (c := (opPassAt σ ((S (5 * T + 1)).toInt) ((S (5 * T + 2)).toInt)).2.1) (Or.inl rfl) hQ hP ((by rw [show (opPassAt σ ((S (5 * T + 1)).toInt) ((S (5 * T + 2)).toInt)).1 = σ from by unfold opPassAt; (repeat' split) <;> rfl]; exact hO.up hT))
  exact tail_i (p := 1557) (c := (opPassAt σ ((S (5 * T + 1)).toInt) ((S (5 * T + 2)).toInt)).2.1) (z := (opPassAt σ ((S (5 * T + 1)).toInt) ((S (5 * T + 2)).toInt)).2.2) dL_law_1557 dL_law_1559 dL_law_1560 dL_law_1563 dL_law_1565 dL_law_1570 dL_law_1572 dL_law_1575 dL_law_1576 dL_law_1577 dL_law_1578 dL_law_1580 dL_law_1581 dL_law_1582 dL_law_1587 (by decide) hP.1 hP.2.1 hr2 (fun h => (congrFun hL2 0).trans (h0 h)) (by unfold opPassAt; (repeat' split) <;> first | exact Nat.le_of_ble_eq_true rfl | exact wlc_le _ _ | exact svC_le _ _ _) hW2.1.2.2.2.2.1 ⟨by omega, by omega⟩ (r_wid (by omega) (by omega) (K M2 C' _ hW2))
theorem q_walkPlaces (hW : LW G M C Y σ T a b sc n x S) (hT : T < 512) (hi : 5 * T + 5 ≤ n) (hn : n ≤ 2560) (hk : kc + 340 ≤ room_1.cells ∧ ks + 11000 ≤ room_1.slots) (K : KL G Qf Y T a b sc n x S (kc + 340) (ks + 11000)) : SWG G iL_law room_1 Qf 1590 (LB sc x (Y 0) a b (5 * T)) [] M kc ks := by
  obtain ⟨hX, hR, hO, hD, ha, hb⟩ := id hW.1
  have hs := hW.2.1
  obtain rfl := hW.2.2
  obtain ⟨hk1, hk2⟩ := hk
  refine r_aload_n dL_law_1590 rfl ?_
  refine ld_scr (k := 1) dL_law_1591 dL_law_1592 dL_law_1594 dL_law_1595 dL_law_1596 rfl rfl rfl hs (by omega) hn ?_
  refine r_aload_n dL_law_1597 rfl ?_
  refine r_callSX (mi := iL_law) vL_229 dL_law_1598 (h_walkPlaces hX hO ((S (5 * T + 1)).toInt) (scr_in _) ha) (hm := ⟨by omega, by omega⟩) (k := kI (fun r M1 h1 => ?_)) (kx := r_nox)
  obtain ⟨rfl, h0, hQ⟩ := h1
  obtain ⟨hR1, -, -, -⟩ := hW.1.hlp (Or.inl rfl) hQ
  have hs1 := hW.mid (Or.inl rfl) hQ
  refine r_istore dL_law_1601 (k := ?_)
  refine r_aload_n dL_law_1603 rfl ?_
  refine ld_scr (k := 1) dL_law_1604 dL_law_1605 dL_law_1607 dL_law_1608 dL_law_1609 rfl rfl rfl hs1 (by omega) hn ?_
  refine r_callV (mi := iL_law) vL_231 dL_law_1610 hR1.o (m_walkPlaces hR1 hO ((S (5 * T + 1)).toInt) (scr_in _)) (hm := ⟨by omega, by omega⟩) (k := kI (fun r2 M2 h2 => ?_)) (kx := r_nox)
  obtain ⟨hP, hr2⟩ := h2
  obtain ⟨⟨C', hW2⟩, hL2, -⟩ := hW.step (T' := T + 1) (σ' := (opWalkPlaces σ ((S (5 * T + 1)).toInt)).1) (c := (opWalkPlaces σ ((S (5 * T + 1)).toInt)).2.1) (Or.inl rfl) hQ hP ((by rw [show (opWalkPlaces σ ((S (5 * T + 1)).toInt)).1 = σ from by unfold opWalkPlaces; (repeat' split) <;> rfl]; exact hO.up hT))
  exact tail_i (p := 1613) (c := (opWalkPlaces σ ((S (5 * T + 1)).toInt)).2.1) (z := (opWalkPlaces σ ((S (5 * T + 1)).toInt)).2.2) dL_law_1613 dL_law_1615 dL_law_1616 dL_law_1619 dL_law_1621 dL_law_1626 dL_law_1628 dL_law_1631 dL_law_1632 dL_law_1633 dL_law_1634 dL_law_1636 dL_law_1637 dL_law_1638 dL_law_1643 (by decide) hP.1 hP.2.1 hr2 (fun h => (congrFun hL2 0).trans (h0 h)) (by unfold opWalkPlaces; (repeat' split) <;> first | exact Nat.le_of_ble_eq_true rfl | exact wlc_le _ _ | exact svC_le _ _ _) hW2.1.2.2.2.2.1 ⟨by omega, by omega⟩ (r_wid (by omega) (by omega) (K M2 C' _ hW2))
theorem q_walkAt (hW : LW G M C Y σ T a b sc n x S) (hT : T < 512) (hi : 5 * T + 5 ≤ n) (hn : n ≤ 2560) (hk : kc + 340 ≤ room_1.cells ∧ ks + 11000 ≤ room_1.slots) (K : KL G Qf Y T a b sc n x S (kc + 340) (ks + 11000)) : SWG G iL_law room_1 Qf 1646 (LB sc x (Y 0) a b (5 * T)) [] M kc ks := by
  obtain ⟨hX, hR, hO, hD, ha, hb⟩ := id hW.1
  have hs := hW.2.1
  obtain rfl := hW.2.2
  obtain ⟨hk1, hk2⟩ := hk
  refine r_aload_n dL_law_1646 rfl ?_
  refine ld_scr (k := 1) dL_law_1647 dL_law_1648 dL_law_1650 dL_law_1651 dL_law_1652 rfl rfl rfl hs (by omega) hn ?_
  refine ld_scr (k := 2) dL_law_1653 dL_law_1654 dL_law_1656 dL_law_1657 dL_law_1658 rfl rfl rfl hs (by omega) hn ?_
  refine r_aload_n dL_law_1659 rfl ?_
  refine r_callSX (mi := iL_law) vL_232 dL_law_1660 (h_walkAt hX hO ((S (5 * T + 1)).toInt) ((S (5 * T + 2)).toInt) (scr_in _) (scr_in _) ha) (hm := ⟨by omega, by omega⟩) (k := kI (fun r M1 h1 => ?_)) (kx := r_nox)
  obtain ⟨rfl, h0, hQ⟩ := h1
  obtain ⟨hR1, -, -, -⟩ := hW.1.hlp (Or.inl rfl) hQ
  have hs1 := hW.mid (Or.inl rfl) hQ
  refine r_istore dL_law_1663 (k := ?_)
  refine r_aload_n dL_law_1665 rfl ?_
  refine ld_scr (k := 1) dL_law_1666 dL_law_1667 dL_law_1669 dL_law_1670 dL_law_1671 rfl rfl rfl hs1 (by omega) hn ?_
  refine ld_scr (k := 2) dL_law_1672 dL_law_1673 dL_law_1675 dL_law_1676 dL_law_1677 rfl rfl rfl hs1 (by omega) hn ?_
  refine r_callV (mi := iL_law) vL_234 dL_law_1678 hR1.o (m_walkAt hR1 hO ((S (5 * T + 1)).toInt) ((S (5 * T + 2)).toInt) (scr_in _) (scr_in _)) (hm := ⟨by omega, by omega⟩) (k := kI (fun r2 M2 h2 => ?_)) (kx := r_nox)
  obtain ⟨hP, hr2⟩ := h2
  obtain ⟨⟨C', hW2⟩, hL2, -⟩ := hW.step (T' := T + 1) (σ' := (opWalkAt σ ((S (5 * T + 1)).toInt) ((S (5 * T + 2)).toInt)).1) (c := (opWalkAt σ ((S (5 * T + 1)).toInt) ((S (5 * T + 2)).toInt)).2.1) (Or.inl rfl) hQ hP ((by rw [show (opWalkAt σ ((S (5 * T + 1)).toInt) ((S (5 * T + 2)).toInt)).1 = σ from by unfold opWalkAt; (repeat' split) <;> rfl]; exact hO.up hT))
  exact tail_i (p := 1681) (c := (opWalkAt σ ((S (5 * T + 1)).toInt) ((S (5 * T + 2)).toInt)).2.1) (z := (opWalkAt σ ((S (5 * T + 1)).toInt) ((S (5 * T + 2)).toInt)).2.2) dL_law_1681 dL_law_1683 dL_law_1684 dL_law_1687 dL_law_1689 dL_law_1694 dL_law_1696 dL_law_1699 dL_law_1700 dL_law_1701 dL_law_1702 dL_law_1704 dL_law_1705 dL_law_1706 dL_law_1711 (by decide) hP.1 hP.2.1 hr2 (fun h => (congrFun hL2 0).trans (h0 h)) (by unfold opWalkAt; (repeat' split) <;> first | exact Nat.le_of_ble_eq_true rfl | exact wlc_le _ _ | exact svC_le _ _ _) hW2.1.2.2.2.2.1 ⟨by omega, by omega⟩ (r_wid (by omega) (by omega) (K M2 C' _ hW2))
theorem q_walkTime (hW : LW G M C Y σ T a b sc n x S) (hT : T < 512) (hi : 5 * T + 5 ≤ n) (hn : n ≤ 2560) (hk : kc + 340 ≤ room_1.cells ∧ ks + 11000 ≤ room_1.slots) (K : KL G Qf Y T a b sc n x S (kc + 340) (ks + 11000)) : SWG G iL_law room_1 Qf 1714 (LB sc x (Y 0) a b (5 * T)) [] M kc ks := by
  obtain ⟨hX, hR, hO, hD, ha, hb⟩ := id hW.1
  have hs := hW.2.1
  obtain rfl := hW.2.2
  obtain ⟨hk1, hk2⟩ := hk
  refine r_aload_n dL_law_1714 rfl ?_
  refine ld_scr (k := 1) dL_law_1715 dL_law_1716 dL_law_1718 dL_law_1719 dL_law_1720 rfl rfl rfl hs (by omega) hn ?_
  refine r_aload_n dL_law_1721 rfl ?_
  refine r_callSX (mi := iL_law) vL_235 dL_law_1722 (h_walkTime hX hO ((S (5 * T + 1)).toInt) (scr_in _) ha) (hm := ⟨by omega, by omega⟩) (k := kI (fun r M1 h1 => ?_)) (kx := r_nox)
  obtain ⟨rfl, h0, hQ⟩ := h1
  obtain ⟨hR1, -, -, -⟩ := hW.1.hlp (Or.inl rfl) hQ
  have hs1 := hW.mid (Or.inl rfl) hQ
  refine r_istore dL_law_1725 (k := ?_)
  refine r_aload_n dL_law_1727 rfl ?_
  refine ld_scr (k := 1) dL_law_1728 dL_law_1729 dL_law_1731 dL_law_1732 dL_law_1733 rfl rfl rfl hs1 (by omega) hn ?_
  refine r_callV (mi := iL_law) vL_237 dL_law_1734 hR1.o (m_walkTime hR1 hO ((S (5 * T + 1)).toInt) (scr_in _)) (hm := ⟨by omega, by omega⟩) (k := kI (fun r2 M2 h2 => ?_)) (kx := r_nox)
  obtain ⟨hP, hr2⟩ := h2
  obtain ⟨⟨C', hW2⟩, hL2, -⟩ := hW.step (T' := T + 1) (σ' := (opWalkTime σ ((S (5 * T + 1)).toInt)).1) (c := (opWalkTime σ ((S (5 * T + 1)).toInt)).2.1) (Or.inl rfl) hQ hP ((by rw [show (opWalkTime σ ((S (5 * T + 1)).toInt)).1 = σ from by unfold opWalkTime; (repeat' split) <;> rfl]; exact hO.up hT))
  exact tail_i (p := 1737) (c := (opWalkTime σ ((S (5 * T + 1)).toInt)).2.1) (z := (opWalkTime σ ((S (5 * T + 1)).toInt)).2.2) dL_law_1737 dL_law_1739 dL_law_1740 dL_law_1743 dL_law_1745 dL_law_1750 dL_law_1752 dL_law_1755 dL_law_1756 dL_law_1757 dL_law_1758 dL_law_1760 dL_law_1761 dL_law_1762 dL_law_1767 (by decide) hP.1 hP.2.1 hr2 (fun h => (congrFun hL2 0).trans (h0 h)) (by unfold opWalkTime; (repeat' split) <;> first | exact Nat.le_of_ble_eq_true rfl | exact wlc_le _ _ | exact svC_le _ _ _) hW2.1.2.2.2.2.1 ⟨by omega, by omega⟩ (r_wid (by omega) (by omega) (K M2 C' _ hW2))
theorem q_isInTime (hW : LW G M C Y σ T a b sc n x S) (hT : T < 512) (hi : 5 * T + 5 ≤ n) (hn : n ≤ 2560) (hk : kc + 340 ≤ room_1.cells ∧ ks + 11000 ≤ room_1.slots) (K : KL G Qf Y T a b sc n x S (kc + 340) (ks + 11000)) : SWG G iL_law room_1 Qf 1770 (LB sc x (Y 0) a b (5 * T)) [] M kc ks := by
  obtain ⟨hX, hR, hO, hD, ha, hb⟩ := id hW.1
  have hs := hW.2.1
  obtain rfl := hW.2.2
  obtain ⟨hk1, hk2⟩ := hk
  refine r_aload_n dL_law_1770 rfl ?_
  refine ld_scr (k := 1) dL_law_1771 dL_law_1772 dL_law_1774 dL_law_1775 dL_law_1776 rfl rfl rfl hs (by omega) hn ?_
  refine r_aload_n dL_law_1777 rfl ?_
  refine r_callSX (mi := iL_law) vL_238 dL_law_1778 (h_isInTime hX hO ((S (5 * T + 1)).toInt) (scr_in _) ha) (hm := ⟨by omega, by omega⟩) (k := kI (fun r M1 h1 => ?_)) (kx := r_nox)
  obtain ⟨rfl, h0, hQ⟩ := h1
  obtain ⟨hR1, -, -, -⟩ := hW.1.hlp (Or.inl rfl) hQ
  have hs1 := hW.mid (Or.inl rfl) hQ
  refine r_istore dL_law_1781 (k := ?_)
  refine r_aload_n dL_law_1783 rfl ?_
  refine ld_scr (k := 1) dL_law_1784 dL_law_1785 dL_law_1787 dL_law_1788 dL_law_1789 rfl rfl rfl hs1 (by omega) hn ?_
  refine r_callV (mi := iL_law) vL_240 dL_law_1790 hR1.o (m_isInTime hR1 hO ((S (5 * T + 1)).toInt) (scr_in _)) (hm := ⟨by omega, by omega⟩) (k := kI (fun r2 M2 h2 => ?_)) (kx := r_nox)
  obtain ⟨hP, hr2⟩ := h2
  obtain ⟨⟨C', hW2⟩, hL2, -⟩ := hW.step (T' := T + 1) (σ' := (opIsInTime σ ((S (5 * T + 1)).toInt)).1) (c := (opIsInTime σ ((S (5 * T + 1)).toInt)).2.1) (Or.inl rfl) hQ hP ((by rw [show (opIsInTime σ ((S (5 * T + 1)).toInt)).1 = σ from by unfold opIsInTime; (repeat' split) <;> rfl]; exact hO.up hT))
  exact tail_b (p := 1793) (c := (opIsInTime σ ((S (5 * T + 1)).toInt)).2.1) (z := (opIsInTime σ ((S (5 * T + 1)).toInt)).2.2) dL_law_1793 dL_law_1795 dL_law_1796 dL_law_1799 dL_law_1801 dL_law_1806 dL_law_1808 dL_law_1811 dL_law_1812 dL_law_1813 dL_law_1814 dL_law_1816 dL_law_1819 dL_law_1820 dL_law_1823 dL_law_1824 dL_law_1825 dL_law_1830 (by decide) hP.1 hP.2.1 hr2 (fun h => (congrFun hL2 0).trans (h0 h)) (by unfold opIsInTime; repeat' (first | exact Or.inl rfl | exact Or.inr rfl | split)) (by unfold opIsInTime; (repeat' split) <;> first | exact Nat.le_of_ble_eq_true rfl | exact wlc_le _ _ | exact svC_le _ _ _) hW2.1.2.2.2.2.1 ⟨by omega, by omega⟩ (r_wid (by omega) (by omega) (K M2 C' _ hW2))
end LWC1
