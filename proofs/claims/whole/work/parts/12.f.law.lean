set_option maxHeartbeats 2000000 in
theorem lc_26 : lc_Ok 1142 := by
  intro p l e s m below meth c b L xs D cy ad f P g H locs cells slots i K ls C0 hL hK hX hS R hK1 hK9 hi hc1 hc2 hl kk
  obtain ⟨hx, hb, -, hml, hown0, hts, hXs, hbl, -, -⟩ := C0
  have hown : s.vm.findClass RL = some m.cls := hown0
  have hbA : ¬ s.heap.size ≤ b := Nat.not_le.mpr hbl
  have htsL : ∀ w ∈ wsL_law, w.before #[Value.ref b] s = true := fun w h => hts w (wsL_law_in w h)
  refine lv_aload_n hx hb dL_law_1142 rfl (lv_at hl 2 rfl) ?_
  refine lv_aload_n hx hb dL_law_1143 rfl (lv_at hl 3 rfl) ?_
  refine lv_iload_n hx hb dL_law_1144 rfl (lv_at hl 0 rfl) ?_
  refine lv_iconst (v := 1) hx hb dL_law_1145 (by decide) ?_
  refine lv_iadd hx hb dL_law_1146 ?_
  refine va_sld hx hb hXs hbl hbA hS (lc_in hi hL (k := 1) ⟨by decide, by decide⟩) dL_law_1147 ?_
  refine lv_aload_n hx hb dL_law_1148 rfl (lv_at hl 3 rfl) ?_
  refine lv_iload_n hx hb dL_law_1149 rfl (lv_at hl 0 rfl) ?_
  refine lv_iconst (v := 2) hx hb dL_law_1150 (by decide) ?_
  refine lv_iadd hx hb dL_law_1151 ?_
  refine va_sld hx hb hXs hbl hbA hS (lc_in hi hL (k := 2) ⟨by decide, by decide⟩) dL_law_1152 ?_
  refine wx_callr (va_runV (As := [.int (xs (nI i + 1).toNatClampNeg), .int (xs (nI i + 2).toNatClampNeg)]) (rest := []) ⟨hx, hb, hml, hown, htsL⟩ (k_X11_believed l g (xs (nI i + 1).toNatClampNeg) (xs (nI i + 2).toNatClampNeg) R.HB) (cwV 2 htsL gL_law_X11_believed rfl rfl rfl (by decide +kernel) ⟨Nat.le_of_ble_eq_true rfl, Nat.le_of_ble_eq_true rfl⟩) ⟨wx_Pc.blind, wx_recv hK hX (by decide) sh_X11 rfl, (wx_Pc.pre hK hX).2⟩ rfl rfl hl.1 rfl (lv_room (Nat.le_of_ble_eq_true rfl)) dL_law_1153 ⟨by show _ ≤ (600000 : Nat); omega, by show _ ≤ (7302250 : Nat); omega⟩) ?_
  refine lv_aload_n hx hb dL_law_1156 rfl (lv_at hl 1 rfl) ?_
  refine lv_aload_n hx hb dL_law_1157 rfl (lv_at hl 3 rfl) ?_
  refine lv_iload_n hx hb dL_law_1158 rfl (lv_at hl 0 rfl) ?_
  refine lv_iconst (v := 1) hx hb dL_law_1159 (by decide) ?_
  refine lv_iadd hx hb dL_law_1160 ?_
  refine va_sld hx hb hXs hbl hbA hS (lc_in hi hL (k := 1) ⟨by decide, by decide⟩) dL_law_1161 ?_
  refine lv_aload_n hx hb dL_law_1162 rfl (lv_at hl 3 rfl) ?_
  refine lv_iload_n hx hb dL_law_1163 rfl (lv_at hl 0 rfl) ?_
  refine lv_iconst (v := 2) hx hb dL_law_1164 (by decide) ?_
  refine lv_iadd hx hb dL_law_1165 ?_
  refine va_sld hx hb hXs hbl hbA hS (lc_in hi hL (k := 2) ⟨by decide, by decide⟩) dL_law_1166 ?_
  refine wx_callr (va_runV (As := [.int (xs (nI i + 1).toNatClampNeg), .int (xs (nI i + 2).toNatClampNeg)]) (rest := [.int (r_X11_believed g (xs (nI i + 1).toNatClampNeg) (xs (nI i + 2).toNatClampNeg))]) ⟨hx, hb, hml, hown, htsL⟩ (k_X12_believed l g (xs (nI i + 1).toNatClampNeg) (xs (nI i + 2).toNatClampNeg) (R.MB rfl) (R.MP rfl)) (cwV 2 htsL gL_law_X12_believed rfl rfl rfl (by decide +kernel) ⟨Nat.le_of_ble_eq_true rfl, Nat.le_of_ble_eq_true rfl⟩) ⟨wx_Pc.blind, wx_recv hK hX (by decide) sh_X12 rfl, (wx_Pc.pre hK hX).2⟩ rfl rfl hl.1 rfl (lv_room (Nat.le_of_ble_eq_true rfl)) dL_law_1167 ⟨by show _ ≤ (600000 : Nat); omega, by show _ ≤ (7302250 : Nat); omega⟩) ?_
  refine lv_icmp_eq (tgt := 1491) hx hb dL_law_1170 (by decide) (fun _ => ?_) (fun c9 => absurd (s_believed R (xs (nI i + 1).toNatClampNeg) (xs (nI i + 2).toNatClampNeg)) c9)
  exact W.widen (k := cells + 4) (n := slots + 4) (by omega) (by omega) (kk f P g H locs hX (R.mono (by omega)) hS)
set_option maxHeartbeats 2000000 in
theorem lc_27 : lc_Ok 1175 := by
  intro p l e s m below meth c b L xs D cy ad f P g H locs cells slots i K ls C0 hL hK hX hS R hK1 hK9 hi hc1 hc2 hl kk
  obtain ⟨hx, hb, -, hml, hown0, hts, hXs, hbl, -, -⟩ := C0
  have hown : s.vm.findClass RL = some m.cls := hown0
  have hbA : ¬ s.heap.size ≤ b := Nat.not_le.mpr hbl
  have htsL : ∀ w ∈ wsL_law, w.before #[Value.ref b] s = true := fun w h => hts w (wsL_law_in w h)
  refine lv_aload_n hx hb dL_law_1175 rfl (lv_at hl 2 rfl) ?_
  refine lv_aload_n hx hb dL_law_1176 rfl (lv_at hl 3 rfl) ?_
  refine lv_iload_n hx hb dL_law_1177 rfl (lv_at hl 0 rfl) ?_
  refine lv_iconst (v := 1) hx hb dL_law_1178 (by decide) ?_
  refine lv_iadd hx hb dL_law_1179 ?_
  refine va_sld hx hb hXs hbl hbA hS (lc_in hi hL (k := 1) ⟨by decide, by decide⟩) dL_law_1180 ?_
  refine lv_aload_n hx hb dL_law_1181 rfl (lv_at hl 3 rfl) ?_
  refine lv_iload_n hx hb dL_law_1182 rfl (lv_at hl 0 rfl) ?_
  refine lv_iconst (v := 2) hx hb dL_law_1183 (by decide) ?_
  refine lv_iadd hx hb dL_law_1184 ?_
  refine va_sld hx hb hXs hbl hbA hS (lc_in hi hL (k := 2) ⟨by decide, by decide⟩) dL_law_1185 ?_
  refine lv_aload_n hx hb dL_law_1186 rfl (lv_at hl 3 rfl) ?_
  refine lv_iload_n hx hb dL_law_1187 rfl (lv_at hl 0 rfl) ?_
  refine lv_iconst (v := 3) hx hb dL_law_1188 (by decide) ?_
  refine lv_iadd hx hb dL_law_1189 ?_
  refine va_sld hx hb hXs hbl hbA hS (lc_in hi hL (k := 3) ⟨by decide, by decide⟩) dL_law_1190 ?_
  refine lv_aload_n hx hb dL_law_1191 rfl (lv_at hl 3 rfl) ?_
  refine lv_iload_n hx hb dL_law_1192 rfl (lv_at hl 0 rfl) ?_
  refine lv_iconst (v := 4) hx hb dL_law_1193 (by decide) ?_
  refine lv_iadd hx hb dL_law_1194 ?_
  refine va_sld hx hb hXs hbl hbA hS (lc_in hi hL (k := 4) ⟨by decide, by decide⟩) dL_law_1195 ?_
  have T := t_account R (xs (nI i + 1).toNatClampNeg) (xs (nI i + 2).toNatClampNeg) (xs (nI i + 3).toNatClampNeg) (xs (nI i + 4).toNatClampNeg)
  refine wx_callei (va_runV (As := [.int (xs (nI i + 1).toNatClampNeg), .int (xs (nI i + 2).toNatClampNeg), .int (xs (nI i + 3).toNatClampNeg), .int (xs (nI i + 4).toNatClampNeg)]) (rest := []) ⟨hx, hb, hml, hown, htsL⟩ (k_X11_account l g (xs (nI i + 1).toNatClampNeg) (xs (nI i + 2).toNatClampNeg) (xs (nI i + 3).toNatClampNeg) (xs (nI i + 4).toNatClampNeg) R.HB R.SZ) (cwV 4 htsL gL_law_X11_account rfl rfl rfl (by decide +kernel) ⟨Nat.le_of_ble_eq_true rfl, Nat.le_of_ble_eq_true rfl⟩) ⟨wx_Pc.blind, wx_recv hK hX (by decide) sh_X11 rfl, (wx_Pc.pre hK hX).2⟩ rfl rfl hl.1 rfl (lv_room (Nat.le_of_ble_eq_true rfl)) dL_law_1196 ⟨by show _ ≤ (600000 : Nat); omega, by show _ ≤ (7302250 : Nat); omega⟩) hS (fun H1 locs1 hX1 hS1 => ?_)
  obtain ⟨z, ez⟩ : ∃ z, z = f_X11_account g (xs (nI i + 1).toNatClampNeg) (xs (nI i + 2).toNatClampNeg) (xs (nI i + 3).toNatClampNeg) (xs (nI i + 4).toNatClampNeg) := ⟨_, rfl⟩
  rw [← ez] at T hX1 ⊢
  clear ez hX hS
  have hX := hX1
  have hS := hS1
  obtain ⟨T1, T2, T3⟩ := T
  have T2 : (f_X12_account z.1 (xs (nI i + 1).toNatClampNeg) (xs (nI i + 2).toNatClampNeg) (xs (nI i + 3).toNatClampNeg) (xs (nI i + 4).toNatClampNeg)).2 = z.2 := T2
  have T3 : m_Rel (K + 10) (f_X12_account z.1 (xs (nI i + 1).toNatClampNeg) (xs (nI i + 2).toNatClampNeg) (xs (nI i + 3).toNatClampNeg) (xs (nI i + 4).toNatClampNeg)).1 := T3
  refine lv_aload_n hx hb dL_law_1199 rfl (lv_at hl 1 rfl) ?_
  refine lv_aload_n hx hb dL_law_1200 rfl (lv_at hl 3 rfl) ?_
  refine lv_iload_n hx hb dL_law_1201 rfl (lv_at hl 0 rfl) ?_
  refine lv_iconst (v := 1) hx hb dL_law_1202 (by decide) ?_
  refine lv_iadd hx hb dL_law_1203 ?_
  refine va_sld hx hb hXs hbl hbA hS (lc_in hi hL (k := 1) ⟨by decide, by decide⟩) dL_law_1204 ?_
  refine lv_aload_n hx hb dL_law_1205 rfl (lv_at hl 3 rfl) ?_
  refine lv_iload_n hx hb dL_law_1206 rfl (lv_at hl 0 rfl) ?_
  refine lv_iconst (v := 2) hx hb dL_law_1207 (by decide) ?_
  refine lv_iadd hx hb dL_law_1208 ?_
  refine va_sld hx hb hXs hbl hbA hS (lc_in hi hL (k := 2) ⟨by decide, by decide⟩) dL_law_1209 ?_
  refine lv_aload_n hx hb dL_law_1210 rfl (lv_at hl 3 rfl) ?_
  refine lv_iload_n hx hb dL_law_1211 rfl (lv_at hl 0 rfl) ?_
  refine lv_iconst (v := 3) hx hb dL_law_1212 (by decide) ?_
  refine lv_iadd hx hb dL_law_1213 ?_
  refine va_sld hx hb hXs hbl hbA hS (lc_in hi hL (k := 3) ⟨by decide, by decide⟩) dL_law_1214 ?_
  refine lv_aload_n hx hb dL_law_1215 rfl (lv_at hl 3 rfl) ?_
  refine lv_iload_n hx hb dL_law_1216 rfl (lv_at hl 0 rfl) ?_
  refine lv_iconst (v := 4) hx hb dL_law_1217 (by decide) ?_
  refine lv_iadd hx hb dL_law_1218 ?_
  refine va_sld hx hb hXs hbl hbA hS (lc_in hi hL (k := 4) ⟨by decide, by decide⟩) dL_law_1219 ?_
  refine wx_callei (va_runV (As := [.int (xs (nI i + 1).toNatClampNeg), .int (xs (nI i + 2).toNatClampNeg), .int (xs (nI i + 3).toNatClampNeg), .int (xs (nI i + 4).toNatClampNeg)]) (rest := [.int z.2]) ⟨hx, hb, hml, hown, htsL⟩ (k_X12_account l z.1 (xs (nI i + 1).toNatClampNeg) (xs (nI i + 2).toNatClampNeg) (xs (nI i + 3).toNatClampNeg) (xs (nI i + 4).toNatClampNeg) (R.MB (T1 65 (by decide))) (R.IT (T1 59 (by decide)))) (cwV 4 htsL gL_law_X12_account rfl rfl rfl (by decide +kernel) ⟨Nat.le_of_ble_eq_true rfl, Nat.le_of_ble_eq_true rfl⟩) ⟨wx_Pc.blind, wx_recv hK hX (by decide) sh_X12 rfl, (wx_Pc.pre hK hX).2⟩ rfl rfl hl.1 rfl (lv_room (Nat.le_of_ble_eq_true rfl)) dL_law_1220 ⟨by show _ ≤ (600000 : Nat); omega, by show _ ≤ (7302250 : Nat); omega⟩) hS (fun H2 locs2 hX2 hS2 => ?_)
  refine lv_icmp_eq (tgt := 1491) hx hb dL_law_1223 (by decide) (fun _ => ?_) (fun c9 => absurd T2.symm c9)
  exact W.widen (k := cells + 4) (n := slots + 4) (by omega) (by omega) (kk _ _ _ _ _ hX2 T3 hS2)
set_option maxHeartbeats 2000000 in
theorem lc_28 : lc_Ok 1228 := by
  intro p l e s m below meth c b L xs D cy ad f P g H locs cells slots i K ls C0 hL hK hX hS R hK1 hK9 hi hc1 hc2 hl kk
  obtain ⟨hx, hb, -, hml, hown0, hts, hXs, hbl, -, -⟩ := C0
  have hown : s.vm.findClass RL = some m.cls := hown0
  have hbA : ¬ s.heap.size ≤ b := Nat.not_le.mpr hbl
  have htsL : ∀ w ∈ wsL_law, w.before #[Value.ref b] s = true := fun w h => hts w (wsL_law_in w h)
  refine lv_aload_n hx hb dL_law_1228 rfl (lv_at hl 2 rfl) ?_
  refine lv_aload_n hx hb dL_law_1229 rfl (lv_at hl 3 rfl) ?_
  refine lv_iload_n hx hb dL_law_1230 rfl (lv_at hl 0 rfl) ?_
  refine lv_iconst (v := 1) hx hb dL_law_1231 (by decide) ?_
  refine lv_iadd hx hb dL_law_1232 ?_
  refine va_sld hx hb hXs hbl hbA hS (lc_in hi hL (k := 1) ⟨by decide, by decide⟩) dL_law_1233 ?_
  refine lv_aload_n hx hb dL_law_1234 rfl (lv_at hl 3 rfl) ?_
  refine lv_iload_n hx hb dL_law_1235 rfl (lv_at hl 0 rfl) ?_
  refine lv_iconst (v := 2) hx hb dL_law_1236 (by decide) ?_
  refine lv_iadd hx hb dL_law_1237 ?_
  refine va_sld hx hb hXs hbl hbA hS (lc_in hi hL (k := 2) ⟨by decide, by decide⟩) dL_law_1238 ?_
  refine wx_callr (va_runV (As := [.int (xs (nI i + 1).toNatClampNeg), .int (xs (nI i + 2).toNatClampNeg)]) (rest := []) ⟨hx, hb, hml, hown, htsL⟩ (k_X11_met l g (xs (nI i + 1).toNatClampNeg) (xs (nI i + 2).toNatClampNeg) R.HB) (cwV 2 htsL gL_law_X11_met rfl rfl rfl (by decide +kernel) ⟨Nat.le_of_ble_eq_true rfl, Nat.le_of_ble_eq_true rfl⟩) ⟨wx_Pc.blind, wx_recv hK hX (by decide) sh_X11 rfl, (wx_Pc.pre hK hX).2⟩ rfl rfl hl.1 rfl (lv_room (Nat.le_of_ble_eq_true rfl)) dL_law_1239 ⟨by show _ ≤ (600000 : Nat); omega, by show _ ≤ (7302250 : Nat); omega⟩) ?_
  refine lv_aload_n hx hb dL_law_1242 rfl (lv_at hl 1 rfl) ?_
  refine lv_aload_n hx hb dL_law_1243 rfl (lv_at hl 3 rfl) ?_
  refine lv_iload_n hx hb dL_law_1244 rfl (lv_at hl 0 rfl) ?_
  refine lv_iconst (v := 1) hx hb dL_law_1245 (by decide) ?_
  refine lv_iadd hx hb dL_law_1246 ?_
  refine va_sld hx hb hXs hbl hbA hS (lc_in hi hL (k := 1) ⟨by decide, by decide⟩) dL_law_1247 ?_
  refine lv_aload_n hx hb dL_law_1248 rfl (lv_at hl 3 rfl) ?_
  refine lv_iload_n hx hb dL_law_1249 rfl (lv_at hl 0 rfl) ?_
  refine lv_iconst (v := 2) hx hb dL_law_1250 (by decide) ?_
  refine lv_iadd hx hb dL_law_1251 ?_
  refine va_sld hx hb hXs hbl hbA hS (lc_in hi hL (k := 2) ⟨by decide, by decide⟩) dL_law_1252 ?_
  refine wx_callr (va_runV (As := [.int (xs (nI i + 1).toNatClampNeg), .int (xs (nI i + 2).toNatClampNeg)]) (rest := [.int (r_X11_met g (xs (nI i + 1).toNatClampNeg) (xs (nI i + 2).toNatClampNeg))]) ⟨hx, hb, hml, hown, htsL⟩ (k_X12_met l g (xs (nI i + 1).toNatClampNeg) (xs (nI i + 2).toNatClampNeg) (R.MB rfl)) (cwV 2 htsL gL_law_X12_met rfl rfl rfl (by decide +kernel) ⟨Nat.le_of_ble_eq_true rfl, Nat.le_of_ble_eq_true rfl⟩) ⟨wx_Pc.blind, wx_recv hK hX (by decide) sh_X12 rfl, (wx_Pc.pre hK hX).2⟩ rfl rfl hl.1 rfl (lv_room (Nat.le_of_ble_eq_true rfl)) dL_law_1253 ⟨by show _ ≤ (600000 : Nat); omega, by show _ ≤ (7302250 : Nat); omega⟩) ?_
  refine lv_icmp_eq (tgt := 1491) hx hb dL_law_1256 (by decide) (fun _ => ?_) (fun c9 => absurd (s_met R (xs (nI i + 1).toNatClampNeg) (xs (nI i + 2).toNatClampNeg)) c9)
  exact W.widen (k := cells + 4) (n := slots + 4) (by omega) (by omega) (kk f P g H locs hX (R.mono (by omega)) hS)
set_option maxHeartbeats 2000000 in
theorem lc_29 : lc_Ok 1261 := by
  intro p l e s m below meth c b L xs D cy ad f P g H locs cells slots i K ls C0 hL hK hX hS R hK1 hK9 hi hc1 hc2 hl kk
  obtain ⟨hx, hb, -, hml, hown0, hts, hXs, hbl, -, -⟩ := C0
  have hown : s.vm.findClass RL = some m.cls := hown0
  have hbA : ¬ s.heap.size ≤ b := Nat.not_le.mpr hbl
  have htsL : ∀ w ∈ wsL_law, w.before #[Value.ref b] s = true := fun w h => hts w (wsL_law_in w h)
  refine lv_aload_n hx hb dL_law_1261 rfl (lv_at hl 2 rfl) ?_
  refine lv_aload_n hx hb dL_law_1262 rfl (lv_at hl 3 rfl) ?_
  refine lv_iload_n hx hb dL_law_1263 rfl (lv_at hl 0 rfl) ?_
  refine lv_iconst (v := 1) hx hb dL_law_1264 (by decide) ?_
  refine lv_iadd hx hb dL_law_1265 ?_
  refine va_sld hx hb hXs hbl hbA hS (lc_in hi hL (k := 1) ⟨by decide, by decide⟩) dL_law_1266 ?_
  refine wx_callr (va_runV (As := [.int (xs (nI i + 1).toNatClampNeg)]) (rest := []) ⟨hx, hb, hml, hown, htsL⟩ (k_X11_soldOut l g (xs (nI i + 1).toNatClampNeg) R.HB) (cwV 1 htsL gL_law_X11_soldOut rfl rfl rfl (by decide +kernel) ⟨Nat.le_of_ble_eq_true rfl, Nat.le_of_ble_eq_true rfl⟩) ⟨wx_Pc.blind, wx_recv hK hX (by decide) sh_X11 rfl, (wx_Pc.pre hK hX).2⟩ rfl rfl hl.1 rfl (lv_room (Nat.le_of_ble_eq_true rfl)) dL_law_1267 ⟨by show _ ≤ (600000 : Nat); omega, by show _ ≤ (7302250 : Nat); omega⟩) ?_
  refine lv_aload_n hx hb dL_law_1270 rfl (lv_at hl 1 rfl) ?_
  refine lv_aload_n hx hb dL_law_1271 rfl (lv_at hl 3 rfl) ?_
  refine lv_iload_n hx hb dL_law_1272 rfl (lv_at hl 0 rfl) ?_
  refine lv_iconst (v := 1) hx hb dL_law_1273 (by decide) ?_
  refine lv_iadd hx hb dL_law_1274 ?_
  refine va_sld hx hb hXs hbl hbA hS (lc_in hi hL (k := 1) ⟨by decide, by decide⟩) dL_law_1275 ?_
  refine wx_callr (va_runV (As := [.int (xs (nI i + 1).toNatClampNeg)]) (rest := [.int (r_X11_soldOut g (xs (nI i + 1).toNatClampNeg))]) ⟨hx, hb, hml, hown, htsL⟩ (k_X12_soldOut l g (xs (nI i + 1).toNatClampNeg) (R.MB rfl)) (cwV 1 htsL gL_law_X12_soldOut rfl rfl rfl (by decide +kernel) ⟨Nat.le_of_ble_eq_true rfl, Nat.le_of_ble_eq_true rfl⟩) ⟨wx_Pc.blind, wx_recv hK hX (by decide) sh_X12 rfl, (wx_Pc.pre hK hX).2⟩ rfl rfl hl.1 rfl (lv_room (Nat.le_of_ble_eq_true rfl)) dL_law_1276 ⟨by show _ ≤ (600000 : Nat); omega, by show _ ≤ (7302250 : Nat); omega⟩) ?_
  refine lv_icmp_eq (tgt := 1491) hx hb dL_law_1279 (by decide) (fun _ => ?_) (fun c9 => absurd (s_soldOut R (xs (nI i + 1).toNatClampNeg)) c9)
  exact W.widen (k := cells + 4) (n := slots + 4) (by omega) (by omega) (kk f P g H locs hX (R.mono (by omega)) hS)
set_option maxHeartbeats 2000000 in
theorem lc_30 : lc_Ok 1284 := by
  intro p l e s m below meth c b L xs D cy ad f P g H locs cells slots i K ls C0 hL hK hX hS R hK1 hK9 hi hc1 hc2 hl kk
  obtain ⟨hx, hb, -, hml, hown0, hts, hXs, hbl, -, -⟩ := C0
  have hown : s.vm.findClass RL = some m.cls := hown0
  have hbA : ¬ s.heap.size ≤ b := Nat.not_le.mpr hbl
  have htsL : ∀ w ∈ wsL_law, w.before #[Value.ref b] s = true := fun w h => hts w (wsL_law_in w h)
  refine lv_aload_n hx hb dL_law_1284 rfl (lv_at hl 2 rfl) ?_
  refine wx_callr (va_runV (As := []) (rest := []) ⟨hx, hb, hml, hown, htsL⟩ (k_X11_haunted l g R.HB) (cwV 0 htsL gL_law_X11_haunted rfl rfl rfl (by decide +kernel) ⟨Nat.le_of_ble_eq_true rfl, Nat.le_of_ble_eq_true rfl⟩) ⟨wx_Pc.blind, wx_recv hK hX (by decide) sh_X11 rfl, (wx_Pc.pre hK hX).2⟩ rfl rfl hl.1 rfl (lv_room (Nat.le_of_ble_eq_true rfl)) dL_law_1285 ⟨by show _ ≤ (600000 : Nat); omega, by show _ ≤ (7302250 : Nat); omega⟩) ?_
  refine lv_aload_n hx hb dL_law_1288 rfl (lv_at hl 1 rfl) ?_
  refine wx_callr (va_runV (As := []) (rest := [.int (r_X11_haunted g)]) ⟨hx, hb, hml, hown, htsL⟩ (k_X12_haunted l g) (cwV 0 htsL gL_law_X12_haunted rfl rfl rfl (by decide +kernel) ⟨Nat.le_of_ble_eq_true rfl, Nat.le_of_ble_eq_true rfl⟩) ⟨wx_Pc.blind, wx_recv hK hX (by decide) sh_X12 rfl, (wx_Pc.pre hK hX).2⟩ rfl rfl hl.1 rfl (lv_room (Nat.le_of_ble_eq_true rfl)) dL_law_1289 ⟨by show _ ≤ (600000 : Nat); omega, by show _ ≤ (7302250 : Nat); omega⟩) ?_
  refine lv_icmp_eq (tgt := 1491) hx hb dL_law_1292 (by decide) (fun _ => ?_) (fun c9 => absurd (s_haunted R) c9)
  exact W.widen (k := cells + 4) (n := slots + 4) (by omega) (by omega) (kk f P g H locs hX (R.mono (by omega)) hS)
set_option maxHeartbeats 2000000 in
theorem lc_31 : lc_Ok 1297 := by
  intro p l e s m below meth c b L xs D cy ad f P g H locs cells slots i K ls C0 hL hK hX hS R hK1 hK9 hi hc1 hc2 hl kk
  obtain ⟨hx, hb, -, hml, hown0, hts, hXs, hbl, -, -⟩ := C0
  have hown : s.vm.findClass RL = some m.cls := hown0
  have hbA : ¬ s.heap.size ≤ b := Nat.not_le.mpr hbl
  have htsL : ∀ w ∈ wsL_law, w.before #[Value.ref b] s = true := fun w h => hts w (wsL_law_in w h)
  refine lv_aload_n hx hb dL_law_1297 rfl (lv_at hl 2 rfl) ?_
  refine lv_aload_n hx hb dL_law_1298 rfl (lv_at hl 3 rfl) ?_
  refine lv_iload_n hx hb dL_law_1299 rfl (lv_at hl 0 rfl) ?_
  refine lv_iconst (v := 1) hx hb dL_law_1300 (by decide) ?_
  refine lv_iadd hx hb dL_law_1301 ?_
  refine va_sld hx hb hXs hbl hbA hS (lc_in hi hL (k := 1) ⟨by decide, by decide⟩) dL_law_1302 ?_
  have T := t_image R (xs (nI i + 1).toNatClampNeg)
  refine wx_callxi (va_runV (As := [.int (xs (nI i + 1).toNatClampNeg)]) (rest := []) ⟨hx, hb, hml, hown, htsL⟩ (k_X11_image l g (xs (nI i + 1).toNatClampNeg)) (cwV 1 htsL gL_law_X11_image rfl rfl rfl (by decide +kernel) ⟨Nat.le_of_ble_eq_true rfl, Nat.le_of_ble_eq_true rfl⟩) ⟨wx_Pc.blind, wx_recv hK hX (by decide) sh_X11 rfl, (wx_Pc.pre hK hX).2⟩ rfl rfl hl.1 rfl (lv_room (Nat.le_of_ble_eq_true rfl)) dL_law_1303 ⟨by show _ ≤ (600000 : Nat); omega, by show _ ≤ (7302250 : Nat); omega⟩) hS (fun f P H1 locs1 hX1 hS1 => ?_)
  obtain ⟨z, ez⟩ : ∃ z, z = f_X11_image g (xs (nI i + 1).toNatClampNeg) := ⟨_, rfl⟩
  rw [← ez] at T hX1 ⊢
  clear ez hX hS
  have hX := hX1
  have hS := hS1
  obtain ⟨T1, T2, T3⟩ := T
  have T2 : (f_X12_image z.1 (xs (nI i + 1).toNatClampNeg)).2 = z.2 := T2
  have T3 : m_Rel (K + 10) (f_X12_image z.1 (xs (nI i + 1).toNatClampNeg)).1 := T3
  refine lv_aload_n hx hb dL_law_1306 rfl (lv_at hl 1 rfl) ?_
  refine lv_aload_n hx hb dL_law_1307 rfl (lv_at hl 3 rfl) ?_
  refine lv_iload_n hx hb dL_law_1308 rfl (lv_at hl 0 rfl) ?_
  refine lv_iconst (v := 1) hx hb dL_law_1309 (by decide) ?_
  refine lv_iadd hx hb dL_law_1310 ?_
  refine va_sld hx hb hXs hbl hbA hS (lc_in hi hL (k := 1) ⟨by decide, by decide⟩) dL_law_1311 ?_
  refine wx_callei (va_runV (As := [.int (xs (nI i + 1).toNatClampNeg)]) (rest := [.int z.2]) ⟨hx, hb, hml, hown, htsL⟩ (k_X12_image l z.1 (xs (nI i + 1).toNatClampNeg)) (cwV 1 htsL gL_law_X12_image rfl rfl rfl (by decide +kernel) ⟨Nat.le_of_ble_eq_true rfl, Nat.le_of_ble_eq_true rfl⟩) ⟨wx_Pc.blind, wx_recv hK hX (by decide) sh_X12 rfl, (wx_Pc.pre hK hX).2⟩ rfl rfl hl.1 rfl (lv_room (Nat.le_of_ble_eq_true rfl)) dL_law_1312 ⟨by show _ ≤ (600000 : Nat); omega, by show _ ≤ (7302250 : Nat); omega⟩) hS (fun H2 locs2 hX2 hS2 => ?_)
  refine lv_icmp_eq (tgt := 1491) hx hb dL_law_1315 (by decide) (fun _ => ?_) (fun c9 => absurd T2.symm c9)
  exact W.widen (k := cells + 4) (n := slots + 4) (by omega) (by omega) (kk _ _ _ _ _ hX2 T3 hS2)
set_option maxHeartbeats 2000000 in
theorem lc_32 : lc_Ok 1320 := by
  intro p l e s m below meth c b L xs D cy ad f P g H locs cells slots i K ls C0 hL hK hX hS R hK1 hK9 hi hc1 hc2 hl kk
  obtain ⟨hx, hb, -, hml, hown0, hts, hXs, hbl, -, -⟩ := C0
  have hown : s.vm.findClass RL = some m.cls := hown0
  have hbA : ¬ s.heap.size ≤ b := Nat.not_le.mpr hbl
  have htsL : ∀ w ∈ wsL_law, w.before #[Value.ref b] s = true := fun w h => hts w (wsL_law_in w h)
  refine lv_aload_n hx hb dL_law_1320 rfl (lv_at hl 2 rfl) ?_
  refine lv_aload_n hx hb dL_law_1321 rfl (lv_at hl 3 rfl) ?_
  refine lv_iload_n hx hb dL_law_1322 rfl (lv_at hl 0 rfl) ?_
  refine lv_iconst (v := 1) hx hb dL_law_1323 (by decide) ?_
  refine lv_iadd hx hb dL_law_1324 ?_
  refine va_sld hx hb hXs hbl hbA hS (lc_in hi hL (k := 1) ⟨by decide, by decide⟩) dL_law_1325 ?_
  have T := t_restore R (xs (nI i + 1).toNatClampNeg)
  refine wx_callxi (va_runV (As := [.int (xs (nI i + 1).toNatClampNeg)]) (rest := []) ⟨hx, hb, hml, hown, htsL⟩ (k_X11_restore l g (xs (nI i + 1).toNatClampNeg)) (cwV 1 htsL gL_law_X11_restore rfl rfl rfl (by decide +kernel) ⟨Nat.le_of_ble_eq_true rfl, Nat.le_of_ble_eq_true rfl⟩) ⟨wx_Pc.blind, wx_recv hK hX (by decide) sh_X11 rfl, (wx_Pc.pre hK hX).2⟩ rfl rfl hl.1 rfl (lv_room (Nat.le_of_ble_eq_true rfl)) dL_law_1326 ⟨by show _ ≤ (600000 : Nat); omega, by show _ ≤ (7302250 : Nat); omega⟩) hS (fun f P H1 locs1 hX1 hS1 => ?_)
  obtain ⟨z, ez⟩ : ∃ z, z = f_X11_restore g (xs (nI i + 1).toNatClampNeg) := ⟨_, rfl⟩
  rw [← ez] at T hX1 ⊢
  clear ez hX hS
  have hX := hX1
  have hS := hS1
  obtain ⟨T1, T2, T3⟩ := T
  have T2 : (f_X12_restore z.1 (xs (nI i + 1).toNatClampNeg)).2 = z.2 := T2
  have T3 : m_Rel (K + 10) (f_X12_restore z.1 (xs (nI i + 1).toNatClampNeg)).1 := T3
  refine lv_aload_n hx hb dL_law_1329 rfl (lv_at hl 1 rfl) ?_
  refine lv_aload_n hx hb dL_law_1330 rfl (lv_at hl 3 rfl) ?_
  refine lv_iload_n hx hb dL_law_1331 rfl (lv_at hl 0 rfl) ?_
  refine lv_iconst (v := 1) hx hb dL_law_1332 (by decide) ?_
  refine lv_iadd hx hb dL_law_1333 ?_
  refine va_sld hx hb hXs hbl hbA hS (lc_in hi hL (k := 1) ⟨by decide, by decide⟩) dL_law_1334 ?_
  refine wx_callei (va_runV (As := [.int (xs (nI i + 1).toNatClampNeg)]) (rest := [.int z.2]) ⟨hx, hb, hml, hown, htsL⟩ (k_X12_restore l z.1 (xs (nI i + 1).toNatClampNeg)) (cwV 1 htsL gL_law_X12_restore rfl rfl rfl (by decide +kernel) ⟨Nat.le_of_ble_eq_true rfl, Nat.le_of_ble_eq_true rfl⟩) ⟨wx_Pc.blind, wx_recv hK hX (by decide) sh_X12 rfl, (wx_Pc.pre hK hX).2⟩ rfl rfl hl.1 rfl (lv_room (Nat.le_of_ble_eq_true rfl)) dL_law_1335 ⟨by show _ ≤ (600000 : Nat); omega, by show _ ≤ (7302250 : Nat); omega⟩) hS (fun H2 locs2 hX2 hS2 => ?_)
  refine lv_icmp_eq (tgt := 1491) hx hb dL_law_1338 (by decide) (fun _ => ?_) (fun c9 => absurd T2.symm c9)
  exact W.widen (k := cells + 4) (n := slots + 4) (by omega) (by omega) (kk _ _ _ _ _ hX2 T3 hS2)
set_option maxHeartbeats 2000000 in
theorem lc_33 : lc_Ok 1343 := by
  intro p l e s m below meth c b L xs D cy ad f P g H locs cells slots i K ls C0 hL hK hX hS R hK1 hK9 hi hc1 hc2 hl kk
  obtain ⟨hx, hb, -, hml, hown0, hts, hXs, hbl, -, -⟩ := C0
  have hown : s.vm.findClass RL = some m.cls := hown0
  have hbA : ¬ s.heap.size ≤ b := Nat.not_le.mpr hbl
  have htsL : ∀ w ∈ wsL_law, w.before #[Value.ref b] s = true := fun w h => hts w (wsL_law_in w h)
  refine lv_aload_n hx hb dL_law_1343 rfl (lv_at hl 2 rfl) ?_
  refine lv_aload_n hx hb dL_law_1344 rfl (lv_at hl 3 rfl) ?_
  refine lv_iload_n hx hb dL_law_1345 rfl (lv_at hl 0 rfl) ?_
  refine lv_iconst (v := 1) hx hb dL_law_1346 (by decide) ?_
  refine lv_iadd hx hb dL_law_1347 ?_
  refine va_sld hx hb hXs hbl hbA hS (lc_in hi hL (k := 1) ⟨by decide, by decide⟩) dL_law_1348 ?_
  refine wx_callr (va_runV (As := [.int (xs (nI i + 1).toNatClampNeg)]) (rest := []) ⟨hx, hb, hml, hown, htsL⟩ (k_X11_kind l g (xs (nI i + 1).toNatClampNeg) R.HB) (cwV 1 htsL gL_law_X11_kind rfl rfl rfl (by decide +kernel) ⟨Nat.le_of_ble_eq_true rfl, Nat.le_of_ble_eq_true rfl⟩) ⟨wx_Pc.blind, wx_recv hK hX (by decide) sh_X11 rfl, (wx_Pc.pre hK hX).2⟩ rfl rfl hl.1 rfl (lv_room (Nat.le_of_ble_eq_true rfl)) dL_law_1349 ⟨by show _ ≤ (600000 : Nat); omega, by show _ ≤ (7302250 : Nat); omega⟩) ?_
  refine lv_aload_n hx hb dL_law_1352 rfl (lv_at hl 1 rfl) ?_
  refine lv_aload_n hx hb dL_law_1353 rfl (lv_at hl 3 rfl) ?_
  refine lv_iload_n hx hb dL_law_1354 rfl (lv_at hl 0 rfl) ?_
  refine lv_iconst (v := 1) hx hb dL_law_1355 (by decide) ?_
  refine lv_iadd hx hb dL_law_1356 ?_
  refine va_sld hx hb hXs hbl hbA hS (lc_in hi hL (k := 1) ⟨by decide, by decide⟩) dL_law_1357 ?_
  refine wx_callr (va_runV (As := [.int (xs (nI i + 1).toNatClampNeg)]) (rest := [.int (r_X11_kind g (xs (nI i + 1).toNatClampNeg))]) ⟨hx, hb, hml, hown, htsL⟩ (k_X12_kind l g (xs (nI i + 1).toNatClampNeg) (R.MB rfl)) (cwV 1 htsL gL_law_X12_kind rfl rfl rfl (by decide +kernel) ⟨Nat.le_of_ble_eq_true rfl, Nat.le_of_ble_eq_true rfl⟩) ⟨wx_Pc.blind, wx_recv hK hX (by decide) sh_X12 rfl, (wx_Pc.pre hK hX).2⟩ rfl rfl hl.1 rfl (lv_room (Nat.le_of_ble_eq_true rfl)) dL_law_1358 ⟨by show _ ≤ (600000 : Nat); omega, by show _ ≤ (7302250 : Nat); omega⟩) ?_
  refine lv_icmp_eq (tgt := 1491) hx hb dL_law_1361 (by decide) (fun _ => ?_) (fun c9 => absurd (s_kind R (xs (nI i + 1).toNatClampNeg)) c9)
  exact W.widen (k := cells + 4) (n := slots + 4) (by omega) (by omega) (kk f P g H locs hX (R.mono (by omega)) hS)
set_option maxHeartbeats 2000000 in
theorem lc_34 : lc_Ok 1366 := by
  intro p l e s m below meth c b L xs D cy ad f P g H locs cells slots i K ls C0 hL hK hX hS R hK1 hK9 hi hc1 hc2 hl kk
  obtain ⟨hx, hb, -, hml, hown0, hts, hXs, hbl, -, -⟩ := C0
  have hown : s.vm.findClass RL = some m.cls := hown0
  have hbA : ¬ s.heap.size ≤ b := Nat.not_le.mpr hbl
  have htsL : ∀ w ∈ wsL_law, w.before #[Value.ref b] s = true := fun w h => hts w (wsL_law_in w h)
  refine lv_aload_n hx hb dL_law_1366 rfl (lv_at hl 2 rfl) ?_
  refine lv_aload_n hx hb dL_law_1367 rfl (lv_at hl 3 rfl) ?_
  refine lv_iload_n hx hb dL_law_1368 rfl (lv_at hl 0 rfl) ?_
  refine lv_iconst (v := 1) hx hb dL_law_1369 (by decide) ?_
  refine lv_iadd hx hb dL_law_1370 ?_
  refine va_sld hx hb hXs hbl hbA hS (lc_in hi hL (k := 1) ⟨by decide, by decide⟩) dL_law_1371 ?_
  refine lv_aload_n hx hb dL_law_1372 rfl (lv_at hl 3 rfl) ?_
  refine lv_iload_n hx hb dL_law_1373 rfl (lv_at hl 0 rfl) ?_
  refine lv_iconst (v := 2) hx hb dL_law_1374 (by decide) ?_
  refine lv_iadd hx hb dL_law_1375 ?_
  refine va_sld hx hb hXs hbl hbA hS (lc_in hi hL (k := 2) ⟨by decide, by decide⟩) dL_law_1376 ?_
  have T := t_as R (xs (nI i + 1).toNatClampNeg) (xs (nI i + 2).toNatClampNeg)
  refine wx_callei (va_runV (As := [.int (xs (nI i + 1).toNatClampNeg), .int (xs (nI i + 2).toNatClampNeg)]) (rest := []) ⟨hx, hb, hml, hown, htsL⟩ (k_X11_as l g (xs (nI i + 1).toNatClampNeg) (xs (nI i + 2).toNatClampNeg) R.HB) (cwV 2 htsL gL_law_X11_as rfl rfl rfl (by decide +kernel) ⟨Nat.le_of_ble_eq_true rfl, Nat.le_of_ble_eq_true rfl⟩) ⟨wx_Pc.blind, wx_recv hK hX (by decide) sh_X11 rfl, (wx_Pc.pre hK hX).2⟩ rfl rfl hl.1 rfl (lv_room (Nat.le_of_ble_eq_true rfl)) dL_law_1377 ⟨by show _ ≤ (600000 : Nat); omega, by show _ ≤ (7302250 : Nat); omega⟩) hS (fun H1 locs1 hX1 hS1 => ?_)
  obtain ⟨z, ez⟩ : ∃ z, z = f_X11_as g (xs (nI i + 1).toNatClampNeg) (xs (nI i + 2).toNatClampNeg) := ⟨_, rfl⟩
  rw [← ez] at T hX1 ⊢
  clear ez hX hS
  have hX := hX1
  have hS := hS1
  obtain ⟨T1, T2, T3⟩ := T
  have T2 : (f_X12_as z.1 (xs (nI i + 1).toNatClampNeg) (xs (nI i + 2).toNatClampNeg)).2 = z.2 := T2
  have T3 : m_Rel (K + 10) (f_X12_as z.1 (xs (nI i + 1).toNatClampNeg) (xs (nI i + 2).toNatClampNeg)).1 := T3
  refine lv_aload_n hx hb dL_law_1380 rfl (lv_at hl 1 rfl) ?_
  refine lv_aload_n hx hb dL_law_1381 rfl (lv_at hl 3 rfl) ?_
  refine lv_iload_n hx hb dL_law_1382 rfl (lv_at hl 0 rfl) ?_
  refine lv_iconst (v := 1) hx hb dL_law_1383 (by decide) ?_
  refine lv_iadd hx hb dL_law_1384 ?_
  refine va_sld hx hb hXs hbl hbA hS (lc_in hi hL (k := 1) ⟨by decide, by decide⟩) dL_law_1385 ?_
  refine lv_aload_n hx hb dL_law_1386 rfl (lv_at hl 3 rfl) ?_
  refine lv_iload_n hx hb dL_law_1387 rfl (lv_at hl 0 rfl) ?_
  refine lv_iconst (v := 2) hx hb dL_law_1388 (by decide) ?_
  refine lv_iadd hx hb dL_law_1389 ?_
  refine va_sld hx hb hXs hbl hbA hS (lc_in hi hL (k := 2) ⟨by decide, by decide⟩) dL_law_1390 ?_
  refine wx_callei (va_runV (As := [.int (xs (nI i + 1).toNatClampNeg), .int (xs (nI i + 2).toNatClampNeg)]) (rest := [.int z.2]) ⟨hx, hb, hml, hown, htsL⟩ (k_X12_as l z.1 (xs (nI i + 1).toNatClampNeg) (xs (nI i + 2).toNatClampNeg) (R.MB (T1 65 (by decide)))) (cwV 2 htsL gL_law_X12_as rfl rfl rfl (by decide +kernel) ⟨Nat.le_of_ble_eq_true rfl, Nat.le_of_ble_eq_true rfl⟩) ⟨wx_Pc.blind, wx_recv hK hX (by decide) sh_X12 rfl, (wx_Pc.pre hK hX).2⟩ rfl rfl hl.1 rfl (lv_room (Nat.le_of_ble_eq_true rfl)) dL_law_1391 ⟨by show _ ≤ (600000 : Nat); omega, by show _ ≤ (7302250 : Nat); omega⟩) hS (fun H2 locs2 hX2 hS2 => ?_)
  refine lv_icmp_eq (tgt := 1491) hx hb dL_law_1394 (by decide) (fun _ => ?_) (fun c9 => absurd T2.symm c9)
  exact W.widen (k := cells + 4) (n := slots + 4) (by omega) (by omega) (kk _ _ _ _ _ hX2 T3 hS2)
set_option maxHeartbeats 2000000 in
theorem lc_35 : lc_Ok 1399 := by
  intro p l e s m below meth c b L xs D cy ad f P g H locs cells slots i K ls C0 hL hK hX hS R hK1 hK9 hi hc1 hc2 hl kk
  obtain ⟨hx, hb, -, hml, hown0, hts, hXs, hbl, -, -⟩ := C0
  have hown : s.vm.findClass RL = some m.cls := hown0
  have hbA : ¬ s.heap.size ≤ b := Nat.not_le.mpr hbl
  have htsL : ∀ w ∈ wsL_law, w.before #[Value.ref b] s = true := fun w h => hts w (wsL_law_in w h)
  refine lv_aload_n hx hb dL_law_1399 rfl (lv_at hl 2 rfl) ?_
  refine lv_aload_n hx hb dL_law_1400 rfl (lv_at hl 3 rfl) ?_
  refine lv_iload_n hx hb dL_law_1401 rfl (lv_at hl 0 rfl) ?_
  refine lv_iconst (v := 1) hx hb dL_law_1402 (by decide) ?_
  refine lv_iadd hx hb dL_law_1403 ?_
  refine va_sld hx hb hXs hbl hbA hS (lc_in hi hL (k := 1) ⟨by decide, by decide⟩) dL_law_1404 ?_
  refine lv_aload_n hx hb dL_law_1405 rfl (lv_at hl 3 rfl) ?_
  refine lv_iload_n hx hb dL_law_1406 rfl (lv_at hl 0 rfl) ?_
  refine lv_iconst (v := 2) hx hb dL_law_1407 (by decide) ?_
  refine lv_iadd hx hb dL_law_1408 ?_
  refine va_sld hx hb hXs hbl hbA hS (lc_in hi hL (k := 2) ⟨by decide, by decide⟩) dL_law_1409 ?_
  have T := t_ask R (xs (nI i + 1).toNatClampNeg) (xs (nI i + 2).toNatClampNeg)
  refine wx_callei (va_runV (As := [.int (xs (nI i + 1).toNatClampNeg), .int (xs (nI i + 2).toNatClampNeg)]) (rest := []) ⟨hx, hb, hml, hown, htsL⟩ (k_X11_ask l g (xs (nI i + 1).toNatClampNeg) (xs (nI i + 2).toNatClampNeg) R.HB) (cwV 2 htsL gL_law_X11_ask rfl rfl rfl (by decide +kernel) ⟨Nat.le_of_ble_eq_true rfl, Nat.le_of_ble_eq_true rfl⟩) ⟨wx_Pc.blind, wx_recv hK hX (by decide) sh_X11 rfl, (wx_Pc.pre hK hX).2⟩ rfl rfl hl.1 rfl (lv_room (Nat.le_of_ble_eq_true rfl)) dL_law_1410 ⟨by show _ ≤ (600000 : Nat); omega, by show _ ≤ (7302250 : Nat); omega⟩) hS (fun H1 locs1 hX1 hS1 => ?_)
  obtain ⟨z, ez⟩ : ∃ z, z = f_X11_ask g (xs (nI i + 1).toNatClampNeg) (xs (nI i + 2).toNatClampNeg) := ⟨_, rfl⟩
  rw [← ez] at T hX1 ⊢
  clear ez hX hS
  have hX := hX1
  have hS := hS1
  obtain ⟨T1, T2, T3⟩ := T
  have T2 : (f_X12_ask z.1 (xs (nI i + 1).toNatClampNeg) (xs (nI i + 2).toNatClampNeg)).2 = z.2 := T2
  have T3 : m_Rel (K + 10) (f_X12_ask z.1 (xs (nI i + 1).toNatClampNeg) (xs (nI i + 2).toNatClampNeg)).1 := T3
  refine lv_aload_n hx hb dL_law_1413 rfl (lv_at hl 1 rfl) ?_
  refine lv_aload_n hx hb dL_law_1414 rfl (lv_at hl 3 rfl) ?_
  refine lv_iload_n hx hb dL_law_1415 rfl (lv_at hl 0 rfl) ?_
  refine lv_iconst (v := 1) hx hb dL_law_1416 (by decide) ?_
  refine lv_iadd hx hb dL_law_1417 ?_
  refine va_sld hx hb hXs hbl hbA hS (lc_in hi hL (k := 1) ⟨by decide, by decide⟩) dL_law_1418 ?_
  refine lv_aload_n hx hb dL_law_1419 rfl (lv_at hl 3 rfl) ?_
  refine lv_iload_n hx hb dL_law_1420 rfl (lv_at hl 0 rfl) ?_
  refine lv_iconst (v := 2) hx hb dL_law_1421 (by decide) ?_
  refine lv_iadd hx hb dL_law_1422 ?_
  refine va_sld hx hb hXs hbl hbA hS (lc_in hi hL (k := 2) ⟨by decide, by decide⟩) dL_law_1423 ?_
  refine wx_callei (va_runV (As := [.int (xs (nI i + 1).toNatClampNeg), .int (xs (nI i + 2).toNatClampNeg)]) (rest := [.int z.2]) ⟨hx, hb, hml, hown, htsL⟩ (k_X12_ask l z.1 (xs (nI i + 1).toNatClampNeg) (xs (nI i + 2).toNatClampNeg) (R.MB (T1 65 (by decide))) (by rw [T1 57 (by decide)]; exact R.trc.2.1)) (cwV 2 htsL gL_law_X12_ask rfl rfl rfl (by decide +kernel) ⟨Nat.le_of_ble_eq_true rfl, Nat.le_of_ble_eq_true rfl⟩) ⟨wx_Pc.blind, wx_recv hK hX (by decide) sh_X12 rfl, (wx_Pc.pre hK hX).2⟩ rfl rfl hl.1 rfl (lv_room (Nat.le_of_ble_eq_true rfl)) dL_law_1424 ⟨by show _ ≤ (600000 : Nat); omega, by show _ ≤ (7302250 : Nat); omega⟩) hS (fun H2 locs2 hX2 hS2 => ?_)
  refine lv_icmp_eq (tgt := 1491) hx hb dL_law_1427 (by decide) (fun _ => ?_) (fun c9 => absurd T2.symm c9)
  exact W.widen (k := cells + 4) (n := slots + 4) (by omega) (by omega) (kk _ _ _ _ _ hX2 T3 hS2)
set_option maxHeartbeats 2000000 in
theorem lc_36 : lc_Ok 1432 := by
  intro p l e s m below meth c b L xs D cy ad f P g H locs cells slots i K ls C0 hL hK hX hS R hK1 hK9 hi hc1 hc2 hl kk
  obtain ⟨hx, hb, -, hml, hown0, hts, hXs, hbl, -, -⟩ := C0
  have hown : s.vm.findClass RL = some m.cls := hown0
  have hbA : ¬ s.heap.size ≤ b := Nat.not_le.mpr hbl
  have htsL : ∀ w ∈ wsL_law, w.before #[Value.ref b] s = true := fun w h => hts w (wsL_law_in w h)
  refine lv_aload_n hx hb dL_law_1432 rfl (lv_at hl 2 rfl) ?_
  refine lv_aload_n hx hb dL_law_1433 rfl (lv_at hl 3 rfl) ?_
  refine lv_iload_n hx hb dL_law_1434 rfl (lv_at hl 0 rfl) ?_
  refine lv_iconst (v := 1) hx hb dL_law_1435 (by decide) ?_
  refine lv_iadd hx hb dL_law_1436 ?_
  refine va_sld hx hb hXs hbl hbA hS (lc_in hi hL (k := 1) ⟨by decide, by decide⟩) dL_law_1437 ?_
  refine wx_callr (va_runV (As := [.int (xs (nI i + 1).toNatClampNeg)]) (rest := []) ⟨hx, hb, hml, hown, htsL⟩ (k_X11_trace l g (xs (nI i + 1).toNatClampNeg) (by rw [R.trc.1]; exact R.trc.2.1)) (cwV 1 htsL gL_law_X11_trace rfl rfl rfl (by decide +kernel) ⟨Nat.le_of_ble_eq_true rfl, Nat.le_of_ble_eq_true rfl⟩) ⟨wx_Pc.blind, wx_recv hK hX (by decide) sh_X11 rfl, (wx_Pc.pre hK hX).2⟩ rfl rfl hl.1 rfl (lv_room (Nat.le_of_ble_eq_true rfl)) dL_law_1438 ⟨by show _ ≤ (600000 : Nat); omega, by show _ ≤ (7302250 : Nat); omega⟩) ?_
  refine lv_aload_n hx hb dL_law_1441 rfl (lv_at hl 1 rfl) ?_
  refine lv_aload_n hx hb dL_law_1442 rfl (lv_at hl 3 rfl) ?_
  refine lv_iload_n hx hb dL_law_1443 rfl (lv_at hl 0 rfl) ?_
  refine lv_iconst (v := 1) hx hb dL_law_1444 (by decide) ?_
  refine lv_iadd hx hb dL_law_1445 ?_
  refine va_sld hx hb hXs hbl hbA hS (lc_in hi hL (k := 1) ⟨by decide, by decide⟩) dL_law_1446 ?_
  refine wx_callr (va_runV (As := [.int (xs (nI i + 1).toNatClampNeg)]) (rest := [.int (r_X11_trace g (xs (nI i + 1).toNatClampNeg))]) ⟨hx, hb, hml, hown, htsL⟩ (k_X12_trace l g (xs (nI i + 1).toNatClampNeg) R.trc.2.1) (cwV 1 htsL gL_law_X12_trace rfl rfl rfl (by decide +kernel) ⟨Nat.le_of_ble_eq_true rfl, Nat.le_of_ble_eq_true rfl⟩) ⟨wx_Pc.blind, wx_recv hK hX (by decide) sh_X12 rfl, (wx_Pc.pre hK hX).2⟩ rfl rfl hl.1 rfl (lv_room (Nat.le_of_ble_eq_true rfl)) dL_law_1447 ⟨by show _ ≤ (600000 : Nat); omega, by show _ ≤ (7302250 : Nat); omega⟩) ?_
  refine lv_icmp_eq (tgt := 1491) hx hb dL_law_1450 (by decide) (fun _ => ?_) (fun c9 => absurd (s_trace R (xs (nI i + 1).toNatClampNeg)) c9)
  exact W.widen (k := cells + 4) (n := slots + 4) (by omega) (by omega) (kk f P g H locs hX (R.mono (by omega)) hS)
set_option maxHeartbeats 2000000 in
theorem lc_37 : lc_Ok 1455 := by
  intro p l e s m below meth c b L xs D cy ad f P g H locs cells slots i K ls C0 hL hK hX hS R hK1 hK9 hi hc1 hc2 hl kk
  obtain ⟨hx, hb, -, hml, hown0, hts, hXs, hbl, -, -⟩ := C0
  have hown : s.vm.findClass RL = some m.cls := hown0
  have hbA : ¬ s.heap.size ≤ b := Nat.not_le.mpr hbl
  have htsL : ∀ w ∈ wsL_law, w.before #[Value.ref b] s = true := fun w h => hts w (wsL_law_in w h)
  refine lv_aload_n hx hb dL_law_1455 rfl (lv_at hl 2 rfl) ?_
  refine lv_aload_n hx hb dL_law_1456 rfl (lv_at hl 3 rfl) ?_
  refine lv_iload_n hx hb dL_law_1457 rfl (lv_at hl 0 rfl) ?_
  refine lv_iconst (v := 1) hx hb dL_law_1458 (by decide) ?_
  refine lv_iadd hx hb dL_law_1459 ?_
  refine va_sld hx hb hXs hbl hbA hS (lc_in hi hL (k := 1) ⟨by decide, by decide⟩) dL_law_1460 ?_
  refine wx_callr (va_runV (As := [.int (xs (nI i + 1).toNatClampNeg)]) (rest := []) ⟨hx, hb, hml, hown, htsL⟩ (k_X11_count l g (xs (nI i + 1).toNatClampNeg)) (cwV 1 htsL gL_law_X11_count rfl rfl rfl (by decide +kernel) ⟨Nat.le_of_ble_eq_true rfl, Nat.le_of_ble_eq_true rfl⟩) ⟨wx_Pc.blind, wx_recv hK hX (by decide) sh_X11 rfl, (wx_Pc.pre hK hX).2⟩ rfl rfl hl.1 rfl (lv_room (Nat.le_of_ble_eq_true rfl)) dL_law_1461 ⟨by show _ ≤ (600000 : Nat); omega, by show _ ≤ (7302250 : Nat); omega⟩) ?_
  refine lv_aload_n hx hb dL_law_1464 rfl (lv_at hl 1 rfl) ?_
  refine lv_aload_n hx hb dL_law_1465 rfl (lv_at hl 3 rfl) ?_
  refine lv_iload_n hx hb dL_law_1466 rfl (lv_at hl 0 rfl) ?_
  refine lv_iconst (v := 1) hx hb dL_law_1467 (by decide) ?_
  refine lv_iadd hx hb dL_law_1468 ?_
  refine va_sld hx hb hXs hbl hbA hS (lc_in hi hL (k := 1) ⟨by decide, by decide⟩) dL_law_1469 ?_
  refine wx_callr (va_runV (As := [.int (xs (nI i + 1).toNatClampNeg)]) (rest := [.int (r_X11_count g (xs (nI i + 1).toNatClampNeg))]) ⟨hx, hb, hml, hown, htsL⟩ (k_X12_count l g (xs (nI i + 1).toNatClampNeg)) (cwV 1 htsL gL_law_X12_count rfl rfl rfl (by decide +kernel) ⟨Nat.le_of_ble_eq_true rfl, Nat.le_of_ble_eq_true rfl⟩) ⟨wx_Pc.blind, wx_recv hK hX (by decide) sh_X12 rfl, (wx_Pc.pre hK hX).2⟩ rfl rfl hl.1 rfl (lv_room (Nat.le_of_ble_eq_true rfl)) dL_law_1470 ⟨by show _ ≤ (600000 : Nat); omega, by show _ ≤ (7302250 : Nat); omega⟩) ?_
  refine lv_icmp_eq (tgt := 1491) hx hb dL_law_1473 (by decide) (fun _ => ?_) (fun c9 => absurd (s_count R (xs (nI i + 1).toNatClampNeg)) c9)
  exact W.widen (k := cells + 4) (n := slots + 4) (by omega) (by omega) (kk f P g H locs hX (R.mono (by omega)) hS)
set_option maxHeartbeats 2000000 in
theorem lc_38 : lc_Ok 1478 := by
  intro p l e s m below meth c b L xs D cy ad f P g H locs cells slots i K ls C0 hL hK hX hS R hK1 hK9 hi hc1 hc2 hl kk
  obtain ⟨hx, hb, -, hml, hown0, hts, hXs, hbl, -, -⟩ := C0
  have hown : s.vm.findClass RL = some m.cls := hown0
  have hbA : ¬ s.heap.size ≤ b := Nat.not_le.mpr hbl
  have htsL : ∀ w ∈ wsL_law, w.before #[Value.ref b] s = true := fun w h => hts w (wsL_law_in w h)
  refine lv_aload_n hx hb dL_law_1478 rfl (lv_at hl 2 rfl) ?_
  refine wx_callr (va_runV (As := []) (rest := []) ⟨hx, hb, hml, hown, htsL⟩ (k_X11_status l g) (cwV 0 htsL gL_law_X11_status rfl rfl rfl (by decide +kernel) ⟨Nat.le_of_ble_eq_true rfl, Nat.le_of_ble_eq_true rfl⟩) ⟨wx_Pc.blind, wx_recv hK hX (by decide) sh_X11 rfl, (wx_Pc.pre hK hX).2⟩ rfl rfl hl.1 rfl (lv_room (Nat.le_of_ble_eq_true rfl)) dL_law_1479 ⟨by show _ ≤ (600000 : Nat); omega, by show _ ≤ (7302250 : Nat); omega⟩) ?_
  refine lv_aload_n hx hb dL_law_1482 rfl (lv_at hl 1 rfl) ?_
  refine wx_callr (va_runV (As := []) (rest := [.int (r_X11_status g)]) ⟨hx, hb, hml, hown, htsL⟩ (k_X12_status l g) (cwV 0 htsL gL_law_X12_status rfl rfl rfl (by decide +kernel) ⟨Nat.le_of_ble_eq_true rfl, Nat.le_of_ble_eq_true rfl⟩) ⟨wx_Pc.blind, wx_recv hK hX (by decide) sh_X12 rfl, (wx_Pc.pre hK hX).2⟩ rfl rfl hl.1 rfl (lv_room (Nat.le_of_ble_eq_true rfl)) dL_law_1483 ⟨by show _ ≤ (600000 : Nat); omega, by show _ ≤ (7302250 : Nat); omega⟩) ?_
  refine lv_icmp_eq (tgt := 1491) hx hb dL_law_1486 (by decide) (fun _ => ?_) (fun c9 => absurd (show r_X11_status g = r_X12_status g from R.fin) c9)
  exact W.widen (k := cells + 4) (n := slots + 4) (by omega) (by omega) (kk f P g H locs hX (R.mono (by omega)) hS)
