/-! the law's cases -/
def lc_Ok (pc : Nat) : Prop := ∀ (p : Program) (l : Launch) (e : Env) (s : State) (m : MethodId) (below : List Frame) (meth : Method) (c : Code) (b L : Nat) (xs : Nat → Int32) (D : va_G) (cy : Nat → ClassId) (ad : Nat → Nat) (f : wx_F) (P : va_W) (g : wx_M) (H : Heap) (locs : List Loc) (cells slots i K : Nat) (ls : Array Slot),
  lw_At p s m meth c b L xs → L ≤ 384 → wx_K D cy s → wx_X D cy ad s.heap.size f P g H → va_S (fun q => s.heap.size ≤ q) s.heap H locs → m_Rel K g → 100 ≤ K → K ≤ 9000 → i + 6 ≤ L → cells + 4 ≤ 600000 → slots + 4 ≤ 7302250 → lv_has ls 4 [(3, .int (nI i)), (2, .ref (ad 57)), (1, .ref (ad 0)), (0, .ref b)] →
  (∀ (f1 : wx_F) (P1 : va_W) (g1 : wx_M) (H1 : Heap) (locs1 : List Loc), wx_X D cy ad s.heap.size f1 P1 g1 H1 → m_Rel (K + 10) g1 → va_S (fun q => s.heap.size ≤ q) s.heap H1 locs1 → W p l e room_1 s m #[Value.ref b] below meth c H1 locs1 (cells + 4) (slots + 4) (lw_Z below #[Value.ref b] s) (F0 m 1491 ls [])) →
  W p l e room_1 s m #[Value.ref b] below meth c H locs cells slots (lw_Z below #[Value.ref b] s) (F0 m pc ls [])
theorem lc_in {i L : Nat} {k : Int32} (hi : i + 6 ≤ L) (hL : L ≤ 384) (hk : wx_b k 0 5) : vp_in (nI i + k) L := by
  have h1 : wx_b (nI i) 0 ((L - 6 : Nat) : Int) := wb_nI (by omega) (by omega)
  exact wb_in (wb_add h1 hk (by omega) (by omega)) (by omega) (by omega)
set_option maxHeartbeats 2000000 in
theorem lc_0 : lc_Ok 204 := by
  intro p l e s m below meth c b L xs D cy ad f P g H locs cells slots i K ls C0 hL hK hX hS R hK1 hK9 hi hc1 hc2 hl kk
  obtain ⟨hx, hb, -, hml, hown0, hts, hXs, hbl, -, -⟩ := C0
  have hown : s.vm.findClass RL = some m.cls := hown0
  have hbA : ¬ s.heap.size ≤ b := Nat.not_le.mpr hbl
  have htsL : ∀ w ∈ wsL_law, w.before #[Value.ref b] s = true := fun w h => hts w (wsL_law_in w h)
  refine lv_aload_n hx hb dL_law_204 rfl (lv_at hl 2 rfl) ?_
  refine lv_aload_n hx hb dL_law_205 rfl (lv_at hl 3 rfl) ?_
  refine lv_iload_n hx hb dL_law_206 rfl (lv_at hl 0 rfl) ?_
  refine lv_iconst (v := 1) hx hb dL_law_207 (by decide) ?_
  refine lv_iadd hx hb dL_law_208 ?_
  refine va_sld hx hb hXs hbl hbA hS (lc_in hi hL (k := 1) ⟨by decide, by decide⟩) dL_law_209 ?_
  refine lv_aload_n hx hb dL_law_210 rfl (lv_at hl 3 rfl) ?_
  refine lv_iload_n hx hb dL_law_211 rfl (lv_at hl 0 rfl) ?_
  refine lv_iconst (v := 2) hx hb dL_law_212 (by decide) ?_
  refine lv_iadd hx hb dL_law_213 ?_
  refine va_sld hx hb hXs hbl hbA hS (lc_in hi hL (k := 2) ⟨by decide, by decide⟩) dL_law_214 ?_
  refine lv_aload_n hx hb dL_law_215 rfl (lv_at hl 3 rfl) ?_
  refine lv_iload_n hx hb dL_law_216 rfl (lv_at hl 0 rfl) ?_
  refine lv_iconst (v := 3) hx hb dL_law_217 (by decide) ?_
  refine lv_iadd hx hb dL_law_218 ?_
  refine va_sld hx hb hXs hbl hbA hS (lc_in hi hL (k := 3) ⟨by decide, by decide⟩) dL_law_219 ?_
  have T := t_row R (xs (nI i + 1).toNatClampNeg) (xs (nI i + 2).toNatClampNeg) (xs (nI i + 3).toNatClampNeg)
  refine wx_callei (va_runV (As := [.int (xs (nI i + 1).toNatClampNeg), .int (xs (nI i + 2).toNatClampNeg), .int (xs (nI i + 3).toNatClampNeg)]) (rest := []) ⟨hx, hb, hml, hown, htsL⟩ (k_X11_row l g (xs (nI i + 1).toNatClampNeg) (xs (nI i + 2).toNatClampNeg) (xs (nI i + 3).toNatClampNeg)) (cwV 3 htsL gL_law_X11_row rfl rfl rfl (by decide +kernel) ⟨Nat.le_of_ble_eq_true rfl, Nat.le_of_ble_eq_true rfl⟩) ⟨wx_Pc.blind, wx_recv hK hX (by decide) sh_X11 rfl, (wx_Pc.pre hK hX).2⟩ rfl rfl hl.1 rfl (lv_room (Nat.le_of_ble_eq_true rfl)) dL_law_220 ⟨by show _ ≤ (600000 : Nat); omega, by show _ ≤ (7302250 : Nat); omega⟩) hS (fun H1 locs1 hX1 hS1 => ?_)
  obtain ⟨z, ez⟩ : ∃ z, z = f_X11_row g (xs (nI i + 1).toNatClampNeg) (xs (nI i + 2).toNatClampNeg) (xs (nI i + 3).toNatClampNeg) := ⟨_, rfl⟩
  rw [← ez] at T hX1 ⊢
  clear ez hX hS
  have hX := hX1
  have hS := hS1
  obtain ⟨T1, T2, T3⟩ := T
  have T2 : (f_X12_row z.1 (xs (nI i + 1).toNatClampNeg) (xs (nI i + 2).toNatClampNeg) (xs (nI i + 3).toNatClampNeg)).2 = z.2 := T2
  have T3 : m_Rel (K + 10) (f_X12_row z.1 (xs (nI i + 1).toNatClampNeg) (xs (nI i + 2).toNatClampNeg) (xs (nI i + 3).toNatClampNeg)).1 := T3
  refine lv_aload_n hx hb dL_law_223 rfl (lv_at hl 1 rfl) ?_
  refine lv_aload_n hx hb dL_law_224 rfl (lv_at hl 3 rfl) ?_
  refine lv_iload_n hx hb dL_law_225 rfl (lv_at hl 0 rfl) ?_
  refine lv_iconst (v := 1) hx hb dL_law_226 (by decide) ?_
  refine lv_iadd hx hb dL_law_227 ?_
  refine va_sld hx hb hXs hbl hbA hS (lc_in hi hL (k := 1) ⟨by decide, by decide⟩) dL_law_228 ?_
  refine lv_aload_n hx hb dL_law_229 rfl (lv_at hl 3 rfl) ?_
  refine lv_iload_n hx hb dL_law_230 rfl (lv_at hl 0 rfl) ?_
  refine lv_iconst (v := 2) hx hb dL_law_231 (by decide) ?_
  refine lv_iadd hx hb dL_law_232 ?_
  refine va_sld hx hb hXs hbl hbA hS (lc_in hi hL (k := 2) ⟨by decide, by decide⟩) dL_law_233 ?_
  refine lv_aload_n hx hb dL_law_234 rfl (lv_at hl 3 rfl) ?_
  refine lv_iload_n hx hb dL_law_235 rfl (lv_at hl 0 rfl) ?_
  refine lv_iconst (v := 3) hx hb dL_law_236 (by decide) ?_
  refine lv_iadd hx hb dL_law_237 ?_
  refine va_sld hx hb hXs hbl hbA hS (lc_in hi hL (k := 3) ⟨by decide, by decide⟩) dL_law_238 ?_
  refine wx_callei (va_runV (As := [.int (xs (nI i + 1).toNatClampNeg), .int (xs (nI i + 2).toNatClampNeg), .int (xs (nI i + 3).toNatClampNeg)]) (rest := [.int z.2]) ⟨hx, hb, hml, hown, htsL⟩ (k_X12_row l z.1 (xs (nI i + 1).toNatClampNeg) (xs (nI i + 2).toNatClampNeg) (xs (nI i + 3).toNatClampNeg)) (cwV 3 htsL gL_law_X12_row rfl rfl rfl (by decide +kernel) ⟨Nat.le_of_ble_eq_true rfl, Nat.le_of_ble_eq_true rfl⟩) ⟨wx_Pc.blind, wx_recv hK hX (by decide) sh_X12 rfl, (wx_Pc.pre hK hX).2⟩ rfl rfl hl.1 rfl (lv_room (Nat.le_of_ble_eq_true rfl)) dL_law_239 ⟨by show _ ≤ (600000 : Nat); omega, by show _ ≤ (7302250 : Nat); omega⟩) hS (fun H2 locs2 hX2 hS2 => ?_)
  refine lv_icmp_eq (tgt := 1491) hx hb dL_law_242 (by decide) (fun _ => ?_) (fun c9 => absurd T2.symm c9)
  exact W.widen (k := cells + 4) (n := slots + 4) (by omega) (by omega) (kk _ _ _ _ _ hX2 T3 hS2)
set_option maxHeartbeats 2000000 in
theorem lc_1 : lc_Ok 247 := by
  intro p l e s m below meth c b L xs D cy ad f P g H locs cells slots i K ls C0 hL hK hX hS R hK1 hK9 hi hc1 hc2 hl kk
  obtain ⟨hx, hb, -, hml, hown0, hts, hXs, hbl, -, -⟩ := C0
  have hown : s.vm.findClass RL = some m.cls := hown0
  have hbA : ¬ s.heap.size ≤ b := Nat.not_le.mpr hbl
  have htsL : ∀ w ∈ wsL_law, w.before #[Value.ref b] s = true := fun w h => hts w (wsL_law_in w h)
  refine lv_aload_n hx hb dL_law_247 rfl (lv_at hl 2 rfl) ?_
  refine lv_aload_n hx hb dL_law_248 rfl (lv_at hl 3 rfl) ?_
  refine lv_iload_n hx hb dL_law_249 rfl (lv_at hl 0 rfl) ?_
  refine lv_iconst (v := 1) hx hb dL_law_250 (by decide) ?_
  refine lv_iadd hx hb dL_law_251 ?_
  refine va_sld hx hb hXs hbl hbA hS (lc_in hi hL (k := 1) ⟨by decide, by decide⟩) dL_law_252 ?_
  refine lv_aload_n hx hb dL_law_253 rfl (lv_at hl 3 rfl) ?_
  refine lv_iload_n hx hb dL_law_254 rfl (lv_at hl 0 rfl) ?_
  refine lv_iconst (v := 2) hx hb dL_law_255 (by decide) ?_
  refine lv_iadd hx hb dL_law_256 ?_
  refine va_sld hx hb hXs hbl hbA hS (lc_in hi hL (k := 2) ⟨by decide, by decide⟩) dL_law_257 ?_
  refine lv_aload_n hx hb dL_law_258 rfl (lv_at hl 3 rfl) ?_
  refine lv_iload_n hx hb dL_law_259 rfl (lv_at hl 0 rfl) ?_
  refine lv_iconst (v := 3) hx hb dL_law_260 (by decide) ?_
  refine lv_iadd hx hb dL_law_261 ?_
  refine va_sld hx hb hXs hbl hbA hS (lc_in hi hL (k := 3) ⟨by decide, by decide⟩) dL_law_262 ?_
  have T := tt_set R (xs (nI i + 1).toNatClampNeg) (xs (nI i + 2).toNatClampNeg) (xs (nI i + 3).toNatClampNeg)
  refine wx_callei (va_runV (As := [.int (xs (nI i + 1).toNatClampNeg), .int (xs (nI i + 2).toNatClampNeg), .int (xs (nI i + 3).toNatClampNeg)]) (rest := []) ⟨hx, hb, hml, hown, htsL⟩ (k_X11_set l g (xs (nI i + 1).toNatClampNeg) (xs (nI i + 2).toNatClampNeg) (xs (nI i + 3).toNatClampNeg) R.SZ) (cwV 3 htsL gL_law_X11_set rfl rfl rfl (by decide +kernel) ⟨Nat.le_of_ble_eq_true rfl, Nat.le_of_ble_eq_true rfl⟩) ⟨wx_Pc.blind, wx_recv hK hX (by decide) sh_X11 rfl, (wx_Pc.pre hK hX).2⟩ rfl rfl hl.1 rfl (lv_room (Nat.le_of_ble_eq_true rfl)) dL_law_263 ⟨by show _ ≤ (600000 : Nat); omega, by show _ ≤ (7302250 : Nat); omega⟩) hS (fun H1 locs1 hX1 hS1 => ?_)
  obtain ⟨z, ez⟩ : ∃ z, z = f_X11_set g (xs (nI i + 1).toNatClampNeg) (xs (nI i + 2).toNatClampNeg) (xs (nI i + 3).toNatClampNeg) := ⟨_, rfl⟩
  rw [← ez] at T hX1 ⊢
  clear ez hX hS
  have hX := hX1
  have hS := hS1
  obtain ⟨T1, T2, T3⟩ := T
  have T2 : (f_X12_set z.1 (xs (nI i + 1).toNatClampNeg) (xs (nI i + 2).toNatClampNeg) (xs (nI i + 3).toNatClampNeg)).2 = z.2 := T2
  have T3 : m_Rel (K + 10) (f_X12_set z.1 (xs (nI i + 1).toNatClampNeg) (xs (nI i + 2).toNatClampNeg) (xs (nI i + 3).toNatClampNeg)).1 := T3
  refine lv_aload_n hx hb dL_law_266 rfl (lv_at hl 1 rfl) ?_
  refine lv_aload_n hx hb dL_law_267 rfl (lv_at hl 3 rfl) ?_
  refine lv_iload_n hx hb dL_law_268 rfl (lv_at hl 0 rfl) ?_
  refine lv_iconst (v := 1) hx hb dL_law_269 (by decide) ?_
  refine lv_iadd hx hb dL_law_270 ?_
  refine va_sld hx hb hXs hbl hbA hS (lc_in hi hL (k := 1) ⟨by decide, by decide⟩) dL_law_271 ?_
  refine lv_aload_n hx hb dL_law_272 rfl (lv_at hl 3 rfl) ?_
  refine lv_iload_n hx hb dL_law_273 rfl (lv_at hl 0 rfl) ?_
  refine lv_iconst (v := 2) hx hb dL_law_274 (by decide) ?_
  refine lv_iadd hx hb dL_law_275 ?_
  refine va_sld hx hb hXs hbl hbA hS (lc_in hi hL (k := 2) ⟨by decide, by decide⟩) dL_law_276 ?_
  refine lv_aload_n hx hb dL_law_277 rfl (lv_at hl 3 rfl) ?_
  refine lv_iload_n hx hb dL_law_278 rfl (lv_at hl 0 rfl) ?_
  refine lv_iconst (v := 3) hx hb dL_law_279 (by decide) ?_
  refine lv_iadd hx hb dL_law_280 ?_
  refine va_sld hx hb hXs hbl hbA hS (lc_in hi hL (k := 3) ⟨by decide, by decide⟩) dL_law_281 ?_
  refine wx_callei (va_runV (As := [.int (xs (nI i + 1).toNatClampNeg), .int (xs (nI i + 2).toNatClampNeg), .int (xs (nI i + 3).toNatClampNeg)]) (rest := [.int z.2]) ⟨hx, hb, hml, hown, htsL⟩ (k_X12_set l z.1 (xs (nI i + 1).toNatClampNeg) (xs (nI i + 2).toNatClampNeg) (xs (nI i + 3).toNatClampNeg) (R.IT (T1 59 (by decide)))) (cwV 3 htsL gL_law_X12_set rfl rfl rfl (by decide +kernel) ⟨Nat.le_of_ble_eq_true rfl, Nat.le_of_ble_eq_true rfl⟩) ⟨wx_Pc.blind, wx_recv hK hX (by decide) sh_X12 rfl, (wx_Pc.pre hK hX).2⟩ rfl rfl hl.1 rfl (lv_room (Nat.le_of_ble_eq_true rfl)) dL_law_282 ⟨by show _ ≤ (600000 : Nat); omega, by show _ ≤ (7302250 : Nat); omega⟩) hS (fun H2 locs2 hX2 hS2 => ?_)
  refine lv_icmp_eq (tgt := 1491) hx hb dL_law_285 (by decide) (fun _ => ?_) (fun c9 => absurd T2.symm c9)
  exact W.widen (k := cells + 4) (n := slots + 4) (by omega) (by omega) (kk _ _ _ _ _ hX2 T3 hS2)
set_option maxHeartbeats 2000000 in
theorem lc_2 : lc_Ok 290 := by
  intro p l e s m below meth c b L xs D cy ad f P g H locs cells slots i K ls C0 hL hK hX hS R hK1 hK9 hi hc1 hc2 hl kk
  obtain ⟨hx, hb, -, hml, hown0, hts, hXs, hbl, -, -⟩ := C0
  have hown : s.vm.findClass RL = some m.cls := hown0
  have hbA : ¬ s.heap.size ≤ b := Nat.not_le.mpr hbl
  have htsL : ∀ w ∈ wsL_law, w.before #[Value.ref b] s = true := fun w h => hts w (wsL_law_in w h)
  refine lv_aload_n hx hb dL_law_290 rfl (lv_at hl 2 rfl) ?_
  refine lv_aload_n hx hb dL_law_291 rfl (lv_at hl 3 rfl) ?_
  refine lv_iload_n hx hb dL_law_292 rfl (lv_at hl 0 rfl) ?_
  refine lv_iconst (v := 1) hx hb dL_law_293 (by decide) ?_
  refine lv_iadd hx hb dL_law_294 ?_
  refine va_sld hx hb hXs hbl hbA hS (lc_in hi hL (k := 1) ⟨by decide, by decide⟩) dL_law_295 ?_
  refine lv_aload_n hx hb dL_law_296 rfl (lv_at hl 3 rfl) ?_
  refine lv_iload_n hx hb dL_law_297 rfl (lv_at hl 0 rfl) ?_
  refine lv_iconst (v := 2) hx hb dL_law_298 (by decide) ?_
  refine lv_iadd hx hb dL_law_299 ?_
  refine va_sld hx hb hXs hbl hbA hS (lc_in hi hL (k := 2) ⟨by decide, by decide⟩) dL_law_300 ?_
  refine lv_aload_n hx hb dL_law_301 rfl (lv_at hl 3 rfl) ?_
  refine lv_iload_n hx hb dL_law_302 rfl (lv_at hl 0 rfl) ?_
  refine lv_iconst (v := 3) hx hb dL_law_303 (by decide) ?_
  refine lv_iadd hx hb dL_law_304 ?_
  refine va_sld hx hb hXs hbl hbA hS (lc_in hi hL (k := 3) ⟨by decide, by decide⟩) dL_law_305 ?_
  refine lv_aload_n hx hb dL_law_306 rfl (lv_at hl 3 rfl) ?_
  refine lv_iload_n hx hb dL_law_307 rfl (lv_at hl 0 rfl) ?_
  refine lv_iconst (v := 4) hx hb dL_law_308 (by decide) ?_
  refine lv_iadd hx hb dL_law_309 ?_
  refine va_sld hx hb hXs hbl hbA hS (lc_in hi hL (k := 4) ⟨by decide, by decide⟩) dL_law_310 ?_
  refine lv_aload_n hx hb dL_law_311 rfl (lv_at hl 3 rfl) ?_
  refine lv_iload_n hx hb dL_law_312 rfl (lv_at hl 0 rfl) ?_
  refine lv_iconst (v := 5) hx hb dL_law_313 (by decide) ?_
  refine lv_iadd hx hb dL_law_314 ?_
  refine va_sld hx hb hXs hbl hbA hS (lc_in hi hL (k := 5) ⟨by decide, by decide⟩) dL_law_315 ?_
  have T := t_copy R (xs (nI i + 1).toNatClampNeg) (xs (nI i + 2).toNatClampNeg) (xs (nI i + 3).toNatClampNeg) (xs (nI i + 4).toNatClampNeg) (xs (nI i + 5).toNatClampNeg)
  refine wx_callei (va_runV (As := [.int (xs (nI i + 1).toNatClampNeg), .int (xs (nI i + 2).toNatClampNeg), .int (xs (nI i + 3).toNatClampNeg), .int (xs (nI i + 4).toNatClampNeg), .int (xs (nI i + 5).toNatClampNeg)]) (rest := []) ⟨hx, hb, hml, hown, htsL⟩ (k_X11_copy l g (xs (nI i + 1).toNatClampNeg) (xs (nI i + 2).toNatClampNeg) (xs (nI i + 3).toNatClampNeg) (xs (nI i + 4).toNatClampNeg) (xs (nI i + 5).toNatClampNeg) R.SZ) (cwV 5 htsL gL_law_X11_copy rfl rfl rfl (by decide +kernel) ⟨Nat.le_of_ble_eq_true rfl, Nat.le_of_ble_eq_true rfl⟩) ⟨wx_Pc.blind, wx_recv hK hX (by decide) sh_X11 rfl, (wx_Pc.pre hK hX).2⟩ rfl rfl hl.1 rfl (lv_room (Nat.le_of_ble_eq_true rfl)) dL_law_316 ⟨by show _ ≤ (600000 : Nat); omega, by show _ ≤ (7302250 : Nat); omega⟩) hS (fun H1 locs1 hX1 hS1 => ?_)
  obtain ⟨z, ez⟩ : ∃ z, z = f_X11_copy g (xs (nI i + 1).toNatClampNeg) (xs (nI i + 2).toNatClampNeg) (xs (nI i + 3).toNatClampNeg) (xs (nI i + 4).toNatClampNeg) (xs (nI i + 5).toNatClampNeg) := ⟨_, rfl⟩
  rw [← ez] at T hX1 ⊢
  clear ez hX hS
  have hX := hX1
  have hS := hS1
  obtain ⟨T1, T2, T3⟩ := T
  have T2 : (f_X12_copy z.1 (xs (nI i + 1).toNatClampNeg) (xs (nI i + 2).toNatClampNeg) (xs (nI i + 3).toNatClampNeg) (xs (nI i + 4).toNatClampNeg) (xs (nI i + 5).toNatClampNeg)).2 = z.2 := T2
  have T3 : m_Rel (K + 10) (f_X12_copy z.1 (xs (nI i + 1).toNatClampNeg) (xs (nI i + 2).toNatClampNeg) (xs (nI i + 3).toNatClampNeg) (xs (nI i + 4).toNatClampNeg) (xs (nI i + 5).toNatClampNeg)).1 := T3
  refine lv_aload_n hx hb dL_law_319 rfl (lv_at hl 1 rfl) ?_
  refine lv_aload_n hx hb dL_law_320 rfl (lv_at hl 3 rfl) ?_
  refine lv_iload_n hx hb dL_law_321 rfl (lv_at hl 0 rfl) ?_
  refine lv_iconst (v := 1) hx hb dL_law_322 (by decide) ?_
  refine lv_iadd hx hb dL_law_323 ?_
  refine va_sld hx hb hXs hbl hbA hS (lc_in hi hL (k := 1) ⟨by decide, by decide⟩) dL_law_324 ?_
  refine lv_aload_n hx hb dL_law_325 rfl (lv_at hl 3 rfl) ?_
  refine lv_iload_n hx hb dL_law_326 rfl (lv_at hl 0 rfl) ?_
  refine lv_iconst (v := 2) hx hb dL_law_327 (by decide) ?_
  refine lv_iadd hx hb dL_law_328 ?_
  refine va_sld hx hb hXs hbl hbA hS (lc_in hi hL (k := 2) ⟨by decide, by decide⟩) dL_law_329 ?_
  refine lv_aload_n hx hb dL_law_330 rfl (lv_at hl 3 rfl) ?_
  refine lv_iload_n hx hb dL_law_331 rfl (lv_at hl 0 rfl) ?_
  refine lv_iconst (v := 3) hx hb dL_law_332 (by decide) ?_
  refine lv_iadd hx hb dL_law_333 ?_
  refine va_sld hx hb hXs hbl hbA hS (lc_in hi hL (k := 3) ⟨by decide, by decide⟩) dL_law_334 ?_
  refine lv_aload_n hx hb dL_law_335 rfl (lv_at hl 3 rfl) ?_
  refine lv_iload_n hx hb dL_law_336 rfl (lv_at hl 0 rfl) ?_
  refine lv_iconst (v := 4) hx hb dL_law_337 (by decide) ?_
  refine lv_iadd hx hb dL_law_338 ?_
  refine va_sld hx hb hXs hbl hbA hS (lc_in hi hL (k := 4) ⟨by decide, by decide⟩) dL_law_339 ?_
  refine lv_aload_n hx hb dL_law_340 rfl (lv_at hl 3 rfl) ?_
  refine lv_iload_n hx hb dL_law_341 rfl (lv_at hl 0 rfl) ?_
  refine lv_iconst (v := 5) hx hb dL_law_342 (by decide) ?_
  refine lv_iadd hx hb dL_law_343 ?_
  refine va_sld hx hb hXs hbl hbA hS (lc_in hi hL (k := 5) ⟨by decide, by decide⟩) dL_law_344 ?_
  refine wx_callei (va_runV (As := [.int (xs (nI i + 1).toNatClampNeg), .int (xs (nI i + 2).toNatClampNeg), .int (xs (nI i + 3).toNatClampNeg), .int (xs (nI i + 4).toNatClampNeg), .int (xs (nI i + 5).toNatClampNeg)]) (rest := [.int z.2]) ⟨hx, hb, hml, hown, htsL⟩ (k_X12_copy l z.1 (xs (nI i + 1).toNatClampNeg) (xs (nI i + 2).toNatClampNeg) (xs (nI i + 3).toNatClampNeg) (xs (nI i + 4).toNatClampNeg) (xs (nI i + 5).toNatClampNeg) (R.IT (T1 59 (by decide)))) (cwV 5 htsL gL_law_X12_copy rfl rfl rfl (by decide +kernel) ⟨Nat.le_of_ble_eq_true rfl, Nat.le_of_ble_eq_true rfl⟩) ⟨wx_Pc.blind, wx_recv hK hX (by decide) sh_X12 rfl, (wx_Pc.pre hK hX).2⟩ rfl rfl hl.1 rfl (lv_room (Nat.le_of_ble_eq_true rfl)) dL_law_345 ⟨by show _ ≤ (600000 : Nat); omega, by show _ ≤ (7302250 : Nat); omega⟩) hS (fun H2 locs2 hX2 hS2 => ?_)
  refine lv_icmp_eq (tgt := 1491) hx hb dL_law_348 (by decide) (fun _ => ?_) (fun c9 => absurd T2.symm c9)
  exact W.widen (k := cells + 4) (n := slots + 4) (by omega) (by omega) (kk _ _ _ _ _ hX2 T3 hS2)
set_option maxHeartbeats 2000000 in
theorem lc_3 : lc_Ok 353 := by
  intro p l e s m below meth c b L xs D cy ad f P g H locs cells slots i K ls C0 hL hK hX hS R hK1 hK9 hi hc1 hc2 hl kk
  obtain ⟨hx, hb, -, hml, hown0, hts, hXs, hbl, -, -⟩ := C0
  have hown : s.vm.findClass RL = some m.cls := hown0
  have hbA : ¬ s.heap.size ≤ b := Nat.not_le.mpr hbl
  have htsL : ∀ w ∈ wsL_law, w.before #[Value.ref b] s = true := fun w h => hts w (wsL_law_in w h)
  refine lv_aload_n hx hb dL_law_353 rfl (lv_at hl 2 rfl) ?_
  refine lv_aload_n hx hb dL_law_354 rfl (lv_at hl 3 rfl) ?_
  refine lv_iload_n hx hb dL_law_355 rfl (lv_at hl 0 rfl) ?_
  refine lv_iconst (v := 1) hx hb dL_law_356 (by decide) ?_
  refine lv_iadd hx hb dL_law_357 ?_
  refine va_sld hx hb hXs hbl hbA hS (lc_in hi hL (k := 1) ⟨by decide, by decide⟩) dL_law_358 ?_
  have T := t_drop R (xs (nI i + 1).toNatClampNeg)
  refine wx_callei (va_runV (As := [.int (xs (nI i + 1).toNatClampNeg)]) (rest := []) ⟨hx, hb, hml, hown, htsL⟩ (k_X11_drop l g (xs (nI i + 1).toNatClampNeg)) (cwV 1 htsL gL_law_X11_drop rfl rfl rfl (by decide +kernel) ⟨Nat.le_of_ble_eq_true rfl, Nat.le_of_ble_eq_true rfl⟩) ⟨wx_Pc.blind, wx_recv hK hX (by decide) sh_X11 rfl, (wx_Pc.pre hK hX).2⟩ rfl rfl hl.1 rfl (lv_room (Nat.le_of_ble_eq_true rfl)) dL_law_359 ⟨by show _ ≤ (600000 : Nat); omega, by show _ ≤ (7302250 : Nat); omega⟩) hS (fun H1 locs1 hX1 hS1 => ?_)
  obtain ⟨z, ez⟩ : ∃ z, z = f_X11_drop g (xs (nI i + 1).toNatClampNeg) := ⟨_, rfl⟩
  rw [← ez] at T hX1 ⊢
  clear ez hX hS
  have hX := hX1
  have hS := hS1
  obtain ⟨T1, T2, T3⟩ := T
  have T2 : (f_X12_drop z.1 (xs (nI i + 1).toNatClampNeg)).2 = z.2 := T2
  have T3 : m_Rel (K + 10) (f_X12_drop z.1 (xs (nI i + 1).toNatClampNeg)).1 := T3
  refine lv_aload_n hx hb dL_law_362 rfl (lv_at hl 1 rfl) ?_
  refine lv_aload_n hx hb dL_law_363 rfl (lv_at hl 3 rfl) ?_
  refine lv_iload_n hx hb dL_law_364 rfl (lv_at hl 0 rfl) ?_
  refine lv_iconst (v := 1) hx hb dL_law_365 (by decide) ?_
  refine lv_iadd hx hb dL_law_366 ?_
  refine va_sld hx hb hXs hbl hbA hS (lc_in hi hL (k := 1) ⟨by decide, by decide⟩) dL_law_367 ?_
  refine wx_callei (va_runV (As := [.int (xs (nI i + 1).toNatClampNeg)]) (rest := [.int z.2]) ⟨hx, hb, hml, hown, htsL⟩ (k_X12_drop l z.1 (xs (nI i + 1).toNatClampNeg)) (cwV 1 htsL gL_law_X12_drop rfl rfl rfl (by decide +kernel) ⟨Nat.le_of_ble_eq_true rfl, Nat.le_of_ble_eq_true rfl⟩) ⟨wx_Pc.blind, wx_recv hK hX (by decide) sh_X12 rfl, (wx_Pc.pre hK hX).2⟩ rfl rfl hl.1 rfl (lv_room (Nat.le_of_ble_eq_true rfl)) dL_law_368 ⟨by show _ ≤ (600000 : Nat); omega, by show _ ≤ (7302250 : Nat); omega⟩) hS (fun H2 locs2 hX2 hS2 => ?_)
  refine lv_icmp_eq (tgt := 1491) hx hb dL_law_371 (by decide) (fun _ => ?_) (fun c9 => absurd T2.symm c9)
  exact W.widen (k := cells + 4) (n := slots + 4) (by omega) (by omega) (kk _ _ _ _ _ hX2 T3 hS2)
set_option maxHeartbeats 2000000 in
theorem lc_4 : lc_Ok 376 := by
  intro p l e s m below meth c b L xs D cy ad f P g H locs cells slots i K ls C0 hL hK hX hS R hK1 hK9 hi hc1 hc2 hl kk
  obtain ⟨hx, hb, -, hml, hown0, hts, hXs, hbl, -, -⟩ := C0
  have hown : s.vm.findClass RL = some m.cls := hown0
  have hbA : ¬ s.heap.size ≤ b := Nat.not_le.mpr hbl
  have htsL : ∀ w ∈ wsL_law, w.before #[Value.ref b] s = true := fun w h => hts w (wsL_law_in w h)
  refine lv_aload_n hx hb dL_law_376 rfl (lv_at hl 2 rfl) ?_
  refine lv_aload_n hx hb dL_law_377 rfl (lv_at hl 3 rfl) ?_
  refine lv_iload_n hx hb dL_law_378 rfl (lv_at hl 0 rfl) ?_
  refine lv_iconst (v := 1) hx hb dL_law_379 (by decide) ?_
  refine lv_iadd hx hb dL_law_380 ?_
  refine va_sld hx hb hXs hbl hbA hS (lc_in hi hL (k := 1) ⟨by decide, by decide⟩) dL_law_381 ?_
  have T := t_feed R (xs (nI i + 1).toNatClampNeg)
  refine wx_callei (va_runV (As := [.int (xs (nI i + 1).toNatClampNeg)]) (rest := []) ⟨hx, hb, hml, hown, htsL⟩ (k_X11_feed l g (xs (nI i + 1).toNatClampNeg) R.tb.1) (cwV 1 htsL gL_law_X11_feed rfl rfl rfl (by decide +kernel) ⟨Nat.le_of_ble_eq_true rfl, Nat.le_of_ble_eq_true rfl⟩) ⟨wx_Pc.blind, wx_recv hK hX (by decide) sh_X11 rfl, (wx_Pc.pre hK hX).2⟩ rfl rfl hl.1 rfl (lv_room (Nat.le_of_ble_eq_true rfl)) dL_law_382 ⟨by show _ ≤ (600000 : Nat); omega, by show _ ≤ (7302250 : Nat); omega⟩) hS (fun H1 locs1 hX1 hS1 => ?_)
  obtain ⟨z, ez⟩ : ∃ z, z = f_X11_feed g (xs (nI i + 1).toNatClampNeg) := ⟨_, rfl⟩
  rw [← ez] at T hX1 ⊢
  clear ez hX hS
  have hX := hX1
  have hS := hS1
  obtain ⟨T1, T2, T3⟩ := T
  have T2 : (f_X12_feed z.1 (xs (nI i + 1).toNatClampNeg)).2 = z.2 := T2
  have T3 : m_Rel (K + 10) (f_X12_feed z.1 (xs (nI i + 1).toNatClampNeg)).1 := T3
  refine lv_aload_n hx hb dL_law_385 rfl (lv_at hl 1 rfl) ?_
  refine lv_aload_n hx hb dL_law_386 rfl (lv_at hl 3 rfl) ?_
  refine lv_iload_n hx hb dL_law_387 rfl (lv_at hl 0 rfl) ?_
  refine lv_iconst (v := 1) hx hb dL_law_388 (by decide) ?_
  refine lv_iadd hx hb dL_law_389 ?_
  refine va_sld hx hb hXs hbl hbA hS (lc_in hi hL (k := 1) ⟨by decide, by decide⟩) dL_law_390 ?_
  refine wx_callei (va_runV (As := [.int (xs (nI i + 1).toNatClampNeg)]) (rest := [.int z.2]) ⟨hx, hb, hml, hown, htsL⟩ (k_X12_feed l z.1 (xs (nI i + 1).toNatClampNeg) (by rw [T1 57 (by decide)]; exact R.pr.1)) (cwV 1 htsL gL_law_X12_feed rfl rfl rfl (by decide +kernel) ⟨Nat.le_of_ble_eq_true rfl, Nat.le_of_ble_eq_true rfl⟩) ⟨wx_Pc.blind, wx_recv hK hX (by decide) sh_X12 rfl, (wx_Pc.pre hK hX).2⟩ rfl rfl hl.1 rfl (lv_room (Nat.le_of_ble_eq_true rfl)) dL_law_391 ⟨by show _ ≤ (600000 : Nat); omega, by show _ ≤ (7302250 : Nat); omega⟩) hS (fun H2 locs2 hX2 hS2 => ?_)
  refine lv_icmp_eq (tgt := 1491) hx hb dL_law_394 (by decide) (fun _ => ?_) (fun c9 => absurd T2.symm c9)
  exact W.widen (k := cells + 4) (n := slots + 4) (by omega) (by omega) (kk _ _ _ _ _ hX2 T3 hS2)
set_option maxHeartbeats 2000000 in
theorem lc_5 : lc_Ok 399 := by
  intro p l e s m below meth c b L xs D cy ad f P g H locs cells slots i K ls C0 hL hK hX hS R hK1 hK9 hi hc1 hc2 hl kk
  obtain ⟨hx, hb, -, hml, hown0, hts, hXs, hbl, -, -⟩ := C0
  have hown : s.vm.findClass RL = some m.cls := hown0
  have hbA : ¬ s.heap.size ≤ b := Nat.not_le.mpr hbl
  have htsL : ∀ w ∈ wsL_law, w.before #[Value.ref b] s = true := fun w h => hts w (wsL_law_in w h)
  refine lv_aload_n hx hb dL_law_399 rfl (lv_at hl 2 rfl) ?_
  have T := t_house R (by omega)
  refine wx_callxiN (va_runV (As := []) (rest := []) ⟨hx, hb, hml, hown, htsL⟩ (k_X11_house l g R.tb R.dra.2.2.2.1) (cwV 0 htsL gL_law_X11_house rfl rfl rfl (by decide +kernel) ⟨Nat.le_of_ble_eq_true rfl, Nat.le_of_ble_eq_true rfl⟩) ⟨wx_Pc.blind, wx_recv hK hX (by decide) sh_X11 rfl, (wx_Pc.pre hK hX).2⟩ rfl rfl hl.1 rfl (lv_room (Nat.le_of_ble_eq_true rfl)) dL_law_400 ⟨by show _ ≤ (600000 : Nat); omega, by show _ ≤ (7302250 : Nat); omega⟩) hS (fun f P H1 locs1 hX1 hS1 => ?_)
  obtain ⟨z, ez⟩ : ∃ z, z = f_X11_house g := ⟨_, rfl⟩
  rw [← ez] at T hX1 ⊢
  clear ez hX hS
  have hX := hX1
  have hS := hS1
  obtain ⟨T1, T2, T3⟩ := T
  have T2 : (f_X12_house z.1).2 = z.2 := T2
  have T3 : m_Rel (K + 10) (f_X12_house z.1).1 := T3
  refine lv_aload_n hx hb dL_law_403 rfl (lv_at hl 1 rfl) ?_
  refine wx_callei (va_runV (As := []) (rest := [.int z.2]) ⟨hx, hb, hml, hown, htsL⟩ (k2_X12_house l z.1 (pr_congr (fun j _ => by rw [T1 57 (by decide)]) (T1 62 (by decide)) R.pr)) (cwV 0 htsL gL_law_X12_house rfl rfl rfl (by decide +kernel) ⟨Nat.le_of_ble_eq_true rfl, Nat.le_of_ble_eq_true rfl⟩) ⟨wx_Pc.blind, wx_recv hK hX (by decide) sh_X12 rfl, (wx_Pc.pre hK hX).2⟩ rfl rfl hl.1 rfl (lv_room (Nat.le_of_ble_eq_true rfl)) dL_law_404 ⟨by show _ ≤ (600000 : Nat); omega, by show _ ≤ (7302250 : Nat); omega⟩) hS (fun H2 locs2 hX2 hS2 => ?_)
  refine lv_icmp_eq (tgt := 1491) hx hb dL_law_407 (by decide) (fun _ => ?_) (fun c9 => absurd T2.symm c9)
  exact kk _ _ _ _ _ hX2 T3 hS2
set_option maxHeartbeats 2000000 in
theorem lc_6 : lc_Ok 412 := by
  intro p l e s m below meth c b L xs D cy ad f P g H locs cells slots i K ls C0 hL hK hX hS R hK1 hK9 hi hc1 hc2 hl kk
  obtain ⟨hx, hb, -, hml, hown0, hts, hXs, hbl, -, -⟩ := C0
  have hown : s.vm.findClass RL = some m.cls := hown0
  have hbA : ¬ s.heap.size ≤ b := Nat.not_le.mpr hbl
  have htsL : ∀ w ∈ wsL_law, w.before #[Value.ref b] s = true := fun w h => hts w (wsL_law_in w h)
  refine lv_aload_n hx hb dL_law_412 rfl (lv_at hl 2 rfl) ?_
  refine wx_callr (va_runV (As := []) (rest := []) ⟨hx, hb, hml, hown, htsL⟩ (k_X11_fault l g) (cwV 0 htsL gL_law_X11_fault rfl rfl rfl (by decide +kernel) ⟨Nat.le_of_ble_eq_true rfl, Nat.le_of_ble_eq_true rfl⟩) ⟨wx_Pc.blind, wx_recv hK hX (by decide) sh_X11 rfl, (wx_Pc.pre hK hX).2⟩ rfl rfl hl.1 rfl (lv_room (Nat.le_of_ble_eq_true rfl)) dL_law_413 ⟨by show _ ≤ (600000 : Nat); omega, by show _ ≤ (7302250 : Nat); omega⟩) ?_
  refine lv_aload_n hx hb dL_law_416 rfl (lv_at hl 1 rfl) ?_
  refine wx_callr (va_runV (As := []) (rest := [.int (r_X11_fault g)]) ⟨hx, hb, hml, hown, htsL⟩ (k_X12_fault l g) (cwV 0 htsL gL_law_X12_fault rfl rfl rfl (by decide +kernel) ⟨Nat.le_of_ble_eq_true rfl, Nat.le_of_ble_eq_true rfl⟩) ⟨wx_Pc.blind, wx_recv hK hX (by decide) sh_X12 rfl, (wx_Pc.pre hK hX).2⟩ rfl rfl hl.1 rfl (lv_room (Nat.le_of_ble_eq_true rfl)) dL_law_417 ⟨by show _ ≤ (600000 : Nat); omega, by show _ ≤ (7302250 : Nat); omega⟩) ?_
  refine lv_icmp_eq (tgt := 1491) hx hb dL_law_420 (by decide) (fun _ => ?_) (fun c9 => absurd (show r_X11_fault g = r_X12_fault g from R.flt) c9)
  exact W.widen (k := cells + 4) (n := slots + 4) (by omega) (by omega) (kk f P g H locs hX (R.mono (by omega)) hS)
set_option maxHeartbeats 2000000 in
theorem lc_7 : lc_Ok 425 := by
  intro p l e s m below meth c b L xs D cy ad f P g H locs cells slots i K ls C0 hL hK hX hS R hK1 hK9 hi hc1 hc2 hl kk
  obtain ⟨hx, hb, -, hml, hown0, hts, hXs, hbl, -, -⟩ := C0
  have hown : s.vm.findClass RL = some m.cls := hown0
  have hbA : ¬ s.heap.size ≤ b := Nat.not_le.mpr hbl
  have htsL : ∀ w ∈ wsL_law, w.before #[Value.ref b] s = true := fun w h => hts w (wsL_law_in w h)
  refine lv_aload_n hx hb dL_law_425 rfl (lv_at hl 2 rfl) ?_
  have T := t_undo R
  refine wx_callei (va_runV (As := []) (rest := []) ⟨hx, hb, hml, hown, htsL⟩ (k_X11_undo l g R.nx R.act.2.1) (cwV 0 htsL gL_law_X11_undo rfl rfl rfl (by decide +kernel) ⟨Nat.le_of_ble_eq_true rfl, Nat.le_of_ble_eq_true rfl⟩) ⟨wx_Pc.blind, wx_recv hK hX (by decide) sh_X11 rfl, (wx_Pc.pre hK hX).2⟩ rfl rfl hl.1 rfl (lv_room (Nat.le_of_ble_eq_true rfl)) dL_law_426 ⟨by show _ ≤ (600000 : Nat); omega, by show _ ≤ (7302250 : Nat); omega⟩) hS (fun H1 locs1 hX1 hS1 => ?_)
  obtain ⟨z, ez⟩ : ∃ z, z = f_X11_undo g := ⟨_, rfl⟩
  rw [← ez] at T hX1 ⊢
  clear ez hX hS
  have hX := hX1
  have hS := hS1
  obtain ⟨T1, T2, T3⟩ := T
  have T2 : (f_X12_undo z.1).2 = z.2 := T2
  have T3 : m_Rel (K + 10) (f_X12_undo z.1).1 := T3
  refine lv_aload_n hx hb dL_law_429 rfl (lv_at hl 1 rfl) ?_
  refine wx_callei (va_runV (As := []) (rest := [.int z.2]) ⟨hx, hb, hml, hown, htsL⟩ (k_X12_undo l z.1 (by rw [T1 57 (by decide)]; exact R.na) (am_congr (T1 68 (by decide)) R.act.2.2)) (cwV 0 htsL gL_law_X12_undo rfl rfl rfl (by decide +kernel) ⟨Nat.le_of_ble_eq_true rfl, Nat.le_of_ble_eq_true rfl⟩) ⟨wx_Pc.blind, wx_recv hK hX (by decide) sh_X12 rfl, (wx_Pc.pre hK hX).2⟩ rfl rfl hl.1 rfl (lv_room (Nat.le_of_ble_eq_true rfl)) dL_law_430 ⟨by show _ ≤ (600000 : Nat); omega, by show _ ≤ (7302250 : Nat); omega⟩) hS (fun H2 locs2 hX2 hS2 => ?_)
  refine lv_icmp_eq (tgt := 1491) hx hb dL_law_433 (by decide) (fun _ => ?_) (fun c9 => absurd T2.symm c9)
  exact W.widen (k := cells + 4) (n := slots + 4) (by omega) (by omega) (kk _ _ _ _ _ hX2 T3 hS2)
set_option maxHeartbeats 2000000 in
theorem lc_8 : lc_Ok 438 := by
  intro p l e s m below meth c b L xs D cy ad f P g H locs cells slots i K ls C0 hL hK hX hS R hK1 hK9 hi hc1 hc2 hl kk
  obtain ⟨hx, hb, -, hml, hown0, hts, hXs, hbl, -, -⟩ := C0
  have hown : s.vm.findClass RL = some m.cls := hown0
  have hbA : ¬ s.heap.size ≤ b := Nat.not_le.mpr hbl
  have htsL : ∀ w ∈ wsL_law, w.before #[Value.ref b] s = true := fun w h => hts w (wsL_law_in w h)
  refine lv_aload_n hx hb dL_law_438 rfl (lv_at hl 2 rfl) ?_
  refine lv_aload_n hx hb dL_law_439 rfl (lv_at hl 3 rfl) ?_
  refine lv_iload_n hx hb dL_law_440 rfl (lv_at hl 0 rfl) ?_
  refine lv_iconst (v := 1) hx hb dL_law_441 (by decide) ?_
  refine lv_iadd hx hb dL_law_442 ?_
  refine va_sld hx hb hXs hbl hbA hS (lc_in hi hL (k := 1) ⟨by decide, by decide⟩) dL_law_443 ?_
  refine lv_aload_n hx hb dL_law_444 rfl (lv_at hl 3 rfl) ?_
  refine lv_iload_n hx hb dL_law_445 rfl (lv_at hl 0 rfl) ?_
  refine lv_iconst (v := 2) hx hb dL_law_446 (by decide) ?_
  refine lv_iadd hx hb dL_law_447 ?_
  refine va_sld hx hb hXs hbl hbA hS (lc_in hi hL (k := 2) ⟨by decide, by decide⟩) dL_law_448 ?_
  refine lv_aload_n hx hb dL_law_449 rfl (lv_at hl 3 rfl) ?_
  refine lv_iload_n hx hb dL_law_450 rfl (lv_at hl 0 rfl) ?_
  refine lv_iconst (v := 3) hx hb dL_law_451 (by decide) ?_
  refine lv_iadd hx hb dL_law_452 ?_
  refine va_sld hx hb hXs hbl hbA hS (lc_in hi hL (k := 3) ⟨by decide, by decide⟩) dL_law_453 ?_
  have T := t_buy R (xs (nI i + 1).toNatClampNeg) (xs (nI i + 2).toNatClampNeg) (xs (nI i + 3).toNatClampNeg)
  refine wx_callei (va_runV (As := [.int (xs (nI i + 1).toNatClampNeg), .int (xs (nI i + 2).toNatClampNeg), .int (xs (nI i + 3).toNatClampNeg)]) (rest := []) ⟨hx, hb, hml, hown, htsL⟩ (k_X11_buy l g (xs (nI i + 1).toNatClampNeg) (xs (nI i + 2).toNatClampNeg) (xs (nI i + 3).toNatClampNeg) R.HB R.nx) (cwV 3 htsL gL_law_X11_buy rfl rfl rfl (by decide +kernel) ⟨Nat.le_of_ble_eq_true rfl, Nat.le_of_ble_eq_true rfl⟩) ⟨wx_Pc.blind, wx_recv hK hX (by decide) sh_X11 rfl, (wx_Pc.pre hK hX).2⟩ rfl rfl hl.1 rfl (lv_room (Nat.le_of_ble_eq_true rfl)) dL_law_454 ⟨by show _ ≤ (600000 : Nat); omega, by show _ ≤ (7302250 : Nat); omega⟩) hS (fun H1 locs1 hX1 hS1 => ?_)
  obtain ⟨z, ez⟩ : ∃ z, z = f_X11_buy g (xs (nI i + 1).toNatClampNeg) (xs (nI i + 2).toNatClampNeg) (xs (nI i + 3).toNatClampNeg) := ⟨_, rfl⟩
  rw [← ez] at T hX1 ⊢
  clear ez hX hS
  have hX := hX1
  have hS := hS1
  obtain ⟨T1, T2, T3⟩ := T
  have T2 : (f_X12_buy z.1 (xs (nI i + 1).toNatClampNeg) (xs (nI i + 2).toNatClampNeg) (xs (nI i + 3).toNatClampNeg)).2 = z.2 := T2
  have T3 : m_Rel (K + 10) (f_X12_buy z.1 (xs (nI i + 1).toNatClampNeg) (xs (nI i + 2).toNatClampNeg) (xs (nI i + 3).toNatClampNeg)).1 := T3
  refine lv_aload_n hx hb dL_law_457 rfl (lv_at hl 1 rfl) ?_
  refine lv_aload_n hx hb dL_law_458 rfl (lv_at hl 3 rfl) ?_
  refine lv_iload_n hx hb dL_law_459 rfl (lv_at hl 0 rfl) ?_
  refine lv_iconst (v := 1) hx hb dL_law_460 (by decide) ?_
  refine lv_iadd hx hb dL_law_461 ?_
  refine va_sld hx hb hXs hbl hbA hS (lc_in hi hL (k := 1) ⟨by decide, by decide⟩) dL_law_462 ?_
  refine lv_aload_n hx hb dL_law_463 rfl (lv_at hl 3 rfl) ?_
  refine lv_iload_n hx hb dL_law_464 rfl (lv_at hl 0 rfl) ?_
  refine lv_iconst (v := 2) hx hb dL_law_465 (by decide) ?_
  refine lv_iadd hx hb dL_law_466 ?_
  refine va_sld hx hb hXs hbl hbA hS (lc_in hi hL (k := 2) ⟨by decide, by decide⟩) dL_law_467 ?_
  refine lv_aload_n hx hb dL_law_468 rfl (lv_at hl 3 rfl) ?_
  refine lv_iload_n hx hb dL_law_469 rfl (lv_at hl 0 rfl) ?_
  refine lv_iconst (v := 3) hx hb dL_law_470 (by decide) ?_
  refine lv_iadd hx hb dL_law_471 ?_
  refine va_sld hx hb hXs hbl hbA hS (lc_in hi hL (k := 3) ⟨by decide, by decide⟩) dL_law_472 ?_
  refine wx_callei (va_runV (As := [.int (xs (nI i + 1).toNatClampNeg), .int (xs (nI i + 2).toNatClampNeg), .int (xs (nI i + 3).toNatClampNeg)]) (rest := [.int z.2]) ⟨hx, hb, hml, hown, htsL⟩ (k_X12_buy l z.1 (xs (nI i + 1).toNatClampNeg) (xs (nI i + 2).toNatClampNeg) (xs (nI i + 3).toNatClampNeg) (R.MB (T1 65 (by decide))) (by rw [T1 57 (by decide)]; exact R.na)) (cwV 3 htsL gL_law_X12_buy rfl rfl rfl (by decide +kernel) ⟨Nat.le_of_ble_eq_true rfl, Nat.le_of_ble_eq_true rfl⟩) ⟨wx_Pc.blind, wx_recv hK hX (by decide) sh_X12 rfl, (wx_Pc.pre hK hX).2⟩ rfl rfl hl.1 rfl (lv_room (Nat.le_of_ble_eq_true rfl)) dL_law_473 ⟨by show _ ≤ (600000 : Nat); omega, by show _ ≤ (7302250 : Nat); omega⟩) hS (fun H2 locs2 hX2 hS2 => ?_)
  refine lv_icmp_eq (tgt := 1491) hx hb dL_law_476 (by decide) (fun _ => ?_) (fun c9 => absurd T2.symm c9)
  exact W.widen (k := cells + 4) (n := slots + 4) (by omega) (by omega) (kk _ _ _ _ _ hX2 T3 hS2)
set_option maxHeartbeats 2000000 in
theorem lc_9 : lc_Ok 481 := by
  intro p l e s m below meth c b L xs D cy ad f P g H locs cells slots i K ls C0 hL hK hX hS R hK1 hK9 hi hc1 hc2 hl kk
  obtain ⟨hx, hb, -, hml, hown0, hts, hXs, hbl, -, -⟩ := C0
  have hown : s.vm.findClass RL = some m.cls := hown0
  have hbA : ¬ s.heap.size ≤ b := Nat.not_le.mpr hbl
  have htsL : ∀ w ∈ wsL_law, w.before #[Value.ref b] s = true := fun w h => hts w (wsL_law_in w h)
  refine lv_aload_n hx hb dL_law_481 rfl (lv_at hl 2 rfl) ?_
  refine lv_aload_n hx hb dL_law_482 rfl (lv_at hl 3 rfl) ?_
  refine lv_iload_n hx hb dL_law_483 rfl (lv_at hl 0 rfl) ?_
  refine lv_iconst (v := 1) hx hb dL_law_484 (by decide) ?_
  refine lv_iadd hx hb dL_law_485 ?_
  refine va_sld hx hb hXs hbl hbA hS (lc_in hi hL (k := 1) ⟨by decide, by decide⟩) dL_law_486 ?_
  refine lv_aload_n hx hb dL_law_487 rfl (lv_at hl 3 rfl) ?_
  refine lv_iload_n hx hb dL_law_488 rfl (lv_at hl 0 rfl) ?_
  refine lv_iconst (v := 2) hx hb dL_law_489 (by decide) ?_
  refine lv_iadd hx hb dL_law_490 ?_
  refine va_sld hx hb hXs hbl hbA hS (lc_in hi hL (k := 2) ⟨by decide, by decide⟩) dL_law_491 ?_
  refine lv_aload_n hx hb dL_law_492 rfl (lv_at hl 3 rfl) ?_
  refine lv_iload_n hx hb dL_law_493 rfl (lv_at hl 0 rfl) ?_
  refine lv_iconst (v := 3) hx hb dL_law_494 (by decide) ?_
  refine lv_iadd hx hb dL_law_495 ?_
  refine va_sld hx hb hXs hbl hbA hS (lc_in hi hL (k := 3) ⟨by decide, by decide⟩) dL_law_496 ?_
  have T := t_back R hK9 (xs (nI i + 1).toNatClampNeg) (xs (nI i + 2).toNatClampNeg) (xs (nI i + 3).toNatClampNeg)
  refine wx_callei (va_runV (As := [.int (xs (nI i + 1).toNatClampNeg), .int (xs (nI i + 2).toNatClampNeg), .int (xs (nI i + 3).toNatClampNeg)]) (rest := []) ⟨hx, hb, hml, hown, htsL⟩ (k_X11_back l g (xs (nI i + 1).toNatClampNeg) (xs (nI i + 2).toNatClampNeg) (xs (nI i + 3).toNatClampNeg) R.HB R.nx) (cwV 3 htsL gL_law_X11_back rfl rfl rfl (by decide +kernel) ⟨Nat.le_of_ble_eq_true rfl, Nat.le_of_ble_eq_true rfl⟩) ⟨wx_Pc.blind, wx_recv hK hX (by decide) sh_X11 rfl, (wx_Pc.pre hK hX).2⟩ rfl rfl hl.1 rfl (lv_room (Nat.le_of_ble_eq_true rfl)) dL_law_497 ⟨by show _ ≤ (600000 : Nat); omega, by show _ ≤ (7302250 : Nat); omega⟩) hS (fun H1 locs1 hX1 hS1 => ?_)
  obtain ⟨z, ez⟩ : ∃ z, z = f_X11_back g (xs (nI i + 1).toNatClampNeg) (xs (nI i + 2).toNatClampNeg) (xs (nI i + 3).toNatClampNeg) := ⟨_, rfl⟩
  rw [← ez] at T hX1 ⊢
  clear ez hX hS
  have hX := hX1
  have hS := hS1
  obtain ⟨T1, T2, T3⟩ := T
  have T2 : (f_X12_back z.1 (xs (nI i + 1).toNatClampNeg) (xs (nI i + 2).toNatClampNeg) (xs (nI i + 3).toNatClampNeg)).2 = z.2 := T2
  have T3 : m_Rel (K + 10) (f_X12_back z.1 (xs (nI i + 1).toNatClampNeg) (xs (nI i + 2).toNatClampNeg) (xs (nI i + 3).toNatClampNeg)).1 := T3
  refine lv_aload_n hx hb dL_law_500 rfl (lv_at hl 1 rfl) ?_
  refine lv_aload_n hx hb dL_law_501 rfl (lv_at hl 3 rfl) ?_
  refine lv_iload_n hx hb dL_law_502 rfl (lv_at hl 0 rfl) ?_
  refine lv_iconst (v := 1) hx hb dL_law_503 (by decide) ?_
  refine lv_iadd hx hb dL_law_504 ?_
  refine va_sld hx hb hXs hbl hbA hS (lc_in hi hL (k := 1) ⟨by decide, by decide⟩) dL_law_505 ?_
  refine lv_aload_n hx hb dL_law_506 rfl (lv_at hl 3 rfl) ?_
  refine lv_iload_n hx hb dL_law_507 rfl (lv_at hl 0 rfl) ?_
  refine lv_iconst (v := 2) hx hb dL_law_508 (by decide) ?_
  refine lv_iadd hx hb dL_law_509 ?_
  refine va_sld hx hb hXs hbl hbA hS (lc_in hi hL (k := 2) ⟨by decide, by decide⟩) dL_law_510 ?_
  refine lv_aload_n hx hb dL_law_511 rfl (lv_at hl 3 rfl) ?_
  refine lv_iload_n hx hb dL_law_512 rfl (lv_at hl 0 rfl) ?_
  refine lv_iconst (v := 3) hx hb dL_law_513 (by decide) ?_
  refine lv_iadd hx hb dL_law_514 ?_
  refine va_sld hx hb hXs hbl hbA hS (lc_in hi hL (k := 3) ⟨by decide, by decide⟩) dL_law_515 ?_
  refine wx_callei (va_runV (As := [.int (xs (nI i + 1).toNatClampNeg), .int (xs (nI i + 2).toNatClampNeg), .int (xs (nI i + 3).toNatClampNeg)]) (rest := [.int z.2]) ⟨hx, hb, hml, hown, htsL⟩ (k_X12_back l z.1 (xs (nI i + 1).toNatClampNeg) (xs (nI i + 2).toNatClampNeg) (xs (nI i + 3).toNatClampNeg) (R.MB (T1 65 (by decide))) (by rw [T1 57 (by decide)]; exact R.na)) (cwV 3 htsL gL_law_X12_back rfl rfl rfl (by decide +kernel) ⟨Nat.le_of_ble_eq_true rfl, Nat.le_of_ble_eq_true rfl⟩) ⟨wx_Pc.blind, wx_recv hK hX (by decide) sh_X12 rfl, (wx_Pc.pre hK hX).2⟩ rfl rfl hl.1 rfl (lv_room (Nat.le_of_ble_eq_true rfl)) dL_law_516 ⟨by show _ ≤ (600000 : Nat); omega, by show _ ≤ (7302250 : Nat); omega⟩) hS (fun H2 locs2 hX2 hS2 => ?_)
  refine lv_icmp_eq (tgt := 1491) hx hb dL_law_519 (by decide) (fun _ => ?_) (fun c9 => absurd T2.symm c9)
  exact W.widen (k := cells + 4) (n := slots + 4) (by omega) (by omega) (kk _ _ _ _ _ hX2 T3 hS2)
set_option maxHeartbeats 2000000 in
theorem lc_10 : lc_Ok 524 := by
  intro p l e s m below meth c b L xs D cy ad f P g H locs cells slots i K ls C0 hL hK hX hS R hK1 hK9 hi hc1 hc2 hl kk
  obtain ⟨hx, hb, -, hml, hown0, hts, hXs, hbl, -, -⟩ := C0
  have hown : s.vm.findClass RL = some m.cls := hown0
  have hbA : ¬ s.heap.size ≤ b := Nat.not_le.mpr hbl
  have htsL : ∀ w ∈ wsL_law, w.before #[Value.ref b] s = true := fun w h => hts w (wsL_law_in w h)
  refine lv_aload_n hx hb dL_law_524 rfl (lv_at hl 2 rfl) ?_
  refine lv_aload_n hx hb dL_law_525 rfl (lv_at hl 3 rfl) ?_
  refine lv_iload_n hx hb dL_law_526 rfl (lv_at hl 0 rfl) ?_
  refine lv_iconst (v := 1) hx hb dL_law_527 (by decide) ?_
  refine lv_iadd hx hb dL_law_528 ?_
  refine va_sld hx hb hXs hbl hbA hS (lc_in hi hL (k := 1) ⟨by decide, by decide⟩) dL_law_529 ?_
  refine lv_aload_n hx hb dL_law_530 rfl (lv_at hl 3 rfl) ?_
  refine lv_iload_n hx hb dL_law_531 rfl (lv_at hl 0 rfl) ?_
  refine lv_iconst (v := 2) hx hb dL_law_532 (by decide) ?_
  refine lv_iadd hx hb dL_law_533 ?_
  refine va_sld hx hb hXs hbl hbA hS (lc_in hi hL (k := 2) ⟨by decide, by decide⟩) dL_law_534 ?_
  refine lv_aload_n hx hb dL_law_535 rfl (lv_at hl 3 rfl) ?_
  refine lv_iload_n hx hb dL_law_536 rfl (lv_at hl 0 rfl) ?_
  refine lv_iconst (v := 3) hx hb dL_law_537 (by decide) ?_
  refine lv_iadd hx hb dL_law_538 ?_
  refine va_sld hx hb hXs hbl hbA hS (lc_in hi hL (k := 3) ⟨by decide, by decide⟩) dL_law_539 ?_
  have T := t_curtain R (xs (nI i + 1).toNatClampNeg) (xs (nI i + 2).toNatClampNeg) (xs (nI i + 3).toNatClampNeg)
  refine wx_callei (va_runV (As := [.int (xs (nI i + 1).toNatClampNeg), .int (xs (nI i + 2).toNatClampNeg), .int (xs (nI i + 3).toNatClampNeg)]) (rest := []) ⟨hx, hb, hml, hown, htsL⟩ (k_X11_curtain l g (xs (nI i + 1).toNatClampNeg) (xs (nI i + 2).toNatClampNeg) (xs (nI i + 3).toNatClampNeg) R.HB R.nx) (cwV 3 htsL gL_law_X11_curtain rfl rfl rfl (by decide +kernel) ⟨Nat.le_of_ble_eq_true rfl, Nat.le_of_ble_eq_true rfl⟩) ⟨wx_Pc.blind, wx_recv hK hX (by decide) sh_X11 rfl, (wx_Pc.pre hK hX).2⟩ rfl rfl hl.1 rfl (lv_room (Nat.le_of_ble_eq_true rfl)) dL_law_540 ⟨by show _ ≤ (600000 : Nat); omega, by show _ ≤ (7302250 : Nat); omega⟩) hS (fun H1 locs1 hX1 hS1 => ?_)
  obtain ⟨z, ez⟩ : ∃ z, z = f_X11_curtain g (xs (nI i + 1).toNatClampNeg) (xs (nI i + 2).toNatClampNeg) (xs (nI i + 3).toNatClampNeg) := ⟨_, rfl⟩
  rw [← ez] at T hX1 ⊢
  clear ez hX hS
  have hX := hX1
  have hS := hS1
  obtain ⟨T1, T2, T3⟩ := T
  have T2 : (f_X12_curtain z.1 (xs (nI i + 1).toNatClampNeg) (xs (nI i + 2).toNatClampNeg) (xs (nI i + 3).toNatClampNeg)).2 = z.2 := T2
  have T3 : m_Rel (K + 10) (f_X12_curtain z.1 (xs (nI i + 1).toNatClampNeg) (xs (nI i + 2).toNatClampNeg) (xs (nI i + 3).toNatClampNeg)).1 := T3
  refine lv_aload_n hx hb dL_law_543 rfl (lv_at hl 1 rfl) ?_
  refine lv_aload_n hx hb dL_law_544 rfl (lv_at hl 3 rfl) ?_
  refine lv_iload_n hx hb dL_law_545 rfl (lv_at hl 0 rfl) ?_
  refine lv_iconst (v := 1) hx hb dL_law_546 (by decide) ?_
  refine lv_iadd hx hb dL_law_547 ?_
  refine va_sld hx hb hXs hbl hbA hS (lc_in hi hL (k := 1) ⟨by decide, by decide⟩) dL_law_548 ?_
  refine lv_aload_n hx hb dL_law_549 rfl (lv_at hl 3 rfl) ?_
  refine lv_iload_n hx hb dL_law_550 rfl (lv_at hl 0 rfl) ?_
  refine lv_iconst (v := 2) hx hb dL_law_551 (by decide) ?_
  refine lv_iadd hx hb dL_law_552 ?_
  refine va_sld hx hb hXs hbl hbA hS (lc_in hi hL (k := 2) ⟨by decide, by decide⟩) dL_law_553 ?_
  refine lv_aload_n hx hb dL_law_554 rfl (lv_at hl 3 rfl) ?_
  refine lv_iload_n hx hb dL_law_555 rfl (lv_at hl 0 rfl) ?_
  refine lv_iconst (v := 3) hx hb dL_law_556 (by decide) ?_
  refine lv_iadd hx hb dL_law_557 ?_
  refine va_sld hx hb hXs hbl hbA hS (lc_in hi hL (k := 3) ⟨by decide, by decide⟩) dL_law_558 ?_
  refine wx_callei (va_runV (As := [.int (xs (nI i + 1).toNatClampNeg), .int (xs (nI i + 2).toNatClampNeg), .int (xs (nI i + 3).toNatClampNeg)]) (rest := [.int z.2]) ⟨hx, hb, hml, hown, htsL⟩ (k_X12_curtain l z.1 (xs (nI i + 1).toNatClampNeg) (xs (nI i + 2).toNatClampNeg) (xs (nI i + 3).toNatClampNeg) (R.MB (T1 65 (by decide))) (by rw [T1 57 (by decide)]; exact R.na)) (cwV 3 htsL gL_law_X12_curtain rfl rfl rfl (by decide +kernel) ⟨Nat.le_of_ble_eq_true rfl, Nat.le_of_ble_eq_true rfl⟩) ⟨wx_Pc.blind, wx_recv hK hX (by decide) sh_X12 rfl, (wx_Pc.pre hK hX).2⟩ rfl rfl hl.1 rfl (lv_room (Nat.le_of_ble_eq_true rfl)) dL_law_559 ⟨by show _ ≤ (600000 : Nat); omega, by show _ ≤ (7302250 : Nat); omega⟩) hS (fun H2 locs2 hX2 hS2 => ?_)
  refine lv_icmp_eq (tgt := 1491) hx hb dL_law_562 (by decide) (fun _ => ?_) (fun c9 => absurd T2.symm c9)
  exact W.widen (k := cells + 4) (n := slots + 4) (by omega) (by omega) (kk _ _ _ _ _ hX2 T3 hS2)
set_option maxHeartbeats 2000000 in
theorem lc_11 : lc_Ok 567 := by
  intro p l e s m below meth c b L xs D cy ad f P g H locs cells slots i K ls C0 hL hK hX hS R hK1 hK9 hi hc1 hc2 hl kk
  obtain ⟨hx, hb, -, hml, hown0, hts, hXs, hbl, -, -⟩ := C0
  have hown : s.vm.findClass RL = some m.cls := hown0
  have hbA : ¬ s.heap.size ≤ b := Nat.not_le.mpr hbl
  have htsL : ∀ w ∈ wsL_law, w.before #[Value.ref b] s = true := fun w h => hts w (wsL_law_in w h)
  refine lv_aload_n hx hb dL_law_567 rfl (lv_at hl 2 rfl) ?_
  refine lv_aload_n hx hb dL_law_568 rfl (lv_at hl 3 rfl) ?_
  refine lv_iload_n hx hb dL_law_569 rfl (lv_at hl 0 rfl) ?_
  refine lv_iconst (v := 1) hx hb dL_law_570 (by decide) ?_
  refine lv_iadd hx hb dL_law_571 ?_
  refine va_sld hx hb hXs hbl hbA hS (lc_in hi hL (k := 1) ⟨by decide, by decide⟩) dL_law_572 ?_
  have T := t_write R (xs (nI i + 1).toNatClampNeg)
  refine wx_callei (va_runV (As := [.int (xs (nI i + 1).toNatClampNeg)]) (rest := []) ⟨hx, hb, hml, hown, htsL⟩ (k_X11_write l g (xs (nI i + 1).toNatClampNeg) R.HB R.nx) (cwV 1 htsL gL_law_X11_write rfl rfl rfl (by decide +kernel) ⟨Nat.le_of_ble_eq_true rfl, Nat.le_of_ble_eq_true rfl⟩) ⟨wx_Pc.blind, wx_recv hK hX (by decide) sh_X11 rfl, (wx_Pc.pre hK hX).2⟩ rfl rfl hl.1 rfl (lv_room (Nat.le_of_ble_eq_true rfl)) dL_law_573 ⟨by show _ ≤ (600000 : Nat); omega, by show _ ≤ (7302250 : Nat); omega⟩) hS (fun H1 locs1 hX1 hS1 => ?_)
  obtain ⟨z, ez⟩ : ∃ z, z = f_X11_write g (xs (nI i + 1).toNatClampNeg) := ⟨_, rfl⟩
  rw [← ez] at T hX1 ⊢
  clear ez hX hS
  have hX := hX1
  have hS := hS1
  obtain ⟨T1, T2, T3⟩ := T
  have T2 : (f_X12_write z.1 (xs (nI i + 1).toNatClampNeg)).2 = z.2 := T2
  have T3 : m_Rel (K + 10) (f_X12_write z.1 (xs (nI i + 1).toNatClampNeg)).1 := T3
  refine lv_aload_n hx hb dL_law_576 rfl (lv_at hl 1 rfl) ?_
  refine lv_aload_n hx hb dL_law_577 rfl (lv_at hl 3 rfl) ?_
  refine lv_iload_n hx hb dL_law_578 rfl (lv_at hl 0 rfl) ?_
  refine lv_iconst (v := 1) hx hb dL_law_579 (by decide) ?_
  refine lv_iadd hx hb dL_law_580 ?_
  refine va_sld hx hb hXs hbl hbA hS (lc_in hi hL (k := 1) ⟨by decide, by decide⟩) dL_law_581 ?_
  refine wx_callei (va_runV (As := [.int (xs (nI i + 1).toNatClampNeg)]) (rest := [.int z.2]) ⟨hx, hb, hml, hown, htsL⟩ (k_X12_write l z.1 (xs (nI i + 1).toNatClampNeg) (R.MB (T1 65 (by decide))) (by rw [T1 57 (by decide)]; exact R.na)) (cwV 1 htsL gL_law_X12_write rfl rfl rfl (by decide +kernel) ⟨Nat.le_of_ble_eq_true rfl, Nat.le_of_ble_eq_true rfl⟩) ⟨wx_Pc.blind, wx_recv hK hX (by decide) sh_X12 rfl, (wx_Pc.pre hK hX).2⟩ rfl rfl hl.1 rfl (lv_room (Nat.le_of_ble_eq_true rfl)) dL_law_582 ⟨by show _ ≤ (600000 : Nat); omega, by show _ ≤ (7302250 : Nat); omega⟩) hS (fun H2 locs2 hX2 hS2 => ?_)
  refine lv_icmp_eq (tgt := 1491) hx hb dL_law_585 (by decide) (fun _ => ?_) (fun c9 => absurd T2.symm c9)
  exact W.widen (k := cells + 4) (n := slots + 4) (by omega) (by omega) (kk _ _ _ _ _ hX2 T3 hS2)
set_option maxHeartbeats 2000000 in
theorem lc_12 : lc_Ok 590 := by
  intro p l e s m below meth c b L xs D cy ad f P g H locs cells slots i K ls C0 hL hK hX hS R hK1 hK9 hi hc1 hc2 hl kk
  obtain ⟨hx, hb, -, hml, hown0, hts, hXs, hbl, -, -⟩ := C0
  have hown : s.vm.findClass RL = some m.cls := hown0
  have hbA : ¬ s.heap.size ≤ b := Nat.not_le.mpr hbl
  have htsL : ∀ w ∈ wsL_law, w.before #[Value.ref b] s = true := fun w h => hts w (wsL_law_in w h)
  refine lv_aload_n hx hb dL_law_590 rfl (lv_at hl 2 rfl) ?_
  refine lv_aload_n hx hb dL_law_591 rfl (lv_at hl 3 rfl) ?_
  refine lv_iload_n hx hb dL_law_592 rfl (lv_at hl 0 rfl) ?_
  refine lv_iconst (v := 1) hx hb dL_law_593 (by decide) ?_
  refine lv_iadd hx hb dL_law_594 ?_
  refine va_sld hx hb hXs hbl hbA hS (lc_in hi hL (k := 1) ⟨by decide, by decide⟩) dL_law_595 ?_
  refine lv_aload_n hx hb dL_law_596 rfl (lv_at hl 3 rfl) ?_
  refine lv_iload_n hx hb dL_law_597 rfl (lv_at hl 0 rfl) ?_
  refine lv_iconst (v := 2) hx hb dL_law_598 (by decide) ?_
  refine lv_iadd hx hb dL_law_599 ?_
  refine va_sld hx hb hXs hbl hbA hS (lc_in hi hL (k := 2) ⟨by decide, by decide⟩) dL_law_600 ?_
  refine wx_callr (va_runV (As := [.int (xs (nI i + 1).toNatClampNeg), .int (xs (nI i + 2).toNatClampNeg)]) (rest := []) ⟨hx, hb, hml, hown, htsL⟩ (k_X11_visitor l g (xs (nI i + 1).toNatClampNeg) (xs (nI i + 2).toNatClampNeg) R.HB) (cwV 2 htsL gL_law_X11_visitor rfl rfl rfl (by decide +kernel) ⟨Nat.le_of_ble_eq_true rfl, Nat.le_of_ble_eq_true rfl⟩) ⟨wx_Pc.blind, wx_recv hK hX (by decide) sh_X11 rfl, (wx_Pc.pre hK hX).2⟩ rfl rfl hl.1 rfl (lv_room (Nat.le_of_ble_eq_true rfl)) dL_law_601 ⟨by show _ ≤ (600000 : Nat); omega, by show _ ≤ (7302250 : Nat); omega⟩) ?_
  refine lv_aload_n hx hb dL_law_604 rfl (lv_at hl 1 rfl) ?_
  refine lv_aload_n hx hb dL_law_605 rfl (lv_at hl 3 rfl) ?_
  refine lv_iload_n hx hb dL_law_606 rfl (lv_at hl 0 rfl) ?_
  refine lv_iconst (v := 1) hx hb dL_law_607 (by decide) ?_
  refine lv_iadd hx hb dL_law_608 ?_
  refine va_sld hx hb hXs hbl hbA hS (lc_in hi hL (k := 1) ⟨by decide, by decide⟩) dL_law_609 ?_
  refine lv_aload_n hx hb dL_law_610 rfl (lv_at hl 3 rfl) ?_
  refine lv_iload_n hx hb dL_law_611 rfl (lv_at hl 0 rfl) ?_
  refine lv_iconst (v := 2) hx hb dL_law_612 (by decide) ?_
  refine lv_iadd hx hb dL_law_613 ?_
  refine va_sld hx hb hXs hbl hbA hS (lc_in hi hL (k := 2) ⟨by decide, by decide⟩) dL_law_614 ?_
  refine wx_callr (va_runV (As := [.int (xs (nI i + 1).toNatClampNeg), .int (xs (nI i + 2).toNatClampNeg)]) (rest := [.int (r_X11_visitor g (xs (nI i + 1).toNatClampNeg) (xs (nI i + 2).toNatClampNeg))]) ⟨hx, hb, hml, hown, htsL⟩ (k_X12_visitor l g (xs (nI i + 1).toNatClampNeg) (xs (nI i + 2).toNatClampNeg) (R.MB rfl)) (cwV 2 htsL gL_law_X12_visitor rfl rfl rfl (by decide +kernel) ⟨Nat.le_of_ble_eq_true rfl, Nat.le_of_ble_eq_true rfl⟩) ⟨wx_Pc.blind, wx_recv hK hX (by decide) sh_X12 rfl, (wx_Pc.pre hK hX).2⟩ rfl rfl hl.1 rfl (lv_room (Nat.le_of_ble_eq_true rfl)) dL_law_615 ⟨by show _ ≤ (600000 : Nat); omega, by show _ ≤ (7302250 : Nat); omega⟩) ?_
  refine lv_icmp_eq (tgt := 1491) hx hb dL_law_618 (by decide) (fun _ => ?_) (fun c9 => absurd (s_visitor R (xs (nI i + 1).toNatClampNeg) (xs (nI i + 2).toNatClampNeg)) c9)
  exact W.widen (k := cells + 4) (n := slots + 4) (by omega) (by omega) (kk f P g H locs hX (R.mono (by omega)) hS)
