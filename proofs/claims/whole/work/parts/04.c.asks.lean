def f_X9_size (g : wx_M) (n : Int32) (ho : Nat) : wx_M × Int32 :=
  let g_1 := e_X8_begin g 10
  let x_3 := (g_1 (ho + 5) n.toNatClampNeg)
  (g_1, x_3)
set_option maxHeartbeats 4000000 in
set_option maxRecDepth 100000 in
theorem k_X9_size (l : Launch) {D : va_G} {cy : Nat → ClassId} {ad : Nat → Nat} {B0 : Nat} {f : wx_F} {P : va_W} {q : Nat} {pi : Nat} {ci : Nat} (g : wx_M) (kd : Int32) (n : Int32) (ho : Nat) (hp : P[pi]? = some (q, (Sum.inr (ci, [Value.int n]) : va_E))) (hv : wx_v kd ci) (hho : wx_H ho) (ht : wx_b (g 55 1) 0 16) (bn : wx_b n 0 3) : Met l yX9_size wsX9_size ({ frames := 1, cells := 0, slots := 0, locals := 21 } : Room) (wx_Pc D cy ad B0 f P g [.ref q, .ref (ad ho), .ref (ad 55)]) (wx_Qe D cy ad B0 f P (f_X9_size g n ho).1 (some (.int (f_X9_size g n ho).2))) 0 0 (fun q => B0 ≤ q) := by
  refine wx_enterE (cc := cX9_size) (maxL := 3) (ty := .int) (own := RX9) (lv := [(0, .ref q), (1, .ref (ad ho)), (2, .ref (ad 55))]) (by decide) rfl rfl (Nat.le_of_ble_eq_true rfl) rfl ?_
  intro p e R s m args below meth c ls Qm hx hb hml hown hts hK hX hS hR hret hl
  have hi_X3 : ∀ w ∈ wsX30, w ∈ wsX9_size := by decide +kernel
  refine lv_aload_n hx hb dX9_size_0 rfl (lv_at hl 2 rfl) ?_
  refine lv_bipush (v := 10) hx hb dX9_size_1 (by decide) ?_
  refine wx_callev (va_runV (As := [.int 10]) (rest := []) ⟨hx, hb, hml, hown, hts⟩ (k_X8_begin l g 10 ht) (cwV 1 hts gX9_size_X8_begin rfl rfl rfl (by decide +kernel) (by rw [hR]; exact ⟨Nat.le_of_ble_eq_true rfl, Nat.le_of_ble_eq_true rfl⟩)) ⟨wx_Pc.blind, wx_recv hK hX (by decide) sh_X8 rfl, (wx_Pc.pre hK hX).2⟩ rfl rfl hl.1 rfl (lv_room (Nat.le_of_ble_eq_true rfl)) dX9_size_3 ⟨Nat.zero_le _, Nat.zero_le _⟩) hS (fun H locs hX hS => ?_)
  obtain ⟨g_1, eg_1, hX⟩ := wx_nm hX
  have bt_2 : wx_b (g_1 55 1) 0 16 := by rw [eg_1]; exact tb_X8_begin ht
  refine lv_aload_n hx hb dX9_size_6 rfl (lv_at hl 1 rfl) ?_
  refine wx_getr (t := ho + 5) (C := RX3) (T := TX3) (N := 15) (ci := 3) (j := 13) hx hb hts hi_X3 hown hK hX hho.l0 (sh_X3_13 hho) rfl (by decide) (hts (.fieldLink RX9 19 "SeenAgain$House" "purses" "[I") (by decide +kernel)) (fun _ h9 => h9) dX9_size_7 ?_
  refine lv_aload_n hx hb dX9_size_10 rfl (lv_at hl 0 rfl) ?_
  refine wx_getV hx hb hts (by decide +kernel) (by decide +kernel) (by decide +kernel) (by decide +kernel) (by decide +kernel) hown hK hX hp hv (hts (.fieldLink RX9 7 "SeenAgain$Visitor" "number" "I") (by decide +kernel)) (fun _ h9 => h9) dX9_size_11 ?_
  refine wx_iald hx hb hK hX hho.l5 (sa_X3_5 hho) (wb_in bn (by decide) (by decide)) dX9_size_14 ?_
  refine lv_topi (fun x_3 ex_3 => ?_)
  exact hret _ _ _ _ _ _ dX9_size_15 rfl hX hS (by subst ex_3 eg_1; simp only [f_X9_size])
theorem tb_X9_size {g : wx_M} {n : Int32} {ho : Nat} (h : wx_b (g 55 1) 0 16) : wx_b ((f_X9_size g n ho).1 55 1) 0 16 := by
  simp only [f_X9_size]
  (repeat' split) <;> (repeat (first | with_reducible assumption | with_reducible apply tb_X8_begin))
def f_X9_mark (g : wx_M) (n : Int32) : wx_M × Int32 :=
  let g_1 := e_X8_begin g 20
  (g_1, n)
set_option maxHeartbeats 4000000 in
set_option maxRecDepth 100000 in
theorem k_X9_mark (l : Launch) {D : va_G} {cy : Nat → ClassId} {ad : Nat → Nat} {B0 : Nat} {f : wx_F} {P : va_W} {q : Nat} {pi : Nat} {ci : Nat} (g : wx_M) (kd : Int32) (n : Int32) (ho : Nat) (hp : P[pi]? = some (q, (Sum.inr (ci, [Value.int n]) : va_E))) (hv : wx_v kd ci) (hho : wx_H ho) (ht : wx_b (g 55 1) 0 16) (bn : wx_b n 0 3) : Met l yX9_mark wsX9_mark ({ frames := 1, cells := 0, slots := 0, locals := 21 } : Room) (wx_Pc D cy ad B0 f P g [.ref q, .ref (ad ho), .ref (ad 55)]) (wx_Qe D cy ad B0 f P (f_X9_mark g n).1 (some (.int (f_X9_mark g n).2))) 0 0 (fun q => B0 ≤ q) := by
  refine wx_enterE (cc := cX9_mark) (maxL := 3) (ty := .int) (own := RX9) (lv := [(0, .ref q), (1, .ref (ad ho)), (2, .ref (ad 55))]) (by decide) rfl rfl (Nat.le_of_ble_eq_true rfl) rfl ?_
  intro p e R s m args below meth c ls Qm hx hb hml hown hts hK hX hS hR hret hl
  refine lv_aload_n hx hb dX9_mark_0 rfl (lv_at hl 2 rfl) ?_
  refine lv_bipush (v := 20) hx hb dX9_mark_1 (by decide) ?_
  refine wx_callev (va_runV (As := [.int 20]) (rest := []) ⟨hx, hb, hml, hown, hts⟩ (k_X8_begin l g 20 ht) (cwV 1 hts gX9_mark_X8_begin rfl rfl rfl (by decide +kernel) (by rw [hR]; exact ⟨Nat.le_of_ble_eq_true rfl, Nat.le_of_ble_eq_true rfl⟩)) ⟨wx_Pc.blind, wx_recv hK hX (by decide) sh_X8 rfl, (wx_Pc.pre hK hX).2⟩ rfl rfl hl.1 rfl (lv_room (Nat.le_of_ble_eq_true rfl)) dX9_mark_3 ⟨Nat.zero_le _, Nat.zero_le _⟩) hS (fun H locs hX hS => ?_)
  obtain ⟨g_1, eg_1, hX⟩ := wx_nm hX
  have bt_2 : wx_b (g_1 55 1) 0 16 := by rw [eg_1]; exact tb_X8_begin ht
  refine lv_aload_n hx hb dX9_mark_6 rfl (lv_at hl 0 rfl) ?_
  refine wx_getV hx hb hts (by decide +kernel) (by decide +kernel) (by decide +kernel) (by decide +kernel) (by decide +kernel) hown hK hX hp hv (hts (.fieldLink RX9 7 "SeenAgain$Visitor" "number" "I") (by decide +kernel)) (fun _ h9 => h9) dX9_mark_7 ?_
  exact hret _ _ _ _ _ _ dX9_mark_10 rfl hX hS (by subst eg_1; simp only [f_X9_mark])
theorem tb_X9_mark {g : wx_M} {n : Int32} (h : wx_b (g 55 1) 0 16) : wx_b ((f_X9_mark g n).1 55 1) 0 16 := by
  simp only [f_X9_mark]
  (repeat' split) <;> (repeat (first | with_reducible assumption | with_reducible apply tb_X8_begin))
def f_X7_mark (g : wx_M) (n : Int32) (ho : Nat) : wx_M × Int32 :=
  let g_1 := e_X8_begin g 21
  let z_3 := f_X9_mark g_1 n
  let x_5 := (z_3.2 + (r_X3_seatsOf z_3.1 ho n))
  (z_3.1, x_5)
set_option maxHeartbeats 4000000 in
set_option maxRecDepth 100000 in
theorem k_X7_mark (l : Launch) {D : va_G} {cy : Nat → ClassId} {ad : Nat → Nat} {B0 : Nat} {f : wx_F} {P : va_W} {q : Nat} {pi : Nat} {ci : Nat} (g : wx_M) (kd : Int32) (n : Int32) (ho : Nat) (hp : P[pi]? = some (q, (Sum.inr (ci, [Value.int n]) : va_E))) (hv : wx_v kd ci) (hho : wx_H ho) (ht : wx_b (g 55 1) 0 16) (bn : wx_b n 0 3) : Met l yX7_mark wsX7_mark ({ frames := 2, cells := 0, slots := 0, locals := 43 } : Room) (wx_Pc D cy ad B0 f P g [.ref q, .ref (ad ho), .ref (ad 55)]) (wx_Qe D cy ad B0 f P (f_X7_mark g n ho).1 (some (.int (f_X7_mark g n ho).2))) 0 0 (fun q => B0 ≤ q) := by
  refine wx_enterE (cc := cX7_mark) (maxL := 3) (ty := .int) (own := RX7) (lv := [(0, .ref q), (1, .ref (ad ho)), (2, .ref (ad 55))]) (by decide) rfl rfl (Nat.le_of_ble_eq_true rfl) rfl ?_
  intro p e R s m args below meth c ls Qm hx hb hml hown hts hK hX hS hR hret hl
  refine lv_aload_n hx hb dX7_mark_0 rfl (lv_at hl 2 rfl) ?_
  refine lv_bipush (v := 21) hx hb dX7_mark_1 (by decide) ?_
  refine wx_callev (va_runV (As := [.int 21]) (rest := []) ⟨hx, hb, hml, hown, hts⟩ (k_X8_begin l g 21 ht) (cwV 1 hts gX7_mark_X8_begin rfl rfl rfl (by decide +kernel) (by rw [hR]; exact ⟨Nat.le_of_ble_eq_true rfl, Nat.le_of_ble_eq_true rfl⟩)) ⟨wx_Pc.blind, wx_recv hK hX (by decide) sh_X8 rfl, (wx_Pc.pre hK hX).2⟩ rfl rfl hl.1 rfl (lv_room (Nat.le_of_ble_eq_true rfl)) dX7_mark_3 ⟨Nat.zero_le _, Nat.zero_le _⟩) hS (fun H locs hX hS => ?_)
  obtain ⟨g_1, eg_1, hX⟩ := wx_nm hX
  have bt_2 : wx_b (g_1 55 1) 0 16 := by rw [eg_1]; exact tb_X8_begin ht
  refine lv_aload_n hx hb dX7_mark_6 rfl (lv_at hl 0 rfl) ?_
  refine lv_aload_n hx hb dX7_mark_7 rfl (lv_at hl 1 rfl) ?_
  refine lv_aload_n hx hb dX7_mark_8 rfl (lv_at hl 2 rfl) ?_
  obtain ⟨Cq, Tq, Nq, hcq⟩ := wx_v.cl hv
  refine wx_callei (va_runSU (As := [.ref (ad ho), .ref (ad 55)]) (rest := []) (hK.1.1 _ _ hcq).2 ⟨hx, hb, hml, hown, hts⟩ (k_X9_mark l g_1 kd n ho hp hv hho (wb_w bt_2 (by decide) (by decide)) bn) (va_cwSU 2 hts gX7_mark_X9_mark_s21 rfl rfl rfl (by decide +kernel) (by rw [hR]; exact ⟨Nat.le_of_ble_eq_true rfl, Nat.le_of_ble_eq_true rfl⟩)) ⟨wx_Pc.blind, wx_recvP hK hX hp hcq, (wx_Pc.pre hK hX).2⟩ rfl rfl hl.1 rfl (lv_room (Nat.le_of_ble_eq_true rfl)) dX7_mark_9 ⟨Nat.zero_le _, Nat.zero_le _⟩) hS (fun H locs hX hS => ?_)
  obtain ⟨z_3, ez_3⟩ : ∃ z, z = f_X9_mark g_1 n := ⟨_, rfl⟩
  rw [← ez_3] at hX; rw [← ez_3]
  have bt_4 : wx_b (z_3.1 55 1) 0 16 := by rw [ez_3]; exact tb_X9_mark bt_2
  refine lv_aload_n hx hb dX7_mark_12 rfl (lv_at hl 1 rfl) ?_
  refine lv_aload_n hx hb dX7_mark_13 rfl (lv_at hl 0 rfl) ?_
  refine wx_getV hx hb hts (by decide +kernel) (by decide +kernel) (by decide +kernel) (by decide +kernel) (by decide +kernel) hown hK hX hp hv (hts (.fieldLink RX7 22 "SeenAgain$Tourist" "number" "I") (by decide +kernel)) (u_same (hts (.sameField "SeenAgain$Tourist" "SeenAgain$Visitor" "number" "I") (by decide +kernel))) dX7_mark_14 ?_
  refine wx_callr (va_runV (As := [.int n]) (rest := [.int z_3.2]) ⟨hx, hb, hml, hown, hts⟩ (k_X3_seatsOf l z_3.1 ho n hho) (cwV 1 hts gX7_mark_X3_seatsOf rfl rfl rfl (by decide +kernel) (by rw [hR]; exact ⟨Nat.le_of_ble_eq_true rfl, Nat.le_of_ble_eq_true rfl⟩)) ⟨wx_Pc.blind, wx_recv hK hX hho.l0 (sh_X3 hho) rfl, (wx_Pc.pre hK hX).2⟩ rfl rfl hl.1 rfl (lv_room (Nat.le_of_ble_eq_true rfl)) dX7_mark_17 ⟨Nat.zero_le _, Nat.zero_le _⟩) ?_
  refine lv_iadd hx hb dX7_mark_20 ?_
  refine lv_topi (fun x_5 ex_5 => ?_)
  exact hret _ _ _ _ _ _ dX7_mark_21 rfl hX hS (by subst ex_5 ez_3 eg_1; simp only [f_X7_mark])
theorem tb_X7_mark {g : wx_M} {n : Int32} {ho : Nat} (h : wx_b (g 55 1) 0 16) : wx_b ((f_X7_mark g n ho).1 55 1) 0 16 := by
  simp only [f_X7_mark]
  (repeat' split) <;> (repeat (first | with_reducible assumption | with_reducible apply tb_X8_begin | with_reducible apply tb_X9_mark))
def f_X1_mark (g : wx_M) (n : Int32) (ho : Nat) : wx_M × Int32 :=
  let g_1 := e_X8_begin g 22
  let z_3 := f_X7_mark g_1 n ho
  let x_5 := (z_3.2 - 1000)
  (z_3.1, x_5)
set_option maxHeartbeats 4000000 in
set_option maxRecDepth 100000 in
theorem k_X1_mark (l : Launch) {D : va_G} {cy : Nat → ClassId} {ad : Nat → Nat} {B0 : Nat} {f : wx_F} {P : va_W} {q : Nat} {pi : Nat} {ci : Nat} (g : wx_M) (kd : Int32) (n : Int32) (ho : Nat) (hp : P[pi]? = some (q, (Sum.inr (ci, [Value.int n]) : va_E))) (hv : wx_v kd ci) (hho : wx_H ho) (ht : wx_b (g 55 1) 0 16) (bn : wx_b n 0 3) : Met l yX1_mark wsX1_mark ({ frames := 3, cells := 0, slots := 0, locals := 65 } : Room) (wx_Pc D cy ad B0 f P g [.ref q, .ref (ad ho), .ref (ad 55)]) (wx_Qe D cy ad B0 f P (f_X1_mark g n ho).1 (some (.int (f_X1_mark g n ho).2))) 0 0 (fun q => B0 ≤ q) := by
  refine wx_enterE (cc := cX1_mark) (maxL := 3) (ty := .int) (own := RX1) (lv := [(0, .ref q), (1, .ref (ad ho)), (2, .ref (ad 55))]) (by decide) rfl rfl (Nat.le_of_ble_eq_true rfl) rfl ?_
  intro p e R s m args below meth c ls Qm hx hb hml hown hts hK hX hS hR hret hl
  refine lv_aload_n hx hb dX1_mark_0 rfl (lv_at hl 2 rfl) ?_
  refine lv_bipush (v := 22) hx hb dX1_mark_1 (by decide) ?_
  refine wx_callev (va_runV (As := [.int 22]) (rest := []) ⟨hx, hb, hml, hown, hts⟩ (k_X8_begin l g 22 ht) (cwV 1 hts gX1_mark_X8_begin rfl rfl rfl (by decide +kernel) (by rw [hR]; exact ⟨Nat.le_of_ble_eq_true rfl, Nat.le_of_ble_eq_true rfl⟩)) ⟨wx_Pc.blind, wx_recv hK hX (by decide) sh_X8 rfl, (wx_Pc.pre hK hX).2⟩ rfl rfl hl.1 rfl (lv_room (Nat.le_of_ble_eq_true rfl)) dX1_mark_3 ⟨Nat.zero_le _, Nat.zero_le _⟩) hS (fun H locs hX hS => ?_)
  obtain ⟨g_1, eg_1, hX⟩ := wx_nm hX
  have bt_2 : wx_b (g_1 55 1) 0 16 := by rw [eg_1]; exact tb_X8_begin ht
  refine lv_aload_n hx hb dX1_mark_6 rfl (lv_at hl 0 rfl) ?_
  refine lv_aload_n hx hb dX1_mark_7 rfl (lv_at hl 1 rfl) ?_
  refine lv_aload_n hx hb dX1_mark_8 rfl (lv_at hl 2 rfl) ?_
  obtain ⟨Cq, Tq, Nq, hcq⟩ := wx_v.cl hv
  refine wx_callei (va_runSU (As := [.ref (ad ho), .ref (ad 55)]) (rest := []) (hK.1.1 _ _ hcq).2 ⟨hx, hb, hml, hown, hts⟩ (k_X7_mark l g_1 kd n ho hp hv hho (wb_w bt_2 (by decide) (by decide)) bn) (va_cwSU 2 hts gX1_mark_X7_mark_s14 rfl rfl rfl (by decide +kernel) (by rw [hR]; exact ⟨Nat.le_of_ble_eq_true rfl, Nat.le_of_ble_eq_true rfl⟩)) ⟨wx_Pc.blind, wx_recvP hK hX hp hcq, (wx_Pc.pre hK hX).2⟩ rfl rfl hl.1 rfl (lv_room (Nat.le_of_ble_eq_true rfl)) dX1_mark_9 ⟨Nat.zero_le _, Nat.zero_le _⟩) hS (fun H locs hX hS => ?_)
  obtain ⟨z_3, ez_3⟩ : ∃ z, z = f_X7_mark g_1 n ho := ⟨_, rfl⟩
  rw [← ez_3] at hX; rw [← ez_3]
  have bt_4 : wx_b (z_3.1 55 1) 0 16 := by rw [ez_3]; exact tb_X7_mark bt_2
  refine lv_sipush (v := 1000) hx hb dX1_mark_12 (by decide) ?_
  refine lv_isub hx hb dX1_mark_15 ?_
  refine lv_topi (fun x_5 ex_5 => ?_)
  exact hret _ _ _ _ _ _ dX1_mark_16 rfl hX hS (by subst ex_5 ez_3 eg_1; simp only [f_X1_mark])
theorem tb_X1_mark {g : wx_M} {n : Int32} {ho : Nat} (h : wx_b (g 55 1) 0 16) : wx_b ((f_X1_mark g n ho).1 55 1) 0 16 := by
  simp only [f_X1_mark]
  (repeat' split) <;> (repeat (first | with_reducible assumption | with_reducible apply tb_X8_begin | with_reducible apply tb_X7_mark))
def f_X4_mark (g : wx_M) (n : Int32) (ho : Nat) : wx_M × Int32 :=
  let g_1 := e_X8_begin g 24
  let z_3 := f_X7_mark g_1 n ho
  let x_5 := (2 * z_3.2)
  (z_3.1, x_5)
set_option maxHeartbeats 4000000 in
set_option maxRecDepth 100000 in
theorem k_X4_mark (l : Launch) {D : va_G} {cy : Nat → ClassId} {ad : Nat → Nat} {B0 : Nat} {f : wx_F} {P : va_W} {q : Nat} {pi : Nat} {ci : Nat} (g : wx_M) (kd : Int32) (n : Int32) (ho : Nat) (hp : P[pi]? = some (q, (Sum.inr (ci, [Value.int n]) : va_E))) (hv : wx_v kd ci) (hho : wx_H ho) (ht : wx_b (g 55 1) 0 16) (bn : wx_b n 0 3) : Met l yX4_mark wsX4_mark ({ frames := 3, cells := 0, slots := 0, locals := 65 } : Room) (wx_Pc D cy ad B0 f P g [.ref q, .ref (ad ho), .ref (ad 55)]) (wx_Qe D cy ad B0 f P (f_X4_mark g n ho).1 (some (.int (f_X4_mark g n ho).2))) 0 0 (fun q => B0 ≤ q) := by
  refine wx_enterE (cc := cX4_mark) (maxL := 3) (ty := .int) (own := RX4) (lv := [(0, .ref q), (1, .ref (ad ho)), (2, .ref (ad 55))]) (by decide) rfl rfl (Nat.le_of_ble_eq_true rfl) rfl ?_
  intro p e R s m args below meth c ls Qm hx hb hml hown hts hK hX hS hR hret hl
  refine lv_aload_n hx hb dX4_mark_0 rfl (lv_at hl 2 rfl) ?_
  refine lv_bipush (v := 24) hx hb dX4_mark_1 (by decide) ?_
  refine wx_callev (va_runV (As := [.int 24]) (rest := []) ⟨hx, hb, hml, hown, hts⟩ (k_X8_begin l g 24 ht) (cwV 1 hts gX4_mark_X8_begin rfl rfl rfl (by decide +kernel) (by rw [hR]; exact ⟨Nat.le_of_ble_eq_true rfl, Nat.le_of_ble_eq_true rfl⟩)) ⟨wx_Pc.blind, wx_recv hK hX (by decide) sh_X8 rfl, (wx_Pc.pre hK hX).2⟩ rfl rfl hl.1 rfl (lv_room (Nat.le_of_ble_eq_true rfl)) dX4_mark_3 ⟨Nat.zero_le _, Nat.zero_le _⟩) hS (fun H locs hX hS => ?_)
  obtain ⟨g_1, eg_1, hX⟩ := wx_nm hX
  have bt_2 : wx_b (g_1 55 1) 0 16 := by rw [eg_1]; exact tb_X8_begin ht
  refine lv_iconst (v := 2) hx hb dX4_mark_6 (by decide) ?_
  refine lv_aload_n hx hb dX4_mark_7 rfl (lv_at hl 0 rfl) ?_
  refine lv_aload_n hx hb dX4_mark_8 rfl (lv_at hl 1 rfl) ?_
  refine lv_aload_n hx hb dX4_mark_9 rfl (lv_at hl 2 rfl) ?_
  obtain ⟨Cq, Tq, Nq, hcq⟩ := wx_v.cl hv
  refine wx_callei (va_runSU (As := [.ref (ad ho), .ref (ad 55)]) (rest := [.int 2]) (hK.1.1 _ _ hcq).2 ⟨hx, hb, hml, hown, hts⟩ (k_X7_mark l g_1 kd n ho hp hv hho (wb_w bt_2 (by decide) (by decide)) bn) (va_cwSU 2 hts gX4_mark_X7_mark_s18 rfl rfl rfl (by decide +kernel) (by rw [hR]; exact ⟨Nat.le_of_ble_eq_true rfl, Nat.le_of_ble_eq_true rfl⟩)) ⟨wx_Pc.blind, wx_recvP hK hX hp hcq, (wx_Pc.pre hK hX).2⟩ rfl rfl hl.1 rfl (lv_room (Nat.le_of_ble_eq_true rfl)) dX4_mark_10 ⟨Nat.zero_le _, Nat.zero_le _⟩) hS (fun H locs hX hS => ?_)
  obtain ⟨z_3, ez_3⟩ : ∃ z, z = f_X7_mark g_1 n ho := ⟨_, rfl⟩
  rw [← ez_3] at hX; rw [← ez_3]
  have bt_4 : wx_b (z_3.1 55 1) 0 16 := by rw [ez_3]; exact tb_X7_mark bt_2
  refine lv_imul hx hb dX4_mark_13 ?_
  refine lv_topi (fun x_5 ex_5 => ?_)
  exact hret _ _ _ _ _ _ dX4_mark_14 rfl hX hS (by subst ex_5 ez_3 eg_1; simp only [f_X4_mark])
theorem tb_X4_mark {g : wx_M} {n : Int32} {ho : Nat} (h : wx_b (g 55 1) 0 16) : wx_b ((f_X4_mark g n ho).1 55 1) 0 16 := by
  simp only [f_X4_mark]
  (repeat' split) <;> (repeat (first | with_reducible assumption | with_reducible apply tb_X8_begin | with_reducible apply tb_X7_mark))
def f_X7_size (g : wx_M) (kd : Int32) (n : Int32) (ho : Nat) : wx_M × Int32 :=
  let g_1 := e_X8_begin g 11
  let z_3 := f_X9_size g_1 n ho
  if kd = 1 then
    let z_7 := f_X7_mark z_3.1 n ho
    let x_9 := (z_3.2 + z_7.2)
    (z_7.1, x_9)
  else
    if kd = 2 then
      let z_12 := f_X4_mark z_3.1 n ho
      let x_14 := (z_3.2 + z_12.2)
      (z_12.1, x_14)
    else
      let z_17 := f_X1_mark z_3.1 n ho
      let x_19 := (z_3.2 + z_17.2)
      (z_17.1, x_19)
set_option maxHeartbeats 4000000 in
set_option maxRecDepth 100000 in
theorem k_X7_size (l : Launch) {D : va_G} {cy : Nat → ClassId} {ad : Nat → Nat} {B0 : Nat} {f : wx_F} {P : va_W} {q : Nat} {pi : Nat} {ci : Nat} (g : wx_M) (kd : Int32) (n : Int32) (ho : Nat) (hp : P[pi]? = some (q, (Sum.inr (ci, [Value.int n]) : va_E))) (hv : wx_v kd ci) (hho : wx_H ho) (hkk : kd = 1 ∨ kd = 2 ∨ kd = 3) (ht : wx_b (g 55 1) 0 16) (bn : wx_b n 0 3) : Met l yX7_size wsX7_size ({ frames := 4, cells := 0, slots := 0, locals := 87 } : Room) (wx_Pc D cy ad B0 f P g [.ref q, .ref (ad ho), .ref (ad 55)]) (wx_Qe D cy ad B0 f P (f_X7_size g kd n ho).1 (some (.int (f_X7_size g kd n ho).2))) 0 0 (fun q => B0 ≤ q) := by
  refine wx_enterE (cc := cX7_size) (maxL := 4) (ty := .int) (own := RX7) (lv := [(0, .ref q), (1, .ref (ad ho)), (2, .ref (ad 55))]) (by decide) rfl rfl (Nat.le_of_ble_eq_true rfl) rfl ?_
  intro p e R s m args below meth c ls Qm hx hb hml hown hts hK hX hS hR hret hl
  refine lv_aload_n hx hb dX7_size_0 rfl (lv_at hl 2 rfl) ?_
  refine lv_bipush (v := 11) hx hb dX7_size_1 (by decide) ?_
  refine wx_callev (va_runV (As := [.int 11]) (rest := []) ⟨hx, hb, hml, hown, hts⟩ (k_X8_begin l g 11 ht) (cwV 1 hts gX7_size_X8_begin rfl rfl rfl (by decide +kernel) (by rw [hR]; exact ⟨Nat.le_of_ble_eq_true rfl, Nat.le_of_ble_eq_true rfl⟩)) ⟨wx_Pc.blind, wx_recv hK hX (by decide) sh_X8 rfl, (wx_Pc.pre hK hX).2⟩ rfl rfl hl.1 rfl (lv_room (Nat.le_of_ble_eq_true rfl)) dX7_size_3 ⟨Nat.zero_le _, Nat.zero_le _⟩) hS (fun H locs hX hS => ?_)
  obtain ⟨g_1, eg_1, hX⟩ := wx_nm hX
  have bt_2 : wx_b (g_1 55 1) 0 16 := by rw [eg_1]; exact tb_X8_begin ht
  refine lv_aload_n hx hb dX7_size_6 rfl (lv_at hl 0 rfl) ?_
  refine lv_aload_n hx hb dX7_size_7 rfl (lv_at hl 1 rfl) ?_
  refine lv_aload_n hx hb dX7_size_8 rfl (lv_at hl 2 rfl) ?_
  obtain ⟨Cq, Tq, Nq, hcq⟩ := wx_v.cl hv
  refine wx_callei (va_runSU (As := [.ref (ad ho), .ref (ad 55)]) (rest := []) (hK.1.1 _ _ hcq).2 ⟨hx, hb, hml, hown, hts⟩ (k_X9_size l g_1 kd n ho hp hv hho (wb_w bt_2 (by decide) (by decide)) bn) (va_cwSU 2 hts gX7_size_X9_size_s14 rfl rfl rfl (by decide +kernel) (by rw [hR]; exact ⟨Nat.le_of_ble_eq_true rfl, Nat.le_of_ble_eq_true rfl⟩)) ⟨wx_Pc.blind, wx_recvP hK hX hp hcq, (wx_Pc.pre hK hX).2⟩ rfl rfl hl.1 rfl (lv_room (Nat.le_of_ble_eq_true rfl)) dX7_size_9 ⟨Nat.zero_le _, Nat.zero_le _⟩) hS (fun H locs hX hS => ?_)
  obtain ⟨z_3, ez_3⟩ : ∃ z, z = f_X9_size g_1 n ho := ⟨_, rfl⟩
  rw [← ez_3] at hX; rw [← ez_3]
  have bt_4 : wx_b (z_3.1 55 1) 0 16 := by rw [ez_3]; exact tb_X9_size bt_2
  refine lv_istore_n (lv' := [(3, .int z_3.2), (0, .ref q), (1, .ref (ad ho)), (2, .ref (ad 55))]) hx hb dX7_size_12 rfl hl (by decide) rfl (fun ls hl => ?_)
  refine lv_iload_n hx hb dX7_size_13 rfl (lv_at hl 0 rfl) ?_
  refine lv_aload_n hx hb dX7_size_14 rfl (lv_at hl 1 rfl) ?_
  refine lv_aload_n hx hb dX7_size_15 rfl (lv_at hl 2 rfl) ?_
  refine lv_aload_n hx hb dX7_size_16 rfl (lv_at hl 3 rfl) ?_
  have hk_5 := hv
  rcases hk_5 with ⟨hkd, rfl⟩ | ⟨hkd, rfl⟩ | ⟨hkd, rfl⟩ | ⟨hkd, rfl⟩ | ⟨hkd, rfl⟩
  · have c_6 : kd = 1 := hkd
    refine wx_callei (va_runV (As := [.ref (ad ho), .ref (ad 55)]) (rest := [.int z_3.2]) ⟨hx, hb, hml, hown, hts⟩ (k_X7_mark l z_3.1 kd n ho hp hv hho (wb_w bt_4 (by decide) (by decide)) bn) (cwV 2 hts gX7_size_X7_mark rfl rfl rfl (by decide +kernel) (by rw [hR]; exact ⟨Nat.le_of_ble_eq_true rfl, Nat.le_of_ble_eq_true rfl⟩)) ⟨wx_Pc.blind, wx_recvP hK hX hp (show vwCl[7]? = some (RX7, TX7, 1) from rfl), (wx_Pc.pre hK hX).2⟩ rfl rfl hl.1 rfl (lv_room (Nat.le_of_ble_eq_true rfl)) dX7_size_17 ⟨Nat.zero_le _, Nat.zero_le _⟩) hS (fun H locs hX hS => ?_)
    obtain ⟨z_7, ez_7⟩ : ∃ z, z = f_X7_mark z_3.1 n ho := ⟨_, rfl⟩
    rw [← ez_7] at hX; rw [← ez_7]
    have bt_8 : wx_b (z_7.1 55 1) 0 16 := by rw [ez_7]; exact tb_X7_mark bt_4
    refine lv_iadd hx hb dX7_size_20 ?_
    refine lv_topi (fun x_9 ex_9 => ?_)
    exact hret _ _ _ _ _ _ dX7_size_21 rfl hX hS (by subst ex_9 ez_7 ez_3 eg_1; simp only [f_X7_size, if_pos c_6])
  · have c_10 : ¬ kd = 1 := by rw [hkd]; decide
    have c_11 : kd = 2 := hkd
    refine wx_callei (va_runU (As := [.ref (ad ho), .ref (ad 55)]) (rest := [.int z_3.2]) ⟨hx, hb, hml, hown, hts⟩ (k_X4_mark l z_3.1 kd n ho hp hv hho (wb_w bt_4 (by decide) (by decide)) bn) (va_cwO 2 hts gX7_size_X4_mark_u18X4 rfl rfl rfl (show Cond.code yX7_mark cX7_mark 3 (some .int) ∈ wsX7_size by decide +kernel) (by decide +kernel) (by rw [hR]; exact ⟨Nat.le_of_ble_eq_true rfl, Nat.le_of_ble_eq_true rfl⟩)) ⟨wx_Pc.blind, wx_recvP hK hX hp (show vwCl[4]? = some (RX4, TX4, 1) from rfl), (wx_Pc.pre hK hX).2⟩ rfl rfl hl.1 rfl (lv_room (Nat.le_of_ble_eq_true rfl)) dX7_size_17 ⟨Nat.zero_le _, Nat.zero_le _⟩) hS (fun H locs hX hS => ?_)
    obtain ⟨z_12, ez_12⟩ : ∃ z, z = f_X4_mark z_3.1 n ho := ⟨_, rfl⟩
    rw [← ez_12] at hX; rw [← ez_12]
    have bt_13 : wx_b (z_12.1 55 1) 0 16 := by rw [ez_12]; exact tb_X4_mark bt_4
    refine lv_iadd hx hb dX7_size_20 ?_
    refine lv_topi (fun x_14 ex_14 => ?_)
    exact hret _ _ _ _ _ _ dX7_size_21 rfl hX hS (by subst ex_14 ez_12 ez_3 eg_1; simp only [f_X7_size, if_neg c_10, if_pos c_11])
  · have c_15 : ¬ kd = 1 := by rw [hkd]; decide
    have c_16 : ¬ kd = 2 := by rw [hkd]; decide
    refine wx_callei (va_runU (As := [.ref (ad ho), .ref (ad 55)]) (rest := [.int z_3.2]) ⟨hx, hb, hml, hown, hts⟩ (k_X1_mark l z_3.1 kd n ho hp hv hho (wb_w bt_4 (by decide) (by decide)) bn) (va_cwO 2 hts gX7_size_X1_mark_u18X1 rfl rfl rfl (show Cond.code yX7_mark cX7_mark 3 (some .int) ∈ wsX7_size by decide +kernel) (by decide +kernel) (by rw [hR]; exact ⟨Nat.le_of_ble_eq_true rfl, Nat.le_of_ble_eq_true rfl⟩)) ⟨wx_Pc.blind, wx_recvP hK hX hp (show vwCl[1]? = some (RX1, TX1, 1) from rfl), (wx_Pc.pre hK hX).2⟩ rfl rfl hl.1 rfl (lv_room (Nat.le_of_ble_eq_true rfl)) dX7_size_17 ⟨Nat.zero_le _, Nat.zero_le _⟩) hS (fun H locs hX hS => ?_)
    obtain ⟨z_17, ez_17⟩ : ∃ z, z = f_X1_mark z_3.1 n ho := ⟨_, rfl⟩
    rw [← ez_17] at hX; rw [← ez_17]
    have bt_18 : wx_b (z_17.1 55 1) 0 16 := by rw [ez_17]; exact tb_X1_mark bt_4
    refine lv_iadd hx hb dX7_size_20 ?_
    refine lv_topi (fun x_19 ex_19 => ?_)
    exact hret _ _ _ _ _ _ dX7_size_21 rfl hX hS (by subst ex_19 ez_17 ez_3 eg_1; simp only [f_X7_size, if_neg c_15, if_neg c_16])
  · exact absurd hkk (by rw [hkd]; decide)
  · exact absurd hkk (by rw [hkd]; decide)
theorem tb_X7_size {g : wx_M} {kd : Int32} {n : Int32} {ho : Nat} (h : wx_b (g 55 1) 0 16) : wx_b ((f_X7_size g kd n ho).1 55 1) 0 16 := by
  simp only [f_X7_size]
  (repeat' split) <;> (repeat (first | with_reducible assumption | with_reducible apply tb_X8_begin | with_reducible apply tb_X9_size | with_reducible apply tb_X7_mark | with_reducible apply tb_X1_mark | with_reducible apply tb_X4_mark))
def f_X4_size (g : wx_M) (kd : Int32) (n : Int32) (ho : Nat) : wx_M × Int32 :=
  let g_1 := e_X8_begin g 12
  let z_3 := f_X7_size g_1 kd n ho
  let x_5 := (-z_3.2)
  (z_3.1, x_5)
set_option maxHeartbeats 4000000 in
set_option maxRecDepth 100000 in
theorem k_X4_size (l : Launch) {D : va_G} {cy : Nat → ClassId} {ad : Nat → Nat} {B0 : Nat} {f : wx_F} {P : va_W} {q : Nat} {pi : Nat} {ci : Nat} (g : wx_M) (kd : Int32) (n : Int32) (ho : Nat) (hp : P[pi]? = some (q, (Sum.inr (ci, [Value.int n]) : va_E))) (hv : wx_v kd ci) (hho : wx_H ho) (hkk : kd = 2) (ht : wx_b (g 55 1) 0 16) (bn : wx_b n 0 3) : Met l yX4_size wsX4_size ({ frames := 5, cells := 0, slots := 0, locals := 110 } : Room) (wx_Pc D cy ad B0 f P g [.ref q, .ref (ad ho), .ref (ad 55)]) (wx_Qe D cy ad B0 f P (f_X4_size g kd n ho).1 (some (.int (f_X4_size g kd n ho).2))) 0 0 (fun q => B0 ≤ q) := by
  refine wx_enterE (cc := cX4_size) (maxL := 3) (ty := .int) (own := RX4) (lv := [(0, .ref q), (1, .ref (ad ho)), (2, .ref (ad 55))]) (by decide) rfl rfl (Nat.le_of_ble_eq_true rfl) rfl ?_
  intro p e R s m args below meth c ls Qm hx hb hml hown hts hK hX hS hR hret hl
  refine lv_aload_n hx hb dX4_size_0 rfl (lv_at hl 2 rfl) ?_
  refine lv_bipush (v := 12) hx hb dX4_size_1 (by decide) ?_
  refine wx_callev (va_runV (As := [.int 12]) (rest := []) ⟨hx, hb, hml, hown, hts⟩ (k_X8_begin l g 12 ht) (cwV 1 hts gX4_size_X8_begin rfl rfl rfl (by decide +kernel) (by rw [hR]; exact ⟨Nat.le_of_ble_eq_true rfl, Nat.le_of_ble_eq_true rfl⟩)) ⟨wx_Pc.blind, wx_recv hK hX (by decide) sh_X8 rfl, (wx_Pc.pre hK hX).2⟩ rfl rfl hl.1 rfl (lv_room (Nat.le_of_ble_eq_true rfl)) dX4_size_3 ⟨Nat.zero_le _, Nat.zero_le _⟩) hS (fun H locs hX hS => ?_)
  obtain ⟨g_1, eg_1, hX⟩ := wx_nm hX
  have bt_2 : wx_b (g_1 55 1) 0 16 := by rw [eg_1]; exact tb_X8_begin ht
  refine lv_aload_n hx hb dX4_size_6 rfl (lv_at hl 0 rfl) ?_
  refine lv_aload_n hx hb dX4_size_7 rfl (lv_at hl 1 rfl) ?_
  refine lv_aload_n hx hb dX4_size_8 rfl (lv_at hl 2 rfl) ?_
  obtain ⟨Cq, Tq, Nq, hcq⟩ := wx_v.cl hv
  refine wx_callei (va_runSU (As := [.ref (ad ho), .ref (ad 55)]) (rest := []) (hK.1.1 _ _ hcq).2 ⟨hx, hb, hml, hown, hts⟩ (k_X7_size l g_1 kd n ho hp hv hho (by first | exact hkk | (rw [hkk]; decide)) (wb_w bt_2 (by decide) (by decide)) bn) (va_cwSU 2 hts gX4_size_X7_size_s14 rfl rfl rfl (by decide +kernel) (by rw [hR]; exact ⟨Nat.le_of_ble_eq_true rfl, Nat.le_of_ble_eq_true rfl⟩)) ⟨wx_Pc.blind, wx_recvP hK hX hp hcq, (wx_Pc.pre hK hX).2⟩ rfl rfl hl.1 rfl (lv_room (Nat.le_of_ble_eq_true rfl)) dX4_size_9 ⟨Nat.zero_le _, Nat.zero_le _⟩) hS (fun H locs hX hS => ?_)
  obtain ⟨z_3, ez_3⟩ : ∃ z, z = f_X7_size g_1 kd n ho := ⟨_, rfl⟩
  rw [← ez_3] at hX; rw [← ez_3]
  have bt_4 : wx_b (z_3.1 55 1) 0 16 := by rw [ez_3]; exact tb_X7_size bt_2
  refine lv_ineg hx hb dX4_size_12 ?_
  refine lv_topi (fun x_5 ex_5 => ?_)
  exact hret _ _ _ _ _ _ dX4_size_13 rfl hX hS (by subst ex_5 ez_3 eg_1; simp only [f_X4_size])
theorem tb_X4_size {g : wx_M} {kd : Int32} {n : Int32} {ho : Nat} (h : wx_b (g 55 1) 0 16) : wx_b ((f_X4_size g kd n ho).1 55 1) 0 16 := by
  simp only [f_X4_size]
  (repeat' split) <;> (repeat (first | with_reducible assumption | with_reducible apply tb_X8_begin | with_reducible apply tb_X7_size))
def f_X10_size (g : wx_M) (n : Int32) (ho : Nat) : wx_M × Int32 :=
  let g_1 := e_X8_begin g 13
  let z_3 := f_X9_size g_1 n ho
  let x_5 := (z_3.2 - 100)
  (z_3.1, x_5)
set_option maxHeartbeats 4000000 in
set_option maxRecDepth 100000 in
theorem k_X10_size (l : Launch) {D : va_G} {cy : Nat → ClassId} {ad : Nat → Nat} {B0 : Nat} {f : wx_F} {P : va_W} {q : Nat} {pi : Nat} {ci : Nat} (g : wx_M) (kd : Int32) (n : Int32) (ho : Nat) (hp : P[pi]? = some (q, (Sum.inr (ci, [Value.int n]) : va_E))) (hv : wx_v kd ci) (hho : wx_H ho) (ht : wx_b (g 55 1) 0 16) (bn : wx_b n 0 3) : Met l yX10_size wsX10_size ({ frames := 2, cells := 0, slots := 0, locals := 43 } : Room) (wx_Pc D cy ad B0 f P g [.ref q, .ref (ad ho), .ref (ad 55)]) (wx_Qe D cy ad B0 f P (f_X10_size g n ho).1 (some (.int (f_X10_size g n ho).2))) 0 0 (fun q => B0 ≤ q) := by
  refine wx_enterE (cc := cX10_size) (maxL := 3) (ty := .int) (own := RX10) (lv := [(0, .ref q), (1, .ref (ad ho)), (2, .ref (ad 55))]) (by decide) rfl rfl (Nat.le_of_ble_eq_true rfl) rfl ?_
  intro p e R s m args below meth c ls Qm hx hb hml hown hts hK hX hS hR hret hl
  refine lv_aload_n hx hb dX10_size_0 rfl (lv_at hl 2 rfl) ?_
  refine lv_bipush (v := 13) hx hb dX10_size_1 (by decide) ?_
  refine wx_callev (va_runV (As := [.int 13]) (rest := []) ⟨hx, hb, hml, hown, hts⟩ (k_X8_begin l g 13 ht) (cwV 1 hts gX10_size_X8_begin rfl rfl rfl (by decide +kernel) (by rw [hR]; exact ⟨Nat.le_of_ble_eq_true rfl, Nat.le_of_ble_eq_true rfl⟩)) ⟨wx_Pc.blind, wx_recv hK hX (by decide) sh_X8 rfl, (wx_Pc.pre hK hX).2⟩ rfl rfl hl.1 rfl (lv_room (Nat.le_of_ble_eq_true rfl)) dX10_size_3 ⟨Nat.zero_le _, Nat.zero_le _⟩) hS (fun H locs hX hS => ?_)
  obtain ⟨g_1, eg_1, hX⟩ := wx_nm hX
  have bt_2 : wx_b (g_1 55 1) 0 16 := by rw [eg_1]; exact tb_X8_begin ht
  refine lv_aload_n hx hb dX10_size_6 rfl (lv_at hl 0 rfl) ?_
  refine lv_aload_n hx hb dX10_size_7 rfl (lv_at hl 1 rfl) ?_
  refine lv_aload_n hx hb dX10_size_8 rfl (lv_at hl 2 rfl) ?_
  obtain ⟨Cq, Tq, Nq, hcq⟩ := wx_v.cl hv
  refine wx_callei (va_runSU (As := [.ref (ad ho), .ref (ad 55)]) (rest := []) (hK.1.1 _ _ hcq).2 ⟨hx, hb, hml, hown, hts⟩ (k_X9_size l g_1 kd n ho hp hv hho (wb_w bt_2 (by decide) (by decide)) bn) (va_cwSU 2 hts gX10_size_X9_size_s20 rfl rfl rfl (by decide +kernel) (by rw [hR]; exact ⟨Nat.le_of_ble_eq_true rfl, Nat.le_of_ble_eq_true rfl⟩)) ⟨wx_Pc.blind, wx_recvP hK hX hp hcq, (wx_Pc.pre hK hX).2⟩ rfl rfl hl.1 rfl (lv_room (Nat.le_of_ble_eq_true rfl)) dX10_size_9 ⟨Nat.zero_le _, Nat.zero_le _⟩) hS (fun H locs hX hS => ?_)
  obtain ⟨z_3, ez_3⟩ : ∃ z, z = f_X9_size g_1 n ho := ⟨_, rfl⟩
  rw [← ez_3] at hX; rw [← ez_3]
  have bt_4 : wx_b (z_3.1 55 1) 0 16 := by rw [ez_3]; exact tb_X9_size bt_2
  refine lv_bipush (v := 100) hx hb dX10_size_12 (by decide) ?_
  refine lv_isub hx hb dX10_size_14 ?_
  refine lv_topi (fun x_5 ex_5 => ?_)
  exact hret _ _ _ _ _ _ dX10_size_15 rfl hX hS (by subst ex_5 ez_3 eg_1; simp only [f_X10_size])
theorem tb_X10_size {g : wx_M} {n : Int32} {ho : Nat} (h : wx_b (g 55 1) 0 16) : wx_b ((f_X10_size g n ho).1 55 1) 0 16 := by
  simp only [f_X10_size]
  (repeat' split) <;> (repeat (first | with_reducible assumption | with_reducible apply tb_X8_begin | with_reducible apply tb_X9_size))
def f_X2_size (g : wx_M) (n : Int32) (ho : Nat) : wx_M × Int32 :=
  let g_1 := e_X8_begin g 14
  let z_3 := f_X10_size g_1 n ho
  let x_5 := (2 * z_3.2)
  (z_3.1, x_5)
set_option maxHeartbeats 4000000 in
set_option maxRecDepth 100000 in
theorem k_X2_size (l : Launch) {D : va_G} {cy : Nat → ClassId} {ad : Nat → Nat} {B0 : Nat} {f : wx_F} {P : va_W} {q : Nat} {pi : Nat} {ci : Nat} (g : wx_M) (kd : Int32) (n : Int32) (ho : Nat) (hp : P[pi]? = some (q, (Sum.inr (ci, [Value.int n]) : va_E))) (hv : wx_v kd ci) (hho : wx_H ho) (ht : wx_b (g 55 1) 0 16) (bn : wx_b n 0 3) : Met l yX2_size wsX2_size ({ frames := 3, cells := 0, slots := 0, locals := 65 } : Room) (wx_Pc D cy ad B0 f P g [.ref q, .ref (ad ho), .ref (ad 55)]) (wx_Qe D cy ad B0 f P (f_X2_size g n ho).1 (some (.int (f_X2_size g n ho).2))) 0 0 (fun q => B0 ≤ q) := by
  refine wx_enterE (cc := cX2_size) (maxL := 3) (ty := .int) (own := RX2) (lv := [(0, .ref q), (1, .ref (ad ho)), (2, .ref (ad 55))]) (by decide) rfl rfl (Nat.le_of_ble_eq_true rfl) rfl ?_
  intro p e R s m args below meth c ls Qm hx hb hml hown hts hK hX hS hR hret hl
  refine lv_aload_n hx hb dX2_size_0 rfl (lv_at hl 2 rfl) ?_
  refine lv_bipush (v := 14) hx hb dX2_size_1 (by decide) ?_
  refine wx_callev (va_runV (As := [.int 14]) (rest := []) ⟨hx, hb, hml, hown, hts⟩ (k_X8_begin l g 14 ht) (cwV 1 hts gX2_size_X8_begin rfl rfl rfl (by decide +kernel) (by rw [hR]; exact ⟨Nat.le_of_ble_eq_true rfl, Nat.le_of_ble_eq_true rfl⟩)) ⟨wx_Pc.blind, wx_recv hK hX (by decide) sh_X8 rfl, (wx_Pc.pre hK hX).2⟩ rfl rfl hl.1 rfl (lv_room (Nat.le_of_ble_eq_true rfl)) dX2_size_3 ⟨Nat.zero_le _, Nat.zero_le _⟩) hS (fun H locs hX hS => ?_)
  obtain ⟨g_1, eg_1, hX⟩ := wx_nm hX
  have bt_2 : wx_b (g_1 55 1) 0 16 := by rw [eg_1]; exact tb_X8_begin ht
  refine lv_iconst (v := 2) hx hb dX2_size_6 (by decide) ?_
  refine lv_aload_n hx hb dX2_size_7 rfl (lv_at hl 0 rfl) ?_
  refine lv_aload_n hx hb dX2_size_8 rfl (lv_at hl 1 rfl) ?_
  refine lv_aload_n hx hb dX2_size_9 rfl (lv_at hl 2 rfl) ?_
  obtain ⟨Cq, Tq, Nq, hcq⟩ := wx_v.cl hv
  refine wx_callei (va_runSU (As := [.ref (ad ho), .ref (ad 55)]) (rest := [.int 2]) (hK.1.1 _ _ hcq).2 ⟨hx, hb, hml, hown, hts⟩ (k_X10_size l g_1 kd n ho hp hv hho (wb_w bt_2 (by decide) (by decide)) bn) (va_cwSU 2 hts gX2_size_X10_size_s18 rfl rfl rfl (by decide +kernel) (by rw [hR]; exact ⟨Nat.le_of_ble_eq_true rfl, Nat.le_of_ble_eq_true rfl⟩)) ⟨wx_Pc.blind, wx_recvP hK hX hp hcq, (wx_Pc.pre hK hX).2⟩ rfl rfl hl.1 rfl (lv_room (Nat.le_of_ble_eq_true rfl)) dX2_size_10 ⟨Nat.zero_le _, Nat.zero_le _⟩) hS (fun H locs hX hS => ?_)
  obtain ⟨z_3, ez_3⟩ : ∃ z, z = f_X10_size g_1 n ho := ⟨_, rfl⟩
  rw [← ez_3] at hX; rw [← ez_3]
  have bt_4 : wx_b (z_3.1 55 1) 0 16 := by rw [ez_3]; exact tb_X10_size bt_2
  refine lv_imul hx hb dX2_size_13 ?_
  refine lv_topi (fun x_5 ex_5 => ?_)
  exact hret _ _ _ _ _ _ dX2_size_14 rfl hX hS (by subst ex_5 ez_3 eg_1; simp only [f_X2_size])
theorem tb_X2_size {g : wx_M} {n : Int32} {ho : Nat} (h : wx_b (g 55 1) 0 16) : wx_b ((f_X2_size g n ho).1 55 1) 0 16 := by
  simp only [f_X2_size]
  (repeat' split) <;> (repeat (first | with_reducible assumption | with_reducible apply tb_X8_begin | with_reducible apply tb_X10_size))
def f_X10_mark (g : wx_M) (kd : Int32) (n : Int32) (ho : Nat) : wx_M × Int32 :=
  let g_1 := e_X8_begin g 23
  let z_3 := f_X9_mark g_1 n
  if kd = 4 then
    let z_7 := f_X10_size z_3.1 n ho
    let x_9 := (z_3.2 - z_7.2)
    (z_7.1, x_9)
  else
    let z_11 := f_X2_size z_3.1 n ho
    let x_13 := (z_3.2 - z_11.2)
    (z_11.1, x_13)
set_option maxHeartbeats 4000000 in
set_option maxRecDepth 100000 in
theorem k_X10_mark (l : Launch) {D : va_G} {cy : Nat → ClassId} {ad : Nat → Nat} {B0 : Nat} {f : wx_F} {P : va_W} {q : Nat} {pi : Nat} {ci : Nat} (g : wx_M) (kd : Int32) (n : Int32) (ho : Nat) (hp : P[pi]? = some (q, (Sum.inr (ci, [Value.int n]) : va_E))) (hv : wx_v kd ci) (hho : wx_H ho) (hkk : kd = 4 ∨ kd = 5) (ht : wx_b (g 55 1) 0 16) (bn : wx_b n 0 3) : Met l yX10_mark wsX10_mark ({ frames := 4, cells := 0, slots := 0, locals := 87 } : Room) (wx_Pc D cy ad B0 f P g [.ref q, .ref (ad ho), .ref (ad 55)]) (wx_Qe D cy ad B0 f P (f_X10_mark g kd n ho).1 (some (.int (f_X10_mark g kd n ho).2))) 0 0 (fun q => B0 ≤ q) := by
  refine wx_enterE (cc := cX10_mark) (maxL := 4) (ty := .int) (own := RX10) (lv := [(0, .ref q), (1, .ref (ad ho)), (2, .ref (ad 55))]) (by decide) rfl rfl (Nat.le_of_ble_eq_true rfl) rfl ?_
  intro p e R s m args below meth c ls Qm hx hb hml hown hts hK hX hS hR hret hl
  refine lv_aload_n hx hb dX10_mark_0 rfl (lv_at hl 2 rfl) ?_
  refine lv_bipush (v := 23) hx hb dX10_mark_1 (by decide) ?_
  refine wx_callev (va_runV (As := [.int 23]) (rest := []) ⟨hx, hb, hml, hown, hts⟩ (k_X8_begin l g 23 ht) (cwV 1 hts gX10_mark_X8_begin rfl rfl rfl (by decide +kernel) (by rw [hR]; exact ⟨Nat.le_of_ble_eq_true rfl, Nat.le_of_ble_eq_true rfl⟩)) ⟨wx_Pc.blind, wx_recv hK hX (by decide) sh_X8 rfl, (wx_Pc.pre hK hX).2⟩ rfl rfl hl.1 rfl (lv_room (Nat.le_of_ble_eq_true rfl)) dX10_mark_3 ⟨Nat.zero_le _, Nat.zero_le _⟩) hS (fun H locs hX hS => ?_)
  obtain ⟨g_1, eg_1, hX⟩ := wx_nm hX
  have bt_2 : wx_b (g_1 55 1) 0 16 := by rw [eg_1]; exact tb_X8_begin ht
  refine lv_aload_n hx hb dX10_mark_6 rfl (lv_at hl 0 rfl) ?_
  refine lv_aload_n hx hb dX10_mark_7 rfl (lv_at hl 1 rfl) ?_
  refine lv_aload_n hx hb dX10_mark_8 rfl (lv_at hl 2 rfl) ?_
  obtain ⟨Cq, Tq, Nq, hcq⟩ := wx_v.cl hv
  refine wx_callei (va_runSU (As := [.ref (ad ho), .ref (ad 55)]) (rest := []) (hK.1.1 _ _ hcq).2 ⟨hx, hb, hml, hown, hts⟩ (k_X9_mark l g_1 kd n ho hp hv hho (wb_w bt_2 (by decide) (by decide)) bn) (va_cwSU 2 hts gX10_mark_X9_mark_s24 rfl rfl rfl (by decide +kernel) (by rw [hR]; exact ⟨Nat.le_of_ble_eq_true rfl, Nat.le_of_ble_eq_true rfl⟩)) ⟨wx_Pc.blind, wx_recvP hK hX hp hcq, (wx_Pc.pre hK hX).2⟩ rfl rfl hl.1 rfl (lv_room (Nat.le_of_ble_eq_true rfl)) dX10_mark_9 ⟨Nat.zero_le _, Nat.zero_le _⟩) hS (fun H locs hX hS => ?_)
  obtain ⟨z_3, ez_3⟩ : ∃ z, z = f_X9_mark g_1 n := ⟨_, rfl⟩
  rw [← ez_3] at hX; rw [← ez_3]
  have bt_4 : wx_b (z_3.1 55 1) 0 16 := by rw [ez_3]; exact tb_X9_mark bt_2
  refine lv_istore_n (lv' := [(3, .int z_3.2), (0, .ref q), (1, .ref (ad ho)), (2, .ref (ad 55))]) hx hb dX10_mark_12 rfl hl (by decide) rfl (fun ls hl => ?_)
  refine lv_iload_n hx hb dX10_mark_13 rfl (lv_at hl 0 rfl) ?_
  refine lv_aload_n hx hb dX10_mark_14 rfl (lv_at hl 1 rfl) ?_
  refine lv_aload_n hx hb dX10_mark_15 rfl (lv_at hl 2 rfl) ?_
  refine lv_aload_n hx hb dX10_mark_16 rfl (lv_at hl 3 rfl) ?_
  have hk_5 := hv
  rcases hk_5 with ⟨hkd, rfl⟩ | ⟨hkd, rfl⟩ | ⟨hkd, rfl⟩ | ⟨hkd, rfl⟩ | ⟨hkd, rfl⟩
  · exact absurd hkk (by rw [hkd]; decide)
  · exact absurd hkk (by rw [hkd]; decide)
  · exact absurd hkk (by rw [hkd]; decide)
  · have c_6 : kd = 4 := hkd
    refine wx_callei (va_runV (As := [.ref (ad ho), .ref (ad 55)]) (rest := [.int z_3.2]) ⟨hx, hb, hml, hown, hts⟩ (k_X10_size l z_3.1 kd n ho hp hv hho (wb_w bt_4 (by decide) (by decide)) bn) (cwV 2 hts gX10_mark_X10_size rfl rfl rfl (by decide +kernel) (by rw [hR]; exact ⟨Nat.le_of_ble_eq_true rfl, Nat.le_of_ble_eq_true rfl⟩)) ⟨wx_Pc.blind, wx_recvP hK hX hp (show vwCl[9]? = some (RX10, TX10, 1) from rfl), (wx_Pc.pre hK hX).2⟩ rfl rfl hl.1 rfl (lv_room (Nat.le_of_ble_eq_true rfl)) dX10_mark_17 ⟨Nat.zero_le _, Nat.zero_le _⟩) hS (fun H locs hX hS => ?_)
    obtain ⟨z_7, ez_7⟩ : ∃ z, z = f_X10_size z_3.1 n ho := ⟨_, rfl⟩
    rw [← ez_7] at hX; rw [← ez_7]
    have bt_8 : wx_b (z_7.1 55 1) 0 16 := by rw [ez_7]; exact tb_X10_size bt_4
    refine lv_isub hx hb dX10_mark_20 ?_
    refine lv_topi (fun x_9 ex_9 => ?_)
    exact hret _ _ _ _ _ _ dX10_mark_21 rfl hX hS (by subst ex_9 ez_7 ez_3 eg_1; simp only [f_X10_mark, if_pos c_6])
  · have c_10 : ¬ kd = 4 := by rw [hkd]; decide
    refine wx_callei (va_runU (As := [.ref (ad ho), .ref (ad 55)]) (rest := [.int z_3.2]) ⟨hx, hb, hml, hown, hts⟩ (k_X2_size l z_3.1 kd n ho hp hv hho (wb_w bt_4 (by decide) (by decide)) bn) (va_cwO 2 hts gX10_mark_X2_size_u27X2 rfl rfl rfl (show Cond.code yX10_size cX10_size 3 (some .int) ∈ wsX10_mark by decide +kernel) (by decide +kernel) (by rw [hR]; exact ⟨Nat.le_of_ble_eq_true rfl, Nat.le_of_ble_eq_true rfl⟩)) ⟨wx_Pc.blind, wx_recvP hK hX hp (show vwCl[2]? = some (RX2, TX2, 1) from rfl), (wx_Pc.pre hK hX).2⟩ rfl rfl hl.1 rfl (lv_room (Nat.le_of_ble_eq_true rfl)) dX10_mark_17 ⟨Nat.zero_le _, Nat.zero_le _⟩) hS (fun H locs hX hS => ?_)
    obtain ⟨z_11, ez_11⟩ : ∃ z, z = f_X2_size z_3.1 n ho := ⟨_, rfl⟩
    rw [← ez_11] at hX; rw [← ez_11]
    have bt_12 : wx_b (z_11.1 55 1) 0 16 := by rw [ez_11]; exact tb_X2_size bt_4
    refine lv_isub hx hb dX10_mark_20 ?_
    refine lv_topi (fun x_13 ex_13 => ?_)
    exact hret _ _ _ _ _ _ dX10_mark_21 rfl hX hS (by subst ex_13 ez_11 ez_3 eg_1; simp only [f_X10_mark, if_neg c_10])
theorem tb_X10_mark {g : wx_M} {kd : Int32} {n : Int32} {ho : Nat} (h : wx_b (g 55 1) 0 16) : wx_b ((f_X10_mark g kd n ho).1 55 1) 0 16 := by
  simp only [f_X10_mark]
  (repeat' split) <;> (repeat (first | with_reducible assumption | with_reducible apply tb_X8_begin | with_reducible apply tb_X9_mark | with_reducible apply tb_X10_size | with_reducible apply tb_X2_size))

/-! what the reference's numbers are within -/
def wx_MB (g : wx_M) : Prop := wx_b (g 65 (0 : Int32).toNatClampNeg) 0 6 ∧ wx_b (g 65 (3 : Int32).toNatClampNeg) 0 4 ∧ wx_b (g 65 (4 : Int32).toNatClampNeg) 0 4
theorem mb_up2 {g : wx_M} {k j : Nat} {v : Int32} (hk : k ≠ 65) (h : wx_MB g) : wx_MB (up2 g k j v) := by
  unfold wx_MB
  rw [up2_n (Ne.symm hk)]
  exact h
theorem mb_up2i {g : wx_M} {i : Int32} {a b : Int} {v : Int32} (hi : wx_b i a b) (ha : 5 ≤ a) (h : wx_MB g) : wx_MB (up2 g 65 i.toNatClampNeg v) := by
  have h1 : 5 ≤ i.toNatClampNeg := by
    have := hi.1
    show 5 ≤ i.toInt.toNat
    omega
  have e0 : (0 : Int32).toNatClampNeg = 0 := by decide
  have e3 : (3 : Int32).toNatClampNeg = 3 := by decide
  have e4 : (4 : Int32).toNatClampNeg = 4 := by decide
  unfold wx_MB
  rw [up2_sn (by omega), up2_sn (by omega), up2_sn (by omega)]
  exact h
theorem wb_div {x : Int32} {d : Int32} {a b : Int} (h : wx_b x a b) (h0 : 0 ≤ a) (hd : 0 < d.toInt) (hb : b < 2147483648) (hd2 : d.toInt < 2147483648) : wx_b (x / d) 0 (b / d.toInt) := by
  obtain ⟨h1, h2⟩ := h
  have hx : x = nI x.toInt.toNat := (wx_nIcl (x := x) ⟨h1, h2⟩ h0).symm
  have hdd : d = nI d.toInt.toNat := (wx_nIcl (x := d) (a := 0) (b := d.toInt) ⟨by omega, Int.le_refl _⟩ (by omega)).symm
  have h3 : (x / d).toInt = x.toInt / d.toInt := by
    conv => lhs; rw [hx, hdd]
    rw [pk_div (by omega) (by omega) (by omega), nI_toInt (by
      have := Nat.div_le_self x.toInt.toNat d.toInt.toNat
      omega)]
    rw [Int.natCast_ediv]
    congr 1 <;> omega
  unfold wx_b
  rw [h3]
  exact ⟨Int.ediv_nonneg (by omega) (by omega), Int.ediv_le_ediv hd h2⟩
theorem wb_rem0 {x d : Int32} (h0 : 0 ≤ x.toInt) (hd : 0 < d.toInt) : (x - x / d * d).toInt = x.toInt % d.toInt := by
  have hx : x = nI x.toInt.toNat := (wx_nIcl (x := x) (a := 0) (b := x.toInt) ⟨h0, Int.le_refl _⟩ (by omega)).symm
  have hdd : d = nI d.toInt.toNat := (wx_nIcl (x := d) (a := 0) (b := d.toInt) ⟨by omega, Int.le_refl _⟩ (by omega)).symm
  have r1 := fb_rng x
  have r2 := fb_rng d
  conv => lhs; rw [hx, hdd]
  rw [pk_rem (by omega) (by omega) (by omega), nI_toInt (by
    have := Nat.mod_lt x.toInt.toNat (show 0 < d.toInt.toNat by omega)
    omega)]
  rw [Int.natCast_emod]
  congr 1 <;> omega
theorem wb_rem {x d : Int32} {a b : Int} (h : wx_b x a b) (h0 : 0 ≤ a) (hd : 0 < d.toInt) (_ : True) : wx_b (x - x / d * d) 0 (d.toInt - 1) := by
  have h1 := h.1
  have e := wb_rem0 (x := x) (d := d) (by omega) hd
  unfold wx_b
  rw [e]
  have := Int.emod_nonneg x.toInt (show d.toInt ≠ 0 by omega)
  have := Int.emod_lt_of_pos x.toInt hd
  omega
theorem wb_remv {x d : Int32} {a b c e : Int} (h : wx_b x a b) (k : wx_b d c e) (h0 : 0 ≤ a) (hd : 0 < c) : wx_b (x - x / d * d) 0 (e - 1) := by
  have h1 := h.1
  obtain ⟨k1, k2⟩ := k
  have e1 := wb_rem0 (x := x) (d := d) (by omega) (by omega)
  unfold wx_b
  rw [e1]
  have := Int.emod_nonneg x.toInt (show d.toInt ≠ 0 by omega)
  have := Int.emod_lt_of_pos x.toInt (show 0 < d.toInt by omega)
  omega
