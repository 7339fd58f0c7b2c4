def e_X3_takeSeat (g : wx_M) (h : Nat) (a1 : Int32) (a2 : Int32) (a3 : Int32) (a4 : Int32) : wx_M :=
  let x_1 := ((g (h + 3) (r_X11_seatNumber a2 a3).toNatClampNeg) ||| (1 <<< (a1 &&& 31)))
  let g_2 := up2 g (h + 3) (r_X11_seatNumber a2 a3).toNatClampNeg x_1
  let x_3 := ((g_2 h 6) + 1)
  let g_4 := up2 g_2 h 6 x_3
  let x_5 := ((g_4 (h + 5) a1.toNatClampNeg) - a4)
  let g_6 := up2 g_4 (h + 5) a1.toNatClampNeg x_5
  g_6
set_option maxHeartbeats 4000000 in
set_option maxRecDepth 100000 in
theorem k_X3_takeSeat (l : Launch) {D : va_G} {cy : Nat → ClassId} {ad : Nat → Nat} {B0 : Nat} {f : wx_F} {P : va_W} (g : wx_M) (h : Nat) (a1 : Int32) (a2 : Int32) (a3 : Int32) (a4 : Int32) (hh : wx_H h) (b1 : wx_b a1 0 3) (b2 : wx_b a2 0 5) (b3 : wx_b a3 0 7) : Met l yX3_takeSeat wsX3_takeSeat ({ frames := 1, cells := 0, slots := 0, locals := 21 } : Room) (wx_Pc D cy ad B0 f P g [.ref (ad h), .int a1, .int a2, .int a3, .int a4]) (wx_Qe D cy ad B0 f P (e_X3_takeSeat g h a1 a2 a3 a4) none) 0 0 (fun q => B0 ≤ q) := by
  refine wx_enterV (cc := cX3_takeSeat) (maxL := 5) (own := RX3) (lv := [(0, .ref (ad h)), (1, .int a1), (2, .int a2), (3, .int a3), (4, .int a4)]) (by decide) rfl rfl (Nat.le_of_ble_eq_true rfl) rfl ?_
  intro p e R s m args below meth c ls Qm hx hb hml hown hts hK hX hS hR hret hl
  have hi_X3 : ∀ w ∈ wsX30, w ∈ wsX3_takeSeat := by decide +kernel
  refine lv_aload_n hx hb dX3_takeSeat_0 rfl (lv_at hl 0 rfl) ?_
  refine wx_getr (t := h + 3) (C := RX3) (T := TX3) (N := 15) (ci := 3) (j := 11) hx hb hts hi_X3 hown hK hX hh.l0 (sh_X3_11 hh) rfl (by decide) (hts (.fieldLink RX3 18 "SeenAgain$House" "holders" "[I") (by decide +kernel)) (fun _ h9 => h9) dX3_takeSeat_1 ?_
  refine lv_iload_n hx hb dX3_takeSeat_4 rfl (lv_at hl 2 rfl) ?_
  refine lv_iload_n hx hb dX3_takeSeat_5 rfl (lv_at hl 3 rfl) ?_
  refine wx_callr (va_runSN (As := [.int a2, .int a3]) (rest := [.ref (ad (h + 3))]) ⟨hx, hb, hml, hown, hts⟩ (k_X11_seatNumber l g a2 a3) ⟨va_cnB 2 hts gX3_takeSeat_X11_seatNumber_n82 rfl rfl rfl hK.2.1.2 (hts (.initialized RX11) (by decide +kernel)) (by decide +kernel) (by rw [hR]; exact ⟨Nat.le_of_ble_eq_true rfl, Nat.le_of_ble_eq_true rfl⟩), hts (.static yX11_seatNumber) (by decide +kernel), trivial⟩ (wx_Pc.pre hK hX) rfl rfl hl.1 rfl (lv_room (Nat.le_of_ble_eq_true rfl)) dX3_takeSeat_6 ⟨Nat.zero_le _, Nat.zero_le _⟩) ?_
  refine lv_dup2_11 hx hb dX3_takeSeat_9 rfl rfl ?_
  refine wx_iald hx hb hK hX hh.l3 (sa_X3_3 hh) (wb_in (rg_seat (wb_w b2 (by decide) (by decide)) (wb_w b3 (by decide) (by decide))) (by decide) (by decide)) dX3_takeSeat_10 ?_
  refine lv_iconst (v := 1) hx hb dX3_takeSeat_11 (by decide) ?_
  refine lv_iload_n hx hb dX3_takeSeat_12 rfl (lv_at hl 1 rfl) ?_
  refine lv_ishl hx hb dX3_takeSeat_13 ?_
  refine lv_ior hx hb dX3_takeSeat_14 ?_
  refine lv_topi (fun x_1 ex_1 => ?_)
  refine wx_iast hx hb hK hX hS hh.l3 (sa_X3_3 hh) (wb_in (rg_seat (wb_w b2 (by decide) (by decide)) (wb_w b3 (by decide) (by decide))) (by decide) (by decide)) dX3_takeSeat_15 (fun H locs hX hS => ?_)
  obtain ⟨g_2, eg_2, hX⟩ := wx_nm hX
  refine lv_aload_n hx hb dX3_takeSeat_16 rfl (lv_at hl 0 rfl) ?_
  refine lv_dup hx hb dX3_takeSeat_17 rfl ?_
  refine wx_geti (C := RX3) (T := TX3) (N := 15) (ci := 3) (j := 6) hx hb hts hi_X3 hown hK hX hh.l0 (sh_X3_6 hh) rfl (by decide) (hts (.fieldLink RX3 63 "SeenAgain$House" "held" "I") (by decide +kernel)) (fun _ h9 => h9) dX3_takeSeat_18 ?_
  refine lv_iconst (v := 1) hx hb dX3_takeSeat_21 (by decide) ?_
  refine lv_iadd hx hb dX3_takeSeat_22 ?_
  refine lv_topi (fun x_3 ex_3 => ?_)
  refine wx_puti (C := RX3) (T := TX3) (N := 15) (ci := 3) (j := 6) (ty := .int) hx hb hts hi_X3 tyX3 tyX3_ok nmX3 hown hK hX hS hh.l0 (sh_X3_6 hh) rfl (by decide) (hts (.fieldLink RX3 63 "SeenAgain$House" "held" "I") (by decide +kernel)) (fun _ h9 => h9) rfl (by decide +kernel) rfl rfl dX3_takeSeat_23 (fun H locs hX hS => ?_)
  obtain ⟨g_4, eg_4, hX⟩ := wx_nm hX
  refine lv_aload_n hx hb dX3_takeSeat_26 rfl (lv_at hl 0 rfl) ?_
  refine wx_getr (t := h + 5) (C := RX3) (T := TX3) (N := 15) (ci := 3) (j := 13) hx hb hts hi_X3 hown hK hX hh.l0 (sh_X3_13 hh) rfl (by decide) (hts (.fieldLink RX3 24 "SeenAgain$House" "purses" "[I") (by decide +kernel)) (fun _ h9 => h9) dX3_takeSeat_27 ?_
  refine lv_iload_n hx hb dX3_takeSeat_30 rfl (lv_at hl 1 rfl) ?_
  refine lv_dup2_11 hx hb dX3_takeSeat_31 rfl rfl ?_
  refine wx_iald hx hb hK hX hh.l5 (sa_X3_5 hh) (wb_in b1 (by decide) (by decide)) dX3_takeSeat_32 ?_
  refine lv_iload hx hb dX3_takeSeat_33 (lv_at hl 4 rfl) ?_
  refine lv_isub hx hb dX3_takeSeat_35 ?_
  refine lv_topi (fun x_5 ex_5 => ?_)
  refine wx_iast hx hb hK hX hS hh.l5 (sa_X3_5 hh) (wb_in b1 (by decide) (by decide)) dX3_takeSeat_36 (fun H locs hX hS => ?_)
  obtain ⟨g_6, eg_6, hX⟩ := wx_nm hX
  exact hret _ _ _ _ _ dX3_takeSeat_37 hX hS (by subst eg_6 ex_5 eg_4 ex_3 eg_2 ex_1; simp only [e_X3_takeSeat])
def e_X3_leaveSeat (g : wx_M) (h : Nat) (a1 : Int32) (a2 : Int32) (a3 : Int32) (a4 : Int32) : wx_M :=
  let x_1 := ((g (h + 3) (r_X11_seatNumber a2 a3).toNatClampNeg) &&& ((1 <<< (a1 &&& 31)) ^^^ (-1)))
  let g_2 := up2 g (h + 3) (r_X11_seatNumber a2 a3).toNatClampNeg x_1
  let x_3 := ((g_2 h 6) - 1)
  let g_4 := up2 g_2 h 6 x_3
  let x_5 := ((g_4 (h + 5) a1.toNatClampNeg) + a4)
  let g_6 := up2 g_4 (h + 5) a1.toNatClampNeg x_5
  g_6
set_option maxHeartbeats 4000000 in
set_option maxRecDepth 100000 in
theorem k_X3_leaveSeat (l : Launch) {D : va_G} {cy : Nat → ClassId} {ad : Nat → Nat} {B0 : Nat} {f : wx_F} {P : va_W} (g : wx_M) (h : Nat) (a1 : Int32) (a2 : Int32) (a3 : Int32) (a4 : Int32) (hh : wx_H h) (b1 : wx_b a1 0 3) (b2 : wx_b a2 0 5) (b3 : wx_b a3 0 7) : Met l yX3_leaveSeat wsX3_leaveSeat ({ frames := 1, cells := 0, slots := 0, locals := 21 } : Room) (wx_Pc D cy ad B0 f P g [.ref (ad h), .int a1, .int a2, .int a3, .int a4]) (wx_Qe D cy ad B0 f P (e_X3_leaveSeat g h a1 a2 a3 a4) none) 0 0 (fun q => B0 ≤ q) := by
  refine wx_enterV (cc := cX3_leaveSeat) (maxL := 5) (own := RX3) (lv := [(0, .ref (ad h)), (1, .int a1), (2, .int a2), (3, .int a3), (4, .int a4)]) (by decide) rfl rfl (Nat.le_of_ble_eq_true rfl) rfl ?_
  intro p e R s m args below meth c ls Qm hx hb hml hown hts hK hX hS hR hret hl
  have hi_X3 : ∀ w ∈ wsX30, w ∈ wsX3_leaveSeat := by decide +kernel
  refine lv_aload_n hx hb dX3_leaveSeat_0 rfl (lv_at hl 0 rfl) ?_
  refine wx_getr (t := h + 3) (C := RX3) (T := TX3) (N := 15) (ci := 3) (j := 11) hx hb hts hi_X3 hown hK hX hh.l0 (sh_X3_11 hh) rfl (by decide) (hts (.fieldLink RX3 18 "SeenAgain$House" "holders" "[I") (by decide +kernel)) (fun _ h9 => h9) dX3_leaveSeat_1 ?_
  refine lv_iload_n hx hb dX3_leaveSeat_4 rfl (lv_at hl 2 rfl) ?_
  refine lv_iload_n hx hb dX3_leaveSeat_5 rfl (lv_at hl 3 rfl) ?_
  refine wx_callr (va_runSN (As := [.int a2, .int a3]) (rest := [.ref (ad (h + 3))]) ⟨hx, hb, hml, hown, hts⟩ (k_X11_seatNumber l g a2 a3) ⟨va_cnB 2 hts gX3_leaveSeat_X11_seatNumber_n82 rfl rfl rfl hK.2.1.2 (hts (.initialized RX11) (by decide +kernel)) (by decide +kernel) (by rw [hR]; exact ⟨Nat.le_of_ble_eq_true rfl, Nat.le_of_ble_eq_true rfl⟩), hts (.static yX11_seatNumber) (by decide +kernel), trivial⟩ (wx_Pc.pre hK hX) rfl rfl hl.1 rfl (lv_room (Nat.le_of_ble_eq_true rfl)) dX3_leaveSeat_6 ⟨Nat.zero_le _, Nat.zero_le _⟩) ?_
  refine lv_dup2_11 hx hb dX3_leaveSeat_9 rfl rfl ?_
  refine wx_iald hx hb hK hX hh.l3 (sa_X3_3 hh) (wb_in (rg_seat (wb_w b2 (by decide) (by decide)) (wb_w b3 (by decide) (by decide))) (by decide) (by decide)) dX3_leaveSeat_10 ?_
  refine lv_iconst (v := 1) hx hb dX3_leaveSeat_11 (by decide) ?_
  refine lv_iload_n hx hb dX3_leaveSeat_12 rfl (lv_at hl 1 rfl) ?_
  refine lv_ishl hx hb dX3_leaveSeat_13 ?_
  refine lv_iconst (v := (-1)) hx hb dX3_leaveSeat_14 (by decide) ?_
  refine lv_ixor hx hb dX3_leaveSeat_15 ?_
  refine lv_iand hx hb dX3_leaveSeat_16 ?_
  refine lv_topi (fun x_1 ex_1 => ?_)
  refine wx_iast hx hb hK hX hS hh.l3 (sa_X3_3 hh) (wb_in (rg_seat (wb_w b2 (by decide) (by decide)) (wb_w b3 (by decide) (by decide))) (by decide) (by decide)) dX3_leaveSeat_17 (fun H locs hX hS => ?_)
  obtain ⟨g_2, eg_2, hX⟩ := wx_nm hX
  refine lv_aload_n hx hb dX3_leaveSeat_18 rfl (lv_at hl 0 rfl) ?_
  refine lv_dup hx hb dX3_leaveSeat_19 rfl ?_
  refine wx_geti (C := RX3) (T := TX3) (N := 15) (ci := 3) (j := 6) hx hb hts hi_X3 hown hK hX hh.l0 (sh_X3_6 hh) rfl (by decide) (hts (.fieldLink RX3 63 "SeenAgain$House" "held" "I") (by decide +kernel)) (fun _ h9 => h9) dX3_leaveSeat_20 ?_
  refine lv_iconst (v := 1) hx hb dX3_leaveSeat_23 (by decide) ?_
  refine lv_isub hx hb dX3_leaveSeat_24 ?_
  refine lv_topi (fun x_3 ex_3 => ?_)
  refine wx_puti (C := RX3) (T := TX3) (N := 15) (ci := 3) (j := 6) (ty := .int) hx hb hts hi_X3 tyX3 tyX3_ok nmX3 hown hK hX hS hh.l0 (sh_X3_6 hh) rfl (by decide) (hts (.fieldLink RX3 63 "SeenAgain$House" "held" "I") (by decide +kernel)) (fun _ h9 => h9) rfl (by decide +kernel) rfl rfl dX3_leaveSeat_25 (fun H locs hX hS => ?_)
  obtain ⟨g_4, eg_4, hX⟩ := wx_nm hX
  refine lv_aload_n hx hb dX3_leaveSeat_28 rfl (lv_at hl 0 rfl) ?_
  refine wx_getr (t := h + 5) (C := RX3) (T := TX3) (N := 15) (ci := 3) (j := 13) hx hb hts hi_X3 hown hK hX hh.l0 (sh_X3_13 hh) rfl (by decide) (hts (.fieldLink RX3 24 "SeenAgain$House" "purses" "[I") (by decide +kernel)) (fun _ h9 => h9) dX3_leaveSeat_29 ?_
  refine lv_iload_n hx hb dX3_leaveSeat_32 rfl (lv_at hl 1 rfl) ?_
  refine lv_dup2_11 hx hb dX3_leaveSeat_33 rfl rfl ?_
  refine wx_iald hx hb hK hX hh.l5 (sa_X3_5 hh) (wb_in b1 (by decide) (by decide)) dX3_leaveSeat_34 ?_
  refine lv_iload hx hb dX3_leaveSeat_35 (lv_at hl 4 rfl) ?_
  refine lv_iadd hx hb dX3_leaveSeat_37 ?_
  refine lv_topi (fun x_5 ex_5 => ?_)
  refine wx_iast hx hb hK hX hS hh.l5 (sa_X3_5 hh) (wb_in b1 (by decide) (by decide)) dX3_leaveSeat_38 (fun H locs hX hS => ?_)
  obtain ⟨g_6, eg_6, hX⟩ := wx_nm hX
  exact hret _ _ _ _ _ dX3_leaveSeat_39 hX hS (by subst eg_6 ex_5 eg_4 ex_3 eg_2 ex_1; simp only [e_X3_leaveSeat])
def e_X3_addWall (g : wx_M) (h : Nat) (a1 : Int32) (a2 : Int32) : wx_M :=
  let x_1 := ((g (h + 1) a1.toNatClampNeg) ||| (1 <<< (a2 &&& 31)))
  let g_2 := up2 g (h + 1) a1.toNatClampNeg x_1
  let x_3 := ((g_2 (h + 1) a2.toNatClampNeg) ||| (1 <<< (a1 &&& 31)))
  let g_4 := up2 g_2 (h + 1) a2.toNatClampNeg x_3
  let x_5 := ((g_4 h 3) + 1)
  let g_6 := up2 g_4 h 3 x_5
  g_6
set_option maxHeartbeats 4000000 in
set_option maxRecDepth 100000 in
theorem k_X3_addWall (l : Launch) {D : va_G} {cy : Nat → ClassId} {ad : Nat → Nat} {B0 : Nat} {f : wx_F} {P : va_W} (g : wx_M) (h : Nat) (a1 : Int32) (a2 : Int32) (hh : wx_H h) (b1 : wx_b a1 0 5) (b2 : wx_b a2 0 5) : Met l yX3_addWall wsX3_addWall ({ frames := 0, cells := 0, slots := 0, locals := 0 } : Room) (wx_Pc D cy ad B0 f P g [.ref (ad h), .int a1, .int a2]) (wx_Qe D cy ad B0 f P (e_X3_addWall g h a1 a2) none) 0 0 (fun q => B0 ≤ q) := by
  refine wx_enterV (cc := cX3_addWall) (maxL := 3) (own := RX3) (lv := [(0, .ref (ad h)), (1, .int a1), (2, .int a2)]) (by decide) rfl rfl (Nat.le_of_ble_eq_true rfl) rfl ?_
  intro p e R s m args below meth c ls Qm hx hb hml hown hts hK hX hS hR hret hl
  have hi_X3 : ∀ w ∈ wsX30, w ∈ wsX3_addWall := by decide +kernel
  refine lv_aload_n hx hb dX3_addWall_0 rfl (lv_at hl 0 rfl) ?_
  refine wx_getr (t := h + 1) (C := RX3) (T := TX3) (N := 15) (ci := 3) (j := 9) hx hb hts hi_X3 hown hK hX hh.l0 (sh_X3_9 hh) rfl (by decide) (hts (.fieldLink RX3 9 "SeenAgain$House" "windows" "[I") (by decide +kernel)) (fun _ h9 => h9) dX3_addWall_1 ?_
  refine lv_iload_n hx hb dX3_addWall_4 rfl (lv_at hl 1 rfl) ?_
  refine lv_dup2_11 hx hb dX3_addWall_5 rfl rfl ?_
  refine wx_iald hx hb hK hX hh.l1 (sa_X3_1 hh) (wb_in b1 (by decide) (by decide)) dX3_addWall_6 ?_
  refine lv_iconst (v := 1) hx hb dX3_addWall_7 (by decide) ?_
  refine lv_iload_n hx hb dX3_addWall_8 rfl (lv_at hl 2 rfl) ?_
  refine lv_ishl hx hb dX3_addWall_9 ?_
  refine lv_ior hx hb dX3_addWall_10 ?_
  refine lv_topi (fun x_1 ex_1 => ?_)
  refine wx_iast hx hb hK hX hS hh.l1 (sa_X3_1 hh) (wb_in b1 (by decide) (by decide)) dX3_addWall_11 (fun H locs hX hS => ?_)
  obtain ⟨g_2, eg_2, hX⟩ := wx_nm hX
  refine lv_aload_n hx hb dX3_addWall_12 rfl (lv_at hl 0 rfl) ?_
  refine wx_getr (t := h + 1) (C := RX3) (T := TX3) (N := 15) (ci := 3) (j := 9) hx hb hts hi_X3 hown hK hX hh.l0 (sh_X3_9 hh) rfl (by decide) (hts (.fieldLink RX3 9 "SeenAgain$House" "windows" "[I") (by decide +kernel)) (fun _ h9 => h9) dX3_addWall_13 ?_
  refine lv_iload_n hx hb dX3_addWall_16 rfl (lv_at hl 2 rfl) ?_
  refine lv_dup2_11 hx hb dX3_addWall_17 rfl rfl ?_
  refine wx_iald hx hb hK hX hh.l1 (sa_X3_1 hh) (wb_in b2 (by decide) (by decide)) dX3_addWall_18 ?_
  refine lv_iconst (v := 1) hx hb dX3_addWall_19 (by decide) ?_
  refine lv_iload_n hx hb dX3_addWall_20 rfl (lv_at hl 1 rfl) ?_
  refine lv_ishl hx hb dX3_addWall_21 ?_
  refine lv_ior hx hb dX3_addWall_22 ?_
  refine lv_topi (fun x_3 ex_3 => ?_)
  refine wx_iast hx hb hK hX hS hh.l1 (sa_X3_1 hh) (wb_in b2 (by decide) (by decide)) dX3_addWall_23 (fun H locs hX hS => ?_)
  obtain ⟨g_4, eg_4, hX⟩ := wx_nm hX
  refine lv_aload_n hx hb dX3_addWall_24 rfl (lv_at hl 0 rfl) ?_
  refine lv_dup hx hb dX3_addWall_25 rfl ?_
  refine wx_geti (C := RX3) (T := TX3) (N := 15) (ci := 3) (j := 3) hx hb hts hi_X3 hown hK hX hh.l0 (sh_X3_3 hh) rfl (by decide) (hts (.fieldLink RX3 38 "SeenAgain$House" "walls" "I") (by decide +kernel)) (fun _ h9 => h9) dX3_addWall_26 ?_
  refine lv_iconst (v := 1) hx hb dX3_addWall_29 (by decide) ?_
  refine lv_iadd hx hb dX3_addWall_30 ?_
  refine lv_topi (fun x_5 ex_5 => ?_)
  refine wx_puti (C := RX3) (T := TX3) (N := 15) (ci := 3) (j := 3) (ty := .int) hx hb hts hi_X3 tyX3 tyX3_ok nmX3 hown hK hX hS hh.l0 (sh_X3_3 hh) rfl (by decide) (hts (.fieldLink RX3 38 "SeenAgain$House" "walls" "I") (by decide +kernel)) (fun _ h9 => h9) rfl (by decide +kernel) rfl rfl dX3_addWall_31 (fun H locs hX hS => ?_)
  obtain ⟨g_6, eg_6, hX⟩ := wx_nm hX
  exact hret _ _ _ _ _ dX3_addWall_34 hX hS (by subst eg_6 ex_5 eg_4 ex_3 eg_2 ex_1; simp only [e_X3_addWall])
def e_X3_drawCurtain (g : wx_M) (h : Nat) (a1 : Int32) (a2 : Int32) (a3 : Int32) : wx_M :=
  let x_1 := ((g (h + 2) (r_X11_seatNumber a1 a3).toNatClampNeg) ||| (1 <<< (a2 &&& 31)))
  let g_2 := up2 g (h + 2) (r_X11_seatNumber a1 a3).toNatClampNeg x_1
  let x_3 := ((g_2 (h + 2) (r_X11_seatNumber a2 a3).toNatClampNeg) ||| (1 <<< (a1 &&& 31)))
  let g_4 := up2 g_2 (h + 2) (r_X11_seatNumber a2 a3).toNatClampNeg x_3
  let x_5 := ((g_4 h 7) + 1)
  let g_6 := up2 g_4 h 7 x_5
  g_6
set_option maxHeartbeats 4000000 in
set_option maxRecDepth 100000 in
theorem k_X3_drawCurtain (l : Launch) {D : va_G} {cy : Nat → ClassId} {ad : Nat → Nat} {B0 : Nat} {f : wx_F} {P : va_W} (g : wx_M) (h : Nat) (a1 : Int32) (a2 : Int32) (a3 : Int32) (hh : wx_H h) (b1 : wx_b a1 0 5) (b2 : wx_b a2 0 5) (b3 : wx_b a3 0 7) : Met l yX3_drawCurtain wsX3_drawCurtain ({ frames := 1, cells := 0, slots := 0, locals := 21 } : Room) (wx_Pc D cy ad B0 f P g [.ref (ad h), .int a1, .int a2, .int a3]) (wx_Qe D cy ad B0 f P (e_X3_drawCurtain g h a1 a2 a3) none) 0 0 (fun q => B0 ≤ q) := by
  refine wx_enterV (cc := cX3_drawCurtain) (maxL := 4) (own := RX3) (lv := [(0, .ref (ad h)), (1, .int a1), (2, .int a2), (3, .int a3)]) (by decide) rfl rfl (Nat.le_of_ble_eq_true rfl) rfl ?_
  intro p e R s m args below meth c ls Qm hx hb hml hown hts hK hX hS hR hret hl
  have hi_X3 : ∀ w ∈ wsX30, w ∈ wsX3_drawCurtain := by decide +kernel
  refine lv_aload_n hx hb dX3_drawCurtain_0 rfl (lv_at hl 0 rfl) ?_
  refine wx_getr (t := h + 2) (C := RX3) (T := TX3) (N := 15) (ci := 3) (j := 10) hx hb hts hi_X3 hown hK hX hh.l0 (sh_X3_10 hh) rfl (by decide) (hts (.fieldLink RX3 15 "SeenAgain$House" "drawn" "[I") (by decide +kernel)) (fun _ h9 => h9) dX3_drawCurtain_1 ?_
  refine lv_iload_n hx hb dX3_drawCurtain_4 rfl (lv_at hl 1 rfl) ?_
  refine lv_iload_n hx hb dX3_drawCurtain_5 rfl (lv_at hl 3 rfl) ?_
  refine wx_callr (va_runSN (As := [.int a1, .int a3]) (rest := [.ref (ad (h + 2))]) ⟨hx, hb, hml, hown, hts⟩ (k_X11_seatNumber l g a1 a3) ⟨va_cnB 2 hts gX3_drawCurtain_X11_seatNumber_n82 rfl rfl rfl hK.2.1.2 (hts (.initialized RX11) (by decide +kernel)) (by decide +kernel) (by rw [hR]; exact ⟨Nat.le_of_ble_eq_true rfl, Nat.le_of_ble_eq_true rfl⟩), hts (.static yX11_seatNumber) (by decide +kernel), trivial⟩ (wx_Pc.pre hK hX) rfl rfl hl.1 rfl (lv_room (Nat.le_of_ble_eq_true rfl)) dX3_drawCurtain_6 ⟨Nat.zero_le _, Nat.zero_le _⟩) ?_
  refine lv_dup2_11 hx hb dX3_drawCurtain_9 rfl rfl ?_
  refine wx_iald hx hb hK hX hh.l2 (sa_X3_2 hh) (wb_in (rg_seat (wb_w b1 (by decide) (by decide)) (wb_w b3 (by decide) (by decide))) (by decide) (by decide)) dX3_drawCurtain_10 ?_
  refine lv_iconst (v := 1) hx hb dX3_drawCurtain_11 (by decide) ?_
  refine lv_iload_n hx hb dX3_drawCurtain_12 rfl (lv_at hl 2 rfl) ?_
  refine lv_ishl hx hb dX3_drawCurtain_13 ?_
  refine lv_ior hx hb dX3_drawCurtain_14 ?_
  refine lv_topi (fun x_1 ex_1 => ?_)
  refine wx_iast hx hb hK hX hS hh.l2 (sa_X3_2 hh) (wb_in (rg_seat (wb_w b1 (by decide) (by decide)) (wb_w b3 (by decide) (by decide))) (by decide) (by decide)) dX3_drawCurtain_15 (fun H locs hX hS => ?_)
  obtain ⟨g_2, eg_2, hX⟩ := wx_nm hX
  refine lv_aload_n hx hb dX3_drawCurtain_16 rfl (lv_at hl 0 rfl) ?_
  refine wx_getr (t := h + 2) (C := RX3) (T := TX3) (N := 15) (ci := 3) (j := 10) hx hb hts hi_X3 hown hK hX hh.l0 (sh_X3_10 hh) rfl (by decide) (hts (.fieldLink RX3 15 "SeenAgain$House" "drawn" "[I") (by decide +kernel)) (fun _ h9 => h9) dX3_drawCurtain_17 ?_
  refine lv_iload_n hx hb dX3_drawCurtain_20 rfl (lv_at hl 2 rfl) ?_
  refine lv_iload_n hx hb dX3_drawCurtain_21 rfl (lv_at hl 3 rfl) ?_
  refine wx_callr (va_runSN (As := [.int a2, .int a3]) (rest := [.ref (ad (h + 2))]) ⟨hx, hb, hml, hown, hts⟩ (k_X11_seatNumber l g_2 a2 a3) ⟨va_cnB 2 hts gX3_drawCurtain_X11_seatNumber_n82 rfl rfl rfl hK.2.1.2 (hts (.initialized RX11) (by decide +kernel)) (by decide +kernel) (by rw [hR]; exact ⟨Nat.le_of_ble_eq_true rfl, Nat.le_of_ble_eq_true rfl⟩), hts (.static yX11_seatNumber) (by decide +kernel), trivial⟩ (wx_Pc.pre hK hX) rfl rfl hl.1 rfl (lv_room (Nat.le_of_ble_eq_true rfl)) dX3_drawCurtain_22 ⟨Nat.zero_le _, Nat.zero_le _⟩) ?_
  refine lv_dup2_11 hx hb dX3_drawCurtain_25 rfl rfl ?_
  refine wx_iald hx hb hK hX hh.l2 (sa_X3_2 hh) (wb_in (rg_seat (wb_w b2 (by decide) (by decide)) (wb_w b3 (by decide) (by decide))) (by decide) (by decide)) dX3_drawCurtain_26 ?_
  refine lv_iconst (v := 1) hx hb dX3_drawCurtain_27 (by decide) ?_
  refine lv_iload_n hx hb dX3_drawCurtain_28 rfl (lv_at hl 1 rfl) ?_
  refine lv_ishl hx hb dX3_drawCurtain_29 ?_
  refine lv_ior hx hb dX3_drawCurtain_30 ?_
  refine lv_topi (fun x_3 ex_3 => ?_)
  refine wx_iast hx hb hK hX hS hh.l2 (sa_X3_2 hh) (wb_in (rg_seat (wb_w b2 (by decide) (by decide)) (wb_w b3 (by decide) (by decide))) (by decide) (by decide)) dX3_drawCurtain_31 (fun H locs hX hS => ?_)
  obtain ⟨g_4, eg_4, hX⟩ := wx_nm hX
  refine lv_aload_n hx hb dX3_drawCurtain_32 rfl (lv_at hl 0 rfl) ?_
  refine lv_dup hx hb dX3_drawCurtain_33 rfl ?_
  refine wx_geti (C := RX3) (T := TX3) (N := 15) (ci := 3) (j := 7) hx hb hts hi_X3 hown hK hX hh.l0 (sh_X3_7 hh) rfl (by decide) (hts (.fieldLink RX3 66 "SeenAgain$House" "curtains" "I") (by decide +kernel)) (fun _ h9 => h9) dX3_drawCurtain_34 ?_
  refine lv_iconst (v := 1) hx hb dX3_drawCurtain_37 (by decide) ?_
  refine lv_iadd hx hb dX3_drawCurtain_38 ?_
  refine lv_topi (fun x_5 ex_5 => ?_)
  refine wx_puti (C := RX3) (T := TX3) (N := 15) (ci := 3) (j := 7) (ty := .int) hx hb hts hi_X3 tyX3 tyX3_ok nmX3 hown hK hX hS hh.l0 (sh_X3_7 hh) rfl (by decide) (hts (.fieldLink RX3 66 "SeenAgain$House" "curtains" "I") (by decide +kernel)) (fun _ h9 => h9) rfl (by decide +kernel) rfl rfl dX3_drawCurtain_39 (fun H locs hX hS => ?_)
  obtain ⟨g_6, eg_6, hX⟩ := wx_nm hX
  exact hret _ _ _ _ _ dX3_drawCurtain_42 hX hS (by subst eg_6 ex_5 eg_4 ex_3 eg_2 ex_1; simp only [e_X3_drawCurtain])
def e_X3_openCurtain (g : wx_M) (h : Nat) (a1 : Int32) (a2 : Int32) (a3 : Int32) : wx_M :=
  let x_1 := ((g (h + 2) (r_X11_seatNumber a1 a3).toNatClampNeg) &&& ((1 <<< (a2 &&& 31)) ^^^ (-1)))
  let g_2 := up2 g (h + 2) (r_X11_seatNumber a1 a3).toNatClampNeg x_1
  let x_3 := ((g_2 (h + 2) (r_X11_seatNumber a2 a3).toNatClampNeg) &&& ((1 <<< (a1 &&& 31)) ^^^ (-1)))
  let g_4 := up2 g_2 (h + 2) (r_X11_seatNumber a2 a3).toNatClampNeg x_3
  let x_5 := ((g_4 h 7) - 1)
  let g_6 := up2 g_4 h 7 x_5
  g_6
set_option maxHeartbeats 4000000 in
set_option maxRecDepth 100000 in
theorem k_X3_openCurtain (l : Launch) {D : va_G} {cy : Nat → ClassId} {ad : Nat → Nat} {B0 : Nat} {f : wx_F} {P : va_W} (g : wx_M) (h : Nat) (a1 : Int32) (a2 : Int32) (a3 : Int32) (hh : wx_H h) (b1 : wx_b a1 0 5) (b2 : wx_b a2 0 5) (b3 : wx_b a3 0 7) : Met l yX3_openCurtain wsX3_openCurtain ({ frames := 1, cells := 0, slots := 0, locals := 21 } : Room) (wx_Pc D cy ad B0 f P g [.ref (ad h), .int a1, .int a2, .int a3]) (wx_Qe D cy ad B0 f P (e_X3_openCurtain g h a1 a2 a3) none) 0 0 (fun q => B0 ≤ q) := by
  refine wx_enterV (cc := cX3_openCurtain) (maxL := 4) (own := RX3) (lv := [(0, .ref (ad h)), (1, .int a1), (2, .int a2), (3, .int a3)]) (by decide) rfl rfl (Nat.le_of_ble_eq_true rfl) rfl ?_
  intro p e R s m args below meth c ls Qm hx hb hml hown hts hK hX hS hR hret hl
  have hi_X3 : ∀ w ∈ wsX30, w ∈ wsX3_openCurtain := by decide +kernel
  refine lv_aload_n hx hb dX3_openCurtain_0 rfl (lv_at hl 0 rfl) ?_
  refine wx_getr (t := h + 2) (C := RX3) (T := TX3) (N := 15) (ci := 3) (j := 10) hx hb hts hi_X3 hown hK hX hh.l0 (sh_X3_10 hh) rfl (by decide) (hts (.fieldLink RX3 15 "SeenAgain$House" "drawn" "[I") (by decide +kernel)) (fun _ h9 => h9) dX3_openCurtain_1 ?_
  refine lv_iload_n hx hb dX3_openCurtain_4 rfl (lv_at hl 1 rfl) ?_
  refine lv_iload_n hx hb dX3_openCurtain_5 rfl (lv_at hl 3 rfl) ?_
  refine wx_callr (va_runSN (As := [.int a1, .int a3]) (rest := [.ref (ad (h + 2))]) ⟨hx, hb, hml, hown, hts⟩ (k_X11_seatNumber l g a1 a3) ⟨va_cnB 2 hts gX3_openCurtain_X11_seatNumber_n82 rfl rfl rfl hK.2.1.2 (hts (.initialized RX11) (by decide +kernel)) (by decide +kernel) (by rw [hR]; exact ⟨Nat.le_of_ble_eq_true rfl, Nat.le_of_ble_eq_true rfl⟩), hts (.static yX11_seatNumber) (by decide +kernel), trivial⟩ (wx_Pc.pre hK hX) rfl rfl hl.1 rfl (lv_room (Nat.le_of_ble_eq_true rfl)) dX3_openCurtain_6 ⟨Nat.zero_le _, Nat.zero_le _⟩) ?_
  refine lv_dup2_11 hx hb dX3_openCurtain_9 rfl rfl ?_
  refine wx_iald hx hb hK hX hh.l2 (sa_X3_2 hh) (wb_in (rg_seat (wb_w b1 (by decide) (by decide)) (wb_w b3 (by decide) (by decide))) (by decide) (by decide)) dX3_openCurtain_10 ?_
  refine lv_iconst (v := 1) hx hb dX3_openCurtain_11 (by decide) ?_
  refine lv_iload_n hx hb dX3_openCurtain_12 rfl (lv_at hl 2 rfl) ?_
  refine lv_ishl hx hb dX3_openCurtain_13 ?_
  refine lv_iconst (v := (-1)) hx hb dX3_openCurtain_14 (by decide) ?_
  refine lv_ixor hx hb dX3_openCurtain_15 ?_
  refine lv_iand hx hb dX3_openCurtain_16 ?_
  refine lv_topi (fun x_1 ex_1 => ?_)
  refine wx_iast hx hb hK hX hS hh.l2 (sa_X3_2 hh) (wb_in (rg_seat (wb_w b1 (by decide) (by decide)) (wb_w b3 (by decide) (by decide))) (by decide) (by decide)) dX3_openCurtain_17 (fun H locs hX hS => ?_)
  obtain ⟨g_2, eg_2, hX⟩ := wx_nm hX
  refine lv_aload_n hx hb dX3_openCurtain_18 rfl (lv_at hl 0 rfl) ?_
  refine wx_getr (t := h + 2) (C := RX3) (T := TX3) (N := 15) (ci := 3) (j := 10) hx hb hts hi_X3 hown hK hX hh.l0 (sh_X3_10 hh) rfl (by decide) (hts (.fieldLink RX3 15 "SeenAgain$House" "drawn" "[I") (by decide +kernel)) (fun _ h9 => h9) dX3_openCurtain_19 ?_
  refine lv_iload_n hx hb dX3_openCurtain_22 rfl (lv_at hl 2 rfl) ?_
  refine lv_iload_n hx hb dX3_openCurtain_23 rfl (lv_at hl 3 rfl) ?_
  refine wx_callr (va_runSN (As := [.int a2, .int a3]) (rest := [.ref (ad (h + 2))]) ⟨hx, hb, hml, hown, hts⟩ (k_X11_seatNumber l g_2 a2 a3) ⟨va_cnB 2 hts gX3_openCurtain_X11_seatNumber_n82 rfl rfl rfl hK.2.1.2 (hts (.initialized RX11) (by decide +kernel)) (by decide +kernel) (by rw [hR]; exact ⟨Nat.le_of_ble_eq_true rfl, Nat.le_of_ble_eq_true rfl⟩), hts (.static yX11_seatNumber) (by decide +kernel), trivial⟩ (wx_Pc.pre hK hX) rfl rfl hl.1 rfl (lv_room (Nat.le_of_ble_eq_true rfl)) dX3_openCurtain_24 ⟨Nat.zero_le _, Nat.zero_le _⟩) ?_
  refine lv_dup2_11 hx hb dX3_openCurtain_27 rfl rfl ?_
  refine wx_iald hx hb hK hX hh.l2 (sa_X3_2 hh) (wb_in (rg_seat (wb_w b2 (by decide) (by decide)) (wb_w b3 (by decide) (by decide))) (by decide) (by decide)) dX3_openCurtain_28 ?_
  refine lv_iconst (v := 1) hx hb dX3_openCurtain_29 (by decide) ?_
  refine lv_iload_n hx hb dX3_openCurtain_30 rfl (lv_at hl 1 rfl) ?_
  refine lv_ishl hx hb dX3_openCurtain_31 ?_
  refine lv_iconst (v := (-1)) hx hb dX3_openCurtain_32 (by decide) ?_
  refine lv_ixor hx hb dX3_openCurtain_33 ?_
  refine lv_iand hx hb dX3_openCurtain_34 ?_
  refine lv_topi (fun x_3 ex_3 => ?_)
  refine wx_iast hx hb hK hX hS hh.l2 (sa_X3_2 hh) (wb_in (rg_seat (wb_w b2 (by decide) (by decide)) (wb_w b3 (by decide) (by decide))) (by decide) (by decide)) dX3_openCurtain_35 (fun H locs hX hS => ?_)
  obtain ⟨g_4, eg_4, hX⟩ := wx_nm hX
  refine lv_aload_n hx hb dX3_openCurtain_36 rfl (lv_at hl 0 rfl) ?_
  refine lv_dup hx hb dX3_openCurtain_37 rfl ?_
  refine wx_geti (C := RX3) (T := TX3) (N := 15) (ci := 3) (j := 7) hx hb hts hi_X3 hown hK hX hh.l0 (sh_X3_7 hh) rfl (by decide) (hts (.fieldLink RX3 66 "SeenAgain$House" "curtains" "I") (by decide +kernel)) (fun _ h9 => h9) dX3_openCurtain_38 ?_
  refine lv_iconst (v := 1) hx hb dX3_openCurtain_41 (by decide) ?_
  refine lv_isub hx hb dX3_openCurtain_42 ?_
  refine lv_topi (fun x_5 ex_5 => ?_)
  refine wx_puti (C := RX3) (T := TX3) (N := 15) (ci := 3) (j := 7) (ty := .int) hx hb hts hi_X3 tyX3 tyX3_ok nmX3 hown hK hX hS hh.l0 (sh_X3_7 hh) rfl (by decide) (hts (.fieldLink RX3 66 "SeenAgain$House" "curtains" "I") (by decide +kernel)) (fun _ h9 => h9) rfl (by decide +kernel) rfl rfl dX3_openCurtain_43 (fun H locs hX hS => ?_)
  obtain ⟨g_6, eg_6, hX⟩ := wx_nm hX
  exact hret _ _ _ _ _ dX3_openCurtain_46 hX hS (by subst eg_6 ex_5 eg_4 ex_3 eg_2 ex_1; simp only [e_X3_openCurtain])
def b_J7_fill_53178_5 (g : wx_M) (ka : Nat) (an : Nat) (a2 : Int32) (t_5 : Nat) (s_5 : wx_M) : wx_M :=
  let g_2 := up2 s_5 ka (nI t_5).toNatClampNeg a2
  g_2
def e_J7_fill_53178 (g : wx_M) (ka : Nat) (an : Nat) (a2 : Int32) : wx_M :=
  let s_5 := rep (nI an).toNatClampNeg (b_J7_fill_53178_5 g ka an a2) g
  s_5
set_option maxHeartbeats 4000000 in
set_option maxRecDepth 100000 in
theorem k_J7_fill_53178 (l : Launch) {D : va_G} {cy : Nat → ClassId} {ad : Nat → Nat} {B0 : Nat} {f : wx_F} {P : va_W} (g : wx_M) (ka : Nat) (an : Nat) (a2 : Int32) (hka : ka < 70) (hsa : wx_sA ka an) (han : an < 2147483648) : Met l yJ7_fill_53178 wsJ7_fill_53178 ({ frames := 0, cells := 0, slots := 0, locals := 0 } : Room) (wx_Pc D cy ad B0 f P g [.ref (ad ka), .int a2]) (wx_Qe D cy ad B0 f P (e_J7_fill_53178 g ka an a2) none) 0 0 (fun q => B0 ≤ q) := by
  refine wx_enterV (cc := cJ7_fill_53178) (maxL := 4) (own := RJ7) (lv := [(0, .ref (ad ka)), (1, .int a2)]) (by decide) rfl rfl (Nat.le_of_ble_eq_true rfl) rfl ?_
  intro p e R s m args below meth c ls Qm hx hb hml hown hts hK hX hS hR hret hl
  refine lv_iconst (v := 0) hx hb dJ7_fill_53178_0 (by decide) ?_
  refine lv_istore_n (lv' := [(2, .int 0), (0, .ref (ad ka)), (1, .int a2)]) hx hb dJ7_fill_53178_1 rfl hl (by decide) rfl (fun ls hl => ?_)
  refine lv_aload_n hx hb dJ7_fill_53178_2 rfl (lv_at hl 1 rfl) ?_
  refine wx_alen (v := nI an) hx hb hK hX hka hsa rfl dJ7_fill_53178_3 ?_
  refine lv_istore_n (lv' := [(3, .int (nI an)), (2, .int 0), (0, .ref (ad ka)), (1, .int a2)]) hx hb dJ7_fill_53178_4 rfl hl (by decide) rfl (fun ls hl => ?_)
  have lp_5 : ∀ (n t_5 : Nat) (s_5 : wx_M) (ls : Array Slot) (H : Heap) (locs : List Loc), t_5 ≤ (nI an).toNatClampNeg → (nI an).toNatClampNeg + 1 ≤ t_5 + n → s_5 = rep t_5 (b_J7_fill_53178_5 g ka an a2) g → wx_X D cy ad B0 f P s_5 H → va_S (fun q => B0 ≤ q) s.heap H locs → lv_has ls 4 [(2, .int (nI t_5)), (3, .int (nI an)), (0, .ref (ad ka)), (1, .int a2)] → W p l e R s m args below meth c H locs 0 0 Qm (F0 m 5 ls []) := by
    intro n
    induction n with
    | zero => intro t_5 s_5 ls H locs h1 h2; exact absurd h2 (by omega)
    | succ n ih_5 =>
      intro t_5 s_5 ls H locs ht_5 hn_5 es_5 hX hS hl
      refine lv_iload_n hx hb dJ7_fill_53178_5 rfl (lv_at hl 0 rfl) ?_
      refine lv_iload_n hx hb dJ7_fill_53178_6 rfl (lv_at hl 1 rfl) ?_
      refine lv_icmp_ge (tgt := 20) hx hb dJ7_fill_53178_7 (by decide) (fun c_1 => ?_) (fun c_1 => ?_)
      · have et_5 : t_5 = (nI an).toNatClampNeg := Nat.le_antisymm ht_5 (by have h9 := wx_dn (by have := wx_cl31 (nI an); omega) c_1; omega)
        subst et_5
        exact hret _ _ _ _ _ dJ7_fill_53178_20 hX hS (by simp only [e_J7_fill_53178, ← es_5])
      · have hlt_5 : t_5 < (nI an).toNatClampNeg := by have h9 := wx_up (by have := wx_cl31 (nI an); omega) c_1; omega
        have bt_5 : wx_b (nI (t_5)) 0 2147483646 := wb_nI (n := 2147483646) (by have := wx_cl31 (nI an); omega) (by decide)
        refine lv_aload_n hx hb dJ7_fill_53178_10 rfl (lv_at hl 2 rfl) ?_
        refine lv_iload_n hx hb dJ7_fill_53178_11 rfl (lv_at hl 0 rfl) ?_
        refine lv_iload_n hx hb dJ7_fill_53178_12 rfl (lv_at hl 3 rfl) ?_
        refine wx_iast hx hb hK hX hS hka hsa (vp_in_nI (by have h8 := nI_clamp (n := an) (by omega); omega) (by omega)) dJ7_fill_53178_13 (fun H locs hX hS => ?_)
        obtain ⟨g_2, eg_2, hX⟩ := wx_nm hX
        refine lv_iinc (v := nI (t_5 + 1)) (lv' := [(2, .int (nI (t_5 + 1))), (3, .int (nI an)), (0, .ref (ad ka)), (1, .int a2)]) hx hb dJ7_fill_53178_14 hl (k := 0) rfl (wx_inc _) (by decide) rfl (fun ls hl => ?_)
        refine lv_goto (tgt := 5) hx hb dJ7_fill_53178_17 (by decide) ?_
        have hF_3 : (b_J7_fill_53178_5 g ka an a2) t_5 s_5 = g_2 := (by subst eg_2; simp only [b_J7_fill_53178_5])
        exact ih_5 (t_5 + 1) g_2 ls H locs hlt_5 (by omega) (by rw [rep_succ, ← es_5, hF_3]) hX hS (lv_sub hl [0, 1, 2, 3] rfl)
  exact lp_5 ((nI an).toNatClampNeg + 1) 0 g ls s.heap [] (Nat.zero_le _) (by omega) rfl hX hS (lv_sub hl [1, 0, 2, 3] rfl)
def e_X3_forgetTold (g : wx_M) (h : Nat) : wx_M :=
  let g_1 := up2 g h 3 0
  let g_2 := up2 g_1 h 4 0
  let g_3 := up2 g_2 h 5 0
  let g_4 := e_J7_fill_53178 g_3 (h + 1) 6 0
  g_4
set_option maxHeartbeats 4000000 in
set_option maxRecDepth 100000 in
theorem k_X3_forgetTold (l : Launch) {D : va_G} {cy : Nat → ClassId} {ad : Nat → Nat} {B0 : Nat} {f : wx_F} {P : va_W} (g : wx_M) (h : Nat) (hh : wx_H h) : Met l yX3_forgetTold wsX3_forgetTold ({ frames := 1, cells := 0, slots := 0, locals := 23 } : Room) (wx_Pc D cy ad B0 f P g [.ref (ad h)]) (wx_Qe D cy ad B0 f P (e_X3_forgetTold g h) none) 0 0 (fun q => B0 ≤ q) := by
  refine wx_enterV (cc := cX3_forgetTold) (maxL := 1) (own := RX3) (lv := [(0, .ref (ad h))]) (by decide) rfl rfl (Nat.le_of_ble_eq_true rfl) rfl ?_
  intro p e R s m args below meth c ls Qm hx hb hml hown hts hK hX hS hR hret hl
  have hi_X3 : ∀ w ∈ wsX30, w ∈ wsX3_forgetTold := by decide +kernel
  refine lv_aload_n hx hb dX3_forgetTold_0 rfl (lv_at hl 0 rfl) ?_
  refine lv_iconst (v := 0) hx hb dX3_forgetTold_1 (by decide) ?_
  refine wx_puti (C := RX3) (T := TX3) (N := 15) (ci := 3) (j := 3) (ty := .int) hx hb hts hi_X3 tyX3 tyX3_ok nmX3 hown hK hX hS hh.l0 (sh_X3_3 hh) rfl (by decide) (hts (.fieldLink RX3 38 "SeenAgain$House" "walls" "I") (by decide +kernel)) (fun _ h9 => h9) rfl (by decide +kernel) rfl rfl dX3_forgetTold_2 (fun H locs hX hS => ?_)
  obtain ⟨g_1, eg_1, hX⟩ := wx_nm hX
  refine lv_aload_n hx hb dX3_forgetTold_5 rfl (lv_at hl 0 rfl) ?_
  refine lv_iconst (v := 0) hx hb dX3_forgetTold_6 (by decide) ?_
  refine wx_puti (C := RX3) (T := TX3) (N := 15) (ci := 3) (j := 4) (ty := .int) hx hb hts hi_X3 tyX3 tyX3_ok nmX3 hown hK hX hS hh.l0 (sh_X3_4 hh) rfl (by decide) (hts (.fieldLink RX3 42 "SeenAgain$House" "people" "I") (by decide +kernel)) (fun _ h9 => h9) rfl (by decide +kernel) rfl rfl dX3_forgetTold_7 (fun H locs hX hS => ?_)
  obtain ⟨g_2, eg_2, hX⟩ := wx_nm hX
  refine lv_aload_n hx hb dX3_forgetTold_10 rfl (lv_at hl 0 rfl) ?_
  refine lv_iconst (v := 0) hx hb dX3_forgetTold_11 (by decide) ?_
  refine wx_puti (C := RX3) (T := TX3) (N := 15) (ci := 3) (j := 5) (ty := .int) hx hb hts hi_X3 tyX3 tyX3_ok nmX3 hown hK hX hS hh.l0 (sh_X3_5 hh) rfl (by decide) (hts (.fieldLink RX3 45 "SeenAgain$House" "visitors" "I") (by decide +kernel)) (fun _ h9 => h9) rfl (by decide +kernel) rfl rfl dX3_forgetTold_12 (fun H locs hX hS => ?_)
  obtain ⟨g_3, eg_3, hX⟩ := wx_nm hX
  refine lv_aload_n hx hb dX3_forgetTold_15 rfl (lv_at hl 0 rfl) ?_
  refine wx_getr (t := h + 1) (C := RX3) (T := TX3) (N := 15) (ci := 3) (j := 9) hx hb hts hi_X3 hown hK hX hh.l0 (sh_X3_9 hh) rfl (by decide) (hts (.fieldLink RX3 9 "SeenAgain$House" "windows" "[I") (by decide +kernel)) (fun _ h9 => h9) dX3_forgetTold_16 ?_
  refine lv_iconst (v := 0) hx hb dX3_forgetTold_19 (by decide) ?_
  refine wx_callev (va_runS (As := [.ref (ad (h + 1)), .int 0]) (rest := []) ⟨hx, hb, hml, hown, hts⟩ (k_J7_fill_53178 l g_3 (h + 1) 6 0 hh.l1 (sa_X3_1 hh) (by decide)) (va_cwS 2 hts gX3_forgetTold_J7_fill_53178 rfl rfl rfl (by decide +kernel) (by rw [hR]; exact ⟨Nat.le_of_ble_eq_true rfl, Nat.le_of_ble_eq_true rfl⟩)) (wx_Pc.pre hK hX) rfl rfl hl.1 rfl (lv_room (Nat.le_of_ble_eq_true rfl)) dX3_forgetTold_20 ⟨Nat.zero_le _, Nat.zero_le _⟩) hS (fun H locs hX hS => ?_)
  obtain ⟨g_4, eg_4, hX⟩ := wx_nm hX
  exact hret _ _ _ _ _ dX3_forgetTold_23 hX hS (by subst eg_4 eg_3 eg_2 eg_1; simp only [e_X3_forgetTold])
def e_X5_begin (g : wx_M) (k : Nat) (a1 : Int32) (a2 : Int32) : wx_M :=
  let g_1 := e_J7_fill_53178 g (k + 8) 40 0
  let g_2 := up2 g_1 k 1 a1
  let g_3 := up2 g_2 k 2 a2
  let g_4 := up2 g_3 k 3 0
  g_4
set_option maxHeartbeats 4000000 in
set_option maxRecDepth 100000 in
theorem k_X5_begin (l : Launch) {D : va_G} {cy : Nat → ClassId} {ad : Nat → Nat} {B0 : Nat} {f : wx_F} {P : va_W} (g : wx_M) (k : Nat) (a1 : Int32) (a2 : Int32) (hk : wx_Rk k) : Met l yX5_begin wsX5_begin ({ frames := 1, cells := 0, slots := 0, locals := 23 } : Room) (wx_Pc D cy ad B0 f P g [.ref (ad k), .int a1, .int a2]) (wx_Qe D cy ad B0 f P (e_X5_begin g k a1 a2) none) 0 0 (fun q => B0 ≤ q) := by
  refine wx_enterV (cc := cX5_begin) (maxL := 3) (own := RX5) (lv := [(0, .ref (ad k)), (1, .int a1), (2, .int a2)]) (by decide) rfl rfl (Nat.le_of_ble_eq_true rfl) rfl ?_
  intro p e R s m args below meth c ls Qm hx hb hml hown hts hK hX hS hR hret hl
  have hi_X5 : ∀ w ∈ wsX50, w ∈ wsX5_begin := by decide +kernel
  refine lv_aload_n hx hb dX5_begin_0 rfl (lv_at hl 0 rfl) ?_
  refine wx_getr (t := k + 8) (C := RX5) (T := TX5) (N := 4) (ci := 5) (j := 0) hx hb hts hi_X5 hown hK hX (by have := hk.2; omega) (sh_X5_0 hk) rfl (by decide) (hts (.fieldLink RX5 9 "SeenAgain$Row" "items" "[I") (by decide +kernel)) (fun _ h9 => h9) dX5_begin_1 ?_
  refine lv_iconst (v := 0) hx hb dX5_begin_4 (by decide) ?_
  refine wx_callev (va_runS (As := [.ref (ad (k + 8)), .int 0]) (rest := []) ⟨hx, hb, hml, hown, hts⟩ (k_J7_fill_53178 l g (k + 8) 40 0 (by have := hk.2; omega) (sa_X5 hk) (by decide)) (va_cwS 2 hts gX5_begin_J7_fill_53178 rfl rfl rfl (by decide +kernel) (by rw [hR]; exact ⟨Nat.le_of_ble_eq_true rfl, Nat.le_of_ble_eq_true rfl⟩)) (wx_Pc.pre hK hX) rfl rfl hl.1 rfl (lv_room (Nat.le_of_ble_eq_true rfl)) dX5_begin_5 ⟨Nat.zero_le _, Nat.zero_le _⟩) hS (fun H locs hX hS => ?_)
  obtain ⟨g_1, eg_1, hX⟩ := wx_nm hX
  refine lv_aload_n hx hb dX5_begin_8 rfl (lv_at hl 0 rfl) ?_
  refine lv_iload_n hx hb dX5_begin_9 rfl (lv_at hl 1 rfl) ?_
  refine wx_puti (C := RX5) (T := TX5) (N := 4) (ci := 5) (j := 1) (ty := .int) hx hb hts hi_X5 tyX5 tyX5_ok nmX5 hown hK hX hS (by have := hk.2; omega) (sh_X5_1 hk) rfl (by decide) (hts (.fieldLink RX5 25 "SeenAgain$Row" "lane" "I") (by decide +kernel)) (fun _ h9 => h9) rfl (by decide +kernel) rfl rfl dX5_begin_10 (fun H locs hX hS => ?_)
  obtain ⟨g_2, eg_2, hX⟩ := wx_nm hX
  refine lv_aload_n hx hb dX5_begin_13 rfl (lv_at hl 0 rfl) ?_
  refine lv_iload_n hx hb dX5_begin_14 rfl (lv_at hl 2 rfl) ?_
  refine wx_puti (C := RX5) (T := TX5) (N := 4) (ci := 5) (j := 2) (ty := .int) hx hb hts hi_X5 tyX5 tyX5_ok nmX5 hown hK hX hS (by have := hk.2; omega) (sh_X5_2 hk) rfl (by decide) (hts (.fieldLink RX5 29 "SeenAgain$Row" "size" "I") (by decide +kernel)) (fun _ h9 => h9) rfl (by decide +kernel) rfl rfl dX5_begin_15 (fun H locs hX hS => ?_)
  obtain ⟨g_3, eg_3, hX⟩ := wx_nm hX
  refine lv_aload_n hx hb dX5_begin_18 rfl (lv_at hl 0 rfl) ?_
  refine lv_iconst (v := 0) hx hb dX5_begin_19 (by decide) ?_
  refine wx_puti (C := RX5) (T := TX5) (N := 4) (ci := 5) (j := 3) (ty := .boolean) hx hb hts hi_X5 tyX5 tyX5_ok nmX5 hown hK hX hS (by have := hk.2; omega) (sh_X5_3 hk) rfl (by decide) (hts (.fieldLink RX5 15 "SeenAgain$Row" "missing" "Z") (by decide +kernel)) (fun _ h9 => h9) rfl (by decide +kernel) rfl rfl dX5_begin_20 (fun H locs hX hS => ?_)
  obtain ⟨g_4, eg_4, hX⟩ := wx_nm hX
  exact hret _ _ _ _ _ dX5_begin_23 hX hS (by subst eg_4 eg_3 eg_2 eg_1; simp only [e_X5_begin])
def r_X5_hasItems (g : wx_M) (k : Nat) (a1 : Int32) (a2 : Int32) : Int32 :=
  if a1 < 0 then
    0
  else
    if a2 < 0 then
      0
    else
      if (g k 2) < a1 then
        0
      else
        if ((g k 2) - a1) < a2 then
          0
        else
          1
set_option maxHeartbeats 4000000 in
set_option maxRecDepth 100000 in
theorem k_X5_hasItems (l : Launch) {D : va_G} {cy : Nat → ClassId} {ad : Nat → Nat} {B0 : Nat} {f : wx_F} {P : va_W} (g : wx_M) (k : Nat) (a1 : Int32) (a2 : Int32) (hk : wx_Rk k) : Met l yX5_hasItems wsX5_hasItems ({ frames := 0, cells := 0, slots := 0, locals := 0 } : Room) (wx_Pc D cy ad B0 f P g [.ref (ad k), .int a1, .int a2]) (QcRead (r_X5_hasItems g k a1 a2)) 0 0 (fun _ => False) := by
  refine wx_enterR (cc := cX5_hasItems) (maxL := 3) (ty := .boolean) (own := RX5) (lv := [(0, .ref (ad k)), (1, .int a1), (2, .int a2)]) (by decide) rfl rfl (Nat.le_of_ble_eq_true rfl) rfl ?_
  intro p e R s m args below meth c ls Qm hx hb hml hown hts hK hX hR hret hl
  have hi_X5 : ∀ w ∈ wsX50, w ∈ wsX5_hasItems := by decide +kernel
  refine lv_iload_n hx hb dX5_hasItems_0 rfl (lv_at hl 1 rfl) ?_
  refine lv_if_lt (tgt := 30) hx hb dX5_hasItems_1 (by decide) (fun c_1 => ?_) (fun c_1 => ?_)
  · have b_2 : wx_b a1 (-2147483648) (-1) := wb_lt c_1 (wb_any _) (show wx_b 0 0 0 from ⟨by decide, by decide⟩) (by decide) (by decide)
    refine lv_iconst (v := 0) hx hb dX5_hasItems_30 (by decide) ?_
    exact hret _ _ _ dX5_hasItems_31 rfl (by simp only [r_X5_hasItems, if_pos c_1])
  · have b_3 : wx_b a1 0 2147483647 := wb_ge (wb_nlt c_1) (wb_any _) (show wx_b 0 0 0 from ⟨by decide, by decide⟩) (by decide) (by decide)
    refine lv_iload_n hx hb dX5_hasItems_4 rfl (lv_at hl 2 rfl) ?_
    refine lv_if_lt (tgt := 30) hx hb dX5_hasItems_5 (by decide) (fun c_4 => ?_) (fun c_4 => ?_)
    · have b_5 : wx_b a2 (-2147483648) (-1) := wb_lt c_4 (wb_any _) (show wx_b 0 0 0 from ⟨by decide, by decide⟩) (by decide) (by decide)
      refine lv_iconst (v := 0) hx hb dX5_hasItems_30 (by decide) ?_
      exact hret _ _ _ dX5_hasItems_31 rfl (by simp only [r_X5_hasItems, if_neg c_1, if_pos c_4])
    · have b_6 : wx_b a2 0 2147483647 := wb_ge (wb_nlt c_4) (wb_any _) (show wx_b 0 0 0 from ⟨by decide, by decide⟩) (by decide) (by decide)
      refine lv_iload_n hx hb dX5_hasItems_8 rfl (lv_at hl 1 rfl) ?_
      refine lv_aload_n hx hb dX5_hasItems_9 rfl (lv_at hl 0 rfl) ?_
      refine wx_geti (C := RX5) (T := TX5) (N := 4) (ci := 5) (j := 2) hx hb hts hi_X5 hown hK hX (by have := hk.2; omega) (sh_X5_2 hk) rfl (by decide) (hts (.fieldLink RX5 29 "SeenAgain$Row" "size" "I") (by decide +kernel)) (fun _ h9 => h9) dX5_hasItems_10 ?_
      refine lv_icmp_gt (tgt := 30) hx hb dX5_hasItems_13 (by decide) (fun c_7 => ?_) (fun c_7 => ?_)
      · have b_8 : wx_b (g k 2) (-2147483648) 2147483646 := wb_lt c_7 (wb_any _) b_3 (by decide) (by decide)
        refine lv_iconst (v := 0) hx hb dX5_hasItems_30 (by decide) ?_
        exact hret _ _ _ dX5_hasItems_31 rfl (by simp only [r_X5_hasItems, if_neg c_1, if_neg c_4, if_pos c_7])
      · have b_9 : wx_b (g k 2) 0 2147483647 := wb_ge (wb_nlt c_7) (wb_any _) b_3 (by decide) (by decide)
        refine lv_iload_n hx hb dX5_hasItems_16 rfl (lv_at hl 2 rfl) ?_
        refine lv_aload_n hx hb dX5_hasItems_17 rfl (lv_at hl 0 rfl) ?_
        refine wx_geti (C := RX5) (T := TX5) (N := 4) (ci := 5) (j := 2) hx hb hts hi_X5 hown hK hX (by have := hk.2; omega) (sh_X5_2 hk) rfl (by decide) (hts (.fieldLink RX5 29 "SeenAgain$Row" "size" "I") (by decide +kernel)) (fun _ h9 => h9) dX5_hasItems_18 ?_
        refine lv_iload_n hx hb dX5_hasItems_21 rfl (lv_at hl 1 rfl) ?_
        refine lv_isub hx hb dX5_hasItems_22 ?_
        refine lv_icmp_gt (tgt := 30) hx hb dX5_hasItems_23 (by decide) (fun c_10 => ?_) (fun c_10 => ?_)
        · have b_11 : wx_b ((g k 2) - a1) (-2147483647) 2147483646 := wb_lt c_10 (wb_sub b_9 b_3 (by decide) (by decide)) b_6 (by decide) (by decide)
          refine lv_iconst (v := 0) hx hb dX5_hasItems_30 (by decide) ?_
          exact hret _ _ _ dX5_hasItems_31 rfl (by simp only [r_X5_hasItems, if_neg c_1, if_neg c_4, if_neg c_7, if_pos c_10])
        · have b_12 : wx_b ((g k 2) - a1) 0 2147483647 := wb_ge (wb_nlt c_10) (wb_sub b_9 b_3 (by decide) (by decide)) b_6 (by decide) (by decide)
          refine lv_iconst (v := 1) hx hb dX5_hasItems_26 (by decide) ?_
          refine lv_goto (tgt := 31) hx hb dX5_hasItems_27 (by decide) ?_
          exact hret _ _ _ dX5_hasItems_31 rfl (by simp only [r_X5_hasItems, if_neg c_1, if_neg c_4, if_neg c_7, if_neg c_10])
theorem nb_r_X5_hasItems (g : wx_M) (k : Nat) (a1 : Int32) (a2 : Int32) : narrow .boolean (.int (r_X5_hasItems g k a1 a2)) = .int (r_X5_hasItems g k a1 a2) := by
  unfold r_X5_hasItems
  (repeat' split) <;> rfl
def r_X5_cutToLane (g : wx_M) (k : Nat) (a1 : Int32) : Int32 :=
  let x_1 := (g k 1)
  if x_1 = 0 then
    a1.toInt8.toInt32
  else
    if x_1 = 1 then
      a1.toInt16.toInt32
    else
      a1
set_option maxHeartbeats 4000000 in
set_option maxRecDepth 100000 in
theorem k_X5_cutToLane (l : Launch) {D : va_G} {cy : Nat → ClassId} {ad : Nat → Nat} {B0 : Nat} {f : wx_F} {P : va_W} (g : wx_M) (k : Nat) (a1 : Int32) (hk : wx_Rk k) : Met l yX5_cutToLane wsX5_cutToLane ({ frames := 0, cells := 0, slots := 0, locals := 0 } : Room) (wx_Pc D cy ad B0 f P g [.ref (ad k), .int a1]) (QcRead (r_X5_cutToLane g k a1)) 0 0 (fun _ => False) := by
  refine wx_enterR (cc := cX5_cutToLane) (maxL := 2) (ty := .int) (own := RX5) (lv := [(0, .ref (ad k)), (1, .int a1)]) (by decide) rfl rfl (Nat.le_of_ble_eq_true rfl) rfl ?_
  intro p e R s m args below meth c ls Qm hx hb hml hown hts hK hX hR hret hl
  have hi_X5 : ∀ w ∈ wsX50, w ∈ wsX5_cutToLane := by decide +kernel
  refine lv_aload_n hx hb dX5_cutToLane_0 rfl (lv_at hl 0 rfl) ?_
  refine wx_geti (C := RX5) (T := TX5) (N := 4) (ci := 5) (j := 1) hx hb hts hi_X5 hown hK hX (by have := hk.2; omega) (sh_X5_1 hk) rfl (by decide) (hts (.fieldLink RX5 25 "SeenAgain$Row" "lane" "I") (by decide +kernel)) (fun _ h9 => h9) dX5_cutToLane_1 ?_
  refine lv_topi (fun x_1 ex_1 => ?_)
  by_cases c_2 : x_1 = 0
  · have b_3 : wx_b x_1 0 0 := by rw [c_2]; exact ⟨by decide, by decide⟩
    refine lv_lookup (tgt := 32) (off := 28) hx hb dX5_cutToLane_4 (by decide) (by rw [c_2]; rfl) (by decide) ?_
    refine lv_iload_n hx hb dX5_cutToLane_32 rfl (lv_at hl 1 rfl) ?_
    refine lv_i2b hx hb dX5_cutToLane_33 rfl ?_
    exact hret _ _ _ dX5_cutToLane_34 rfl (by subst ex_1; simp only [r_X5_cutToLane, if_pos c_2])
  · by_cases c_4 : x_1 = 1
    · have b_5 : wx_b x_1 1 1 := by rw [c_4]; exact ⟨by decide, by decide⟩
      refine lv_lookup (tgt := 35) (off := 31) hx hb dX5_cutToLane_4 (by decide) (by rw [c_4]; rfl) (by decide) ?_
      refine lv_iload_n hx hb dX5_cutToLane_35 rfl (lv_at hl 1 rfl) ?_
      refine lv_i2s hx hb dX5_cutToLane_36 rfl ?_
      exact hret _ _ _ dX5_cutToLane_37 rfl (by subst ex_1; simp only [r_X5_cutToLane, if_neg c_2, if_pos c_4])
    · refine lv_lookup (tgt := 38) (off := 34) hx hb dX5_cutToLane_4 (by decide) (by show Op.lookupswitch.offset [(0, 28), (1, 31)] 34 _ = _; rw [lv_osw c_2 (by decide), lv_osw c_4 (by decide)]; rfl) (by decide) ?_
      refine lv_iload_n hx hb dX5_cutToLane_38 rfl (lv_at hl 1 rfl) ?_
      exact hret _ _ _ dX5_cutToLane_39 rfl (by subst ex_1; simp only [r_X5_cutToLane, if_neg c_2, if_neg c_4])
def e_X0_forgetAll (g : wx_M) : wx_M :=
  let g_1 := up2 g 49 6 0
  g_1
set_option maxHeartbeats 4000000 in
set_option maxRecDepth 100000 in
theorem k_X0_forgetAll (l : Launch) {D : va_G} {cy : Nat → ClassId} {ad : Nat → Nat} {B0 : Nat} {f : wx_F} {P : va_W} (g : wx_M) : Met l yX0_forgetAll wsX0_forgetAll ({ frames := 0, cells := 0, slots := 0, locals := 0 } : Room) (wx_Pc D cy ad B0 f P g [.ref (ad 49)]) (wx_Qe D cy ad B0 f P (e_X0_forgetAll g) none) 0 0 (fun q => B0 ≤ q) := by
  refine wx_enterV (cc := cX0_forgetAll) (maxL := 1) (own := RX0) (lv := [(0, .ref (ad 49))]) (by decide) rfl rfl (Nat.le_of_ble_eq_true rfl) rfl ?_
  intro p e R s m args below meth c ls Qm hx hb hml hown hts hK hX hS hR hret hl
  have hi_X0 : ∀ w ∈ wsX00, w ∈ wsX0_forgetAll := by decide +kernel
  refine lv_aload_n hx hb dX0_forgetAll_0 rfl (lv_at hl 0 rfl) ?_
  refine lv_iconst (v := 0) hx hb dX0_forgetAll_1 (by decide) ?_
  refine wx_puti (C := RX0) (T := TX0) (N := 7) (ci := 0) (j := 6) (ty := .int) hx hb hts hi_X0 tyX0 tyX0_ok nmX0 hown hK hX hS (by decide) sh_X0_6 rfl (by decide) (hts (.fieldLink RX0 25 "SeenAgain$Acts" "kept" "I") (by decide +kernel)) (fun _ h9 => h9) rfl (by decide +kernel) rfl rfl dX0_forgetAll_2 (fun H locs hX hS => ?_)
  obtain ⟨g_1, eg_1, hX⟩ := wx_nm hX
  exact hret _ _ _ _ _ dX0_forgetAll_5 hX hS (by subst eg_1; simp only [e_X0_forgetAll])
def e_X0_keep (g : wx_M) (a1 : Int32) (a2 : Int32) (a3 : Int32) (a4 : Int32) (a5 : Int32) : wx_M :=
  let g_1 := up2 g 50 (g 49 5).toNatClampNeg a1
  let g_2 := up2 g_1 51 (g_1 49 5).toNatClampNeg a2
  let g_3 := up2 g_2 52 (g_2 49 5).toNatClampNeg a3
  let g_4 := up2 g_3 53 (g_3 49 5).toNatClampNeg a4
  let g_5 := up2 g_4 54 (g_4 49 5).toNatClampNeg a5
  if (g_5 49 5) = 23 then
    let g_13 := up2 g_5 49 5 0
    let x_14 := (if ((g_13 49 6) + 1) < 24 then ((g_13 49 6) + 1) else 24)
    let g_15 := up2 g_13 49 6 x_14
    g_15
  else
    let x_8 := ((g_5 49 5) + 1)
    let g_9 := up2 g_5 49 5 x_8
    let x_10 := (if ((g_9 49 6) + 1) < 24 then ((g_9 49 6) + 1) else 24)
    let g_11 := up2 g_9 49 6 x_10
    g_11
set_option maxHeartbeats 4000000 in
set_option maxRecDepth 100000 in
theorem k_X0_keep (l : Launch) {D : va_G} {cy : Nat → ClassId} {ad : Nat → Nat} {B0 : Nat} {f : wx_F} {P : va_W} (g : wx_M) (a1 : Int32) (a2 : Int32) (a3 : Int32) (a4 : Int32) (a5 : Int32) (hn : wx_b (g 49 5) 0 23) : Met l yX0_keep wsX0_keep ({ frames := 1, cells := 0, slots := 0, locals := 29 } : Room) (wx_Pc D cy ad B0 f P g [.ref (ad 49), .int a1, .int a2, .int a3, .int a4, .int a5]) (wx_Qe D cy ad B0 f P (e_X0_keep g a1 a2 a3 a4 a5) none) 0 0 (fun q => B0 ≤ q) := by
  refine wx_enterV (cc := cX0_keep) (maxL := 6) (own := RX0) (lv := [(0, .ref (ad 49)), (1, .int a1), (2, .int a2), (3, .int a3), (4, .int a4), (5, .int a5)]) (by decide) rfl rfl (Nat.le_of_ble_eq_true rfl) rfl ?_
  intro p e R s m args below meth c ls Qm hx hb hml hown hts hK hX hS hR hret hl
  have hi_X0 : ∀ w ∈ wsX00, w ∈ wsX0_keep := by decide +kernel
  refine lv_aload_n hx hb dX0_keep_0 rfl (lv_at hl 0 rfl) ?_
  refine wx_getr (t := 50) (C := RX0) (T := TX0) (N := 7) (ci := 0) (j := 0) hx hb hts hi_X0 hown hK hX (by decide) sh_X0_0 rfl (by decide) (hts (.fieldLink RX0 9 "SeenAgain$Acts" "whats" "[I") (by decide +kernel)) (fun _ h9 => h9) dX0_keep_1 ?_
  refine lv_aload_n hx hb dX0_keep_4 rfl (lv_at hl 0 rfl) ?_
  refine wx_geti (C := RX0) (T := TX0) (N := 7) (ci := 0) (j := 5) hx hb hts hi_X0 hown hK hX (by decide) sh_X0_5 rfl (by decide) (hts (.fieldLink RX0 29 "SeenAgain$Acts" "next" "I") (by decide +kernel)) (fun _ h9 => h9) dX0_keep_5 ?_
  refine lv_iload_n hx hb dX0_keep_8 rfl (lv_at hl 1 rfl) ?_
  refine wx_iast hx hb hK hX hS (by decide) sa_50 (wb_in hn (by decide) (by decide)) dX0_keep_9 (fun H locs hX hS => ?_)
  obtain ⟨g_1, eg_1, hX⟩ := wx_nm hX
  refine lv_aload_n hx hb dX0_keep_10 rfl (lv_at hl 0 rfl) ?_
  refine wx_getr (t := 51) (C := RX0) (T := TX0) (N := 7) (ci := 0) (j := 1) hx hb hts hi_X0 hown hK hX (by decide) sh_X0_1 rfl (by decide) (hts (.fieldLink RX0 13 "SeenAgain$Acts" "firsts" "[I") (by decide +kernel)) (fun _ h9 => h9) dX0_keep_11 ?_
  refine lv_aload_n hx hb dX0_keep_14 rfl (lv_at hl 0 rfl) ?_
  refine wx_geti (C := RX0) (T := TX0) (N := 7) (ci := 0) (j := 5) hx hb hts hi_X0 hown hK hX (by decide) sh_X0_5 rfl (by decide) (hts (.fieldLink RX0 29 "SeenAgain$Acts" "next" "I") (by decide +kernel)) (fun _ h9 => h9) dX0_keep_15 ?_
  refine lv_iload_n hx hb dX0_keep_18 rfl (lv_at hl 2 rfl) ?_
  refine wx_iast hx hb hK hX hS (by decide) sa_51 (wb_in (show wx_b (g_1 49 5) 0 23 by rw [show (g_1 49 5) = (g 49 5) from (by rw [eg_1, up2_n (by decide)])]; exact hn) (by decide) (by decide)) dX0_keep_19 (fun H locs hX hS => ?_)
  obtain ⟨g_2, eg_2, hX⟩ := wx_nm hX
  refine lv_aload_n hx hb dX0_keep_20 rfl (lv_at hl 0 rfl) ?_
  refine wx_getr (t := 52) (C := RX0) (T := TX0) (N := 7) (ci := 0) (j := 2) hx hb hts hi_X0 hown hK hX (by decide) sh_X0_2 rfl (by decide) (hts (.fieldLink RX0 16 "SeenAgain$Acts" "seconds" "[I") (by decide +kernel)) (fun _ h9 => h9) dX0_keep_21 ?_
  refine lv_aload_n hx hb dX0_keep_24 rfl (lv_at hl 0 rfl) ?_
  refine wx_geti (C := RX0) (T := TX0) (N := 7) (ci := 0) (j := 5) hx hb hts hi_X0 hown hK hX (by decide) sh_X0_5 rfl (by decide) (hts (.fieldLink RX0 29 "SeenAgain$Acts" "next" "I") (by decide +kernel)) (fun _ h9 => h9) dX0_keep_25 ?_
  refine lv_iload_n hx hb dX0_keep_28 rfl (lv_at hl 3 rfl) ?_
  refine wx_iast hx hb hK hX hS (by decide) sa_52 (wb_in (show wx_b (g_2 49 5) 0 23 by rw [show (g_2 49 5) = (g_1 49 5) from (by rw [eg_2, up2_n (by decide)])]; exact (show wx_b (g_1 49 5) 0 23 by rw [show (g_1 49 5) = (g 49 5) from (by rw [eg_1, up2_n (by decide)])]; exact hn)) (by decide) (by decide)) dX0_keep_29 (fun H locs hX hS => ?_)
  obtain ⟨g_3, eg_3, hX⟩ := wx_nm hX
  refine lv_aload_n hx hb dX0_keep_30 rfl (lv_at hl 0 rfl) ?_
  refine wx_getr (t := 53) (C := RX0) (T := TX0) (N := 7) (ci := 0) (j := 3) hx hb hts hi_X0 hown hK hX (by decide) sh_X0_3 rfl (by decide) (hts (.fieldLink RX0 19 "SeenAgain$Acts" "minutes" "[I") (by decide +kernel)) (fun _ h9 => h9) dX0_keep_31 ?_
  refine lv_aload_n hx hb dX0_keep_34 rfl (lv_at hl 0 rfl) ?_
  refine wx_geti (C := RX0) (T := TX0) (N := 7) (ci := 0) (j := 5) hx hb hts hi_X0 hown hK hX (by decide) sh_X0_5 rfl (by decide) (hts (.fieldLink RX0 29 "SeenAgain$Acts" "next" "I") (by decide +kernel)) (fun _ h9 => h9) dX0_keep_35 ?_
  refine lv_iload hx hb dX0_keep_38 (lv_at hl 4 rfl) ?_
  refine wx_iast hx hb hK hX hS (by decide) sa_53 (wb_in (show wx_b (g_3 49 5) 0 23 by rw [show (g_3 49 5) = (g_2 49 5) from (by rw [eg_3, up2_n (by decide)])]; exact (show wx_b (g_2 49 5) 0 23 by rw [show (g_2 49 5) = (g_1 49 5) from (by rw [eg_2, up2_n (by decide)])]; exact (show wx_b (g_1 49 5) 0 23 by rw [show (g_1 49 5) = (g 49 5) from (by rw [eg_1, up2_n (by decide)])]; exact hn))) (by decide) (by decide)) dX0_keep_40 (fun H locs hX hS => ?_)
  obtain ⟨g_4, eg_4, hX⟩ := wx_nm hX
  refine lv_aload_n hx hb dX0_keep_41 rfl (lv_at hl 0 rfl) ?_
  refine wx_getr (t := 54) (C := RX0) (T := TX0) (N := 7) (ci := 0) (j := 4) hx hb hts hi_X0 hown hK hX (by decide) sh_X0_4 rfl (by decide) (hts (.fieldLink RX0 22 "SeenAgain$Acts" "coins" "[I") (by decide +kernel)) (fun _ h9 => h9) dX0_keep_42 ?_
  refine lv_aload_n hx hb dX0_keep_45 rfl (lv_at hl 0 rfl) ?_
  refine wx_geti (C := RX0) (T := TX0) (N := 7) (ci := 0) (j := 5) hx hb hts hi_X0 hown hK hX (by decide) sh_X0_5 rfl (by decide) (hts (.fieldLink RX0 29 "SeenAgain$Acts" "next" "I") (by decide +kernel)) (fun _ h9 => h9) dX0_keep_46 ?_
  refine lv_iload hx hb dX0_keep_49 (lv_at hl 5 rfl) ?_
  refine wx_iast hx hb hK hX hS (by decide) sa_54 (wb_in (show wx_b (g_4 49 5) 0 23 by rw [show (g_4 49 5) = (g_3 49 5) from (by rw [eg_4, up2_n (by decide)])]; exact (show wx_b (g_3 49 5) 0 23 by rw [show (g_3 49 5) = (g_2 49 5) from (by rw [eg_3, up2_n (by decide)])]; exact (show wx_b (g_2 49 5) 0 23 by rw [show (g_2 49 5) = (g_1 49 5) from (by rw [eg_2, up2_n (by decide)])]; exact (show wx_b (g_1 49 5) 0 23 by rw [show (g_1 49 5) = (g 49 5) from (by rw [eg_1, up2_n (by decide)])]; exact hn)))) (by decide) (by decide)) dX0_keep_51 (fun H locs hX hS => ?_)
  obtain ⟨g_5, eg_5, hX⟩ := wx_nm hX
  refine lv_aload_n hx hb dX0_keep_52 rfl (lv_at hl 0 rfl) ?_
  refine lv_aload_n hx hb dX0_keep_53 rfl (lv_at hl 0 rfl) ?_
  refine wx_geti (C := RX0) (T := TX0) (N := 7) (ci := 0) (j := 5) hx hb hts hi_X0 hown hK hX (by decide) sh_X0_5 rfl (by decide) (hts (.fieldLink RX0 29 "SeenAgain$Acts" "next" "I") (by decide +kernel)) (fun _ h9 => h9) dX0_keep_54 ?_
  refine lv_bipush (v := 23) hx hb dX0_keep_57 (by decide) ?_
  refine lv_icmp_ne (tgt := 66) hx hb dX0_keep_59 (by decide) (fun c_6 => ?_) (fun c_6 => ?_)
  · have b_7 : wx_b (g_5 49 5) 0 22 := wb_neh c_6 (show wx_b (g_5 49 5) 0 23 by rw [show (g_5 49 5) = (g_4 49 5) from (by rw [eg_5, up2_n (by decide)])]; exact (show wx_b (g_4 49 5) 0 23 by rw [show (g_4 49 5) = (g_3 49 5) from (by rw [eg_4, up2_n (by decide)])]; exact (show wx_b (g_3 49 5) 0 23 by rw [show (g_3 49 5) = (g_2 49 5) from (by rw [eg_3, up2_n (by decide)])]; exact (show wx_b (g_2 49 5) 0 23 by rw [show (g_2 49 5) = (g_1 49 5) from (by rw [eg_2, up2_n (by decide)])]; exact (show wx_b (g_1 49 5) 0 23 by rw [show (g_1 49 5) = (g 49 5) from (by rw [eg_1, up2_n (by decide)])]; exact hn))))) (by decide)
    refine lv_aload_n hx hb dX0_keep_66 rfl (lv_at hl 0 rfl) ?_
    refine wx_geti (C := RX0) (T := TX0) (N := 7) (ci := 0) (j := 5) hx hb hts hi_X0 hown hK hX (by decide) sh_X0_5 rfl (by decide) (hts (.fieldLink RX0 29 "SeenAgain$Acts" "next" "I") (by decide +kernel)) (fun _ h9 => h9) dX0_keep_67 ?_
    refine lv_iconst (v := 1) hx hb dX0_keep_70 (by decide) ?_
    refine lv_iadd hx hb dX0_keep_71 ?_
    refine lv_topi (fun x_8 ex_8 => ?_)
    have bx_8 : wx_b x_8 1 23 := by rw [ex_8]; exact (wb_add b_7 (show wx_b 1 1 1 from ⟨by decide, by decide⟩) (by decide) (by decide))
    refine wx_puti (C := RX0) (T := TX0) (N := 7) (ci := 0) (j := 5) (ty := .int) hx hb hts hi_X0 tyX0 tyX0_ok nmX0 hown hK hX hS (by decide) sh_X0_5 rfl (by decide) (hts (.fieldLink RX0 29 "SeenAgain$Acts" "next" "I") (by decide +kernel)) (fun _ h9 => h9) rfl (by decide +kernel) rfl rfl dX0_keep_72 (fun H locs hX hS => ?_)
    obtain ⟨g_9, eg_9, hX⟩ := wx_nm hX
    refine lv_aload_n hx hb dX0_keep_75 rfl (lv_at hl 0 rfl) ?_
    refine lv_bipush (v := 24) hx hb dX0_keep_76 (by decide) ?_
    refine lv_aload_n hx hb dX0_keep_78 rfl (lv_at hl 0 rfl) ?_
    refine wx_geti (C := RX0) (T := TX0) (N := 7) (ci := 0) (j := 6) hx hb hts hi_X0 hown hK hX (by decide) sh_X0_6 rfl (by decide) (hts (.fieldLink RX0 25 "SeenAgain$Acts" "kept" "I") (by decide +kernel)) (fun _ h9 => h9) dX0_keep_79 ?_
    refine lv_iconst (v := 1) hx hb dX0_keep_82 (by decide) ?_
    refine lv_iadd hx hb dX0_keep_83 ?_
    refine va_mmin hx hb (hml.trans hl.1.symm) hown (hts (.methodLink RX0 32 Lib.Math.min.name) (by decide +kernel)) (hts (.static Lib.Math.min.name) (by decide +kernel)) (hts (.initialized "java/lang/Math") (by decide +kernel)) (hts (.code Lib.Math.min.name Lib.Math.min.code 2 (some .int)) (by decide +kernel)) (by rw [hR]; exact Nat.le_of_ble_eq_true rfl) (by rw [hR]; exact Nat.le_of_ble_eq_true rfl) (Nat.zero_le _) (Nat.zero_le _) dX0_keep_84 ?_
    refine lv_topi (fun x_10 ex_10 => ?_)
    refine wx_puti (C := RX0) (T := TX0) (N := 7) (ci := 0) (j := 6) (ty := .int) hx hb hts hi_X0 tyX0 tyX0_ok nmX0 hown hK hX hS (by decide) sh_X0_6 rfl (by decide) (hts (.fieldLink RX0 25 "SeenAgain$Acts" "kept" "I") (by decide +kernel)) (fun _ h9 => h9) rfl (by decide +kernel) rfl rfl dX0_keep_87 (fun H locs hX hS => ?_)
    obtain ⟨g_11, eg_11, hX⟩ := wx_nm hX
    exact hret _ _ _ _ _ dX0_keep_90 hX hS (by subst eg_11 ex_10 eg_9 ex_8 eg_5 eg_4 eg_3 eg_2 eg_1; simp only [e_X0_keep, if_neg c_6])
  · have b_12 : wx_b (g_5 49 5) 23 23 := by rw [c_6]; exact ⟨by decide, by decide⟩
    refine lv_iconst (v := 0) hx hb dX0_keep_62 (by decide) ?_
    refine lv_goto (tgt := 72) hx hb dX0_keep_63 (by decide) ?_
    refine wx_puti (C := RX0) (T := TX0) (N := 7) (ci := 0) (j := 5) (ty := .int) hx hb hts hi_X0 tyX0 tyX0_ok nmX0 hown hK hX hS (by decide) sh_X0_5 rfl (by decide) (hts (.fieldLink RX0 29 "SeenAgain$Acts" "next" "I") (by decide +kernel)) (fun _ h9 => h9) rfl (by decide +kernel) rfl rfl dX0_keep_72 (fun H locs hX hS => ?_)
    obtain ⟨g_13, eg_13, hX⟩ := wx_nm hX
    refine lv_aload_n hx hb dX0_keep_75 rfl (lv_at hl 0 rfl) ?_
    refine lv_bipush (v := 24) hx hb dX0_keep_76 (by decide) ?_
    refine lv_aload_n hx hb dX0_keep_78 rfl (lv_at hl 0 rfl) ?_
    refine wx_geti (C := RX0) (T := TX0) (N := 7) (ci := 0) (j := 6) hx hb hts hi_X0 hown hK hX (by decide) sh_X0_6 rfl (by decide) (hts (.fieldLink RX0 25 "SeenAgain$Acts" "kept" "I") (by decide +kernel)) (fun _ h9 => h9) dX0_keep_79 ?_
    refine lv_iconst (v := 1) hx hb dX0_keep_82 (by decide) ?_
    refine lv_iadd hx hb dX0_keep_83 ?_
    refine va_mmin hx hb (hml.trans hl.1.symm) hown (hts (.methodLink RX0 32 Lib.Math.min.name) (by decide +kernel)) (hts (.static Lib.Math.min.name) (by decide +kernel)) (hts (.initialized "java/lang/Math") (by decide +kernel)) (hts (.code Lib.Math.min.name Lib.Math.min.code 2 (some .int)) (by decide +kernel)) (by rw [hR]; exact Nat.le_of_ble_eq_true rfl) (by rw [hR]; exact Nat.le_of_ble_eq_true rfl) (Nat.zero_le _) (Nat.zero_le _) dX0_keep_84 ?_
    refine lv_topi (fun x_14 ex_14 => ?_)
    refine wx_puti (C := RX0) (T := TX0) (N := 7) (ci := 0) (j := 6) (ty := .int) hx hb hts hi_X0 tyX0 tyX0_ok nmX0 hown hK hX hS (by decide) sh_X0_6 rfl (by decide) (hts (.fieldLink RX0 25 "SeenAgain$Acts" "kept" "I") (by decide +kernel)) (fun _ h9 => h9) rfl (by decide +kernel) rfl rfl dX0_keep_87 (fun H locs hX hS => ?_)
    obtain ⟨g_15, eg_15, hX⟩ := wx_nm hX
    exact hret _ _ _ _ _ dX0_keep_90 hX hS (by subst eg_15 ex_14 eg_13 eg_5 eg_4 eg_3 eg_2 eg_1; simp only [e_X0_keep, if_pos c_6])
def e_X8_begin (g : wx_M) (a1 : Int32) : wx_M :=
  if 16 ≤ (g 55 1) then
    g
  else
    let g_4 := up2 g 56 (g 55 1).toNatClampNeg a1
    let x_5 := ((g_4 55 1) + 1)
    let g_6 := up2 g_4 55 1 x_5
    g_6
set_option maxHeartbeats 4000000 in
set_option maxRecDepth 100000 in
theorem k_X8_begin (l : Launch) {D : va_G} {cy : Nat → ClassId} {ad : Nat → Nat} {B0 : Nat} {f : wx_F} {P : va_W} (g : wx_M) (a1 : Int32) (ht : wx_b (g 55 1) 0 16) : Met l yX8_begin wsX8_begin ({ frames := 0, cells := 0, slots := 0, locals := 0 } : Room) (wx_Pc D cy ad B0 f P g [.ref (ad 55), .int a1]) (wx_Qe D cy ad B0 f P (e_X8_begin g a1) none) 0 0 (fun q => B0 ≤ q) := by
  refine wx_enterV (cc := cX8_begin) (maxL := 2) (own := RX8) (lv := [(0, .ref (ad 55)), (1, .int a1)]) (by decide) rfl rfl (Nat.le_of_ble_eq_true rfl) rfl ?_
  intro p e R s m args below meth c ls Qm hx hb hml hown hts hK hX hS hR hret hl
  have hi_X8 : ∀ w ∈ wsX80, w ∈ wsX8_begin := by decide +kernel
  refine lv_aload_n hx hb dX8_begin_0 rfl (lv_at hl 0 rfl) ?_
  refine wx_geti (C := RX8) (T := TX8) (N := 2) (ci := 8) (j := 1) hx hb hts hi_X8 hown hK hX (by decide) sh_X8_1 rfl (by decide) (hts (.fieldLink RX8 13 "SeenAgain$Trace" "length" "I") (by decide +kernel)) (fun _ h9 => h9) dX8_begin_1 ?_
  refine lv_bipush (v := 16) hx hb dX8_begin_4 (by decide) ?_
  refine lv_icmp_ge (tgt := 29) hx hb dX8_begin_6 (by decide) (fun c_1 => ?_) (fun c_1 => ?_)
  · have b_2 : wx_b (g 55 1) 16 16 := wb_ge c_1 ht (show wx_b 16 16 16 from ⟨by decide, by decide⟩) (by decide) (by decide)
    exact hret _ _ _ _ _ dX8_begin_29 hX hS (by simp only [e_X8_begin, if_pos c_1])
  · have b_3 : wx_b (g 55 1) 0 15 := wb_lt (wb_nle c_1) ht (show wx_b 16 16 16 from ⟨by decide, by decide⟩) (by decide) (by decide)
    refine lv_aload_n hx hb dX8_begin_9 rfl (lv_at hl 0 rfl) ?_
    refine wx_getr (t := 56) (C := RX8) (T := TX8) (N := 2) (ci := 8) (j := 0) hx hb hts hi_X8 hown hK hX (by decide) sh_X8_0 rfl (by decide) (hts (.fieldLink RX8 9 "SeenAgain$Trace" "numbers" "[I") (by decide +kernel)) (fun _ h9 => h9) dX8_begin_10 ?_
    refine lv_aload_n hx hb dX8_begin_13 rfl (lv_at hl 0 rfl) ?_
    refine wx_geti (C := RX8) (T := TX8) (N := 2) (ci := 8) (j := 1) hx hb hts hi_X8 hown hK hX (by decide) sh_X8_1 rfl (by decide) (hts (.fieldLink RX8 13 "SeenAgain$Trace" "length" "I") (by decide +kernel)) (fun _ h9 => h9) dX8_begin_14 ?_
    refine lv_iload_n hx hb dX8_begin_17 rfl (lv_at hl 1 rfl) ?_
    refine wx_iast hx hb hK hX hS (by decide) sa_56 (wb_in b_3 (by decide) (by decide)) dX8_begin_18 (fun H locs hX hS => ?_)
    obtain ⟨g_4, eg_4, hX⟩ := wx_nm hX
    refine lv_aload_n hx hb dX8_begin_19 rfl (lv_at hl 0 rfl) ?_
    refine lv_dup hx hb dX8_begin_20 rfl ?_
    refine wx_geti (C := RX8) (T := TX8) (N := 2) (ci := 8) (j := 1) hx hb hts hi_X8 hown hK hX (by decide) sh_X8_1 rfl (by decide) (hts (.fieldLink RX8 13 "SeenAgain$Trace" "length" "I") (by decide +kernel)) (fun _ h9 => h9) dX8_begin_21 ?_
    refine lv_iconst (v := 1) hx hb dX8_begin_24 (by decide) ?_
    refine lv_iadd hx hb dX8_begin_25 ?_
    refine lv_topi (fun x_5 ex_5 => ?_)
    have bx_5 : wx_b x_5 1 16 := by rw [ex_5]; exact (wb_add (show wx_b (g_4 55 1) 0 15 by rw [show (g_4 55 1) = (g 55 1) from (by rw [eg_4, up2_n (by decide)])]; exact b_3) (show wx_b 1 1 1 from ⟨by decide, by decide⟩) (by decide) (by decide))
    refine wx_puti (C := RX8) (T := TX8) (N := 2) (ci := 8) (j := 1) (ty := .int) hx hb hts hi_X8 tyX8 tyX8_ok nmX8 hown hK hX hS (by decide) sh_X8_1 rfl (by decide) (hts (.fieldLink RX8 13 "SeenAgain$Trace" "length" "I") (by decide +kernel)) (fun _ h9 => h9) rfl (by decide +kernel) rfl rfl dX8_begin_26 (fun H locs hX hS => ?_)
    obtain ⟨g_6, eg_6, hX⟩ := wx_nm hX
    exact hret _ _ _ _ _ dX8_begin_29 hX hS (by subst eg_6 ex_5 eg_4; simp only [e_X8_begin, if_neg c_1])

theorem fr_takeSeat {g : wx_M} {h k : Nat} {a1 a2 a3 a4 : Int32} (h1 : k ≠ h) (h2 : k ≠ h + 3) (h3 : k ≠ h + 5) : e_X3_takeSeat g h a1 a2 a3 a4 k = g k := by
  simp only [e_X3_takeSeat]
  rw [up2_n h3, up2_n h1, up2_n h2]
theorem fr_leaveSeat {g : wx_M} {h k : Nat} {a1 a2 a3 a4 : Int32} (h1 : k ≠ h) (h2 : k ≠ h + 3) (h3 : k ≠ h + 5) : e_X3_leaveSeat g h a1 a2 a3 a4 k = g k := by
  simp only [e_X3_leaveSeat]
  rw [up2_n h3, up2_n h1, up2_n h2]
theorem fr_drawCurtain {g : wx_M} {h k : Nat} {a1 a2 a3 : Int32} (h1 : k ≠ h) (h2 : k ≠ h + 2) : e_X3_drawCurtain g h a1 a2 a3 k = g k := by
  simp only [e_X3_drawCurtain]
  rw [up2_n h1, up2_n h2, up2_n h2]
def wx_SZ (g : wx_M) : Prop := ∀ k, wx_Rk k → wx_b (g k 2) 0 40
theorem rf_X5_hasItems {g : wx_M} {k : Nat} {i n : Int32} {a b c d e : Int} (hs : wx_b (g k 2) a b) (hn : wx_b n c d) (he : b - c ≤ e ∧ b ≤ e ∨ 0 ≤ c ∧ b - c ≤ e ∨ b ≤ e) (w : ¬ r_X5_hasItems g k i n = 0) : wx_b i 0 e := by
  simp only [r_X5_hasItems] at w
  split at w
  · exact absurd rfl w
  · rename_i c1
    split at w
    · exact absurd rfl w
    · rename_i c2
      split at w
      · exact absurd rfl w
      · rename_i c3
        split at w
        · exact absurd rfl w
        · rename_i c4
          have h1 := Int32.le_iff_toInt_le.mp (Int32.not_lt.mp c1)
          have h2 := Int32.le_iff_toInt_le.mp (Int32.not_lt.mp c2)
          have h3 := Int32.le_iff_toInt_le.mp (Int32.not_lt.mp c3)
          have h4 := Int32.le_iff_toInt_le.mp (Int32.not_lt.mp c4)
          have e0 : (0 : Int32).toInt = 0 := rfl
          have r1 := fb_rng (g k 2)
          obtain ⟨s1, s2⟩ := hs
          obtain ⟨n1, n2⟩ := hn
          rw [fb_subI (by omega) (by omega)] at h4
          exact ⟨by omega, by omega⟩
theorem rm_takeSeat {g : wx_M} {h : Nat} {a1 a2 a3 a4 : Int32} : e_X3_takeSeat g h a1 a2 a3 a4 h 0 = g h 0 := by
  simp only [e_X3_takeSeat]
  rw [up2_n (by omega), up2_sn (by decide), up2_n (by omega)]
theorem rm_leaveSeat {g : wx_M} {h : Nat} {a1 a2 a3 a4 : Int32} : e_X3_leaveSeat g h a1 a2 a3 a4 h 0 = g h 0 := by
  simp only [e_X3_leaveSeat]
  rw [up2_n (by omega), up2_sn (by decide), up2_n (by omega)]
theorem hb_takeSeat {g : wx_M} {h : Nat} {a1 a2 a3 a4 : Int32} (hg : wx_HB g h) : wx_HB (e_X3_takeSeat g h a1 a2 a3 a4) h := by
  unfold wx_HB
  simp only [e_X3_takeSeat]
  rw [up2_n (by omega), up2_sn (by decide), up2_sn (by decide), up2_sn (by decide), up2_n (by omega)]
  exact hg
theorem hb_leaveSeat {g : wx_M} {h : Nat} {a1 a2 a3 a4 : Int32} (hg : wx_HB g h) : wx_HB (e_X3_leaveSeat g h a1 a2 a3 a4) h := by
  unfold wx_HB
  simp only [e_X3_leaveSeat]
  rw [up2_n (by omega), up2_sn (by decide), up2_sn (by decide), up2_sn (by decide), up2_n (by omega)]
  exact hg
