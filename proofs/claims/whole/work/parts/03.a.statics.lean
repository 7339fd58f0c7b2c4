def r_X11_has (a1 : Int32) (a2 : Int32) : Int32 :=
  if ((a1 >>> (a2 &&& 31)) &&& 1) = 1 then
    1
  else
    0
set_option maxHeartbeats 4000000 in
set_option maxRecDepth 100000 in
theorem k_X11_has (l : Launch) {D : va_G} {cy : Nat → ClassId} {ad : Nat → Nat} {B0 : Nat} {f : wx_F} {P : va_W} (g : wx_M) (a1 : Int32) (a2 : Int32) : Met l yX11_has wsX11_has ({ frames := 0, cells := 0, slots := 0, locals := 0 } : Room) (wx_Pc D cy ad B0 f P g [.int a1, .int a2]) (QcRead (r_X11_has a1 a2)) 0 0 (fun _ => False) := by
  refine wx_enterR (cc := cX11_has) (maxL := 2) (ty := .boolean) (own := RX11) (lv := [(0, .int a1), (1, .int a2)]) (by decide) rfl rfl (Nat.le_of_ble_eq_true rfl) rfl ?_
  intro p e R s m args below meth c ls Qm hx hb hml hown hts hK hX hR hret hl
  refine lv_iload_n hx hb dX11_has_0 rfl (lv_at hl 0 rfl) ?_
  refine lv_iload_n hx hb dX11_has_1 rfl (lv_at hl 1 rfl) ?_
  refine lv_ishr hx hb dX11_has_2 ?_
  refine lv_iconst (v := 1) hx hb dX11_has_3 (by decide) ?_
  refine lv_iand hx hb dX11_has_4 ?_
  refine lv_iconst (v := 1) hx hb dX11_has_5 (by decide) ?_
  refine lv_icmp_ne (tgt := 13) hx hb dX11_has_6 (by decide) (fun c_1 => ?_) (fun c_1 => ?_)
  · refine lv_iconst (v := 0) hx hb dX11_has_13 (by decide) ?_
    exact hret _ _ _ dX11_has_14 rfl (by simp only [r_X11_has, if_neg c_1])
  · have b_2 : wx_b ((a1 >>> (a2 &&& 31)) &&& 1) 1 1 := by rw [c_1]; exact ⟨by decide, by decide⟩
    refine lv_iconst (v := 1) hx hb dX11_has_9 (by decide) ?_
    refine lv_goto (tgt := 14) hx hb dX11_has_10 (by decide) ?_
    exact hret _ _ _ dX11_has_14 rfl (by simp only [r_X11_has, if_pos c_1])
theorem nb_r_X11_has (a1 : Int32) (a2 : Int32) : narrow .boolean (.int (r_X11_has a1 a2)) = .int (r_X11_has a1 a2) := by
  unfold r_X11_has
  (repeat' split) <;> rfl
def r_X11_seatNumber (a1 : Int32) (a2 : Int32) : Int32 :=
  ((6 * a2) + a1)
set_option maxHeartbeats 4000000 in
set_option maxRecDepth 100000 in
theorem k_X11_seatNumber (l : Launch) {D : va_G} {cy : Nat → ClassId} {ad : Nat → Nat} {B0 : Nat} {f : wx_F} {P : va_W} (g : wx_M) (a1 : Int32) (a2 : Int32) : Met l yX11_seatNumber wsX11_seatNumber ({ frames := 0, cells := 0, slots := 0, locals := 0 } : Room) (wx_Pc D cy ad B0 f P g [.int a1, .int a2]) (QcRead (r_X11_seatNumber a1 a2)) 0 0 (fun _ => False) := by
  refine wx_enterR (cc := cX11_seatNumber) (maxL := 2) (ty := .int) (own := RX11) (lv := [(0, .int a1), (1, .int a2)]) (by decide) rfl rfl (Nat.le_of_ble_eq_true rfl) rfl ?_
  intro p e R s m args below meth c ls Qm hx hb hml hown hts hK hX hR hret hl
  refine lv_bipush (v := 6) hx hb dX11_seatNumber_0 (by decide) ?_
  refine lv_iload_n hx hb dX11_seatNumber_2 rfl (lv_at hl 1 rfl) ?_
  refine lv_imul hx hb dX11_seatNumber_3 ?_
  refine lv_iload_n hx hb dX11_seatNumber_4 rfl (lv_at hl 0 rfl) ?_
  refine lv_iadd hx hb dX11_seatNumber_5 ?_
  exact hret _ _ _ dX11_seatNumber_6 rfl (by simp only [r_X11_seatNumber])
def r_X11_isRow (a1 : Int32) : Int32 :=
  if a1 < 0 then
    0
  else
    if 8 ≤ a1 then
      0
    else
      1
set_option maxHeartbeats 4000000 in
set_option maxRecDepth 100000 in
theorem k_X11_isRow (l : Launch) {D : va_G} {cy : Nat → ClassId} {ad : Nat → Nat} {B0 : Nat} {f : wx_F} {P : va_W} (g : wx_M) (a1 : Int32) : Met l yX11_isRow wsX11_isRow ({ frames := 0, cells := 0, slots := 0, locals := 0 } : Room) (wx_Pc D cy ad B0 f P g [.int a1]) (QcRead (r_X11_isRow a1)) 0 0 (fun _ => False) := by
  refine wx_enterR (cc := cX11_isRow) (maxL := 1) (ty := .boolean) (own := RX11) (lv := [(0, .int a1)]) (by decide) rfl rfl (Nat.le_of_ble_eq_true rfl) rfl ?_
  intro p e R s m args below meth c ls Qm hx hb hml hown hts hK hX hR hret hl
  refine lv_iload_n hx hb dX11_isRow_0 rfl (lv_at hl 0 rfl) ?_
  refine lv_if_lt (tgt := 14) hx hb dX11_isRow_1 (by decide) (fun c_1 => ?_) (fun c_1 => ?_)
  · have b_2 : wx_b a1 (-2147483648) (-1) := wb_lt c_1 (wb_any _) (show wx_b 0 0 0 from ⟨by decide, by decide⟩) (by decide) (by decide)
    refine lv_iconst (v := 0) hx hb dX11_isRow_14 (by decide) ?_
    exact hret _ _ _ dX11_isRow_15 rfl (by simp only [r_X11_isRow, if_pos c_1])
  · have b_3 : wx_b a1 0 2147483647 := wb_ge (wb_nlt c_1) (wb_any _) (show wx_b 0 0 0 from ⟨by decide, by decide⟩) (by decide) (by decide)
    refine lv_iload_n hx hb dX11_isRow_4 rfl (lv_at hl 0 rfl) ?_
    refine lv_bipush (v := 8) hx hb dX11_isRow_5 (by decide) ?_
    refine lv_icmp_ge (tgt := 14) hx hb dX11_isRow_7 (by decide) (fun c_4 => ?_) (fun c_4 => ?_)
    · have b_5 : wx_b a1 8 2147483647 := wb_ge c_4 b_3 (show wx_b 8 8 8 from ⟨by decide, by decide⟩) (by decide) (by decide)
      refine lv_iconst (v := 0) hx hb dX11_isRow_14 (by decide) ?_
      exact hret _ _ _ dX11_isRow_15 rfl (by simp only [r_X11_isRow, if_neg c_1, if_pos c_4])
    · have b_6 : wx_b a1 0 7 := wb_lt (wb_nle c_4) b_3 (show wx_b 8 8 8 from ⟨by decide, by decide⟩) (by decide) (by decide)
      refine lv_iconst (v := 1) hx hb dX11_isRow_10 (by decide) ?_
      refine lv_goto (tgt := 15) hx hb dX11_isRow_11 (by decide) ?_
      exact hret _ _ _ dX11_isRow_15 rfl (by simp only [r_X11_isRow, if_neg c_1, if_neg c_4])
theorem nb_r_X11_isRow (a1 : Int32) : narrow .boolean (.int (r_X11_isRow a1)) = .int (r_X11_isRow a1) := by
  unfold r_X11_isRow
  (repeat' split) <;> rfl
def r_X11_isMinute (a1 : Int32) : Int32 :=
  if a1 < 0 then
    0
  else
    if 8 ≤ a1 then
      0
    else
      1
set_option maxHeartbeats 4000000 in
set_option maxRecDepth 100000 in
theorem k_X11_isMinute (l : Launch) {D : va_G} {cy : Nat → ClassId} {ad : Nat → Nat} {B0 : Nat} {f : wx_F} {P : va_W} (g : wx_M) (a1 : Int32) : Met l yX11_isMinute wsX11_isMinute ({ frames := 0, cells := 0, slots := 0, locals := 0 } : Room) (wx_Pc D cy ad B0 f P g [.int a1]) (QcRead (r_X11_isMinute a1)) 0 0 (fun _ => False) := by
  refine wx_enterR (cc := cX11_isMinute) (maxL := 1) (ty := .boolean) (own := RX11) (lv := [(0, .int a1)]) (by decide) rfl rfl (Nat.le_of_ble_eq_true rfl) rfl ?_
  intro p e R s m args below meth c ls Qm hx hb hml hown hts hK hX hR hret hl
  refine lv_iload_n hx hb dX11_isMinute_0 rfl (lv_at hl 0 rfl) ?_
  refine lv_if_lt (tgt := 14) hx hb dX11_isMinute_1 (by decide) (fun c_1 => ?_) (fun c_1 => ?_)
  · have b_2 : wx_b a1 (-2147483648) (-1) := wb_lt c_1 (wb_any _) (show wx_b 0 0 0 from ⟨by decide, by decide⟩) (by decide) (by decide)
    refine lv_iconst (v := 0) hx hb dX11_isMinute_14 (by decide) ?_
    exact hret _ _ _ dX11_isMinute_15 rfl (by simp only [r_X11_isMinute, if_pos c_1])
  · have b_3 : wx_b a1 0 2147483647 := wb_ge (wb_nlt c_1) (wb_any _) (show wx_b 0 0 0 from ⟨by decide, by decide⟩) (by decide) (by decide)
    refine lv_iload_n hx hb dX11_isMinute_4 rfl (lv_at hl 0 rfl) ?_
    refine lv_bipush (v := 8) hx hb dX11_isMinute_5 (by decide) ?_
    refine lv_icmp_ge (tgt := 14) hx hb dX11_isMinute_7 (by decide) (fun c_4 => ?_) (fun c_4 => ?_)
    · have b_5 : wx_b a1 8 2147483647 := wb_ge c_4 b_3 (show wx_b 8 8 8 from ⟨by decide, by decide⟩) (by decide) (by decide)
      refine lv_iconst (v := 0) hx hb dX11_isMinute_14 (by decide) ?_
      exact hret _ _ _ dX11_isMinute_15 rfl (by simp only [r_X11_isMinute, if_neg c_1, if_pos c_4])
    · have b_6 : wx_b a1 0 7 := wb_lt (wb_nle c_4) b_3 (show wx_b 8 8 8 from ⟨by decide, by decide⟩) (by decide) (by decide)
      refine lv_iconst (v := 1) hx hb dX11_isMinute_10 (by decide) ?_
      refine lv_goto (tgt := 15) hx hb dX11_isMinute_11 (by decide) ?_
      exact hret _ _ _ dX11_isMinute_15 rfl (by simp only [r_X11_isMinute, if_neg c_1, if_neg c_4])
theorem nb_r_X11_isMinute (a1 : Int32) : narrow .boolean (.int (r_X11_isMinute a1)) = .int (r_X11_isMinute a1) := by
  unfold r_X11_isMinute
  (repeat' split) <;> rfl
def r_X11_isMinuteSet (a1 : Int32) : Int32 :=
  if a1 < 0 then
    0
  else
    if 255 < a1 then
      0
    else
      1
set_option maxHeartbeats 4000000 in
set_option maxRecDepth 100000 in
theorem k_X11_isMinuteSet (l : Launch) {D : va_G} {cy : Nat → ClassId} {ad : Nat → Nat} {B0 : Nat} {f : wx_F} {P : va_W} (g : wx_M) (a1 : Int32) : Met l yX11_isMinuteSet wsX11_isMinuteSet ({ frames := 0, cells := 0, slots := 0, locals := 0 } : Room) (wx_Pc D cy ad B0 f P g [.int a1]) (QcRead (r_X11_isMinuteSet a1)) 0 0 (fun _ => False) := by
  refine wx_enterR (cc := cX11_isMinuteSet) (maxL := 1) (ty := .boolean) (own := RX11) (lv := [(0, .int a1)]) (by decide) rfl rfl (Nat.le_of_ble_eq_true rfl) rfl ?_
  intro p e R s m args below meth c ls Qm hx hb hml hown hts hK hX hR hret hl
  refine lv_iload_n hx hb dX11_isMinuteSet_0 rfl (lv_at hl 0 rfl) ?_
  refine lv_if_lt (tgt := 15) hx hb dX11_isMinuteSet_1 (by decide) (fun c_1 => ?_) (fun c_1 => ?_)
  · have b_2 : wx_b a1 (-2147483648) (-1) := wb_lt c_1 (wb_any _) (show wx_b 0 0 0 from ⟨by decide, by decide⟩) (by decide) (by decide)
    refine lv_iconst (v := 0) hx hb dX11_isMinuteSet_15 (by decide) ?_
    exact hret _ _ _ dX11_isMinuteSet_16 rfl (by simp only [r_X11_isMinuteSet, if_pos c_1])
  · have b_3 : wx_b a1 0 2147483647 := wb_ge (wb_nlt c_1) (wb_any _) (show wx_b 0 0 0 from ⟨by decide, by decide⟩) (by decide) (by decide)
    refine lv_iload_n hx hb dX11_isMinuteSet_4 rfl (lv_at hl 0 rfl) ?_
    refine lv_sipush (v := 255) hx hb dX11_isMinuteSet_5 (by decide) ?_
    refine lv_icmp_gt (tgt := 15) hx hb dX11_isMinuteSet_8 (by decide) (fun c_4 => ?_) (fun c_4 => ?_)
    · have b_5 : wx_b a1 256 2147483647 := wb_gt c_4 b_3 (show wx_b 255 255 255 from ⟨by decide, by decide⟩) (by decide) (by decide)
      refine lv_iconst (v := 0) hx hb dX11_isMinuteSet_15 (by decide) ?_
      exact hret _ _ _ dX11_isMinuteSet_16 rfl (by simp only [r_X11_isMinuteSet, if_neg c_1, if_pos c_4])
    · have b_6 : wx_b a1 0 255 := wb_le (wb_nlt c_4) b_3 (show wx_b 255 255 255 from ⟨by decide, by decide⟩) (by decide) (by decide)
      refine lv_iconst (v := 1) hx hb dX11_isMinuteSet_11 (by decide) ?_
      refine lv_goto (tgt := 16) hx hb dX11_isMinuteSet_12 (by decide) ?_
      exact hret _ _ _ dX11_isMinuteSet_16 rfl (by simp only [r_X11_isMinuteSet, if_neg c_1, if_neg c_4])
theorem nb_r_X11_isMinuteSet (a1 : Int32) : narrow .boolean (.int (r_X11_isMinuteSet a1)) = .int (r_X11_isMinuteSet a1) := by
  unfold r_X11_isMinuteSet
  (repeat' split) <;> rfl
def r_J6_bitCount_0f7a4 (a1 : Int32) : Int32 :=
  let x_1 := (a1 - ((a1.toUInt32 >>> ((1 : Int32).toUInt32 &&& Int32.toUInt32 31)).toInt32 &&& 1431655765))
  let x_2 := ((x_1 &&& 858993459) + ((x_1.toUInt32 >>> ((2 : Int32).toUInt32 &&& Int32.toUInt32 31)).toInt32 &&& 858993459))
  let x_3 := ((x_2 + (x_2.toUInt32 >>> ((4 : Int32).toUInt32 &&& Int32.toUInt32 31)).toInt32) &&& 252645135)
  let x_4 := (x_3 + (x_3.toUInt32 >>> ((8 : Int32).toUInt32 &&& Int32.toUInt32 31)).toInt32)
  let x_5 := (x_4 + (x_4.toUInt32 >>> ((16 : Int32).toUInt32 &&& Int32.toUInt32 31)).toInt32)
  (x_5 &&& 63)
set_option maxHeartbeats 4000000 in
set_option maxRecDepth 100000 in
theorem k_J6_bitCount_0f7a4 (l : Launch) {D : va_G} {cy : Nat → ClassId} {ad : Nat → Nat} {B0 : Nat} {f : wx_F} {P : va_W} (g : wx_M) (a1 : Int32) : Met l yJ6_bitCount_0f7a4 wsJ6_bitCount_0f7a4 ({ frames := 0, cells := 0, slots := 0, locals := 0 } : Room) (wx_Pc D cy ad B0 f P g [.int a1]) (QcRead (r_J6_bitCount_0f7a4 a1)) 0 0 (fun _ => False) := by
  refine wx_enterR (cc := cJ6_bitCount_0f7a4) (maxL := 1) (ty := .int) (own := RJ6) (lv := [(0, .int a1)]) (by decide) rfl rfl (Nat.le_of_ble_eq_true rfl) rfl ?_
  intro p e R s m args below meth c ls Qm hx hb hml hown hts hK hX hR hret hl
  refine lv_iload_n hx hb dJ6_bitCount_0f7a4_0 rfl (lv_at hl 0 rfl) ?_
  refine lv_iload_n hx hb dJ6_bitCount_0f7a4_1 rfl (lv_at hl 0 rfl) ?_
  refine lv_iconst (v := 1) hx hb dJ6_bitCount_0f7a4_2 (by decide) ?_
  refine lv_iushr hx hb dJ6_bitCount_0f7a4_3 rfl ?_
  refine lv_ldcw hx hb hown (hts (.constant RJ6 265 1431655765) (by decide +kernel)) dJ6_bitCount_0f7a4_4 ?_
  refine lv_iand hx hb dJ6_bitCount_0f7a4_7 ?_
  refine lv_isub hx hb dJ6_bitCount_0f7a4_8 ?_
  refine lv_topi (fun x_1 ex_1 => ?_)
  refine lv_istore_n (lv' := [(0, .int x_1)]) hx hb dJ6_bitCount_0f7a4_9 rfl hl (by decide) rfl (fun ls hl => ?_)
  refine lv_iload_n hx hb dJ6_bitCount_0f7a4_10 rfl (lv_at hl 0 rfl) ?_
  refine lv_ldcw hx hb hown (hts (.constant RJ6 266 858993459) (by decide +kernel)) dJ6_bitCount_0f7a4_11 ?_
  refine lv_iand hx hb dJ6_bitCount_0f7a4_14 ?_
  refine lv_iload_n hx hb dJ6_bitCount_0f7a4_15 rfl (lv_at hl 0 rfl) ?_
  refine lv_iconst (v := 2) hx hb dJ6_bitCount_0f7a4_16 (by decide) ?_
  refine lv_iushr hx hb dJ6_bitCount_0f7a4_17 rfl ?_
  refine lv_ldcw hx hb hown (hts (.constant RJ6 266 858993459) (by decide +kernel)) dJ6_bitCount_0f7a4_18 ?_
  refine lv_iand hx hb dJ6_bitCount_0f7a4_21 ?_
  refine lv_iadd hx hb dJ6_bitCount_0f7a4_22 ?_
  refine lv_topi (fun x_2 ex_2 => ?_)
  refine lv_istore_n (lv' := [(0, .int x_2)]) hx hb dJ6_bitCount_0f7a4_23 rfl hl (by decide) rfl (fun ls hl => ?_)
  refine lv_iload_n hx hb dJ6_bitCount_0f7a4_24 rfl (lv_at hl 0 rfl) ?_
  refine lv_iload_n hx hb dJ6_bitCount_0f7a4_25 rfl (lv_at hl 0 rfl) ?_
  refine lv_iconst (v := 4) hx hb dJ6_bitCount_0f7a4_26 (by decide) ?_
  refine lv_iushr hx hb dJ6_bitCount_0f7a4_27 rfl ?_
  refine lv_iadd hx hb dJ6_bitCount_0f7a4_28 ?_
  refine lv_ldcw hx hb hown (hts (.constant RJ6 267 252645135) (by decide +kernel)) dJ6_bitCount_0f7a4_29 ?_
  refine lv_iand hx hb dJ6_bitCount_0f7a4_32 ?_
  refine lv_topi (fun x_3 ex_3 => ?_)
  refine lv_istore_n (lv' := [(0, .int x_3)]) hx hb dJ6_bitCount_0f7a4_33 rfl hl (by decide) rfl (fun ls hl => ?_)
  refine lv_iload_n hx hb dJ6_bitCount_0f7a4_34 rfl (lv_at hl 0 rfl) ?_
  refine lv_iload_n hx hb dJ6_bitCount_0f7a4_35 rfl (lv_at hl 0 rfl) ?_
  refine lv_bipush (v := 8) hx hb dJ6_bitCount_0f7a4_36 (by decide) ?_
  refine lv_iushr hx hb dJ6_bitCount_0f7a4_38 rfl ?_
  refine lv_iadd hx hb dJ6_bitCount_0f7a4_39 ?_
  refine lv_topi (fun x_4 ex_4 => ?_)
  refine lv_istore_n (lv' := [(0, .int x_4)]) hx hb dJ6_bitCount_0f7a4_40 rfl hl (by decide) rfl (fun ls hl => ?_)
  refine lv_iload_n hx hb dJ6_bitCount_0f7a4_41 rfl (lv_at hl 0 rfl) ?_
  refine lv_iload_n hx hb dJ6_bitCount_0f7a4_42 rfl (lv_at hl 0 rfl) ?_
  refine lv_bipush (v := 16) hx hb dJ6_bitCount_0f7a4_43 (by decide) ?_
  refine lv_iushr hx hb dJ6_bitCount_0f7a4_45 rfl ?_
  refine lv_iadd hx hb dJ6_bitCount_0f7a4_46 ?_
  refine lv_topi (fun x_5 ex_5 => ?_)
  refine lv_istore_n (lv' := [(0, .int x_5)]) hx hb dJ6_bitCount_0f7a4_47 rfl hl (by decide) rfl (fun ls hl => ?_)
  refine lv_iload_n hx hb dJ6_bitCount_0f7a4_48 rfl (lv_at hl 0 rfl) ?_
  refine lv_bipush (v := 63) hx hb dJ6_bitCount_0f7a4_49 (by decide) ?_
  refine lv_iand hx hb dJ6_bitCount_0f7a4_51 ?_
  exact hret _ _ _ dJ6_bitCount_0f7a4_52 rfl (by subst ex_5 ex_4 ex_3 ex_2 ex_1; simp only [r_J6_bitCount_0f7a4])

theorem rg_seat {x y : Int32} (h : wx_b x 0 5) (k : wx_b y 0 7) : wx_b (r_X11_seatNumber x y) 0 47 := by
  unfold r_X11_seatNumber
  exact wb_w (wb_add (wb_mul (show wx_b 6 6 6 from ⟨by decide, by decide⟩) k (by decide) (by decide) (by decide)) h (by decide) (by decide)) (by decide) (by decide)
