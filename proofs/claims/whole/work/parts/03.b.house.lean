def r_X3_stands (g : wx_M) (h : Nat) : Int32 :=
  if (g h 0) ≤ 0 then
    0
  else
    1
set_option maxHeartbeats 4000000 in
set_option maxRecDepth 100000 in
theorem k_X3_stands (l : Launch) {D : va_G} {cy : Nat → ClassId} {ad : Nat → Nat} {B0 : Nat} {f : wx_F} {P : va_W} (g : wx_M) (h : Nat) (hh : wx_H h) : Met l yX3_stands wsX3_stands ({ frames := 0, cells := 0, slots := 0, locals := 0 } : Room) (wx_Pc D cy ad B0 f P g [.ref (ad h)]) (QcRead (r_X3_stands g h)) 0 0 (fun _ => False) := by
  refine wx_enterR (cc := cX3_stands) (maxL := 1) (ty := .boolean) (own := RX3) (lv := [(0, .ref (ad h))]) (by decide) rfl rfl (Nat.le_of_ble_eq_true rfl) rfl ?_
  intro p e R s m args below meth c ls Qm hx hb hml hown hts hK hX hR hret hl
  have hi_X3 : ∀ w ∈ wsX30, w ∈ wsX3_stands := by decide +kernel
  refine lv_aload_n hx hb dX3_stands_0 rfl (lv_at hl 0 rfl) ?_
  refine wx_geti (C := RX3) (T := TX3) (N := 15) (ci := 3) (j := 0) hx hb hts hi_X3 hown hK hX hh.l0 (sh_X3_0 hh) rfl (by decide) (hts (.fieldLink RX3 54 "SeenAgain$House" "rooms" "I") (by decide +kernel)) (fun _ h9 => h9) dX3_stands_1 ?_
  refine lv_if_le (tgt := 11) hx hb dX3_stands_4 (by decide) (fun c_1 => ?_) (fun c_1 => ?_)
  · have b_2 : wx_b (g h 0) (-2147483648) 0 := wb_le c_1 (wb_any _) (show wx_b 0 0 0 from ⟨by decide, by decide⟩) (by decide) (by decide)
    refine lv_iconst (v := 0) hx hb dX3_stands_11 (by decide) ?_
    exact hret _ _ _ dX3_stands_12 rfl (by simp only [r_X3_stands, if_pos c_1])
  · have b_3 : wx_b (g h 0) 1 2147483647 := wb_gt (wb_nle c_1) (wb_any _) (show wx_b 0 0 0 from ⟨by decide, by decide⟩) (by decide) (by decide)
    refine lv_iconst (v := 1) hx hb dX3_stands_7 (by decide) ?_
    refine lv_goto (tgt := 12) hx hb dX3_stands_8 (by decide) ?_
    exact hret _ _ _ dX3_stands_12 rfl (by simp only [r_X3_stands, if_neg c_1])
theorem nb_r_X3_stands (g : wx_M) (h : Nat) : narrow .boolean (.int (r_X3_stands g h)) = .int (r_X3_stands g h) := by
  unfold r_X3_stands
  (repeat' split) <;> rfl
def r_X3_isRoom (g : wx_M) (h : Nat) (a1 : Int32) : Int32 :=
  if a1 < 0 then
    0
  else
    if (g h 0) ≤ a1 then
      0
    else
      1
set_option maxHeartbeats 4000000 in
set_option maxRecDepth 100000 in
theorem k_X3_isRoom (l : Launch) {D : va_G} {cy : Nat → ClassId} {ad : Nat → Nat} {B0 : Nat} {f : wx_F} {P : va_W} (g : wx_M) (h : Nat) (a1 : Int32) (hh : wx_H h) : Met l yX3_isRoom wsX3_isRoom ({ frames := 0, cells := 0, slots := 0, locals := 0 } : Room) (wx_Pc D cy ad B0 f P g [.ref (ad h), .int a1]) (QcRead (r_X3_isRoom g h a1)) 0 0 (fun _ => False) := by
  refine wx_enterR (cc := cX3_isRoom) (maxL := 2) (ty := .boolean) (own := RX3) (lv := [(0, .ref (ad h)), (1, .int a1)]) (by decide) rfl rfl (Nat.le_of_ble_eq_true rfl) rfl ?_
  intro p e R s m args below meth c ls Qm hx hb hml hown hts hK hX hR hret hl
  have hi_X3 : ∀ w ∈ wsX30, w ∈ wsX3_isRoom := by decide +kernel
  refine lv_iload_n hx hb dX3_isRoom_0 rfl (lv_at hl 1 rfl) ?_
  refine lv_if_lt (tgt := 16) hx hb dX3_isRoom_1 (by decide) (fun c_1 => ?_) (fun c_1 => ?_)
  · have b_2 : wx_b a1 (-2147483648) (-1) := wb_lt c_1 (wb_any _) (show wx_b 0 0 0 from ⟨by decide, by decide⟩) (by decide) (by decide)
    refine lv_iconst (v := 0) hx hb dX3_isRoom_16 (by decide) ?_
    exact hret _ _ _ dX3_isRoom_17 rfl (by simp only [r_X3_isRoom, if_pos c_1])
  · have b_3 : wx_b a1 0 2147483647 := wb_ge (wb_nlt c_1) (wb_any _) (show wx_b 0 0 0 from ⟨by decide, by decide⟩) (by decide) (by decide)
    refine lv_iload_n hx hb dX3_isRoom_4 rfl (lv_at hl 1 rfl) ?_
    refine lv_aload_n hx hb dX3_isRoom_5 rfl (lv_at hl 0 rfl) ?_
    refine wx_geti (C := RX3) (T := TX3) (N := 15) (ci := 3) (j := 0) hx hb hts hi_X3 hown hK hX hh.l0 (sh_X3_0 hh) rfl (by decide) (hts (.fieldLink RX3 54 "SeenAgain$House" "rooms" "I") (by decide +kernel)) (fun _ h9 => h9) dX3_isRoom_6 ?_
    refine lv_icmp_ge (tgt := 16) hx hb dX3_isRoom_9 (by decide) (fun c_4 => ?_) (fun c_4 => ?_)
    · refine lv_iconst (v := 0) hx hb dX3_isRoom_16 (by decide) ?_
      exact hret _ _ _ dX3_isRoom_17 rfl (by simp only [r_X3_isRoom, if_neg c_1, if_pos c_4])
    · have b_5 : wx_b a1 0 2147483646 := wb_lt (wb_nle c_4) b_3 (wb_any _) (by decide) (by decide)
      have b_6 : wx_b (g h 0) 1 2147483647 := wb_gt (wb_nle c_4) (wb_any _) b_3 (by decide) (by decide)
      refine lv_iconst (v := 1) hx hb dX3_isRoom_12 (by decide) ?_
      refine lv_goto (tgt := 17) hx hb dX3_isRoom_13 (by decide) ?_
      exact hret _ _ _ dX3_isRoom_17 rfl (by simp only [r_X3_isRoom, if_neg c_1, if_neg c_4])
theorem nb_r_X3_isRoom (g : wx_M) (h : Nat) (a1 : Int32) : narrow .boolean (.int (r_X3_isRoom g h a1)) = .int (r_X3_isRoom g h a1) := by
  unfold r_X3_isRoom
  (repeat' split) <;> rfl
def r_X3_isPerson (g : wx_M) (h : Nat) (a1 : Int32) : Int32 :=
  if a1 < 0 then
    0
  else
    if (g h 4) ≤ a1 then
      0
    else
      1
set_option maxHeartbeats 4000000 in
set_option maxRecDepth 100000 in
theorem k_X3_isPerson (l : Launch) {D : va_G} {cy : Nat → ClassId} {ad : Nat → Nat} {B0 : Nat} {f : wx_F} {P : va_W} (g : wx_M) (h : Nat) (a1 : Int32) (hh : wx_H h) : Met l yX3_isPerson wsX3_isPerson ({ frames := 0, cells := 0, slots := 0, locals := 0 } : Room) (wx_Pc D cy ad B0 f P g [.ref (ad h), .int a1]) (QcRead (r_X3_isPerson g h a1)) 0 0 (fun _ => False) := by
  refine wx_enterR (cc := cX3_isPerson) (maxL := 2) (ty := .boolean) (own := RX3) (lv := [(0, .ref (ad h)), (1, .int a1)]) (by decide) rfl rfl (Nat.le_of_ble_eq_true rfl) rfl ?_
  intro p e R s m args below meth c ls Qm hx hb hml hown hts hK hX hR hret hl
  have hi_X3 : ∀ w ∈ wsX30, w ∈ wsX3_isPerson := by decide +kernel
  refine lv_iload_n hx hb dX3_isPerson_0 rfl (lv_at hl 1 rfl) ?_
  refine lv_if_lt (tgt := 16) hx hb dX3_isPerson_1 (by decide) (fun c_1 => ?_) (fun c_1 => ?_)
  · have b_2 : wx_b a1 (-2147483648) (-1) := wb_lt c_1 (wb_any _) (show wx_b 0 0 0 from ⟨by decide, by decide⟩) (by decide) (by decide)
    refine lv_iconst (v := 0) hx hb dX3_isPerson_16 (by decide) ?_
    exact hret _ _ _ dX3_isPerson_17 rfl (by simp only [r_X3_isPerson, if_pos c_1])
  · have b_3 : wx_b a1 0 2147483647 := wb_ge (wb_nlt c_1) (wb_any _) (show wx_b 0 0 0 from ⟨by decide, by decide⟩) (by decide) (by decide)
    refine lv_iload_n hx hb dX3_isPerson_4 rfl (lv_at hl 1 rfl) ?_
    refine lv_aload_n hx hb dX3_isPerson_5 rfl (lv_at hl 0 rfl) ?_
    refine wx_geti (C := RX3) (T := TX3) (N := 15) (ci := 3) (j := 4) hx hb hts hi_X3 hown hK hX hh.l0 (sh_X3_4 hh) rfl (by decide) (hts (.fieldLink RX3 42 "SeenAgain$House" "people" "I") (by decide +kernel)) (fun _ h9 => h9) dX3_isPerson_6 ?_
    refine lv_icmp_ge (tgt := 16) hx hb dX3_isPerson_9 (by decide) (fun c_4 => ?_) (fun c_4 => ?_)
    · refine lv_iconst (v := 0) hx hb dX3_isPerson_16 (by decide) ?_
      exact hret _ _ _ dX3_isPerson_17 rfl (by simp only [r_X3_isPerson, if_neg c_1, if_pos c_4])
    · have b_5 : wx_b a1 0 2147483646 := wb_lt (wb_nle c_4) b_3 (wb_any _) (by decide) (by decide)
      have b_6 : wx_b (g h 4) 1 2147483647 := wb_gt (wb_nle c_4) (wb_any _) b_3 (by decide) (by decide)
      refine lv_iconst (v := 1) hx hb dX3_isPerson_12 (by decide) ?_
      refine lv_goto (tgt := 17) hx hb dX3_isPerson_13 (by decide) ?_
      exact hret _ _ _ dX3_isPerson_17 rfl (by simp only [r_X3_isPerson, if_neg c_1, if_neg c_4])
theorem nb_r_X3_isPerson (g : wx_M) (h : Nat) (a1 : Int32) : narrow .boolean (.int (r_X3_isPerson g h a1)) = .int (r_X3_isPerson g h a1) := by
  unfold r_X3_isPerson
  (repeat' split) <;> rfl
def r_X3_isVisitor (g : wx_M) (h : Nat) (a1 : Int32) : Int32 :=
  if a1 < 0 then
    0
  else
    if (g h 5) ≤ a1 then
      0
    else
      1
set_option maxHeartbeats 4000000 in
set_option maxRecDepth 100000 in
theorem k_X3_isVisitor (l : Launch) {D : va_G} {cy : Nat → ClassId} {ad : Nat → Nat} {B0 : Nat} {f : wx_F} {P : va_W} (g : wx_M) (h : Nat) (a1 : Int32) (hh : wx_H h) : Met l yX3_isVisitor wsX3_isVisitor ({ frames := 0, cells := 0, slots := 0, locals := 0 } : Room) (wx_Pc D cy ad B0 f P g [.ref (ad h), .int a1]) (QcRead (r_X3_isVisitor g h a1)) 0 0 (fun _ => False) := by
  refine wx_enterR (cc := cX3_isVisitor) (maxL := 2) (ty := .boolean) (own := RX3) (lv := [(0, .ref (ad h)), (1, .int a1)]) (by decide) rfl rfl (Nat.le_of_ble_eq_true rfl) rfl ?_
  intro p e R s m args below meth c ls Qm hx hb hml hown hts hK hX hR hret hl
  have hi_X3 : ∀ w ∈ wsX30, w ∈ wsX3_isVisitor := by decide +kernel
  refine lv_iload_n hx hb dX3_isVisitor_0 rfl (lv_at hl 1 rfl) ?_
  refine lv_if_lt (tgt := 16) hx hb dX3_isVisitor_1 (by decide) (fun c_1 => ?_) (fun c_1 => ?_)
  · have b_2 : wx_b a1 (-2147483648) (-1) := wb_lt c_1 (wb_any _) (show wx_b 0 0 0 from ⟨by decide, by decide⟩) (by decide) (by decide)
    refine lv_iconst (v := 0) hx hb dX3_isVisitor_16 (by decide) ?_
    exact hret _ _ _ dX3_isVisitor_17 rfl (by simp only [r_X3_isVisitor, if_pos c_1])
  · have b_3 : wx_b a1 0 2147483647 := wb_ge (wb_nlt c_1) (wb_any _) (show wx_b 0 0 0 from ⟨by decide, by decide⟩) (by decide) (by decide)
    refine lv_iload_n hx hb dX3_isVisitor_4 rfl (lv_at hl 1 rfl) ?_
    refine lv_aload_n hx hb dX3_isVisitor_5 rfl (lv_at hl 0 rfl) ?_
    refine wx_geti (C := RX3) (T := TX3) (N := 15) (ci := 3) (j := 5) hx hb hts hi_X3 hown hK hX hh.l0 (sh_X3_5 hh) rfl (by decide) (hts (.fieldLink RX3 45 "SeenAgain$House" "visitors" "I") (by decide +kernel)) (fun _ h9 => h9) dX3_isVisitor_6 ?_
    refine lv_icmp_ge (tgt := 16) hx hb dX3_isVisitor_9 (by decide) (fun c_4 => ?_) (fun c_4 => ?_)
    · refine lv_iconst (v := 0) hx hb dX3_isVisitor_16 (by decide) ?_
      exact hret _ _ _ dX3_isVisitor_17 rfl (by simp only [r_X3_isVisitor, if_neg c_1, if_pos c_4])
    · have b_5 : wx_b a1 0 2147483646 := wb_lt (wb_nle c_4) b_3 (wb_any _) (by decide) (by decide)
      have b_6 : wx_b (g h 5) 1 2147483647 := wb_gt (wb_nle c_4) (wb_any _) b_3 (by decide) (by decide)
      refine lv_iconst (v := 1) hx hb dX3_isVisitor_12 (by decide) ?_
      refine lv_goto (tgt := 17) hx hb dX3_isVisitor_13 (by decide) ?_
      exact hret _ _ _ dX3_isVisitor_17 rfl (by simp only [r_X3_isVisitor, if_neg c_1, if_neg c_4])
theorem nb_r_X3_isVisitor (g : wx_M) (h : Nat) (a1 : Int32) : narrow .boolean (.int (r_X3_isVisitor g h a1)) = .int (r_X3_isVisitor g h a1) := by
  unfold r_X3_isVisitor
  (repeat' split) <;> rfl
def r_X3_isVisitorSet (g : wx_M) (h : Nat) (a1 : Int32) : Int32 :=
  if a1 < 0 then
    0
  else
    if (1 <<< ((g h 5) &&& 31)) ≤ a1 then
      0
    else
      1
set_option maxHeartbeats 4000000 in
set_option maxRecDepth 100000 in
theorem k_X3_isVisitorSet (l : Launch) {D : va_G} {cy : Nat → ClassId} {ad : Nat → Nat} {B0 : Nat} {f : wx_F} {P : va_W} (g : wx_M) (h : Nat) (a1 : Int32) (hh : wx_H h) : Met l yX3_isVisitorSet wsX3_isVisitorSet ({ frames := 0, cells := 0, slots := 0, locals := 0 } : Room) (wx_Pc D cy ad B0 f P g [.ref (ad h), .int a1]) (QcRead (r_X3_isVisitorSet g h a1)) 0 0 (fun _ => False) := by
  refine wx_enterR (cc := cX3_isVisitorSet) (maxL := 2) (ty := .boolean) (own := RX3) (lv := [(0, .ref (ad h)), (1, .int a1)]) (by decide) rfl rfl (Nat.le_of_ble_eq_true rfl) rfl ?_
  intro p e R s m args below meth c ls Qm hx hb hml hown hts hK hX hR hret hl
  have hi_X3 : ∀ w ∈ wsX30, w ∈ wsX3_isVisitorSet := by decide +kernel
  refine lv_iload_n hx hb dX3_isVisitorSet_0 rfl (lv_at hl 1 rfl) ?_
  refine lv_if_lt (tgt := 18) hx hb dX3_isVisitorSet_1 (by decide) (fun c_1 => ?_) (fun c_1 => ?_)
  · have b_2 : wx_b a1 (-2147483648) (-1) := wb_lt c_1 (wb_any _) (show wx_b 0 0 0 from ⟨by decide, by decide⟩) (by decide) (by decide)
    refine lv_iconst (v := 0) hx hb dX3_isVisitorSet_18 (by decide) ?_
    exact hret _ _ _ dX3_isVisitorSet_19 rfl (by simp only [r_X3_isVisitorSet, if_pos c_1])
  · have b_3 : wx_b a1 0 2147483647 := wb_ge (wb_nlt c_1) (wb_any _) (show wx_b 0 0 0 from ⟨by decide, by decide⟩) (by decide) (by decide)
    refine lv_iload_n hx hb dX3_isVisitorSet_4 rfl (lv_at hl 1 rfl) ?_
    refine lv_iconst (v := 1) hx hb dX3_isVisitorSet_5 (by decide) ?_
    refine lv_aload_n hx hb dX3_isVisitorSet_6 rfl (lv_at hl 0 rfl) ?_
    refine wx_geti (C := RX3) (T := TX3) (N := 15) (ci := 3) (j := 5) hx hb hts hi_X3 hown hK hX hh.l0 (sh_X3_5 hh) rfl (by decide) (hts (.fieldLink RX3 45 "SeenAgain$House" "visitors" "I") (by decide +kernel)) (fun _ h9 => h9) dX3_isVisitorSet_7 ?_
    refine lv_ishl hx hb dX3_isVisitorSet_10 ?_
    refine lv_icmp_ge (tgt := 18) hx hb dX3_isVisitorSet_11 (by decide) (fun c_4 => ?_) (fun c_4 => ?_)
    · refine lv_iconst (v := 0) hx hb dX3_isVisitorSet_18 (by decide) ?_
      exact hret _ _ _ dX3_isVisitorSet_19 rfl (by simp only [r_X3_isVisitorSet, if_neg c_1, if_pos c_4])
    · have b_5 : wx_b a1 0 2147483646 := wb_lt (wb_nle c_4) b_3 (wb_any _) (by decide) (by decide)
      have b_6 : wx_b (1 <<< ((g h 5) &&& 31)) 1 2147483647 := wb_gt (wb_nle c_4) (wb_any _) b_3 (by decide) (by decide)
      refine lv_iconst (v := 1) hx hb dX3_isVisitorSet_14 (by decide) ?_
      refine lv_goto (tgt := 19) hx hb dX3_isVisitorSet_15 (by decide) ?_
      exact hret _ _ _ dX3_isVisitorSet_19 rfl (by simp only [r_X3_isVisitorSet, if_neg c_1, if_neg c_4])
theorem nb_r_X3_isVisitorSet (g : wx_M) (h : Nat) (a1 : Int32) : narrow .boolean (.int (r_X3_isVisitorSet g h a1)) = .int (r_X3_isVisitorSet g h a1) := by
  unfold r_X3_isVisitorSet
  (repeat' split) <;> rfl
def r_X3_hasWindow (g : wx_M) (h : Nat) (a1 : Int32) (a2 : Int32) : Int32 :=
  (r_X11_has (g (h + 1) a1.toNatClampNeg) a2)
set_option maxHeartbeats 4000000 in
set_option maxRecDepth 100000 in
theorem k_X3_hasWindow (l : Launch) {D : va_G} {cy : Nat → ClassId} {ad : Nat → Nat} {B0 : Nat} {f : wx_F} {P : va_W} (g : wx_M) (h : Nat) (a1 : Int32) (a2 : Int32) (hh : wx_H h) (b1 : wx_b a1 0 5) : Met l yX3_hasWindow wsX3_hasWindow ({ frames := 1, cells := 0, slots := 0, locals := 21 } : Room) (wx_Pc D cy ad B0 f P g [.ref (ad h), .int a1, .int a2]) (QcRead (r_X3_hasWindow g h a1 a2)) 0 0 (fun _ => False) := by
  refine wx_enterR (cc := cX3_hasWindow) (maxL := 3) (ty := .boolean) (own := RX3) (lv := [(0, .ref (ad h)), (1, .int a1), (2, .int a2)]) (by decide) rfl rfl (Nat.le_of_ble_eq_true rfl) rfl ?_
  intro p e R s m args below meth c ls Qm hx hb hml hown hts hK hX hR hret hl
  have hi_X3 : ∀ w ∈ wsX30, w ∈ wsX3_hasWindow := by decide +kernel
  refine lv_aload_n hx hb dX3_hasWindow_0 rfl (lv_at hl 0 rfl) ?_
  refine wx_getr (t := h + 1) (C := RX3) (T := TX3) (N := 15) (ci := 3) (j := 9) hx hb hts hi_X3 hown hK hX hh.l0 (sh_X3_9 hh) rfl (by decide) (hts (.fieldLink RX3 9 "SeenAgain$House" "windows" "[I") (by decide +kernel)) (fun _ h9 => h9) dX3_hasWindow_1 ?_
  refine lv_iload_n hx hb dX3_hasWindow_4 rfl (lv_at hl 1 rfl) ?_
  refine wx_iald hx hb hK hX hh.l1 (sa_X3_1 hh) (wb_in b1 (by decide) (by decide)) dX3_hasWindow_5 ?_
  refine lv_iload_n hx hb dX3_hasWindow_6 rfl (lv_at hl 2 rfl) ?_
  refine wx_callr (va_runSN (As := [.int (g (h + 1) a1.toNatClampNeg), .int a2]) (rest := []) ⟨hx, hb, hml, hown, hts⟩ (k_X11_has l g (g (h + 1) a1.toNatClampNeg) a2) ⟨va_cnB 2 hts gX3_hasWindow_X11_has_n78 rfl rfl rfl hK.2.1.1 (hts (.initialized RX11) (by decide +kernel)) (by decide +kernel) (by rw [hR]; exact ⟨Nat.le_of_ble_eq_true rfl, Nat.le_of_ble_eq_true rfl⟩), hts (.static yX11_has) (by decide +kernel), trivial⟩ (wx_Pc.pre hK hX) rfl rfl hl.1 rfl (lv_room (Nat.le_of_ble_eq_true rfl)) dX3_hasWindow_7 ⟨Nat.zero_le _, Nat.zero_le _⟩) ?_
  exact hret _ _ _ dX3_hasWindow_10 (nb_r_X11_has _ _) (by simp only [r_X3_hasWindow])
theorem nb_r_X3_hasWindow (g : wx_M) (h : Nat) (a1 : Int32) (a2 : Int32) : narrow .boolean (.int (r_X3_hasWindow g h a1 a2)) = .int (r_X3_hasWindow g h a1 a2) := by
  unfold r_X3_hasWindow
  (first | rfl | exact nb_r_X11_has _ _)
def r_X3_isDrawn (g : wx_M) (h : Nat) (a1 : Int32) (a2 : Int32) (a3 : Int32) : Int32 :=
  (r_X11_has (g (h + 2) (r_X11_seatNumber a1 a3).toNatClampNeg) a2)
set_option maxHeartbeats 4000000 in
set_option maxRecDepth 100000 in
theorem k_X3_isDrawn (l : Launch) {D : va_G} {cy : Nat → ClassId} {ad : Nat → Nat} {B0 : Nat} {f : wx_F} {P : va_W} (g : wx_M) (h : Nat) (a1 : Int32) (a2 : Int32) (a3 : Int32) (hh : wx_H h) (b1 : wx_b a1 0 5) (b3 : wx_b a3 0 7) : Met l yX3_isDrawn wsX3_isDrawn ({ frames := 1, cells := 0, slots := 0, locals := 21 } : Room) (wx_Pc D cy ad B0 f P g [.ref (ad h), .int a1, .int a2, .int a3]) (QcRead (r_X3_isDrawn g h a1 a2 a3)) 0 0 (fun _ => False) := by
  refine wx_enterR (cc := cX3_isDrawn) (maxL := 4) (ty := .boolean) (own := RX3) (lv := [(0, .ref (ad h)), (1, .int a1), (2, .int a2), (3, .int a3)]) (by decide) rfl rfl (Nat.le_of_ble_eq_true rfl) rfl ?_
  intro p e R s m args below meth c ls Qm hx hb hml hown hts hK hX hR hret hl
  have hi_X3 : ∀ w ∈ wsX30, w ∈ wsX3_isDrawn := by decide +kernel
  refine lv_aload_n hx hb dX3_isDrawn_0 rfl (lv_at hl 0 rfl) ?_
  refine wx_getr (t := h + 2) (C := RX3) (T := TX3) (N := 15) (ci := 3) (j := 10) hx hb hts hi_X3 hown hK hX hh.l0 (sh_X3_10 hh) rfl (by decide) (hts (.fieldLink RX3 15 "SeenAgain$House" "drawn" "[I") (by decide +kernel)) (fun _ h9 => h9) dX3_isDrawn_1 ?_
  refine lv_iload_n hx hb dX3_isDrawn_4 rfl (lv_at hl 1 rfl) ?_
  refine lv_iload_n hx hb dX3_isDrawn_5 rfl (lv_at hl 3 rfl) ?_
  refine wx_callr (va_runSN (As := [.int a1, .int a3]) (rest := [.ref (ad (h + 2))]) ⟨hx, hb, hml, hown, hts⟩ (k_X11_seatNumber l g a1 a3) ⟨va_cnB 2 hts gX3_isDrawn_X11_seatNumber_n82 rfl rfl rfl hK.2.1.2 (hts (.initialized RX11) (by decide +kernel)) (by decide +kernel) (by rw [hR]; exact ⟨Nat.le_of_ble_eq_true rfl, Nat.le_of_ble_eq_true rfl⟩), hts (.static yX11_seatNumber) (by decide +kernel), trivial⟩ (wx_Pc.pre hK hX) rfl rfl hl.1 rfl (lv_room (Nat.le_of_ble_eq_true rfl)) dX3_isDrawn_6 ⟨Nat.zero_le _, Nat.zero_le _⟩) ?_
  refine wx_iald hx hb hK hX hh.l2 (sa_X3_2 hh) (wb_in (rg_seat (wb_w b1 (by decide) (by decide)) (wb_w b3 (by decide) (by decide))) (by decide) (by decide)) dX3_isDrawn_9 ?_
  refine lv_iload_n hx hb dX3_isDrawn_10 rfl (lv_at hl 2 rfl) ?_
  refine wx_callr (va_runSN (As := [.int (g (h + 2) (r_X11_seatNumber a1 a3).toNatClampNeg), .int a2]) (rest := []) ⟨hx, hb, hml, hown, hts⟩ (k_X11_has l g (g (h + 2) (r_X11_seatNumber a1 a3).toNatClampNeg) a2) ⟨va_cnB 2 hts gX3_isDrawn_X11_has_n78 rfl rfl rfl hK.2.1.1 (hts (.initialized RX11) (by decide +kernel)) (by decide +kernel) (by rw [hR]; exact ⟨Nat.le_of_ble_eq_true rfl, Nat.le_of_ble_eq_true rfl⟩), hts (.static yX11_has) (by decide +kernel), trivial⟩ (wx_Pc.pre hK hX) rfl rfl hl.1 rfl (lv_room (Nat.le_of_ble_eq_true rfl)) dX3_isDrawn_11 ⟨Nat.zero_le _, Nat.zero_le _⟩) ?_
  exact hret _ _ _ dX3_isDrawn_14 (nb_r_X11_has _ _) (by simp only [r_X3_isDrawn])
theorem nb_r_X3_isDrawn (g : wx_M) (h : Nat) (a1 : Int32) (a2 : Int32) (a3 : Int32) : narrow .boolean (.int (r_X3_isDrawn g h a1 a2 a3)) = .int (r_X3_isDrawn g h a1 a2 a3) := by
  unfold r_X3_isDrawn
  (first | rfl | exact nb_r_X11_has _ _)
def r_X3_viewOf (g : wx_M) (h : Nat) (a1 : Int32) (a2 : Int32) : Int32 :=
  ((1 <<< (a1 &&& 31)) ||| ((g (h + 1) a1.toNatClampNeg) &&& ((g (h + 2) (r_X11_seatNumber a1 a2).toNatClampNeg) ^^^ (-1))))
set_option maxHeartbeats 4000000 in
set_option maxRecDepth 100000 in
theorem k_X3_viewOf (l : Launch) {D : va_G} {cy : Nat → ClassId} {ad : Nat → Nat} {B0 : Nat} {f : wx_F} {P : va_W} (g : wx_M) (h : Nat) (a1 : Int32) (a2 : Int32) (hh : wx_H h) (b1 : wx_b a1 0 5) (b2 : wx_b a2 0 7) : Met l yX3_viewOf wsX3_viewOf ({ frames := 1, cells := 0, slots := 0, locals := 21 } : Room) (wx_Pc D cy ad B0 f P g [.ref (ad h), .int a1, .int a2]) (QcRead (r_X3_viewOf g h a1 a2)) 0 0 (fun _ => False) := by
  refine wx_enterR (cc := cX3_viewOf) (maxL := 3) (ty := .int) (own := RX3) (lv := [(0, .ref (ad h)), (1, .int a1), (2, .int a2)]) (by decide) rfl rfl (Nat.le_of_ble_eq_true rfl) rfl ?_
  intro p e R s m args below meth c ls Qm hx hb hml hown hts hK hX hR hret hl
  have hi_X3 : ∀ w ∈ wsX30, w ∈ wsX3_viewOf := by decide +kernel
  refine lv_iconst (v := 1) hx hb dX3_viewOf_0 (by decide) ?_
  refine lv_iload_n hx hb dX3_viewOf_1 rfl (lv_at hl 1 rfl) ?_
  refine lv_ishl hx hb dX3_viewOf_2 ?_
  refine lv_aload_n hx hb dX3_viewOf_3 rfl (lv_at hl 0 rfl) ?_
  refine wx_getr (t := h + 1) (C := RX3) (T := TX3) (N := 15) (ci := 3) (j := 9) hx hb hts hi_X3 hown hK hX hh.l0 (sh_X3_9 hh) rfl (by decide) (hts (.fieldLink RX3 9 "SeenAgain$House" "windows" "[I") (by decide +kernel)) (fun _ h9 => h9) dX3_viewOf_4 ?_
  refine lv_iload_n hx hb dX3_viewOf_7 rfl (lv_at hl 1 rfl) ?_
  refine wx_iald hx hb hK hX hh.l1 (sa_X3_1 hh) (wb_in b1 (by decide) (by decide)) dX3_viewOf_8 ?_
  refine lv_aload_n hx hb dX3_viewOf_9 rfl (lv_at hl 0 rfl) ?_
  refine wx_getr (t := h + 2) (C := RX3) (T := TX3) (N := 15) (ci := 3) (j := 10) hx hb hts hi_X3 hown hK hX hh.l0 (sh_X3_10 hh) rfl (by decide) (hts (.fieldLink RX3 15 "SeenAgain$House" "drawn" "[I") (by decide +kernel)) (fun _ h9 => h9) dX3_viewOf_10 ?_
  refine lv_iload_n hx hb dX3_viewOf_13 rfl (lv_at hl 1 rfl) ?_
  refine lv_iload_n hx hb dX3_viewOf_14 rfl (lv_at hl 2 rfl) ?_
  refine wx_callr (va_runSN (As := [.int a1, .int a2]) (rest := [.ref (ad (h + 2)), .int (g (h + 1) a1.toNatClampNeg), .int (1 <<< (a1 &&& 31))]) ⟨hx, hb, hml, hown, hts⟩ (k_X11_seatNumber l g a1 a2) ⟨va_cnB 2 hts gX3_viewOf_X11_seatNumber_n82 rfl rfl rfl hK.2.1.2 (hts (.initialized RX11) (by decide +kernel)) (by decide +kernel) (by rw [hR]; exact ⟨Nat.le_of_ble_eq_true rfl, Nat.le_of_ble_eq_true rfl⟩), hts (.static yX11_seatNumber) (by decide +kernel), trivial⟩ (wx_Pc.pre hK hX) rfl rfl hl.1 rfl (lv_room (Nat.le_of_ble_eq_true rfl)) dX3_viewOf_15 ⟨Nat.zero_le _, Nat.zero_le _⟩) ?_
  refine wx_iald hx hb hK hX hh.l2 (sa_X3_2 hh) (wb_in (rg_seat (wb_w b1 (by decide) (by decide)) (wb_w b2 (by decide) (by decide))) (by decide) (by decide)) dX3_viewOf_18 ?_
  refine lv_iconst (v := (-1)) hx hb dX3_viewOf_19 (by decide) ?_
  refine lv_ixor hx hb dX3_viewOf_20 ?_
  refine lv_iand hx hb dX3_viewOf_21 ?_
  refine lv_ior hx hb dX3_viewOf_22 ?_
  exact hret _ _ _ dX3_viewOf_23 rfl (by simp only [r_X3_viewOf])
def r_X3_holds (g : wx_M) (h : Nat) (a1 : Int32) (a2 : Int32) (a3 : Int32) : Int32 :=
  (r_X11_has (g (h + 3) (r_X11_seatNumber a2 a3).toNatClampNeg) a1)
set_option maxHeartbeats 4000000 in
set_option maxRecDepth 100000 in
theorem k_X3_holds (l : Launch) {D : va_G} {cy : Nat → ClassId} {ad : Nat → Nat} {B0 : Nat} {f : wx_F} {P : va_W} (g : wx_M) (h : Nat) (a1 : Int32) (a2 : Int32) (a3 : Int32) (hh : wx_H h) (b2 : wx_b a2 0 5) (b3 : wx_b a3 0 7) : Met l yX3_holds wsX3_holds ({ frames := 1, cells := 0, slots := 0, locals := 21 } : Room) (wx_Pc D cy ad B0 f P g [.ref (ad h), .int a1, .int a2, .int a3]) (QcRead (r_X3_holds g h a1 a2 a3)) 0 0 (fun _ => False) := by
  refine wx_enterR (cc := cX3_holds) (maxL := 4) (ty := .boolean) (own := RX3) (lv := [(0, .ref (ad h)), (1, .int a1), (2, .int a2), (3, .int a3)]) (by decide) rfl rfl (Nat.le_of_ble_eq_true rfl) rfl ?_
  intro p e R s m args below meth c ls Qm hx hb hml hown hts hK hX hR hret hl
  have hi_X3 : ∀ w ∈ wsX30, w ∈ wsX3_holds := by decide +kernel
  refine lv_aload_n hx hb dX3_holds_0 rfl (lv_at hl 0 rfl) ?_
  refine wx_getr (t := h + 3) (C := RX3) (T := TX3) (N := 15) (ci := 3) (j := 11) hx hb hts hi_X3 hown hK hX hh.l0 (sh_X3_11 hh) rfl (by decide) (hts (.fieldLink RX3 18 "SeenAgain$House" "holders" "[I") (by decide +kernel)) (fun _ h9 => h9) dX3_holds_1 ?_
  refine lv_iload_n hx hb dX3_holds_4 rfl (lv_at hl 2 rfl) ?_
  refine lv_iload_n hx hb dX3_holds_5 rfl (lv_at hl 3 rfl) ?_
  refine wx_callr (va_runSN (As := [.int a2, .int a3]) (rest := [.ref (ad (h + 3))]) ⟨hx, hb, hml, hown, hts⟩ (k_X11_seatNumber l g a2 a3) ⟨va_cnB 2 hts gX3_holds_X11_seatNumber_n82 rfl rfl rfl hK.2.1.2 (hts (.initialized RX11) (by decide +kernel)) (by decide +kernel) (by rw [hR]; exact ⟨Nat.le_of_ble_eq_true rfl, Nat.le_of_ble_eq_true rfl⟩), hts (.static yX11_seatNumber) (by decide +kernel), trivial⟩ (wx_Pc.pre hK hX) rfl rfl hl.1 rfl (lv_room (Nat.le_of_ble_eq_true rfl)) dX3_holds_6 ⟨Nat.zero_le _, Nat.zero_le _⟩) ?_
  refine wx_iald hx hb hK hX hh.l3 (sa_X3_3 hh) (wb_in (rg_seat (wb_w b2 (by decide) (by decide)) (wb_w b3 (by decide) (by decide))) (by decide) (by decide)) dX3_holds_9 ?_
  refine lv_iload_n hx hb dX3_holds_10 rfl (lv_at hl 1 rfl) ?_
  refine wx_callr (va_runSN (As := [.int (g (h + 3) (r_X11_seatNumber a2 a3).toNatClampNeg), .int a1]) (rest := []) ⟨hx, hb, hml, hown, hts⟩ (k_X11_has l g (g (h + 3) (r_X11_seatNumber a2 a3).toNatClampNeg) a1) ⟨va_cnB 2 hts gX3_holds_X11_has_n78 rfl rfl rfl hK.2.1.1 (hts (.initialized RX11) (by decide +kernel)) (by decide +kernel) (by rw [hR]; exact ⟨Nat.le_of_ble_eq_true rfl, Nat.le_of_ble_eq_true rfl⟩), hts (.static yX11_has) (by decide +kernel), trivial⟩ (wx_Pc.pre hK hX) rfl rfl hl.1 rfl (lv_room (Nat.le_of_ble_eq_true rfl)) dX3_holds_11 ⟨Nat.zero_le _, Nat.zero_le _⟩) ?_
  exact hret _ _ _ dX3_holds_14 (nb_r_X11_has _ _) (by simp only [r_X3_holds])
theorem nb_r_X3_holds (g : wx_M) (h : Nat) (a1 : Int32) (a2 : Int32) (a3 : Int32) : narrow .boolean (.int (r_X3_holds g h a1 a2 a3)) = .int (r_X3_holds g h a1 a2 a3) := by
  unfold r_X3_holds
  (first | rfl | exact nb_r_X11_has _ _)
def r_X3_heldOf (g : wx_M) (h : Nat) (a1 : Int32) (a2 : Int32) : Int32 :=
  (r_J6_bitCount_0f7a4 (g (h + 3) (r_X11_seatNumber a1 a2).toNatClampNeg))
set_option maxHeartbeats 4000000 in
set_option maxRecDepth 100000 in
theorem k_X3_heldOf (l : Launch) {D : va_G} {cy : Nat → ClassId} {ad : Nat → Nat} {B0 : Nat} {f : wx_F} {P : va_W} (g : wx_M) (h : Nat) (a1 : Int32) (a2 : Int32) (hh : wx_H h) (b1 : wx_b a1 0 5) (b2 : wx_b a2 0 7) : Met l yX3_heldOf wsX3_heldOf ({ frames := 1, cells := 0, slots := 0, locals := 21 } : Room) (wx_Pc D cy ad B0 f P g [.ref (ad h), .int a1, .int a2]) (QcRead (r_X3_heldOf g h a1 a2)) 0 0 (fun _ => False) := by
  refine wx_enterR (cc := cX3_heldOf) (maxL := 3) (ty := .int) (own := RX3) (lv := [(0, .ref (ad h)), (1, .int a1), (2, .int a2)]) (by decide) rfl rfl (Nat.le_of_ble_eq_true rfl) rfl ?_
  intro p e R s m args below meth c ls Qm hx hb hml hown hts hK hX hR hret hl
  have hi_X3 : ∀ w ∈ wsX30, w ∈ wsX3_heldOf := by decide +kernel
  refine lv_aload_n hx hb dX3_heldOf_0 rfl (lv_at hl 0 rfl) ?_
  refine wx_getr (t := h + 3) (C := RX3) (T := TX3) (N := 15) (ci := 3) (j := 11) hx hb hts hi_X3 hown hK hX hh.l0 (sh_X3_11 hh) rfl (by decide) (hts (.fieldLink RX3 18 "SeenAgain$House" "holders" "[I") (by decide +kernel)) (fun _ h9 => h9) dX3_heldOf_1 ?_
  refine lv_iload_n hx hb dX3_heldOf_4 rfl (lv_at hl 1 rfl) ?_
  refine lv_iload_n hx hb dX3_heldOf_5 rfl (lv_at hl 2 rfl) ?_
  refine wx_callr (va_runSN (As := [.int a1, .int a2]) (rest := [.ref (ad (h + 3))]) ⟨hx, hb, hml, hown, hts⟩ (k_X11_seatNumber l g a1 a2) ⟨va_cnB 2 hts gX3_heldOf_X11_seatNumber_n82 rfl rfl rfl hK.2.1.2 (hts (.initialized RX11) (by decide +kernel)) (by decide +kernel) (by rw [hR]; exact ⟨Nat.le_of_ble_eq_true rfl, Nat.le_of_ble_eq_true rfl⟩), hts (.static yX11_seatNumber) (by decide +kernel), trivial⟩ (wx_Pc.pre hK hX) rfl rfl hl.1 rfl (lv_room (Nat.le_of_ble_eq_true rfl)) dX3_heldOf_6 ⟨Nat.zero_le _, Nat.zero_le _⟩) ?_
  refine wx_iald hx hb hK hX hh.l3 (sa_X3_3 hh) (wb_in (rg_seat (wb_w b1 (by decide) (by decide)) (wb_w b2 (by decide) (by decide))) (by decide) (by decide)) dX3_heldOf_9 ?_
  refine wx_callr (va_runS (As := [.int (g (h + 3) (r_X11_seatNumber a1 a2).toNatClampNeg)]) (rest := []) ⟨hx, hb, hml, hown, hts⟩ (k_J6_bitCount_0f7a4 l g (g (h + 3) (r_X11_seatNumber a1 a2).toNatClampNeg)) (va_cwS 1 hts gX3_heldOf_J6_bitCount_0f7a4 rfl rfl rfl (by decide +kernel) (by rw [hR]; exact ⟨Nat.le_of_ble_eq_true rfl, Nat.le_of_ble_eq_true rfl⟩)) (wx_Pc.pre hK hX) rfl rfl hl.1 rfl (lv_room (Nat.le_of_ble_eq_true rfl)) dX3_heldOf_10 ⟨Nat.zero_le _, Nat.zero_le _⟩) ?_
  exact hret _ _ _ dX3_heldOf_13 rfl (by simp only [r_X3_heldOf])
def r_X3_isLeft (g : wx_M) (h : Nat) (a1 : Int32) (a2 : Int32) : Int32 :=
  if (g h 1) ≤ (r_X3_heldOf g h a1 a2) then
    0
  else
    1
set_option maxHeartbeats 4000000 in
set_option maxRecDepth 100000 in
theorem k_X3_isLeft (l : Launch) {D : va_G} {cy : Nat → ClassId} {ad : Nat → Nat} {B0 : Nat} {f : wx_F} {P : va_W} (g : wx_M) (h : Nat) (a1 : Int32) (a2 : Int32) (hh : wx_H h) (b1 : wx_b a1 0 5) (b2 : wx_b a2 0 7) : Met l yX3_isLeft wsX3_isLeft ({ frames := 2, cells := 0, slots := 0, locals := 43 } : Room) (wx_Pc D cy ad B0 f P g [.ref (ad h), .int a1, .int a2]) (QcRead (r_X3_isLeft g h a1 a2)) 0 0 (fun _ => False) := by
  refine wx_enterR (cc := cX3_isLeft) (maxL := 3) (ty := .boolean) (own := RX3) (lv := [(0, .ref (ad h)), (1, .int a1), (2, .int a2)]) (by decide) rfl rfl (Nat.le_of_ble_eq_true rfl) rfl ?_
  intro p e R s m args below meth c ls Qm hx hb hml hown hts hK hX hR hret hl
  have hi_X3 : ∀ w ∈ wsX30, w ∈ wsX3_isLeft := by decide +kernel
  refine lv_aload_n hx hb dX3_isLeft_0 rfl (lv_at hl 0 rfl) ?_
  refine lv_iload_n hx hb dX3_isLeft_1 rfl (lv_at hl 1 rfl) ?_
  refine lv_iload_n hx hb dX3_isLeft_2 rfl (lv_at hl 2 rfl) ?_
  refine wx_callr (va_runV (As := [.int a1, .int a2]) (rest := []) ⟨hx, hb, hml, hown, hts⟩ (k_X3_heldOf l g h a1 a2 hh b1 b2) (cwV 2 hts gX3_isLeft_X3_heldOf rfl rfl rfl (by decide +kernel) (by rw [hR]; exact ⟨Nat.le_of_ble_eq_true rfl, Nat.le_of_ble_eq_true rfl⟩)) ⟨wx_Pc.blind, wx_recv hK hX hh.l0 (sh_X3 hh) rfl, (wx_Pc.pre hK hX).2⟩ rfl rfl hl.1 rfl (lv_room (Nat.le_of_ble_eq_true rfl)) dX3_isLeft_3 ⟨Nat.zero_le _, Nat.zero_le _⟩) ?_
  refine lv_aload_n hx hb dX3_isLeft_6 rfl (lv_at hl 0 rfl) ?_
  refine wx_geti (C := RX3) (T := TX3) (N := 15) (ci := 3) (j := 1) hx hb hts hi_X3 hown hK hX hh.l0 (sh_X3_1 hh) rfl (by decide) (hts (.fieldLink RX3 57 "SeenAgain$House" "seats" "I") (by decide +kernel)) (fun _ h9 => h9) dX3_isLeft_7 ?_
  refine lv_icmp_ge (tgt := 17) hx hb dX3_isLeft_10 (by decide) (fun c_1 => ?_) (fun c_1 => ?_)
  · refine lv_iconst (v := 0) hx hb dX3_isLeft_17 (by decide) ?_
    exact hret _ _ _ dX3_isLeft_18 rfl (by simp only [r_X3_isLeft, if_pos c_1])
  · have b_2 : wx_b (r_X3_heldOf g h a1 a2) (-2147483648) 2147483646 := wb_lt (wb_nle c_1) (wb_any _) (wb_any _) (by decide) (by decide)
    have b_3 : wx_b (g h 1) (-2147483647) 2147483647 := wb_gt (wb_nle c_1) (wb_any _) (wb_any _) (by decide) (by decide)
    refine lv_iconst (v := 1) hx hb dX3_isLeft_13 (by decide) ?_
    refine lv_goto (tgt := 18) hx hb dX3_isLeft_14 (by decide) ?_
    exact hret _ _ _ dX3_isLeft_18 rfl (by simp only [r_X3_isLeft, if_neg c_1])
theorem nb_r_X3_isLeft (g : wx_M) (h : Nat) (a1 : Int32) (a2 : Int32) : narrow .boolean (.int (r_X3_isLeft g h a1 a2)) = .int (r_X3_isLeft g h a1 a2) := by
  unfold r_X3_isLeft
  (repeat' split) <;> rfl
def b_X3_lookedBy_5 (g : wx_M) (h : Nat) (a1 : Int32) (a2 : Int32) (t_5 : Nat) (s_5 : Int32) : Int32 :=
  if ((g (h + 3) (r_X11_seatNumber (nI t_5) a2).toNatClampNeg) &&& a1) = 0 then
    s_5
  else
    let x_5 := (s_5 ||| (r_X3_viewOf g h (nI t_5) a2))
    x_5
def r_X3_lookedBy (g : wx_M) (h : Nat) (a1 : Int32) (a2 : Int32) : Int32 :=
  let s_5 := rep (g h 0).toNatClampNeg (b_X3_lookedBy_5 g h a1 a2) (0 : Int32)
  s_5
set_option maxHeartbeats 4000000 in
set_option maxRecDepth 100000 in
theorem k_X3_lookedBy (l : Launch) {D : va_G} {cy : Nat → ClassId} {ad : Nat → Nat} {B0 : Nat} {f : wx_F} {P : va_W} (g : wx_M) (h : Nat) (a1 : Int32) (a2 : Int32) (hh : wx_H h) (b2 : wx_b a2 0 7) (hg : wx_HB g h) : Met l yX3_lookedBy wsX3_lookedBy ({ frames := 2, cells := 0, slots := 0, locals := 43 } : Room) (wx_Pc D cy ad B0 f P g [.ref (ad h), .int a1, .int a2]) (QcRead (r_X3_lookedBy g h a1 a2)) 0 0 (fun _ => False) := by
  refine wx_enterR (cc := cX3_lookedBy) (maxL := 5) (ty := .int) (own := RX3) (lv := [(0, .ref (ad h)), (1, .int a1), (2, .int a2)]) (by decide) rfl rfl (Nat.le_of_ble_eq_true rfl) rfl ?_
  intro p e R s m args below meth c ls Qm hx hb hml hown hts hK hX hR hret hl
  have hi_X3 : ∀ w ∈ wsX30, w ∈ wsX3_lookedBy := by decide +kernel
  refine lv_iconst (v := 0) hx hb dX3_lookedBy_0 (by decide) ?_
  refine lv_istore_n (lv' := [(3, .int 0), (0, .ref (ad h)), (1, .int a1), (2, .int a2)]) hx hb dX3_lookedBy_1 rfl hl (by decide) rfl (fun ls hl => ?_)
  refine lv_iconst (v := 0) hx hb dX3_lookedBy_2 (by decide) ?_
  refine lv_istore (lv' := [(4, .int 0), (3, .int 0), (0, .ref (ad h)), (1, .int a1), (2, .int a2)]) hx hb dX3_lookedBy_3 hl (by decide) rfl (fun ls hl => ?_)
  have lp_5 : ∀ (n t_5 : Nat) (s_5 : Int32) (ls : Array Slot), t_5 ≤ (g h 0).toNatClampNeg → (g h 0).toNatClampNeg + 1 ≤ t_5 + n → s_5 = rep t_5 (b_X3_lookedBy_5 g h a1 a2) (0 : Int32) → lv_has ls 5 [(4, .int (nI t_5)), (3, .int s_5), (0, .ref (ad h)), (1, .int a1), (2, .int a2)] → W p l e R s m args below meth c s.heap [] 0 0 Qm (F0 m 5 ls []) := by
    intro n
    induction n with
    | zero => intro t_5 s_5 ls h1 h2; exact absurd h2 (by omega)
    | succ n ih_5 =>
      intro t_5 s_5 ls ht_5 hn_5 es_5 hl
      refine lv_iload hx hb dX3_lookedBy_5 (lv_at hl 0 rfl) ?_
      refine lv_aload_n hx hb dX3_lookedBy_7 rfl (lv_at hl 2 rfl) ?_
      refine wx_geti (C := RX3) (T := TX3) (N := 15) (ci := 3) (j := 0) hx hb hts hi_X3 hown hK hX hh.l0 (sh_X3_0 hh) rfl (by decide) (hts (.fieldLink RX3 54 "SeenAgain$House" "rooms" "I") (by decide +kernel)) (fun _ h9 => h9) dX3_lookedBy_8 ?_
      refine lv_icmp_ge (tgt := 46) hx hb dX3_lookedBy_11 (by decide) (fun c_1 => ?_) (fun c_1 => ?_)
      · have et_5 : t_5 = (g h 0).toNatClampNeg := Nat.le_antisymm ht_5 (by have h9 := wx_dn (by have := wx_cl31 (g h 0); omega) c_1; omega)
        subst et_5
        refine lv_iload_n hx hb dX3_lookedBy_46 rfl (lv_at hl 1 rfl) ?_
        exact hret _ _ _ dX3_lookedBy_47 rfl (by simp only [r_X3_lookedBy, ← es_5])
      · have hlt_5 : t_5 < (g h 0).toNatClampNeg := by have h9 := wx_up (by have := wx_cl31 (g h 0); omega) c_1; omega
        have bt_5 : wx_b (nI (t_5)) 0 5 := wb_nI (n := 5) (by have := wb_cl (n := 6) hg.1 (by decide); omega) (by decide)
        refine lv_aload_n hx hb dX3_lookedBy_14 rfl (lv_at hl 2 rfl) ?_
        refine wx_getr (t := h + 3) (C := RX3) (T := TX3) (N := 15) (ci := 3) (j := 11) hx hb hts hi_X3 hown hK hX hh.l0 (sh_X3_11 hh) rfl (by decide) (hts (.fieldLink RX3 18 "SeenAgain$House" "holders" "[I") (by decide +kernel)) (fun _ h9 => h9) dX3_lookedBy_15 ?_
        refine lv_iload hx hb dX3_lookedBy_18 (lv_at hl 0 rfl) ?_
        refine lv_iload_n hx hb dX3_lookedBy_20 rfl (lv_at hl 4 rfl) ?_
        refine wx_callr (va_runSN (As := [.int (nI t_5), .int a2]) (rest := [.ref (ad (h + 3))]) ⟨hx, hb, hml, hown, hts⟩ (k_X11_seatNumber l g (nI t_5) a2) ⟨va_cnB 2 hts gX3_lookedBy_X11_seatNumber_n82 rfl rfl rfl hK.2.1.2 (hts (.initialized RX11) (by decide +kernel)) (by decide +kernel) (by rw [hR]; exact ⟨Nat.le_of_ble_eq_true rfl, Nat.le_of_ble_eq_true rfl⟩), hts (.static yX11_seatNumber) (by decide +kernel), trivial⟩ (wx_Pc.pre hK hX) rfl rfl hl.1 rfl (lv_room (Nat.le_of_ble_eq_true rfl)) dX3_lookedBy_21 ⟨Nat.zero_le _, Nat.zero_le _⟩) ?_
        refine wx_iald hx hb hK hX hh.l3 (sa_X3_3 hh) (wb_in (rg_seat (wb_w bt_5 (by decide) (by decide)) (wb_w b2 (by decide) (by decide))) (by decide) (by decide)) dX3_lookedBy_24 ?_
        refine lv_iload_n hx hb dX3_lookedBy_25 rfl (lv_at hl 3 rfl) ?_
        refine lv_iand hx hb dX3_lookedBy_26 ?_
        refine lv_if_eq (tgt := 40) hx hb dX3_lookedBy_27 (by decide) (fun c_2 => ?_) (fun c_2 => ?_)
        · have b_3 : wx_b ((g (h + 3) (r_X11_seatNumber (nI t_5) a2).toNatClampNeg) &&& a1) 0 0 := by rw [c_2]; exact ⟨by decide, by decide⟩
          refine lv_iinc (v := nI (t_5 + 1)) (lv' := [(4, .int (nI (t_5 + 1))), (3, .int s_5), (0, .ref (ad h)), (1, .int a1), (2, .int a2)]) hx hb dX3_lookedBy_40 hl (k := 0) rfl (wx_inc _) (by decide) rfl (fun ls hl => ?_)
          refine lv_goto (tgt := 5) hx hb dX3_lookedBy_43 (by decide) ?_
          have hF_4 : (b_X3_lookedBy_5 g h a1 a2) t_5 s_5 = s_5 := (by simp only [b_X3_lookedBy_5, if_pos c_2])
          exact ih_5 (t_5 + 1) s_5 ls hlt_5 (by omega) (by rw [rep_succ, ← es_5, hF_4]) (lv_sub hl [0, 1, 2, 3, 4] rfl)
        · refine lv_iload_n hx hb dX3_lookedBy_30 rfl (lv_at hl 1 rfl) ?_
          refine lv_aload_n hx hb dX3_lookedBy_31 rfl (lv_at hl 2 rfl) ?_
          refine lv_iload hx hb dX3_lookedBy_32 (lv_at hl 0 rfl) ?_
          refine lv_iload_n hx hb dX3_lookedBy_34 rfl (lv_at hl 4 rfl) ?_
          refine wx_callr (va_runV (As := [.int (nI t_5), .int a2]) (rest := [.int s_5]) ⟨hx, hb, hml, hown, hts⟩ (k_X3_viewOf l g h (nI t_5) a2 hh bt_5 b2) (cwV 2 hts gX3_lookedBy_X3_viewOf rfl rfl rfl (by decide +kernel) (by rw [hR]; exact ⟨Nat.le_of_ble_eq_true rfl, Nat.le_of_ble_eq_true rfl⟩)) ⟨wx_Pc.blind, wx_recv hK hX hh.l0 (sh_X3 hh) rfl, (wx_Pc.pre hK hX).2⟩ rfl rfl hl.1 rfl (lv_room (Nat.le_of_ble_eq_true rfl)) dX3_lookedBy_35 ⟨Nat.zero_le _, Nat.zero_le _⟩) ?_
          refine lv_ior hx hb dX3_lookedBy_38 ?_
          refine lv_topi (fun x_5 ex_5 => ?_)
          refine lv_istore_n (lv' := [(3, .int x_5), (4, .int (nI t_5)), (0, .ref (ad h)), (1, .int a1), (2, .int a2)]) hx hb dX3_lookedBy_39 rfl hl (by decide) rfl (fun ls hl => ?_)
          refine lv_iinc (v := nI (t_5 + 1)) (lv' := [(4, .int (nI (t_5 + 1))), (3, .int x_5), (0, .ref (ad h)), (1, .int a1), (2, .int a2)]) hx hb dX3_lookedBy_40 hl (k := 1) rfl (wx_inc _) (by decide) rfl (fun ls hl => ?_)
          refine lv_goto (tgt := 5) hx hb dX3_lookedBy_43 (by decide) ?_
          have hF_6 : (b_X3_lookedBy_5 g h a1 a2) t_5 s_5 = x_5 := (by subst ex_5; simp only [b_X3_lookedBy_5, if_neg c_2])
          exact ih_5 (t_5 + 1) x_5 ls hlt_5 (by omega) (by rw [rep_succ, ← es_5, hF_6]) (lv_sub hl [0, 1, 2, 3, 4] rfl)
  exact lp_5 ((g h 0).toNatClampNeg + 1) 0 (0 : Int32) ls (Nat.zero_le _) (by omega) rfl (lv_sub hl [0, 1, 2, 3, 4] rfl)
def b_X3_everLookedBy_4 (g : wx_M) (h : Nat) (a1 : Int32) (t_4 : Nat) (s_4 : Int32) : Int32 :=
  let x_2 := (s_4 ||| (r_X3_lookedBy g h (1 <<< (a1 &&& 31)) (nI t_4)))
  x_2
def r_X3_everLookedBy (g : wx_M) (h : Nat) (a1 : Int32) : Int32 :=
  let s_4 := rep 8 (b_X3_everLookedBy_4 g h a1) (0 : Int32)
  s_4
set_option maxHeartbeats 4000000 in
set_option maxRecDepth 100000 in
theorem k_X3_everLookedBy (l : Launch) {D : va_G} {cy : Nat → ClassId} {ad : Nat → Nat} {B0 : Nat} {f : wx_F} {P : va_W} (g : wx_M) (h : Nat) (a1 : Int32) (hh : wx_H h) (hg : wx_HB g h) : Met l yX3_everLookedBy wsX3_everLookedBy ({ frames := 3, cells := 0, slots := 0, locals := 67 } : Room) (wx_Pc D cy ad B0 f P g [.ref (ad h), .int a1]) (QcRead (r_X3_everLookedBy g h a1)) 0 0 (fun _ => False) := by
  refine wx_enterR (cc := cX3_everLookedBy) (maxL := 4) (ty := .int) (own := RX3) (lv := [(0, .ref (ad h)), (1, .int a1)]) (by decide) rfl rfl (Nat.le_of_ble_eq_true rfl) rfl ?_
  intro p e R s m args below meth c ls Qm hx hb hml hown hts hK hX hR hret hl
  refine lv_iconst (v := 0) hx hb dX3_everLookedBy_0 (by decide) ?_
  refine lv_istore_n (lv' := [(2, .int 0), (0, .ref (ad h)), (1, .int a1)]) hx hb dX3_everLookedBy_1 rfl hl (by decide) rfl (fun ls hl => ?_)
  refine lv_iconst (v := 0) hx hb dX3_everLookedBy_2 (by decide) ?_
  refine lv_istore_n (lv' := [(3, .int 0), (2, .int 0), (0, .ref (ad h)), (1, .int a1)]) hx hb dX3_everLookedBy_3 rfl hl (by decide) rfl (fun ls hl => ?_)
  have lp_4 : ∀ (n t_4 : Nat) (s_4 : Int32) (ls : Array Slot), t_4 ≤ 8 → 8 + 1 ≤ t_4 + n → s_4 = rep t_4 (b_X3_everLookedBy_4 g h a1) (0 : Int32) → lv_has ls 4 [(3, .int (nI t_4)), (2, .int s_4), (0, .ref (ad h)), (1, .int a1)] → W p l e R s m args below meth c s.heap [] 0 0 Qm (F0 m 4 ls []) := by
    intro n
    induction n with
    | zero => intro t_4 s_4 ls h1 h2; exact absurd h2 (by omega)
    | succ n ih_4 =>
      intro t_4 s_4 ls ht_4 hn_4 es_4 hl
      refine lv_iload_n hx hb dX3_everLookedBy_4 rfl (lv_at hl 0 rfl) ?_
      refine lv_bipush (v := 8) hx hb dX3_everLookedBy_5 (by decide) ?_
      refine lv_icmp_ge (tgt := 27) hx hb dX3_everLookedBy_7 (by decide) (fun c_1 => ?_) (fun c_1 => ?_)
      · have et_4 : t_4 = 8 := Nat.le_antisymm ht_4 (by have h9 := wx_dn (by omega) c_1; have h8 : (8 : Int32).toNatClampNeg = 8 := (by decide); omega)
        subst et_4
        refine lv_iload_n hx hb dX3_everLookedBy_27 rfl (lv_at hl 1 rfl) ?_
        exact hret _ _ _ dX3_everLookedBy_28 rfl (by simp only [r_X3_everLookedBy, ← es_4])
      · have hlt_4 : t_4 < 8 := by have h9 := wx_up (by omega) c_1; have h8 : (8 : Int32).toNatClampNeg = 8 := (by decide); omega
        have bt_4 : wx_b (nI (t_4)) 0 7 := wb_nI (n := 7) (by omega) (by decide)
        refine lv_iload_n hx hb dX3_everLookedBy_10 rfl (lv_at hl 1 rfl) ?_
        refine lv_aload_n hx hb dX3_everLookedBy_11 rfl (lv_at hl 2 rfl) ?_
        refine lv_iconst (v := 1) hx hb dX3_everLookedBy_12 (by decide) ?_
        refine lv_iload_n hx hb dX3_everLookedBy_13 rfl (lv_at hl 3 rfl) ?_
        refine lv_ishl hx hb dX3_everLookedBy_14 ?_
        refine lv_iload_n hx hb dX3_everLookedBy_15 rfl (lv_at hl 0 rfl) ?_
        refine wx_callr (va_runV (As := [.int (1 <<< (a1 &&& 31)), .int (nI t_4)]) (rest := [.int s_4]) ⟨hx, hb, hml, hown, hts⟩ (k_X3_lookedBy l g h (1 <<< (a1 &&& 31)) (nI t_4) hh bt_4 hg) (cwV 2 hts gX3_everLookedBy_X3_lookedBy rfl rfl rfl (by decide +kernel) (by rw [hR]; exact ⟨Nat.le_of_ble_eq_true rfl, Nat.le_of_ble_eq_true rfl⟩)) ⟨wx_Pc.blind, wx_recv hK hX hh.l0 (sh_X3 hh) rfl, (wx_Pc.pre hK hX).2⟩ rfl rfl hl.1 rfl (lv_room (Nat.le_of_ble_eq_true rfl)) dX3_everLookedBy_16 ⟨Nat.zero_le _, Nat.zero_le _⟩) ?_
        refine lv_ior hx hb dX3_everLookedBy_19 ?_
        refine lv_topi (fun x_2 ex_2 => ?_)
        refine lv_istore_n (lv' := [(2, .int x_2), (3, .int (nI t_4)), (0, .ref (ad h)), (1, .int a1)]) hx hb dX3_everLookedBy_20 rfl hl (by decide) rfl (fun ls hl => ?_)
        refine lv_iinc (v := nI (t_4 + 1)) (lv' := [(3, .int (nI (t_4 + 1))), (2, .int x_2), (0, .ref (ad h)), (1, .int a1)]) hx hb dX3_everLookedBy_21 hl (k := 1) rfl (wx_inc _) (by decide) rfl (fun ls hl => ?_)
        refine lv_goto (tgt := 4) hx hb dX3_everLookedBy_24 (by decide) ?_
        have hF_3 : (b_X3_everLookedBy_4 g h a1) t_4 s_4 = x_2 := (by subst ex_2; simp only [b_X3_everLookedBy_4])
        exact ih_4 (t_4 + 1) x_2 ls hlt_4 (by omega) (by rw [rep_succ, ← es_4, hF_3]) (lv_sub hl [0, 1, 2, 3] rfl)
  exact lp_4 (8 + 1) 0 (0 : Int32) ls (Nat.zero_le _) (by omega) rfl (lv_sub hl [0, 1, 2, 3] rfl)
def r_X3_roomOf (g : wx_M) (h : Nat) (a1 : Int32) (a2 : Int32) : Int32 :=
  (g (h + 4) ((8 * a1) + a2).toNatClampNeg)
set_option maxHeartbeats 4000000 in
set_option maxRecDepth 100000 in
theorem k_X3_roomOf (l : Launch) {D : va_G} {cy : Nat → ClassId} {ad : Nat → Nat} {B0 : Nat} {f : wx_F} {P : va_W} (g : wx_M) (h : Nat) (a1 : Int32) (a2 : Int32) (hh : wx_H h) (b1 : wx_b a1 0 3) (b2 : wx_b a2 0 7) : Met l yX3_roomOf wsX3_roomOf ({ frames := 0, cells := 0, slots := 0, locals := 0 } : Room) (wx_Pc D cy ad B0 f P g [.ref (ad h), .int a1, .int a2]) (QcRead (r_X3_roomOf g h a1 a2)) 0 0 (fun _ => False) := by
  refine wx_enterR (cc := cX3_roomOf) (maxL := 3) (ty := .int) (own := RX3) (lv := [(0, .ref (ad h)), (1, .int a1), (2, .int a2)]) (by decide) rfl rfl (Nat.le_of_ble_eq_true rfl) rfl ?_
  intro p e R s m args below meth c ls Qm hx hb hml hown hts hK hX hR hret hl
  have hi_X3 : ∀ w ∈ wsX30, w ∈ wsX3_roomOf := by decide +kernel
  refine lv_aload_n hx hb dX3_roomOf_0 rfl (lv_at hl 0 rfl) ?_
  refine wx_getr (t := h + 4) (C := RX3) (T := TX3) (N := 15) (ci := 3) (j := 12) hx hb hts hi_X3 hown hK hX hh.l0 (sh_X3_12 hh) rfl (by decide) (hts (.fieldLink RX3 21 "SeenAgain$House" "stays" "[I") (by decide +kernel)) (fun _ h9 => h9) dX3_roomOf_1 ?_
  refine lv_bipush (v := 8) hx hb dX3_roomOf_4 (by decide) ?_
  refine lv_iload_n hx hb dX3_roomOf_6 rfl (lv_at hl 1 rfl) ?_
  refine lv_imul hx hb dX3_roomOf_7 ?_
  refine lv_iload_n hx hb dX3_roomOf_8 rfl (lv_at hl 2 rfl) ?_
  refine lv_iadd hx hb dX3_roomOf_9 ?_
  refine wx_iald hx hb hK hX hh.l4 (sa_X3_4 hh) (wb_in (wb_add (wb_mul (show wx_b 8 8 8 from ⟨by decide, by decide⟩) b1 (by decide) (by decide) (by decide)) b2 (by decide) (by decide)) (by decide) (by decide)) dX3_roomOf_10 ?_
  exact hret _ _ _ dX3_roomOf_11 rfl (by simp only [r_X3_roomOf])
def b_X3_peopleIn_5 (g : wx_M) (h : Nat) (a1 : Int32) (a2 : Int32) (t_5 : Nat) (s_5 : Int32) : Int32 :=
  if (r_X3_roomOf g h (nI t_5) a2) = a1 then
    let x_4 := (s_5 ||| (1 <<< ((nI t_5) &&& 31)))
    x_4
  else
    s_5
def r_X3_peopleIn (g : wx_M) (h : Nat) (a1 : Int32) (a2 : Int32) : Int32 :=
  let s_5 := rep (g h 4).toNatClampNeg (b_X3_peopleIn_5 g h a1 a2) (0 : Int32)
  s_5
set_option maxHeartbeats 4000000 in
set_option maxRecDepth 100000 in
theorem k_X3_peopleIn (l : Launch) {D : va_G} {cy : Nat → ClassId} {ad : Nat → Nat} {B0 : Nat} {f : wx_F} {P : va_W} (g : wx_M) (h : Nat) (a1 : Int32) (a2 : Int32) (hh : wx_H h) (b2 : wx_b a2 0 7) (hg : wx_HB g h) : Met l yX3_peopleIn wsX3_peopleIn ({ frames := 1, cells := 0, slots := 0, locals := 22 } : Room) (wx_Pc D cy ad B0 f P g [.ref (ad h), .int a1, .int a2]) (QcRead (r_X3_peopleIn g h a1 a2)) 0 0 (fun _ => False) := by
  refine wx_enterR (cc := cX3_peopleIn) (maxL := 5) (ty := .int) (own := RX3) (lv := [(0, .ref (ad h)), (1, .int a1), (2, .int a2)]) (by decide) rfl rfl (Nat.le_of_ble_eq_true rfl) rfl ?_
  intro p e R s m args below meth c ls Qm hx hb hml hown hts hK hX hR hret hl
  have hi_X3 : ∀ w ∈ wsX30, w ∈ wsX3_peopleIn := by decide +kernel
  refine lv_iconst (v := 0) hx hb dX3_peopleIn_0 (by decide) ?_
  refine lv_istore_n (lv' := [(3, .int 0), (0, .ref (ad h)), (1, .int a1), (2, .int a2)]) hx hb dX3_peopleIn_1 rfl hl (by decide) rfl (fun ls hl => ?_)
  refine lv_iconst (v := 0) hx hb dX3_peopleIn_2 (by decide) ?_
  refine lv_istore (lv' := [(4, .int 0), (3, .int 0), (0, .ref (ad h)), (1, .int a1), (2, .int a2)]) hx hb dX3_peopleIn_3 hl (by decide) rfl (fun ls hl => ?_)
  have lp_5 : ∀ (n t_5 : Nat) (s_5 : Int32) (ls : Array Slot), t_5 ≤ (g h 4).toNatClampNeg → (g h 4).toNatClampNeg + 1 ≤ t_5 + n → s_5 = rep t_5 (b_X3_peopleIn_5 g h a1 a2) (0 : Int32) → lv_has ls 5 [(4, .int (nI t_5)), (3, .int s_5), (0, .ref (ad h)), (1, .int a1), (2, .int a2)] → W p l e R s m args below meth c s.heap [] 0 0 Qm (F0 m 5 ls []) := by
    intro n
    induction n with
    | zero => intro t_5 s_5 ls h1 h2; exact absurd h2 (by omega)
    | succ n ih_5 =>
      intro t_5 s_5 ls ht_5 hn_5 es_5 hl
      refine lv_iload hx hb dX3_peopleIn_5 (lv_at hl 0 rfl) ?_
      refine lv_aload_n hx hb dX3_peopleIn_7 rfl (lv_at hl 2 rfl) ?_
      refine wx_geti (C := RX3) (T := TX3) (N := 15) (ci := 3) (j := 4) hx hb hts hi_X3 hown hK hX hh.l0 (sh_X3_4 hh) rfl (by decide) (hts (.fieldLink RX3 42 "SeenAgain$House" "people" "I") (by decide +kernel)) (fun _ h9 => h9) dX3_peopleIn_8 ?_
      refine lv_icmp_ge (tgt := 38) hx hb dX3_peopleIn_11 (by decide) (fun c_1 => ?_) (fun c_1 => ?_)
      · have et_5 : t_5 = (g h 4).toNatClampNeg := Nat.le_antisymm ht_5 (by have h9 := wx_dn (by have := wx_cl31 (g h 4); omega) c_1; omega)
        subst et_5
        refine lv_iload_n hx hb dX3_peopleIn_38 rfl (lv_at hl 1 rfl) ?_
        exact hret _ _ _ dX3_peopleIn_39 rfl (by simp only [r_X3_peopleIn, ← es_5])
      · have hlt_5 : t_5 < (g h 4).toNatClampNeg := by have h9 := wx_up (by have := wx_cl31 (g h 4); omega) c_1; omega
        have bt_5 : wx_b (nI (t_5)) 0 3 := wb_nI (n := 3) (by have := wb_cl (n := 4) hg.2.1 (by decide); omega) (by decide)
        refine lv_aload_n hx hb dX3_peopleIn_14 rfl (lv_at hl 2 rfl) ?_
        refine lv_iload hx hb dX3_peopleIn_15 (lv_at hl 0 rfl) ?_
        refine lv_iload_n hx hb dX3_peopleIn_17 rfl (lv_at hl 4 rfl) ?_
        refine wx_callr (va_runV (As := [.int (nI t_5), .int a2]) (rest := []) ⟨hx, hb, hml, hown, hts⟩ (k_X3_roomOf l g h (nI t_5) a2 hh bt_5 b2) (cwV 2 hts gX3_peopleIn_X3_roomOf rfl rfl rfl (by decide +kernel) (by rw [hR]; exact ⟨Nat.le_of_ble_eq_true rfl, Nat.le_of_ble_eq_true rfl⟩)) ⟨wx_Pc.blind, wx_recv hK hX hh.l0 (sh_X3 hh) rfl, (wx_Pc.pre hK hX).2⟩ rfl rfl hl.1 rfl (lv_room (Nat.le_of_ble_eq_true rfl)) dX3_peopleIn_18 ⟨Nat.zero_le _, Nat.zero_le _⟩) ?_
        refine lv_iload_n hx hb dX3_peopleIn_21 rfl (lv_at hl 3 rfl) ?_
        refine lv_icmp_ne (tgt := 32) hx hb dX3_peopleIn_22 (by decide) (fun c_2 => ?_) (fun c_2 => ?_)
        · refine lv_iinc (v := nI (t_5 + 1)) (lv' := [(4, .int (nI (t_5 + 1))), (3, .int s_5), (0, .ref (ad h)), (1, .int a1), (2, .int a2)]) hx hb dX3_peopleIn_32 hl (k := 0) rfl (wx_inc _) (by decide) rfl (fun ls hl => ?_)
          refine lv_goto (tgt := 5) hx hb dX3_peopleIn_35 (by decide) ?_
          have hF_3 : (b_X3_peopleIn_5 g h a1 a2) t_5 s_5 = s_5 := (by simp only [b_X3_peopleIn_5, if_neg c_2])
          exact ih_5 (t_5 + 1) s_5 ls hlt_5 (by omega) (by rw [rep_succ, ← es_5, hF_3]) (lv_sub hl [0, 1, 2, 3, 4] rfl)
        · refine lv_iload_n hx hb dX3_peopleIn_25 rfl (lv_at hl 1 rfl) ?_
          refine lv_iconst (v := 1) hx hb dX3_peopleIn_26 (by decide) ?_
          refine lv_iload hx hb dX3_peopleIn_27 (lv_at hl 0 rfl) ?_
          refine lv_ishl hx hb dX3_peopleIn_29 ?_
          refine lv_ior hx hb dX3_peopleIn_30 ?_
          refine lv_topi (fun x_4 ex_4 => ?_)
          refine lv_istore_n (lv' := [(3, .int x_4), (4, .int (nI t_5)), (0, .ref (ad h)), (1, .int a1), (2, .int a2)]) hx hb dX3_peopleIn_31 rfl hl (by decide) rfl (fun ls hl => ?_)
          refine lv_iinc (v := nI (t_5 + 1)) (lv' := [(4, .int (nI (t_5 + 1))), (3, .int x_4), (0, .ref (ad h)), (1, .int a1), (2, .int a2)]) hx hb dX3_peopleIn_32 hl (k := 1) rfl (wx_inc _) (by decide) rfl (fun ls hl => ?_)
          refine lv_goto (tgt := 5) hx hb dX3_peopleIn_35 (by decide) ?_
          have hF_5 : (b_X3_peopleIn_5 g h a1 a2) t_5 s_5 = x_4 := (by subst ex_4; simp only [b_X3_peopleIn_5, if_pos c_2])
          exact ih_5 (t_5 + 1) x_4 ls hlt_5 (by omega) (by rw [rep_succ, ← es_5, hF_5]) (lv_sub hl [0, 1, 2, 3, 4] rfl)
  exact lp_5 ((g h 4).toNatClampNeg + 1) 0 (0 : Int32) ls (Nat.zero_le _) (by omega) rfl (lv_sub hl [0, 1, 2, 3, 4] rfl)
def r_X3_seenBy (g : wx_M) (h : Nat) (a1 : Int32) (a2 : Int32) (a3 : Int32) : Int32 :=
  let x_1 := (r_X3_roomOf g h a2 a3)
  if (r_X11_has (r_X3_lookedBy g h a1 a3) x_1) = 0 then
    (-1000000)
  else
    x_1
set_option maxHeartbeats 4000000 in
set_option maxRecDepth 100000 in
theorem k_X3_seenBy (l : Launch) {D : va_G} {cy : Nat → ClassId} {ad : Nat → Nat} {B0 : Nat} {f : wx_F} {P : va_W} (g : wx_M) (h : Nat) (a1 : Int32) (a2 : Int32) (a3 : Int32) (hh : wx_H h) (b2 : wx_b a2 0 3) (b3 : wx_b a3 0 7) (hg : wx_HB g h) : Met l yX3_seenBy wsX3_seenBy ({ frames := 3, cells := 0, slots := 0, locals := 67 } : Room) (wx_Pc D cy ad B0 f P g [.ref (ad h), .int a1, .int a2, .int a3]) (QcRead (r_X3_seenBy g h a1 a2 a3)) 0 0 (fun _ => False) := by
  refine wx_enterR (cc := cX3_seenBy) (maxL := 5) (ty := .int) (own := RX3) (lv := [(0, .ref (ad h)), (1, .int a1), (2, .int a2), (3, .int a3)]) (by decide) rfl rfl (Nat.le_of_ble_eq_true rfl) rfl ?_
  intro p e R s m args below meth c ls Qm hx hb hml hown hts hK hX hR hret hl
  refine lv_aload_n hx hb dX3_seenBy_0 rfl (lv_at hl 0 rfl) ?_
  refine lv_iload_n hx hb dX3_seenBy_1 rfl (lv_at hl 2 rfl) ?_
  refine lv_iload_n hx hb dX3_seenBy_2 rfl (lv_at hl 3 rfl) ?_
  refine wx_callr (va_runV (As := [.int a2, .int a3]) (rest := []) ⟨hx, hb, hml, hown, hts⟩ (k_X3_roomOf l g h a2 a3 hh b2 b3) (cwV 2 hts gX3_seenBy_X3_roomOf rfl rfl rfl (by decide +kernel) (by rw [hR]; exact ⟨Nat.le_of_ble_eq_true rfl, Nat.le_of_ble_eq_true rfl⟩)) ⟨wx_Pc.blind, wx_recv hK hX hh.l0 (sh_X3 hh) rfl, (wx_Pc.pre hK hX).2⟩ rfl rfl hl.1 rfl (lv_room (Nat.le_of_ble_eq_true rfl)) dX3_seenBy_3 ⟨Nat.zero_le _, Nat.zero_le _⟩) ?_
  refine lv_topi (fun x_1 ex_1 => ?_)
  refine lv_istore (lv' := [(4, .int x_1), (0, .ref (ad h)), (1, .int a1), (2, .int a2), (3, .int a3)]) hx hb dX3_seenBy_6 hl (by decide) rfl (fun ls hl => ?_)
  refine lv_aload_n hx hb dX3_seenBy_8 rfl (lv_at hl 1 rfl) ?_
  refine lv_iload_n hx hb dX3_seenBy_9 rfl (lv_at hl 2 rfl) ?_
  refine lv_iload_n hx hb dX3_seenBy_10 rfl (lv_at hl 4 rfl) ?_
  refine wx_callr (va_runV (As := [.int a1, .int a3]) (rest := []) ⟨hx, hb, hml, hown, hts⟩ (k_X3_lookedBy l g h a1 a3 hh b3 hg) (cwV 2 hts gX3_seenBy_X3_lookedBy rfl rfl rfl (by decide +kernel) (by rw [hR]; exact ⟨Nat.le_of_ble_eq_true rfl, Nat.le_of_ble_eq_true rfl⟩)) ⟨wx_Pc.blind, wx_recv hK hX hh.l0 (sh_X3 hh) rfl, (wx_Pc.pre hK hX).2⟩ rfl rfl hl.1 rfl (lv_room (Nat.le_of_ble_eq_true rfl)) dX3_seenBy_11 ⟨Nat.zero_le _, Nat.zero_le _⟩) ?_
  refine lv_iload hx hb dX3_seenBy_14 (lv_at hl 0 rfl) ?_
  refine wx_callr (va_runSN (As := [.int (r_X3_lookedBy g h a1 a3), .int x_1]) (rest := []) ⟨hx, hb, hml, hown, hts⟩ (k_X11_has l g (r_X3_lookedBy g h a1 a3) x_1) ⟨va_cnB 2 hts gX3_seenBy_X11_has_n78 rfl rfl rfl hK.2.1.1 (hts (.initialized RX11) (by decide +kernel)) (by decide +kernel) (by rw [hR]; exact ⟨Nat.le_of_ble_eq_true rfl, Nat.le_of_ble_eq_true rfl⟩), hts (.static yX11_has) (by decide +kernel), trivial⟩ (wx_Pc.pre hK hX) rfl rfl hl.1 rfl (lv_room (Nat.le_of_ble_eq_true rfl)) dX3_seenBy_16 ⟨Nat.zero_le _, Nat.zero_le _⟩) ?_
  refine lv_if_eq (tgt := 27) hx hb dX3_seenBy_19 (by decide) (fun c_2 => ?_) (fun c_2 => ?_)
  · have b_3 : wx_b (r_X11_has (r_X3_lookedBy g h a1 a3) x_1) 0 0 := by rw [c_2]; exact ⟨by decide, by decide⟩
    refine lv_ldc hx hb hown (hts (.constant RX3 111 (-1000000)) (by decide +kernel)) dX3_seenBy_27 ?_
    exact hret _ _ _ dX3_seenBy_29 rfl (by subst ex_1; simp only [r_X3_seenBy, if_pos c_2])
  · refine lv_iload hx hb dX3_seenBy_22 (lv_at hl 0 rfl) ?_
    refine lv_goto (tgt := 29) hx hb dX3_seenBy_24 (by decide) ?_
    exact hret _ _ _ dX3_seenBy_29 rfl (by subst ex_1; simp only [r_X3_seenBy, if_neg c_2])
def b_X3_minutesSeen_5 (g : wx_M) (h : Nat) (a1 : Int32) (a2 : Int32) (t_5 : Nat) (s_5 : Int32) : Int32 :=
  if (r_X3_seenBy g h a1 a2 (nI t_5)) = (-1000000) then
    s_5
  else
    let x_5 := (s_5 ||| (1 <<< ((nI t_5) &&& 31)))
    x_5
def r_X3_minutesSeen (g : wx_M) (h : Nat) (a1 : Int32) (a2 : Int32) : Int32 :=
  let s_5 := rep 8 (b_X3_minutesSeen_5 g h a1 a2) (0 : Int32)
  s_5
set_option maxHeartbeats 4000000 in
set_option maxRecDepth 100000 in
theorem k_X3_minutesSeen (l : Launch) {D : va_G} {cy : Nat → ClassId} {ad : Nat → Nat} {B0 : Nat} {f : wx_F} {P : va_W} (g : wx_M) (h : Nat) (a1 : Int32) (a2 : Int32) (hh : wx_H h) (b2 : wx_b a2 0 3) (hg : wx_HB g h) : Met l yX3_minutesSeen wsX3_minutesSeen ({ frames := 4, cells := 0, slots := 0, locals := 91 } : Room) (wx_Pc D cy ad B0 f P g [.ref (ad h), .int a1, .int a2]) (QcRead (r_X3_minutesSeen g h a1 a2)) 0 0 (fun _ => False) := by
  refine wx_enterR (cc := cX3_minutesSeen) (maxL := 5) (ty := .int) (own := RX3) (lv := [(0, .ref (ad h)), (1, .int a1), (2, .int a2)]) (by decide) rfl rfl (Nat.le_of_ble_eq_true rfl) rfl ?_
  intro p e R s m args below meth c ls Qm hx hb hml hown hts hK hX hR hret hl
  refine lv_iconst (v := 0) hx hb dX3_minutesSeen_0 (by decide) ?_
  refine lv_istore_n (lv' := [(3, .int 0), (0, .ref (ad h)), (1, .int a1), (2, .int a2)]) hx hb dX3_minutesSeen_1 rfl hl (by decide) rfl (fun ls hl => ?_)
  refine lv_iconst (v := 0) hx hb dX3_minutesSeen_2 (by decide) ?_
  refine lv_istore (lv' := [(4, .int 0), (3, .int 0), (0, .ref (ad h)), (1, .int a1), (2, .int a2)]) hx hb dX3_minutesSeen_3 hl (by decide) rfl (fun ls hl => ?_)
  have lp_5 : ∀ (n t_5 : Nat) (s_5 : Int32) (ls : Array Slot), t_5 ≤ 8 → 8 + 1 ≤ t_5 + n → s_5 = rep t_5 (b_X3_minutesSeen_5 g h a1 a2) (0 : Int32) → lv_has ls 5 [(4, .int (nI t_5)), (3, .int s_5), (0, .ref (ad h)), (1, .int a1), (2, .int a2)] → W p l e R s m args below meth c s.heap [] 0 0 Qm (F0 m 5 ls []) := by
    intro n
    induction n with
    | zero => intro t_5 s_5 ls h1 h2; exact absurd h2 (by omega)
    | succ n ih_5 =>
      intro t_5 s_5 ls ht_5 hn_5 es_5 hl
      refine lv_iload hx hb dX3_minutesSeen_5 (lv_at hl 0 rfl) ?_
      refine lv_bipush (v := 8) hx hb dX3_minutesSeen_7 (by decide) ?_
      refine lv_icmp_ge (tgt := 38) hx hb dX3_minutesSeen_9 (by decide) (fun c_1 => ?_) (fun c_1 => ?_)
      · have et_5 : t_5 = 8 := Nat.le_antisymm ht_5 (by have h9 := wx_dn (by omega) c_1; have h8 : (8 : Int32).toNatClampNeg = 8 := (by decide); omega)
        subst et_5
        refine lv_iload_n hx hb dX3_minutesSeen_38 rfl (lv_at hl 1 rfl) ?_
        exact hret _ _ _ dX3_minutesSeen_39 rfl (by simp only [r_X3_minutesSeen, ← es_5])
      · have hlt_5 : t_5 < 8 := by have h9 := wx_up (by omega) c_1; have h8 : (8 : Int32).toNatClampNeg = 8 := (by decide); omega
        have bt_5 : wx_b (nI (t_5)) 0 7 := wb_nI (n := 7) (by omega) (by decide)
        refine lv_aload_n hx hb dX3_minutesSeen_12 rfl (lv_at hl 2 rfl) ?_
        refine lv_iload_n hx hb dX3_minutesSeen_13 rfl (lv_at hl 3 rfl) ?_
        refine lv_iload_n hx hb dX3_minutesSeen_14 rfl (lv_at hl 4 rfl) ?_
        refine lv_iload hx hb dX3_minutesSeen_15 (lv_at hl 0 rfl) ?_
        refine wx_callr (va_runV (As := [.int a1, .int a2, .int (nI t_5)]) (rest := []) ⟨hx, hb, hml, hown, hts⟩ (k_X3_seenBy l g h a1 a2 (nI t_5) hh b2 bt_5 hg) (cwV 3 hts gX3_minutesSeen_X3_seenBy rfl rfl rfl (by decide +kernel) (by rw [hR]; exact ⟨Nat.le_of_ble_eq_true rfl, Nat.le_of_ble_eq_true rfl⟩)) ⟨wx_Pc.blind, wx_recv hK hX hh.l0 (sh_X3 hh) rfl, (wx_Pc.pre hK hX).2⟩ rfl rfl hl.1 rfl (lv_room (Nat.le_of_ble_eq_true rfl)) dX3_minutesSeen_17 ⟨Nat.zero_le _, Nat.zero_le _⟩) ?_
        refine lv_ldc hx hb hown (hts (.constant RX3 111 (-1000000)) (by decide +kernel)) dX3_minutesSeen_20 ?_
        refine lv_icmp_eq (tgt := 32) hx hb dX3_minutesSeen_22 (by decide) (fun c_2 => ?_) (fun c_2 => ?_)
        · have b_3 : wx_b (r_X3_seenBy g h a1 a2 (nI t_5)) (-1000000) (-1000000) := by rw [c_2]; exact ⟨by decide, by decide⟩
          refine lv_iinc (v := nI (t_5 + 1)) (lv' := [(4, .int (nI (t_5 + 1))), (3, .int s_5), (0, .ref (ad h)), (1, .int a1), (2, .int a2)]) hx hb dX3_minutesSeen_32 hl (k := 0) rfl (wx_inc _) (by decide) rfl (fun ls hl => ?_)
          refine lv_goto (tgt := 5) hx hb dX3_minutesSeen_35 (by decide) ?_
          have hF_4 : (b_X3_minutesSeen_5 g h a1 a2) t_5 s_5 = s_5 := (by simp only [b_X3_minutesSeen_5, if_pos c_2])
          exact ih_5 (t_5 + 1) s_5 ls hlt_5 (by omega) (by rw [rep_succ, ← es_5, hF_4]) (lv_sub hl [0, 1, 2, 3, 4] rfl)
        · refine lv_iload_n hx hb dX3_minutesSeen_25 rfl (lv_at hl 1 rfl) ?_
          refine lv_iconst (v := 1) hx hb dX3_minutesSeen_26 (by decide) ?_
          refine lv_iload hx hb dX3_minutesSeen_27 (lv_at hl 0 rfl) ?_
          refine lv_ishl hx hb dX3_minutesSeen_29 ?_
          refine lv_ior hx hb dX3_minutesSeen_30 ?_
          refine lv_topi (fun x_5 ex_5 => ?_)
          refine lv_istore_n (lv' := [(3, .int x_5), (4, .int (nI t_5)), (0, .ref (ad h)), (1, .int a1), (2, .int a2)]) hx hb dX3_minutesSeen_31 rfl hl (by decide) rfl (fun ls hl => ?_)
          refine lv_iinc (v := nI (t_5 + 1)) (lv' := [(4, .int (nI (t_5 + 1))), (3, .int x_5), (0, .ref (ad h)), (1, .int a1), (2, .int a2)]) hx hb dX3_minutesSeen_32 hl (k := 1) rfl (wx_inc _) (by decide) rfl (fun ls hl => ?_)
          refine lv_goto (tgt := 5) hx hb dX3_minutesSeen_35 (by decide) ?_
          have hF_6 : (b_X3_minutesSeen_5 g h a1 a2) t_5 s_5 = x_5 := (by subst ex_5; simp only [b_X3_minutesSeen_5, if_neg c_2])
          exact ih_5 (t_5 + 1) x_5 ls hlt_5 (by omega) (by rw [rep_succ, ← es_5, hF_6]) (lv_sub hl [0, 1, 2, 3, 4] rfl)
  exact lp_5 (8 + 1) 0 (0 : Int32) ls (Nat.zero_le _) (by omega) rfl (lv_sub hl [0, 1, 2, 3, 4] rfl)
def b_X3_minutesTogether_5 (g : wx_M) (h : Nat) (a1 : Int32) (a2 : Int32) (t_5 : Nat) (s_5 : Int32) : Int32 :=
  if (r_X3_roomOf g h a1 (nI t_5)) = (r_X3_roomOf g h a2 (nI t_5)) then
    let x_4 := (s_5 ||| (1 <<< ((nI t_5) &&& 31)))
    x_4
  else
    s_5
def r_X3_minutesTogether (g : wx_M) (h : Nat) (a1 : Int32) (a2 : Int32) : Int32 :=
  let s_5 := rep 8 (b_X3_minutesTogether_5 g h a1 a2) (0 : Int32)
  s_5
set_option maxHeartbeats 4000000 in
set_option maxRecDepth 100000 in
theorem k_X3_minutesTogether (l : Launch) {D : va_G} {cy : Nat → ClassId} {ad : Nat → Nat} {B0 : Nat} {f : wx_F} {P : va_W} (g : wx_M) (h : Nat) (a1 : Int32) (a2 : Int32) (hh : wx_H h) (b1 : wx_b a1 0 3) (b2 : wx_b a2 0 3) : Met l yX3_minutesTogether wsX3_minutesTogether ({ frames := 1, cells := 0, slots := 0, locals := 22 } : Room) (wx_Pc D cy ad B0 f P g [.ref (ad h), .int a1, .int a2]) (QcRead (r_X3_minutesTogether g h a1 a2)) 0 0 (fun _ => False) := by
  refine wx_enterR (cc := cX3_minutesTogether) (maxL := 5) (ty := .int) (own := RX3) (lv := [(0, .ref (ad h)), (1, .int a1), (2, .int a2)]) (by decide) rfl rfl (Nat.le_of_ble_eq_true rfl) rfl ?_
  intro p e R s m args below meth c ls Qm hx hb hml hown hts hK hX hR hret hl
  refine lv_iconst (v := 0) hx hb dX3_minutesTogether_0 (by decide) ?_
  refine lv_istore_n (lv' := [(3, .int 0), (0, .ref (ad h)), (1, .int a1), (2, .int a2)]) hx hb dX3_minutesTogether_1 rfl hl (by decide) rfl (fun ls hl => ?_)
  refine lv_iconst (v := 0) hx hb dX3_minutesTogether_2 (by decide) ?_
  refine lv_istore (lv' := [(4, .int 0), (3, .int 0), (0, .ref (ad h)), (1, .int a1), (2, .int a2)]) hx hb dX3_minutesTogether_3 hl (by decide) rfl (fun ls hl => ?_)
  have lp_5 : ∀ (n t_5 : Nat) (s_5 : Int32) (ls : Array Slot), t_5 ≤ 8 → 8 + 1 ≤ t_5 + n → s_5 = rep t_5 (b_X3_minutesTogether_5 g h a1 a2) (0 : Int32) → lv_has ls 5 [(4, .int (nI t_5)), (3, .int s_5), (0, .ref (ad h)), (1, .int a1), (2, .int a2)] → W p l e R s m args below meth c s.heap [] 0 0 Qm (F0 m 5 ls []) := by
    intro n
    induction n with
    | zero => intro t_5 s_5 ls h1 h2; exact absurd h2 (by omega)
    | succ n ih_5 =>
      intro t_5 s_5 ls ht_5 hn_5 es_5 hl
      refine lv_iload hx hb dX3_minutesTogether_5 (lv_at hl 0 rfl) ?_
      refine lv_bipush (v := 8) hx hb dX3_minutesTogether_7 (by decide) ?_
      refine lv_icmp_ge (tgt := 42) hx hb dX3_minutesTogether_9 (by decide) (fun c_1 => ?_) (fun c_1 => ?_)
      · have et_5 : t_5 = 8 := Nat.le_antisymm ht_5 (by have h9 := wx_dn (by omega) c_1; have h8 : (8 : Int32).toNatClampNeg = 8 := (by decide); omega)
        subst et_5
        refine lv_iload_n hx hb dX3_minutesTogether_42 rfl (lv_at hl 1 rfl) ?_
        exact hret _ _ _ dX3_minutesTogether_43 rfl (by simp only [r_X3_minutesTogether, ← es_5])
      · have hlt_5 : t_5 < 8 := by have h9 := wx_up (by omega) c_1; have h8 : (8 : Int32).toNatClampNeg = 8 := (by decide); omega
        have bt_5 : wx_b (nI (t_5)) 0 7 := wb_nI (n := 7) (by omega) (by decide)
        refine lv_aload_n hx hb dX3_minutesTogether_12 rfl (lv_at hl 2 rfl) ?_
        refine lv_iload_n hx hb dX3_minutesTogether_13 rfl (lv_at hl 3 rfl) ?_
        refine lv_iload hx hb dX3_minutesTogether_14 (lv_at hl 0 rfl) ?_
        refine wx_callr (va_runV (As := [.int a1, .int (nI t_5)]) (rest := []) ⟨hx, hb, hml, hown, hts⟩ (k_X3_roomOf l g h a1 (nI t_5) hh b1 bt_5) (cwV 2 hts gX3_minutesTogether_X3_roomOf rfl rfl rfl (by decide +kernel) (by rw [hR]; exact ⟨Nat.le_of_ble_eq_true rfl, Nat.le_of_ble_eq_true rfl⟩)) ⟨wx_Pc.blind, wx_recv hK hX hh.l0 (sh_X3 hh) rfl, (wx_Pc.pre hK hX).2⟩ rfl rfl hl.1 rfl (lv_room (Nat.le_of_ble_eq_true rfl)) dX3_minutesTogether_16 ⟨Nat.zero_le _, Nat.zero_le _⟩) ?_
        refine lv_aload_n hx hb dX3_minutesTogether_19 rfl (lv_at hl 2 rfl) ?_
        refine lv_iload_n hx hb dX3_minutesTogether_20 rfl (lv_at hl 4 rfl) ?_
        refine lv_iload hx hb dX3_minutesTogether_21 (lv_at hl 0 rfl) ?_
        refine wx_callr (va_runV (As := [.int a2, .int (nI t_5)]) (rest := [.int (r_X3_roomOf g h a1 (nI t_5))]) ⟨hx, hb, hml, hown, hts⟩ (k_X3_roomOf l g h a2 (nI t_5) hh b2 bt_5) (cwV 2 hts gX3_minutesTogether_X3_roomOf rfl rfl rfl (by decide +kernel) (by rw [hR]; exact ⟨Nat.le_of_ble_eq_true rfl, Nat.le_of_ble_eq_true rfl⟩)) ⟨wx_Pc.blind, wx_recv hK hX hh.l0 (sh_X3 hh) rfl, (wx_Pc.pre hK hX).2⟩ rfl rfl hl.1 rfl (lv_room (Nat.le_of_ble_eq_true rfl)) dX3_minutesTogether_23 ⟨Nat.zero_le _, Nat.zero_le _⟩) ?_
        refine lv_icmp_ne (tgt := 36) hx hb dX3_minutesTogether_26 (by decide) (fun c_2 => ?_) (fun c_2 => ?_)
        · refine lv_iinc (v := nI (t_5 + 1)) (lv' := [(4, .int (nI (t_5 + 1))), (3, .int s_5), (0, .ref (ad h)), (1, .int a1), (2, .int a2)]) hx hb dX3_minutesTogether_36 hl (k := 0) rfl (wx_inc _) (by decide) rfl (fun ls hl => ?_)
          refine lv_goto (tgt := 5) hx hb dX3_minutesTogether_39 (by decide) ?_
          have hF_3 : (b_X3_minutesTogether_5 g h a1 a2) t_5 s_5 = s_5 := (by simp only [b_X3_minutesTogether_5, if_neg c_2])
          exact ih_5 (t_5 + 1) s_5 ls hlt_5 (by omega) (by rw [rep_succ, ← es_5, hF_3]) (lv_sub hl [0, 1, 2, 3, 4] rfl)
        · refine lv_iload_n hx hb dX3_minutesTogether_29 rfl (lv_at hl 1 rfl) ?_
          refine lv_iconst (v := 1) hx hb dX3_minutesTogether_30 (by decide) ?_
          refine lv_iload hx hb dX3_minutesTogether_31 (lv_at hl 0 rfl) ?_
          refine lv_ishl hx hb dX3_minutesTogether_33 ?_
          refine lv_ior hx hb dX3_minutesTogether_34 ?_
          refine lv_topi (fun x_4 ex_4 => ?_)
          refine lv_istore_n (lv' := [(3, .int x_4), (4, .int (nI t_5)), (0, .ref (ad h)), (1, .int a1), (2, .int a2)]) hx hb dX3_minutesTogether_35 rfl hl (by decide) rfl (fun ls hl => ?_)
          refine lv_iinc (v := nI (t_5 + 1)) (lv' := [(4, .int (nI (t_5 + 1))), (3, .int x_4), (0, .ref (ad h)), (1, .int a1), (2, .int a2)]) hx hb dX3_minutesTogether_36 hl (k := 1) rfl (wx_inc _) (by decide) rfl (fun ls hl => ?_)
          refine lv_goto (tgt := 5) hx hb dX3_minutesTogether_39 (by decide) ?_
          have hF_5 : (b_X3_minutesTogether_5 g h a1 a2) t_5 s_5 = x_4 := (by subst ex_4; simp only [b_X3_minutesTogether_5, if_pos c_2])
          exact ih_5 (t_5 + 1) x_4 ls hlt_5 (by omega) (by rw [rep_succ, ← es_5, hF_5]) (lv_sub hl [0, 1, 2, 3, 4] rfl)
  exact lp_5 (8 + 1) 0 (0 : Int32) ls (Nat.zero_le _) (by omega) rfl (lv_sub hl [0, 1, 2, 3, 4] rfl)
def r_X3_canBeIn (g : wx_M) (h : Nat) (a1 : Int32) (a2 : Int32) (a3 : Int32) (a4 : Int32) : Int32 :=
  let x_1 := (r_X3_lookedBy g h a1 a4)
  let x_2 := (r_X3_roomOf g h a2 a4)
  if (r_X11_has x_1 x_2) = 0 then
    if (r_X11_has x_1 a3) = 0 then
      1
    else
      0
  else
    if x_2 = a3 then
      1
    else
      0
set_option maxHeartbeats 4000000 in
set_option maxRecDepth 100000 in
theorem k_X3_canBeIn (l : Launch) {D : va_G} {cy : Nat → ClassId} {ad : Nat → Nat} {B0 : Nat} {f : wx_F} {P : va_W} (g : wx_M) (h : Nat) (a1 : Int32) (a2 : Int32) (a3 : Int32) (a4 : Int32) (hh : wx_H h) (b2 : wx_b a2 0 3) (b4 : wx_b a4 0 7) (hg : wx_HB g h) : Met l yX3_canBeIn wsX3_canBeIn ({ frames := 3, cells := 0, slots := 0, locals := 67 } : Room) (wx_Pc D cy ad B0 f P g [.ref (ad h), .int a1, .int a2, .int a3, .int a4]) (QcRead (r_X3_canBeIn g h a1 a2 a3 a4)) 0 0 (fun _ => False) := by
  refine wx_enterR (cc := cX3_canBeIn) (maxL := 7) (ty := .boolean) (own := RX3) (lv := [(0, .ref (ad h)), (1, .int a1), (2, .int a2), (3, .int a3), (4, .int a4)]) (by decide) rfl rfl (Nat.le_of_ble_eq_true rfl) rfl ?_
  intro p e R s m args below meth c ls Qm hx hb hml hown hts hK hX hR hret hl
  refine lv_aload_n hx hb dX3_canBeIn_0 rfl (lv_at hl 0 rfl) ?_
  refine lv_iload_n hx hb dX3_canBeIn_1 rfl (lv_at hl 1 rfl) ?_
  refine lv_iload hx hb dX3_canBeIn_2 (lv_at hl 4 rfl) ?_
  refine wx_callr (va_runV (As := [.int a1, .int a4]) (rest := []) ⟨hx, hb, hml, hown, hts⟩ (k_X3_lookedBy l g h a1 a4 hh b4 hg) (cwV 2 hts gX3_canBeIn_X3_lookedBy rfl rfl rfl (by decide +kernel) (by rw [hR]; exact ⟨Nat.le_of_ble_eq_true rfl, Nat.le_of_ble_eq_true rfl⟩)) ⟨wx_Pc.blind, wx_recv hK hX hh.l0 (sh_X3 hh) rfl, (wx_Pc.pre hK hX).2⟩ rfl rfl hl.1 rfl (lv_room (Nat.le_of_ble_eq_true rfl)) dX3_canBeIn_4 ⟨Nat.zero_le _, Nat.zero_le _⟩) ?_
  refine lv_topi (fun x_1 ex_1 => ?_)
  refine lv_istore (lv' := [(5, .int x_1), (0, .ref (ad h)), (1, .int a1), (2, .int a2), (3, .int a3), (4, .int a4)]) hx hb dX3_canBeIn_7 hl (by decide) rfl (fun ls hl => ?_)
  refine lv_aload_n hx hb dX3_canBeIn_9 rfl (lv_at hl 1 rfl) ?_
  refine lv_iload_n hx hb dX3_canBeIn_10 rfl (lv_at hl 3 rfl) ?_
  refine lv_iload hx hb dX3_canBeIn_11 (lv_at hl 5 rfl) ?_
  refine wx_callr (va_runV (As := [.int a2, .int a4]) (rest := []) ⟨hx, hb, hml, hown, hts⟩ (k_X3_roomOf l g h a2 a4 hh b2 b4) (cwV 2 hts gX3_canBeIn_X3_roomOf rfl rfl rfl (by decide +kernel) (by rw [hR]; exact ⟨Nat.le_of_ble_eq_true rfl, Nat.le_of_ble_eq_true rfl⟩)) ⟨wx_Pc.blind, wx_recv hK hX hh.l0 (sh_X3 hh) rfl, (wx_Pc.pre hK hX).2⟩ rfl rfl hl.1 rfl (lv_room (Nat.le_of_ble_eq_true rfl)) dX3_canBeIn_13 ⟨Nat.zero_le _, Nat.zero_le _⟩) ?_
  refine lv_topi (fun x_2 ex_2 => ?_)
  refine lv_istore (lv' := [(6, .int x_2), (5, .int x_1), (0, .ref (ad h)), (1, .int a1), (2, .int a2), (3, .int a3), (4, .int a4)]) hx hb dX3_canBeIn_16 hl (by decide) rfl (fun ls hl => ?_)
  refine lv_iload hx hb dX3_canBeIn_18 (lv_at hl 1 rfl) ?_
  refine lv_iload hx hb dX3_canBeIn_20 (lv_at hl 0 rfl) ?_
  refine wx_callr (va_runSN (As := [.int x_1, .int x_2]) (rest := []) ⟨hx, hb, hml, hown, hts⟩ (k_X11_has l g x_1 x_2) ⟨va_cnB 2 hts gX3_canBeIn_X11_has_n78 rfl rfl rfl hK.2.1.1 (hts (.initialized RX11) (by decide +kernel)) (by decide +kernel) (by rw [hR]; exact ⟨Nat.le_of_ble_eq_true rfl, Nat.le_of_ble_eq_true rfl⟩), hts (.static yX11_has) (by decide +kernel), trivial⟩ (wx_Pc.pre hK hX) rfl rfl hl.1 rfl (lv_room (Nat.le_of_ble_eq_true rfl)) dX3_canBeIn_22 ⟨Nat.zero_le _, Nat.zero_le _⟩) ?_
  refine lv_if_eq (tgt := 40) hx hb dX3_canBeIn_25 (by decide) (fun c_3 => ?_) (fun c_3 => ?_)
  · have b_4 : wx_b (r_X11_has x_1 x_2) 0 0 := by rw [c_3]; exact ⟨by decide, by decide⟩
    refine lv_iload hx hb dX3_canBeIn_40 (lv_at hl 1 rfl) ?_
    refine lv_iload_n hx hb dX3_canBeIn_42 rfl (lv_at hl 5 rfl) ?_
    refine wx_callr (va_runSN (As := [.int x_1, .int a3]) (rest := []) ⟨hx, hb, hml, hown, hts⟩ (k_X11_has l g x_1 a3) ⟨va_cnB 2 hts gX3_canBeIn_X11_has_n78 rfl rfl rfl hK.2.1.1 (hts (.initialized RX11) (by decide +kernel)) (by decide +kernel) (by rw [hR]; exact ⟨Nat.le_of_ble_eq_true rfl, Nat.le_of_ble_eq_true rfl⟩), hts (.static yX11_has) (by decide +kernel), trivial⟩ (wx_Pc.pre hK hX) rfl rfl hl.1 rfl (lv_room (Nat.le_of_ble_eq_true rfl)) dX3_canBeIn_43 ⟨Nat.zero_le _, Nat.zero_le _⟩) ?_
    refine lv_if_ne (tgt := 53) hx hb dX3_canBeIn_46 (by decide) (fun c_5 => ?_) (fun c_5 => ?_)
    · refine lv_iconst (v := 0) hx hb dX3_canBeIn_53 (by decide) ?_
      exact hret _ _ _ dX3_canBeIn_54 rfl (by subst ex_2 ex_1; simp only [r_X3_canBeIn, if_pos c_3, if_neg c_5])
    · have b_6 : wx_b (r_X11_has x_1 a3) 0 0 := by rw [c_5]; exact ⟨by decide, by decide⟩
      refine lv_iconst (v := 1) hx hb dX3_canBeIn_49 (by decide) ?_
      refine lv_goto (tgt := 54) hx hb dX3_canBeIn_50 (by decide) ?_
      exact hret _ _ _ dX3_canBeIn_54 rfl (by subst ex_2 ex_1; simp only [r_X3_canBeIn, if_pos c_3, if_pos c_5])
  · refine lv_iload hx hb dX3_canBeIn_28 (lv_at hl 0 rfl) ?_
    refine lv_iload_n hx hb dX3_canBeIn_30 rfl (lv_at hl 5 rfl) ?_
    refine lv_icmp_ne (tgt := 38) hx hb dX3_canBeIn_31 (by decide) (fun c_7 => ?_) (fun c_7 => ?_)
    · refine lv_iconst (v := 0) hx hb dX3_canBeIn_38 (by decide) ?_
      exact hret _ _ _ dX3_canBeIn_39 rfl (by subst ex_2 ex_1; simp only [r_X3_canBeIn, if_neg c_3, if_neg c_7])
    · refine lv_iconst (v := 1) hx hb dX3_canBeIn_34 (by decide) ?_
      refine lv_goto (tgt := 39) hx hb dX3_canBeIn_35 (by decide) ?_
      exact hret _ _ _ dX3_canBeIn_39 rfl (by subst ex_2 ex_1; simp only [r_X3_canBeIn, if_neg c_3, if_pos c_7])
theorem nb_r_X3_canBeIn (g : wx_M) (h : Nat) (a1 : Int32) (a2 : Int32) (a3 : Int32) (a4 : Int32) : narrow .boolean (.int (r_X3_canBeIn g h a1 a2 a3 a4)) = .int (r_X3_canBeIn g h a1 a2 a3 a4) := by
  simp only [r_X3_canBeIn]
  (repeat' split) <;> first | rfl | exact nb_r_X11_has _ _
