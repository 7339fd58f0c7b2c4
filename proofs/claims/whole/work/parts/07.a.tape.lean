def r_X6_isFigure (a1 : Int32) : Int32 :=
  if a1 < 48 then
    0
  else
    if 57 < a1 then
      0
    else
      1
set_option maxHeartbeats 4000000 in
set_option maxRecDepth 100000 in
theorem k_X6_isFigure (l : Launch) {D : va_G} {cy : Nat → ClassId} {ad : Nat → Nat} {B0 : Nat} {f : wx_F} {P : va_W} (g : wx_M) (a1 : Int32) : Met l yX6_isFigure wsX6_isFigure ({ frames := 0, cells := 0, slots := 0, locals := 0 } : Room) (wx_Pc D cy ad B0 f P g [.int a1]) (QcRead (r_X6_isFigure a1)) 0 0 (fun _ => False) := by
  refine wx_enterR (cc := cX6_isFigure) (maxL := 1) (ty := .boolean) (own := RX6) (lv := [(0, .int a1)]) (by decide) rfl rfl (Nat.le_of_ble_eq_true rfl) rfl ?_
  intro p e R s m args below meth c ls Qm hx hb hml hown hts hK hX hR hret hl
  refine lv_iload_n hx hb dX6_isFigure_0 rfl (lv_at hl 0 rfl) ?_
  refine lv_bipush (v := 48) hx hb dX6_isFigure_1 (by decide) ?_
  refine lv_icmp_lt (tgt := 16) hx hb dX6_isFigure_3 (by decide) (fun c_1 => ?_) (fun c_1 => ?_)
  · have b_2 : wx_b a1 (-2147483648) 47 := wb_lt c_1 (wb_any _) (show wx_b 48 48 48 from ⟨by decide, by decide⟩) (by decide) (by decide)
    refine lv_iconst (v := 0) hx hb dX6_isFigure_16 (by decide) ?_
    exact hret _ _ _ dX6_isFigure_17 rfl (by simp only [r_X6_isFigure, if_pos c_1])
  · have b_3 : wx_b a1 48 2147483647 := wb_ge (wb_nlt c_1) (wb_any _) (show wx_b 48 48 48 from ⟨by decide, by decide⟩) (by decide) (by decide)
    refine lv_iload_n hx hb dX6_isFigure_6 rfl (lv_at hl 0 rfl) ?_
    refine lv_bipush (v := 57) hx hb dX6_isFigure_7 (by decide) ?_
    refine lv_icmp_gt (tgt := 16) hx hb dX6_isFigure_9 (by decide) (fun c_4 => ?_) (fun c_4 => ?_)
    · have b_5 : wx_b a1 58 2147483647 := wb_gt c_4 b_3 (show wx_b 57 57 57 from ⟨by decide, by decide⟩) (by decide) (by decide)
      refine lv_iconst (v := 0) hx hb dX6_isFigure_16 (by decide) ?_
      exact hret _ _ _ dX6_isFigure_17 rfl (by simp only [r_X6_isFigure, if_neg c_1, if_pos c_4])
    · have b_6 : wx_b a1 48 57 := wb_le (wb_nlt c_4) b_3 (show wx_b 57 57 57 from ⟨by decide, by decide⟩) (by decide) (by decide)
      refine lv_iconst (v := 1) hx hb dX6_isFigure_12 (by decide) ?_
      refine lv_goto (tgt := 17) hx hb dX6_isFigure_13 (by decide) ?_
      exact hret _ _ _ dX6_isFigure_17 rfl (by simp only [r_X6_isFigure, if_neg c_1, if_neg c_4])
theorem nb_r_X6_isFigure (a1 : Int32) : narrow .boolean (.int (r_X6_isFigure a1)) = .int (r_X6_isFigure a1) := by
  unfold r_X6_isFigure
  (repeat' split) <;> rfl
def r_X6_isSort (a1 : Int32) : Int32 :=
  if a1 = 97 then
    1
  else
    if a1 = 100 then
      1
    else
      if a1 = 108 then
        1
      else
        if a1 = 116 then
          1
        else
          if a1 = 119 then
            1
          else
            0
set_option maxHeartbeats 4000000 in
set_option maxRecDepth 100000 in
theorem k_X6_isSort (l : Launch) {D : va_G} {cy : Nat → ClassId} {ad : Nat → Nat} {B0 : Nat} {f : wx_F} {P : va_W} (g : wx_M) (a1 : Int32) : Met l yX6_isSort wsX6_isSort ({ frames := 0, cells := 0, slots := 0, locals := 0 } : Room) (wx_Pc D cy ad B0 f P g [.int a1]) (QcRead (r_X6_isSort a1)) 0 0 (fun _ => False) := by
  refine wx_enterR (cc := cX6_isSort) (maxL := 1) (ty := .boolean) (own := RX6) (lv := [(0, .int a1)]) (by decide) rfl rfl (Nat.le_of_ble_eq_true rfl) rfl ?_
  intro p e R s m args below meth c ls Qm hx hb hml hown hts hK hX hR hret hl
  refine lv_iload_n hx hb dX6_isSort_0 rfl (lv_at hl 0 rfl) ?_
  refine lv_bipush (v := 97) hx hb dX6_isSort_1 (by decide) ?_
  refine lv_icmp_eq (tgt := 30) hx hb dX6_isSort_3 (by decide) (fun c_1 => ?_) (fun c_1 => ?_)
  · have b_2 : wx_b a1 97 97 := by rw [c_1]; exact ⟨by decide, by decide⟩
    refine lv_iconst (v := 1) hx hb dX6_isSort_30 (by decide) ?_
    refine lv_goto (tgt := 35) hx hb dX6_isSort_31 (by decide) ?_
    exact hret _ _ _ dX6_isSort_35 rfl (by simp only [r_X6_isSort, if_pos c_1])
  · refine lv_iload_n hx hb dX6_isSort_6 rfl (lv_at hl 0 rfl) ?_
    refine lv_bipush (v := 100) hx hb dX6_isSort_7 (by decide) ?_
    refine lv_icmp_eq (tgt := 30) hx hb dX6_isSort_9 (by decide) (fun c_3 => ?_) (fun c_3 => ?_)
    · have b_4 : wx_b a1 100 100 := by rw [c_3]; exact ⟨by decide, by decide⟩
      refine lv_iconst (v := 1) hx hb dX6_isSort_30 (by decide) ?_
      refine lv_goto (tgt := 35) hx hb dX6_isSort_31 (by decide) ?_
      exact hret _ _ _ dX6_isSort_35 rfl (by simp only [r_X6_isSort, if_neg c_1, if_pos c_3])
    · refine lv_iload_n hx hb dX6_isSort_12 rfl (lv_at hl 0 rfl) ?_
      refine lv_bipush (v := 108) hx hb dX6_isSort_13 (by decide) ?_
      refine lv_icmp_eq (tgt := 30) hx hb dX6_isSort_15 (by decide) (fun c_5 => ?_) (fun c_5 => ?_)
      · have b_6 : wx_b a1 108 108 := by rw [c_5]; exact ⟨by decide, by decide⟩
        refine lv_iconst (v := 1) hx hb dX6_isSort_30 (by decide) ?_
        refine lv_goto (tgt := 35) hx hb dX6_isSort_31 (by decide) ?_
        exact hret _ _ _ dX6_isSort_35 rfl (by simp only [r_X6_isSort, if_neg c_1, if_neg c_3, if_pos c_5])
      · refine lv_iload_n hx hb dX6_isSort_18 rfl (lv_at hl 0 rfl) ?_
        refine lv_bipush (v := 116) hx hb dX6_isSort_19 (by decide) ?_
        refine lv_icmp_eq (tgt := 30) hx hb dX6_isSort_21 (by decide) (fun c_7 => ?_) (fun c_7 => ?_)
        · have b_8 : wx_b a1 116 116 := by rw [c_7]; exact ⟨by decide, by decide⟩
          refine lv_iconst (v := 1) hx hb dX6_isSort_30 (by decide) ?_
          refine lv_goto (tgt := 35) hx hb dX6_isSort_31 (by decide) ?_
          exact hret _ _ _ dX6_isSort_35 rfl (by simp only [r_X6_isSort, if_neg c_1, if_neg c_3, if_neg c_5, if_pos c_7])
        · refine lv_iload_n hx hb dX6_isSort_24 rfl (lv_at hl 0 rfl) ?_
          refine lv_bipush (v := 119) hx hb dX6_isSort_25 (by decide) ?_
          refine lv_icmp_ne (tgt := 34) hx hb dX6_isSort_27 (by decide) (fun c_9 => ?_) (fun c_9 => ?_)
          · refine lv_iconst (v := 0) hx hb dX6_isSort_34 (by decide) ?_
            exact hret _ _ _ dX6_isSort_35 rfl (by simp only [r_X6_isSort, if_neg c_1, if_neg c_3, if_neg c_5, if_neg c_7, if_neg c_9])
          · have b_10 : wx_b a1 119 119 := by rw [c_9]; exact ⟨by decide, by decide⟩
            refine lv_iconst (v := 1) hx hb dX6_isSort_30 (by decide) ?_
            refine lv_goto (tgt := 35) hx hb dX6_isSort_31 (by decide) ?_
            exact hret _ _ _ dX6_isSort_35 rfl (by simp only [r_X6_isSort, if_neg c_1, if_neg c_3, if_neg c_5, if_neg c_7, if_pos c_9])
theorem nb_r_X6_isSort (a1 : Int32) : narrow .boolean (.int (r_X6_isSort a1)) = .int (r_X6_isSort a1) := by
  unfold r_X6_isSort
  (repeat' split) <;> rfl
def b_X6_readNumber_10 (g : wx_M) (g_1 : wx_M) (x_2 : Int32) (t_10 : Nat) (s_10 : wx_M) : (wx_M) ⊕ (wx_M) :=
  if (r_X6_isFigure (s_10 19 (nI (x_2.toNatClampNeg + t_10)).toNatClampNeg)) = 0 then
    let g_12 := up2 s_10 18 5 (nI (x_2.toNatClampNeg + t_10))
    if 2 < ((nI (x_2.toNatClampNeg + t_10)) - (g_12 18 4)) then
      let g_15 := up2 g_12 18 6 (-2)
      .inr (g_15)
    else
      let g_19 := up2 g_12 18 6 (-3)
      .inr (g_19)
  else
    let x_22 := (((10 * (s_10 18 7)) + (s_10 19 (nI (x_2.toNatClampNeg + t_10)).toNatClampNeg)) - 48)
    let g_23 := up2 s_10 18 7 x_22
    .inl g_23
def e_X6_readNumber (g : wx_M) : wx_M :=
  let g_1 := up2 g 18 7 0
  let x_2 := (g_1 18 4)
  (match repX ((g 18 1).toNatClampNeg - x_2.toNatClampNeg) (b_X6_readNumber_10 g g_1 x_2) g_1 with
  | .inl s_10 =>
    let g_4 := up2 s_10 18 5 (nI (x_2.toNatClampNeg + ((g 18 1).toNatClampNeg - x_2.toNatClampNeg)))
    if 2 < ((nI (x_2.toNatClampNeg + ((g 18 1).toNatClampNeg - x_2.toNatClampNeg))) - (g_4 18 4)) then
      let g_7 := up2 g_4 18 6 (-2)
      g_7
    else
      let g_9 := up2 g_4 18 6 (-3)
      g_9
  | .inr r9 => r9)
set_option maxHeartbeats 4000000 in
set_option maxRecDepth 100000 in
theorem k_X6_readNumber (l : Launch) {D : va_G} {cy : Nat → ClassId} {ad : Nat → Nat} {B0 : Nat} {f : wx_F} {P : va_W} (g : wx_M) (hT : wx_TB g) : Met l yX6_readNumber wsX6_readNumber ({ frames := 1, cells := 0, slots := 0, locals := 20 } : Room) (wx_Pc D cy ad B0 f P g [.ref (ad 18)]) (wx_Qe D cy ad B0 f P (e_X6_readNumber g) none) 0 0 (fun q => B0 ≤ q) := by
  refine wx_enterV (cc := cX6_readNumber) (maxL := 2) (own := RX6) (lv := [(0, .ref (ad 18))]) (by decide) rfl rfl (Nat.le_of_ble_eq_true rfl) rfl ?_
  intro p e R s m args below meth c ls Qm hx hb hml hown hts hK hX hS hR hret hl
  have hi_X6 : ∀ w ∈ wsX60, w ∈ wsX6_readNumber := by decide +kernel
  refine lv_aload_n hx hb dX6_readNumber_0 rfl (lv_at hl 0 rfl) ?_
  refine lv_iconst (v := 0) hx hb dX6_readNumber_1 (by decide) ?_
  refine wx_puti (C := RX6) (T := TX6) (N := 8) (ci := 6) (j := 7) (ty := .int) hx hb hts hi_X6 tyX6 tyX6_ok nmX6 hown hK hX hS (by decide) sh_X6_7 rfl (by decide) (hts (.fieldLink RX6 48 "SeenAgain$Tape" "number" "I") (by decide +kernel)) (fun _ h9 => h9) rfl (by decide +kernel) rfl rfl dX6_readNumber_2 (fun H locs hX hS => ?_)
  obtain ⟨g_1, eg_1, hX⟩ := wx_nm hX
  refine lv_aload_n hx hb dX6_readNumber_5 rfl (lv_at hl 0 rfl) ?_
  refine wx_geti (C := RX6) (T := TX6) (N := 8) (ci := 6) (j := 4) hx hb hts hi_X6 hown hK hX (by decide) sh_X6_4 rfl (by decide) (hts (.fieldLink RX6 113 "SeenAgain$Tape" "at" "I") (by decide +kernel)) (fun _ h9 => h9) dX6_readNumber_6 ?_
  refine lv_topi (fun x_2 ex_2 => ?_)
  have bx_2 : wx_b x_2 0 140 := by rw [ex_2]; exact (show wx_b (g_1 18 4) 0 140 by rw [show (g_1 18 4) = (g 18 4) from (by rw [eg_1, up2_sn (by decide)])]; exact (show wx_TB g from hT).2.1)
  refine lv_istore_n (lv' := [(1, .int x_2), (0, .ref (ad 18))]) hx hb dX6_readNumber_9 rfl hl (by decide) rfl (fun ls hl => ?_)
  have hst_10 : nI x_2.toNatClampNeg = x_2 := wx_nIcl bx_2 (by decide)
  have hsb_10 : x_2.toNatClampNeg ≤ 140 := wb_cl bx_2 (by decide)
  have lp_10 : ∀ (n t_10 : Nat) (s_10 : wx_M) (ls : Array Slot) (H : Heap) (locs : List Loc), t_10 ≤ ((g 18 1).toNatClampNeg - x_2.toNatClampNeg) → ((g 18 1).toNatClampNeg - x_2.toNatClampNeg) + 1 ≤ t_10 + n → repX t_10 (b_X6_readNumber_10 g g_1 x_2) g_1 = .inl s_10 → wx_X D cy ad B0 f P s_10 H → va_S (fun q => B0 ≤ q) s.heap H locs → wx_TB s_10 → s_10 18 1 = g 18 1 → lv_has ls 2 [(1, .int (nI (x_2.toNatClampNeg + t_10))), (0, .ref (ad 18))] → W p l e R s m args below meth c H locs 0 0 Qm (F0 m 10 ls []) := by
    intro n
    induction n with
    | zero => intro t_10 s_10 ls H locs h1 h2; exact absurd h2 (by omega)
    | succ n ih_10 =>
      intro t_10 s_10 ls H locs ht_10 hn_10 es_10 hX hS hTI_10 hrI_10 hl
      refine lv_iload_n hx hb dX6_readNumber_10 rfl (lv_at hl 0 rfl) ?_
      refine lv_aload_n hx hb dX6_readNumber_11 rfl (lv_at hl 1 rfl) ?_
      refine wx_geti (C := RX6) (T := TX6) (N := 8) (ci := 6) (j := 1) hx hb hts hi_X6 hown hK hX (by decide) sh_X6_1 rfl (by decide) (hts (.fieldLink RX6 119 "SeenAgain$Tape" "length" "I") (by decide +kernel)) (fun _ h9 => h9) dX6_readNumber_12 ?_
      refine lv_icmp_ge (tgt := 57) hx hb dX6_readNumber_15 (by decide) (fun c_3 => ?_) (fun c_3 => ?_)
      · have et_10 : t_10 = ((g 18 1).toNatClampNeg - x_2.toNatClampNeg) := Nat.le_antisymm ht_10 (by rw [hrI_10] at c_3; have h9 := wx_dn (by have := wx_cl31 (g 18 1); omega) c_3; omega)
        subst et_10
        refine lv_aload_n hx hb dX6_readNumber_57 rfl (lv_at hl 1 rfl) ?_
        refine lv_iload_n hx hb dX6_readNumber_58 rfl (lv_at hl 0 rfl) ?_
        refine wx_puti (C := RX6) (T := TX6) (N := 8) (ci := 6) (j := 5) (ty := .int) hx hb hts hi_X6 tyX6 tyX6_ok nmX6 hown hK hX hS (by decide) sh_X6_5 rfl (by decide) (hts (.fieldLink RX6 20 "SeenAgain$Tape" "behind" "I") (by decide +kernel)) (fun _ h9 => h9) rfl (by decide +kernel) rfl rfl dX6_readNumber_59 (fun H locs hX hS => ?_)
        obtain ⟨g_4, eg_4, hX⟩ := wx_nm hX
        refine lv_aload_n hx hb dX6_readNumber_62 rfl (lv_at hl 1 rfl) ?_
        refine lv_iload_n hx hb dX6_readNumber_63 rfl (lv_at hl 0 rfl) ?_
        refine lv_aload_n hx hb dX6_readNumber_64 rfl (lv_at hl 1 rfl) ?_
        refine wx_geti (C := RX6) (T := TX6) (N := 8) (ci := 6) (j := 4) hx hb hts hi_X6 hown hK hX (by decide) sh_X6_4 rfl (by decide) (hts (.fieldLink RX6 113 "SeenAgain$Tape" "at" "I") (by decide +kernel)) (fun _ h9 => h9) dX6_readNumber_65 ?_
        refine lv_isub hx hb dX6_readNumber_68 ?_
        refine lv_iconst (v := 2) hx hb dX6_readNumber_69 (by decide) ?_
        refine lv_icmp_gt (tgt := 78) hx hb dX6_readNumber_70 (by decide) (fun c_5 => ?_) (fun c_5 => ?_)
        · have b_6 : wx_b ((nI (x_2.toNatClampNeg + ((g 18 1).toNatClampNeg - x_2.toNatClampNeg))) - (g_4 18 4)) 3 2147483647 := wb_gt c_5 (wb_any _) (show wx_b 2 2 2 from ⟨by decide, by decide⟩) (by decide) (by decide)
          refine lv_bipush (v := (-2)) hx hb dX6_readNumber_78 (by decide) ?_
          refine wx_puti (C := RX6) (T := TX6) (N := 8) (ci := 6) (j := 6) (ty := .int) hx hb hts hi_X6 tyX6 tyX6_ok nmX6 hown hK hX hS (by decide) sh_X6_6 rfl (by decide) (hts (.fieldLink RX6 60 "SeenAgain$Tape" "token" "I") (by decide +kernel)) (fun _ h9 => h9) rfl (by decide +kernel) rfl rfl dX6_readNumber_80 (fun H locs hX hS => ?_)
          obtain ⟨g_7, eg_7, hX⟩ := wx_nm hX
          exact hret _ _ _ _ _ dX6_readNumber_83 hX hS (by subst eg_7 eg_4 ex_2 eg_1; simp only [e_X6_readNumber, if_pos c_5, es_10])
        · have b_8 : wx_b ((nI (x_2.toNatClampNeg + ((g 18 1).toNatClampNeg - x_2.toNatClampNeg))) - (g_4 18 4)) (-2147483648) 2 := wb_le (wb_nlt c_5) (wb_any _) (show wx_b 2 2 2 from ⟨by decide, by decide⟩) (by decide) (by decide)
          refine lv_bipush (v := (-3)) hx hb dX6_readNumber_73 (by decide) ?_
          refine lv_goto (tgt := 80) hx hb dX6_readNumber_75 (by decide) ?_
          refine wx_puti (C := RX6) (T := TX6) (N := 8) (ci := 6) (j := 6) (ty := .int) hx hb hts hi_X6 tyX6 tyX6_ok nmX6 hown hK hX hS (by decide) sh_X6_6 rfl (by decide) (hts (.fieldLink RX6 60 "SeenAgain$Tape" "token" "I") (by decide +kernel)) (fun _ h9 => h9) rfl (by decide +kernel) rfl rfl dX6_readNumber_80 (fun H locs hX hS => ?_)
          obtain ⟨g_9, eg_9, hX⟩ := wx_nm hX
          exact hret _ _ _ _ _ dX6_readNumber_83 hX hS (by subst eg_9 eg_4 ex_2 eg_1; simp only [e_X6_readNumber, if_neg c_5, es_10])
      · have hlt_10 : t_10 < ((g 18 1).toNatClampNeg - x_2.toNatClampNeg) := by rw [hrI_10] at c_3; have h9 := wx_up (by have := wx_cl31 (g 18 1); omega) c_3; omega
        have bt_10 : wx_b (nI (x_2.toNatClampNeg + t_10)) 0 139 := wb_nI (n := 139) (by have h7 := wb_cl (n := 140) hT.1 (by decide); omega) (by decide)
        refine lv_aload_n hx hb dX6_readNumber_18 rfl (lv_at hl 1 rfl) ?_
        refine wx_getr (t := 19) (C := RX6) (T := TX6) (N := 8) (ci := 6) (j := 0) hx hb hts hi_X6 hown hK hX (by decide) sh_X6_0 rfl (by decide) (hts (.fieldLink RX6 11 "SeenAgain$Tape" "letters" "[I") (by decide +kernel)) (fun _ h9 => h9) dX6_readNumber_19 ?_
        refine lv_iload_n hx hb dX6_readNumber_22 rfl (lv_at hl 0 rfl) ?_
        refine wx_iald hx hb hK hX (by decide) sa_19 (wb_in bt_10 (by decide) (by decide)) dX6_readNumber_23 ?_
        refine wx_callr (va_runS (As := [.int (s_10 19 (nI (x_2.toNatClampNeg + t_10)).toNatClampNeg)]) (rest := []) ⟨hx, hb, hml, hown, hts⟩ (k_X6_isFigure l s_10 (s_10 19 (nI (x_2.toNatClampNeg + t_10)).toNatClampNeg)) (va_cwS 1 hts gX6_readNumber_X6_isFigure rfl rfl rfl (by decide +kernel) (by rw [hR]; exact ⟨Nat.le_of_ble_eq_true rfl, Nat.le_of_ble_eq_true rfl⟩)) (wx_Pc.pre hK hX) rfl rfl hl.1 rfl (lv_room (Nat.le_of_ble_eq_true rfl)) dX6_readNumber_24 ⟨Nat.zero_le _, Nat.zero_le _⟩) ?_
        refine lv_if_eq (tgt := 57) hx hb dX6_readNumber_27 (by decide) (fun c_10 => ?_) (fun c_10 => ?_)
        · have b_11 : wx_b (r_X6_isFigure (s_10 19 (nI (x_2.toNatClampNeg + t_10)).toNatClampNeg)) 0 0 := by rw [c_10]; exact ⟨by decide, by decide⟩
          refine lv_aload_n hx hb dX6_readNumber_57 rfl (lv_at hl 1 rfl) ?_
          refine lv_iload_n hx hb dX6_readNumber_58 rfl (lv_at hl 0 rfl) ?_
          refine wx_puti (C := RX6) (T := TX6) (N := 8) (ci := 6) (j := 5) (ty := .int) hx hb hts hi_X6 tyX6 tyX6_ok nmX6 hown hK hX hS (by decide) sh_X6_5 rfl (by decide) (hts (.fieldLink RX6 20 "SeenAgain$Tape" "behind" "I") (by decide +kernel)) (fun _ h9 => h9) rfl (by decide +kernel) rfl rfl dX6_readNumber_59 (fun H locs hX hS => ?_)
          obtain ⟨g_12, eg_12, hX⟩ := wx_nm hX
          refine lv_aload_n hx hb dX6_readNumber_62 rfl (lv_at hl 1 rfl) ?_
          refine lv_iload_n hx hb dX6_readNumber_63 rfl (lv_at hl 0 rfl) ?_
          refine lv_aload_n hx hb dX6_readNumber_64 rfl (lv_at hl 1 rfl) ?_
          refine wx_geti (C := RX6) (T := TX6) (N := 8) (ci := 6) (j := 4) hx hb hts hi_X6 hown hK hX (by decide) sh_X6_4 rfl (by decide) (hts (.fieldLink RX6 113 "SeenAgain$Tape" "at" "I") (by decide +kernel)) (fun _ h9 => h9) dX6_readNumber_65 ?_
          refine lv_isub hx hb dX6_readNumber_68 ?_
          refine lv_iconst (v := 2) hx hb dX6_readNumber_69 (by decide) ?_
          refine lv_icmp_gt (tgt := 78) hx hb dX6_readNumber_70 (by decide) (fun c_13 => ?_) (fun c_13 => ?_)
          · have b_14 : wx_b ((nI (x_2.toNatClampNeg + t_10)) - (g_12 18 4)) 3 139 := wb_gt c_13 (wb_sub bt_10 (show wx_b (g_12 18 4) 0 140 by rw [show (g_12 18 4) = (s_10 18 4) from (by rw [eg_12, up2_sn (by decide)])]; exact (show wx_TB s_10 from hTI_10).2.1) (by decide) (by decide)) (show wx_b 2 2 2 from ⟨by decide, by decide⟩) (by decide) (by decide)
            refine lv_bipush (v := (-2)) hx hb dX6_readNumber_78 (by decide) ?_
            refine wx_puti (C := RX6) (T := TX6) (N := 8) (ci := 6) (j := 6) (ty := .int) hx hb hts hi_X6 tyX6 tyX6_ok nmX6 hown hK hX hS (by decide) sh_X6_6 rfl (by decide) (hts (.fieldLink RX6 60 "SeenAgain$Tape" "token" "I") (by decide +kernel)) (fun _ h9 => h9) rfl (by decide +kernel) rfl rfl dX6_readNumber_80 (fun H locs hX hS => ?_)
            obtain ⟨g_15, eg_15, hX⟩ := wx_nm hX
            have hF_16 : (b_X6_readNumber_10 g g_1 x_2) t_10 s_10 = .inr (g_15) := (by subst eg_15 eg_12; simp only [b_X6_readNumber_10, if_pos c_10, if_pos c_13])
            have hO_17 : repX ((g 18 1).toNatClampNeg - x_2.toNatClampNeg) (b_X6_readNumber_10 g g_1 x_2) g_1 = .inr (g_15) := repX_out es_10 hF_16 hlt_10
            exact hret _ _ _ _ _ dX6_readNumber_83 hX hS (by subst ex_2 eg_1; simp only [e_X6_readNumber, hO_17])
          · have b_18 : wx_b ((nI (x_2.toNatClampNeg + t_10)) - (g_12 18 4)) (-140) 2 := wb_le (wb_nlt c_13) (wb_sub bt_10 (show wx_b (g_12 18 4) 0 140 by rw [show (g_12 18 4) = (s_10 18 4) from (by rw [eg_12, up2_sn (by decide)])]; exact (show wx_TB s_10 from hTI_10).2.1) (by decide) (by decide)) (show wx_b 2 2 2 from ⟨by decide, by decide⟩) (by decide) (by decide)
            refine lv_bipush (v := (-3)) hx hb dX6_readNumber_73 (by decide) ?_
            refine lv_goto (tgt := 80) hx hb dX6_readNumber_75 (by decide) ?_
            refine wx_puti (C := RX6) (T := TX6) (N := 8) (ci := 6) (j := 6) (ty := .int) hx hb hts hi_X6 tyX6 tyX6_ok nmX6 hown hK hX hS (by decide) sh_X6_6 rfl (by decide) (hts (.fieldLink RX6 60 "SeenAgain$Tape" "token" "I") (by decide +kernel)) (fun _ h9 => h9) rfl (by decide +kernel) rfl rfl dX6_readNumber_80 (fun H locs hX hS => ?_)
            obtain ⟨g_19, eg_19, hX⟩ := wx_nm hX
            have hF_20 : (b_X6_readNumber_10 g g_1 x_2) t_10 s_10 = .inr (g_19) := (by subst eg_19 eg_12; simp only [b_X6_readNumber_10, if_pos c_10, if_neg c_13])
            have hO_21 : repX ((g 18 1).toNatClampNeg - x_2.toNatClampNeg) (b_X6_readNumber_10 g g_1 x_2) g_1 = .inr (g_19) := repX_out es_10 hF_20 hlt_10
            exact hret _ _ _ _ _ dX6_readNumber_83 hX hS (by subst ex_2 eg_1; simp only [e_X6_readNumber, hO_21])
        · refine lv_aload_n hx hb dX6_readNumber_30 rfl (lv_at hl 1 rfl) ?_
          refine lv_bipush (v := 10) hx hb dX6_readNumber_31 (by decide) ?_
          refine lv_aload_n hx hb dX6_readNumber_33 rfl (lv_at hl 1 rfl) ?_
          refine wx_geti (C := RX6) (T := TX6) (N := 8) (ci := 6) (j := 7) hx hb hts hi_X6 hown hK hX (by decide) sh_X6_7 rfl (by decide) (hts (.fieldLink RX6 48 "SeenAgain$Tape" "number" "I") (by decide +kernel)) (fun _ h9 => h9) dX6_readNumber_34 ?_
          refine lv_imul hx hb dX6_readNumber_37 ?_
          refine lv_aload_n hx hb dX6_readNumber_38 rfl (lv_at hl 1 rfl) ?_
          refine wx_getr (t := 19) (C := RX6) (T := TX6) (N := 8) (ci := 6) (j := 0) hx hb hts hi_X6 hown hK hX (by decide) sh_X6_0 rfl (by decide) (hts (.fieldLink RX6 11 "SeenAgain$Tape" "letters" "[I") (by decide +kernel)) (fun _ h9 => h9) dX6_readNumber_39 ?_
          refine lv_iload_n hx hb dX6_readNumber_42 rfl (lv_at hl 0 rfl) ?_
          refine wx_iald hx hb hK hX (by decide) sa_19 (wb_in bt_10 (by decide) (by decide)) dX6_readNumber_43 ?_
          refine lv_iadd hx hb dX6_readNumber_44 ?_
          refine lv_bipush (v := 48) hx hb dX6_readNumber_45 (by decide) ?_
          refine lv_isub hx hb dX6_readNumber_47 ?_
          refine lv_topi (fun x_22 ex_22 => ?_)
          refine wx_puti (C := RX6) (T := TX6) (N := 8) (ci := 6) (j := 7) (ty := .int) hx hb hts hi_X6 tyX6 tyX6_ok nmX6 hown hK hX hS (by decide) sh_X6_7 rfl (by decide) (hts (.fieldLink RX6 48 "SeenAgain$Tape" "number" "I") (by decide +kernel)) (fun _ h9 => h9) rfl (by decide +kernel) rfl rfl dX6_readNumber_48 (fun H locs hX hS => ?_)
          obtain ⟨g_23, eg_23, hX⟩ := wx_nm hX
          refine lv_iinc (v := nI ((x_2.toNatClampNeg + t_10) + 1)) (lv' := [(1, .int (nI ((x_2.toNatClampNeg + t_10) + 1))), (0, .ref (ad 18))]) hx hb dX6_readNumber_51 hl (k := 0) rfl (wx_inc _) (by decide) rfl (fun ls hl => ?_)
          refine lv_goto (tgt := 10) hx hb dX6_readNumber_54 (by decide) ?_
          have hF_24 : (b_X6_readNumber_10 g g_1 x_2) t_10 s_10 = .inl g_23 := (by subst eg_23 ex_22; simp only [b_X6_readNumber_10, if_neg c_10])
          exact ih_10 (t_10 + 1) g_23 ls H locs hlt_10 (by omega) ((repX_go es_10).trans hF_24) hX hS (by rw [eg_23]; exact tT_o (by decide) (by decide) (by decide) hTI_10) (show g_23 18 1 = g 18 1 from ((show (g_23 18 1) = (s_10 18 1) from (by rw [eg_23, up2_sn (by decide)])).trans hrI_10)) (lv_sub hl [0, 1] rfl)
  have hl : lv_has ls 2 [(1, .int (nI (x_2.toNatClampNeg + 0))), (0, .ref (ad 18))] := by rw [Nat.add_zero, hst_10]; exact lv_sub hl [0, 1] rfl
  exact lp_10 (((g 18 1).toNatClampNeg - x_2.toNatClampNeg) + 1) 0 g_1 ls H locs (Nat.zero_le _) (by omega) rfl hX hS (by rw [eg_1]; exact tT_o (by decide) (by decide) (by decide) hT) (show g_1 18 1 = g 18 1 from (show (g_1 18 1) = (g 18 1) from (by rw [eg_1, up2_sn (by decide)]))) hl
theorem tT_X6_readNumber {g : wx_M} (h : wx_TB g) : wx_TB (e_X6_readNumber g) := by
  simp only [e_X6_readNumber]
  have hg1 : wx_TB (up2 g 18 7 0) := tT_o (by decide) (by decide) (by decide) h
  have hx := wb_cl (n := 140) hg1.2.1 (by decide)
  have hN := wb_cl (n := 140) h.1 (by decide)
  generalize up2 g 18 7 0 18 4 = x_2 at hx ⊢
  generalize up2 g 18 7 0 = g_1 at hg1 ⊢
  have hi := repX_inv (f := b_X6_readNumber_10 g g_1 x_2) (s0 := g_1) (fun _ s => wx_TB s) wx_TB ((g 18 1).toNatClampNeg - x_2.toNatClampNeg) hg1
    (by
      intro t s s1 ht hs he
      simp only [b_X6_readNumber_10] at he
      split at he
      · split at he <;> cases he
      · cases he
        exact tT_o (by decide) (by decide) (by decide) hs)
    (by
      intro t s r ht hs he
      simp only [b_X6_readNumber_10] at he
      split at he
      · split at he
        · cases he
          exact tT_o (by decide) (by decide) (by decide) (tT_5 (wb_nI (n := 140) (by omega) (by decide)) hs)
        · cases he
          exact tT_o (by decide) (by decide) (by decide) (tT_5 (wb_nI (n := 140) (by omega) (by decide)) hs)
      · cases he)
  split
  · rename_i s hs
    have h1 := hi.1 s hs
    split
    · exact tT_o (by decide) (by decide) (by decide) (tT_5 (wb_nI (n := 140) (by omega) (by decide)) h1)
    · exact tT_o (by decide) (by decide) (by decide) (tT_5 (wb_nI (n := 140) (by omega) (by decide)) h1)
  · rename_i r hr
    exact hi.2 r hr
theorem fr_X6_readNumber {g : wx_M} {k : Nat} (hk : k ≠ 18) : e_X6_readNumber g k = g k := by
  suffices H : ∀ z : wx_M, z = e_X6_readNumber g → z k = g k from H _ rfl
  intro z hz
  simp only [e_X6_readNumber] at hz
  have hg1 : up2 g 18 7 0 k = g k := up2_n hk
  generalize up2 g 18 7 0 18 4 = x_2 at hz
  generalize up2 g 18 7 0 = g_1 at hg1 hz
  have hi := repX_inv (f := b_X6_readNumber_10 g g_1 x_2) (s0 := g_1) (fun _ s => s k = g k) (fun s => s k = g k) ((g 18 1).toNatClampNeg - x_2.toNatClampNeg) hg1
    (by
      intro t s s1 ht hs he
      simp only [b_X6_readNumber_10] at he
      split at he
      · split at he <;> cases he
      · cases he
        exact (up2_n hk).trans hs)
    (by
      intro t s r ht hs he
      simp only [b_X6_readNumber_10] at he
      split at he
      · split at he
        · cases he
          exact (up2_n hk).trans ((up2_n hk).trans hs)
        · cases he
          exact (up2_n hk).trans ((up2_n hk).trans hs)
      · cases he)
  split at hz
  · rename_i s hs
    have h1 := hi.1 s hs
    split at hz
    · rw [hz]
      exact (up2_n hk).trans ((up2_n hk).trans h1)
    · rw [hz]
      exact (up2_n hk).trans ((up2_n hk).trans h1)
  · rename_i r hr
    rw [hz]
    exact hi.2 r hr

def e_X6_step (g : wx_M) : wx_M :=
  let x_1 := (g 18 5)
  let g_2 := up2 g 18 4 x_1
  if (g_2 18 4) < (g_2 18 1) then
    let x_6 := (g_2 19 (g_2 18 4).toNatClampNeg)
    if (r_X6_isFigure x_6) = 0 then
      let x_9 := ((g_2 18 4) + 1)
      let g_10 := up2 g_2 18 5 x_9
      let g_11 := up2 g_10 18 6 x_6
      g_11
    else
      let g_12 := e_X6_readNumber g_2
      g_12
  else
    let g_13 := up2 g_2 18 6 (-1)
    g_13
set_option maxHeartbeats 4000000 in
set_option maxRecDepth 100000 in
theorem k_X6_step (l : Launch) {D : va_G} {cy : Nat → ClassId} {ad : Nat → Nat} {B0 : Nat} {f : wx_F} {P : va_W} (g : wx_M) (hT : wx_TB g) : Met l yX6_step wsX6_step ({ frames := 2, cells := 0, slots := 0, locals := 41 } : Room) (wx_Pc D cy ad B0 f P g [.ref (ad 18)]) (wx_Qe D cy ad B0 f P (e_X6_step g) none) 0 0 (fun q => B0 ≤ q) := by
  refine wx_enterV (cc := cX6_step) (maxL := 2) (own := RX6) (lv := [(0, .ref (ad 18))]) (by decide) rfl rfl (Nat.le_of_ble_eq_true rfl) rfl ?_
  intro p e R s m args below meth c ls Qm hx hb hml hown hts hK hX hS hR hret hl
  have hi_X6 : ∀ w ∈ wsX60, w ∈ wsX6_step := by decide +kernel
  refine lv_aload_n hx hb dX6_step_0 rfl (lv_at hl 0 rfl) ?_
  refine lv_aload_n hx hb dX6_step_1 rfl (lv_at hl 0 rfl) ?_
  refine wx_geti (C := RX6) (T := TX6) (N := 8) (ci := 6) (j := 5) hx hb hts hi_X6 hown hK hX (by decide) sh_X6_5 rfl (by decide) (hts (.fieldLink RX6 20 "SeenAgain$Tape" "behind" "I") (by decide +kernel)) (fun _ h9 => h9) dX6_step_2 ?_
  refine lv_topi (fun x_1 ex_1 => ?_)
  have bx_1 : wx_b x_1 0 140 := by rw [ex_1]; exact (show wx_TB g from hT).2.2
  refine wx_puti (C := RX6) (T := TX6) (N := 8) (ci := 6) (j := 4) (ty := .int) hx hb hts hi_X6 tyX6 tyX6_ok nmX6 hown hK hX hS (by decide) sh_X6_4 rfl (by decide) (hts (.fieldLink RX6 113 "SeenAgain$Tape" "at" "I") (by decide +kernel)) (fun _ h9 => h9) rfl (by decide +kernel) rfl rfl dX6_step_5 (fun H locs hX hS => ?_)
  obtain ⟨g_2, eg_2, hX⟩ := wx_nm hX
  refine lv_aload_n hx hb dX6_step_8 rfl (lv_at hl 0 rfl) ?_
  refine wx_geti (C := RX6) (T := TX6) (N := 8) (ci := 6) (j := 4) hx hb hts hi_X6 hown hK hX (by decide) sh_X6_4 rfl (by decide) (hts (.fieldLink RX6 113 "SeenAgain$Tape" "at" "I") (by decide +kernel)) (fun _ h9 => h9) dX6_step_9 ?_
  refine lv_aload_n hx hb dX6_step_12 rfl (lv_at hl 0 rfl) ?_
  refine wx_geti (C := RX6) (T := TX6) (N := 8) (ci := 6) (j := 1) hx hb hts hi_X6 hown hK hX (by decide) sh_X6_1 rfl (by decide) (hts (.fieldLink RX6 119 "SeenAgain$Tape" "length" "I") (by decide +kernel)) (fun _ h9 => h9) dX6_step_13 ?_
  refine lv_icmp_lt (tgt := 25) hx hb dX6_step_16 (by decide) (fun c_3 => ?_) (fun c_3 => ?_)
  · have b_4 : wx_b (g_2 18 4) 0 139 := wb_lt c_3 (show wx_b (g_2 18 4) 0 140 by rw [show (g_2 18 4) = x_1 from (by rw [eg_2, up2_ss])]; exact bx_1) (show wx_b (g_2 18 1) 0 140 by rw [show (g_2 18 1) = (g 18 1) from (by rw [eg_2, up2_sn (by decide)])]; exact (show wx_TB g from hT).1) (by decide) (by decide)
    have b_5 : wx_b (g_2 18 1) 1 140 := wb_gt c_3 (show wx_b (g_2 18 1) 0 140 by rw [show (g_2 18 1) = (g 18 1) from (by rw [eg_2, up2_sn (by decide)])]; exact (show wx_TB g from hT).1) (show wx_b (g_2 18 4) 0 140 by rw [show (g_2 18 4) = x_1 from (by rw [eg_2, up2_ss])]; exact bx_1) (by decide) (by decide)
    refine lv_aload_n hx hb dX6_step_25 rfl (lv_at hl 0 rfl) ?_
    refine wx_getr (t := 19) (C := RX6) (T := TX6) (N := 8) (ci := 6) (j := 0) hx hb hts hi_X6 hown hK hX (by decide) sh_X6_0 rfl (by decide) (hts (.fieldLink RX6 11 "SeenAgain$Tape" "letters" "[I") (by decide +kernel)) (fun _ h9 => h9) dX6_step_26 ?_
    refine lv_aload_n hx hb dX6_step_29 rfl (lv_at hl 0 rfl) ?_
    refine wx_geti (C := RX6) (T := TX6) (N := 8) (ci := 6) (j := 4) hx hb hts hi_X6 hown hK hX (by decide) sh_X6_4 rfl (by decide) (hts (.fieldLink RX6 113 "SeenAgain$Tape" "at" "I") (by decide +kernel)) (fun _ h9 => h9) dX6_step_30 ?_
    refine wx_iald hx hb hK hX (by decide) sa_19 (wb_in b_4 (by decide) (by decide)) dX6_step_33 ?_
    refine lv_topi (fun x_6 ex_6 => ?_)
    refine lv_istore_n (lv' := [(1, .int x_6), (0, .ref (ad 18))]) hx hb dX6_step_34 rfl hl (by decide) rfl (fun ls hl => ?_)
    refine lv_iload_n hx hb dX6_step_35 rfl (lv_at hl 0 rfl) ?_
    refine wx_callr (va_runS (As := [.int x_6]) (rest := []) ⟨hx, hb, hml, hown, hts⟩ (k_X6_isFigure l g_2 x_6) (va_cwS 1 hts gX6_step_X6_isFigure rfl rfl rfl (by decide +kernel) (by rw [hR]; exact ⟨Nat.le_of_ble_eq_true rfl, Nat.le_of_ble_eq_true rfl⟩)) (wx_Pc.pre hK hX) rfl rfl hl.1 rfl (lv_room (Nat.le_of_ble_eq_true rfl)) dX6_step_36 ⟨Nat.zero_le _, Nat.zero_le _⟩) ?_
    refine lv_if_eq (tgt := 47) hx hb dX6_step_39 (by decide) (fun c_7 => ?_) (fun c_7 => ?_)
    · have b_8 : wx_b (r_X6_isFigure x_6) 0 0 := by rw [c_7]; exact ⟨by decide, by decide⟩
      refine lv_aload_n hx hb dX6_step_47 rfl (lv_at hl 1 rfl) ?_
      refine lv_aload_n hx hb dX6_step_48 rfl (lv_at hl 1 rfl) ?_
      refine wx_geti (C := RX6) (T := TX6) (N := 8) (ci := 6) (j := 4) hx hb hts hi_X6 hown hK hX (by decide) sh_X6_4 rfl (by decide) (hts (.fieldLink RX6 113 "SeenAgain$Tape" "at" "I") (by decide +kernel)) (fun _ h9 => h9) dX6_step_49 ?_
      refine lv_iconst (v := 1) hx hb dX6_step_52 (by decide) ?_
      refine lv_iadd hx hb dX6_step_53 ?_
      refine lv_topi (fun x_9 ex_9 => ?_)
      have bx_9 : wx_b x_9 1 140 := by rw [ex_9]; exact (wb_add b_4 (show wx_b 1 1 1 from ⟨by decide, by decide⟩) (by decide) (by decide))
      refine wx_puti (C := RX6) (T := TX6) (N := 8) (ci := 6) (j := 5) (ty := .int) hx hb hts hi_X6 tyX6 tyX6_ok nmX6 hown hK hX hS (by decide) sh_X6_5 rfl (by decide) (hts (.fieldLink RX6 20 "SeenAgain$Tape" "behind" "I") (by decide +kernel)) (fun _ h9 => h9) rfl (by decide +kernel) rfl rfl dX6_step_54 (fun H locs hX hS => ?_)
      obtain ⟨g_10, eg_10, hX⟩ := wx_nm hX
      refine lv_aload_n hx hb dX6_step_57 rfl (lv_at hl 1 rfl) ?_
      refine lv_iload_n hx hb dX6_step_58 rfl (lv_at hl 0 rfl) ?_
      refine wx_puti (C := RX6) (T := TX6) (N := 8) (ci := 6) (j := 6) (ty := .int) hx hb hts hi_X6 tyX6 tyX6_ok nmX6 hown hK hX hS (by decide) sh_X6_6 rfl (by decide) (hts (.fieldLink RX6 60 "SeenAgain$Tape" "token" "I") (by decide +kernel)) (fun _ h9 => h9) rfl (by decide +kernel) rfl rfl dX6_step_59 (fun H locs hX hS => ?_)
      obtain ⟨g_11, eg_11, hX⟩ := wx_nm hX
      exact hret _ _ _ _ _ dX6_step_62 hX hS (by subst eg_11 eg_10 ex_9 ex_6 eg_2 ex_1; simp only [e_X6_step, if_pos c_3, if_pos c_7])
    · refine lv_aload_n hx hb dX6_step_42 rfl (lv_at hl 1 rfl) ?_
      refine wx_callev (va_runV (As := []) (rest := []) ⟨hx, hb, hml, hown, hts⟩ (k_X6_readNumber l g_2 (by rw [eg_2]; exact tT_4 bx_1 hT)) (cwV 0 hts gX6_step_X6_readNumber rfl rfl rfl (by decide +kernel) (by rw [hR]; exact ⟨Nat.le_of_ble_eq_true rfl, Nat.le_of_ble_eq_true rfl⟩)) ⟨wx_Pc.blind, wx_recv hK hX (by decide) sh_X6 rfl, (wx_Pc.pre hK hX).2⟩ rfl rfl hl.1 rfl (lv_room (Nat.le_of_ble_eq_true rfl)) dX6_step_43 ⟨Nat.zero_le _, Nat.zero_le _⟩) hS (fun H locs hX hS => ?_)
      obtain ⟨g_12, eg_12, hX⟩ := wx_nm hX
      exact hret _ _ _ _ _ dX6_step_46 hX hS (by subst eg_12 ex_6 eg_2 ex_1; simp only [e_X6_step, if_pos c_3, if_neg c_7])
  · refine lv_aload_n hx hb dX6_step_19 rfl (lv_at hl 0 rfl) ?_
    refine lv_iconst (v := (-1)) hx hb dX6_step_20 (by decide) ?_
    refine wx_puti (C := RX6) (T := TX6) (N := 8) (ci := 6) (j := 6) (ty := .int) hx hb hts hi_X6 tyX6 tyX6_ok nmX6 hown hK hX hS (by decide) sh_X6_6 rfl (by decide) (hts (.fieldLink RX6 60 "SeenAgain$Tape" "token" "I") (by decide +kernel)) (fun _ h9 => h9) rfl (by decide +kernel) rfl rfl dX6_step_21 (fun H locs hX hS => ?_)
    obtain ⟨g_13, eg_13, hX⟩ := wx_nm hX
    exact hret _ _ _ _ _ dX6_step_24 hX hS (by subst eg_13 eg_2 ex_1; simp only [e_X6_step, if_neg c_3])
theorem tT_X6_step {g : wx_M} (h : wx_TB g) : wx_TB (e_X6_step g) := by
  have h2 : wx_TB (up2 g 18 4 (g 18 5)) := tT_4 h.2.2 h
  simp only [e_X6_step]
  split
  · rename_i c
    split
    · refine tT_o (by decide) (by decide) (by decide) (tT_5 ?_ h2)
      have h3 := wb_lt c h2.2.1 h2.1 (a1 := 0) (b1 := 139) (by decide) (by decide)
      exact wb_w (wb_add h3 (show wx_b 1 1 1 from ⟨by decide, by decide⟩) (by decide) (by decide)) (by decide) (by decide)
    · exact tT_X6_readNumber h2
  · exact tT_o (by decide) (by decide) (by decide) h2
theorem fr_X6_step {g : wx_M} {k : Nat} (hk : k ≠ 18) : e_X6_step g k = g k := by
  simp only [e_X6_step]
  split
  · split
    · exact (up2_n hk).trans ((up2_n hk).trans (up2_n hk))
    · exact (fr_X6_readNumber hk).trans (up2_n hk)
  · exact (up2_n hk).trans (up2_n hk)

def f_X6_faulty (g : wx_M) (a1 : Int32) : wx_M × Int32 :=
  let g_1 := up2 g 18 2 a1
  let x_2 := (g_1 18 4)
  let g_3 := up2 g_1 18 3 x_2
  (g_3, 0)
set_option maxHeartbeats 4000000 in
set_option maxRecDepth 100000 in
theorem k_X6_faulty (l : Launch) {D : va_G} {cy : Nat → ClassId} {ad : Nat → Nat} {B0 : Nat} {f : wx_F} {P : va_W} (g : wx_M) (a1 : Int32) (hT : wx_TB g) : Met l yX6_faulty wsX6_faulty ({ frames := 0, cells := 0, slots := 0, locals := 0 } : Room) (wx_Pc D cy ad B0 f P g [.ref (ad 18), .int a1]) (wx_Qe D cy ad B0 f P (f_X6_faulty g a1).1 (some (.int (f_X6_faulty g a1).2))) 0 0 (fun q => B0 ≤ q) := by
  refine wx_enterE (cc := cX6_faulty) (maxL := 2) (ty := .boolean) (own := RX6) (lv := [(0, .ref (ad 18)), (1, .int a1)]) (by decide) rfl rfl (Nat.le_of_ble_eq_true rfl) rfl ?_
  intro p e R s m args below meth c ls Qm hx hb hml hown hts hK hX hS hR hret hl
  have hi_X6 : ∀ w ∈ wsX60, w ∈ wsX6_faulty := by decide +kernel
  refine lv_aload_n hx hb dX6_faulty_0 rfl (lv_at hl 0 rfl) ?_
  refine lv_iload_n hx hb dX6_faulty_1 rfl (lv_at hl 1 rfl) ?_
  refine wx_puti (C := RX6) (T := TX6) (N := 8) (ci := 6) (j := 2) (ty := .int) hx hb hts hi_X6 tyX6 tyX6_ok nmX6 hown hK hX hS (by decide) sh_X6_2 rfl (by decide) (hts (.fieldLink RX6 110 "SeenAgain$Tape" "fault" "I") (by decide +kernel)) (fun _ h9 => h9) rfl (by decide +kernel) rfl rfl dX6_faulty_2 (fun H locs hX hS => ?_)
  obtain ⟨g_1, eg_1, hX⟩ := wx_nm hX
  refine lv_aload_n hx hb dX6_faulty_5 rfl (lv_at hl 0 rfl) ?_
  refine lv_aload_n hx hb dX6_faulty_6 rfl (lv_at hl 0 rfl) ?_
  refine wx_geti (C := RX6) (T := TX6) (N := 8) (ci := 6) (j := 4) hx hb hts hi_X6 hown hK hX (by decide) sh_X6_4 rfl (by decide) (hts (.fieldLink RX6 113 "SeenAgain$Tape" "at" "I") (by decide +kernel)) (fun _ h9 => h9) dX6_faulty_7 ?_
  refine lv_topi (fun x_2 ex_2 => ?_)
  have bx_2 : wx_b x_2 0 140 := by rw [ex_2]; exact (show wx_b (g_1 18 4) 0 140 by rw [show (g_1 18 4) = (g 18 4) from (by rw [eg_1, up2_sn (by decide)])]; exact (show wx_TB g from hT).2.1)
  refine wx_puti (C := RX6) (T := TX6) (N := 8) (ci := 6) (j := 3) (ty := .int) hx hb hts hi_X6 tyX6 tyX6_ok nmX6 hown hK hX hS (by decide) sh_X6_3 rfl (by decide) (hts (.fieldLink RX6 116 "SeenAgain$Tape" "faultPlace" "I") (by decide +kernel)) (fun _ h9 => h9) rfl (by decide +kernel) rfl rfl dX6_faulty_10 (fun H locs hX hS => ?_)
  obtain ⟨g_3, eg_3, hX⟩ := wx_nm hX
  refine lv_iconst (v := 0) hx hb dX6_faulty_13 (by decide) ?_
  exact hret _ _ _ _ _ _ dX6_faulty_14 rfl hX hS (by subst eg_3 ex_2 eg_1; simp only [f_X6_faulty])
theorem nb_f_X6_faulty (g : wx_M) (a1 : Int32) : narrow .boolean (.int ((f_X6_faulty g a1).2)) = .int ((f_X6_faulty g a1).2) := by
  simp only [f_X6_faulty]
  (rfl)
theorem tT_X6_faulty {g : wx_M} {a1 : Int32} (h : wx_TB g) : wx_TB (f_X6_faulty g a1).1 := by
  simp only [f_X6_faulty]
  exact tT_o (by decide) (by decide) (by decide) (tT_o (by decide) (by decide) (by decide) h)
theorem fr_X6_faulty {g : wx_M} {a1 : Int32} {k : Nat} (hk : k ≠ 18) : (f_X6_faulty g a1).1 k = g k := by
  simp only [f_X6_faulty]
  exact (up2_n hk).trans (up2_n hk)

def f_X6_take (g : wx_M) (a1 : Int32) : wx_M × Int32 :=
  if (g 18 6) = a1 then
    let g_2 := e_X6_step g
    (g_2, 1)
  else
    let z_3 := f_X6_faulty g 1
    (z_3.1, z_3.2)
set_option maxHeartbeats 4000000 in
set_option maxRecDepth 100000 in
theorem k_X6_take (l : Launch) {D : va_G} {cy : Nat → ClassId} {ad : Nat → Nat} {B0 : Nat} {f : wx_F} {P : va_W} (g : wx_M) (a1 : Int32) (hT : wx_TB g) : Met l yX6_take wsX6_take ({ frames := 3, cells := 0, slots := 0, locals := 62 } : Room) (wx_Pc D cy ad B0 f P g [.ref (ad 18), .int a1]) (wx_Qe D cy ad B0 f P (f_X6_take g a1).1 (some (.int (f_X6_take g a1).2))) 0 0 (fun q => B0 ≤ q) := by
  refine wx_enterE (cc := cX6_take) (maxL := 2) (ty := .boolean) (own := RX6) (lv := [(0, .ref (ad 18)), (1, .int a1)]) (by decide) rfl rfl (Nat.le_of_ble_eq_true rfl) rfl ?_
  intro p e R s m args below meth c ls Qm hx hb hml hown hts hK hX hS hR hret hl
  have hi_X6 : ∀ w ∈ wsX60, w ∈ wsX6_take := by decide +kernel
  refine lv_aload_n hx hb dX6_take_0 rfl (lv_at hl 0 rfl) ?_
  refine wx_geti (C := RX6) (T := TX6) (N := 8) (ci := 6) (j := 6) hx hb hts hi_X6 hown hK hX (by decide) sh_X6_6 rfl (by decide) (hts (.fieldLink RX6 60 "SeenAgain$Tape" "token" "I") (by decide +kernel)) (fun _ h9 => h9) dX6_take_1 ?_
  refine lv_iload_n hx hb dX6_take_4 rfl (lv_at hl 1 rfl) ?_
  refine lv_icmp_eq (tgt := 14) hx hb dX6_take_5 (by decide) (fun c_1 => ?_) (fun c_1 => ?_)
  · refine lv_aload_n hx hb dX6_take_14 rfl (lv_at hl 0 rfl) ?_
    refine wx_callev (va_runV (As := []) (rest := []) ⟨hx, hb, hml, hown, hts⟩ (k_X6_step l g hT) (cwV 0 hts gX6_take_X6_step rfl rfl rfl (by decide +kernel) (by rw [hR]; exact ⟨Nat.le_of_ble_eq_true rfl, Nat.le_of_ble_eq_true rfl⟩)) ⟨wx_Pc.blind, wx_recv hK hX (by decide) sh_X6 rfl, (wx_Pc.pre hK hX).2⟩ rfl rfl hl.1 rfl (lv_room (Nat.le_of_ble_eq_true rfl)) dX6_take_15 ⟨Nat.zero_le _, Nat.zero_le _⟩) hS (fun H locs hX hS => ?_)
    obtain ⟨g_2, eg_2, hX⟩ := wx_nm hX
    refine lv_iconst (v := 1) hx hb dX6_take_18 (by decide) ?_
    exact hret _ _ _ _ _ _ dX6_take_19 rfl hX hS (by subst eg_2; simp only [f_X6_take, if_pos c_1])
  · refine lv_aload_n hx hb dX6_take_8 rfl (lv_at hl 0 rfl) ?_
    refine lv_iconst (v := 1) hx hb dX6_take_9 (by decide) ?_
    refine wx_callei (va_runV (As := [.int 1]) (rest := []) ⟨hx, hb, hml, hown, hts⟩ (k_X6_faulty l g 1 hT) (cwV 1 hts gX6_take_X6_faulty rfl rfl rfl (by decide +kernel) (by rw [hR]; exact ⟨Nat.le_of_ble_eq_true rfl, Nat.le_of_ble_eq_true rfl⟩)) ⟨wx_Pc.blind, wx_recv hK hX (by decide) sh_X6 rfl, (wx_Pc.pre hK hX).2⟩ rfl rfl hl.1 rfl (lv_room (Nat.le_of_ble_eq_true rfl)) dX6_take_10 ⟨Nat.zero_le _, Nat.zero_le _⟩) hS (fun H locs hX hS => ?_)
    obtain ⟨z_3, ez_3⟩ : ∃ z, z = f_X6_faulty g 1 := ⟨_, rfl⟩
    rw [← ez_3] at hX; rw [← ez_3]
    exact hret _ _ _ _ _ _ dX6_take_13 (by rw [ez_3]; exact nb_f_X6_faulty _ _) hX hS (by subst ez_3; simp only [f_X6_take, if_neg c_1])
theorem nb_f_X6_take (g : wx_M) (a1 : Int32) : narrow .boolean (.int ((f_X6_take g a1).2)) = .int ((f_X6_take g a1).2) := by
  simp only [f_X6_take]
  (repeat' split) <;> first | rfl | (show narrow .boolean (.int 1) = .int 1; rfl) | (show narrow .boolean (.int 0) = .int 0; rfl) | exact nb_f_X6_faulty _ _
theorem tT_X6_take {g : wx_M} {a1 : Int32} (h : wx_TB g) : wx_TB (f_X6_take g a1).1 := by
  simp only [f_X6_take]
  split
  · exact tT_X6_step h
  · exact tT_X6_faulty h
theorem fr_X6_take {g : wx_M} {a1 : Int32} {k : Nat} (hk : k ≠ 18) : (f_X6_take g a1).1 k = g k := by
  simp only [f_X6_take]
  split
  · exact fr_X6_step hk
  · exact fr_X6_faulty hk

def f_X6_numberStands (g : wx_M) (a1 : Int32) (a2 : Int32) : wx_M × Int32 :=
  if (g 18 6) = (-3) then
    if (g 18 7) < a1 then
      let z_6 := f_X6_faulty g 2
      (z_6.1, z_6.2)
    else
      if (g 18 7) ≤ a2 then
        (g, 1)
      else
        let z_10 := f_X6_faulty g 2
        (z_10.1, z_10.2)
  else
    let z_11 := f_X6_faulty g 1
    (z_11.1, z_11.2)
set_option maxHeartbeats 4000000 in
set_option maxRecDepth 100000 in
theorem k_X6_numberStands (l : Launch) {D : va_G} {cy : Nat → ClassId} {ad : Nat → Nat} {B0 : Nat} {f : wx_F} {P : va_W} (g : wx_M) (a1 : Int32) (a2 : Int32) (hT : wx_TB g) : Met l yX6_numberStands wsX6_numberStands ({ frames := 1, cells := 0, slots := 0, locals := 21 } : Room) (wx_Pc D cy ad B0 f P g [.ref (ad 18), .int a1, .int a2]) (wx_Qe D cy ad B0 f P (f_X6_numberStands g a1 a2).1 (some (.int (f_X6_numberStands g a1 a2).2))) 0 0 (fun q => B0 ≤ q) := by
  refine wx_enterE (cc := cX6_numberStands) (maxL := 3) (ty := .boolean) (own := RX6) (lv := [(0, .ref (ad 18)), (1, .int a1), (2, .int a2)]) (by decide) rfl rfl (Nat.le_of_ble_eq_true rfl) rfl ?_
  intro p e R s m args below meth c ls Qm hx hb hml hown hts hK hX hS hR hret hl
  have hi_X6 : ∀ w ∈ wsX60, w ∈ wsX6_numberStands := by decide +kernel
  refine lv_aload_n hx hb dX6_numberStands_0 rfl (lv_at hl 0 rfl) ?_
  refine wx_geti (C := RX6) (T := TX6) (N := 8) (ci := 6) (j := 6) hx hb hts hi_X6 hown hK hX (by decide) sh_X6_6 rfl (by decide) (hts (.fieldLink RX6 60 "SeenAgain$Tape" "token" "I") (by decide +kernel)) (fun _ h9 => h9) dX6_numberStands_1 ?_
  refine lv_bipush (v := (-3)) hx hb dX6_numberStands_4 (by decide) ?_
  refine lv_icmp_eq (tgt := 15) hx hb dX6_numberStands_6 (by decide) (fun c_1 => ?_) (fun c_1 => ?_)
  · have b_2 : wx_b (g 18 6) (-3) (-3) := by rw [c_1]; exact ⟨by decide, by decide⟩
    refine lv_aload_n hx hb dX6_numberStands_15 rfl (lv_at hl 0 rfl) ?_
    refine wx_geti (C := RX6) (T := TX6) (N := 8) (ci := 6) (j := 7) hx hb hts hi_X6 hown hK hX (by decide) sh_X6_7 rfl (by decide) (hts (.fieldLink RX6 48 "SeenAgain$Tape" "number" "I") (by decide +kernel)) (fun _ h9 => h9) dX6_numberStands_16 ?_
    refine lv_iload_n hx hb dX6_numberStands_19 rfl (lv_at hl 1 rfl) ?_
    refine lv_icmp_lt (tgt := 31) hx hb dX6_numberStands_20 (by decide) (fun c_3 => ?_) (fun c_3 => ?_)
    · have b_4 : wx_b (g 18 7) (-2147483648) 2147483646 := wb_lt c_3 (wb_any _) (wb_any _) (by decide) (by decide)
      have b_5 : wx_b a1 (-2147483647) 2147483647 := wb_gt c_3 (wb_any _) (wb_any _) (by decide) (by decide)
      refine lv_aload_n hx hb dX6_numberStands_31 rfl (lv_at hl 0 rfl) ?_
      refine lv_iconst (v := 2) hx hb dX6_numberStands_32 (by decide) ?_
      refine wx_callei (va_runV (As := [.int 2]) (rest := []) ⟨hx, hb, hml, hown, hts⟩ (k_X6_faulty l g 2 hT) (cwV 1 hts gX6_numberStands_X6_faulty rfl rfl rfl (by decide +kernel) (by rw [hR]; exact ⟨Nat.le_of_ble_eq_true rfl, Nat.le_of_ble_eq_true rfl⟩)) ⟨wx_Pc.blind, wx_recv hK hX (by decide) sh_X6 rfl, (wx_Pc.pre hK hX).2⟩ rfl rfl hl.1 rfl (lv_room (Nat.le_of_ble_eq_true rfl)) dX6_numberStands_33 ⟨Nat.zero_le _, Nat.zero_le _⟩) hS (fun H locs hX hS => ?_)
      obtain ⟨z_6, ez_6⟩ : ∃ z, z = f_X6_faulty g 2 := ⟨_, rfl⟩
      rw [← ez_6] at hX; rw [← ez_6]
      exact hret _ _ _ _ _ _ dX6_numberStands_36 (by rw [ez_6]; exact nb_f_X6_faulty _ _) hX hS (by subst ez_6; simp only [f_X6_numberStands, if_pos c_1, if_pos c_3])
    · refine lv_aload_n hx hb dX6_numberStands_23 rfl (lv_at hl 0 rfl) ?_
      refine wx_geti (C := RX6) (T := TX6) (N := 8) (ci := 6) (j := 7) hx hb hts hi_X6 hown hK hX (by decide) sh_X6_7 rfl (by decide) (hts (.fieldLink RX6 48 "SeenAgain$Tape" "number" "I") (by decide +kernel)) (fun _ h9 => h9) dX6_numberStands_24 ?_
      refine lv_iload_n hx hb dX6_numberStands_27 rfl (lv_at hl 2 rfl) ?_
      refine lv_icmp_le (tgt := 37) hx hb dX6_numberStands_28 (by decide) (fun c_7 => ?_) (fun c_7 => ?_)
      · refine lv_iconst (v := 1) hx hb dX6_numberStands_37 (by decide) ?_
        exact hret _ _ _ _ _ _ dX6_numberStands_38 rfl hX hS (by simp only [f_X6_numberStands, if_pos c_1, if_neg c_3, if_pos c_7])
      · have b_8 : wx_b a2 (-2147483648) 2147483646 := wb_lt (wb_nle c_7) (wb_any _) (wb_any _) (by decide) (by decide)
        have b_9 : wx_b (g 18 7) (-2147483647) 2147483647 := wb_gt (wb_nle c_7) (wb_any _) (wb_any _) (by decide) (by decide)
        refine lv_aload_n hx hb dX6_numberStands_31 rfl (lv_at hl 0 rfl) ?_
        refine lv_iconst (v := 2) hx hb dX6_numberStands_32 (by decide) ?_
        refine wx_callei (va_runV (As := [.int 2]) (rest := []) ⟨hx, hb, hml, hown, hts⟩ (k_X6_faulty l g 2 hT) (cwV 1 hts gX6_numberStands_X6_faulty rfl rfl rfl (by decide +kernel) (by rw [hR]; exact ⟨Nat.le_of_ble_eq_true rfl, Nat.le_of_ble_eq_true rfl⟩)) ⟨wx_Pc.blind, wx_recv hK hX (by decide) sh_X6 rfl, (wx_Pc.pre hK hX).2⟩ rfl rfl hl.1 rfl (lv_room (Nat.le_of_ble_eq_true rfl)) dX6_numberStands_33 ⟨Nat.zero_le _, Nat.zero_le _⟩) hS (fun H locs hX hS => ?_)
        obtain ⟨z_10, ez_10⟩ : ∃ z, z = f_X6_faulty g 2 := ⟨_, rfl⟩
        rw [← ez_10] at hX; rw [← ez_10]
        exact hret _ _ _ _ _ _ dX6_numberStands_36 (by rw [ez_10]; exact nb_f_X6_faulty _ _) hX hS (by subst ez_10; simp only [f_X6_numberStands, if_pos c_1, if_neg c_3, if_neg c_7])
  · refine lv_aload_n hx hb dX6_numberStands_9 rfl (lv_at hl 0 rfl) ?_
    refine lv_iconst (v := 1) hx hb dX6_numberStands_10 (by decide) ?_
    refine wx_callei (va_runV (As := [.int 1]) (rest := []) ⟨hx, hb, hml, hown, hts⟩ (k_X6_faulty l g 1 hT) (cwV 1 hts gX6_numberStands_X6_faulty rfl rfl rfl (by decide +kernel) (by rw [hR]; exact ⟨Nat.le_of_ble_eq_true rfl, Nat.le_of_ble_eq_true rfl⟩)) ⟨wx_Pc.blind, wx_recv hK hX (by decide) sh_X6 rfl, (wx_Pc.pre hK hX).2⟩ rfl rfl hl.1 rfl (lv_room (Nat.le_of_ble_eq_true rfl)) dX6_numberStands_11 ⟨Nat.zero_le _, Nat.zero_le _⟩) hS (fun H locs hX hS => ?_)
    obtain ⟨z_11, ez_11⟩ : ∃ z, z = f_X6_faulty g 1 := ⟨_, rfl⟩
    rw [← ez_11] at hX; rw [← ez_11]
    exact hret _ _ _ _ _ _ dX6_numberStands_14 (by rw [ez_11]; exact nb_f_X6_faulty _ _) hX hS (by subst ez_11; simp only [f_X6_numberStands, if_neg c_1])
theorem nb_f_X6_numberStands (g : wx_M) (a1 : Int32) (a2 : Int32) : narrow .boolean (.int ((f_X6_numberStands g a1 a2).2)) = .int ((f_X6_numberStands g a1 a2).2) := by
  simp only [f_X6_numberStands]
  (repeat' split) <;> first | rfl | (show narrow .boolean (.int 1) = .int 1; rfl) | (show narrow .boolean (.int 0) = .int 0; rfl) | exact nb_f_X6_faulty _ _
theorem tT_X6_numberStands {g : wx_M} {a1 a2 : Int32} (h : wx_TB g) : wx_TB (f_X6_numberStands g a1 a2).1 := by
  simp only [f_X6_numberStands]
  (repeat' split) <;> first | exact h | exact tT_X6_faulty h
theorem fr_X6_numberStands {g : wx_M} {a1 a2 : Int32} {k : Nat} (hk : k ≠ 18) : (f_X6_numberStands g a1 a2).1 k = g k := by
  simp only [f_X6_numberStands]
  (repeat' split) <;> first | rfl | exact fr_X6_faulty hk
theorem ns_b {g : wx_M} {a1 a2 : Int32} {a b c d : Int} (h1 : wx_b a1 a b) (h2 : wx_b a2 c d) (h : ¬ (f_X6_numberStands g a1 a2).2 = 0) : wx_b ((f_X6_numberStands g a1 a2).1 18 7) a d := by
  simp only [f_X6_numberStands] at h ⊢
  split
  · rename_i c0
    rw [if_pos c0] at h
    split
    · rename_i c1
      rw [if_pos c1] at h
      exact absurd rfl h
    · rename_i c1
      rw [if_neg c1] at h
      split
      · rename_i c2
        exact ⟨Int.le_trans h1.1 (Int32.le_iff_toInt_le.mp (Int32.not_lt.mp c1)), Int.le_trans (Int32.le_iff_toInt_le.mp c2) h2.2⟩
      · rename_i c2
        rw [if_neg c2] at h
        exact absurd rfl h
  · rename_i c0
    rw [if_neg c0] at h
    exact absurd rfl h

