def b_X12_image_26 (g : wx_M) (a1 : Int32) (t_26 : Nat) (s_26 : wx_M) : wx_M :=
  let x_6 := (s_26 65 (nI t_26).toNatClampNeg)
  let g_7 := up2 s_26 66 ((149 * a1) + (nI t_26)).toNatClampNeg x_6
  g_7
def f_X12_image (g : wx_M) (a1 : Int32) : wx_M × Int32 :=
  if (r_X12_in a1 0 1) = 0 then
    (g, (-1000001))
  else
    if (g 65 (0 : Int32).toNatClampNeg) = 0 then
      (g, (-1000002))
    else
      let s_26 := rep 149 (b_X12_image_26 g a1) g
      let g_5 := up2 s_26 67 a1.toNatClampNeg (vp_nar .boolean (1 : Int32))
      (g_5, 1)
set_option maxHeartbeats 4000000 in
set_option maxRecDepth 100000 in
theorem k_X12_image (l : Launch) {D : va_G} {cy : Nat → ClassId} {ad : Nat → Nat} {B0 : Nat} {f : wx_F} {P : va_W} (g : wx_M) (a1 : Int32) : Met l yX12_image wsX12_image ({ frames := 1, cells := 0, slots := 0, locals := 22 } : Room) (wx_Pc D cy ad B0 f P g [.ref (ad 57), .int a1]) (wx_Qe D cy ad B0 f P (f_X12_image g a1).1 (some (.int (f_X12_image g a1).2))) 0 0 (fun q => B0 ≤ q) := by
  refine wx_enterE (cc := cX12_image) (maxL := 3) (ty := .int) (own := RX12) (lv := [(0, .ref (ad 57)), (1, .int a1)]) (by decide) rfl rfl (Nat.le_of_ble_eq_true rfl) rfl ?_
  intro p e R s m args below meth c ls Qm hx hb hml hown hts hK hX hS hR hret hl
  have hi_X12 : ∀ w ∈ wsX120, w ∈ wsX12_image := by decide +kernel
  refine lv_iload_n hx hb dX12_image_0 rfl (lv_at hl 1 rfl) ?_
  refine lv_iconst (v := 0) hx hb dX12_image_1 (by decide) ?_
  refine lv_iconst (v := 1) hx hb dX12_image_2 (by decide) ?_
  refine wx_callr (va_runS (As := [.int a1, .int 0, .int 1]) (rest := []) ⟨hx, hb, hml, hown, hts⟩ (k_X12_in l g a1 0 1) (va_cwS 3 hts gX12_image_X12_in rfl rfl rfl (by decide +kernel) (by rw [hR]; exact ⟨Nat.le_of_ble_eq_true rfl, Nat.le_of_ble_eq_true rfl⟩)) (wx_Pc.pre hK hX) rfl rfl hl.1 rfl (lv_room (Nat.le_of_ble_eq_true rfl)) dX12_image_3 ⟨Nat.zero_le _, Nat.zero_le _⟩) ?_
  refine lv_if_ne (tgt := 12) hx hb dX12_image_6 (by decide) (fun c_1 => ?_) (fun c_1 => ?_)
  · have b_2 : wx_b a1 0 1 := rf_X12_in (show wx_b 0 0 0 from ⟨by decide, by decide⟩) (show wx_b 1 1 1 from ⟨by decide, by decide⟩) c_1
    refine lv_aload_n hx hb dX12_image_12 rfl (lv_at hl 0 rfl) ?_
    refine wx_getr (t := 65) (C := RX12) (T := TX12) (N := 27) (ci := 11) (j := 20) hx hb hts hi_X12 hown hK hX (by decide) sh_X12_20 rfl (by decide) (hts (.fieldLink RX12 31 "SeenAgainModel" "now" "[I") (by decide +kernel)) (fun _ h9 => h9) dX12_image_13 ?_
    refine lv_iconst (v := 0) hx hb dX12_image_16 (by decide) ?_
    refine wx_iald hx hb hK hX (by decide) sa_65 (wb_in (show wx_b 0 0 0 from ⟨by decide, by decide⟩) (by decide) (by decide)) dX12_image_17 ?_
    refine lv_if_ne (tgt := 24) hx hb dX12_image_18 (by decide) (fun c_3 => ?_) (fun c_3 => ?_)
    · refine lv_iconst (v := 0) hx hb dX12_image_24 (by decide) ?_
      refine lv_istore_n (lv' := [(2, .int 0), (0, .ref (ad 57)), (1, .int a1)]) hx hb dX12_image_25 rfl hl (by decide) rfl (fun ls hl => ?_)
      have lp_26 : ∀ (n t_26 : Nat) (s_26 : wx_M) (ls : Array Slot) (H : Heap) (locs : List Loc), t_26 ≤ 149 → 149 + 1 ≤ t_26 + n → s_26 = rep t_26 (b_X12_image_26 g a1) g → wx_X D cy ad B0 f P s_26 H → va_S (fun q => B0 ≤ q) s.heap H locs → lv_has ls 3 [(2, .int (nI t_26)), (0, .ref (ad 57)), (1, .int a1)] → W p l e R s m args below meth c H locs 0 0 Qm (F0 m 26 ls []) := by
        intro n
        induction n with
        | zero => intro t_26 s_26 ls H locs h1 h2; exact absurd h2 (by omega)
        | succ n ih_26 =>
          intro t_26 s_26 ls H locs ht_26 hn_26 es_26 hX hS hl
          refine lv_iload_n hx hb dX12_image_26 rfl (lv_at hl 0 rfl) ?_
          refine lv_sipush (v := 149) hx hb dX12_image_27 (by decide) ?_
          refine lv_icmp_ge (tgt := 57) hx hb dX12_image_30 (by decide) (fun c_4 => ?_) (fun c_4 => ?_)
          · have et_26 : t_26 = 149 := Nat.le_antisymm ht_26 (by have h9 := wx_dn (by omega) c_4; have h8 : (149 : Int32).toNatClampNeg = 149 := (by decide); omega)
            subst et_26
            refine lv_aload_n hx hb dX12_image_57 rfl (lv_at hl 1 rfl) ?_
            refine wx_getr (t := 67) (C := RX12) (T := TX12) (N := 27) (ci := 11) (j := 22) hx hb hts hi_X12 hown hK hX (by decide) sh_X12_22 rfl (by decide) (hts (.fieldLink RX12 37 "SeenAgainModel" "isKept" "[Z") (by decide +kernel)) (fun _ h9 => h9) dX12_image_58 ?_
            refine lv_iload_n hx hb dX12_image_61 rfl (lv_at hl 2 rfl) ?_
            refine lv_iconst (v := 1) hx hb dX12_image_62 (by decide) ?_
            refine wx_zast hx hb hK hX hS (by decide) sz_67 (wb_in b_2 (by decide) (by decide)) dX12_image_63 (fun H locs hX hS => ?_)
            obtain ⟨g_5, eg_5, hX⟩ := wx_nm hX
            refine lv_iconst (v := 1) hx hb dX12_image_64 (by decide) ?_
            exact hret _ _ _ _ _ _ dX12_image_65 rfl hX hS (by subst eg_5; simp only [f_X12_image, if_neg c_1, if_neg c_3, ← es_26])
          · have hlt_26 : t_26 < 149 := by have h9 := wx_up (by omega) c_4; have h8 : (149 : Int32).toNatClampNeg = 149 := (by decide); omega
            have bt_26 : wx_b (nI (t_26)) 0 148 := wb_nI (n := 148) (by omega) (by decide)
            refine lv_aload_n hx hb dX12_image_33 rfl (lv_at hl 1 rfl) ?_
            refine wx_getr (t := 66) (C := RX12) (T := TX12) (N := 27) (ci := 11) (j := 21) hx hb hts hi_X12 hown hK hX (by decide) sh_X12_21 rfl (by decide) (hts (.fieldLink RX12 34 "SeenAgainModel" "image" "[I") (by decide +kernel)) (fun _ h9 => h9) dX12_image_34 ?_
            refine lv_sipush (v := 149) hx hb dX12_image_37 (by decide) ?_
            refine lv_iload_n hx hb dX12_image_40 rfl (lv_at hl 2 rfl) ?_
            refine lv_imul hx hb dX12_image_41 ?_
            refine lv_iload_n hx hb dX12_image_42 rfl (lv_at hl 0 rfl) ?_
            refine lv_iadd hx hb dX12_image_43 ?_
            refine lv_aload_n hx hb dX12_image_44 rfl (lv_at hl 1 rfl) ?_
            refine wx_getr (t := 65) (C := RX12) (T := TX12) (N := 27) (ci := 11) (j := 20) hx hb hts hi_X12 hown hK hX (by decide) sh_X12_20 rfl (by decide) (hts (.fieldLink RX12 31 "SeenAgainModel" "now" "[I") (by decide +kernel)) (fun _ h9 => h9) dX12_image_45 ?_
            refine lv_iload_n hx hb dX12_image_48 rfl (lv_at hl 0 rfl) ?_
            refine wx_iald hx hb hK hX (by decide) sa_65 (wb_in bt_26 (by decide) (by decide)) dX12_image_49 ?_
            refine lv_topi (fun x_6 ex_6 => ?_)
            refine wx_iast hx hb hK hX hS (by decide) sa_66 (wb_in (wb_add (wb_mul (show wx_b 149 149 149 from ⟨by decide, by decide⟩) b_2 (by decide) (by decide) (by decide)) bt_26 (by decide) (by decide)) (by decide) (by decide)) dX12_image_50 (fun H locs hX hS => ?_)
            obtain ⟨g_7, eg_7, hX⟩ := wx_nm hX
            refine lv_iinc (v := nI (t_26 + 1)) (lv' := [(2, .int (nI (t_26 + 1))), (0, .ref (ad 57)), (1, .int a1)]) hx hb dX12_image_51 hl (k := 0) rfl (wx_inc _) (by decide) rfl (fun ls hl => ?_)
            refine lv_goto (tgt := 26) hx hb dX12_image_54 (by decide) ?_
            have hF_8 : (b_X12_image_26 g a1) t_26 s_26 = g_7 := (by subst eg_7 ex_6; simp only [b_X12_image_26])
            exact ih_26 (t_26 + 1) g_7 ls H locs hlt_26 (by omega) (by rw [rep_succ, ← es_26, hF_8]) hX hS (lv_sub hl [0, 1, 2] rfl)
      exact lp_26 (149 + 1) 0 g ls s.heap [] (Nat.zero_le _) (by omega) rfl hX hS (lv_sub hl [0, 1, 2] rfl)
    · have b_9 : wx_b (g 65 (0 : Int32).toNatClampNeg) 0 0 := by rw [c_3]; exact ⟨by decide, by decide⟩
      refine lv_ldc hx hb hown (hts (.constant RX12 166 (-1000002)) (by decide +kernel)) dX12_image_21 ?_
      exact hret _ _ _ _ _ _ dX12_image_23 rfl hX hS (by simp only [f_X12_image, if_neg c_1, if_pos c_3])
  · have b_10 : wx_b (r_X12_in a1 0 1) 0 0 := by rw [c_1]; exact ⟨by decide, by decide⟩
    refine lv_ldc hx hb hown (hts (.constant RX12 60 (-1000001)) (by decide +kernel)) dX12_image_9 ?_
    exact hret _ _ _ _ _ _ dX12_image_11 rfl hX hS (by simp only [f_X12_image, if_pos c_1])
def b_X12_restore_26 (g : wx_M) (a1 : Int32) (t_26 : Nat) (s_26 : wx_M) : wx_M :=
  let x_6 := (s_26 66 ((149 * a1) + (nI t_26)).toNatClampNeg)
  let g_7 := up2 s_26 65 (nI t_26).toNatClampNeg x_6
  g_7
def f_X12_restore (g : wx_M) (a1 : Int32) : wx_M × Int32 :=
  if (r_X12_in a1 0 1) = 0 then
    (g, (-1000001))
  else
    if (g 67 a1.toNatClampNeg) = 0 then
      (g, (-1000002))
    else
      let s_26 := rep 149 (b_X12_restore_26 g a1) g
      let g_5 := up2 s_26 57 23 0
      (g_5, 1)
set_option maxHeartbeats 4000000 in
set_option maxRecDepth 100000 in
theorem k_X12_restore (l : Launch) {D : va_G} {cy : Nat → ClassId} {ad : Nat → Nat} {B0 : Nat} {f : wx_F} {P : va_W} (g : wx_M) (a1 : Int32) : Met l yX12_restore wsX12_restore ({ frames := 1, cells := 0, slots := 0, locals := 22 } : Room) (wx_Pc D cy ad B0 f P g [.ref (ad 57), .int a1]) (wx_Qe D cy ad B0 f P (f_X12_restore g a1).1 (some (.int (f_X12_restore g a1).2))) 0 0 (fun q => B0 ≤ q) := by
  refine wx_enterE (cc := cX12_restore) (maxL := 3) (ty := .int) (own := RX12) (lv := [(0, .ref (ad 57)), (1, .int a1)]) (by decide) rfl rfl (Nat.le_of_ble_eq_true rfl) rfl ?_
  intro p e R s m args below meth c ls Qm hx hb hml hown hts hK hX hS hR hret hl
  have hi_X12 : ∀ w ∈ wsX120, w ∈ wsX12_restore := by decide +kernel
  refine lv_iload_n hx hb dX12_restore_0 rfl (lv_at hl 1 rfl) ?_
  refine lv_iconst (v := 0) hx hb dX12_restore_1 (by decide) ?_
  refine lv_iconst (v := 1) hx hb dX12_restore_2 (by decide) ?_
  refine wx_callr (va_runS (As := [.int a1, .int 0, .int 1]) (rest := []) ⟨hx, hb, hml, hown, hts⟩ (k_X12_in l g a1 0 1) (va_cwS 3 hts gX12_restore_X12_in rfl rfl rfl (by decide +kernel) (by rw [hR]; exact ⟨Nat.le_of_ble_eq_true rfl, Nat.le_of_ble_eq_true rfl⟩)) (wx_Pc.pre hK hX) rfl rfl hl.1 rfl (lv_room (Nat.le_of_ble_eq_true rfl)) dX12_restore_3 ⟨Nat.zero_le _, Nat.zero_le _⟩) ?_
  refine lv_if_ne (tgt := 12) hx hb dX12_restore_6 (by decide) (fun c_1 => ?_) (fun c_1 => ?_)
  · have b_2 : wx_b a1 0 1 := rf_X12_in (show wx_b 0 0 0 from ⟨by decide, by decide⟩) (show wx_b 1 1 1 from ⟨by decide, by decide⟩) c_1
    refine lv_aload_n hx hb dX12_restore_12 rfl (lv_at hl 0 rfl) ?_
    refine wx_getr (t := 67) (C := RX12) (T := TX12) (N := 27) (ci := 11) (j := 22) hx hb hts hi_X12 hown hK hX (by decide) sh_X12_22 rfl (by decide) (hts (.fieldLink RX12 37 "SeenAgainModel" "isKept" "[Z") (by decide +kernel)) (fun _ h9 => h9) dX12_restore_13 ?_
    refine lv_iload_n hx hb dX12_restore_16 rfl (lv_at hl 1 rfl) ?_
    refine wx_zald hx hb hK hX (by decide) sz_67 (wb_in b_2 (by decide) (by decide)) dX12_restore_17 ?_
    refine lv_if_ne (tgt := 24) hx hb dX12_restore_18 (by decide) (fun c_3 => ?_) (fun c_3 => ?_)
    · refine lv_iconst (v := 0) hx hb dX12_restore_24 (by decide) ?_
      refine lv_istore_n (lv' := [(2, .int 0), (0, .ref (ad 57)), (1, .int a1)]) hx hb dX12_restore_25 rfl hl (by decide) rfl (fun ls hl => ?_)
      have lp_26 : ∀ (n t_26 : Nat) (s_26 : wx_M) (ls : Array Slot) (H : Heap) (locs : List Loc), t_26 ≤ 149 → 149 + 1 ≤ t_26 + n → s_26 = rep t_26 (b_X12_restore_26 g a1) g → wx_X D cy ad B0 f P s_26 H → va_S (fun q => B0 ≤ q) s.heap H locs → lv_has ls 3 [(2, .int (nI t_26)), (0, .ref (ad 57)), (1, .int a1)] → W p l e R s m args below meth c H locs 0 0 Qm (F0 m 26 ls []) := by
        intro n
        induction n with
        | zero => intro t_26 s_26 ls H locs h1 h2; exact absurd h2 (by omega)
        | succ n ih_26 =>
          intro t_26 s_26 ls H locs ht_26 hn_26 es_26 hX hS hl
          refine lv_iload_n hx hb dX12_restore_26 rfl (lv_at hl 0 rfl) ?_
          refine lv_sipush (v := 149) hx hb dX12_restore_27 (by decide) ?_
          refine lv_icmp_ge (tgt := 57) hx hb dX12_restore_30 (by decide) (fun c_4 => ?_) (fun c_4 => ?_)
          · have et_26 : t_26 = 149 := Nat.le_antisymm ht_26 (by have h9 := wx_dn (by omega) c_4; have h8 : (149 : Int32).toNatClampNeg = 149 := (by decide); omega)
            subst et_26
            refine lv_aload_n hx hb dX12_restore_57 rfl (lv_at hl 1 rfl) ?_
            refine lv_iconst (v := 0) hx hb dX12_restore_58 (by decide) ?_
            refine wx_puti (C := RX12) (T := TX12) (N := 27) (ci := 11) (j := 23) (ty := .int) hx hb hts hi_X12 tyX12 tyX12_ok nmX12 hown hK hX hS (by decide) sh_X12_23 rfl (by decide) (hts (.fieldLink RX12 138 "SeenAgainModel" "acts" "I") (by decide +kernel)) (fun _ h9 => h9) rfl (by decide +kernel) rfl rfl dX12_restore_59 (fun H locs hX hS => ?_)
            obtain ⟨g_5, eg_5, hX⟩ := wx_nm hX
            refine lv_iconst (v := 1) hx hb dX12_restore_62 (by decide) ?_
            exact hret _ _ _ _ _ _ dX12_restore_63 rfl hX hS (by subst eg_5; simp only [f_X12_restore, if_neg c_1, if_neg c_3, ← es_26])
          · have hlt_26 : t_26 < 149 := by have h9 := wx_up (by omega) c_4; have h8 : (149 : Int32).toNatClampNeg = 149 := (by decide); omega
            have bt_26 : wx_b (nI (t_26)) 0 148 := wb_nI (n := 148) (by omega) (by decide)
            refine lv_aload_n hx hb dX12_restore_33 rfl (lv_at hl 1 rfl) ?_
            refine wx_getr (t := 65) (C := RX12) (T := TX12) (N := 27) (ci := 11) (j := 20) hx hb hts hi_X12 hown hK hX (by decide) sh_X12_20 rfl (by decide) (hts (.fieldLink RX12 31 "SeenAgainModel" "now" "[I") (by decide +kernel)) (fun _ h9 => h9) dX12_restore_34 ?_
            refine lv_iload_n hx hb dX12_restore_37 rfl (lv_at hl 0 rfl) ?_
            refine lv_aload_n hx hb dX12_restore_38 rfl (lv_at hl 1 rfl) ?_
            refine wx_getr (t := 66) (C := RX12) (T := TX12) (N := 27) (ci := 11) (j := 21) hx hb hts hi_X12 hown hK hX (by decide) sh_X12_21 rfl (by decide) (hts (.fieldLink RX12 34 "SeenAgainModel" "image" "[I") (by decide +kernel)) (fun _ h9 => h9) dX12_restore_39 ?_
            refine lv_sipush (v := 149) hx hb dX12_restore_42 (by decide) ?_
            refine lv_iload_n hx hb dX12_restore_45 rfl (lv_at hl 2 rfl) ?_
            refine lv_imul hx hb dX12_restore_46 ?_
            refine lv_iload_n hx hb dX12_restore_47 rfl (lv_at hl 0 rfl) ?_
            refine lv_iadd hx hb dX12_restore_48 ?_
            refine wx_iald hx hb hK hX (by decide) sa_66 (wb_in (wb_add (wb_mul (show wx_b 149 149 149 from ⟨by decide, by decide⟩) b_2 (by decide) (by decide) (by decide)) bt_26 (by decide) (by decide)) (by decide) (by decide)) dX12_restore_49 ?_
            refine lv_topi (fun x_6 ex_6 => ?_)
            refine wx_iast hx hb hK hX hS (by decide) sa_65 (wb_in bt_26 (by decide) (by decide)) dX12_restore_50 (fun H locs hX hS => ?_)
            obtain ⟨g_7, eg_7, hX⟩ := wx_nm hX
            refine lv_iinc (v := nI (t_26 + 1)) (lv' := [(2, .int (nI (t_26 + 1))), (0, .ref (ad 57)), (1, .int a1)]) hx hb dX12_restore_51 hl (k := 0) rfl (wx_inc _) (by decide) rfl (fun ls hl => ?_)
            refine lv_goto (tgt := 26) hx hb dX12_restore_54 (by decide) ?_
            have hF_8 : (b_X12_restore_26 g a1) t_26 s_26 = g_7 := (by subst eg_7 ex_6; simp only [b_X12_restore_26])
            exact ih_26 (t_26 + 1) g_7 ls H locs hlt_26 (by omega) (by rw [rep_succ, ← es_26, hF_8]) hX hS (lv_sub hl [0, 1, 2] rfl)
      exact lp_26 (149 + 1) 0 g ls s.heap [] (Nat.zero_le _) (by omega) rfl hX hS (lv_sub hl [0, 1, 2] rfl)
    · have b_9 : wx_b (g 67 a1.toNatClampNeg) 0 0 := by rw [c_3]; exact ⟨by decide, by decide⟩
      refine lv_ldc hx hb hown (hts (.constant RX12 166 (-1000002)) (by decide +kernel)) dX12_restore_21 ?_
      exact hret _ _ _ _ _ _ dX12_restore_23 rfl hX hS (by simp only [f_X12_restore, if_neg c_1, if_pos c_3])
  · have b_10 : wx_b (r_X12_in a1 0 1) 0 0 := by rw [c_1]; exact ⟨by decide, by decide⟩
    refine lv_ldc hx hb hown (hts (.constant RX12 60 (-1000001)) (by decide +kernel)) dX12_restore_9 ?_
    exact hret _ _ _ _ _ _ dX12_restore_11 rfl hX hS (by simp only [f_X12_restore, if_pos c_1])
def f_X12_as (g : wx_M) (a1 : Int32) (a2 : Int32) : wx_M × Int32 :=
  if (r_X12_isGuest g a1) = 0 then
    (g, (-1000001))
  else
    if (r_X12_in a2 0 5) = 0 then
      (g, (-1000001))
    else
      let x_6 := (g 65 (43 + a1).toNatClampNeg)
      if a2 = 0 then
        let z_9 := f_X12_did g a1
        let z_9 := f_X12_did g a1
        (z_9.1, z_9.2)
      else
        if a2 = x_6 then
          let z_12 := f_X12_did g a1
          let z_12 := f_X12_did g a1
          (z_12.1, z_12.2)
        else
          if a2 = 1 then
            if x_6 < 4 then
              let z_25 := f_X12_did g a1
              let z_25 := f_X12_did g a1
              (z_25.1, z_25.2)
            else
              if a2 = 4 then
                if x_6 = 5 then
                  let z_33 := f_X12_did g a1
                  let z_33 := f_X12_did g a1
                  (z_33.1, z_33.2)
                else
                  let z_31 := f_X12_finds g 3
                  let z_31 := f_X12_finds g 3
                  (z_31.1, z_31.2)
              else
                let z_28 := f_X12_finds g 3
                let z_28 := f_X12_finds g 3
                (z_28.1, z_28.2)
          else
            if a2 = 4 then
              if x_6 = 5 then
                let z_21 := f_X12_did g a1
                let z_21 := f_X12_did g a1
                (z_21.1, z_21.2)
              else
                let z_19 := f_X12_finds g 3
                let z_19 := f_X12_finds g 3
                (z_19.1, z_19.2)
            else
              let z_16 := f_X12_finds g 3
              let z_16 := f_X12_finds g 3
              (z_16.1, z_16.2)
set_option maxHeartbeats 4000000 in
set_option maxRecDepth 100000 in
theorem k_X12_as (l : Launch) {D : va_G} {cy : Nat → ClassId} {ad : Nat → Nat} {B0 : Nat} {f : wx_F} {P : va_W} (g : wx_M) (a1 : Int32) (a2 : Int32) (hm : wx_MB g) : Met l yX12_as wsX12_as ({ frames := 2, cells := 0, slots := 0, locals := 43 } : Room) (wx_Pc D cy ad B0 f P g [.ref (ad 57), .int a1, .int a2]) (wx_Qe D cy ad B0 f P (f_X12_as g a1 a2).1 (some (.int (f_X12_as g a1 a2).2))) 0 0 (fun q => B0 ≤ q) := by
  refine wx_enterE (cc := cX12_as) (maxL := 5) (ty := .int) (own := RX12) (lv := [(0, .ref (ad 57)), (1, .int a1), (2, .int a2)]) (by decide) rfl rfl (Nat.le_of_ble_eq_true rfl) rfl ?_
  intro p e R s m args below meth c ls Qm hx hb hml hown hts hK hX hS hR hret hl
  have hi_X12 : ∀ w ∈ wsX120, w ∈ wsX12_as := by decide +kernel
  refine lv_aload_n hx hb dX12_as_0 rfl (lv_at hl 0 rfl) ?_
  refine lv_iload_n hx hb dX12_as_1 rfl (lv_at hl 1 rfl) ?_
  refine wx_callr (va_runV (As := [.int a1]) (rest := []) ⟨hx, hb, hml, hown, hts⟩ (k_X12_isGuest l g a1) (cwV 1 hts gX12_as_X12_isGuest rfl rfl rfl (by decide +kernel) (by rw [hR]; exact ⟨Nat.le_of_ble_eq_true rfl, Nat.le_of_ble_eq_true rfl⟩)) ⟨wx_Pc.blind, wx_recv hK hX (by decide) sh_X12 rfl, (wx_Pc.pre hK hX).2⟩ rfl rfl hl.1 rfl (lv_room (Nat.le_of_ble_eq_true rfl)) dX12_as_2 ⟨Nat.zero_le _, Nat.zero_le _⟩) ?_
  refine lv_if_eq (tgt := 17) hx hb dX12_as_5 (by decide) (fun c_1 => ?_) (fun c_1 => ?_)
  · have b_2 : wx_b (r_X12_isGuest g a1) 0 0 := by rw [c_1]; exact ⟨by decide, by decide⟩
    refine lv_ldc hx hb hown (hts (.constant RX12 60 (-1000001)) (by decide +kernel)) dX12_as_17 ?_
    exact hret _ _ _ _ _ _ dX12_as_19 rfl hX hS (by simp only [f_X12_as, if_pos c_1])
  · have b_3 : wx_b a1 0 3 := rf_X12_isGuest hm c_1
    refine lv_iload_n hx hb dX12_as_8 rfl (lv_at hl 2 rfl) ?_
    refine lv_iconst (v := 0) hx hb dX12_as_9 (by decide) ?_
    refine lv_iconst (v := 5) hx hb dX12_as_10 (by decide) ?_
    refine wx_callr (va_runS (As := [.int a2, .int 0, .int 5]) (rest := []) ⟨hx, hb, hml, hown, hts⟩ (k_X12_in l g a2 0 5) (va_cwS 3 hts gX12_as_X12_in rfl rfl rfl (by decide +kernel) (by rw [hR]; exact ⟨Nat.le_of_ble_eq_true rfl, Nat.le_of_ble_eq_true rfl⟩)) (wx_Pc.pre hK hX) rfl rfl hl.1 rfl (lv_room (Nat.le_of_ble_eq_true rfl)) dX12_as_11 ⟨Nat.zero_le _, Nat.zero_le _⟩) ?_
    refine lv_if_ne (tgt := 20) hx hb dX12_as_14 (by decide) (fun c_4 => ?_) (fun c_4 => ?_)
    · have b_5 : wx_b a2 0 5 := rf_X12_in (show wx_b 0 0 0 from ⟨by decide, by decide⟩) (show wx_b 5 5 5 from ⟨by decide, by decide⟩) c_4
      refine lv_aload_n hx hb dX12_as_20 rfl (lv_at hl 0 rfl) ?_
      refine wx_getr (t := 65) (C := RX12) (T := TX12) (N := 27) (ci := 11) (j := 20) hx hb hts hi_X12 hown hK hX (by decide) sh_X12_20 rfl (by decide) (hts (.fieldLink RX12 31 "SeenAgainModel" "now" "[I") (by decide +kernel)) (fun _ h9 => h9) dX12_as_21 ?_
      refine lv_bipush (v := 43) hx hb dX12_as_24 (by decide) ?_
      refine lv_iload_n hx hb dX12_as_26 rfl (lv_at hl 1 rfl) ?_
      refine lv_iadd hx hb dX12_as_27 ?_
      refine wx_iald hx hb hK hX (by decide) sa_65 (wb_in (wb_add (show wx_b 43 43 43 from ⟨by decide, by decide⟩) b_3 (by decide) (by decide)) (by decide) (by decide)) dX12_as_28 ?_
      refine lv_topi (fun x_6 ex_6 => ?_)
      refine lv_istore_n (lv' := [(3, .int x_6), (0, .ref (ad 57)), (1, .int a1), (2, .int a2)]) hx hb dX12_as_29 rfl hl (by decide) rfl (fun ls hl => ?_)
      refine lv_iload_n hx hb dX12_as_30 rfl (lv_at hl 3 rfl) ?_
      refine lv_if_eq (tgt := 59) hx hb dX12_as_31 (by decide) (fun c_7 => ?_) (fun c_7 => ?_)
      · have b_8 : wx_b a2 0 0 := by rw [c_7]; exact ⟨by decide, by decide⟩
        refine lv_iconst (v := 1) hx hb dX12_as_59 (by decide) ?_
        refine lv_goto (tgt := 64) hx hb dX12_as_60 (by decide) ?_
        refine lv_istore (lv' := [(4, .int 1), (3, .int x_6), (0, .ref (ad 57)), (1, .int a1), (2, .int a2)]) hx hb dX12_as_64 hl (by decide) rfl (fun ls hl => ?_)
        refine lv_iload hx hb dX12_as_66 (lv_at hl 0 rfl) ?_
        refine lv_if_eq (tgt := 79) hx hb dX12_as_68 (by decide) (fun c9 => absurd c9 (by decide)) (fun _ => ?_)
        refine lv_aload_n hx hb dX12_as_71 rfl (lv_at hl 2 rfl) ?_
        refine lv_iload_n hx hb dX12_as_72 rfl (lv_at hl 3 rfl) ?_
        refine wx_callei (va_runV (As := [.int a1]) (rest := []) ⟨hx, hb, hml, hown, hts⟩ (k_X12_did l g a1) (cwV 1 hts gX12_as_X12_did rfl rfl rfl (by decide +kernel) (by rw [hR]; exact ⟨Nat.le_of_ble_eq_true rfl, Nat.le_of_ble_eq_true rfl⟩)) ⟨wx_Pc.blind, wx_recv hK hX (by decide) sh_X12 rfl, (wx_Pc.pre hK hX).2⟩ rfl rfl hl.1 rfl (lv_room (Nat.le_of_ble_eq_true rfl)) dX12_as_73 ⟨Nat.zero_le _, Nat.zero_le _⟩) hS (fun H locs hX hS => ?_)
        obtain ⟨z_9, ez_9⟩ : ∃ z, z = f_X12_did g a1 := ⟨_, rfl⟩
        rw [← ez_9] at hX; rw [← ez_9]
        refine lv_goto (tgt := 84) hx hb dX12_as_76 (by decide) ?_
        exact hret _ _ _ _ _ _ dX12_as_84 rfl hX hS (by subst ez_9 ex_6; simp only [f_X12_as, if_neg c_1, if_neg c_4, if_pos c_7])
      · have b_10 : wx_b a2 1 5 := wb_nel c_7 b_5 (by decide)
        refine lv_iload_n hx hb dX12_as_34 rfl (lv_at hl 3 rfl) ?_
        refine lv_iload_n hx hb dX12_as_35 rfl (lv_at hl 0 rfl) ?_
        refine lv_icmp_eq (tgt := 59) hx hb dX12_as_36 (by decide) (fun c_11 => ?_) (fun c_11 => ?_)
        · refine lv_iconst (v := 1) hx hb dX12_as_59 (by decide) ?_
          refine lv_goto (tgt := 64) hx hb dX12_as_60 (by decide) ?_
          refine lv_istore (lv' := [(4, .int 1), (3, .int x_6), (0, .ref (ad 57)), (1, .int a1), (2, .int a2)]) hx hb dX12_as_64 hl (by decide) rfl (fun ls hl => ?_)
          refine lv_iload hx hb dX12_as_66 (lv_at hl 0 rfl) ?_
          refine lv_if_eq (tgt := 79) hx hb dX12_as_68 (by decide) (fun c9 => absurd c9 (by decide)) (fun _ => ?_)
          refine lv_aload_n hx hb dX12_as_71 rfl (lv_at hl 2 rfl) ?_
          refine lv_iload_n hx hb dX12_as_72 rfl (lv_at hl 3 rfl) ?_
          refine wx_callei (va_runV (As := [.int a1]) (rest := []) ⟨hx, hb, hml, hown, hts⟩ (k_X12_did l g a1) (cwV 1 hts gX12_as_X12_did rfl rfl rfl (by decide +kernel) (by rw [hR]; exact ⟨Nat.le_of_ble_eq_true rfl, Nat.le_of_ble_eq_true rfl⟩)) ⟨wx_Pc.blind, wx_recv hK hX (by decide) sh_X12 rfl, (wx_Pc.pre hK hX).2⟩ rfl rfl hl.1 rfl (lv_room (Nat.le_of_ble_eq_true rfl)) dX12_as_73 ⟨Nat.zero_le _, Nat.zero_le _⟩) hS (fun H locs hX hS => ?_)
          obtain ⟨z_12, ez_12⟩ : ∃ z, z = f_X12_did g a1 := ⟨_, rfl⟩
          rw [← ez_12] at hX; rw [← ez_12]
          refine lv_goto (tgt := 84) hx hb dX12_as_76 (by decide) ?_
          exact hret _ _ _ _ _ _ dX12_as_84 rfl hX hS (by subst ez_12 ex_6; simp only [f_X12_as, if_neg c_1, if_neg c_4, if_neg c_7, if_pos c_11])
        · refine lv_iload_n hx hb dX12_as_39 rfl (lv_at hl 3 rfl) ?_
          refine lv_iconst (v := 1) hx hb dX12_as_40 (by decide) ?_
          refine lv_icmp_ne (tgt := 49) hx hb dX12_as_41 (by decide) (fun c_13 => ?_) (fun c_13 => ?_)
          · have b_14 : wx_b a2 2 5 := wb_nel c_13 b_10 (by decide)
            refine lv_iload_n hx hb dX12_as_49 rfl (lv_at hl 3 rfl) ?_
            refine lv_iconst (v := 4) hx hb dX12_as_50 (by decide) ?_
            refine lv_icmp_ne (tgt := 63) hx hb dX12_as_51 (by decide) (fun c_15 => ?_) (fun c_15 => ?_)
            · refine lv_iconst (v := 0) hx hb dX12_as_63 (by decide) ?_
              refine lv_istore (lv' := [(4, .int 0), (3, .int x_6), (0, .ref (ad 57)), (1, .int a1), (2, .int a2)]) hx hb dX12_as_64 hl (by decide) rfl (fun ls hl => ?_)
              refine lv_iload hx hb dX12_as_66 (lv_at hl 0 rfl) ?_
              refine lv_if_eq (tgt := 79) hx hb dX12_as_68 (by decide) (fun _ => ?_) (fun c9 => absurd c9 (by decide))
              refine lv_aload_n hx hb dX12_as_79 rfl (lv_at hl 2 rfl) ?_
              refine lv_iconst (v := 3) hx hb dX12_as_80 (by decide) ?_
              refine wx_callei (va_runV (As := [.int 3]) (rest := []) ⟨hx, hb, hml, hown, hts⟩ (k_X12_finds l g 3) (cwV 1 hts gX12_as_X12_finds rfl rfl rfl (by decide +kernel) (by rw [hR]; exact ⟨Nat.le_of_ble_eq_true rfl, Nat.le_of_ble_eq_true rfl⟩)) ⟨wx_Pc.blind, wx_recv hK hX (by decide) sh_X12 rfl, (wx_Pc.pre hK hX).2⟩ rfl rfl hl.1 rfl (lv_room (Nat.le_of_ble_eq_true rfl)) dX12_as_81 ⟨Nat.zero_le _, Nat.zero_le _⟩) hS (fun H locs hX hS => ?_)
              obtain ⟨z_16, ez_16⟩ : ∃ z, z = f_X12_finds g 3 := ⟨_, rfl⟩
              rw [← ez_16] at hX; rw [← ez_16]
              exact hret _ _ _ _ _ _ dX12_as_84 rfl hX hS (by subst ez_16 ex_6; simp only [f_X12_as, if_neg c_1, if_neg c_4, if_neg c_7, if_neg c_11, if_neg c_13, if_neg c_15])
            · have b_17 : wx_b a2 4 4 := by rw [c_15]; exact ⟨by decide, by decide⟩
              refine lv_iload_n hx hb dX12_as_54 rfl (lv_at hl 0 rfl) ?_
              refine lv_iconst (v := 5) hx hb dX12_as_55 (by decide) ?_
              refine lv_icmp_ne (tgt := 63) hx hb dX12_as_56 (by decide) (fun c_18 => ?_) (fun c_18 => ?_)
              · refine lv_iconst (v := 0) hx hb dX12_as_63 (by decide) ?_
                refine lv_istore (lv' := [(4, .int 0), (3, .int x_6), (0, .ref (ad 57)), (1, .int a1), (2, .int a2)]) hx hb dX12_as_64 hl (by decide) rfl (fun ls hl => ?_)
                refine lv_iload hx hb dX12_as_66 (lv_at hl 0 rfl) ?_
                refine lv_if_eq (tgt := 79) hx hb dX12_as_68 (by decide) (fun _ => ?_) (fun c9 => absurd c9 (by decide))
                refine lv_aload_n hx hb dX12_as_79 rfl (lv_at hl 2 rfl) ?_
                refine lv_iconst (v := 3) hx hb dX12_as_80 (by decide) ?_
                refine wx_callei (va_runV (As := [.int 3]) (rest := []) ⟨hx, hb, hml, hown, hts⟩ (k_X12_finds l g 3) (cwV 1 hts gX12_as_X12_finds rfl rfl rfl (by decide +kernel) (by rw [hR]; exact ⟨Nat.le_of_ble_eq_true rfl, Nat.le_of_ble_eq_true rfl⟩)) ⟨wx_Pc.blind, wx_recv hK hX (by decide) sh_X12 rfl, (wx_Pc.pre hK hX).2⟩ rfl rfl hl.1 rfl (lv_room (Nat.le_of_ble_eq_true rfl)) dX12_as_81 ⟨Nat.zero_le _, Nat.zero_le _⟩) hS (fun H locs hX hS => ?_)
                obtain ⟨z_19, ez_19⟩ : ∃ z, z = f_X12_finds g 3 := ⟨_, rfl⟩
                rw [← ez_19] at hX; rw [← ez_19]
                exact hret _ _ _ _ _ _ dX12_as_84 rfl hX hS (by subst ez_19 ex_6; simp only [f_X12_as, if_neg c_1, if_neg c_4, if_neg c_7, if_neg c_11, if_neg c_13, if_pos c_15, if_neg c_18])
              · have b_20 : wx_b x_6 5 5 := by rw [c_18]; exact ⟨by decide, by decide⟩
                refine lv_iconst (v := 1) hx hb dX12_as_59 (by decide) ?_
                refine lv_goto (tgt := 64) hx hb dX12_as_60 (by decide) ?_
                refine lv_istore (lv' := [(4, .int 1), (3, .int x_6), (0, .ref (ad 57)), (1, .int a1), (2, .int a2)]) hx hb dX12_as_64 hl (by decide) rfl (fun ls hl => ?_)
                refine lv_iload hx hb dX12_as_66 (lv_at hl 0 rfl) ?_
                refine lv_if_eq (tgt := 79) hx hb dX12_as_68 (by decide) (fun c9 => absurd c9 (by decide)) (fun _ => ?_)
                refine lv_aload_n hx hb dX12_as_71 rfl (lv_at hl 2 rfl) ?_
                refine lv_iload_n hx hb dX12_as_72 rfl (lv_at hl 3 rfl) ?_
                refine wx_callei (va_runV (As := [.int a1]) (rest := []) ⟨hx, hb, hml, hown, hts⟩ (k_X12_did l g a1) (cwV 1 hts gX12_as_X12_did rfl rfl rfl (by decide +kernel) (by rw [hR]; exact ⟨Nat.le_of_ble_eq_true rfl, Nat.le_of_ble_eq_true rfl⟩)) ⟨wx_Pc.blind, wx_recv hK hX (by decide) sh_X12 rfl, (wx_Pc.pre hK hX).2⟩ rfl rfl hl.1 rfl (lv_room (Nat.le_of_ble_eq_true rfl)) dX12_as_73 ⟨Nat.zero_le _, Nat.zero_le _⟩) hS (fun H locs hX hS => ?_)
                obtain ⟨z_21, ez_21⟩ : ∃ z, z = f_X12_did g a1 := ⟨_, rfl⟩
                rw [← ez_21] at hX; rw [← ez_21]
                refine lv_goto (tgt := 84) hx hb dX12_as_76 (by decide) ?_
                exact hret _ _ _ _ _ _ dX12_as_84 rfl hX hS (by subst ez_21 ex_6; simp only [f_X12_as, if_neg c_1, if_neg c_4, if_neg c_7, if_neg c_11, if_neg c_13, if_pos c_15, if_pos c_18])
          · have b_22 : wx_b a2 1 1 := by rw [c_13]; exact ⟨by decide, by decide⟩
            refine lv_iload_n hx hb dX12_as_44 rfl (lv_at hl 0 rfl) ?_
            refine lv_iconst (v := 4) hx hb dX12_as_45 (by decide) ?_
            refine lv_icmp_lt (tgt := 59) hx hb dX12_as_46 (by decide) (fun c_23 => ?_) (fun c_23 => ?_)
            · have b_24 : wx_b x_6 (-2147483648) 3 := wb_lt c_23 (wb_any _) (show wx_b 4 4 4 from ⟨by decide, by decide⟩) (by decide) (by decide)
              refine lv_iconst (v := 1) hx hb dX12_as_59 (by decide) ?_
              refine lv_goto (tgt := 64) hx hb dX12_as_60 (by decide) ?_
              refine lv_istore (lv' := [(4, .int 1), (3, .int x_6), (0, .ref (ad 57)), (1, .int a1), (2, .int a2)]) hx hb dX12_as_64 hl (by decide) rfl (fun ls hl => ?_)
              refine lv_iload hx hb dX12_as_66 (lv_at hl 0 rfl) ?_
              refine lv_if_eq (tgt := 79) hx hb dX12_as_68 (by decide) (fun c9 => absurd c9 (by decide)) (fun _ => ?_)
              refine lv_aload_n hx hb dX12_as_71 rfl (lv_at hl 2 rfl) ?_
              refine lv_iload_n hx hb dX12_as_72 rfl (lv_at hl 3 rfl) ?_
              refine wx_callei (va_runV (As := [.int a1]) (rest := []) ⟨hx, hb, hml, hown, hts⟩ (k_X12_did l g a1) (cwV 1 hts gX12_as_X12_did rfl rfl rfl (by decide +kernel) (by rw [hR]; exact ⟨Nat.le_of_ble_eq_true rfl, Nat.le_of_ble_eq_true rfl⟩)) ⟨wx_Pc.blind, wx_recv hK hX (by decide) sh_X12 rfl, (wx_Pc.pre hK hX).2⟩ rfl rfl hl.1 rfl (lv_room (Nat.le_of_ble_eq_true rfl)) dX12_as_73 ⟨Nat.zero_le _, Nat.zero_le _⟩) hS (fun H locs hX hS => ?_)
              obtain ⟨z_25, ez_25⟩ : ∃ z, z = f_X12_did g a1 := ⟨_, rfl⟩
              rw [← ez_25] at hX; rw [← ez_25]
              refine lv_goto (tgt := 84) hx hb dX12_as_76 (by decide) ?_
              exact hret _ _ _ _ _ _ dX12_as_84 rfl hX hS (by subst ez_25 ex_6; simp only [f_X12_as, if_neg c_1, if_neg c_4, if_neg c_7, if_neg c_11, if_pos c_13, if_pos c_23])
            · have b_26 : wx_b x_6 4 2147483647 := wb_ge (wb_nlt c_23) (wb_any _) (show wx_b 4 4 4 from ⟨by decide, by decide⟩) (by decide) (by decide)
              refine lv_iload_n hx hb dX12_as_49 rfl (lv_at hl 3 rfl) ?_
              refine lv_iconst (v := 4) hx hb dX12_as_50 (by decide) ?_
              refine lv_icmp_ne (tgt := 63) hx hb dX12_as_51 (by decide) (fun c_27 => ?_) (fun c_27 => ?_)
              · refine lv_iconst (v := 0) hx hb dX12_as_63 (by decide) ?_
                refine lv_istore (lv' := [(4, .int 0), (3, .int x_6), (0, .ref (ad 57)), (1, .int a1), (2, .int a2)]) hx hb dX12_as_64 hl (by decide) rfl (fun ls hl => ?_)
                refine lv_iload hx hb dX12_as_66 (lv_at hl 0 rfl) ?_
                refine lv_if_eq (tgt := 79) hx hb dX12_as_68 (by decide) (fun _ => ?_) (fun c9 => absurd c9 (by decide))
                refine lv_aload_n hx hb dX12_as_79 rfl (lv_at hl 2 rfl) ?_
                refine lv_iconst (v := 3) hx hb dX12_as_80 (by decide) ?_
                refine wx_callei (va_runV (As := [.int 3]) (rest := []) ⟨hx, hb, hml, hown, hts⟩ (k_X12_finds l g 3) (cwV 1 hts gX12_as_X12_finds rfl rfl rfl (by decide +kernel) (by rw [hR]; exact ⟨Nat.le_of_ble_eq_true rfl, Nat.le_of_ble_eq_true rfl⟩)) ⟨wx_Pc.blind, wx_recv hK hX (by decide) sh_X12 rfl, (wx_Pc.pre hK hX).2⟩ rfl rfl hl.1 rfl (lv_room (Nat.le_of_ble_eq_true rfl)) dX12_as_81 ⟨Nat.zero_le _, Nat.zero_le _⟩) hS (fun H locs hX hS => ?_)
                obtain ⟨z_28, ez_28⟩ : ∃ z, z = f_X12_finds g 3 := ⟨_, rfl⟩
                rw [← ez_28] at hX; rw [← ez_28]
                exact hret _ _ _ _ _ _ dX12_as_84 rfl hX hS (by subst ez_28 ex_6; simp only [f_X12_as, if_neg c_1, if_neg c_4, if_neg c_7, if_neg c_11, if_pos c_13, if_neg c_23, if_neg c_27])
              · have b_29 : wx_b a2 4 4 := by rw [c_27]; exact ⟨by decide, by decide⟩
                refine lv_iload_n hx hb dX12_as_54 rfl (lv_at hl 0 rfl) ?_
                refine lv_iconst (v := 5) hx hb dX12_as_55 (by decide) ?_
                refine lv_icmp_ne (tgt := 63) hx hb dX12_as_56 (by decide) (fun c_30 => ?_) (fun c_30 => ?_)
                · refine lv_iconst (v := 0) hx hb dX12_as_63 (by decide) ?_
                  refine lv_istore (lv' := [(4, .int 0), (3, .int x_6), (0, .ref (ad 57)), (1, .int a1), (2, .int a2)]) hx hb dX12_as_64 hl (by decide) rfl (fun ls hl => ?_)
                  refine lv_iload hx hb dX12_as_66 (lv_at hl 0 rfl) ?_
                  refine lv_if_eq (tgt := 79) hx hb dX12_as_68 (by decide) (fun _ => ?_) (fun c9 => absurd c9 (by decide))
                  refine lv_aload_n hx hb dX12_as_79 rfl (lv_at hl 2 rfl) ?_
                  refine lv_iconst (v := 3) hx hb dX12_as_80 (by decide) ?_
                  refine wx_callei (va_runV (As := [.int 3]) (rest := []) ⟨hx, hb, hml, hown, hts⟩ (k_X12_finds l g 3) (cwV 1 hts gX12_as_X12_finds rfl rfl rfl (by decide +kernel) (by rw [hR]; exact ⟨Nat.le_of_ble_eq_true rfl, Nat.le_of_ble_eq_true rfl⟩)) ⟨wx_Pc.blind, wx_recv hK hX (by decide) sh_X12 rfl, (wx_Pc.pre hK hX).2⟩ rfl rfl hl.1 rfl (lv_room (Nat.le_of_ble_eq_true rfl)) dX12_as_81 ⟨Nat.zero_le _, Nat.zero_le _⟩) hS (fun H locs hX hS => ?_)
                  obtain ⟨z_31, ez_31⟩ : ∃ z, z = f_X12_finds g 3 := ⟨_, rfl⟩
                  rw [← ez_31] at hX; rw [← ez_31]
                  exact hret _ _ _ _ _ _ dX12_as_84 rfl hX hS (by subst ez_31 ex_6; simp only [f_X12_as, if_neg c_1, if_neg c_4, if_neg c_7, if_neg c_11, if_pos c_13, if_neg c_23, if_pos c_27, if_neg c_30])
                · have b_32 : wx_b x_6 5 5 := by rw [c_30]; exact ⟨by decide, by decide⟩
                  refine lv_iconst (v := 1) hx hb dX12_as_59 (by decide) ?_
                  refine lv_goto (tgt := 64) hx hb dX12_as_60 (by decide) ?_
                  refine lv_istore (lv' := [(4, .int 1), (3, .int x_6), (0, .ref (ad 57)), (1, .int a1), (2, .int a2)]) hx hb dX12_as_64 hl (by decide) rfl (fun ls hl => ?_)
                  refine lv_iload hx hb dX12_as_66 (lv_at hl 0 rfl) ?_
                  refine lv_if_eq (tgt := 79) hx hb dX12_as_68 (by decide) (fun c9 => absurd c9 (by decide)) (fun _ => ?_)
                  refine lv_aload_n hx hb dX12_as_71 rfl (lv_at hl 2 rfl) ?_
                  refine lv_iload_n hx hb dX12_as_72 rfl (lv_at hl 3 rfl) ?_
                  refine wx_callei (va_runV (As := [.int a1]) (rest := []) ⟨hx, hb, hml, hown, hts⟩ (k_X12_did l g a1) (cwV 1 hts gX12_as_X12_did rfl rfl rfl (by decide +kernel) (by rw [hR]; exact ⟨Nat.le_of_ble_eq_true rfl, Nat.le_of_ble_eq_true rfl⟩)) ⟨wx_Pc.blind, wx_recv hK hX (by decide) sh_X12 rfl, (wx_Pc.pre hK hX).2⟩ rfl rfl hl.1 rfl (lv_room (Nat.le_of_ble_eq_true rfl)) dX12_as_73 ⟨Nat.zero_le _, Nat.zero_le _⟩) hS (fun H locs hX hS => ?_)
                  obtain ⟨z_33, ez_33⟩ : ∃ z, z = f_X12_did g a1 := ⟨_, rfl⟩
                  rw [← ez_33] at hX; rw [← ez_33]
                  refine lv_goto (tgt := 84) hx hb dX12_as_76 (by decide) ?_
                  exact hret _ _ _ _ _ _ dX12_as_84 rfl hX hS (by subst ez_33 ex_6; simp only [f_X12_as, if_neg c_1, if_neg c_4, if_neg c_7, if_neg c_11, if_pos c_13, if_neg c_23, if_pos c_27, if_pos c_30])
    · have b_34 : wx_b (r_X12_in a2 0 5) 0 0 := by rw [c_4]; exact ⟨by decide, by decide⟩
      refine lv_ldc hx hb hown (hts (.constant RX12 60 (-1000001)) (by decide +kernel)) dX12_as_17 ?_
      exact hret _ _ _ _ _ _ dX12_as_19 rfl hX hS (by simp only [f_X12_as, if_neg c_1, if_pos c_4])
def e_X12_leave (g : wx_M) (a1 : Int32) : wx_M :=
  if 16 ≤ (g 57 25) then
    g
  else
    let g_4 := up2 g 69 (g 57 25).toNatClampNeg a1
    let x_5 := ((g_4 57 25) + 1)
    let g_6 := up2 g_4 57 25 x_5
    g_6
set_option maxHeartbeats 4000000 in
set_option maxRecDepth 100000 in
theorem k_X12_leave (l : Launch) {D : va_G} {cy : Nat → ClassId} {ad : Nat → Nat} {B0 : Nat} {f : wx_F} {P : va_W} (g : wx_M) (a1 : Int32) (htr : wx_b (g 57 25) 0 16) : Met l yX12_leave wsX12_leave ({ frames := 0, cells := 0, slots := 0, locals := 0 } : Room) (wx_Pc D cy ad B0 f P g [.ref (ad 57), .int a1]) (wx_Qe D cy ad B0 f P (e_X12_leave g a1) none) 0 0 (fun q => B0 ≤ q) := by
  refine wx_enterV (cc := cX12_leave) (maxL := 2) (own := RX12) (lv := [(0, .ref (ad 57)), (1, .int a1)]) (by decide) rfl rfl (Nat.le_of_ble_eq_true rfl) rfl ?_
  intro p e R s m args below meth c ls Qm hx hb hml hown hts hK hX hS hR hret hl
  have hi_X12 : ∀ w ∈ wsX120, w ∈ wsX12_leave := by decide +kernel
  refine lv_aload_n hx hb dX12_leave_0 rfl (lv_at hl 0 rfl) ?_
  refine wx_geti (C := RX12) (T := TX12) (N := 27) (ci := 11) (j := 25) hx hb hts hi_X12 hown hK hX (by decide) sh_X12_25 rfl (by decide) (hts (.fieldLink RX12 224 "SeenAgainModel" "traces" "I") (by decide +kernel)) (fun _ h9 => h9) dX12_leave_1 ?_
  refine lv_bipush (v := 16) hx hb dX12_leave_4 (by decide) ?_
  refine lv_icmp_ge (tgt := 29) hx hb dX12_leave_6 (by decide) (fun c_1 => ?_) (fun c_1 => ?_)
  · have b_2 : wx_b (g 57 25) 16 16 := wb_ge c_1 htr (show wx_b 16 16 16 from ⟨by decide, by decide⟩) (by decide) (by decide)
    exact hret _ _ _ _ _ dX12_leave_29 hX hS (by simp only [e_X12_leave, if_pos c_1])
  · have b_3 : wx_b (g 57 25) 0 15 := wb_lt (wb_nle c_1) htr (show wx_b 16 16 16 from ⟨by decide, by decide⟩) (by decide) (by decide)
    refine lv_aload_n hx hb dX12_leave_9 rfl (lv_at hl 0 rfl) ?_
    refine wx_getr (t := 69) (C := RX12) (T := TX12) (N := 27) (ci := 11) (j := 26) hx hb hts hi_X12 hown hK hX (by decide) sh_X12_26 rfl (by decide) (hts (.fieldLink RX12 44 "SeenAgainModel" "trace" "[I") (by decide +kernel)) (fun _ h9 => h9) dX12_leave_10 ?_
    refine lv_aload_n hx hb dX12_leave_13 rfl (lv_at hl 0 rfl) ?_
    refine wx_geti (C := RX12) (T := TX12) (N := 27) (ci := 11) (j := 25) hx hb hts hi_X12 hown hK hX (by decide) sh_X12_25 rfl (by decide) (hts (.fieldLink RX12 224 "SeenAgainModel" "traces" "I") (by decide +kernel)) (fun _ h9 => h9) dX12_leave_14 ?_
    refine lv_iload_n hx hb dX12_leave_17 rfl (lv_at hl 1 rfl) ?_
    refine wx_iast hx hb hK hX hS (by decide) sa_69 (wb_in b_3 (by decide) (by decide)) dX12_leave_18 (fun H locs hX hS => ?_)
    obtain ⟨g_4, eg_4, hX⟩ := wx_nm hX
    refine lv_aload_n hx hb dX12_leave_19 rfl (lv_at hl 0 rfl) ?_
    refine lv_dup hx hb dX12_leave_20 rfl ?_
    refine wx_geti (C := RX12) (T := TX12) (N := 27) (ci := 11) (j := 25) hx hb hts hi_X12 hown hK hX (by decide) sh_X12_25 rfl (by decide) (hts (.fieldLink RX12 224 "SeenAgainModel" "traces" "I") (by decide +kernel)) (fun _ h9 => h9) dX12_leave_21 ?_
    refine lv_iconst (v := 1) hx hb dX12_leave_24 (by decide) ?_
    refine lv_iadd hx hb dX12_leave_25 ?_
    refine lv_topi (fun x_5 ex_5 => ?_)
    have bx_5 : wx_b x_5 1 16 := by rw [ex_5]; exact (wb_add (show wx_b (g_4 57 25) 0 15 by rw [show (g_4 57 25) = (g 57 25) from (by rw [eg_4, up2_n (by decide)])]; exact b_3) (show wx_b 1 1 1 from ⟨by decide, by decide⟩) (by decide) (by decide))
    refine wx_puti (C := RX12) (T := TX12) (N := 27) (ci := 11) (j := 25) (ty := .int) hx hb hts hi_X12 tyX12 tyX12_ok nmX12 hown hK hX hS (by decide) sh_X12_25 rfl (by decide) (hts (.fieldLink RX12 224 "SeenAgainModel" "traces" "I") (by decide +kernel)) (fun _ h9 => h9) rfl (by decide +kernel) rfl rfl dX12_leave_26 (fun H locs hX hS => ?_)
    obtain ⟨g_6, eg_6, hX⟩ := wx_nm hX
    exact hret _ _ _ _ _ dX12_leave_29 hX hS (by subst eg_6 ex_5 eg_4; simp only [e_X12_leave, if_neg c_1])
theorem tb_X12_leave {g : wx_M} {a1 : Int32} (h : wx_b (g 57 25) 0 16) : wx_b (e_X12_leave g a1 57 25) 0 16 := by
  simp only [e_X12_leave]
  split
  · exact h
  · rename_i c
    rw [up2_ss, up2_n (by decide)]
    have h1 := wb_lt (wb_nle c) h (show wx_b 16 16 16 from ⟨by decide, by decide⟩) (a1 := 0) (b1 := 15) (by decide) (by decide)
    exact wb_w (wb_add h1 (show wx_b 1 1 1 from ⟨by decide, by decide⟩) (by decide) (by decide)) (by decide) (by decide)

def r_X12_trace (g : wx_M) (a1 : Int32) : Int32 :=
  if (r_X12_in a1 0 ((g 57 25) - 1)) = 0 then
    (-1000000)
  else
    (g 69 a1.toNatClampNeg)
set_option maxHeartbeats 4000000 in
set_option maxRecDepth 100000 in
theorem k_X12_trace (l : Launch) {D : va_G} {cy : Nat → ClassId} {ad : Nat → Nat} {B0 : Nat} {f : wx_F} {P : va_W} (g : wx_M) (a1 : Int32) (htr : wx_b (g 57 25) 0 16) : Met l yX12_trace wsX12_trace ({ frames := 1, cells := 0, slots := 0, locals := 22 } : Room) (wx_Pc D cy ad B0 f P g [.ref (ad 57), .int a1]) (QcRead (r_X12_trace g a1)) 0 0 (fun _ => False) := by
  refine wx_enterR (cc := cX12_trace) (maxL := 2) (ty := .int) (own := RX12) (lv := [(0, .ref (ad 57)), (1, .int a1)]) (by decide) rfl rfl (Nat.le_of_ble_eq_true rfl) rfl ?_
  intro p e R s m args below meth c ls Qm hx hb hml hown hts hK hX hR hret hl
  have hi_X12 : ∀ w ∈ wsX120, w ∈ wsX12_trace := by decide +kernel
  refine lv_iload_n hx hb dX12_trace_0 rfl (lv_at hl 1 rfl) ?_
  refine lv_iconst (v := 0) hx hb dX12_trace_1 (by decide) ?_
  refine lv_aload_n hx hb dX12_trace_2 rfl (lv_at hl 0 rfl) ?_
  refine wx_geti (C := RX12) (T := TX12) (N := 27) (ci := 11) (j := 25) hx hb hts hi_X12 hown hK hX (by decide) sh_X12_25 rfl (by decide) (hts (.fieldLink RX12 224 "SeenAgainModel" "traces" "I") (by decide +kernel)) (fun _ h9 => h9) dX12_trace_3 ?_
  refine lv_iconst (v := 1) hx hb dX12_trace_6 (by decide) ?_
  refine lv_isub hx hb dX12_trace_7 ?_
  refine wx_callr (va_runS (As := [.int a1, .int 0, .int ((g 57 25) - 1)]) (rest := []) ⟨hx, hb, hml, hown, hts⟩ (k_X12_in l g a1 0 ((g 57 25) - 1)) (va_cwS 3 hts gX12_trace_X12_in rfl rfl rfl (by decide +kernel) (by rw [hR]; exact ⟨Nat.le_of_ble_eq_true rfl, Nat.le_of_ble_eq_true rfl⟩)) (wx_Pc.pre hK hX) rfl rfl hl.1 rfl (lv_room (Nat.le_of_ble_eq_true rfl)) dX12_trace_8 ⟨Nat.zero_le _, Nat.zero_le _⟩) ?_
  refine lv_if_eq (tgt := 23) hx hb dX12_trace_11 (by decide) (fun c_1 => ?_) (fun c_1 => ?_)
  · have b_2 : wx_b (r_X12_in a1 0 ((g 57 25) - 1)) 0 0 := by rw [c_1]; exact ⟨by decide, by decide⟩
    refine lv_ldc hx hb hown (hts (.constant RX12 201 (-1000000)) (by decide +kernel)) dX12_trace_23 ?_
    exact hret _ _ _ dX12_trace_25 rfl (by simp only [r_X12_trace, if_pos c_1])
  · have b_3 : wx_b a1 0 15 := rf_X12_in (show wx_b 0 0 0 from ⟨by decide, by decide⟩) (wb_sub htr (show wx_b 1 1 1 from ⟨by decide, by decide⟩) (by decide) (by decide)) c_1
    refine lv_aload_n hx hb dX12_trace_14 rfl (lv_at hl 0 rfl) ?_
    refine wx_getr (t := 69) (C := RX12) (T := TX12) (N := 27) (ci := 11) (j := 26) hx hb hts hi_X12 hown hK hX (by decide) sh_X12_26 rfl (by decide) (hts (.fieldLink RX12 44 "SeenAgainModel" "trace" "[I") (by decide +kernel)) (fun _ h9 => h9) dX12_trace_15 ?_
    refine lv_iload_n hx hb dX12_trace_18 rfl (lv_at hl 1 rfl) ?_
    refine wx_iald hx hb hK hX (by decide) sa_69 (wb_in b_3 (by decide) (by decide)) dX12_trace_19 ?_
    refine lv_goto (tgt := 25) hx hb dX12_trace_20 (by decide) ?_
    exact hret _ _ _ dX12_trace_25 rfl (by simp only [r_X12_trace, if_neg c_1])
def f_X12_tourMark (g : wx_M) (a1 : Int32) : wx_M × Int32 :=
  let x_1 := (g 65 (43 + a1).toNatClampNeg)
  if x_1 ≤ 1 then
    let g_4 := e_X12_leave g 21
    let g_6 := e_X12_leave g_4 20
    let x_8 := (a1 + (r_X12_heldBy g_6 a1))
    if x_1 = 2 then
      let x_14 := (2 * x_8)
      (g_6, x_14)
    else
      if x_1 = 3 then
        let x_12 := (x_8 - 1000)
        (g_6, x_12)
      else
        (g_6, x_8)
  else
    if x_1 = 2 then
      let g_30 := e_X12_leave g 24
      let g_32 := e_X12_leave g_30 21
      let g_34 := e_X12_leave g_32 20
      let x_36 := (a1 + (r_X12_heldBy g_34 a1))
      let x_37 := (2 * x_36)
      let x_37 := (2 * x_36)
      (g_34, x_37)
    else
      let g_18 := e_X12_leave g 22
      let g_20 := e_X12_leave g_18 21
      let g_22 := e_X12_leave g_20 20
      let x_24 := (a1 + (r_X12_heldBy g_22 a1))
      if x_1 = 3 then
        let x_28 := (x_24 - 1000)
        (g_22, x_28)
      else
        (g_22, x_24)
set_option maxHeartbeats 4000000 in
set_option maxRecDepth 100000 in
theorem k_X12_tourMark (l : Launch) {D : va_G} {cy : Nat → ClassId} {ad : Nat → Nat} {B0 : Nat} {f : wx_F} {P : va_W} (g : wx_M) (a1 : Int32) (b1 : wx_b a1 0 3) (htr : wx_b (g 57 25) 0 16) : Met l yX12_tourMark wsX12_tourMark ({ frames := 1, cells := 0, slots := 0, locals := 23 } : Room) (wx_Pc D cy ad B0 f P g [.ref (ad 57), .int a1]) (wx_Qe D cy ad B0 f P (f_X12_tourMark g a1).1 (some (.int (f_X12_tourMark g a1).2))) 0 0 (fun q => B0 ≤ q) := by
  refine wx_enterE (cc := cX12_tourMark) (maxL := 4) (ty := .int) (own := RX12) (lv := [(0, .ref (ad 57)), (1, .int a1)]) (by decide) rfl rfl (Nat.le_of_ble_eq_true rfl) rfl ?_
  intro p e R s m args below meth c ls Qm hx hb hml hown hts hK hX hS hR hret hl
  have hi_X12 : ∀ w ∈ wsX120, w ∈ wsX12_tourMark := by decide +kernel
  refine lv_aload_n hx hb dX12_tourMark_0 rfl (lv_at hl 0 rfl) ?_
  refine wx_getr (t := 65) (C := RX12) (T := TX12) (N := 27) (ci := 11) (j := 20) hx hb hts hi_X12 hown hK hX (by decide) sh_X12_20 rfl (by decide) (hts (.fieldLink RX12 31 "SeenAgainModel" "now" "[I") (by decide +kernel)) (fun _ h9 => h9) dX12_tourMark_1 ?_
  refine lv_bipush (v := 43) hx hb dX12_tourMark_4 (by decide) ?_
  refine lv_iload_n hx hb dX12_tourMark_6 rfl (lv_at hl 1 rfl) ?_
  refine lv_iadd hx hb dX12_tourMark_7 ?_
  refine wx_iald hx hb hK hX (by decide) sa_65 (wb_in (wb_add (show wx_b 43 43 43 from ⟨by decide, by decide⟩) b1 (by decide) (by decide)) (by decide) (by decide)) dX12_tourMark_8 ?_
  refine lv_topi (fun x_1 ex_1 => ?_)
  refine lv_istore_n (lv' := [(2, .int x_1), (0, .ref (ad 57)), (1, .int a1)]) hx hb dX12_tourMark_9 rfl hl (by decide) rfl (fun ls hl => ?_)
  refine lv_iload_n hx hb dX12_tourMark_10 rfl (lv_at hl 0 rfl) ?_
  refine lv_iconst (v := 1) hx hb dX12_tourMark_11 (by decide) ?_
  refine lv_icmp_le (tgt := 31) hx hb dX12_tourMark_12 (by decide) (fun c_2 => ?_) (fun c_2 => ?_)
  · have b_3 : wx_b x_1 (-2147483648) 1 := wb_le c_2 (wb_any _) (show wx_b 1 1 1 from ⟨by decide, by decide⟩) (by decide) (by decide)
    refine lv_aload_n hx hb dX12_tourMark_31 rfl (lv_at hl 1 rfl) ?_
    refine lv_bipush (v := 21) hx hb dX12_tourMark_32 (by decide) ?_
    refine wx_callev (va_runV (As := [.int 21]) (rest := []) ⟨hx, hb, hml, hown, hts⟩ (k_X12_leave l g 21 htr) (cwV 1 hts gX12_tourMark_X12_leave rfl rfl rfl (by decide +kernel) (by rw [hR]; exact ⟨Nat.le_of_ble_eq_true rfl, Nat.le_of_ble_eq_true rfl⟩)) ⟨wx_Pc.blind, wx_recv hK hX (by decide) sh_X12 rfl, (wx_Pc.pre hK hX).2⟩ rfl rfl hl.1 rfl (lv_room (Nat.le_of_ble_eq_true rfl)) dX12_tourMark_34 ⟨Nat.zero_le _, Nat.zero_le _⟩) hS (fun H locs hX hS => ?_)
    obtain ⟨g_4, eg_4, hX⟩ := wx_nm hX
    have bt_5 : wx_b (g_4 57 25) 0 16 := by rw [eg_4]; exact tb_X12_leave htr
    refine lv_aload_n hx hb dX12_tourMark_37 rfl (lv_at hl 1 rfl) ?_
    refine lv_bipush (v := 20) hx hb dX12_tourMark_38 (by decide) ?_
    refine wx_callev (va_runV (As := [.int 20]) (rest := []) ⟨hx, hb, hml, hown, hts⟩ (k_X12_leave l g_4 20 (wb_w bt_5 (by decide) (by decide))) (cwV 1 hts gX12_tourMark_X12_leave rfl rfl rfl (by decide +kernel) (by rw [hR]; exact ⟨Nat.le_of_ble_eq_true rfl, Nat.le_of_ble_eq_true rfl⟩)) ⟨wx_Pc.blind, wx_recv hK hX (by decide) sh_X12 rfl, (wx_Pc.pre hK hX).2⟩ rfl rfl hl.1 rfl (lv_room (Nat.le_of_ble_eq_true rfl)) dX12_tourMark_40 ⟨Nat.zero_le _, Nat.zero_le _⟩) hS (fun H locs hX hS => ?_)
    obtain ⟨g_6, eg_6, hX⟩ := wx_nm hX
    have bt_7 : wx_b (g_6 57 25) 0 16 := by rw [eg_6]; exact tb_X12_leave bt_5
    refine lv_iload_n hx hb dX12_tourMark_43 rfl (lv_at hl 2 rfl) ?_
    refine lv_aload_n hx hb dX12_tourMark_44 rfl (lv_at hl 1 rfl) ?_
    refine lv_iload_n hx hb dX12_tourMark_45 rfl (lv_at hl 2 rfl) ?_
    refine wx_callr (va_runV (As := [.int a1]) (rest := [.int a1]) ⟨hx, hb, hml, hown, hts⟩ (k_X12_heldBy l g_6 a1) (cwV 1 hts gX12_tourMark_X12_heldBy rfl rfl rfl (by decide +kernel) (by rw [hR]; exact ⟨Nat.le_of_ble_eq_true rfl, Nat.le_of_ble_eq_true rfl⟩)) ⟨wx_Pc.blind, wx_recv hK hX (by decide) sh_X12 rfl, (wx_Pc.pre hK hX).2⟩ rfl rfl hl.1 rfl (lv_room (Nat.le_of_ble_eq_true rfl)) dX12_tourMark_46 ⟨Nat.zero_le _, Nat.zero_le _⟩) ?_
    refine lv_iadd hx hb dX12_tourMark_49 ?_
    refine lv_topi (fun x_8 ex_8 => ?_)
    refine lv_istore_n (lv' := [(3, .int x_8), (2, .int x_1), (0, .ref (ad 57)), (1, .int a1)]) hx hb dX12_tourMark_50 rfl hl (by decide) rfl (fun ls hl => ?_)
    refine lv_iload_n hx hb dX12_tourMark_51 rfl (lv_at hl 1 rfl) ?_
    refine lv_iconst (v := 2) hx hb dX12_tourMark_52 (by decide) ?_
    refine lv_icmp_ne (tgt := 62) hx hb dX12_tourMark_53 (by decide) (fun c_9 => ?_) (fun c_9 => ?_)
    · refine lv_iload_n hx hb dX12_tourMark_62 rfl (lv_at hl 1 rfl) ?_
      refine lv_iconst (v := 3) hx hb dX12_tourMark_63 (by decide) ?_
      refine lv_icmp_ne (tgt := 75) hx hb dX12_tourMark_64 (by decide) (fun c_10 => ?_) (fun c_10 => ?_)
      · refine lv_iload_n hx hb dX12_tourMark_75 rfl (lv_at hl 0 rfl) ?_
        exact hret _ _ _ _ _ _ dX12_tourMark_76 rfl hX hS (by subst ex_8 eg_6 eg_4 ex_1; simp only [f_X12_tourMark, if_pos c_2, if_neg c_9, if_neg c_10])
      · have b_11 : wx_b x_1 3 3 := by rw [c_10]; exact ⟨by decide, by decide⟩
        refine lv_iload_n hx hb dX12_tourMark_67 rfl (lv_at hl 0 rfl) ?_
        refine lv_sipush (v := 1000) hx hb dX12_tourMark_68 (by decide) ?_
        refine lv_isub hx hb dX12_tourMark_71 ?_
        refine lv_goto (tgt := 76) hx hb dX12_tourMark_72 (by decide) ?_
        refine lv_topi (fun x_12 ex_12 => ?_)
        exact hret _ _ _ _ _ _ dX12_tourMark_76 rfl hX hS (by subst ex_12 ex_8 eg_6 eg_4 ex_1; simp only [f_X12_tourMark, if_pos c_2, if_neg c_9, if_pos c_10])
    · have b_13 : wx_b x_1 2 2 := by rw [c_9]; exact ⟨by decide, by decide⟩
      refine lv_iconst (v := 2) hx hb dX12_tourMark_56 (by decide) ?_
      refine lv_iload_n hx hb dX12_tourMark_57 rfl (lv_at hl 0 rfl) ?_
      refine lv_imul hx hb dX12_tourMark_58 ?_
      refine lv_goto (tgt := 76) hx hb dX12_tourMark_59 (by decide) ?_
      refine lv_topi (fun x_14 ex_14 => ?_)
      exact hret _ _ _ _ _ _ dX12_tourMark_76 rfl hX hS (by subst ex_14 ex_8 eg_6 eg_4 ex_1; simp only [f_X12_tourMark, if_pos c_2, if_pos c_9])
  · have b_15 : wx_b x_1 2 2147483647 := wb_gt (wb_nle c_2) (wb_any _) (show wx_b 1 1 1 from ⟨by decide, by decide⟩) (by decide) (by decide)
    refine lv_aload_n hx hb dX12_tourMark_15 rfl (lv_at hl 1 rfl) ?_
    refine lv_iload_n hx hb dX12_tourMark_16 rfl (lv_at hl 0 rfl) ?_
    refine lv_iconst (v := 2) hx hb dX12_tourMark_17 (by decide) ?_
    refine lv_icmp_ne (tgt := 26) hx hb dX12_tourMark_18 (by decide) (fun c_16 => ?_) (fun c_16 => ?_)
    · have b_17 : wx_b x_1 3 2147483647 := wb_nel c_16 b_15 (by decide)
      refine lv_bipush (v := 22) hx hb dX12_tourMark_26 (by decide) ?_
      refine wx_callev (va_runV (As := [.int 22]) (rest := []) ⟨hx, hb, hml, hown, hts⟩ (k_X12_leave l g 22 htr) (cwV 1 hts gX12_tourMark_X12_leave rfl rfl rfl (by decide +kernel) (by rw [hR]; exact ⟨Nat.le_of_ble_eq_true rfl, Nat.le_of_ble_eq_true rfl⟩)) ⟨wx_Pc.blind, wx_recv hK hX (by decide) sh_X12 rfl, (wx_Pc.pre hK hX).2⟩ rfl rfl hl.1 rfl (lv_room (Nat.le_of_ble_eq_true rfl)) dX12_tourMark_28 ⟨Nat.zero_le _, Nat.zero_le _⟩) hS (fun H locs hX hS => ?_)
      obtain ⟨g_18, eg_18, hX⟩ := wx_nm hX
      have bt_19 : wx_b (g_18 57 25) 0 16 := by rw [eg_18]; exact tb_X12_leave htr
      refine lv_aload_n hx hb dX12_tourMark_31 rfl (lv_at hl 1 rfl) ?_
      refine lv_bipush (v := 21) hx hb dX12_tourMark_32 (by decide) ?_
      refine wx_callev (va_runV (As := [.int 21]) (rest := []) ⟨hx, hb, hml, hown, hts⟩ (k_X12_leave l g_18 21 (wb_w bt_19 (by decide) (by decide))) (cwV 1 hts gX12_tourMark_X12_leave rfl rfl rfl (by decide +kernel) (by rw [hR]; exact ⟨Nat.le_of_ble_eq_true rfl, Nat.le_of_ble_eq_true rfl⟩)) ⟨wx_Pc.blind, wx_recv hK hX (by decide) sh_X12 rfl, (wx_Pc.pre hK hX).2⟩ rfl rfl hl.1 rfl (lv_room (Nat.le_of_ble_eq_true rfl)) dX12_tourMark_34 ⟨Nat.zero_le _, Nat.zero_le _⟩) hS (fun H locs hX hS => ?_)
      obtain ⟨g_20, eg_20, hX⟩ := wx_nm hX
      have bt_21 : wx_b (g_20 57 25) 0 16 := by rw [eg_20]; exact tb_X12_leave bt_19
      refine lv_aload_n hx hb dX12_tourMark_37 rfl (lv_at hl 1 rfl) ?_
      refine lv_bipush (v := 20) hx hb dX12_tourMark_38 (by decide) ?_
      refine wx_callev (va_runV (As := [.int 20]) (rest := []) ⟨hx, hb, hml, hown, hts⟩ (k_X12_leave l g_20 20 (wb_w bt_21 (by decide) (by decide))) (cwV 1 hts gX12_tourMark_X12_leave rfl rfl rfl (by decide +kernel) (by rw [hR]; exact ⟨Nat.le_of_ble_eq_true rfl, Nat.le_of_ble_eq_true rfl⟩)) ⟨wx_Pc.blind, wx_recv hK hX (by decide) sh_X12 rfl, (wx_Pc.pre hK hX).2⟩ rfl rfl hl.1 rfl (lv_room (Nat.le_of_ble_eq_true rfl)) dX12_tourMark_40 ⟨Nat.zero_le _, Nat.zero_le _⟩) hS (fun H locs hX hS => ?_)
      obtain ⟨g_22, eg_22, hX⟩ := wx_nm hX
      have bt_23 : wx_b (g_22 57 25) 0 16 := by rw [eg_22]; exact tb_X12_leave bt_21
      refine lv_iload_n hx hb dX12_tourMark_43 rfl (lv_at hl 2 rfl) ?_
      refine lv_aload_n hx hb dX12_tourMark_44 rfl (lv_at hl 1 rfl) ?_
      refine lv_iload_n hx hb dX12_tourMark_45 rfl (lv_at hl 2 rfl) ?_
      refine wx_callr (va_runV (As := [.int a1]) (rest := [.int a1]) ⟨hx, hb, hml, hown, hts⟩ (k_X12_heldBy l g_22 a1) (cwV 1 hts gX12_tourMark_X12_heldBy rfl rfl rfl (by decide +kernel) (by rw [hR]; exact ⟨Nat.le_of_ble_eq_true rfl, Nat.le_of_ble_eq_true rfl⟩)) ⟨wx_Pc.blind, wx_recv hK hX (by decide) sh_X12 rfl, (wx_Pc.pre hK hX).2⟩ rfl rfl hl.1 rfl (lv_room (Nat.le_of_ble_eq_true rfl)) dX12_tourMark_46 ⟨Nat.zero_le _, Nat.zero_le _⟩) ?_
      refine lv_iadd hx hb dX12_tourMark_49 ?_
      refine lv_topi (fun x_24 ex_24 => ?_)
      refine lv_istore_n (lv' := [(3, .int x_24), (2, .int x_1), (0, .ref (ad 57)), (1, .int a1)]) hx hb dX12_tourMark_50 rfl hl (by decide) rfl (fun ls hl => ?_)
      refine lv_iload_n hx hb dX12_tourMark_51 rfl (lv_at hl 1 rfl) ?_
      refine lv_iconst (v := 2) hx hb dX12_tourMark_52 (by decide) ?_
      refine lv_icmp_ne (tgt := 62) hx hb dX12_tourMark_53 (by decide) (fun _ => ?_) (fun c9 => absurd c9 c_16)
      refine lv_iload_n hx hb dX12_tourMark_62 rfl (lv_at hl 1 rfl) ?_
      refine lv_iconst (v := 3) hx hb dX12_tourMark_63 (by decide) ?_
      refine lv_icmp_ne (tgt := 75) hx hb dX12_tourMark_64 (by decide) (fun c_25 => ?_) (fun c_25 => ?_)
      · have b_26 : wx_b x_1 4 2147483647 := wb_nel c_25 b_17 (by decide)
        refine lv_iload_n hx hb dX12_tourMark_75 rfl (lv_at hl 0 rfl) ?_
        exact hret _ _ _ _ _ _ dX12_tourMark_76 rfl hX hS (by subst ex_24 eg_22 eg_20 eg_18 ex_1; simp only [f_X12_tourMark, if_neg c_2, if_neg c_16, if_neg c_25])
      · have b_27 : wx_b x_1 3 3 := by rw [c_25]; exact ⟨by decide, by decide⟩
        refine lv_iload_n hx hb dX12_tourMark_67 rfl (lv_at hl 0 rfl) ?_
        refine lv_sipush (v := 1000) hx hb dX12_tourMark_68 (by decide) ?_
        refine lv_isub hx hb dX12_tourMark_71 ?_
        refine lv_goto (tgt := 76) hx hb dX12_tourMark_72 (by decide) ?_
        refine lv_topi (fun x_28 ex_28 => ?_)
        exact hret _ _ _ _ _ _ dX12_tourMark_76 rfl hX hS (by subst ex_28 ex_24 eg_22 eg_20 eg_18 ex_1; simp only [f_X12_tourMark, if_neg c_2, if_neg c_16, if_pos c_25])
    · have b_29 : wx_b x_1 2 2 := by rw [c_16]; exact ⟨by decide, by decide⟩
      refine lv_bipush (v := 24) hx hb dX12_tourMark_21 (by decide) ?_
      refine lv_goto (tgt := 28) hx hb dX12_tourMark_23 (by decide) ?_
      refine wx_callev (va_runV (As := [.int 24]) (rest := []) ⟨hx, hb, hml, hown, hts⟩ (k_X12_leave l g 24 htr) (cwV 1 hts gX12_tourMark_X12_leave rfl rfl rfl (by decide +kernel) (by rw [hR]; exact ⟨Nat.le_of_ble_eq_true rfl, Nat.le_of_ble_eq_true rfl⟩)) ⟨wx_Pc.blind, wx_recv hK hX (by decide) sh_X12 rfl, (wx_Pc.pre hK hX).2⟩ rfl rfl hl.1 rfl (lv_room (Nat.le_of_ble_eq_true rfl)) dX12_tourMark_28 ⟨Nat.zero_le _, Nat.zero_le _⟩) hS (fun H locs hX hS => ?_)
      obtain ⟨g_30, eg_30, hX⟩ := wx_nm hX
      have bt_31 : wx_b (g_30 57 25) 0 16 := by rw [eg_30]; exact tb_X12_leave htr
      refine lv_aload_n hx hb dX12_tourMark_31 rfl (lv_at hl 1 rfl) ?_
      refine lv_bipush (v := 21) hx hb dX12_tourMark_32 (by decide) ?_
      refine wx_callev (va_runV (As := [.int 21]) (rest := []) ⟨hx, hb, hml, hown, hts⟩ (k_X12_leave l g_30 21 (wb_w bt_31 (by decide) (by decide))) (cwV 1 hts gX12_tourMark_X12_leave rfl rfl rfl (by decide +kernel) (by rw [hR]; exact ⟨Nat.le_of_ble_eq_true rfl, Nat.le_of_ble_eq_true rfl⟩)) ⟨wx_Pc.blind, wx_recv hK hX (by decide) sh_X12 rfl, (wx_Pc.pre hK hX).2⟩ rfl rfl hl.1 rfl (lv_room (Nat.le_of_ble_eq_true rfl)) dX12_tourMark_34 ⟨Nat.zero_le _, Nat.zero_le _⟩) hS (fun H locs hX hS => ?_)
      obtain ⟨g_32, eg_32, hX⟩ := wx_nm hX
      have bt_33 : wx_b (g_32 57 25) 0 16 := by rw [eg_32]; exact tb_X12_leave bt_31
      refine lv_aload_n hx hb dX12_tourMark_37 rfl (lv_at hl 1 rfl) ?_
      refine lv_bipush (v := 20) hx hb dX12_tourMark_38 (by decide) ?_
      refine wx_callev (va_runV (As := [.int 20]) (rest := []) ⟨hx, hb, hml, hown, hts⟩ (k_X12_leave l g_32 20 (wb_w bt_33 (by decide) (by decide))) (cwV 1 hts gX12_tourMark_X12_leave rfl rfl rfl (by decide +kernel) (by rw [hR]; exact ⟨Nat.le_of_ble_eq_true rfl, Nat.le_of_ble_eq_true rfl⟩)) ⟨wx_Pc.blind, wx_recv hK hX (by decide) sh_X12 rfl, (wx_Pc.pre hK hX).2⟩ rfl rfl hl.1 rfl (lv_room (Nat.le_of_ble_eq_true rfl)) dX12_tourMark_40 ⟨Nat.zero_le _, Nat.zero_le _⟩) hS (fun H locs hX hS => ?_)
      obtain ⟨g_34, eg_34, hX⟩ := wx_nm hX
      have bt_35 : wx_b (g_34 57 25) 0 16 := by rw [eg_34]; exact tb_X12_leave bt_33
      refine lv_iload_n hx hb dX12_tourMark_43 rfl (lv_at hl 2 rfl) ?_
      refine lv_aload_n hx hb dX12_tourMark_44 rfl (lv_at hl 1 rfl) ?_
      refine lv_iload_n hx hb dX12_tourMark_45 rfl (lv_at hl 2 rfl) ?_
      refine wx_callr (va_runV (As := [.int a1]) (rest := [.int a1]) ⟨hx, hb, hml, hown, hts⟩ (k_X12_heldBy l g_34 a1) (cwV 1 hts gX12_tourMark_X12_heldBy rfl rfl rfl (by decide +kernel) (by rw [hR]; exact ⟨Nat.le_of_ble_eq_true rfl, Nat.le_of_ble_eq_true rfl⟩)) ⟨wx_Pc.blind, wx_recv hK hX (by decide) sh_X12 rfl, (wx_Pc.pre hK hX).2⟩ rfl rfl hl.1 rfl (lv_room (Nat.le_of_ble_eq_true rfl)) dX12_tourMark_46 ⟨Nat.zero_le _, Nat.zero_le _⟩) ?_
      refine lv_iadd hx hb dX12_tourMark_49 ?_
      refine lv_topi (fun x_36 ex_36 => ?_)
      refine lv_istore_n (lv' := [(3, .int x_36), (2, .int x_1), (0, .ref (ad 57)), (1, .int a1)]) hx hb dX12_tourMark_50 rfl hl (by decide) rfl (fun ls hl => ?_)
      refine lv_iload_n hx hb dX12_tourMark_51 rfl (lv_at hl 1 rfl) ?_
      refine lv_iconst (v := 2) hx hb dX12_tourMark_52 (by decide) ?_
      refine lv_icmp_ne (tgt := 62) hx hb dX12_tourMark_53 (by decide) (fun c9 => absurd c_16 c9) (fun _ => ?_)
      refine lv_iconst (v := 2) hx hb dX12_tourMark_56 (by decide) ?_
      refine lv_iload_n hx hb dX12_tourMark_57 rfl (lv_at hl 0 rfl) ?_
      refine lv_imul hx hb dX12_tourMark_58 ?_
      refine lv_goto (tgt := 76) hx hb dX12_tourMark_59 (by decide) ?_
      refine lv_topi (fun x_37 ex_37 => ?_)
      exact hret _ _ _ _ _ _ dX12_tourMark_76 rfl hX hS (by subst ex_37 ex_36 eg_34 eg_32 eg_30 ex_1; simp only [f_X12_tourMark, if_neg c_2, if_pos c_16])
theorem tb_X12_tourMark {g : wx_M} {a1 : Int32} (h : wx_b (g 57 25) 0 16) : wx_b ((f_X12_tourMark g a1).1 57 25) 0 16 := by
  simp only [f_X12_tourMark]
  (repeat' split) <;> (repeat (first | with_reducible assumption | with_reducible apply tb_X12_leave))
def f_X12_sizeOf (g : wx_M) (a1 : Int32) : wx_M × Int32 :=
  let x_1 := (g 65 (43 + a1).toNatClampNeg)
  let x_2 := (g 65 (47 + a1).toNatClampNeg)
  if x_1 ≤ 3 then
    if x_1 = 2 then
      let g_14 := e_X12_leave g 12
      let g_16 := e_X12_leave g_14 11
      let g_18 := e_X12_leave g_16 10
      let z_20 := f_X12_tourMark g_18 a1
      let x_22 := (x_2 + z_20.2)
      let x_23 := (-x_22)
      let x_23 := (-x_22)
      (z_20.1, x_23)
    else
      let g_6 := e_X12_leave g 11
      let g_8 := e_X12_leave g_6 10
      let z_10 := f_X12_tourMark g_8 a1
      let x_12 := (x_2 + z_10.2)
      (z_10.1, x_12)
  else
    if x_1 = 5 then
      let g_32 := e_X12_leave g 14
      let g_34 := e_X12_leave g_32 13
      let g_36 := e_X12_leave g_34 10
      let x_38 := (2 * (x_2 - 100))
      let x_38 := (2 * (x_2 - 100))
      (g_36, x_38)
    else
      let g_26 := e_X12_leave g 13
      let g_28 := e_X12_leave g_26 10
      let x_30 := (x_2 - 100)
      let x_30 := (x_2 - 100)
      (g_28, x_30)
set_option maxHeartbeats 4000000 in
set_option maxRecDepth 100000 in
theorem k_X12_sizeOf (l : Launch) {D : va_G} {cy : Nat → ClassId} {ad : Nat → Nat} {B0 : Nat} {f : wx_F} {P : va_W} (g : wx_M) (a1 : Int32) (b1 : wx_b a1 0 3) (htr : wx_b (g 57 25) 0 16) : Met l yX12_sizeOf wsX12_sizeOf ({ frames := 2, cells := 0, slots := 0, locals := 46 } : Room) (wx_Pc D cy ad B0 f P g [.ref (ad 57), .int a1]) (wx_Qe D cy ad B0 f P (f_X12_sizeOf g a1).1 (some (.int (f_X12_sizeOf g a1).2))) 0 0 (fun q => B0 ≤ q) := by
  refine wx_enterE (cc := cX12_sizeOf) (maxL := 5) (ty := .int) (own := RX12) (lv := [(0, .ref (ad 57)), (1, .int a1)]) (by decide) rfl rfl (Nat.le_of_ble_eq_true rfl) rfl ?_
  intro p e R s m args below meth c ls Qm hx hb hml hown hts hK hX hS hR hret hl
  have hi_X12 : ∀ w ∈ wsX120, w ∈ wsX12_sizeOf := by decide +kernel
  refine lv_aload_n hx hb dX12_sizeOf_0 rfl (lv_at hl 0 rfl) ?_
  refine wx_getr (t := 65) (C := RX12) (T := TX12) (N := 27) (ci := 11) (j := 20) hx hb hts hi_X12 hown hK hX (by decide) sh_X12_20 rfl (by decide) (hts (.fieldLink RX12 31 "SeenAgainModel" "now" "[I") (by decide +kernel)) (fun _ h9 => h9) dX12_sizeOf_1 ?_
  refine lv_bipush (v := 43) hx hb dX12_sizeOf_4 (by decide) ?_
  refine lv_iload_n hx hb dX12_sizeOf_6 rfl (lv_at hl 1 rfl) ?_
  refine lv_iadd hx hb dX12_sizeOf_7 ?_
  refine wx_iald hx hb hK hX (by decide) sa_65 (wb_in (wb_add (show wx_b 43 43 43 from ⟨by decide, by decide⟩) b1 (by decide) (by decide)) (by decide) (by decide)) dX12_sizeOf_8 ?_
  refine lv_topi (fun x_1 ex_1 => ?_)
  refine lv_istore_n (lv' := [(2, .int x_1), (0, .ref (ad 57)), (1, .int a1)]) hx hb dX12_sizeOf_9 rfl hl (by decide) rfl (fun ls hl => ?_)
  refine lv_aload_n hx hb dX12_sizeOf_10 rfl (lv_at hl 1 rfl) ?_
  refine wx_getr (t := 65) (C := RX12) (T := TX12) (N := 27) (ci := 11) (j := 20) hx hb hts hi_X12 hown hK hX (by decide) sh_X12_20 rfl (by decide) (hts (.fieldLink RX12 31 "SeenAgainModel" "now" "[I") (by decide +kernel)) (fun _ h9 => h9) dX12_sizeOf_11 ?_
  refine lv_bipush (v := 47) hx hb dX12_sizeOf_14 (by decide) ?_
  refine lv_iload_n hx hb dX12_sizeOf_16 rfl (lv_at hl 2 rfl) ?_
  refine lv_iadd hx hb dX12_sizeOf_17 ?_
  refine wx_iald hx hb hK hX (by decide) sa_65 (wb_in (wb_add (show wx_b 47 47 47 from ⟨by decide, by decide⟩) b1 (by decide) (by decide)) (by decide) (by decide)) dX12_sizeOf_18 ?_
  refine lv_topi (fun x_2 ex_2 => ?_)
  refine lv_istore_n (lv' := [(3, .int x_2), (2, .int x_1), (0, .ref (ad 57)), (1, .int a1)]) hx hb dX12_sizeOf_19 rfl hl (by decide) rfl (fun ls hl => ?_)
  refine lv_iload_n hx hb dX12_sizeOf_20 rfl (lv_at hl 1 rfl) ?_
  refine lv_iconst (v := 3) hx hb dX12_sizeOf_21 (by decide) ?_
  refine lv_icmp_le (tgt := 67) hx hb dX12_sizeOf_22 (by decide) (fun c_3 => ?_) (fun c_3 => ?_)
  · have b_4 : wx_b x_1 (-2147483648) 3 := wb_le c_3 (wb_any _) (show wx_b 3 3 3 from ⟨by decide, by decide⟩) (by decide) (by decide)
    refine lv_iload_n hx hb dX12_sizeOf_67 rfl (lv_at hl 1 rfl) ?_
    refine lv_iconst (v := 2) hx hb dX12_sizeOf_68 (by decide) ?_
    refine lv_icmp_ne (tgt := 78) hx hb dX12_sizeOf_69 (by decide) (fun c_5 => ?_) (fun c_5 => ?_)
    · refine lv_aload_n hx hb dX12_sizeOf_78 rfl (lv_at hl 2 rfl) ?_
      refine lv_bipush (v := 11) hx hb dX12_sizeOf_79 (by decide) ?_
      refine wx_callev (va_runV (As := [.int 11]) (rest := []) ⟨hx, hb, hml, hown, hts⟩ (k_X12_leave l g 11 htr) (cwV 1 hts gX12_sizeOf_X12_leave rfl rfl rfl (by decide +kernel) (by rw [hR]; exact ⟨Nat.le_of_ble_eq_true rfl, Nat.le_of_ble_eq_true rfl⟩)) ⟨wx_Pc.blind, wx_recv hK hX (by decide) sh_X12 rfl, (wx_Pc.pre hK hX).2⟩ rfl rfl hl.1 rfl (lv_room (Nat.le_of_ble_eq_true rfl)) dX12_sizeOf_81 ⟨Nat.zero_le _, Nat.zero_le _⟩) hS (fun H locs hX hS => ?_)
      obtain ⟨g_6, eg_6, hX⟩ := wx_nm hX
      have bt_7 : wx_b (g_6 57 25) 0 16 := by rw [eg_6]; exact tb_X12_leave htr
      refine lv_aload_n hx hb dX12_sizeOf_84 rfl (lv_at hl 2 rfl) ?_
      refine lv_bipush (v := 10) hx hb dX12_sizeOf_85 (by decide) ?_
      refine wx_callev (va_runV (As := [.int 10]) (rest := []) ⟨hx, hb, hml, hown, hts⟩ (k_X12_leave l g_6 10 (wb_w bt_7 (by decide) (by decide))) (cwV 1 hts gX12_sizeOf_X12_leave rfl rfl rfl (by decide +kernel) (by rw [hR]; exact ⟨Nat.le_of_ble_eq_true rfl, Nat.le_of_ble_eq_true rfl⟩)) ⟨wx_Pc.blind, wx_recv hK hX (by decide) sh_X12 rfl, (wx_Pc.pre hK hX).2⟩ rfl rfl hl.1 rfl (lv_room (Nat.le_of_ble_eq_true rfl)) dX12_sizeOf_87 ⟨Nat.zero_le _, Nat.zero_le _⟩) hS (fun H locs hX hS => ?_)
      obtain ⟨g_8, eg_8, hX⟩ := wx_nm hX
      have bt_9 : wx_b (g_8 57 25) 0 16 := by rw [eg_8]; exact tb_X12_leave bt_7
      refine lv_iload_n hx hb dX12_sizeOf_90 rfl (lv_at hl 0 rfl) ?_
      refine lv_aload_n hx hb dX12_sizeOf_91 rfl (lv_at hl 2 rfl) ?_
      refine lv_iload_n hx hb dX12_sizeOf_92 rfl (lv_at hl 3 rfl) ?_
      refine wx_callei (va_runV (As := [.int a1]) (rest := [.int x_2]) ⟨hx, hb, hml, hown, hts⟩ (k_X12_tourMark l g_8 a1 b1 (wb_w bt_9 (by decide) (by decide))) (cwV 1 hts gX12_sizeOf_X12_tourMark rfl rfl rfl (by decide +kernel) (by rw [hR]; exact ⟨Nat.le_of_ble_eq_true rfl, Nat.le_of_ble_eq_true rfl⟩)) ⟨wx_Pc.blind, wx_recv hK hX (by decide) sh_X12 rfl, (wx_Pc.pre hK hX).2⟩ rfl rfl hl.1 rfl (lv_room (Nat.le_of_ble_eq_true rfl)) dX12_sizeOf_93 ⟨Nat.zero_le _, Nat.zero_le _⟩) hS (fun H locs hX hS => ?_)
      obtain ⟨z_10, ez_10⟩ : ∃ z, z = f_X12_tourMark g_8 a1 := ⟨_, rfl⟩
      rw [← ez_10] at hX; rw [← ez_10]
      have bt_11 : wx_b (z_10.1 57 25) 0 16 := by rw [ez_10]; exact tb_X12_tourMark bt_9
      refine lv_iadd hx hb dX12_sizeOf_96 ?_
      refine lv_topi (fun x_12 ex_12 => ?_)
      refine lv_istore (lv' := [(4, .int x_12), (3, .int x_2), (2, .int x_1), (0, .ref (ad 57)), (1, .int a1)]) hx hb dX12_sizeOf_97 hl (by decide) rfl (fun ls hl => ?_)
      refine lv_iload_n hx hb dX12_sizeOf_99 rfl (lv_at hl 2 rfl) ?_
      refine lv_iconst (v := 2) hx hb dX12_sizeOf_100 (by decide) ?_
      refine lv_icmp_ne (tgt := 110) hx hb dX12_sizeOf_101 (by decide) (fun _ => ?_) (fun c9 => absurd c9 c_5)
      refine lv_iload hx hb dX12_sizeOf_110 (lv_at hl 0 rfl) ?_
      exact hret _ _ _ _ _ _ dX12_sizeOf_112 rfl hX hS (by subst ex_12 ez_10 eg_8 eg_6 ex_2 ex_1; simp only [f_X12_sizeOf, if_pos c_3, if_neg c_5])
    · have b_13 : wx_b x_1 2 2 := by rw [c_5]; exact ⟨by decide, by decide⟩
      refine lv_aload_n hx hb dX12_sizeOf_72 rfl (lv_at hl 2 rfl) ?_
      refine lv_bipush (v := 12) hx hb dX12_sizeOf_73 (by decide) ?_
      refine wx_callev (va_runV (As := [.int 12]) (rest := []) ⟨hx, hb, hml, hown, hts⟩ (k_X12_leave l g 12 htr) (cwV 1 hts gX12_sizeOf_X12_leave rfl rfl rfl (by decide +kernel) (by rw [hR]; exact ⟨Nat.le_of_ble_eq_true rfl, Nat.le_of_ble_eq_true rfl⟩)) ⟨wx_Pc.blind, wx_recv hK hX (by decide) sh_X12 rfl, (wx_Pc.pre hK hX).2⟩ rfl rfl hl.1 rfl (lv_room (Nat.le_of_ble_eq_true rfl)) dX12_sizeOf_75 ⟨Nat.zero_le _, Nat.zero_le _⟩) hS (fun H locs hX hS => ?_)
      obtain ⟨g_14, eg_14, hX⟩ := wx_nm hX
      have bt_15 : wx_b (g_14 57 25) 0 16 := by rw [eg_14]; exact tb_X12_leave htr
      refine lv_aload_n hx hb dX12_sizeOf_78 rfl (lv_at hl 2 rfl) ?_
      refine lv_bipush (v := 11) hx hb dX12_sizeOf_79 (by decide) ?_
      refine wx_callev (va_runV (As := [.int 11]) (rest := []) ⟨hx, hb, hml, hown, hts⟩ (k_X12_leave l g_14 11 (wb_w bt_15 (by decide) (by decide))) (cwV 1 hts gX12_sizeOf_X12_leave rfl rfl rfl (by decide +kernel) (by rw [hR]; exact ⟨Nat.le_of_ble_eq_true rfl, Nat.le_of_ble_eq_true rfl⟩)) ⟨wx_Pc.blind, wx_recv hK hX (by decide) sh_X12 rfl, (wx_Pc.pre hK hX).2⟩ rfl rfl hl.1 rfl (lv_room (Nat.le_of_ble_eq_true rfl)) dX12_sizeOf_81 ⟨Nat.zero_le _, Nat.zero_le _⟩) hS (fun H locs hX hS => ?_)
      obtain ⟨g_16, eg_16, hX⟩ := wx_nm hX
      have bt_17 : wx_b (g_16 57 25) 0 16 := by rw [eg_16]; exact tb_X12_leave bt_15
      refine lv_aload_n hx hb dX12_sizeOf_84 rfl (lv_at hl 2 rfl) ?_
      refine lv_bipush (v := 10) hx hb dX12_sizeOf_85 (by decide) ?_
      refine wx_callev (va_runV (As := [.int 10]) (rest := []) ⟨hx, hb, hml, hown, hts⟩ (k_X12_leave l g_16 10 (wb_w bt_17 (by decide) (by decide))) (cwV 1 hts gX12_sizeOf_X12_leave rfl rfl rfl (by decide +kernel) (by rw [hR]; exact ⟨Nat.le_of_ble_eq_true rfl, Nat.le_of_ble_eq_true rfl⟩)) ⟨wx_Pc.blind, wx_recv hK hX (by decide) sh_X12 rfl, (wx_Pc.pre hK hX).2⟩ rfl rfl hl.1 rfl (lv_room (Nat.le_of_ble_eq_true rfl)) dX12_sizeOf_87 ⟨Nat.zero_le _, Nat.zero_le _⟩) hS (fun H locs hX hS => ?_)
      obtain ⟨g_18, eg_18, hX⟩ := wx_nm hX
      have bt_19 : wx_b (g_18 57 25) 0 16 := by rw [eg_18]; exact tb_X12_leave bt_17
      refine lv_iload_n hx hb dX12_sizeOf_90 rfl (lv_at hl 0 rfl) ?_
      refine lv_aload_n hx hb dX12_sizeOf_91 rfl (lv_at hl 2 rfl) ?_
      refine lv_iload_n hx hb dX12_sizeOf_92 rfl (lv_at hl 3 rfl) ?_
      refine wx_callei (va_runV (As := [.int a1]) (rest := [.int x_2]) ⟨hx, hb, hml, hown, hts⟩ (k_X12_tourMark l g_18 a1 b1 (wb_w bt_19 (by decide) (by decide))) (cwV 1 hts gX12_sizeOf_X12_tourMark rfl rfl rfl (by decide +kernel) (by rw [hR]; exact ⟨Nat.le_of_ble_eq_true rfl, Nat.le_of_ble_eq_true rfl⟩)) ⟨wx_Pc.blind, wx_recv hK hX (by decide) sh_X12 rfl, (wx_Pc.pre hK hX).2⟩ rfl rfl hl.1 rfl (lv_room (Nat.le_of_ble_eq_true rfl)) dX12_sizeOf_93 ⟨Nat.zero_le _, Nat.zero_le _⟩) hS (fun H locs hX hS => ?_)
      obtain ⟨z_20, ez_20⟩ : ∃ z, z = f_X12_tourMark g_18 a1 := ⟨_, rfl⟩
      rw [← ez_20] at hX; rw [← ez_20]
      have bt_21 : wx_b (z_20.1 57 25) 0 16 := by rw [ez_20]; exact tb_X12_tourMark bt_19
      refine lv_iadd hx hb dX12_sizeOf_96 ?_
      refine lv_topi (fun x_22 ex_22 => ?_)
      refine lv_istore (lv' := [(4, .int x_22), (3, .int x_2), (2, .int x_1), (0, .ref (ad 57)), (1, .int a1)]) hx hb dX12_sizeOf_97 hl (by decide) rfl (fun ls hl => ?_)
      refine lv_iload_n hx hb dX12_sizeOf_99 rfl (lv_at hl 2 rfl) ?_
      refine lv_iconst (v := 2) hx hb dX12_sizeOf_100 (by decide) ?_
      refine lv_icmp_ne (tgt := 110) hx hb dX12_sizeOf_101 (by decide) (fun c9 => absurd c_5 c9) (fun _ => ?_)
      refine lv_iload hx hb dX12_sizeOf_104 (lv_at hl 0 rfl) ?_
      refine lv_ineg hx hb dX12_sizeOf_106 ?_
      refine lv_goto (tgt := 112) hx hb dX12_sizeOf_107 (by decide) ?_
      refine lv_topi (fun x_23 ex_23 => ?_)
      exact hret _ _ _ _ _ _ dX12_sizeOf_112 rfl hX hS (by subst ex_23 ex_22 ez_20 eg_18 eg_16 eg_14 ex_2 ex_1; simp only [f_X12_sizeOf, if_pos c_3, if_pos c_5])
  · have b_24 : wx_b x_1 4 2147483647 := wb_gt (wb_nle c_3) (wb_any _) (show wx_b 3 3 3 from ⟨by decide, by decide⟩) (by decide) (by decide)
    refine lv_iload_n hx hb dX12_sizeOf_25 rfl (lv_at hl 1 rfl) ?_
    refine lv_iconst (v := 5) hx hb dX12_sizeOf_26 (by decide) ?_
    refine lv_icmp_ne (tgt := 36) hx hb dX12_sizeOf_27 (by decide) (fun c_25 => ?_) (fun c_25 => ?_)
    · refine lv_aload_n hx hb dX12_sizeOf_36 rfl (lv_at hl 2 rfl) ?_
      refine lv_bipush (v := 13) hx hb dX12_sizeOf_37 (by decide) ?_
      refine wx_callev (va_runV (As := [.int 13]) (rest := []) ⟨hx, hb, hml, hown, hts⟩ (k_X12_leave l g 13 htr) (cwV 1 hts gX12_sizeOf_X12_leave rfl rfl rfl (by decide +kernel) (by rw [hR]; exact ⟨Nat.le_of_ble_eq_true rfl, Nat.le_of_ble_eq_true rfl⟩)) ⟨wx_Pc.blind, wx_recv hK hX (by decide) sh_X12 rfl, (wx_Pc.pre hK hX).2⟩ rfl rfl hl.1 rfl (lv_room (Nat.le_of_ble_eq_true rfl)) dX12_sizeOf_39 ⟨Nat.zero_le _, Nat.zero_le _⟩) hS (fun H locs hX hS => ?_)
      obtain ⟨g_26, eg_26, hX⟩ := wx_nm hX
      have bt_27 : wx_b (g_26 57 25) 0 16 := by rw [eg_26]; exact tb_X12_leave htr
      refine lv_aload_n hx hb dX12_sizeOf_42 rfl (lv_at hl 2 rfl) ?_
      refine lv_bipush (v := 10) hx hb dX12_sizeOf_43 (by decide) ?_
      refine wx_callev (va_runV (As := [.int 10]) (rest := []) ⟨hx, hb, hml, hown, hts⟩ (k_X12_leave l g_26 10 (wb_w bt_27 (by decide) (by decide))) (cwV 1 hts gX12_sizeOf_X12_leave rfl rfl rfl (by decide +kernel) (by rw [hR]; exact ⟨Nat.le_of_ble_eq_true rfl, Nat.le_of_ble_eq_true rfl⟩)) ⟨wx_Pc.blind, wx_recv hK hX (by decide) sh_X12 rfl, (wx_Pc.pre hK hX).2⟩ rfl rfl hl.1 rfl (lv_room (Nat.le_of_ble_eq_true rfl)) dX12_sizeOf_45 ⟨Nat.zero_le _, Nat.zero_le _⟩) hS (fun H locs hX hS => ?_)
      obtain ⟨g_28, eg_28, hX⟩ := wx_nm hX
      have bt_29 : wx_b (g_28 57 25) 0 16 := by rw [eg_28]; exact tb_X12_leave bt_27
      refine lv_iload_n hx hb dX12_sizeOf_48 rfl (lv_at hl 1 rfl) ?_
      refine lv_iconst (v := 5) hx hb dX12_sizeOf_49 (by decide) ?_
      refine lv_icmp_ne (tgt := 62) hx hb dX12_sizeOf_50 (by decide) (fun _ => ?_) (fun c9 => absurd c9 c_25)
      refine lv_iload_n hx hb dX12_sizeOf_62 rfl (lv_at hl 0 rfl) ?_
      refine lv_bipush (v := 100) hx hb dX12_sizeOf_63 (by decide) ?_
      refine lv_isub hx hb dX12_sizeOf_65 ?_
      refine lv_topi (fun x_30 ex_30 => ?_)
      exact hret _ _ _ _ _ _ dX12_sizeOf_66 rfl hX hS (by subst ex_30 eg_28 eg_26 ex_2 ex_1; simp only [f_X12_sizeOf, if_neg c_3, if_neg c_25])
    · have b_31 : wx_b x_1 5 5 := by rw [c_25]; exact ⟨by decide, by decide⟩
      refine lv_aload_n hx hb dX12_sizeOf_30 rfl (lv_at hl 2 rfl) ?_
      refine lv_bipush (v := 14) hx hb dX12_sizeOf_31 (by decide) ?_
      refine wx_callev (va_runV (As := [.int 14]) (rest := []) ⟨hx, hb, hml, hown, hts⟩ (k_X12_leave l g 14 htr) (cwV 1 hts gX12_sizeOf_X12_leave rfl rfl rfl (by decide +kernel) (by rw [hR]; exact ⟨Nat.le_of_ble_eq_true rfl, Nat.le_of_ble_eq_true rfl⟩)) ⟨wx_Pc.blind, wx_recv hK hX (by decide) sh_X12 rfl, (wx_Pc.pre hK hX).2⟩ rfl rfl hl.1 rfl (lv_room (Nat.le_of_ble_eq_true rfl)) dX12_sizeOf_33 ⟨Nat.zero_le _, Nat.zero_le _⟩) hS (fun H locs hX hS => ?_)
      obtain ⟨g_32, eg_32, hX⟩ := wx_nm hX
      have bt_33 : wx_b (g_32 57 25) 0 16 := by rw [eg_32]; exact tb_X12_leave htr
      refine lv_aload_n hx hb dX12_sizeOf_36 rfl (lv_at hl 2 rfl) ?_
      refine lv_bipush (v := 13) hx hb dX12_sizeOf_37 (by decide) ?_
      refine wx_callev (va_runV (As := [.int 13]) (rest := []) ⟨hx, hb, hml, hown, hts⟩ (k_X12_leave l g_32 13 (wb_w bt_33 (by decide) (by decide))) (cwV 1 hts gX12_sizeOf_X12_leave rfl rfl rfl (by decide +kernel) (by rw [hR]; exact ⟨Nat.le_of_ble_eq_true rfl, Nat.le_of_ble_eq_true rfl⟩)) ⟨wx_Pc.blind, wx_recv hK hX (by decide) sh_X12 rfl, (wx_Pc.pre hK hX).2⟩ rfl rfl hl.1 rfl (lv_room (Nat.le_of_ble_eq_true rfl)) dX12_sizeOf_39 ⟨Nat.zero_le _, Nat.zero_le _⟩) hS (fun H locs hX hS => ?_)
      obtain ⟨g_34, eg_34, hX⟩ := wx_nm hX
      have bt_35 : wx_b (g_34 57 25) 0 16 := by rw [eg_34]; exact tb_X12_leave bt_33
      refine lv_aload_n hx hb dX12_sizeOf_42 rfl (lv_at hl 2 rfl) ?_
      refine lv_bipush (v := 10) hx hb dX12_sizeOf_43 (by decide) ?_
      refine wx_callev (va_runV (As := [.int 10]) (rest := []) ⟨hx, hb, hml, hown, hts⟩ (k_X12_leave l g_34 10 (wb_w bt_35 (by decide) (by decide))) (cwV 1 hts gX12_sizeOf_X12_leave rfl rfl rfl (by decide +kernel) (by rw [hR]; exact ⟨Nat.le_of_ble_eq_true rfl, Nat.le_of_ble_eq_true rfl⟩)) ⟨wx_Pc.blind, wx_recv hK hX (by decide) sh_X12 rfl, (wx_Pc.pre hK hX).2⟩ rfl rfl hl.1 rfl (lv_room (Nat.le_of_ble_eq_true rfl)) dX12_sizeOf_45 ⟨Nat.zero_le _, Nat.zero_le _⟩) hS (fun H locs hX hS => ?_)
      obtain ⟨g_36, eg_36, hX⟩ := wx_nm hX
      have bt_37 : wx_b (g_36 57 25) 0 16 := by rw [eg_36]; exact tb_X12_leave bt_35
      refine lv_iload_n hx hb dX12_sizeOf_48 rfl (lv_at hl 1 rfl) ?_
      refine lv_iconst (v := 5) hx hb dX12_sizeOf_49 (by decide) ?_
      refine lv_icmp_ne (tgt := 62) hx hb dX12_sizeOf_50 (by decide) (fun c9 => absurd c_25 c9) (fun _ => ?_)
      refine lv_iconst (v := 2) hx hb dX12_sizeOf_53 (by decide) ?_
      refine lv_iload_n hx hb dX12_sizeOf_54 rfl (lv_at hl 0 rfl) ?_
      refine lv_bipush (v := 100) hx hb dX12_sizeOf_55 (by decide) ?_
      refine lv_isub hx hb dX12_sizeOf_57 ?_
      refine lv_imul hx hb dX12_sizeOf_58 ?_
      refine lv_goto (tgt := 66) hx hb dX12_sizeOf_59 (by decide) ?_
      refine lv_topi (fun x_38 ex_38 => ?_)
      exact hret _ _ _ _ _ _ dX12_sizeOf_66 rfl hX hS (by subst ex_38 eg_36 eg_34 eg_32 ex_2 ex_1; simp only [f_X12_sizeOf, if_neg c_3, if_pos c_25])
theorem tb_X12_sizeOf {g : wx_M} {a1 : Int32} (h : wx_b (g 57 25) 0 16) : wx_b ((f_X12_sizeOf g a1).1 57 25) 0 16 := by
  simp only [f_X12_sizeOf]
  (repeat' split) <;> (repeat (first | with_reducible assumption | with_reducible apply tb_X12_leave | with_reducible apply tb_X12_tourMark))
def f_X12_ask (g : wx_M) (a1 : Int32) (a2 : Int32) : wx_M × Int32 :=
  if (r_X12_isGuest g a1) = 0 then
    (g, (-1000001))
  else
    if (r_X12_in a2 0 1) = 0 then
      (g, (-1000001))
    else
      let g_6 := up2 g 57 25 0
      if a2 = 0 then
        let z_22 := f_X12_sizeOf g_6 a1
        (z_22.1, z_22.2)
      else
        if 4 ≤ (g_6 65 (43 + a1).toNatClampNeg) then
          let g_11 := e_X12_leave g_6 23
          let g_13 := e_X12_leave g_11 20
          let z_15 := f_X12_sizeOf g_13 a1
          let x_17 := (a1 - z_15.2)
          (z_15.1, x_17)
        else
          let z_19 := f_X12_tourMark g_6 a1
          (z_19.1, z_19.2)
set_option maxHeartbeats 4000000 in
set_option maxRecDepth 100000 in
theorem k_X12_ask (l : Launch) {D : va_G} {cy : Nat → ClassId} {ad : Nat → Nat} {B0 : Nat} {f : wx_F} {P : va_W} (g : wx_M) (a1 : Int32) (a2 : Int32) (hm : wx_MB g) (htr : wx_b (g 57 25) 0 16) : Met l yX12_ask wsX12_ask ({ frames := 3, cells := 0, slots := 0, locals := 70 } : Room) (wx_Pc D cy ad B0 f P g [.ref (ad 57), .int a1, .int a2]) (wx_Qe D cy ad B0 f P (f_X12_ask g a1 a2).1 (some (.int (f_X12_ask g a1 a2).2))) 0 0 (fun q => B0 ≤ q) := by
  refine wx_enterE (cc := cX12_ask) (maxL := 3) (ty := .int) (own := RX12) (lv := [(0, .ref (ad 57)), (1, .int a1), (2, .int a2)]) (by decide) rfl rfl (Nat.le_of_ble_eq_true rfl) rfl ?_
  intro p e R s m args below meth c ls Qm hx hb hml hown hts hK hX hS hR hret hl
  have hi_X12 : ∀ w ∈ wsX120, w ∈ wsX12_ask := by decide +kernel
  refine lv_aload_n hx hb dX12_ask_0 rfl (lv_at hl 0 rfl) ?_
  refine lv_iload_n hx hb dX12_ask_1 rfl (lv_at hl 1 rfl) ?_
  refine wx_callr (va_runV (As := [.int a1]) (rest := []) ⟨hx, hb, hml, hown, hts⟩ (k_X12_isGuest l g a1) (cwV 1 hts gX12_ask_X12_isGuest rfl rfl rfl (by decide +kernel) (by rw [hR]; exact ⟨Nat.le_of_ble_eq_true rfl, Nat.le_of_ble_eq_true rfl⟩)) ⟨wx_Pc.blind, wx_recv hK hX (by decide) sh_X12 rfl, (wx_Pc.pre hK hX).2⟩ rfl rfl hl.1 rfl (lv_room (Nat.le_of_ble_eq_true rfl)) dX12_ask_2 ⟨Nat.zero_le _, Nat.zero_le _⟩) ?_
  refine lv_if_eq (tgt := 17) hx hb dX12_ask_5 (by decide) (fun c_1 => ?_) (fun c_1 => ?_)
  · have b_2 : wx_b (r_X12_isGuest g a1) 0 0 := by rw [c_1]; exact ⟨by decide, by decide⟩
    refine lv_ldc hx hb hown (hts (.constant RX12 60 (-1000001)) (by decide +kernel)) dX12_ask_17 ?_
    exact hret _ _ _ _ _ _ dX12_ask_19 rfl hX hS (by simp only [f_X12_ask, if_pos c_1])
  · have b_3 : wx_b a1 0 3 := rf_X12_isGuest hm c_1
    refine lv_iload_n hx hb dX12_ask_8 rfl (lv_at hl 2 rfl) ?_
    refine lv_iconst (v := 0) hx hb dX12_ask_9 (by decide) ?_
    refine lv_iconst (v := 1) hx hb dX12_ask_10 (by decide) ?_
    refine wx_callr (va_runS (As := [.int a2, .int 0, .int 1]) (rest := []) ⟨hx, hb, hml, hown, hts⟩ (k_X12_in l g a2 0 1) (va_cwS 3 hts gX12_ask_X12_in rfl rfl rfl (by decide +kernel) (by rw [hR]; exact ⟨Nat.le_of_ble_eq_true rfl, Nat.le_of_ble_eq_true rfl⟩)) (wx_Pc.pre hK hX) rfl rfl hl.1 rfl (lv_room (Nat.le_of_ble_eq_true rfl)) dX12_ask_11 ⟨Nat.zero_le _, Nat.zero_le _⟩) ?_
    refine lv_if_ne (tgt := 20) hx hb dX12_ask_14 (by decide) (fun c_4 => ?_) (fun c_4 => ?_)
    · have b_5 : wx_b a2 0 1 := rf_X12_in (show wx_b 0 0 0 from ⟨by decide, by decide⟩) (show wx_b 1 1 1 from ⟨by decide, by decide⟩) c_4
      refine lv_aload_n hx hb dX12_ask_20 rfl (lv_at hl 0 rfl) ?_
      refine lv_iconst (v := 0) hx hb dX12_ask_21 (by decide) ?_
      refine wx_puti (C := RX12) (T := TX12) (N := 27) (ci := 11) (j := 25) (ty := .int) hx hb hts hi_X12 tyX12 tyX12_ok nmX12 hown hK hX hS (by decide) sh_X12_25 rfl (by decide) (hts (.fieldLink RX12 224 "SeenAgainModel" "traces" "I") (by decide +kernel)) (fun _ h9 => h9) rfl (by decide +kernel) rfl rfl dX12_ask_22 (fun H locs hX hS => ?_)
      obtain ⟨g_6, eg_6, hX⟩ := wx_nm hX
      refine lv_iload_n hx hb dX12_ask_25 rfl (lv_at hl 2 rfl) ?_
      refine lv_if_ne (tgt := 35) hx hb dX12_ask_26 (by decide) (fun c_7 => ?_) (fun c_7 => ?_)
      · have b_8 : wx_b a2 1 1 := wb_nel c_7 b_5 (by decide)
        refine lv_aload_n hx hb dX12_ask_35 rfl (lv_at hl 0 rfl) ?_
        refine wx_getr (t := 65) (C := RX12) (T := TX12) (N := 27) (ci := 11) (j := 20) hx hb hts hi_X12 hown hK hX (by decide) sh_X12_20 rfl (by decide) (hts (.fieldLink RX12 31 "SeenAgainModel" "now" "[I") (by decide +kernel)) (fun _ h9 => h9) dX12_ask_36 ?_
        refine lv_bipush (v := 43) hx hb dX12_ask_39 (by decide) ?_
        refine lv_iload_n hx hb dX12_ask_41 rfl (lv_at hl 1 rfl) ?_
        refine lv_iadd hx hb dX12_ask_42 ?_
        refine wx_iald hx hb hK hX (by decide) sa_65 (wb_in (wb_add (show wx_b 43 43 43 from ⟨by decide, by decide⟩) b_3 (by decide) (by decide)) (by decide) (by decide)) dX12_ask_43 ?_
        refine lv_iconst (v := 4) hx hb dX12_ask_44 (by decide) ?_
        refine lv_icmp_ge (tgt := 54) hx hb dX12_ask_45 (by decide) (fun c_9 => ?_) (fun c_9 => ?_)
        · have b_10 : wx_b (g_6 65 (43 + a1).toNatClampNeg) 4 2147483647 := wb_ge c_9 (wb_any _) (show wx_b 4 4 4 from ⟨by decide, by decide⟩) (by decide) (by decide)
          refine lv_aload_n hx hb dX12_ask_54 rfl (lv_at hl 0 rfl) ?_
          refine lv_bipush (v := 23) hx hb dX12_ask_55 (by decide) ?_
          refine wx_callev (va_runV (As := [.int 23]) (rest := []) ⟨hx, hb, hml, hown, hts⟩ (k_X12_leave l g_6 23 (wb_w (show wx_b (g_6 57 25) 0 0 by rw [show (g_6 57 25) = 0 from (by rw [eg_6, up2_ss])]; exact (show wx_b 0 0 0 from ⟨by decide, by decide⟩)) (by decide) (by decide))) (cwV 1 hts gX12_ask_X12_leave rfl rfl rfl (by decide +kernel) (by rw [hR]; exact ⟨Nat.le_of_ble_eq_true rfl, Nat.le_of_ble_eq_true rfl⟩)) ⟨wx_Pc.blind, wx_recv hK hX (by decide) sh_X12 rfl, (wx_Pc.pre hK hX).2⟩ rfl rfl hl.1 rfl (lv_room (Nat.le_of_ble_eq_true rfl)) dX12_ask_57 ⟨Nat.zero_le _, Nat.zero_le _⟩) hS (fun H locs hX hS => ?_)
          obtain ⟨g_11, eg_11, hX⟩ := wx_nm hX
          have bt_12 : wx_b (g_11 57 25) 0 16 := by rw [eg_11]; exact tb_X12_leave (wb_w (show wx_b (g_6 57 25) 0 0 by rw [show (g_6 57 25) = 0 from (by rw [eg_6, up2_ss])]; exact (show wx_b 0 0 0 from ⟨by decide, by decide⟩)) (by decide) (by decide))
          refine lv_aload_n hx hb dX12_ask_60 rfl (lv_at hl 0 rfl) ?_
          refine lv_bipush (v := 20) hx hb dX12_ask_61 (by decide) ?_
          refine wx_callev (va_runV (As := [.int 20]) (rest := []) ⟨hx, hb, hml, hown, hts⟩ (k_X12_leave l g_11 20 (wb_w bt_12 (by decide) (by decide))) (cwV 1 hts gX12_ask_X12_leave rfl rfl rfl (by decide +kernel) (by rw [hR]; exact ⟨Nat.le_of_ble_eq_true rfl, Nat.le_of_ble_eq_true rfl⟩)) ⟨wx_Pc.blind, wx_recv hK hX (by decide) sh_X12 rfl, (wx_Pc.pre hK hX).2⟩ rfl rfl hl.1 rfl (lv_room (Nat.le_of_ble_eq_true rfl)) dX12_ask_63 ⟨Nat.zero_le _, Nat.zero_le _⟩) hS (fun H locs hX hS => ?_)
          obtain ⟨g_13, eg_13, hX⟩ := wx_nm hX
          have bt_14 : wx_b (g_13 57 25) 0 16 := by rw [eg_13]; exact tb_X12_leave bt_12
          refine lv_iload_n hx hb dX12_ask_66 rfl (lv_at hl 1 rfl) ?_
          refine lv_aload_n hx hb dX12_ask_67 rfl (lv_at hl 0 rfl) ?_
          refine lv_iload_n hx hb dX12_ask_68 rfl (lv_at hl 1 rfl) ?_
          refine wx_callei (va_runV (As := [.int a1]) (rest := [.int a1]) ⟨hx, hb, hml, hown, hts⟩ (k_X12_sizeOf l g_13 a1 b_3 (wb_w bt_14 (by decide) (by decide))) (cwV 1 hts gX12_ask_X12_sizeOf rfl rfl rfl (by decide +kernel) (by rw [hR]; exact ⟨Nat.le_of_ble_eq_true rfl, Nat.le_of_ble_eq_true rfl⟩)) ⟨wx_Pc.blind, wx_recv hK hX (by decide) sh_X12 rfl, (wx_Pc.pre hK hX).2⟩ rfl rfl hl.1 rfl (lv_room (Nat.le_of_ble_eq_true rfl)) dX12_ask_69 ⟨Nat.zero_le _, Nat.zero_le _⟩) hS (fun H locs hX hS => ?_)
          obtain ⟨z_15, ez_15⟩ : ∃ z, z = f_X12_sizeOf g_13 a1 := ⟨_, rfl⟩
          rw [← ez_15] at hX; rw [← ez_15]
          have bt_16 : wx_b (z_15.1 57 25) 0 16 := by rw [ez_15]; exact tb_X12_sizeOf bt_14
          refine lv_isub hx hb dX12_ask_72 ?_
          refine lv_topi (fun x_17 ex_17 => ?_)
          exact hret _ _ _ _ _ _ dX12_ask_73 rfl hX hS (by subst ex_17 ez_15 eg_13 eg_11 eg_6; simp only [f_X12_ask, if_neg c_1, if_neg c_4, if_neg c_7, if_pos c_9])
        · have b_18 : wx_b (g_6 65 (43 + a1).toNatClampNeg) (-2147483648) 3 := wb_lt (wb_nle c_9) (wb_any _) (show wx_b 4 4 4 from ⟨by decide, by decide⟩) (by decide) (by decide)
          refine lv_aload_n hx hb dX12_ask_48 rfl (lv_at hl 0 rfl) ?_
          refine lv_iload_n hx hb dX12_ask_49 rfl (lv_at hl 1 rfl) ?_
          refine wx_callei (va_runV (As := [.int a1]) (rest := []) ⟨hx, hb, hml, hown, hts⟩ (k_X12_tourMark l g_6 a1 b_3 (wb_w (show wx_b (g_6 57 25) 0 0 by rw [show (g_6 57 25) = 0 from (by rw [eg_6, up2_ss])]; exact (show wx_b 0 0 0 from ⟨by decide, by decide⟩)) (by decide) (by decide))) (cwV 1 hts gX12_ask_X12_tourMark rfl rfl rfl (by decide +kernel) (by rw [hR]; exact ⟨Nat.le_of_ble_eq_true rfl, Nat.le_of_ble_eq_true rfl⟩)) ⟨wx_Pc.blind, wx_recv hK hX (by decide) sh_X12 rfl, (wx_Pc.pre hK hX).2⟩ rfl rfl hl.1 rfl (lv_room (Nat.le_of_ble_eq_true rfl)) dX12_ask_50 ⟨Nat.zero_le _, Nat.zero_le _⟩) hS (fun H locs hX hS => ?_)
          obtain ⟨z_19, ez_19⟩ : ∃ z, z = f_X12_tourMark g_6 a1 := ⟨_, rfl⟩
          rw [← ez_19] at hX; rw [← ez_19]
          have bt_20 : wx_b (z_19.1 57 25) 0 16 := by rw [ez_19]; exact tb_X12_tourMark (wb_w (show wx_b (g_6 57 25) 0 0 by rw [show (g_6 57 25) = 0 from (by rw [eg_6, up2_ss])]; exact (show wx_b 0 0 0 from ⟨by decide, by decide⟩)) (by decide) (by decide))
          exact hret _ _ _ _ _ _ dX12_ask_53 rfl hX hS (by subst ez_19 eg_6; simp only [f_X12_ask, if_neg c_1, if_neg c_4, if_neg c_7, if_neg c_9])
      · have b_21 : wx_b a2 0 0 := by rw [c_7]; exact ⟨by decide, by decide⟩
        refine lv_aload_n hx hb dX12_ask_29 rfl (lv_at hl 0 rfl) ?_
        refine lv_iload_n hx hb dX12_ask_30 rfl (lv_at hl 1 rfl) ?_
        refine wx_callei (va_runV (As := [.int a1]) (rest := []) ⟨hx, hb, hml, hown, hts⟩ (k_X12_sizeOf l g_6 a1 b_3 (wb_w (show wx_b (g_6 57 25) 0 0 by rw [show (g_6 57 25) = 0 from (by rw [eg_6, up2_ss])]; exact (show wx_b 0 0 0 from ⟨by decide, by decide⟩)) (by decide) (by decide))) (cwV 1 hts gX12_ask_X12_sizeOf rfl rfl rfl (by decide +kernel) (by rw [hR]; exact ⟨Nat.le_of_ble_eq_true rfl, Nat.le_of_ble_eq_true rfl⟩)) ⟨wx_Pc.blind, wx_recv hK hX (by decide) sh_X12 rfl, (wx_Pc.pre hK hX).2⟩ rfl rfl hl.1 rfl (lv_room (Nat.le_of_ble_eq_true rfl)) dX12_ask_31 ⟨Nat.zero_le _, Nat.zero_le _⟩) hS (fun H locs hX hS => ?_)
        obtain ⟨z_22, ez_22⟩ : ∃ z, z = f_X12_sizeOf g_6 a1 := ⟨_, rfl⟩
        rw [← ez_22] at hX; rw [← ez_22]
        have bt_23 : wx_b (z_22.1 57 25) 0 16 := by rw [ez_22]; exact tb_X12_sizeOf (wb_w (show wx_b (g_6 57 25) 0 0 by rw [show (g_6 57 25) = 0 from (by rw [eg_6, up2_ss])]; exact (show wx_b 0 0 0 from ⟨by decide, by decide⟩)) (by decide) (by decide))
        exact hret _ _ _ _ _ _ dX12_ask_34 rfl hX hS (by subst ez_22 eg_6; simp only [f_X12_ask, if_neg c_1, if_neg c_4, if_pos c_7])
    · have b_24 : wx_b (r_X12_in a2 0 1) 0 0 := by rw [c_4]; exact ⟨by decide, by decide⟩
      refine lv_ldc hx hb hown (hts (.constant RX12 60 (-1000001)) (by decide +kernel)) dX12_ask_17 ?_
      exact hret _ _ _ _ _ _ dX12_ask_19 rfl hX hS (by simp only [f_X12_ask, if_neg c_1, if_pos c_4])
