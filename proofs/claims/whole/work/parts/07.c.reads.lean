def b_X12_nextToken_52 (g : wx_M) (x_1 : Int32) (g_2 : wx_M) (g_3 : wx_M) (t_52 : Nat) (s_52 : wx_M) : (wx_M) ⊕ (wx_M) :=
  if (s_52 57 4) ≤ (s_52 57 6) then
    if ((s_52 57 6) - (s_52 57 7)) ≤ 2 then
      let g_31 := up2 s_52 57 8 (-1)
      .inr (g_31)
    else
      let g_35 := up2 s_52 57 8 (-4)
      .inr (g_35)
  else
    if (r_X12_in (s_52 61 (s_52 57 6).toNatClampNeg) 48 57) = 0 then
      if ((s_52 57 6) - (s_52 57 7)) ≤ 2 then
        let g_44 := up2 s_52 57 8 (-1)
        .inr (g_44)
      else
        let g_48 := up2 s_52 57 8 (-4)
        .inr (g_48)
    else
      if 2 ≤ ((s_52 57 6) - (s_52 57 7)) then
        let x_54 := (s_52 57 9)
        let g_55 := up2 s_52 57 9 x_54
        let x_56 := ((g_55 57 6) + 1)
        let g_57 := up2 g_55 57 6 x_56
        .inl g_57
      else
        let x_60 := (((10 * (s_52 57 9)) + (s_52 61 (s_52 57 6).toNatClampNeg)) - 48)
        let g_61 := up2 s_52 57 9 x_60
        let x_62 := ((g_61 57 6) + 1)
        let g_63 := up2 g_61 57 6 x_62
        .inl g_63
def e_X12_nextToken (g : wx_M) : wx_M :=
  let x_1 := (g 57 6)
  let g_2 := up2 g 57 7 x_1
  let g_3 := up2 g_2 57 9 0
  if (g_3 57 6) = (g_3 57 4) then
    let g_65 := up2 g_3 57 8 (-2)
    g_65
  else
    if (r_X12_in (g_3 61 (g_3 57 6).toNatClampNeg) 48 57) = 0 then
      let x_7 := (g_3 61 (g_3 57 6).toNatClampNeg)
      if (r_X12_in x_7 97 122) = 0 then
        if x_7 = 44 then
          let g_16 := up2 g_3 57 8 x_7
          let x_17 := ((g_16 57 6) + 1)
          let g_18 := up2 g_16 57 6 x_17
          g_18
        else
          if x_7 = 59 then
            let g_24 := up2 g_3 57 8 x_7
            let x_25 := ((g_24 57 6) + 1)
            let g_26 := up2 g_24 57 6 x_25
            g_26
          else
            let g_20 := up2 g_3 57 8 (-4)
            let x_21 := ((g_20 57 6) + 1)
            let g_22 := up2 g_20 57 6 x_21
            g_22
      else
        let g_10 := up2 g_3 57 8 x_7
        let x_11 := ((g_10 57 6) + 1)
        let g_12 := up2 g_10 57 6 x_11
        g_12
    else
      (match repX 142 (b_X12_nextToken_52 g x_1 g_2 g_3) g_3 with
      | .inl s_52 =>
        g
      | .inr r9 => r9)
set_option maxHeartbeats 4000000 in
set_option maxRecDepth 100000 in
theorem k_X12_nextToken (l : Launch) {D : va_G} {cy : Nat → ClassId} {ad : Nat → Nat} {B0 : Nat} {f : wx_F} {P : va_W} (g : wx_M) (hpr : wx_PR g) : Met l yX12_nextToken wsX12_nextToken ({ frames := 1, cells := 0, slots := 0, locals := 22 } : Room) (wx_Pc D cy ad B0 f P g [.ref (ad 57)]) (wx_Qe D cy ad B0 f P (e_X12_nextToken g) none) 0 0 (fun q => B0 ≤ q) := by
  refine wx_enterV (cc := cX12_nextToken) (maxL := 2) (own := RX12) (lv := [(0, .ref (ad 57))]) (by decide) rfl rfl (Nat.le_of_ble_eq_true rfl) rfl ?_
  intro p e R s m args below meth c ls Qm hx hb hml hown hts hK hX hS hR hret hl
  have hi_X12 : ∀ w ∈ wsX120, w ∈ wsX12_nextToken := by decide +kernel
  refine lv_aload_n hx hb dX12_nextToken_0 rfl (lv_at hl 0 rfl) ?_
  refine lv_aload_n hx hb dX12_nextToken_1 rfl (lv_at hl 0 rfl) ?_
  refine wx_geti (C := RX12) (T := TX12) (N := 27) (ci := 11) (j := 6) hx hb hts hi_X12 hown hK hX (by decide) sh_X12_6 rfl (by decide) (hts (.fieldLink RX12 75 "SeenAgainModel" "position" "I") (by decide +kernel)) (fun _ h9 => h9) dX12_nextToken_2 ?_
  refine lv_topi (fun x_1 ex_1 => ?_)
  have bx_1 : wx_b x_1 0 140 := by rw [ex_1]; exact (show wx_PR g from hpr).1.2.1
  refine wx_puti (C := RX12) (T := TX12) (N := 27) (ci := 11) (j := 7) (ty := .int) hx hb hts hi_X12 tyX12 tyX12_ok nmX12 hown hK hX hS (by decide) sh_X12_7 rfl (by decide) (hts (.fieldLink RX12 78 "SeenAgainModel" "tokenAt" "I") (by decide +kernel)) (fun _ h9 => h9) rfl (by decide +kernel) rfl rfl dX12_nextToken_5 (fun H locs hX hS => ?_)
  obtain ⟨g_2, eg_2, hX⟩ := wx_nm hX
  refine lv_aload_n hx hb dX12_nextToken_8 rfl (lv_at hl 0 rfl) ?_
  refine lv_iconst (v := 0) hx hb dX12_nextToken_9 (by decide) ?_
  refine wx_puti (C := RX12) (T := TX12) (N := 27) (ci := 11) (j := 9) (ty := .int) hx hb hts hi_X12 tyX12 tyX12_ok nmX12 hown hK hX hS (by decide) sh_X12_9 rfl (by decide) (hts (.fieldLink RX12 81 "SeenAgainModel" "number" "I") (by decide +kernel)) (fun _ h9 => h9) rfl (by decide +kernel) rfl rfl dX12_nextToken_10 (fun H locs hX hS => ?_)
  obtain ⟨g_3, eg_3, hX⟩ := wx_nm hX
  refine lv_aload_n hx hb dX12_nextToken_13 rfl (lv_at hl 0 rfl) ?_
  refine wx_geti (C := RX12) (T := TX12) (N := 27) (ci := 11) (j := 6) hx hb hts hi_X12 hown hK hX (by decide) sh_X12_6 rfl (by decide) (hts (.fieldLink RX12 75 "SeenAgainModel" "position" "I") (by decide +kernel)) (fun _ h9 => h9) dX12_nextToken_14 ?_
  refine lv_aload_n hx hb dX12_nextToken_17 rfl (lv_at hl 0 rfl) ?_
  refine wx_geti (C := RX12) (T := TX12) (N := 27) (ci := 11) (j := 4) hx hb hts hi_X12 hown hK hX (by decide) sh_X12_4 rfl (by decide) (hts (.fieldLink RX12 71 "SeenAgainModel" "bytes" "I") (by decide +kernel)) (fun _ h9 => h9) dX12_nextToken_18 ?_
  refine lv_icmp_ne (tgt := 33) hx hb dX12_nextToken_21 (by decide) (fun c_4 => ?_) (fun c_4 => ?_)
  · have hlt_nt : wx_b (g_3 57 6) 0 139 := pr_lt (by rw [eg_3]; exact pr_o (by decide) (by decide) (by decide) (by decide) (by decide) (by decide) (by rw [eg_2]; exact pr_o (by decide) (by decide) (by decide) (by decide) (by decide) (by decide) hpr)) c_4
    refine lv_aload_n hx hb dX12_nextToken_33 rfl (lv_at hl 0 rfl) ?_
    refine wx_getr (t := 61) (C := RX12) (T := TX12) (N := 27) (ci := 11) (j := 5) hx hb hts hi_X12 hown hK hX (by decide) sh_X12_5 rfl (by decide) (hts (.fieldLink RX12 19 "SeenAgainModel" "tape" "[I") (by decide +kernel)) (fun _ h9 => h9) dX12_nextToken_34 ?_
    refine lv_aload_n hx hb dX12_nextToken_37 rfl (lv_at hl 0 rfl) ?_
    refine wx_geti (C := RX12) (T := TX12) (N := 27) (ci := 11) (j := 6) hx hb hts hi_X12 hown hK hX (by decide) sh_X12_6 rfl (by decide) (hts (.fieldLink RX12 75 "SeenAgainModel" "position" "I") (by decide +kernel)) (fun _ h9 => h9) dX12_nextToken_38 ?_
    refine wx_iald hx hb hK hX (by decide) sa_61 (wb_in hlt_nt (by decide) (by decide)) dX12_nextToken_41 ?_
    refine lv_bipush (v := 48) hx hb dX12_nextToken_42 (by decide) ?_
    refine lv_bipush (v := 57) hx hb dX12_nextToken_44 (by decide) ?_
    refine wx_callr (va_runS (As := [.int (g_3 61 (g_3 57 6).toNatClampNeg), .int 48, .int 57]) (rest := []) ⟨hx, hb, hml, hown, hts⟩ (k_X12_in l g_3 (g_3 61 (g_3 57 6).toNatClampNeg) 48 57) (va_cwS 3 hts gX12_nextToken_X12_in rfl rfl rfl (by decide +kernel) (by rw [hR]; exact ⟨Nat.le_of_ble_eq_true rfl, Nat.le_of_ble_eq_true rfl⟩)) (wx_Pc.pre hK hX) rfl rfl hl.1 rfl (lv_room (Nat.le_of_ble_eq_true rfl)) dX12_nextToken_46 ⟨Nat.zero_le _, Nat.zero_le _⟩) ?_
    refine lv_if_eq (tgt := 165) hx hb dX12_nextToken_49 (by decide) (fun c_5 => ?_) (fun c_5 => ?_)
    · have b_6 : wx_b (r_X12_in (g_3 61 (g_3 57 6).toNatClampNeg) 48 57) 0 0 := by rw [c_5]; exact ⟨by decide, by decide⟩
      refine lv_aload_n hx hb dX12_nextToken_165 rfl (lv_at hl 0 rfl) ?_
      refine wx_getr (t := 61) (C := RX12) (T := TX12) (N := 27) (ci := 11) (j := 5) hx hb hts hi_X12 hown hK hX (by decide) sh_X12_5 rfl (by decide) (hts (.fieldLink RX12 19 "SeenAgainModel" "tape" "[I") (by decide +kernel)) (fun _ h9 => h9) dX12_nextToken_166 ?_
      refine lv_aload_n hx hb dX12_nextToken_169 rfl (lv_at hl 0 rfl) ?_
      refine wx_geti (C := RX12) (T := TX12) (N := 27) (ci := 11) (j := 6) hx hb hts hi_X12 hown hK hX (by decide) sh_X12_6 rfl (by decide) (hts (.fieldLink RX12 75 "SeenAgainModel" "position" "I") (by decide +kernel)) (fun _ h9 => h9) dX12_nextToken_170 ?_
      refine wx_iald hx hb hK hX (by decide) sa_61 (wb_in hlt_nt (by decide) (by decide)) dX12_nextToken_173 ?_
      refine lv_topi (fun x_7 ex_7 => ?_)
      refine lv_istore_n (lv' := [(1, .int x_7), (0, .ref (ad 57))]) hx hb dX12_nextToken_174 rfl hl (by decide) rfl (fun ls hl => ?_)
      refine lv_aload_n hx hb dX12_nextToken_175 rfl (lv_at hl 1 rfl) ?_
      refine lv_iload_n hx hb dX12_nextToken_176 rfl (lv_at hl 0 rfl) ?_
      refine lv_bipush (v := 97) hx hb dX12_nextToken_177 (by decide) ?_
      refine lv_bipush (v := 122) hx hb dX12_nextToken_179 (by decide) ?_
      refine wx_callr (va_runS (As := [.int x_7, .int 97, .int 122]) (rest := [.ref (ad 57)]) ⟨hx, hb, hml, hown, hts⟩ (k_X12_in l g_3 x_7 97 122) (va_cwS 3 hts gX12_nextToken_X12_in rfl rfl rfl (by decide +kernel) (by rw [hR]; exact ⟨Nat.le_of_ble_eq_true rfl, Nat.le_of_ble_eq_true rfl⟩)) (wx_Pc.pre hK hX) rfl rfl hl.1 rfl (lv_room (Nat.le_of_ble_eq_true rfl)) dX12_nextToken_181 ⟨Nat.zero_le _, Nat.zero_le _⟩) ?_
      refine lv_if_ne (tgt := 199) hx hb dX12_nextToken_184 (by decide) (fun c_8 => ?_) (fun c_8 => ?_)
      · have b_9 : wx_b x_7 97 122 := rf_X12_in (show wx_b 97 97 97 from ⟨by decide, by decide⟩) (show wx_b 122 122 122 from ⟨by decide, by decide⟩) c_8
        refine lv_iload_n hx hb dX12_nextToken_199 rfl (lv_at hl 0 rfl) ?_
        refine lv_goto (tgt := 205) hx hb dX12_nextToken_200 (by decide) ?_
        refine wx_puti (C := RX12) (T := TX12) (N := 27) (ci := 11) (j := 8) (ty := .int) hx hb hts hi_X12 tyX12 tyX12_ok nmX12 hown hK hX hS (by decide) sh_X12_8 rfl (by decide) (hts (.fieldLink RX12 84 "SeenAgainModel" "token" "I") (by decide +kernel)) (fun _ h9 => h9) rfl (by decide +kernel) rfl rfl dX12_nextToken_205 (fun H locs hX hS => ?_)
        obtain ⟨g_10, eg_10, hX⟩ := wx_nm hX
        refine lv_aload_n hx hb dX12_nextToken_208 rfl (lv_at hl 1 rfl) ?_
        refine lv_dup hx hb dX12_nextToken_209 rfl ?_
        refine wx_geti (C := RX12) (T := TX12) (N := 27) (ci := 11) (j := 6) hx hb hts hi_X12 hown hK hX (by decide) sh_X12_6 rfl (by decide) (hts (.fieldLink RX12 75 "SeenAgainModel" "position" "I") (by decide +kernel)) (fun _ h9 => h9) dX12_nextToken_210 ?_
        refine lv_iconst (v := 1) hx hb dX12_nextToken_213 (by decide) ?_
        refine lv_iadd hx hb dX12_nextToken_214 ?_
        refine lv_topi (fun x_11 ex_11 => ?_)
        have bx_11 : wx_b x_11 1 140 := by rw [ex_11]; exact (wb_add (show wx_b (g_10 57 6) 0 139 by rw [show (g_10 57 6) = (g_3 57 6) from (by rw [eg_10, up2_sn (by decide)])]; exact hlt_nt) (show wx_b 1 1 1 from ⟨by decide, by decide⟩) (by decide) (by decide))
        refine wx_puti (C := RX12) (T := TX12) (N := 27) (ci := 11) (j := 6) (ty := .int) hx hb hts hi_X12 tyX12 tyX12_ok nmX12 hown hK hX hS (by decide) sh_X12_6 rfl (by decide) (hts (.fieldLink RX12 75 "SeenAgainModel" "position" "I") (by decide +kernel)) (fun _ h9 => h9) rfl (by decide +kernel) rfl rfl dX12_nextToken_215 (fun H locs hX hS => ?_)
        obtain ⟨g_12, eg_12, hX⟩ := wx_nm hX
        exact hret _ _ _ _ _ dX12_nextToken_218 hX hS (by subst eg_12 ex_11 eg_10 ex_7 eg_3 eg_2 ex_1; simp only [e_X12_nextToken, if_neg c_4, if_pos c_5, if_neg c_8])
      · have b_13 : wx_b (r_X12_in x_7 97 122) 0 0 := by rw [c_8]; exact ⟨by decide, by decide⟩
        refine lv_iload_n hx hb dX12_nextToken_187 rfl (lv_at hl 0 rfl) ?_
        refine lv_bipush (v := 44) hx hb dX12_nextToken_188 (by decide) ?_
        refine lv_icmp_eq (tgt := 199) hx hb dX12_nextToken_190 (by decide) (fun c_14 => ?_) (fun c_14 => ?_)
        · have b_15 : wx_b x_7 44 44 := by rw [c_14]; exact ⟨by decide, by decide⟩
          refine lv_iload_n hx hb dX12_nextToken_199 rfl (lv_at hl 0 rfl) ?_
          refine lv_goto (tgt := 205) hx hb dX12_nextToken_200 (by decide) ?_
          refine wx_puti (C := RX12) (T := TX12) (N := 27) (ci := 11) (j := 8) (ty := .int) hx hb hts hi_X12 tyX12 tyX12_ok nmX12 hown hK hX hS (by decide) sh_X12_8 rfl (by decide) (hts (.fieldLink RX12 84 "SeenAgainModel" "token" "I") (by decide +kernel)) (fun _ h9 => h9) rfl (by decide +kernel) rfl rfl dX12_nextToken_205 (fun H locs hX hS => ?_)
          obtain ⟨g_16, eg_16, hX⟩ := wx_nm hX
          refine lv_aload_n hx hb dX12_nextToken_208 rfl (lv_at hl 1 rfl) ?_
          refine lv_dup hx hb dX12_nextToken_209 rfl ?_
          refine wx_geti (C := RX12) (T := TX12) (N := 27) (ci := 11) (j := 6) hx hb hts hi_X12 hown hK hX (by decide) sh_X12_6 rfl (by decide) (hts (.fieldLink RX12 75 "SeenAgainModel" "position" "I") (by decide +kernel)) (fun _ h9 => h9) dX12_nextToken_210 ?_
          refine lv_iconst (v := 1) hx hb dX12_nextToken_213 (by decide) ?_
          refine lv_iadd hx hb dX12_nextToken_214 ?_
          refine lv_topi (fun x_17 ex_17 => ?_)
          have bx_17 : wx_b x_17 1 140 := by rw [ex_17]; exact (wb_add (show wx_b (g_16 57 6) 0 139 by rw [show (g_16 57 6) = (g_3 57 6) from (by rw [eg_16, up2_sn (by decide)])]; exact hlt_nt) (show wx_b 1 1 1 from ⟨by decide, by decide⟩) (by decide) (by decide))
          refine wx_puti (C := RX12) (T := TX12) (N := 27) (ci := 11) (j := 6) (ty := .int) hx hb hts hi_X12 tyX12 tyX12_ok nmX12 hown hK hX hS (by decide) sh_X12_6 rfl (by decide) (hts (.fieldLink RX12 75 "SeenAgainModel" "position" "I") (by decide +kernel)) (fun _ h9 => h9) rfl (by decide +kernel) rfl rfl dX12_nextToken_215 (fun H locs hX hS => ?_)
          obtain ⟨g_18, eg_18, hX⟩ := wx_nm hX
          exact hret _ _ _ _ _ dX12_nextToken_218 hX hS (by subst eg_18 ex_17 eg_16 ex_7 eg_3 eg_2 ex_1; simp only [e_X12_nextToken, if_neg c_4, if_pos c_5, if_pos c_8, if_pos c_14])
        · refine lv_iload_n hx hb dX12_nextToken_193 rfl (lv_at hl 0 rfl) ?_
          refine lv_bipush (v := 59) hx hb dX12_nextToken_194 (by decide) ?_
          refine lv_icmp_ne (tgt := 203) hx hb dX12_nextToken_196 (by decide) (fun c_19 => ?_) (fun c_19 => ?_)
          · refine lv_bipush (v := (-4)) hx hb dX12_nextToken_203 (by decide) ?_
            refine wx_puti (C := RX12) (T := TX12) (N := 27) (ci := 11) (j := 8) (ty := .int) hx hb hts hi_X12 tyX12 tyX12_ok nmX12 hown hK hX hS (by decide) sh_X12_8 rfl (by decide) (hts (.fieldLink RX12 84 "SeenAgainModel" "token" "I") (by decide +kernel)) (fun _ h9 => h9) rfl (by decide +kernel) rfl rfl dX12_nextToken_205 (fun H locs hX hS => ?_)
            obtain ⟨g_20, eg_20, hX⟩ := wx_nm hX
            refine lv_aload_n hx hb dX12_nextToken_208 rfl (lv_at hl 1 rfl) ?_
            refine lv_dup hx hb dX12_nextToken_209 rfl ?_
            refine wx_geti (C := RX12) (T := TX12) (N := 27) (ci := 11) (j := 6) hx hb hts hi_X12 hown hK hX (by decide) sh_X12_6 rfl (by decide) (hts (.fieldLink RX12 75 "SeenAgainModel" "position" "I") (by decide +kernel)) (fun _ h9 => h9) dX12_nextToken_210 ?_
            refine lv_iconst (v := 1) hx hb dX12_nextToken_213 (by decide) ?_
            refine lv_iadd hx hb dX12_nextToken_214 ?_
            refine lv_topi (fun x_21 ex_21 => ?_)
            have bx_21 : wx_b x_21 1 140 := by rw [ex_21]; exact (wb_add (show wx_b (g_20 57 6) 0 139 by rw [show (g_20 57 6) = (g_3 57 6) from (by rw [eg_20, up2_sn (by decide)])]; exact hlt_nt) (show wx_b 1 1 1 from ⟨by decide, by decide⟩) (by decide) (by decide))
            refine wx_puti (C := RX12) (T := TX12) (N := 27) (ci := 11) (j := 6) (ty := .int) hx hb hts hi_X12 tyX12 tyX12_ok nmX12 hown hK hX hS (by decide) sh_X12_6 rfl (by decide) (hts (.fieldLink RX12 75 "SeenAgainModel" "position" "I") (by decide +kernel)) (fun _ h9 => h9) rfl (by decide +kernel) rfl rfl dX12_nextToken_215 (fun H locs hX hS => ?_)
            obtain ⟨g_22, eg_22, hX⟩ := wx_nm hX
            exact hret _ _ _ _ _ dX12_nextToken_218 hX hS (by subst eg_22 ex_21 eg_20 ex_7 eg_3 eg_2 ex_1; simp only [e_X12_nextToken, if_neg c_4, if_pos c_5, if_pos c_8, if_neg c_14, if_neg c_19])
          · have b_23 : wx_b x_7 59 59 := by rw [c_19]; exact ⟨by decide, by decide⟩
            refine lv_iload_n hx hb dX12_nextToken_199 rfl (lv_at hl 0 rfl) ?_
            refine lv_goto (tgt := 205) hx hb dX12_nextToken_200 (by decide) ?_
            refine wx_puti (C := RX12) (T := TX12) (N := 27) (ci := 11) (j := 8) (ty := .int) hx hb hts hi_X12 tyX12 tyX12_ok nmX12 hown hK hX hS (by decide) sh_X12_8 rfl (by decide) (hts (.fieldLink RX12 84 "SeenAgainModel" "token" "I") (by decide +kernel)) (fun _ h9 => h9) rfl (by decide +kernel) rfl rfl dX12_nextToken_205 (fun H locs hX hS => ?_)
            obtain ⟨g_24, eg_24, hX⟩ := wx_nm hX
            refine lv_aload_n hx hb dX12_nextToken_208 rfl (lv_at hl 1 rfl) ?_
            refine lv_dup hx hb dX12_nextToken_209 rfl ?_
            refine wx_geti (C := RX12) (T := TX12) (N := 27) (ci := 11) (j := 6) hx hb hts hi_X12 hown hK hX (by decide) sh_X12_6 rfl (by decide) (hts (.fieldLink RX12 75 "SeenAgainModel" "position" "I") (by decide +kernel)) (fun _ h9 => h9) dX12_nextToken_210 ?_
            refine lv_iconst (v := 1) hx hb dX12_nextToken_213 (by decide) ?_
            refine lv_iadd hx hb dX12_nextToken_214 ?_
            refine lv_topi (fun x_25 ex_25 => ?_)
            have bx_25 : wx_b x_25 1 140 := by rw [ex_25]; exact (wb_add (show wx_b (g_24 57 6) 0 139 by rw [show (g_24 57 6) = (g_3 57 6) from (by rw [eg_24, up2_sn (by decide)])]; exact hlt_nt) (show wx_b 1 1 1 from ⟨by decide, by decide⟩) (by decide) (by decide))
            refine wx_puti (C := RX12) (T := TX12) (N := 27) (ci := 11) (j := 6) (ty := .int) hx hb hts hi_X12 tyX12 tyX12_ok nmX12 hown hK hX hS (by decide) sh_X12_6 rfl (by decide) (hts (.fieldLink RX12 75 "SeenAgainModel" "position" "I") (by decide +kernel)) (fun _ h9 => h9) rfl (by decide +kernel) rfl rfl dX12_nextToken_215 (fun H locs hX hS => ?_)
            obtain ⟨g_26, eg_26, hX⟩ := wx_nm hX
            exact hret _ _ _ _ _ dX12_nextToken_218 hX hS (by subst eg_26 ex_25 eg_24 ex_7 eg_3 eg_2 ex_1; simp only [e_X12_nextToken, if_neg c_4, if_pos c_5, if_pos c_8, if_neg c_14, if_pos c_19])
    · have b_27 : wx_b (g_3 61 (g_3 57 6).toNatClampNeg) 48 57 := rf_X12_in (show wx_b 48 48 48 from ⟨by decide, by decide⟩) (show wx_b 57 57 57 from ⟨by decide, by decide⟩) c_5
      have lp_52 : ∀ (n t_52 : Nat) (s_52 : wx_M) (ls : Array Slot) (H : Heap) (locs : List Loc), t_52 < 142 → 142 ≤ t_52 + n → repX t_52 (b_X12_nextToken_52 g x_1 g_2 g_3) g_3 = .inl s_52 → wx_X D cy ad B0 f P s_52 H → va_S (fun q => B0 ≤ q) s.heap H locs → (t_52 ≤ (s_52 57 6).toNatClampNeg ∧ wx_PR s_52) → lv_has ls 2 [(0, .ref (ad 57))] → W p l e R s m args below meth c H locs 0 0 Qm (F0 m 52 ls []) := by
        intro n
        induction n with
        | zero => intro t_52 s_52 ls H locs h1 h2; exact absurd h2 (by omega)
        | succ n ih_52 =>
          intro t_52 s_52 ls H locs hlt_52 hn_52 es_52 hX hS hW_52 hl
          refine lv_aload_n hx hb dX12_nextToken_52 rfl (lv_at hl 0 rfl) ?_
          refine wx_geti (C := RX12) (T := TX12) (N := 27) (ci := 11) (j := 6) hx hb hts hi_X12 hown hK hX (by decide) sh_X12_6 rfl (by decide) (hts (.fieldLink RX12 75 "SeenAgainModel" "position" "I") (by decide +kernel)) (fun _ h9 => h9) dX12_nextToken_53 ?_
          refine lv_aload_n hx hb dX12_nextToken_56 rfl (lv_at hl 0 rfl) ?_
          refine wx_geti (C := RX12) (T := TX12) (N := 27) (ci := 11) (j := 4) hx hb hts hi_X12 hown hK hX (by decide) sh_X12_4 rfl (by decide) (hts (.fieldLink RX12 71 "SeenAgainModel" "bytes" "I") (by decide +kernel)) (fun _ h9 => h9) dX12_nextToken_57 ?_
          refine lv_icmp_ge (tgt := 139) hx hb dX12_nextToken_60 (by decide) (fun c_28 => ?_) (fun c_28 => ?_)
          · refine lv_aload_n hx hb dX12_nextToken_139 rfl (lv_at hl 0 rfl) ?_
            refine lv_aload_n hx hb dX12_nextToken_140 rfl (lv_at hl 0 rfl) ?_
            refine wx_geti (C := RX12) (T := TX12) (N := 27) (ci := 11) (j := 6) hx hb hts hi_X12 hown hK hX (by decide) sh_X12_6 rfl (by decide) (hts (.fieldLink RX12 75 "SeenAgainModel" "position" "I") (by decide +kernel)) (fun _ h9 => h9) dX12_nextToken_141 ?_
            refine lv_aload_n hx hb dX12_nextToken_144 rfl (lv_at hl 0 rfl) ?_
            refine wx_geti (C := RX12) (T := TX12) (N := 27) (ci := 11) (j := 7) hx hb hts hi_X12 hown hK hX (by decide) sh_X12_7 rfl (by decide) (hts (.fieldLink RX12 78 "SeenAgainModel" "tokenAt" "I") (by decide +kernel)) (fun _ h9 => h9) dX12_nextToken_145 ?_
            refine lv_isub hx hb dX12_nextToken_148 ?_
            refine lv_iconst (v := 2) hx hb dX12_nextToken_149 (by decide) ?_
            refine lv_icmp_le (tgt := 158) hx hb dX12_nextToken_150 (by decide) (fun c_29 => ?_) (fun c_29 => ?_)
            · have b_30 : wx_b ((s_52 57 6) - (s_52 57 7)) (-2147483648) 2 := wb_le c_29 (wb_any _) (show wx_b 2 2 2 from ⟨by decide, by decide⟩) (by decide) (by decide)
              refine lv_iconst (v := (-1)) hx hb dX12_nextToken_158 (by decide) ?_
              refine wx_puti (C := RX12) (T := TX12) (N := 27) (ci := 11) (j := 8) (ty := .int) hx hb hts hi_X12 tyX12 tyX12_ok nmX12 hown hK hX hS (by decide) sh_X12_8 rfl (by decide) (hts (.fieldLink RX12 84 "SeenAgainModel" "token" "I") (by decide +kernel)) (fun _ h9 => h9) rfl (by decide +kernel) rfl rfl dX12_nextToken_159 (fun H locs hX hS => ?_)
              obtain ⟨g_31, eg_31, hX⟩ := wx_nm hX
              refine lv_goto (tgt := 218) hx hb dX12_nextToken_162 (by decide) ?_
              have hF_32 : (b_X12_nextToken_52 g x_1 g_2 g_3) t_52 s_52 = .inr (g_31) := (by subst eg_31; simp only [b_X12_nextToken_52, if_pos c_28, if_pos c_29])
              have hO_33 : repX 142 (b_X12_nextToken_52 g x_1 g_2 g_3) g_3 = .inr (g_31) := repX_out es_52 hF_32 hlt_52
              exact hret _ _ _ _ _ dX12_nextToken_218 hX hS (by subst eg_3 eg_2 ex_1; simp only [e_X12_nextToken, if_neg c_4, if_neg c_5, hO_33])
            · have b_34 : wx_b ((s_52 57 6) - (s_52 57 7)) 3 2147483647 := wb_gt (wb_nle c_29) (wb_any _) (show wx_b 2 2 2 from ⟨by decide, by decide⟩) (by decide) (by decide)
              refine lv_bipush (v := (-4)) hx hb dX12_nextToken_153 (by decide) ?_
              refine lv_goto (tgt := 159) hx hb dX12_nextToken_155 (by decide) ?_
              refine wx_puti (C := RX12) (T := TX12) (N := 27) (ci := 11) (j := 8) (ty := .int) hx hb hts hi_X12 tyX12 tyX12_ok nmX12 hown hK hX hS (by decide) sh_X12_8 rfl (by decide) (hts (.fieldLink RX12 84 "SeenAgainModel" "token" "I") (by decide +kernel)) (fun _ h9 => h9) rfl (by decide +kernel) rfl rfl dX12_nextToken_159 (fun H locs hX hS => ?_)
              obtain ⟨g_35, eg_35, hX⟩ := wx_nm hX
              refine lv_goto (tgt := 218) hx hb dX12_nextToken_162 (by decide) ?_
              have hF_36 : (b_X12_nextToken_52 g x_1 g_2 g_3) t_52 s_52 = .inr (g_35) := (by subst eg_35; simp only [b_X12_nextToken_52, if_pos c_28, if_neg c_29])
              have hO_37 : repX 142 (b_X12_nextToken_52 g x_1 g_2 g_3) g_3 = .inr (g_35) := repX_out es_52 hF_36 hlt_52
              exact hret _ _ _ _ _ dX12_nextToken_218 hX hS (by subst eg_3 eg_2 ex_1; simp only [e_X12_nextToken, if_neg c_4, if_neg c_5, hO_37])
          · have b_38 : wx_b (s_52 57 6) 0 139 := wb_lt (wb_nle c_28) (show wx_PR s_52 from hW_52.2).1.2.1 (show wx_PR s_52 from hW_52.2).1.1 (by decide) (by decide)
            have b_39 : wx_b (s_52 57 4) 1 140 := wb_gt (wb_nle c_28) (show wx_PR s_52 from hW_52.2).1.1 (show wx_PR s_52 from hW_52.2).1.2.1 (by decide) (by decide)
            have hbp_52 : wx_b (s_52 57 6) 0 139 := pr_lt2 hW_52.2 c_28
            refine lv_aload_n hx hb dX12_nextToken_63 rfl (lv_at hl 0 rfl) ?_
            refine wx_getr (t := 61) (C := RX12) (T := TX12) (N := 27) (ci := 11) (j := 5) hx hb hts hi_X12 hown hK hX (by decide) sh_X12_5 rfl (by decide) (hts (.fieldLink RX12 19 "SeenAgainModel" "tape" "[I") (by decide +kernel)) (fun _ h9 => h9) dX12_nextToken_64 ?_
            refine lv_aload_n hx hb dX12_nextToken_67 rfl (lv_at hl 0 rfl) ?_
            refine wx_geti (C := RX12) (T := TX12) (N := 27) (ci := 11) (j := 6) hx hb hts hi_X12 hown hK hX (by decide) sh_X12_6 rfl (by decide) (hts (.fieldLink RX12 75 "SeenAgainModel" "position" "I") (by decide +kernel)) (fun _ h9 => h9) dX12_nextToken_68 ?_
            refine wx_iald hx hb hK hX (by decide) sa_61 (wb_in hbp_52 (by decide) (by decide)) dX12_nextToken_71 ?_
            refine lv_bipush (v := 48) hx hb dX12_nextToken_72 (by decide) ?_
            refine lv_bipush (v := 57) hx hb dX12_nextToken_74 (by decide) ?_
            refine wx_callr (va_runS (As := [.int (s_52 61 (s_52 57 6).toNatClampNeg), .int 48, .int 57]) (rest := []) ⟨hx, hb, hml, hown, hts⟩ (k_X12_in l s_52 (s_52 61 (s_52 57 6).toNatClampNeg) 48 57) (va_cwS 3 hts gX12_nextToken_X12_in rfl rfl rfl (by decide +kernel) (by rw [hR]; exact ⟨Nat.le_of_ble_eq_true rfl, Nat.le_of_ble_eq_true rfl⟩)) (wx_Pc.pre hK hX) rfl rfl hl.1 rfl (lv_room (Nat.le_of_ble_eq_true rfl)) dX12_nextToken_76 ⟨Nat.zero_le _, Nat.zero_le _⟩) ?_
            refine lv_if_eq (tgt := 139) hx hb dX12_nextToken_79 (by decide) (fun c_40 => ?_) (fun c_40 => ?_)
            · have b_41 : wx_b (r_X12_in (s_52 61 (s_52 57 6).toNatClampNeg) 48 57) 0 0 := by rw [c_40]; exact ⟨by decide, by decide⟩
              refine lv_aload_n hx hb dX12_nextToken_139 rfl (lv_at hl 0 rfl) ?_
              refine lv_aload_n hx hb dX12_nextToken_140 rfl (lv_at hl 0 rfl) ?_
              refine wx_geti (C := RX12) (T := TX12) (N := 27) (ci := 11) (j := 6) hx hb hts hi_X12 hown hK hX (by decide) sh_X12_6 rfl (by decide) (hts (.fieldLink RX12 75 "SeenAgainModel" "position" "I") (by decide +kernel)) (fun _ h9 => h9) dX12_nextToken_141 ?_
              refine lv_aload_n hx hb dX12_nextToken_144 rfl (lv_at hl 0 rfl) ?_
              refine wx_geti (C := RX12) (T := TX12) (N := 27) (ci := 11) (j := 7) hx hb hts hi_X12 hown hK hX (by decide) sh_X12_7 rfl (by decide) (hts (.fieldLink RX12 78 "SeenAgainModel" "tokenAt" "I") (by decide +kernel)) (fun _ h9 => h9) dX12_nextToken_145 ?_
              refine lv_isub hx hb dX12_nextToken_148 ?_
              refine lv_iconst (v := 2) hx hb dX12_nextToken_149 (by decide) ?_
              refine lv_icmp_le (tgt := 158) hx hb dX12_nextToken_150 (by decide) (fun c_42 => ?_) (fun c_42 => ?_)
              · have b_43 : wx_b ((s_52 57 6) - (s_52 57 7)) (-2147483648) 2 := wb_le c_42 (wb_any _) (show wx_b 2 2 2 from ⟨by decide, by decide⟩) (by decide) (by decide)
                refine lv_iconst (v := (-1)) hx hb dX12_nextToken_158 (by decide) ?_
                refine wx_puti (C := RX12) (T := TX12) (N := 27) (ci := 11) (j := 8) (ty := .int) hx hb hts hi_X12 tyX12 tyX12_ok nmX12 hown hK hX hS (by decide) sh_X12_8 rfl (by decide) (hts (.fieldLink RX12 84 "SeenAgainModel" "token" "I") (by decide +kernel)) (fun _ h9 => h9) rfl (by decide +kernel) rfl rfl dX12_nextToken_159 (fun H locs hX hS => ?_)
                obtain ⟨g_44, eg_44, hX⟩ := wx_nm hX
                refine lv_goto (tgt := 218) hx hb dX12_nextToken_162 (by decide) ?_
                have hF_45 : (b_X12_nextToken_52 g x_1 g_2 g_3) t_52 s_52 = .inr (g_44) := (by subst eg_44; simp only [b_X12_nextToken_52, if_neg c_28, if_pos c_40, if_pos c_42])
                have hO_46 : repX 142 (b_X12_nextToken_52 g x_1 g_2 g_3) g_3 = .inr (g_44) := repX_out es_52 hF_45 hlt_52
                exact hret _ _ _ _ _ dX12_nextToken_218 hX hS (by subst eg_3 eg_2 ex_1; simp only [e_X12_nextToken, if_neg c_4, if_neg c_5, hO_46])
              · have b_47 : wx_b ((s_52 57 6) - (s_52 57 7)) 3 2147483647 := wb_gt (wb_nle c_42) (wb_any _) (show wx_b 2 2 2 from ⟨by decide, by decide⟩) (by decide) (by decide)
                refine lv_bipush (v := (-4)) hx hb dX12_nextToken_153 (by decide) ?_
                refine lv_goto (tgt := 159) hx hb dX12_nextToken_155 (by decide) ?_
                refine wx_puti (C := RX12) (T := TX12) (N := 27) (ci := 11) (j := 8) (ty := .int) hx hb hts hi_X12 tyX12 tyX12_ok nmX12 hown hK hX hS (by decide) sh_X12_8 rfl (by decide) (hts (.fieldLink RX12 84 "SeenAgainModel" "token" "I") (by decide +kernel)) (fun _ h9 => h9) rfl (by decide +kernel) rfl rfl dX12_nextToken_159 (fun H locs hX hS => ?_)
                obtain ⟨g_48, eg_48, hX⟩ := wx_nm hX
                refine lv_goto (tgt := 218) hx hb dX12_nextToken_162 (by decide) ?_
                have hF_49 : (b_X12_nextToken_52 g x_1 g_2 g_3) t_52 s_52 = .inr (g_48) := (by subst eg_48; simp only [b_X12_nextToken_52, if_neg c_28, if_pos c_40, if_neg c_42])
                have hO_50 : repX 142 (b_X12_nextToken_52 g x_1 g_2 g_3) g_3 = .inr (g_48) := repX_out es_52 hF_49 hlt_52
                exact hret _ _ _ _ _ dX12_nextToken_218 hX hS (by subst eg_3 eg_2 ex_1; simp only [e_X12_nextToken, if_neg c_4, if_neg c_5, hO_50])
            · have b_51 : wx_b (s_52 61 (s_52 57 6).toNatClampNeg) 48 57 := rf_X12_in (show wx_b 48 48 48 from ⟨by decide, by decide⟩) (show wx_b 57 57 57 from ⟨by decide, by decide⟩) c_40
              refine lv_aload_n hx hb dX12_nextToken_82 rfl (lv_at hl 0 rfl) ?_
              refine lv_aload_n hx hb dX12_nextToken_83 rfl (lv_at hl 0 rfl) ?_
              refine wx_geti (C := RX12) (T := TX12) (N := 27) (ci := 11) (j := 6) hx hb hts hi_X12 hown hK hX (by decide) sh_X12_6 rfl (by decide) (hts (.fieldLink RX12 75 "SeenAgainModel" "position" "I") (by decide +kernel)) (fun _ h9 => h9) dX12_nextToken_84 ?_
              refine lv_aload_n hx hb dX12_nextToken_87 rfl (lv_at hl 0 rfl) ?_
              refine wx_geti (C := RX12) (T := TX12) (N := 27) (ci := 11) (j := 7) hx hb hts hi_X12 hown hK hX (by decide) sh_X12_7 rfl (by decide) (hts (.fieldLink RX12 78 "SeenAgainModel" "tokenAt" "I") (by decide +kernel)) (fun _ h9 => h9) dX12_nextToken_88 ?_
              refine lv_isub hx hb dX12_nextToken_91 ?_
              refine lv_iconst (v := 2) hx hb dX12_nextToken_92 (by decide) ?_
              refine lv_icmp_ge (tgt := 119) hx hb dX12_nextToken_93 (by decide) (fun c_52 => ?_) (fun c_52 => ?_)
              · have b_53 : wx_b ((s_52 57 6) - (s_52 57 7)) 2 2147483647 := wb_ge c_52 (wb_any _) (show wx_b 2 2 2 from ⟨by decide, by decide⟩) (by decide) (by decide)
                refine lv_aload_n hx hb dX12_nextToken_119 rfl (lv_at hl 0 rfl) ?_
                refine wx_geti (C := RX12) (T := TX12) (N := 27) (ci := 11) (j := 9) hx hb hts hi_X12 hown hK hX (by decide) sh_X12_9 rfl (by decide) (hts (.fieldLink RX12 81 "SeenAgainModel" "number" "I") (by decide +kernel)) (fun _ h9 => h9) dX12_nextToken_120 ?_
                refine lv_topi (fun x_54 ex_54 => ?_)
                refine wx_puti (C := RX12) (T := TX12) (N := 27) (ci := 11) (j := 9) (ty := .int) hx hb hts hi_X12 tyX12 tyX12_ok nmX12 hown hK hX hS (by decide) sh_X12_9 rfl (by decide) (hts (.fieldLink RX12 81 "SeenAgainModel" "number" "I") (by decide +kernel)) (fun _ h9 => h9) rfl (by decide +kernel) rfl rfl dX12_nextToken_123 (fun H locs hX hS => ?_)
                obtain ⟨g_55, eg_55, hX⟩ := wx_nm hX
                refine lv_aload_n hx hb dX12_nextToken_126 rfl (lv_at hl 0 rfl) ?_
                refine lv_dup hx hb dX12_nextToken_127 rfl ?_
                refine wx_geti (C := RX12) (T := TX12) (N := 27) (ci := 11) (j := 6) hx hb hts hi_X12 hown hK hX (by decide) sh_X12_6 rfl (by decide) (hts (.fieldLink RX12 75 "SeenAgainModel" "position" "I") (by decide +kernel)) (fun _ h9 => h9) dX12_nextToken_128 ?_
                refine lv_iconst (v := 1) hx hb dX12_nextToken_131 (by decide) ?_
                refine lv_iadd hx hb dX12_nextToken_132 ?_
                refine lv_topi (fun x_56 ex_56 => ?_)
                have bx_56 : wx_b x_56 1 140 := by rw [ex_56]; exact (wb_add (show wx_b (g_55 57 6) 0 139 by rw [show (g_55 57 6) = (s_52 57 6) from (by rw [eg_55, up2_sn (by decide)])]; exact hbp_52) (show wx_b 1 1 1 from ⟨by decide, by decide⟩) (by decide) (by decide))
                refine wx_puti (C := RX12) (T := TX12) (N := 27) (ci := 11) (j := 6) (ty := .int) hx hb hts hi_X12 tyX12 tyX12_ok nmX12 hown hK hX hS (by decide) sh_X12_6 rfl (by decide) (hts (.fieldLink RX12 75 "SeenAgainModel" "position" "I") (by decide +kernel)) (fun _ h9 => h9) rfl (by decide +kernel) rfl rfl dX12_nextToken_133 (fun H locs hX hS => ?_)
                obtain ⟨g_57, eg_57, hX⟩ := wx_nm hX
                refine lv_goto (tgt := 52) hx hb dX12_nextToken_136 (by decide) ?_
                have hF_58 : (b_X12_nextToken_52 g x_1 g_2 g_3) t_52 s_52 = .inl g_57 := (by subst eg_57 ex_56 eg_55 ex_54; simp only [b_X12_nextToken_52, if_neg c_28, if_neg c_40, if_pos c_52])
                have hst_52 : t_52 + 1 < 142 := (by have h9 := hW_52.1; have h8 := wb_cl (n := 139) hbp_52 (by decide); omega)
                exact ih_52 (t_52 + 1) g_57 ls H locs hst_52 (by omega) ((repX_go es_52).trans hF_58) hX hS (by have h9 := pr_inc9 hW_52.2 c_28 eg_55 ex_56 eg_57; exact ⟨by show _ ≤ (g_57 57 6).toNatClampNeg; rw [h9.2]; exact Nat.succ_le_succ hW_52.1, h9.1⟩) (lv_sub hl [0] rfl)
              · have b_59 : wx_b ((s_52 57 6) - (s_52 57 7)) (-2147483648) 1 := wb_lt (wb_nle c_52) (wb_any _) (show wx_b 2 2 2 from ⟨by decide, by decide⟩) (by decide) (by decide)
                refine lv_bipush (v := 10) hx hb dX12_nextToken_96 (by decide) ?_
                refine lv_aload_n hx hb dX12_nextToken_98 rfl (lv_at hl 0 rfl) ?_
                refine wx_geti (C := RX12) (T := TX12) (N := 27) (ci := 11) (j := 9) hx hb hts hi_X12 hown hK hX (by decide) sh_X12_9 rfl (by decide) (hts (.fieldLink RX12 81 "SeenAgainModel" "number" "I") (by decide +kernel)) (fun _ h9 => h9) dX12_nextToken_99 ?_
                refine lv_imul hx hb dX12_nextToken_102 ?_
                refine lv_aload_n hx hb dX12_nextToken_103 rfl (lv_at hl 0 rfl) ?_
                refine wx_getr (t := 61) (C := RX12) (T := TX12) (N := 27) (ci := 11) (j := 5) hx hb hts hi_X12 hown hK hX (by decide) sh_X12_5 rfl (by decide) (hts (.fieldLink RX12 19 "SeenAgainModel" "tape" "[I") (by decide +kernel)) (fun _ h9 => h9) dX12_nextToken_104 ?_
                refine lv_aload_n hx hb dX12_nextToken_107 rfl (lv_at hl 0 rfl) ?_
                refine wx_geti (C := RX12) (T := TX12) (N := 27) (ci := 11) (j := 6) hx hb hts hi_X12 hown hK hX (by decide) sh_X12_6 rfl (by decide) (hts (.fieldLink RX12 75 "SeenAgainModel" "position" "I") (by decide +kernel)) (fun _ h9 => h9) dX12_nextToken_108 ?_
                refine wx_iald hx hb hK hX (by decide) sa_61 (wb_in hbp_52 (by decide) (by decide)) dX12_nextToken_111 ?_
                refine lv_iadd hx hb dX12_nextToken_112 ?_
                refine lv_bipush (v := 48) hx hb dX12_nextToken_113 (by decide) ?_
                refine lv_isub hx hb dX12_nextToken_115 ?_
                refine lv_goto (tgt := 123) hx hb dX12_nextToken_116 (by decide) ?_
                refine lv_topi (fun x_60 ex_60 => ?_)
                refine wx_puti (C := RX12) (T := TX12) (N := 27) (ci := 11) (j := 9) (ty := .int) hx hb hts hi_X12 tyX12 tyX12_ok nmX12 hown hK hX hS (by decide) sh_X12_9 rfl (by decide) (hts (.fieldLink RX12 81 "SeenAgainModel" "number" "I") (by decide +kernel)) (fun _ h9 => h9) rfl (by decide +kernel) rfl rfl dX12_nextToken_123 (fun H locs hX hS => ?_)
                obtain ⟨g_61, eg_61, hX⟩ := wx_nm hX
                refine lv_aload_n hx hb dX12_nextToken_126 rfl (lv_at hl 0 rfl) ?_
                refine lv_dup hx hb dX12_nextToken_127 rfl ?_
                refine wx_geti (C := RX12) (T := TX12) (N := 27) (ci := 11) (j := 6) hx hb hts hi_X12 hown hK hX (by decide) sh_X12_6 rfl (by decide) (hts (.fieldLink RX12 75 "SeenAgainModel" "position" "I") (by decide +kernel)) (fun _ h9 => h9) dX12_nextToken_128 ?_
                refine lv_iconst (v := 1) hx hb dX12_nextToken_131 (by decide) ?_
                refine lv_iadd hx hb dX12_nextToken_132 ?_
                refine lv_topi (fun x_62 ex_62 => ?_)
                have bx_62 : wx_b x_62 1 140 := by rw [ex_62]; exact (wb_add (show wx_b (g_61 57 6) 0 139 by rw [show (g_61 57 6) = (s_52 57 6) from (by rw [eg_61, up2_sn (by decide)])]; exact hbp_52) (show wx_b 1 1 1 from ⟨by decide, by decide⟩) (by decide) (by decide))
                refine wx_puti (C := RX12) (T := TX12) (N := 27) (ci := 11) (j := 6) (ty := .int) hx hb hts hi_X12 tyX12 tyX12_ok nmX12 hown hK hX hS (by decide) sh_X12_6 rfl (by decide) (hts (.fieldLink RX12 75 "SeenAgainModel" "position" "I") (by decide +kernel)) (fun _ h9 => h9) rfl (by decide +kernel) rfl rfl dX12_nextToken_133 (fun H locs hX hS => ?_)
                obtain ⟨g_63, eg_63, hX⟩ := wx_nm hX
                refine lv_goto (tgt := 52) hx hb dX12_nextToken_136 (by decide) ?_
                have hF_64 : (b_X12_nextToken_52 g x_1 g_2 g_3) t_52 s_52 = .inl g_63 := (by subst eg_63 ex_62 eg_61 ex_60; simp only [b_X12_nextToken_52, if_neg c_28, if_neg c_40, if_neg c_52])
                have hst_52 : t_52 + 1 < 142 := (by have h9 := hW_52.1; have h8 := wb_cl (n := 139) hbp_52 (by decide); omega)
                exact ih_52 (t_52 + 1) g_63 ls H locs hst_52 (by omega) ((repX_go es_52).trans hF_64) hX hS (by have h9 := pr_inc9 hW_52.2 c_28 eg_61 ex_62 eg_63; exact ⟨by show _ ≤ (g_63 57 6).toNatClampNeg; rw [h9.2]; exact Nat.succ_le_succ hW_52.1, h9.1⟩) (lv_sub hl [0] rfl)
      exact lp_52 142 0 g_3 ls H locs (by decide) (by omega) rfl hX hS ⟨Nat.zero_le _, (by rw [eg_3]; exact pr_o (by decide) (by decide) (by decide) (by decide) (by decide) (by decide) (by rw [eg_2]; exact pr_o (by decide) (by decide) (by decide) (by decide) (by decide) (by decide) hpr))⟩ (lv_sub hl [0] rfl)
  · refine lv_aload_n hx hb dX12_nextToken_24 rfl (lv_at hl 0 rfl) ?_
    refine lv_bipush (v := (-2)) hx hb dX12_nextToken_25 (by decide) ?_
    refine wx_puti (C := RX12) (T := TX12) (N := 27) (ci := 11) (j := 8) (ty := .int) hx hb hts hi_X12 tyX12 tyX12_ok nmX12 hown hK hX hS (by decide) sh_X12_8 rfl (by decide) (hts (.fieldLink RX12 84 "SeenAgainModel" "token" "I") (by decide +kernel)) (fun _ h9 => h9) rfl (by decide +kernel) rfl rfl dX12_nextToken_27 (fun H locs hX hS => ?_)
    obtain ⟨g_65, eg_65, hX⟩ := wx_nm hX
    refine lv_goto (tgt := 218) hx hb dX12_nextToken_30 (by decide) ?_
    exact hret _ _ _ _ _ dX12_nextToken_218 hX hS (by subst eg_65 eg_3 eg_2 ex_1; simp only [e_X12_nextToken, if_pos c_4])
theorem nt_leaf {g s : wx_M} {v : Int32} (h : wx_PR s) (e6 : s 57 6 = g 57 6) (hl : (s 57 6).toInt < (s 57 4).toInt) : wx_PR (up2 (up2 s 57 8 v) 57 6 (up2 s 57 8 v 57 6 + 1)) ∧ (g 57 6).toNatClampNeg + 1 ≤ (up2 (up2 s 57 8 v) 57 6 (up2 s 57 8 v 57 6 + 1) 57 6).toNatClampNeg := by
  have h1 : wx_PR (up2 s 57 8 v) := pr_o (by decide) (by decide) (by decide) (by decide) (by decide) (by decide) h
  have h2 := pr_inc h1 (by rw [up2_sn (by decide), up2_sn (by decide)]; exact hl)
  refine ⟨h2.1, ?_⟩
  rw [h2.2, up2_sn (by decide), e6]
  exact Nat.le_refl _
set_option maxRecDepth 100000 in
theorem nt_all {g : wx_M} (h : wx_PR g) : wx_PR (e_X12_nextToken g) ∧ ((e_X12_nextToken g 57 8 = -2 ∧ e_X12_nextToken g 57 6 = g 57 6) ∨ (g 57 6).toNatClampNeg + 1 ≤ (e_X12_nextToken g 57 6).toNatClampNeg) := by
  have h2 : wx_PR (up2 g 57 7 (g 57 6)) := pr_o (by decide) (by decide) (by decide) (by decide) (by decide) (by decide) h
  have h3 : wx_PR (up2 (up2 g 57 7 (g 57 6)) 57 9 0) := pr_o (by decide) (by decide) (by decide) (by decide) (by decide) (by decide) h2
  have e6 : up2 (up2 g 57 7 (g 57 6)) 57 9 0 57 6 = g 57 6 := by rw [up2_sn (by decide), up2_sn (by decide)]
  simp only [e_X12_nextToken]
  generalize up2 (up2 g 57 7 (g 57 6)) 57 9 0 = s at h3 e6 ⊢
  split
  · refine ⟨pr_o (by decide) (by decide) (by decide) (by decide) (by decide) (by decide) h3, Or.inl ⟨by rw [up2_ss], by rw [up2_sn (by decide), e6]⟩⟩
  · rename_i c
    have hl := pr_ltI h3 c
    split
    · (repeat' split) <;> exact ⟨(nt_leaf h3 e6 hl).1, Or.inr (nt_leaf h3 e6 hl).2⟩
    · rename_i cd
      have hi := repX_inv2 (f := b_X12_nextToken_52 g (g 57 6) (up2 g 57 7 (g 57 6)) s) (s0 := s) (fun t z => wx_PR z ∧ (g 57 6).toNatClampNeg + t ≤ (z 57 6).toNatClampNeg ∧ (t = 0 → z = s)) (fun r => wx_PR r ∧ (g 57 6).toNatClampNeg + 1 ≤ (r 57 6).toNatClampNeg) 142 ⟨h3, by rw [e6]; exact Nat.le_refl _, fun _ => rfl⟩
        (by
          intro t z ht hI
          obtain ⟨hz, hp, h0⟩ := hI
          simp only [b_X12_nextToken_52]
          split
          · rename_i c1
            have t1 : 1 ≤ t := by
              rcases Nat.eq_zero_or_pos t with q | q
              · rw [h0 q] at c1
                have := Int32.le_iff_toInt_le.mp c1
                omega
              · exact q
            split <;> exact Or.inr ⟨_, rfl, pr_o (by decide) (by decide) (by decide) (by decide) (by decide) (by decide) hz, by rw [up2_sn (by decide)]; omega⟩
          · rename_i c1
            split
            · rename_i c2
              have t1 : 1 ≤ t := by
                rcases Nat.eq_zero_or_pos t with q | q
                · rw [h0 q] at c2
                  exact absurd c2 cd
                · exact q
              split <;> exact Or.inr ⟨_, rfl, pr_o (by decide) (by decide) (by decide) (by decide) (by decide) (by decide) hz, by rw [up2_sn (by decide)]; omega⟩
            · split
              · have h9 := pr_inc9 (s := z) (v := z 57 9) hz c1 rfl rfl rfl
                exact Or.inl ⟨_, rfl, h9.1, by rw [h9.2]; omega, fun q => absurd q (by omega)⟩
              · have h9 := pr_inc9 (s := z) (v := 10 * z 57 9 + z 61 (z 57 6).toNatClampNeg - 48) hz c1 rfl rfl rfl
                exact Or.inl ⟨_, rfl, h9.1, by rw [h9.2]; omega, fun q => absurd q (by omega)⟩)
      cases hc : repX 142 (b_X12_nextToken_52 g (g 57 6) (up2 g 57 7 (g 57 6)) s) s with
      | inl z =>
        have h9 := hi.1 z hc
        exfalso
        have := wb_cl (n := 140) h9.1.1.2.1 (by decide)
        omega
      | inr r =>
        have h9 := hi.2 r hc
        exact ⟨h9.1, Or.inr h9.2⟩
theorem pr_X12_nextToken {g : wx_M} (h : wx_PR g) : wx_PR (e_X12_nextToken g) := (nt_all h).1
theorem pg_X12_nextToken {g : wx_M} (h : wx_PR g) : (g 57 6).toNatClampNeg ≤ (e_X12_nextToken g 57 6).toNatClampNeg := by
  rcases (nt_all h).2 with q | q
  · rw [q.2]
    exact Nat.le_refl _
  · omega
theorem ps_X12_nextToken {g : wx_M} (h : wx_PR g) (c : ¬ e_X12_nextToken g 57 8 = -2) : (g 57 6).toNatClampNeg + 1 ≤ (e_X12_nextToken g 57 6).toNatClampNeg := by
  rcases (nt_all h).2 with q | q
  · exact absurd q.1 c
  · exact q
/-- what nextToken leaves as it is -/
theorem nt_keeps (p : wx_M → Prop) (hp : ∀ (s : wx_M) (j : Nat) (v : Int32), j = 6 ∨ j = 7 ∨ j = 8 ∨ j = 9 ∨ j = 10 → p s → p (up2 s 57 j v)) {g : wx_M} (h : p g) : p (e_X12_nextToken g) := by
  have h3 : p (up2 (up2 g 57 7 (g 57 6)) 57 9 0) := hp _ _ _ (by decide) (hp _ _ _ (by decide) h)
  simp only [e_X12_nextToken]
  generalize up2 (up2 g 57 7 (g 57 6)) 57 9 0 = s at h3 ⊢
  split
  · exact hp _ _ _ (by decide) h3
  · split
    · (repeat' split) <;> exact hp _ _ _ (by decide) (hp _ _ _ (by decide) h3)
    · have hi := repX_inv2 (f := b_X12_nextToken_52 g (g 57 6) (up2 g 57 7 (g 57 6)) s) (s0 := s) (fun t z => p z) (fun r => p r) 142 h3
        (by
          intro t z ht hz
          simp only [b_X12_nextToken_52]
          split
          · split <;> exact Or.inr ⟨_, rfl, hp _ _ _ (by decide) hz⟩
          · split
            · split <;> exact Or.inr ⟨_, rfl, hp _ _ _ (by decide) hz⟩
            · split <;> exact Or.inl ⟨_, rfl, hp _ _ _ (by decide) (hp _ _ _ (by decide) hz)⟩)
      split
      · exact h
      · rename_i r hr
        exact hi.2 r hr
theorem fr_X12_nextToken {g : wx_M} {k : Nat} (hk : k ≠ 57) : e_X12_nextToken g k = g k := nt_keeps (fun s => s k = g k) (fun s j v _ hs => (up2_n hk).trans hs) rfl
theorem fj_X12_nextToken {g : wx_M} {j : Nat} (h6 : j ≠ 6) (h7 : j ≠ 7) (h8 : j ≠ 8) (h9 : j ≠ 9) (h10 : j ≠ 10) : e_X12_nextToken g 57 j = g 57 j := nt_keeps (fun s => s 57 j = g 57 j) (fun s i v hi hs => (up2_sn (by omega)).trans hs) rfl

def f_X12_fails (g : wx_M) (a1 : Int32) : wx_M × Int32 :=
  let g_1 := up2 g 57 10 a1
  (g_1, 0)
set_option maxHeartbeats 4000000 in
set_option maxRecDepth 100000 in
theorem k_X12_fails (l : Launch) {D : va_G} {cy : Nat → ClassId} {ad : Nat → Nat} {B0 : Nat} {f : wx_F} {P : va_W} (g : wx_M) (a1 : Int32) (hpr : wx_PR g) : Met l yX12_fails wsX12_fails ({ frames := 0, cells := 0, slots := 0, locals := 0 } : Room) (wx_Pc D cy ad B0 f P g [.ref (ad 57), .int a1]) (wx_Qe D cy ad B0 f P (f_X12_fails g a1).1 (some (.int (f_X12_fails g a1).2))) 0 0 (fun q => B0 ≤ q) := by
  refine wx_enterE (cc := cX12_fails) (maxL := 2) (ty := .boolean) (own := RX12) (lv := [(0, .ref (ad 57)), (1, .int a1)]) (by decide) rfl rfl (Nat.le_of_ble_eq_true rfl) rfl ?_
  intro p e R s m args below meth c ls Qm hx hb hml hown hts hK hX hS hR hret hl
  have hi_X12 : ∀ w ∈ wsX120, w ∈ wsX12_fails := by decide +kernel
  refine lv_aload_n hx hb dX12_fails_0 rfl (lv_at hl 0 rfl) ?_
  refine lv_iload_n hx hb dX12_fails_1 rfl (lv_at hl 1 rfl) ?_
  refine wx_puti (C := RX12) (T := TX12) (N := 27) (ci := 11) (j := 10) (ty := .int) hx hb hts hi_X12 tyX12 tyX12_ok nmX12 hown hK hX hS (by decide) sh_X12_10 rfl (by decide) (hts (.fieldLink RX12 87 "SeenAgainModel" "faultIs" "I") (by decide +kernel)) (fun _ h9 => h9) rfl (by decide +kernel) rfl rfl dX12_fails_2 (fun H locs hX hS => ?_)
  obtain ⟨g_1, eg_1, hX⟩ := wx_nm hX
  refine lv_iconst (v := 0) hx hb dX12_fails_5 (by decide) ?_
  exact hret _ _ _ _ _ _ dX12_fails_6 rfl hX hS (by subst eg_1; simp only [f_X12_fails])
theorem nb_f_X12_fails (g : wx_M) (a1 : Int32) : narrow .boolean (.int ((f_X12_fails g a1).2)) = .int ((f_X12_fails g a1).2) := by
  simp only [f_X12_fails]
  (rfl)
theorem pr_X12_fails {g : wx_M} {a1 : Int32} (h : wx_PR g) : wx_PR (f_X12_fails g a1).1 := pr_o (by decide) (by decide) (by decide) (by decide) (by decide) (by decide) h
theorem pg_X12_fails {g : wx_M} {a1 : Int32} (h : wx_PR g) : (g 57 6).toNatClampNeg ≤ ((f_X12_fails g a1).1 57 6).toNatClampNeg := Nat.le_refl _
theorem fr_X12_fails {g : wx_M} {a1 : Int32} {k : Nat} (hk : k ≠ 57) : (f_X12_fails g a1).1 k = g k := up2_n hk
theorem fj_X12_fails {g : wx_M} {a1 : Int32} {j : Nat} (h6 : j ≠ 6) (h7 : j ≠ 7) (h8 : j ≠ 8) (h9 : j ≠ 9) (h10 : j ≠ 10) : (f_X12_fails g a1).1 57 j = g 57 j := by
  simp only [f_X12_fails]
  exact up2_sn h10

def f_X12_isNext (g : wx_M) (a1 : Int32) (a2 : Int32) : wx_M × Int32 :=
  let g_1 := e_X12_nextToken g
  if (g_1 57 8) = (-1) then
    if (r_X12_in (g_1 57 9) a1 a2) = 0 then
      let z_7 := f_X12_fails g_1 2
      if z_7.2 = 0 then
        (z_7.1, 0)
      else
        (z_7.1, 1)
    else
      (g_1, 1)
  else
    let z_10 := f_X12_fails g_1 1
    (z_10.1, z_10.2)
set_option maxHeartbeats 4000000 in
set_option maxRecDepth 100000 in
theorem k_X12_isNext (l : Launch) {D : va_G} {cy : Nat → ClassId} {ad : Nat → Nat} {B0 : Nat} {f : wx_F} {P : va_W} (g : wx_M) (a1 : Int32) (a2 : Int32) (hpr : wx_PR g) : Met l yX12_isNext wsX12_isNext ({ frames := 2, cells := 0, slots := 0, locals := 43 } : Room) (wx_Pc D cy ad B0 f P g [.ref (ad 57), .int a1, .int a2]) (wx_Qe D cy ad B0 f P (f_X12_isNext g a1 a2).1 (some (.int (f_X12_isNext g a1 a2).2))) 0 0 (fun q => B0 ≤ q) := by
  refine wx_enterE (cc := cX12_isNext) (maxL := 3) (ty := .boolean) (own := RX12) (lv := [(0, .ref (ad 57)), (1, .int a1), (2, .int a2)]) (by decide) rfl rfl (Nat.le_of_ble_eq_true rfl) rfl ?_
  intro p e R s m args below meth c ls Qm hx hb hml hown hts hK hX hS hR hret hl
  have hi_X12 : ∀ w ∈ wsX120, w ∈ wsX12_isNext := by decide +kernel
  refine lv_aload_n hx hb dX12_isNext_0 rfl (lv_at hl 0 rfl) ?_
  refine wx_callev (va_runV (As := []) (rest := []) ⟨hx, hb, hml, hown, hts⟩ (k_X12_nextToken l g hpr) (cwV 0 hts gX12_isNext_X12_nextToken rfl rfl rfl (by decide +kernel) (by rw [hR]; exact ⟨Nat.le_of_ble_eq_true rfl, Nat.le_of_ble_eq_true rfl⟩)) ⟨wx_Pc.blind, wx_recv hK hX (by decide) sh_X12 rfl, (wx_Pc.pre hK hX).2⟩ rfl rfl hl.1 rfl (lv_room (Nat.le_of_ble_eq_true rfl)) dX12_isNext_1 ⟨Nat.zero_le _, Nat.zero_le _⟩) hS (fun H locs hX hS => ?_)
  obtain ⟨g_1, eg_1, hX⟩ := wx_nm hX
  refine lv_aload_n hx hb dX12_isNext_4 rfl (lv_at hl 0 rfl) ?_
  refine wx_geti (C := RX12) (T := TX12) (N := 27) (ci := 11) (j := 8) hx hb hts hi_X12 hown hK hX (by decide) sh_X12_8 rfl (by decide) (hts (.fieldLink RX12 84 "SeenAgainModel" "token" "I") (by decide +kernel)) (fun _ h9 => h9) dX12_isNext_5 ?_
  refine lv_iconst (v := (-1)) hx hb dX12_isNext_8 (by decide) ?_
  refine lv_icmp_eq (tgt := 18) hx hb dX12_isNext_9 (by decide) (fun c_2 => ?_) (fun c_2 => ?_)
  · have b_3 : wx_b (g_1 57 8) (-1) (-1) := by rw [c_2]; exact ⟨by decide, by decide⟩
    refine lv_aload_n hx hb dX12_isNext_18 rfl (lv_at hl 0 rfl) ?_
    refine wx_geti (C := RX12) (T := TX12) (N := 27) (ci := 11) (j := 9) hx hb hts hi_X12 hown hK hX (by decide) sh_X12_9 rfl (by decide) (hts (.fieldLink RX12 81 "SeenAgainModel" "number" "I") (by decide +kernel)) (fun _ h9 => h9) dX12_isNext_19 ?_
    refine lv_iload_n hx hb dX12_isNext_22 rfl (lv_at hl 1 rfl) ?_
    refine lv_iload_n hx hb dX12_isNext_23 rfl (lv_at hl 2 rfl) ?_
    refine wx_callr (va_runS (As := [.int (g_1 57 9), .int a1, .int a2]) (rest := []) ⟨hx, hb, hml, hown, hts⟩ (k_X12_in l g_1 (g_1 57 9) a1 a2) (va_cwS 3 hts gX12_isNext_X12_in rfl rfl rfl (by decide +kernel) (by rw [hR]; exact ⟨Nat.le_of_ble_eq_true rfl, Nat.le_of_ble_eq_true rfl⟩)) (wx_Pc.pre hK hX) rfl rfl hl.1 rfl (lv_room (Nat.le_of_ble_eq_true rfl)) dX12_isNext_24 ⟨Nat.zero_le _, Nat.zero_le _⟩) ?_
    refine lv_if_ne (tgt := 38) hx hb dX12_isNext_27 (by decide) (fun c_4 => ?_) (fun c_4 => ?_)
    · have b_5 : wx_b (g_1 57 9) (-2147483648) 2147483647 := rf_X12_in (wb_any _) (wb_any _) c_4
      refine lv_iconst (v := 1) hx hb dX12_isNext_38 (by decide) ?_
      refine lv_goto (tgt := 43) hx hb dX12_isNext_39 (by decide) ?_
      exact hret _ _ _ _ _ _ dX12_isNext_43 rfl hX hS (by subst eg_1; simp only [f_X12_isNext, if_pos c_2, if_neg c_4])
    · have b_6 : wx_b (r_X12_in (g_1 57 9) a1 a2) 0 0 := by rw [c_4]; exact ⟨by decide, by decide⟩
      refine lv_aload_n hx hb dX12_isNext_30 rfl (lv_at hl 0 rfl) ?_
      refine lv_iconst (v := 2) hx hb dX12_isNext_31 (by decide) ?_
      refine wx_callei (va_runV (As := [.int 2]) (rest := []) ⟨hx, hb, hml, hown, hts⟩ (k_X12_fails l g_1 2 (by rw [eg_1]; exact pr_X12_nextToken hpr)) (cwV 1 hts gX12_isNext_X12_fails rfl rfl rfl (by decide +kernel) (by rw [hR]; exact ⟨Nat.le_of_ble_eq_true rfl, Nat.le_of_ble_eq_true rfl⟩)) ⟨wx_Pc.blind, wx_recv hK hX (by decide) sh_X12 rfl, (wx_Pc.pre hK hX).2⟩ rfl rfl hl.1 rfl (lv_room (Nat.le_of_ble_eq_true rfl)) dX12_isNext_32 ⟨Nat.zero_le _, Nat.zero_le _⟩) hS (fun H locs hX hS => ?_)
      obtain ⟨z_7, ez_7⟩ : ∃ z, z = f_X12_fails g_1 2 := ⟨_, rfl⟩
      rw [← ez_7] at hX; rw [← ez_7]
      refine lv_if_eq (tgt := 42) hx hb dX12_isNext_35 (by decide) (fun c_8 => ?_) (fun c_8 => ?_)
      · have b_9 : wx_b z_7.2 0 0 := by rw [c_8]; exact ⟨by decide, by decide⟩
        refine lv_iconst (v := 0) hx hb dX12_isNext_42 (by decide) ?_
        exact hret _ _ _ _ _ _ dX12_isNext_43 rfl hX hS (by subst ez_7 eg_1; simp only [f_X12_isNext, if_pos c_2, if_pos c_4, if_pos c_8])
      · refine lv_iconst (v := 1) hx hb dX12_isNext_38 (by decide) ?_
        refine lv_goto (tgt := 43) hx hb dX12_isNext_39 (by decide) ?_
        exact hret _ _ _ _ _ _ dX12_isNext_43 rfl hX hS (by subst ez_7 eg_1; simp only [f_X12_isNext, if_pos c_2, if_pos c_4, if_neg c_8])
  · refine lv_aload_n hx hb dX12_isNext_12 rfl (lv_at hl 0 rfl) ?_
    refine lv_iconst (v := 1) hx hb dX12_isNext_13 (by decide) ?_
    refine wx_callei (va_runV (As := [.int 1]) (rest := []) ⟨hx, hb, hml, hown, hts⟩ (k_X12_fails l g_1 1 (by rw [eg_1]; exact pr_X12_nextToken hpr)) (cwV 1 hts gX12_isNext_X12_fails rfl rfl rfl (by decide +kernel) (by rw [hR]; exact ⟨Nat.le_of_ble_eq_true rfl, Nat.le_of_ble_eq_true rfl⟩)) ⟨wx_Pc.blind, wx_recv hK hX (by decide) sh_X12 rfl, (wx_Pc.pre hK hX).2⟩ rfl rfl hl.1 rfl (lv_room (Nat.le_of_ble_eq_true rfl)) dX12_isNext_14 ⟨Nat.zero_le _, Nat.zero_le _⟩) hS (fun H locs hX hS => ?_)
    obtain ⟨z_10, ez_10⟩ : ∃ z, z = f_X12_fails g_1 1 := ⟨_, rfl⟩
    rw [← ez_10] at hX; rw [← ez_10]
    exact hret _ _ _ _ _ _ dX12_isNext_17 (by rw [ez_10]; exact nb_f_X12_fails _ _) hX hS (by subst ez_10 eg_1; simp only [f_X12_isNext, if_neg c_2])
theorem nb_f_X12_isNext (g : wx_M) (a1 : Int32) (a2 : Int32) : narrow .boolean (.int ((f_X12_isNext g a1 a2).2)) = .int ((f_X12_isNext g a1 a2).2) := by
  simp only [f_X12_isNext]
  (repeat' split) <;> first | rfl | (show narrow .boolean (.int 1) = .int 1; rfl) | (show narrow .boolean (.int 0) = .int 0; rfl) | exact nb_f_X12_fails _ _ | exact nb_r_X12_in _ _ _
theorem nx_keeps (p : wx_M → Prop) (hp : ∀ (s : wx_M) (j : Nat) (v : Int32), j = 6 ∨ j = 7 ∨ j = 8 ∨ j = 9 ∨ j = 10 → p s → p (up2 s 57 j v)) {g : wx_M} {a1 a2 : Int32} (h : p g) : p (f_X12_isNext g a1 a2).1 := by
  have h1 := nt_keeps p hp h
  have h2 : ∀ v, p (f_X12_fails (e_X12_nextToken g) v).1 := fun v => hp _ _ _ (by decide) h1
  simp only [f_X12_isNext]
  (repeat' split) <;> first | exact h1 | exact h2 _
theorem fr_X12_isNext {g : wx_M} {a1 a2 : Int32} {k : Nat} (hk : k ≠ 57) : (f_X12_isNext g a1 a2).1 k = g k := nx_keeps (fun s => s k = g k) (fun s j v _ hs => (up2_n hk).trans hs) rfl
theorem fj_X12_isNext {g : wx_M} {a1 a2 : Int32} {j : Nat} (h6 : j ≠ 6) (h7 : j ≠ 7) (h8 : j ≠ 8) (h9 : j ≠ 9) (h10 : j ≠ 10) : (f_X12_isNext g a1 a2).1 57 j = g 57 j := nx_keeps (fun s => s 57 j = g 57 j) (fun s i v hi hs => (up2_sn (by omega)).trans hs) rfl
theorem pr_X12_isNext {g : wx_M} {a1 a2 : Int32} (h : wx_PR g) : wx_PR (f_X12_isNext g a1 a2).1 := by
  have h1 := pr_X12_nextToken h
  simp only [f_X12_isNext]
  (repeat' split) <;> first | exact h1 | exact pr_X12_fails h1
theorem pg_X12_isNext {g : wx_M} {a1 a2 : Int32} (h : wx_PR g) : (g 57 6).toNatClampNeg ≤ ((f_X12_isNext g a1 a2).1 57 6).toNatClampNeg := by
  have h1 := pr_X12_nextToken h
  have h2 := pg_X12_nextToken h
  simp only [f_X12_isNext]
  (repeat' split) <;> first | exact h2 | exact Nat.le_trans h2 (pg_X12_fails h1)
theorem nx_b {g : wx_M} {a1 a2 : Int32} {a b c d : Int} (h1 : wx_b a1 a b) (h2 : wx_b a2 c d) (h : ¬ (f_X12_isNext g a1 a2).2 = 0) : wx_b ((f_X12_isNext g a1 a2).1 57 9) a d := by
  simp only [f_X12_isNext] at h ⊢
  split
  · rename_i c0
    rw [if_pos c0] at h
    split
    · rename_i c1
      rw [if_pos c1] at h
      exact absurd rfl h
    · rename_i c1
      exact rf_X12_in h1 h2 c1
  · rename_i c0
    rw [if_neg c0] at h
    exact absurd rfl h

def f_X12_isSign (g : wx_M) (a1 : Int32) : wx_M × Int32 :=
  let g_1 := e_X12_nextToken g
  if (g_1 57 8) = a1 then
    (g_1, 1)
  else
    let z_3 := f_X12_fails g_1 1
    if z_3.2 = 0 then
      (z_3.1, 0)
    else
      (z_3.1, 1)
set_option maxHeartbeats 4000000 in
set_option maxRecDepth 100000 in
theorem k_X12_isSign (l : Launch) {D : va_G} {cy : Nat → ClassId} {ad : Nat → Nat} {B0 : Nat} {f : wx_F} {P : va_W} (g : wx_M) (a1 : Int32) (hpr : wx_PR g) : Met l yX12_isSign wsX12_isSign ({ frames := 2, cells := 0, slots := 0, locals := 43 } : Room) (wx_Pc D cy ad B0 f P g [.ref (ad 57), .int a1]) (wx_Qe D cy ad B0 f P (f_X12_isSign g a1).1 (some (.int (f_X12_isSign g a1).2))) 0 0 (fun q => B0 ≤ q) := by
  refine wx_enterE (cc := cX12_isSign) (maxL := 2) (ty := .boolean) (own := RX12) (lv := [(0, .ref (ad 57)), (1, .int a1)]) (by decide) rfl rfl (Nat.le_of_ble_eq_true rfl) rfl ?_
  intro p e R s m args below meth c ls Qm hx hb hml hown hts hK hX hS hR hret hl
  have hi_X12 : ∀ w ∈ wsX120, w ∈ wsX12_isSign := by decide +kernel
  refine lv_aload_n hx hb dX12_isSign_0 rfl (lv_at hl 0 rfl) ?_
  refine wx_callev (va_runV (As := []) (rest := []) ⟨hx, hb, hml, hown, hts⟩ (k_X12_nextToken l g hpr) (cwV 0 hts gX12_isSign_X12_nextToken rfl rfl rfl (by decide +kernel) (by rw [hR]; exact ⟨Nat.le_of_ble_eq_true rfl, Nat.le_of_ble_eq_true rfl⟩)) ⟨wx_Pc.blind, wx_recv hK hX (by decide) sh_X12 rfl, (wx_Pc.pre hK hX).2⟩ rfl rfl hl.1 rfl (lv_room (Nat.le_of_ble_eq_true rfl)) dX12_isSign_1 ⟨Nat.zero_le _, Nat.zero_le _⟩) hS (fun H locs hX hS => ?_)
  obtain ⟨g_1, eg_1, hX⟩ := wx_nm hX
  refine lv_aload_n hx hb dX12_isSign_4 rfl (lv_at hl 0 rfl) ?_
  refine wx_geti (C := RX12) (T := TX12) (N := 27) (ci := 11) (j := 8) hx hb hts hi_X12 hown hK hX (by decide) sh_X12_8 rfl (by decide) (hts (.fieldLink RX12 84 "SeenAgainModel" "token" "I") (by decide +kernel)) (fun _ h9 => h9) dX12_isSign_5 ?_
  refine lv_iload_n hx hb dX12_isSign_8 rfl (lv_at hl 1 rfl) ?_
  refine lv_icmp_eq (tgt := 20) hx hb dX12_isSign_9 (by decide) (fun c_2 => ?_) (fun c_2 => ?_)
  · refine lv_iconst (v := 1) hx hb dX12_isSign_20 (by decide) ?_
    refine lv_goto (tgt := 25) hx hb dX12_isSign_21 (by decide) ?_
    exact hret _ _ _ _ _ _ dX12_isSign_25 rfl hX hS (by subst eg_1; simp only [f_X12_isSign, if_pos c_2])
  · refine lv_aload_n hx hb dX12_isSign_12 rfl (lv_at hl 0 rfl) ?_
    refine lv_iconst (v := 1) hx hb dX12_isSign_13 (by decide) ?_
    refine wx_callei (va_runV (As := [.int 1]) (rest := []) ⟨hx, hb, hml, hown, hts⟩ (k_X12_fails l g_1 1 (by rw [eg_1]; exact pr_X12_nextToken hpr)) (cwV 1 hts gX12_isSign_X12_fails rfl rfl rfl (by decide +kernel) (by rw [hR]; exact ⟨Nat.le_of_ble_eq_true rfl, Nat.le_of_ble_eq_true rfl⟩)) ⟨wx_Pc.blind, wx_recv hK hX (by decide) sh_X12 rfl, (wx_Pc.pre hK hX).2⟩ rfl rfl hl.1 rfl (lv_room (Nat.le_of_ble_eq_true rfl)) dX12_isSign_14 ⟨Nat.zero_le _, Nat.zero_le _⟩) hS (fun H locs hX hS => ?_)
    obtain ⟨z_3, ez_3⟩ : ∃ z, z = f_X12_fails g_1 1 := ⟨_, rfl⟩
    rw [← ez_3] at hX; rw [← ez_3]
    refine lv_if_eq (tgt := 24) hx hb dX12_isSign_17 (by decide) (fun c_4 => ?_) (fun c_4 => ?_)
    · have b_5 : wx_b z_3.2 0 0 := by rw [c_4]; exact ⟨by decide, by decide⟩
      refine lv_iconst (v := 0) hx hb dX12_isSign_24 (by decide) ?_
      exact hret _ _ _ _ _ _ dX12_isSign_25 rfl hX hS (by subst ez_3 eg_1; simp only [f_X12_isSign, if_neg c_2, if_pos c_4])
    · refine lv_iconst (v := 1) hx hb dX12_isSign_20 (by decide) ?_
      refine lv_goto (tgt := 25) hx hb dX12_isSign_21 (by decide) ?_
      exact hret _ _ _ _ _ _ dX12_isSign_25 rfl hX hS (by subst ez_3 eg_1; simp only [f_X12_isSign, if_neg c_2, if_neg c_4])
theorem nb_f_X12_isSign (g : wx_M) (a1 : Int32) : narrow .boolean (.int ((f_X12_isSign g a1).2)) = .int ((f_X12_isSign g a1).2) := by
  simp only [f_X12_isSign]
  (repeat' split) <;> first | rfl | (show narrow .boolean (.int 1) = .int 1; rfl) | (show narrow .boolean (.int 0) = .int 0; rfl) | exact nb_f_X12_fails _ _
theorem sg_keeps (p : wx_M → Prop) (hp : ∀ (s : wx_M) (j : Nat) (v : Int32), j = 6 ∨ j = 7 ∨ j = 8 ∨ j = 9 ∨ j = 10 → p s → p (up2 s 57 j v)) {g : wx_M} {a1 : Int32} (h : p g) : p (f_X12_isSign g a1).1 := by
  have h1 := nt_keeps p hp h
  have h2 : ∀ v, p (f_X12_fails (e_X12_nextToken g) v).1 := fun v => hp _ _ _ (by decide) h1
  simp only [f_X12_isSign]
  (repeat' split) <;> first | exact h1 | exact h2 _
theorem fr_X12_isSign {g : wx_M} {a1 : Int32} {k : Nat} (hk : k ≠ 57) : (f_X12_isSign g a1).1 k = g k := sg_keeps (fun s => s k = g k) (fun s j v _ hs => (up2_n hk).trans hs) rfl
theorem fj_X12_isSign {g : wx_M} {a1 : Int32} {j : Nat} (h6 : j ≠ 6) (h7 : j ≠ 7) (h8 : j ≠ 8) (h9 : j ≠ 9) (h10 : j ≠ 10) : (f_X12_isSign g a1).1 57 j = g 57 j := sg_keeps (fun s => s 57 j = g 57 j) (fun s i v hi hs => (up2_sn (by omega)).trans hs) rfl
theorem pr_X12_isSign {g : wx_M} {a1 : Int32} (h : wx_PR g) : wx_PR (f_X12_isSign g a1).1 := by
  have h1 := pr_X12_nextToken h
  simp only [f_X12_isSign]
  (repeat' split) <;> first | exact h1 | exact pr_X12_fails h1
theorem pg_X12_isSign {g : wx_M} {a1 : Int32} (h : wx_PR g) : (g 57 6).toNatClampNeg ≤ ((f_X12_isSign g a1).1 57 6).toNatClampNeg := by
  have h1 := pr_X12_nextToken h
  have h2 := pg_X12_nextToken h
  simp only [f_X12_isSign]
  (repeat' split) <;> first | exact h2 | exact Nat.le_trans h2 (pg_X12_fails h1)

def f_X12_isLaw (g : wx_M) : wx_M × Int32 :=
  let g_1 := e_X12_nextToken g
  if (g_1 57 8) = 104 then
    let z_4 := f_X12_isNext g_1 2 6
    if z_4.2 = 0 then
      (z_4.1, 0)
    else
      let x_7 := (z_4.1 57 9)
      let g_8 := up2 z_4.1 57 11 x_7
      let z_9 := f_X12_isSign g_8 44
      if z_9.2 = 0 then
        (z_9.1, 0)
      else
        let z_12 := f_X12_isNext z_9.1 1 5
        if z_12.2 = 0 then
          (z_12.1, 0)
        else
          let x_15 := (z_12.1 57 9)
          let g_16 := up2 z_12.1 57 12 x_15
          let z_17 := f_X12_isSign g_16 44
          if z_17.2 = 0 then
            (z_17.1, 0)
          else
            let z_20 := f_X12_isNext z_17.1 0 20
            if z_20.2 = 0 then
              (z_20.1, 0)
            else
              let x_23 := (z_20.1 57 9)
              let g_24 := up2 z_20.1 57 13 x_23
              let z_25 := f_X12_isSign g_24 59
              (z_25.1, z_25.2)
  else
    let z_29 := f_X12_fails g_1 1
    (z_29.1, z_29.2)
set_option maxHeartbeats 4000000 in
set_option maxRecDepth 100000 in
theorem k_X12_isLaw (l : Launch) {D : va_G} {cy : Nat → ClassId} {ad : Nat → Nat} {B0 : Nat} {f : wx_F} {P : va_W} (g : wx_M) (hpr : wx_PR g) : Met l yX12_isLaw wsX12_isLaw ({ frames := 3, cells := 0, slots := 0, locals := 65 } : Room) (wx_Pc D cy ad B0 f P g [.ref (ad 57)]) (wx_Qe D cy ad B0 f P (f_X12_isLaw g).1 (some (.int (f_X12_isLaw g).2))) 0 0 (fun q => B0 ≤ q) := by
  refine wx_enterE (cc := cX12_isLaw) (maxL := 1) (ty := .boolean) (own := RX12) (lv := [(0, .ref (ad 57))]) (by decide) rfl rfl (Nat.le_of_ble_eq_true rfl) rfl ?_
  intro p e R s m args below meth c ls Qm hx hb hml hown hts hK hX hS hR hret hl
  have hi_X12 : ∀ w ∈ wsX120, w ∈ wsX12_isLaw := by decide +kernel
  refine lv_aload_n hx hb dX12_isLaw_0 rfl (lv_at hl 0 rfl) ?_
  refine wx_callev (va_runV (As := []) (rest := []) ⟨hx, hb, hml, hown, hts⟩ (k_X12_nextToken l g hpr) (cwV 0 hts gX12_isLaw_X12_nextToken rfl rfl rfl (by decide +kernel) (by rw [hR]; exact ⟨Nat.le_of_ble_eq_true rfl, Nat.le_of_ble_eq_true rfl⟩)) ⟨wx_Pc.blind, wx_recv hK hX (by decide) sh_X12 rfl, (wx_Pc.pre hK hX).2⟩ rfl rfl hl.1 rfl (lv_room (Nat.le_of_ble_eq_true rfl)) dX12_isLaw_1 ⟨Nat.zero_le _, Nat.zero_le _⟩) hS (fun H locs hX hS => ?_)
  obtain ⟨g_1, eg_1, hX⟩ := wx_nm hX
  refine lv_aload_n hx hb dX12_isLaw_4 rfl (lv_at hl 0 rfl) ?_
  refine wx_geti (C := RX12) (T := TX12) (N := 27) (ci := 11) (j := 8) hx hb hts hi_X12 hown hK hX (by decide) sh_X12_8 rfl (by decide) (hts (.fieldLink RX12 84 "SeenAgainModel" "token" "I") (by decide +kernel)) (fun _ h9 => h9) dX12_isLaw_5 ?_
  refine lv_bipush (v := 104) hx hb dX12_isLaw_8 (by decide) ?_
  refine lv_icmp_eq (tgt := 19) hx hb dX12_isLaw_10 (by decide) (fun c_2 => ?_) (fun c_2 => ?_)
  · have b_3 : wx_b (g_1 57 8) 104 104 := by rw [c_2]; exact ⟨by decide, by decide⟩
    refine lv_aload_n hx hb dX12_isLaw_19 rfl (lv_at hl 0 rfl) ?_
    refine lv_iconst (v := 2) hx hb dX12_isLaw_20 (by decide) ?_
    refine lv_bipush (v := 6) hx hb dX12_isLaw_21 (by decide) ?_
    refine wx_callei (va_runV (As := [.int 2, .int 6]) (rest := []) ⟨hx, hb, hml, hown, hts⟩ (k_X12_isNext l g_1 2 6 (by rw [eg_1]; exact pr_X12_nextToken hpr)) (cwV 2 hts gX12_isLaw_X12_isNext rfl rfl rfl (by decide +kernel) (by rw [hR]; exact ⟨Nat.le_of_ble_eq_true rfl, Nat.le_of_ble_eq_true rfl⟩)) ⟨wx_Pc.blind, wx_recv hK hX (by decide) sh_X12 rfl, (wx_Pc.pre hK hX).2⟩ rfl rfl hl.1 rfl (lv_room (Nat.le_of_ble_eq_true rfl)) dX12_isLaw_23 ⟨Nat.zero_le _, Nat.zero_le _⟩) hS (fun H locs hX hS => ?_)
    obtain ⟨z_4, ez_4⟩ : ∃ z, z = f_X12_isNext g_1 2 6 := ⟨_, rfl⟩
    rw [← ez_4] at hX; rw [← ez_4]
    refine lv_if_ne (tgt := 31) hx hb dX12_isLaw_26 (by decide) (fun c_5 => ?_) (fun c_5 => ?_)
    · have b_6 : wx_b (z_4.1 57 9) 2 6 := by rw [ez_4]; exact nx_b (show wx_b 2 2 2 from ⟨by decide, by decide⟩) (show wx_b 6 6 6 from ⟨by decide, by decide⟩) (by rw [← ez_4]; exact c_5)
      refine lv_aload_n hx hb dX12_isLaw_31 rfl (lv_at hl 0 rfl) ?_
      refine lv_aload_n hx hb dX12_isLaw_32 rfl (lv_at hl 0 rfl) ?_
      refine wx_geti (C := RX12) (T := TX12) (N := 27) (ci := 11) (j := 9) hx hb hts hi_X12 hown hK hX (by decide) sh_X12_9 rfl (by decide) (hts (.fieldLink RX12 81 "SeenAgainModel" "number" "I") (by decide +kernel)) (fun _ h9 => h9) dX12_isLaw_33 ?_
      refine lv_topi (fun x_7 ex_7 => ?_)
      have bx_7 : wx_b x_7 2 6 := by rw [ex_7]; exact b_6
      refine wx_puti (C := RX12) (T := TX12) (N := 27) (ci := 11) (j := 11) (ty := .int) hx hb hts hi_X12 tyX12 tyX12_ok nmX12 hown hK hX hS (by decide) sh_X12_11 rfl (by decide) (hts (.fieldLink RX12 100 "SeenAgainModel" "readRooms" "I") (by decide +kernel)) (fun _ h9 => h9) rfl (by decide +kernel) rfl rfl dX12_isLaw_36 (fun H locs hX hS => ?_)
      obtain ⟨g_8, eg_8, hX⟩ := wx_nm hX
      refine lv_aload_n hx hb dX12_isLaw_39 rfl (lv_at hl 0 rfl) ?_
      refine lv_bipush (v := 44) hx hb dX12_isLaw_40 (by decide) ?_
      refine wx_callei (va_runV (As := [.int 44]) (rest := []) ⟨hx, hb, hml, hown, hts⟩ (k_X12_isSign l g_8 44 (by rw [eg_8]; exact pr_11 (wb_w bx_7 (by decide) (by decide)) (by rw [ez_4]; exact pr_X12_isNext (by rw [eg_1]; exact pr_X12_nextToken hpr)))) (cwV 1 hts gX12_isLaw_X12_isSign rfl rfl rfl (by decide +kernel) (by rw [hR]; exact ⟨Nat.le_of_ble_eq_true rfl, Nat.le_of_ble_eq_true rfl⟩)) ⟨wx_Pc.blind, wx_recv hK hX (by decide) sh_X12 rfl, (wx_Pc.pre hK hX).2⟩ rfl rfl hl.1 rfl (lv_room (Nat.le_of_ble_eq_true rfl)) dX12_isLaw_42 ⟨Nat.zero_le _, Nat.zero_le _⟩) hS (fun H locs hX hS => ?_)
      obtain ⟨z_9, ez_9⟩ : ∃ z, z = f_X12_isSign g_8 44 := ⟨_, rfl⟩
      rw [← ez_9] at hX; rw [← ez_9]
      refine lv_if_eq (tgt := 57) hx hb dX12_isLaw_45 (by decide) (fun c_10 => ?_) (fun c_10 => ?_)
      · have b_11 : wx_b z_9.2 0 0 := by rw [c_10]; exact ⟨by decide, by decide⟩
        refine lv_iconst (v := 0) hx hb dX12_isLaw_57 (by decide) ?_
        exact hret _ _ _ _ _ _ dX12_isLaw_58 rfl hX hS (by subst ez_9 eg_8 ex_7 ez_4 eg_1; simp only [f_X12_isLaw, if_pos c_2, if_neg c_5, if_pos c_10])
      · refine lv_aload_n hx hb dX12_isLaw_48 rfl (lv_at hl 0 rfl) ?_
        refine lv_iconst (v := 1) hx hb dX12_isLaw_49 (by decide) ?_
        refine lv_iconst (v := 5) hx hb dX12_isLaw_50 (by decide) ?_
        refine wx_callei (va_runV (As := [.int 1, .int 5]) (rest := []) ⟨hx, hb, hml, hown, hts⟩ (k_X12_isNext l z_9.1 1 5 (by rw [ez_9]; exact pr_X12_isSign (by rw [eg_8]; exact pr_11 (wb_w bx_7 (by decide) (by decide)) (by rw [ez_4]; exact pr_X12_isNext (by rw [eg_1]; exact pr_X12_nextToken hpr))))) (cwV 2 hts gX12_isLaw_X12_isNext rfl rfl rfl (by decide +kernel) (by rw [hR]; exact ⟨Nat.le_of_ble_eq_true rfl, Nat.le_of_ble_eq_true rfl⟩)) ⟨wx_Pc.blind, wx_recv hK hX (by decide) sh_X12 rfl, (wx_Pc.pre hK hX).2⟩ rfl rfl hl.1 rfl (lv_room (Nat.le_of_ble_eq_true rfl)) dX12_isLaw_51 ⟨Nat.zero_le _, Nat.zero_le _⟩) hS (fun H locs hX hS => ?_)
        obtain ⟨z_12, ez_12⟩ : ∃ z, z = f_X12_isNext z_9.1 1 5 := ⟨_, rfl⟩
        rw [← ez_12] at hX; rw [← ez_12]
        refine lv_if_ne (tgt := 59) hx hb dX12_isLaw_54 (by decide) (fun c_13 => ?_) (fun c_13 => ?_)
        · have b_14 : wx_b (z_12.1 57 9) 1 5 := by rw [ez_12]; exact nx_b (show wx_b 1 1 1 from ⟨by decide, by decide⟩) (show wx_b 5 5 5 from ⟨by decide, by decide⟩) (by rw [← ez_12]; exact c_13)
          refine lv_aload_n hx hb dX12_isLaw_59 rfl (lv_at hl 0 rfl) ?_
          refine lv_aload_n hx hb dX12_isLaw_60 rfl (lv_at hl 0 rfl) ?_
          refine wx_geti (C := RX12) (T := TX12) (N := 27) (ci := 11) (j := 9) hx hb hts hi_X12 hown hK hX (by decide) sh_X12_9 rfl (by decide) (hts (.fieldLink RX12 81 "SeenAgainModel" "number" "I") (by decide +kernel)) (fun _ h9 => h9) dX12_isLaw_61 ?_
          refine lv_topi (fun x_15 ex_15 => ?_)
          have bx_15 : wx_b x_15 1 5 := by rw [ex_15]; exact b_14
          refine wx_puti (C := RX12) (T := TX12) (N := 27) (ci := 11) (j := 12) (ty := .int) hx hb hts hi_X12 tyX12 tyX12_ok nmX12 hown hK hX hS (by decide) sh_X12_12 rfl (by decide) (hts (.fieldLink RX12 106 "SeenAgainModel" "readSeats" "I") (by decide +kernel)) (fun _ h9 => h9) rfl (by decide +kernel) rfl rfl dX12_isLaw_64 (fun H locs hX hS => ?_)
          obtain ⟨g_16, eg_16, hX⟩ := wx_nm hX
          refine lv_aload_n hx hb dX12_isLaw_67 rfl (lv_at hl 0 rfl) ?_
          refine lv_bipush (v := 44) hx hb dX12_isLaw_68 (by decide) ?_
          refine wx_callei (va_runV (As := [.int 44]) (rest := []) ⟨hx, hb, hml, hown, hts⟩ (k_X12_isSign l g_16 44 (by rw [eg_16]; exact pr_o (by decide) (by decide) (by decide) (by decide) (by decide) (by decide) (by rw [ez_12]; exact pr_X12_isNext (by rw [ez_9]; exact pr_X12_isSign (by rw [eg_8]; exact pr_11 (wb_w bx_7 (by decide) (by decide)) (by rw [ez_4]; exact pr_X12_isNext (by rw [eg_1]; exact pr_X12_nextToken hpr))))))) (cwV 1 hts gX12_isLaw_X12_isSign rfl rfl rfl (by decide +kernel) (by rw [hR]; exact ⟨Nat.le_of_ble_eq_true rfl, Nat.le_of_ble_eq_true rfl⟩)) ⟨wx_Pc.blind, wx_recv hK hX (by decide) sh_X12 rfl, (wx_Pc.pre hK hX).2⟩ rfl rfl hl.1 rfl (lv_room (Nat.le_of_ble_eq_true rfl)) dX12_isLaw_70 ⟨Nat.zero_le _, Nat.zero_le _⟩) hS (fun H locs hX hS => ?_)
          obtain ⟨z_17, ez_17⟩ : ∃ z, z = f_X12_isSign g_16 44 := ⟨_, rfl⟩
          rw [← ez_17] at hX; rw [← ez_17]
          refine lv_if_eq (tgt := 86) hx hb dX12_isLaw_73 (by decide) (fun c_18 => ?_) (fun c_18 => ?_)
          · have b_19 : wx_b z_17.2 0 0 := by rw [c_18]; exact ⟨by decide, by decide⟩
            refine lv_iconst (v := 0) hx hb dX12_isLaw_86 (by decide) ?_
            exact hret _ _ _ _ _ _ dX12_isLaw_87 rfl hX hS (by subst ez_17 eg_16 ex_15 ez_12 ez_9 eg_8 ex_7 ez_4 eg_1; simp only [f_X12_isLaw, if_pos c_2, if_neg c_5, if_neg c_10, if_neg c_13, if_pos c_18])
          · refine lv_aload_n hx hb dX12_isLaw_76 rfl (lv_at hl 0 rfl) ?_
            refine lv_iconst (v := 0) hx hb dX12_isLaw_77 (by decide) ?_
            refine lv_bipush (v := 20) hx hb dX12_isLaw_78 (by decide) ?_
            refine wx_callei (va_runV (As := [.int 0, .int 20]) (rest := []) ⟨hx, hb, hml, hown, hts⟩ (k_X12_isNext l z_17.1 0 20 (by rw [ez_17]; exact pr_X12_isSign (by rw [eg_16]; exact pr_o (by decide) (by decide) (by decide) (by decide) (by decide) (by decide) (by rw [ez_12]; exact pr_X12_isNext (by rw [ez_9]; exact pr_X12_isSign (by rw [eg_8]; exact pr_11 (wb_w bx_7 (by decide) (by decide)) (by rw [ez_4]; exact pr_X12_isNext (by rw [eg_1]; exact pr_X12_nextToken hpr)))))))) (cwV 2 hts gX12_isLaw_X12_isNext rfl rfl rfl (by decide +kernel) (by rw [hR]; exact ⟨Nat.le_of_ble_eq_true rfl, Nat.le_of_ble_eq_true rfl⟩)) ⟨wx_Pc.blind, wx_recv hK hX (by decide) sh_X12 rfl, (wx_Pc.pre hK hX).2⟩ rfl rfl hl.1 rfl (lv_room (Nat.le_of_ble_eq_true rfl)) dX12_isLaw_80 ⟨Nat.zero_le _, Nat.zero_le _⟩) hS (fun H locs hX hS => ?_)
            obtain ⟨z_20, ez_20⟩ : ∃ z, z = f_X12_isNext z_17.1 0 20 := ⟨_, rfl⟩
            rw [← ez_20] at hX; rw [← ez_20]
            refine lv_if_ne (tgt := 88) hx hb dX12_isLaw_83 (by decide) (fun c_21 => ?_) (fun c_21 => ?_)
            · have b_22 : wx_b (z_20.1 57 9) 0 20 := by rw [ez_20]; exact nx_b (show wx_b 0 0 0 from ⟨by decide, by decide⟩) (show wx_b 20 20 20 from ⟨by decide, by decide⟩) (by rw [← ez_20]; exact c_21)
              refine lv_aload_n hx hb dX12_isLaw_88 rfl (lv_at hl 0 rfl) ?_
              refine lv_aload_n hx hb dX12_isLaw_89 rfl (lv_at hl 0 rfl) ?_
              refine wx_geti (C := RX12) (T := TX12) (N := 27) (ci := 11) (j := 9) hx hb hts hi_X12 hown hK hX (by decide) sh_X12_9 rfl (by decide) (hts (.fieldLink RX12 81 "SeenAgainModel" "number" "I") (by decide +kernel)) (fun _ h9 => h9) dX12_isLaw_90 ?_
              refine lv_topi (fun x_23 ex_23 => ?_)
              have bx_23 : wx_b x_23 0 20 := by rw [ex_23]; exact b_22
              refine wx_puti (C := RX12) (T := TX12) (N := 27) (ci := 11) (j := 13) (ty := .int) hx hb hts hi_X12 tyX12 tyX12_ok nmX12 hown hK hX hS (by decide) sh_X12_13 rfl (by decide) (hts (.fieldLink RX12 109 "SeenAgainModel" "readFee" "I") (by decide +kernel)) (fun _ h9 => h9) rfl (by decide +kernel) rfl rfl dX12_isLaw_93 (fun H locs hX hS => ?_)
              obtain ⟨g_24, eg_24, hX⟩ := wx_nm hX
              refine lv_aload_n hx hb dX12_isLaw_96 rfl (lv_at hl 0 rfl) ?_
              refine lv_bipush (v := 59) hx hb dX12_isLaw_97 (by decide) ?_
              refine wx_callei (va_runV (As := [.int 59]) (rest := []) ⟨hx, hb, hml, hown, hts⟩ (k_X12_isSign l g_24 59 (by rw [eg_24]; exact pr_o (by decide) (by decide) (by decide) (by decide) (by decide) (by decide) (by rw [ez_20]; exact pr_X12_isNext (by rw [ez_17]; exact pr_X12_isSign (by rw [eg_16]; exact pr_o (by decide) (by decide) (by decide) (by decide) (by decide) (by decide) (by rw [ez_12]; exact pr_X12_isNext (by rw [ez_9]; exact pr_X12_isSign (by rw [eg_8]; exact pr_11 (wb_w bx_7 (by decide) (by decide)) (by rw [ez_4]; exact pr_X12_isNext (by rw [eg_1]; exact pr_X12_nextToken hpr)))))))))) (cwV 1 hts gX12_isLaw_X12_isSign rfl rfl rfl (by decide +kernel) (by rw [hR]; exact ⟨Nat.le_of_ble_eq_true rfl, Nat.le_of_ble_eq_true rfl⟩)) ⟨wx_Pc.blind, wx_recv hK hX (by decide) sh_X12 rfl, (wx_Pc.pre hK hX).2⟩ rfl rfl hl.1 rfl (lv_room (Nat.le_of_ble_eq_true rfl)) dX12_isLaw_99 ⟨Nat.zero_le _, Nat.zero_le _⟩) hS (fun H locs hX hS => ?_)
              obtain ⟨z_25, ez_25⟩ : ∃ z, z = f_X12_isSign g_24 59 := ⟨_, rfl⟩
              rw [← ez_25] at hX; rw [← ez_25]
              exact hret _ _ _ _ _ _ dX12_isLaw_102 (by rw [ez_25]; exact nb_f_X12_isSign _ _) hX hS (by subst ez_25 eg_24 ex_23 ez_20 ez_17 eg_16 ex_15 ez_12 ez_9 eg_8 ex_7 ez_4 eg_1; simp only [f_X12_isLaw, if_pos c_2, if_neg c_5, if_neg c_10, if_neg c_13, if_neg c_18, if_neg c_21])
            · have b_26 : wx_b z_20.2 0 0 := by rw [c_21]; exact ⟨by decide, by decide⟩
              refine lv_iconst (v := 0) hx hb dX12_isLaw_86 (by decide) ?_
              exact hret _ _ _ _ _ _ dX12_isLaw_87 rfl hX hS (by subst ez_20 ez_17 eg_16 ex_15 ez_12 ez_9 eg_8 ex_7 ez_4 eg_1; simp only [f_X12_isLaw, if_pos c_2, if_neg c_5, if_neg c_10, if_neg c_13, if_neg c_18, if_pos c_21])
        · have b_27 : wx_b z_12.2 0 0 := by rw [c_13]; exact ⟨by decide, by decide⟩
          refine lv_iconst (v := 0) hx hb dX12_isLaw_57 (by decide) ?_
          exact hret _ _ _ _ _ _ dX12_isLaw_58 rfl hX hS (by subst ez_12 ez_9 eg_8 ex_7 ez_4 eg_1; simp only [f_X12_isLaw, if_pos c_2, if_neg c_5, if_neg c_10, if_pos c_13])
    · have b_28 : wx_b z_4.2 0 0 := by rw [c_5]; exact ⟨by decide, by decide⟩
      refine lv_iconst (v := 0) hx hb dX12_isLaw_29 (by decide) ?_
      exact hret _ _ _ _ _ _ dX12_isLaw_30 rfl hX hS (by subst ez_4 eg_1; simp only [f_X12_isLaw, if_pos c_2, if_pos c_5])
  · refine lv_aload_n hx hb dX12_isLaw_13 rfl (lv_at hl 0 rfl) ?_
    refine lv_iconst (v := 1) hx hb dX12_isLaw_14 (by decide) ?_
    refine wx_callei (va_runV (As := [.int 1]) (rest := []) ⟨hx, hb, hml, hown, hts⟩ (k_X12_fails l g_1 1 (by rw [eg_1]; exact pr_X12_nextToken hpr)) (cwV 1 hts gX12_isLaw_X12_fails rfl rfl rfl (by decide +kernel) (by rw [hR]; exact ⟨Nat.le_of_ble_eq_true rfl, Nat.le_of_ble_eq_true rfl⟩)) ⟨wx_Pc.blind, wx_recv hK hX (by decide) sh_X12 rfl, (wx_Pc.pre hK hX).2⟩ rfl rfl hl.1 rfl (lv_room (Nat.le_of_ble_eq_true rfl)) dX12_isLaw_15 ⟨Nat.zero_le _, Nat.zero_le _⟩) hS (fun H locs hX hS => ?_)
    obtain ⟨z_29, ez_29⟩ : ∃ z, z = f_X12_fails g_1 1 := ⟨_, rfl⟩
    rw [← ez_29] at hX; rw [← ez_29]
    exact hret _ _ _ _ _ _ dX12_isLaw_18 (by rw [ez_29]; exact nb_f_X12_fails _ _) hX hS (by subst ez_29 eg_1; simp only [f_X12_isLaw, if_neg c_2])
set_option maxHeartbeats 4000000 in
theorem np_X12_isLaw {g : wx_M} (hpr : wx_PR g) : narrow .boolean (.int (f_X12_isLaw g).2) = .int (f_X12_isLaw g).2 := by
  obtain ⟨g_1, eg_1⟩ : ∃ z : wx_M, z = e_X12_nextToken g := ⟨_, rfl⟩
  by_cases c_2 : (g_1 57 8) = 104
  · have b_3 : wx_b (g_1 57 8) 104 104 := by rw [c_2]; exact ⟨by decide, by decide⟩
    obtain ⟨z_4, ez_4⟩ : ∃ z, z = f_X12_isNext g_1 2 6 := ⟨_, rfl⟩
    by_cases c_5 : z_4.2 = 0
    · have b_6 : wx_b z_4.2 0 0 := by rw [c_5]; exact ⟨by decide, by decide⟩
      rw [show f_X12_isLaw g = (z_4.1, 0) from (by subst ez_4 eg_1; simp only [f_X12_isLaw, if_pos c_2, if_pos c_5])]
      exact (show narrow .boolean (.int 0) = .int 0 from rfl)
    · have b_7 : wx_b (z_4.1 57 9) 2 6 := by rw [ez_4]; exact nx_b (show wx_b 2 2 2 from ⟨by decide, by decide⟩) (show wx_b 6 6 6 from ⟨by decide, by decide⟩) (by rw [← ez_4]; exact c_5)
      obtain ⟨x_8, ex_8⟩ : ∃ z : Int32, z = (z_4.1 57 9) := ⟨_, rfl⟩
      have bx_8 : wx_b x_8 2 6 := by rw [ex_8]; exact b_7
      obtain ⟨g_9, eg_9⟩ : ∃ z : wx_M, z = up2 z_4.1 57 11 x_8 := ⟨_, rfl⟩
      obtain ⟨z_10, ez_10⟩ : ∃ z, z = f_X12_isSign g_9 44 := ⟨_, rfl⟩
      by_cases c_11 : z_10.2 = 0
      · have b_12 : wx_b z_10.2 0 0 := by rw [c_11]; exact ⟨by decide, by decide⟩
        rw [show f_X12_isLaw g = (z_10.1, 0) from (by subst ez_10 eg_9 ex_8 ez_4 eg_1; simp only [f_X12_isLaw, if_pos c_2, if_neg c_5, if_pos c_11])]
        exact (show narrow .boolean (.int 0) = .int 0 from rfl)
      · obtain ⟨z_13, ez_13⟩ : ∃ z, z = f_X12_isNext z_10.1 1 5 := ⟨_, rfl⟩
        by_cases c_14 : z_13.2 = 0
        · have b_15 : wx_b z_13.2 0 0 := by rw [c_14]; exact ⟨by decide, by decide⟩
          rw [show f_X12_isLaw g = (z_13.1, 0) from (by subst ez_13 ez_10 eg_9 ex_8 ez_4 eg_1; simp only [f_X12_isLaw, if_pos c_2, if_neg c_5, if_neg c_11, if_pos c_14])]
          exact (show narrow .boolean (.int 0) = .int 0 from rfl)
        · have b_16 : wx_b (z_13.1 57 9) 1 5 := by rw [ez_13]; exact nx_b (show wx_b 1 1 1 from ⟨by decide, by decide⟩) (show wx_b 5 5 5 from ⟨by decide, by decide⟩) (by rw [← ez_13]; exact c_14)
          obtain ⟨x_17, ex_17⟩ : ∃ z : Int32, z = (z_13.1 57 9) := ⟨_, rfl⟩
          have bx_17 : wx_b x_17 1 5 := by rw [ex_17]; exact b_16
          obtain ⟨g_18, eg_18⟩ : ∃ z : wx_M, z = up2 z_13.1 57 12 x_17 := ⟨_, rfl⟩
          obtain ⟨z_19, ez_19⟩ : ∃ z, z = f_X12_isSign g_18 44 := ⟨_, rfl⟩
          by_cases c_20 : z_19.2 = 0
          · have b_21 : wx_b z_19.2 0 0 := by rw [c_20]; exact ⟨by decide, by decide⟩
            rw [show f_X12_isLaw g = (z_19.1, 0) from (by subst ez_19 eg_18 ex_17 ez_13 ez_10 eg_9 ex_8 ez_4 eg_1; simp only [f_X12_isLaw, if_pos c_2, if_neg c_5, if_neg c_11, if_neg c_14, if_pos c_20])]
            exact (show narrow .boolean (.int 0) = .int 0 from rfl)
          · obtain ⟨z_22, ez_22⟩ : ∃ z, z = f_X12_isNext z_19.1 0 20 := ⟨_, rfl⟩
            by_cases c_23 : z_22.2 = 0
            · have b_24 : wx_b z_22.2 0 0 := by rw [c_23]; exact ⟨by decide, by decide⟩
              rw [show f_X12_isLaw g = (z_22.1, 0) from (by subst ez_22 ez_19 eg_18 ex_17 ez_13 ez_10 eg_9 ex_8 ez_4 eg_1; simp only [f_X12_isLaw, if_pos c_2, if_neg c_5, if_neg c_11, if_neg c_14, if_neg c_20, if_pos c_23])]
              exact (show narrow .boolean (.int 0) = .int 0 from rfl)
            · have b_25 : wx_b (z_22.1 57 9) 0 20 := by rw [ez_22]; exact nx_b (show wx_b 0 0 0 from ⟨by decide, by decide⟩) (show wx_b 20 20 20 from ⟨by decide, by decide⟩) (by rw [← ez_22]; exact c_23)
              obtain ⟨x_26, ex_26⟩ : ∃ z : Int32, z = (z_22.1 57 9) := ⟨_, rfl⟩
              have bx_26 : wx_b x_26 0 20 := by rw [ex_26]; exact b_25
              obtain ⟨g_27, eg_27⟩ : ∃ z : wx_M, z = up2 z_22.1 57 13 x_26 := ⟨_, rfl⟩
              obtain ⟨z_28, ez_28⟩ : ∃ z, z = f_X12_isSign g_27 59 := ⟨_, rfl⟩
              rw [show f_X12_isLaw g = (z_28.1, z_28.2) from (by subst ez_28 eg_27 ex_26 ez_22 ez_19 eg_18 ex_17 ez_13 ez_10 eg_9 ex_8 ez_4 eg_1; simp only [f_X12_isLaw, if_pos c_2, if_neg c_5, if_neg c_11, if_neg c_14, if_neg c_20, if_neg c_23])]
              exact (by rw [ez_28]; exact nb_f_X12_isSign _ _)
  · obtain ⟨z_29, ez_29⟩ : ∃ z, z = f_X12_fails g_1 1 := ⟨_, rfl⟩
    rw [show f_X12_isLaw g = (z_29.1, z_29.2) from (by subst ez_29 eg_1; simp only [f_X12_isLaw, if_neg c_2])]
    exact (by rw [ez_29]; exact nb_f_X12_fails _ _)

set_option maxHeartbeats 4000000 in
theorem pr_X12_isLaw {g : wx_M} (hpr : wx_PR g) : wx_PR (f_X12_isLaw g).1 := by
  obtain ⟨g_1, eg_1⟩ : ∃ z : wx_M, z = e_X12_nextToken g := ⟨_, rfl⟩
  by_cases c_2 : (g_1 57 8) = 104
  · have b_3 : wx_b (g_1 57 8) 104 104 := by rw [c_2]; exact ⟨by decide, by decide⟩
    obtain ⟨z_4, ez_4⟩ : ∃ z, z = f_X12_isNext g_1 2 6 := ⟨_, rfl⟩
    by_cases c_5 : z_4.2 = 0
    · have b_6 : wx_b z_4.2 0 0 := by rw [c_5]; exact ⟨by decide, by decide⟩
      rw [show f_X12_isLaw g = (z_4.1, 0) from (by subst ez_4 eg_1; simp only [f_X12_isLaw, if_pos c_2, if_pos c_5])]
      exact (by rw [ez_4]; exact pr_X12_isNext (by rw [eg_1]; exact pr_X12_nextToken hpr))
    · have b_7 : wx_b (z_4.1 57 9) 2 6 := by rw [ez_4]; exact nx_b (show wx_b 2 2 2 from ⟨by decide, by decide⟩) (show wx_b 6 6 6 from ⟨by decide, by decide⟩) (by rw [← ez_4]; exact c_5)
      obtain ⟨x_8, ex_8⟩ : ∃ z : Int32, z = (z_4.1 57 9) := ⟨_, rfl⟩
      have bx_8 : wx_b x_8 2 6 := by rw [ex_8]; exact b_7
      obtain ⟨g_9, eg_9⟩ : ∃ z : wx_M, z = up2 z_4.1 57 11 x_8 := ⟨_, rfl⟩
      obtain ⟨z_10, ez_10⟩ : ∃ z, z = f_X12_isSign g_9 44 := ⟨_, rfl⟩
      by_cases c_11 : z_10.2 = 0
      · have b_12 : wx_b z_10.2 0 0 := by rw [c_11]; exact ⟨by decide, by decide⟩
        rw [show f_X12_isLaw g = (z_10.1, 0) from (by subst ez_10 eg_9 ex_8 ez_4 eg_1; simp only [f_X12_isLaw, if_pos c_2, if_neg c_5, if_pos c_11])]
        exact (by rw [ez_10]; exact pr_X12_isSign (by rw [eg_9]; exact pr_11 (wb_w bx_8 (by decide) (by decide)) (by rw [ez_4]; exact pr_X12_isNext (by rw [eg_1]; exact pr_X12_nextToken hpr))))
      · obtain ⟨z_13, ez_13⟩ : ∃ z, z = f_X12_isNext z_10.1 1 5 := ⟨_, rfl⟩
        by_cases c_14 : z_13.2 = 0
        · have b_15 : wx_b z_13.2 0 0 := by rw [c_14]; exact ⟨by decide, by decide⟩
          rw [show f_X12_isLaw g = (z_13.1, 0) from (by subst ez_13 ez_10 eg_9 ex_8 ez_4 eg_1; simp only [f_X12_isLaw, if_pos c_2, if_neg c_5, if_neg c_11, if_pos c_14])]
          exact (by rw [ez_13]; exact pr_X12_isNext (by rw [ez_10]; exact pr_X12_isSign (by rw [eg_9]; exact pr_11 (wb_w bx_8 (by decide) (by decide)) (by rw [ez_4]; exact pr_X12_isNext (by rw [eg_1]; exact pr_X12_nextToken hpr)))))
        · have b_16 : wx_b (z_13.1 57 9) 1 5 := by rw [ez_13]; exact nx_b (show wx_b 1 1 1 from ⟨by decide, by decide⟩) (show wx_b 5 5 5 from ⟨by decide, by decide⟩) (by rw [← ez_13]; exact c_14)
          obtain ⟨x_17, ex_17⟩ : ∃ z : Int32, z = (z_13.1 57 9) := ⟨_, rfl⟩
          have bx_17 : wx_b x_17 1 5 := by rw [ex_17]; exact b_16
          obtain ⟨g_18, eg_18⟩ : ∃ z : wx_M, z = up2 z_13.1 57 12 x_17 := ⟨_, rfl⟩
          obtain ⟨z_19, ez_19⟩ : ∃ z, z = f_X12_isSign g_18 44 := ⟨_, rfl⟩
          by_cases c_20 : z_19.2 = 0
          · have b_21 : wx_b z_19.2 0 0 := by rw [c_20]; exact ⟨by decide, by decide⟩
            rw [show f_X12_isLaw g = (z_19.1, 0) from (by subst ez_19 eg_18 ex_17 ez_13 ez_10 eg_9 ex_8 ez_4 eg_1; simp only [f_X12_isLaw, if_pos c_2, if_neg c_5, if_neg c_11, if_neg c_14, if_pos c_20])]
            exact (by rw [ez_19]; exact pr_X12_isSign (by rw [eg_18]; exact pr_o (by decide) (by decide) (by decide) (by decide) (by decide) (by decide) (by rw [ez_13]; exact pr_X12_isNext (by rw [ez_10]; exact pr_X12_isSign (by rw [eg_9]; exact pr_11 (wb_w bx_8 (by decide) (by decide)) (by rw [ez_4]; exact pr_X12_isNext (by rw [eg_1]; exact pr_X12_nextToken hpr)))))))
          · obtain ⟨z_22, ez_22⟩ : ∃ z, z = f_X12_isNext z_19.1 0 20 := ⟨_, rfl⟩
            by_cases c_23 : z_22.2 = 0
            · have b_24 : wx_b z_22.2 0 0 := by rw [c_23]; exact ⟨by decide, by decide⟩
              rw [show f_X12_isLaw g = (z_22.1, 0) from (by subst ez_22 ez_19 eg_18 ex_17 ez_13 ez_10 eg_9 ex_8 ez_4 eg_1; simp only [f_X12_isLaw, if_pos c_2, if_neg c_5, if_neg c_11, if_neg c_14, if_neg c_20, if_pos c_23])]
              exact (by rw [ez_22]; exact pr_X12_isNext (by rw [ez_19]; exact pr_X12_isSign (by rw [eg_18]; exact pr_o (by decide) (by decide) (by decide) (by decide) (by decide) (by decide) (by rw [ez_13]; exact pr_X12_isNext (by rw [ez_10]; exact pr_X12_isSign (by rw [eg_9]; exact pr_11 (wb_w bx_8 (by decide) (by decide)) (by rw [ez_4]; exact pr_X12_isNext (by rw [eg_1]; exact pr_X12_nextToken hpr))))))))
            · have b_25 : wx_b (z_22.1 57 9) 0 20 := by rw [ez_22]; exact nx_b (show wx_b 0 0 0 from ⟨by decide, by decide⟩) (show wx_b 20 20 20 from ⟨by decide, by decide⟩) (by rw [← ez_22]; exact c_23)
              obtain ⟨x_26, ex_26⟩ : ∃ z : Int32, z = (z_22.1 57 9) := ⟨_, rfl⟩
              have bx_26 : wx_b x_26 0 20 := by rw [ex_26]; exact b_25
              obtain ⟨g_27, eg_27⟩ : ∃ z : wx_M, z = up2 z_22.1 57 13 x_26 := ⟨_, rfl⟩
              obtain ⟨z_28, ez_28⟩ : ∃ z, z = f_X12_isSign g_27 59 := ⟨_, rfl⟩
              rw [show f_X12_isLaw g = (z_28.1, z_28.2) from (by subst ez_28 eg_27 ex_26 ez_22 ez_19 eg_18 ex_17 ez_13 ez_10 eg_9 ex_8 ez_4 eg_1; simp only [f_X12_isLaw, if_pos c_2, if_neg c_5, if_neg c_11, if_neg c_14, if_neg c_20, if_neg c_23])]
              exact (by rw [ez_28]; exact pr_X12_isSign (by rw [eg_27]; exact pr_o (by decide) (by decide) (by decide) (by decide) (by decide) (by decide) (by rw [ez_22]; exact pr_X12_isNext (by rw [ez_19]; exact pr_X12_isSign (by rw [eg_18]; exact pr_o (by decide) (by decide) (by decide) (by decide) (by decide) (by decide) (by rw [ez_13]; exact pr_X12_isNext (by rw [ez_10]; exact pr_X12_isSign (by rw [eg_9]; exact pr_11 (wb_w bx_8 (by decide) (by decide)) (by rw [ez_4]; exact pr_X12_isNext (by rw [eg_1]; exact pr_X12_nextToken hpr))))))))))
  · obtain ⟨z_29, ez_29⟩ : ∃ z, z = f_X12_fails g_1 1 := ⟨_, rfl⟩
    rw [show f_X12_isLaw g = (z_29.1, z_29.2) from (by subst ez_29 eg_1; simp only [f_X12_isLaw, if_neg c_2])]
    exact (by rw [ez_29]; exact pr_X12_fails (by rw [eg_1]; exact pr_X12_nextToken hpr))
set_option maxHeartbeats 4000000 in
theorem pg_X12_isLaw {g : wx_M} (hpr : wx_PR g) : (g 57 6).toNatClampNeg ≤ ((f_X12_isLaw g).1 57 6).toNatClampNeg := by
  obtain ⟨g_1, eg_1⟩ : ∃ z : wx_M, z = e_X12_nextToken g := ⟨_, rfl⟩
  by_cases c_2 : (g_1 57 8) = 104
  · have b_3 : wx_b (g_1 57 8) 104 104 := by rw [c_2]; exact ⟨by decide, by decide⟩
    obtain ⟨z_4, ez_4⟩ : ∃ z, z = f_X12_isNext g_1 2 6 := ⟨_, rfl⟩
    by_cases c_5 : z_4.2 = 0
    · have b_6 : wx_b z_4.2 0 0 := by rw [c_5]; exact ⟨by decide, by decide⟩
      rw [show f_X12_isLaw g = (z_4.1, 0) from (by subst ez_4 eg_1; simp only [f_X12_isLaw, if_pos c_2, if_pos c_5])]
      exact (Nat.le_trans (Nat.le_trans (Nat.le_refl _) (show (g 57 6).toNatClampNeg ≤ (g_1 57 6).toNatClampNeg from by rw [eg_1]; exact pg_X12_nextToken hpr)) (show (g_1 57 6).toNatClampNeg ≤ (z_4.1 57 6).toNatClampNeg from by rw [ez_4]; exact pg_X12_isNext (by rw [eg_1]; exact pr_X12_nextToken hpr)))
    · have b_7 : wx_b (z_4.1 57 9) 2 6 := by rw [ez_4]; exact nx_b (show wx_b 2 2 2 from ⟨by decide, by decide⟩) (show wx_b 6 6 6 from ⟨by decide, by decide⟩) (by rw [← ez_4]; exact c_5)
      obtain ⟨x_8, ex_8⟩ : ∃ z : Int32, z = (z_4.1 57 9) := ⟨_, rfl⟩
      have bx_8 : wx_b x_8 2 6 := by rw [ex_8]; exact b_7
      obtain ⟨g_9, eg_9⟩ : ∃ z : wx_M, z = up2 z_4.1 57 11 x_8 := ⟨_, rfl⟩
      obtain ⟨z_10, ez_10⟩ : ∃ z, z = f_X12_isSign g_9 44 := ⟨_, rfl⟩
      by_cases c_11 : z_10.2 = 0
      · have b_12 : wx_b z_10.2 0 0 := by rw [c_11]; exact ⟨by decide, by decide⟩
        rw [show f_X12_isLaw g = (z_10.1, 0) from (by subst ez_10 eg_9 ex_8 ez_4 eg_1; simp only [f_X12_isLaw, if_pos c_2, if_neg c_5, if_pos c_11])]
        exact (Nat.le_trans (Nat.le_trans (Nat.le_trans (Nat.le_trans (Nat.le_refl _) (show (g 57 6).toNatClampNeg ≤ (g_1 57 6).toNatClampNeg from by rw [eg_1]; exact pg_X12_nextToken hpr)) (show (g_1 57 6).toNatClampNeg ≤ (z_4.1 57 6).toNatClampNeg from by rw [ez_4]; exact pg_X12_isNext (by rw [eg_1]; exact pr_X12_nextToken hpr))) (Nat.le_of_eq (show (z_4.1 57 6).toNatClampNeg = (g_9 57 6).toNatClampNeg from by rw [eg_9, up2_sn (by decide)]))) (show (g_9 57 6).toNatClampNeg ≤ (z_10.1 57 6).toNatClampNeg from by rw [ez_10]; exact pg_X12_isSign (by rw [eg_9]; exact pr_11 (wb_w bx_8 (by decide) (by decide)) (by rw [ez_4]; exact pr_X12_isNext (by rw [eg_1]; exact pr_X12_nextToken hpr)))))
      · obtain ⟨z_13, ez_13⟩ : ∃ z, z = f_X12_isNext z_10.1 1 5 := ⟨_, rfl⟩
        by_cases c_14 : z_13.2 = 0
        · have b_15 : wx_b z_13.2 0 0 := by rw [c_14]; exact ⟨by decide, by decide⟩
          rw [show f_X12_isLaw g = (z_13.1, 0) from (by subst ez_13 ez_10 eg_9 ex_8 ez_4 eg_1; simp only [f_X12_isLaw, if_pos c_2, if_neg c_5, if_neg c_11, if_pos c_14])]
          exact (Nat.le_trans (Nat.le_trans (Nat.le_trans (Nat.le_trans (Nat.le_trans (Nat.le_refl _) (show (g 57 6).toNatClampNeg ≤ (g_1 57 6).toNatClampNeg from by rw [eg_1]; exact pg_X12_nextToken hpr)) (show (g_1 57 6).toNatClampNeg ≤ (z_4.1 57 6).toNatClampNeg from by rw [ez_4]; exact pg_X12_isNext (by rw [eg_1]; exact pr_X12_nextToken hpr))) (Nat.le_of_eq (show (z_4.1 57 6).toNatClampNeg = (g_9 57 6).toNatClampNeg from by rw [eg_9, up2_sn (by decide)]))) (show (g_9 57 6).toNatClampNeg ≤ (z_10.1 57 6).toNatClampNeg from by rw [ez_10]; exact pg_X12_isSign (by rw [eg_9]; exact pr_11 (wb_w bx_8 (by decide) (by decide)) (by rw [ez_4]; exact pr_X12_isNext (by rw [eg_1]; exact pr_X12_nextToken hpr))))) (show (z_10.1 57 6).toNatClampNeg ≤ (z_13.1 57 6).toNatClampNeg from by rw [ez_13]; exact pg_X12_isNext (by rw [ez_10]; exact pr_X12_isSign (by rw [eg_9]; exact pr_11 (wb_w bx_8 (by decide) (by decide)) (by rw [ez_4]; exact pr_X12_isNext (by rw [eg_1]; exact pr_X12_nextToken hpr))))))
        · have b_16 : wx_b (z_13.1 57 9) 1 5 := by rw [ez_13]; exact nx_b (show wx_b 1 1 1 from ⟨by decide, by decide⟩) (show wx_b 5 5 5 from ⟨by decide, by decide⟩) (by rw [← ez_13]; exact c_14)
          obtain ⟨x_17, ex_17⟩ : ∃ z : Int32, z = (z_13.1 57 9) := ⟨_, rfl⟩
          have bx_17 : wx_b x_17 1 5 := by rw [ex_17]; exact b_16
          obtain ⟨g_18, eg_18⟩ : ∃ z : wx_M, z = up2 z_13.1 57 12 x_17 := ⟨_, rfl⟩
          obtain ⟨z_19, ez_19⟩ : ∃ z, z = f_X12_isSign g_18 44 := ⟨_, rfl⟩
          by_cases c_20 : z_19.2 = 0
          · have b_21 : wx_b z_19.2 0 0 := by rw [c_20]; exact ⟨by decide, by decide⟩
            rw [show f_X12_isLaw g = (z_19.1, 0) from (by subst ez_19 eg_18 ex_17 ez_13 ez_10 eg_9 ex_8 ez_4 eg_1; simp only [f_X12_isLaw, if_pos c_2, if_neg c_5, if_neg c_11, if_neg c_14, if_pos c_20])]
            exact (Nat.le_trans (Nat.le_trans (Nat.le_trans (Nat.le_trans (Nat.le_trans (Nat.le_trans (Nat.le_trans (Nat.le_refl _) (show (g 57 6).toNatClampNeg ≤ (g_1 57 6).toNatClampNeg from by rw [eg_1]; exact pg_X12_nextToken hpr)) (show (g_1 57 6).toNatClampNeg ≤ (z_4.1 57 6).toNatClampNeg from by rw [ez_4]; exact pg_X12_isNext (by rw [eg_1]; exact pr_X12_nextToken hpr))) (Nat.le_of_eq (show (z_4.1 57 6).toNatClampNeg = (g_9 57 6).toNatClampNeg from by rw [eg_9, up2_sn (by decide)]))) (show (g_9 57 6).toNatClampNeg ≤ (z_10.1 57 6).toNatClampNeg from by rw [ez_10]; exact pg_X12_isSign (by rw [eg_9]; exact pr_11 (wb_w bx_8 (by decide) (by decide)) (by rw [ez_4]; exact pr_X12_isNext (by rw [eg_1]; exact pr_X12_nextToken hpr))))) (show (z_10.1 57 6).toNatClampNeg ≤ (z_13.1 57 6).toNatClampNeg from by rw [ez_13]; exact pg_X12_isNext (by rw [ez_10]; exact pr_X12_isSign (by rw [eg_9]; exact pr_11 (wb_w bx_8 (by decide) (by decide)) (by rw [ez_4]; exact pr_X12_isNext (by rw [eg_1]; exact pr_X12_nextToken hpr)))))) (Nat.le_of_eq (show (z_13.1 57 6).toNatClampNeg = (g_18 57 6).toNatClampNeg from by rw [eg_18, up2_sn (by decide)]))) (show (g_18 57 6).toNatClampNeg ≤ (z_19.1 57 6).toNatClampNeg from by rw [ez_19]; exact pg_X12_isSign (by rw [eg_18]; exact pr_o (by decide) (by decide) (by decide) (by decide) (by decide) (by decide) (by rw [ez_13]; exact pr_X12_isNext (by rw [ez_10]; exact pr_X12_isSign (by rw [eg_9]; exact pr_11 (wb_w bx_8 (by decide) (by decide)) (by rw [ez_4]; exact pr_X12_isNext (by rw [eg_1]; exact pr_X12_nextToken hpr))))))))
          · obtain ⟨z_22, ez_22⟩ : ∃ z, z = f_X12_isNext z_19.1 0 20 := ⟨_, rfl⟩
            by_cases c_23 : z_22.2 = 0
            · have b_24 : wx_b z_22.2 0 0 := by rw [c_23]; exact ⟨by decide, by decide⟩
              rw [show f_X12_isLaw g = (z_22.1, 0) from (by subst ez_22 ez_19 eg_18 ex_17 ez_13 ez_10 eg_9 ex_8 ez_4 eg_1; simp only [f_X12_isLaw, if_pos c_2, if_neg c_5, if_neg c_11, if_neg c_14, if_neg c_20, if_pos c_23])]
              exact (Nat.le_trans (Nat.le_trans (Nat.le_trans (Nat.le_trans (Nat.le_trans (Nat.le_trans (Nat.le_trans (Nat.le_trans (Nat.le_refl _) (show (g 57 6).toNatClampNeg ≤ (g_1 57 6).toNatClampNeg from by rw [eg_1]; exact pg_X12_nextToken hpr)) (show (g_1 57 6).toNatClampNeg ≤ (z_4.1 57 6).toNatClampNeg from by rw [ez_4]; exact pg_X12_isNext (by rw [eg_1]; exact pr_X12_nextToken hpr))) (Nat.le_of_eq (show (z_4.1 57 6).toNatClampNeg = (g_9 57 6).toNatClampNeg from by rw [eg_9, up2_sn (by decide)]))) (show (g_9 57 6).toNatClampNeg ≤ (z_10.1 57 6).toNatClampNeg from by rw [ez_10]; exact pg_X12_isSign (by rw [eg_9]; exact pr_11 (wb_w bx_8 (by decide) (by decide)) (by rw [ez_4]; exact pr_X12_isNext (by rw [eg_1]; exact pr_X12_nextToken hpr))))) (show (z_10.1 57 6).toNatClampNeg ≤ (z_13.1 57 6).toNatClampNeg from by rw [ez_13]; exact pg_X12_isNext (by rw [ez_10]; exact pr_X12_isSign (by rw [eg_9]; exact pr_11 (wb_w bx_8 (by decide) (by decide)) (by rw [ez_4]; exact pr_X12_isNext (by rw [eg_1]; exact pr_X12_nextToken hpr)))))) (Nat.le_of_eq (show (z_13.1 57 6).toNatClampNeg = (g_18 57 6).toNatClampNeg from by rw [eg_18, up2_sn (by decide)]))) (show (g_18 57 6).toNatClampNeg ≤ (z_19.1 57 6).toNatClampNeg from by rw [ez_19]; exact pg_X12_isSign (by rw [eg_18]; exact pr_o (by decide) (by decide) (by decide) (by decide) (by decide) (by decide) (by rw [ez_13]; exact pr_X12_isNext (by rw [ez_10]; exact pr_X12_isSign (by rw [eg_9]; exact pr_11 (wb_w bx_8 (by decide) (by decide)) (by rw [ez_4]; exact pr_X12_isNext (by rw [eg_1]; exact pr_X12_nextToken hpr)))))))) (show (z_19.1 57 6).toNatClampNeg ≤ (z_22.1 57 6).toNatClampNeg from by rw [ez_22]; exact pg_X12_isNext (by rw [ez_19]; exact pr_X12_isSign (by rw [eg_18]; exact pr_o (by decide) (by decide) (by decide) (by decide) (by decide) (by decide) (by rw [ez_13]; exact pr_X12_isNext (by rw [ez_10]; exact pr_X12_isSign (by rw [eg_9]; exact pr_11 (wb_w bx_8 (by decide) (by decide)) (by rw [ez_4]; exact pr_X12_isNext (by rw [eg_1]; exact pr_X12_nextToken hpr)))))))))
            · have b_25 : wx_b (z_22.1 57 9) 0 20 := by rw [ez_22]; exact nx_b (show wx_b 0 0 0 from ⟨by decide, by decide⟩) (show wx_b 20 20 20 from ⟨by decide, by decide⟩) (by rw [← ez_22]; exact c_23)
              obtain ⟨x_26, ex_26⟩ : ∃ z : Int32, z = (z_22.1 57 9) := ⟨_, rfl⟩
              have bx_26 : wx_b x_26 0 20 := by rw [ex_26]; exact b_25
              obtain ⟨g_27, eg_27⟩ : ∃ z : wx_M, z = up2 z_22.1 57 13 x_26 := ⟨_, rfl⟩
              obtain ⟨z_28, ez_28⟩ : ∃ z, z = f_X12_isSign g_27 59 := ⟨_, rfl⟩
              rw [show f_X12_isLaw g = (z_28.1, z_28.2) from (by subst ez_28 eg_27 ex_26 ez_22 ez_19 eg_18 ex_17 ez_13 ez_10 eg_9 ex_8 ez_4 eg_1; simp only [f_X12_isLaw, if_pos c_2, if_neg c_5, if_neg c_11, if_neg c_14, if_neg c_20, if_neg c_23])]
              exact (Nat.le_trans (Nat.le_trans (Nat.le_trans (Nat.le_trans (Nat.le_trans (Nat.le_trans (Nat.le_trans (Nat.le_trans (Nat.le_trans (Nat.le_trans (Nat.le_refl _) (show (g 57 6).toNatClampNeg ≤ (g_1 57 6).toNatClampNeg from by rw [eg_1]; exact pg_X12_nextToken hpr)) (show (g_1 57 6).toNatClampNeg ≤ (z_4.1 57 6).toNatClampNeg from by rw [ez_4]; exact pg_X12_isNext (by rw [eg_1]; exact pr_X12_nextToken hpr))) (Nat.le_of_eq (show (z_4.1 57 6).toNatClampNeg = (g_9 57 6).toNatClampNeg from by rw [eg_9, up2_sn (by decide)]))) (show (g_9 57 6).toNatClampNeg ≤ (z_10.1 57 6).toNatClampNeg from by rw [ez_10]; exact pg_X12_isSign (by rw [eg_9]; exact pr_11 (wb_w bx_8 (by decide) (by decide)) (by rw [ez_4]; exact pr_X12_isNext (by rw [eg_1]; exact pr_X12_nextToken hpr))))) (show (z_10.1 57 6).toNatClampNeg ≤ (z_13.1 57 6).toNatClampNeg from by rw [ez_13]; exact pg_X12_isNext (by rw [ez_10]; exact pr_X12_isSign (by rw [eg_9]; exact pr_11 (wb_w bx_8 (by decide) (by decide)) (by rw [ez_4]; exact pr_X12_isNext (by rw [eg_1]; exact pr_X12_nextToken hpr)))))) (Nat.le_of_eq (show (z_13.1 57 6).toNatClampNeg = (g_18 57 6).toNatClampNeg from by rw [eg_18, up2_sn (by decide)]))) (show (g_18 57 6).toNatClampNeg ≤ (z_19.1 57 6).toNatClampNeg from by rw [ez_19]; exact pg_X12_isSign (by rw [eg_18]; exact pr_o (by decide) (by decide) (by decide) (by decide) (by decide) (by decide) (by rw [ez_13]; exact pr_X12_isNext (by rw [ez_10]; exact pr_X12_isSign (by rw [eg_9]; exact pr_11 (wb_w bx_8 (by decide) (by decide)) (by rw [ez_4]; exact pr_X12_isNext (by rw [eg_1]; exact pr_X12_nextToken hpr)))))))) (show (z_19.1 57 6).toNatClampNeg ≤ (z_22.1 57 6).toNatClampNeg from by rw [ez_22]; exact pg_X12_isNext (by rw [ez_19]; exact pr_X12_isSign (by rw [eg_18]; exact pr_o (by decide) (by decide) (by decide) (by decide) (by decide) (by decide) (by rw [ez_13]; exact pr_X12_isNext (by rw [ez_10]; exact pr_X12_isSign (by rw [eg_9]; exact pr_11 (wb_w bx_8 (by decide) (by decide)) (by rw [ez_4]; exact pr_X12_isNext (by rw [eg_1]; exact pr_X12_nextToken hpr))))))))) (Nat.le_of_eq (show (z_22.1 57 6).toNatClampNeg = (g_27 57 6).toNatClampNeg from by rw [eg_27, up2_sn (by decide)]))) (show (g_27 57 6).toNatClampNeg ≤ (z_28.1 57 6).toNatClampNeg from by rw [ez_28]; exact pg_X12_isSign (by rw [eg_27]; exact pr_o (by decide) (by decide) (by decide) (by decide) (by decide) (by decide) (by rw [ez_22]; exact pr_X12_isNext (by rw [ez_19]; exact pr_X12_isSign (by rw [eg_18]; exact pr_o (by decide) (by decide) (by decide) (by decide) (by decide) (by decide) (by rw [ez_13]; exact pr_X12_isNext (by rw [ez_10]; exact pr_X12_isSign (by rw [eg_9]; exact pr_11 (wb_w bx_8 (by decide) (by decide)) (by rw [ez_4]; exact pr_X12_isNext (by rw [eg_1]; exact pr_X12_nextToken hpr)))))))))))
  · obtain ⟨z_29, ez_29⟩ : ∃ z, z = f_X12_fails g_1 1 := ⟨_, rfl⟩
    rw [show f_X12_isLaw g = (z_29.1, z_29.2) from (by subst ez_29 eg_1; simp only [f_X12_isLaw, if_neg c_2])]
    exact (Nat.le_trans (Nat.le_trans (Nat.le_refl _) (show (g 57 6).toNatClampNeg ≤ (g_1 57 6).toNatClampNeg from by rw [eg_1]; exact pg_X12_nextToken hpr)) (show (g_1 57 6).toNatClampNeg ≤ (z_29.1 57 6).toNatClampNeg from by rw [ez_29]; exact pg_X12_fails (by rw [eg_1]; exact pr_X12_nextToken hpr)))

def f_X12_isWall (g : wx_M) : wx_M × Int32 :=
  if (g 57 14) = 9 then
    let z_24 := f_X12_fails g 3
    (z_24.1, z_24.2)
  else
    let z_3 := f_X12_isNext g 0 ((g 57 11) - 1)
    if z_3.2 = 0 then
      (z_3.1, 0)
    else
      let x_6 := (z_3.1 57 9)
      let g_7 := up2 z_3.1 62 (2 * (z_3.1 57 14)).toNatClampNeg x_6
      let z_8 := f_X12_isSign g_7 44
      if z_8.2 = 0 then
        (z_8.1, 0)
      else
        let z_11 := f_X12_isNext z_8.1 0 ((z_8.1 57 11) - 1)
        if z_11.2 = 0 then
          (z_11.1, 0)
        else
          if (z_11.1 57 9) = (z_11.1 62 (2 * (z_11.1 57 14)).toNatClampNeg) then
            let z_20 := f_X12_fails z_11.1 2
            (z_20.1, z_20.2)
          else
            let x_15 := (z_11.1 57 9)
            let g_16 := up2 z_11.1 62 ((2 * (z_11.1 57 14)) + 1).toNatClampNeg x_15
            let x_17 := ((g_16 57 14) + 1)
            let g_18 := up2 g_16 57 14 x_17
            let z_19 := f_X12_isSign g_18 59
            (z_19.1, z_19.2)
set_option maxHeartbeats 4000000 in
set_option maxRecDepth 100000 in
theorem k_X12_isWall (l : Launch) {D : va_G} {cy : Nat → ClassId} {ad : Nat → Nat} {B0 : Nat} {f : wx_F} {P : va_W} (g : wx_M) (hpr : wx_PR g) : Met l yX12_isWall wsX12_isWall ({ frames := 3, cells := 0, slots := 0, locals := 65 } : Room) (wx_Pc D cy ad B0 f P g [.ref (ad 57)]) (wx_Qe D cy ad B0 f P (f_X12_isWall g).1 (some (.int (f_X12_isWall g).2))) 0 0 (fun q => B0 ≤ q) := by
  refine wx_enterE (cc := cX12_isWall) (maxL := 1) (ty := .boolean) (own := RX12) (lv := [(0, .ref (ad 57))]) (by decide) rfl rfl (Nat.le_of_ble_eq_true rfl) rfl ?_
  intro p e R s m args below meth c ls Qm hx hb hml hown hts hK hX hS hR hret hl
  have hi_X12 : ∀ w ∈ wsX120, w ∈ wsX12_isWall := by decide +kernel
  refine lv_aload_n hx hb dX12_isWall_0 rfl (lv_at hl 0 rfl) ?_
  refine wx_geti (C := RX12) (T := TX12) (N := 27) (ci := 11) (j := 14) hx hb hts hi_X12 hown hK hX (by decide) sh_X12_14 rfl (by decide) (hts (.fieldLink RX12 112 "SeenAgainModel" "readWalls" "I") (by decide +kernel)) (fun _ h9 => h9) dX12_isWall_1 ?_
  refine lv_bipush (v := 9) hx hb dX12_isWall_4 (by decide) ?_
  refine lv_icmp_ne (tgt := 15) hx hb dX12_isWall_6 (by decide) (fun c_1 => ?_) (fun c_1 => ?_)
  · have b_2 : wx_b (g 57 14) 0 8 := wb_neh c_1 (show wx_PR g from hpr).2.2.1 (by decide)
    refine lv_aload_n hx hb dX12_isWall_15 rfl (lv_at hl 0 rfl) ?_
    refine lv_iconst (v := 0) hx hb dX12_isWall_16 (by decide) ?_
    refine lv_aload_n hx hb dX12_isWall_17 rfl (lv_at hl 0 rfl) ?_
    refine wx_geti (C := RX12) (T := TX12) (N := 27) (ci := 11) (j := 11) hx hb hts hi_X12 hown hK hX (by decide) sh_X12_11 rfl (by decide) (hts (.fieldLink RX12 100 "SeenAgainModel" "readRooms" "I") (by decide +kernel)) (fun _ h9 => h9) dX12_isWall_18 ?_
    refine lv_iconst (v := 1) hx hb dX12_isWall_21 (by decide) ?_
    refine lv_isub hx hb dX12_isWall_22 ?_
    refine wx_callei (va_runV (As := [.int 0, .int ((g 57 11) - 1)]) (rest := []) ⟨hx, hb, hml, hown, hts⟩ (k_X12_isNext l g 0 ((g 57 11) - 1) hpr) (cwV 2 hts gX12_isWall_X12_isNext rfl rfl rfl (by decide +kernel) (by rw [hR]; exact ⟨Nat.le_of_ble_eq_true rfl, Nat.le_of_ble_eq_true rfl⟩)) ⟨wx_Pc.blind, wx_recv hK hX (by decide) sh_X12 rfl, (wx_Pc.pre hK hX).2⟩ rfl rfl hl.1 rfl (lv_room (Nat.le_of_ble_eq_true rfl)) dX12_isWall_23 ⟨Nat.zero_le _, Nat.zero_le _⟩) hS (fun H locs hX hS => ?_)
    obtain ⟨z_3, ez_3⟩ : ∃ z, z = f_X12_isNext g 0 ((g 57 11) - 1) := ⟨_, rfl⟩
    rw [← ez_3] at hX; rw [← ez_3]
    refine lv_if_ne (tgt := 31) hx hb dX12_isWall_26 (by decide) (fun c_4 => ?_) (fun c_4 => ?_)
    · have b_5 : wx_b (z_3.1 57 9) 0 5 := by rw [ez_3]; exact nx_b (show wx_b 0 0 0 from ⟨by decide, by decide⟩) (wb_sub (show wx_PR g from hpr).2.1 (show wx_b 1 1 1 from ⟨by decide, by decide⟩) (by decide) (by decide)) (by rw [← ez_3]; exact c_4)
      refine lv_aload_n hx hb dX12_isWall_31 rfl (lv_at hl 0 rfl) ?_
      refine wx_getr (t := 62) (C := RX12) (T := TX12) (N := 27) (ci := 11) (j := 15) hx hb hts hi_X12 hown hK hX (by decide) sh_X12_15 rfl (by decide) (hts (.fieldLink RX12 22 "SeenAgainModel" "readWall" "[I") (by decide +kernel)) (fun _ h9 => h9) dX12_isWall_32 ?_
      refine lv_iconst (v := 2) hx hb dX12_isWall_35 (by decide) ?_
      refine lv_aload_n hx hb dX12_isWall_36 rfl (lv_at hl 0 rfl) ?_
      refine wx_geti (C := RX12) (T := TX12) (N := 27) (ci := 11) (j := 14) hx hb hts hi_X12 hown hK hX (by decide) sh_X12_14 rfl (by decide) (hts (.fieldLink RX12 112 "SeenAgainModel" "readWalls" "I") (by decide +kernel)) (fun _ h9 => h9) dX12_isWall_37 ?_
      refine lv_imul hx hb dX12_isWall_40 ?_
      refine lv_aload_n hx hb dX12_isWall_41 rfl (lv_at hl 0 rfl) ?_
      refine wx_geti (C := RX12) (T := TX12) (N := 27) (ci := 11) (j := 9) hx hb hts hi_X12 hown hK hX (by decide) sh_X12_9 rfl (by decide) (hts (.fieldLink RX12 81 "SeenAgainModel" "number" "I") (by decide +kernel)) (fun _ h9 => h9) dX12_isWall_42 ?_
      refine lv_topi (fun x_6 ex_6 => ?_)
      have bx_6 : wx_b x_6 0 5 := by rw [ex_6]; exact b_5
      refine wx_iast hx hb hK hX hS (by decide) sa_62 (wb_in (wb_mul (show wx_b 2 2 2 from ⟨by decide, by decide⟩) (show wx_b (z_3.1 57 14) 0 8 by rw [show (z_3.1 57 14) = (g 57 14) from (by rw [ez_3, fj_X12_isNext (by decide) (by decide) (by decide) (by decide) (by decide)])]; exact b_2) (by decide) (by decide) (by decide)) (by decide) (by decide)) dX12_isWall_45 (fun H locs hX hS => ?_)
      obtain ⟨g_7, eg_7, hX⟩ := wx_nm hX
      refine lv_aload_n hx hb dX12_isWall_46 rfl (lv_at hl 0 rfl) ?_
      refine lv_bipush (v := 44) hx hb dX12_isWall_47 (by decide) ?_
      refine wx_callei (va_runV (As := [.int 44]) (rest := []) ⟨hx, hb, hml, hown, hts⟩ (k_X12_isSign l g_7 44 (by rw [eg_7]; exact pr_62 bx_6 (by rw [ez_3]; exact pr_X12_isNext hpr))) (cwV 1 hts gX12_isWall_X12_isSign rfl rfl rfl (by decide +kernel) (by rw [hR]; exact ⟨Nat.le_of_ble_eq_true rfl, Nat.le_of_ble_eq_true rfl⟩)) ⟨wx_Pc.blind, wx_recv hK hX (by decide) sh_X12 rfl, (wx_Pc.pre hK hX).2⟩ rfl rfl hl.1 rfl (lv_room (Nat.le_of_ble_eq_true rfl)) dX12_isWall_49 ⟨Nat.zero_le _, Nat.zero_le _⟩) hS (fun H locs hX hS => ?_)
      obtain ⟨z_8, ez_8⟩ : ∃ z, z = f_X12_isSign g_7 44 := ⟨_, rfl⟩
      rw [← ez_8] at hX; rw [← ez_8]
      refine lv_if_eq (tgt := 69) hx hb dX12_isWall_52 (by decide) (fun c_9 => ?_) (fun c_9 => ?_)
      · have b_10 : wx_b z_8.2 0 0 := by rw [c_9]; exact ⟨by decide, by decide⟩
        refine lv_iconst (v := 0) hx hb dX12_isWall_69 (by decide) ?_
        exact hret _ _ _ _ _ _ dX12_isWall_70 rfl hX hS (by subst ez_8 eg_7 ex_6 ez_3; simp only [f_X12_isWall, if_neg c_1, if_neg c_4, if_pos c_9])
      · refine lv_aload_n hx hb dX12_isWall_55 rfl (lv_at hl 0 rfl) ?_
        refine lv_iconst (v := 0) hx hb dX12_isWall_56 (by decide) ?_
        refine lv_aload_n hx hb dX12_isWall_57 rfl (lv_at hl 0 rfl) ?_
        refine wx_geti (C := RX12) (T := TX12) (N := 27) (ci := 11) (j := 11) hx hb hts hi_X12 hown hK hX (by decide) sh_X12_11 rfl (by decide) (hts (.fieldLink RX12 100 "SeenAgainModel" "readRooms" "I") (by decide +kernel)) (fun _ h9 => h9) dX12_isWall_58 ?_
        refine lv_iconst (v := 1) hx hb dX12_isWall_61 (by decide) ?_
        refine lv_isub hx hb dX12_isWall_62 ?_
        refine wx_callei (va_runV (As := [.int 0, .int ((z_8.1 57 11) - 1)]) (rest := []) ⟨hx, hb, hml, hown, hts⟩ (k_X12_isNext l z_8.1 0 ((z_8.1 57 11) - 1) (by rw [ez_8]; exact pr_X12_isSign (by rw [eg_7]; exact pr_62 bx_6 (by rw [ez_3]; exact pr_X12_isNext hpr)))) (cwV 2 hts gX12_isWall_X12_isNext rfl rfl rfl (by decide +kernel) (by rw [hR]; exact ⟨Nat.le_of_ble_eq_true rfl, Nat.le_of_ble_eq_true rfl⟩)) ⟨wx_Pc.blind, wx_recv hK hX (by decide) sh_X12 rfl, (wx_Pc.pre hK hX).2⟩ rfl rfl hl.1 rfl (lv_room (Nat.le_of_ble_eq_true rfl)) dX12_isWall_63 ⟨Nat.zero_le _, Nat.zero_le _⟩) hS (fun H locs hX hS => ?_)
        obtain ⟨z_11, ez_11⟩ : ∃ z, z = f_X12_isNext z_8.1 0 ((z_8.1 57 11) - 1) := ⟨_, rfl⟩
        rw [← ez_11] at hX; rw [← ez_11]
        refine lv_if_ne (tgt := 71) hx hb dX12_isWall_66 (by decide) (fun c_12 => ?_) (fun c_12 => ?_)
        · have b_13 : wx_b (z_11.1 57 9) 0 5 := by rw [ez_11]; exact nx_b (show wx_b 0 0 0 from ⟨by decide, by decide⟩) (wb_sub (show wx_b (z_8.1 57 11) 0 6 by rw [show (z_8.1 57 11) = (g_7 57 11) from (by rw [ez_8, fj_X12_isSign (by decide) (by decide) (by decide) (by decide) (by decide)])]; exact (show wx_b (g_7 57 11) 0 6 by rw [show (g_7 57 11) = (z_3.1 57 11) from (by rw [eg_7, up2_n (by decide)])]; exact (show wx_b (z_3.1 57 11) 0 6 by rw [show (z_3.1 57 11) = (g 57 11) from (by rw [ez_3, fj_X12_isNext (by decide) (by decide) (by decide) (by decide) (by decide)])]; exact (show wx_PR g from hpr).2.1))) (show wx_b 1 1 1 from ⟨by decide, by decide⟩) (by decide) (by decide)) (by rw [← ez_11]; exact c_12)
          refine lv_aload_n hx hb dX12_isWall_71 rfl (lv_at hl 0 rfl) ?_
          refine wx_geti (C := RX12) (T := TX12) (N := 27) (ci := 11) (j := 9) hx hb hts hi_X12 hown hK hX (by decide) sh_X12_9 rfl (by decide) (hts (.fieldLink RX12 81 "SeenAgainModel" "number" "I") (by decide +kernel)) (fun _ h9 => h9) dX12_isWall_72 ?_
          refine lv_aload_n hx hb dX12_isWall_75 rfl (lv_at hl 0 rfl) ?_
          refine wx_getr (t := 62) (C := RX12) (T := TX12) (N := 27) (ci := 11) (j := 15) hx hb hts hi_X12 hown hK hX (by decide) sh_X12_15 rfl (by decide) (hts (.fieldLink RX12 22 "SeenAgainModel" "readWall" "[I") (by decide +kernel)) (fun _ h9 => h9) dX12_isWall_76 ?_
          refine lv_iconst (v := 2) hx hb dX12_isWall_79 (by decide) ?_
          refine lv_aload_n hx hb dX12_isWall_80 rfl (lv_at hl 0 rfl) ?_
          refine wx_geti (C := RX12) (T := TX12) (N := 27) (ci := 11) (j := 14) hx hb hts hi_X12 hown hK hX (by decide) sh_X12_14 rfl (by decide) (hts (.fieldLink RX12 112 "SeenAgainModel" "readWalls" "I") (by decide +kernel)) (fun _ h9 => h9) dX12_isWall_81 ?_
          refine lv_imul hx hb dX12_isWall_84 ?_
          refine wx_iald hx hb hK hX (by decide) sa_62 (wb_in (wb_mul (show wx_b 2 2 2 from ⟨by decide, by decide⟩) (show wx_b (z_11.1 57 14) 0 8 by rw [show (z_11.1 57 14) = (z_8.1 57 14) from (by rw [ez_11, fj_X12_isNext (by decide) (by decide) (by decide) (by decide) (by decide)])]; exact (show wx_b (z_8.1 57 14) 0 8 by rw [show (z_8.1 57 14) = (g_7 57 14) from (by rw [ez_8, fj_X12_isSign (by decide) (by decide) (by decide) (by decide) (by decide)])]; exact (show wx_b (g_7 57 14) 0 8 by rw [show (g_7 57 14) = (z_3.1 57 14) from (by rw [eg_7, up2_n (by decide)])]; exact (show wx_b (z_3.1 57 14) 0 8 by rw [show (z_3.1 57 14) = (g 57 14) from (by rw [ez_3, fj_X12_isNext (by decide) (by decide) (by decide) (by decide) (by decide)])]; exact b_2)))) (by decide) (by decide) (by decide)) (by decide) (by decide)) dX12_isWall_85 ?_
          refine lv_icmp_ne (tgt := 95) hx hb dX12_isWall_86 (by decide) (fun c_14 => ?_) (fun c_14 => ?_)
          · refine lv_aload_n hx hb dX12_isWall_95 rfl (lv_at hl 0 rfl) ?_
            refine wx_getr (t := 62) (C := RX12) (T := TX12) (N := 27) (ci := 11) (j := 15) hx hb hts hi_X12 hown hK hX (by decide) sh_X12_15 rfl (by decide) (hts (.fieldLink RX12 22 "SeenAgainModel" "readWall" "[I") (by decide +kernel)) (fun _ h9 => h9) dX12_isWall_96 ?_
            refine lv_iconst (v := 2) hx hb dX12_isWall_99 (by decide) ?_
            refine lv_aload_n hx hb dX12_isWall_100 rfl (lv_at hl 0 rfl) ?_
            refine wx_geti (C := RX12) (T := TX12) (N := 27) (ci := 11) (j := 14) hx hb hts hi_X12 hown hK hX (by decide) sh_X12_14 rfl (by decide) (hts (.fieldLink RX12 112 "SeenAgainModel" "readWalls" "I") (by decide +kernel)) (fun _ h9 => h9) dX12_isWall_101 ?_
            refine lv_imul hx hb dX12_isWall_104 ?_
            refine lv_iconst (v := 1) hx hb dX12_isWall_105 (by decide) ?_
            refine lv_iadd hx hb dX12_isWall_106 ?_
            refine lv_aload_n hx hb dX12_isWall_107 rfl (lv_at hl 0 rfl) ?_
            refine wx_geti (C := RX12) (T := TX12) (N := 27) (ci := 11) (j := 9) hx hb hts hi_X12 hown hK hX (by decide) sh_X12_9 rfl (by decide) (hts (.fieldLink RX12 81 "SeenAgainModel" "number" "I") (by decide +kernel)) (fun _ h9 => h9) dX12_isWall_108 ?_
            refine lv_topi (fun x_15 ex_15 => ?_)
            have bx_15 : wx_b x_15 0 5 := by rw [ex_15]; exact b_13
            refine wx_iast hx hb hK hX hS (by decide) sa_62 (wb_in (wb_add (wb_mul (show wx_b 2 2 2 from ⟨by decide, by decide⟩) (show wx_b (z_11.1 57 14) 0 8 by rw [show (z_11.1 57 14) = (z_8.1 57 14) from (by rw [ez_11, fj_X12_isNext (by decide) (by decide) (by decide) (by decide) (by decide)])]; exact (show wx_b (z_8.1 57 14) 0 8 by rw [show (z_8.1 57 14) = (g_7 57 14) from (by rw [ez_8, fj_X12_isSign (by decide) (by decide) (by decide) (by decide) (by decide)])]; exact (show wx_b (g_7 57 14) 0 8 by rw [show (g_7 57 14) = (z_3.1 57 14) from (by rw [eg_7, up2_n (by decide)])]; exact (show wx_b (z_3.1 57 14) 0 8 by rw [show (z_3.1 57 14) = (g 57 14) from (by rw [ez_3, fj_X12_isNext (by decide) (by decide) (by decide) (by decide) (by decide)])]; exact b_2)))) (by decide) (by decide) (by decide)) (show wx_b 1 1 1 from ⟨by decide, by decide⟩) (by decide) (by decide)) (by decide) (by decide)) dX12_isWall_111 (fun H locs hX hS => ?_)
            obtain ⟨g_16, eg_16, hX⟩ := wx_nm hX
            refine lv_aload_n hx hb dX12_isWall_112 rfl (lv_at hl 0 rfl) ?_
            refine lv_dup hx hb dX12_isWall_113 rfl ?_
            refine wx_geti (C := RX12) (T := TX12) (N := 27) (ci := 11) (j := 14) hx hb hts hi_X12 hown hK hX (by decide) sh_X12_14 rfl (by decide) (hts (.fieldLink RX12 112 "SeenAgainModel" "readWalls" "I") (by decide +kernel)) (fun _ h9 => h9) dX12_isWall_114 ?_
            refine lv_iconst (v := 1) hx hb dX12_isWall_117 (by decide) ?_
            refine lv_iadd hx hb dX12_isWall_118 ?_
            refine lv_topi (fun x_17 ex_17 => ?_)
            have bx_17 : wx_b x_17 1 9 := by rw [ex_17]; exact (wb_add (show wx_b (g_16 57 14) 0 8 by rw [show (g_16 57 14) = (z_11.1 57 14) from (by rw [eg_16, up2_n (by decide)])]; exact (show wx_b (z_11.1 57 14) 0 8 by rw [show (z_11.1 57 14) = (z_8.1 57 14) from (by rw [ez_11, fj_X12_isNext (by decide) (by decide) (by decide) (by decide) (by decide)])]; exact (show wx_b (z_8.1 57 14) 0 8 by rw [show (z_8.1 57 14) = (g_7 57 14) from (by rw [ez_8, fj_X12_isSign (by decide) (by decide) (by decide) (by decide) (by decide)])]; exact (show wx_b (g_7 57 14) 0 8 by rw [show (g_7 57 14) = (z_3.1 57 14) from (by rw [eg_7, up2_n (by decide)])]; exact (show wx_b (z_3.1 57 14) 0 8 by rw [show (z_3.1 57 14) = (g 57 14) from (by rw [ez_3, fj_X12_isNext (by decide) (by decide) (by decide) (by decide) (by decide)])]; exact b_2))))) (show wx_b 1 1 1 from ⟨by decide, by decide⟩) (by decide) (by decide))
            refine wx_puti (C := RX12) (T := TX12) (N := 27) (ci := 11) (j := 14) (ty := .int) hx hb hts hi_X12 tyX12 tyX12_ok nmX12 hown hK hX hS (by decide) sh_X12_14 rfl (by decide) (hts (.fieldLink RX12 112 "SeenAgainModel" "readWalls" "I") (by decide +kernel)) (fun _ h9 => h9) rfl (by decide +kernel) rfl rfl dX12_isWall_119 (fun H locs hX hS => ?_)
            obtain ⟨g_18, eg_18, hX⟩ := wx_nm hX
            refine lv_aload_n hx hb dX12_isWall_122 rfl (lv_at hl 0 rfl) ?_
            refine lv_bipush (v := 59) hx hb dX12_isWall_123 (by decide) ?_
            refine wx_callei (va_runV (As := [.int 59]) (rest := []) ⟨hx, hb, hml, hown, hts⟩ (k_X12_isSign l g_18 59 (by rw [eg_18]; exact pr_14 (wb_w bx_17 (by decide) (by decide)) (by rw [eg_16]; exact pr_62 bx_15 (by rw [ez_11]; exact pr_X12_isNext (by rw [ez_8]; exact pr_X12_isSign (by rw [eg_7]; exact pr_62 bx_6 (by rw [ez_3]; exact pr_X12_isNext hpr))))))) (cwV 1 hts gX12_isWall_X12_isSign rfl rfl rfl (by decide +kernel) (by rw [hR]; exact ⟨Nat.le_of_ble_eq_true rfl, Nat.le_of_ble_eq_true rfl⟩)) ⟨wx_Pc.blind, wx_recv hK hX (by decide) sh_X12 rfl, (wx_Pc.pre hK hX).2⟩ rfl rfl hl.1 rfl (lv_room (Nat.le_of_ble_eq_true rfl)) dX12_isWall_125 ⟨Nat.zero_le _, Nat.zero_le _⟩) hS (fun H locs hX hS => ?_)
            obtain ⟨z_19, ez_19⟩ : ∃ z, z = f_X12_isSign g_18 59 := ⟨_, rfl⟩
            rw [← ez_19] at hX; rw [← ez_19]
            exact hret _ _ _ _ _ _ dX12_isWall_128 (by rw [ez_19]; exact nb_f_X12_isSign _ _) hX hS (by subst ez_19 eg_18 ex_17 eg_16 ex_15 ez_11 ez_8 eg_7 ex_6 ez_3; simp only [f_X12_isWall, if_neg c_1, if_neg c_4, if_neg c_9, if_neg c_12, if_neg c_14])
          · refine lv_aload_n hx hb dX12_isWall_89 rfl (lv_at hl 0 rfl) ?_
            refine lv_iconst (v := 2) hx hb dX12_isWall_90 (by decide) ?_
            refine wx_callei (va_runV (As := [.int 2]) (rest := []) ⟨hx, hb, hml, hown, hts⟩ (k_X12_fails l z_11.1 2 (by rw [ez_11]; exact pr_X12_isNext (by rw [ez_8]; exact pr_X12_isSign (by rw [eg_7]; exact pr_62 bx_6 (by rw [ez_3]; exact pr_X12_isNext hpr))))) (cwV 1 hts gX12_isWall_X12_fails rfl rfl rfl (by decide +kernel) (by rw [hR]; exact ⟨Nat.le_of_ble_eq_true rfl, Nat.le_of_ble_eq_true rfl⟩)) ⟨wx_Pc.blind, wx_recv hK hX (by decide) sh_X12 rfl, (wx_Pc.pre hK hX).2⟩ rfl rfl hl.1 rfl (lv_room (Nat.le_of_ble_eq_true rfl)) dX12_isWall_91 ⟨Nat.zero_le _, Nat.zero_le _⟩) hS (fun H locs hX hS => ?_)
            obtain ⟨z_20, ez_20⟩ : ∃ z, z = f_X12_fails z_11.1 2 := ⟨_, rfl⟩
            rw [← ez_20] at hX; rw [← ez_20]
            exact hret _ _ _ _ _ _ dX12_isWall_94 (by rw [ez_20]; exact nb_f_X12_fails _ _) hX hS (by subst ez_20 ez_11 ez_8 eg_7 ex_6 ez_3; simp only [f_X12_isWall, if_neg c_1, if_neg c_4, if_neg c_9, if_neg c_12, if_pos c_14])
        · have b_21 : wx_b z_11.2 0 0 := by rw [c_12]; exact ⟨by decide, by decide⟩
          refine lv_iconst (v := 0) hx hb dX12_isWall_69 (by decide) ?_
          exact hret _ _ _ _ _ _ dX12_isWall_70 rfl hX hS (by subst ez_11 ez_8 eg_7 ex_6 ez_3; simp only [f_X12_isWall, if_neg c_1, if_neg c_4, if_neg c_9, if_pos c_12])
    · have b_22 : wx_b z_3.2 0 0 := by rw [c_4]; exact ⟨by decide, by decide⟩
      refine lv_iconst (v := 0) hx hb dX12_isWall_29 (by decide) ?_
      exact hret _ _ _ _ _ _ dX12_isWall_30 rfl hX hS (by subst ez_3; simp only [f_X12_isWall, if_neg c_1, if_pos c_4])
  · have b_23 : wx_b (g 57 14) 9 9 := by rw [c_1]; exact ⟨by decide, by decide⟩
    refine lv_aload_n hx hb dX12_isWall_9 rfl (lv_at hl 0 rfl) ?_
    refine lv_iconst (v := 3) hx hb dX12_isWall_10 (by decide) ?_
    refine wx_callei (va_runV (As := [.int 3]) (rest := []) ⟨hx, hb, hml, hown, hts⟩ (k_X12_fails l g 3 hpr) (cwV 1 hts gX12_isWall_X12_fails rfl rfl rfl (by decide +kernel) (by rw [hR]; exact ⟨Nat.le_of_ble_eq_true rfl, Nat.le_of_ble_eq_true rfl⟩)) ⟨wx_Pc.blind, wx_recv hK hX (by decide) sh_X12 rfl, (wx_Pc.pre hK hX).2⟩ rfl rfl hl.1 rfl (lv_room (Nat.le_of_ble_eq_true rfl)) dX12_isWall_11 ⟨Nat.zero_le _, Nat.zero_le _⟩) hS (fun H locs hX hS => ?_)
    obtain ⟨z_24, ez_24⟩ : ∃ z, z = f_X12_fails g 3 := ⟨_, rfl⟩
    rw [← ez_24] at hX; rw [← ez_24]
    exact hret _ _ _ _ _ _ dX12_isWall_14 (by rw [ez_24]; exact nb_f_X12_fails _ _) hX hS (by subst ez_24; simp only [f_X12_isWall, if_pos c_1])
set_option maxHeartbeats 4000000 in
theorem np_X12_isWall {g : wx_M} (hpr : wx_PR g) : narrow .boolean (.int (f_X12_isWall g).2) = .int (f_X12_isWall g).2 := by
  by_cases c_1 : (g 57 14) = 9
  · have b_2 : wx_b (g 57 14) 9 9 := by rw [c_1]; exact ⟨by decide, by decide⟩
    obtain ⟨z_3, ez_3⟩ : ∃ z, z = f_X12_fails g 3 := ⟨_, rfl⟩
    rw [show f_X12_isWall g = (z_3.1, z_3.2) from (by subst ez_3; simp only [f_X12_isWall, if_pos c_1])]
    exact (by rw [ez_3]; exact nb_f_X12_fails _ _)
  · have b_4 : wx_b (g 57 14) 0 8 := wb_neh c_1 (show wx_PR g from hpr).2.2.1 (by decide)
    obtain ⟨z_5, ez_5⟩ : ∃ z, z = f_X12_isNext g 0 ((g 57 11) - 1) := ⟨_, rfl⟩
    by_cases c_6 : z_5.2 = 0
    · have b_7 : wx_b z_5.2 0 0 := by rw [c_6]; exact ⟨by decide, by decide⟩
      rw [show f_X12_isWall g = (z_5.1, 0) from (by subst ez_5; simp only [f_X12_isWall, if_neg c_1, if_pos c_6])]
      exact (show narrow .boolean (.int 0) = .int 0 from rfl)
    · have b_8 : wx_b (z_5.1 57 9) 0 5 := by rw [ez_5]; exact nx_b (show wx_b 0 0 0 from ⟨by decide, by decide⟩) (wb_sub (show wx_PR g from hpr).2.1 (show wx_b 1 1 1 from ⟨by decide, by decide⟩) (by decide) (by decide)) (by rw [← ez_5]; exact c_6)
      obtain ⟨x_9, ex_9⟩ : ∃ z : Int32, z = (z_5.1 57 9) := ⟨_, rfl⟩
      have bx_9 : wx_b x_9 0 5 := by rw [ex_9]; exact b_8
      obtain ⟨g_10, eg_10⟩ : ∃ z : wx_M, z = up2 z_5.1 62 (2 * (z_5.1 57 14)).toNatClampNeg x_9 := ⟨_, rfl⟩
      obtain ⟨z_11, ez_11⟩ : ∃ z, z = f_X12_isSign g_10 44 := ⟨_, rfl⟩
      by_cases c_12 : z_11.2 = 0
      · have b_13 : wx_b z_11.2 0 0 := by rw [c_12]; exact ⟨by decide, by decide⟩
        rw [show f_X12_isWall g = (z_11.1, 0) from (by subst ez_11 eg_10 ex_9 ez_5; simp only [f_X12_isWall, if_neg c_1, if_neg c_6, if_pos c_12])]
        exact (show narrow .boolean (.int 0) = .int 0 from rfl)
      · obtain ⟨z_14, ez_14⟩ : ∃ z, z = f_X12_isNext z_11.1 0 ((z_11.1 57 11) - 1) := ⟨_, rfl⟩
        by_cases c_15 : z_14.2 = 0
        · have b_16 : wx_b z_14.2 0 0 := by rw [c_15]; exact ⟨by decide, by decide⟩
          rw [show f_X12_isWall g = (z_14.1, 0) from (by subst ez_14 ez_11 eg_10 ex_9 ez_5; simp only [f_X12_isWall, if_neg c_1, if_neg c_6, if_neg c_12, if_pos c_15])]
          exact (show narrow .boolean (.int 0) = .int 0 from rfl)
        · have b_17 : wx_b (z_14.1 57 9) 0 5 := by rw [ez_14]; exact nx_b (show wx_b 0 0 0 from ⟨by decide, by decide⟩) (wb_sub (show wx_b (z_11.1 57 11) 0 6 by rw [show (z_11.1 57 11) = (g_10 57 11) from (by rw [ez_11, fj_X12_isSign (by decide) (by decide) (by decide) (by decide) (by decide)])]; exact (show wx_b (g_10 57 11) 0 6 by rw [show (g_10 57 11) = (z_5.1 57 11) from (by rw [eg_10, up2_n (by decide)])]; exact (show wx_b (z_5.1 57 11) 0 6 by rw [show (z_5.1 57 11) = (g 57 11) from (by rw [ez_5, fj_X12_isNext (by decide) (by decide) (by decide) (by decide) (by decide)])]; exact (show wx_PR g from hpr).2.1))) (show wx_b 1 1 1 from ⟨by decide, by decide⟩) (by decide) (by decide)) (by rw [← ez_14]; exact c_15)
          by_cases c_18 : (z_14.1 57 9) = (z_14.1 62 (2 * (z_14.1 57 14)).toNatClampNeg)
          · obtain ⟨z_19, ez_19⟩ : ∃ z, z = f_X12_fails z_14.1 2 := ⟨_, rfl⟩
            rw [show f_X12_isWall g = (z_19.1, z_19.2) from (by subst ez_19 ez_14 ez_11 eg_10 ex_9 ez_5; simp only [f_X12_isWall, if_neg c_1, if_neg c_6, if_neg c_12, if_neg c_15, if_pos c_18])]
            exact (by rw [ez_19]; exact nb_f_X12_fails _ _)
          · obtain ⟨x_20, ex_20⟩ : ∃ z : Int32, z = (z_14.1 57 9) := ⟨_, rfl⟩
            have bx_20 : wx_b x_20 0 5 := by rw [ex_20]; exact b_17
            obtain ⟨g_21, eg_21⟩ : ∃ z : wx_M, z = up2 z_14.1 62 ((2 * (z_14.1 57 14)) + 1).toNatClampNeg x_20 := ⟨_, rfl⟩
            obtain ⟨x_22, ex_22⟩ : ∃ z : Int32, z = ((g_21 57 14) + 1) := ⟨_, rfl⟩
            have bx_22 : wx_b x_22 1 9 := by rw [ex_22]; exact (wb_add (show wx_b (g_21 57 14) 0 8 by rw [show (g_21 57 14) = (z_14.1 57 14) from (by rw [eg_21, up2_n (by decide)])]; exact (show wx_b (z_14.1 57 14) 0 8 by rw [show (z_14.1 57 14) = (z_11.1 57 14) from (by rw [ez_14, fj_X12_isNext (by decide) (by decide) (by decide) (by decide) (by decide)])]; exact (show wx_b (z_11.1 57 14) 0 8 by rw [show (z_11.1 57 14) = (g_10 57 14) from (by rw [ez_11, fj_X12_isSign (by decide) (by decide) (by decide) (by decide) (by decide)])]; exact (show wx_b (g_10 57 14) 0 8 by rw [show (g_10 57 14) = (z_5.1 57 14) from (by rw [eg_10, up2_n (by decide)])]; exact (show wx_b (z_5.1 57 14) 0 8 by rw [show (z_5.1 57 14) = (g 57 14) from (by rw [ez_5, fj_X12_isNext (by decide) (by decide) (by decide) (by decide) (by decide)])]; exact b_4))))) (show wx_b 1 1 1 from ⟨by decide, by decide⟩) (by decide) (by decide))
            obtain ⟨g_23, eg_23⟩ : ∃ z : wx_M, z = up2 g_21 57 14 x_22 := ⟨_, rfl⟩
            obtain ⟨z_24, ez_24⟩ : ∃ z, z = f_X12_isSign g_23 59 := ⟨_, rfl⟩
            rw [show f_X12_isWall g = (z_24.1, z_24.2) from (by subst ez_24 eg_23 ex_22 eg_21 ex_20 ez_14 ez_11 eg_10 ex_9 ez_5; simp only [f_X12_isWall, if_neg c_1, if_neg c_6, if_neg c_12, if_neg c_15, if_neg c_18])]
            exact (by rw [ez_24]; exact nb_f_X12_isSign _ _)

set_option maxHeartbeats 4000000 in
theorem pr_X12_isWall {g : wx_M} (hpr : wx_PR g) : wx_PR (f_X12_isWall g).1 := by
  by_cases c_1 : (g 57 14) = 9
  · have b_2 : wx_b (g 57 14) 9 9 := by rw [c_1]; exact ⟨by decide, by decide⟩
    obtain ⟨z_3, ez_3⟩ : ∃ z, z = f_X12_fails g 3 := ⟨_, rfl⟩
    rw [show f_X12_isWall g = (z_3.1, z_3.2) from (by subst ez_3; simp only [f_X12_isWall, if_pos c_1])]
    exact (by rw [ez_3]; exact pr_X12_fails hpr)
  · have b_4 : wx_b (g 57 14) 0 8 := wb_neh c_1 (show wx_PR g from hpr).2.2.1 (by decide)
    obtain ⟨z_5, ez_5⟩ : ∃ z, z = f_X12_isNext g 0 ((g 57 11) - 1) := ⟨_, rfl⟩
    by_cases c_6 : z_5.2 = 0
    · have b_7 : wx_b z_5.2 0 0 := by rw [c_6]; exact ⟨by decide, by decide⟩
      rw [show f_X12_isWall g = (z_5.1, 0) from (by subst ez_5; simp only [f_X12_isWall, if_neg c_1, if_pos c_6])]
      exact (by rw [ez_5]; exact pr_X12_isNext hpr)
    · have b_8 : wx_b (z_5.1 57 9) 0 5 := by rw [ez_5]; exact nx_b (show wx_b 0 0 0 from ⟨by decide, by decide⟩) (wb_sub (show wx_PR g from hpr).2.1 (show wx_b 1 1 1 from ⟨by decide, by decide⟩) (by decide) (by decide)) (by rw [← ez_5]; exact c_6)
      obtain ⟨x_9, ex_9⟩ : ∃ z : Int32, z = (z_5.1 57 9) := ⟨_, rfl⟩
      have bx_9 : wx_b x_9 0 5 := by rw [ex_9]; exact b_8
      obtain ⟨g_10, eg_10⟩ : ∃ z : wx_M, z = up2 z_5.1 62 (2 * (z_5.1 57 14)).toNatClampNeg x_9 := ⟨_, rfl⟩
      obtain ⟨z_11, ez_11⟩ : ∃ z, z = f_X12_isSign g_10 44 := ⟨_, rfl⟩
      by_cases c_12 : z_11.2 = 0
      · have b_13 : wx_b z_11.2 0 0 := by rw [c_12]; exact ⟨by decide, by decide⟩
        rw [show f_X12_isWall g = (z_11.1, 0) from (by subst ez_11 eg_10 ex_9 ez_5; simp only [f_X12_isWall, if_neg c_1, if_neg c_6, if_pos c_12])]
        exact (by rw [ez_11]; exact pr_X12_isSign (by rw [eg_10]; exact pr_62 bx_9 (by rw [ez_5]; exact pr_X12_isNext hpr)))
      · obtain ⟨z_14, ez_14⟩ : ∃ z, z = f_X12_isNext z_11.1 0 ((z_11.1 57 11) - 1) := ⟨_, rfl⟩
        by_cases c_15 : z_14.2 = 0
        · have b_16 : wx_b z_14.2 0 0 := by rw [c_15]; exact ⟨by decide, by decide⟩
          rw [show f_X12_isWall g = (z_14.1, 0) from (by subst ez_14 ez_11 eg_10 ex_9 ez_5; simp only [f_X12_isWall, if_neg c_1, if_neg c_6, if_neg c_12, if_pos c_15])]
          exact (by rw [ez_14]; exact pr_X12_isNext (by rw [ez_11]; exact pr_X12_isSign (by rw [eg_10]; exact pr_62 bx_9 (by rw [ez_5]; exact pr_X12_isNext hpr))))
        · have b_17 : wx_b (z_14.1 57 9) 0 5 := by rw [ez_14]; exact nx_b (show wx_b 0 0 0 from ⟨by decide, by decide⟩) (wb_sub (show wx_b (z_11.1 57 11) 0 6 by rw [show (z_11.1 57 11) = (g_10 57 11) from (by rw [ez_11, fj_X12_isSign (by decide) (by decide) (by decide) (by decide) (by decide)])]; exact (show wx_b (g_10 57 11) 0 6 by rw [show (g_10 57 11) = (z_5.1 57 11) from (by rw [eg_10, up2_n (by decide)])]; exact (show wx_b (z_5.1 57 11) 0 6 by rw [show (z_5.1 57 11) = (g 57 11) from (by rw [ez_5, fj_X12_isNext (by decide) (by decide) (by decide) (by decide) (by decide)])]; exact (show wx_PR g from hpr).2.1))) (show wx_b 1 1 1 from ⟨by decide, by decide⟩) (by decide) (by decide)) (by rw [← ez_14]; exact c_15)
          by_cases c_18 : (z_14.1 57 9) = (z_14.1 62 (2 * (z_14.1 57 14)).toNatClampNeg)
          · obtain ⟨z_19, ez_19⟩ : ∃ z, z = f_X12_fails z_14.1 2 := ⟨_, rfl⟩
            rw [show f_X12_isWall g = (z_19.1, z_19.2) from (by subst ez_19 ez_14 ez_11 eg_10 ex_9 ez_5; simp only [f_X12_isWall, if_neg c_1, if_neg c_6, if_neg c_12, if_neg c_15, if_pos c_18])]
            exact (by rw [ez_19]; exact pr_X12_fails (by rw [ez_14]; exact pr_X12_isNext (by rw [ez_11]; exact pr_X12_isSign (by rw [eg_10]; exact pr_62 bx_9 (by rw [ez_5]; exact pr_X12_isNext hpr)))))
          · obtain ⟨x_20, ex_20⟩ : ∃ z : Int32, z = (z_14.1 57 9) := ⟨_, rfl⟩
            have bx_20 : wx_b x_20 0 5 := by rw [ex_20]; exact b_17
            obtain ⟨g_21, eg_21⟩ : ∃ z : wx_M, z = up2 z_14.1 62 ((2 * (z_14.1 57 14)) + 1).toNatClampNeg x_20 := ⟨_, rfl⟩
            obtain ⟨x_22, ex_22⟩ : ∃ z : Int32, z = ((g_21 57 14) + 1) := ⟨_, rfl⟩
            have bx_22 : wx_b x_22 1 9 := by rw [ex_22]; exact (wb_add (show wx_b (g_21 57 14) 0 8 by rw [show (g_21 57 14) = (z_14.1 57 14) from (by rw [eg_21, up2_n (by decide)])]; exact (show wx_b (z_14.1 57 14) 0 8 by rw [show (z_14.1 57 14) = (z_11.1 57 14) from (by rw [ez_14, fj_X12_isNext (by decide) (by decide) (by decide) (by decide) (by decide)])]; exact (show wx_b (z_11.1 57 14) 0 8 by rw [show (z_11.1 57 14) = (g_10 57 14) from (by rw [ez_11, fj_X12_isSign (by decide) (by decide) (by decide) (by decide) (by decide)])]; exact (show wx_b (g_10 57 14) 0 8 by rw [show (g_10 57 14) = (z_5.1 57 14) from (by rw [eg_10, up2_n (by decide)])]; exact (show wx_b (z_5.1 57 14) 0 8 by rw [show (z_5.1 57 14) = (g 57 14) from (by rw [ez_5, fj_X12_isNext (by decide) (by decide) (by decide) (by decide) (by decide)])]; exact b_4))))) (show wx_b 1 1 1 from ⟨by decide, by decide⟩) (by decide) (by decide))
            obtain ⟨g_23, eg_23⟩ : ∃ z : wx_M, z = up2 g_21 57 14 x_22 := ⟨_, rfl⟩
            obtain ⟨z_24, ez_24⟩ : ∃ z, z = f_X12_isSign g_23 59 := ⟨_, rfl⟩
            rw [show f_X12_isWall g = (z_24.1, z_24.2) from (by subst ez_24 eg_23 ex_22 eg_21 ex_20 ez_14 ez_11 eg_10 ex_9 ez_5; simp only [f_X12_isWall, if_neg c_1, if_neg c_6, if_neg c_12, if_neg c_15, if_neg c_18])]
            exact (by rw [ez_24]; exact pr_X12_isSign (by rw [eg_23]; exact pr_14 (wb_w bx_22 (by decide) (by decide)) (by rw [eg_21]; exact pr_62 bx_20 (by rw [ez_14]; exact pr_X12_isNext (by rw [ez_11]; exact pr_X12_isSign (by rw [eg_10]; exact pr_62 bx_9 (by rw [ez_5]; exact pr_X12_isNext hpr)))))))
set_option maxHeartbeats 4000000 in
theorem pg_X12_isWall {g : wx_M} (hpr : wx_PR g) : (g 57 6).toNatClampNeg ≤ ((f_X12_isWall g).1 57 6).toNatClampNeg := by
  by_cases c_1 : (g 57 14) = 9
  · have b_2 : wx_b (g 57 14) 9 9 := by rw [c_1]; exact ⟨by decide, by decide⟩
    obtain ⟨z_3, ez_3⟩ : ∃ z, z = f_X12_fails g 3 := ⟨_, rfl⟩
    rw [show f_X12_isWall g = (z_3.1, z_3.2) from (by subst ez_3; simp only [f_X12_isWall, if_pos c_1])]
    exact (Nat.le_trans (Nat.le_refl _) (show (g 57 6).toNatClampNeg ≤ (z_3.1 57 6).toNatClampNeg from by rw [ez_3]; exact pg_X12_fails hpr))
  · have b_4 : wx_b (g 57 14) 0 8 := wb_neh c_1 (show wx_PR g from hpr).2.2.1 (by decide)
    obtain ⟨z_5, ez_5⟩ : ∃ z, z = f_X12_isNext g 0 ((g 57 11) - 1) := ⟨_, rfl⟩
    by_cases c_6 : z_5.2 = 0
    · have b_7 : wx_b z_5.2 0 0 := by rw [c_6]; exact ⟨by decide, by decide⟩
      rw [show f_X12_isWall g = (z_5.1, 0) from (by subst ez_5; simp only [f_X12_isWall, if_neg c_1, if_pos c_6])]
      exact (Nat.le_trans (Nat.le_refl _) (show (g 57 6).toNatClampNeg ≤ (z_5.1 57 6).toNatClampNeg from by rw [ez_5]; exact pg_X12_isNext hpr))
    · have b_8 : wx_b (z_5.1 57 9) 0 5 := by rw [ez_5]; exact nx_b (show wx_b 0 0 0 from ⟨by decide, by decide⟩) (wb_sub (show wx_PR g from hpr).2.1 (show wx_b 1 1 1 from ⟨by decide, by decide⟩) (by decide) (by decide)) (by rw [← ez_5]; exact c_6)
      obtain ⟨x_9, ex_9⟩ : ∃ z : Int32, z = (z_5.1 57 9) := ⟨_, rfl⟩
      have bx_9 : wx_b x_9 0 5 := by rw [ex_9]; exact b_8
      obtain ⟨g_10, eg_10⟩ : ∃ z : wx_M, z = up2 z_5.1 62 (2 * (z_5.1 57 14)).toNatClampNeg x_9 := ⟨_, rfl⟩
      obtain ⟨z_11, ez_11⟩ : ∃ z, z = f_X12_isSign g_10 44 := ⟨_, rfl⟩
      by_cases c_12 : z_11.2 = 0
      · have b_13 : wx_b z_11.2 0 0 := by rw [c_12]; exact ⟨by decide, by decide⟩
        rw [show f_X12_isWall g = (z_11.1, 0) from (by subst ez_11 eg_10 ex_9 ez_5; simp only [f_X12_isWall, if_neg c_1, if_neg c_6, if_pos c_12])]
        exact (Nat.le_trans (Nat.le_trans (Nat.le_trans (Nat.le_refl _) (show (g 57 6).toNatClampNeg ≤ (z_5.1 57 6).toNatClampNeg from by rw [ez_5]; exact pg_X12_isNext hpr)) (Nat.le_of_eq (show (z_5.1 57 6).toNatClampNeg = (g_10 57 6).toNatClampNeg from by rw [eg_10, up2_n (by decide)]))) (show (g_10 57 6).toNatClampNeg ≤ (z_11.1 57 6).toNatClampNeg from by rw [ez_11]; exact pg_X12_isSign (by rw [eg_10]; exact pr_62 bx_9 (by rw [ez_5]; exact pr_X12_isNext hpr))))
      · obtain ⟨z_14, ez_14⟩ : ∃ z, z = f_X12_isNext z_11.1 0 ((z_11.1 57 11) - 1) := ⟨_, rfl⟩
        by_cases c_15 : z_14.2 = 0
        · have b_16 : wx_b z_14.2 0 0 := by rw [c_15]; exact ⟨by decide, by decide⟩
          rw [show f_X12_isWall g = (z_14.1, 0) from (by subst ez_14 ez_11 eg_10 ex_9 ez_5; simp only [f_X12_isWall, if_neg c_1, if_neg c_6, if_neg c_12, if_pos c_15])]
          exact (Nat.le_trans (Nat.le_trans (Nat.le_trans (Nat.le_trans (Nat.le_refl _) (show (g 57 6).toNatClampNeg ≤ (z_5.1 57 6).toNatClampNeg from by rw [ez_5]; exact pg_X12_isNext hpr)) (Nat.le_of_eq (show (z_5.1 57 6).toNatClampNeg = (g_10 57 6).toNatClampNeg from by rw [eg_10, up2_n (by decide)]))) (show (g_10 57 6).toNatClampNeg ≤ (z_11.1 57 6).toNatClampNeg from by rw [ez_11]; exact pg_X12_isSign (by rw [eg_10]; exact pr_62 bx_9 (by rw [ez_5]; exact pr_X12_isNext hpr)))) (show (z_11.1 57 6).toNatClampNeg ≤ (z_14.1 57 6).toNatClampNeg from by rw [ez_14]; exact pg_X12_isNext (by rw [ez_11]; exact pr_X12_isSign (by rw [eg_10]; exact pr_62 bx_9 (by rw [ez_5]; exact pr_X12_isNext hpr)))))
        · have b_17 : wx_b (z_14.1 57 9) 0 5 := by rw [ez_14]; exact nx_b (show wx_b 0 0 0 from ⟨by decide, by decide⟩) (wb_sub (show wx_b (z_11.1 57 11) 0 6 by rw [show (z_11.1 57 11) = (g_10 57 11) from (by rw [ez_11, fj_X12_isSign (by decide) (by decide) (by decide) (by decide) (by decide)])]; exact (show wx_b (g_10 57 11) 0 6 by rw [show (g_10 57 11) = (z_5.1 57 11) from (by rw [eg_10, up2_n (by decide)])]; exact (show wx_b (z_5.1 57 11) 0 6 by rw [show (z_5.1 57 11) = (g 57 11) from (by rw [ez_5, fj_X12_isNext (by decide) (by decide) (by decide) (by decide) (by decide)])]; exact (show wx_PR g from hpr).2.1))) (show wx_b 1 1 1 from ⟨by decide, by decide⟩) (by decide) (by decide)) (by rw [← ez_14]; exact c_15)
          by_cases c_18 : (z_14.1 57 9) = (z_14.1 62 (2 * (z_14.1 57 14)).toNatClampNeg)
          · obtain ⟨z_19, ez_19⟩ : ∃ z, z = f_X12_fails z_14.1 2 := ⟨_, rfl⟩
            rw [show f_X12_isWall g = (z_19.1, z_19.2) from (by subst ez_19 ez_14 ez_11 eg_10 ex_9 ez_5; simp only [f_X12_isWall, if_neg c_1, if_neg c_6, if_neg c_12, if_neg c_15, if_pos c_18])]
            exact (Nat.le_trans (Nat.le_trans (Nat.le_trans (Nat.le_trans (Nat.le_trans (Nat.le_refl _) (show (g 57 6).toNatClampNeg ≤ (z_5.1 57 6).toNatClampNeg from by rw [ez_5]; exact pg_X12_isNext hpr)) (Nat.le_of_eq (show (z_5.1 57 6).toNatClampNeg = (g_10 57 6).toNatClampNeg from by rw [eg_10, up2_n (by decide)]))) (show (g_10 57 6).toNatClampNeg ≤ (z_11.1 57 6).toNatClampNeg from by rw [ez_11]; exact pg_X12_isSign (by rw [eg_10]; exact pr_62 bx_9 (by rw [ez_5]; exact pr_X12_isNext hpr)))) (show (z_11.1 57 6).toNatClampNeg ≤ (z_14.1 57 6).toNatClampNeg from by rw [ez_14]; exact pg_X12_isNext (by rw [ez_11]; exact pr_X12_isSign (by rw [eg_10]; exact pr_62 bx_9 (by rw [ez_5]; exact pr_X12_isNext hpr))))) (show (z_14.1 57 6).toNatClampNeg ≤ (z_19.1 57 6).toNatClampNeg from by rw [ez_19]; exact pg_X12_fails (by rw [ez_14]; exact pr_X12_isNext (by rw [ez_11]; exact pr_X12_isSign (by rw [eg_10]; exact pr_62 bx_9 (by rw [ez_5]; exact pr_X12_isNext hpr))))))
          · obtain ⟨x_20, ex_20⟩ : ∃ z : Int32, z = (z_14.1 57 9) := ⟨_, rfl⟩
            have bx_20 : wx_b x_20 0 5 := by rw [ex_20]; exact b_17
            obtain ⟨g_21, eg_21⟩ : ∃ z : wx_M, z = up2 z_14.1 62 ((2 * (z_14.1 57 14)) + 1).toNatClampNeg x_20 := ⟨_, rfl⟩
            obtain ⟨x_22, ex_22⟩ : ∃ z : Int32, z = ((g_21 57 14) + 1) := ⟨_, rfl⟩
            have bx_22 : wx_b x_22 1 9 := by rw [ex_22]; exact (wb_add (show wx_b (g_21 57 14) 0 8 by rw [show (g_21 57 14) = (z_14.1 57 14) from (by rw [eg_21, up2_n (by decide)])]; exact (show wx_b (z_14.1 57 14) 0 8 by rw [show (z_14.1 57 14) = (z_11.1 57 14) from (by rw [ez_14, fj_X12_isNext (by decide) (by decide) (by decide) (by decide) (by decide)])]; exact (show wx_b (z_11.1 57 14) 0 8 by rw [show (z_11.1 57 14) = (g_10 57 14) from (by rw [ez_11, fj_X12_isSign (by decide) (by decide) (by decide) (by decide) (by decide)])]; exact (show wx_b (g_10 57 14) 0 8 by rw [show (g_10 57 14) = (z_5.1 57 14) from (by rw [eg_10, up2_n (by decide)])]; exact (show wx_b (z_5.1 57 14) 0 8 by rw [show (z_5.1 57 14) = (g 57 14) from (by rw [ez_5, fj_X12_isNext (by decide) (by decide) (by decide) (by decide) (by decide)])]; exact b_4))))) (show wx_b 1 1 1 from ⟨by decide, by decide⟩) (by decide) (by decide))
            obtain ⟨g_23, eg_23⟩ : ∃ z : wx_M, z = up2 g_21 57 14 x_22 := ⟨_, rfl⟩
            obtain ⟨z_24, ez_24⟩ : ∃ z, z = f_X12_isSign g_23 59 := ⟨_, rfl⟩
            rw [show f_X12_isWall g = (z_24.1, z_24.2) from (by subst ez_24 eg_23 ex_22 eg_21 ex_20 ez_14 ez_11 eg_10 ex_9 ez_5; simp only [f_X12_isWall, if_neg c_1, if_neg c_6, if_neg c_12, if_neg c_15, if_neg c_18])]
            exact (Nat.le_trans (Nat.le_trans (Nat.le_trans (Nat.le_trans (Nat.le_trans (Nat.le_trans (Nat.le_trans (Nat.le_refl _) (show (g 57 6).toNatClampNeg ≤ (z_5.1 57 6).toNatClampNeg from by rw [ez_5]; exact pg_X12_isNext hpr)) (Nat.le_of_eq (show (z_5.1 57 6).toNatClampNeg = (g_10 57 6).toNatClampNeg from by rw [eg_10, up2_n (by decide)]))) (show (g_10 57 6).toNatClampNeg ≤ (z_11.1 57 6).toNatClampNeg from by rw [ez_11]; exact pg_X12_isSign (by rw [eg_10]; exact pr_62 bx_9 (by rw [ez_5]; exact pr_X12_isNext hpr)))) (show (z_11.1 57 6).toNatClampNeg ≤ (z_14.1 57 6).toNatClampNeg from by rw [ez_14]; exact pg_X12_isNext (by rw [ez_11]; exact pr_X12_isSign (by rw [eg_10]; exact pr_62 bx_9 (by rw [ez_5]; exact pr_X12_isNext hpr))))) (Nat.le_of_eq (show (z_14.1 57 6).toNatClampNeg = (g_21 57 6).toNatClampNeg from by rw [eg_21, up2_n (by decide)]))) (Nat.le_of_eq (show (g_21 57 6).toNatClampNeg = (g_23 57 6).toNatClampNeg from by rw [eg_23, up2_sn (by decide)]))) (show (g_23 57 6).toNatClampNeg ≤ (z_24.1 57 6).toNatClampNeg from by rw [ez_24]; exact pg_X12_isSign (by rw [eg_23]; exact pr_14 (wb_w bx_22 (by decide) (by decide)) (by rw [eg_21]; exact pr_62 bx_20 (by rw [ez_14]; exact pr_X12_isNext (by rw [ez_11]; exact pr_X12_isSign (by rw [eg_10]; exact pr_62 bx_9 (by rw [ez_5]; exact pr_X12_isNext hpr))))))))

def b_X12_isPerson_16 (g : wx_M) (t_16 : Nat) (s_16 : wx_M) : (wx_M) ⊕ (wx_M × Int32) :=
  let z_6 := f_X12_isNext s_16 0 ((s_16 57 11) - 1)
  if z_6.2 = 0 then
    .inr ((z_6.1, 0))
  else
    let x_9 := (z_6.1 57 9)
    let g_10 := up2 z_6.1 63 ((8 * (z_6.1 57 16)) + (nI t_16)).toNatClampNeg x_9
    if 7 ≤ (nI t_16) then
      let z_13 := f_X12_isSign g_10 59
      if z_13.2 = 0 then
        .inr ((z_13.1, 0))
      else
        .inl z_13.1
    else
      let z_20 := f_X12_isSign g_10 44
      if z_20.2 = 0 then
        .inr ((z_20.1, 0))
      else
        .inl z_20.1
def f_X12_isPerson (g : wx_M) : wx_M × Int32 :=
  if (g 57 16) = 4 then
    let z_30 := f_X12_fails g 3
    (z_30.1, z_30.2)
  else
    (match repX 8 (b_X12_isPerson_16 g) g with
    | .inl s_16 =>
      let x_4 := ((s_16 57 16) + 1)
      let g_5 := up2 s_16 57 16 x_4
      (g_5, 1)
    | .inr r9 => r9)
set_option maxHeartbeats 4000000 in
set_option maxRecDepth 100000 in
theorem k_X12_isPerson (l : Launch) {D : va_G} {cy : Nat → ClassId} {ad : Nat → Nat} {B0 : Nat} {f : wx_F} {P : va_W} (g : wx_M) (hpr : wx_PR g) : Met l yX12_isPerson wsX12_isPerson ({ frames := 3, cells := 0, slots := 0, locals := 65 } : Room) (wx_Pc D cy ad B0 f P g [.ref (ad 57)]) (wx_Qe D cy ad B0 f P (f_X12_isPerson g).1 (some (.int (f_X12_isPerson g).2))) 0 0 (fun q => B0 ≤ q) := by
  refine wx_enterE (cc := cX12_isPerson) (maxL := 2) (ty := .boolean) (own := RX12) (lv := [(0, .ref (ad 57))]) (by decide) rfl rfl (Nat.le_of_ble_eq_true rfl) rfl ?_
  intro p e R s m args below meth c ls Qm hx hb hml hown hts hK hX hS hR hret hl
  have hi_X12 : ∀ w ∈ wsX120, w ∈ wsX12_isPerson := by decide +kernel
  refine lv_aload_n hx hb dX12_isPerson_0 rfl (lv_at hl 0 rfl) ?_
  refine wx_geti (C := RX12) (T := TX12) (N := 27) (ci := 11) (j := 16) hx hb hts hi_X12 hown hK hX (by decide) sh_X12_16 rfl (by decide) (hts (.fieldLink RX12 115 "SeenAgainModel" "readPeople" "I") (by decide +kernel)) (fun _ h9 => h9) dX12_isPerson_1 ?_
  refine lv_iconst (v := 4) hx hb dX12_isPerson_4 (by decide) ?_
  refine lv_icmp_ne (tgt := 14) hx hb dX12_isPerson_5 (by decide) (fun c_1 => ?_) (fun c_1 => ?_)
  · have b_2 : wx_b (g 57 16) 0 3 := wb_neh c_1 (show wx_PR g from hpr).2.2.2.1 (by decide)
    refine lv_iconst (v := 0) hx hb dX12_isPerson_14 (by decide) ?_
    refine lv_istore_n (lv' := [(1, .int 0), (0, .ref (ad 57))]) hx hb dX12_isPerson_15 rfl hl (by decide) rfl (fun ls hl => ?_)
    have lp_16 : ∀ (n t_16 : Nat) (s_16 : wx_M) (ls : Array Slot) (H : Heap) (locs : List Loc), t_16 ≤ 8 → 8 + 1 ≤ t_16 + n → repX t_16 (b_X12_isPerson_16 g) g = .inl s_16 → wx_X D cy ad B0 f P s_16 H → va_S (fun q => B0 ≤ q) s.heap H locs → wx_PR s_16 → wx_b (s_16 57 16) 0 3 → lv_has ls 2 [(1, .int (nI t_16)), (0, .ref (ad 57))] → W p l e R s m args below meth c H locs 0 0 Qm (F0 m 16 ls []) := by
      intro n
      induction n with
      | zero => intro t_16 s_16 ls H locs h1 h2; exact absurd h2 (by omega)
      | succ n ih_16 =>
        intro t_16 s_16 ls H locs ht_16 hn_16 es_16 hX hS hPI_16 hqI_16 hl
        refine lv_iload_n hx hb dX12_isPerson_16 rfl (lv_at hl 0 rfl) ?_
        refine lv_bipush (v := 8) hx hb dX12_isPerson_17 (by decide) ?_
        refine lv_icmp_ge (tgt := 84) hx hb dX12_isPerson_19 (by decide) (fun c_3 => ?_) (fun c_3 => ?_)
        · have et_16 : t_16 = 8 := Nat.le_antisymm ht_16 (by have h9 := wx_dn (by omega) c_3; have h8 : (8 : Int32).toNatClampNeg = 8 := (by decide); omega)
          subst et_16
          refine lv_aload_n hx hb dX12_isPerson_84 rfl (lv_at hl 1 rfl) ?_
          refine lv_dup hx hb dX12_isPerson_85 rfl ?_
          refine wx_geti (C := RX12) (T := TX12) (N := 27) (ci := 11) (j := 16) hx hb hts hi_X12 hown hK hX (by decide) sh_X12_16 rfl (by decide) (hts (.fieldLink RX12 115 "SeenAgainModel" "readPeople" "I") (by decide +kernel)) (fun _ h9 => h9) dX12_isPerson_86 ?_
          refine lv_iconst (v := 1) hx hb dX12_isPerson_89 (by decide) ?_
          refine lv_iadd hx hb dX12_isPerson_90 ?_
          refine lv_topi (fun x_4 ex_4 => ?_)
          have bx_4 : wx_b x_4 1 4 := by rw [ex_4]; exact (wb_add hqI_16 (show wx_b 1 1 1 from ⟨by decide, by decide⟩) (by decide) (by decide))
          refine wx_puti (C := RX12) (T := TX12) (N := 27) (ci := 11) (j := 16) (ty := .int) hx hb hts hi_X12 tyX12 tyX12_ok nmX12 hown hK hX hS (by decide) sh_X12_16 rfl (by decide) (hts (.fieldLink RX12 115 "SeenAgainModel" "readPeople" "I") (by decide +kernel)) (fun _ h9 => h9) rfl (by decide +kernel) rfl rfl dX12_isPerson_91 (fun H locs hX hS => ?_)
          obtain ⟨g_5, eg_5, hX⟩ := wx_nm hX
          refine lv_iconst (v := 1) hx hb dX12_isPerson_94 (by decide) ?_
          exact hret _ _ _ _ _ _ dX12_isPerson_95 rfl hX hS (by subst eg_5 ex_4; simp only [f_X12_isPerson, if_neg c_1, es_16])
        · have hlt_16 : t_16 < 8 := by have h9 := wx_up (by omega) c_3; have h8 : (8 : Int32).toNatClampNeg = 8 := (by decide); omega
          have bt_16 : wx_b (nI (t_16)) 0 7 := wb_nI (n := 7) (by omega) (by decide)
          refine lv_aload_n hx hb dX12_isPerson_22 rfl (lv_at hl 1 rfl) ?_
          refine lv_iconst (v := 0) hx hb dX12_isPerson_23 (by decide) ?_
          refine lv_aload_n hx hb dX12_isPerson_24 rfl (lv_at hl 1 rfl) ?_
          refine wx_geti (C := RX12) (T := TX12) (N := 27) (ci := 11) (j := 11) hx hb hts hi_X12 hown hK hX (by decide) sh_X12_11 rfl (by decide) (hts (.fieldLink RX12 100 "SeenAgainModel" "readRooms" "I") (by decide +kernel)) (fun _ h9 => h9) dX12_isPerson_25 ?_
          refine lv_iconst (v := 1) hx hb dX12_isPerson_28 (by decide) ?_
          refine lv_isub hx hb dX12_isPerson_29 ?_
          refine wx_callei (va_runV (As := [.int 0, .int ((s_16 57 11) - 1)]) (rest := []) ⟨hx, hb, hml, hown, hts⟩ (k_X12_isNext l s_16 0 ((s_16 57 11) - 1) hPI_16) (cwV 2 hts gX12_isPerson_X12_isNext rfl rfl rfl (by decide +kernel) (by rw [hR]; exact ⟨Nat.le_of_ble_eq_true rfl, Nat.le_of_ble_eq_true rfl⟩)) ⟨wx_Pc.blind, wx_recv hK hX (by decide) sh_X12 rfl, (wx_Pc.pre hK hX).2⟩ rfl rfl hl.1 rfl (lv_room (Nat.le_of_ble_eq_true rfl)) dX12_isPerson_30 ⟨Nat.zero_le _, Nat.zero_le _⟩) hS (fun H locs hX hS => ?_)
          obtain ⟨z_6, ez_6⟩ : ∃ z, z = f_X12_isNext s_16 0 ((s_16 57 11) - 1) := ⟨_, rfl⟩
          rw [← ez_6] at hX; rw [← ez_6]
          refine lv_if_ne (tgt := 38) hx hb dX12_isPerson_33 (by decide) (fun c_7 => ?_) (fun c_7 => ?_)
          · have b_8 : wx_b (z_6.1 57 9) 0 5 := by rw [ez_6]; exact nx_b (show wx_b 0 0 0 from ⟨by decide, by decide⟩) (wb_sub (show wx_PR s_16 from hPI_16).2.1 (show wx_b 1 1 1 from ⟨by decide, by decide⟩) (by decide) (by decide)) (by rw [← ez_6]; exact c_7)
            refine lv_aload_n hx hb dX12_isPerson_38 rfl (lv_at hl 1 rfl) ?_
            refine wx_getr (t := 63) (C := RX12) (T := TX12) (N := 27) (ci := 11) (j := 17) hx hb hts hi_X12 hown hK hX (by decide) sh_X12_17 rfl (by decide) (hts (.fieldLink RX12 25 "SeenAgainModel" "readPerson" "[I") (by decide +kernel)) (fun _ h9 => h9) dX12_isPerson_39 ?_
            refine lv_bipush (v := 8) hx hb dX12_isPerson_42 (by decide) ?_
            refine lv_aload_n hx hb dX12_isPerson_44 rfl (lv_at hl 1 rfl) ?_
            refine wx_geti (C := RX12) (T := TX12) (N := 27) (ci := 11) (j := 16) hx hb hts hi_X12 hown hK hX (by decide) sh_X12_16 rfl (by decide) (hts (.fieldLink RX12 115 "SeenAgainModel" "readPeople" "I") (by decide +kernel)) (fun _ h9 => h9) dX12_isPerson_45 ?_
            refine lv_imul hx hb dX12_isPerson_48 ?_
            refine lv_iload_n hx hb dX12_isPerson_49 rfl (lv_at hl 0 rfl) ?_
            refine lv_iadd hx hb dX12_isPerson_50 ?_
            refine lv_aload_n hx hb dX12_isPerson_51 rfl (lv_at hl 1 rfl) ?_
            refine wx_geti (C := RX12) (T := TX12) (N := 27) (ci := 11) (j := 9) hx hb hts hi_X12 hown hK hX (by decide) sh_X12_9 rfl (by decide) (hts (.fieldLink RX12 81 "SeenAgainModel" "number" "I") (by decide +kernel)) (fun _ h9 => h9) dX12_isPerson_52 ?_
            refine lv_topi (fun x_9 ex_9 => ?_)
            have bx_9 : wx_b x_9 0 5 := by rw [ex_9]; exact b_8
            refine wx_iast hx hb hK hX hS (by decide) sa_63 (wb_in (wb_add (wb_mul (show wx_b 8 8 8 from ⟨by decide, by decide⟩) (show wx_b (z_6.1 57 16) 0 3 by rw [show (z_6.1 57 16) = (s_16 57 16) from (by rw [ez_6, fj_X12_isNext (by decide) (by decide) (by decide) (by decide) (by decide)])]; exact hqI_16) (by decide) (by decide) (by decide)) bt_16 (by decide) (by decide)) (by decide) (by decide)) dX12_isPerson_55 (fun H locs hX hS => ?_)
            obtain ⟨g_10, eg_10, hX⟩ := wx_nm hX
            refine lv_aload_n hx hb dX12_isPerson_56 rfl (lv_at hl 1 rfl) ?_
            refine lv_iload_n hx hb dX12_isPerson_57 rfl (lv_at hl 0 rfl) ?_
            refine lv_bipush (v := 7) hx hb dX12_isPerson_58 (by decide) ?_
            refine lv_icmp_ge (tgt := 68) hx hb dX12_isPerson_60 (by decide) (fun c_11 => ?_) (fun c_11 => ?_)
            · have b_12 : wx_b (nI t_16) 7 7 := wb_ge c_11 bt_16 (show wx_b 7 7 7 from ⟨by decide, by decide⟩) (by decide) (by decide)
              refine lv_bipush (v := 59) hx hb dX12_isPerson_68 (by decide) ?_
              refine wx_callei (va_runV (As := [.int 59]) (rest := []) ⟨hx, hb, hml, hown, hts⟩ (k_X12_isSign l g_10 59 (by rw [eg_10]; exact pr_n (by decide) (by decide) (by rw [ez_6]; exact pr_X12_isNext hPI_16))) (cwV 1 hts gX12_isPerson_X12_isSign rfl rfl rfl (by decide +kernel) (by rw [hR]; exact ⟨Nat.le_of_ble_eq_true rfl, Nat.le_of_ble_eq_true rfl⟩)) ⟨wx_Pc.blind, wx_recv hK hX (by decide) sh_X12 rfl, (wx_Pc.pre hK hX).2⟩ rfl rfl hl.1 rfl (lv_room (Nat.le_of_ble_eq_true rfl)) dX12_isPerson_70 ⟨Nat.zero_le _, Nat.zero_le _⟩) hS (fun H locs hX hS => ?_)
              obtain ⟨z_13, ez_13⟩ : ∃ z, z = f_X12_isSign g_10 59 := ⟨_, rfl⟩
              rw [← ez_13] at hX; rw [← ez_13]
              refine lv_if_ne (tgt := 78) hx hb dX12_isPerson_73 (by decide) (fun c_14 => ?_) (fun c_14 => ?_)
              · refine lv_iinc (v := nI (t_16 + 1)) (lv' := [(1, .int (nI (t_16 + 1))), (0, .ref (ad 57))]) hx hb dX12_isPerson_78 hl (k := 0) rfl (wx_inc _) (by decide) rfl (fun ls hl => ?_)
                refine lv_goto (tgt := 16) hx hb dX12_isPerson_81 (by decide) ?_
                have hF_15 : (b_X12_isPerson_16 g) t_16 s_16 = .inl z_13.1 := (by subst ez_13 eg_10 ex_9 ez_6; simp only [b_X12_isPerson_16, if_neg c_7, if_pos c_11, if_neg c_14])
                exact ih_16 (t_16 + 1) z_13.1 ls H locs hlt_16 (by omega) ((repX_go es_16).trans hF_15) hX hS (by rw [ez_13]; exact pr_X12_isSign (by rw [eg_10]; exact pr_n (by decide) (by decide) (by rw [ez_6]; exact pr_X12_isNext hPI_16))) (wb_w (show wx_b (z_13.1 57 16) 0 3 by rw [show (z_13.1 57 16) = (g_10 57 16) from (by rw [ez_13, fj_X12_isSign (by decide) (by decide) (by decide) (by decide) (by decide)])]; exact (show wx_b (g_10 57 16) 0 3 by rw [show (g_10 57 16) = (z_6.1 57 16) from (by rw [eg_10, up2_n (by decide)])]; exact (show wx_b (z_6.1 57 16) 0 3 by rw [show (z_6.1 57 16) = (s_16 57 16) from (by rw [ez_6, fj_X12_isNext (by decide) (by decide) (by decide) (by decide) (by decide)])]; exact hqI_16))) (by decide) (by decide)) (lv_sub hl [0, 1] rfl)
              · have b_16 : wx_b z_13.2 0 0 := by rw [c_14]; exact ⟨by decide, by decide⟩
                refine lv_iconst (v := 0) hx hb dX12_isPerson_76 (by decide) ?_
                have hF_17 : (b_X12_isPerson_16 g) t_16 s_16 = .inr ((z_13.1, 0)) := (by subst ez_13 eg_10 ex_9 ez_6; simp only [b_X12_isPerson_16, if_neg c_7, if_pos c_11, if_pos c_14])
                have hO_18 : repX 8 (b_X12_isPerson_16 g) g = .inr ((z_13.1, 0)) := repX_out es_16 hF_17 hlt_16
                exact hret _ _ _ _ _ _ dX12_isPerson_77 rfl hX hS (by simp only [f_X12_isPerson, if_neg c_1, hO_18])
            · have b_19 : wx_b (nI t_16) 0 6 := wb_lt (wb_nle c_11) bt_16 (show wx_b 7 7 7 from ⟨by decide, by decide⟩) (by decide) (by decide)
              refine lv_bipush (v := 44) hx hb dX12_isPerson_63 (by decide) ?_
              refine lv_goto (tgt := 70) hx hb dX12_isPerson_65 (by decide) ?_
              refine wx_callei (va_runV (As := [.int 44]) (rest := []) ⟨hx, hb, hml, hown, hts⟩ (k_X12_isSign l g_10 44 (by rw [eg_10]; exact pr_n (by decide) (by decide) (by rw [ez_6]; exact pr_X12_isNext hPI_16))) (cwV 1 hts gX12_isPerson_X12_isSign rfl rfl rfl (by decide +kernel) (by rw [hR]; exact ⟨Nat.le_of_ble_eq_true rfl, Nat.le_of_ble_eq_true rfl⟩)) ⟨wx_Pc.blind, wx_recv hK hX (by decide) sh_X12 rfl, (wx_Pc.pre hK hX).2⟩ rfl rfl hl.1 rfl (lv_room (Nat.le_of_ble_eq_true rfl)) dX12_isPerson_70 ⟨Nat.zero_le _, Nat.zero_le _⟩) hS (fun H locs hX hS => ?_)
              obtain ⟨z_20, ez_20⟩ : ∃ z, z = f_X12_isSign g_10 44 := ⟨_, rfl⟩
              rw [← ez_20] at hX; rw [← ez_20]
              refine lv_if_ne (tgt := 78) hx hb dX12_isPerson_73 (by decide) (fun c_21 => ?_) (fun c_21 => ?_)
              · refine lv_iinc (v := nI (t_16 + 1)) (lv' := [(1, .int (nI (t_16 + 1))), (0, .ref (ad 57))]) hx hb dX12_isPerson_78 hl (k := 0) rfl (wx_inc _) (by decide) rfl (fun ls hl => ?_)
                refine lv_goto (tgt := 16) hx hb dX12_isPerson_81 (by decide) ?_
                have hF_22 : (b_X12_isPerson_16 g) t_16 s_16 = .inl z_20.1 := (by subst ez_20 eg_10 ex_9 ez_6; simp only [b_X12_isPerson_16, if_neg c_7, if_neg c_11, if_neg c_21])
                exact ih_16 (t_16 + 1) z_20.1 ls H locs hlt_16 (by omega) ((repX_go es_16).trans hF_22) hX hS (by rw [ez_20]; exact pr_X12_isSign (by rw [eg_10]; exact pr_n (by decide) (by decide) (by rw [ez_6]; exact pr_X12_isNext hPI_16))) (wb_w (show wx_b (z_20.1 57 16) 0 3 by rw [show (z_20.1 57 16) = (g_10 57 16) from (by rw [ez_20, fj_X12_isSign (by decide) (by decide) (by decide) (by decide) (by decide)])]; exact (show wx_b (g_10 57 16) 0 3 by rw [show (g_10 57 16) = (z_6.1 57 16) from (by rw [eg_10, up2_n (by decide)])]; exact (show wx_b (z_6.1 57 16) 0 3 by rw [show (z_6.1 57 16) = (s_16 57 16) from (by rw [ez_6, fj_X12_isNext (by decide) (by decide) (by decide) (by decide) (by decide)])]; exact hqI_16))) (by decide) (by decide)) (lv_sub hl [0, 1] rfl)
              · have b_23 : wx_b z_20.2 0 0 := by rw [c_21]; exact ⟨by decide, by decide⟩
                refine lv_iconst (v := 0) hx hb dX12_isPerson_76 (by decide) ?_
                have hF_24 : (b_X12_isPerson_16 g) t_16 s_16 = .inr ((z_20.1, 0)) := (by subst ez_20 eg_10 ex_9 ez_6; simp only [b_X12_isPerson_16, if_neg c_7, if_neg c_11, if_pos c_21])
                have hO_25 : repX 8 (b_X12_isPerson_16 g) g = .inr ((z_20.1, 0)) := repX_out es_16 hF_24 hlt_16
                exact hret _ _ _ _ _ _ dX12_isPerson_77 rfl hX hS (by simp only [f_X12_isPerson, if_neg c_1, hO_25])
          · have b_26 : wx_b z_6.2 0 0 := by rw [c_7]; exact ⟨by decide, by decide⟩
            refine lv_iconst (v := 0) hx hb dX12_isPerson_36 (by decide) ?_
            have hF_27 : (b_X12_isPerson_16 g) t_16 s_16 = .inr ((z_6.1, 0)) := (by subst ez_6; simp only [b_X12_isPerson_16, if_pos c_7])
            have hO_28 : repX 8 (b_X12_isPerson_16 g) g = .inr ((z_6.1, 0)) := repX_out es_16 hF_27 hlt_16
            exact hret _ _ _ _ _ _ dX12_isPerson_37 rfl hX hS (by simp only [f_X12_isPerson, if_neg c_1, hO_28])
    exact lp_16 (8 + 1) 0 g ls s.heap [] (Nat.zero_le _) (by omega) rfl hX hS hpr (wb_w b_2 (by decide) (by decide)) (lv_sub hl [0, 1] rfl)
  · have b_29 : wx_b (g 57 16) 4 4 := by rw [c_1]; exact ⟨by decide, by decide⟩
    refine lv_aload_n hx hb dX12_isPerson_8 rfl (lv_at hl 0 rfl) ?_
    refine lv_iconst (v := 3) hx hb dX12_isPerson_9 (by decide) ?_
    refine wx_callei (va_runV (As := [.int 3]) (rest := []) ⟨hx, hb, hml, hown, hts⟩ (k_X12_fails l g 3 hpr) (cwV 1 hts gX12_isPerson_X12_fails rfl rfl rfl (by decide +kernel) (by rw [hR]; exact ⟨Nat.le_of_ble_eq_true rfl, Nat.le_of_ble_eq_true rfl⟩)) ⟨wx_Pc.blind, wx_recv hK hX (by decide) sh_X12 rfl, (wx_Pc.pre hK hX).2⟩ rfl rfl hl.1 rfl (lv_room (Nat.le_of_ble_eq_true rfl)) dX12_isPerson_10 ⟨Nat.zero_le _, Nat.zero_le _⟩) hS (fun H locs hX hS => ?_)
    obtain ⟨z_30, ez_30⟩ : ∃ z, z = f_X12_fails g 3 := ⟨_, rfl⟩
    rw [← ez_30] at hX; rw [← ez_30]
    exact hret _ _ _ _ _ _ dX12_isPerson_13 (by rw [ez_30]; exact nb_f_X12_fails _ _) hX hS (by subst ez_30; simp only [f_X12_isPerson, if_pos c_1])
set_option maxHeartbeats 4000000 in
theorem np_X12_isPerson {g : wx_M} (hpr : wx_PR g) : narrow .boolean (.int (f_X12_isPerson g).2) = .int (f_X12_isPerson g).2 := by
  by_cases c_1 : (g 57 16) = 4
  · have b_2 : wx_b (g 57 16) 4 4 := by rw [c_1]; exact ⟨by decide, by decide⟩
    obtain ⟨z_3, ez_3⟩ : ∃ z, z = f_X12_fails g 3 := ⟨_, rfl⟩
    rw [show f_X12_isPerson g = (z_3.1, z_3.2) from (by subst ez_3; simp only [f_X12_isPerson, if_pos c_1])]
    exact (by rw [ez_3]; exact nb_f_X12_fails _ _)
  · have b_4 : wx_b (g 57 16) 0 3 := wb_neh c_1 (show wx_PR g from hpr).2.2.2.1 (by decide)
    have lp_16 := repX_inv2 (f := (b_X12_isPerson_16 g)) (s0 := g) (fun (t_16 : Nat) (s_16 : wx_M) => (wx_PR s_16) ∧ (wx_b (s_16 57 16) 0 3)) (fun r => narrow .boolean (.int (r).2) = .int (r).2) 8 ⟨hpr, (wb_w b_4 (by decide) (by decide))⟩ (by
      intro t_16 s_16 hlt_16 hI9
      obtain ⟨hPI_16, hqI_16⟩ := hI9
      have bt_16 : wx_b (nI (t_16)) 0 7 := wb_nI (n := 7) (by omega) (by decide)
      obtain ⟨z_6, ez_6⟩ : ∃ z, z = f_X12_isNext s_16 0 ((s_16 57 11) - 1) := ⟨_, rfl⟩
      by_cases c_7 : z_6.2 = 0
      · have b_8 : wx_b z_6.2 0 0 := by rw [c_7]; exact ⟨by decide, by decide⟩
        rw [show (b_X12_isPerson_16 g) t_16 s_16 = .inr ((z_6.1, 0)) from (by subst ez_6; simp only [b_X12_isPerson_16, if_pos c_7])]
        exact (Or.inr ⟨_, rfl, (show narrow .boolean (.int 0) = .int 0 from rfl)⟩)
      · have b_9 : wx_b (z_6.1 57 9) 0 5 := by rw [ez_6]; exact nx_b (show wx_b 0 0 0 from ⟨by decide, by decide⟩) (wb_sub (show wx_PR s_16 from hPI_16).2.1 (show wx_b 1 1 1 from ⟨by decide, by decide⟩) (by decide) (by decide)) (by rw [← ez_6]; exact c_7)
        obtain ⟨x_10, ex_10⟩ : ∃ z : Int32, z = (z_6.1 57 9) := ⟨_, rfl⟩
        have bx_10 : wx_b x_10 0 5 := by rw [ex_10]; exact b_9
        obtain ⟨g_11, eg_11⟩ : ∃ z : wx_M, z = up2 z_6.1 63 ((8 * (z_6.1 57 16)) + (nI t_16)).toNatClampNeg x_10 := ⟨_, rfl⟩
        by_cases c_12 : 7 ≤ (nI t_16)
        · have b_13 : wx_b (nI t_16) 7 7 := wb_ge c_12 bt_16 (show wx_b 7 7 7 from ⟨by decide, by decide⟩) (by decide) (by decide)
          obtain ⟨z_14, ez_14⟩ : ∃ z, z = f_X12_isSign g_11 59 := ⟨_, rfl⟩
          by_cases c_15 : z_14.2 = 0
          · have b_16 : wx_b z_14.2 0 0 := by rw [c_15]; exact ⟨by decide, by decide⟩
            rw [show (b_X12_isPerson_16 g) t_16 s_16 = .inr ((z_14.1, 0)) from (by subst ez_14 eg_11 ex_10 ez_6; simp only [b_X12_isPerson_16, if_neg c_7, if_pos c_12, if_pos c_15])]
            exact (Or.inr ⟨_, rfl, (show narrow .boolean (.int 0) = .int 0 from rfl)⟩)
          · rw [show (b_X12_isPerson_16 g) t_16 s_16 = .inl z_14.1 from (by subst ez_14 eg_11 ex_10 ez_6; simp only [b_X12_isPerson_16, if_neg c_7, if_pos c_12, if_neg c_15])]
            exact (Or.inl ⟨_, rfl, ⟨(by rw [ez_14]; exact pr_X12_isSign (by rw [eg_11]; exact pr_n (by decide) (by decide) (by rw [ez_6]; exact pr_X12_isNext hPI_16))), (wb_w (show wx_b (z_14.1 57 16) 0 3 by rw [show (z_14.1 57 16) = (g_11 57 16) from (by rw [ez_14, fj_X12_isSign (by decide) (by decide) (by decide) (by decide) (by decide)])]; exact (show wx_b (g_11 57 16) 0 3 by rw [show (g_11 57 16) = (z_6.1 57 16) from (by rw [eg_11, up2_n (by decide)])]; exact (show wx_b (z_6.1 57 16) 0 3 by rw [show (z_6.1 57 16) = (s_16 57 16) from (by rw [ez_6, fj_X12_isNext (by decide) (by decide) (by decide) (by decide) (by decide)])]; exact hqI_16))) (by decide) (by decide))⟩⟩)
        · have b_17 : wx_b (nI t_16) 0 6 := wb_lt (wb_nle c_12) bt_16 (show wx_b 7 7 7 from ⟨by decide, by decide⟩) (by decide) (by decide)
          obtain ⟨z_18, ez_18⟩ : ∃ z, z = f_X12_isSign g_11 44 := ⟨_, rfl⟩
          by_cases c_19 : z_18.2 = 0
          · have b_20 : wx_b z_18.2 0 0 := by rw [c_19]; exact ⟨by decide, by decide⟩
            rw [show (b_X12_isPerson_16 g) t_16 s_16 = .inr ((z_18.1, 0)) from (by subst ez_18 eg_11 ex_10 ez_6; simp only [b_X12_isPerson_16, if_neg c_7, if_neg c_12, if_pos c_19])]
            exact (Or.inr ⟨_, rfl, (show narrow .boolean (.int 0) = .int 0 from rfl)⟩)
          · rw [show (b_X12_isPerson_16 g) t_16 s_16 = .inl z_18.1 from (by subst ez_18 eg_11 ex_10 ez_6; simp only [b_X12_isPerson_16, if_neg c_7, if_neg c_12, if_neg c_19])]
            exact (Or.inl ⟨_, rfl, ⟨(by rw [ez_18]; exact pr_X12_isSign (by rw [eg_11]; exact pr_n (by decide) (by decide) (by rw [ez_6]; exact pr_X12_isNext hPI_16))), (wb_w (show wx_b (z_18.1 57 16) 0 3 by rw [show (z_18.1 57 16) = (g_11 57 16) from (by rw [ez_18, fj_X12_isSign (by decide) (by decide) (by decide) (by decide) (by decide)])]; exact (show wx_b (g_11 57 16) 0 3 by rw [show (g_11 57 16) = (z_6.1 57 16) from (by rw [eg_11, up2_n (by decide)])]; exact (show wx_b (z_6.1 57 16) 0 3 by rw [show (z_6.1 57 16) = (s_16 57 16) from (by rw [ez_6, fj_X12_isNext (by decide) (by decide) (by decide) (by decide) (by decide)])]; exact hqI_16))) (by decide) (by decide))⟩⟩))
    cases hc_16 : repX 8 (b_X12_isPerson_16 g) g with
    | inr r_16 =>
      rw [show f_X12_isPerson g = r_16 from (by simp only [f_X12_isPerson, if_neg c_1, hc_16])]
      exact lp_16.2 _ hc_16
    | inl s_16 =>
      have h9 := lp_16.1 _ hc_16
      obtain ⟨hPI_16, hqI_16⟩ := h9
      obtain ⟨x_21, ex_21⟩ : ∃ z : Int32, z = ((s_16 57 16) + 1) := ⟨_, rfl⟩
      have bx_21 : wx_b x_21 1 4 := by rw [ex_21]; exact (wb_add hqI_16 (show wx_b 1 1 1 from ⟨by decide, by decide⟩) (by decide) (by decide))
      obtain ⟨g_22, eg_22⟩ : ∃ z : wx_M, z = up2 s_16 57 16 x_21 := ⟨_, rfl⟩
      rw [show f_X12_isPerson g = (g_22, 1) from (by subst eg_22 ex_21; simp only [f_X12_isPerson, if_neg c_1, hc_16])]
      exact (show narrow .boolean (.int 1) = .int 1 from rfl)

set_option maxHeartbeats 4000000 in
theorem pr_X12_isPerson {g : wx_M} (hpr : wx_PR g) : wx_PR (f_X12_isPerson g).1 := by
  by_cases c_1 : (g 57 16) = 4
  · have b_2 : wx_b (g 57 16) 4 4 := by rw [c_1]; exact ⟨by decide, by decide⟩
    obtain ⟨z_3, ez_3⟩ : ∃ z, z = f_X12_fails g 3 := ⟨_, rfl⟩
    rw [show f_X12_isPerson g = (z_3.1, z_3.2) from (by subst ez_3; simp only [f_X12_isPerson, if_pos c_1])]
    exact (by rw [ez_3]; exact pr_X12_fails hpr)
  · have b_4 : wx_b (g 57 16) 0 3 := wb_neh c_1 (show wx_PR g from hpr).2.2.2.1 (by decide)
    have lp_16 := repX_inv2 (f := (b_X12_isPerson_16 g)) (s0 := g) (fun (t_16 : Nat) (s_16 : wx_M) => (wx_PR s_16) ∧ (wx_b (s_16 57 16) 0 3)) (fun r => wx_PR (r).1) 8 ⟨hpr, (wb_w b_4 (by decide) (by decide))⟩ (by
      intro t_16 s_16 hlt_16 hI9
      obtain ⟨hPI_16, hqI_16⟩ := hI9
      have bt_16 : wx_b (nI (t_16)) 0 7 := wb_nI (n := 7) (by omega) (by decide)
      obtain ⟨z_6, ez_6⟩ : ∃ z, z = f_X12_isNext s_16 0 ((s_16 57 11) - 1) := ⟨_, rfl⟩
      by_cases c_7 : z_6.2 = 0
      · have b_8 : wx_b z_6.2 0 0 := by rw [c_7]; exact ⟨by decide, by decide⟩
        rw [show (b_X12_isPerson_16 g) t_16 s_16 = .inr ((z_6.1, 0)) from (by subst ez_6; simp only [b_X12_isPerson_16, if_pos c_7])]
        exact (Or.inr ⟨_, rfl, (by rw [ez_6]; exact pr_X12_isNext hPI_16)⟩)
      · have b_9 : wx_b (z_6.1 57 9) 0 5 := by rw [ez_6]; exact nx_b (show wx_b 0 0 0 from ⟨by decide, by decide⟩) (wb_sub (show wx_PR s_16 from hPI_16).2.1 (show wx_b 1 1 1 from ⟨by decide, by decide⟩) (by decide) (by decide)) (by rw [← ez_6]; exact c_7)
        obtain ⟨x_10, ex_10⟩ : ∃ z : Int32, z = (z_6.1 57 9) := ⟨_, rfl⟩
        have bx_10 : wx_b x_10 0 5 := by rw [ex_10]; exact b_9
        obtain ⟨g_11, eg_11⟩ : ∃ z : wx_M, z = up2 z_6.1 63 ((8 * (z_6.1 57 16)) + (nI t_16)).toNatClampNeg x_10 := ⟨_, rfl⟩
        by_cases c_12 : 7 ≤ (nI t_16)
        · have b_13 : wx_b (nI t_16) 7 7 := wb_ge c_12 bt_16 (show wx_b 7 7 7 from ⟨by decide, by decide⟩) (by decide) (by decide)
          obtain ⟨z_14, ez_14⟩ : ∃ z, z = f_X12_isSign g_11 59 := ⟨_, rfl⟩
          by_cases c_15 : z_14.2 = 0
          · have b_16 : wx_b z_14.2 0 0 := by rw [c_15]; exact ⟨by decide, by decide⟩
            rw [show (b_X12_isPerson_16 g) t_16 s_16 = .inr ((z_14.1, 0)) from (by subst ez_14 eg_11 ex_10 ez_6; simp only [b_X12_isPerson_16, if_neg c_7, if_pos c_12, if_pos c_15])]
            exact (Or.inr ⟨_, rfl, (by rw [ez_14]; exact pr_X12_isSign (by rw [eg_11]; exact pr_n (by decide) (by decide) (by rw [ez_6]; exact pr_X12_isNext hPI_16)))⟩)
          · rw [show (b_X12_isPerson_16 g) t_16 s_16 = .inl z_14.1 from (by subst ez_14 eg_11 ex_10 ez_6; simp only [b_X12_isPerson_16, if_neg c_7, if_pos c_12, if_neg c_15])]
            exact (Or.inl ⟨_, rfl, ⟨(by rw [ez_14]; exact pr_X12_isSign (by rw [eg_11]; exact pr_n (by decide) (by decide) (by rw [ez_6]; exact pr_X12_isNext hPI_16))), (wb_w (show wx_b (z_14.1 57 16) 0 3 by rw [show (z_14.1 57 16) = (g_11 57 16) from (by rw [ez_14, fj_X12_isSign (by decide) (by decide) (by decide) (by decide) (by decide)])]; exact (show wx_b (g_11 57 16) 0 3 by rw [show (g_11 57 16) = (z_6.1 57 16) from (by rw [eg_11, up2_n (by decide)])]; exact (show wx_b (z_6.1 57 16) 0 3 by rw [show (z_6.1 57 16) = (s_16 57 16) from (by rw [ez_6, fj_X12_isNext (by decide) (by decide) (by decide) (by decide) (by decide)])]; exact hqI_16))) (by decide) (by decide))⟩⟩)
        · have b_17 : wx_b (nI t_16) 0 6 := wb_lt (wb_nle c_12) bt_16 (show wx_b 7 7 7 from ⟨by decide, by decide⟩) (by decide) (by decide)
          obtain ⟨z_18, ez_18⟩ : ∃ z, z = f_X12_isSign g_11 44 := ⟨_, rfl⟩
          by_cases c_19 : z_18.2 = 0
          · have b_20 : wx_b z_18.2 0 0 := by rw [c_19]; exact ⟨by decide, by decide⟩
            rw [show (b_X12_isPerson_16 g) t_16 s_16 = .inr ((z_18.1, 0)) from (by subst ez_18 eg_11 ex_10 ez_6; simp only [b_X12_isPerson_16, if_neg c_7, if_neg c_12, if_pos c_19])]
            exact (Or.inr ⟨_, rfl, (by rw [ez_18]; exact pr_X12_isSign (by rw [eg_11]; exact pr_n (by decide) (by decide) (by rw [ez_6]; exact pr_X12_isNext hPI_16)))⟩)
          · rw [show (b_X12_isPerson_16 g) t_16 s_16 = .inl z_18.1 from (by subst ez_18 eg_11 ex_10 ez_6; simp only [b_X12_isPerson_16, if_neg c_7, if_neg c_12, if_neg c_19])]
            exact (Or.inl ⟨_, rfl, ⟨(by rw [ez_18]; exact pr_X12_isSign (by rw [eg_11]; exact pr_n (by decide) (by decide) (by rw [ez_6]; exact pr_X12_isNext hPI_16))), (wb_w (show wx_b (z_18.1 57 16) 0 3 by rw [show (z_18.1 57 16) = (g_11 57 16) from (by rw [ez_18, fj_X12_isSign (by decide) (by decide) (by decide) (by decide) (by decide)])]; exact (show wx_b (g_11 57 16) 0 3 by rw [show (g_11 57 16) = (z_6.1 57 16) from (by rw [eg_11, up2_n (by decide)])]; exact (show wx_b (z_6.1 57 16) 0 3 by rw [show (z_6.1 57 16) = (s_16 57 16) from (by rw [ez_6, fj_X12_isNext (by decide) (by decide) (by decide) (by decide) (by decide)])]; exact hqI_16))) (by decide) (by decide))⟩⟩))
    cases hc_16 : repX 8 (b_X12_isPerson_16 g) g with
    | inr r_16 =>
      rw [show f_X12_isPerson g = r_16 from (by simp only [f_X12_isPerson, if_neg c_1, hc_16])]
      exact lp_16.2 _ hc_16
    | inl s_16 =>
      have h9 := lp_16.1 _ hc_16
      obtain ⟨hPI_16, hqI_16⟩ := h9
      obtain ⟨x_21, ex_21⟩ : ∃ z : Int32, z = ((s_16 57 16) + 1) := ⟨_, rfl⟩
      have bx_21 : wx_b x_21 1 4 := by rw [ex_21]; exact (wb_add hqI_16 (show wx_b 1 1 1 from ⟨by decide, by decide⟩) (by decide) (by decide))
      obtain ⟨g_22, eg_22⟩ : ∃ z : wx_M, z = up2 s_16 57 16 x_21 := ⟨_, rfl⟩
      rw [show f_X12_isPerson g = (g_22, 1) from (by subst eg_22 ex_21; simp only [f_X12_isPerson, if_neg c_1, hc_16])]
      exact (by rw [eg_22]; exact pr_16 (wb_w bx_21 (by decide) (by decide)) hPI_16)
set_option maxHeartbeats 4000000 in
theorem pg_X12_isPerson {g : wx_M} (hpr : wx_PR g) : (g 57 6).toNatClampNeg ≤ ((f_X12_isPerson g).1 57 6).toNatClampNeg := by
  by_cases c_1 : (g 57 16) = 4
  · have b_2 : wx_b (g 57 16) 4 4 := by rw [c_1]; exact ⟨by decide, by decide⟩
    obtain ⟨z_3, ez_3⟩ : ∃ z, z = f_X12_fails g 3 := ⟨_, rfl⟩
    rw [show f_X12_isPerson g = (z_3.1, z_3.2) from (by subst ez_3; simp only [f_X12_isPerson, if_pos c_1])]
    exact (Nat.le_trans (Nat.le_refl _) (show (g 57 6).toNatClampNeg ≤ (z_3.1 57 6).toNatClampNeg from by rw [ez_3]; exact pg_X12_fails hpr))
  · have b_4 : wx_b (g 57 16) 0 3 := wb_neh c_1 (show wx_PR g from hpr).2.2.2.1 (by decide)
    have lp_16 := repX_inv2 (f := (b_X12_isPerson_16 g)) (s0 := g) (fun (t_16 : Nat) (s_16 : wx_M) => (wx_PR s_16) ∧ (wx_b (s_16 57 16) 0 3) ∧ ((g 57 6).toNatClampNeg ≤ (s_16 57 6).toNatClampNeg)) (fun r => (g 57 6).toNatClampNeg ≤ ((r).1 57 6).toNatClampNeg) 8 ⟨hpr, (wb_w b_4 (by decide) (by decide)), (Nat.le_refl _)⟩ (by
      intro t_16 s_16 hlt_16 hI9
      obtain ⟨hPI_16, hqI_16, hpg_16⟩ := hI9
      have bt_16 : wx_b (nI (t_16)) 0 7 := wb_nI (n := 7) (by omega) (by decide)
      obtain ⟨z_6, ez_6⟩ : ∃ z, z = f_X12_isNext s_16 0 ((s_16 57 11) - 1) := ⟨_, rfl⟩
      by_cases c_7 : z_6.2 = 0
      · have b_8 : wx_b z_6.2 0 0 := by rw [c_7]; exact ⟨by decide, by decide⟩
        rw [show (b_X12_isPerson_16 g) t_16 s_16 = .inr ((z_6.1, 0)) from (by subst ez_6; simp only [b_X12_isPerson_16, if_pos c_7])]
        exact (Or.inr ⟨_, rfl, (Nat.le_trans hpg_16 (show (s_16 57 6).toNatClampNeg ≤ (z_6.1 57 6).toNatClampNeg from by rw [ez_6]; exact pg_X12_isNext hPI_16))⟩)
      · have b_9 : wx_b (z_6.1 57 9) 0 5 := by rw [ez_6]; exact nx_b (show wx_b 0 0 0 from ⟨by decide, by decide⟩) (wb_sub (show wx_PR s_16 from hPI_16).2.1 (show wx_b 1 1 1 from ⟨by decide, by decide⟩) (by decide) (by decide)) (by rw [← ez_6]; exact c_7)
        obtain ⟨x_10, ex_10⟩ : ∃ z : Int32, z = (z_6.1 57 9) := ⟨_, rfl⟩
        have bx_10 : wx_b x_10 0 5 := by rw [ex_10]; exact b_9
        obtain ⟨g_11, eg_11⟩ : ∃ z : wx_M, z = up2 z_6.1 63 ((8 * (z_6.1 57 16)) + (nI t_16)).toNatClampNeg x_10 := ⟨_, rfl⟩
        by_cases c_12 : 7 ≤ (nI t_16)
        · have b_13 : wx_b (nI t_16) 7 7 := wb_ge c_12 bt_16 (show wx_b 7 7 7 from ⟨by decide, by decide⟩) (by decide) (by decide)
          obtain ⟨z_14, ez_14⟩ : ∃ z, z = f_X12_isSign g_11 59 := ⟨_, rfl⟩
          by_cases c_15 : z_14.2 = 0
          · have b_16 : wx_b z_14.2 0 0 := by rw [c_15]; exact ⟨by decide, by decide⟩
            rw [show (b_X12_isPerson_16 g) t_16 s_16 = .inr ((z_14.1, 0)) from (by subst ez_14 eg_11 ex_10 ez_6; simp only [b_X12_isPerson_16, if_neg c_7, if_pos c_12, if_pos c_15])]
            exact (Or.inr ⟨_, rfl, (Nat.le_trans (Nat.le_trans (Nat.le_trans hpg_16 (show (s_16 57 6).toNatClampNeg ≤ (z_6.1 57 6).toNatClampNeg from by rw [ez_6]; exact pg_X12_isNext hPI_16)) (Nat.le_of_eq (show (z_6.1 57 6).toNatClampNeg = (g_11 57 6).toNatClampNeg from by rw [eg_11, up2_n (by decide)]))) (show (g_11 57 6).toNatClampNeg ≤ (z_14.1 57 6).toNatClampNeg from by rw [ez_14]; exact pg_X12_isSign (by rw [eg_11]; exact pr_n (by decide) (by decide) (by rw [ez_6]; exact pr_X12_isNext hPI_16))))⟩)
          · rw [show (b_X12_isPerson_16 g) t_16 s_16 = .inl z_14.1 from (by subst ez_14 eg_11 ex_10 ez_6; simp only [b_X12_isPerson_16, if_neg c_7, if_pos c_12, if_neg c_15])]
            exact (Or.inl ⟨_, rfl, ⟨(by rw [ez_14]; exact pr_X12_isSign (by rw [eg_11]; exact pr_n (by decide) (by decide) (by rw [ez_6]; exact pr_X12_isNext hPI_16))), (wb_w (show wx_b (z_14.1 57 16) 0 3 by rw [show (z_14.1 57 16) = (g_11 57 16) from (by rw [ez_14, fj_X12_isSign (by decide) (by decide) (by decide) (by decide) (by decide)])]; exact (show wx_b (g_11 57 16) 0 3 by rw [show (g_11 57 16) = (z_6.1 57 16) from (by rw [eg_11, up2_n (by decide)])]; exact (show wx_b (z_6.1 57 16) 0 3 by rw [show (z_6.1 57 16) = (s_16 57 16) from (by rw [ez_6, fj_X12_isNext (by decide) (by decide) (by decide) (by decide) (by decide)])]; exact hqI_16))) (by decide) (by decide)), (Nat.le_trans (Nat.le_trans (Nat.le_trans hpg_16 (show (s_16 57 6).toNatClampNeg ≤ (z_6.1 57 6).toNatClampNeg from by rw [ez_6]; exact pg_X12_isNext hPI_16)) (Nat.le_of_eq (show (z_6.1 57 6).toNatClampNeg = (g_11 57 6).toNatClampNeg from by rw [eg_11, up2_n (by decide)]))) (show (g_11 57 6).toNatClampNeg ≤ (z_14.1 57 6).toNatClampNeg from by rw [ez_14]; exact pg_X12_isSign (by rw [eg_11]; exact pr_n (by decide) (by decide) (by rw [ez_6]; exact pr_X12_isNext hPI_16))))⟩⟩)
        · have b_17 : wx_b (nI t_16) 0 6 := wb_lt (wb_nle c_12) bt_16 (show wx_b 7 7 7 from ⟨by decide, by decide⟩) (by decide) (by decide)
          obtain ⟨z_18, ez_18⟩ : ∃ z, z = f_X12_isSign g_11 44 := ⟨_, rfl⟩
          by_cases c_19 : z_18.2 = 0
          · have b_20 : wx_b z_18.2 0 0 := by rw [c_19]; exact ⟨by decide, by decide⟩
            rw [show (b_X12_isPerson_16 g) t_16 s_16 = .inr ((z_18.1, 0)) from (by subst ez_18 eg_11 ex_10 ez_6; simp only [b_X12_isPerson_16, if_neg c_7, if_neg c_12, if_pos c_19])]
            exact (Or.inr ⟨_, rfl, (Nat.le_trans (Nat.le_trans (Nat.le_trans hpg_16 (show (s_16 57 6).toNatClampNeg ≤ (z_6.1 57 6).toNatClampNeg from by rw [ez_6]; exact pg_X12_isNext hPI_16)) (Nat.le_of_eq (show (z_6.1 57 6).toNatClampNeg = (g_11 57 6).toNatClampNeg from by rw [eg_11, up2_n (by decide)]))) (show (g_11 57 6).toNatClampNeg ≤ (z_18.1 57 6).toNatClampNeg from by rw [ez_18]; exact pg_X12_isSign (by rw [eg_11]; exact pr_n (by decide) (by decide) (by rw [ez_6]; exact pr_X12_isNext hPI_16))))⟩)
          · rw [show (b_X12_isPerson_16 g) t_16 s_16 = .inl z_18.1 from (by subst ez_18 eg_11 ex_10 ez_6; simp only [b_X12_isPerson_16, if_neg c_7, if_neg c_12, if_neg c_19])]
            exact (Or.inl ⟨_, rfl, ⟨(by rw [ez_18]; exact pr_X12_isSign (by rw [eg_11]; exact pr_n (by decide) (by decide) (by rw [ez_6]; exact pr_X12_isNext hPI_16))), (wb_w (show wx_b (z_18.1 57 16) 0 3 by rw [show (z_18.1 57 16) = (g_11 57 16) from (by rw [ez_18, fj_X12_isSign (by decide) (by decide) (by decide) (by decide) (by decide)])]; exact (show wx_b (g_11 57 16) 0 3 by rw [show (g_11 57 16) = (z_6.1 57 16) from (by rw [eg_11, up2_n (by decide)])]; exact (show wx_b (z_6.1 57 16) 0 3 by rw [show (z_6.1 57 16) = (s_16 57 16) from (by rw [ez_6, fj_X12_isNext (by decide) (by decide) (by decide) (by decide) (by decide)])]; exact hqI_16))) (by decide) (by decide)), (Nat.le_trans (Nat.le_trans (Nat.le_trans hpg_16 (show (s_16 57 6).toNatClampNeg ≤ (z_6.1 57 6).toNatClampNeg from by rw [ez_6]; exact pg_X12_isNext hPI_16)) (Nat.le_of_eq (show (z_6.1 57 6).toNatClampNeg = (g_11 57 6).toNatClampNeg from by rw [eg_11, up2_n (by decide)]))) (show (g_11 57 6).toNatClampNeg ≤ (z_18.1 57 6).toNatClampNeg from by rw [ez_18]; exact pg_X12_isSign (by rw [eg_11]; exact pr_n (by decide) (by decide) (by rw [ez_6]; exact pr_X12_isNext hPI_16))))⟩⟩))
    cases hc_16 : repX 8 (b_X12_isPerson_16 g) g with
    | inr r_16 =>
      rw [show f_X12_isPerson g = r_16 from (by simp only [f_X12_isPerson, if_neg c_1, hc_16])]
      exact lp_16.2 _ hc_16
    | inl s_16 =>
      have h9 := lp_16.1 _ hc_16
      obtain ⟨hPI_16, hqI_16, hpg_16⟩ := h9
      obtain ⟨x_21, ex_21⟩ : ∃ z : Int32, z = ((s_16 57 16) + 1) := ⟨_, rfl⟩
      have bx_21 : wx_b x_21 1 4 := by rw [ex_21]; exact (wb_add hqI_16 (show wx_b 1 1 1 from ⟨by decide, by decide⟩) (by decide) (by decide))
      obtain ⟨g_22, eg_22⟩ : ∃ z : wx_M, z = up2 s_16 57 16 x_21 := ⟨_, rfl⟩
      rw [show f_X12_isPerson g = (g_22, 1) from (by subst eg_22 ex_21; simp only [f_X12_isPerson, if_neg c_1, hc_16])]
      exact (Nat.le_trans hpg_16 (Nat.le_of_eq (show (s_16 57 6).toNatClampNeg = (g_22 57 6).toNatClampNeg from by rw [eg_22, up2_sn (by decide)])))

def f_X12_isVisitor (g : wx_M) (a1 : Int32) : wx_M × Int32 :=
  if (g 57 18) = 4 then
    let z_14 := f_X12_fails g 3
    (z_14.1, z_14.2)
  else
    let g_3 := up2 g 64 (2 * (g 57 18)).toNatClampNeg a1
    let z_4 := f_X12_isNext g_3 0 99
    if z_4.2 = 0 then
      (z_4.1, 0)
    else
      let x_7 := (z_4.1 57 9)
      let g_8 := up2 z_4.1 64 ((2 * (z_4.1 57 18)) + 1).toNatClampNeg x_7
      let x_9 := ((g_8 57 18) + 1)
      let g_10 := up2 g_8 57 18 x_9
      let z_11 := f_X12_isSign g_10 59
      (z_11.1, z_11.2)
set_option maxHeartbeats 4000000 in
set_option maxRecDepth 100000 in
theorem k_X12_isVisitor (l : Launch) {D : va_G} {cy : Nat → ClassId} {ad : Nat → Nat} {B0 : Nat} {f : wx_F} {P : va_W} (g : wx_M) (a1 : Int32) (hpr : wx_PR g) : Met l yX12_isVisitor wsX12_isVisitor ({ frames := 3, cells := 0, slots := 0, locals := 65 } : Room) (wx_Pc D cy ad B0 f P g [.ref (ad 57), .int a1]) (wx_Qe D cy ad B0 f P (f_X12_isVisitor g a1).1 (some (.int (f_X12_isVisitor g a1).2))) 0 0 (fun q => B0 ≤ q) := by
  refine wx_enterE (cc := cX12_isVisitor) (maxL := 2) (ty := .boolean) (own := RX12) (lv := [(0, .ref (ad 57)), (1, .int a1)]) (by decide) rfl rfl (Nat.le_of_ble_eq_true rfl) rfl ?_
  intro p e R s m args below meth c ls Qm hx hb hml hown hts hK hX hS hR hret hl
  have hi_X12 : ∀ w ∈ wsX120, w ∈ wsX12_isVisitor := by decide +kernel
  refine lv_aload_n hx hb dX12_isVisitor_0 rfl (lv_at hl 0 rfl) ?_
  refine wx_geti (C := RX12) (T := TX12) (N := 27) (ci := 11) (j := 18) hx hb hts hi_X12 hown hK hX (by decide) sh_X12_18 rfl (by decide) (hts (.fieldLink RX12 118 "SeenAgainModel" "readVisitors" "I") (by decide +kernel)) (fun _ h9 => h9) dX12_isVisitor_1 ?_
  refine lv_iconst (v := 4) hx hb dX12_isVisitor_4 (by decide) ?_
  refine lv_icmp_ne (tgt := 14) hx hb dX12_isVisitor_5 (by decide) (fun c_1 => ?_) (fun c_1 => ?_)
  · have b_2 : wx_b (g 57 18) 0 3 := wb_neh c_1 (show wx_PR g from hpr).2.2.2.2.1 (by decide)
    refine lv_aload_n hx hb dX12_isVisitor_14 rfl (lv_at hl 0 rfl) ?_
    refine wx_getr (t := 64) (C := RX12) (T := TX12) (N := 27) (ci := 11) (j := 19) hx hb hts hi_X12 hown hK hX (by decide) sh_X12_19 rfl (by decide) (hts (.fieldLink RX12 28 "SeenAgainModel" "readVisitor" "[I") (by decide +kernel)) (fun _ h9 => h9) dX12_isVisitor_15 ?_
    refine lv_iconst (v := 2) hx hb dX12_isVisitor_18 (by decide) ?_
    refine lv_aload_n hx hb dX12_isVisitor_19 rfl (lv_at hl 0 rfl) ?_
    refine wx_geti (C := RX12) (T := TX12) (N := 27) (ci := 11) (j := 18) hx hb hts hi_X12 hown hK hX (by decide) sh_X12_18 rfl (by decide) (hts (.fieldLink RX12 118 "SeenAgainModel" "readVisitors" "I") (by decide +kernel)) (fun _ h9 => h9) dX12_isVisitor_20 ?_
    refine lv_imul hx hb dX12_isVisitor_23 ?_
    refine lv_iload_n hx hb dX12_isVisitor_24 rfl (lv_at hl 1 rfl) ?_
    refine wx_iast hx hb hK hX hS (by decide) sa_64 (wb_in (wb_mul (show wx_b 2 2 2 from ⟨by decide, by decide⟩) b_2 (by decide) (by decide) (by decide)) (by decide) (by decide)) dX12_isVisitor_25 (fun H locs hX hS => ?_)
    obtain ⟨g_3, eg_3, hX⟩ := wx_nm hX
    refine lv_aload_n hx hb dX12_isVisitor_26 rfl (lv_at hl 0 rfl) ?_
    refine lv_iconst (v := 0) hx hb dX12_isVisitor_27 (by decide) ?_
    refine lv_bipush (v := 99) hx hb dX12_isVisitor_28 (by decide) ?_
    refine wx_callei (va_runV (As := [.int 0, .int 99]) (rest := []) ⟨hx, hb, hml, hown, hts⟩ (k_X12_isNext l g_3 0 99 (by rw [eg_3]; exact pr_n (by decide) (by decide) hpr)) (cwV 2 hts gX12_isVisitor_X12_isNext rfl rfl rfl (by decide +kernel) (by rw [hR]; exact ⟨Nat.le_of_ble_eq_true rfl, Nat.le_of_ble_eq_true rfl⟩)) ⟨wx_Pc.blind, wx_recv hK hX (by decide) sh_X12 rfl, (wx_Pc.pre hK hX).2⟩ rfl rfl hl.1 rfl (lv_room (Nat.le_of_ble_eq_true rfl)) dX12_isVisitor_30 ⟨Nat.zero_le _, Nat.zero_le _⟩) hS (fun H locs hX hS => ?_)
    obtain ⟨z_4, ez_4⟩ : ∃ z, z = f_X12_isNext g_3 0 99 := ⟨_, rfl⟩
    rw [← ez_4] at hX; rw [← ez_4]
    refine lv_if_ne (tgt := 38) hx hb dX12_isVisitor_33 (by decide) (fun c_5 => ?_) (fun c_5 => ?_)
    · have b_6 : wx_b (z_4.1 57 9) 0 99 := by rw [ez_4]; exact nx_b (show wx_b 0 0 0 from ⟨by decide, by decide⟩) (show wx_b 99 99 99 from ⟨by decide, by decide⟩) (by rw [← ez_4]; exact c_5)
      refine lv_aload_n hx hb dX12_isVisitor_38 rfl (lv_at hl 0 rfl) ?_
      refine wx_getr (t := 64) (C := RX12) (T := TX12) (N := 27) (ci := 11) (j := 19) hx hb hts hi_X12 hown hK hX (by decide) sh_X12_19 rfl (by decide) (hts (.fieldLink RX12 28 "SeenAgainModel" "readVisitor" "[I") (by decide +kernel)) (fun _ h9 => h9) dX12_isVisitor_39 ?_
      refine lv_iconst (v := 2) hx hb dX12_isVisitor_42 (by decide) ?_
      refine lv_aload_n hx hb dX12_isVisitor_43 rfl (lv_at hl 0 rfl) ?_
      refine wx_geti (C := RX12) (T := TX12) (N := 27) (ci := 11) (j := 18) hx hb hts hi_X12 hown hK hX (by decide) sh_X12_18 rfl (by decide) (hts (.fieldLink RX12 118 "SeenAgainModel" "readVisitors" "I") (by decide +kernel)) (fun _ h9 => h9) dX12_isVisitor_44 ?_
      refine lv_imul hx hb dX12_isVisitor_47 ?_
      refine lv_iconst (v := 1) hx hb dX12_isVisitor_48 (by decide) ?_
      refine lv_iadd hx hb dX12_isVisitor_49 ?_
      refine lv_aload_n hx hb dX12_isVisitor_50 rfl (lv_at hl 0 rfl) ?_
      refine wx_geti (C := RX12) (T := TX12) (N := 27) (ci := 11) (j := 9) hx hb hts hi_X12 hown hK hX (by decide) sh_X12_9 rfl (by decide) (hts (.fieldLink RX12 81 "SeenAgainModel" "number" "I") (by decide +kernel)) (fun _ h9 => h9) dX12_isVisitor_51 ?_
      refine lv_topi (fun x_7 ex_7 => ?_)
      have bx_7 : wx_b x_7 0 99 := by rw [ex_7]; exact b_6
      refine wx_iast hx hb hK hX hS (by decide) sa_64 (wb_in (wb_add (wb_mul (show wx_b 2 2 2 from ⟨by decide, by decide⟩) (show wx_b (z_4.1 57 18) 0 3 by rw [show (z_4.1 57 18) = (g_3 57 18) from (by rw [ez_4, fj_X12_isNext (by decide) (by decide) (by decide) (by decide) (by decide)])]; exact (show wx_b (g_3 57 18) 0 3 by rw [show (g_3 57 18) = (g 57 18) from (by rw [eg_3, up2_n (by decide)])]; exact b_2)) (by decide) (by decide) (by decide)) (show wx_b 1 1 1 from ⟨by decide, by decide⟩) (by decide) (by decide)) (by decide) (by decide)) dX12_isVisitor_54 (fun H locs hX hS => ?_)
      obtain ⟨g_8, eg_8, hX⟩ := wx_nm hX
      refine lv_aload_n hx hb dX12_isVisitor_55 rfl (lv_at hl 0 rfl) ?_
      refine lv_dup hx hb dX12_isVisitor_56 rfl ?_
      refine wx_geti (C := RX12) (T := TX12) (N := 27) (ci := 11) (j := 18) hx hb hts hi_X12 hown hK hX (by decide) sh_X12_18 rfl (by decide) (hts (.fieldLink RX12 118 "SeenAgainModel" "readVisitors" "I") (by decide +kernel)) (fun _ h9 => h9) dX12_isVisitor_57 ?_
      refine lv_iconst (v := 1) hx hb dX12_isVisitor_60 (by decide) ?_
      refine lv_iadd hx hb dX12_isVisitor_61 ?_
      refine lv_topi (fun x_9 ex_9 => ?_)
      have bx_9 : wx_b x_9 1 4 := by rw [ex_9]; exact (wb_add (show wx_b (g_8 57 18) 0 3 by rw [show (g_8 57 18) = (z_4.1 57 18) from (by rw [eg_8, up2_n (by decide)])]; exact (show wx_b (z_4.1 57 18) 0 3 by rw [show (z_4.1 57 18) = (g_3 57 18) from (by rw [ez_4, fj_X12_isNext (by decide) (by decide) (by decide) (by decide) (by decide)])]; exact (show wx_b (g_3 57 18) 0 3 by rw [show (g_3 57 18) = (g 57 18) from (by rw [eg_3, up2_n (by decide)])]; exact b_2))) (show wx_b 1 1 1 from ⟨by decide, by decide⟩) (by decide) (by decide))
      refine wx_puti (C := RX12) (T := TX12) (N := 27) (ci := 11) (j := 18) (ty := .int) hx hb hts hi_X12 tyX12 tyX12_ok nmX12 hown hK hX hS (by decide) sh_X12_18 rfl (by decide) (hts (.fieldLink RX12 118 "SeenAgainModel" "readVisitors" "I") (by decide +kernel)) (fun _ h9 => h9) rfl (by decide +kernel) rfl rfl dX12_isVisitor_62 (fun H locs hX hS => ?_)
      obtain ⟨g_10, eg_10, hX⟩ := wx_nm hX
      refine lv_aload_n hx hb dX12_isVisitor_65 rfl (lv_at hl 0 rfl) ?_
      refine lv_bipush (v := 59) hx hb dX12_isVisitor_66 (by decide) ?_
      refine wx_callei (va_runV (As := [.int 59]) (rest := []) ⟨hx, hb, hml, hown, hts⟩ (k_X12_isSign l g_10 59 (by rw [eg_10]; exact pr_18 (wb_w bx_9 (by decide) (by decide)) (by rw [eg_8]; exact pr_n (by decide) (by decide) (by rw [ez_4]; exact pr_X12_isNext (by rw [eg_3]; exact pr_n (by decide) (by decide) hpr))))) (cwV 1 hts gX12_isVisitor_X12_isSign rfl rfl rfl (by decide +kernel) (by rw [hR]; exact ⟨Nat.le_of_ble_eq_true rfl, Nat.le_of_ble_eq_true rfl⟩)) ⟨wx_Pc.blind, wx_recv hK hX (by decide) sh_X12 rfl, (wx_Pc.pre hK hX).2⟩ rfl rfl hl.1 rfl (lv_room (Nat.le_of_ble_eq_true rfl)) dX12_isVisitor_68 ⟨Nat.zero_le _, Nat.zero_le _⟩) hS (fun H locs hX hS => ?_)
      obtain ⟨z_11, ez_11⟩ : ∃ z, z = f_X12_isSign g_10 59 := ⟨_, rfl⟩
      rw [← ez_11] at hX; rw [← ez_11]
      exact hret _ _ _ _ _ _ dX12_isVisitor_71 (by rw [ez_11]; exact nb_f_X12_isSign _ _) hX hS (by subst ez_11 eg_10 ex_9 eg_8 ex_7 ez_4 eg_3; simp only [f_X12_isVisitor, if_neg c_1, if_neg c_5])
    · have b_12 : wx_b z_4.2 0 0 := by rw [c_5]; exact ⟨by decide, by decide⟩
      refine lv_iconst (v := 0) hx hb dX12_isVisitor_36 (by decide) ?_
      exact hret _ _ _ _ _ _ dX12_isVisitor_37 rfl hX hS (by subst ez_4 eg_3; simp only [f_X12_isVisitor, if_neg c_1, if_pos c_5])
  · have b_13 : wx_b (g 57 18) 4 4 := by rw [c_1]; exact ⟨by decide, by decide⟩
    refine lv_aload_n hx hb dX12_isVisitor_8 rfl (lv_at hl 0 rfl) ?_
    refine lv_iconst (v := 3) hx hb dX12_isVisitor_9 (by decide) ?_
    refine wx_callei (va_runV (As := [.int 3]) (rest := []) ⟨hx, hb, hml, hown, hts⟩ (k_X12_fails l g 3 hpr) (cwV 1 hts gX12_isVisitor_X12_fails rfl rfl rfl (by decide +kernel) (by rw [hR]; exact ⟨Nat.le_of_ble_eq_true rfl, Nat.le_of_ble_eq_true rfl⟩)) ⟨wx_Pc.blind, wx_recv hK hX (by decide) sh_X12 rfl, (wx_Pc.pre hK hX).2⟩ rfl rfl hl.1 rfl (lv_room (Nat.le_of_ble_eq_true rfl)) dX12_isVisitor_10 ⟨Nat.zero_le _, Nat.zero_le _⟩) hS (fun H locs hX hS => ?_)
    obtain ⟨z_14, ez_14⟩ : ∃ z, z = f_X12_fails g 3 := ⟨_, rfl⟩
    rw [← ez_14] at hX; rw [← ez_14]
    exact hret _ _ _ _ _ _ dX12_isVisitor_13 (by rw [ez_14]; exact nb_f_X12_fails _ _) hX hS (by subst ez_14; simp only [f_X12_isVisitor, if_pos c_1])
set_option maxHeartbeats 4000000 in
theorem np_X12_isVisitor {g : wx_M} {a1 : Int32} (hpr : wx_PR g) : narrow .boolean (.int (f_X12_isVisitor g a1).2) = .int (f_X12_isVisitor g a1).2 := by
  by_cases c_1 : (g 57 18) = 4
  · have b_2 : wx_b (g 57 18) 4 4 := by rw [c_1]; exact ⟨by decide, by decide⟩
    obtain ⟨z_3, ez_3⟩ : ∃ z, z = f_X12_fails g 3 := ⟨_, rfl⟩
    rw [show f_X12_isVisitor g a1 = (z_3.1, z_3.2) from (by subst ez_3; simp only [f_X12_isVisitor, if_pos c_1])]
    exact (by rw [ez_3]; exact nb_f_X12_fails _ _)
  · have b_4 : wx_b (g 57 18) 0 3 := wb_neh c_1 (show wx_PR g from hpr).2.2.2.2.1 (by decide)
    obtain ⟨g_5, eg_5⟩ : ∃ z : wx_M, z = up2 g 64 (2 * (g 57 18)).toNatClampNeg a1 := ⟨_, rfl⟩
    obtain ⟨z_6, ez_6⟩ : ∃ z, z = f_X12_isNext g_5 0 99 := ⟨_, rfl⟩
    by_cases c_7 : z_6.2 = 0
    · have b_8 : wx_b z_6.2 0 0 := by rw [c_7]; exact ⟨by decide, by decide⟩
      rw [show f_X12_isVisitor g a1 = (z_6.1, 0) from (by subst ez_6 eg_5; simp only [f_X12_isVisitor, if_neg c_1, if_pos c_7])]
      exact (show narrow .boolean (.int 0) = .int 0 from rfl)
    · have b_9 : wx_b (z_6.1 57 9) 0 99 := by rw [ez_6]; exact nx_b (show wx_b 0 0 0 from ⟨by decide, by decide⟩) (show wx_b 99 99 99 from ⟨by decide, by decide⟩) (by rw [← ez_6]; exact c_7)
      obtain ⟨x_10, ex_10⟩ : ∃ z : Int32, z = (z_6.1 57 9) := ⟨_, rfl⟩
      have bx_10 : wx_b x_10 0 99 := by rw [ex_10]; exact b_9
      obtain ⟨g_11, eg_11⟩ : ∃ z : wx_M, z = up2 z_6.1 64 ((2 * (z_6.1 57 18)) + 1).toNatClampNeg x_10 := ⟨_, rfl⟩
      obtain ⟨x_12, ex_12⟩ : ∃ z : Int32, z = ((g_11 57 18) + 1) := ⟨_, rfl⟩
      have bx_12 : wx_b x_12 1 4 := by rw [ex_12]; exact (wb_add (show wx_b (g_11 57 18) 0 3 by rw [show (g_11 57 18) = (z_6.1 57 18) from (by rw [eg_11, up2_n (by decide)])]; exact (show wx_b (z_6.1 57 18) 0 3 by rw [show (z_6.1 57 18) = (g_5 57 18) from (by rw [ez_6, fj_X12_isNext (by decide) (by decide) (by decide) (by decide) (by decide)])]; exact (show wx_b (g_5 57 18) 0 3 by rw [show (g_5 57 18) = (g 57 18) from (by rw [eg_5, up2_n (by decide)])]; exact b_4))) (show wx_b 1 1 1 from ⟨by decide, by decide⟩) (by decide) (by decide))
      obtain ⟨g_13, eg_13⟩ : ∃ z : wx_M, z = up2 g_11 57 18 x_12 := ⟨_, rfl⟩
      obtain ⟨z_14, ez_14⟩ : ∃ z, z = f_X12_isSign g_13 59 := ⟨_, rfl⟩
      rw [show f_X12_isVisitor g a1 = (z_14.1, z_14.2) from (by subst ez_14 eg_13 ex_12 eg_11 ex_10 ez_6 eg_5; simp only [f_X12_isVisitor, if_neg c_1, if_neg c_7])]
      exact (by rw [ez_14]; exact nb_f_X12_isSign _ _)

set_option maxHeartbeats 4000000 in
theorem pr_X12_isVisitor {g : wx_M} {a1 : Int32} (hpr : wx_PR g) : wx_PR (f_X12_isVisitor g a1).1 := by
  by_cases c_1 : (g 57 18) = 4
  · have b_2 : wx_b (g 57 18) 4 4 := by rw [c_1]; exact ⟨by decide, by decide⟩
    obtain ⟨z_3, ez_3⟩ : ∃ z, z = f_X12_fails g 3 := ⟨_, rfl⟩
    rw [show f_X12_isVisitor g a1 = (z_3.1, z_3.2) from (by subst ez_3; simp only [f_X12_isVisitor, if_pos c_1])]
    exact (by rw [ez_3]; exact pr_X12_fails hpr)
  · have b_4 : wx_b (g 57 18) 0 3 := wb_neh c_1 (show wx_PR g from hpr).2.2.2.2.1 (by decide)
    obtain ⟨g_5, eg_5⟩ : ∃ z : wx_M, z = up2 g 64 (2 * (g 57 18)).toNatClampNeg a1 := ⟨_, rfl⟩
    obtain ⟨z_6, ez_6⟩ : ∃ z, z = f_X12_isNext g_5 0 99 := ⟨_, rfl⟩
    by_cases c_7 : z_6.2 = 0
    · have b_8 : wx_b z_6.2 0 0 := by rw [c_7]; exact ⟨by decide, by decide⟩
      rw [show f_X12_isVisitor g a1 = (z_6.1, 0) from (by subst ez_6 eg_5; simp only [f_X12_isVisitor, if_neg c_1, if_pos c_7])]
      exact (by rw [ez_6]; exact pr_X12_isNext (by rw [eg_5]; exact pr_n (by decide) (by decide) hpr))
    · have b_9 : wx_b (z_6.1 57 9) 0 99 := by rw [ez_6]; exact nx_b (show wx_b 0 0 0 from ⟨by decide, by decide⟩) (show wx_b 99 99 99 from ⟨by decide, by decide⟩) (by rw [← ez_6]; exact c_7)
      obtain ⟨x_10, ex_10⟩ : ∃ z : Int32, z = (z_6.1 57 9) := ⟨_, rfl⟩
      have bx_10 : wx_b x_10 0 99 := by rw [ex_10]; exact b_9
      obtain ⟨g_11, eg_11⟩ : ∃ z : wx_M, z = up2 z_6.1 64 ((2 * (z_6.1 57 18)) + 1).toNatClampNeg x_10 := ⟨_, rfl⟩
      obtain ⟨x_12, ex_12⟩ : ∃ z : Int32, z = ((g_11 57 18) + 1) := ⟨_, rfl⟩
      have bx_12 : wx_b x_12 1 4 := by rw [ex_12]; exact (wb_add (show wx_b (g_11 57 18) 0 3 by rw [show (g_11 57 18) = (z_6.1 57 18) from (by rw [eg_11, up2_n (by decide)])]; exact (show wx_b (z_6.1 57 18) 0 3 by rw [show (z_6.1 57 18) = (g_5 57 18) from (by rw [ez_6, fj_X12_isNext (by decide) (by decide) (by decide) (by decide) (by decide)])]; exact (show wx_b (g_5 57 18) 0 3 by rw [show (g_5 57 18) = (g 57 18) from (by rw [eg_5, up2_n (by decide)])]; exact b_4))) (show wx_b 1 1 1 from ⟨by decide, by decide⟩) (by decide) (by decide))
      obtain ⟨g_13, eg_13⟩ : ∃ z : wx_M, z = up2 g_11 57 18 x_12 := ⟨_, rfl⟩
      obtain ⟨z_14, ez_14⟩ : ∃ z, z = f_X12_isSign g_13 59 := ⟨_, rfl⟩
      rw [show f_X12_isVisitor g a1 = (z_14.1, z_14.2) from (by subst ez_14 eg_13 ex_12 eg_11 ex_10 ez_6 eg_5; simp only [f_X12_isVisitor, if_neg c_1, if_neg c_7])]
      exact (by rw [ez_14]; exact pr_X12_isSign (by rw [eg_13]; exact pr_18 (wb_w bx_12 (by decide) (by decide)) (by rw [eg_11]; exact pr_n (by decide) (by decide) (by rw [ez_6]; exact pr_X12_isNext (by rw [eg_5]; exact pr_n (by decide) (by decide) hpr)))))
set_option maxHeartbeats 4000000 in
theorem pg_X12_isVisitor {g : wx_M} {a1 : Int32} (hpr : wx_PR g) : (g 57 6).toNatClampNeg ≤ ((f_X12_isVisitor g a1).1 57 6).toNatClampNeg := by
  by_cases c_1 : (g 57 18) = 4
  · have b_2 : wx_b (g 57 18) 4 4 := by rw [c_1]; exact ⟨by decide, by decide⟩
    obtain ⟨z_3, ez_3⟩ : ∃ z, z = f_X12_fails g 3 := ⟨_, rfl⟩
    rw [show f_X12_isVisitor g a1 = (z_3.1, z_3.2) from (by subst ez_3; simp only [f_X12_isVisitor, if_pos c_1])]
    exact (Nat.le_trans (Nat.le_refl _) (show (g 57 6).toNatClampNeg ≤ (z_3.1 57 6).toNatClampNeg from by rw [ez_3]; exact pg_X12_fails hpr))
  · have b_4 : wx_b (g 57 18) 0 3 := wb_neh c_1 (show wx_PR g from hpr).2.2.2.2.1 (by decide)
    obtain ⟨g_5, eg_5⟩ : ∃ z : wx_M, z = up2 g 64 (2 * (g 57 18)).toNatClampNeg a1 := ⟨_, rfl⟩
    obtain ⟨z_6, ez_6⟩ : ∃ z, z = f_X12_isNext g_5 0 99 := ⟨_, rfl⟩
    by_cases c_7 : z_6.2 = 0
    · have b_8 : wx_b z_6.2 0 0 := by rw [c_7]; exact ⟨by decide, by decide⟩
      rw [show f_X12_isVisitor g a1 = (z_6.1, 0) from (by subst ez_6 eg_5; simp only [f_X12_isVisitor, if_neg c_1, if_pos c_7])]
      exact (Nat.le_trans (Nat.le_trans (Nat.le_refl _) (Nat.le_of_eq (show (g 57 6).toNatClampNeg = (g_5 57 6).toNatClampNeg from by rw [eg_5, up2_n (by decide)]))) (show (g_5 57 6).toNatClampNeg ≤ (z_6.1 57 6).toNatClampNeg from by rw [ez_6]; exact pg_X12_isNext (by rw [eg_5]; exact pr_n (by decide) (by decide) hpr)))
    · have b_9 : wx_b (z_6.1 57 9) 0 99 := by rw [ez_6]; exact nx_b (show wx_b 0 0 0 from ⟨by decide, by decide⟩) (show wx_b 99 99 99 from ⟨by decide, by decide⟩) (by rw [← ez_6]; exact c_7)
      obtain ⟨x_10, ex_10⟩ : ∃ z : Int32, z = (z_6.1 57 9) := ⟨_, rfl⟩
      have bx_10 : wx_b x_10 0 99 := by rw [ex_10]; exact b_9
      obtain ⟨g_11, eg_11⟩ : ∃ z : wx_M, z = up2 z_6.1 64 ((2 * (z_6.1 57 18)) + 1).toNatClampNeg x_10 := ⟨_, rfl⟩
      obtain ⟨x_12, ex_12⟩ : ∃ z : Int32, z = ((g_11 57 18) + 1) := ⟨_, rfl⟩
      have bx_12 : wx_b x_12 1 4 := by rw [ex_12]; exact (wb_add (show wx_b (g_11 57 18) 0 3 by rw [show (g_11 57 18) = (z_6.1 57 18) from (by rw [eg_11, up2_n (by decide)])]; exact (show wx_b (z_6.1 57 18) 0 3 by rw [show (z_6.1 57 18) = (g_5 57 18) from (by rw [ez_6, fj_X12_isNext (by decide) (by decide) (by decide) (by decide) (by decide)])]; exact (show wx_b (g_5 57 18) 0 3 by rw [show (g_5 57 18) = (g 57 18) from (by rw [eg_5, up2_n (by decide)])]; exact b_4))) (show wx_b 1 1 1 from ⟨by decide, by decide⟩) (by decide) (by decide))
      obtain ⟨g_13, eg_13⟩ : ∃ z : wx_M, z = up2 g_11 57 18 x_12 := ⟨_, rfl⟩
      obtain ⟨z_14, ez_14⟩ : ∃ z, z = f_X12_isSign g_13 59 := ⟨_, rfl⟩
      rw [show f_X12_isVisitor g a1 = (z_14.1, z_14.2) from (by subst ez_14 eg_13 ex_12 eg_11 ex_10 ez_6 eg_5; simp only [f_X12_isVisitor, if_neg c_1, if_neg c_7])]
      exact (Nat.le_trans (Nat.le_trans (Nat.le_trans (Nat.le_trans (Nat.le_trans (Nat.le_refl _) (Nat.le_of_eq (show (g 57 6).toNatClampNeg = (g_5 57 6).toNatClampNeg from by rw [eg_5, up2_n (by decide)]))) (show (g_5 57 6).toNatClampNeg ≤ (z_6.1 57 6).toNatClampNeg from by rw [ez_6]; exact pg_X12_isNext (by rw [eg_5]; exact pr_n (by decide) (by decide) hpr))) (Nat.le_of_eq (show (z_6.1 57 6).toNatClampNeg = (g_11 57 6).toNatClampNeg from by rw [eg_11, up2_n (by decide)]))) (Nat.le_of_eq (show (g_11 57 6).toNatClampNeg = (g_13 57 6).toNatClampNeg from by rw [eg_13, up2_sn (by decide)]))) (show (g_13 57 6).toNatClampNeg ≤ (z_14.1 57 6).toNatClampNeg from by rw [ez_14]; exact pg_X12_isSign (by rw [eg_13]; exact pr_18 (wb_w bx_12 (by decide) (by decide)) (by rw [eg_11]; exact pr_n (by decide) (by decide) (by rw [ez_6]; exact pr_X12_isNext (by rw [eg_5]; exact pr_n (by decide) (by decide) hpr))))))

