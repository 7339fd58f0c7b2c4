def r_X12_priceOf (g : wx_M) (a1 : Int32) (a2 : Int32) (a3 : Int32) : Int32 :=
  if (r_X12_has (g 65 (51 : Int32).toNatClampNeg) a3) = 0 then
    let x_3 := (((g 65 (2 : Int32).toNatClampNeg) + (r_X12_bits g (r_X12_heldAt g a2 a3))) - 0)
    if 0 ≤ x_3 then
      let x_6 := (g 65 (43 + a1).toNatClampNeg)
      if x_6 = 1 then
        x_3
      else
        if x_6 = 2 then
          (x_3 + 1)
        else
          if x_6 = 3 then
            (x_3 / 2)
          else
            if x_6 = 4 then
              if x_3 ≤ 0 then
                0
              else
                (x_3 - 1)
            else
              if (g 65 (3 : Int32).toNatClampNeg) ≤ 0 then
                if x_3 = 0 then
                  0
                else
                  (x_3 - 1)
              else
                if (r_X12_was g 0 a3) = a2 then
                  0
                else
                  if x_3 = 0 then
                    0
                  else
                    (x_3 - 1)
    else
      let x_29 := (g 65 (43 + a1).toNatClampNeg)
      if x_29 = 1 then
        0
      else
        if x_29 = 2 then
          (0 + 1)
        else
          if x_29 = 3 then
            (0 / 2)
          else
            if x_29 = 4 then
              0
            else
              if (g 65 (3 : Int32).toNatClampNeg) ≤ 0 then
                0
              else
                if (r_X12_was g 0 a3) = a2 then
                  0
                else
                  0
  else
    let x_42 := (((g 65 (2 : Int32).toNatClampNeg) + (r_X12_bits g (r_X12_heldAt g a2 a3))) - 2)
    if 0 ≤ x_42 then
      let x_45 := (g 65 (43 + a1).toNatClampNeg)
      if x_45 = 1 then
        x_42
      else
        if x_45 = 2 then
          (x_42 + 1)
        else
          if x_45 = 3 then
            (x_42 / 2)
          else
            if x_45 = 4 then
              if x_42 ≤ 0 then
                0
              else
                (x_42 - 1)
            else
              if (g 65 (3 : Int32).toNatClampNeg) ≤ 0 then
                if x_42 = 0 then
                  0
                else
                  (x_42 - 1)
              else
                if (r_X12_was g 0 a3) = a2 then
                  0
                else
                  if x_42 = 0 then
                    0
                  else
                    (x_42 - 1)
    else
      let x_68 := (g 65 (43 + a1).toNatClampNeg)
      if x_68 = 1 then
        0
      else
        if x_68 = 2 then
          (0 + 1)
        else
          if x_68 = 3 then
            (0 / 2)
          else
            if x_68 = 4 then
              0
            else
              if (g 65 (3 : Int32).toNatClampNeg) ≤ 0 then
                0
              else
                if (r_X12_was g 0 a3) = a2 then
                  0
                else
                  0
set_option maxHeartbeats 4000000 in
set_option maxRecDepth 100000 in
theorem k_X12_priceOf (l : Launch) {D : va_G} {cy : Nat → ClassId} {ad : Nat → Nat} {B0 : Nat} {f : wx_F} {P : va_W} (g : wx_M) (a1 : Int32) (a2 : Int32) (a3 : Int32) (b1 : wx_b a1 0 3) (b2 : wx_b a2 0 5) (b3 : wx_b a3 0 7) (hm : wx_MB g) : Met l yX12_priceOf wsX12_priceOf ({ frames := 1, cells := 0, slots := 0, locals := 22 } : Room) (wx_Pc D cy ad B0 f P g [.ref (ad 57), .int a1, .int a2, .int a3]) (QcRead (r_X12_priceOf g a1 a2 a3)) 0 0 (fun _ => False) := by
  refine wx_enterR (cc := cX12_priceOf) (maxL := 5) (ty := .int) (own := RX12) (lv := [(0, .ref (ad 57)), (1, .int a1), (2, .int a2), (3, .int a3)]) (by decide) rfl rfl (Nat.le_of_ble_eq_true rfl) rfl ?_
  intro p e R s m args below meth c ls Qm hx hb hml hown hts hK hX hR hret hl
  have hi_X12 : ∀ w ∈ wsX120, w ∈ wsX12_priceOf := by decide +kernel
  refine lv_aload_n hx hb dX12_priceOf_0 rfl (lv_at hl 0 rfl) ?_
  refine wx_getr (t := 65) (C := RX12) (T := TX12) (N := 27) (ci := 11) (j := 20) hx hb hts hi_X12 hown hK hX (by decide) sh_X12_20 rfl (by decide) (hts (.fieldLink RX12 31 "SeenAgainModel" "now" "[I") (by decide +kernel)) (fun _ h9 => h9) dX12_priceOf_1 ?_
  refine lv_iconst (v := 2) hx hb dX12_priceOf_4 (by decide) ?_
  refine wx_iald hx hb hK hX (by decide) sa_65 (wb_in (show wx_b 2 2 2 from ⟨by decide, by decide⟩) (by decide) (by decide)) dX12_priceOf_5 ?_
  refine lv_aload_n hx hb dX12_priceOf_6 rfl (lv_at hl 0 rfl) ?_
  refine lv_iload_n hx hb dX12_priceOf_7 rfl (lv_at hl 2 rfl) ?_
  refine lv_iload_n hx hb dX12_priceOf_8 rfl (lv_at hl 3 rfl) ?_
  refine wx_callr (va_runV (As := [.int a2, .int a3]) (rest := [.int (g 65 (2 : Int32).toNatClampNeg)]) ⟨hx, hb, hml, hown, hts⟩ (k_X12_heldAt l g a2 a3 b2 b3) (cwV 2 hts gX12_priceOf_X12_heldAt rfl rfl rfl (by decide +kernel) (by rw [hR]; exact ⟨Nat.le_of_ble_eq_true rfl, Nat.le_of_ble_eq_true rfl⟩)) ⟨wx_Pc.blind, wx_recv hK hX (by decide) sh_X12 rfl, (wx_Pc.pre hK hX).2⟩ rfl rfl hl.1 rfl (lv_room (Nat.le_of_ble_eq_true rfl)) dX12_priceOf_9 ⟨Nat.zero_le _, Nat.zero_le _⟩) ?_
  refine wx_callr (va_runS (As := [.int (r_X12_heldAt g a2 a3)]) (rest := [.int (g 65 (2 : Int32).toNatClampNeg)]) ⟨hx, hb, hml, hown, hts⟩ (k_X12_bits l g (r_X12_heldAt g a2 a3)) (va_cwS 1 hts gX12_priceOf_X12_bits rfl rfl rfl (by decide +kernel) (by rw [hR]; exact ⟨Nat.le_of_ble_eq_true rfl, Nat.le_of_ble_eq_true rfl⟩)) (wx_Pc.pre hK hX) rfl rfl hl.1 rfl (lv_room (Nat.le_of_ble_eq_true rfl)) dX12_priceOf_12 ⟨Nat.zero_le _, Nat.zero_le _⟩) ?_
  refine lv_iadd hx hb dX12_priceOf_15 ?_
  refine lv_aload_n hx hb dX12_priceOf_16 rfl (lv_at hl 0 rfl) ?_
  refine wx_getr (t := 65) (C := RX12) (T := TX12) (N := 27) (ci := 11) (j := 20) hx hb hts hi_X12 hown hK hX (by decide) sh_X12_20 rfl (by decide) (hts (.fieldLink RX12 31 "SeenAgainModel" "now" "[I") (by decide +kernel)) (fun _ h9 => h9) dX12_priceOf_17 ?_
  refine lv_bipush (v := 51) hx hb dX12_priceOf_20 (by decide) ?_
  refine wx_iald hx hb hK hX (by decide) sa_65 (wb_in (show wx_b 51 51 51 from ⟨by decide, by decide⟩) (by decide) (by decide)) dX12_priceOf_22 ?_
  refine lv_iload_n hx hb dX12_priceOf_23 rfl (lv_at hl 3 rfl) ?_
  refine wx_callr (va_runS (As := [.int (g 65 (51 : Int32).toNatClampNeg), .int a3]) (rest := [.int ((g 65 (2 : Int32).toNatClampNeg) + (r_X12_bits g (r_X12_heldAt g a2 a3)))]) ⟨hx, hb, hml, hown, hts⟩ (k_X12_has l g (g 65 (51 : Int32).toNatClampNeg) a3) (va_cwS 2 hts gX12_priceOf_X12_has rfl rfl rfl (by decide +kernel) (by rw [hR]; exact ⟨Nat.le_of_ble_eq_true rfl, Nat.le_of_ble_eq_true rfl⟩)) (wx_Pc.pre hK hX) rfl rfl hl.1 rfl (lv_room (Nat.le_of_ble_eq_true rfl)) dX12_priceOf_24 ⟨Nat.zero_le _, Nat.zero_le _⟩) ?_
  refine lv_if_eq (tgt := 34) hx hb dX12_priceOf_27 (by decide) (fun c_1 => ?_) (fun c_1 => ?_)
  · have b_2 : wx_b (r_X12_has (g 65 (51 : Int32).toNatClampNeg) a3) 0 0 := by rw [c_1]; exact ⟨by decide, by decide⟩
    refine lv_iconst (v := 0) hx hb dX12_priceOf_34 (by decide) ?_
    refine lv_isub hx hb dX12_priceOf_35 ?_
    refine lv_topi (fun x_3 ex_3 => ?_)
    refine lv_istore (lv' := [(4, .int x_3), (0, .ref (ad 57)), (1, .int a1), (2, .int a2), (3, .int a3)]) hx hb dX12_priceOf_36 hl (by decide) rfl (fun ls hl => ?_)
    refine lv_iload hx hb dX12_priceOf_38 (lv_at hl 0 rfl) ?_
    refine lv_if_ge (tgt := 47) hx hb dX12_priceOf_40 (by decide) (fun c_4 => ?_) (fun c_4 => ?_)
    · have b_5 : wx_b x_3 0 2147483647 := wb_ge c_4 (wb_any _) (show wx_b 0 0 0 from ⟨by decide, by decide⟩) (by decide) (by decide)
      refine lv_iload hx hb dX12_priceOf_47 (lv_at hl 0 rfl) ?_
      refine lv_istore (lv' := [(4, .int x_3), (0, .ref (ad 57)), (1, .int a1), (2, .int a2), (3, .int a3)]) hx hb dX12_priceOf_49 hl (by decide) rfl (fun ls hl => ?_)
      refine lv_aload_n hx hb dX12_priceOf_51 rfl (lv_at hl 1 rfl) ?_
      refine wx_getr (t := 65) (C := RX12) (T := TX12) (N := 27) (ci := 11) (j := 20) hx hb hts hi_X12 hown hK hX (by decide) sh_X12_20 rfl (by decide) (hts (.fieldLink RX12 31 "SeenAgainModel" "now" "[I") (by decide +kernel)) (fun _ h9 => h9) dX12_priceOf_52 ?_
      refine lv_bipush (v := 43) hx hb dX12_priceOf_55 (by decide) ?_
      refine lv_iload_n hx hb dX12_priceOf_57 rfl (lv_at hl 2 rfl) ?_
      refine lv_iadd hx hb dX12_priceOf_58 ?_
      refine wx_iald hx hb hK hX (by decide) sa_65 (wb_in (wb_add (show wx_b 43 43 43 from ⟨by decide, by decide⟩) b1 (by decide) (by decide)) (by decide) (by decide)) dX12_priceOf_59 ?_
      refine lv_topi (fun x_6 ex_6 => ?_)
      by_cases c_7 : x_6 = 1
      · have b_8 : wx_b x_6 1 1 := by rw [c_7]; exact ⟨by decide, by decide⟩
        refine lv_tableIn (tgt := 92) hx hb dX12_priceOf_60 (by rw [c_7]; decide) (by rw [c_7]; decide) (by rw [c_7]; rfl) (by decide) ?_
        refine lv_iload hx hb dX12_priceOf_92 (lv_at hl 0 rfl) ?_
        exact hret _ _ _ dX12_priceOf_94 rfl (by subst ex_6 ex_3; simp only [r_X12_priceOf, if_pos c_1, if_pos c_4, if_pos c_7])
      · by_cases c_9 : x_6 = 2
        · have b_10 : wx_b x_6 2 2 := by rw [c_9]; exact ⟨by decide, by decide⟩
          refine lv_tableIn (tgt := 95) hx hb dX12_priceOf_60 (by rw [c_9]; decide) (by rw [c_9]; decide) (by rw [c_9]; rfl) (by decide) ?_
          refine lv_iload hx hb dX12_priceOf_95 (lv_at hl 0 rfl) ?_
          refine lv_iconst (v := 1) hx hb dX12_priceOf_97 (by decide) ?_
          refine lv_iadd hx hb dX12_priceOf_98 ?_
          exact hret _ _ _ dX12_priceOf_99 rfl (by subst ex_6 ex_3; simp only [r_X12_priceOf, if_pos c_1, if_pos c_4, if_neg c_7, if_pos c_9])
        · by_cases c_11 : x_6 = 3
          · have b_12 : wx_b x_6 3 3 := by rw [c_11]; exact ⟨by decide, by decide⟩
            refine lv_tableIn (tgt := 100) hx hb dX12_priceOf_60 (by rw [c_11]; decide) (by rw [c_11]; decide) (by rw [c_11]; rfl) (by decide) ?_
            refine lv_iload hx hb dX12_priceOf_100 (lv_at hl 0 rfl) ?_
            refine lv_iconst (v := 2) hx hb dX12_priceOf_102 (by decide) ?_
            refine lv_idiv hx hb dX12_priceOf_103 (by decide) ?_
            exact hret _ _ _ dX12_priceOf_104 rfl (by subst ex_6 ex_3; simp only [r_X12_priceOf, if_pos c_1, if_pos c_4, if_neg c_7, if_neg c_9, if_pos c_11])
          · by_cases c_13 : x_6 = 4
            · have b_14 : wx_b x_6 4 4 := by rw [c_13]; exact ⟨by decide, by decide⟩
              refine lv_tableIn (tgt := 105) hx hb dX12_priceOf_60 (by rw [c_13]; decide) (by rw [c_13]; decide) (by rw [c_13]; rfl) (by decide) ?_
              refine lv_iload hx hb dX12_priceOf_105 (lv_at hl 0 rfl) ?_
              refine lv_if_le (tgt := 117) hx hb dX12_priceOf_107 (by decide) (fun c_15 => ?_) (fun c_15 => ?_)
              · have b_16 : wx_b x_3 0 0 := wb_le c_15 b_5 (show wx_b 0 0 0 from ⟨by decide, by decide⟩) (by decide) (by decide)
                refine lv_iconst (v := 0) hx hb dX12_priceOf_117 (by decide) ?_
                exact hret _ _ _ dX12_priceOf_118 rfl (by subst ex_6 ex_3; simp only [r_X12_priceOf, if_pos c_1, if_pos c_4, if_neg c_7, if_neg c_9, if_neg c_11, if_pos c_13, if_pos c_15])
              · have b_17 : wx_b x_3 1 2147483647 := wb_gt (wb_nle c_15) b_5 (show wx_b 0 0 0 from ⟨by decide, by decide⟩) (by decide) (by decide)
                refine lv_iload hx hb dX12_priceOf_110 (lv_at hl 0 rfl) ?_
                refine lv_iconst (v := 1) hx hb dX12_priceOf_112 (by decide) ?_
                refine lv_isub hx hb dX12_priceOf_113 ?_
                refine lv_goto (tgt := 118) hx hb dX12_priceOf_114 (by decide) ?_
                exact hret _ _ _ dX12_priceOf_118 rfl (by subst ex_6 ex_3; simp only [r_X12_priceOf, if_pos c_1, if_pos c_4, if_neg c_7, if_neg c_9, if_neg c_11, if_pos c_13, if_neg c_15])
            · refine lv_tableOut (tgt := 119) hx hb dX12_priceOf_60 (by have q0 := lv_neT (a := 1) c_7 (by decide); have q1 := lv_neT (a := 2) c_9 (by decide); have q2 := lv_neT (a := 3) c_11 (by decide); have q3 := lv_neT (a := 4) c_13 (by decide); omega) (by decide) ?_
              refine lv_aload_n hx hb dX12_priceOf_119 rfl (lv_at hl 1 rfl) ?_
              refine wx_getr (t := 65) (C := RX12) (T := TX12) (N := 27) (ci := 11) (j := 20) hx hb hts hi_X12 hown hK hX (by decide) sh_X12_20 rfl (by decide) (hts (.fieldLink RX12 31 "SeenAgainModel" "now" "[I") (by decide +kernel)) (fun _ h9 => h9) dX12_priceOf_120 ?_
              refine lv_iconst (v := 3) hx hb dX12_priceOf_123 (by decide) ?_
              refine wx_iald hx hb hK hX (by decide) sa_65 (wb_in (show wx_b 3 3 3 from ⟨by decide, by decide⟩) (by decide) (by decide)) dX12_priceOf_124 ?_
              refine lv_if_le (tgt := 138) hx hb dX12_priceOf_125 (by decide) (fun c_18 => ?_) (fun c_18 => ?_)
              · have b_19 : wx_b (g 65 (3 : Int32).toNatClampNeg) 0 0 := wb_le c_18 hm.2.1 (show wx_b 0 0 0 from ⟨by decide, by decide⟩) (by decide) (by decide)
                refine lv_iload hx hb dX12_priceOf_138 (lv_at hl 0 rfl) ?_
                refine lv_if_ne (tgt := 147) hx hb dX12_priceOf_140 (by decide) (fun c_20 => ?_) (fun c_20 => ?_)
                · have b_21 : wx_b x_3 1 2147483647 := wb_nel c_20 b_5 (by decide)
                  refine lv_iload hx hb dX12_priceOf_147 (lv_at hl 0 rfl) ?_
                  refine lv_iconst (v := 1) hx hb dX12_priceOf_149 (by decide) ?_
                  refine lv_isub hx hb dX12_priceOf_150 ?_
                  exact hret _ _ _ dX12_priceOf_151 rfl (by subst ex_6 ex_3; simp only [r_X12_priceOf, if_pos c_1, if_pos c_4, if_neg c_7, if_neg c_9, if_neg c_11, if_neg c_13, if_pos c_18, if_neg c_20])
                · have b_22 : wx_b x_3 0 0 := by rw [c_20]; exact ⟨by decide, by decide⟩
                  refine lv_iconst (v := 0) hx hb dX12_priceOf_143 (by decide) ?_
                  refine lv_goto (tgt := 151) hx hb dX12_priceOf_144 (by decide) ?_
                  exact hret _ _ _ dX12_priceOf_151 rfl (by subst ex_6 ex_3; simp only [r_X12_priceOf, if_pos c_1, if_pos c_4, if_neg c_7, if_neg c_9, if_neg c_11, if_neg c_13, if_pos c_18, if_pos c_20])
              · have b_23 : wx_b (g 65 (3 : Int32).toNatClampNeg) 1 4 := wb_gt (wb_nle c_18) hm.2.1 (show wx_b 0 0 0 from ⟨by decide, by decide⟩) (by decide) (by decide)
                refine lv_aload_n hx hb dX12_priceOf_128 rfl (lv_at hl 1 rfl) ?_
                refine lv_iconst (v := 0) hx hb dX12_priceOf_129 (by decide) ?_
                refine lv_iload_n hx hb dX12_priceOf_130 rfl (lv_at hl 4 rfl) ?_
                refine wx_callr (va_runV (As := [.int 0, .int a3]) (rest := []) ⟨hx, hb, hml, hown, hts⟩ (k_X12_was l g 0 a3 (wb_w (show wx_b 0 0 0 from ⟨by decide, by decide⟩) (by decide) (by decide)) b3) (cwV 2 hts gX12_priceOf_X12_was rfl rfl rfl (by decide +kernel) (by rw [hR]; exact ⟨Nat.le_of_ble_eq_true rfl, Nat.le_of_ble_eq_true rfl⟩)) ⟨wx_Pc.blind, wx_recv hK hX (by decide) sh_X12 rfl, (wx_Pc.pre hK hX).2⟩ rfl rfl hl.1 rfl (lv_room (Nat.le_of_ble_eq_true rfl)) dX12_priceOf_131 ⟨Nat.zero_le _, Nat.zero_le _⟩) ?_
                refine lv_iload_n hx hb dX12_priceOf_134 rfl (lv_at hl 3 rfl) ?_
                refine lv_icmp_eq (tgt := 143) hx hb dX12_priceOf_135 (by decide) (fun c_24 => ?_) (fun c_24 => ?_)
                · refine lv_iconst (v := 0) hx hb dX12_priceOf_143 (by decide) ?_
                  refine lv_goto (tgt := 151) hx hb dX12_priceOf_144 (by decide) ?_
                  exact hret _ _ _ dX12_priceOf_151 rfl (by subst ex_6 ex_3; simp only [r_X12_priceOf, if_pos c_1, if_pos c_4, if_neg c_7, if_neg c_9, if_neg c_11, if_neg c_13, if_neg c_18, if_pos c_24])
                · refine lv_iload hx hb dX12_priceOf_138 (lv_at hl 0 rfl) ?_
                  refine lv_if_ne (tgt := 147) hx hb dX12_priceOf_140 (by decide) (fun c_25 => ?_) (fun c_25 => ?_)
                  · have b_26 : wx_b x_3 1 2147483647 := wb_nel c_25 b_5 (by decide)
                    refine lv_iload hx hb dX12_priceOf_147 (lv_at hl 0 rfl) ?_
                    refine lv_iconst (v := 1) hx hb dX12_priceOf_149 (by decide) ?_
                    refine lv_isub hx hb dX12_priceOf_150 ?_
                    exact hret _ _ _ dX12_priceOf_151 rfl (by subst ex_6 ex_3; simp only [r_X12_priceOf, if_pos c_1, if_pos c_4, if_neg c_7, if_neg c_9, if_neg c_11, if_neg c_13, if_neg c_18, if_neg c_24, if_neg c_25])
                  · have b_27 : wx_b x_3 0 0 := by rw [c_25]; exact ⟨by decide, by decide⟩
                    refine lv_iconst (v := 0) hx hb dX12_priceOf_143 (by decide) ?_
                    refine lv_goto (tgt := 151) hx hb dX12_priceOf_144 (by decide) ?_
                    exact hret _ _ _ dX12_priceOf_151 rfl (by subst ex_6 ex_3; simp only [r_X12_priceOf, if_pos c_1, if_pos c_4, if_neg c_7, if_neg c_9, if_neg c_11, if_neg c_13, if_neg c_18, if_neg c_24, if_pos c_25])
    · have b_28 : wx_b x_3 (-2147483648) (-1) := wb_lt (wb_nle c_4) (wb_any _) (show wx_b 0 0 0 from ⟨by decide, by decide⟩) (by decide) (by decide)
      refine lv_iconst (v := 0) hx hb dX12_priceOf_43 (by decide) ?_
      refine lv_goto (tgt := 49) hx hb dX12_priceOf_44 (by decide) ?_
      refine lv_istore (lv' := [(4, .int 0), (0, .ref (ad 57)), (1, .int a1), (2, .int a2), (3, .int a3)]) hx hb dX12_priceOf_49 hl (by decide) rfl (fun ls hl => ?_)
      refine lv_aload_n hx hb dX12_priceOf_51 rfl (lv_at hl 1 rfl) ?_
      refine wx_getr (t := 65) (C := RX12) (T := TX12) (N := 27) (ci := 11) (j := 20) hx hb hts hi_X12 hown hK hX (by decide) sh_X12_20 rfl (by decide) (hts (.fieldLink RX12 31 "SeenAgainModel" "now" "[I") (by decide +kernel)) (fun _ h9 => h9) dX12_priceOf_52 ?_
      refine lv_bipush (v := 43) hx hb dX12_priceOf_55 (by decide) ?_
      refine lv_iload_n hx hb dX12_priceOf_57 rfl (lv_at hl 2 rfl) ?_
      refine lv_iadd hx hb dX12_priceOf_58 ?_
      refine wx_iald hx hb hK hX (by decide) sa_65 (wb_in (wb_add (show wx_b 43 43 43 from ⟨by decide, by decide⟩) b1 (by decide) (by decide)) (by decide) (by decide)) dX12_priceOf_59 ?_
      refine lv_topi (fun x_29 ex_29 => ?_)
      by_cases c_30 : x_29 = 1
      · have b_31 : wx_b x_29 1 1 := by rw [c_30]; exact ⟨by decide, by decide⟩
        refine lv_tableIn (tgt := 92) hx hb dX12_priceOf_60 (by rw [c_30]; decide) (by rw [c_30]; decide) (by rw [c_30]; rfl) (by decide) ?_
        refine lv_iload hx hb dX12_priceOf_92 (lv_at hl 0 rfl) ?_
        exact hret _ _ _ dX12_priceOf_94 rfl (by subst ex_29 ex_3; simp only [r_X12_priceOf, if_pos c_1, if_neg c_4, if_pos c_30])
      · by_cases c_32 : x_29 = 2
        · have b_33 : wx_b x_29 2 2 := by rw [c_32]; exact ⟨by decide, by decide⟩
          refine lv_tableIn (tgt := 95) hx hb dX12_priceOf_60 (by rw [c_32]; decide) (by rw [c_32]; decide) (by rw [c_32]; rfl) (by decide) ?_
          refine lv_iload hx hb dX12_priceOf_95 (lv_at hl 0 rfl) ?_
          refine lv_iconst (v := 1) hx hb dX12_priceOf_97 (by decide) ?_
          refine lv_iadd hx hb dX12_priceOf_98 ?_
          exact hret _ _ _ dX12_priceOf_99 rfl (by subst ex_29 ex_3; simp only [r_X12_priceOf, if_pos c_1, if_neg c_4, if_neg c_30, if_pos c_32])
        · by_cases c_34 : x_29 = 3
          · have b_35 : wx_b x_29 3 3 := by rw [c_34]; exact ⟨by decide, by decide⟩
            refine lv_tableIn (tgt := 100) hx hb dX12_priceOf_60 (by rw [c_34]; decide) (by rw [c_34]; decide) (by rw [c_34]; rfl) (by decide) ?_
            refine lv_iload hx hb dX12_priceOf_100 (lv_at hl 0 rfl) ?_
            refine lv_iconst (v := 2) hx hb dX12_priceOf_102 (by decide) ?_
            refine lv_idiv hx hb dX12_priceOf_103 (by decide) ?_
            exact hret _ _ _ dX12_priceOf_104 rfl (by subst ex_29 ex_3; simp only [r_X12_priceOf, if_pos c_1, if_neg c_4, if_neg c_30, if_neg c_32, if_pos c_34])
          · by_cases c_36 : x_29 = 4
            · have b_37 : wx_b x_29 4 4 := by rw [c_36]; exact ⟨by decide, by decide⟩
              refine lv_tableIn (tgt := 105) hx hb dX12_priceOf_60 (by rw [c_36]; decide) (by rw [c_36]; decide) (by rw [c_36]; rfl) (by decide) ?_
              refine lv_iload hx hb dX12_priceOf_105 (lv_at hl 0 rfl) ?_
              refine lv_if_le (tgt := 117) hx hb dX12_priceOf_107 (by decide) (fun _ => ?_) (fun c9 => absurd c9 (by decide))
              refine lv_iconst (v := 0) hx hb dX12_priceOf_117 (by decide) ?_
              exact hret _ _ _ dX12_priceOf_118 rfl (by subst ex_29 ex_3; simp only [r_X12_priceOf, if_pos c_1, if_neg c_4, if_neg c_30, if_neg c_32, if_neg c_34, if_pos c_36])
            · refine lv_tableOut (tgt := 119) hx hb dX12_priceOf_60 (by have q0 := lv_neT (a := 1) c_30 (by decide); have q1 := lv_neT (a := 2) c_32 (by decide); have q2 := lv_neT (a := 3) c_34 (by decide); have q3 := lv_neT (a := 4) c_36 (by decide); omega) (by decide) ?_
              refine lv_aload_n hx hb dX12_priceOf_119 rfl (lv_at hl 1 rfl) ?_
              refine wx_getr (t := 65) (C := RX12) (T := TX12) (N := 27) (ci := 11) (j := 20) hx hb hts hi_X12 hown hK hX (by decide) sh_X12_20 rfl (by decide) (hts (.fieldLink RX12 31 "SeenAgainModel" "now" "[I") (by decide +kernel)) (fun _ h9 => h9) dX12_priceOf_120 ?_
              refine lv_iconst (v := 3) hx hb dX12_priceOf_123 (by decide) ?_
              refine wx_iald hx hb hK hX (by decide) sa_65 (wb_in (show wx_b 3 3 3 from ⟨by decide, by decide⟩) (by decide) (by decide)) dX12_priceOf_124 ?_
              refine lv_if_le (tgt := 138) hx hb dX12_priceOf_125 (by decide) (fun c_38 => ?_) (fun c_38 => ?_)
              · have b_39 : wx_b (g 65 (3 : Int32).toNatClampNeg) 0 0 := wb_le c_38 hm.2.1 (show wx_b 0 0 0 from ⟨by decide, by decide⟩) (by decide) (by decide)
                refine lv_iload hx hb dX12_priceOf_138 (lv_at hl 0 rfl) ?_
                refine lv_if_ne (tgt := 147) hx hb dX12_priceOf_140 (by decide) (fun c9 => absurd c9 (by decide)) (fun _ => ?_)
                refine lv_iconst (v := 0) hx hb dX12_priceOf_143 (by decide) ?_
                refine lv_goto (tgt := 151) hx hb dX12_priceOf_144 (by decide) ?_
                exact hret _ _ _ dX12_priceOf_151 rfl (by subst ex_29 ex_3; simp only [r_X12_priceOf, if_pos c_1, if_neg c_4, if_neg c_30, if_neg c_32, if_neg c_34, if_neg c_36, if_pos c_38])
              · have b_40 : wx_b (g 65 (3 : Int32).toNatClampNeg) 1 4 := wb_gt (wb_nle c_38) hm.2.1 (show wx_b 0 0 0 from ⟨by decide, by decide⟩) (by decide) (by decide)
                refine lv_aload_n hx hb dX12_priceOf_128 rfl (lv_at hl 1 rfl) ?_
                refine lv_iconst (v := 0) hx hb dX12_priceOf_129 (by decide) ?_
                refine lv_iload_n hx hb dX12_priceOf_130 rfl (lv_at hl 4 rfl) ?_
                refine wx_callr (va_runV (As := [.int 0, .int a3]) (rest := []) ⟨hx, hb, hml, hown, hts⟩ (k_X12_was l g 0 a3 (wb_w (show wx_b 0 0 0 from ⟨by decide, by decide⟩) (by decide) (by decide)) b3) (cwV 2 hts gX12_priceOf_X12_was rfl rfl rfl (by decide +kernel) (by rw [hR]; exact ⟨Nat.le_of_ble_eq_true rfl, Nat.le_of_ble_eq_true rfl⟩)) ⟨wx_Pc.blind, wx_recv hK hX (by decide) sh_X12 rfl, (wx_Pc.pre hK hX).2⟩ rfl rfl hl.1 rfl (lv_room (Nat.le_of_ble_eq_true rfl)) dX12_priceOf_131 ⟨Nat.zero_le _, Nat.zero_le _⟩) ?_
                refine lv_iload_n hx hb dX12_priceOf_134 rfl (lv_at hl 3 rfl) ?_
                refine lv_icmp_eq (tgt := 143) hx hb dX12_priceOf_135 (by decide) (fun c_41 => ?_) (fun c_41 => ?_)
                · refine lv_iconst (v := 0) hx hb dX12_priceOf_143 (by decide) ?_
                  refine lv_goto (tgt := 151) hx hb dX12_priceOf_144 (by decide) ?_
                  exact hret _ _ _ dX12_priceOf_151 rfl (by subst ex_29 ex_3; simp only [r_X12_priceOf, if_pos c_1, if_neg c_4, if_neg c_30, if_neg c_32, if_neg c_34, if_neg c_36, if_neg c_38, if_pos c_41])
                · refine lv_iload hx hb dX12_priceOf_138 (lv_at hl 0 rfl) ?_
                  refine lv_if_ne (tgt := 147) hx hb dX12_priceOf_140 (by decide) (fun c9 => absurd c9 (by decide)) (fun _ => ?_)
                  refine lv_iconst (v := 0) hx hb dX12_priceOf_143 (by decide) ?_
                  refine lv_goto (tgt := 151) hx hb dX12_priceOf_144 (by decide) ?_
                  exact hret _ _ _ dX12_priceOf_151 rfl (by subst ex_29 ex_3; simp only [r_X12_priceOf, if_pos c_1, if_neg c_4, if_neg c_30, if_neg c_32, if_neg c_34, if_neg c_36, if_neg c_38, if_neg c_41])
  · refine lv_iconst (v := 2) hx hb dX12_priceOf_30 (by decide) ?_
    refine lv_goto (tgt := 35) hx hb dX12_priceOf_31 (by decide) ?_
    refine lv_isub hx hb dX12_priceOf_35 ?_
    refine lv_topi (fun x_42 ex_42 => ?_)
    refine lv_istore (lv' := [(4, .int x_42), (0, .ref (ad 57)), (1, .int a1), (2, .int a2), (3, .int a3)]) hx hb dX12_priceOf_36 hl (by decide) rfl (fun ls hl => ?_)
    refine lv_iload hx hb dX12_priceOf_38 (lv_at hl 0 rfl) ?_
    refine lv_if_ge (tgt := 47) hx hb dX12_priceOf_40 (by decide) (fun c_43 => ?_) (fun c_43 => ?_)
    · have b_44 : wx_b x_42 0 2147483647 := wb_ge c_43 (wb_any _) (show wx_b 0 0 0 from ⟨by decide, by decide⟩) (by decide) (by decide)
      refine lv_iload hx hb dX12_priceOf_47 (lv_at hl 0 rfl) ?_
      refine lv_istore (lv' := [(4, .int x_42), (0, .ref (ad 57)), (1, .int a1), (2, .int a2), (3, .int a3)]) hx hb dX12_priceOf_49 hl (by decide) rfl (fun ls hl => ?_)
      refine lv_aload_n hx hb dX12_priceOf_51 rfl (lv_at hl 1 rfl) ?_
      refine wx_getr (t := 65) (C := RX12) (T := TX12) (N := 27) (ci := 11) (j := 20) hx hb hts hi_X12 hown hK hX (by decide) sh_X12_20 rfl (by decide) (hts (.fieldLink RX12 31 "SeenAgainModel" "now" "[I") (by decide +kernel)) (fun _ h9 => h9) dX12_priceOf_52 ?_
      refine lv_bipush (v := 43) hx hb dX12_priceOf_55 (by decide) ?_
      refine lv_iload_n hx hb dX12_priceOf_57 rfl (lv_at hl 2 rfl) ?_
      refine lv_iadd hx hb dX12_priceOf_58 ?_
      refine wx_iald hx hb hK hX (by decide) sa_65 (wb_in (wb_add (show wx_b 43 43 43 from ⟨by decide, by decide⟩) b1 (by decide) (by decide)) (by decide) (by decide)) dX12_priceOf_59 ?_
      refine lv_topi (fun x_45 ex_45 => ?_)
      by_cases c_46 : x_45 = 1
      · have b_47 : wx_b x_45 1 1 := by rw [c_46]; exact ⟨by decide, by decide⟩
        refine lv_tableIn (tgt := 92) hx hb dX12_priceOf_60 (by rw [c_46]; decide) (by rw [c_46]; decide) (by rw [c_46]; rfl) (by decide) ?_
        refine lv_iload hx hb dX12_priceOf_92 (lv_at hl 0 rfl) ?_
        exact hret _ _ _ dX12_priceOf_94 rfl (by subst ex_45 ex_42; simp only [r_X12_priceOf, if_neg c_1, if_pos c_43, if_pos c_46])
      · by_cases c_48 : x_45 = 2
        · have b_49 : wx_b x_45 2 2 := by rw [c_48]; exact ⟨by decide, by decide⟩
          refine lv_tableIn (tgt := 95) hx hb dX12_priceOf_60 (by rw [c_48]; decide) (by rw [c_48]; decide) (by rw [c_48]; rfl) (by decide) ?_
          refine lv_iload hx hb dX12_priceOf_95 (lv_at hl 0 rfl) ?_
          refine lv_iconst (v := 1) hx hb dX12_priceOf_97 (by decide) ?_
          refine lv_iadd hx hb dX12_priceOf_98 ?_
          exact hret _ _ _ dX12_priceOf_99 rfl (by subst ex_45 ex_42; simp only [r_X12_priceOf, if_neg c_1, if_pos c_43, if_neg c_46, if_pos c_48])
        · by_cases c_50 : x_45 = 3
          · have b_51 : wx_b x_45 3 3 := by rw [c_50]; exact ⟨by decide, by decide⟩
            refine lv_tableIn (tgt := 100) hx hb dX12_priceOf_60 (by rw [c_50]; decide) (by rw [c_50]; decide) (by rw [c_50]; rfl) (by decide) ?_
            refine lv_iload hx hb dX12_priceOf_100 (lv_at hl 0 rfl) ?_
            refine lv_iconst (v := 2) hx hb dX12_priceOf_102 (by decide) ?_
            refine lv_idiv hx hb dX12_priceOf_103 (by decide) ?_
            exact hret _ _ _ dX12_priceOf_104 rfl (by subst ex_45 ex_42; simp only [r_X12_priceOf, if_neg c_1, if_pos c_43, if_neg c_46, if_neg c_48, if_pos c_50])
          · by_cases c_52 : x_45 = 4
            · have b_53 : wx_b x_45 4 4 := by rw [c_52]; exact ⟨by decide, by decide⟩
              refine lv_tableIn (tgt := 105) hx hb dX12_priceOf_60 (by rw [c_52]; decide) (by rw [c_52]; decide) (by rw [c_52]; rfl) (by decide) ?_
              refine lv_iload hx hb dX12_priceOf_105 (lv_at hl 0 rfl) ?_
              refine lv_if_le (tgt := 117) hx hb dX12_priceOf_107 (by decide) (fun c_54 => ?_) (fun c_54 => ?_)
              · have b_55 : wx_b x_42 0 0 := wb_le c_54 b_44 (show wx_b 0 0 0 from ⟨by decide, by decide⟩) (by decide) (by decide)
                refine lv_iconst (v := 0) hx hb dX12_priceOf_117 (by decide) ?_
                exact hret _ _ _ dX12_priceOf_118 rfl (by subst ex_45 ex_42; simp only [r_X12_priceOf, if_neg c_1, if_pos c_43, if_neg c_46, if_neg c_48, if_neg c_50, if_pos c_52, if_pos c_54])
              · have b_56 : wx_b x_42 1 2147483647 := wb_gt (wb_nle c_54) b_44 (show wx_b 0 0 0 from ⟨by decide, by decide⟩) (by decide) (by decide)
                refine lv_iload hx hb dX12_priceOf_110 (lv_at hl 0 rfl) ?_
                refine lv_iconst (v := 1) hx hb dX12_priceOf_112 (by decide) ?_
                refine lv_isub hx hb dX12_priceOf_113 ?_
                refine lv_goto (tgt := 118) hx hb dX12_priceOf_114 (by decide) ?_
                exact hret _ _ _ dX12_priceOf_118 rfl (by subst ex_45 ex_42; simp only [r_X12_priceOf, if_neg c_1, if_pos c_43, if_neg c_46, if_neg c_48, if_neg c_50, if_pos c_52, if_neg c_54])
            · refine lv_tableOut (tgt := 119) hx hb dX12_priceOf_60 (by have q0 := lv_neT (a := 1) c_46 (by decide); have q1 := lv_neT (a := 2) c_48 (by decide); have q2 := lv_neT (a := 3) c_50 (by decide); have q3 := lv_neT (a := 4) c_52 (by decide); omega) (by decide) ?_
              refine lv_aload_n hx hb dX12_priceOf_119 rfl (lv_at hl 1 rfl) ?_
              refine wx_getr (t := 65) (C := RX12) (T := TX12) (N := 27) (ci := 11) (j := 20) hx hb hts hi_X12 hown hK hX (by decide) sh_X12_20 rfl (by decide) (hts (.fieldLink RX12 31 "SeenAgainModel" "now" "[I") (by decide +kernel)) (fun _ h9 => h9) dX12_priceOf_120 ?_
              refine lv_iconst (v := 3) hx hb dX12_priceOf_123 (by decide) ?_
              refine wx_iald hx hb hK hX (by decide) sa_65 (wb_in (show wx_b 3 3 3 from ⟨by decide, by decide⟩) (by decide) (by decide)) dX12_priceOf_124 ?_
              refine lv_if_le (tgt := 138) hx hb dX12_priceOf_125 (by decide) (fun c_57 => ?_) (fun c_57 => ?_)
              · have b_58 : wx_b (g 65 (3 : Int32).toNatClampNeg) 0 0 := wb_le c_57 hm.2.1 (show wx_b 0 0 0 from ⟨by decide, by decide⟩) (by decide) (by decide)
                refine lv_iload hx hb dX12_priceOf_138 (lv_at hl 0 rfl) ?_
                refine lv_if_ne (tgt := 147) hx hb dX12_priceOf_140 (by decide) (fun c_59 => ?_) (fun c_59 => ?_)
                · have b_60 : wx_b x_42 1 2147483647 := wb_nel c_59 b_44 (by decide)
                  refine lv_iload hx hb dX12_priceOf_147 (lv_at hl 0 rfl) ?_
                  refine lv_iconst (v := 1) hx hb dX12_priceOf_149 (by decide) ?_
                  refine lv_isub hx hb dX12_priceOf_150 ?_
                  exact hret _ _ _ dX12_priceOf_151 rfl (by subst ex_45 ex_42; simp only [r_X12_priceOf, if_neg c_1, if_pos c_43, if_neg c_46, if_neg c_48, if_neg c_50, if_neg c_52, if_pos c_57, if_neg c_59])
                · have b_61 : wx_b x_42 0 0 := by rw [c_59]; exact ⟨by decide, by decide⟩
                  refine lv_iconst (v := 0) hx hb dX12_priceOf_143 (by decide) ?_
                  refine lv_goto (tgt := 151) hx hb dX12_priceOf_144 (by decide) ?_
                  exact hret _ _ _ dX12_priceOf_151 rfl (by subst ex_45 ex_42; simp only [r_X12_priceOf, if_neg c_1, if_pos c_43, if_neg c_46, if_neg c_48, if_neg c_50, if_neg c_52, if_pos c_57, if_pos c_59])
              · have b_62 : wx_b (g 65 (3 : Int32).toNatClampNeg) 1 4 := wb_gt (wb_nle c_57) hm.2.1 (show wx_b 0 0 0 from ⟨by decide, by decide⟩) (by decide) (by decide)
                refine lv_aload_n hx hb dX12_priceOf_128 rfl (lv_at hl 1 rfl) ?_
                refine lv_iconst (v := 0) hx hb dX12_priceOf_129 (by decide) ?_
                refine lv_iload_n hx hb dX12_priceOf_130 rfl (lv_at hl 4 rfl) ?_
                refine wx_callr (va_runV (As := [.int 0, .int a3]) (rest := []) ⟨hx, hb, hml, hown, hts⟩ (k_X12_was l g 0 a3 (wb_w (show wx_b 0 0 0 from ⟨by decide, by decide⟩) (by decide) (by decide)) b3) (cwV 2 hts gX12_priceOf_X12_was rfl rfl rfl (by decide +kernel) (by rw [hR]; exact ⟨Nat.le_of_ble_eq_true rfl, Nat.le_of_ble_eq_true rfl⟩)) ⟨wx_Pc.blind, wx_recv hK hX (by decide) sh_X12 rfl, (wx_Pc.pre hK hX).2⟩ rfl rfl hl.1 rfl (lv_room (Nat.le_of_ble_eq_true rfl)) dX12_priceOf_131 ⟨Nat.zero_le _, Nat.zero_le _⟩) ?_
                refine lv_iload_n hx hb dX12_priceOf_134 rfl (lv_at hl 3 rfl) ?_
                refine lv_icmp_eq (tgt := 143) hx hb dX12_priceOf_135 (by decide) (fun c_63 => ?_) (fun c_63 => ?_)
                · refine lv_iconst (v := 0) hx hb dX12_priceOf_143 (by decide) ?_
                  refine lv_goto (tgt := 151) hx hb dX12_priceOf_144 (by decide) ?_
                  exact hret _ _ _ dX12_priceOf_151 rfl (by subst ex_45 ex_42; simp only [r_X12_priceOf, if_neg c_1, if_pos c_43, if_neg c_46, if_neg c_48, if_neg c_50, if_neg c_52, if_neg c_57, if_pos c_63])
                · refine lv_iload hx hb dX12_priceOf_138 (lv_at hl 0 rfl) ?_
                  refine lv_if_ne (tgt := 147) hx hb dX12_priceOf_140 (by decide) (fun c_64 => ?_) (fun c_64 => ?_)
                  · have b_65 : wx_b x_42 1 2147483647 := wb_nel c_64 b_44 (by decide)
                    refine lv_iload hx hb dX12_priceOf_147 (lv_at hl 0 rfl) ?_
                    refine lv_iconst (v := 1) hx hb dX12_priceOf_149 (by decide) ?_
                    refine lv_isub hx hb dX12_priceOf_150 ?_
                    exact hret _ _ _ dX12_priceOf_151 rfl (by subst ex_45 ex_42; simp only [r_X12_priceOf, if_neg c_1, if_pos c_43, if_neg c_46, if_neg c_48, if_neg c_50, if_neg c_52, if_neg c_57, if_neg c_63, if_neg c_64])
                  · have b_66 : wx_b x_42 0 0 := by rw [c_64]; exact ⟨by decide, by decide⟩
                    refine lv_iconst (v := 0) hx hb dX12_priceOf_143 (by decide) ?_
                    refine lv_goto (tgt := 151) hx hb dX12_priceOf_144 (by decide) ?_
                    exact hret _ _ _ dX12_priceOf_151 rfl (by subst ex_45 ex_42; simp only [r_X12_priceOf, if_neg c_1, if_pos c_43, if_neg c_46, if_neg c_48, if_neg c_50, if_neg c_52, if_neg c_57, if_neg c_63, if_pos c_64])
    · have b_67 : wx_b x_42 (-2147483648) (-1) := wb_lt (wb_nle c_43) (wb_any _) (show wx_b 0 0 0 from ⟨by decide, by decide⟩) (by decide) (by decide)
      refine lv_iconst (v := 0) hx hb dX12_priceOf_43 (by decide) ?_
      refine lv_goto (tgt := 49) hx hb dX12_priceOf_44 (by decide) ?_
      refine lv_istore (lv' := [(4, .int 0), (0, .ref (ad 57)), (1, .int a1), (2, .int a2), (3, .int a3)]) hx hb dX12_priceOf_49 hl (by decide) rfl (fun ls hl => ?_)
      refine lv_aload_n hx hb dX12_priceOf_51 rfl (lv_at hl 1 rfl) ?_
      refine wx_getr (t := 65) (C := RX12) (T := TX12) (N := 27) (ci := 11) (j := 20) hx hb hts hi_X12 hown hK hX (by decide) sh_X12_20 rfl (by decide) (hts (.fieldLink RX12 31 "SeenAgainModel" "now" "[I") (by decide +kernel)) (fun _ h9 => h9) dX12_priceOf_52 ?_
      refine lv_bipush (v := 43) hx hb dX12_priceOf_55 (by decide) ?_
      refine lv_iload_n hx hb dX12_priceOf_57 rfl (lv_at hl 2 rfl) ?_
      refine lv_iadd hx hb dX12_priceOf_58 ?_
      refine wx_iald hx hb hK hX (by decide) sa_65 (wb_in (wb_add (show wx_b 43 43 43 from ⟨by decide, by decide⟩) b1 (by decide) (by decide)) (by decide) (by decide)) dX12_priceOf_59 ?_
      refine lv_topi (fun x_68 ex_68 => ?_)
      by_cases c_69 : x_68 = 1
      · have b_70 : wx_b x_68 1 1 := by rw [c_69]; exact ⟨by decide, by decide⟩
        refine lv_tableIn (tgt := 92) hx hb dX12_priceOf_60 (by rw [c_69]; decide) (by rw [c_69]; decide) (by rw [c_69]; rfl) (by decide) ?_
        refine lv_iload hx hb dX12_priceOf_92 (lv_at hl 0 rfl) ?_
        exact hret _ _ _ dX12_priceOf_94 rfl (by subst ex_68 ex_42; simp only [r_X12_priceOf, if_neg c_1, if_neg c_43, if_pos c_69])
      · by_cases c_71 : x_68 = 2
        · have b_72 : wx_b x_68 2 2 := by rw [c_71]; exact ⟨by decide, by decide⟩
          refine lv_tableIn (tgt := 95) hx hb dX12_priceOf_60 (by rw [c_71]; decide) (by rw [c_71]; decide) (by rw [c_71]; rfl) (by decide) ?_
          refine lv_iload hx hb dX12_priceOf_95 (lv_at hl 0 rfl) ?_
          refine lv_iconst (v := 1) hx hb dX12_priceOf_97 (by decide) ?_
          refine lv_iadd hx hb dX12_priceOf_98 ?_
          exact hret _ _ _ dX12_priceOf_99 rfl (by subst ex_68 ex_42; simp only [r_X12_priceOf, if_neg c_1, if_neg c_43, if_neg c_69, if_pos c_71])
        · by_cases c_73 : x_68 = 3
          · have b_74 : wx_b x_68 3 3 := by rw [c_73]; exact ⟨by decide, by decide⟩
            refine lv_tableIn (tgt := 100) hx hb dX12_priceOf_60 (by rw [c_73]; decide) (by rw [c_73]; decide) (by rw [c_73]; rfl) (by decide) ?_
            refine lv_iload hx hb dX12_priceOf_100 (lv_at hl 0 rfl) ?_
            refine lv_iconst (v := 2) hx hb dX12_priceOf_102 (by decide) ?_
            refine lv_idiv hx hb dX12_priceOf_103 (by decide) ?_
            exact hret _ _ _ dX12_priceOf_104 rfl (by subst ex_68 ex_42; simp only [r_X12_priceOf, if_neg c_1, if_neg c_43, if_neg c_69, if_neg c_71, if_pos c_73])
          · by_cases c_75 : x_68 = 4
            · have b_76 : wx_b x_68 4 4 := by rw [c_75]; exact ⟨by decide, by decide⟩
              refine lv_tableIn (tgt := 105) hx hb dX12_priceOf_60 (by rw [c_75]; decide) (by rw [c_75]; decide) (by rw [c_75]; rfl) (by decide) ?_
              refine lv_iload hx hb dX12_priceOf_105 (lv_at hl 0 rfl) ?_
              refine lv_if_le (tgt := 117) hx hb dX12_priceOf_107 (by decide) (fun _ => ?_) (fun c9 => absurd c9 (by decide))
              refine lv_iconst (v := 0) hx hb dX12_priceOf_117 (by decide) ?_
              exact hret _ _ _ dX12_priceOf_118 rfl (by subst ex_68 ex_42; simp only [r_X12_priceOf, if_neg c_1, if_neg c_43, if_neg c_69, if_neg c_71, if_neg c_73, if_pos c_75])
            · refine lv_tableOut (tgt := 119) hx hb dX12_priceOf_60 (by have q0 := lv_neT (a := 1) c_69 (by decide); have q1 := lv_neT (a := 2) c_71 (by decide); have q2 := lv_neT (a := 3) c_73 (by decide); have q3 := lv_neT (a := 4) c_75 (by decide); omega) (by decide) ?_
              refine lv_aload_n hx hb dX12_priceOf_119 rfl (lv_at hl 1 rfl) ?_
              refine wx_getr (t := 65) (C := RX12) (T := TX12) (N := 27) (ci := 11) (j := 20) hx hb hts hi_X12 hown hK hX (by decide) sh_X12_20 rfl (by decide) (hts (.fieldLink RX12 31 "SeenAgainModel" "now" "[I") (by decide +kernel)) (fun _ h9 => h9) dX12_priceOf_120 ?_
              refine lv_iconst (v := 3) hx hb dX12_priceOf_123 (by decide) ?_
              refine wx_iald hx hb hK hX (by decide) sa_65 (wb_in (show wx_b 3 3 3 from ⟨by decide, by decide⟩) (by decide) (by decide)) dX12_priceOf_124 ?_
              refine lv_if_le (tgt := 138) hx hb dX12_priceOf_125 (by decide) (fun c_77 => ?_) (fun c_77 => ?_)
              · have b_78 : wx_b (g 65 (3 : Int32).toNatClampNeg) 0 0 := wb_le c_77 hm.2.1 (show wx_b 0 0 0 from ⟨by decide, by decide⟩) (by decide) (by decide)
                refine lv_iload hx hb dX12_priceOf_138 (lv_at hl 0 rfl) ?_
                refine lv_if_ne (tgt := 147) hx hb dX12_priceOf_140 (by decide) (fun c9 => absurd c9 (by decide)) (fun _ => ?_)
                refine lv_iconst (v := 0) hx hb dX12_priceOf_143 (by decide) ?_
                refine lv_goto (tgt := 151) hx hb dX12_priceOf_144 (by decide) ?_
                exact hret _ _ _ dX12_priceOf_151 rfl (by subst ex_68 ex_42; simp only [r_X12_priceOf, if_neg c_1, if_neg c_43, if_neg c_69, if_neg c_71, if_neg c_73, if_neg c_75, if_pos c_77])
              · have b_79 : wx_b (g 65 (3 : Int32).toNatClampNeg) 1 4 := wb_gt (wb_nle c_77) hm.2.1 (show wx_b 0 0 0 from ⟨by decide, by decide⟩) (by decide) (by decide)
                refine lv_aload_n hx hb dX12_priceOf_128 rfl (lv_at hl 1 rfl) ?_
                refine lv_iconst (v := 0) hx hb dX12_priceOf_129 (by decide) ?_
                refine lv_iload_n hx hb dX12_priceOf_130 rfl (lv_at hl 4 rfl) ?_
                refine wx_callr (va_runV (As := [.int 0, .int a3]) (rest := []) ⟨hx, hb, hml, hown, hts⟩ (k_X12_was l g 0 a3 (wb_w (show wx_b 0 0 0 from ⟨by decide, by decide⟩) (by decide) (by decide)) b3) (cwV 2 hts gX12_priceOf_X12_was rfl rfl rfl (by decide +kernel) (by rw [hR]; exact ⟨Nat.le_of_ble_eq_true rfl, Nat.le_of_ble_eq_true rfl⟩)) ⟨wx_Pc.blind, wx_recv hK hX (by decide) sh_X12 rfl, (wx_Pc.pre hK hX).2⟩ rfl rfl hl.1 rfl (lv_room (Nat.le_of_ble_eq_true rfl)) dX12_priceOf_131 ⟨Nat.zero_le _, Nat.zero_le _⟩) ?_
                refine lv_iload_n hx hb dX12_priceOf_134 rfl (lv_at hl 3 rfl) ?_
                refine lv_icmp_eq (tgt := 143) hx hb dX12_priceOf_135 (by decide) (fun c_80 => ?_) (fun c_80 => ?_)
                · refine lv_iconst (v := 0) hx hb dX12_priceOf_143 (by decide) ?_
                  refine lv_goto (tgt := 151) hx hb dX12_priceOf_144 (by decide) ?_
                  exact hret _ _ _ dX12_priceOf_151 rfl (by subst ex_68 ex_42; simp only [r_X12_priceOf, if_neg c_1, if_neg c_43, if_neg c_69, if_neg c_71, if_neg c_73, if_neg c_75, if_neg c_77, if_pos c_80])
                · refine lv_iload hx hb dX12_priceOf_138 (lv_at hl 0 rfl) ?_
                  refine lv_if_ne (tgt := 147) hx hb dX12_priceOf_140 (by decide) (fun c9 => absurd c9 (by decide)) (fun _ => ?_)
                  refine lv_iconst (v := 0) hx hb dX12_priceOf_143 (by decide) ?_
                  refine lv_goto (tgt := 151) hx hb dX12_priceOf_144 (by decide) ?_
                  exact hret _ _ _ dX12_priceOf_151 rfl (by subst ex_68 ex_42; simp only [r_X12_priceOf, if_neg c_1, if_neg c_43, if_neg c_69, if_neg c_71, if_neg c_73, if_neg c_75, if_neg c_77, if_neg c_80])
def b_X12_lookedBy_5 (g : wx_M) (a1 : Int32) (a2 : Int32) (t_5 : Nat) (s_5 : Int32) : Int32 :=
  if ((r_X12_heldAt g (nI t_5) a2) &&& a1) = 0 then
    let x_4 := (s_5 ||| 0)
    x_4
  else
    let x_6 := (s_5 ||| (r_X12_viewOf g (nI t_5) a2))
    x_6
def r_X12_lookedBy (g : wx_M) (a1 : Int32) (a2 : Int32) : Int32 :=
  let s_5 := rep (g 65 (0 : Int32).toNatClampNeg).toNatClampNeg (b_X12_lookedBy_5 g a1 a2) (0 : Int32)
  s_5
set_option maxHeartbeats 4000000 in
set_option maxRecDepth 100000 in
theorem k_X12_lookedBy (l : Launch) {D : va_G} {cy : Nat → ClassId} {ad : Nat → Nat} {B0 : Nat} {f : wx_F} {P : va_W} (g : wx_M) (a1 : Int32) (a2 : Int32) (b2 : wx_b a2 0 7) (hm : wx_MB g) : Met l yX12_lookedBy wsX12_lookedBy ({ frames := 1, cells := 0, slots := 0, locals := 22 } : Room) (wx_Pc D cy ad B0 f P g [.ref (ad 57), .int a1, .int a2]) (QcRead (r_X12_lookedBy g a1 a2)) 0 0 (fun _ => False) := by
  refine wx_enterR (cc := cX12_lookedBy) (maxL := 5) (ty := .int) (own := RX12) (lv := [(0, .ref (ad 57)), (1, .int a1), (2, .int a2)]) (by decide) rfl rfl (Nat.le_of_ble_eq_true rfl) rfl ?_
  intro p e R s m args below meth c ls Qm hx hb hml hown hts hK hX hR hret hl
  have hi_X12 : ∀ w ∈ wsX120, w ∈ wsX12_lookedBy := by decide +kernel
  refine lv_iconst (v := 0) hx hb dX12_lookedBy_0 (by decide) ?_
  refine lv_istore_n (lv' := [(3, .int 0), (0, .ref (ad 57)), (1, .int a1), (2, .int a2)]) hx hb dX12_lookedBy_1 rfl hl (by decide) rfl (fun ls hl => ?_)
  refine lv_iconst (v := 0) hx hb dX12_lookedBy_2 (by decide) ?_
  refine lv_istore (lv' := [(4, .int 0), (3, .int 0), (0, .ref (ad 57)), (1, .int a1), (2, .int a2)]) hx hb dX12_lookedBy_3 hl (by decide) rfl (fun ls hl => ?_)
  have lp_5 : ∀ (n t_5 : Nat) (s_5 : Int32) (ls : Array Slot), t_5 ≤ (g 65 (0 : Int32).toNatClampNeg).toNatClampNeg → (g 65 (0 : Int32).toNatClampNeg).toNatClampNeg + 1 ≤ t_5 + n → s_5 = rep t_5 (b_X12_lookedBy_5 g a1 a2) (0 : Int32) → lv_has ls 5 [(4, .int (nI t_5)), (3, .int s_5), (0, .ref (ad 57)), (1, .int a1), (2, .int a2)] → W p l e R s m args below meth c s.heap [] 0 0 Qm (F0 m 5 ls []) := by
    intro n
    induction n with
    | zero => intro t_5 s_5 ls h1 h2; exact absurd h2 (by omega)
    | succ n ih_5 =>
      intro t_5 s_5 ls ht_5 hn_5 es_5 hl
      refine lv_iload hx hb dX12_lookedBy_5 (lv_at hl 0 rfl) ?_
      refine lv_aload_n hx hb dX12_lookedBy_7 rfl (lv_at hl 2 rfl) ?_
      refine wx_getr (t := 65) (C := RX12) (T := TX12) (N := 27) (ci := 11) (j := 20) hx hb hts hi_X12 hown hK hX (by decide) sh_X12_20 rfl (by decide) (hts (.fieldLink RX12 31 "SeenAgainModel" "now" "[I") (by decide +kernel)) (fun _ h9 => h9) dX12_lookedBy_8 ?_
      refine lv_iconst (v := 0) hx hb dX12_lookedBy_11 (by decide) ?_
      refine wx_iald hx hb hK hX (by decide) sa_65 (wb_in (show wx_b 0 0 0 from ⟨by decide, by decide⟩) (by decide) (by decide)) dX12_lookedBy_12 ?_
      refine lv_icmp_ge (tgt := 48) hx hb dX12_lookedBy_13 (by decide) (fun c_1 => ?_) (fun c_1 => ?_)
      · have et_5 : t_5 = (g 65 (0 : Int32).toNatClampNeg).toNatClampNeg := Nat.le_antisymm ht_5 (by have h9 := wx_dn (by have := wx_cl31 (g 65 (0 : Int32).toNatClampNeg); omega) c_1; omega)
        subst et_5
        refine lv_iload_n hx hb dX12_lookedBy_48 rfl (lv_at hl 1 rfl) ?_
        exact hret _ _ _ dX12_lookedBy_49 rfl (by simp only [r_X12_lookedBy, ← es_5])
      · have hlt_5 : t_5 < (g 65 (0 : Int32).toNatClampNeg).toNatClampNeg := by have h9 := wx_up (by have := wx_cl31 (g 65 (0 : Int32).toNatClampNeg); omega) c_1; omega
        have bt_5 : wx_b (nI (t_5)) 0 5 := wb_nI (n := 5) (by have := wb_cl (n := 6) hm.1 (by decide); omega) (by decide)
        refine lv_iload_n hx hb dX12_lookedBy_16 rfl (lv_at hl 1 rfl) ?_
        refine lv_aload_n hx hb dX12_lookedBy_17 rfl (lv_at hl 2 rfl) ?_
        refine lv_iload hx hb dX12_lookedBy_18 (lv_at hl 0 rfl) ?_
        refine lv_iload_n hx hb dX12_lookedBy_20 rfl (lv_at hl 4 rfl) ?_
        refine wx_callr (va_runV (As := [.int (nI t_5), .int a2]) (rest := [.int s_5]) ⟨hx, hb, hml, hown, hts⟩ (k_X12_heldAt l g (nI t_5) a2 bt_5 b2) (cwV 2 hts gX12_lookedBy_X12_heldAt rfl rfl rfl (by decide +kernel) (by rw [hR]; exact ⟨Nat.le_of_ble_eq_true rfl, Nat.le_of_ble_eq_true rfl⟩)) ⟨wx_Pc.blind, wx_recv hK hX (by decide) sh_X12 rfl, (wx_Pc.pre hK hX).2⟩ rfl rfl hl.1 rfl (lv_room (Nat.le_of_ble_eq_true rfl)) dX12_lookedBy_21 ⟨Nat.zero_le _, Nat.zero_le _⟩) ?_
        refine lv_iload_n hx hb dX12_lookedBy_24 rfl (lv_at hl 3 rfl) ?_
        refine lv_iand hx hb dX12_lookedBy_25 ?_
        refine lv_if_eq (tgt := 39) hx hb dX12_lookedBy_26 (by decide) (fun c_2 => ?_) (fun c_2 => ?_)
        · have b_3 : wx_b ((r_X12_heldAt g (nI t_5) a2) &&& a1) 0 0 := by rw [c_2]; exact ⟨by decide, by decide⟩
          refine lv_iconst (v := 0) hx hb dX12_lookedBy_39 (by decide) ?_
          refine lv_ior hx hb dX12_lookedBy_40 ?_
          refine lv_topi (fun x_4 ex_4 => ?_)
          refine lv_istore_n (lv' := [(3, .int x_4), (4, .int (nI t_5)), (0, .ref (ad 57)), (1, .int a1), (2, .int a2)]) hx hb dX12_lookedBy_41 rfl hl (by decide) rfl (fun ls hl => ?_)
          refine lv_iinc (v := nI (t_5 + 1)) (lv' := [(4, .int (nI (t_5 + 1))), (3, .int x_4), (0, .ref (ad 57)), (1, .int a1), (2, .int a2)]) hx hb dX12_lookedBy_42 hl (k := 1) rfl (wx_inc _) (by decide) rfl (fun ls hl => ?_)
          refine lv_goto (tgt := 5) hx hb dX12_lookedBy_45 (by decide) ?_
          have hF_5 : (b_X12_lookedBy_5 g a1 a2) t_5 s_5 = x_4 := (by subst ex_4; simp only [b_X12_lookedBy_5, if_pos c_2])
          exact ih_5 (t_5 + 1) x_4 ls hlt_5 (by omega) (by rw [rep_succ, ← es_5, hF_5]) (lv_sub hl [0, 1, 2, 3, 4] rfl)
        · refine lv_aload_n hx hb dX12_lookedBy_29 rfl (lv_at hl 2 rfl) ?_
          refine lv_iload hx hb dX12_lookedBy_30 (lv_at hl 0 rfl) ?_
          refine lv_iload_n hx hb dX12_lookedBy_32 rfl (lv_at hl 4 rfl) ?_
          refine wx_callr (va_runV (As := [.int (nI t_5), .int a2]) (rest := [.int s_5]) ⟨hx, hb, hml, hown, hts⟩ (k_X12_viewOf l g (nI t_5) a2 bt_5 b2) (cwV 2 hts gX12_lookedBy_X12_viewOf rfl rfl rfl (by decide +kernel) (by rw [hR]; exact ⟨Nat.le_of_ble_eq_true rfl, Nat.le_of_ble_eq_true rfl⟩)) ⟨wx_Pc.blind, wx_recv hK hX (by decide) sh_X12 rfl, (wx_Pc.pre hK hX).2⟩ rfl rfl hl.1 rfl (lv_room (Nat.le_of_ble_eq_true rfl)) dX12_lookedBy_33 ⟨Nat.zero_le _, Nat.zero_le _⟩) ?_
          refine lv_goto (tgt := 40) hx hb dX12_lookedBy_36 (by decide) ?_
          refine lv_ior hx hb dX12_lookedBy_40 ?_
          refine lv_topi (fun x_6 ex_6 => ?_)
          refine lv_istore_n (lv' := [(3, .int x_6), (4, .int (nI t_5)), (0, .ref (ad 57)), (1, .int a1), (2, .int a2)]) hx hb dX12_lookedBy_41 rfl hl (by decide) rfl (fun ls hl => ?_)
          refine lv_iinc (v := nI (t_5 + 1)) (lv' := [(4, .int (nI (t_5 + 1))), (3, .int x_6), (0, .ref (ad 57)), (1, .int a1), (2, .int a2)]) hx hb dX12_lookedBy_42 hl (k := 1) rfl (wx_inc _) (by decide) rfl (fun ls hl => ?_)
          refine lv_goto (tgt := 5) hx hb dX12_lookedBy_45 (by decide) ?_
          have hF_7 : (b_X12_lookedBy_5 g a1 a2) t_5 s_5 = x_6 := (by subst ex_6; simp only [b_X12_lookedBy_5, if_neg c_2])
          exact ih_5 (t_5 + 1) x_6 ls hlt_5 (by omega) (by rw [rep_succ, ← es_5, hF_7]) (lv_sub hl [0, 1, 2, 3, 4] rfl)
  exact lp_5 ((g 65 (0 : Int32).toNatClampNeg).toNatClampNeg + 1) 0 (0 : Int32) ls (Nat.zero_le _) (by omega) rfl (lv_sub hl [0, 1, 2, 3, 4] rfl)
def r_X12_seenBy (g : wx_M) (a1 : Int32) (a2 : Int32) (a3 : Int32) : Int32 :=
  if (r_X12_has (r_X12_lookedBy g a1 a3) (r_X12_was g a2 a3)) = 0 then
    (-1000000)
  else
    (r_X12_was g a2 a3)
set_option maxHeartbeats 4000000 in
set_option maxRecDepth 100000 in
theorem k_X12_seenBy (l : Launch) {D : va_G} {cy : Nat → ClassId} {ad : Nat → Nat} {B0 : Nat} {f : wx_F} {P : va_W} (g : wx_M) (a1 : Int32) (a2 : Int32) (a3 : Int32) (b2 : wx_b a2 0 3) (b3 : wx_b a3 0 7) (hm : wx_MB g) : Met l yX12_seenBy wsX12_seenBy ({ frames := 2, cells := 0, slots := 0, locals := 46 } : Room) (wx_Pc D cy ad B0 f P g [.ref (ad 57), .int a1, .int a2, .int a3]) (QcRead (r_X12_seenBy g a1 a2 a3)) 0 0 (fun _ => False) := by
  refine wx_enterR (cc := cX12_seenBy) (maxL := 4) (ty := .int) (own := RX12) (lv := [(0, .ref (ad 57)), (1, .int a1), (2, .int a2), (3, .int a3)]) (by decide) rfl rfl (Nat.le_of_ble_eq_true rfl) rfl ?_
  intro p e R s m args below meth c ls Qm hx hb hml hown hts hK hX hR hret hl
  refine lv_aload_n hx hb dX12_seenBy_0 rfl (lv_at hl 0 rfl) ?_
  refine lv_iload_n hx hb dX12_seenBy_1 rfl (lv_at hl 1 rfl) ?_
  refine lv_iload_n hx hb dX12_seenBy_2 rfl (lv_at hl 3 rfl) ?_
  refine wx_callr (va_runV (As := [.int a1, .int a3]) (rest := []) ⟨hx, hb, hml, hown, hts⟩ (k_X12_lookedBy l g a1 a3 b3 hm) (cwV 2 hts gX12_seenBy_X12_lookedBy rfl rfl rfl (by decide +kernel) (by rw [hR]; exact ⟨Nat.le_of_ble_eq_true rfl, Nat.le_of_ble_eq_true rfl⟩)) ⟨wx_Pc.blind, wx_recv hK hX (by decide) sh_X12 rfl, (wx_Pc.pre hK hX).2⟩ rfl rfl hl.1 rfl (lv_room (Nat.le_of_ble_eq_true rfl)) dX12_seenBy_3 ⟨Nat.zero_le _, Nat.zero_le _⟩) ?_
  refine lv_aload_n hx hb dX12_seenBy_6 rfl (lv_at hl 0 rfl) ?_
  refine lv_iload_n hx hb dX12_seenBy_7 rfl (lv_at hl 2 rfl) ?_
  refine lv_iload_n hx hb dX12_seenBy_8 rfl (lv_at hl 3 rfl) ?_
  refine wx_callr (va_runV (As := [.int a2, .int a3]) (rest := [.int (r_X12_lookedBy g a1 a3)]) ⟨hx, hb, hml, hown, hts⟩ (k_X12_was l g a2 a3 b2 b3) (cwV 2 hts gX12_seenBy_X12_was rfl rfl rfl (by decide +kernel) (by rw [hR]; exact ⟨Nat.le_of_ble_eq_true rfl, Nat.le_of_ble_eq_true rfl⟩)) ⟨wx_Pc.blind, wx_recv hK hX (by decide) sh_X12 rfl, (wx_Pc.pre hK hX).2⟩ rfl rfl hl.1 rfl (lv_room (Nat.le_of_ble_eq_true rfl)) dX12_seenBy_9 ⟨Nat.zero_le _, Nat.zero_le _⟩) ?_
  refine wx_callr (va_runS (As := [.int (r_X12_lookedBy g a1 a3), .int (r_X12_was g a2 a3)]) (rest := []) ⟨hx, hb, hml, hown, hts⟩ (k_X12_has l g (r_X12_lookedBy g a1 a3) (r_X12_was g a2 a3)) (va_cwS 2 hts gX12_seenBy_X12_has rfl rfl rfl (by decide +kernel) (by rw [hR]; exact ⟨Nat.le_of_ble_eq_true rfl, Nat.le_of_ble_eq_true rfl⟩)) (wx_Pc.pre hK hX) rfl rfl hl.1 rfl (lv_room (Nat.le_of_ble_eq_true rfl)) dX12_seenBy_12 ⟨Nat.zero_le _, Nat.zero_le _⟩) ?_
  refine lv_if_eq (tgt := 27) hx hb dX12_seenBy_15 (by decide) (fun c_1 => ?_) (fun c_1 => ?_)
  · have b_2 : wx_b (r_X12_has (r_X12_lookedBy g a1 a3) (r_X12_was g a2 a3)) 0 0 := by rw [c_1]; exact ⟨by decide, by decide⟩
    refine lv_ldc hx hb hown (hts (.constant RX12 201 (-1000000)) (by decide +kernel)) dX12_seenBy_27 ?_
    exact hret _ _ _ dX12_seenBy_29 rfl (by simp only [r_X12_seenBy, if_pos c_1])
  · refine lv_aload_n hx hb dX12_seenBy_18 rfl (lv_at hl 0 rfl) ?_
    refine lv_iload_n hx hb dX12_seenBy_19 rfl (lv_at hl 2 rfl) ?_
    refine lv_iload_n hx hb dX12_seenBy_20 rfl (lv_at hl 3 rfl) ?_
    refine wx_callr (va_runV (As := [.int a2, .int a3]) (rest := []) ⟨hx, hb, hml, hown, hts⟩ (k_X12_was l g a2 a3 b2 b3) (cwV 2 hts gX12_seenBy_X12_was rfl rfl rfl (by decide +kernel) (by rw [hR]; exact ⟨Nat.le_of_ble_eq_true rfl, Nat.le_of_ble_eq_true rfl⟩)) ⟨wx_Pc.blind, wx_recv hK hX (by decide) sh_X12 rfl, (wx_Pc.pre hK hX).2⟩ rfl rfl hl.1 rfl (lv_room (Nat.le_of_ble_eq_true rfl)) dX12_seenBy_21 ⟨Nat.zero_le _, Nat.zero_le _⟩) ?_
    refine lv_goto (tgt := 29) hx hb dX12_seenBy_24 (by decide) ?_
    exact hret _ _ _ dX12_seenBy_29 rfl (by simp only [r_X12_seenBy, if_neg c_1])
def r_X12_canBeAt (g : wx_M) (a1 : Int32) (a2 : Int32) (a3 : Int32) (a4 : Int32) : Int32 :=
  let x_1 := (r_X12_seenBy g a1 a2 a4)
  if x_1 = (-1000000) then
    if (r_X12_has (r_X12_lookedBy g a1 a4) a3) = 0 then
      1
    else
      0
  else
    if x_1 = a3 then
      1
    else
      0
set_option maxHeartbeats 4000000 in
set_option maxRecDepth 100000 in
theorem k_X12_canBeAt (l : Launch) {D : va_G} {cy : Nat → ClassId} {ad : Nat → Nat} {B0 : Nat} {f : wx_F} {P : va_W} (g : wx_M) (a1 : Int32) (a2 : Int32) (a3 : Int32) (a4 : Int32) (b2 : wx_b a2 0 3) (b4 : wx_b a4 0 7) (hm : wx_MB g) : Met l yX12_canBeAt wsX12_canBeAt ({ frames := 3, cells := 0, slots := 0, locals := 69 } : Room) (wx_Pc D cy ad B0 f P g [.ref (ad 57), .int a1, .int a2, .int a3, .int a4]) (QcRead (r_X12_canBeAt g a1 a2 a3 a4)) 0 0 (fun _ => False) := by
  refine wx_enterR (cc := cX12_canBeAt) (maxL := 6) (ty := .boolean) (own := RX12) (lv := [(0, .ref (ad 57)), (1, .int a1), (2, .int a2), (3, .int a3), (4, .int a4)]) (by decide) rfl rfl (Nat.le_of_ble_eq_true rfl) rfl ?_
  intro p e R s m args below meth c ls Qm hx hb hml hown hts hK hX hR hret hl
  refine lv_aload_n hx hb dX12_canBeAt_0 rfl (lv_at hl 0 rfl) ?_
  refine lv_iload_n hx hb dX12_canBeAt_1 rfl (lv_at hl 1 rfl) ?_
  refine lv_iload_n hx hb dX12_canBeAt_2 rfl (lv_at hl 2 rfl) ?_
  refine lv_iload hx hb dX12_canBeAt_3 (lv_at hl 4 rfl) ?_
  refine wx_callr (va_runV (As := [.int a1, .int a2, .int a4]) (rest := []) ⟨hx, hb, hml, hown, hts⟩ (k_X12_seenBy l g a1 a2 a4 b2 b4 hm) (cwV 3 hts gX12_canBeAt_X12_seenBy rfl rfl rfl (by decide +kernel) (by rw [hR]; exact ⟨Nat.le_of_ble_eq_true rfl, Nat.le_of_ble_eq_true rfl⟩)) ⟨wx_Pc.blind, wx_recv hK hX (by decide) sh_X12 rfl, (wx_Pc.pre hK hX).2⟩ rfl rfl hl.1 rfl (lv_room (Nat.le_of_ble_eq_true rfl)) dX12_canBeAt_5 ⟨Nat.zero_le _, Nat.zero_le _⟩) ?_
  refine lv_topi (fun x_1 ex_1 => ?_)
  refine lv_istore (lv' := [(5, .int x_1), (0, .ref (ad 57)), (1, .int a1), (2, .int a2), (3, .int a3), (4, .int a4)]) hx hb dX12_canBeAt_8 hl (by decide) rfl (fun ls hl => ?_)
  refine lv_iload hx hb dX12_canBeAt_10 (lv_at hl 0 rfl) ?_
  refine lv_ldc hx hb hown (hts (.constant RX12 201 (-1000000)) (by decide +kernel)) dX12_canBeAt_12 ?_
  refine lv_icmp_ne (tgt := 39) hx hb dX12_canBeAt_14 (by decide) (fun c_2 => ?_) (fun c_2 => ?_)
  · refine lv_iload hx hb dX12_canBeAt_39 (lv_at hl 0 rfl) ?_
    refine lv_iload_n hx hb dX12_canBeAt_41 rfl (lv_at hl 4 rfl) ?_
    refine lv_icmp_ne (tgt := 49) hx hb dX12_canBeAt_42 (by decide) (fun c_3 => ?_) (fun c_3 => ?_)
    · refine lv_iconst (v := 0) hx hb dX12_canBeAt_49 (by decide) ?_
      exact hret _ _ _ dX12_canBeAt_50 rfl (by subst ex_1; simp only [r_X12_canBeAt, if_neg c_2, if_neg c_3])
    · refine lv_iconst (v := 1) hx hb dX12_canBeAt_45 (by decide) ?_
      refine lv_goto (tgt := 50) hx hb dX12_canBeAt_46 (by decide) ?_
      exact hret _ _ _ dX12_canBeAt_50 rfl (by subst ex_1; simp only [r_X12_canBeAt, if_neg c_2, if_pos c_3])
  · have b_4 : wx_b x_1 (-1000000) (-1000000) := by rw [c_2]; exact ⟨by decide, by decide⟩
    refine lv_aload_n hx hb dX12_canBeAt_17 rfl (lv_at hl 1 rfl) ?_
    refine lv_iload_n hx hb dX12_canBeAt_18 rfl (lv_at hl 2 rfl) ?_
    refine lv_iload hx hb dX12_canBeAt_19 (lv_at hl 5 rfl) ?_
    refine wx_callr (va_runV (As := [.int a1, .int a4]) (rest := []) ⟨hx, hb, hml, hown, hts⟩ (k_X12_lookedBy l g a1 a4 b4 hm) (cwV 2 hts gX12_canBeAt_X12_lookedBy rfl rfl rfl (by decide +kernel) (by rw [hR]; exact ⟨Nat.le_of_ble_eq_true rfl, Nat.le_of_ble_eq_true rfl⟩)) ⟨wx_Pc.blind, wx_recv hK hX (by decide) sh_X12 rfl, (wx_Pc.pre hK hX).2⟩ rfl rfl hl.1 rfl (lv_room (Nat.le_of_ble_eq_true rfl)) dX12_canBeAt_21 ⟨Nat.zero_le _, Nat.zero_le _⟩) ?_
    refine lv_iload_n hx hb dX12_canBeAt_24 rfl (lv_at hl 4 rfl) ?_
    refine wx_callr (va_runS (As := [.int (r_X12_lookedBy g a1 a4), .int a3]) (rest := []) ⟨hx, hb, hml, hown, hts⟩ (k_X12_has l g (r_X12_lookedBy g a1 a4) a3) (va_cwS 2 hts gX12_canBeAt_X12_has rfl rfl rfl (by decide +kernel) (by rw [hR]; exact ⟨Nat.le_of_ble_eq_true rfl, Nat.le_of_ble_eq_true rfl⟩)) (wx_Pc.pre hK hX) rfl rfl hl.1 rfl (lv_room (Nat.le_of_ble_eq_true rfl)) dX12_canBeAt_25 ⟨Nat.zero_le _, Nat.zero_le _⟩) ?_
    refine lv_if_ne (tgt := 35) hx hb dX12_canBeAt_28 (by decide) (fun c_5 => ?_) (fun c_5 => ?_)
    · refine lv_iconst (v := 0) hx hb dX12_canBeAt_35 (by decide) ?_
      refine lv_goto (tgt := 50) hx hb dX12_canBeAt_36 (by decide) ?_
      exact hret _ _ _ dX12_canBeAt_50 rfl (by subst ex_1; simp only [r_X12_canBeAt, if_pos c_2, if_neg c_5])
    · have b_6 : wx_b (r_X12_has (r_X12_lookedBy g a1 a4) a3) 0 0 := by rw [c_5]; exact ⟨by decide, by decide⟩
      refine lv_iconst (v := 1) hx hb dX12_canBeAt_31 (by decide) ?_
      refine lv_goto (tgt := 50) hx hb dX12_canBeAt_32 (by decide) ?_
      exact hret _ _ _ dX12_canBeAt_50 rfl (by subst ex_1; simp only [r_X12_canBeAt, if_pos c_2, if_pos c_5])
theorem nb_r_X12_canBeAt (g : wx_M) (a1 : Int32) (a2 : Int32) (a3 : Int32) (a4 : Int32) : narrow .boolean (.int (r_X12_canBeAt g a1 a2 a3 a4)) = .int (r_X12_canBeAt g a1 a2 a3 a4) := by
  simp only [r_X12_canBeAt]
  (repeat' split) <;> first | rfl | exact nb_r_X12_has _ _
def b_X12_suspectsOf_20 (g : wx_M) (a1 : Int32) (a2 : Int32) (a3 : Int32) (t_6 : Nat) (s_6 : Int32) (t_20 : Nat) (s_20 : Int32) : Int32 :=
  if (r_X12_has a3 (nI t_20)) = 0 then
    let x_6 := (s_20 ||| 0)
    x_6
  else
    if (r_X12_canBeAt g a1 (nI t_6) a2 (nI t_20)) = 0 then
      let x_10 := (s_20 ||| 0)
      x_10
    else
      let x_12 := (s_20 ||| (1 <<< ((nI t_6) &&& 31)))
      x_12
def b_X12_suspectsOf_6 (g : wx_M) (a1 : Int32) (a2 : Int32) (a3 : Int32) (t_6 : Nat) (s_6 : Int32) : Int32 :=
  let s_20 := rep 8 (b_X12_suspectsOf_20 g a1 a2 a3 t_6 s_6) s_6
  s_20
def r_X12_suspectsOf (g : wx_M) (a1 : Int32) (a2 : Int32) (a3 : Int32) : Int32 :=
  let s_6 := rep (g 65 (3 : Int32).toNatClampNeg).toNatClampNeg (b_X12_suspectsOf_6 g a1 a2 a3) (0 : Int32)
  s_6
set_option maxHeartbeats 4000000 in
set_option maxRecDepth 100000 in
theorem k_X12_suspectsOf (l : Launch) {D : va_G} {cy : Nat → ClassId} {ad : Nat → Nat} {B0 : Nat} {f : wx_F} {P : va_W} (g : wx_M) (a1 : Int32) (a2 : Int32) (a3 : Int32) (hm : wx_MB g) : Met l yX12_suspectsOf wsX12_suspectsOf ({ frames := 4, cells := 0, slots := 0, locals := 94 } : Room) (wx_Pc D cy ad B0 f P g [.ref (ad 57), .int a1, .int a2, .int a3]) (QcRead (r_X12_suspectsOf g a1 a2 a3)) 0 0 (fun _ => False) := by
  refine wx_enterR (cc := cX12_suspectsOf) (maxL := 7) (ty := .int) (own := RX12) (lv := [(0, .ref (ad 57)), (1, .int a1), (2, .int a2), (3, .int a3)]) (by decide) rfl rfl (Nat.le_of_ble_eq_true rfl) rfl ?_
  intro p e R s m args below meth c ls Qm hx hb hml hown hts hK hX hR hret hl
  have hi_X12 : ∀ w ∈ wsX120, w ∈ wsX12_suspectsOf := by decide +kernel
  refine lv_iconst (v := 0) hx hb dX12_suspectsOf_0 (by decide) ?_
  refine lv_istore (lv' := [(4, .int 0), (0, .ref (ad 57)), (1, .int a1), (2, .int a2), (3, .int a3)]) hx hb dX12_suspectsOf_1 hl (by decide) rfl (fun ls hl => ?_)
  refine lv_iconst (v := 0) hx hb dX12_suspectsOf_3 (by decide) ?_
  refine lv_istore (lv' := [(5, .int 0), (4, .int 0), (0, .ref (ad 57)), (1, .int a1), (2, .int a2), (3, .int a3)]) hx hb dX12_suspectsOf_4 hl (by decide) rfl (fun ls hl => ?_)
  have lp_6 : ∀ (n t_6 : Nat) (s_6 : Int32) (ls : Array Slot), t_6 ≤ (g 65 (3 : Int32).toNatClampNeg).toNatClampNeg → (g 65 (3 : Int32).toNatClampNeg).toNatClampNeg + 1 ≤ t_6 + n → s_6 = rep t_6 (b_X12_suspectsOf_6 g a1 a2 a3) (0 : Int32) → lv_has ls 7 [(5, .int (nI t_6)), (4, .int s_6), (0, .ref (ad 57)), (1, .int a1), (2, .int a2), (3, .int a3)] → W p l e R s m args below meth c s.heap [] 0 0 Qm (F0 m 6 ls []) := by
    intro n
    induction n with
    | zero => intro t_6 s_6 ls h1 h2; exact absurd h2 (by omega)
    | succ n ih_6 =>
      intro t_6 s_6 ls ht_6 hn_6 es_6 hl
      refine lv_iload hx hb dX12_suspectsOf_6 (lv_at hl 0 rfl) ?_
      refine lv_aload_n hx hb dX12_suspectsOf_8 rfl (lv_at hl 2 rfl) ?_
      refine wx_getr (t := 65) (C := RX12) (T := TX12) (N := 27) (ci := 11) (j := 20) hx hb hts hi_X12 hown hK hX (by decide) sh_X12_20 rfl (by decide) (hts (.fieldLink RX12 31 "SeenAgainModel" "now" "[I") (by decide +kernel)) (fun _ h9 => h9) dX12_suspectsOf_9 ?_
      refine lv_iconst (v := 3) hx hb dX12_suspectsOf_12 (by decide) ?_
      refine wx_iald hx hb hK hX (by decide) sa_65 (wb_in (show wx_b 3 3 3 from ⟨by decide, by decide⟩) (by decide) (by decide)) dX12_suspectsOf_13 ?_
      refine lv_icmp_ge (tgt := 74) hx hb dX12_suspectsOf_14 (by decide) (fun c_1 => ?_) (fun c_1 => ?_)
      · have et_6 : t_6 = (g 65 (3 : Int32).toNatClampNeg).toNatClampNeg := Nat.le_antisymm ht_6 (by have h9 := wx_dn (by have := wx_cl31 (g 65 (3 : Int32).toNatClampNeg); omega) c_1; omega)
        subst et_6
        refine lv_iload hx hb dX12_suspectsOf_74 (lv_at hl 1 rfl) ?_
        exact hret _ _ _ dX12_suspectsOf_76 rfl (by simp only [r_X12_suspectsOf, ← es_6])
      · have hlt_6 : t_6 < (g 65 (3 : Int32).toNatClampNeg).toNatClampNeg := by have h9 := wx_up (by have := wx_cl31 (g 65 (3 : Int32).toNatClampNeg); omega) c_1; omega
        have bt_6 : wx_b (nI (t_6)) 0 3 := wb_nI (n := 3) (by have := wb_cl (n := 4) hm.2.1 (by decide); omega) (by decide)
        refine lv_iconst (v := 0) hx hb dX12_suspectsOf_17 (by decide) ?_
        refine lv_istore (lv' := [(6, .int 0), (5, .int (nI t_6)), (4, .int s_6), (0, .ref (ad 57)), (1, .int a1), (2, .int a2), (3, .int a3)]) hx hb dX12_suspectsOf_18 hl (by decide) rfl (fun ls hl => ?_)
        have lp_20 : ∀ (n t_20 : Nat) (s_20 : Int32) (ls : Array Slot), t_20 ≤ 8 → 8 + 1 ≤ t_20 + n → s_20 = rep t_20 (b_X12_suspectsOf_20 g a1 a2 a3 t_6 s_6) s_6 → lv_has ls 7 [(6, .int (nI t_20)), (4, .int s_20), (5, .int (nI t_6)), (0, .ref (ad 57)), (1, .int a1), (2, .int a2), (3, .int a3)] → W p l e R s m args below meth c s.heap [] 0 0 Qm (F0 m 20 ls []) := by
          intro n
          induction n with
          | zero => intro t_20 s_20 ls h1 h2; exact absurd h2 (by omega)
          | succ n ih_20 =>
            intro t_20 s_20 ls ht_20 hn_20 es_20 hl
            refine lv_iload hx hb dX12_suspectsOf_20 (lv_at hl 0 rfl) ?_
            refine lv_bipush (v := 8) hx hb dX12_suspectsOf_22 (by decide) ?_
            refine lv_icmp_ge (tgt := 68) hx hb dX12_suspectsOf_24 (by decide) (fun c_2 => ?_) (fun c_2 => ?_)
            · have et_20 : t_20 = 8 := Nat.le_antisymm ht_20 (by have h9 := wx_dn (by omega) c_2; have h8 : (8 : Int32).toNatClampNeg = 8 := (by decide); omega)
              subst et_20
              refine lv_iinc (v := nI (t_6 + 1)) (lv' := [(5, .int (nI (t_6 + 1))), (6, .int (nI (8))), (4, .int s_20), (0, .ref (ad 57)), (1, .int a1), (2, .int a2), (3, .int a3)]) hx hb dX12_suspectsOf_68 hl (k := 2) rfl (wx_inc _) (by decide) rfl (fun ls hl => ?_)
              refine lv_goto (tgt := 6) hx hb dX12_suspectsOf_71 (by decide) ?_
              have hF_3 : (b_X12_suspectsOf_6 g a1 a2 a3) t_6 s_6 = s_20 := (by simp only [b_X12_suspectsOf_6, ← es_20])
              exact ih_6 (t_6 + 1) s_20 ls hlt_6 (by omega) (by rw [rep_succ, ← es_6, hF_3]) (lv_sub hl [0, 2, 3, 4, 5, 6] rfl)
            · have hlt_20 : t_20 < 8 := by have h9 := wx_up (by omega) c_2; have h8 : (8 : Int32).toNatClampNeg = 8 := (by decide); omega
              have bt_20 : wx_b (nI (t_20)) 0 7 := wb_nI (n := 7) (by omega) (by decide)
              refine lv_iload hx hb dX12_suspectsOf_27 (lv_at hl 1 rfl) ?_
              refine lv_iload_n hx hb dX12_suspectsOf_29 rfl (lv_at hl 6 rfl) ?_
              refine lv_iload hx hb dX12_suspectsOf_30 (lv_at hl 0 rfl) ?_
              refine wx_callr (va_runS (As := [.int a3, .int (nI t_20)]) (rest := [.int s_20]) ⟨hx, hb, hml, hown, hts⟩ (k_X12_has l g a3 (nI t_20)) (va_cwS 2 hts gX12_suspectsOf_X12_has rfl rfl rfl (by decide +kernel) (by rw [hR]; exact ⟨Nat.le_of_ble_eq_true rfl, Nat.le_of_ble_eq_true rfl⟩)) (wx_Pc.pre hK hX) rfl rfl hl.1 rfl (lv_room (Nat.le_of_ble_eq_true rfl)) dX12_suspectsOf_32 ⟨Nat.zero_le _, Nat.zero_le _⟩) ?_
              refine lv_if_eq (tgt := 58) hx hb dX12_suspectsOf_35 (by decide) (fun c_4 => ?_) (fun c_4 => ?_)
              · have b_5 : wx_b (r_X12_has a3 (nI t_20)) 0 0 := by rw [c_4]; exact ⟨by decide, by decide⟩
                refine lv_iconst (v := 0) hx hb dX12_suspectsOf_58 (by decide) ?_
                refine lv_ior hx hb dX12_suspectsOf_59 ?_
                refine lv_topi (fun x_6 ex_6 => ?_)
                refine lv_istore (lv' := [(4, .int x_6), (6, .int (nI t_20)), (5, .int (nI t_6)), (0, .ref (ad 57)), (1, .int a1), (2, .int a2), (3, .int a3)]) hx hb dX12_suspectsOf_60 hl (by decide) rfl (fun ls hl => ?_)
                refine lv_iinc (v := nI (t_20 + 1)) (lv' := [(6, .int (nI (t_20 + 1))), (4, .int x_6), (5, .int (nI t_6)), (0, .ref (ad 57)), (1, .int a1), (2, .int a2), (3, .int a3)]) hx hb dX12_suspectsOf_62 hl (k := 1) rfl (wx_inc _) (by decide) rfl (fun ls hl => ?_)
                refine lv_goto (tgt := 20) hx hb dX12_suspectsOf_65 (by decide) ?_
                have hF_7 : (b_X12_suspectsOf_20 g a1 a2 a3 t_6 s_6) t_20 s_20 = x_6 := (by subst ex_6; simp only [b_X12_suspectsOf_20, if_pos c_4])
                exact ih_20 (t_20 + 1) x_6 ls hlt_20 (by omega) (by rw [rep_succ, ← es_20, hF_7]) (lv_sub hl [0, 1, 2, 3, 4, 5, 6] rfl)
              · refine lv_aload_n hx hb dX12_suspectsOf_38 rfl (lv_at hl 3 rfl) ?_
                refine lv_iload_n hx hb dX12_suspectsOf_39 rfl (lv_at hl 4 rfl) ?_
                refine lv_iload hx hb dX12_suspectsOf_40 (lv_at hl 2 rfl) ?_
                refine lv_iload_n hx hb dX12_suspectsOf_42 rfl (lv_at hl 5 rfl) ?_
                refine lv_iload hx hb dX12_suspectsOf_43 (lv_at hl 0 rfl) ?_
                refine wx_callr (va_runV (As := [.int a1, .int (nI t_6), .int a2, .int (nI t_20)]) (rest := [.int s_20]) ⟨hx, hb, hml, hown, hts⟩ (k_X12_canBeAt l g a1 (nI t_6) a2 (nI t_20) bt_6 bt_20 hm) (cwV 4 hts gX12_suspectsOf_X12_canBeAt rfl rfl rfl (by decide +kernel) (by rw [hR]; exact ⟨Nat.le_of_ble_eq_true rfl, Nat.le_of_ble_eq_true rfl⟩)) ⟨wx_Pc.blind, wx_recv hK hX (by decide) sh_X12 rfl, (wx_Pc.pre hK hX).2⟩ rfl rfl hl.1 rfl (lv_room (Nat.le_of_ble_eq_true rfl)) dX12_suspectsOf_45 ⟨Nat.zero_le _, Nat.zero_le _⟩) ?_
                refine lv_if_eq (tgt := 58) hx hb dX12_suspectsOf_48 (by decide) (fun c_8 => ?_) (fun c_8 => ?_)
                · have b_9 : wx_b (r_X12_canBeAt g a1 (nI t_6) a2 (nI t_20)) 0 0 := by rw [c_8]; exact ⟨by decide, by decide⟩
                  refine lv_iconst (v := 0) hx hb dX12_suspectsOf_58 (by decide) ?_
                  refine lv_ior hx hb dX12_suspectsOf_59 ?_
                  refine lv_topi (fun x_10 ex_10 => ?_)
                  refine lv_istore (lv' := [(4, .int x_10), (6, .int (nI t_20)), (5, .int (nI t_6)), (0, .ref (ad 57)), (1, .int a1), (2, .int a2), (3, .int a3)]) hx hb dX12_suspectsOf_60 hl (by decide) rfl (fun ls hl => ?_)
                  refine lv_iinc (v := nI (t_20 + 1)) (lv' := [(6, .int (nI (t_20 + 1))), (4, .int x_10), (5, .int (nI t_6)), (0, .ref (ad 57)), (1, .int a1), (2, .int a2), (3, .int a3)]) hx hb dX12_suspectsOf_62 hl (k := 1) rfl (wx_inc _) (by decide) rfl (fun ls hl => ?_)
                  refine lv_goto (tgt := 20) hx hb dX12_suspectsOf_65 (by decide) ?_
                  have hF_11 : (b_X12_suspectsOf_20 g a1 a2 a3 t_6 s_6) t_20 s_20 = x_10 := (by subst ex_10; simp only [b_X12_suspectsOf_20, if_neg c_4, if_pos c_8])
                  exact ih_20 (t_20 + 1) x_10 ls hlt_20 (by omega) (by rw [rep_succ, ← es_20, hF_11]) (lv_sub hl [0, 1, 2, 3, 4, 5, 6] rfl)
                · refine lv_iconst (v := 1) hx hb dX12_suspectsOf_51 (by decide) ?_
                  refine lv_iload hx hb dX12_suspectsOf_52 (lv_at hl 2 rfl) ?_
                  refine lv_ishl hx hb dX12_suspectsOf_54 ?_
                  refine lv_goto (tgt := 59) hx hb dX12_suspectsOf_55 (by decide) ?_
                  refine lv_ior hx hb dX12_suspectsOf_59 ?_
                  refine lv_topi (fun x_12 ex_12 => ?_)
                  refine lv_istore (lv' := [(4, .int x_12), (6, .int (nI t_20)), (5, .int (nI t_6)), (0, .ref (ad 57)), (1, .int a1), (2, .int a2), (3, .int a3)]) hx hb dX12_suspectsOf_60 hl (by decide) rfl (fun ls hl => ?_)
                  refine lv_iinc (v := nI (t_20 + 1)) (lv' := [(6, .int (nI (t_20 + 1))), (4, .int x_12), (5, .int (nI t_6)), (0, .ref (ad 57)), (1, .int a1), (2, .int a2), (3, .int a3)]) hx hb dX12_suspectsOf_62 hl (k := 1) rfl (wx_inc _) (by decide) rfl (fun ls hl => ?_)
                  refine lv_goto (tgt := 20) hx hb dX12_suspectsOf_65 (by decide) ?_
                  have hF_13 : (b_X12_suspectsOf_20 g a1 a2 a3 t_6 s_6) t_20 s_20 = x_12 := (by subst ex_12; simp only [b_X12_suspectsOf_20, if_neg c_4, if_neg c_8])
                  exact ih_20 (t_20 + 1) x_12 ls hlt_20 (by omega) (by rw [rep_succ, ← es_20, hF_13]) (lv_sub hl [0, 1, 2, 3, 4, 5, 6] rfl)
        exact lp_20 (8 + 1) 0 s_6 ls (Nat.zero_le _) (by omega) rfl (lv_sub hl [0, 2, 1, 3, 4, 5, 6] rfl)
  exact lp_6 ((g 65 (3 : Int32).toNatClampNeg).toNatClampNeg + 1) 0 (0 : Int32) ls (Nat.zero_le _) (by omega) rfl (lv_sub hl [0, 1, 2, 3, 4, 5] rfl)
def b_X12_settles_5 (g : wx_M) (a1 : Int32) (a2 : Int32) (t_5 : Nat) (s_5 : Int32) : Int32 :=
  if (r_X12_has a1 (nI t_5)) = 0 then
    let x_7 := (s_5 ||| 0)
    x_7
  else
    let x_9 := (s_5 ||| (r_X12_viewOf g (nI t_5) a2))
    x_9
def r_X12_settles (g : wx_M) (a1 : Int32) (a2 : Int32) : Int32 :=
  let s_5 := rep (g 65 (0 : Int32).toNatClampNeg).toNatClampNeg (b_X12_settles_5 g a1 a2) (0 : Int32)
  if (r_X12_bits g s_5) < ((g 65 (0 : Int32).toNatClampNeg) - 1) then
    0
  else
    1
set_option maxHeartbeats 4000000 in
set_option maxRecDepth 100000 in
theorem k_X12_settles (l : Launch) {D : va_G} {cy : Nat → ClassId} {ad : Nat → Nat} {B0 : Nat} {f : wx_F} {P : va_W} (g : wx_M) (a1 : Int32) (a2 : Int32) (b2 : wx_b a2 0 7) (hm : wx_MB g) : Met l yX12_settles wsX12_settles ({ frames := 1, cells := 0, slots := 0, locals := 22 } : Room) (wx_Pc D cy ad B0 f P g [.ref (ad 57), .int a1, .int a2]) (QcRead (r_X12_settles g a1 a2)) 0 0 (fun _ => False) := by
  refine wx_enterR (cc := cX12_settles) (maxL := 5) (ty := .boolean) (own := RX12) (lv := [(0, .ref (ad 57)), (1, .int a1), (2, .int a2)]) (by decide) rfl rfl (Nat.le_of_ble_eq_true rfl) rfl ?_
  intro p e R s m args below meth c ls Qm hx hb hml hown hts hK hX hR hret hl
  have hi_X12 : ∀ w ∈ wsX120, w ∈ wsX12_settles := by decide +kernel
  refine lv_iconst (v := 0) hx hb dX12_settles_0 (by decide) ?_
  refine lv_istore_n (lv' := [(3, .int 0), (0, .ref (ad 57)), (1, .int a1), (2, .int a2)]) hx hb dX12_settles_1 rfl hl (by decide) rfl (fun ls hl => ?_)
  refine lv_iconst (v := 0) hx hb dX12_settles_2 (by decide) ?_
  refine lv_istore (lv' := [(4, .int 0), (3, .int 0), (0, .ref (ad 57)), (1, .int a1), (2, .int a2)]) hx hb dX12_settles_3 hl (by decide) rfl (fun ls hl => ?_)
  have lp_5 : ∀ (n t_5 : Nat) (s_5 : Int32) (ls : Array Slot), t_5 ≤ (g 65 (0 : Int32).toNatClampNeg).toNatClampNeg → (g 65 (0 : Int32).toNatClampNeg).toNatClampNeg + 1 ≤ t_5 + n → s_5 = rep t_5 (b_X12_settles_5 g a1 a2) (0 : Int32) → lv_has ls 5 [(4, .int (nI t_5)), (3, .int s_5), (0, .ref (ad 57)), (1, .int a1), (2, .int a2)] → W p l e R s m args below meth c s.heap [] 0 0 Qm (F0 m 5 ls []) := by
    intro n
    induction n with
    | zero => intro t_5 s_5 ls h1 h2; exact absurd h2 (by omega)
    | succ n ih_5 =>
      intro t_5 s_5 ls ht_5 hn_5 es_5 hl
      refine lv_iload hx hb dX12_settles_5 (lv_at hl 0 rfl) ?_
      refine lv_aload_n hx hb dX12_settles_7 rfl (lv_at hl 2 rfl) ?_
      refine wx_getr (t := 65) (C := RX12) (T := TX12) (N := 27) (ci := 11) (j := 20) hx hb hts hi_X12 hown hK hX (by decide) sh_X12_20 rfl (by decide) (hts (.fieldLink RX12 31 "SeenAgainModel" "now" "[I") (by decide +kernel)) (fun _ h9 => h9) dX12_settles_8 ?_
      refine lv_iconst (v := 0) hx hb dX12_settles_11 (by decide) ?_
      refine wx_iald hx hb hK hX (by decide) sa_65 (wb_in (show wx_b 0 0 0 from ⟨by decide, by decide⟩) (by decide) (by decide)) dX12_settles_12 ?_
      refine lv_icmp_ge (tgt := 45) hx hb dX12_settles_13 (by decide) (fun c_1 => ?_) (fun c_1 => ?_)
      · have et_5 : t_5 = (g 65 (0 : Int32).toNatClampNeg).toNatClampNeg := Nat.le_antisymm ht_5 (by have h9 := wx_dn (by have := wx_cl31 (g 65 (0 : Int32).toNatClampNeg); omega) c_1; omega)
        subst et_5
        refine lv_iload_n hx hb dX12_settles_45 rfl (lv_at hl 1 rfl) ?_
        refine wx_callr (va_runS (As := [.int s_5]) (rest := []) ⟨hx, hb, hml, hown, hts⟩ (k_X12_bits l g s_5) (va_cwS 1 hts gX12_settles_X12_bits rfl rfl rfl (by decide +kernel) (by rw [hR]; exact ⟨Nat.le_of_ble_eq_true rfl, Nat.le_of_ble_eq_true rfl⟩)) (wx_Pc.pre hK hX) rfl rfl hl.1 rfl (lv_room (Nat.le_of_ble_eq_true rfl)) dX12_settles_46 ⟨Nat.zero_le _, Nat.zero_le _⟩) ?_
        refine lv_aload_n hx hb dX12_settles_49 rfl (lv_at hl 2 rfl) ?_
        refine wx_getr (t := 65) (C := RX12) (T := TX12) (N := 27) (ci := 11) (j := 20) hx hb hts hi_X12 hown hK hX (by decide) sh_X12_20 rfl (by decide) (hts (.fieldLink RX12 31 "SeenAgainModel" "now" "[I") (by decide +kernel)) (fun _ h9 => h9) dX12_settles_50 ?_
        refine lv_iconst (v := 0) hx hb dX12_settles_53 (by decide) ?_
        refine wx_iald hx hb hK hX (by decide) sa_65 (wb_in (show wx_b 0 0 0 from ⟨by decide, by decide⟩) (by decide) (by decide)) dX12_settles_54 ?_
        refine lv_iconst (v := 1) hx hb dX12_settles_55 (by decide) ?_
        refine lv_isub hx hb dX12_settles_56 ?_
        refine lv_icmp_lt (tgt := 64) hx hb dX12_settles_57 (by decide) (fun c_2 => ?_) (fun c_2 => ?_)
        · have b_3 : wx_b (r_X12_bits g s_5) (-2147483648) 4 := wb_lt c_2 (wb_any _) (wb_sub hm.1 (show wx_b 1 1 1 from ⟨by decide, by decide⟩) (by decide) (by decide)) (by decide) (by decide)
          refine lv_iconst (v := 0) hx hb dX12_settles_64 (by decide) ?_
          exact hret _ _ _ dX12_settles_65 rfl (by simp only [r_X12_settles, if_pos c_2, ← es_5])
        · have b_4 : wx_b (r_X12_bits g s_5) (-1) 2147483647 := wb_ge (wb_nlt c_2) (wb_any _) (wb_sub hm.1 (show wx_b 1 1 1 from ⟨by decide, by decide⟩) (by decide) (by decide)) (by decide) (by decide)
          refine lv_iconst (v := 1) hx hb dX12_settles_60 (by decide) ?_
          refine lv_goto (tgt := 65) hx hb dX12_settles_61 (by decide) ?_
          exact hret _ _ _ dX12_settles_65 rfl (by simp only [r_X12_settles, if_neg c_2, ← es_5])
      · have hlt_5 : t_5 < (g 65 (0 : Int32).toNatClampNeg).toNatClampNeg := by have h9 := wx_up (by have := wx_cl31 (g 65 (0 : Int32).toNatClampNeg); omega) c_1; omega
        have bt_5 : wx_b (nI (t_5)) 0 5 := wb_nI (n := 5) (by have := wb_cl (n := 6) hm.1 (by decide); omega) (by decide)
        refine lv_iload_n hx hb dX12_settles_16 rfl (lv_at hl 1 rfl) ?_
        refine lv_iload_n hx hb dX12_settles_17 rfl (lv_at hl 3 rfl) ?_
        refine lv_iload hx hb dX12_settles_18 (lv_at hl 0 rfl) ?_
        refine wx_callr (va_runS (As := [.int a1, .int (nI t_5)]) (rest := [.int s_5]) ⟨hx, hb, hml, hown, hts⟩ (k_X12_has l g a1 (nI t_5)) (va_cwS 2 hts gX12_settles_X12_has rfl rfl rfl (by decide +kernel) (by rw [hR]; exact ⟨Nat.le_of_ble_eq_true rfl, Nat.le_of_ble_eq_true rfl⟩)) (wx_Pc.pre hK hX) rfl rfl hl.1 rfl (lv_room (Nat.le_of_ble_eq_true rfl)) dX12_settles_20 ⟨Nat.zero_le _, Nat.zero_le _⟩) ?_
        refine lv_if_eq (tgt := 36) hx hb dX12_settles_23 (by decide) (fun c_5 => ?_) (fun c_5 => ?_)
        · have b_6 : wx_b (r_X12_has a1 (nI t_5)) 0 0 := by rw [c_5]; exact ⟨by decide, by decide⟩
          refine lv_iconst (v := 0) hx hb dX12_settles_36 (by decide) ?_
          refine lv_ior hx hb dX12_settles_37 ?_
          refine lv_topi (fun x_7 ex_7 => ?_)
          refine lv_istore_n (lv' := [(3, .int x_7), (4, .int (nI t_5)), (0, .ref (ad 57)), (1, .int a1), (2, .int a2)]) hx hb dX12_settles_38 rfl hl (by decide) rfl (fun ls hl => ?_)
          refine lv_iinc (v := nI (t_5 + 1)) (lv' := [(4, .int (nI (t_5 + 1))), (3, .int x_7), (0, .ref (ad 57)), (1, .int a1), (2, .int a2)]) hx hb dX12_settles_39 hl (k := 1) rfl (wx_inc _) (by decide) rfl (fun ls hl => ?_)
          refine lv_goto (tgt := 5) hx hb dX12_settles_42 (by decide) ?_
          have hF_8 : (b_X12_settles_5 g a1 a2) t_5 s_5 = x_7 := (by subst ex_7; simp only [b_X12_settles_5, if_pos c_5])
          exact ih_5 (t_5 + 1) x_7 ls hlt_5 (by omega) (by rw [rep_succ, ← es_5, hF_8]) (lv_sub hl [0, 1, 2, 3, 4] rfl)
        · refine lv_aload_n hx hb dX12_settles_26 rfl (lv_at hl 2 rfl) ?_
          refine lv_iload hx hb dX12_settles_27 (lv_at hl 0 rfl) ?_
          refine lv_iload_n hx hb dX12_settles_29 rfl (lv_at hl 4 rfl) ?_
          refine wx_callr (va_runV (As := [.int (nI t_5), .int a2]) (rest := [.int s_5]) ⟨hx, hb, hml, hown, hts⟩ (k_X12_viewOf l g (nI t_5) a2 bt_5 b2) (cwV 2 hts gX12_settles_X12_viewOf rfl rfl rfl (by decide +kernel) (by rw [hR]; exact ⟨Nat.le_of_ble_eq_true rfl, Nat.le_of_ble_eq_true rfl⟩)) ⟨wx_Pc.blind, wx_recv hK hX (by decide) sh_X12 rfl, (wx_Pc.pre hK hX).2⟩ rfl rfl hl.1 rfl (lv_room (Nat.le_of_ble_eq_true rfl)) dX12_settles_30 ⟨Nat.zero_le _, Nat.zero_le _⟩) ?_
          refine lv_goto (tgt := 37) hx hb dX12_settles_33 (by decide) ?_
          refine lv_ior hx hb dX12_settles_37 ?_
          refine lv_topi (fun x_9 ex_9 => ?_)
          refine lv_istore_n (lv' := [(3, .int x_9), (4, .int (nI t_5)), (0, .ref (ad 57)), (1, .int a1), (2, .int a2)]) hx hb dX12_settles_38 rfl hl (by decide) rfl (fun ls hl => ?_)
          refine lv_iinc (v := nI (t_5 + 1)) (lv' := [(4, .int (nI (t_5 + 1))), (3, .int x_9), (0, .ref (ad 57)), (1, .int a1), (2, .int a2)]) hx hb dX12_settles_39 hl (k := 1) rfl (wx_inc _) (by decide) rfl (fun ls hl => ?_)
          refine lv_goto (tgt := 5) hx hb dX12_settles_42 (by decide) ?_
          have hF_10 : (b_X12_settles_5 g a1 a2) t_5 s_5 = x_9 := (by subst ex_9; simp only [b_X12_settles_5, if_neg c_5])
          exact ih_5 (t_5 + 1) x_9 ls hlt_5 (by omega) (by rw [rep_succ, ← es_5, hF_10]) (lv_sub hl [0, 1, 2, 3, 4] rfl)
  exact lp_5 ((g 65 (0 : Int32).toNatClampNeg).toNatClampNeg + 1) 0 (0 : Int32) ls (Nat.zero_le _) (by omega) rfl (lv_sub hl [0, 1, 2, 3, 4] rfl)
theorem nb_r_X12_settles (g : wx_M) (a1 : Int32) (a2 : Int32) : narrow .boolean (.int (r_X12_settles g a1 a2)) = .int (r_X12_settles g a1 a2) := by
  simp only [r_X12_settles]
  (repeat' split) <;> first | rfl | exact nb_r_X12_has _ _
def b_X12_costOf_24 (g : wx_M) (a1 : Int32) (a2 : Int32) (a3 : Int32) (t_24 : Nat) (s_24 : Int32) : Int32 :=
  if (r_X12_isLeft g (nI t_24) a3) = 0 then
    s_24
  else
    if (r_X12_has (r_X12_viewOf g (nI t_24) a3) (r_X12_was g a2 a3)) = 0 then
      s_24
    else
      let x_10 := (r_X12_priceOf g a1 (nI t_24) a3)
      if s_24 ≤ x_10 then
        s_24
      else
        x_10
def r_X12_costOf (g : wx_M) (a1 : Int32) (a2 : Int32) (a3 : Int32) : Int32 :=
  if (r_X12_seenBy g (1 <<< (a1 &&& 31)) a2 a3) = (-1000000) then
    let s_24 := rep (g 65 (0 : Int32).toNatClampNeg).toNatClampNeg (b_X12_costOf_24 g a1 a2 a3) (10000 : Int32)
    s_24
  else
    0
set_option maxHeartbeats 4000000 in
set_option maxRecDepth 100000 in
theorem k_X12_costOf (l : Launch) {D : va_G} {cy : Nat → ClassId} {ad : Nat → Nat} {B0 : Nat} {f : wx_F} {P : va_W} (g : wx_M) (a1 : Int32) (a2 : Int32) (a3 : Int32) (b1 : wx_b a1 0 3) (b2 : wx_b a2 0 3) (b3 : wx_b a3 0 7) (hm : wx_MB g) : Met l yX12_costOf wsX12_costOf ({ frames := 3, cells := 0, slots := 0, locals := 69 } : Room) (wx_Pc D cy ad B0 f P g [.ref (ad 57), .int a1, .int a2, .int a3]) (QcRead (r_X12_costOf g a1 a2 a3)) 0 0 (fun _ => False) := by
  refine wx_enterR (cc := cX12_costOf) (maxL := 7) (ty := .int) (own := RX12) (lv := [(0, .ref (ad 57)), (1, .int a1), (2, .int a2), (3, .int a3)]) (by decide) rfl rfl (Nat.le_of_ble_eq_true rfl) rfl ?_
  intro p e R s m args below meth c ls Qm hx hb hml hown hts hK hX hR hret hl
  have hi_X12 : ∀ w ∈ wsX120, w ∈ wsX12_costOf := by decide +kernel
  refine lv_aload_n hx hb dX12_costOf_0 rfl (lv_at hl 0 rfl) ?_
  refine lv_iconst (v := 1) hx hb dX12_costOf_1 (by decide) ?_
  refine lv_iload_n hx hb dX12_costOf_2 rfl (lv_at hl 1 rfl) ?_
  refine lv_ishl hx hb dX12_costOf_3 ?_
  refine lv_iload_n hx hb dX12_costOf_4 rfl (lv_at hl 2 rfl) ?_
  refine lv_iload_n hx hb dX12_costOf_5 rfl (lv_at hl 3 rfl) ?_
  refine wx_callr (va_runV (As := [.int (1 <<< (a1 &&& 31)), .int a2, .int a3]) (rest := []) ⟨hx, hb, hml, hown, hts⟩ (k_X12_seenBy l g (1 <<< (a1 &&& 31)) a2 a3 b2 b3 hm) (cwV 3 hts gX12_costOf_X12_seenBy rfl rfl rfl (by decide +kernel) (by rw [hR]; exact ⟨Nat.le_of_ble_eq_true rfl, Nat.le_of_ble_eq_true rfl⟩)) ⟨wx_Pc.blind, wx_recv hK hX (by decide) sh_X12 rfl, (wx_Pc.pre hK hX).2⟩ rfl rfl hl.1 rfl (lv_room (Nat.le_of_ble_eq_true rfl)) dX12_costOf_6 ⟨Nat.zero_le _, Nat.zero_le _⟩) ?_
  refine lv_ldc hx hb hown (hts (.constant RX12 201 (-1000000)) (by decide +kernel)) dX12_costOf_9 ?_
  refine lv_icmp_eq (tgt := 16) hx hb dX12_costOf_11 (by decide) (fun c_1 => ?_) (fun c_1 => ?_)
  · have b_2 : wx_b (r_X12_seenBy g (1 <<< (a1 &&& 31)) a2 a3) (-1000000) (-1000000) := by rw [c_1]; exact ⟨by decide, by decide⟩
    refine lv_sipush (v := 10000) hx hb dX12_costOf_16 (by decide) ?_
    refine lv_istore (lv' := [(4, .int 10000), (0, .ref (ad 57)), (1, .int a1), (2, .int a2), (3, .int a3)]) hx hb dX12_costOf_19 hl (by decide) rfl (fun ls hl => ?_)
    refine lv_iconst (v := 0) hx hb dX12_costOf_21 (by decide) ?_
    refine lv_istore (lv' := [(5, .int 0), (4, .int 10000), (0, .ref (ad 57)), (1, .int a1), (2, .int a2), (3, .int a3)]) hx hb dX12_costOf_22 hl (by decide) rfl (fun ls hl => ?_)
    have lp_24 : ∀ (n t_24 : Nat) (s_24 : Int32) (ls : Array Slot), t_24 ≤ (g 65 (0 : Int32).toNatClampNeg).toNatClampNeg → (g 65 (0 : Int32).toNatClampNeg).toNatClampNeg + 1 ≤ t_24 + n → s_24 = rep t_24 (b_X12_costOf_24 g a1 a2 a3) (10000 : Int32) → lv_has ls 7 [(5, .int (nI t_24)), (4, .int s_24), (0, .ref (ad 57)), (1, .int a1), (2, .int a2), (3, .int a3)] → W p l e R s m args below meth c s.heap [] 0 0 Qm (F0 m 24 ls []) := by
      intro n
      induction n with
      | zero => intro t_24 s_24 ls h1 h2; exact absurd h2 (by omega)
      | succ n ih_24 =>
        intro t_24 s_24 ls ht_24 hn_24 es_24 hl
        refine lv_iload hx hb dX12_costOf_24 (lv_at hl 0 rfl) ?_
        refine lv_aload_n hx hb dX12_costOf_26 rfl (lv_at hl 2 rfl) ?_
        refine wx_getr (t := 65) (C := RX12) (T := TX12) (N := 27) (ci := 11) (j := 20) hx hb hts hi_X12 hown hK hX (by decide) sh_X12_20 rfl (by decide) (hts (.fieldLink RX12 31 "SeenAgainModel" "now" "[I") (by decide +kernel)) (fun _ h9 => h9) dX12_costOf_27 ?_
        refine lv_iconst (v := 0) hx hb dX12_costOf_30 (by decide) ?_
        refine wx_iald hx hb hK hX (by decide) sa_65 (wb_in (show wx_b 0 0 0 from ⟨by decide, by decide⟩) (by decide) (by decide)) dX12_costOf_31 ?_
        refine lv_icmp_ge (tgt := 96) hx hb dX12_costOf_32 (by decide) (fun c_3 => ?_) (fun c_3 => ?_)
        · have et_24 : t_24 = (g 65 (0 : Int32).toNatClampNeg).toNatClampNeg := Nat.le_antisymm ht_24 (by have h9 := wx_dn (by have := wx_cl31 (g 65 (0 : Int32).toNatClampNeg); omega) c_3; omega)
          subst et_24
          refine lv_iload hx hb dX12_costOf_96 (lv_at hl 1 rfl) ?_
          exact hret _ _ _ dX12_costOf_98 rfl (by simp only [r_X12_costOf, if_pos c_1, ← es_24])
        · have hlt_24 : t_24 < (g 65 (0 : Int32).toNatClampNeg).toNatClampNeg := by have h9 := wx_up (by have := wx_cl31 (g 65 (0 : Int32).toNatClampNeg); omega) c_3; omega
          have bt_24 : wx_b (nI (t_24)) 0 5 := wb_nI (n := 5) (by have := wb_cl (n := 6) hm.1 (by decide); omega) (by decide)
          refine lv_aload_n hx hb dX12_costOf_35 rfl (lv_at hl 2 rfl) ?_
          refine lv_iload hx hb dX12_costOf_36 (lv_at hl 0 rfl) ?_
          refine lv_iload_n hx hb dX12_costOf_38 rfl (lv_at hl 5 rfl) ?_
          refine wx_callr (va_runV (As := [.int (nI t_24), .int a3]) (rest := []) ⟨hx, hb, hml, hown, hts⟩ (k_X12_isLeft l g (nI t_24) a3 bt_24 b3) (cwV 2 hts gX12_costOf_X12_isLeft rfl rfl rfl (by decide +kernel) (by rw [hR]; exact ⟨Nat.le_of_ble_eq_true rfl, Nat.le_of_ble_eq_true rfl⟩)) ⟨wx_Pc.blind, wx_recv hK hX (by decide) sh_X12 rfl, (wx_Pc.pre hK hX).2⟩ rfl rfl hl.1 rfl (lv_room (Nat.le_of_ble_eq_true rfl)) dX12_costOf_39 ⟨Nat.zero_le _, Nat.zero_le _⟩) ?_
          refine lv_if_eq (tgt := 90) hx hb dX12_costOf_42 (by decide) (fun c_4 => ?_) (fun c_4 => ?_)
          · have b_5 : wx_b (r_X12_isLeft g (nI t_24) a3) 0 0 := by rw [c_4]; exact ⟨by decide, by decide⟩
            refine lv_iinc (v := nI (t_24 + 1)) (lv' := [(5, .int (nI (t_24 + 1))), (4, .int s_24), (0, .ref (ad 57)), (1, .int a1), (2, .int a2), (3, .int a3)]) hx hb dX12_costOf_90 hl (k := 0) rfl (wx_inc _) (by decide) rfl (fun ls hl => ?_)
            refine lv_goto (tgt := 24) hx hb dX12_costOf_93 (by decide) ?_
            have hF_6 : (b_X12_costOf_24 g a1 a2 a3) t_24 s_24 = s_24 := (by simp only [b_X12_costOf_24, if_pos c_4])
            exact ih_24 (t_24 + 1) s_24 ls hlt_24 (by omega) (by rw [rep_succ, ← es_24, hF_6]) (lv_sub hl [0, 1, 2, 3, 4, 5] rfl)
          · refine lv_aload_n hx hb dX12_costOf_45 rfl (lv_at hl 2 rfl) ?_
            refine lv_iload hx hb dX12_costOf_46 (lv_at hl 0 rfl) ?_
            refine lv_iload_n hx hb dX12_costOf_48 rfl (lv_at hl 5 rfl) ?_
            refine wx_callr (va_runV (As := [.int (nI t_24), .int a3]) (rest := []) ⟨hx, hb, hml, hown, hts⟩ (k_X12_viewOf l g (nI t_24) a3 bt_24 b3) (cwV 2 hts gX12_costOf_X12_viewOf rfl rfl rfl (by decide +kernel) (by rw [hR]; exact ⟨Nat.le_of_ble_eq_true rfl, Nat.le_of_ble_eq_true rfl⟩)) ⟨wx_Pc.blind, wx_recv hK hX (by decide) sh_X12 rfl, (wx_Pc.pre hK hX).2⟩ rfl rfl hl.1 rfl (lv_room (Nat.le_of_ble_eq_true rfl)) dX12_costOf_49 ⟨Nat.zero_le _, Nat.zero_le _⟩) ?_
            refine lv_aload_n hx hb dX12_costOf_52 rfl (lv_at hl 2 rfl) ?_
            refine lv_iload_n hx hb dX12_costOf_53 rfl (lv_at hl 4 rfl) ?_
            refine lv_iload_n hx hb dX12_costOf_54 rfl (lv_at hl 5 rfl) ?_
            refine wx_callr (va_runV (As := [.int a2, .int a3]) (rest := [.int (r_X12_viewOf g (nI t_24) a3)]) ⟨hx, hb, hml, hown, hts⟩ (k_X12_was l g a2 a3 b2 b3) (cwV 2 hts gX12_costOf_X12_was rfl rfl rfl (by decide +kernel) (by rw [hR]; exact ⟨Nat.le_of_ble_eq_true rfl, Nat.le_of_ble_eq_true rfl⟩)) ⟨wx_Pc.blind, wx_recv hK hX (by decide) sh_X12 rfl, (wx_Pc.pre hK hX).2⟩ rfl rfl hl.1 rfl (lv_room (Nat.le_of_ble_eq_true rfl)) dX12_costOf_55 ⟨Nat.zero_le _, Nat.zero_le _⟩) ?_
            refine wx_callr (va_runS (As := [.int (r_X12_viewOf g (nI t_24) a3), .int (r_X12_was g a2 a3)]) (rest := []) ⟨hx, hb, hml, hown, hts⟩ (k_X12_has l g (r_X12_viewOf g (nI t_24) a3) (r_X12_was g a2 a3)) (va_cwS 2 hts gX12_costOf_X12_has rfl rfl rfl (by decide +kernel) (by rw [hR]; exact ⟨Nat.le_of_ble_eq_true rfl, Nat.le_of_ble_eq_true rfl⟩)) (wx_Pc.pre hK hX) rfl rfl hl.1 rfl (lv_room (Nat.le_of_ble_eq_true rfl)) dX12_costOf_58 ⟨Nat.zero_le _, Nat.zero_le _⟩) ?_
            refine lv_if_eq (tgt := 90) hx hb dX12_costOf_61 (by decide) (fun c_7 => ?_) (fun c_7 => ?_)
            · have b_8 : wx_b (r_X12_has (r_X12_viewOf g (nI t_24) a3) (r_X12_was g a2 a3)) 0 0 := by rw [c_7]; exact ⟨by decide, by decide⟩
              refine lv_iinc (v := nI (t_24 + 1)) (lv' := [(5, .int (nI (t_24 + 1))), (4, .int s_24), (0, .ref (ad 57)), (1, .int a1), (2, .int a2), (3, .int a3)]) hx hb dX12_costOf_90 hl (k := 0) rfl (wx_inc _) (by decide) rfl (fun ls hl => ?_)
              refine lv_goto (tgt := 24) hx hb dX12_costOf_93 (by decide) ?_
              have hF_9 : (b_X12_costOf_24 g a1 a2 a3) t_24 s_24 = s_24 := (by simp only [b_X12_costOf_24, if_neg c_4, if_pos c_7])
              exact ih_24 (t_24 + 1) s_24 ls hlt_24 (by omega) (by rw [rep_succ, ← es_24, hF_9]) (lv_sub hl [0, 1, 2, 3, 4, 5] rfl)
            · refine lv_aload_n hx hb dX12_costOf_64 rfl (lv_at hl 2 rfl) ?_
              refine lv_iload_n hx hb dX12_costOf_65 rfl (lv_at hl 3 rfl) ?_
              refine lv_iload hx hb dX12_costOf_66 (lv_at hl 0 rfl) ?_
              refine lv_iload_n hx hb dX12_costOf_68 rfl (lv_at hl 5 rfl) ?_
              refine wx_callr (va_runV (As := [.int a1, .int (nI t_24), .int a3]) (rest := []) ⟨hx, hb, hml, hown, hts⟩ (k_X12_priceOf l g a1 (nI t_24) a3 b1 bt_24 b3 hm) (cwV 3 hts gX12_costOf_X12_priceOf rfl rfl rfl (by decide +kernel) (by rw [hR]; exact ⟨Nat.le_of_ble_eq_true rfl, Nat.le_of_ble_eq_true rfl⟩)) ⟨wx_Pc.blind, wx_recv hK hX (by decide) sh_X12 rfl, (wx_Pc.pre hK hX).2⟩ rfl rfl hl.1 rfl (lv_room (Nat.le_of_ble_eq_true rfl)) dX12_costOf_69 ⟨Nat.zero_le _, Nat.zero_le _⟩) ?_
              refine lv_topi (fun x_10 ex_10 => ?_)
              refine lv_istore (lv' := [(6, .int x_10), (5, .int (nI t_24)), (4, .int s_24), (0, .ref (ad 57)), (1, .int a1), (2, .int a2), (3, .int a3)]) hx hb dX12_costOf_72 hl (by decide) rfl (fun ls hl => ?_)
              refine lv_iload hx hb dX12_costOf_74 (lv_at hl 0 rfl) ?_
              refine lv_iload hx hb dX12_costOf_76 (lv_at hl 2 rfl) ?_
              refine lv_icmp_ge (tgt := 86) hx hb dX12_costOf_78 (by decide) (fun c_11 => ?_) (fun c_11 => ?_)
              · refine lv_iload hx hb dX12_costOf_86 (lv_at hl 2 rfl) ?_
                refine lv_istore (lv' := [(4, .int s_24), (6, .int x_10), (5, .int (nI t_24)), (0, .ref (ad 57)), (1, .int a1), (2, .int a2), (3, .int a3)]) hx hb dX12_costOf_88 hl (by decide) rfl (fun ls hl => ?_)
                refine lv_iinc (v := nI (t_24 + 1)) (lv' := [(5, .int (nI (t_24 + 1))), (4, .int s_24), (6, .int x_10), (0, .ref (ad 57)), (1, .int a1), (2, .int a2), (3, .int a3)]) hx hb dX12_costOf_90 hl (k := 2) rfl (wx_inc _) (by decide) rfl (fun ls hl => ?_)
                refine lv_goto (tgt := 24) hx hb dX12_costOf_93 (by decide) ?_
                have hF_12 : (b_X12_costOf_24 g a1 a2 a3) t_24 s_24 = s_24 := (by subst ex_10; simp only [b_X12_costOf_24, if_neg c_4, if_neg c_7, if_pos c_11])
                exact ih_24 (t_24 + 1) s_24 ls hlt_24 (by omega) (by rw [rep_succ, ← es_24, hF_12]) (lv_sub hl [0, 1, 3, 4, 5, 6] rfl)
              · have b_13 : wx_b x_10 (-2147483648) 2147483646 := wb_lt (wb_nle c_11) (wb_any _) (wb_any _) (by decide) (by decide)
                have b_14 : wx_b s_24 (-2147483647) 2147483647 := wb_gt (wb_nle c_11) (wb_any _) (wb_any _) (by decide) (by decide)
                refine lv_iload hx hb dX12_costOf_81 (lv_at hl 0 rfl) ?_
                refine lv_goto (tgt := 88) hx hb dX12_costOf_83 (by decide) ?_
                refine lv_istore (lv' := [(4, .int x_10), (6, .int x_10), (5, .int (nI t_24)), (0, .ref (ad 57)), (1, .int a1), (2, .int a2), (3, .int a3)]) hx hb dX12_costOf_88 hl (by decide) rfl (fun ls hl => ?_)
                refine lv_iinc (v := nI (t_24 + 1)) (lv' := [(5, .int (nI (t_24 + 1))), (4, .int x_10), (6, .int x_10), (0, .ref (ad 57)), (1, .int a1), (2, .int a2), (3, .int a3)]) hx hb dX12_costOf_90 hl (k := 2) rfl (wx_inc _) (by decide) rfl (fun ls hl => ?_)
                refine lv_goto (tgt := 24) hx hb dX12_costOf_93 (by decide) ?_
                have hF_15 : (b_X12_costOf_24 g a1 a2 a3) t_24 s_24 = x_10 := (by subst ex_10; simp only [b_X12_costOf_24, if_neg c_4, if_neg c_7, if_neg c_11])
                exact ih_24 (t_24 + 1) x_10 ls hlt_24 (by omega) (by rw [rep_succ, ← es_24, hF_15]) (lv_sub hl [0, 1, 3, 4, 5, 6] rfl)
    exact lp_24 ((g 65 (0 : Int32).toNatClampNeg).toNatClampNeg + 1) 0 (10000 : Int32) ls (Nat.zero_le _) (by omega) rfl (lv_sub hl [0, 1, 2, 3, 4, 5] rfl)
  · refine lv_iconst (v := 0) hx hb dX12_costOf_14 (by decide) ?_
    exact hret _ _ _ dX12_costOf_15 rfl (by simp only [r_X12_costOf, if_neg c_1])
def r_X12_toldBy (g : wx_M) (a1 : Int32) (a2 : Int32) (a3 : Int32) : Int32 :=
  let x_1 := (r_X12_seenBy g (1 <<< (a1 &&& 31)) a2 a3)
  if x_1 = (-1000000) then
    x_1
  else
    if (g 65 (43 + a1).toNatClampNeg) = 2 then
      ((x_1 + 1) - (x_1 + 1) / (g 65 (0 : Int32).toNatClampNeg) * (g 65 (0 : Int32).toNatClampNeg))
    else
      x_1
set_option maxHeartbeats 4000000 in
set_option maxRecDepth 100000 in
theorem k_X12_toldBy (l : Launch) {D : va_G} {cy : Nat → ClassId} {ad : Nat → Nat} {B0 : Nat} {f : wx_F} {P : va_W} (g : wx_M) (a1 : Int32) (a2 : Int32) (a3 : Int32) (b1 : wx_b a1 0 3) (b2 : wx_b a2 0 3) (b3 : wx_b a3 0 7) (hm : wx_MB g) (hr0 : wx_b (g 65 (0 : Int32).toNatClampNeg) 1 6) : Met l yX12_toldBy wsX12_toldBy ({ frames := 3, cells := 0, slots := 0, locals := 69 } : Room) (wx_Pc D cy ad B0 f P g [.ref (ad 57), .int a1, .int a2, .int a3]) (QcRead (r_X12_toldBy g a1 a2 a3)) 0 0 (fun _ => False) := by
  refine wx_enterR (cc := cX12_toldBy) (maxL := 5) (ty := .int) (own := RX12) (lv := [(0, .ref (ad 57)), (1, .int a1), (2, .int a2), (3, .int a3)]) (by decide) rfl rfl (Nat.le_of_ble_eq_true rfl) rfl ?_
  intro p e R s m args below meth c ls Qm hx hb hml hown hts hK hX hR hret hl
  have hi_X12 : ∀ w ∈ wsX120, w ∈ wsX12_toldBy := by decide +kernel
  refine lv_aload_n hx hb dX12_toldBy_0 rfl (lv_at hl 0 rfl) ?_
  refine lv_iconst (v := 1) hx hb dX12_toldBy_1 (by decide) ?_
  refine lv_iload_n hx hb dX12_toldBy_2 rfl (lv_at hl 1 rfl) ?_
  refine lv_ishl hx hb dX12_toldBy_3 ?_
  refine lv_iload_n hx hb dX12_toldBy_4 rfl (lv_at hl 2 rfl) ?_
  refine lv_iload_n hx hb dX12_toldBy_5 rfl (lv_at hl 3 rfl) ?_
  refine wx_callr (va_runV (As := [.int (1 <<< (a1 &&& 31)), .int a2, .int a3]) (rest := []) ⟨hx, hb, hml, hown, hts⟩ (k_X12_seenBy l g (1 <<< (a1 &&& 31)) a2 a3 b2 b3 hm) (cwV 3 hts gX12_toldBy_X12_seenBy rfl rfl rfl (by decide +kernel) (by rw [hR]; exact ⟨Nat.le_of_ble_eq_true rfl, Nat.le_of_ble_eq_true rfl⟩)) ⟨wx_Pc.blind, wx_recv hK hX (by decide) sh_X12 rfl, (wx_Pc.pre hK hX).2⟩ rfl rfl hl.1 rfl (lv_room (Nat.le_of_ble_eq_true rfl)) dX12_toldBy_6 ⟨Nat.zero_le _, Nat.zero_le _⟩) ?_
  refine lv_topi (fun x_1 ex_1 => ?_)
  refine lv_istore (lv' := [(4, .int x_1), (0, .ref (ad 57)), (1, .int a1), (2, .int a2), (3, .int a3)]) hx hb dX12_toldBy_9 hl (by decide) rfl (fun ls hl => ?_)
  refine lv_iload hx hb dX12_toldBy_11 (lv_at hl 0 rfl) ?_
  refine lv_ldc hx hb hown (hts (.constant RX12 201 (-1000000)) (by decide +kernel)) dX12_toldBy_13 ?_
  refine lv_icmp_eq (tgt := 31) hx hb dX12_toldBy_15 (by decide) (fun c_2 => ?_) (fun c_2 => ?_)
  · have b_3 : wx_b x_1 (-1000000) (-1000000) := by rw [c_2]; exact ⟨by decide, by decide⟩
    refine lv_iload hx hb dX12_toldBy_31 (lv_at hl 0 rfl) ?_
    refine lv_goto (tgt := 47) hx hb dX12_toldBy_33 (by decide) ?_
    exact hret _ _ _ dX12_toldBy_47 rfl (by subst ex_1; simp only [r_X12_toldBy, if_pos c_2])
  · refine lv_aload_n hx hb dX12_toldBy_18 rfl (lv_at hl 1 rfl) ?_
    refine wx_getr (t := 65) (C := RX12) (T := TX12) (N := 27) (ci := 11) (j := 20) hx hb hts hi_X12 hown hK hX (by decide) sh_X12_20 rfl (by decide) (hts (.fieldLink RX12 31 "SeenAgainModel" "now" "[I") (by decide +kernel)) (fun _ h9 => h9) dX12_toldBy_19 ?_
    refine lv_bipush (v := 43) hx hb dX12_toldBy_22 (by decide) ?_
    refine lv_iload_n hx hb dX12_toldBy_24 rfl (lv_at hl 2 rfl) ?_
    refine lv_iadd hx hb dX12_toldBy_25 ?_
    refine wx_iald hx hb hK hX (by decide) sa_65 (wb_in (wb_add (show wx_b 43 43 43 from ⟨by decide, by decide⟩) b1 (by decide) (by decide)) (by decide) (by decide)) dX12_toldBy_26 ?_
    refine lv_iconst (v := 2) hx hb dX12_toldBy_27 (by decide) ?_
    refine lv_icmp_eq (tgt := 36) hx hb dX12_toldBy_28 (by decide) (fun c_4 => ?_) (fun c_4 => ?_)
    · have b_5 : wx_b (g 65 (43 + a1).toNatClampNeg) 2 2 := by rw [c_4]; exact ⟨by decide, by decide⟩
      refine lv_iload hx hb dX12_toldBy_36 (lv_at hl 0 rfl) ?_
      refine lv_iconst (v := 1) hx hb dX12_toldBy_38 (by decide) ?_
      refine lv_iadd hx hb dX12_toldBy_39 ?_
      refine lv_aload_n hx hb dX12_toldBy_40 rfl (lv_at hl 1 rfl) ?_
      refine wx_getr (t := 65) (C := RX12) (T := TX12) (N := 27) (ci := 11) (j := 20) hx hb hts hi_X12 hown hK hX (by decide) sh_X12_20 rfl (by decide) (hts (.fieldLink RX12 31 "SeenAgainModel" "now" "[I") (by decide +kernel)) (fun _ h9 => h9) dX12_toldBy_41 ?_
      refine lv_iconst (v := 0) hx hb dX12_toldBy_44 (by decide) ?_
      refine wx_iald hx hb hK hX (by decide) sa_65 (wb_in (show wx_b 0 0 0 from ⟨by decide, by decide⟩) (by decide) (by decide)) dX12_toldBy_45 ?_
      refine lv_irem hx hb dX12_toldBy_46 (wb_nz hr0 (by decide)) ?_
      exact hret _ _ _ dX12_toldBy_47 rfl (by subst ex_1; simp only [r_X12_toldBy, if_neg c_2, if_pos c_4])
    · refine lv_iload hx hb dX12_toldBy_31 (lv_at hl 0 rfl) ?_
      refine lv_goto (tgt := 47) hx hb dX12_toldBy_33 (by decide) ?_
      exact hret _ _ _ dX12_toldBy_47 rfl (by subst ex_1; simp only [r_X12_toldBy, if_neg c_2, if_neg c_4])

def wx_MP (g : wx_M) : Prop := wx_b (g 65 (3 : Int32).toNatClampNeg) 1 4 → wx_b (g 65 (0 : Int32).toNatClampNeg) 1 6
def wx_IT (g : wx_M) : Prop := ∀ j, j ≤ 7 → wx_b (g 59 j) 0 40
theorem rf_X12_isMan0 {g : wx_M} {v : Int32} (hm : wx_MB g) (c : ¬ r_X12_isMan g v = 0) : wx_b (g 65 (3 : Int32).toNatClampNeg) 1 4 := by
  have h2 := hm.2.1
  simp only [r_X12_isMan, r_X12_in] at c
  split at c
  · exact absurd rfl c
  · rename_i c1
    split at c
    · exact absurd rfl c
    · rename_i c2
      have h3 := Int32.le_iff_toInt_le.mp (Int32.not_lt.mp c1)
      have h4 := Int32.le_iff_toInt_le.mp (Int32.not_lt.mp c2)
      have h5 := fb_subI (x := g 65 (3 : Int32).toNatClampNeg) (y := 1) (by have := h2.1; have e : (1 : Int32).toInt = 1 := rfl; omega) (by have := h2.2; have e : (1 : Int32).toInt = 1 := rfl; omega)
      rw [h5] at h4
      have e : (1 : Int32).toInt = 1 := rfl
      have e0 : (0 : Int32).toInt = 0 := rfl
      exact ⟨by omega, h2.2⟩
