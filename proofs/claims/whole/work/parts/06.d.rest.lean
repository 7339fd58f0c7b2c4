def b_X12_copy_175 (g : wx_M) (a1 : Int32) (a2 : Int32) (a3 : Int32) (a4 : Int32) (a5 : Int32) (t_175 : Nat) (s_175 : wx_M) : wx_M :=
  let x_33 := (s_175 60 (((40 * a1) + a2) + (nI t_175)).toNatClampNeg)
  let g_34 := up2 s_175 60 (((40 * a3) + a4) + (nI t_175)).toNatClampNeg x_33
  g_34
def b_X12_copy_129 (g : wx_M) (a1 : Int32) (a2 : Int32) (a3 : Int32) (a4 : Int32) (a5 : Int32) (x_38 : Int32) (t_129 : Nat) (s_129 : wx_M × Int32) : (wx_M × Int32) ⊕ (wx_M × Int32) :=
  if s_129.2 < 0 then
    let z_41 := f_X12_did s_129.1 a5
    .inr ((z_41.1, z_41.2))
  else
    let x_45 := (s_129.1 60 (((40 * a1) + a2) + s_129.2).toNatClampNeg)
    let g_46 := up2 s_129.1 60 (((40 * a3) + a4) + s_129.2).toNatClampNeg x_45
    let x_47 := (s_129.2 + (-1))
    .inl (g_46, x_47)
def f_X12_copy (g : wx_M) (a1 : Int32) (a2 : Int32) (a3 : Int32) (a4 : Int32) (a5 : Int32) : wx_M × Int32 :=
  if (r_X12_isRow a1) = 0 then
    (g, (-1000001))
  else
    if (r_X12_isRow a3) = 0 then
      (g, (-1000001))
    else
      if (r_X12_isNull g a1) = 0 then
        if (r_X12_isNull g a3) = 0 then
          if (g 58 a1.toNatClampNeg) = (g 58 a3.toNatClampNeg) then
            if a2 < 0 then
              let z_14 := f_X12_finds g 2
              (z_14.1, z_14.2)
            else
              if a4 < 0 then
                let z_18 := f_X12_finds g 2
                (z_18.1, z_18.2)
              else
                if a5 < 0 then
                  let z_22 := f_X12_finds g 2
                  (z_22.1, z_22.2)
                else
                  if ((g 59 a1.toNatClampNeg) - a2) < a5 then
                    let z_25 := f_X12_finds g 2
                    (z_25.1, z_25.2)
                  else
                    if a5 ≤ ((g 59 a3.toNatClampNeg) - a4) then
                      if ((40 * a3) + a4) ≤ ((40 * a1) + a2) then
                        let s_175 := rep a5.toNatClampNeg (b_X12_copy_175 g a1 a2 a3 a4 a5) g
                        let z_32 := f_X12_did s_175 a5
                        (z_32.1, z_32.2)
                      else
                        let x_38 := (a5 - 1)
                        (match repX 42 (b_X12_copy_129 g a1 a2 a3 a4 a5 x_38) (g, x_38) with
                        | .inl s_129 =>
                          (g, 0)
                        | .inr r9 => r9)
                    else
                      let z_50 := f_X12_finds g 2
                      (z_50.1, z_50.2)
          else
            let z_51 := f_X12_finds g 5
            (z_51.1, z_51.2)
        else
          let z_52 := f_X12_finds g 1
          (z_52.1, z_52.2)
      else
        let z_7 := f_X12_finds g 1
        (z_7.1, z_7.2)
set_option maxHeartbeats 4000000 in
set_option maxRecDepth 100000 in
theorem k_X12_copy (l : Launch) {D : va_G} {cy : Nat → ClassId} {ad : Nat → Nat} {B0 : Nat} {f : wx_F} {P : va_W} (g : wx_M) (a1 : Int32) (a2 : Int32) (a3 : Int32) (a4 : Int32) (a5 : Int32) (hit : wx_IT g) : Met l yX12_copy wsX12_copy ({ frames := 2, cells := 0, slots := 0, locals := 42 } : Room) (wx_Pc D cy ad B0 f P g [.ref (ad 57), .int a1, .int a2, .int a3, .int a4, .int a5]) (wx_Qe D cy ad B0 f P (f_X12_copy g a1 a2 a3 a4 a5).1 (some (.int (f_X12_copy g a1 a2 a3 a4 a5).2))) 0 0 (fun q => B0 ≤ q) := by
  refine wx_enterE (cc := cX12_copy) (maxL := 7) (ty := .int) (own := RX12) (lv := [(0, .ref (ad 57)), (1, .int a1), (2, .int a2), (3, .int a3), (4, .int a4), (5, .int a5)]) (by decide) rfl rfl (Nat.le_of_ble_eq_true rfl) rfl ?_
  intro p e R s m args below meth c ls Qm hx hb hml hown hts hK hX hS hR hret hl
  have hi_X12 : ∀ w ∈ wsX120, w ∈ wsX12_copy := by decide +kernel
  refine lv_iload_n hx hb dX12_copy_0 rfl (lv_at hl 1 rfl) ?_
  refine wx_callr (va_runS (As := [.int a1]) (rest := []) ⟨hx, hb, hml, hown, hts⟩ (k_X12_isRow l g a1) (va_cwS 1 hts gX12_copy_X12_isRow rfl rfl rfl (by decide +kernel) (by rw [hR]; exact ⟨Nat.le_of_ble_eq_true rfl, Nat.le_of_ble_eq_true rfl⟩)) (wx_Pc.pre hK hX) rfl rfl hl.1 rfl (lv_room (Nat.le_of_ble_eq_true rfl)) dX12_copy_1 ⟨Nat.zero_le _, Nat.zero_le _⟩) ?_
  refine lv_if_eq (tgt := 14) hx hb dX12_copy_4 (by decide) (fun c_1 => ?_) (fun c_1 => ?_)
  · have b_2 : wx_b (r_X12_isRow a1) 0 0 := by rw [c_1]; exact ⟨by decide, by decide⟩
    refine lv_ldc hx hb hown (hts (.constant RX12 60 (-1000001)) (by decide +kernel)) dX12_copy_14 ?_
    exact hret _ _ _ _ _ _ dX12_copy_16 rfl hX hS (by simp only [f_X12_copy, if_pos c_1])
  · have b_3 : wx_b a1 0 7 := rf_X12_isRow  c_1
    refine lv_iload_n hx hb dX12_copy_7 rfl (lv_at hl 3 rfl) ?_
    refine wx_callr (va_runS (As := [.int a3]) (rest := []) ⟨hx, hb, hml, hown, hts⟩ (k_X12_isRow l g a3) (va_cwS 1 hts gX12_copy_X12_isRow rfl rfl rfl (by decide +kernel) (by rw [hR]; exact ⟨Nat.le_of_ble_eq_true rfl, Nat.le_of_ble_eq_true rfl⟩)) (wx_Pc.pre hK hX) rfl rfl hl.1 rfl (lv_room (Nat.le_of_ble_eq_true rfl)) dX12_copy_8 ⟨Nat.zero_le _, Nat.zero_le _⟩) ?_
    refine lv_if_ne (tgt := 17) hx hb dX12_copy_11 (by decide) (fun c_4 => ?_) (fun c_4 => ?_)
    · have b_5 : wx_b a3 0 7 := rf_X12_isRow  c_4
      refine lv_aload_n hx hb dX12_copy_17 rfl (lv_at hl 0 rfl) ?_
      refine lv_iload_n hx hb dX12_copy_18 rfl (lv_at hl 1 rfl) ?_
      refine wx_callr (va_runV (As := [.int a1]) (rest := []) ⟨hx, hb, hml, hown, hts⟩ (k_X12_isNull l g a1 b_3) (cwV 1 hts gX12_copy_X12_isNull rfl rfl rfl (by decide +kernel) (by rw [hR]; exact ⟨Nat.le_of_ble_eq_true rfl, Nat.le_of_ble_eq_true rfl⟩)) ⟨wx_Pc.blind, wx_recv hK hX (by decide) sh_X12 rfl, (wx_Pc.pre hK hX).2⟩ rfl rfl hl.1 rfl (lv_room (Nat.le_of_ble_eq_true rfl)) dX12_copy_19 ⟨Nat.zero_le _, Nat.zero_le _⟩) ?_
      refine lv_if_ne (tgt := 33) hx hb dX12_copy_22 (by decide) (fun c_6 => ?_) (fun c_6 => ?_)
      · refine lv_aload_n hx hb dX12_copy_33 rfl (lv_at hl 0 rfl) ?_
        refine lv_iconst (v := 1) hx hb dX12_copy_34 (by decide) ?_
        refine wx_callei (va_runV (As := [.int 1]) (rest := []) ⟨hx, hb, hml, hown, hts⟩ (k_X12_finds l g 1) (cwV 1 hts gX12_copy_X12_finds rfl rfl rfl (by decide +kernel) (by rw [hR]; exact ⟨Nat.le_of_ble_eq_true rfl, Nat.le_of_ble_eq_true rfl⟩)) ⟨wx_Pc.blind, wx_recv hK hX (by decide) sh_X12 rfl, (wx_Pc.pre hK hX).2⟩ rfl rfl hl.1 rfl (lv_room (Nat.le_of_ble_eq_true rfl)) dX12_copy_35 ⟨Nat.zero_le _, Nat.zero_le _⟩) hS (fun H locs hX hS => ?_)
        obtain ⟨z_7, ez_7⟩ : ∃ z, z = f_X12_finds g 1 := ⟨_, rfl⟩
        rw [← ez_7] at hX; rw [← ez_7]
        exact hret _ _ _ _ _ _ dX12_copy_38 rfl hX hS (by subst ez_7; simp only [f_X12_copy, if_neg c_1, if_neg c_4, if_neg c_6])
      · have b_8 : wx_b (r_X12_isNull g a1) 0 0 := by rw [c_6]; exact ⟨by decide, by decide⟩
        refine lv_aload_n hx hb dX12_copy_25 rfl (lv_at hl 0 rfl) ?_
        refine lv_iload_n hx hb dX12_copy_26 rfl (lv_at hl 3 rfl) ?_
        refine wx_callr (va_runV (As := [.int a3]) (rest := []) ⟨hx, hb, hml, hown, hts⟩ (k_X12_isNull l g a3 b_5) (cwV 1 hts gX12_copy_X12_isNull rfl rfl rfl (by decide +kernel) (by rw [hR]; exact ⟨Nat.le_of_ble_eq_true rfl, Nat.le_of_ble_eq_true rfl⟩)) ⟨wx_Pc.blind, wx_recv hK hX (by decide) sh_X12 rfl, (wx_Pc.pre hK hX).2⟩ rfl rfl hl.1 rfl (lv_room (Nat.le_of_ble_eq_true rfl)) dX12_copy_27 ⟨Nat.zero_le _, Nat.zero_le _⟩) ?_
        refine lv_if_eq (tgt := 39) hx hb dX12_copy_30 (by decide) (fun c_9 => ?_) (fun c_9 => ?_)
        · have b_10 : wx_b (r_X12_isNull g a3) 0 0 := by rw [c_9]; exact ⟨by decide, by decide⟩
          refine lv_aload_n hx hb dX12_copy_39 rfl (lv_at hl 0 rfl) ?_
          refine wx_getr (t := 58) (C := RX12) (T := TX12) (N := 27) (ci := 11) (j := 0) hx hb hts hi_X12 hown hK hX (by decide) sh_X12_0 rfl (by decide) (hts (.fieldLink RX12 7 "SeenAgainModel" "lane" "[I") (by decide +kernel)) (fun _ h9 => h9) dX12_copy_40 ?_
          refine lv_iload_n hx hb dX12_copy_43 rfl (lv_at hl 1 rfl) ?_
          refine wx_iald hx hb hK hX (by decide) sa_58 (wb_in b_3 (by decide) (by decide)) dX12_copy_44 ?_
          refine lv_aload_n hx hb dX12_copy_45 rfl (lv_at hl 0 rfl) ?_
          refine wx_getr (t := 58) (C := RX12) (T := TX12) (N := 27) (ci := 11) (j := 0) hx hb hts hi_X12 hown hK hX (by decide) sh_X12_0 rfl (by decide) (hts (.fieldLink RX12 7 "SeenAgainModel" "lane" "[I") (by decide +kernel)) (fun _ h9 => h9) dX12_copy_46 ?_
          refine lv_iload_n hx hb dX12_copy_49 rfl (lv_at hl 3 rfl) ?_
          refine wx_iald hx hb hK hX (by decide) sa_58 (wb_in b_5 (by decide) (by decide)) dX12_copy_50 ?_
          refine lv_icmp_eq (tgt := 60) hx hb dX12_copy_51 (by decide) (fun c_11 => ?_) (fun c_11 => ?_)
          · refine lv_iload_n hx hb dX12_copy_60 rfl (lv_at hl 2 rfl) ?_
            refine lv_if_lt (tgt := 101) hx hb dX12_copy_61 (by decide) (fun c_12 => ?_) (fun c_12 => ?_)
            · have b_13 : wx_b a2 (-2147483648) (-1) := wb_lt c_12 (wb_any _) (show wx_b 0 0 0 from ⟨by decide, by decide⟩) (by decide) (by decide)
              refine lv_aload_n hx hb dX12_copy_101 rfl (lv_at hl 0 rfl) ?_
              refine lv_iconst (v := 2) hx hb dX12_copy_102 (by decide) ?_
              refine wx_callei (va_runV (As := [.int 2]) (rest := []) ⟨hx, hb, hml, hown, hts⟩ (k_X12_finds l g 2) (cwV 1 hts gX12_copy_X12_finds rfl rfl rfl (by decide +kernel) (by rw [hR]; exact ⟨Nat.le_of_ble_eq_true rfl, Nat.le_of_ble_eq_true rfl⟩)) ⟨wx_Pc.blind, wx_recv hK hX (by decide) sh_X12 rfl, (wx_Pc.pre hK hX).2⟩ rfl rfl hl.1 rfl (lv_room (Nat.le_of_ble_eq_true rfl)) dX12_copy_103 ⟨Nat.zero_le _, Nat.zero_le _⟩) hS (fun H locs hX hS => ?_)
              obtain ⟨z_14, ez_14⟩ : ∃ z, z = f_X12_finds g 2 := ⟨_, rfl⟩
              rw [← ez_14] at hX; rw [← ez_14]
              exact hret _ _ _ _ _ _ dX12_copy_106 rfl hX hS (by subst ez_14; simp only [f_X12_copy, if_neg c_1, if_neg c_4, if_pos c_6, if_pos c_9, if_pos c_11, if_pos c_12])
            · have b_15 : wx_b a2 0 2147483647 := wb_ge (wb_nlt c_12) (wb_any _) (show wx_b 0 0 0 from ⟨by decide, by decide⟩) (by decide) (by decide)
              refine lv_iload hx hb dX12_copy_64 (lv_at hl 4 rfl) ?_
              refine lv_if_lt (tgt := 101) hx hb dX12_copy_66 (by decide) (fun c_16 => ?_) (fun c_16 => ?_)
              · have b_17 : wx_b a4 (-2147483648) (-1) := wb_lt c_16 (wb_any _) (show wx_b 0 0 0 from ⟨by decide, by decide⟩) (by decide) (by decide)
                refine lv_aload_n hx hb dX12_copy_101 rfl (lv_at hl 0 rfl) ?_
                refine lv_iconst (v := 2) hx hb dX12_copy_102 (by decide) ?_
                refine wx_callei (va_runV (As := [.int 2]) (rest := []) ⟨hx, hb, hml, hown, hts⟩ (k_X12_finds l g 2) (cwV 1 hts gX12_copy_X12_finds rfl rfl rfl (by decide +kernel) (by rw [hR]; exact ⟨Nat.le_of_ble_eq_true rfl, Nat.le_of_ble_eq_true rfl⟩)) ⟨wx_Pc.blind, wx_recv hK hX (by decide) sh_X12 rfl, (wx_Pc.pre hK hX).2⟩ rfl rfl hl.1 rfl (lv_room (Nat.le_of_ble_eq_true rfl)) dX12_copy_103 ⟨Nat.zero_le _, Nat.zero_le _⟩) hS (fun H locs hX hS => ?_)
                obtain ⟨z_18, ez_18⟩ : ∃ z, z = f_X12_finds g 2 := ⟨_, rfl⟩
                rw [← ez_18] at hX; rw [← ez_18]
                exact hret _ _ _ _ _ _ dX12_copy_106 rfl hX hS (by subst ez_18; simp only [f_X12_copy, if_neg c_1, if_neg c_4, if_pos c_6, if_pos c_9, if_pos c_11, if_neg c_12, if_pos c_16])
              · have b_19 : wx_b a4 0 2147483647 := wb_ge (wb_nlt c_16) (wb_any _) (show wx_b 0 0 0 from ⟨by decide, by decide⟩) (by decide) (by decide)
                refine lv_iload hx hb dX12_copy_69 (lv_at hl 5 rfl) ?_
                refine lv_if_lt (tgt := 101) hx hb dX12_copy_71 (by decide) (fun c_20 => ?_) (fun c_20 => ?_)
                · have b_21 : wx_b a5 (-2147483648) (-1) := wb_lt c_20 (wb_any _) (show wx_b 0 0 0 from ⟨by decide, by decide⟩) (by decide) (by decide)
                  refine lv_aload_n hx hb dX12_copy_101 rfl (lv_at hl 0 rfl) ?_
                  refine lv_iconst (v := 2) hx hb dX12_copy_102 (by decide) ?_
                  refine wx_callei (va_runV (As := [.int 2]) (rest := []) ⟨hx, hb, hml, hown, hts⟩ (k_X12_finds l g 2) (cwV 1 hts gX12_copy_X12_finds rfl rfl rfl (by decide +kernel) (by rw [hR]; exact ⟨Nat.le_of_ble_eq_true rfl, Nat.le_of_ble_eq_true rfl⟩)) ⟨wx_Pc.blind, wx_recv hK hX (by decide) sh_X12 rfl, (wx_Pc.pre hK hX).2⟩ rfl rfl hl.1 rfl (lv_room (Nat.le_of_ble_eq_true rfl)) dX12_copy_103 ⟨Nat.zero_le _, Nat.zero_le _⟩) hS (fun H locs hX hS => ?_)
                  obtain ⟨z_22, ez_22⟩ : ∃ z, z = f_X12_finds g 2 := ⟨_, rfl⟩
                  rw [← ez_22] at hX; rw [← ez_22]
                  exact hret _ _ _ _ _ _ dX12_copy_106 rfl hX hS (by subst ez_22; simp only [f_X12_copy, if_neg c_1, if_neg c_4, if_pos c_6, if_pos c_9, if_pos c_11, if_neg c_12, if_neg c_16, if_pos c_20])
                · have b_23 : wx_b a5 0 2147483647 := wb_ge (wb_nlt c_20) (wb_any _) (show wx_b 0 0 0 from ⟨by decide, by decide⟩) (by decide) (by decide)
                  refine lv_iload hx hb dX12_copy_74 (lv_at hl 5 rfl) ?_
                  refine lv_aload_n hx hb dX12_copy_76 rfl (lv_at hl 0 rfl) ?_
                  refine wx_getr (t := 59) (C := RX12) (T := TX12) (N := 27) (ci := 11) (j := 1) hx hb hts hi_X12 hown hK hX (by decide) sh_X12_1 rfl (by decide) (hts (.fieldLink RX12 13 "SeenAgainModel" "items" "[I") (by decide +kernel)) (fun _ h9 => h9) dX12_copy_77 ?_
                  refine lv_iload_n hx hb dX12_copy_80 rfl (lv_at hl 1 rfl) ?_
                  refine wx_iald hx hb hK hX (by decide) sa_59 (wb_in b_3 (by decide) (by decide)) dX12_copy_81 ?_
                  refine lv_iload_n hx hb dX12_copy_82 rfl (lv_at hl 2 rfl) ?_
                  refine lv_isub hx hb dX12_copy_83 ?_
                  refine lv_icmp_gt (tgt := 101) hx hb dX12_copy_84 (by decide) (fun c_24 => ?_) (fun c_24 => ?_)
                  · refine lv_aload_n hx hb dX12_copy_101 rfl (lv_at hl 0 rfl) ?_
                    refine lv_iconst (v := 2) hx hb dX12_copy_102 (by decide) ?_
                    refine wx_callei (va_runV (As := [.int 2]) (rest := []) ⟨hx, hb, hml, hown, hts⟩ (k_X12_finds l g 2) (cwV 1 hts gX12_copy_X12_finds rfl rfl rfl (by decide +kernel) (by rw [hR]; exact ⟨Nat.le_of_ble_eq_true rfl, Nat.le_of_ble_eq_true rfl⟩)) ⟨wx_Pc.blind, wx_recv hK hX (by decide) sh_X12 rfl, (wx_Pc.pre hK hX).2⟩ rfl rfl hl.1 rfl (lv_room (Nat.le_of_ble_eq_true rfl)) dX12_copy_103 ⟨Nat.zero_le _, Nat.zero_le _⟩) hS (fun H locs hX hS => ?_)
                    obtain ⟨z_25, ez_25⟩ : ∃ z, z = f_X12_finds g 2 := ⟨_, rfl⟩
                    rw [← ez_25] at hX; rw [← ez_25]
                    exact hret _ _ _ _ _ _ dX12_copy_106 rfl hX hS (by subst ez_25; simp only [f_X12_copy, if_neg c_1, if_neg c_4, if_pos c_6, if_pos c_9, if_pos c_11, if_neg c_12, if_neg c_16, if_neg c_20, if_pos c_24])
                  · have b_26 : wx_b a5 0 40 := wb_le (wb_nlt c_24) b_23 (wb_sub (hit _ (wb_cl (n := 7) b_3 (by decide))) b_15 (by decide) (by decide)) (by decide) (by decide)
                    have b_27 : wx_b ((g 59 a1.toNatClampNeg) - a2) 0 40 := wb_ge (wb_nlt c_24) (wb_sub (hit _ (wb_cl (n := 7) b_3 (by decide))) b_15 (by decide) (by decide)) b_23 (by decide) (by decide)
                    refine lv_iload hx hb dX12_copy_87 (lv_at hl 5 rfl) ?_
                    refine lv_aload_n hx hb dX12_copy_89 rfl (lv_at hl 0 rfl) ?_
                    refine wx_getr (t := 59) (C := RX12) (T := TX12) (N := 27) (ci := 11) (j := 1) hx hb hts hi_X12 hown hK hX (by decide) sh_X12_1 rfl (by decide) (hts (.fieldLink RX12 13 "SeenAgainModel" "items" "[I") (by decide +kernel)) (fun _ h9 => h9) dX12_copy_90 ?_
                    refine lv_iload_n hx hb dX12_copy_93 rfl (lv_at hl 3 rfl) ?_
                    refine wx_iald hx hb hK hX (by decide) sa_59 (wb_in b_5 (by decide) (by decide)) dX12_copy_94 ?_
                    refine lv_iload hx hb dX12_copy_95 (lv_at hl 4 rfl) ?_
                    refine lv_isub hx hb dX12_copy_97 ?_
                    refine lv_icmp_le (tgt := 107) hx hb dX12_copy_98 (by decide) (fun c_28 => ?_) (fun c_28 => ?_)
                    · have b_29 : wx_b ((g 59 a3.toNatClampNeg) - a4) 0 40 := wb_ge c_28 (wb_sub (hit _ (wb_cl (n := 7) b_5 (by decide))) b_19 (by decide) (by decide)) b_26 (by decide) (by decide)
                      refine lv_bipush (v := 40) hx hb dX12_copy_107 (by decide) ?_
                      refine lv_iload_n hx hb dX12_copy_109 rfl (lv_at hl 1 rfl) ?_
                      refine lv_imul hx hb dX12_copy_110 ?_
                      refine lv_iload_n hx hb dX12_copy_111 rfl (lv_at hl 2 rfl) ?_
                      refine lv_iadd hx hb dX12_copy_112 ?_
                      refine lv_bipush (v := 40) hx hb dX12_copy_113 (by decide) ?_
                      refine lv_iload_n hx hb dX12_copy_115 rfl (lv_at hl 3 rfl) ?_
                      refine lv_imul hx hb dX12_copy_116 ?_
                      refine lv_iload hx hb dX12_copy_117 (lv_at hl 4 rfl) ?_
                      refine lv_iadd hx hb dX12_copy_119 ?_
                      refine lv_icmp_ge (tgt := 172) hx hb dX12_copy_120 (by decide) (fun c_30 => ?_) (fun c_30 => ?_)
                      · refine lv_iconst (v := 0) hx hb dX12_copy_172 (by decide) ?_
                        refine lv_istore (lv' := [(6, .int 0), (0, .ref (ad 57)), (1, .int a1), (2, .int a2), (3, .int a3), (4, .int a4), (5, .int a5)]) hx hb dX12_copy_173 hl (by decide) rfl (fun ls hl => ?_)
                        have lp_175 : ∀ (n t_175 : Nat) (s_175 : wx_M) (ls : Array Slot) (H : Heap) (locs : List Loc), t_175 ≤ a5.toNatClampNeg → a5.toNatClampNeg + 1 ≤ t_175 + n → s_175 = rep t_175 (b_X12_copy_175 g a1 a2 a3 a4 a5) g → wx_X D cy ad B0 f P s_175 H → va_S (fun q => B0 ≤ q) s.heap H locs → lv_has ls 7 [(6, .int (nI t_175)), (0, .ref (ad 57)), (1, .int a1), (2, .int a2), (3, .int a3), (4, .int a4), (5, .int a5)] → W p l e R s m args below meth c H locs 0 0 Qm (F0 m 175 ls []) := by
                          intro n
                          induction n with
                          | zero => intro t_175 s_175 ls H locs h1 h2; exact absurd h2 (by omega)
                          | succ n ih_175 =>
                            intro t_175 s_175 ls H locs ht_175 hn_175 es_175 hX hS hl
                            refine lv_iload hx hb dX12_copy_175 (lv_at hl 0 rfl) ?_
                            refine lv_iload hx hb dX12_copy_177 (lv_at hl 6 rfl) ?_
                            refine lv_icmp_ge (tgt := 217) hx hb dX12_copy_179 (by decide) (fun c_31 => ?_) (fun c_31 => ?_)
                            · have et_175 : t_175 = a5.toNatClampNeg := Nat.le_antisymm ht_175 (by have h9 := wx_dn (by have := wx_cl31 a5; omega) c_31; omega)
                              subst et_175
                              refine lv_aload_n hx hb dX12_copy_217 rfl (lv_at hl 1 rfl) ?_
                              refine lv_iload hx hb dX12_copy_218 (lv_at hl 6 rfl) ?_
                              refine wx_callei (va_runV (As := [.int a5]) (rest := []) ⟨hx, hb, hml, hown, hts⟩ (k_X12_did l s_175 a5) (cwV 1 hts gX12_copy_X12_did rfl rfl rfl (by decide +kernel) (by rw [hR]; exact ⟨Nat.le_of_ble_eq_true rfl, Nat.le_of_ble_eq_true rfl⟩)) ⟨wx_Pc.blind, wx_recv hK hX (by decide) sh_X12 rfl, (wx_Pc.pre hK hX).2⟩ rfl rfl hl.1 rfl (lv_room (Nat.le_of_ble_eq_true rfl)) dX12_copy_220 ⟨Nat.zero_le _, Nat.zero_le _⟩) hS (fun H locs hX hS => ?_)
                              obtain ⟨z_32, ez_32⟩ : ∃ z, z = f_X12_did s_175 a5 := ⟨_, rfl⟩
                              rw [← ez_32] at hX; rw [← ez_32]
                              exact hret _ _ _ _ _ _ dX12_copy_223 rfl hX hS (by subst ez_32; simp only [f_X12_copy, if_neg c_1, if_neg c_4, if_pos c_6, if_pos c_9, if_pos c_11, if_neg c_12, if_neg c_16, if_neg c_20, if_neg c_24, if_pos c_28, if_pos c_30, ← es_175])
                            · have hlt_175 : t_175 < a5.toNatClampNeg := by have h9 := wx_up (by have := wx_cl31 a5; omega) c_31; omega
                              have bt_175 : wx_b (nI (t_175)) 0 39 := wb_nI (n := 39) (by have := wb_cl (n := 40) b_26 (by decide); omega) (by decide)
                              have hk0_175 : 0 ≤ (nI t_175).toInt := bt_175.1
                              have hk1_175 : (nI t_175).toInt < a5.toInt := Int32.lt_iff_toInt_lt.mp (wb_nle c_31)
                              refine lv_aload_n hx hb dX12_copy_182 rfl (lv_at hl 1 rfl) ?_
                              refine wx_getr (t := 60) (C := RX12) (T := TX12) (N := 27) (ci := 11) (j := 2) hx hb hts hi_X12 hown hK hX (by decide) sh_X12_2 rfl (by decide) (hts (.fieldLink RX12 16 "SeenAgainModel" "cell" "[I") (by decide +kernel)) (fun _ h9 => h9) dX12_copy_183 ?_
                              refine lv_bipush (v := 40) hx hb dX12_copy_186 (by decide) ?_
                              refine lv_iload_n hx hb dX12_copy_188 rfl (lv_at hl 4 rfl) ?_
                              refine lv_imul hx hb dX12_copy_189 ?_
                              refine lv_iload hx hb dX12_copy_190 (lv_at hl 5 rfl) ?_
                              refine lv_iadd hx hb dX12_copy_192 ?_
                              refine lv_iload hx hb dX12_copy_193 (lv_at hl 0 rfl) ?_
                              refine lv_iadd hx hb dX12_copy_195 ?_
                              refine lv_aload_n hx hb dX12_copy_196 rfl (lv_at hl 1 rfl) ?_
                              refine wx_getr (t := 60) (C := RX12) (T := TX12) (N := 27) (ci := 11) (j := 2) hx hb hts hi_X12 hown hK hX (by decide) sh_X12_2 rfl (by decide) (hts (.fieldLink RX12 16 "SeenAgainModel" "cell" "[I") (by decide +kernel)) (fun _ h9 => h9) dX12_copy_197 ?_
                              refine lv_bipush (v := 40) hx hb dX12_copy_200 (by decide) ?_
                              refine lv_iload_n hx hb dX12_copy_202 rfl (lv_at hl 2 rfl) ?_
                              refine lv_imul hx hb dX12_copy_203 ?_
                              refine lv_iload_n hx hb dX12_copy_204 rfl (lv_at hl 3 rfl) ?_
                              refine lv_iadd hx hb dX12_copy_205 ?_
                              refine lv_iload hx hb dX12_copy_206 (lv_at hl 0 rfl) ?_
                              refine lv_iadd hx hb dX12_copy_208 ?_
                              refine wx_iald hx hb hK hX (by decide) sa_60 (cp_ix b_3 b_15 b_26 (hit _ (wb_cl (n := 7) b_3 (by decide))) (wb_nlt c_24) hk0_175 hk1_175) dX12_copy_209 ?_
                              refine lv_topi (fun x_33 ex_33 => ?_)
                              refine wx_iast hx hb hK hX hS (by decide) sa_60 (cp_ix b_5 b_19 b_26 (hit _ (wb_cl (n := 7) b_5 (by decide))) c_28 hk0_175 hk1_175) dX12_copy_210 (fun H locs hX hS => ?_)
                              obtain ⟨g_34, eg_34, hX⟩ := wx_nm hX
                              refine lv_iinc (v := nI (t_175 + 1)) (lv' := [(6, .int (nI (t_175 + 1))), (0, .ref (ad 57)), (1, .int a1), (2, .int a2), (3, .int a3), (4, .int a4), (5, .int a5)]) hx hb dX12_copy_211 hl (k := 0) rfl (wx_inc _) (by decide) rfl (fun ls hl => ?_)
                              refine lv_goto (tgt := 175) hx hb dX12_copy_214 (by decide) ?_
                              have hF_35 : (b_X12_copy_175 g a1 a2 a3 a4 a5) t_175 s_175 = g_34 := (by subst eg_34 ex_33; simp only [b_X12_copy_175])
                              exact ih_175 (t_175 + 1) g_34 ls H locs hlt_175 (by omega) (by rw [rep_succ, ← es_175, hF_35]) hX hS (lv_sub hl [0, 1, 2, 3, 4, 5, 6] rfl)
                        exact lp_175 (a5.toNatClampNeg + 1) 0 g ls s.heap [] (Nat.zero_le _) (by omega) rfl hX hS (lv_sub hl [0, 1, 2, 3, 4, 5, 6] rfl)
                      · have b_36 : wx_b ((40 * a1) + a2) (-2147483648) 2147483646 := wb_lt (wb_nle c_30) (wb_any _) (wb_any _) (by decide) (by decide)
                        have b_37 : wx_b ((40 * a3) + a4) (-2147483647) 2147483647 := wb_gt (wb_nle c_30) (wb_any _) (wb_any _) (by decide) (by decide)
                        refine lv_iload hx hb dX12_copy_123 (lv_at hl 5 rfl) ?_
                        refine lv_iconst (v := 1) hx hb dX12_copy_125 (by decide) ?_
                        refine lv_isub hx hb dX12_copy_126 ?_
                        refine lv_topi (fun x_38 ex_38 => ?_)
                        have bx_38 : wx_b x_38 (-1) 39 := by rw [ex_38]; exact (wb_w (wb_sub b_26 (show wx_b 1 1 1 from ⟨by decide, by decide⟩) (by decide) (by decide)) (by decide) (by decide))
                        refine lv_istore (lv' := [(6, .int x_38), (0, .ref (ad 57)), (1, .int a1), (2, .int a2), (3, .int a3), (4, .int a4), (5, .int a5)]) hx hb dX12_copy_127 hl (by decide) rfl (fun ls hl => ?_)
                        have lp_129 : ∀ (n t_129 : Nat) (s_129 : wx_M × Int32) (ls : Array Slot) (H : Heap) (locs : List Loc), t_129 < 42 → 42 ≤ t_129 + n → repX t_129 (b_X12_copy_129 g a1 a2 a3 a4 a5 x_38) (g, x_38) = .inl s_129 → wx_X D cy ad B0 f P s_129.1 H → va_S (fun q => B0 ≤ q) s.heap H locs → (s_129.2.toInt = a5.toInt - 1 - (t_129 : Int)) → lv_has ls 7 [(6, .int s_129.2), (0, .ref (ad 57)), (1, .int a1), (2, .int a2), (3, .int a3), (4, .int a4), (5, .int a5)] → W p l e R s m args below meth c H locs 0 0 Qm (F0 m 129 ls []) := by
                          intro n
                          induction n with
                          | zero => intro t_129 s_129 ls H locs h1 h2; exact absurd h2 (by omega)
                          | succ n ih_129 =>
                            intro t_129 s_129 ls H locs hlt_129 hn_129 es_129 hX hS hW_129 hl
                            refine lv_iload hx hb dX12_copy_129 (lv_at hl 0 rfl) ?_
                            refine lv_if_lt (tgt := 169) hx hb dX12_copy_131 (by decide) (fun c_39 => ?_) (fun c_39 => ?_)
                            · have b_40 : wx_b s_129.2 (-2147483648) (-1) := wb_lt c_39 (wb_any _) (show wx_b 0 0 0 from ⟨by decide, by decide⟩) (by decide) (by decide)
                              refine lv_goto (tgt := 217) hx hb dX12_copy_169 (by decide) ?_
                              refine lv_aload_n hx hb dX12_copy_217 rfl (lv_at hl 1 rfl) ?_
                              refine lv_iload hx hb dX12_copy_218 (lv_at hl 6 rfl) ?_
                              refine wx_callei (va_runV (As := [.int a5]) (rest := []) ⟨hx, hb, hml, hown, hts⟩ (k_X12_did l s_129.1 a5) (cwV 1 hts gX12_copy_X12_did rfl rfl rfl (by decide +kernel) (by rw [hR]; exact ⟨Nat.le_of_ble_eq_true rfl, Nat.le_of_ble_eq_true rfl⟩)) ⟨wx_Pc.blind, wx_recv hK hX (by decide) sh_X12 rfl, (wx_Pc.pre hK hX).2⟩ rfl rfl hl.1 rfl (lv_room (Nat.le_of_ble_eq_true rfl)) dX12_copy_220 ⟨Nat.zero_le _, Nat.zero_le _⟩) hS (fun H locs hX hS => ?_)
                              obtain ⟨z_41, ez_41⟩ : ∃ z, z = f_X12_did s_129.1 a5 := ⟨_, rfl⟩
                              rw [← ez_41] at hX; rw [← ez_41]
                              have hF_42 : (b_X12_copy_129 g a1 a2 a3 a4 a5 x_38) t_129 s_129 = .inr ((z_41.1, z_41.2)) := (by subst ez_41; simp only [b_X12_copy_129, if_pos c_39])
                              have hO_43 : repX 42 (b_X12_copy_129 g a1 a2 a3 a4 a5 x_38) (g, x_38) = .inr ((z_41.1, z_41.2)) := repX_out es_129 hF_42 hlt_129
                              exact hret _ _ _ _ _ _ dX12_copy_223 rfl hX hS (by subst ex_38; simp only [f_X12_copy, if_neg c_1, if_neg c_4, if_pos c_6, if_pos c_9, if_pos c_11, if_neg c_12, if_neg c_16, if_neg c_20, if_neg c_24, if_pos c_28, if_neg c_30, hO_43])
                            · have b_44 : wx_b s_129.2 0 2147483647 := wb_ge (wb_nlt c_39) (wb_any _) (show wx_b 0 0 0 from ⟨by decide, by decide⟩) (by decide) (by decide)
                              have hk0_129 : 0 ≤ s_129.2.toInt := Int32.le_iff_toInt_le.mp (wb_nlt c_39)
                              have hk1_129 : s_129.2.toInt < a5.toInt := by omega
                              have hs_129 : t_129 + 1 < 42 := by have h9 := cp_n40 b_15 b_26 (hit _ (wb_cl (n := 7) b_3 (by decide))) (wb_nlt c_24); omega
                              have hb_129 : wx_b s_129.2 0 39 := ⟨hk0_129, by have h9 := cp_n40 b_15 b_26 (hit _ (wb_cl (n := 7) b_3 (by decide))) (wb_nlt c_24); omega⟩
                              refine lv_aload_n hx hb dX12_copy_134 rfl (lv_at hl 1 rfl) ?_
                              refine wx_getr (t := 60) (C := RX12) (T := TX12) (N := 27) (ci := 11) (j := 2) hx hb hts hi_X12 hown hK hX (by decide) sh_X12_2 rfl (by decide) (hts (.fieldLink RX12 16 "SeenAgainModel" "cell" "[I") (by decide +kernel)) (fun _ h9 => h9) dX12_copy_135 ?_
                              refine lv_bipush (v := 40) hx hb dX12_copy_138 (by decide) ?_
                              refine lv_iload_n hx hb dX12_copy_140 rfl (lv_at hl 4 rfl) ?_
                              refine lv_imul hx hb dX12_copy_141 ?_
                              refine lv_iload hx hb dX12_copy_142 (lv_at hl 5 rfl) ?_
                              refine lv_iadd hx hb dX12_copy_144 ?_
                              refine lv_iload hx hb dX12_copy_145 (lv_at hl 0 rfl) ?_
                              refine lv_iadd hx hb dX12_copy_147 ?_
                              refine lv_aload_n hx hb dX12_copy_148 rfl (lv_at hl 1 rfl) ?_
                              refine wx_getr (t := 60) (C := RX12) (T := TX12) (N := 27) (ci := 11) (j := 2) hx hb hts hi_X12 hown hK hX (by decide) sh_X12_2 rfl (by decide) (hts (.fieldLink RX12 16 "SeenAgainModel" "cell" "[I") (by decide +kernel)) (fun _ h9 => h9) dX12_copy_149 ?_
                              refine lv_bipush (v := 40) hx hb dX12_copy_152 (by decide) ?_
                              refine lv_iload_n hx hb dX12_copy_154 rfl (lv_at hl 2 rfl) ?_
                              refine lv_imul hx hb dX12_copy_155 ?_
                              refine lv_iload_n hx hb dX12_copy_156 rfl (lv_at hl 3 rfl) ?_
                              refine lv_iadd hx hb dX12_copy_157 ?_
                              refine lv_iload hx hb dX12_copy_158 (lv_at hl 0 rfl) ?_
                              refine lv_iadd hx hb dX12_copy_160 ?_
                              refine wx_iald hx hb hK hX (by decide) sa_60 (cp_ix b_3 b_15 b_26 (hit _ (wb_cl (n := 7) b_3 (by decide))) (wb_nlt c_24) hk0_129 hk1_129) dX12_copy_161 ?_
                              refine lv_topi (fun x_45 ex_45 => ?_)
                              refine wx_iast hx hb hK hX hS (by decide) sa_60 (cp_ix b_5 b_19 b_26 (hit _ (wb_cl (n := 7) b_5 (by decide))) c_28 hk0_129 hk1_129) dX12_copy_162 (fun H locs hX hS => ?_)
                              obtain ⟨g_46, eg_46, hX⟩ := wx_nm hX
                              obtain ⟨x_47, ex_47⟩ : ∃ y : Int32, y = (s_129.2 + (-1)) := ⟨_, rfl⟩
                              have bx_47 : wx_b x_47 (-1) 38 := by rw [ex_47]; exact (wb_w (wb_add hb_129 (show wx_b (-1) (-1) (-1) from ⟨by decide, by decide⟩) (by decide) (by decide)) (by decide) (by decide))
                              refine lv_iinc (v := x_47) (lv' := [(6, .int x_47), (0, .ref (ad 57)), (1, .int a1), (2, .int a2), (3, .int a3), (4, .int a4), (5, .int a5)]) hx hb dX12_copy_163 hl (k := 0) rfl (by rw [ex_47]; rfl) (by decide) rfl (fun ls hl => ?_)
                              refine lv_goto (tgt := 129) hx hb dX12_copy_166 (by decide) ?_
                              have hF_48 : (b_X12_copy_129 g a1 a2 a3 a4 a5 x_38) t_129 s_129 = .inl (g_46, x_47) := (by subst ex_47 eg_46 ex_45; simp only [b_X12_copy_129, if_neg c_39])
                              have hst_129 : t_129 + 1 < 42 := hs_129
                              exact ih_129 (t_129 + 1) (g_46, x_47) ls H locs hst_129 (by omega) ((repX_go es_129).trans hF_48) hX hS (by show _ = _; rw [show _ = s_129.2 + (-1) from ex_47, cp_dec hk0_129, hW_129]; omega) (lv_sub hl [0, 1, 2, 3, 4, 5, 6] rfl)
                        exact lp_129 42 0 (g, x_38) ls s.heap [] (by decide) (by omega) rfl hX hS (by show _ = _; rw [show _ = a5 - 1 from ex_38]; exact cp_sub1 b_26 (by decide)) (lv_sub hl [0, 1, 2, 3, 4, 5, 6] rfl)
                    · have b_49 : wx_b ((g 59 a3.toNatClampNeg) - a4) (-2147483647) 39 := wb_lt (wb_nle c_28) (wb_sub (hit _ (wb_cl (n := 7) b_5 (by decide))) b_19 (by decide) (by decide)) b_26 (by decide) (by decide)
                      refine lv_aload_n hx hb dX12_copy_101 rfl (lv_at hl 0 rfl) ?_
                      refine lv_iconst (v := 2) hx hb dX12_copy_102 (by decide) ?_
                      refine wx_callei (va_runV (As := [.int 2]) (rest := []) ⟨hx, hb, hml, hown, hts⟩ (k_X12_finds l g 2) (cwV 1 hts gX12_copy_X12_finds rfl rfl rfl (by decide +kernel) (by rw [hR]; exact ⟨Nat.le_of_ble_eq_true rfl, Nat.le_of_ble_eq_true rfl⟩)) ⟨wx_Pc.blind, wx_recv hK hX (by decide) sh_X12 rfl, (wx_Pc.pre hK hX).2⟩ rfl rfl hl.1 rfl (lv_room (Nat.le_of_ble_eq_true rfl)) dX12_copy_103 ⟨Nat.zero_le _, Nat.zero_le _⟩) hS (fun H locs hX hS => ?_)
                      obtain ⟨z_50, ez_50⟩ : ∃ z, z = f_X12_finds g 2 := ⟨_, rfl⟩
                      rw [← ez_50] at hX; rw [← ez_50]
                      exact hret _ _ _ _ _ _ dX12_copy_106 rfl hX hS (by subst ez_50; simp only [f_X12_copy, if_neg c_1, if_neg c_4, if_pos c_6, if_pos c_9, if_pos c_11, if_neg c_12, if_neg c_16, if_neg c_20, if_neg c_24, if_neg c_28])
          · refine lv_aload_n hx hb dX12_copy_54 rfl (lv_at hl 0 rfl) ?_
            refine lv_iconst (v := 5) hx hb dX12_copy_55 (by decide) ?_
            refine wx_callei (va_runV (As := [.int 5]) (rest := []) ⟨hx, hb, hml, hown, hts⟩ (k_X12_finds l g 5) (cwV 1 hts gX12_copy_X12_finds rfl rfl rfl (by decide +kernel) (by rw [hR]; exact ⟨Nat.le_of_ble_eq_true rfl, Nat.le_of_ble_eq_true rfl⟩)) ⟨wx_Pc.blind, wx_recv hK hX (by decide) sh_X12 rfl, (wx_Pc.pre hK hX).2⟩ rfl rfl hl.1 rfl (lv_room (Nat.le_of_ble_eq_true rfl)) dX12_copy_56 ⟨Nat.zero_le _, Nat.zero_le _⟩) hS (fun H locs hX hS => ?_)
            obtain ⟨z_51, ez_51⟩ : ∃ z, z = f_X12_finds g 5 := ⟨_, rfl⟩
            rw [← ez_51] at hX; rw [← ez_51]
            exact hret _ _ _ _ _ _ dX12_copy_59 rfl hX hS (by subst ez_51; simp only [f_X12_copy, if_neg c_1, if_neg c_4, if_pos c_6, if_pos c_9, if_neg c_11])
        · refine lv_aload_n hx hb dX12_copy_33 rfl (lv_at hl 0 rfl) ?_
          refine lv_iconst (v := 1) hx hb dX12_copy_34 (by decide) ?_
          refine wx_callei (va_runV (As := [.int 1]) (rest := []) ⟨hx, hb, hml, hown, hts⟩ (k_X12_finds l g 1) (cwV 1 hts gX12_copy_X12_finds rfl rfl rfl (by decide +kernel) (by rw [hR]; exact ⟨Nat.le_of_ble_eq_true rfl, Nat.le_of_ble_eq_true rfl⟩)) ⟨wx_Pc.blind, wx_recv hK hX (by decide) sh_X12 rfl, (wx_Pc.pre hK hX).2⟩ rfl rfl hl.1 rfl (lv_room (Nat.le_of_ble_eq_true rfl)) dX12_copy_35 ⟨Nat.zero_le _, Nat.zero_le _⟩) hS (fun H locs hX hS => ?_)
          obtain ⟨z_52, ez_52⟩ : ∃ z, z = f_X12_finds g 1 := ⟨_, rfl⟩
          rw [← ez_52] at hX; rw [← ez_52]
          exact hret _ _ _ _ _ _ dX12_copy_38 rfl hX hS (by subst ez_52; simp only [f_X12_copy, if_neg c_1, if_neg c_4, if_pos c_6, if_neg c_9])
    · have b_53 : wx_b (r_X12_isRow a3) 0 0 := by rw [c_4]; exact ⟨by decide, by decide⟩
      refine lv_ldc hx hb hown (hts (.constant RX12 60 (-1000001)) (by decide +kernel)) dX12_copy_14 ?_
      exact hret _ _ _ _ _ _ dX12_copy_16 rfl hX hS (by simp only [f_X12_copy, if_neg c_1, if_pos c_4])
def b_X12_followed_54 (g : wx_M) (a1 : Int32) (a2 : Int32) (a3 : Int32) (t_38 : Nat) (s_38 : Int32 × Int32) (t_54 : Nat) (s_54 : Int32 × Int32 × Int32) : (Int32 × Int32 × Int32) ⊕ (Int32 × Int32) :=
  if s_54.2.2 = 0 then
    if s_54.2.1 ≤ s_38.1 then
      .inr ((s_38.1, s_38.2))
    else
      .inr ((s_54.2.1, (nI t_38)))
  else
    if 8 ≤ ((nI t_38) + s_54.2.1) then
      if s_54.2.1 ≤ s_38.1 then
        .inr ((s_38.1, s_38.2))
      else
        .inr ((s_54.2.1, (nI t_38)))
    else
      let x_36 := (s_54.1 + (r_X12_costOf g a1 a2 ((nI t_38) + s_54.2.1)))
      if (g 65 (47 + a1).toNatClampNeg) < x_36 then
        let x_40 := (s_54.2.1 + 0)
        let x_40 := (s_54.2.1 + 0)
        .inl (x_36, x_40, 0)
      else
        let x_42 := (s_54.2.1 + 1)
        let x_42 := (s_54.2.1 + 1)
        .inl (x_36, x_42, 1)
def b_X12_followed_38 (g : wx_M) (a1 : Int32) (a2 : Int32) (a3 : Int32) (t_38 : Nat) (s_38 : Int32 × Int32) : Int32 × Int32 :=
  (match repX 9 (b_X12_followed_54 g a1 a2 a3 t_38 s_38) (0, 0, 1) with
  | .inl s_54 =>
    s_38
  | .inr r9 => r9)
def r_X12_followed (g : wx_M) (a1 : Int32) (a2 : Int32) (a3 : Int32) : Int32 :=
  if (r_X12_isGuest g a1) = 0 then
    (-1000001)
  else
    if (r_X12_isMan g a2) = 0 then
      (-1000001)
    else
      if (r_X12_in a3 0 1) = 0 then
        (-1000001)
      else
        let s_38 := rep 8 (b_X12_followed_38 g a1 a2 a3) (0, (-1000000))
        if a3 = 0 then
          s_38.1
        else
          s_38.2
set_option maxHeartbeats 4000000 in
set_option maxRecDepth 100000 in
theorem k_X12_followed (l : Launch) {D : va_G} {cy : Nat → ClassId} {ad : Nat → Nat} {B0 : Nat} {f : wx_F} {P : va_W} (g : wx_M) (a1 : Int32) (a2 : Int32) (a3 : Int32) (hm : wx_MB g) : Met l yX12_followed wsX12_followed ({ frames := 4, cells := 0, slots := 0, locals := 95 } : Room) (wx_Pc D cy ad B0 f P g [.ref (ad 57), .int a1, .int a2, .int a3]) (QcRead (r_X12_followed g a1 a2 a3)) 0 0 (fun _ => False) := by
  refine wx_enterR (cc := cX12_followed) (maxL := 10) (ty := .int) (own := RX12) (lv := [(0, .ref (ad 57)), (1, .int a1), (2, .int a2), (3, .int a3)]) (by decide) rfl rfl (Nat.le_of_ble_eq_true rfl) rfl ?_
  intro p e R s m args below meth c ls Qm hx hb hml hown hts hK hX hR hret hl
  have hi_X12 : ∀ w ∈ wsX120, w ∈ wsX12_followed := by decide +kernel
  refine lv_aload_n hx hb dX12_followed_0 rfl (lv_at hl 0 rfl) ?_
  refine lv_iload_n hx hb dX12_followed_1 rfl (lv_at hl 1 rfl) ?_
  refine wx_callr (va_runV (As := [.int a1]) (rest := []) ⟨hx, hb, hml, hown, hts⟩ (k_X12_isGuest l g a1) (cwV 1 hts gX12_followed_X12_isGuest rfl rfl rfl (by decide +kernel) (by rw [hR]; exact ⟨Nat.le_of_ble_eq_true rfl, Nat.le_of_ble_eq_true rfl⟩)) ⟨wx_Pc.blind, wx_recv hK hX (by decide) sh_X12 rfl, (wx_Pc.pre hK hX).2⟩ rfl rfl hl.1 rfl (lv_room (Nat.le_of_ble_eq_true rfl)) dX12_followed_2 ⟨Nat.zero_le _, Nat.zero_le _⟩) ?_
  refine lv_if_eq (tgt := 25) hx hb dX12_followed_5 (by decide) (fun c_1 => ?_) (fun c_1 => ?_)
  · have b_2 : wx_b (r_X12_isGuest g a1) 0 0 := by rw [c_1]; exact ⟨by decide, by decide⟩
    refine lv_ldc hx hb hown (hts (.constant RX12 60 (-1000001)) (by decide +kernel)) dX12_followed_25 ?_
    exact hret _ _ _ dX12_followed_27 rfl (by simp only [r_X12_followed, if_pos c_1])
  · have b_3 : wx_b a1 0 3 := rf_X12_isGuest hm c_1
    refine lv_aload_n hx hb dX12_followed_8 rfl (lv_at hl 0 rfl) ?_
    refine lv_iload_n hx hb dX12_followed_9 rfl (lv_at hl 2 rfl) ?_
    refine wx_callr (va_runV (As := [.int a2]) (rest := []) ⟨hx, hb, hml, hown, hts⟩ (k_X12_isMan l g a2) (cwV 1 hts gX12_followed_X12_isMan rfl rfl rfl (by decide +kernel) (by rw [hR]; exact ⟨Nat.le_of_ble_eq_true rfl, Nat.le_of_ble_eq_true rfl⟩)) ⟨wx_Pc.blind, wx_recv hK hX (by decide) sh_X12 rfl, (wx_Pc.pre hK hX).2⟩ rfl rfl hl.1 rfl (lv_room (Nat.le_of_ble_eq_true rfl)) dX12_followed_10 ⟨Nat.zero_le _, Nat.zero_le _⟩) ?_
    refine lv_if_eq (tgt := 25) hx hb dX12_followed_13 (by decide) (fun c_4 => ?_) (fun c_4 => ?_)
    · have b_5 : wx_b (r_X12_isMan g a2) 0 0 := by rw [c_4]; exact ⟨by decide, by decide⟩
      refine lv_ldc hx hb hown (hts (.constant RX12 60 (-1000001)) (by decide +kernel)) dX12_followed_25 ?_
      exact hret _ _ _ dX12_followed_27 rfl (by simp only [r_X12_followed, if_neg c_1, if_pos c_4])
    · have b_6 : wx_b a2 0 3 := rf_X12_isMan hm c_4
      refine lv_iload_n hx hb dX12_followed_16 rfl (lv_at hl 3 rfl) ?_
      refine lv_iconst (v := 0) hx hb dX12_followed_17 (by decide) ?_
      refine lv_iconst (v := 1) hx hb dX12_followed_18 (by decide) ?_
      refine wx_callr (va_runS (As := [.int a3, .int 0, .int 1]) (rest := []) ⟨hx, hb, hml, hown, hts⟩ (k_X12_in l g a3 0 1) (va_cwS 3 hts gX12_followed_X12_in rfl rfl rfl (by decide +kernel) (by rw [hR]; exact ⟨Nat.le_of_ble_eq_true rfl, Nat.le_of_ble_eq_true rfl⟩)) (wx_Pc.pre hK hX) rfl rfl hl.1 rfl (lv_room (Nat.le_of_ble_eq_true rfl)) dX12_followed_19 ⟨Nat.zero_le _, Nat.zero_le _⟩) ?_
      refine lv_if_ne (tgt := 28) hx hb dX12_followed_22 (by decide) (fun c_7 => ?_) (fun c_7 => ?_)
      · have b_8 : wx_b a3 0 1 := rf_X12_in (show wx_b 0 0 0 from ⟨by decide, by decide⟩) (show wx_b 1 1 1 from ⟨by decide, by decide⟩) c_7
        refine lv_iconst (v := 0) hx hb dX12_followed_28 (by decide) ?_
        refine lv_istore (lv' := [(4, .int 0), (0, .ref (ad 57)), (1, .int a1), (2, .int a2), (3, .int a3)]) hx hb dX12_followed_29 hl (by decide) rfl (fun ls hl => ?_)
        refine lv_ldc hx hb hown (hts (.constant RX12 201 (-1000000)) (by decide +kernel)) dX12_followed_31 ?_
        refine lv_istore (lv' := [(5, .int (-1000000)), (4, .int 0), (0, .ref (ad 57)), (1, .int a1), (2, .int a2), (3, .int a3)]) hx hb dX12_followed_33 hl (by decide) rfl (fun ls hl => ?_)
        refine lv_iconst (v := 0) hx hb dX12_followed_35 (by decide) ?_
        refine lv_istore (lv' := [(6, .int 0), (5, .int (-1000000)), (4, .int 0), (0, .ref (ad 57)), (1, .int a1), (2, .int a2), (3, .int a3)]) hx hb dX12_followed_36 hl (by decide) rfl (fun ls hl => ?_)
        have lp_38 : ∀ (n t_38 : Nat) (s_38 : Int32 × Int32) (ls : Array Slot), t_38 ≤ 8 → 8 + 1 ≤ t_38 + n → s_38 = rep t_38 (b_X12_followed_38 g a1 a2 a3) (0, (-1000000)) → lv_has ls 10 [(6, .int (nI t_38)), (5, .int s_38.2), (4, .int s_38.1), (0, .ref (ad 57)), (1, .int a1), (2, .int a2), (3, .int a3)] → W p l e R s m args below meth c s.heap [] 0 0 Qm (F0 m 38 ls []) := by
          intro n
          induction n with
          | zero => intro t_38 s_38 ls h1 h2; exact absurd h2 (by omega)
          | succ n ih_38 =>
            intro t_38 s_38 ls ht_38 hn_38 es_38 hl
            refine lv_iload hx hb dX12_followed_38 (lv_at hl 0 rfl) ?_
            refine lv_bipush (v := 8) hx hb dX12_followed_40 (by decide) ?_
            refine lv_icmp_ge (tgt := 162) hx hb dX12_followed_42 (by decide) (fun c_9 => ?_) (fun c_9 => ?_)
            · have et_38 : t_38 = 8 := Nat.le_antisymm ht_38 (by have h9 := wx_dn (by omega) c_9; have h8 : (8 : Int32).toNatClampNeg = 8 := (by decide); omega)
              subst et_38
              refine lv_iload_n hx hb dX12_followed_162 rfl (lv_at hl 6 rfl) ?_
              refine lv_if_ne (tgt := 171) hx hb dX12_followed_163 (by decide) (fun c_10 => ?_) (fun c_10 => ?_)
              · have b_11 : wx_b a3 1 1 := wb_nel c_10 b_8 (by decide)
                refine lv_iload hx hb dX12_followed_171 (lv_at hl 1 rfl) ?_
                exact hret _ _ _ dX12_followed_173 rfl (by simp only [r_X12_followed, if_neg c_1, if_neg c_4, if_neg c_7, if_neg c_10, ← es_38])
              · have b_12 : wx_b a3 0 0 := by rw [c_10]; exact ⟨by decide, by decide⟩
                refine lv_iload hx hb dX12_followed_166 (lv_at hl 2 rfl) ?_
                refine lv_goto (tgt := 173) hx hb dX12_followed_168 (by decide) ?_
                exact hret _ _ _ dX12_followed_173 rfl (by simp only [r_X12_followed, if_neg c_1, if_neg c_4, if_neg c_7, if_pos c_10, ← es_38])
            · have hlt_38 : t_38 < 8 := by have h9 := wx_up (by omega) c_9; have h8 : (8 : Int32).toNatClampNeg = 8 := (by decide); omega
              have bt_38 : wx_b (nI (t_38)) 0 7 := wb_nI (n := 7) (by omega) (by decide)
              refine lv_iconst (v := 0) hx hb dX12_followed_45 (by decide) ?_
              refine lv_istore (lv' := [(7, .int 0), (6, .int (nI t_38)), (5, .int s_38.2), (4, .int s_38.1), (0, .ref (ad 57)), (1, .int a1), (2, .int a2), (3, .int a3)]) hx hb dX12_followed_46 hl (by decide) rfl (fun ls hl => ?_)
              refine lv_iconst (v := 0) hx hb dX12_followed_48 (by decide) ?_
              refine lv_istore (lv' := [(8, .int 0), (7, .int 0), (6, .int (nI t_38)), (5, .int s_38.2), (4, .int s_38.1), (0, .ref (ad 57)), (1, .int a1), (2, .int a2), (3, .int a3)]) hx hb dX12_followed_49 hl (by decide) rfl (fun ls hl => ?_)
              refine lv_iconst (v := 1) hx hb dX12_followed_51 (by decide) ?_
              refine lv_istore (lv' := [(9, .int 1), (8, .int 0), (7, .int 0), (6, .int (nI t_38)), (5, .int s_38.2), (4, .int s_38.1), (0, .ref (ad 57)), (1, .int a1), (2, .int a2), (3, .int a3)]) hx hb dX12_followed_52 hl (by decide) rfl (fun ls hl => ?_)
              have lp_54 : ∀ (n t_54 : Nat) (s_54 : Int32 × Int32 × Int32) (ls : Array Slot), t_54 < 9 → 9 ≤ t_54 + n → repX t_54 (b_X12_followed_54 g a1 a2 a3 t_38 s_38) (0, 0, 1) = .inl s_54 → ((s_54.2.2 = 1 ∧ s_54.2.1 = nI t_54) ∨ s_54.2.2 = 0) → lv_has ls 10 [(9, .int s_54.2.2), (8, .int s_54.2.1), (7, .int s_54.1), (6, .int (nI t_38)), (5, .int s_38.2), (4, .int s_38.1), (0, .ref (ad 57)), (1, .int a1), (2, .int a2), (3, .int a3)] → W p l e R s m args below meth c s.heap [] 0 0 Qm (F0 m 54 ls []) := by
                intro n
                induction n with
                | zero => intro t_54 s_54 ls h1 h2; exact absurd h2 (by omega)
                | succ n ih_54 =>
                  intro t_54 s_54 ls hlt_54 hn_54 es_54 hW_54 hl
                  refine lv_iload hx hb dX12_followed_54 (lv_at hl 0 rfl) ?_
                  refine lv_if_eq (tgt := 124) hx hb dX12_followed_56 (by decide) (fun c_13 => ?_) (fun c_13 => ?_)
                  · have b_14 : wx_b s_54.2.2 0 0 := by rw [c_13]; exact ⟨by decide, by decide⟩
                    refine lv_iload hx hb dX12_followed_124 (lv_at hl 1 rfl) ?_
                    refine lv_iload hx hb dX12_followed_126 (lv_at hl 5 rfl) ?_
                    refine lv_icmp_le (tgt := 136) hx hb dX12_followed_128 (by decide) (fun c_15 => ?_) (fun c_15 => ?_)
                    · refine lv_iload hx hb dX12_followed_136 (lv_at hl 4 rfl) ?_
                      refine lv_istore (lv' := [(5, .int s_38.2), (9, .int s_54.2.2), (8, .int s_54.2.1), (7, .int s_54.1), (6, .int (nI t_38)), (4, .int s_38.1), (0, .ref (ad 57)), (1, .int a1), (2, .int a2), (3, .int a3)]) hx hb dX12_followed_138 hl (by decide) rfl (fun ls hl => ?_)
                      refine lv_iload hx hb dX12_followed_140 (lv_at hl 2 rfl) ?_
                      refine lv_iload hx hb dX12_followed_142 (lv_at hl 5 rfl) ?_
                      refine lv_icmp_le (tgt := 152) hx hb dX12_followed_144 (by decide) (fun _ => ?_) (fun c9 => absurd c_15 c9)
                      refine lv_iload hx hb dX12_followed_152 (lv_at hl 5 rfl) ?_
                      refine lv_istore (lv' := [(4, .int s_38.1), (5, .int s_38.2), (9, .int s_54.2.2), (8, .int s_54.2.1), (7, .int s_54.1), (6, .int (nI t_38)), (0, .ref (ad 57)), (1, .int a1), (2, .int a2), (3, .int a3)]) hx hb dX12_followed_154 hl (by decide) rfl (fun ls hl => ?_)
                      refine lv_iinc (v := nI (t_38 + 1)) (lv' := [(6, .int (nI (t_38 + 1))), (4, .int s_38.1), (5, .int s_38.2), (9, .int s_54.2.2), (8, .int s_54.2.1), (7, .int s_54.1), (0, .ref (ad 57)), (1, .int a1), (2, .int a2), (3, .int a3)]) hx hb dX12_followed_156 hl (k := 5) rfl (wx_inc _) (by decide) rfl (fun ls hl => ?_)
                      refine lv_goto (tgt := 38) hx hb dX12_followed_159 (by decide) ?_
                      have hF_16 : (b_X12_followed_54 g a1 a2 a3 t_38 s_38) t_54 s_54 = .inr ((s_38.1, s_38.2)) := (by simp only [b_X12_followed_54, if_pos c_13, if_pos c_15])
                      have hO_17 : repX 9 (b_X12_followed_54 g a1 a2 a3 t_38 s_38) (0, 0, 1) = .inr ((s_38.1, s_38.2)) := repX_out es_54 hF_16 hlt_54
                      have hF_18 : (b_X12_followed_38 g a1 a2 a3) t_38 s_38 = (s_38.1, s_38.2) := (by simp only [b_X12_followed_38, hO_17])
                      exact ih_38 (t_38 + 1) (s_38.1, s_38.2) ls hlt_38 (by omega) (by rw [rep_succ, ← es_38, hF_18]) (lv_sub hl [0, 2, 1, 6, 7, 8, 9] rfl)
                    · have b_19 : wx_b s_38.1 (-2147483648) 2147483646 := wb_lt (wb_nle c_15) (wb_any _) (wb_any _) (by decide) (by decide)
                      have b_20 : wx_b s_54.2.1 (-2147483647) 2147483647 := wb_gt (wb_nle c_15) (wb_any _) (wb_any _) (by decide) (by decide)
                      refine lv_iload hx hb dX12_followed_131 (lv_at hl 3 rfl) ?_
                      refine lv_goto (tgt := 138) hx hb dX12_followed_133 (by decide) ?_
                      refine lv_istore (lv' := [(5, .int (nI t_38)), (9, .int s_54.2.2), (8, .int s_54.2.1), (7, .int s_54.1), (6, .int (nI t_38)), (4, .int s_38.1), (0, .ref (ad 57)), (1, .int a1), (2, .int a2), (3, .int a3)]) hx hb dX12_followed_138 hl (by decide) rfl (fun ls hl => ?_)
                      refine lv_iload hx hb dX12_followed_140 (lv_at hl 2 rfl) ?_
                      refine lv_iload hx hb dX12_followed_142 (lv_at hl 5 rfl) ?_
                      refine lv_icmp_le (tgt := 152) hx hb dX12_followed_144 (by decide) (fun c9 => absurd c9 c_15) (fun _ => ?_)
                      refine lv_iload hx hb dX12_followed_147 (lv_at hl 2 rfl) ?_
                      refine lv_goto (tgt := 154) hx hb dX12_followed_149 (by decide) ?_
                      refine lv_istore (lv' := [(4, .int s_54.2.1), (5, .int (nI t_38)), (9, .int s_54.2.2), (8, .int s_54.2.1), (7, .int s_54.1), (6, .int (nI t_38)), (0, .ref (ad 57)), (1, .int a1), (2, .int a2), (3, .int a3)]) hx hb dX12_followed_154 hl (by decide) rfl (fun ls hl => ?_)
                      refine lv_iinc (v := nI (t_38 + 1)) (lv' := [(6, .int (nI (t_38 + 1))), (4, .int s_54.2.1), (5, .int (nI t_38)), (9, .int s_54.2.2), (8, .int s_54.2.1), (7, .int s_54.1), (0, .ref (ad 57)), (1, .int a1), (2, .int a2), (3, .int a3)]) hx hb dX12_followed_156 hl (k := 5) rfl (wx_inc _) (by decide) rfl (fun ls hl => ?_)
                      refine lv_goto (tgt := 38) hx hb dX12_followed_159 (by decide) ?_
                      have hF_21 : (b_X12_followed_54 g a1 a2 a3 t_38 s_38) t_54 s_54 = .inr ((s_54.2.1, (nI t_38))) := (by simp only [b_X12_followed_54, if_pos c_13, if_neg c_15])
                      have hO_22 : repX 9 (b_X12_followed_54 g a1 a2 a3 t_38 s_38) (0, 0, 1) = .inr ((s_54.2.1, (nI t_38))) := repX_out es_54 hF_21 hlt_54
                      have hF_23 : (b_X12_followed_38 g a1 a2 a3) t_38 s_38 = (s_54.2.1, (nI t_38)) := (by simp only [b_X12_followed_38, hO_22])
                      exact ih_38 (t_38 + 1) (s_54.2.1, (nI t_38)) ls hlt_38 (by omega) (by rw [rep_succ, ← es_38, hF_23]) (lv_sub hl [0, 2, 1, 6, 7, 8, 9] rfl)
                  · have hn_54 : s_54.2.1 = nI t_54 := by
                      rcases hW_54 with h9 | h9
                      · exact h9.2
                      · exact absurd h9 c_13
                    have bn_54 : wx_b s_54.2.1 0 8 := by rw [hn_54]; exact wb_nI (n := 8) (by omega) (by decide)
                    refine lv_iload hx hb dX12_followed_59 (lv_at hl 3 rfl) ?_
                    refine lv_iload hx hb dX12_followed_61 (lv_at hl 1 rfl) ?_
                    refine lv_iadd hx hb dX12_followed_63 ?_
                    refine lv_bipush (v := 8) hx hb dX12_followed_64 (by decide) ?_
                    refine lv_icmp_ge (tgt := 124) hx hb dX12_followed_66 (by decide) (fun c_24 => ?_) (fun c_24 => ?_)
                    · have b_25 : wx_b ((nI t_38) + s_54.2.1) 8 15 := wb_ge c_24 (wb_add bt_38 bn_54 (by decide) (by decide)) (show wx_b 8 8 8 from ⟨by decide, by decide⟩) (by decide) (by decide)
                      refine lv_iload hx hb dX12_followed_124 (lv_at hl 1 rfl) ?_
                      refine lv_iload hx hb dX12_followed_126 (lv_at hl 5 rfl) ?_
                      refine lv_icmp_le (tgt := 136) hx hb dX12_followed_128 (by decide) (fun c_26 => ?_) (fun c_26 => ?_)
                      · have b_27 : wx_b s_38.1 0 2147483647 := wb_ge c_26 (wb_any _) bn_54 (by decide) (by decide)
                        refine lv_iload hx hb dX12_followed_136 (lv_at hl 4 rfl) ?_
                        refine lv_istore (lv' := [(5, .int s_38.2), (9, .int s_54.2.2), (8, .int s_54.2.1), (7, .int s_54.1), (6, .int (nI t_38)), (4, .int s_38.1), (0, .ref (ad 57)), (1, .int a1), (2, .int a2), (3, .int a3)]) hx hb dX12_followed_138 hl (by decide) rfl (fun ls hl => ?_)
                        refine lv_iload hx hb dX12_followed_140 (lv_at hl 2 rfl) ?_
                        refine lv_iload hx hb dX12_followed_142 (lv_at hl 5 rfl) ?_
                        refine lv_icmp_le (tgt := 152) hx hb dX12_followed_144 (by decide) (fun _ => ?_) (fun c9 => absurd c_26 c9)
                        refine lv_iload hx hb dX12_followed_152 (lv_at hl 5 rfl) ?_
                        refine lv_istore (lv' := [(4, .int s_38.1), (5, .int s_38.2), (9, .int s_54.2.2), (8, .int s_54.2.1), (7, .int s_54.1), (6, .int (nI t_38)), (0, .ref (ad 57)), (1, .int a1), (2, .int a2), (3, .int a3)]) hx hb dX12_followed_154 hl (by decide) rfl (fun ls hl => ?_)
                        refine lv_iinc (v := nI (t_38 + 1)) (lv' := [(6, .int (nI (t_38 + 1))), (4, .int s_38.1), (5, .int s_38.2), (9, .int s_54.2.2), (8, .int s_54.2.1), (7, .int s_54.1), (0, .ref (ad 57)), (1, .int a1), (2, .int a2), (3, .int a3)]) hx hb dX12_followed_156 hl (k := 5) rfl (wx_inc _) (by decide) rfl (fun ls hl => ?_)
                        refine lv_goto (tgt := 38) hx hb dX12_followed_159 (by decide) ?_
                        have hF_28 : (b_X12_followed_54 g a1 a2 a3 t_38 s_38) t_54 s_54 = .inr ((s_38.1, s_38.2)) := (by simp only [b_X12_followed_54, if_neg c_13, if_pos c_24, if_pos c_26])
                        have hO_29 : repX 9 (b_X12_followed_54 g a1 a2 a3 t_38 s_38) (0, 0, 1) = .inr ((s_38.1, s_38.2)) := repX_out es_54 hF_28 hlt_54
                        have hF_30 : (b_X12_followed_38 g a1 a2 a3) t_38 s_38 = (s_38.1, s_38.2) := (by simp only [b_X12_followed_38, hO_29])
                        exact ih_38 (t_38 + 1) (s_38.1, s_38.2) ls hlt_38 (by omega) (by rw [rep_succ, ← es_38, hF_30]) (lv_sub hl [0, 2, 1, 6, 7, 8, 9] rfl)
                      · have b_31 : wx_b s_38.1 (-2147483648) 7 := wb_lt (wb_nle c_26) (wb_any _) bn_54 (by decide) (by decide)
                        refine lv_iload hx hb dX12_followed_131 (lv_at hl 3 rfl) ?_
                        refine lv_goto (tgt := 138) hx hb dX12_followed_133 (by decide) ?_
                        refine lv_istore (lv' := [(5, .int (nI t_38)), (9, .int s_54.2.2), (8, .int s_54.2.1), (7, .int s_54.1), (6, .int (nI t_38)), (4, .int s_38.1), (0, .ref (ad 57)), (1, .int a1), (2, .int a2), (3, .int a3)]) hx hb dX12_followed_138 hl (by decide) rfl (fun ls hl => ?_)
                        refine lv_iload hx hb dX12_followed_140 (lv_at hl 2 rfl) ?_
                        refine lv_iload hx hb dX12_followed_142 (lv_at hl 5 rfl) ?_
                        refine lv_icmp_le (tgt := 152) hx hb dX12_followed_144 (by decide) (fun c9 => absurd c9 c_26) (fun _ => ?_)
                        refine lv_iload hx hb dX12_followed_147 (lv_at hl 2 rfl) ?_
                        refine lv_goto (tgt := 154) hx hb dX12_followed_149 (by decide) ?_
                        refine lv_istore (lv' := [(4, .int s_54.2.1), (5, .int (nI t_38)), (9, .int s_54.2.2), (8, .int s_54.2.1), (7, .int s_54.1), (6, .int (nI t_38)), (0, .ref (ad 57)), (1, .int a1), (2, .int a2), (3, .int a3)]) hx hb dX12_followed_154 hl (by decide) rfl (fun ls hl => ?_)
                        refine lv_iinc (v := nI (t_38 + 1)) (lv' := [(6, .int (nI (t_38 + 1))), (4, .int s_54.2.1), (5, .int (nI t_38)), (9, .int s_54.2.2), (8, .int s_54.2.1), (7, .int s_54.1), (0, .ref (ad 57)), (1, .int a1), (2, .int a2), (3, .int a3)]) hx hb dX12_followed_156 hl (k := 5) rfl (wx_inc _) (by decide) rfl (fun ls hl => ?_)
                        refine lv_goto (tgt := 38) hx hb dX12_followed_159 (by decide) ?_
                        have hF_32 : (b_X12_followed_54 g a1 a2 a3 t_38 s_38) t_54 s_54 = .inr ((s_54.2.1, (nI t_38))) := (by simp only [b_X12_followed_54, if_neg c_13, if_pos c_24, if_neg c_26])
                        have hO_33 : repX 9 (b_X12_followed_54 g a1 a2 a3 t_38 s_38) (0, 0, 1) = .inr ((s_54.2.1, (nI t_38))) := repX_out es_54 hF_32 hlt_54
                        have hF_34 : (b_X12_followed_38 g a1 a2 a3) t_38 s_38 = (s_54.2.1, (nI t_38)) := (by simp only [b_X12_followed_38, hO_33])
                        exact ih_38 (t_38 + 1) (s_54.2.1, (nI t_38)) ls hlt_38 (by omega) (by rw [rep_succ, ← es_38, hF_34]) (lv_sub hl [0, 2, 1, 6, 7, 8, 9] rfl)
                    · have b_35 : wx_b ((nI t_38) + s_54.2.1) 0 7 := wb_lt (wb_nle c_24) (wb_add bt_38 bn_54 (by decide) (by decide)) (show wx_b 8 8 8 from ⟨by decide, by decide⟩) (by decide) (by decide)
                      have hs8 : t_54 + 1 < 9 := by have h9 := c_24; rw [hn_54, nI_add] at h9; have h7 := wx_up (by omega) h9; have e8 : (8 : Int32).toNatClampNeg = 8 := (by decide); omega
                      refine lv_iload hx hb dX12_followed_69 (lv_at hl 2 rfl) ?_
                      refine lv_aload_n hx hb dX12_followed_71 rfl (lv_at hl 6 rfl) ?_
                      refine lv_iload_n hx hb dX12_followed_72 rfl (lv_at hl 7 rfl) ?_
                      refine lv_iload_n hx hb dX12_followed_73 rfl (lv_at hl 8 rfl) ?_
                      refine lv_iload hx hb dX12_followed_74 (lv_at hl 3 rfl) ?_
                      refine lv_iload hx hb dX12_followed_76 (lv_at hl 1 rfl) ?_
                      refine lv_iadd hx hb dX12_followed_78 ?_
                      refine wx_callr (va_runV (As := [.int a1, .int a2, .int ((nI t_38) + s_54.2.1)]) (rest := [.int s_54.1]) ⟨hx, hb, hml, hown, hts⟩ (k_X12_costOf l g a1 a2 ((nI t_38) + s_54.2.1) b_3 b_6 b_35 hm) (cwV 3 hts gX12_followed_X12_costOf rfl rfl rfl (by decide +kernel) (by rw [hR]; exact ⟨Nat.le_of_ble_eq_true rfl, Nat.le_of_ble_eq_true rfl⟩)) ⟨wx_Pc.blind, wx_recv hK hX (by decide) sh_X12 rfl, (wx_Pc.pre hK hX).2⟩ rfl rfl hl.1 rfl (lv_room (Nat.le_of_ble_eq_true rfl)) dX12_followed_79 ⟨Nat.zero_le _, Nat.zero_le _⟩) ?_
                      refine lv_iadd hx hb dX12_followed_82 ?_
                      refine lv_topi (fun x_36 ex_36 => ?_)
                      refine lv_istore (lv' := [(7, .int x_36), (9, .int s_54.2.2), (8, .int s_54.2.1), (6, .int (nI t_38)), (5, .int s_38.2), (4, .int s_38.1), (0, .ref (ad 57)), (1, .int a1), (2, .int a2), (3, .int a3)]) hx hb dX12_followed_83 hl (by decide) rfl (fun ls hl => ?_)
                      refine lv_iload hx hb dX12_followed_85 (lv_at hl 0 rfl) ?_
                      refine lv_aload_n hx hb dX12_followed_87 rfl (lv_at hl 6 rfl) ?_
                      refine wx_getr (t := 65) (C := RX12) (T := TX12) (N := 27) (ci := 11) (j := 20) hx hb hts hi_X12 hown hK hX (by decide) sh_X12_20 rfl (by decide) (hts (.fieldLink RX12 31 "SeenAgainModel" "now" "[I") (by decide +kernel)) (fun _ h9 => h9) dX12_followed_88 ?_
                      refine lv_bipush (v := 47) hx hb dX12_followed_91 (by decide) ?_
                      refine lv_iload_n hx hb dX12_followed_93 rfl (lv_at hl 7 rfl) ?_
                      refine lv_iadd hx hb dX12_followed_94 ?_
                      refine wx_iald hx hb hK hX (by decide) sa_65 (wb_in (wb_add (show wx_b 47 47 47 from ⟨by decide, by decide⟩) b_3 (by decide) (by decide)) (by decide) (by decide)) dX12_followed_95 ?_
                      refine lv_icmp_gt (tgt := 103) hx hb dX12_followed_96 (by decide) (fun c_37 => ?_) (fun c_37 => ?_)
                      · have b_38 : wx_b (g 65 (47 + a1).toNatClampNeg) (-2147483648) 2147483646 := wb_lt c_37 (wb_any _) (wb_any _) (by decide) (by decide)
                        have b_39 : wx_b x_36 (-2147483647) 2147483647 := wb_gt c_37 (wb_any _) (wb_any _) (by decide) (by decide)
                        refine lv_iconst (v := 0) hx hb dX12_followed_103 (by decide) ?_
                        refine lv_istore (lv' := [(9, .int 0), (7, .int x_36), (8, .int s_54.2.1), (6, .int (nI t_38)), (5, .int s_38.2), (4, .int s_38.1), (0, .ref (ad 57)), (1, .int a1), (2, .int a2), (3, .int a3)]) hx hb dX12_followed_104 hl (by decide) rfl (fun ls hl => ?_)
                        refine lv_iload hx hb dX12_followed_106 (lv_at hl 2 rfl) ?_
                        refine lv_iload hx hb dX12_followed_108 (lv_at hl 0 rfl) ?_
                        refine lv_if_eq (tgt := 117) hx hb dX12_followed_110 (by decide) (fun _ => ?_) (fun c9 => absurd c9 (by decide))
                        refine lv_iconst (v := 0) hx hb dX12_followed_117 (by decide) ?_
                        refine lv_iadd hx hb dX12_followed_118 ?_
                        refine lv_topi (fun x_40 ex_40 => ?_)
                        have bx_40 : wx_b x_40 0 8 := by rw [ex_40]; exact (wb_add bn_54 (show wx_b 0 0 0 from ⟨by decide, by decide⟩) (by decide) (by decide))
                        refine lv_istore (lv' := [(8, .int x_40), (9, .int 0), (7, .int x_36), (6, .int (nI t_38)), (5, .int s_38.2), (4, .int s_38.1), (0, .ref (ad 57)), (1, .int a1), (2, .int a2), (3, .int a3)]) hx hb dX12_followed_119 hl (by decide) rfl (fun ls hl => ?_)
                        refine lv_goto (tgt := 54) hx hb dX12_followed_121 (by decide) ?_
                        have hF_41 : (b_X12_followed_54 g a1 a2 a3 t_38 s_38) t_54 s_54 = .inl (x_36, x_40, 0) := (by subst ex_40 ex_36; simp only [b_X12_followed_54, if_neg c_13, if_neg c_24, if_pos c_37])
                        have hst_54 : t_54 + 1 < 9 := hs8
                        exact ih_54 (t_54 + 1) (x_36, x_40, 0) ls hst_54 (by omega) ((repX_go es_54).trans hF_41) (Or.inr rfl) (lv_sub hl [1, 0, 2, 3, 4, 5, 6, 7, 8, 9] rfl)
                      · refine lv_iconst (v := 1) hx hb dX12_followed_99 (by decide) ?_
                        refine lv_goto (tgt := 104) hx hb dX12_followed_100 (by decide) ?_
                        refine lv_istore (lv' := [(9, .int 1), (7, .int x_36), (8, .int s_54.2.1), (6, .int (nI t_38)), (5, .int s_38.2), (4, .int s_38.1), (0, .ref (ad 57)), (1, .int a1), (2, .int a2), (3, .int a3)]) hx hb dX12_followed_104 hl (by decide) rfl (fun ls hl => ?_)
                        refine lv_iload hx hb dX12_followed_106 (lv_at hl 2 rfl) ?_
                        refine lv_iload hx hb dX12_followed_108 (lv_at hl 0 rfl) ?_
                        refine lv_if_eq (tgt := 117) hx hb dX12_followed_110 (by decide) (fun c9 => absurd c9 (by decide)) (fun _ => ?_)
                        refine lv_iconst (v := 1) hx hb dX12_followed_113 (by decide) ?_
                        refine lv_goto (tgt := 118) hx hb dX12_followed_114 (by decide) ?_
                        refine lv_iadd hx hb dX12_followed_118 ?_
                        refine lv_topi (fun x_42 ex_42 => ?_)
                        have bx_42 : wx_b x_42 1 9 := by rw [ex_42]; exact (wb_add bn_54 (show wx_b 1 1 1 from ⟨by decide, by decide⟩) (by decide) (by decide))
                        refine lv_istore (lv' := [(8, .int x_42), (9, .int 1), (7, .int x_36), (6, .int (nI t_38)), (5, .int s_38.2), (4, .int s_38.1), (0, .ref (ad 57)), (1, .int a1), (2, .int a2), (3, .int a3)]) hx hb dX12_followed_119 hl (by decide) rfl (fun ls hl => ?_)
                        refine lv_goto (tgt := 54) hx hb dX12_followed_121 (by decide) ?_
                        have hF_43 : (b_X12_followed_54 g a1 a2 a3 t_38 s_38) t_54 s_54 = .inl (x_36, x_42, 1) := (by subst ex_42 ex_36; simp only [b_X12_followed_54, if_neg c_13, if_neg c_24, if_neg c_37])
                        have hst_54 : t_54 + 1 < 9 := hs8
                        exact ih_54 (t_54 + 1) (x_36, x_42, 1) ls hst_54 (by omega) ((repX_go es_54).trans hF_43) (Or.inl ⟨rfl, by rw [show _ = s_54.2.1 + 1 from ex_42, hn_54]; exact nI_1 _⟩) (lv_sub hl [1, 0, 2, 3, 4, 5, 6, 7, 8, 9] rfl)
              exact lp_54 9 0 (0, 0, 1) ls (by decide) (by omega) rfl (Or.inl ⟨rfl, nI_0.symm⟩) (lv_sub hl [0, 1, 2, 3, 4, 5, 6, 7, 8, 9] rfl)
        exact lp_38 (8 + 1) 0 (0, (-1000000)) ls (Nat.zero_le _) (by omega) rfl (lv_sub hl [0, 1, 2, 3, 4, 5, 6] rfl)
      · have b_44 : wx_b (r_X12_in a3 0 1) 0 0 := by rw [c_7]; exact ⟨by decide, by decide⟩
        refine lv_ldc hx hb hown (hts (.constant RX12 60 (-1000001)) (by decide +kernel)) dX12_followed_25 ?_
        exact hret _ _ _ dX12_followed_27 rfl (by simp only [r_X12_followed, if_neg c_1, if_neg c_4, if_pos c_7])
def b_X12_nextSeat_41 (g : wx_M) (a1 : Int32) (a2 : Int32) (a3 : Int32) (t_41 : Nat) (s_41 : wx_M × Int32 × Int32) : (wx_M × Int32 × Int32) ⊕ (wx_M × Int32) :=
  if 24 ≤ (r_X12_soldOfAll s_41.1) then
    .inr ((s_41.1, s_41.2.1))
  else
    let x_15 := ((nI t_41) / 6)
    let x_16 := ((nI t_41) - (nI t_41) / 6 * 6)
    if (r_X12_isRoom s_41.1 x_16) = 0 then
      .inl (s_41.1, s_41.2.1, s_41.2.2)
    else
      if (r_X12_has (r_X12_heldAt s_41.1 x_16 x_15) a1) = 0 then
        if (r_X12_isLeft s_41.1 x_16 x_15) = 0 then
          .inl (s_41.1, s_41.2.1, s_41.2.2)
        else
          if (s_41.1 65 (47 + a1).toNatClampNeg) < (r_X12_priceOf s_41.1 a1 x_16 x_15) then
            .inl (s_41.1, s_41.2.1, s_41.2.2)
          else
            let x_30 := ((s_41.1 65 (100 + (nI t_41)).toNatClampNeg) ^^^ (1 <<< (a1 &&& 31)))
            let g_31 := up2 s_41.1 65 (100 + (nI t_41)).toNatClampNeg x_30
            let x_32 := (r_X12_bits g_31 (r_X12_suspectsOf g_31 (1 <<< (a1 &&& 31)) a2 a3))
            let x_33 := ((g_31 65 (100 + (nI t_41)).toNatClampNeg) ^^^ (1 <<< (a1 &&& 31)))
            let g_34 := up2 g_31 65 (100 + (nI t_41)).toNatClampNeg x_33
            if s_41.2.2 ≤ x_32 then
              .inl (g_34, s_41.2.1, s_41.2.2)
            else
              .inl (g_34, (nI t_41), x_32)
      else
        .inl (s_41.1, s_41.2.1, s_41.2.2)
def f_X12_nextSeat (g : wx_M) (a1 : Int32) (a2 : Int32) (a3 : Int32) : wx_M × Int32 :=
  if (r_X12_isGuest g a1) = 0 then
    (g, (-1000001))
  else
    if (r_X12_isRoom g a2) = 0 then
      (g, (-1000001))
    else
      if (r_X12_in a3 0 255) = 0 then
        (g, (-1000001))
      else
        (match repX 48 (b_X12_nextSeat_41 g a1 a2 a3) (g, (-1000000), 9) with
        | .inl s_41 =>
          (s_41.1, s_41.2.1)
        | .inr r9 => r9)
set_option maxHeartbeats 4000000 in
set_option maxRecDepth 100000 in
theorem k_X12_nextSeat (l : Launch) {D : va_G} {cy : Nat → ClassId} {ad : Nat → Nat} {B0 : Nat} {f : wx_F} {P : va_W} (g : wx_M) (a1 : Int32) (a2 : Int32) (a3 : Int32) (hm : wx_MB g) : Met l yX12_nextSeat wsX12_nextSeat ({ frames := 5, cells := 0, slots := 0, locals := 120 } : Room) (wx_Pc D cy ad B0 f P g [.ref (ad 57), .int a1, .int a2, .int a3]) (wx_Qe D cy ad B0 f P (f_X12_nextSeat g a1 a2 a3).1 (some (.int (f_X12_nextSeat g a1 a2 a3).2))) 0 0 (fun q => B0 ≤ q) := by
  refine wx_enterE (cc := cX12_nextSeat) (maxL := 10) (ty := .int) (own := RX12) (lv := [(0, .ref (ad 57)), (1, .int a1), (2, .int a2), (3, .int a3)]) (by decide) rfl rfl (Nat.le_of_ble_eq_true rfl) rfl ?_
  intro p e R s m args below meth c ls Qm hx hb hml hown hts hK hX hS hR hret hl
  have hi_X12 : ∀ w ∈ wsX120, w ∈ wsX12_nextSeat := by decide +kernel
  refine lv_aload_n hx hb dX12_nextSeat_0 rfl (lv_at hl 0 rfl) ?_
  refine lv_iload_n hx hb dX12_nextSeat_1 rfl (lv_at hl 1 rfl) ?_
  refine wx_callr (va_runV (As := [.int a1]) (rest := []) ⟨hx, hb, hml, hown, hts⟩ (k_X12_isGuest l g a1) (cwV 1 hts gX12_nextSeat_X12_isGuest rfl rfl rfl (by decide +kernel) (by rw [hR]; exact ⟨Nat.le_of_ble_eq_true rfl, Nat.le_of_ble_eq_true rfl⟩)) ⟨wx_Pc.blind, wx_recv hK hX (by decide) sh_X12 rfl, (wx_Pc.pre hK hX).2⟩ rfl rfl hl.1 rfl (lv_room (Nat.le_of_ble_eq_true rfl)) dX12_nextSeat_2 ⟨Nat.zero_le _, Nat.zero_le _⟩) ?_
  refine lv_if_eq (tgt := 27) hx hb dX12_nextSeat_5 (by decide) (fun c_1 => ?_) (fun c_1 => ?_)
  · have b_2 : wx_b (r_X12_isGuest g a1) 0 0 := by rw [c_1]; exact ⟨by decide, by decide⟩
    refine lv_ldc hx hb hown (hts (.constant RX12 60 (-1000001)) (by decide +kernel)) dX12_nextSeat_27 ?_
    exact hret _ _ _ _ _ _ dX12_nextSeat_29 rfl hX hS (by simp only [f_X12_nextSeat, if_pos c_1])
  · have b_3 : wx_b a1 0 3 := rf_X12_isGuest hm c_1
    refine lv_aload_n hx hb dX12_nextSeat_8 rfl (lv_at hl 0 rfl) ?_
    refine lv_iload_n hx hb dX12_nextSeat_9 rfl (lv_at hl 2 rfl) ?_
    refine wx_callr (va_runV (As := [.int a2]) (rest := []) ⟨hx, hb, hml, hown, hts⟩ (k_X12_isRoom l g a2) (cwV 1 hts gX12_nextSeat_X12_isRoom rfl rfl rfl (by decide +kernel) (by rw [hR]; exact ⟨Nat.le_of_ble_eq_true rfl, Nat.le_of_ble_eq_true rfl⟩)) ⟨wx_Pc.blind, wx_recv hK hX (by decide) sh_X12 rfl, (wx_Pc.pre hK hX).2⟩ rfl rfl hl.1 rfl (lv_room (Nat.le_of_ble_eq_true rfl)) dX12_nextSeat_10 ⟨Nat.zero_le _, Nat.zero_le _⟩) ?_
    refine lv_if_eq (tgt := 27) hx hb dX12_nextSeat_13 (by decide) (fun c_4 => ?_) (fun c_4 => ?_)
    · have b_5 : wx_b (r_X12_isRoom g a2) 0 0 := by rw [c_4]; exact ⟨by decide, by decide⟩
      refine lv_ldc hx hb hown (hts (.constant RX12 60 (-1000001)) (by decide +kernel)) dX12_nextSeat_27 ?_
      exact hret _ _ _ _ _ _ dX12_nextSeat_29 rfl hX hS (by simp only [f_X12_nextSeat, if_neg c_1, if_pos c_4])
    · have b_6 : wx_b a2 0 5 := rf_X12_isRoom hm c_4
      refine lv_iload_n hx hb dX12_nextSeat_16 rfl (lv_at hl 3 rfl) ?_
      refine lv_iconst (v := 0) hx hb dX12_nextSeat_17 (by decide) ?_
      refine lv_sipush (v := 255) hx hb dX12_nextSeat_18 (by decide) ?_
      refine wx_callr (va_runS (As := [.int a3, .int 0, .int 255]) (rest := []) ⟨hx, hb, hml, hown, hts⟩ (k_X12_in l g a3 0 255) (va_cwS 3 hts gX12_nextSeat_X12_in rfl rfl rfl (by decide +kernel) (by rw [hR]; exact ⟨Nat.le_of_ble_eq_true rfl, Nat.le_of_ble_eq_true rfl⟩)) (wx_Pc.pre hK hX) rfl rfl hl.1 rfl (lv_room (Nat.le_of_ble_eq_true rfl)) dX12_nextSeat_21 ⟨Nat.zero_le _, Nat.zero_le _⟩) ?_
      refine lv_if_ne (tgt := 30) hx hb dX12_nextSeat_24 (by decide) (fun c_7 => ?_) (fun c_7 => ?_)
      · have b_8 : wx_b a3 0 255 := rf_X12_in (show wx_b 0 0 0 from ⟨by decide, by decide⟩) (show wx_b 255 255 255 from ⟨by decide, by decide⟩) c_7
        refine lv_ldc hx hb hown (hts (.constant RX12 201 (-1000000)) (by decide +kernel)) dX12_nextSeat_30 ?_
        refine lv_istore (lv' := [(4, .int (-1000000)), (0, .ref (ad 57)), (1, .int a1), (2, .int a2), (3, .int a3)]) hx hb dX12_nextSeat_32 hl (by decide) rfl (fun ls hl => ?_)
        refine lv_bipush (v := 9) hx hb dX12_nextSeat_34 (by decide) ?_
        refine lv_istore (lv' := [(5, .int 9), (4, .int (-1000000)), (0, .ref (ad 57)), (1, .int a1), (2, .int a2), (3, .int a3)]) hx hb dX12_nextSeat_36 hl (by decide) rfl (fun ls hl => ?_)
        refine lv_iconst (v := 0) hx hb dX12_nextSeat_38 (by decide) ?_
        refine lv_istore (lv' := [(6, .int 0), (5, .int 9), (4, .int (-1000000)), (0, .ref (ad 57)), (1, .int a1), (2, .int a2), (3, .int a3)]) hx hb dX12_nextSeat_39 hl (by decide) rfl (fun ls hl => ?_)
        have lp_41 : ∀ (n t_41 : Nat) (s_41 : wx_M × Int32 × Int32) (ls : Array Slot) (H : Heap) (locs : List Loc), t_41 ≤ 48 → 48 + 1 ≤ t_41 + n → repX t_41 (b_X12_nextSeat_41 g a1 a2 a3) (g, (-1000000), 9) = .inl s_41 → wx_X D cy ad B0 f P s_41.1 H → va_S (fun q => B0 ≤ q) s.heap H locs → wx_MB s_41.1 → lv_has ls 10 [(6, .int (nI t_41)), (5, .int s_41.2.2), (4, .int s_41.2.1), (0, .ref (ad 57)), (1, .int a1), (2, .int a2), (3, .int a3)] → W p l e R s m args below meth c H locs 0 0 Qm (F0 m 41 ls []) := by
          intro n
          induction n with
          | zero => intro t_41 s_41 ls H locs h1 h2; exact absurd h2 (by omega)
          | succ n ih_41 =>
            intro t_41 s_41 ls H locs ht_41 hn_41 es_41 hX hS hmI_41 hl
            refine lv_iload hx hb dX12_nextSeat_41 (lv_at hl 0 rfl) ?_
            refine lv_bipush (v := 48) hx hb dX12_nextSeat_43 (by decide) ?_
            refine lv_icmp_ge (tgt := 227) hx hb dX12_nextSeat_45 (by decide) (fun c_9 => ?_) (fun c_9 => ?_)
            · have et_41 : t_41 = 48 := Nat.le_antisymm ht_41 (by have h9 := wx_dn (by omega) c_9; have h8 : (48 : Int32).toNatClampNeg = 48 := (by decide); omega)
              subst et_41
              refine lv_iload hx hb dX12_nextSeat_227 (lv_at hl 2 rfl) ?_
              exact hret _ _ _ _ _ _ dX12_nextSeat_229 rfl hX hS (by simp only [f_X12_nextSeat, if_neg c_1, if_neg c_4, if_neg c_7, es_41])
            · have hlt_41 : t_41 < 48 := by have h9 := wx_up (by omega) c_9; have h8 : (48 : Int32).toNatClampNeg = 48 := (by decide); omega
              have bt_41 : wx_b (nI (t_41)) 0 47 := wb_nI (n := 47) (by omega) (by decide)
              refine lv_aload_n hx hb dX12_nextSeat_48 rfl (lv_at hl 3 rfl) ?_
              refine wx_callr (va_runV (As := []) (rest := []) ⟨hx, hb, hml, hown, hts⟩ (k_X12_soldOfAll l s_41.1) (cwV 0 hts gX12_nextSeat_X12_soldOfAll rfl rfl rfl (by decide +kernel) (by rw [hR]; exact ⟨Nat.le_of_ble_eq_true rfl, Nat.le_of_ble_eq_true rfl⟩)) ⟨wx_Pc.blind, wx_recv hK hX (by decide) sh_X12 rfl, (wx_Pc.pre hK hX).2⟩ rfl rfl hl.1 rfl (lv_room (Nat.le_of_ble_eq_true rfl)) dX12_nextSeat_49 ⟨Nat.zero_le _, Nat.zero_le _⟩) ?_
              refine lv_bipush (v := 24) hx hb dX12_nextSeat_52 (by decide) ?_
              refine lv_icmp_ge (tgt := 227) hx hb dX12_nextSeat_54 (by decide) (fun c_10 => ?_) (fun c_10 => ?_)
              · have b_11 : wx_b (r_X12_soldOfAll s_41.1) 24 2147483647 := wb_ge c_10 (wb_any _) (show wx_b 24 24 24 from ⟨by decide, by decide⟩) (by decide) (by decide)
                refine lv_iload hx hb dX12_nextSeat_227 (lv_at hl 2 rfl) ?_
                have hF_12 : (b_X12_nextSeat_41 g a1 a2 a3) t_41 s_41 = .inr ((s_41.1, s_41.2.1)) := (by simp only [b_X12_nextSeat_41, if_pos c_10])
                have hO_13 : repX 48 (b_X12_nextSeat_41 g a1 a2 a3) (g, (-1000000), 9) = .inr ((s_41.1, s_41.2.1)) := repX_out es_41 hF_12 hlt_41
                exact hret _ _ _ _ _ _ dX12_nextSeat_229 rfl hX hS (by simp only [f_X12_nextSeat, if_neg c_1, if_neg c_4, if_neg c_7, hO_13])
              · have b_14 : wx_b (r_X12_soldOfAll s_41.1) (-2147483648) 23 := wb_lt (wb_nle c_10) (wb_any _) (show wx_b 24 24 24 from ⟨by decide, by decide⟩) (by decide) (by decide)
                refine lv_iload hx hb dX12_nextSeat_57 (lv_at hl 0 rfl) ?_
                refine lv_bipush (v := 6) hx hb dX12_nextSeat_59 (by decide) ?_
                refine lv_idiv hx hb dX12_nextSeat_61 (by decide) ?_
                refine lv_topi (fun x_15 ex_15 => ?_)
                have bx_15 : wx_b x_15 0 7 := by rw [ex_15]; exact (wb_div (d := 6) bt_41 (by decide) (by decide) (by decide) (by decide))
                refine lv_istore (lv' := [(7, .int x_15), (6, .int (nI t_41)), (5, .int s_41.2.2), (4, .int s_41.2.1), (0, .ref (ad 57)), (1, .int a1), (2, .int a2), (3, .int a3)]) hx hb dX12_nextSeat_62 hl (by decide) rfl (fun ls hl => ?_)
                refine lv_iload hx hb dX12_nextSeat_64 (lv_at hl 1 rfl) ?_
                refine lv_bipush (v := 6) hx hb dX12_nextSeat_66 (by decide) ?_
                refine lv_irem hx hb dX12_nextSeat_68 (by decide) ?_
                refine lv_topi (fun x_16 ex_16 => ?_)
                have bx_16 : wx_b x_16 0 5 := by rw [ex_16]; exact (wb_rem (d := 6) bt_41 (by decide) (by decide) trivial)
                refine lv_istore (lv' := [(8, .int x_16), (7, .int x_15), (6, .int (nI t_41)), (5, .int s_41.2.2), (4, .int s_41.2.1), (0, .ref (ad 57)), (1, .int a1), (2, .int a2), (3, .int a3)]) hx hb dX12_nextSeat_69 hl (by decide) rfl (fun ls hl => ?_)
                refine lv_aload_n hx hb dX12_nextSeat_71 rfl (lv_at hl 5 rfl) ?_
                refine lv_iload hx hb dX12_nextSeat_72 (lv_at hl 0 rfl) ?_
                refine wx_callr (va_runV (As := [.int x_16]) (rest := []) ⟨hx, hb, hml, hown, hts⟩ (k_X12_isRoom l s_41.1 x_16) (cwV 1 hts gX12_nextSeat_X12_isRoom rfl rfl rfl (by decide +kernel) (by rw [hR]; exact ⟨Nat.le_of_ble_eq_true rfl, Nat.le_of_ble_eq_true rfl⟩)) ⟨wx_Pc.blind, wx_recv hK hX (by decide) sh_X12 rfl, (wx_Pc.pre hK hX).2⟩ rfl rfl hl.1 rfl (lv_room (Nat.le_of_ble_eq_true rfl)) dX12_nextSeat_74 ⟨Nat.zero_le _, Nat.zero_le _⟩) ?_
                refine lv_if_eq (tgt := 221) hx hb dX12_nextSeat_77 (by decide) (fun c_17 => ?_) (fun c_17 => ?_)
                · have b_18 : wx_b (r_X12_isRoom s_41.1 x_16) 0 0 := by rw [c_17]; exact ⟨by decide, by decide⟩
                  refine lv_iinc (v := nI (t_41 + 1)) (lv' := [(6, .int (nI (t_41 + 1))), (8, .int x_16), (7, .int x_15), (5, .int s_41.2.2), (4, .int s_41.2.1), (0, .ref (ad 57)), (1, .int a1), (2, .int a2), (3, .int a3)]) hx hb dX12_nextSeat_221 hl (k := 2) rfl (wx_inc _) (by decide) rfl (fun ls hl => ?_)
                  refine lv_goto (tgt := 41) hx hb dX12_nextSeat_224 (by decide) ?_
                  have hF_19 : (b_X12_nextSeat_41 g a1 a2 a3) t_41 s_41 = .inl (s_41.1, s_41.2.1, s_41.2.2) := (by subst ex_16 ex_15; simp only [b_X12_nextSeat_41, if_neg c_10, if_pos c_17])
                  exact ih_41 (t_41 + 1) (s_41.1, s_41.2.1, s_41.2.2) ls H locs hlt_41 (by omega) ((repX_go es_41).trans hF_19) hX hS hmI_41 (lv_sub hl [0, 3, 4, 5, 6, 7, 8] rfl)
                · refine lv_aload_n hx hb dX12_nextSeat_80 rfl (lv_at hl 5 rfl) ?_
                  refine lv_iload hx hb dX12_nextSeat_81 (lv_at hl 0 rfl) ?_
                  refine lv_iload hx hb dX12_nextSeat_83 (lv_at hl 1 rfl) ?_
                  refine wx_callr (va_runV (As := [.int x_16, .int x_15]) (rest := []) ⟨hx, hb, hml, hown, hts⟩ (k_X12_heldAt l s_41.1 x_16 x_15 bx_16 bx_15) (cwV 2 hts gX12_nextSeat_X12_heldAt rfl rfl rfl (by decide +kernel) (by rw [hR]; exact ⟨Nat.le_of_ble_eq_true rfl, Nat.le_of_ble_eq_true rfl⟩)) ⟨wx_Pc.blind, wx_recv hK hX (by decide) sh_X12 rfl, (wx_Pc.pre hK hX).2⟩ rfl rfl hl.1 rfl (lv_room (Nat.le_of_ble_eq_true rfl)) dX12_nextSeat_85 ⟨Nat.zero_le _, Nat.zero_le _⟩) ?_
                  refine lv_iload_n hx hb dX12_nextSeat_88 rfl (lv_at hl 6 rfl) ?_
                  refine wx_callr (va_runS (As := [.int (r_X12_heldAt s_41.1 x_16 x_15), .int a1]) (rest := []) ⟨hx, hb, hml, hown, hts⟩ (k_X12_has l s_41.1 (r_X12_heldAt s_41.1 x_16 x_15) a1) (va_cwS 2 hts gX12_nextSeat_X12_has rfl rfl rfl (by decide +kernel) (by rw [hR]; exact ⟨Nat.le_of_ble_eq_true rfl, Nat.le_of_ble_eq_true rfl⟩)) (wx_Pc.pre hK hX) rfl rfl hl.1 rfl (lv_room (Nat.le_of_ble_eq_true rfl)) dX12_nextSeat_89 ⟨Nat.zero_le _, Nat.zero_le _⟩) ?_
                  refine lv_if_ne (tgt := 221) hx hb dX12_nextSeat_92 (by decide) (fun c_20 => ?_) (fun c_20 => ?_)
                  · refine lv_iinc (v := nI (t_41 + 1)) (lv' := [(6, .int (nI (t_41 + 1))), (8, .int x_16), (7, .int x_15), (5, .int s_41.2.2), (4, .int s_41.2.1), (0, .ref (ad 57)), (1, .int a1), (2, .int a2), (3, .int a3)]) hx hb dX12_nextSeat_221 hl (k := 2) rfl (wx_inc _) (by decide) rfl (fun ls hl => ?_)
                    refine lv_goto (tgt := 41) hx hb dX12_nextSeat_224 (by decide) ?_
                    have hF_21 : (b_X12_nextSeat_41 g a1 a2 a3) t_41 s_41 = .inl (s_41.1, s_41.2.1, s_41.2.2) := (by subst ex_16 ex_15; simp only [b_X12_nextSeat_41, if_neg c_10, if_neg c_17, if_neg c_20])
                    exact ih_41 (t_41 + 1) (s_41.1, s_41.2.1, s_41.2.2) ls H locs hlt_41 (by omega) ((repX_go es_41).trans hF_21) hX hS hmI_41 (lv_sub hl [0, 3, 4, 5, 6, 7, 8] rfl)
                  · have b_22 : wx_b (r_X12_has (r_X12_heldAt s_41.1 x_16 x_15) a1) 0 0 := by rw [c_20]; exact ⟨by decide, by decide⟩
                    refine lv_aload_n hx hb dX12_nextSeat_95 rfl (lv_at hl 5 rfl) ?_
                    refine lv_iload hx hb dX12_nextSeat_96 (lv_at hl 0 rfl) ?_
                    refine lv_iload hx hb dX12_nextSeat_98 (lv_at hl 1 rfl) ?_
                    refine wx_callr (va_runV (As := [.int x_16, .int x_15]) (rest := []) ⟨hx, hb, hml, hown, hts⟩ (k_X12_isLeft l s_41.1 x_16 x_15 bx_16 bx_15) (cwV 2 hts gX12_nextSeat_X12_isLeft rfl rfl rfl (by decide +kernel) (by rw [hR]; exact ⟨Nat.le_of_ble_eq_true rfl, Nat.le_of_ble_eq_true rfl⟩)) ⟨wx_Pc.blind, wx_recv hK hX (by decide) sh_X12 rfl, (wx_Pc.pre hK hX).2⟩ rfl rfl hl.1 rfl (lv_room (Nat.le_of_ble_eq_true rfl)) dX12_nextSeat_100 ⟨Nat.zero_le _, Nat.zero_le _⟩) ?_
                    refine lv_if_eq (tgt := 221) hx hb dX12_nextSeat_103 (by decide) (fun c_23 => ?_) (fun c_23 => ?_)
                    · have b_24 : wx_b (r_X12_isLeft s_41.1 x_16 x_15) 0 0 := by rw [c_23]; exact ⟨by decide, by decide⟩
                      refine lv_iinc (v := nI (t_41 + 1)) (lv' := [(6, .int (nI (t_41 + 1))), (8, .int x_16), (7, .int x_15), (5, .int s_41.2.2), (4, .int s_41.2.1), (0, .ref (ad 57)), (1, .int a1), (2, .int a2), (3, .int a3)]) hx hb dX12_nextSeat_221 hl (k := 2) rfl (wx_inc _) (by decide) rfl (fun ls hl => ?_)
                      refine lv_goto (tgt := 41) hx hb dX12_nextSeat_224 (by decide) ?_
                      have hF_25 : (b_X12_nextSeat_41 g a1 a2 a3) t_41 s_41 = .inl (s_41.1, s_41.2.1, s_41.2.2) := (by subst ex_16 ex_15; simp only [b_X12_nextSeat_41, if_neg c_10, if_neg c_17, if_pos c_20, if_pos c_23])
                      exact ih_41 (t_41 + 1) (s_41.1, s_41.2.1, s_41.2.2) ls H locs hlt_41 (by omega) ((repX_go es_41).trans hF_25) hX hS hmI_41 (lv_sub hl [0, 3, 4, 5, 6, 7, 8] rfl)
                    · refine lv_aload_n hx hb dX12_nextSeat_106 rfl (lv_at hl 5 rfl) ?_
                      refine wx_getr (t := 65) (C := RX12) (T := TX12) (N := 27) (ci := 11) (j := 20) hx hb hts hi_X12 hown hK hX (by decide) sh_X12_20 rfl (by decide) (hts (.fieldLink RX12 31 "SeenAgainModel" "now" "[I") (by decide +kernel)) (fun _ h9 => h9) dX12_nextSeat_107 ?_
                      refine lv_bipush (v := 47) hx hb dX12_nextSeat_110 (by decide) ?_
                      refine lv_iload_n hx hb dX12_nextSeat_112 rfl (lv_at hl 6 rfl) ?_
                      refine lv_iadd hx hb dX12_nextSeat_113 ?_
                      refine wx_iald hx hb hK hX (by decide) sa_65 (wb_in (wb_add (show wx_b 47 47 47 from ⟨by decide, by decide⟩) b_3 (by decide) (by decide)) (by decide) (by decide)) dX12_nextSeat_114 ?_
                      refine lv_aload_n hx hb dX12_nextSeat_115 rfl (lv_at hl 5 rfl) ?_
                      refine lv_iload_n hx hb dX12_nextSeat_116 rfl (lv_at hl 6 rfl) ?_
                      refine lv_iload hx hb dX12_nextSeat_117 (lv_at hl 0 rfl) ?_
                      refine lv_iload hx hb dX12_nextSeat_119 (lv_at hl 1 rfl) ?_
                      refine wx_callr (va_runV (As := [.int a1, .int x_16, .int x_15]) (rest := [.int (s_41.1 65 (47 + a1).toNatClampNeg)]) ⟨hx, hb, hml, hown, hts⟩ (k_X12_priceOf l s_41.1 a1 x_16 x_15 b_3 bx_16 bx_15 hmI_41) (cwV 3 hts gX12_nextSeat_X12_priceOf rfl rfl rfl (by decide +kernel) (by rw [hR]; exact ⟨Nat.le_of_ble_eq_true rfl, Nat.le_of_ble_eq_true rfl⟩)) ⟨wx_Pc.blind, wx_recv hK hX (by decide) sh_X12 rfl, (wx_Pc.pre hK hX).2⟩ rfl rfl hl.1 rfl (lv_room (Nat.le_of_ble_eq_true rfl)) dX12_nextSeat_121 ⟨Nat.zero_le _, Nat.zero_le _⟩) ?_
                      refine lv_icmp_lt (tgt := 221) hx hb dX12_nextSeat_124 (by decide) (fun c_26 => ?_) (fun c_26 => ?_)
                      · have b_27 : wx_b (s_41.1 65 (47 + a1).toNatClampNeg) (-2147483648) 2147483646 := wb_lt c_26 (wb_any _) (wb_any _) (by decide) (by decide)
                        have b_28 : wx_b (r_X12_priceOf s_41.1 a1 x_16 x_15) (-2147483647) 2147483647 := wb_gt c_26 (wb_any _) (wb_any _) (by decide) (by decide)
                        refine lv_iinc (v := nI (t_41 + 1)) (lv' := [(6, .int (nI (t_41 + 1))), (8, .int x_16), (7, .int x_15), (5, .int s_41.2.2), (4, .int s_41.2.1), (0, .ref (ad 57)), (1, .int a1), (2, .int a2), (3, .int a3)]) hx hb dX12_nextSeat_221 hl (k := 2) rfl (wx_inc _) (by decide) rfl (fun ls hl => ?_)
                        refine lv_goto (tgt := 41) hx hb dX12_nextSeat_224 (by decide) ?_
                        have hF_29 : (b_X12_nextSeat_41 g a1 a2 a3) t_41 s_41 = .inl (s_41.1, s_41.2.1, s_41.2.2) := (by subst ex_16 ex_15; simp only [b_X12_nextSeat_41, if_neg c_10, if_neg c_17, if_pos c_20, if_neg c_23, if_pos c_26])
                        exact ih_41 (t_41 + 1) (s_41.1, s_41.2.1, s_41.2.2) ls H locs hlt_41 (by omega) ((repX_go es_41).trans hF_29) hX hS hmI_41 (lv_sub hl [0, 3, 4, 5, 6, 7, 8] rfl)
                      · refine lv_aload_n hx hb dX12_nextSeat_127 rfl (lv_at hl 5 rfl) ?_
                        refine wx_getr (t := 65) (C := RX12) (T := TX12) (N := 27) (ci := 11) (j := 20) hx hb hts hi_X12 hown hK hX (by decide) sh_X12_20 rfl (by decide) (hts (.fieldLink RX12 31 "SeenAgainModel" "now" "[I") (by decide +kernel)) (fun _ h9 => h9) dX12_nextSeat_128 ?_
                        refine lv_bipush (v := 100) hx hb dX12_nextSeat_131 (by decide) ?_
                        refine lv_iload hx hb dX12_nextSeat_133 (lv_at hl 2 rfl) ?_
                        refine lv_iadd hx hb dX12_nextSeat_135 ?_
                        refine lv_aload_n hx hb dX12_nextSeat_136 rfl (lv_at hl 5 rfl) ?_
                        refine wx_getr (t := 65) (C := RX12) (T := TX12) (N := 27) (ci := 11) (j := 20) hx hb hts hi_X12 hown hK hX (by decide) sh_X12_20 rfl (by decide) (hts (.fieldLink RX12 31 "SeenAgainModel" "now" "[I") (by decide +kernel)) (fun _ h9 => h9) dX12_nextSeat_137 ?_
                        refine lv_bipush (v := 100) hx hb dX12_nextSeat_140 (by decide) ?_
                        refine lv_iload hx hb dX12_nextSeat_142 (lv_at hl 2 rfl) ?_
                        refine lv_iadd hx hb dX12_nextSeat_144 ?_
                        refine wx_iald hx hb hK hX (by decide) sa_65 (wb_in (wb_add (show wx_b 100 100 100 from ⟨by decide, by decide⟩) bt_41 (by decide) (by decide)) (by decide) (by decide)) dX12_nextSeat_145 ?_
                        refine lv_iconst (v := 1) hx hb dX12_nextSeat_146 (by decide) ?_
                        refine lv_iload_n hx hb dX12_nextSeat_147 rfl (lv_at hl 6 rfl) ?_
                        refine lv_ishl hx hb dX12_nextSeat_148 ?_
                        refine lv_ixor hx hb dX12_nextSeat_149 ?_
                        refine lv_topi (fun x_30 ex_30 => ?_)
                        refine wx_iast hx hb hK hX hS (by decide) sa_65 (wb_in (wb_add (show wx_b 100 100 100 from ⟨by decide, by decide⟩) bt_41 (by decide) (by decide)) (by decide) (by decide)) dX12_nextSeat_150 (fun H locs hX hS => ?_)
                        obtain ⟨g_31, eg_31, hX⟩ := wx_nm hX
                        refine lv_aload_n hx hb dX12_nextSeat_151 rfl (lv_at hl 5 rfl) ?_
                        refine lv_iconst (v := 1) hx hb dX12_nextSeat_152 (by decide) ?_
                        refine lv_iload_n hx hb dX12_nextSeat_153 rfl (lv_at hl 6 rfl) ?_
                        refine lv_ishl hx hb dX12_nextSeat_154 ?_
                        refine lv_iload_n hx hb dX12_nextSeat_155 rfl (lv_at hl 7 rfl) ?_
                        refine lv_iload_n hx hb dX12_nextSeat_156 rfl (lv_at hl 8 rfl) ?_
                        refine wx_callr (va_runV (As := [.int (1 <<< (a1 &&& 31)), .int a2, .int a3]) (rest := []) ⟨hx, hb, hml, hown, hts⟩ (k_X12_suspectsOf l g_31 (1 <<< (a1 &&& 31)) a2 a3 (by rw [eg_31]; exact mb_up2i (wb_add (show wx_b 100 100 100 from ⟨by decide, by decide⟩) bt_41 (by decide) (by decide)) (by decide) hmI_41)) (cwV 3 hts gX12_nextSeat_X12_suspectsOf rfl rfl rfl (by decide +kernel) (by rw [hR]; exact ⟨Nat.le_of_ble_eq_true rfl, Nat.le_of_ble_eq_true rfl⟩)) ⟨wx_Pc.blind, wx_recv hK hX (by decide) sh_X12 rfl, (wx_Pc.pre hK hX).2⟩ rfl rfl hl.1 rfl (lv_room (Nat.le_of_ble_eq_true rfl)) dX12_nextSeat_157 ⟨Nat.zero_le _, Nat.zero_le _⟩) ?_
                        refine wx_callr (va_runS (As := [.int (r_X12_suspectsOf g_31 (1 <<< (a1 &&& 31)) a2 a3)]) (rest := []) ⟨hx, hb, hml, hown, hts⟩ (k_X12_bits l g_31 (r_X12_suspectsOf g_31 (1 <<< (a1 &&& 31)) a2 a3)) (va_cwS 1 hts gX12_nextSeat_X12_bits rfl rfl rfl (by decide +kernel) (by rw [hR]; exact ⟨Nat.le_of_ble_eq_true rfl, Nat.le_of_ble_eq_true rfl⟩)) (wx_Pc.pre hK hX) rfl rfl hl.1 rfl (lv_room (Nat.le_of_ble_eq_true rfl)) dX12_nextSeat_160 ⟨Nat.zero_le _, Nat.zero_le _⟩) ?_
                        refine lv_topi (fun x_32 ex_32 => ?_)
                        refine lv_istore (lv' := [(9, .int x_32), (8, .int x_16), (7, .int x_15), (6, .int (nI t_41)), (5, .int s_41.2.2), (4, .int s_41.2.1), (0, .ref (ad 57)), (1, .int a1), (2, .int a2), (3, .int a3)]) hx hb dX12_nextSeat_163 hl (by decide) rfl (fun ls hl => ?_)
                        refine lv_aload_n hx hb dX12_nextSeat_165 rfl (lv_at hl 6 rfl) ?_
                        refine wx_getr (t := 65) (C := RX12) (T := TX12) (N := 27) (ci := 11) (j := 20) hx hb hts hi_X12 hown hK hX (by decide) sh_X12_20 rfl (by decide) (hts (.fieldLink RX12 31 "SeenAgainModel" "now" "[I") (by decide +kernel)) (fun _ h9 => h9) dX12_nextSeat_166 ?_
                        refine lv_bipush (v := 100) hx hb dX12_nextSeat_169 (by decide) ?_
                        refine lv_iload hx hb dX12_nextSeat_171 (lv_at hl 3 rfl) ?_
                        refine lv_iadd hx hb dX12_nextSeat_173 ?_
                        refine lv_aload_n hx hb dX12_nextSeat_174 rfl (lv_at hl 6 rfl) ?_
                        refine wx_getr (t := 65) (C := RX12) (T := TX12) (N := 27) (ci := 11) (j := 20) hx hb hts hi_X12 hown hK hX (by decide) sh_X12_20 rfl (by decide) (hts (.fieldLink RX12 31 "SeenAgainModel" "now" "[I") (by decide +kernel)) (fun _ h9 => h9) dX12_nextSeat_175 ?_
                        refine lv_bipush (v := 100) hx hb dX12_nextSeat_178 (by decide) ?_
                        refine lv_iload hx hb dX12_nextSeat_180 (lv_at hl 3 rfl) ?_
                        refine lv_iadd hx hb dX12_nextSeat_182 ?_
                        refine wx_iald hx hb hK hX (by decide) sa_65 (wb_in (wb_add (show wx_b 100 100 100 from ⟨by decide, by decide⟩) bt_41 (by decide) (by decide)) (by decide) (by decide)) dX12_nextSeat_183 ?_
                        refine lv_iconst (v := 1) hx hb dX12_nextSeat_184 (by decide) ?_
                        refine lv_iload_n hx hb dX12_nextSeat_185 rfl (lv_at hl 7 rfl) ?_
                        refine lv_ishl hx hb dX12_nextSeat_186 ?_
                        refine lv_ixor hx hb dX12_nextSeat_187 ?_
                        refine lv_topi (fun x_33 ex_33 => ?_)
                        refine wx_iast hx hb hK hX hS (by decide) sa_65 (wb_in (wb_add (show wx_b 100 100 100 from ⟨by decide, by decide⟩) bt_41 (by decide) (by decide)) (by decide) (by decide)) dX12_nextSeat_188 (fun H locs hX hS => ?_)
                        obtain ⟨g_34, eg_34, hX⟩ := wx_nm hX
                        refine lv_iload hx hb dX12_nextSeat_189 (lv_at hl 0 rfl) ?_
                        refine lv_iload hx hb dX12_nextSeat_191 (lv_at hl 4 rfl) ?_
                        refine lv_icmp_ge (tgt := 201) hx hb dX12_nextSeat_193 (by decide) (fun c_35 => ?_) (fun c_35 => ?_)
                        · refine lv_iload hx hb dX12_nextSeat_201 (lv_at hl 5 rfl) ?_
                          refine lv_istore (lv' := [(4, .int s_41.2.1), (9, .int x_32), (8, .int x_16), (7, .int x_15), (6, .int (nI t_41)), (5, .int s_41.2.2), (0, .ref (ad 57)), (1, .int a1), (2, .int a2), (3, .int a3)]) hx hb dX12_nextSeat_203 hl (by decide) rfl (fun ls hl => ?_)
                          refine lv_iload hx hb dX12_nextSeat_205 (lv_at hl 1 rfl) ?_
                          refine lv_iload hx hb dX12_nextSeat_207 (lv_at hl 5 rfl) ?_
                          refine lv_icmp_ge (tgt := 217) hx hb dX12_nextSeat_209 (by decide) (fun _ => ?_) (fun c9 => absurd c_35 c9)
                          refine lv_iload hx hb dX12_nextSeat_217 (lv_at hl 5 rfl) ?_
                          refine lv_istore (lv' := [(5, .int s_41.2.2), (4, .int s_41.2.1), (9, .int x_32), (8, .int x_16), (7, .int x_15), (6, .int (nI t_41)), (0, .ref (ad 57)), (1, .int a1), (2, .int a2), (3, .int a3)]) hx hb dX12_nextSeat_219 hl (by decide) rfl (fun ls hl => ?_)
                          refine lv_iinc (v := nI (t_41 + 1)) (lv' := [(6, .int (nI (t_41 + 1))), (5, .int s_41.2.2), (4, .int s_41.2.1), (9, .int x_32), (8, .int x_16), (7, .int x_15), (0, .ref (ad 57)), (1, .int a1), (2, .int a2), (3, .int a3)]) hx hb dX12_nextSeat_221 hl (k := 5) rfl (wx_inc _) (by decide) rfl (fun ls hl => ?_)
                          refine lv_goto (tgt := 41) hx hb dX12_nextSeat_224 (by decide) ?_
                          have hF_36 : (b_X12_nextSeat_41 g a1 a2 a3) t_41 s_41 = .inl (g_34, s_41.2.1, s_41.2.2) := (by subst eg_34 ex_33 ex_32 eg_31 ex_30 ex_16 ex_15; simp only [b_X12_nextSeat_41, if_neg c_10, if_neg c_17, if_pos c_20, if_neg c_23, if_neg c_26, if_pos c_35])
                          exact ih_41 (t_41 + 1) (g_34, s_41.2.1, s_41.2.2) ls H locs hlt_41 (by omega) ((repX_go es_41).trans hF_36) hX hS (by rw [eg_34]; exact mb_up2i (wb_add (show wx_b 100 100 100 from ⟨by decide, by decide⟩) bt_41 (by decide) (by decide)) (by decide) (by rw [eg_31]; exact mb_up2i (wb_add (show wx_b 100 100 100 from ⟨by decide, by decide⟩) bt_41 (by decide) (by decide)) (by decide) hmI_41)) (lv_sub hl [0, 1, 2, 6, 7, 8, 9] rfl)
                        · have b_37 : wx_b x_32 (-2147483648) 2147483646 := wb_lt (wb_nle c_35) (wb_any _) (wb_any _) (by decide) (by decide)
                          have b_38 : wx_b s_41.2.2 (-2147483647) 2147483647 := wb_gt (wb_nle c_35) (wb_any _) (wb_any _) (by decide) (by decide)
                          refine lv_iload hx hb dX12_nextSeat_196 (lv_at hl 3 rfl) ?_
                          refine lv_goto (tgt := 203) hx hb dX12_nextSeat_198 (by decide) ?_
                          refine lv_istore (lv' := [(4, .int (nI t_41)), (9, .int x_32), (8, .int x_16), (7, .int x_15), (6, .int (nI t_41)), (5, .int s_41.2.2), (0, .ref (ad 57)), (1, .int a1), (2, .int a2), (3, .int a3)]) hx hb dX12_nextSeat_203 hl (by decide) rfl (fun ls hl => ?_)
                          refine lv_iload hx hb dX12_nextSeat_205 (lv_at hl 1 rfl) ?_
                          refine lv_iload hx hb dX12_nextSeat_207 (lv_at hl 5 rfl) ?_
                          refine lv_icmp_ge (tgt := 217) hx hb dX12_nextSeat_209 (by decide) (fun c9 => absurd c9 c_35) (fun _ => ?_)
                          refine lv_iload hx hb dX12_nextSeat_212 (lv_at hl 1 rfl) ?_
                          refine lv_goto (tgt := 219) hx hb dX12_nextSeat_214 (by decide) ?_
                          refine lv_istore (lv' := [(5, .int x_32), (4, .int (nI t_41)), (9, .int x_32), (8, .int x_16), (7, .int x_15), (6, .int (nI t_41)), (0, .ref (ad 57)), (1, .int a1), (2, .int a2), (3, .int a3)]) hx hb dX12_nextSeat_219 hl (by decide) rfl (fun ls hl => ?_)
                          refine lv_iinc (v := nI (t_41 + 1)) (lv' := [(6, .int (nI (t_41 + 1))), (5, .int x_32), (4, .int (nI t_41)), (9, .int x_32), (8, .int x_16), (7, .int x_15), (0, .ref (ad 57)), (1, .int a1), (2, .int a2), (3, .int a3)]) hx hb dX12_nextSeat_221 hl (k := 5) rfl (wx_inc _) (by decide) rfl (fun ls hl => ?_)
                          refine lv_goto (tgt := 41) hx hb dX12_nextSeat_224 (by decide) ?_
                          have hF_39 : (b_X12_nextSeat_41 g a1 a2 a3) t_41 s_41 = .inl (g_34, (nI t_41), x_32) := (by subst eg_34 ex_33 ex_32 eg_31 ex_30 ex_16 ex_15; simp only [b_X12_nextSeat_41, if_neg c_10, if_neg c_17, if_pos c_20, if_neg c_23, if_neg c_26, if_neg c_35])
                          exact ih_41 (t_41 + 1) (g_34, (nI t_41), x_32) ls H locs hlt_41 (by omega) ((repX_go es_41).trans hF_39) hX hS (by rw [eg_34]; exact mb_up2i (wb_add (show wx_b 100 100 100 from ⟨by decide, by decide⟩) bt_41 (by decide) (by decide)) (by decide) (by rw [eg_31]; exact mb_up2i (wb_add (show wx_b 100 100 100 from ⟨by decide, by decide⟩) bt_41 (by decide) (by decide)) (by decide) hmI_41)) (lv_sub hl [0, 1, 2, 6, 7, 8, 9] rfl)
        exact lp_41 (48 + 1) 0 (g, (-1000000), 9) ls s.heap [] (Nat.zero_le _) (by omega) rfl hX hS hm (lv_sub hl [0, 1, 2, 3, 4, 5, 6] rfl)
      · have b_40 : wx_b (r_X12_in a3 0 255) 0 0 := by rw [c_7]; exact ⟨by decide, by decide⟩
        refine lv_ldc hx hb hown (hts (.constant RX12 60 (-1000001)) (by decide +kernel)) dX12_nextSeat_27 ?_
        exact hret _ _ _ _ _ _ dX12_nextSeat_29 rfl hX hS (by simp only [f_X12_nextSeat, if_neg c_1, if_neg c_4, if_pos c_7])
def f_X12_undo (g : wx_M) : wx_M × Int32 :=
  if (g 57 23) = 0 then
    (g, (-1000002))
  else
    let x_3 := ((g 57 23) - 1)
    let g_4 := up2 g 57 23 x_3
    let x_5 := (g_4 68 (5 * (g_4 57 23)).toNatClampNeg)
    let x_6 := (g_4 68 ((5 * (g_4 57 23)) + 1).toNatClampNeg)
    let x_7 := (g_4 68 ((5 * (g_4 57 23)) + 2).toNatClampNeg)
    let x_8 := (g_4 68 ((5 * (g_4 57 23)) + 3).toNatClampNeg)
    if 2 ≤ x_5 then
      if x_5 = 2 then
        let g_17 := e_X12_draw g_4 x_6 x_7 x_8
        let x_18 := (g_17 57 23)
        (g_17, x_18)
      else
        let x_13 := ((g_4 65 (51 : Int32).toNatClampNeg) &&& ((1 <<< (x_8 &&& 31)) ^^^ (-1)))
        let g_14 := up2 g_4 65 (51 : Int32).toNatClampNeg x_13
        let x_15 := (g_14 57 23)
        (g_14, x_15)
    else
      let x_20 := (g_4 68 ((5 * (g_4 57 23)) + 4).toNatClampNeg)
      let g_21 := up2 g_4 65 (47 + x_6).toNatClampNeg x_20
      let x_22 := ((g_21 65 ((100 + (6 * x_8)) + x_7).toNatClampNeg) ^^^ (1 <<< (x_6 &&& 31)))
      let g_23 := up2 g_21 65 ((100 + (6 * x_8)) + x_7).toNatClampNeg x_22
      let x_24 := (g_23 57 23)
      (g_23, x_24)
set_option maxHeartbeats 4000000 in
set_option maxRecDepth 100000 in
theorem k_X12_undo (l : Launch) {D : va_G} {cy : Nat → ClassId} {ad : Nat → Nat} {B0 : Nat} {f : wx_F} {P : va_W} (g : wx_M) (hac : wx_b (g 57 23) 0 24) (hu : wx_AM g) : Met l yX12_undo wsX12_undo ({ frames := 1, cells := 0, slots := 0, locals := 23 } : Room) (wx_Pc D cy ad B0 f P g [.ref (ad 57)]) (wx_Qe D cy ad B0 f P (f_X12_undo g).1 (some (.int (f_X12_undo g).2))) 0 0 (fun q => B0 ≤ q) := by
  refine wx_enterE (cc := cX12_undo) (maxL := 5) (ty := .int) (own := RX12) (lv := [(0, .ref (ad 57))]) (by decide) rfl rfl (Nat.le_of_ble_eq_true rfl) rfl ?_
  intro p e R s m args below meth c ls Qm hx hb hml hown hts hK hX hS hR hret hl
  have hi_X12 : ∀ w ∈ wsX120, w ∈ wsX12_undo := by decide +kernel
  refine lv_aload_n hx hb dX12_undo_0 rfl (lv_at hl 0 rfl) ?_
  refine wx_geti (C := RX12) (T := TX12) (N := 27) (ci := 11) (j := 23) hx hb hts hi_X12 hown hK hX (by decide) sh_X12_23 rfl (by decide) (hts (.fieldLink RX12 138 "SeenAgainModel" "acts" "I") (by decide +kernel)) (fun _ h9 => h9) dX12_undo_1 ?_
  refine lv_if_ne (tgt := 10) hx hb dX12_undo_4 (by decide) (fun c_1 => ?_) (fun c_1 => ?_)
  · have b_2 : wx_b (g 57 23) 1 24 := wb_nel c_1 hac (by decide)
    refine lv_aload_n hx hb dX12_undo_10 rfl (lv_at hl 0 rfl) ?_
    refine lv_dup hx hb dX12_undo_11 rfl ?_
    refine wx_geti (C := RX12) (T := TX12) (N := 27) (ci := 11) (j := 23) hx hb hts hi_X12 hown hK hX (by decide) sh_X12_23 rfl (by decide) (hts (.fieldLink RX12 138 "SeenAgainModel" "acts" "I") (by decide +kernel)) (fun _ h9 => h9) dX12_undo_12 ?_
    refine lv_iconst (v := 1) hx hb dX12_undo_15 (by decide) ?_
    refine lv_isub hx hb dX12_undo_16 ?_
    refine lv_topi (fun x_3 ex_3 => ?_)
    have bx_3 : wx_b x_3 0 23 := by rw [ex_3]; exact (wb_sub b_2 (show wx_b 1 1 1 from ⟨by decide, by decide⟩) (by decide) (by decide))
    refine wx_puti (C := RX12) (T := TX12) (N := 27) (ci := 11) (j := 23) (ty := .int) hx hb hts hi_X12 tyX12 tyX12_ok nmX12 hown hK hX hS (by decide) sh_X12_23 rfl (by decide) (hts (.fieldLink RX12 138 "SeenAgainModel" "acts" "I") (by decide +kernel)) (fun _ h9 => h9) rfl (by decide +kernel) rfl rfl dX12_undo_17 (fun H locs hX hS => ?_)
    obtain ⟨g_4, eg_4, hX⟩ := wx_nm hX
    refine lv_aload_n hx hb dX12_undo_20 rfl (lv_at hl 0 rfl) ?_
    refine wx_getr (t := 68) (C := RX12) (T := TX12) (N := 27) (ci := 11) (j := 24) hx hb hts hi_X12 hown hK hX (by decide) sh_X12_24 rfl (by decide) (hts (.fieldLink RX12 41 "SeenAgainModel" "act" "[I") (by decide +kernel)) (fun _ h9 => h9) dX12_undo_21 ?_
    refine lv_iconst (v := 5) hx hb dX12_undo_24 (by decide) ?_
    refine lv_aload_n hx hb dX12_undo_25 rfl (lv_at hl 0 rfl) ?_
    refine wx_geti (C := RX12) (T := TX12) (N := 27) (ci := 11) (j := 23) hx hb hts hi_X12 hown hK hX (by decide) sh_X12_23 rfl (by decide) (hts (.fieldLink RX12 138 "SeenAgainModel" "acts" "I") (by decide +kernel)) (fun _ h9 => h9) dX12_undo_26 ?_
    refine lv_imul hx hb dX12_undo_29 ?_
    refine wx_iald hx hb hK hX (by decide) sa_68 (wb_in (wb_mul (show wx_b 5 5 5 from ⟨by decide, by decide⟩) (show wx_b (g_4 57 23) 0 23 by rw [show (g_4 57 23) = x_3 from (by rw [eg_4, up2_ss])]; exact bx_3) (by decide) (by decide) (by decide)) (by decide) (by decide)) dX12_undo_30 ?_
    refine lv_topi (fun x_5 ex_5 => ?_)
    refine lv_istore_n (lv' := [(1, .int x_5), (0, .ref (ad 57))]) hx hb dX12_undo_31 rfl hl (by decide) rfl (fun ls hl => ?_)
    refine lv_aload_n hx hb dX12_undo_32 rfl (lv_at hl 1 rfl) ?_
    refine wx_getr (t := 68) (C := RX12) (T := TX12) (N := 27) (ci := 11) (j := 24) hx hb hts hi_X12 hown hK hX (by decide) sh_X12_24 rfl (by decide) (hts (.fieldLink RX12 41 "SeenAgainModel" "act" "[I") (by decide +kernel)) (fun _ h9 => h9) dX12_undo_33 ?_
    refine lv_iconst (v := 5) hx hb dX12_undo_36 (by decide) ?_
    refine lv_aload_n hx hb dX12_undo_37 rfl (lv_at hl 1 rfl) ?_
    refine wx_geti (C := RX12) (T := TX12) (N := 27) (ci := 11) (j := 23) hx hb hts hi_X12 hown hK hX (by decide) sh_X12_23 rfl (by decide) (hts (.fieldLink RX12 138 "SeenAgainModel" "acts" "I") (by decide +kernel)) (fun _ h9 => h9) dX12_undo_38 ?_
    refine lv_imul hx hb dX12_undo_41 ?_
    refine lv_iconst (v := 1) hx hb dX12_undo_42 (by decide) ?_
    refine lv_iadd hx hb dX12_undo_43 ?_
    refine wx_iald hx hb hK hX (by decide) sa_68 (wb_in (wb_add (wb_mul (show wx_b 5 5 5 from ⟨by decide, by decide⟩) (show wx_b (g_4 57 23) 0 23 by rw [show (g_4 57 23) = x_3 from (by rw [eg_4, up2_ss])]; exact bx_3) (by decide) (by decide) (by decide)) (show wx_b 1 1 1 from ⟨by decide, by decide⟩) (by decide) (by decide)) (by decide) (by decide)) dX12_undo_44 ?_
    refine lv_topi (fun x_6 ex_6 => ?_)
    have bx_6 : wx_b x_6 0 5 := by rw [ex_6]; exact (show wx_b (g_4 68 ((5 * (g_4 57 23)) + 1).toNatClampNeg) 0 5 by rw [show (g_4 68 ((5 * (g_4 57 23)) + 1).toNatClampNeg) = (g 68 ((5 * (g_4 57 23)) + 1).toNatClampNeg) from (by rw [eg_4, up2_n (by decide)])]; exact (am_1 hu (wb_w (show wx_b (g_4 57 23) 0 23 by rw [show (g_4 57 23) = x_3 from (by rw [eg_4, up2_ss])]; exact bx_3) (by decide) (by decide))))
    refine lv_istore_n (lv' := [(2, .int x_6), (1, .int x_5), (0, .ref (ad 57))]) hx hb dX12_undo_45 rfl hl (by decide) rfl (fun ls hl => ?_)
    refine lv_aload_n hx hb dX12_undo_46 rfl (lv_at hl 2 rfl) ?_
    refine wx_getr (t := 68) (C := RX12) (T := TX12) (N := 27) (ci := 11) (j := 24) hx hb hts hi_X12 hown hK hX (by decide) sh_X12_24 rfl (by decide) (hts (.fieldLink RX12 41 "SeenAgainModel" "act" "[I") (by decide +kernel)) (fun _ h9 => h9) dX12_undo_47 ?_
    refine lv_iconst (v := 5) hx hb dX12_undo_50 (by decide) ?_
    refine lv_aload_n hx hb dX12_undo_51 rfl (lv_at hl 2 rfl) ?_
    refine wx_geti (C := RX12) (T := TX12) (N := 27) (ci := 11) (j := 23) hx hb hts hi_X12 hown hK hX (by decide) sh_X12_23 rfl (by decide) (hts (.fieldLink RX12 138 "SeenAgainModel" "acts" "I") (by decide +kernel)) (fun _ h9 => h9) dX12_undo_52 ?_
    refine lv_imul hx hb dX12_undo_55 ?_
    refine lv_iconst (v := 2) hx hb dX12_undo_56 (by decide) ?_
    refine lv_iadd hx hb dX12_undo_57 ?_
    refine wx_iald hx hb hK hX (by decide) sa_68 (wb_in (wb_add (wb_mul (show wx_b 5 5 5 from ⟨by decide, by decide⟩) (show wx_b (g_4 57 23) 0 23 by rw [show (g_4 57 23) = x_3 from (by rw [eg_4, up2_ss])]; exact bx_3) (by decide) (by decide) (by decide)) (show wx_b 2 2 2 from ⟨by decide, by decide⟩) (by decide) (by decide)) (by decide) (by decide)) dX12_undo_58 ?_
    refine lv_topi (fun x_7 ex_7 => ?_)
    have bx_7 : wx_b x_7 0 5 := by rw [ex_7]; exact (show wx_b (g_4 68 ((5 * (g_4 57 23)) + 2).toNatClampNeg) 0 5 by rw [show (g_4 68 ((5 * (g_4 57 23)) + 2).toNatClampNeg) = (g 68 ((5 * (g_4 57 23)) + 2).toNatClampNeg) from (by rw [eg_4, up2_n (by decide)])]; exact (am_2 hu (wb_w (show wx_b (g_4 57 23) 0 23 by rw [show (g_4 57 23) = x_3 from (by rw [eg_4, up2_ss])]; exact bx_3) (by decide) (by decide))))
    refine lv_istore_n (lv' := [(3, .int x_7), (2, .int x_6), (1, .int x_5), (0, .ref (ad 57))]) hx hb dX12_undo_59 rfl hl (by decide) rfl (fun ls hl => ?_)
    refine lv_aload_n hx hb dX12_undo_60 rfl (lv_at hl 3 rfl) ?_
    refine wx_getr (t := 68) (C := RX12) (T := TX12) (N := 27) (ci := 11) (j := 24) hx hb hts hi_X12 hown hK hX (by decide) sh_X12_24 rfl (by decide) (hts (.fieldLink RX12 41 "SeenAgainModel" "act" "[I") (by decide +kernel)) (fun _ h9 => h9) dX12_undo_61 ?_
    refine lv_iconst (v := 5) hx hb dX12_undo_64 (by decide) ?_
    refine lv_aload_n hx hb dX12_undo_65 rfl (lv_at hl 3 rfl) ?_
    refine wx_geti (C := RX12) (T := TX12) (N := 27) (ci := 11) (j := 23) hx hb hts hi_X12 hown hK hX (by decide) sh_X12_23 rfl (by decide) (hts (.fieldLink RX12 138 "SeenAgainModel" "acts" "I") (by decide +kernel)) (fun _ h9 => h9) dX12_undo_66 ?_
    refine lv_imul hx hb dX12_undo_69 ?_
    refine lv_iconst (v := 3) hx hb dX12_undo_70 (by decide) ?_
    refine lv_iadd hx hb dX12_undo_71 ?_
    refine wx_iald hx hb hK hX (by decide) sa_68 (wb_in (wb_add (wb_mul (show wx_b 5 5 5 from ⟨by decide, by decide⟩) (show wx_b (g_4 57 23) 0 23 by rw [show (g_4 57 23) = x_3 from (by rw [eg_4, up2_ss])]; exact bx_3) (by decide) (by decide) (by decide)) (show wx_b 3 3 3 from ⟨by decide, by decide⟩) (by decide) (by decide)) (by decide) (by decide)) dX12_undo_72 ?_
    refine lv_topi (fun x_8 ex_8 => ?_)
    have bx_8 : wx_b x_8 0 7 := by rw [ex_8]; exact (show wx_b (g_4 68 ((5 * (g_4 57 23)) + 3).toNatClampNeg) 0 7 by rw [show (g_4 68 ((5 * (g_4 57 23)) + 3).toNatClampNeg) = (g 68 ((5 * (g_4 57 23)) + 3).toNatClampNeg) from (by rw [eg_4, up2_n (by decide)])]; exact (am_3 hu (wb_w (show wx_b (g_4 57 23) 0 23 by rw [show (g_4 57 23) = x_3 from (by rw [eg_4, up2_ss])]; exact bx_3) (by decide) (by decide))))
    refine lv_istore (lv' := [(4, .int x_8), (3, .int x_7), (2, .int x_6), (1, .int x_5), (0, .ref (ad 57))]) hx hb dX12_undo_73 hl (by decide) rfl (fun ls hl => ?_)
    refine lv_iload_n hx hb dX12_undo_75 rfl (lv_at hl 3 rfl) ?_
    refine lv_iconst (v := 2) hx hb dX12_undo_76 (by decide) ?_
    refine lv_icmp_ge (tgt := 139) hx hb dX12_undo_77 (by decide) (fun c_9 => ?_) (fun c_9 => ?_)
    · have b_10 : wx_b x_5 2 2147483647 := wb_ge c_9 (wb_any _) (show wx_b 2 2 2 from ⟨by decide, by decide⟩) (by decide) (by decide)
      refine lv_iload_n hx hb dX12_undo_139 rfl (lv_at hl 3 rfl) ?_
      refine lv_iconst (v := 2) hx hb dX12_undo_140 (by decide) ?_
      refine lv_icmp_ne (tgt := 155) hx hb dX12_undo_141 (by decide) (fun c_11 => ?_) (fun c_11 => ?_)
      · have b_12 : wx_b x_5 3 2147483647 := wb_nel c_11 b_10 (by decide)
        refine lv_aload_n hx hb dX12_undo_155 rfl (lv_at hl 4 rfl) ?_
        refine wx_getr (t := 65) (C := RX12) (T := TX12) (N := 27) (ci := 11) (j := 20) hx hb hts hi_X12 hown hK hX (by decide) sh_X12_20 rfl (by decide) (hts (.fieldLink RX12 31 "SeenAgainModel" "now" "[I") (by decide +kernel)) (fun _ h9 => h9) dX12_undo_156 ?_
        refine lv_bipush (v := 51) hx hb dX12_undo_159 (by decide) ?_
        refine lv_aload_n hx hb dX12_undo_161 rfl (lv_at hl 4 rfl) ?_
        refine wx_getr (t := 65) (C := RX12) (T := TX12) (N := 27) (ci := 11) (j := 20) hx hb hts hi_X12 hown hK hX (by decide) sh_X12_20 rfl (by decide) (hts (.fieldLink RX12 31 "SeenAgainModel" "now" "[I") (by decide +kernel)) (fun _ h9 => h9) dX12_undo_162 ?_
        refine lv_bipush (v := 51) hx hb dX12_undo_165 (by decide) ?_
        refine wx_iald hx hb hK hX (by decide) sa_65 (wb_in (show wx_b 51 51 51 from ⟨by decide, by decide⟩) (by decide) (by decide)) dX12_undo_167 ?_
        refine lv_iconst (v := 1) hx hb dX12_undo_168 (by decide) ?_
        refine lv_iload hx hb dX12_undo_169 (lv_at hl 0 rfl) ?_
        refine lv_ishl hx hb dX12_undo_171 ?_
        refine lv_iconst (v := (-1)) hx hb dX12_undo_172 (by decide) ?_
        refine lv_ixor hx hb dX12_undo_173 ?_
        refine lv_iand hx hb dX12_undo_174 ?_
        refine lv_topi (fun x_13 ex_13 => ?_)
        refine wx_iast hx hb hK hX hS (by decide) sa_65 (wb_in (show wx_b 51 51 51 from ⟨by decide, by decide⟩) (by decide) (by decide)) dX12_undo_175 (fun H locs hX hS => ?_)
        obtain ⟨g_14, eg_14, hX⟩ := wx_nm hX
        refine lv_aload_n hx hb dX12_undo_176 rfl (lv_at hl 4 rfl) ?_
        refine wx_geti (C := RX12) (T := TX12) (N := 27) (ci := 11) (j := 23) hx hb hts hi_X12 hown hK hX (by decide) sh_X12_23 rfl (by decide) (hts (.fieldLink RX12 138 "SeenAgainModel" "acts" "I") (by decide +kernel)) (fun _ h9 => h9) dX12_undo_177 ?_
        refine lv_topi (fun x_15 ex_15 => ?_)
        have bx_15 : wx_b x_15 0 23 := by rw [ex_15]; exact (show wx_b (g_14 57 23) 0 23 by rw [show (g_14 57 23) = (g_4 57 23) from (by rw [eg_14, up2_n (by decide)])]; exact (show wx_b (g_4 57 23) 0 23 by rw [show (g_4 57 23) = x_3 from (by rw [eg_4, up2_ss])]; exact bx_3))
        exact hret _ _ _ _ _ _ dX12_undo_180 rfl hX hS (by subst ex_15 eg_14 ex_13 ex_8 ex_7 ex_6 ex_5 eg_4 ex_3; simp only [f_X12_undo, if_neg c_1, if_pos c_9, if_neg c_11])
      · have b_16 : wx_b x_5 2 2 := by rw [c_11]; exact ⟨by decide, by decide⟩
        refine lv_aload_n hx hb dX12_undo_144 rfl (lv_at hl 4 rfl) ?_
        refine lv_iload_n hx hb dX12_undo_145 rfl (lv_at hl 2 rfl) ?_
        refine lv_iload_n hx hb dX12_undo_146 rfl (lv_at hl 1 rfl) ?_
        refine lv_iload hx hb dX12_undo_147 (lv_at hl 0 rfl) ?_
        refine wx_callev (va_runV (As := [.int x_6, .int x_7, .int x_8]) (rest := []) ⟨hx, hb, hml, hown, hts⟩ (k_X12_draw l g_4 x_6 x_7 x_8 bx_6 bx_7 bx_8) (cwV 3 hts gX12_undo_X12_draw rfl rfl rfl (by decide +kernel) (by rw [hR]; exact ⟨Nat.le_of_ble_eq_true rfl, Nat.le_of_ble_eq_true rfl⟩)) ⟨wx_Pc.blind, wx_recv hK hX (by decide) sh_X12 rfl, (wx_Pc.pre hK hX).2⟩ rfl rfl hl.1 rfl (lv_room (Nat.le_of_ble_eq_true rfl)) dX12_undo_149 ⟨Nat.zero_le _, Nat.zero_le _⟩) hS (fun H locs hX hS => ?_)
        obtain ⟨g_17, eg_17, hX⟩ := wx_nm hX
        refine lv_goto (tgt := 176) hx hb dX12_undo_152 (by decide) ?_
        refine lv_aload_n hx hb dX12_undo_176 rfl (lv_at hl 4 rfl) ?_
        refine wx_geti (C := RX12) (T := TX12) (N := 27) (ci := 11) (j := 23) hx hb hts hi_X12 hown hK hX (by decide) sh_X12_23 rfl (by decide) (hts (.fieldLink RX12 138 "SeenAgainModel" "acts" "I") (by decide +kernel)) (fun _ h9 => h9) dX12_undo_177 ?_
        refine lv_topi (fun x_18 ex_18 => ?_)
        exact hret _ _ _ _ _ _ dX12_undo_180 rfl hX hS (by subst ex_18 eg_17 ex_8 ex_7 ex_6 ex_5 eg_4 ex_3; simp only [f_X12_undo, if_neg c_1, if_pos c_9, if_pos c_11])
    · have b_19 : wx_b x_5 (-2147483648) 1 := wb_lt (wb_nle c_9) (wb_any _) (show wx_b 2 2 2 from ⟨by decide, by decide⟩) (by decide) (by decide)
      have ba_un : wx_b x_6 0 3 := by rw [ex_6, show (g_4 68 ((5 * (g_4 57 23)) + 1).toNatClampNeg) = (g 68 ((5 * (g_4 57 23)) + 1).toNatClampNeg) from (show (g_4 68 ((5 * (g_4 57 23)) + 1).toNatClampNeg) = (g 68 ((5 * (g_4 57 23)) + 1).toNatClampNeg) from (by rw [eg_4, up2_n (by decide)]))]; exact am_v hu (wb_w (show wx_b (g_4 57 23) 0 23 by rw [show (g_4 57 23) = x_3 from (by rw [eg_4, up2_ss])]; exact bx_3) (by decide) (by decide)) (by have h9 := wb_nle c_9; rw [ex_5, show (g_4 68 (5 * (g_4 57 23)).toNatClampNeg) = (g 68 (5 * (g_4 57 23)).toNatClampNeg) from (show (g_4 68 (5 * (g_4 57 23)).toNatClampNeg) = (g 68 (5 * (g_4 57 23)).toNatClampNeg) from (by rw [eg_4, up2_n (by decide)]))] at h9; exact h9)
      refine lv_aload_n hx hb dX12_undo_80 rfl (lv_at hl 4 rfl) ?_
      refine wx_getr (t := 65) (C := RX12) (T := TX12) (N := 27) (ci := 11) (j := 20) hx hb hts hi_X12 hown hK hX (by decide) sh_X12_20 rfl (by decide) (hts (.fieldLink RX12 31 "SeenAgainModel" "now" "[I") (by decide +kernel)) (fun _ h9 => h9) dX12_undo_81 ?_
      refine lv_bipush (v := 47) hx hb dX12_undo_84 (by decide) ?_
      refine lv_iload_n hx hb dX12_undo_86 rfl (lv_at hl 2 rfl) ?_
      refine lv_iadd hx hb dX12_undo_87 ?_
      refine lv_aload_n hx hb dX12_undo_88 rfl (lv_at hl 4 rfl) ?_
      refine wx_getr (t := 68) (C := RX12) (T := TX12) (N := 27) (ci := 11) (j := 24) hx hb hts hi_X12 hown hK hX (by decide) sh_X12_24 rfl (by decide) (hts (.fieldLink RX12 41 "SeenAgainModel" "act" "[I") (by decide +kernel)) (fun _ h9 => h9) dX12_undo_89 ?_
      refine lv_iconst (v := 5) hx hb dX12_undo_92 (by decide) ?_
      refine lv_aload_n hx hb dX12_undo_93 rfl (lv_at hl 4 rfl) ?_
      refine wx_geti (C := RX12) (T := TX12) (N := 27) (ci := 11) (j := 23) hx hb hts hi_X12 hown hK hX (by decide) sh_X12_23 rfl (by decide) (hts (.fieldLink RX12 138 "SeenAgainModel" "acts" "I") (by decide +kernel)) (fun _ h9 => h9) dX12_undo_94 ?_
      refine lv_imul hx hb dX12_undo_97 ?_
      refine lv_iconst (v := 4) hx hb dX12_undo_98 (by decide) ?_
      refine lv_iadd hx hb dX12_undo_99 ?_
      refine wx_iald hx hb hK hX (by decide) sa_68 (wb_in (wb_add (wb_mul (show wx_b 5 5 5 from ⟨by decide, by decide⟩) (show wx_b (g_4 57 23) 0 23 by rw [show (g_4 57 23) = x_3 from (by rw [eg_4, up2_ss])]; exact bx_3) (by decide) (by decide) (by decide)) (show wx_b 4 4 4 from ⟨by decide, by decide⟩) (by decide) (by decide)) (by decide) (by decide)) dX12_undo_100 ?_
      refine lv_topi (fun x_20 ex_20 => ?_)
      refine wx_iast hx hb hK hX hS (by decide) sa_65 (wb_in (wb_add (show wx_b 47 47 47 from ⟨by decide, by decide⟩) ba_un (by decide) (by decide)) (by decide) (by decide)) dX12_undo_101 (fun H locs hX hS => ?_)
      obtain ⟨g_21, eg_21, hX⟩ := wx_nm hX
      refine lv_aload_n hx hb dX12_undo_102 rfl (lv_at hl 4 rfl) ?_
      refine wx_getr (t := 65) (C := RX12) (T := TX12) (N := 27) (ci := 11) (j := 20) hx hb hts hi_X12 hown hK hX (by decide) sh_X12_20 rfl (by decide) (hts (.fieldLink RX12 31 "SeenAgainModel" "now" "[I") (by decide +kernel)) (fun _ h9 => h9) dX12_undo_103 ?_
      refine lv_bipush (v := 100) hx hb dX12_undo_106 (by decide) ?_
      refine lv_bipush (v := 6) hx hb dX12_undo_108 (by decide) ?_
      refine lv_iload hx hb dX12_undo_110 (lv_at hl 0 rfl) ?_
      refine lv_imul hx hb dX12_undo_112 ?_
      refine lv_iadd hx hb dX12_undo_113 ?_
      refine lv_iload_n hx hb dX12_undo_114 rfl (lv_at hl 1 rfl) ?_
      refine lv_iadd hx hb dX12_undo_115 ?_
      refine lv_aload_n hx hb dX12_undo_116 rfl (lv_at hl 4 rfl) ?_
      refine wx_getr (t := 65) (C := RX12) (T := TX12) (N := 27) (ci := 11) (j := 20) hx hb hts hi_X12 hown hK hX (by decide) sh_X12_20 rfl (by decide) (hts (.fieldLink RX12 31 "SeenAgainModel" "now" "[I") (by decide +kernel)) (fun _ h9 => h9) dX12_undo_117 ?_
      refine lv_bipush (v := 100) hx hb dX12_undo_120 (by decide) ?_
      refine lv_bipush (v := 6) hx hb dX12_undo_122 (by decide) ?_
      refine lv_iload hx hb dX12_undo_124 (lv_at hl 0 rfl) ?_
      refine lv_imul hx hb dX12_undo_126 ?_
      refine lv_iadd hx hb dX12_undo_127 ?_
      refine lv_iload_n hx hb dX12_undo_128 rfl (lv_at hl 1 rfl) ?_
      refine lv_iadd hx hb dX12_undo_129 ?_
      refine wx_iald hx hb hK hX (by decide) sa_65 (wb_in (wb_add (wb_add (show wx_b 100 100 100 from ⟨by decide, by decide⟩) (wb_mul (show wx_b 6 6 6 from ⟨by decide, by decide⟩) bx_8 (by decide) (by decide) (by decide)) (by decide) (by decide)) bx_7 (by decide) (by decide)) (by decide) (by decide)) dX12_undo_130 ?_
      refine lv_iconst (v := 1) hx hb dX12_undo_131 (by decide) ?_
      refine lv_iload_n hx hb dX12_undo_132 rfl (lv_at hl 2 rfl) ?_
      refine lv_ishl hx hb dX12_undo_133 ?_
      refine lv_ixor hx hb dX12_undo_134 ?_
      refine lv_topi (fun x_22 ex_22 => ?_)
      refine wx_iast hx hb hK hX hS (by decide) sa_65 (wb_in (wb_add (wb_add (show wx_b 100 100 100 from ⟨by decide, by decide⟩) (wb_mul (show wx_b 6 6 6 from ⟨by decide, by decide⟩) bx_8 (by decide) (by decide) (by decide)) (by decide) (by decide)) bx_7 (by decide) (by decide)) (by decide) (by decide)) dX12_undo_135 (fun H locs hX hS => ?_)
      obtain ⟨g_23, eg_23, hX⟩ := wx_nm hX
      refine lv_goto (tgt := 176) hx hb dX12_undo_136 (by decide) ?_
      refine lv_aload_n hx hb dX12_undo_176 rfl (lv_at hl 4 rfl) ?_
      refine wx_geti (C := RX12) (T := TX12) (N := 27) (ci := 11) (j := 23) hx hb hts hi_X12 hown hK hX (by decide) sh_X12_23 rfl (by decide) (hts (.fieldLink RX12 138 "SeenAgainModel" "acts" "I") (by decide +kernel)) (fun _ h9 => h9) dX12_undo_177 ?_
      refine lv_topi (fun x_24 ex_24 => ?_)
      have bx_24 : wx_b x_24 0 23 := by rw [ex_24]; exact (show wx_b (g_23 57 23) 0 23 by rw [show (g_23 57 23) = (g_21 57 23) from (by rw [eg_23, up2_n (by decide)])]; exact (show wx_b (g_21 57 23) 0 23 by rw [show (g_21 57 23) = (g_4 57 23) from (by rw [eg_21, up2_n (by decide)])]; exact (show wx_b (g_4 57 23) 0 23 by rw [show (g_4 57 23) = x_3 from (by rw [eg_4, up2_ss])]; exact bx_3)))
      exact hret _ _ _ _ _ _ dX12_undo_180 rfl hX hS (by subst ex_24 eg_23 ex_22 eg_21 ex_20 ex_8 ex_7 ex_6 ex_5 eg_4 ex_3; simp only [f_X12_undo, if_neg c_1, if_neg c_9])
  · have b_25 : wx_b (g 57 23) 0 0 := by rw [c_1]; exact ⟨by decide, by decide⟩
    refine lv_ldc hx hb hown (hts (.constant RX12 166 (-1000002)) (by decide +kernel)) dX12_undo_7 ?_
    exact hret _ _ _ _ _ _ dX12_undo_9 rfl hX hS (by simp only [f_X12_undo, if_pos c_1])
def f_X11_copy (g : wx_M) (a1 : Int32) (a2 : Int32) (a3 : Int32) (a4 : Int32) (a5 : Int32) : wx_M × Int32 :=
  if (r_X11_isRow a1) = 0 then
    (g, (-1000001))
  else
    if (r_X11_isRow a3) = 0 then
      (g, (-1000001))
    else
      let k_6 := 2 + a1.toNatClampNeg
      let k_7 := 2 + a3.toNatClampNeg
      if (g k_6 3) = 0 then
        if (g k_7 3) = 0 then
          if (g k_6 1) = (g k_7 1) then
            if (r_X5_hasItems g k_6 a2 a5) = 0 then
              let z_16 := f_X11_found g 2
              (z_16.1, z_16.2)
            else
              if (r_X5_hasItems g k_7 a4 a5) = 0 then
                let z_23 := f_X11_found g 2
                (z_23.1, z_23.2)
              else
                let g_20 := upR g (k_7 + 8) (va_cpy (g (k_6 + 8)) (g (k_7 + 8)) a2.toNatClampNeg a4.toNatClampNeg a5.toNatClampNeg)
                let z_21 := f_X11_answered g_20 a5
                (z_21.1, z_21.2)
          else
            let z_24 := f_X11_found g 5
            (z_24.1, z_24.2)
        else
          let z_25 := f_X11_found g 1
          (z_25.1, z_25.2)
      else
        let z_9 := f_X11_found g 1
        (z_9.1, z_9.2)
set_option maxHeartbeats 4000000 in
set_option maxRecDepth 100000 in
theorem k_X11_copy (l : Launch) {D : va_G} {cy : Nat → ClassId} {ad : Nat → Nat} {B0 : Nat} {f : wx_F} {P : va_W} (g : wx_M) (a1 : Int32) (a2 : Int32) (a3 : Int32) (a4 : Int32) (a5 : Int32) (hsz : wx_SZ g) : Met l yX11_copy wsX11_copy ({ frames := 1, cells := 0, slots := 0, locals := 60 } : Room) (wx_Pc D cy ad B0 f P g [.ref (ad 0), .int a1, .int a2, .int a3, .int a4, .int a5]) (wx_Qe D cy ad B0 f P (f_X11_copy g a1 a2 a3 a4 a5).1 (some (.int (f_X11_copy g a1 a2 a3 a4 a5).2))) 0 0 (fun q => B0 ≤ q) := by
  refine wx_enterE (cc := cX11_copy) (maxL := 8) (ty := .int) (own := RX11) (lv := [(0, .ref (ad 0)), (1, .int a1), (2, .int a2), (3, .int a3), (4, .int a4), (5, .int a5)]) (by decide) rfl rfl (Nat.le_of_ble_eq_true rfl) rfl ?_
  intro p e R s m args below meth c ls Qm hx hb hml hown hts hK hX hS hR hret hl
  have hi_X11 : ∀ w ∈ wsX110, w ∈ wsX11_copy := by decide +kernel
  have hi_X5 : ∀ w ∈ wsX50, w ∈ wsX11_copy := by decide +kernel
  refine lv_iload_n hx hb dX11_copy_0 rfl (lv_at hl 1 rfl) ?_
  refine wx_callr (va_runS (As := [.int a1]) (rest := []) ⟨hx, hb, hml, hown, hts⟩ (k_X11_isRow l g a1) (va_cwS 1 hts gX11_copy_X11_isRow rfl rfl rfl (by decide +kernel) (by rw [hR]; exact ⟨Nat.le_of_ble_eq_true rfl, Nat.le_of_ble_eq_true rfl⟩)) (wx_Pc.pre hK hX) rfl rfl hl.1 rfl (lv_room (Nat.le_of_ble_eq_true rfl)) dX11_copy_1 ⟨Nat.zero_le _, Nat.zero_le _⟩) ?_
  refine lv_if_eq (tgt := 14) hx hb dX11_copy_4 (by decide) (fun c_1 => ?_) (fun c_1 => ?_)
  · have b_2 : wx_b (r_X11_isRow a1) 0 0 := by rw [c_1]; exact ⟨by decide, by decide⟩
    refine lv_ldc hx hb hown (hts (.constant RX11 55 (-1000001)) (by decide +kernel)) dX11_copy_14 ?_
    exact hret _ _ _ _ _ _ dX11_copy_16 rfl hX hS (by simp only [f_X11_copy, if_pos c_1])
  · have b_3 : wx_b a1 0 7 := rf_X11_isRow  c_1
    refine lv_iload_n hx hb dX11_copy_7 rfl (lv_at hl 3 rfl) ?_
    refine wx_callr (va_runS (As := [.int a3]) (rest := []) ⟨hx, hb, hml, hown, hts⟩ (k_X11_isRow l g a3) (va_cwS 1 hts gX11_copy_X11_isRow rfl rfl rfl (by decide +kernel) (by rw [hR]; exact ⟨Nat.le_of_ble_eq_true rfl, Nat.le_of_ble_eq_true rfl⟩)) (wx_Pc.pre hK hX) rfl rfl hl.1 rfl (lv_room (Nat.le_of_ble_eq_true rfl)) dX11_copy_8 ⟨Nat.zero_le _, Nat.zero_le _⟩) ?_
    refine lv_if_ne (tgt := 17) hx hb dX11_copy_11 (by decide) (fun c_4 => ?_) (fun c_4 => ?_)
    · have b_5 : wx_b a3 0 7 := rf_X11_isRow  c_4
      refine lv_aload_n hx hb dX11_copy_17 rfl (lv_at hl 0 rfl) ?_
      refine wx_getr (t := 1) (C := RX11) (T := TX11) (N := 8) (ci := 10) (j := 0) hx hb hts hi_X11 hown hK hX (by decide) sh_X11_0 rfl (by decide) (hts (.fieldLink RX11 11 "SeenAgain" "rows" "[LSeenAgain$Row;") (by decide +kernel)) (fun _ h9 => h9) dX11_copy_18 ?_
      refine lv_iload_n hx hb dX11_copy_21 rfl (lv_at hl 1 rfl) ?_
      refine wx_qald (C := "SeenAgain$Row") hx hb hK hX (by decide) sq_1 rfl (wb_in b_3 (by decide) (by decide)) dX11_copy_22 ?_
      obtain ⟨k_6, ek_6⟩ : ∃ z : Nat, z = 2 + a1.toNatClampNeg := ⟨_, rfl⟩
      have hkk_6 : wx_Rk k_6 := ⟨by omega, by have := wb_cl (n := 7) b_3 (by decide); omega⟩
      rw [← ek_6]
      refine lv_astore (lv' := [(6, .ref (ad k_6)), (0, .ref (ad 0)), (1, .int a1), (2, .int a2), (3, .int a3), (4, .int a4), (5, .int a5)]) hx hb dX11_copy_23 hl (by decide) rfl (fun ls hl => ?_)
      refine lv_aload_n hx hb dX11_copy_25 rfl (lv_at hl 1 rfl) ?_
      refine wx_getr (t := 1) (C := RX11) (T := TX11) (N := 8) (ci := 10) (j := 0) hx hb hts hi_X11 hown hK hX (by decide) sh_X11_0 rfl (by decide) (hts (.fieldLink RX11 11 "SeenAgain" "rows" "[LSeenAgain$Row;") (by decide +kernel)) (fun _ h9 => h9) dX11_copy_26 ?_
      refine lv_iload_n hx hb dX11_copy_29 rfl (lv_at hl 4 rfl) ?_
      refine wx_qald (C := "SeenAgain$Row") hx hb hK hX (by decide) sq_1 rfl (wb_in b_5 (by decide) (by decide)) dX11_copy_30 ?_
      obtain ⟨k_7, ek_7⟩ : ∃ z : Nat, z = 2 + a3.toNatClampNeg := ⟨_, rfl⟩
      have hkk_7 : wx_Rk k_7 := ⟨by omega, by have := wb_cl (n := 7) b_5 (by decide); omega⟩
      rw [← ek_7]
      refine lv_astore (lv' := [(7, .ref (ad k_7)), (6, .ref (ad k_6)), (0, .ref (ad 0)), (1, .int a1), (2, .int a2), (3, .int a3), (4, .int a4), (5, .int a5)]) hx hb dX11_copy_31 hl (by decide) rfl (fun ls hl => ?_)
      refine lv_aload hx hb dX11_copy_33 (lv_at hl 1 rfl) ?_
      refine wx_geti (C := RX5) (T := TX5) (N := 4) (ci := 5) (j := 3) hx hb hts hi_X5 hown hK hX (by have := (show wx_Rk k_6 from hkk_6).2; omega) (sh_X5_3 (show wx_Rk k_6 from hkk_6)) rfl (by decide) (hts (.fieldLink RX11 67 "SeenAgain$Row" "missing" "Z") (by decide +kernel)) (fun _ h9 => h9) dX11_copy_35 ?_
      refine lv_if_ne (tgt := 49) hx hb dX11_copy_38 (by decide) (fun c_8 => ?_) (fun c_8 => ?_)
      · refine lv_aload_n hx hb dX11_copy_49 rfl (lv_at hl 2 rfl) ?_
        refine lv_iconst (v := 1) hx hb dX11_copy_50 (by decide) ?_
        refine wx_callei (va_runV (As := [.int 1]) (rest := []) ⟨hx, hb, hml, hown, hts⟩ (k_X11_found l g 1) (cwV 1 hts gX11_copy_X11_found rfl rfl rfl (by decide +kernel) (by rw [hR]; exact ⟨Nat.le_of_ble_eq_true rfl, Nat.le_of_ble_eq_true rfl⟩)) ⟨wx_Pc.blind, wx_recv hK hX (by decide) sh_X11 rfl, (wx_Pc.pre hK hX).2⟩ rfl rfl hl.1 rfl (lv_room (Nat.le_of_ble_eq_true rfl)) dX11_copy_51 ⟨Nat.zero_le _, Nat.zero_le _⟩) hS (fun H locs hX hS => ?_)
        obtain ⟨z_9, ez_9⟩ : ∃ z, z = f_X11_found g 1 := ⟨_, rfl⟩
        rw [← ez_9] at hX; rw [← ez_9]
        exact hret _ _ _ _ _ _ dX11_copy_54 rfl hX hS (by subst ez_9 ek_7 ek_6; simp only [f_X11_copy, if_neg c_1, if_neg c_4, if_neg c_8])
      · have b_10 : wx_b (g k_6 3) 0 0 := by rw [c_8]; exact ⟨by decide, by decide⟩
        refine lv_aload hx hb dX11_copy_41 (lv_at hl 0 rfl) ?_
        refine wx_geti (C := RX5) (T := TX5) (N := 4) (ci := 5) (j := 3) hx hb hts hi_X5 hown hK hX (by have := (show wx_Rk k_7 from hkk_7).2; omega) (sh_X5_3 (show wx_Rk k_7 from hkk_7)) rfl (by decide) (hts (.fieldLink RX11 67 "SeenAgain$Row" "missing" "Z") (by decide +kernel)) (fun _ h9 => h9) dX11_copy_43 ?_
        refine lv_if_eq (tgt := 55) hx hb dX11_copy_46 (by decide) (fun c_11 => ?_) (fun c_11 => ?_)
        · have b_12 : wx_b (g k_7 3) 0 0 := by rw [c_11]; exact ⟨by decide, by decide⟩
          refine lv_aload hx hb dX11_copy_55 (lv_at hl 1 rfl) ?_
          refine wx_geti (C := RX5) (T := TX5) (N := 4) (ci := 5) (j := 1) hx hb hts hi_X5 hown hK hX (by have := (show wx_Rk k_6 from hkk_6).2; omega) (sh_X5_1 (show wx_Rk k_6 from hkk_6)) rfl (by decide) (hts (.fieldLink RX11 82 "SeenAgain$Row" "lane" "I") (by decide +kernel)) (fun _ h9 => h9) dX11_copy_57 ?_
          refine lv_aload hx hb dX11_copy_60 (lv_at hl 0 rfl) ?_
          refine wx_geti (C := RX5) (T := TX5) (N := 4) (ci := 5) (j := 1) hx hb hts hi_X5 hown hK hX (by have := (show wx_Rk k_7 from hkk_7).2; omega) (sh_X5_1 (show wx_Rk k_7 from hkk_7)) rfl (by decide) (hts (.fieldLink RX11 82 "SeenAgain$Row" "lane" "I") (by decide +kernel)) (fun _ h9 => h9) dX11_copy_62 ?_
          refine lv_icmp_eq (tgt := 74) hx hb dX11_copy_65 (by decide) (fun c_13 => ?_) (fun c_13 => ?_)
          · refine lv_aload hx hb dX11_copy_74 (lv_at hl 1 rfl) ?_
            refine lv_iload_n hx hb dX11_copy_76 rfl (lv_at hl 4 rfl) ?_
            refine lv_iload hx hb dX11_copy_77 (lv_at hl 7 rfl) ?_
            refine wx_callr (va_runV (As := [.int a2, .int a5]) (rest := []) ⟨hx, hb, hml, hown, hts⟩ (k_X5_hasItems l g k_6 a2 a5 (show wx_Rk k_6 from hkk_6)) (cwV 2 hts gX11_copy_X5_hasItems rfl rfl rfl (by decide +kernel) (by rw [hR]; exact ⟨Nat.le_of_ble_eq_true rfl, Nat.le_of_ble_eq_true rfl⟩)) ⟨wx_Pc.blind, wx_recv hK hX (by have := (show wx_Rk k_6 from hkk_6).2; omega) (sh_X5 (show wx_Rk k_6 from hkk_6)) rfl, (wx_Pc.pre hK hX).2⟩ rfl rfl hl.1 rfl (lv_room (Nat.le_of_ble_eq_true rfl)) dX11_copy_79 ⟨Nat.zero_le _, Nat.zero_le _⟩) ?_
            refine lv_if_eq (tgt := 97) hx hb dX11_copy_82 (by decide) (fun c_14 => ?_) (fun c_14 => ?_)
            · have b_15 : wx_b (r_X5_hasItems g k_6 a2 a5) 0 0 := by rw [c_14]; exact ⟨by decide, by decide⟩
              refine lv_aload_n hx hb dX11_copy_97 rfl (lv_at hl 2 rfl) ?_
              refine lv_iconst (v := 2) hx hb dX11_copy_98 (by decide) ?_
              refine wx_callei (va_runV (As := [.int 2]) (rest := []) ⟨hx, hb, hml, hown, hts⟩ (k_X11_found l g 2) (cwV 1 hts gX11_copy_X11_found rfl rfl rfl (by decide +kernel) (by rw [hR]; exact ⟨Nat.le_of_ble_eq_true rfl, Nat.le_of_ble_eq_true rfl⟩)) ⟨wx_Pc.blind, wx_recv hK hX (by decide) sh_X11 rfl, (wx_Pc.pre hK hX).2⟩ rfl rfl hl.1 rfl (lv_room (Nat.le_of_ble_eq_true rfl)) dX11_copy_99 ⟨Nat.zero_le _, Nat.zero_le _⟩) hS (fun H locs hX hS => ?_)
              obtain ⟨z_16, ez_16⟩ : ∃ z, z = f_X11_found g 2 := ⟨_, rfl⟩
              rw [← ez_16] at hX; rw [← ez_16]
              exact hret _ _ _ _ _ _ dX11_copy_102 rfl hX hS (by subst ez_16 ek_7 ek_6; simp only [f_X11_copy, if_neg c_1, if_neg c_4, if_pos c_8, if_pos c_11, if_pos c_13, if_pos c_14])
            · have b_17 : wx_b a2 0 40 := rf_X5_hasItems (hsz _ (show wx_Rk k_6 from hkk_6)) (wb_any _) (by decide) c_14
              refine lv_aload hx hb dX11_copy_85 (lv_at hl 0 rfl) ?_
              refine lv_iload hx hb dX11_copy_87 (lv_at hl 6 rfl) ?_
              refine lv_iload hx hb dX11_copy_89 (lv_at hl 7 rfl) ?_
              refine wx_callr (va_runV (As := [.int a4, .int a5]) (rest := []) ⟨hx, hb, hml, hown, hts⟩ (k_X5_hasItems l g k_7 a4 a5 (show wx_Rk k_7 from hkk_7)) (cwV 2 hts gX11_copy_X5_hasItems rfl rfl rfl (by decide +kernel) (by rw [hR]; exact ⟨Nat.le_of_ble_eq_true rfl, Nat.le_of_ble_eq_true rfl⟩)) ⟨wx_Pc.blind, wx_recv hK hX (by have := (show wx_Rk k_7 from hkk_7).2; omega) (sh_X5 (show wx_Rk k_7 from hkk_7)) rfl, (wx_Pc.pre hK hX).2⟩ rfl rfl hl.1 rfl (lv_room (Nat.le_of_ble_eq_true rfl)) dX11_copy_91 ⟨Nat.zero_le _, Nat.zero_le _⟩) ?_
              refine lv_if_ne (tgt := 103) hx hb dX11_copy_94 (by decide) (fun c_18 => ?_) (fun c_18 => ?_)
              · have b_19 : wx_b a4 0 40 := rf_X5_hasItems (hsz _ (show wx_Rk k_7 from hkk_7)) (wb_any _) (by decide) c_18
                refine lv_aload hx hb dX11_copy_103 (lv_at hl 1 rfl) ?_
                refine wx_getr (t := k_6 + 8) (C := RX5) (T := TX5) (N := 4) (ci := 5) (j := 0) hx hb hts hi_X5 hown hK hX (by have := (show wx_Rk k_6 from hkk_6).2; omega) (sh_X5_0 (show wx_Rk k_6 from hkk_6)) rfl (by decide) (hts (.fieldLink RX11 75 "SeenAgain$Row" "items" "[I") (by decide +kernel)) (fun _ h9 => h9) dX11_copy_105 ?_
                refine lv_iload_n hx hb dX11_copy_108 rfl (lv_at hl 4 rfl) ?_
                refine lv_aload hx hb dX11_copy_109 (lv_at hl 0 rfl) ?_
                refine wx_getr (t := k_7 + 8) (C := RX5) (T := TX5) (N := 4) (ci := 5) (j := 0) hx hb hts hi_X5 hown hK hX (by have := (show wx_Rk k_7 from hkk_7).2; omega) (sh_X5_0 (show wx_Rk k_7 from hkk_7)) rfl (by decide) (hts (.fieldLink RX11 75 "SeenAgain$Row" "items" "[I") (by decide +kernel)) (fun _ h9 => h9) dX11_copy_111 ?_
                refine lv_iload hx hb dX11_copy_114 (lv_at hl 6 rfl) ?_
                refine lv_iload hx hb dX11_copy_116 (lv_at hl 7 rfl) ?_
                refine wx_copy hx hb (hml.trans hl.1.symm) hown (hts (.methodLink RX11 86 arraycopyName) (by decide +kernel)) (hts (.native arraycopyName) (by decide +kernel)) (hts (.static arraycopyName) (by decide +kernel)) (hts (.initialized "java/lang/System") (by decide +kernel)) hK hX hS (by have := (show wx_Rk k_6 from hkk_6).2; omega) (by have := (show wx_Rk k_7 from hkk_7).2; omega) (sa_X5 (show wx_Rk k_6 from hkk_6)) (sa_X5 (show wx_Rk k_7 from hkk_7)) (hi_cp (hsz _ hkk_6) c_14).1 (hi_cp (hsz _ hkk_7) c_18).1 (hi_cp (hsz _ hkk_6) c_14).2.1 (hi_cp (hsz _ hkk_6) c_14).2.2 (hi_cp (hsz _ hkk_7) c_18).2.2 (by rw [hR]; exact Nat.le_of_ble_eq_true rfl) (by rw [hR]; exact Nat.le_of_ble_eq_true rfl) dX11_copy_118 (fun H locs hX hS => ?_)
                obtain ⟨g_20, eg_20, hX⟩ := wx_nm hX
                refine lv_aload_n hx hb dX11_copy_121 rfl (lv_at hl 2 rfl) ?_
                refine lv_iload hx hb dX11_copy_122 (lv_at hl 7 rfl) ?_
                refine wx_callei (va_runV (As := [.int a5]) (rest := []) ⟨hx, hb, hml, hown, hts⟩ (k_X11_answered l g_20 a5) (cwV 1 hts gX11_copy_X11_answered rfl rfl rfl (by decide +kernel) (by rw [hR]; exact ⟨Nat.le_of_ble_eq_true rfl, Nat.le_of_ble_eq_true rfl⟩)) ⟨wx_Pc.blind, wx_recv hK hX (by decide) sh_X11 rfl, (wx_Pc.pre hK hX).2⟩ rfl rfl hl.1 rfl (lv_room (Nat.le_of_ble_eq_true rfl)) dX11_copy_124 ⟨Nat.zero_le _, Nat.zero_le _⟩) hS (fun H locs hX hS => ?_)
                obtain ⟨z_21, ez_21⟩ : ∃ z, z = f_X11_answered g_20 a5 := ⟨_, rfl⟩
                rw [← ez_21] at hX; rw [← ez_21]
                exact hret _ _ _ _ _ _ dX11_copy_127 rfl hX hS (by subst ez_21 eg_20 ek_7 ek_6; simp only [f_X11_copy, if_neg c_1, if_neg c_4, if_pos c_8, if_pos c_11, if_pos c_13, if_neg c_14, if_neg c_18])
              · have b_22 : wx_b (r_X5_hasItems g k_7 a4 a5) 0 0 := by rw [c_18]; exact ⟨by decide, by decide⟩
                refine lv_aload_n hx hb dX11_copy_97 rfl (lv_at hl 2 rfl) ?_
                refine lv_iconst (v := 2) hx hb dX11_copy_98 (by decide) ?_
                refine wx_callei (va_runV (As := [.int 2]) (rest := []) ⟨hx, hb, hml, hown, hts⟩ (k_X11_found l g 2) (cwV 1 hts gX11_copy_X11_found rfl rfl rfl (by decide +kernel) (by rw [hR]; exact ⟨Nat.le_of_ble_eq_true rfl, Nat.le_of_ble_eq_true rfl⟩)) ⟨wx_Pc.blind, wx_recv hK hX (by decide) sh_X11 rfl, (wx_Pc.pre hK hX).2⟩ rfl rfl hl.1 rfl (lv_room (Nat.le_of_ble_eq_true rfl)) dX11_copy_99 ⟨Nat.zero_le _, Nat.zero_le _⟩) hS (fun H locs hX hS => ?_)
                obtain ⟨z_23, ez_23⟩ : ∃ z, z = f_X11_found g 2 := ⟨_, rfl⟩
                rw [← ez_23] at hX; rw [← ez_23]
                exact hret _ _ _ _ _ _ dX11_copy_102 rfl hX hS (by subst ez_23 ek_7 ek_6; simp only [f_X11_copy, if_neg c_1, if_neg c_4, if_pos c_8, if_pos c_11, if_pos c_13, if_neg c_14, if_pos c_18])
          · refine lv_aload_n hx hb dX11_copy_68 rfl (lv_at hl 2 rfl) ?_
            refine lv_iconst (v := 5) hx hb dX11_copy_69 (by decide) ?_
            refine wx_callei (va_runV (As := [.int 5]) (rest := []) ⟨hx, hb, hml, hown, hts⟩ (k_X11_found l g 5) (cwV 1 hts gX11_copy_X11_found rfl rfl rfl (by decide +kernel) (by rw [hR]; exact ⟨Nat.le_of_ble_eq_true rfl, Nat.le_of_ble_eq_true rfl⟩)) ⟨wx_Pc.blind, wx_recv hK hX (by decide) sh_X11 rfl, (wx_Pc.pre hK hX).2⟩ rfl rfl hl.1 rfl (lv_room (Nat.le_of_ble_eq_true rfl)) dX11_copy_70 ⟨Nat.zero_le _, Nat.zero_le _⟩) hS (fun H locs hX hS => ?_)
            obtain ⟨z_24, ez_24⟩ : ∃ z, z = f_X11_found g 5 := ⟨_, rfl⟩
            rw [← ez_24] at hX; rw [← ez_24]
            exact hret _ _ _ _ _ _ dX11_copy_73 rfl hX hS (by subst ez_24 ek_7 ek_6; simp only [f_X11_copy, if_neg c_1, if_neg c_4, if_pos c_8, if_pos c_11, if_neg c_13])
        · refine lv_aload_n hx hb dX11_copy_49 rfl (lv_at hl 2 rfl) ?_
          refine lv_iconst (v := 1) hx hb dX11_copy_50 (by decide) ?_
          refine wx_callei (va_runV (As := [.int 1]) (rest := []) ⟨hx, hb, hml, hown, hts⟩ (k_X11_found l g 1) (cwV 1 hts gX11_copy_X11_found rfl rfl rfl (by decide +kernel) (by rw [hR]; exact ⟨Nat.le_of_ble_eq_true rfl, Nat.le_of_ble_eq_true rfl⟩)) ⟨wx_Pc.blind, wx_recv hK hX (by decide) sh_X11 rfl, (wx_Pc.pre hK hX).2⟩ rfl rfl hl.1 rfl (lv_room (Nat.le_of_ble_eq_true rfl)) dX11_copy_51 ⟨Nat.zero_le _, Nat.zero_le _⟩) hS (fun H locs hX hS => ?_)
          obtain ⟨z_25, ez_25⟩ : ∃ z, z = f_X11_found g 1 := ⟨_, rfl⟩
          rw [← ez_25] at hX; rw [← ez_25]
          exact hret _ _ _ _ _ _ dX11_copy_54 rfl hX hS (by subst ez_25 ek_7 ek_6; simp only [f_X11_copy, if_neg c_1, if_neg c_4, if_pos c_8, if_neg c_11])
    · have b_26 : wx_b (r_X11_isRow a3) 0 0 := by rw [c_4]; exact ⟨by decide, by decide⟩
      refine lv_ldc hx hb hown (hts (.constant RX11 55 (-1000001)) (by decide +kernel)) dX11_copy_14 ?_
      exact hret _ _ _ _ _ _ dX11_copy_16 rfl hX hS (by simp only [f_X11_copy, if_neg c_1, if_pos c_4])
def e_X0_undoLatest (g : wx_M) (ho : Nat) : wx_M :=
  if (g 49 5) = 0 then
    let g_21 := up2 g 49 5 23
    let x_22 := ((g_21 49 6) - 1)
    let g_23 := up2 g_21 49 6 x_22
    let x_24 := (g_23 53 (g_23 49 5).toNatClampNeg)
    let x_25 := (g_23 50 (g_23 49 5).toNatClampNeg)
    if x_25 = 0 then
      let g_28 := e_X3_leaveSeat g_23 ho (g_23 51 (g_23 49 5).toNatClampNeg) (g_23 52 (g_23 49 5).toNatClampNeg) x_24 (g_23 54 (g_23 49 5).toNatClampNeg)
      g_28
    else
      if x_25 = 1 then
        let g_31 := e_X3_takeSeat g_23 ho (g_23 51 (g_23 49 5).toNatClampNeg) (g_23 52 (g_23 49 5).toNatClampNeg) x_24 (g_23 54 (g_23 49 5).toNatClampNeg)
        g_31
      else
        if x_25 = 2 then
          let g_34 := e_X3_openCurtain g_23 ho (g_23 51 (g_23 49 5).toNatClampNeg) (g_23 52 (g_23 49 5).toNatClampNeg) x_24
          g_34
        else
          let x_35 := ((g_23 ho 8) &&& ((1 <<< (x_24 &&& 31)) ^^^ (-1)))
          let g_36 := up2 g_23 ho 8 x_35
          g_36
  else
    let x_3 := ((g 49 5) - 1)
    let g_4 := up2 g 49 5 x_3
    let x_5 := ((g_4 49 6) - 1)
    let g_6 := up2 g_4 49 6 x_5
    let x_7 := (g_6 53 (g_6 49 5).toNatClampNeg)
    let x_8 := (g_6 50 (g_6 49 5).toNatClampNeg)
    if x_8 = 0 then
      let g_11 := e_X3_leaveSeat g_6 ho (g_6 51 (g_6 49 5).toNatClampNeg) (g_6 52 (g_6 49 5).toNatClampNeg) x_7 (g_6 54 (g_6 49 5).toNatClampNeg)
      g_11
    else
      if x_8 = 1 then
        let g_14 := e_X3_takeSeat g_6 ho (g_6 51 (g_6 49 5).toNatClampNeg) (g_6 52 (g_6 49 5).toNatClampNeg) x_7 (g_6 54 (g_6 49 5).toNatClampNeg)
        g_14
      else
        if x_8 = 2 then
          let g_17 := e_X3_openCurtain g_6 ho (g_6 51 (g_6 49 5).toNatClampNeg) (g_6 52 (g_6 49 5).toNatClampNeg) x_7
          g_17
        else
          let x_18 := ((g_6 ho 8) &&& ((1 <<< (x_7 &&& 31)) ^^^ (-1)))
          let g_19 := up2 g_6 ho 8 x_18
          g_19
set_option maxHeartbeats 4000000 in
set_option maxRecDepth 100000 in
theorem k_X0_undoLatest (l : Launch) {D : va_G} {cy : Nat → ClassId} {ad : Nat → Nat} {B0 : Nat} {f : wx_F} {P : va_W} (g : wx_M) (ho : Nat) (hho : wx_H ho) (hn : wx_b (g 49 5) 0 23) (hu : wx_AI g) : Met l yX0_undoLatest wsX0_undoLatest ({ frames := 2, cells := 0, slots := 0, locals := 45 } : Room) (wx_Pc D cy ad B0 f P g [.ref (ad 49), .ref (ad ho)]) (wx_Qe D cy ad B0 f P (e_X0_undoLatest g ho) none) 0 0 (fun q => B0 ≤ q) := by
  refine wx_enterV (cc := cX0_undoLatest) (maxL := 3) (own := RX0) (lv := [(0, .ref (ad 49)), (1, .ref (ad ho))]) (by decide) rfl rfl (Nat.le_of_ble_eq_true rfl) rfl ?_
  intro p e R s m args below meth c ls Qm hx hb hml hown hts hK hX hS hR hret hl
  have hi_X0 : ∀ w ∈ wsX00, w ∈ wsX0_undoLatest := by decide +kernel
  have hi_X3 : ∀ w ∈ wsX30, w ∈ wsX0_undoLatest := by decide +kernel
  refine lv_aload_n hx hb dX0_undoLatest_0 rfl (lv_at hl 0 rfl) ?_
  refine lv_aload_n hx hb dX0_undoLatest_1 rfl (lv_at hl 0 rfl) ?_
  refine wx_geti (C := RX0) (T := TX0) (N := 7) (ci := 0) (j := 5) hx hb hts hi_X0 hown hK hX (by decide) sh_X0_5 rfl (by decide) (hts (.fieldLink RX0 29 "SeenAgain$Acts" "next" "I") (by decide +kernel)) (fun _ h9 => h9) dX0_undoLatest_2 ?_
  refine lv_if_ne (tgt := 13) hx hb dX0_undoLatest_5 (by decide) (fun c_1 => ?_) (fun c_1 => ?_)
  · have b_2 : wx_b (g 49 5) 1 23 := wb_nel c_1 hn (by decide)
    refine lv_aload_n hx hb dX0_undoLatest_13 rfl (lv_at hl 0 rfl) ?_
    refine wx_geti (C := RX0) (T := TX0) (N := 7) (ci := 0) (j := 5) hx hb hts hi_X0 hown hK hX (by decide) sh_X0_5 rfl (by decide) (hts (.fieldLink RX0 29 "SeenAgain$Acts" "next" "I") (by decide +kernel)) (fun _ h9 => h9) dX0_undoLatest_14 ?_
    refine lv_iconst (v := 1) hx hb dX0_undoLatest_17 (by decide) ?_
    refine lv_isub hx hb dX0_undoLatest_18 ?_
    refine lv_topi (fun x_3 ex_3 => ?_)
    have bx_3 : wx_b x_3 0 22 := by rw [ex_3]; exact (wb_sub b_2 (show wx_b 1 1 1 from ⟨by decide, by decide⟩) (by decide) (by decide))
    refine wx_puti (C := RX0) (T := TX0) (N := 7) (ci := 0) (j := 5) (ty := .int) hx hb hts hi_X0 tyX0 tyX0_ok nmX0 hown hK hX hS (by decide) sh_X0_5 rfl (by decide) (hts (.fieldLink RX0 29 "SeenAgain$Acts" "next" "I") (by decide +kernel)) (fun _ h9 => h9) rfl (by decide +kernel) rfl rfl dX0_undoLatest_19 (fun H locs hX hS => ?_)
    obtain ⟨g_4, eg_4, hX⟩ := wx_nm hX
    refine lv_aload_n hx hb dX0_undoLatest_22 rfl (lv_at hl 0 rfl) ?_
    refine lv_dup hx hb dX0_undoLatest_23 rfl ?_
    refine wx_geti (C := RX0) (T := TX0) (N := 7) (ci := 0) (j := 6) hx hb hts hi_X0 hown hK hX (by decide) sh_X0_6 rfl (by decide) (hts (.fieldLink RX0 25 "SeenAgain$Acts" "kept" "I") (by decide +kernel)) (fun _ h9 => h9) dX0_undoLatest_24 ?_
    refine lv_iconst (v := 1) hx hb dX0_undoLatest_27 (by decide) ?_
    refine lv_isub hx hb dX0_undoLatest_28 ?_
    refine lv_topi (fun x_5 ex_5 => ?_)
    refine wx_puti (C := RX0) (T := TX0) (N := 7) (ci := 0) (j := 6) (ty := .int) hx hb hts hi_X0 tyX0 tyX0_ok nmX0 hown hK hX hS (by decide) sh_X0_6 rfl (by decide) (hts (.fieldLink RX0 25 "SeenAgain$Acts" "kept" "I") (by decide +kernel)) (fun _ h9 => h9) rfl (by decide +kernel) rfl rfl dX0_undoLatest_29 (fun H locs hX hS => ?_)
    obtain ⟨g_6, eg_6, hX⟩ := wx_nm hX
    refine lv_aload_n hx hb dX0_undoLatest_32 rfl (lv_at hl 0 rfl) ?_
    refine wx_getr (t := 53) (C := RX0) (T := TX0) (N := 7) (ci := 0) (j := 3) hx hb hts hi_X0 hown hK hX (by decide) sh_X0_3 rfl (by decide) (hts (.fieldLink RX0 19 "SeenAgain$Acts" "minutes" "[I") (by decide +kernel)) (fun _ h9 => h9) dX0_undoLatest_33 ?_
    refine lv_aload_n hx hb dX0_undoLatest_36 rfl (lv_at hl 0 rfl) ?_
    refine wx_geti (C := RX0) (T := TX0) (N := 7) (ci := 0) (j := 5) hx hb hts hi_X0 hown hK hX (by decide) sh_X0_5 rfl (by decide) (hts (.fieldLink RX0 29 "SeenAgain$Acts" "next" "I") (by decide +kernel)) (fun _ h9 => h9) dX0_undoLatest_37 ?_
    refine wx_iald hx hb hK hX (by decide) sa_53 (wb_in (show wx_b (g_6 49 5) 0 22 by rw [show (g_6 49 5) = (g_4 49 5) from (by rw [eg_6, up2_sn (by decide)])]; exact (show wx_b (g_4 49 5) 0 22 by rw [show (g_4 49 5) = x_3 from (by rw [eg_4, up2_ss])]; exact bx_3)) (by decide) (by decide)) dX0_undoLatest_40 ?_
    refine lv_topi (fun x_7 ex_7 => ?_)
    have bx_7 : wx_b x_7 0 7 := by rw [ex_7]; exact (show wx_b (g_6 53 (g_6 49 5).toNatClampNeg) 0 7 by rw [show (g_6 53 (g_6 49 5).toNatClampNeg) = (g_4 53 (g_6 49 5).toNatClampNeg) from (by rw [eg_6, up2_n (by decide)])]; exact (show wx_b (g_4 53 (g_6 49 5).toNatClampNeg) 0 7 by rw [show (g_4 53 (g_6 49 5).toNatClampNeg) = (g 53 (g_6 49 5).toNatClampNeg) from (by rw [eg_4, up2_n (by decide)])]; exact (hu _ (wb_cl (n := 23) (show wx_b (g_6 49 5) 0 22 by rw [show (g_6 49 5) = (g_4 49 5) from (by rw [eg_6, up2_sn (by decide)])]; exact (show wx_b (g_4 49 5) 0 22 by rw [show (g_4 49 5) = x_3 from (by rw [eg_4, up2_ss])]; exact bx_3)) (by decide))).2.2.1))
    refine lv_istore_n (lv' := [(2, .int x_7), (0, .ref (ad 49)), (1, .ref (ad ho))]) hx hb dX0_undoLatest_41 rfl hl (by decide) rfl (fun ls hl => ?_)
    refine lv_aload_n hx hb dX0_undoLatest_42 rfl (lv_at hl 1 rfl) ?_
    refine wx_getr (t := 50) (C := RX0) (T := TX0) (N := 7) (ci := 0) (j := 0) hx hb hts hi_X0 hown hK hX (by decide) sh_X0_0 rfl (by decide) (hts (.fieldLink RX0 9 "SeenAgain$Acts" "whats" "[I") (by decide +kernel)) (fun _ h9 => h9) dX0_undoLatest_43 ?_
    refine lv_aload_n hx hb dX0_undoLatest_46 rfl (lv_at hl 1 rfl) ?_
    refine wx_geti (C := RX0) (T := TX0) (N := 7) (ci := 0) (j := 5) hx hb hts hi_X0 hown hK hX (by decide) sh_X0_5 rfl (by decide) (hts (.fieldLink RX0 29 "SeenAgain$Acts" "next" "I") (by decide +kernel)) (fun _ h9 => h9) dX0_undoLatest_47 ?_
    refine wx_iald hx hb hK hX (by decide) sa_50 (wb_in (show wx_b (g_6 49 5) 0 22 by rw [show (g_6 49 5) = (g_4 49 5) from (by rw [eg_6, up2_sn (by decide)])]; exact (show wx_b (g_4 49 5) 0 22 by rw [show (g_4 49 5) = x_3 from (by rw [eg_4, up2_ss])]; exact bx_3)) (by decide) (by decide)) dX0_undoLatest_50 ?_
    refine lv_topi (fun x_8 ex_8 => ?_)
    by_cases c_9 : x_8 = 0
    · have b_10 : wx_b x_8 0 0 := by rw [c_9]; exact ⟨by decide, by decide⟩
      refine lv_tableIn (tgt := 76) hx hb dX0_undoLatest_51 (by rw [c_9]; decide) (by rw [c_9]; decide) (by rw [c_9]; rfl) (by decide) ?_
      refine lv_aload_n hx hb dX0_undoLatest_76 rfl (lv_at hl 2 rfl) ?_
      refine lv_aload_n hx hb dX0_undoLatest_77 rfl (lv_at hl 1 rfl) ?_
      refine wx_getr (t := 51) (C := RX0) (T := TX0) (N := 7) (ci := 0) (j := 1) hx hb hts hi_X0 hown hK hX (by decide) sh_X0_1 rfl (by decide) (hts (.fieldLink RX0 13 "SeenAgain$Acts" "firsts" "[I") (by decide +kernel)) (fun _ h9 => h9) dX0_undoLatest_78 ?_
      refine lv_aload_n hx hb dX0_undoLatest_81 rfl (lv_at hl 1 rfl) ?_
      refine wx_geti (C := RX0) (T := TX0) (N := 7) (ci := 0) (j := 5) hx hb hts hi_X0 hown hK hX (by decide) sh_X0_5 rfl (by decide) (hts (.fieldLink RX0 29 "SeenAgain$Acts" "next" "I") (by decide +kernel)) (fun _ h9 => h9) dX0_undoLatest_82 ?_
      refine wx_iald hx hb hK hX (by decide) sa_51 (wb_in (show wx_b (g_6 49 5) 0 22 by rw [show (g_6 49 5) = (g_4 49 5) from (by rw [eg_6, up2_sn (by decide)])]; exact (show wx_b (g_4 49 5) 0 22 by rw [show (g_4 49 5) = x_3 from (by rw [eg_4, up2_ss])]; exact bx_3)) (by decide) (by decide)) dX0_undoLatest_85 ?_
      refine lv_aload_n hx hb dX0_undoLatest_86 rfl (lv_at hl 1 rfl) ?_
      refine wx_getr (t := 52) (C := RX0) (T := TX0) (N := 7) (ci := 0) (j := 2) hx hb hts hi_X0 hown hK hX (by decide) sh_X0_2 rfl (by decide) (hts (.fieldLink RX0 16 "SeenAgain$Acts" "seconds" "[I") (by decide +kernel)) (fun _ h9 => h9) dX0_undoLatest_87 ?_
      refine lv_aload_n hx hb dX0_undoLatest_90 rfl (lv_at hl 1 rfl) ?_
      refine wx_geti (C := RX0) (T := TX0) (N := 7) (ci := 0) (j := 5) hx hb hts hi_X0 hown hK hX (by decide) sh_X0_5 rfl (by decide) (hts (.fieldLink RX0 29 "SeenAgain$Acts" "next" "I") (by decide +kernel)) (fun _ h9 => h9) dX0_undoLatest_91 ?_
      refine wx_iald hx hb hK hX (by decide) sa_52 (wb_in (show wx_b (g_6 49 5) 0 22 by rw [show (g_6 49 5) = (g_4 49 5) from (by rw [eg_6, up2_sn (by decide)])]; exact (show wx_b (g_4 49 5) 0 22 by rw [show (g_4 49 5) = x_3 from (by rw [eg_4, up2_ss])]; exact bx_3)) (by decide) (by decide)) dX0_undoLatest_94 ?_
      refine lv_iload_n hx hb dX0_undoLatest_95 rfl (lv_at hl 0 rfl) ?_
      refine lv_aload_n hx hb dX0_undoLatest_96 rfl (lv_at hl 1 rfl) ?_
      refine wx_getr (t := 54) (C := RX0) (T := TX0) (N := 7) (ci := 0) (j := 4) hx hb hts hi_X0 hown hK hX (by decide) sh_X0_4 rfl (by decide) (hts (.fieldLink RX0 22 "SeenAgain$Acts" "coins" "[I") (by decide +kernel)) (fun _ h9 => h9) dX0_undoLatest_97 ?_
      refine lv_aload_n hx hb dX0_undoLatest_100 rfl (lv_at hl 1 rfl) ?_
      refine wx_geti (C := RX0) (T := TX0) (N := 7) (ci := 0) (j := 5) hx hb hts hi_X0 hown hK hX (by decide) sh_X0_5 rfl (by decide) (hts (.fieldLink RX0 29 "SeenAgain$Acts" "next" "I") (by decide +kernel)) (fun _ h9 => h9) dX0_undoLatest_101 ?_
      refine wx_iald hx hb hK hX (by decide) sa_54 (wb_in (show wx_b (g_6 49 5) 0 22 by rw [show (g_6 49 5) = (g_4 49 5) from (by rw [eg_6, up2_sn (by decide)])]; exact (show wx_b (g_4 49 5) 0 22 by rw [show (g_4 49 5) = x_3 from (by rw [eg_4, up2_ss])]; exact bx_3)) (by decide) (by decide)) dX0_undoLatest_104 ?_
      refine wx_callev (va_runV (As := [.int (g_6 51 (g_6 49 5).toNatClampNeg), .int (g_6 52 (g_6 49 5).toNatClampNeg), .int x_7, .int (g_6 54 (g_6 49 5).toNatClampNeg)]) (rest := []) ⟨hx, hb, hml, hown, hts⟩ (k_X3_leaveSeat l g_6 ho (g_6 51 (g_6 49 5).toNatClampNeg) (g_6 52 (g_6 49 5).toNatClampNeg) x_7 (g_6 54 (g_6 49 5).toNatClampNeg) hho (show wx_b (g_6 51 (g_6 49 5).toNatClampNeg) 0 3 by rw [show (g_6 51 (g_6 49 5).toNatClampNeg) = (g_4 51 (g_6 49 5).toNatClampNeg) from (by rw [eg_6, up2_n (by decide)])]; exact (show wx_b (g_4 51 (g_6 49 5).toNatClampNeg) 0 3 by rw [show (g_4 51 (g_6 49 5).toNatClampNeg) = (g 51 (g_6 49 5).toNatClampNeg) from (by rw [eg_4, up2_n (by decide)])]; exact ((hu _ (wb_cl (n := 23) (show wx_b (g_6 49 5) 0 22 by rw [show (g_6 49 5) = (g_4 49 5) from (by rw [eg_6, up2_sn (by decide)])]; exact (show wx_b (g_4 49 5) 0 22 by rw [show (g_4 49 5) = x_3 from (by rw [eg_4, up2_ss])]; exact bx_3)) (by decide))).2.2.2 (Or.inl (by have h9 := ex_8; rw [c_9, show (g_6 50 (g_6 49 5).toNatClampNeg) = (g 50 (g_6 49 5).toNatClampNeg) from ((show (g_6 50 (g_6 49 5).toNatClampNeg) = (g_4 50 (g_6 49 5).toNatClampNeg) from (by rw [eg_6, up2_n (by decide)])).trans (show (g_4 50 (g_6 49 5).toNatClampNeg) = (g 50 (g_6 49 5).toNatClampNeg) from (by rw [eg_4, up2_n (by decide)])))] at h9; exact h9.symm))))) (show wx_b (g_6 52 (g_6 49 5).toNatClampNeg) 0 5 by rw [show (g_6 52 (g_6 49 5).toNatClampNeg) = (g_4 52 (g_6 49 5).toNatClampNeg) from (by rw [eg_6, up2_n (by decide)])]; exact (show wx_b (g_4 52 (g_6 49 5).toNatClampNeg) 0 5 by rw [show (g_4 52 (g_6 49 5).toNatClampNeg) = (g 52 (g_6 49 5).toNatClampNeg) from (by rw [eg_4, up2_n (by decide)])]; exact (hu _ (wb_cl (n := 23) (show wx_b (g_6 49 5) 0 22 by rw [show (g_6 49 5) = (g_4 49 5) from (by rw [eg_6, up2_sn (by decide)])]; exact (show wx_b (g_4 49 5) 0 22 by rw [show (g_4 49 5) = x_3 from (by rw [eg_4, up2_ss])]; exact bx_3)) (by decide))).2.1)) bx_7) (cwV 4 hts gX0_undoLatest_X3_leaveSeat rfl rfl rfl (by decide +kernel) (by rw [hR]; exact ⟨Nat.le_of_ble_eq_true rfl, Nat.le_of_ble_eq_true rfl⟩)) ⟨wx_Pc.blind, wx_recv hK hX hho.l0 (sh_X3 hho) rfl, (wx_Pc.pre hK hX).2⟩ rfl rfl hl.1 rfl (lv_room (Nat.le_of_ble_eq_true rfl)) dX0_undoLatest_105 ⟨Nat.zero_le _, Nat.zero_le _⟩) hS (fun H locs hX hS => ?_)
      obtain ⟨g_11, eg_11, hX⟩ := wx_nm hX
      refine lv_goto (tgt := 186) hx hb dX0_undoLatest_108 (by decide) ?_
      exact hret _ _ _ _ _ dX0_undoLatest_186 hX hS (by subst eg_11 ex_8 ex_7 eg_6 ex_5 eg_4 ex_3; simp only [e_X0_undoLatest, if_neg c_1, if_pos c_9])
    · by_cases c_12 : x_8 = 1
      · have b_13 : wx_b x_8 1 1 := by rw [c_12]; exact ⟨by decide, by decide⟩
        refine lv_tableIn (tgt := 111) hx hb dX0_undoLatest_51 (by rw [c_12]; decide) (by rw [c_12]; decide) (by rw [c_12]; rfl) (by decide) ?_
        refine lv_aload_n hx hb dX0_undoLatest_111 rfl (lv_at hl 2 rfl) ?_
        refine lv_aload_n hx hb dX0_undoLatest_112 rfl (lv_at hl 1 rfl) ?_
        refine wx_getr (t := 51) (C := RX0) (T := TX0) (N := 7) (ci := 0) (j := 1) hx hb hts hi_X0 hown hK hX (by decide) sh_X0_1 rfl (by decide) (hts (.fieldLink RX0 13 "SeenAgain$Acts" "firsts" "[I") (by decide +kernel)) (fun _ h9 => h9) dX0_undoLatest_113 ?_
        refine lv_aload_n hx hb dX0_undoLatest_116 rfl (lv_at hl 1 rfl) ?_
        refine wx_geti (C := RX0) (T := TX0) (N := 7) (ci := 0) (j := 5) hx hb hts hi_X0 hown hK hX (by decide) sh_X0_5 rfl (by decide) (hts (.fieldLink RX0 29 "SeenAgain$Acts" "next" "I") (by decide +kernel)) (fun _ h9 => h9) dX0_undoLatest_117 ?_
        refine wx_iald hx hb hK hX (by decide) sa_51 (wb_in (show wx_b (g_6 49 5) 0 22 by rw [show (g_6 49 5) = (g_4 49 5) from (by rw [eg_6, up2_sn (by decide)])]; exact (show wx_b (g_4 49 5) 0 22 by rw [show (g_4 49 5) = x_3 from (by rw [eg_4, up2_ss])]; exact bx_3)) (by decide) (by decide)) dX0_undoLatest_120 ?_
        refine lv_aload_n hx hb dX0_undoLatest_121 rfl (lv_at hl 1 rfl) ?_
        refine wx_getr (t := 52) (C := RX0) (T := TX0) (N := 7) (ci := 0) (j := 2) hx hb hts hi_X0 hown hK hX (by decide) sh_X0_2 rfl (by decide) (hts (.fieldLink RX0 16 "SeenAgain$Acts" "seconds" "[I") (by decide +kernel)) (fun _ h9 => h9) dX0_undoLatest_122 ?_
        refine lv_aload_n hx hb dX0_undoLatest_125 rfl (lv_at hl 1 rfl) ?_
        refine wx_geti (C := RX0) (T := TX0) (N := 7) (ci := 0) (j := 5) hx hb hts hi_X0 hown hK hX (by decide) sh_X0_5 rfl (by decide) (hts (.fieldLink RX0 29 "SeenAgain$Acts" "next" "I") (by decide +kernel)) (fun _ h9 => h9) dX0_undoLatest_126 ?_
        refine wx_iald hx hb hK hX (by decide) sa_52 (wb_in (show wx_b (g_6 49 5) 0 22 by rw [show (g_6 49 5) = (g_4 49 5) from (by rw [eg_6, up2_sn (by decide)])]; exact (show wx_b (g_4 49 5) 0 22 by rw [show (g_4 49 5) = x_3 from (by rw [eg_4, up2_ss])]; exact bx_3)) (by decide) (by decide)) dX0_undoLatest_129 ?_
        refine lv_iload_n hx hb dX0_undoLatest_130 rfl (lv_at hl 0 rfl) ?_
        refine lv_aload_n hx hb dX0_undoLatest_131 rfl (lv_at hl 1 rfl) ?_
        refine wx_getr (t := 54) (C := RX0) (T := TX0) (N := 7) (ci := 0) (j := 4) hx hb hts hi_X0 hown hK hX (by decide) sh_X0_4 rfl (by decide) (hts (.fieldLink RX0 22 "SeenAgain$Acts" "coins" "[I") (by decide +kernel)) (fun _ h9 => h9) dX0_undoLatest_132 ?_
        refine lv_aload_n hx hb dX0_undoLatest_135 rfl (lv_at hl 1 rfl) ?_
        refine wx_geti (C := RX0) (T := TX0) (N := 7) (ci := 0) (j := 5) hx hb hts hi_X0 hown hK hX (by decide) sh_X0_5 rfl (by decide) (hts (.fieldLink RX0 29 "SeenAgain$Acts" "next" "I") (by decide +kernel)) (fun _ h9 => h9) dX0_undoLatest_136 ?_
        refine wx_iald hx hb hK hX (by decide) sa_54 (wb_in (show wx_b (g_6 49 5) 0 22 by rw [show (g_6 49 5) = (g_4 49 5) from (by rw [eg_6, up2_sn (by decide)])]; exact (show wx_b (g_4 49 5) 0 22 by rw [show (g_4 49 5) = x_3 from (by rw [eg_4, up2_ss])]; exact bx_3)) (by decide) (by decide)) dX0_undoLatest_139 ?_
        refine wx_callev (va_runV (As := [.int (g_6 51 (g_6 49 5).toNatClampNeg), .int (g_6 52 (g_6 49 5).toNatClampNeg), .int x_7, .int (g_6 54 (g_6 49 5).toNatClampNeg)]) (rest := []) ⟨hx, hb, hml, hown, hts⟩ (k_X3_takeSeat l g_6 ho (g_6 51 (g_6 49 5).toNatClampNeg) (g_6 52 (g_6 49 5).toNatClampNeg) x_7 (g_6 54 (g_6 49 5).toNatClampNeg) hho (show wx_b (g_6 51 (g_6 49 5).toNatClampNeg) 0 3 by rw [show (g_6 51 (g_6 49 5).toNatClampNeg) = (g_4 51 (g_6 49 5).toNatClampNeg) from (by rw [eg_6, up2_n (by decide)])]; exact (show wx_b (g_4 51 (g_6 49 5).toNatClampNeg) 0 3 by rw [show (g_4 51 (g_6 49 5).toNatClampNeg) = (g 51 (g_6 49 5).toNatClampNeg) from (by rw [eg_4, up2_n (by decide)])]; exact ((hu _ (wb_cl (n := 23) (show wx_b (g_6 49 5) 0 22 by rw [show (g_6 49 5) = (g_4 49 5) from (by rw [eg_6, up2_sn (by decide)])]; exact (show wx_b (g_4 49 5) 0 22 by rw [show (g_4 49 5) = x_3 from (by rw [eg_4, up2_ss])]; exact bx_3)) (by decide))).2.2.2 (Or.inr (by have h9 := ex_8; rw [c_12, show (g_6 50 (g_6 49 5).toNatClampNeg) = (g 50 (g_6 49 5).toNatClampNeg) from ((show (g_6 50 (g_6 49 5).toNatClampNeg) = (g_4 50 (g_6 49 5).toNatClampNeg) from (by rw [eg_6, up2_n (by decide)])).trans (show (g_4 50 (g_6 49 5).toNatClampNeg) = (g 50 (g_6 49 5).toNatClampNeg) from (by rw [eg_4, up2_n (by decide)])))] at h9; exact h9.symm))))) (show wx_b (g_6 52 (g_6 49 5).toNatClampNeg) 0 5 by rw [show (g_6 52 (g_6 49 5).toNatClampNeg) = (g_4 52 (g_6 49 5).toNatClampNeg) from (by rw [eg_6, up2_n (by decide)])]; exact (show wx_b (g_4 52 (g_6 49 5).toNatClampNeg) 0 5 by rw [show (g_4 52 (g_6 49 5).toNatClampNeg) = (g 52 (g_6 49 5).toNatClampNeg) from (by rw [eg_4, up2_n (by decide)])]; exact (hu _ (wb_cl (n := 23) (show wx_b (g_6 49 5) 0 22 by rw [show (g_6 49 5) = (g_4 49 5) from (by rw [eg_6, up2_sn (by decide)])]; exact (show wx_b (g_4 49 5) 0 22 by rw [show (g_4 49 5) = x_3 from (by rw [eg_4, up2_ss])]; exact bx_3)) (by decide))).2.1)) bx_7) (cwV 4 hts gX0_undoLatest_X3_takeSeat rfl rfl rfl (by decide +kernel) (by rw [hR]; exact ⟨Nat.le_of_ble_eq_true rfl, Nat.le_of_ble_eq_true rfl⟩)) ⟨wx_Pc.blind, wx_recv hK hX hho.l0 (sh_X3 hho) rfl, (wx_Pc.pre hK hX).2⟩ rfl rfl hl.1 rfl (lv_room (Nat.le_of_ble_eq_true rfl)) dX0_undoLatest_140 ⟨Nat.zero_le _, Nat.zero_le _⟩) hS (fun H locs hX hS => ?_)
        obtain ⟨g_14, eg_14, hX⟩ := wx_nm hX
        refine lv_goto (tgt := 186) hx hb dX0_undoLatest_143 (by decide) ?_
        exact hret _ _ _ _ _ dX0_undoLatest_186 hX hS (by subst eg_14 ex_8 ex_7 eg_6 ex_5 eg_4 ex_3; simp only [e_X0_undoLatest, if_neg c_1, if_neg c_9, if_pos c_12])
      · by_cases c_15 : x_8 = 2
        · have b_16 : wx_b x_8 2 2 := by rw [c_15]; exact ⟨by decide, by decide⟩
          refine lv_tableIn (tgt := 146) hx hb dX0_undoLatest_51 (by rw [c_15]; decide) (by rw [c_15]; decide) (by rw [c_15]; rfl) (by decide) ?_
          refine lv_aload_n hx hb dX0_undoLatest_146 rfl (lv_at hl 2 rfl) ?_
          refine lv_aload_n hx hb dX0_undoLatest_147 rfl (lv_at hl 1 rfl) ?_
          refine wx_getr (t := 51) (C := RX0) (T := TX0) (N := 7) (ci := 0) (j := 1) hx hb hts hi_X0 hown hK hX (by decide) sh_X0_1 rfl (by decide) (hts (.fieldLink RX0 13 "SeenAgain$Acts" "firsts" "[I") (by decide +kernel)) (fun _ h9 => h9) dX0_undoLatest_148 ?_
          refine lv_aload_n hx hb dX0_undoLatest_151 rfl (lv_at hl 1 rfl) ?_
          refine wx_geti (C := RX0) (T := TX0) (N := 7) (ci := 0) (j := 5) hx hb hts hi_X0 hown hK hX (by decide) sh_X0_5 rfl (by decide) (hts (.fieldLink RX0 29 "SeenAgain$Acts" "next" "I") (by decide +kernel)) (fun _ h9 => h9) dX0_undoLatest_152 ?_
          refine wx_iald hx hb hK hX (by decide) sa_51 (wb_in (show wx_b (g_6 49 5) 0 22 by rw [show (g_6 49 5) = (g_4 49 5) from (by rw [eg_6, up2_sn (by decide)])]; exact (show wx_b (g_4 49 5) 0 22 by rw [show (g_4 49 5) = x_3 from (by rw [eg_4, up2_ss])]; exact bx_3)) (by decide) (by decide)) dX0_undoLatest_155 ?_
          refine lv_aload_n hx hb dX0_undoLatest_156 rfl (lv_at hl 1 rfl) ?_
          refine wx_getr (t := 52) (C := RX0) (T := TX0) (N := 7) (ci := 0) (j := 2) hx hb hts hi_X0 hown hK hX (by decide) sh_X0_2 rfl (by decide) (hts (.fieldLink RX0 16 "SeenAgain$Acts" "seconds" "[I") (by decide +kernel)) (fun _ h9 => h9) dX0_undoLatest_157 ?_
          refine lv_aload_n hx hb dX0_undoLatest_160 rfl (lv_at hl 1 rfl) ?_
          refine wx_geti (C := RX0) (T := TX0) (N := 7) (ci := 0) (j := 5) hx hb hts hi_X0 hown hK hX (by decide) sh_X0_5 rfl (by decide) (hts (.fieldLink RX0 29 "SeenAgain$Acts" "next" "I") (by decide +kernel)) (fun _ h9 => h9) dX0_undoLatest_161 ?_
          refine wx_iald hx hb hK hX (by decide) sa_52 (wb_in (show wx_b (g_6 49 5) 0 22 by rw [show (g_6 49 5) = (g_4 49 5) from (by rw [eg_6, up2_sn (by decide)])]; exact (show wx_b (g_4 49 5) 0 22 by rw [show (g_4 49 5) = x_3 from (by rw [eg_4, up2_ss])]; exact bx_3)) (by decide) (by decide)) dX0_undoLatest_164 ?_
          refine lv_iload_n hx hb dX0_undoLatest_165 rfl (lv_at hl 0 rfl) ?_
          refine wx_callev (va_runV (As := [.int (g_6 51 (g_6 49 5).toNatClampNeg), .int (g_6 52 (g_6 49 5).toNatClampNeg), .int x_7]) (rest := []) ⟨hx, hb, hml, hown, hts⟩ (k_X3_openCurtain l g_6 ho (g_6 51 (g_6 49 5).toNatClampNeg) (g_6 52 (g_6 49 5).toNatClampNeg) x_7 hho (show wx_b (g_6 51 (g_6 49 5).toNatClampNeg) 0 5 by rw [show (g_6 51 (g_6 49 5).toNatClampNeg) = (g_4 51 (g_6 49 5).toNatClampNeg) from (by rw [eg_6, up2_n (by decide)])]; exact (show wx_b (g_4 51 (g_6 49 5).toNatClampNeg) 0 5 by rw [show (g_4 51 (g_6 49 5).toNatClampNeg) = (g 51 (g_6 49 5).toNatClampNeg) from (by rw [eg_4, up2_n (by decide)])]; exact (hu _ (wb_cl (n := 23) (show wx_b (g_6 49 5) 0 22 by rw [show (g_6 49 5) = (g_4 49 5) from (by rw [eg_6, up2_sn (by decide)])]; exact (show wx_b (g_4 49 5) 0 22 by rw [show (g_4 49 5) = x_3 from (by rw [eg_4, up2_ss])]; exact bx_3)) (by decide))).1)) (show wx_b (g_6 52 (g_6 49 5).toNatClampNeg) 0 5 by rw [show (g_6 52 (g_6 49 5).toNatClampNeg) = (g_4 52 (g_6 49 5).toNatClampNeg) from (by rw [eg_6, up2_n (by decide)])]; exact (show wx_b (g_4 52 (g_6 49 5).toNatClampNeg) 0 5 by rw [show (g_4 52 (g_6 49 5).toNatClampNeg) = (g 52 (g_6 49 5).toNatClampNeg) from (by rw [eg_4, up2_n (by decide)])]; exact (hu _ (wb_cl (n := 23) (show wx_b (g_6 49 5) 0 22 by rw [show (g_6 49 5) = (g_4 49 5) from (by rw [eg_6, up2_sn (by decide)])]; exact (show wx_b (g_4 49 5) 0 22 by rw [show (g_4 49 5) = x_3 from (by rw [eg_4, up2_ss])]; exact bx_3)) (by decide))).2.1)) bx_7) (cwV 3 hts gX0_undoLatest_X3_openCurtain rfl rfl rfl (by decide +kernel) (by rw [hR]; exact ⟨Nat.le_of_ble_eq_true rfl, Nat.le_of_ble_eq_true rfl⟩)) ⟨wx_Pc.blind, wx_recv hK hX hho.l0 (sh_X3 hho) rfl, (wx_Pc.pre hK hX).2⟩ rfl rfl hl.1 rfl (lv_room (Nat.le_of_ble_eq_true rfl)) dX0_undoLatest_166 ⟨Nat.zero_le _, Nat.zero_le _⟩) hS (fun H locs hX hS => ?_)
          obtain ⟨g_17, eg_17, hX⟩ := wx_nm hX
          refine lv_goto (tgt := 186) hx hb dX0_undoLatest_169 (by decide) ?_
          exact hret _ _ _ _ _ dX0_undoLatest_186 hX hS (by subst eg_17 ex_8 ex_7 eg_6 ex_5 eg_4 ex_3; simp only [e_X0_undoLatest, if_neg c_1, if_neg c_9, if_neg c_12, if_pos c_15])
        · refine lv_tableOut (tgt := 172) hx hb dX0_undoLatest_51 (by have q0 := lv_neT (a := 0) c_9 (by decide); have q1 := lv_neT (a := 1) c_12 (by decide); have q2 := lv_neT (a := 2) c_15 (by decide); omega) (by decide) ?_
          refine lv_aload_n hx hb dX0_undoLatest_172 rfl (lv_at hl 2 rfl) ?_
          refine lv_dup hx hb dX0_undoLatest_173 rfl ?_
          refine wx_geti (C := RX3) (T := TX3) (N := 15) (ci := 3) (j := 8) hx hb hts hi_X3 hown hK hX hho.l0 (sh_X3_8 hho) rfl (by decide) (hts (.fieldLink RX0 51 "SeenAgain$House" "written" "I") (by decide +kernel)) (fun _ h9 => h9) dX0_undoLatest_174 ?_
          refine lv_iconst (v := 1) hx hb dX0_undoLatest_177 (by decide) ?_
          refine lv_iload_n hx hb dX0_undoLatest_178 rfl (lv_at hl 0 rfl) ?_
          refine lv_ishl hx hb dX0_undoLatest_179 ?_
          refine lv_iconst (v := (-1)) hx hb dX0_undoLatest_180 (by decide) ?_
          refine lv_ixor hx hb dX0_undoLatest_181 ?_
          refine lv_iand hx hb dX0_undoLatest_182 ?_
          refine lv_topi (fun x_18 ex_18 => ?_)
          refine wx_puti (C := RX3) (T := TX3) (N := 15) (ci := 3) (j := 8) (ty := .int) hx hb hts hi_X3 tyX3 tyX3_ok nmX3 hown hK hX hS hho.l0 (sh_X3_8 hho) rfl (by decide) (hts (.fieldLink RX0 51 "SeenAgain$House" "written" "I") (by decide +kernel)) (fun _ h9 => h9) rfl (by decide +kernel) rfl rfl dX0_undoLatest_183 (fun H locs hX hS => ?_)
          obtain ⟨g_19, eg_19, hX⟩ := wx_nm hX
          exact hret _ _ _ _ _ dX0_undoLatest_186 hX hS (by subst eg_19 ex_18 ex_8 ex_7 eg_6 ex_5 eg_4 ex_3; simp only [e_X0_undoLatest, if_neg c_1, if_neg c_9, if_neg c_12, if_neg c_15])
  · have b_20 : wx_b (g 49 5) 0 0 := by rw [c_1]; exact ⟨by decide, by decide⟩
    refine lv_bipush (v := 23) hx hb dX0_undoLatest_8 (by decide) ?_
    refine lv_goto (tgt := 19) hx hb dX0_undoLatest_10 (by decide) ?_
    refine wx_puti (C := RX0) (T := TX0) (N := 7) (ci := 0) (j := 5) (ty := .int) hx hb hts hi_X0 tyX0 tyX0_ok nmX0 hown hK hX hS (by decide) sh_X0_5 rfl (by decide) (hts (.fieldLink RX0 29 "SeenAgain$Acts" "next" "I") (by decide +kernel)) (fun _ h9 => h9) rfl (by decide +kernel) rfl rfl dX0_undoLatest_19 (fun H locs hX hS => ?_)
    obtain ⟨g_21, eg_21, hX⟩ := wx_nm hX
    refine lv_aload_n hx hb dX0_undoLatest_22 rfl (lv_at hl 0 rfl) ?_
    refine lv_dup hx hb dX0_undoLatest_23 rfl ?_
    refine wx_geti (C := RX0) (T := TX0) (N := 7) (ci := 0) (j := 6) hx hb hts hi_X0 hown hK hX (by decide) sh_X0_6 rfl (by decide) (hts (.fieldLink RX0 25 "SeenAgain$Acts" "kept" "I") (by decide +kernel)) (fun _ h9 => h9) dX0_undoLatest_24 ?_
    refine lv_iconst (v := 1) hx hb dX0_undoLatest_27 (by decide) ?_
    refine lv_isub hx hb dX0_undoLatest_28 ?_
    refine lv_topi (fun x_22 ex_22 => ?_)
    refine wx_puti (C := RX0) (T := TX0) (N := 7) (ci := 0) (j := 6) (ty := .int) hx hb hts hi_X0 tyX0 tyX0_ok nmX0 hown hK hX hS (by decide) sh_X0_6 rfl (by decide) (hts (.fieldLink RX0 25 "SeenAgain$Acts" "kept" "I") (by decide +kernel)) (fun _ h9 => h9) rfl (by decide +kernel) rfl rfl dX0_undoLatest_29 (fun H locs hX hS => ?_)
    obtain ⟨g_23, eg_23, hX⟩ := wx_nm hX
    refine lv_aload_n hx hb dX0_undoLatest_32 rfl (lv_at hl 0 rfl) ?_
    refine wx_getr (t := 53) (C := RX0) (T := TX0) (N := 7) (ci := 0) (j := 3) hx hb hts hi_X0 hown hK hX (by decide) sh_X0_3 rfl (by decide) (hts (.fieldLink RX0 19 "SeenAgain$Acts" "minutes" "[I") (by decide +kernel)) (fun _ h9 => h9) dX0_undoLatest_33 ?_
    refine lv_aload_n hx hb dX0_undoLatest_36 rfl (lv_at hl 0 rfl) ?_
    refine wx_geti (C := RX0) (T := TX0) (N := 7) (ci := 0) (j := 5) hx hb hts hi_X0 hown hK hX (by decide) sh_X0_5 rfl (by decide) (hts (.fieldLink RX0 29 "SeenAgain$Acts" "next" "I") (by decide +kernel)) (fun _ h9 => h9) dX0_undoLatest_37 ?_
    refine wx_iald hx hb hK hX (by decide) sa_53 (wb_in (show wx_b (g_23 49 5) 23 23 by rw [show (g_23 49 5) = (g_21 49 5) from (by rw [eg_23, up2_sn (by decide)])]; exact (show wx_b (g_21 49 5) 23 23 by rw [show (g_21 49 5) = 23 from (by rw [eg_21, up2_ss])]; exact (show wx_b 23 23 23 from ⟨by decide, by decide⟩))) (by decide) (by decide)) dX0_undoLatest_40 ?_
    refine lv_topi (fun x_24 ex_24 => ?_)
    have bx_24 : wx_b x_24 0 7 := by rw [ex_24]; exact (show wx_b (g_23 53 (g_23 49 5).toNatClampNeg) 0 7 by rw [show (g_23 53 (g_23 49 5).toNatClampNeg) = (g_21 53 (g_23 49 5).toNatClampNeg) from (by rw [eg_23, up2_n (by decide)])]; exact (show wx_b (g_21 53 (g_23 49 5).toNatClampNeg) 0 7 by rw [show (g_21 53 (g_23 49 5).toNatClampNeg) = (g 53 (g_23 49 5).toNatClampNeg) from (by rw [eg_21, up2_n (by decide)])]; exact (hu _ (wb_cl (n := 23) (show wx_b (g_23 49 5) 23 23 by rw [show (g_23 49 5) = (g_21 49 5) from (by rw [eg_23, up2_sn (by decide)])]; exact (show wx_b (g_21 49 5) 23 23 by rw [show (g_21 49 5) = 23 from (by rw [eg_21, up2_ss])]; exact (show wx_b 23 23 23 from ⟨by decide, by decide⟩))) (by decide))).2.2.1))
    refine lv_istore_n (lv' := [(2, .int x_24), (0, .ref (ad 49)), (1, .ref (ad ho))]) hx hb dX0_undoLatest_41 rfl hl (by decide) rfl (fun ls hl => ?_)
    refine lv_aload_n hx hb dX0_undoLatest_42 rfl (lv_at hl 1 rfl) ?_
    refine wx_getr (t := 50) (C := RX0) (T := TX0) (N := 7) (ci := 0) (j := 0) hx hb hts hi_X0 hown hK hX (by decide) sh_X0_0 rfl (by decide) (hts (.fieldLink RX0 9 "SeenAgain$Acts" "whats" "[I") (by decide +kernel)) (fun _ h9 => h9) dX0_undoLatest_43 ?_
    refine lv_aload_n hx hb dX0_undoLatest_46 rfl (lv_at hl 1 rfl) ?_
    refine wx_geti (C := RX0) (T := TX0) (N := 7) (ci := 0) (j := 5) hx hb hts hi_X0 hown hK hX (by decide) sh_X0_5 rfl (by decide) (hts (.fieldLink RX0 29 "SeenAgain$Acts" "next" "I") (by decide +kernel)) (fun _ h9 => h9) dX0_undoLatest_47 ?_
    refine wx_iald hx hb hK hX (by decide) sa_50 (wb_in (show wx_b (g_23 49 5) 23 23 by rw [show (g_23 49 5) = (g_21 49 5) from (by rw [eg_23, up2_sn (by decide)])]; exact (show wx_b (g_21 49 5) 23 23 by rw [show (g_21 49 5) = 23 from (by rw [eg_21, up2_ss])]; exact (show wx_b 23 23 23 from ⟨by decide, by decide⟩))) (by decide) (by decide)) dX0_undoLatest_50 ?_
    refine lv_topi (fun x_25 ex_25 => ?_)
    by_cases c_26 : x_25 = 0
    · have b_27 : wx_b x_25 0 0 := by rw [c_26]; exact ⟨by decide, by decide⟩
      refine lv_tableIn (tgt := 76) hx hb dX0_undoLatest_51 (by rw [c_26]; decide) (by rw [c_26]; decide) (by rw [c_26]; rfl) (by decide) ?_
      refine lv_aload_n hx hb dX0_undoLatest_76 rfl (lv_at hl 2 rfl) ?_
      refine lv_aload_n hx hb dX0_undoLatest_77 rfl (lv_at hl 1 rfl) ?_
      refine wx_getr (t := 51) (C := RX0) (T := TX0) (N := 7) (ci := 0) (j := 1) hx hb hts hi_X0 hown hK hX (by decide) sh_X0_1 rfl (by decide) (hts (.fieldLink RX0 13 "SeenAgain$Acts" "firsts" "[I") (by decide +kernel)) (fun _ h9 => h9) dX0_undoLatest_78 ?_
      refine lv_aload_n hx hb dX0_undoLatest_81 rfl (lv_at hl 1 rfl) ?_
      refine wx_geti (C := RX0) (T := TX0) (N := 7) (ci := 0) (j := 5) hx hb hts hi_X0 hown hK hX (by decide) sh_X0_5 rfl (by decide) (hts (.fieldLink RX0 29 "SeenAgain$Acts" "next" "I") (by decide +kernel)) (fun _ h9 => h9) dX0_undoLatest_82 ?_
      refine wx_iald hx hb hK hX (by decide) sa_51 (wb_in (show wx_b (g_23 49 5) 23 23 by rw [show (g_23 49 5) = (g_21 49 5) from (by rw [eg_23, up2_sn (by decide)])]; exact (show wx_b (g_21 49 5) 23 23 by rw [show (g_21 49 5) = 23 from (by rw [eg_21, up2_ss])]; exact (show wx_b 23 23 23 from ⟨by decide, by decide⟩))) (by decide) (by decide)) dX0_undoLatest_85 ?_
      refine lv_aload_n hx hb dX0_undoLatest_86 rfl (lv_at hl 1 rfl) ?_
      refine wx_getr (t := 52) (C := RX0) (T := TX0) (N := 7) (ci := 0) (j := 2) hx hb hts hi_X0 hown hK hX (by decide) sh_X0_2 rfl (by decide) (hts (.fieldLink RX0 16 "SeenAgain$Acts" "seconds" "[I") (by decide +kernel)) (fun _ h9 => h9) dX0_undoLatest_87 ?_
      refine lv_aload_n hx hb dX0_undoLatest_90 rfl (lv_at hl 1 rfl) ?_
      refine wx_geti (C := RX0) (T := TX0) (N := 7) (ci := 0) (j := 5) hx hb hts hi_X0 hown hK hX (by decide) sh_X0_5 rfl (by decide) (hts (.fieldLink RX0 29 "SeenAgain$Acts" "next" "I") (by decide +kernel)) (fun _ h9 => h9) dX0_undoLatest_91 ?_
      refine wx_iald hx hb hK hX (by decide) sa_52 (wb_in (show wx_b (g_23 49 5) 23 23 by rw [show (g_23 49 5) = (g_21 49 5) from (by rw [eg_23, up2_sn (by decide)])]; exact (show wx_b (g_21 49 5) 23 23 by rw [show (g_21 49 5) = 23 from (by rw [eg_21, up2_ss])]; exact (show wx_b 23 23 23 from ⟨by decide, by decide⟩))) (by decide) (by decide)) dX0_undoLatest_94 ?_
      refine lv_iload_n hx hb dX0_undoLatest_95 rfl (lv_at hl 0 rfl) ?_
      refine lv_aload_n hx hb dX0_undoLatest_96 rfl (lv_at hl 1 rfl) ?_
      refine wx_getr (t := 54) (C := RX0) (T := TX0) (N := 7) (ci := 0) (j := 4) hx hb hts hi_X0 hown hK hX (by decide) sh_X0_4 rfl (by decide) (hts (.fieldLink RX0 22 "SeenAgain$Acts" "coins" "[I") (by decide +kernel)) (fun _ h9 => h9) dX0_undoLatest_97 ?_
      refine lv_aload_n hx hb dX0_undoLatest_100 rfl (lv_at hl 1 rfl) ?_
      refine wx_geti (C := RX0) (T := TX0) (N := 7) (ci := 0) (j := 5) hx hb hts hi_X0 hown hK hX (by decide) sh_X0_5 rfl (by decide) (hts (.fieldLink RX0 29 "SeenAgain$Acts" "next" "I") (by decide +kernel)) (fun _ h9 => h9) dX0_undoLatest_101 ?_
      refine wx_iald hx hb hK hX (by decide) sa_54 (wb_in (show wx_b (g_23 49 5) 23 23 by rw [show (g_23 49 5) = (g_21 49 5) from (by rw [eg_23, up2_sn (by decide)])]; exact (show wx_b (g_21 49 5) 23 23 by rw [show (g_21 49 5) = 23 from (by rw [eg_21, up2_ss])]; exact (show wx_b 23 23 23 from ⟨by decide, by decide⟩))) (by decide) (by decide)) dX0_undoLatest_104 ?_
      refine wx_callev (va_runV (As := [.int (g_23 51 (g_23 49 5).toNatClampNeg), .int (g_23 52 (g_23 49 5).toNatClampNeg), .int x_24, .int (g_23 54 (g_23 49 5).toNatClampNeg)]) (rest := []) ⟨hx, hb, hml, hown, hts⟩ (k_X3_leaveSeat l g_23 ho (g_23 51 (g_23 49 5).toNatClampNeg) (g_23 52 (g_23 49 5).toNatClampNeg) x_24 (g_23 54 (g_23 49 5).toNatClampNeg) hho (show wx_b (g_23 51 (g_23 49 5).toNatClampNeg) 0 3 by rw [show (g_23 51 (g_23 49 5).toNatClampNeg) = (g_21 51 (g_23 49 5).toNatClampNeg) from (by rw [eg_23, up2_n (by decide)])]; exact (show wx_b (g_21 51 (g_23 49 5).toNatClampNeg) 0 3 by rw [show (g_21 51 (g_23 49 5).toNatClampNeg) = (g 51 (g_23 49 5).toNatClampNeg) from (by rw [eg_21, up2_n (by decide)])]; exact ((hu _ (wb_cl (n := 23) (show wx_b (g_23 49 5) 23 23 by rw [show (g_23 49 5) = (g_21 49 5) from (by rw [eg_23, up2_sn (by decide)])]; exact (show wx_b (g_21 49 5) 23 23 by rw [show (g_21 49 5) = 23 from (by rw [eg_21, up2_ss])]; exact (show wx_b 23 23 23 from ⟨by decide, by decide⟩))) (by decide))).2.2.2 (Or.inl (by have h9 := ex_25; rw [c_26, show (g_23 50 (g_23 49 5).toNatClampNeg) = (g 50 (g_23 49 5).toNatClampNeg) from ((show (g_23 50 (g_23 49 5).toNatClampNeg) = (g_21 50 (g_23 49 5).toNatClampNeg) from (by rw [eg_23, up2_n (by decide)])).trans (show (g_21 50 (g_23 49 5).toNatClampNeg) = (g 50 (g_23 49 5).toNatClampNeg) from (by rw [eg_21, up2_n (by decide)])))] at h9; exact h9.symm))))) (show wx_b (g_23 52 (g_23 49 5).toNatClampNeg) 0 5 by rw [show (g_23 52 (g_23 49 5).toNatClampNeg) = (g_21 52 (g_23 49 5).toNatClampNeg) from (by rw [eg_23, up2_n (by decide)])]; exact (show wx_b (g_21 52 (g_23 49 5).toNatClampNeg) 0 5 by rw [show (g_21 52 (g_23 49 5).toNatClampNeg) = (g 52 (g_23 49 5).toNatClampNeg) from (by rw [eg_21, up2_n (by decide)])]; exact (hu _ (wb_cl (n := 23) (show wx_b (g_23 49 5) 23 23 by rw [show (g_23 49 5) = (g_21 49 5) from (by rw [eg_23, up2_sn (by decide)])]; exact (show wx_b (g_21 49 5) 23 23 by rw [show (g_21 49 5) = 23 from (by rw [eg_21, up2_ss])]; exact (show wx_b 23 23 23 from ⟨by decide, by decide⟩))) (by decide))).2.1)) bx_24) (cwV 4 hts gX0_undoLatest_X3_leaveSeat rfl rfl rfl (by decide +kernel) (by rw [hR]; exact ⟨Nat.le_of_ble_eq_true rfl, Nat.le_of_ble_eq_true rfl⟩)) ⟨wx_Pc.blind, wx_recv hK hX hho.l0 (sh_X3 hho) rfl, (wx_Pc.pre hK hX).2⟩ rfl rfl hl.1 rfl (lv_room (Nat.le_of_ble_eq_true rfl)) dX0_undoLatest_105 ⟨Nat.zero_le _, Nat.zero_le _⟩) hS (fun H locs hX hS => ?_)
      obtain ⟨g_28, eg_28, hX⟩ := wx_nm hX
      refine lv_goto (tgt := 186) hx hb dX0_undoLatest_108 (by decide) ?_
      exact hret _ _ _ _ _ dX0_undoLatest_186 hX hS (by subst eg_28 ex_25 ex_24 eg_23 ex_22 eg_21; simp only [e_X0_undoLatest, if_pos c_1, if_pos c_26])
    · by_cases c_29 : x_25 = 1
      · have b_30 : wx_b x_25 1 1 := by rw [c_29]; exact ⟨by decide, by decide⟩
        refine lv_tableIn (tgt := 111) hx hb dX0_undoLatest_51 (by rw [c_29]; decide) (by rw [c_29]; decide) (by rw [c_29]; rfl) (by decide) ?_
        refine lv_aload_n hx hb dX0_undoLatest_111 rfl (lv_at hl 2 rfl) ?_
        refine lv_aload_n hx hb dX0_undoLatest_112 rfl (lv_at hl 1 rfl) ?_
        refine wx_getr (t := 51) (C := RX0) (T := TX0) (N := 7) (ci := 0) (j := 1) hx hb hts hi_X0 hown hK hX (by decide) sh_X0_1 rfl (by decide) (hts (.fieldLink RX0 13 "SeenAgain$Acts" "firsts" "[I") (by decide +kernel)) (fun _ h9 => h9) dX0_undoLatest_113 ?_
        refine lv_aload_n hx hb dX0_undoLatest_116 rfl (lv_at hl 1 rfl) ?_
        refine wx_geti (C := RX0) (T := TX0) (N := 7) (ci := 0) (j := 5) hx hb hts hi_X0 hown hK hX (by decide) sh_X0_5 rfl (by decide) (hts (.fieldLink RX0 29 "SeenAgain$Acts" "next" "I") (by decide +kernel)) (fun _ h9 => h9) dX0_undoLatest_117 ?_
        refine wx_iald hx hb hK hX (by decide) sa_51 (wb_in (show wx_b (g_23 49 5) 23 23 by rw [show (g_23 49 5) = (g_21 49 5) from (by rw [eg_23, up2_sn (by decide)])]; exact (show wx_b (g_21 49 5) 23 23 by rw [show (g_21 49 5) = 23 from (by rw [eg_21, up2_ss])]; exact (show wx_b 23 23 23 from ⟨by decide, by decide⟩))) (by decide) (by decide)) dX0_undoLatest_120 ?_
        refine lv_aload_n hx hb dX0_undoLatest_121 rfl (lv_at hl 1 rfl) ?_
        refine wx_getr (t := 52) (C := RX0) (T := TX0) (N := 7) (ci := 0) (j := 2) hx hb hts hi_X0 hown hK hX (by decide) sh_X0_2 rfl (by decide) (hts (.fieldLink RX0 16 "SeenAgain$Acts" "seconds" "[I") (by decide +kernel)) (fun _ h9 => h9) dX0_undoLatest_122 ?_
        refine lv_aload_n hx hb dX0_undoLatest_125 rfl (lv_at hl 1 rfl) ?_
        refine wx_geti (C := RX0) (T := TX0) (N := 7) (ci := 0) (j := 5) hx hb hts hi_X0 hown hK hX (by decide) sh_X0_5 rfl (by decide) (hts (.fieldLink RX0 29 "SeenAgain$Acts" "next" "I") (by decide +kernel)) (fun _ h9 => h9) dX0_undoLatest_126 ?_
        refine wx_iald hx hb hK hX (by decide) sa_52 (wb_in (show wx_b (g_23 49 5) 23 23 by rw [show (g_23 49 5) = (g_21 49 5) from (by rw [eg_23, up2_sn (by decide)])]; exact (show wx_b (g_21 49 5) 23 23 by rw [show (g_21 49 5) = 23 from (by rw [eg_21, up2_ss])]; exact (show wx_b 23 23 23 from ⟨by decide, by decide⟩))) (by decide) (by decide)) dX0_undoLatest_129 ?_
        refine lv_iload_n hx hb dX0_undoLatest_130 rfl (lv_at hl 0 rfl) ?_
        refine lv_aload_n hx hb dX0_undoLatest_131 rfl (lv_at hl 1 rfl) ?_
        refine wx_getr (t := 54) (C := RX0) (T := TX0) (N := 7) (ci := 0) (j := 4) hx hb hts hi_X0 hown hK hX (by decide) sh_X0_4 rfl (by decide) (hts (.fieldLink RX0 22 "SeenAgain$Acts" "coins" "[I") (by decide +kernel)) (fun _ h9 => h9) dX0_undoLatest_132 ?_
        refine lv_aload_n hx hb dX0_undoLatest_135 rfl (lv_at hl 1 rfl) ?_
        refine wx_geti (C := RX0) (T := TX0) (N := 7) (ci := 0) (j := 5) hx hb hts hi_X0 hown hK hX (by decide) sh_X0_5 rfl (by decide) (hts (.fieldLink RX0 29 "SeenAgain$Acts" "next" "I") (by decide +kernel)) (fun _ h9 => h9) dX0_undoLatest_136 ?_
        refine wx_iald hx hb hK hX (by decide) sa_54 (wb_in (show wx_b (g_23 49 5) 23 23 by rw [show (g_23 49 5) = (g_21 49 5) from (by rw [eg_23, up2_sn (by decide)])]; exact (show wx_b (g_21 49 5) 23 23 by rw [show (g_21 49 5) = 23 from (by rw [eg_21, up2_ss])]; exact (show wx_b 23 23 23 from ⟨by decide, by decide⟩))) (by decide) (by decide)) dX0_undoLatest_139 ?_
        refine wx_callev (va_runV (As := [.int (g_23 51 (g_23 49 5).toNatClampNeg), .int (g_23 52 (g_23 49 5).toNatClampNeg), .int x_24, .int (g_23 54 (g_23 49 5).toNatClampNeg)]) (rest := []) ⟨hx, hb, hml, hown, hts⟩ (k_X3_takeSeat l g_23 ho (g_23 51 (g_23 49 5).toNatClampNeg) (g_23 52 (g_23 49 5).toNatClampNeg) x_24 (g_23 54 (g_23 49 5).toNatClampNeg) hho (show wx_b (g_23 51 (g_23 49 5).toNatClampNeg) 0 3 by rw [show (g_23 51 (g_23 49 5).toNatClampNeg) = (g_21 51 (g_23 49 5).toNatClampNeg) from (by rw [eg_23, up2_n (by decide)])]; exact (show wx_b (g_21 51 (g_23 49 5).toNatClampNeg) 0 3 by rw [show (g_21 51 (g_23 49 5).toNatClampNeg) = (g 51 (g_23 49 5).toNatClampNeg) from (by rw [eg_21, up2_n (by decide)])]; exact ((hu _ (wb_cl (n := 23) (show wx_b (g_23 49 5) 23 23 by rw [show (g_23 49 5) = (g_21 49 5) from (by rw [eg_23, up2_sn (by decide)])]; exact (show wx_b (g_21 49 5) 23 23 by rw [show (g_21 49 5) = 23 from (by rw [eg_21, up2_ss])]; exact (show wx_b 23 23 23 from ⟨by decide, by decide⟩))) (by decide))).2.2.2 (Or.inr (by have h9 := ex_25; rw [c_29, show (g_23 50 (g_23 49 5).toNatClampNeg) = (g 50 (g_23 49 5).toNatClampNeg) from ((show (g_23 50 (g_23 49 5).toNatClampNeg) = (g_21 50 (g_23 49 5).toNatClampNeg) from (by rw [eg_23, up2_n (by decide)])).trans (show (g_21 50 (g_23 49 5).toNatClampNeg) = (g 50 (g_23 49 5).toNatClampNeg) from (by rw [eg_21, up2_n (by decide)])))] at h9; exact h9.symm))))) (show wx_b (g_23 52 (g_23 49 5).toNatClampNeg) 0 5 by rw [show (g_23 52 (g_23 49 5).toNatClampNeg) = (g_21 52 (g_23 49 5).toNatClampNeg) from (by rw [eg_23, up2_n (by decide)])]; exact (show wx_b (g_21 52 (g_23 49 5).toNatClampNeg) 0 5 by rw [show (g_21 52 (g_23 49 5).toNatClampNeg) = (g 52 (g_23 49 5).toNatClampNeg) from (by rw [eg_21, up2_n (by decide)])]; exact (hu _ (wb_cl (n := 23) (show wx_b (g_23 49 5) 23 23 by rw [show (g_23 49 5) = (g_21 49 5) from (by rw [eg_23, up2_sn (by decide)])]; exact (show wx_b (g_21 49 5) 23 23 by rw [show (g_21 49 5) = 23 from (by rw [eg_21, up2_ss])]; exact (show wx_b 23 23 23 from ⟨by decide, by decide⟩))) (by decide))).2.1)) bx_24) (cwV 4 hts gX0_undoLatest_X3_takeSeat rfl rfl rfl (by decide +kernel) (by rw [hR]; exact ⟨Nat.le_of_ble_eq_true rfl, Nat.le_of_ble_eq_true rfl⟩)) ⟨wx_Pc.blind, wx_recv hK hX hho.l0 (sh_X3 hho) rfl, (wx_Pc.pre hK hX).2⟩ rfl rfl hl.1 rfl (lv_room (Nat.le_of_ble_eq_true rfl)) dX0_undoLatest_140 ⟨Nat.zero_le _, Nat.zero_le _⟩) hS (fun H locs hX hS => ?_)
        obtain ⟨g_31, eg_31, hX⟩ := wx_nm hX
        refine lv_goto (tgt := 186) hx hb dX0_undoLatest_143 (by decide) ?_
        exact hret _ _ _ _ _ dX0_undoLatest_186 hX hS (by subst eg_31 ex_25 ex_24 eg_23 ex_22 eg_21; simp only [e_X0_undoLatest, if_pos c_1, if_neg c_26, if_pos c_29])
      · by_cases c_32 : x_25 = 2
        · have b_33 : wx_b x_25 2 2 := by rw [c_32]; exact ⟨by decide, by decide⟩
          refine lv_tableIn (tgt := 146) hx hb dX0_undoLatest_51 (by rw [c_32]; decide) (by rw [c_32]; decide) (by rw [c_32]; rfl) (by decide) ?_
          refine lv_aload_n hx hb dX0_undoLatest_146 rfl (lv_at hl 2 rfl) ?_
          refine lv_aload_n hx hb dX0_undoLatest_147 rfl (lv_at hl 1 rfl) ?_
          refine wx_getr (t := 51) (C := RX0) (T := TX0) (N := 7) (ci := 0) (j := 1) hx hb hts hi_X0 hown hK hX (by decide) sh_X0_1 rfl (by decide) (hts (.fieldLink RX0 13 "SeenAgain$Acts" "firsts" "[I") (by decide +kernel)) (fun _ h9 => h9) dX0_undoLatest_148 ?_
          refine lv_aload_n hx hb dX0_undoLatest_151 rfl (lv_at hl 1 rfl) ?_
          refine wx_geti (C := RX0) (T := TX0) (N := 7) (ci := 0) (j := 5) hx hb hts hi_X0 hown hK hX (by decide) sh_X0_5 rfl (by decide) (hts (.fieldLink RX0 29 "SeenAgain$Acts" "next" "I") (by decide +kernel)) (fun _ h9 => h9) dX0_undoLatest_152 ?_
          refine wx_iald hx hb hK hX (by decide) sa_51 (wb_in (show wx_b (g_23 49 5) 23 23 by rw [show (g_23 49 5) = (g_21 49 5) from (by rw [eg_23, up2_sn (by decide)])]; exact (show wx_b (g_21 49 5) 23 23 by rw [show (g_21 49 5) = 23 from (by rw [eg_21, up2_ss])]; exact (show wx_b 23 23 23 from ⟨by decide, by decide⟩))) (by decide) (by decide)) dX0_undoLatest_155 ?_
          refine lv_aload_n hx hb dX0_undoLatest_156 rfl (lv_at hl 1 rfl) ?_
          refine wx_getr (t := 52) (C := RX0) (T := TX0) (N := 7) (ci := 0) (j := 2) hx hb hts hi_X0 hown hK hX (by decide) sh_X0_2 rfl (by decide) (hts (.fieldLink RX0 16 "SeenAgain$Acts" "seconds" "[I") (by decide +kernel)) (fun _ h9 => h9) dX0_undoLatest_157 ?_
          refine lv_aload_n hx hb dX0_undoLatest_160 rfl (lv_at hl 1 rfl) ?_
          refine wx_geti (C := RX0) (T := TX0) (N := 7) (ci := 0) (j := 5) hx hb hts hi_X0 hown hK hX (by decide) sh_X0_5 rfl (by decide) (hts (.fieldLink RX0 29 "SeenAgain$Acts" "next" "I") (by decide +kernel)) (fun _ h9 => h9) dX0_undoLatest_161 ?_
          refine wx_iald hx hb hK hX (by decide) sa_52 (wb_in (show wx_b (g_23 49 5) 23 23 by rw [show (g_23 49 5) = (g_21 49 5) from (by rw [eg_23, up2_sn (by decide)])]; exact (show wx_b (g_21 49 5) 23 23 by rw [show (g_21 49 5) = 23 from (by rw [eg_21, up2_ss])]; exact (show wx_b 23 23 23 from ⟨by decide, by decide⟩))) (by decide) (by decide)) dX0_undoLatest_164 ?_
          refine lv_iload_n hx hb dX0_undoLatest_165 rfl (lv_at hl 0 rfl) ?_
          refine wx_callev (va_runV (As := [.int (g_23 51 (g_23 49 5).toNatClampNeg), .int (g_23 52 (g_23 49 5).toNatClampNeg), .int x_24]) (rest := []) ⟨hx, hb, hml, hown, hts⟩ (k_X3_openCurtain l g_23 ho (g_23 51 (g_23 49 5).toNatClampNeg) (g_23 52 (g_23 49 5).toNatClampNeg) x_24 hho (show wx_b (g_23 51 (g_23 49 5).toNatClampNeg) 0 5 by rw [show (g_23 51 (g_23 49 5).toNatClampNeg) = (g_21 51 (g_23 49 5).toNatClampNeg) from (by rw [eg_23, up2_n (by decide)])]; exact (show wx_b (g_21 51 (g_23 49 5).toNatClampNeg) 0 5 by rw [show (g_21 51 (g_23 49 5).toNatClampNeg) = (g 51 (g_23 49 5).toNatClampNeg) from (by rw [eg_21, up2_n (by decide)])]; exact (hu _ (wb_cl (n := 23) (show wx_b (g_23 49 5) 23 23 by rw [show (g_23 49 5) = (g_21 49 5) from (by rw [eg_23, up2_sn (by decide)])]; exact (show wx_b (g_21 49 5) 23 23 by rw [show (g_21 49 5) = 23 from (by rw [eg_21, up2_ss])]; exact (show wx_b 23 23 23 from ⟨by decide, by decide⟩))) (by decide))).1)) (show wx_b (g_23 52 (g_23 49 5).toNatClampNeg) 0 5 by rw [show (g_23 52 (g_23 49 5).toNatClampNeg) = (g_21 52 (g_23 49 5).toNatClampNeg) from (by rw [eg_23, up2_n (by decide)])]; exact (show wx_b (g_21 52 (g_23 49 5).toNatClampNeg) 0 5 by rw [show (g_21 52 (g_23 49 5).toNatClampNeg) = (g 52 (g_23 49 5).toNatClampNeg) from (by rw [eg_21, up2_n (by decide)])]; exact (hu _ (wb_cl (n := 23) (show wx_b (g_23 49 5) 23 23 by rw [show (g_23 49 5) = (g_21 49 5) from (by rw [eg_23, up2_sn (by decide)])]; exact (show wx_b (g_21 49 5) 23 23 by rw [show (g_21 49 5) = 23 from (by rw [eg_21, up2_ss])]; exact (show wx_b 23 23 23 from ⟨by decide, by decide⟩))) (by decide))).2.1)) bx_24) (cwV 3 hts gX0_undoLatest_X3_openCurtain rfl rfl rfl (by decide +kernel) (by rw [hR]; exact ⟨Nat.le_of_ble_eq_true rfl, Nat.le_of_ble_eq_true rfl⟩)) ⟨wx_Pc.blind, wx_recv hK hX hho.l0 (sh_X3 hho) rfl, (wx_Pc.pre hK hX).2⟩ rfl rfl hl.1 rfl (lv_room (Nat.le_of_ble_eq_true rfl)) dX0_undoLatest_166 ⟨Nat.zero_le _, Nat.zero_le _⟩) hS (fun H locs hX hS => ?_)
          obtain ⟨g_34, eg_34, hX⟩ := wx_nm hX
          refine lv_goto (tgt := 186) hx hb dX0_undoLatest_169 (by decide) ?_
          exact hret _ _ _ _ _ dX0_undoLatest_186 hX hS (by subst eg_34 ex_25 ex_24 eg_23 ex_22 eg_21; simp only [e_X0_undoLatest, if_pos c_1, if_neg c_26, if_neg c_29, if_pos c_32])
        · refine lv_tableOut (tgt := 172) hx hb dX0_undoLatest_51 (by have q0 := lv_neT (a := 0) c_26 (by decide); have q1 := lv_neT (a := 1) c_29 (by decide); have q2 := lv_neT (a := 2) c_32 (by decide); omega) (by decide) ?_
          refine lv_aload_n hx hb dX0_undoLatest_172 rfl (lv_at hl 2 rfl) ?_
          refine lv_dup hx hb dX0_undoLatest_173 rfl ?_
          refine wx_geti (C := RX3) (T := TX3) (N := 15) (ci := 3) (j := 8) hx hb hts hi_X3 hown hK hX hho.l0 (sh_X3_8 hho) rfl (by decide) (hts (.fieldLink RX0 51 "SeenAgain$House" "written" "I") (by decide +kernel)) (fun _ h9 => h9) dX0_undoLatest_174 ?_
          refine lv_iconst (v := 1) hx hb dX0_undoLatest_177 (by decide) ?_
          refine lv_iload_n hx hb dX0_undoLatest_178 rfl (lv_at hl 0 rfl) ?_
          refine lv_ishl hx hb dX0_undoLatest_179 ?_
          refine lv_iconst (v := (-1)) hx hb dX0_undoLatest_180 (by decide) ?_
          refine lv_ixor hx hb dX0_undoLatest_181 ?_
          refine lv_iand hx hb dX0_undoLatest_182 ?_
          refine lv_topi (fun x_35 ex_35 => ?_)
          refine wx_puti (C := RX3) (T := TX3) (N := 15) (ci := 3) (j := 8) (ty := .int) hx hb hts hi_X3 tyX3 tyX3_ok nmX3 hown hK hX hS hho.l0 (sh_X3_8 hho) rfl (by decide) (hts (.fieldLink RX0 51 "SeenAgain$House" "written" "I") (by decide +kernel)) (fun _ h9 => h9) rfl (by decide +kernel) rfl rfl dX0_undoLatest_183 (fun H locs hX hS => ?_)
          obtain ⟨g_36, eg_36, hX⟩ := wx_nm hX
          exact hret _ _ _ _ _ dX0_undoLatest_186 hX hS (by subst eg_36 ex_35 ex_25 ex_24 eg_23 ex_22 eg_21; simp only [e_X0_undoLatest, if_pos c_1, if_neg c_26, if_neg c_29, if_neg c_32])
def f_X11_undo (g : wx_M) : wx_M × Int32 :=
  if (g 49 6) = 0 then
    (g, (-1000002))
  else
    let g_2 := e_X0_undoLatest g 20
    let x_3 := (g_2 49 6)
    (g_2, x_3)
set_option maxHeartbeats 4000000 in
set_option maxRecDepth 100000 in
theorem k_X11_undo (l : Launch) {D : va_G} {cy : Nat → ClassId} {ad : Nat → Nat} {B0 : Nat} {f : wx_F} {P : va_W} (g : wx_M) (hn : wx_b (g 49 5) 0 23) (hu : wx_AI g) : Met l yX11_undo wsX11_undo ({ frames := 3, cells := 0, slots := 0, locals := 67 } : Room) (wx_Pc D cy ad B0 f P g [.ref (ad 0)]) (wx_Qe D cy ad B0 f P (f_X11_undo g).1 (some (.int (f_X11_undo g).2))) 0 0 (fun q => B0 ≤ q) := by
  refine wx_enterE (cc := cX11_undo) (maxL := 1) (ty := .int) (own := RX11) (lv := [(0, .ref (ad 0))]) (by decide) rfl rfl (Nat.le_of_ble_eq_true rfl) rfl ?_
  intro p e R s m args below meth c ls Qm hx hb hml hown hts hK hX hS hR hret hl
  have hi_X11 : ∀ w ∈ wsX110, w ∈ wsX11_undo := by decide +kernel
  have hi_X0 : ∀ w ∈ wsX00, w ∈ wsX11_undo := by decide +kernel
  refine lv_aload_n hx hb dX11_undo_0 rfl (lv_at hl 0 rfl) ?_
  refine wx_getr (t := 49) (C := RX11) (T := TX11) (N := 8) (ci := 10) (j := 5) hx hb hts hi_X11 hown hK hX (by decide) sh_X11_5 rfl (by decide) (hts (.fieldLink RX11 39 "SeenAgain" "acts" "LSeenAgain$Acts;") (by decide +kernel)) (fun _ h9 => h9) dX11_undo_1 ?_
  refine wx_geti (C := RX0) (T := TX0) (N := 7) (ci := 0) (j := 6) hx hb hts hi_X0 hown hK hX (by decide) sh_X0_6 rfl (by decide) (hts (.fieldLink RX11 123 "SeenAgain$Acts" "kept" "I") (by decide +kernel)) (fun _ h9 => h9) dX11_undo_4 ?_
  refine lv_if_ne (tgt := 13) hx hb dX11_undo_7 (by decide) (fun c_1 => ?_) (fun c_1 => ?_)
  · refine lv_aload_n hx hb dX11_undo_13 rfl (lv_at hl 0 rfl) ?_
    refine wx_getr (t := 49) (C := RX11) (T := TX11) (N := 8) (ci := 10) (j := 5) hx hb hts hi_X11 hown hK hX (by decide) sh_X11_5 rfl (by decide) (hts (.fieldLink RX11 39 "SeenAgain" "acts" "LSeenAgain$Acts;") (by decide +kernel)) (fun _ h9 => h9) dX11_undo_14 ?_
    refine lv_aload_n hx hb dX11_undo_17 rfl (lv_at hl 0 rfl) ?_
    refine wx_getr (t := 20) (C := RX11) (T := TX11) (N := 8) (ci := 10) (j := 2) hx hb hts hi_X11 hown hK hX (by decide) sh_X11_2 rfl (by decide) (hts (.fieldLink RX11 25 "SeenAgain" "house" "LSeenAgain$House;") (by decide +kernel)) (fun _ h9 => h9) dX11_undo_18 ?_
    refine wx_callev (va_runV (As := [.ref (ad 20)]) (rest := []) ⟨hx, hb, hml, hown, hts⟩ (k_X0_undoLatest l g 20 (show wx_H 20 from Or.inl rfl) hn hu) (cwV 1 hts gX11_undo_X0_undoLatest rfl rfl rfl (by decide +kernel) (by rw [hR]; exact ⟨Nat.le_of_ble_eq_true rfl, Nat.le_of_ble_eq_true rfl⟩)) ⟨wx_Pc.blind, wx_recv hK hX (by decide) sh_X0 rfl, (wx_Pc.pre hK hX).2⟩ rfl rfl hl.1 rfl (lv_room (Nat.le_of_ble_eq_true rfl)) dX11_undo_21 ⟨Nat.zero_le _, Nat.zero_le _⟩) hS (fun H locs hX hS => ?_)
    obtain ⟨g_2, eg_2, hX⟩ := wx_nm hX
    refine lv_aload_n hx hb dX11_undo_24 rfl (lv_at hl 0 rfl) ?_
    refine wx_getr (t := 49) (C := RX11) (T := TX11) (N := 8) (ci := 10) (j := 5) hx hb hts hi_X11 hown hK hX (by decide) sh_X11_5 rfl (by decide) (hts (.fieldLink RX11 39 "SeenAgain" "acts" "LSeenAgain$Acts;") (by decide +kernel)) (fun _ h9 => h9) dX11_undo_25 ?_
    refine wx_geti (C := RX0) (T := TX0) (N := 7) (ci := 0) (j := 6) hx hb hts hi_X0 hown hK hX (by decide) sh_X0_6 rfl (by decide) (hts (.fieldLink RX11 123 "SeenAgain$Acts" "kept" "I") (by decide +kernel)) (fun _ h9 => h9) dX11_undo_28 ?_
    refine lv_topi (fun x_3 ex_3 => ?_)
    exact hret _ _ _ _ _ _ dX11_undo_31 rfl hX hS (by subst ex_3 eg_2; simp only [f_X11_undo, if_neg c_1])
  · have b_4 : wx_b (g 49 6) 0 0 := by rw [c_1]; exact ⟨by decide, by decide⟩
    refine lv_ldc hx hb hown (hts (.constant RX11 126 (-1000002)) (by decide +kernel)) dX11_undo_10 ?_
    exact hret _ _ _ _ _ _ dX11_undo_12 rfl hX hS (by simp only [f_X11_undo, if_pos c_1])
def r_X11_kind (g : wx_M) (a1 : Int32) : Int32 :=
  if (r_X3_isVisitor g 20 a1) = 0 then
    (-1000001)
  else
    if (g 26 a1.toNatClampNeg) = 1 then
      r_X7_kindNumber
    else
      if (g 26 a1.toNatClampNeg) = 2 then
        r_X4_kindNumber
      else
        if (g 26 a1.toNatClampNeg) = 3 then
          r_X1_kindNumber
        else
          if (g 26 a1.toNatClampNeg) = 4 then
            r_X10_kindNumber
          else
            r_X2_kindNumber
set_option maxHeartbeats 4000000 in
set_option maxRecDepth 100000 in
theorem k_X11_kind (l : Launch) {D : va_G} {cy : Nat → ClassId} {ad : Nat → Nat} {B0 : Nat} {f : wx_F} {P : va_W} (g : wx_M) (a1 : Int32) (hg : wx_HB g 20) : Met l yX11_kind wsX11_kind ({ frames := 1, cells := 0, slots := 0, locals := 21 } : Room) (wx_Pc D cy ad B0 f P g [.ref (ad 0), .int a1]) (QcRead (r_X11_kind g a1)) 0 0 (fun _ => False) := by
  refine wx_enterR (cc := cX11_kind) (maxL := 2) (ty := .int) (own := RX11) (lv := [(0, .ref (ad 0)), (1, .int a1)]) (by decide) rfl rfl (Nat.le_of_ble_eq_true rfl) rfl ?_
  intro p e R s m args below meth c ls Qm hx hb hml hown hts hK hX hR hret hl
  have hi_X11 : ∀ w ∈ wsX110, w ∈ wsX11_kind := by decide +kernel
  have hi_X3 : ∀ w ∈ wsX30, w ∈ wsX11_kind := by decide +kernel
  refine lv_aload_n hx hb dX11_kind_0 rfl (lv_at hl 0 rfl) ?_
  refine wx_getr (t := 20) (C := RX11) (T := TX11) (N := 8) (ci := 10) (j := 2) hx hb hts hi_X11 hown hK hX (by decide) sh_X11_2 rfl (by decide) (hts (.fieldLink RX11 25 "SeenAgain" "house" "LSeenAgain$House;") (by decide +kernel)) (fun _ h9 => h9) dX11_kind_1 ?_
  refine lv_iload_n hx hb dX11_kind_4 rfl (lv_at hl 1 rfl) ?_
  refine wx_callr (va_runV (As := [.int a1]) (rest := []) ⟨hx, hb, hml, hown, hts⟩ (k_X3_isVisitor l g 20 a1 (show wx_H 20 from Or.inl rfl)) (cwV 1 hts gX11_kind_X3_isVisitor rfl rfl rfl (by decide +kernel) (by rw [hR]; exact ⟨Nat.le_of_ble_eq_true rfl, Nat.le_of_ble_eq_true rfl⟩)) ⟨wx_Pc.blind, wx_recv hK hX (by decide) (sh_X3 (show wx_H 20 from Or.inl rfl)) rfl, (wx_Pc.pre hK hX).2⟩ rfl rfl hl.1 rfl (lv_room (Nat.le_of_ble_eq_true rfl)) dX11_kind_5 ⟨Nat.zero_le _, Nat.zero_le _⟩) ?_
  refine lv_if_eq (tgt := 26) hx hb dX11_kind_8 (by decide) (fun c_1 => ?_) (fun c_1 => ?_)
  · have b_2 : wx_b (r_X3_isVisitor g 20 a1) 0 0 := by rw [c_1]; exact ⟨by decide, by decide⟩
    refine lv_ldc hx hb hown (hts (.constant RX11 55 (-1000001)) (by decide +kernel)) dX11_kind_26 ?_
    exact hret _ _ _ dX11_kind_28 rfl (by simp only [r_X11_kind, if_pos c_1])
  · have b_3 : wx_b a1 0 3 := rf_X3_isVisitor hg c_1
    refine lv_aload_n hx hb dX11_kind_11 rfl (lv_at hl 0 rfl) ?_
    refine wx_getr (t := 20) (C := RX11) (T := TX11) (N := 8) (ci := 10) (j := 2) hx hb hts hi_X11 hown hK hX (by decide) sh_X11_2 rfl (by decide) (hts (.fieldLink RX11 25 "SeenAgain" "house" "LSeenAgain$House;") (by decide +kernel)) (fun _ h9 => h9) dX11_kind_12 ?_
    refine wx_getr (t := 26) (C := RX3) (T := TX3) (N := 15) (ci := 3) (j := 14) hx hb hts hi_X3 hown hK hX (by decide) (sh_X3_14 (show wx_H 20 from Or.inl rfl)) rfl (by decide) (hts (.fieldLink RX11 274 "SeenAgain$House" "guests" "[LSeenAgain$Visitor;") (by decide +kernel)) (fun _ h9 => h9) dX11_kind_15 ?_
    refine lv_iload_n hx hb dX11_kind_18 rfl (lv_at hl 1 rfl) ?_
    refine wx_gald hx hb hK hX (h := 20) (show wx_H 20 from Or.inl rfl).l6 (show wx_H 20 from Or.inl rfl) (wb_in b_3 (by decide) (by decide)) dX11_kind_19 (fun q_4 ci_q_4 pi_q_4 hp_q_4 hv_q_4 => ?_)
    have hk_5 := hv_q_4
    rcases hk_5 with ⟨hkd, rfl⟩ | ⟨hkd, rfl⟩ | ⟨hkd, rfl⟩ | ⟨hkd, rfl⟩ | ⟨hkd, rfl⟩
    · have c_6 : (g 26 a1.toNatClampNeg) = 1 := hkd
      refine wx_callr (va_runU (As := []) (rest := []) ⟨hx, hb, hml, hown, hts⟩ (k_X7_kindNumber l g (g 26 a1.toNatClampNeg) a1 hp_q_4 hv_q_4) (va_cwA 0 hts gX11_kind_X7_kindNumber_u278X7 rfl rfl rfl hK.2.2.2.2 (by decide +kernel) (by rw [hR]; exact ⟨Nat.le_of_ble_eq_true rfl, Nat.le_of_ble_eq_true rfl⟩)) ⟨wx_Pc.blind, wx_recvP hK hX hp_q_4 (show vwCl[7]? = some (RX7, TX7, 1) from rfl), (wx_Pc.pre hK hX).2⟩ rfl rfl hl.1 rfl (lv_room (Nat.le_of_ble_eq_true rfl)) dX11_kind_20 ⟨Nat.zero_le _, Nat.zero_le _⟩) ?_
      refine lv_goto (tgt := 28) hx hb dX11_kind_23 (by decide) ?_
      exact hret _ _ _ dX11_kind_28 rfl (by simp only [r_X11_kind, if_neg c_1, if_pos c_6])
    · have c_7 : ¬ (g 26 a1.toNatClampNeg) = 1 := by rw [hkd]; decide
      have c_8 : (g 26 a1.toNatClampNeg) = 2 := hkd
      refine wx_callr (va_runU (As := []) (rest := []) ⟨hx, hb, hml, hown, hts⟩ (k_X4_kindNumber l g (g 26 a1.toNatClampNeg) a1 hp_q_4 hv_q_4) (va_cwA 0 hts gX11_kind_X4_kindNumber_u278X4 rfl rfl rfl hK.2.2.2.2 (by decide +kernel) (by rw [hR]; exact ⟨Nat.le_of_ble_eq_true rfl, Nat.le_of_ble_eq_true rfl⟩)) ⟨wx_Pc.blind, wx_recvP hK hX hp_q_4 (show vwCl[4]? = some (RX4, TX4, 1) from rfl), (wx_Pc.pre hK hX).2⟩ rfl rfl hl.1 rfl (lv_room (Nat.le_of_ble_eq_true rfl)) dX11_kind_20 ⟨Nat.zero_le _, Nat.zero_le _⟩) ?_
      refine lv_goto (tgt := 28) hx hb dX11_kind_23 (by decide) ?_
      exact hret _ _ _ dX11_kind_28 rfl (by simp only [r_X11_kind, if_neg c_1, if_neg c_7, if_pos c_8])
    · have c_9 : ¬ (g 26 a1.toNatClampNeg) = 1 := by rw [hkd]; decide
      have c_10 : ¬ (g 26 a1.toNatClampNeg) = 2 := by rw [hkd]; decide
      have c_11 : (g 26 a1.toNatClampNeg) = 3 := hkd
      refine wx_callr (va_runU (As := []) (rest := []) ⟨hx, hb, hml, hown, hts⟩ (k_X1_kindNumber l g (g 26 a1.toNatClampNeg) a1 hp_q_4 hv_q_4) (va_cwA 0 hts gX11_kind_X1_kindNumber_u278X1 rfl rfl rfl hK.2.2.2.2 (by decide +kernel) (by rw [hR]; exact ⟨Nat.le_of_ble_eq_true rfl, Nat.le_of_ble_eq_true rfl⟩)) ⟨wx_Pc.blind, wx_recvP hK hX hp_q_4 (show vwCl[1]? = some (RX1, TX1, 1) from rfl), (wx_Pc.pre hK hX).2⟩ rfl rfl hl.1 rfl (lv_room (Nat.le_of_ble_eq_true rfl)) dX11_kind_20 ⟨Nat.zero_le _, Nat.zero_le _⟩) ?_
      refine lv_goto (tgt := 28) hx hb dX11_kind_23 (by decide) ?_
      exact hret _ _ _ dX11_kind_28 rfl (by simp only [r_X11_kind, if_neg c_1, if_neg c_9, if_neg c_10, if_pos c_11])
    · have c_12 : ¬ (g 26 a1.toNatClampNeg) = 1 := by rw [hkd]; decide
      have c_13 : ¬ (g 26 a1.toNatClampNeg) = 2 := by rw [hkd]; decide
      have c_14 : ¬ (g 26 a1.toNatClampNeg) = 3 := by rw [hkd]; decide
      have c_15 : (g 26 a1.toNatClampNeg) = 4 := hkd
      refine wx_callr (va_runU (As := []) (rest := []) ⟨hx, hb, hml, hown, hts⟩ (k_X10_kindNumber l g (g 26 a1.toNatClampNeg) a1 hp_q_4 hv_q_4) (va_cwA 0 hts gX11_kind_X10_kindNumber_u278X10 rfl rfl rfl hK.2.2.2.2 (by decide +kernel) (by rw [hR]; exact ⟨Nat.le_of_ble_eq_true rfl, Nat.le_of_ble_eq_true rfl⟩)) ⟨wx_Pc.blind, wx_recvP hK hX hp_q_4 (show vwCl[9]? = some (RX10, TX10, 1) from rfl), (wx_Pc.pre hK hX).2⟩ rfl rfl hl.1 rfl (lv_room (Nat.le_of_ble_eq_true rfl)) dX11_kind_20 ⟨Nat.zero_le _, Nat.zero_le _⟩) ?_
      refine lv_goto (tgt := 28) hx hb dX11_kind_23 (by decide) ?_
      exact hret _ _ _ dX11_kind_28 rfl (by simp only [r_X11_kind, if_neg c_1, if_neg c_12, if_neg c_13, if_neg c_14, if_pos c_15])
    · have c_16 : ¬ (g 26 a1.toNatClampNeg) = 1 := by rw [hkd]; decide
      have c_17 : ¬ (g 26 a1.toNatClampNeg) = 2 := by rw [hkd]; decide
      have c_18 : ¬ (g 26 a1.toNatClampNeg) = 3 := by rw [hkd]; decide
      have c_19 : ¬ (g 26 a1.toNatClampNeg) = 4 := by rw [hkd]; decide
      refine wx_callr (va_runU (As := []) (rest := []) ⟨hx, hb, hml, hown, hts⟩ (k_X2_kindNumber l g (g 26 a1.toNatClampNeg) a1 hp_q_4 hv_q_4) (va_cwA 0 hts gX11_kind_X2_kindNumber_u278X2 rfl rfl rfl hK.2.2.2.2 (by decide +kernel) (by rw [hR]; exact ⟨Nat.le_of_ble_eq_true rfl, Nat.le_of_ble_eq_true rfl⟩)) ⟨wx_Pc.blind, wx_recvP hK hX hp_q_4 (show vwCl[2]? = some (RX2, TX2, 1) from rfl), (wx_Pc.pre hK hX).2⟩ rfl rfl hl.1 rfl (lv_room (Nat.le_of_ble_eq_true rfl)) dX11_kind_20 ⟨Nat.zero_le _, Nat.zero_le _⟩) ?_
      refine lv_goto (tgt := 28) hx hb dX11_kind_23 (by decide) ?_
      exact hret _ _ _ dX11_kind_28 rfl (by simp only [r_X11_kind, if_neg c_1, if_neg c_16, if_neg c_17, if_neg c_18, if_neg c_19])
def r_X11_isOfKind (kd : Int32) (a2 : Int32) : Int32 :=
  if a2 = 0 then
    1
  else
    if a2 = 1 then
      if kd = 1 then
        1
      else
        if kd = 2 then
          1
        else
          if kd = 3 then
            1
          else
            if kd = 4 then
              0
            else
              0
    else
      if a2 = 2 then
        if kd = 1 then
          0
        else
          if kd = 2 then
            1
          else
            if kd = 3 then
              0
            else
              if kd = 4 then
                0
              else
                0
      else
        if a2 = 3 then
          if kd = 1 then
            0
          else
            if kd = 2 then
              0
            else
              if kd = 3 then
                1
              else
                if kd = 4 then
                  0
                else
                  0
        else
          if a2 = 4 then
            if kd = 1 then
              0
            else
              if kd = 2 then
                0
              else
                if kd = 3 then
                  0
                else
                  if kd = 4 then
                    1
                  else
                    1
          else
            if a2 = 5 then
              if kd = 1 then
                0
              else
                if kd = 2 then
                  0
                else
                  if kd = 3 then
                    0
                  else
                    if kd = 4 then
                      0
                    else
                      1
            else
              0
set_option maxHeartbeats 4000000 in
set_option maxRecDepth 100000 in
theorem k_X11_isOfKind (l : Launch) {D : va_G} {cy : Nat → ClassId} {ad : Nat → Nat} {B0 : Nat} {f : wx_F} {P : va_W} {q : Nat} {pi : Nat} {ci : Nat} (g : wx_M) (kd : Int32) (n : Int32) (a2 : Int32) (hp : P[pi]? = some (q, (Sum.inr (ci, [Value.int n]) : va_E))) (hv : wx_v kd ci) : Met l yX11_isOfKind wsX11_isOfKind ({ frames := 0, cells := 0, slots := 0, locals := 0 } : Room) (wx_Pc D cy ad B0 f P g [.ref q, .int a2]) (QcRead (r_X11_isOfKind kd a2)) 0 0 (fun _ => False) := by
  refine wx_enterR (cc := cX11_isOfKind) (maxL := 2) (ty := .boolean) (own := RX11) (lv := [(0, .ref q), (1, .int a2)]) (by decide) rfl rfl (Nat.le_of_ble_eq_true rfl) rfl ?_
  intro p e R s m args below meth c ls Qm hx hb hml hown hts hK hX hR hret hl
  refine lv_iload_n hx hb dX11_isOfKind_0 rfl (lv_at hl 1 rfl) ?_
  by_cases c_1 : a2 = 0
  · have b_2 : wx_b a2 0 0 := by rw [c_1]; exact ⟨by decide, by decide⟩
    refine lv_tableIn (tgt := 40) hx hb dX11_isOfKind_1 (by rw [c_1]; decide) (by rw [c_1]; decide) (by rw [c_1]; rfl) (by decide) ?_
    refine lv_iconst (v := 1) hx hb dX11_isOfKind_40 (by decide) ?_
    exact hret _ _ _ dX11_isOfKind_41 rfl (by simp only [r_X11_isOfKind, if_pos c_1])
  · by_cases c_3 : a2 = 1
    · have b_4 : wx_b a2 1 1 := by rw [c_3]; exact ⟨by decide, by decide⟩
      refine lv_tableIn (tgt := 42) hx hb dX11_isOfKind_1 (by rw [c_3]; decide) (by rw [c_3]; decide) (by rw [c_3]; rfl) (by decide) ?_
      refine lv_aload_n hx hb dX11_isOfKind_42 rfl (lv_at hl 0 rfl) ?_
      have hk_5 := hv
      rcases hk_5 with ⟨hkd, rfl⟩ | ⟨hkd, rfl⟩ | ⟨hkd, rfl⟩ | ⟨hkd, rfl⟩ | ⟨hkd, rfl⟩
      · have c_6 : kd = 1 := hkd
        refine wx_inS (C := RX7) hx hb hown (hts (.classLink RX11 316 "SeenAgain$Tourist") (by decide +kernel)) hK hX hp (show vwCl[7]? = some (RX7, TX7, 1) from rfl) dX11_isOfKind_43 ?_
        exact hret _ _ _ dX11_isOfKind_46 rfl (by simp only [r_X11_isOfKind, if_neg c_1, if_pos c_3, if_pos c_6])
      · have c_7 : ¬ kd = 1 := by rw [hkd]; decide
        have c_8 : kd = 2 := hkd
        refine wx_inY (C := RX4) (nm := "SeenAgain$Tourist") hx hb hown (hts (.classLink RX11 316 "SeenAgain$Tourist") (by decide +kernel)) hK hX hp (show vwCl[4]? = some (RX4, TX4, 1) from rfl) (by decide +kernel) dX11_isOfKind_43 ?_
        exact hret _ _ _ dX11_isOfKind_46 rfl (by simp only [r_X11_isOfKind, if_neg c_1, if_pos c_3, if_neg c_7, if_pos c_8])
      · have c_9 : ¬ kd = 1 := by rw [hkd]; decide
        have c_10 : ¬ kd = 2 := by rw [hkd]; decide
        have c_11 : kd = 3 := hkd
        refine wx_inY (C := RX1) (nm := "SeenAgain$Tourist") hx hb hown (hts (.classLink RX11 316 "SeenAgain$Tourist") (by decide +kernel)) hK hX hp (show vwCl[1]? = some (RX1, TX1, 1) from rfl) (by decide +kernel) dX11_isOfKind_43 ?_
        exact hret _ _ _ dX11_isOfKind_46 rfl (by simp only [r_X11_isOfKind, if_neg c_1, if_pos c_3, if_neg c_9, if_neg c_10, if_pos c_11])
      · have c_12 : ¬ kd = 1 := by rw [hkd]; decide
        have c_13 : ¬ kd = 2 := by rw [hkd]; decide
        have c_14 : ¬ kd = 3 := by rw [hkd]; decide
        have c_15 : kd = 4 := hkd
        refine wx_inN (C := RX10) (nm := "SeenAgain$Tourist") hx hb hown (hts (.classLink RX11 316 "SeenAgain$Tourist") (by decide +kernel)) hK hX hp (show vwCl[9]? = some (RX10, TX10, 1) from rfl) (by decide +kernel) dX11_isOfKind_43 ?_
        exact hret _ _ _ dX11_isOfKind_46 rfl (by simp only [r_X11_isOfKind, if_neg c_1, if_pos c_3, if_neg c_12, if_neg c_13, if_neg c_14, if_pos c_15])
      · have c_16 : ¬ kd = 1 := by rw [hkd]; decide
        have c_17 : ¬ kd = 2 := by rw [hkd]; decide
        have c_18 : ¬ kd = 3 := by rw [hkd]; decide
        have c_19 : ¬ kd = 4 := by rw [hkd]; decide
        refine wx_inN (C := RX2) (nm := "SeenAgain$Tourist") hx hb hown (hts (.classLink RX11 316 "SeenAgain$Tourist") (by decide +kernel)) hK hX hp (show vwCl[2]? = some (RX2, TX2, 1) from rfl) (by decide +kernel) dX11_isOfKind_43 ?_
        exact hret _ _ _ dX11_isOfKind_46 rfl (by simp only [r_X11_isOfKind, if_neg c_1, if_pos c_3, if_neg c_16, if_neg c_17, if_neg c_18, if_neg c_19])
    · by_cases c_20 : a2 = 2
      · have b_21 : wx_b a2 2 2 := by rw [c_20]; exact ⟨by decide, by decide⟩
        refine lv_tableIn (tgt := 47) hx hb dX11_isOfKind_1 (by rw [c_20]; decide) (by rw [c_20]; decide) (by rw [c_20]; rfl) (by decide) ?_
        refine lv_aload_n hx hb dX11_isOfKind_47 rfl (lv_at hl 0 rfl) ?_
        have hk_22 := hv
        rcases hk_22 with ⟨hkd, rfl⟩ | ⟨hkd, rfl⟩ | ⟨hkd, rfl⟩ | ⟨hkd, rfl⟩ | ⟨hkd, rfl⟩
        · have c_23 : kd = 1 := hkd
          refine wx_inN (C := RX7) (nm := "SeenAgain$Liar") hx hb hown (hts (.classLink RX11 318 "SeenAgain$Liar") (by decide +kernel)) hK hX hp (show vwCl[7]? = some (RX7, TX7, 1) from rfl) (by decide +kernel) dX11_isOfKind_48 ?_
          exact hret _ _ _ dX11_isOfKind_51 rfl (by simp only [r_X11_isOfKind, if_neg c_1, if_neg c_3, if_pos c_20, if_pos c_23])
        · have c_24 : ¬ kd = 1 := by rw [hkd]; decide
          have c_25 : kd = 2 := hkd
          refine wx_inS (C := RX4) hx hb hown (hts (.classLink RX11 318 "SeenAgain$Liar") (by decide +kernel)) hK hX hp (show vwCl[4]? = some (RX4, TX4, 1) from rfl) dX11_isOfKind_48 ?_
          exact hret _ _ _ dX11_isOfKind_51 rfl (by simp only [r_X11_isOfKind, if_neg c_1, if_neg c_3, if_pos c_20, if_neg c_24, if_pos c_25])
        · have c_26 : ¬ kd = 1 := by rw [hkd]; decide
          have c_27 : ¬ kd = 2 := by rw [hkd]; decide
          have c_28 : kd = 3 := hkd
          refine wx_inN (C := RX1) (nm := "SeenAgain$Liar") hx hb hown (hts (.classLink RX11 318 "SeenAgain$Liar") (by decide +kernel)) hK hX hp (show vwCl[1]? = some (RX1, TX1, 1) from rfl) (by decide +kernel) dX11_isOfKind_48 ?_
          exact hret _ _ _ dX11_isOfKind_51 rfl (by simp only [r_X11_isOfKind, if_neg c_1, if_neg c_3, if_pos c_20, if_neg c_26, if_neg c_27, if_pos c_28])
        · have c_29 : ¬ kd = 1 := by rw [hkd]; decide
          have c_30 : ¬ kd = 2 := by rw [hkd]; decide
          have c_31 : ¬ kd = 3 := by rw [hkd]; decide
          have c_32 : kd = 4 := hkd
          refine wx_inN (C := RX10) (nm := "SeenAgain$Liar") hx hb hown (hts (.classLink RX11 318 "SeenAgain$Liar") (by decide +kernel)) hK hX hp (show vwCl[9]? = some (RX10, TX10, 1) from rfl) (by decide +kernel) dX11_isOfKind_48 ?_
          exact hret _ _ _ dX11_isOfKind_51 rfl (by simp only [r_X11_isOfKind, if_neg c_1, if_neg c_3, if_pos c_20, if_neg c_29, if_neg c_30, if_neg c_31, if_pos c_32])
        · have c_33 : ¬ kd = 1 := by rw [hkd]; decide
          have c_34 : ¬ kd = 2 := by rw [hkd]; decide
          have c_35 : ¬ kd = 3 := by rw [hkd]; decide
          have c_36 : ¬ kd = 4 := by rw [hkd]; decide
          refine wx_inN (C := RX2) (nm := "SeenAgain$Liar") hx hb hown (hts (.classLink RX11 318 "SeenAgain$Liar") (by decide +kernel)) hK hX hp (show vwCl[2]? = some (RX2, TX2, 1) from rfl) (by decide +kernel) dX11_isOfKind_48 ?_
          exact hret _ _ _ dX11_isOfKind_51 rfl (by simp only [r_X11_isOfKind, if_neg c_1, if_neg c_3, if_pos c_20, if_neg c_33, if_neg c_34, if_neg c_35, if_neg c_36])
      · by_cases c_37 : a2 = 3
        · have b_38 : wx_b a2 3 3 := by rw [c_37]; exact ⟨by decide, by decide⟩
          refine lv_tableIn (tgt := 52) hx hb dX11_isOfKind_1 (by rw [c_37]; decide) (by rw [c_37]; decide) (by rw [c_37]; rfl) (by decide) ?_
          refine lv_aload_n hx hb dX11_isOfKind_52 rfl (lv_at hl 0 rfl) ?_
          have hk_39 := hv
          rcases hk_39 with ⟨hkd, rfl⟩ | ⟨hkd, rfl⟩ | ⟨hkd, rfl⟩ | ⟨hkd, rfl⟩ | ⟨hkd, rfl⟩
          · have c_40 : kd = 1 := hkd
            refine wx_inN (C := RX7) (nm := "SeenAgain$Detective") hx hb hown (hts (.classLink RX11 320 "SeenAgain$Detective") (by decide +kernel)) hK hX hp (show vwCl[7]? = some (RX7, TX7, 1) from rfl) (by decide +kernel) dX11_isOfKind_53 ?_
            exact hret _ _ _ dX11_isOfKind_56 rfl (by simp only [r_X11_isOfKind, if_neg c_1, if_neg c_3, if_neg c_20, if_pos c_37, if_pos c_40])
          · have c_41 : ¬ kd = 1 := by rw [hkd]; decide
            have c_42 : kd = 2 := hkd
            refine wx_inN (C := RX4) (nm := "SeenAgain$Detective") hx hb hown (hts (.classLink RX11 320 "SeenAgain$Detective") (by decide +kernel)) hK hX hp (show vwCl[4]? = some (RX4, TX4, 1) from rfl) (by decide +kernel) dX11_isOfKind_53 ?_
            exact hret _ _ _ dX11_isOfKind_56 rfl (by simp only [r_X11_isOfKind, if_neg c_1, if_neg c_3, if_neg c_20, if_pos c_37, if_neg c_41, if_pos c_42])
          · have c_43 : ¬ kd = 1 := by rw [hkd]; decide
            have c_44 : ¬ kd = 2 := by rw [hkd]; decide
            have c_45 : kd = 3 := hkd
            refine wx_inS (C := RX1) hx hb hown (hts (.classLink RX11 320 "SeenAgain$Detective") (by decide +kernel)) hK hX hp (show vwCl[1]? = some (RX1, TX1, 1) from rfl) dX11_isOfKind_53 ?_
            exact hret _ _ _ dX11_isOfKind_56 rfl (by simp only [r_X11_isOfKind, if_neg c_1, if_neg c_3, if_neg c_20, if_pos c_37, if_neg c_43, if_neg c_44, if_pos c_45])
          · have c_46 : ¬ kd = 1 := by rw [hkd]; decide
            have c_47 : ¬ kd = 2 := by rw [hkd]; decide
            have c_48 : ¬ kd = 3 := by rw [hkd]; decide
            have c_49 : kd = 4 := hkd
            refine wx_inN (C := RX10) (nm := "SeenAgain$Detective") hx hb hown (hts (.classLink RX11 320 "SeenAgain$Detective") (by decide +kernel)) hK hX hp (show vwCl[9]? = some (RX10, TX10, 1) from rfl) (by decide +kernel) dX11_isOfKind_53 ?_
            exact hret _ _ _ dX11_isOfKind_56 rfl (by simp only [r_X11_isOfKind, if_neg c_1, if_neg c_3, if_neg c_20, if_pos c_37, if_neg c_46, if_neg c_47, if_neg c_48, if_pos c_49])
          · have c_50 : ¬ kd = 1 := by rw [hkd]; decide
            have c_51 : ¬ kd = 2 := by rw [hkd]; decide
            have c_52 : ¬ kd = 3 := by rw [hkd]; decide
            have c_53 : ¬ kd = 4 := by rw [hkd]; decide
            refine wx_inN (C := RX2) (nm := "SeenAgain$Detective") hx hb hown (hts (.classLink RX11 320 "SeenAgain$Detective") (by decide +kernel)) hK hX hp (show vwCl[2]? = some (RX2, TX2, 1) from rfl) (by decide +kernel) dX11_isOfKind_53 ?_
            exact hret _ _ _ dX11_isOfKind_56 rfl (by simp only [r_X11_isOfKind, if_neg c_1, if_neg c_3, if_neg c_20, if_pos c_37, if_neg c_50, if_neg c_51, if_neg c_52, if_neg c_53])
        · by_cases c_54 : a2 = 4
          · have b_55 : wx_b a2 4 4 := by rw [c_54]; exact ⟨by decide, by decide⟩
            refine lv_tableIn (tgt := 57) hx hb dX11_isOfKind_1 (by rw [c_54]; decide) (by rw [c_54]; decide) (by rw [c_54]; rfl) (by decide) ?_
            refine lv_aload_n hx hb dX11_isOfKind_57 rfl (lv_at hl 0 rfl) ?_
            have hk_56 := hv
            rcases hk_56 with ⟨hkd, rfl⟩ | ⟨hkd, rfl⟩ | ⟨hkd, rfl⟩ | ⟨hkd, rfl⟩ | ⟨hkd, rfl⟩
            · have c_57 : kd = 1 := hkd
              refine wx_inN (C := RX7) (nm := "SeenAgain$Writer") hx hb hown (hts (.classLink RX11 322 "SeenAgain$Writer") (by decide +kernel)) hK hX hp (show vwCl[7]? = some (RX7, TX7, 1) from rfl) (by decide +kernel) dX11_isOfKind_58 ?_
              exact hret _ _ _ dX11_isOfKind_61 rfl (by simp only [r_X11_isOfKind, if_neg c_1, if_neg c_3, if_neg c_20, if_neg c_37, if_pos c_54, if_pos c_57])
            · have c_58 : ¬ kd = 1 := by rw [hkd]; decide
              have c_59 : kd = 2 := hkd
              refine wx_inN (C := RX4) (nm := "SeenAgain$Writer") hx hb hown (hts (.classLink RX11 322 "SeenAgain$Writer") (by decide +kernel)) hK hX hp (show vwCl[4]? = some (RX4, TX4, 1) from rfl) (by decide +kernel) dX11_isOfKind_58 ?_
              exact hret _ _ _ dX11_isOfKind_61 rfl (by simp only [r_X11_isOfKind, if_neg c_1, if_neg c_3, if_neg c_20, if_neg c_37, if_pos c_54, if_neg c_58, if_pos c_59])
            · have c_60 : ¬ kd = 1 := by rw [hkd]; decide
              have c_61 : ¬ kd = 2 := by rw [hkd]; decide
              have c_62 : kd = 3 := hkd
              refine wx_inN (C := RX1) (nm := "SeenAgain$Writer") hx hb hown (hts (.classLink RX11 322 "SeenAgain$Writer") (by decide +kernel)) hK hX hp (show vwCl[1]? = some (RX1, TX1, 1) from rfl) (by decide +kernel) dX11_isOfKind_58 ?_
              exact hret _ _ _ dX11_isOfKind_61 rfl (by simp only [r_X11_isOfKind, if_neg c_1, if_neg c_3, if_neg c_20, if_neg c_37, if_pos c_54, if_neg c_60, if_neg c_61, if_pos c_62])
            · have c_63 : ¬ kd = 1 := by rw [hkd]; decide
              have c_64 : ¬ kd = 2 := by rw [hkd]; decide
              have c_65 : ¬ kd = 3 := by rw [hkd]; decide
              have c_66 : kd = 4 := hkd
              refine wx_inS (C := RX10) hx hb hown (hts (.classLink RX11 322 "SeenAgain$Writer") (by decide +kernel)) hK hX hp (show vwCl[9]? = some (RX10, TX10, 1) from rfl) dX11_isOfKind_58 ?_
              exact hret _ _ _ dX11_isOfKind_61 rfl (by simp only [r_X11_isOfKind, if_neg c_1, if_neg c_3, if_neg c_20, if_neg c_37, if_pos c_54, if_neg c_63, if_neg c_64, if_neg c_65, if_pos c_66])
            · have c_67 : ¬ kd = 1 := by rw [hkd]; decide
              have c_68 : ¬ kd = 2 := by rw [hkd]; decide
              have c_69 : ¬ kd = 3 := by rw [hkd]; decide
              have c_70 : ¬ kd = 4 := by rw [hkd]; decide
              refine wx_inY (C := RX2) (nm := "SeenAgain$Writer") hx hb hown (hts (.classLink RX11 322 "SeenAgain$Writer") (by decide +kernel)) hK hX hp (show vwCl[2]? = some (RX2, TX2, 1) from rfl) (by decide +kernel) dX11_isOfKind_58 ?_
              exact hret _ _ _ dX11_isOfKind_61 rfl (by simp only [r_X11_isOfKind, if_neg c_1, if_neg c_3, if_neg c_20, if_neg c_37, if_pos c_54, if_neg c_67, if_neg c_68, if_neg c_69, if_neg c_70])
          · by_cases c_71 : a2 = 5
            · have b_72 : wx_b a2 5 5 := by rw [c_71]; exact ⟨by decide, by decide⟩
              refine lv_tableIn (tgt := 62) hx hb dX11_isOfKind_1 (by rw [c_71]; decide) (by rw [c_71]; decide) (by rw [c_71]; rfl) (by decide) ?_
              refine lv_aload_n hx hb dX11_isOfKind_62 rfl (lv_at hl 0 rfl) ?_
              have hk_73 := hv
              rcases hk_73 with ⟨hkd, rfl⟩ | ⟨hkd, rfl⟩ | ⟨hkd, rfl⟩ | ⟨hkd, rfl⟩ | ⟨hkd, rfl⟩
              · have c_74 : kd = 1 := hkd
                refine wx_inN (C := RX7) (nm := "SeenAgain$Heir") hx hb hown (hts (.classLink RX11 324 "SeenAgain$Heir") (by decide +kernel)) hK hX hp (show vwCl[7]? = some (RX7, TX7, 1) from rfl) (by decide +kernel) dX11_isOfKind_63 ?_
                exact hret _ _ _ dX11_isOfKind_66 rfl (by simp only [r_X11_isOfKind, if_neg c_1, if_neg c_3, if_neg c_20, if_neg c_37, if_neg c_54, if_pos c_71, if_pos c_74])
              · have c_75 : ¬ kd = 1 := by rw [hkd]; decide
                have c_76 : kd = 2 := hkd
                refine wx_inN (C := RX4) (nm := "SeenAgain$Heir") hx hb hown (hts (.classLink RX11 324 "SeenAgain$Heir") (by decide +kernel)) hK hX hp (show vwCl[4]? = some (RX4, TX4, 1) from rfl) (by decide +kernel) dX11_isOfKind_63 ?_
                exact hret _ _ _ dX11_isOfKind_66 rfl (by simp only [r_X11_isOfKind, if_neg c_1, if_neg c_3, if_neg c_20, if_neg c_37, if_neg c_54, if_pos c_71, if_neg c_75, if_pos c_76])
              · have c_77 : ¬ kd = 1 := by rw [hkd]; decide
                have c_78 : ¬ kd = 2 := by rw [hkd]; decide
                have c_79 : kd = 3 := hkd
                refine wx_inN (C := RX1) (nm := "SeenAgain$Heir") hx hb hown (hts (.classLink RX11 324 "SeenAgain$Heir") (by decide +kernel)) hK hX hp (show vwCl[1]? = some (RX1, TX1, 1) from rfl) (by decide +kernel) dX11_isOfKind_63 ?_
                exact hret _ _ _ dX11_isOfKind_66 rfl (by simp only [r_X11_isOfKind, if_neg c_1, if_neg c_3, if_neg c_20, if_neg c_37, if_neg c_54, if_pos c_71, if_neg c_77, if_neg c_78, if_pos c_79])
              · have c_80 : ¬ kd = 1 := by rw [hkd]; decide
                have c_81 : ¬ kd = 2 := by rw [hkd]; decide
                have c_82 : ¬ kd = 3 := by rw [hkd]; decide
                have c_83 : kd = 4 := hkd
                refine wx_inN (C := RX10) (nm := "SeenAgain$Heir") hx hb hown (hts (.classLink RX11 324 "SeenAgain$Heir") (by decide +kernel)) hK hX hp (show vwCl[9]? = some (RX10, TX10, 1) from rfl) (by decide +kernel) dX11_isOfKind_63 ?_
                exact hret _ _ _ dX11_isOfKind_66 rfl (by simp only [r_X11_isOfKind, if_neg c_1, if_neg c_3, if_neg c_20, if_neg c_37, if_neg c_54, if_pos c_71, if_neg c_80, if_neg c_81, if_neg c_82, if_pos c_83])
              · have c_84 : ¬ kd = 1 := by rw [hkd]; decide
                have c_85 : ¬ kd = 2 := by rw [hkd]; decide
                have c_86 : ¬ kd = 3 := by rw [hkd]; decide
                have c_87 : ¬ kd = 4 := by rw [hkd]; decide
                refine wx_inS (C := RX2) hx hb hown (hts (.classLink RX11 324 "SeenAgain$Heir") (by decide +kernel)) hK hX hp (show vwCl[2]? = some (RX2, TX2, 1) from rfl) dX11_isOfKind_63 ?_
                exact hret _ _ _ dX11_isOfKind_66 rfl (by simp only [r_X11_isOfKind, if_neg c_1, if_neg c_3, if_neg c_20, if_neg c_37, if_neg c_54, if_pos c_71, if_neg c_84, if_neg c_85, if_neg c_86, if_neg c_87])
            · refine lv_tableOut (tgt := 67) hx hb dX11_isOfKind_1 (by have q0 := lv_neT (a := 0) c_1 (by decide); have q1 := lv_neT (a := 1) c_3 (by decide); have q2 := lv_neT (a := 2) c_20 (by decide); have q3 := lv_neT (a := 3) c_37 (by decide); have q4 := lv_neT (a := 4) c_54 (by decide); have q5 := lv_neT (a := 5) c_71 (by decide); omega) (by decide) ?_
              refine lv_iconst (v := 0) hx hb dX11_isOfKind_67 (by decide) ?_
              exact hret _ _ _ dX11_isOfKind_68 rfl (by simp only [r_X11_isOfKind, if_neg c_1, if_neg c_3, if_neg c_20, if_neg c_37, if_neg c_54, if_neg c_71])
theorem nb_r_X11_isOfKind (kd : Int32) (a2 : Int32) : narrow .boolean (.int (r_X11_isOfKind kd a2)) = .int (r_X11_isOfKind kd a2) := by
  unfold r_X11_isOfKind
  (repeat' split) <;> rfl
def f_X11_as (g : wx_M) (a1 : Int32) (a2 : Int32) : wx_M × Int32 :=
  if (r_X3_isVisitor g 20 a1) = 0 then
    (g, (-1000001))
  else
    if a2 < 0 then
      (g, (-1000001))
    else
      if a2 < 6 then
        if (r_X11_isOfKind (g 26 a1.toNatClampNeg) a2) = 0 then
          let z_13 := f_X11_found g 3
          (z_13.1, z_13.2)
        else
          let z_11 := f_X11_answered g a1
          (z_11.1, z_11.2)
      else
        (g, (-1000001))
set_option maxHeartbeats 4000000 in
set_option maxRecDepth 100000 in
theorem k_X11_as (l : Launch) {D : va_G} {cy : Nat → ClassId} {ad : Nat → Nat} {B0 : Nat} {f : wx_F} {P : va_W} (g : wx_M) (a1 : Int32) (a2 : Int32) (hg : wx_HB g 20) : Met l yX11_as wsX11_as ({ frames := 1, cells := 0, slots := 0, locals := 21 } : Room) (wx_Pc D cy ad B0 f P g [.ref (ad 0), .int a1, .int a2]) (wx_Qe D cy ad B0 f P (f_X11_as g a1 a2).1 (some (.int (f_X11_as g a1 a2).2))) 0 0 (fun q => B0 ≤ q) := by
  refine wx_enterE (cc := cX11_as) (maxL := 3) (ty := .int) (own := RX11) (lv := [(0, .ref (ad 0)), (1, .int a1), (2, .int a2)]) (by decide) rfl rfl (Nat.le_of_ble_eq_true rfl) rfl ?_
  intro p e R s m args below meth c ls Qm hx hb hml hown hts hK hX hS hR hret hl
  have hi_X11 : ∀ w ∈ wsX110, w ∈ wsX11_as := by decide +kernel
  have hi_X3 : ∀ w ∈ wsX30, w ∈ wsX11_as := by decide +kernel
  refine lv_aload_n hx hb dX11_as_0 rfl (lv_at hl 0 rfl) ?_
  refine wx_getr (t := 20) (C := RX11) (T := TX11) (N := 8) (ci := 10) (j := 2) hx hb hts hi_X11 hown hK hX (by decide) sh_X11_2 rfl (by decide) (hts (.fieldLink RX11 25 "SeenAgain" "house" "LSeenAgain$House;") (by decide +kernel)) (fun _ h9 => h9) dX11_as_1 ?_
  refine lv_iload_n hx hb dX11_as_4 rfl (lv_at hl 1 rfl) ?_
  refine wx_callr (va_runV (As := [.int a1]) (rest := []) ⟨hx, hb, hml, hown, hts⟩ (k_X3_isVisitor l g 20 a1 (show wx_H 20 from Or.inl rfl)) (cwV 1 hts gX11_as_X3_isVisitor rfl rfl rfl (by decide +kernel) (by rw [hR]; exact ⟨Nat.le_of_ble_eq_true rfl, Nat.le_of_ble_eq_true rfl⟩)) ⟨wx_Pc.blind, wx_recv hK hX (by decide) (sh_X3 (show wx_H 20 from Or.inl rfl)) rfl, (wx_Pc.pre hK hX).2⟩ rfl rfl hl.1 rfl (lv_room (Nat.le_of_ble_eq_true rfl)) dX11_as_5 ⟨Nat.zero_le _, Nat.zero_le _⟩) ?_
  refine lv_if_eq (tgt := 21) hx hb dX11_as_8 (by decide) (fun c_1 => ?_) (fun c_1 => ?_)
  · have b_2 : wx_b (r_X3_isVisitor g 20 a1) 0 0 := by rw [c_1]; exact ⟨by decide, by decide⟩
    refine lv_ldc hx hb hown (hts (.constant RX11 55 (-1000001)) (by decide +kernel)) dX11_as_21 ?_
    exact hret _ _ _ _ _ _ dX11_as_23 rfl hX hS (by simp only [f_X11_as, if_pos c_1])
  · have b_3 : wx_b a1 0 3 := rf_X3_isVisitor hg c_1
    refine lv_iload_n hx hb dX11_as_11 rfl (lv_at hl 2 rfl) ?_
    refine lv_if_lt (tgt := 21) hx hb dX11_as_12 (by decide) (fun c_4 => ?_) (fun c_4 => ?_)
    · have b_5 : wx_b a2 (-2147483648) (-1) := wb_lt c_4 (wb_any _) (show wx_b 0 0 0 from ⟨by decide, by decide⟩) (by decide) (by decide)
      refine lv_ldc hx hb hown (hts (.constant RX11 55 (-1000001)) (by decide +kernel)) dX11_as_21 ?_
      exact hret _ _ _ _ _ _ dX11_as_23 rfl hX hS (by simp only [f_X11_as, if_neg c_1, if_pos c_4])
    · have b_6 : wx_b a2 0 2147483647 := wb_ge (wb_nlt c_4) (wb_any _) (show wx_b 0 0 0 from ⟨by decide, by decide⟩) (by decide) (by decide)
      refine lv_iload_n hx hb dX11_as_15 rfl (lv_at hl 2 rfl) ?_
      refine lv_bipush (v := 6) hx hb dX11_as_16 (by decide) ?_
      refine lv_icmp_lt (tgt := 24) hx hb dX11_as_18 (by decide) (fun c_7 => ?_) (fun c_7 => ?_)
      · have b_8 : wx_b a2 0 5 := wb_lt c_7 b_6 (show wx_b 6 6 6 from ⟨by decide, by decide⟩) (by decide) (by decide)
        refine lv_aload_n hx hb dX11_as_24 rfl (lv_at hl 0 rfl) ?_
        refine wx_getr (t := 20) (C := RX11) (T := TX11) (N := 8) (ci := 10) (j := 2) hx hb hts hi_X11 hown hK hX (by decide) sh_X11_2 rfl (by decide) (hts (.fieldLink RX11 25 "SeenAgain" "house" "LSeenAgain$House;") (by decide +kernel)) (fun _ h9 => h9) dX11_as_25 ?_
        refine wx_getr (t := 26) (C := RX3) (T := TX3) (N := 15) (ci := 3) (j := 14) hx hb hts hi_X3 hown hK hX (by decide) (sh_X3_14 (show wx_H 20 from Or.inl rfl)) rfl (by decide) (hts (.fieldLink RX11 274 "SeenAgain$House" "guests" "[LSeenAgain$Visitor;") (by decide +kernel)) (fun _ h9 => h9) dX11_as_28 ?_
        refine lv_iload_n hx hb dX11_as_31 rfl (lv_at hl 1 rfl) ?_
        refine wx_gald hx hb hK hX (h := 20) (show wx_H 20 from Or.inl rfl).l6 (show wx_H 20 from Or.inl rfl) (wb_in b_3 (by decide) (by decide)) dX11_as_32 (fun q_9 ci_q_9 pi_q_9 hp_q_9 hv_q_9 => ?_)
        refine lv_iload_n hx hb dX11_as_33 rfl (lv_at hl 2 rfl) ?_
        refine wx_callr (va_runS (As := [.ref q_9, .int a2]) (rest := []) ⟨hx, hb, hml, hown, hts⟩ (k_X11_isOfKind l g (g 26 a1.toNatClampNeg) a1 a2 hp_q_9 hv_q_9) (va_cwS 2 hts gX11_as_X11_isOfKind rfl rfl rfl (by decide +kernel) (by rw [hR]; exact ⟨Nat.le_of_ble_eq_true rfl, Nat.le_of_ble_eq_true rfl⟩)) (wx_Pc.pre hK hX) rfl rfl hl.1 rfl (lv_room (Nat.le_of_ble_eq_true rfl)) dX11_as_34 ⟨Nat.zero_le _, Nat.zero_le _⟩) ?_
        refine lv_if_ne (tgt := 46) hx hb dX11_as_37 (by decide) (fun c_10 => ?_) (fun c_10 => ?_)
        · refine lv_aload_n hx hb dX11_as_46 rfl (lv_at hl 0 rfl) ?_
          refine lv_iload_n hx hb dX11_as_47 rfl (lv_at hl 1 rfl) ?_
          refine wx_callei (va_runV (As := [.int a1]) (rest := []) ⟨hx, hb, hml, hown, hts⟩ (k_X11_answered l g a1) (cwV 1 hts gX11_as_X11_answered rfl rfl rfl (by decide +kernel) (by rw [hR]; exact ⟨Nat.le_of_ble_eq_true rfl, Nat.le_of_ble_eq_true rfl⟩)) ⟨wx_Pc.blind, wx_recv hK hX (by decide) sh_X11 rfl, (wx_Pc.pre hK hX).2⟩ rfl rfl hl.1 rfl (lv_room (Nat.le_of_ble_eq_true rfl)) dX11_as_48 ⟨Nat.zero_le _, Nat.zero_le _⟩) hS (fun H locs hX hS => ?_)
          obtain ⟨z_11, ez_11⟩ : ∃ z, z = f_X11_answered g a1 := ⟨_, rfl⟩
          rw [← ez_11] at hX; rw [← ez_11]
          exact hret _ _ _ _ _ _ dX11_as_51 rfl hX hS (by subst ez_11; simp only [f_X11_as, if_neg c_1, if_neg c_4, if_pos c_7, if_neg c_10])
        · have b_12 : wx_b (r_X11_isOfKind (g 26 a1.toNatClampNeg) a2) 0 0 := by rw [c_10]; exact ⟨by decide, by decide⟩
          refine lv_aload_n hx hb dX11_as_40 rfl (lv_at hl 0 rfl) ?_
          refine lv_iconst (v := 3) hx hb dX11_as_41 (by decide) ?_
          refine wx_callei (va_runV (As := [.int 3]) (rest := []) ⟨hx, hb, hml, hown, hts⟩ (k_X11_found l g 3) (cwV 1 hts gX11_as_X11_found rfl rfl rfl (by decide +kernel) (by rw [hR]; exact ⟨Nat.le_of_ble_eq_true rfl, Nat.le_of_ble_eq_true rfl⟩)) ⟨wx_Pc.blind, wx_recv hK hX (by decide) sh_X11 rfl, (wx_Pc.pre hK hX).2⟩ rfl rfl hl.1 rfl (lv_room (Nat.le_of_ble_eq_true rfl)) dX11_as_42 ⟨Nat.zero_le _, Nat.zero_le _⟩) hS (fun H locs hX hS => ?_)
          obtain ⟨z_13, ez_13⟩ : ∃ z, z = f_X11_found g 3 := ⟨_, rfl⟩
          rw [← ez_13] at hX; rw [← ez_13]
          exact hret _ _ _ _ _ _ dX11_as_45 rfl hX hS (by subst ez_13; simp only [f_X11_as, if_neg c_1, if_neg c_4, if_pos c_7, if_pos c_10])
      · have b_14 : wx_b a2 6 2147483647 := wb_ge (wb_nlt c_7) b_6 (show wx_b 6 6 6 from ⟨by decide, by decide⟩) (by decide) (by decide)
        refine lv_ldc hx hb hown (hts (.constant RX11 55 (-1000001)) (by decide +kernel)) dX11_as_21 ?_
        exact hret _ _ _ _ _ _ dX11_as_23 rfl hX hS (by simp only [f_X11_as, if_neg c_1, if_neg c_4, if_neg c_7])
def b_X3_becomes_148 (g : wx_M) (h : Nat) (ho : Nat) (x_1 : Int32) (g_2 : wx_M) (x_3 : Int32) (g_4 : wx_M) (x_5 : Int32) (g_6 : wx_M) (x_7 : Int32) (g_8 : wx_M) (x_9 : Int32) (g_10 : wx_M) (x_11 : Int32) (g_12 : wx_M) (x_13 : Int32) (g_14 : wx_M) (x_15 : Int32) (g_16 : wx_M) (x_17 : Int32) (g_18 : wx_M) (g_19 : wx_M) (g_20 : wx_M) (g_21 : wx_M) (g_22 : wx_M) (g_23 : wx_M) (t_148 : Nat) (s_148 : wx_M) : wx_M :=
  let g_26 := up2 s_148 (h + 6) (nI t_148).toNatClampNeg (s_148 (ho + 6) (nI t_148).toNatClampNeg)
  g_26
def e_X3_becomes (g : wx_M) (h : Nat) (ho : Nat) : wx_M :=
  let x_1 := (g ho 0)
  let g_2 := up2 g h 0 x_1
  let x_3 := (g_2 ho 1)
  let g_4 := up2 g_2 h 1 x_3
  let x_5 := (g_4 ho 2)
  let g_6 := up2 g_4 h 2 x_5
  let x_7 := (g_6 ho 3)
  let g_8 := up2 g_6 h 3 x_7
  let x_9 := (g_8 ho 4)
  let g_10 := up2 g_8 h 4 x_9
  let x_11 := (g_10 ho 5)
  let g_12 := up2 g_10 h 5 x_11
  let x_13 := (g_12 ho 6)
  let g_14 := up2 g_12 h 6 x_13
  let x_15 := (g_14 ho 7)
  let g_16 := up2 g_14 h 7 x_15
  let x_17 := (g_16 ho 8)
  let g_18 := up2 g_16 h 8 x_17
  let g_19 := upR g_18 (h + 1) (va_cpy (g_18 (ho + 1)) (g_18 (h + 1)) (0 : Int32).toNatClampNeg (0 : Int32).toNatClampNeg (6 : Int32).toNatClampNeg)
  let g_20 := upR g_19 (h + 2) (va_cpy (g_19 (ho + 2)) (g_19 (h + 2)) (0 : Int32).toNatClampNeg (0 : Int32).toNatClampNeg (48 : Int32).toNatClampNeg)
  let g_21 := upR g_20 (h + 3) (va_cpy (g_20 (ho + 3)) (g_20 (h + 3)) (0 : Int32).toNatClampNeg (0 : Int32).toNatClampNeg (48 : Int32).toNatClampNeg)
  let g_22 := upR g_21 (h + 4) (va_cpy (g_21 (ho + 4)) (g_21 (h + 4)) (0 : Int32).toNatClampNeg (0 : Int32).toNatClampNeg (32 : Int32).toNatClampNeg)
  let g_23 := upR g_22 (h + 5) (va_cpy (g_22 (ho + 5)) (g_22 (h + 5)) (0 : Int32).toNatClampNeg (0 : Int32).toNatClampNeg (4 : Int32).toNatClampNeg)
  let s_148 := rep 4 (b_X3_becomes_148 g h ho x_1 g_2 x_3 g_4 x_5 g_6 x_7 g_8 x_9 g_10 x_11 g_12 x_13 g_14 x_15 g_16 x_17 g_18 g_19 g_20 g_21 g_22 g_23) g_23
  s_148
set_option maxHeartbeats 4000000 in
set_option maxRecDepth 100000 in
theorem k_X3_becomes (l : Launch) {D : va_G} {cy : Nat → ClassId} {ad : Nat → Nat} {B0 : Nat} {f : wx_F} {P : va_W} (g : wx_M) (h : Nat) (ho : Nat) (hh : wx_H h) (hho : wx_H ho) : Met l yX3_becomes wsX3_becomes ({ frames := 1, cells := 0, slots := 0, locals := 60 } : Room) (wx_Pc D cy ad B0 f P g [.ref (ad h), .ref (ad ho)]) (wx_Qx D cy ad B0 (e_X3_becomes g h ho) none) 0 0 (fun q => B0 ≤ q) := by
  refine wx_enterXV (cc := cX3_becomes) (maxL := 3) (own := RX3) (lv := [(0, .ref (ad h)), (1, .ref (ad ho))]) (by decide) rfl rfl (Nat.le_of_ble_eq_true rfl) rfl ?_
  intro p e R s m args below meth c ls Qm hx hb hml hown hts hK hX hS hR hret hl
  have hi_X3 : ∀ w ∈ wsX30, w ∈ wsX3_becomes := by decide +kernel
  refine lv_aload_n hx hb dX3_becomes_0 rfl (lv_at hl 0 rfl) ?_
  refine lv_aload_n hx hb dX3_becomes_1 rfl (lv_at hl 1 rfl) ?_
  refine wx_geti (C := RX3) (T := TX3) (N := 15) (ci := 3) (j := 0) hx hb hts hi_X3 hown hK hX hho.l0 (sh_X3_0 hho) rfl (by decide) (hts (.fieldLink RX3 54 "SeenAgain$House" "rooms" "I") (by decide +kernel)) (fun _ h9 => h9) dX3_becomes_2 ?_
  refine lv_topi (fun x_1 ex_1 => ?_)
  refine wx_puti (C := RX3) (T := TX3) (N := 15) (ci := 3) (j := 0) (ty := .int) hx hb hts hi_X3 tyX3 tyX3_ok nmX3 hown hK hX hS hh.l0 (sh_X3_0 hh) rfl (by decide) (hts (.fieldLink RX3 54 "SeenAgain$House" "rooms" "I") (by decide +kernel)) (fun _ h9 => h9) rfl (by decide +kernel) rfl rfl dX3_becomes_5 (fun H locs hX hS => ?_)
  obtain ⟨g_2, eg_2, hX⟩ := wx_nm hX
  refine lv_aload_n hx hb dX3_becomes_8 rfl (lv_at hl 0 rfl) ?_
  refine lv_aload_n hx hb dX3_becomes_9 rfl (lv_at hl 1 rfl) ?_
  refine wx_geti (C := RX3) (T := TX3) (N := 15) (ci := 3) (j := 1) hx hb hts hi_X3 hown hK hX hho.l0 (sh_X3_1 hho) rfl (by decide) (hts (.fieldLink RX3 57 "SeenAgain$House" "seats" "I") (by decide +kernel)) (fun _ h9 => h9) dX3_becomes_10 ?_
  refine lv_topi (fun x_3 ex_3 => ?_)
  refine wx_puti (C := RX3) (T := TX3) (N := 15) (ci := 3) (j := 1) (ty := .int) hx hb hts hi_X3 tyX3 tyX3_ok nmX3 hown hK hX hS hh.l0 (sh_X3_1 hh) rfl (by decide) (hts (.fieldLink RX3 57 "SeenAgain$House" "seats" "I") (by decide +kernel)) (fun _ h9 => h9) rfl (by decide +kernel) rfl rfl dX3_becomes_13 (fun H locs hX hS => ?_)
  obtain ⟨g_4, eg_4, hX⟩ := wx_nm hX
  refine lv_aload_n hx hb dX3_becomes_16 rfl (lv_at hl 0 rfl) ?_
  refine lv_aload_n hx hb dX3_becomes_17 rfl (lv_at hl 1 rfl) ?_
  refine wx_geti (C := RX3) (T := TX3) (N := 15) (ci := 3) (j := 2) hx hb hts hi_X3 hown hK hX hho.l0 (sh_X3_2 hho) rfl (by decide) (hts (.fieldLink RX3 60 "SeenAgain$House" "fee" "I") (by decide +kernel)) (fun _ h9 => h9) dX3_becomes_18 ?_
  refine lv_topi (fun x_5 ex_5 => ?_)
  refine wx_puti (C := RX3) (T := TX3) (N := 15) (ci := 3) (j := 2) (ty := .int) hx hb hts hi_X3 tyX3 tyX3_ok nmX3 hown hK hX hS hh.l0 (sh_X3_2 hh) rfl (by decide) (hts (.fieldLink RX3 60 "SeenAgain$House" "fee" "I") (by decide +kernel)) (fun _ h9 => h9) rfl (by decide +kernel) rfl rfl dX3_becomes_21 (fun H locs hX hS => ?_)
  obtain ⟨g_6, eg_6, hX⟩ := wx_nm hX
  refine lv_aload_n hx hb dX3_becomes_24 rfl (lv_at hl 0 rfl) ?_
  refine lv_aload_n hx hb dX3_becomes_25 rfl (lv_at hl 1 rfl) ?_
  refine wx_geti (C := RX3) (T := TX3) (N := 15) (ci := 3) (j := 3) hx hb hts hi_X3 hown hK hX hho.l0 (sh_X3_3 hho) rfl (by decide) (hts (.fieldLink RX3 38 "SeenAgain$House" "walls" "I") (by decide +kernel)) (fun _ h9 => h9) dX3_becomes_26 ?_
  refine lv_topi (fun x_7 ex_7 => ?_)
  refine wx_puti (C := RX3) (T := TX3) (N := 15) (ci := 3) (j := 3) (ty := .int) hx hb hts hi_X3 tyX3 tyX3_ok nmX3 hown hK hX hS hh.l0 (sh_X3_3 hh) rfl (by decide) (hts (.fieldLink RX3 38 "SeenAgain$House" "walls" "I") (by decide +kernel)) (fun _ h9 => h9) rfl (by decide +kernel) rfl rfl dX3_becomes_29 (fun H locs hX hS => ?_)
  obtain ⟨g_8, eg_8, hX⟩ := wx_nm hX
  refine lv_aload_n hx hb dX3_becomes_32 rfl (lv_at hl 0 rfl) ?_
  refine lv_aload_n hx hb dX3_becomes_33 rfl (lv_at hl 1 rfl) ?_
  refine wx_geti (C := RX3) (T := TX3) (N := 15) (ci := 3) (j := 4) hx hb hts hi_X3 hown hK hX hho.l0 (sh_X3_4 hho) rfl (by decide) (hts (.fieldLink RX3 42 "SeenAgain$House" "people" "I") (by decide +kernel)) (fun _ h9 => h9) dX3_becomes_34 ?_
  refine lv_topi (fun x_9 ex_9 => ?_)
  refine wx_puti (C := RX3) (T := TX3) (N := 15) (ci := 3) (j := 4) (ty := .int) hx hb hts hi_X3 tyX3 tyX3_ok nmX3 hown hK hX hS hh.l0 (sh_X3_4 hh) rfl (by decide) (hts (.fieldLink RX3 42 "SeenAgain$House" "people" "I") (by decide +kernel)) (fun _ h9 => h9) rfl (by decide +kernel) rfl rfl dX3_becomes_37 (fun H locs hX hS => ?_)
  obtain ⟨g_10, eg_10, hX⟩ := wx_nm hX
  refine lv_aload_n hx hb dX3_becomes_40 rfl (lv_at hl 0 rfl) ?_
  refine lv_aload_n hx hb dX3_becomes_41 rfl (lv_at hl 1 rfl) ?_
  refine wx_geti (C := RX3) (T := TX3) (N := 15) (ci := 3) (j := 5) hx hb hts hi_X3 hown hK hX hho.l0 (sh_X3_5 hho) rfl (by decide) (hts (.fieldLink RX3 45 "SeenAgain$House" "visitors" "I") (by decide +kernel)) (fun _ h9 => h9) dX3_becomes_42 ?_
  refine lv_topi (fun x_11 ex_11 => ?_)
  refine wx_puti (C := RX3) (T := TX3) (N := 15) (ci := 3) (j := 5) (ty := .int) hx hb hts hi_X3 tyX3 tyX3_ok nmX3 hown hK hX hS hh.l0 (sh_X3_5 hh) rfl (by decide) (hts (.fieldLink RX3 45 "SeenAgain$House" "visitors" "I") (by decide +kernel)) (fun _ h9 => h9) rfl (by decide +kernel) rfl rfl dX3_becomes_45 (fun H locs hX hS => ?_)
  obtain ⟨g_12, eg_12, hX⟩ := wx_nm hX
  refine lv_aload_n hx hb dX3_becomes_48 rfl (lv_at hl 0 rfl) ?_
  refine lv_aload_n hx hb dX3_becomes_49 rfl (lv_at hl 1 rfl) ?_
  refine wx_geti (C := RX3) (T := TX3) (N := 15) (ci := 3) (j := 6) hx hb hts hi_X3 hown hK hX hho.l0 (sh_X3_6 hho) rfl (by decide) (hts (.fieldLink RX3 63 "SeenAgain$House" "held" "I") (by decide +kernel)) (fun _ h9 => h9) dX3_becomes_50 ?_
  refine lv_topi (fun x_13 ex_13 => ?_)
  refine wx_puti (C := RX3) (T := TX3) (N := 15) (ci := 3) (j := 6) (ty := .int) hx hb hts hi_X3 tyX3 tyX3_ok nmX3 hown hK hX hS hh.l0 (sh_X3_6 hh) rfl (by decide) (hts (.fieldLink RX3 63 "SeenAgain$House" "held" "I") (by decide +kernel)) (fun _ h9 => h9) rfl (by decide +kernel) rfl rfl dX3_becomes_53 (fun H locs hX hS => ?_)
  obtain ⟨g_14, eg_14, hX⟩ := wx_nm hX
  refine lv_aload_n hx hb dX3_becomes_56 rfl (lv_at hl 0 rfl) ?_
  refine lv_aload_n hx hb dX3_becomes_57 rfl (lv_at hl 1 rfl) ?_
  refine wx_geti (C := RX3) (T := TX3) (N := 15) (ci := 3) (j := 7) hx hb hts hi_X3 hown hK hX hho.l0 (sh_X3_7 hho) rfl (by decide) (hts (.fieldLink RX3 66 "SeenAgain$House" "curtains" "I") (by decide +kernel)) (fun _ h9 => h9) dX3_becomes_58 ?_
  refine lv_topi (fun x_15 ex_15 => ?_)
  refine wx_puti (C := RX3) (T := TX3) (N := 15) (ci := 3) (j := 7) (ty := .int) hx hb hts hi_X3 tyX3 tyX3_ok nmX3 hown hK hX hS hh.l0 (sh_X3_7 hh) rfl (by decide) (hts (.fieldLink RX3 66 "SeenAgain$House" "curtains" "I") (by decide +kernel)) (fun _ h9 => h9) rfl (by decide +kernel) rfl rfl dX3_becomes_61 (fun H locs hX hS => ?_)
  obtain ⟨g_16, eg_16, hX⟩ := wx_nm hX
  refine lv_aload_n hx hb dX3_becomes_64 rfl (lv_at hl 0 rfl) ?_
  refine lv_aload_n hx hb dX3_becomes_65 rfl (lv_at hl 1 rfl) ?_
  refine wx_geti (C := RX3) (T := TX3) (N := 15) (ci := 3) (j := 8) hx hb hts hi_X3 hown hK hX hho.l0 (sh_X3_8 hho) rfl (by decide) (hts (.fieldLink RX3 69 "SeenAgain$House" "written" "I") (by decide +kernel)) (fun _ h9 => h9) dX3_becomes_66 ?_
  refine lv_topi (fun x_17 ex_17 => ?_)
  refine wx_puti (C := RX3) (T := TX3) (N := 15) (ci := 3) (j := 8) (ty := .int) hx hb hts hi_X3 tyX3 tyX3_ok nmX3 hown hK hX hS hh.l0 (sh_X3_8 hh) rfl (by decide) (hts (.fieldLink RX3 69 "SeenAgain$House" "written" "I") (by decide +kernel)) (fun _ h9 => h9) rfl (by decide +kernel) rfl rfl dX3_becomes_69 (fun H locs hX hS => ?_)
  obtain ⟨g_18, eg_18, hX⟩ := wx_nm hX
  refine lv_aload_n hx hb dX3_becomes_72 rfl (lv_at hl 1 rfl) ?_
  refine wx_getr (t := ho + 1) (C := RX3) (T := TX3) (N := 15) (ci := 3) (j := 9) hx hb hts hi_X3 hown hK hX hho.l0 (sh_X3_9 hho) rfl (by decide) (hts (.fieldLink RX3 9 "SeenAgain$House" "windows" "[I") (by decide +kernel)) (fun _ h9 => h9) dX3_becomes_73 ?_
  refine lv_iconst (v := 0) hx hb dX3_becomes_76 (by decide) ?_
  refine lv_aload_n hx hb dX3_becomes_77 rfl (lv_at hl 0 rfl) ?_
  refine wx_getr (t := h + 1) (C := RX3) (T := TX3) (N := 15) (ci := 3) (j := 9) hx hb hts hi_X3 hown hK hX hh.l0 (sh_X3_9 hh) rfl (by decide) (hts (.fieldLink RX3 9 "SeenAgain$House" "windows" "[I") (by decide +kernel)) (fun _ h9 => h9) dX3_becomes_78 ?_
  refine lv_iconst (v := 0) hx hb dX3_becomes_81 (by decide) ?_
  refine lv_bipush (v := 6) hx hb dX3_becomes_82 (by decide) ?_
  refine wx_copy hx hb (hml.trans hl.1.symm) hown (hts (.methodLink RX3 72 arraycopyName) (by decide +kernel)) (hts (.native arraycopyName) (by decide +kernel)) (hts (.static arraycopyName) (by decide +kernel)) (hts (.initialized "java/lang/System") (by decide +kernel)) hK hX hS hho.l1 hh.l1 (sa_X3_1 hho) (sa_X3_1 hh) (by decide) (by decide) (by decide) (by decide) (by decide) (by rw [hR]; exact Nat.le_of_ble_eq_true rfl) (by rw [hR]; exact Nat.le_of_ble_eq_true rfl) dX3_becomes_84 (fun H locs hX hS => ?_)
  obtain ⟨g_19, eg_19, hX⟩ := wx_nm hX
  refine lv_aload_n hx hb dX3_becomes_87 rfl (lv_at hl 1 rfl) ?_
  refine wx_getr (t := ho + 2) (C := RX3) (T := TX3) (N := 15) (ci := 3) (j := 10) hx hb hts hi_X3 hown hK hX hho.l0 (sh_X3_10 hho) rfl (by decide) (hts (.fieldLink RX3 15 "SeenAgain$House" "drawn" "[I") (by decide +kernel)) (fun _ h9 => h9) dX3_becomes_88 ?_
  refine lv_iconst (v := 0) hx hb dX3_becomes_91 (by decide) ?_
  refine lv_aload_n hx hb dX3_becomes_92 rfl (lv_at hl 0 rfl) ?_
  refine wx_getr (t := h + 2) (C := RX3) (T := TX3) (N := 15) (ci := 3) (j := 10) hx hb hts hi_X3 hown hK hX hh.l0 (sh_X3_10 hh) rfl (by decide) (hts (.fieldLink RX3 15 "SeenAgain$House" "drawn" "[I") (by decide +kernel)) (fun _ h9 => h9) dX3_becomes_93 ?_
  refine lv_iconst (v := 0) hx hb dX3_becomes_96 (by decide) ?_
  refine lv_bipush (v := 48) hx hb dX3_becomes_97 (by decide) ?_
  refine wx_copy hx hb (hml.trans hl.1.symm) hown (hts (.methodLink RX3 72 arraycopyName) (by decide +kernel)) (hts (.native arraycopyName) (by decide +kernel)) (hts (.static arraycopyName) (by decide +kernel)) (hts (.initialized "java/lang/System") (by decide +kernel)) hK hX hS hho.l2 hh.l2 (sa_X3_2 hho) (sa_X3_2 hh) (by decide) (by decide) (by decide) (by decide) (by decide) (by rw [hR]; exact Nat.le_of_ble_eq_true rfl) (by rw [hR]; exact Nat.le_of_ble_eq_true rfl) dX3_becomes_99 (fun H locs hX hS => ?_)
  obtain ⟨g_20, eg_20, hX⟩ := wx_nm hX
  refine lv_aload_n hx hb dX3_becomes_102 rfl (lv_at hl 1 rfl) ?_
  refine wx_getr (t := ho + 3) (C := RX3) (T := TX3) (N := 15) (ci := 3) (j := 11) hx hb hts hi_X3 hown hK hX hho.l0 (sh_X3_11 hho) rfl (by decide) (hts (.fieldLink RX3 18 "SeenAgain$House" "holders" "[I") (by decide +kernel)) (fun _ h9 => h9) dX3_becomes_103 ?_
  refine lv_iconst (v := 0) hx hb dX3_becomes_106 (by decide) ?_
  refine lv_aload_n hx hb dX3_becomes_107 rfl (lv_at hl 0 rfl) ?_
  refine wx_getr (t := h + 3) (C := RX3) (T := TX3) (N := 15) (ci := 3) (j := 11) hx hb hts hi_X3 hown hK hX hh.l0 (sh_X3_11 hh) rfl (by decide) (hts (.fieldLink RX3 18 "SeenAgain$House" "holders" "[I") (by decide +kernel)) (fun _ h9 => h9) dX3_becomes_108 ?_
  refine lv_iconst (v := 0) hx hb dX3_becomes_111 (by decide) ?_
  refine lv_bipush (v := 48) hx hb dX3_becomes_112 (by decide) ?_
  refine wx_copy hx hb (hml.trans hl.1.symm) hown (hts (.methodLink RX3 72 arraycopyName) (by decide +kernel)) (hts (.native arraycopyName) (by decide +kernel)) (hts (.static arraycopyName) (by decide +kernel)) (hts (.initialized "java/lang/System") (by decide +kernel)) hK hX hS hho.l3 hh.l3 (sa_X3_3 hho) (sa_X3_3 hh) (by decide) (by decide) (by decide) (by decide) (by decide) (by rw [hR]; exact Nat.le_of_ble_eq_true rfl) (by rw [hR]; exact Nat.le_of_ble_eq_true rfl) dX3_becomes_114 (fun H locs hX hS => ?_)
  obtain ⟨g_21, eg_21, hX⟩ := wx_nm hX
  refine lv_aload_n hx hb dX3_becomes_117 rfl (lv_at hl 1 rfl) ?_
  refine wx_getr (t := ho + 4) (C := RX3) (T := TX3) (N := 15) (ci := 3) (j := 12) hx hb hts hi_X3 hown hK hX hho.l0 (sh_X3_12 hho) rfl (by decide) (hts (.fieldLink RX3 21 "SeenAgain$House" "stays" "[I") (by decide +kernel)) (fun _ h9 => h9) dX3_becomes_118 ?_
  refine lv_iconst (v := 0) hx hb dX3_becomes_121 (by decide) ?_
  refine lv_aload_n hx hb dX3_becomes_122 rfl (lv_at hl 0 rfl) ?_
  refine wx_getr (t := h + 4) (C := RX3) (T := TX3) (N := 15) (ci := 3) (j := 12) hx hb hts hi_X3 hown hK hX hh.l0 (sh_X3_12 hh) rfl (by decide) (hts (.fieldLink RX3 21 "SeenAgain$House" "stays" "[I") (by decide +kernel)) (fun _ h9 => h9) dX3_becomes_123 ?_
  refine lv_iconst (v := 0) hx hb dX3_becomes_126 (by decide) ?_
  refine lv_bipush (v := 32) hx hb dX3_becomes_127 (by decide) ?_
  refine wx_copy hx hb (hml.trans hl.1.symm) hown (hts (.methodLink RX3 72 arraycopyName) (by decide +kernel)) (hts (.native arraycopyName) (by decide +kernel)) (hts (.static arraycopyName) (by decide +kernel)) (hts (.initialized "java/lang/System") (by decide +kernel)) hK hX hS hho.l4 hh.l4 (sa_X3_4 hho) (sa_X3_4 hh) (by decide) (by decide) (by decide) (by decide) (by decide) (by rw [hR]; exact Nat.le_of_ble_eq_true rfl) (by rw [hR]; exact Nat.le_of_ble_eq_true rfl) dX3_becomes_129 (fun H locs hX hS => ?_)
  obtain ⟨g_22, eg_22, hX⟩ := wx_nm hX
  refine lv_aload_n hx hb dX3_becomes_132 rfl (lv_at hl 1 rfl) ?_
  refine wx_getr (t := ho + 5) (C := RX3) (T := TX3) (N := 15) (ci := 3) (j := 13) hx hb hts hi_X3 hown hK hX hho.l0 (sh_X3_13 hho) rfl (by decide) (hts (.fieldLink RX3 24 "SeenAgain$House" "purses" "[I") (by decide +kernel)) (fun _ h9 => h9) dX3_becomes_133 ?_
  refine lv_iconst (v := 0) hx hb dX3_becomes_136 (by decide) ?_
  refine lv_aload_n hx hb dX3_becomes_137 rfl (lv_at hl 0 rfl) ?_
  refine wx_getr (t := h + 5) (C := RX3) (T := TX3) (N := 15) (ci := 3) (j := 13) hx hb hts hi_X3 hown hK hX hh.l0 (sh_X3_13 hh) rfl (by decide) (hts (.fieldLink RX3 24 "SeenAgain$House" "purses" "[I") (by decide +kernel)) (fun _ h9 => h9) dX3_becomes_138 ?_
  refine lv_iconst (v := 0) hx hb dX3_becomes_141 (by decide) ?_
  refine lv_iconst (v := 4) hx hb dX3_becomes_142 (by decide) ?_
  refine wx_copy hx hb (hml.trans hl.1.symm) hown (hts (.methodLink RX3 72 arraycopyName) (by decide +kernel)) (hts (.native arraycopyName) (by decide +kernel)) (hts (.static arraycopyName) (by decide +kernel)) (hts (.initialized "java/lang/System") (by decide +kernel)) hK hX hS hho.l5 hh.l5 (sa_X3_5 hho) (sa_X3_5 hh) (by decide) (by decide) (by decide) (by decide) (by decide) (by rw [hR]; exact Nat.le_of_ble_eq_true rfl) (by rw [hR]; exact Nat.le_of_ble_eq_true rfl) dX3_becomes_143 (fun H locs hX hS => ?_)
  obtain ⟨g_23, eg_23, hX⟩ := wx_nm hX
  refine lv_iconst (v := 0) hx hb dX3_becomes_146 (by decide) ?_
  refine lv_istore_n (lv' := [(2, .int 0), (0, .ref (ad h)), (1, .ref (ad ho))]) hx hb dX3_becomes_147 rfl hl (by decide) rfl (fun ls hl => ?_)
  have lp_148 : ∀ (n t_148 : Nat) (s_148 : wx_M) (ls : Array Slot) (H : Heap) (locs : List Loc) (f : wx_F) (P : va_W), t_148 ≤ 4 → 4 + 1 ≤ t_148 + n → s_148 = rep t_148 (b_X3_becomes_148 g h ho x_1 g_2 x_3 g_4 x_5 g_6 x_7 g_8 x_9 g_10 x_11 g_12 x_13 g_14 x_15 g_16 x_17 g_18 g_19 g_20 g_21 g_22 g_23) g_23 → wx_X D cy ad B0 f P s_148 H → va_S (fun q => B0 ≤ q) s.heap H locs → lv_has ls 3 [(2, .int (nI t_148)), (0, .ref (ad h)), (1, .ref (ad ho))] → W p l e R s m args below meth c H locs 0 0 Qm (F0 m 148 ls []) := by
    intro n
    induction n with
    | zero => intro t_148 s_148 ls H locs f P h1 h2; exact absurd h2 (by omega)
    | succ n ih_148 =>
      intro t_148 s_148 ls H locs f P ht_148 hn_148 es_148 hX hS hl
      refine lv_iload_n hx hb dX3_becomes_148 rfl (lv_at hl 0 rfl) ?_
      refine lv_iconst (v := 4) hx hb dX3_becomes_149 (by decide) ?_
      refine lv_icmp_ge (tgt := 171) hx hb dX3_becomes_150 (by decide) (fun c_24 => ?_) (fun c_24 => ?_)
      · have et_148 : t_148 = 4 := Nat.le_antisymm ht_148 (by have h9 := wx_dn (by omega) c_24; have h8 : (4 : Int32).toNatClampNeg = 4 := (by decide); omega)
        subst et_148
        exact hret _ _ _ _ _ _ _ dX3_becomes_171 hX hS (by subst eg_23 eg_22 eg_21 eg_20 eg_19 eg_18 ex_17 eg_16 ex_15 eg_14 ex_13 eg_12 ex_11 eg_10 ex_9 eg_8 ex_7 eg_6 ex_5 eg_4 ex_3 eg_2 ex_1; simp only [e_X3_becomes, ← es_148])
      · have hlt_148 : t_148 < 4 := by have h9 := wx_up (by omega) c_24; have h8 : (4 : Int32).toNatClampNeg = 4 := (by decide); omega
        have bt_148 : wx_b (nI (t_148)) 0 3 := wb_nI (n := 3) (by omega) (by decide)
        refine lv_aload_n hx hb dX3_becomes_153 rfl (lv_at hl 1 rfl) ?_
        refine wx_getr (t := h + 6) (C := RX3) (T := TX3) (N := 15) (ci := 3) (j := 14) hx hb hts hi_X3 hown hK hX hh.l0 (sh_X3_14 hh) rfl (by decide) (hts (.fieldLink RX3 29 "SeenAgain$House" "guests" "[LSeenAgain$Visitor;") (by decide +kernel)) (fun _ h9 => h9) dX3_becomes_154 ?_
        refine lv_iload_n hx hb dX3_becomes_157 rfl (lv_at hl 0 rfl) ?_
        refine lv_aload_n hx hb dX3_becomes_158 rfl (lv_at hl 2 rfl) ?_
        refine wx_getr (t := ho + 6) (C := RX3) (T := TX3) (N := 15) (ci := 3) (j := 14) hx hb hts hi_X3 hown hK hX hho.l0 (sh_X3_14 hho) rfl (by decide) (hts (.fieldLink RX3 29 "SeenAgain$House" "guests" "[LSeenAgain$Visitor;") (by decide +kernel)) (fun _ h9 => h9) dX3_becomes_159 ?_
        refine lv_iload_n hx hb dX3_becomes_162 rfl (lv_at hl 0 rfl) ?_
        refine wx_gald hx hb hK hX (h := ho) hho.l6 hho (wb_in bt_148 (by decide) (by decide)) dX3_becomes_163 (fun q_25 ci_q_25 pi_q_25 hp_q_25 hv_q_25 => ?_)
        refine wx_gast hx hb hK hX hS (h := h) hh.l6 hh (wb_in bt_148 (by decide) (by decide)) hp_q_25 hv_q_25 dX3_becomes_164 (fun f H locs hX hS => ?_)
        obtain ⟨g_26, eg_26, hX⟩ := wx_nm hX
        refine lv_iinc (v := nI (t_148 + 1)) (lv' := [(2, .int (nI (t_148 + 1))), (0, .ref (ad h)), (1, .ref (ad ho))]) hx hb dX3_becomes_165 hl (k := 0) rfl (wx_inc _) (by decide) rfl (fun ls hl => ?_)
        refine lv_goto (tgt := 148) hx hb dX3_becomes_168 (by decide) ?_
        have hF_27 : (b_X3_becomes_148 g h ho x_1 g_2 x_3 g_4 x_5 g_6 x_7 g_8 x_9 g_10 x_11 g_12 x_13 g_14 x_15 g_16 x_17 g_18 g_19 g_20 g_21 g_22 g_23) t_148 s_148 = g_26 := (by subst eg_26; simp only [b_X3_becomes_148])
        exact ih_148 (t_148 + 1) g_26 ls H locs f P hlt_148 (by omega) (by rw [rep_succ, ← es_148, hF_27]) hX hS (lv_sub hl [0, 1, 2] rfl)
  exact lp_148 (4 + 1) 0 g_23 ls H locs f P (Nat.zero_le _) (by omega) rfl hX hS (lv_sub hl [0, 1, 2] rfl)
def f_X11_image (g : wx_M) (a1 : Int32) : wx_M × Int32 :=
  if a1 < 0 then
    (g, (-1000001))
  else
    if a1 < 2 then
      if (r_X3_stands g 20) = 0 then
        (g, (-1000002))
      else
        let h_7 := 35 + 7 * a1.toNatClampNeg
        let g_8 := e_X3_becomes g h_7 20
        (g_8, 1)
    else
      (g, (-1000001))
set_option maxHeartbeats 4000000 in
set_option maxRecDepth 100000 in
theorem k_X11_image (l : Launch) {D : va_G} {cy : Nat → ClassId} {ad : Nat → Nat} {B0 : Nat} {f : wx_F} {P : va_W} (g : wx_M) (a1 : Int32) : Met l yX11_image wsX11_image ({ frames := 2, cells := 0, slots := 0, locals := 82 } : Room) (wx_Pc D cy ad B0 f P g [.ref (ad 0), .int a1]) (wx_Qx D cy ad B0 (f_X11_image g a1).1 (some (.int (f_X11_image g a1).2))) 0 0 (fun q => B0 ≤ q) := by
  refine wx_enterXI (cc := cX11_image) (maxL := 2) (ty := .int) (own := RX11) (lv := [(0, .ref (ad 0)), (1, .int a1)]) (by decide) rfl rfl (Nat.le_of_ble_eq_true rfl) rfl ?_
  intro p e R s m args below meth c ls Qm hx hb hml hown hts hK hX hS hR hret hl
  have hi_X11 : ∀ w ∈ wsX110, w ∈ wsX11_image := by decide +kernel
  refine lv_iload_n hx hb dX11_image_0 rfl (lv_at hl 1 rfl) ?_
  refine lv_if_lt (tgt := 9) hx hb dX11_image_1 (by decide) (fun c_1 => ?_) (fun c_1 => ?_)
  · have b_2 : wx_b a1 (-2147483648) (-1) := wb_lt c_1 (wb_any _) (show wx_b 0 0 0 from ⟨by decide, by decide⟩) (by decide) (by decide)
    refine lv_ldc hx hb hown (hts (.constant RX11 55 (-1000001)) (by decide +kernel)) dX11_image_9 ?_
    exact hret _ _ _ _ _ _ _ _ dX11_image_11 rfl hX hS (by simp only [f_X11_image, if_pos c_1])
  · have b_3 : wx_b a1 0 2147483647 := wb_ge (wb_nlt c_1) (wb_any _) (show wx_b 0 0 0 from ⟨by decide, by decide⟩) (by decide) (by decide)
    refine lv_iload_n hx hb dX11_image_4 rfl (lv_at hl 1 rfl) ?_
    refine lv_iconst (v := 2) hx hb dX11_image_5 (by decide) ?_
    refine lv_icmp_lt (tgt := 12) hx hb dX11_image_6 (by decide) (fun c_4 => ?_) (fun c_4 => ?_)
    · have b_5 : wx_b a1 0 1 := wb_lt c_4 b_3 (show wx_b 2 2 2 from ⟨by decide, by decide⟩) (by decide) (by decide)
      refine lv_aload_n hx hb dX11_image_12 rfl (lv_at hl 0 rfl) ?_
      refine wx_getr (t := 20) (C := RX11) (T := TX11) (N := 8) (ci := 10) (j := 2) hx hb hts hi_X11 hown hK hX (by decide) sh_X11_2 rfl (by decide) (hts (.fieldLink RX11 25 "SeenAgain" "house" "LSeenAgain$House;") (by decide +kernel)) (fun _ h9 => h9) dX11_image_13 ?_
      refine wx_callr (va_runV (As := []) (rest := []) ⟨hx, hb, hml, hown, hts⟩ (k_X3_stands l g 20 (show wx_H 20 from Or.inl rfl)) (cwV 0 hts gX11_image_X3_stands rfl rfl rfl (by decide +kernel) (by rw [hR]; exact ⟨Nat.le_of_ble_eq_true rfl, Nat.le_of_ble_eq_true rfl⟩)) ⟨wx_Pc.blind, wx_recv hK hX (by decide) (sh_X3 (show wx_H 20 from Or.inl rfl)) rfl, (wx_Pc.pre hK hX).2⟩ rfl rfl hl.1 rfl (lv_room (Nat.le_of_ble_eq_true rfl)) dX11_image_16 ⟨Nat.zero_le _, Nat.zero_le _⟩) ?_
      refine lv_if_ne (tgt := 25) hx hb dX11_image_19 (by decide) (fun c_6 => ?_) (fun c_6 => ?_)
      · refine lv_aload_n hx hb dX11_image_25 rfl (lv_at hl 0 rfl) ?_
        refine wx_getr (t := 34) (C := RX11) (T := TX11) (N := 8) (ci := 10) (j := 4) hx hb hts hi_X11 hown hK hX (by decide) sh_X11_4 rfl (by decide) (hts (.fieldLink RX11 32 "SeenAgain" "images" "[LSeenAgain$House;") (by decide +kernel)) (fun _ h9 => h9) dX11_image_26 ?_
        refine lv_iload_n hx hb dX11_image_29 rfl (lv_at hl 1 rfl) ?_
        refine wx_qald (C := "SeenAgain$House") hx hb hK hX (by decide) sq_34 rfl (wb_in b_5 (by decide) (by decide)) dX11_image_30 ?_
        obtain ⟨h_7, eh_7⟩ : ∃ z : Nat, z = 35 + 7 * a1.toNatClampNeg := ⟨_, rfl⟩
        have hhh_7 : wx_H h_7 := wx_H_im eh_7 b_5
        rw [← eh_7]
        refine lv_aload_n hx hb dX11_image_31 rfl (lv_at hl 0 rfl) ?_
        refine wx_getr (t := 20) (C := RX11) (T := TX11) (N := 8) (ci := 10) (j := 2) hx hb hts hi_X11 hown hK hX (by decide) sh_X11_2 rfl (by decide) (hts (.fieldLink RX11 25 "SeenAgain" "house" "LSeenAgain$House;") (by decide +kernel)) (fun _ h9 => h9) dX11_image_32 ?_
        refine wx_callxv (va_runV (As := [.ref (ad 20)]) (rest := []) ⟨hx, hb, hml, hown, hts⟩ (k_X3_becomes l g h_7 20 hhh_7 (show wx_H 20 from Or.inl rfl)) (cwV 1 hts gX11_image_X3_becomes rfl rfl rfl (by decide +kernel) (by rw [hR]; exact ⟨Nat.le_of_ble_eq_true rfl, Nat.le_of_ble_eq_true rfl⟩)) ⟨wx_Pc.blind, wx_recv hK hX hhh_7.l0 (sh_X3 hhh_7) rfl, (wx_Pc.pre hK hX).2⟩ rfl rfl hl.1 rfl (lv_room (Nat.le_of_ble_eq_true rfl)) dX11_image_35 ⟨Nat.zero_le _, Nat.zero_le _⟩) hS (fun f P H locs hX hS => ?_)
        obtain ⟨g_8, eg_8, hX⟩ := wx_nm hX
        refine lv_iconst (v := 1) hx hb dX11_image_38 (by decide) ?_
        exact hret _ _ _ _ _ _ _ _ dX11_image_39 rfl hX hS (by subst eg_8 eh_7; simp only [f_X11_image, if_neg c_1, if_pos c_4, if_neg c_6])
      · have b_9 : wx_b (r_X3_stands g 20) 0 0 := by rw [c_6]; exact ⟨by decide, by decide⟩
        refine lv_ldc hx hb hown (hts (.constant RX11 126 (-1000002)) (by decide +kernel)) dX11_image_22 ?_
        exact hret _ _ _ _ _ _ _ _ dX11_image_24 rfl hX hS (by simp only [f_X11_image, if_neg c_1, if_pos c_4, if_pos c_6])
    · have b_10 : wx_b a1 2 2147483647 := wb_ge (wb_nlt c_4) b_3 (show wx_b 2 2 2 from ⟨by decide, by decide⟩) (by decide) (by decide)
      refine lv_ldc hx hb hown (hts (.constant RX11 55 (-1000001)) (by decide +kernel)) dX11_image_9 ?_
      exact hret _ _ _ _ _ _ _ _ dX11_image_11 rfl hX hS (by simp only [f_X11_image, if_neg c_1, if_neg c_4])
def f_X11_restore (g : wx_M) (a1 : Int32) : wx_M × Int32 :=
  if a1 < 0 then
    (g, (-1000001))
  else
    if a1 < 2 then
      let h_6 := 35 + 7 * a1.toNatClampNeg
      if (r_X3_stands g h_6) = 0 then
        (g, (-1000002))
      else
        let h_8 := 35 + 7 * a1.toNatClampNeg
        let g_9 := e_X3_becomes g 20 h_8
        let g_10 := e_X0_forgetAll g_9
        (g_10, 1)
    else
      (g, (-1000001))
set_option maxHeartbeats 4000000 in
set_option maxRecDepth 100000 in
theorem k_X11_restore (l : Launch) {D : va_G} {cy : Nat → ClassId} {ad : Nat → Nat} {B0 : Nat} {f : wx_F} {P : va_W} (g : wx_M) (a1 : Int32) : Met l yX11_restore wsX11_restore ({ frames := 2, cells := 0, slots := 0, locals := 82 } : Room) (wx_Pc D cy ad B0 f P g [.ref (ad 0), .int a1]) (wx_Qx D cy ad B0 (f_X11_restore g a1).1 (some (.int (f_X11_restore g a1).2))) 0 0 (fun q => B0 ≤ q) := by
  refine wx_enterXI (cc := cX11_restore) (maxL := 2) (ty := .int) (own := RX11) (lv := [(0, .ref (ad 0)), (1, .int a1)]) (by decide) rfl rfl (Nat.le_of_ble_eq_true rfl) rfl ?_
  intro p e R s m args below meth c ls Qm hx hb hml hown hts hK hX hS hR hret hl
  have hi_X11 : ∀ w ∈ wsX110, w ∈ wsX11_restore := by decide +kernel
  refine lv_iload_n hx hb dX11_restore_0 rfl (lv_at hl 1 rfl) ?_
  refine lv_if_lt (tgt := 9) hx hb dX11_restore_1 (by decide) (fun c_1 => ?_) (fun c_1 => ?_)
  · have b_2 : wx_b a1 (-2147483648) (-1) := wb_lt c_1 (wb_any _) (show wx_b 0 0 0 from ⟨by decide, by decide⟩) (by decide) (by decide)
    refine lv_ldc hx hb hown (hts (.constant RX11 55 (-1000001)) (by decide +kernel)) dX11_restore_9 ?_
    exact hret _ _ _ _ _ _ _ _ dX11_restore_11 rfl hX hS (by simp only [f_X11_restore, if_pos c_1])
  · have b_3 : wx_b a1 0 2147483647 := wb_ge (wb_nlt c_1) (wb_any _) (show wx_b 0 0 0 from ⟨by decide, by decide⟩) (by decide) (by decide)
    refine lv_iload_n hx hb dX11_restore_4 rfl (lv_at hl 1 rfl) ?_
    refine lv_iconst (v := 2) hx hb dX11_restore_5 (by decide) ?_
    refine lv_icmp_lt (tgt := 12) hx hb dX11_restore_6 (by decide) (fun c_4 => ?_) (fun c_4 => ?_)
    · have b_5 : wx_b a1 0 1 := wb_lt c_4 b_3 (show wx_b 2 2 2 from ⟨by decide, by decide⟩) (by decide) (by decide)
      refine lv_aload_n hx hb dX11_restore_12 rfl (lv_at hl 0 rfl) ?_
      refine wx_getr (t := 34) (C := RX11) (T := TX11) (N := 8) (ci := 10) (j := 4) hx hb hts hi_X11 hown hK hX (by decide) sh_X11_4 rfl (by decide) (hts (.fieldLink RX11 32 "SeenAgain" "images" "[LSeenAgain$House;") (by decide +kernel)) (fun _ h9 => h9) dX11_restore_13 ?_
      refine lv_iload_n hx hb dX11_restore_16 rfl (lv_at hl 1 rfl) ?_
      refine wx_qald (C := "SeenAgain$House") hx hb hK hX (by decide) sq_34 rfl (wb_in b_5 (by decide) (by decide)) dX11_restore_17 ?_
      obtain ⟨h_6, eh_6⟩ : ∃ z : Nat, z = 35 + 7 * a1.toNatClampNeg := ⟨_, rfl⟩
      have hhh_6 : wx_H h_6 := wx_H_im eh_6 b_5
      rw [← eh_6]
      refine wx_callr (va_runV (As := []) (rest := []) ⟨hx, hb, hml, hown, hts⟩ (k_X3_stands l g h_6 hhh_6) (cwV 0 hts gX11_restore_X3_stands rfl rfl rfl (by decide +kernel) (by rw [hR]; exact ⟨Nat.le_of_ble_eq_true rfl, Nat.le_of_ble_eq_true rfl⟩)) ⟨wx_Pc.blind, wx_recv hK hX hhh_6.l0 (sh_X3 hhh_6) rfl, (wx_Pc.pre hK hX).2⟩ rfl rfl hl.1 rfl (lv_room (Nat.le_of_ble_eq_true rfl)) dX11_restore_18 ⟨Nat.zero_le _, Nat.zero_le _⟩) ?_
      refine lv_if_ne (tgt := 27) hx hb dX11_restore_21 (by decide) (fun c_7 => ?_) (fun c_7 => ?_)
      · refine lv_aload_n hx hb dX11_restore_27 rfl (lv_at hl 0 rfl) ?_
        refine wx_getr (t := 20) (C := RX11) (T := TX11) (N := 8) (ci := 10) (j := 2) hx hb hts hi_X11 hown hK hX (by decide) sh_X11_2 rfl (by decide) (hts (.fieldLink RX11 25 "SeenAgain" "house" "LSeenAgain$House;") (by decide +kernel)) (fun _ h9 => h9) dX11_restore_28 ?_
        refine lv_aload_n hx hb dX11_restore_31 rfl (lv_at hl 0 rfl) ?_
        refine wx_getr (t := 34) (C := RX11) (T := TX11) (N := 8) (ci := 10) (j := 4) hx hb hts hi_X11 hown hK hX (by decide) sh_X11_4 rfl (by decide) (hts (.fieldLink RX11 32 "SeenAgain" "images" "[LSeenAgain$House;") (by decide +kernel)) (fun _ h9 => h9) dX11_restore_32 ?_
        refine lv_iload_n hx hb dX11_restore_35 rfl (lv_at hl 1 rfl) ?_
        refine wx_qald (C := "SeenAgain$House") hx hb hK hX (by decide) sq_34 rfl (wb_in b_5 (by decide) (by decide)) dX11_restore_36 ?_
        obtain ⟨h_8, eh_8⟩ : ∃ z : Nat, z = 35 + 7 * a1.toNatClampNeg := ⟨_, rfl⟩
        have hhh_8 : wx_H h_8 := wx_H_im eh_8 b_5
        rw [← eh_8]
        refine wx_callxv (va_runV (As := [.ref (ad h_8)]) (rest := []) ⟨hx, hb, hml, hown, hts⟩ (k_X3_becomes l g 20 h_8 (show wx_H 20 from Or.inl rfl) hhh_8) (cwV 1 hts gX11_restore_X3_becomes rfl rfl rfl (by decide +kernel) (by rw [hR]; exact ⟨Nat.le_of_ble_eq_true rfl, Nat.le_of_ble_eq_true rfl⟩)) ⟨wx_Pc.blind, wx_recv hK hX (by decide) (sh_X3 (show wx_H 20 from Or.inl rfl)) rfl, (wx_Pc.pre hK hX).2⟩ rfl rfl hl.1 rfl (lv_room (Nat.le_of_ble_eq_true rfl)) dX11_restore_37 ⟨Nat.zero_le _, Nat.zero_le _⟩) hS (fun f P H locs hX hS => ?_)
        obtain ⟨g_9, eg_9, hX⟩ := wx_nm hX
        refine lv_aload_n hx hb dX11_restore_40 rfl (lv_at hl 0 rfl) ?_
        refine wx_getr (t := 49) (C := RX11) (T := TX11) (N := 8) (ci := 10) (j := 5) hx hb hts hi_X11 hown hK hX (by decide) sh_X11_5 rfl (by decide) (hts (.fieldLink RX11 39 "SeenAgain" "acts" "LSeenAgain$Acts;") (by decide +kernel)) (fun _ h9 => h9) dX11_restore_41 ?_
        refine wx_callev (va_runV (As := []) (rest := []) ⟨hx, hb, hml, hown, hts⟩ (k_X0_forgetAll l g_9) (cwV 0 hts gX11_restore_X0_forgetAll rfl rfl rfl (by decide +kernel) (by rw [hR]; exact ⟨Nat.le_of_ble_eq_true rfl, Nat.le_of_ble_eq_true rfl⟩)) ⟨wx_Pc.blind, wx_recv hK hX (by decide) sh_X0 rfl, (wx_Pc.pre hK hX).2⟩ rfl rfl hl.1 rfl (lv_room (Nat.le_of_ble_eq_true rfl)) dX11_restore_44 ⟨Nat.zero_le _, Nat.zero_le _⟩) hS (fun H locs hX hS => ?_)
        obtain ⟨g_10, eg_10, hX⟩ := wx_nm hX
        refine lv_iconst (v := 1) hx hb dX11_restore_47 (by decide) ?_
        exact hret _ _ _ _ _ _ _ _ dX11_restore_48 rfl hX hS (by subst eg_10 eg_9 eh_8 eh_6; simp only [f_X11_restore, if_neg c_1, if_pos c_4, if_neg c_7])
      · have b_11 : wx_b (r_X3_stands g h_6) 0 0 := by rw [c_7]; exact ⟨by decide, by decide⟩
        refine lv_ldc hx hb hown (hts (.constant RX11 126 (-1000002)) (by decide +kernel)) dX11_restore_24 ?_
        exact hret _ _ _ _ _ _ _ _ dX11_restore_26 rfl hX hS (by subst eh_6; simp only [f_X11_restore, if_neg c_1, if_pos c_4, if_pos c_7])
    · have b_12 : wx_b a1 2 2147483647 := wb_ge (wb_nlt c_4) b_3 (show wx_b 2 2 2 from ⟨by decide, by decide⟩) (by decide) (by decide)
      refine lv_ldc hx hb hown (hts (.constant RX11 55 (-1000001)) (by decide +kernel)) dX11_restore_9 ?_
      exact hret _ _ _ _ _ _ _ _ dX11_restore_11 rfl hX hS (by simp only [f_X11_restore, if_neg c_1, if_neg c_4])
