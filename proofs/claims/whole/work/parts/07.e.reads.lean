def f_X6_readLaw (g : wx_M) (ho : Nat) : wx_M × Int32 :=
  let z_1 := f_X6_take g 104
  if z_1.2 = 0 then
    (z_1.1, 0)
  else
    let z_4 := f_X6_numberStands z_1.1 2 6
    if z_4.2 = 0 then
      (z_4.1, 0)
    else
      let x_7 := (z_4.1 18 7)
      let g_8 := up2 z_4.1 ho 0 x_7
      let g_9 := e_X6_step g_8
      let z_10 := f_X6_take g_9 44
      if z_10.2 = 0 then
        (z_10.1, 0)
      else
        let z_13 := f_X6_numberStands z_10.1 1 5
        if z_13.2 = 0 then
          (z_13.1, 0)
        else
          let x_16 := (z_13.1 18 7)
          let g_17 := up2 z_13.1 ho 1 x_16
          let g_18 := e_X6_step g_17
          let z_19 := f_X6_take g_18 44
          if z_19.2 = 0 then
            (z_19.1, 0)
          else
            let z_22 := f_X6_numberStands z_19.1 0 20
            if z_22.2 = 0 then
              (z_22.1, 0)
            else
              let x_25 := (z_22.1 18 7)
              let g_26 := up2 z_22.1 ho 2 x_25
              let g_27 := e_X6_step g_26
              let z_28 := f_X6_take g_27 59
              (z_28.1, z_28.2)
set_option maxHeartbeats 4000000 in
set_option maxRecDepth 100000 in
theorem k_X6_readLaw (l : Launch) {D : va_G} {cy : Nat → ClassId} {ad : Nat → Nat} {B0 : Nat} {f : wx_F} {P : va_W} (g : wx_M) (ho : Nat) (hho : wx_H ho) (hT : wx_TB g) (hro : wx_b (g ho 0) 0 6) : Met l yX6_readLaw wsX6_readLaw ({ frames := 4, cells := 0, slots := 0, locals := 83 } : Room) (wx_Pc D cy ad B0 f P g [.ref (ad 18), .ref (ad ho)]) (wx_Qe D cy ad B0 f P (f_X6_readLaw g ho).1 (some (.int (f_X6_readLaw g ho).2))) 0 0 (fun q => B0 ≤ q) := by
  refine wx_enterE (cc := cX6_readLaw) (maxL := 2) (ty := .boolean) (own := RX6) (lv := [(0, .ref (ad 18)), (1, .ref (ad ho))]) (by decide) rfl rfl (Nat.le_of_ble_eq_true rfl) rfl ?_
  intro p e R s m args below meth c ls Qm hx hb hml hown hts hK hX hS hR hret hl
  have hi_X6 : ∀ w ∈ wsX60, w ∈ wsX6_readLaw := by decide +kernel
  have hi_X3 : ∀ w ∈ wsX30, w ∈ wsX6_readLaw := by decide +kernel
  refine lv_aload_n hx hb dX6_readLaw_0 rfl (lv_at hl 0 rfl) ?_
  refine lv_bipush (v := 104) hx hb dX6_readLaw_1 (by decide) ?_
  refine wx_callei (va_runV (As := [.int 104]) (rest := []) ⟨hx, hb, hml, hown, hts⟩ (k_X6_take l g 104 hT) (cwV 1 hts gX6_readLaw_X6_take rfl rfl rfl (by decide +kernel) (by rw [hR]; exact ⟨Nat.le_of_ble_eq_true rfl, Nat.le_of_ble_eq_true rfl⟩)) ⟨wx_Pc.blind, wx_recv hK hX (by decide) sh_X6 rfl, (wx_Pc.pre hK hX).2⟩ rfl rfl hl.1 rfl (lv_room (Nat.le_of_ble_eq_true rfl)) dX6_readLaw_3 ⟨Nat.zero_le _, Nat.zero_le _⟩) hS (fun H locs hX hS => ?_)
  obtain ⟨z_1, ez_1⟩ : ∃ z, z = f_X6_take g 104 := ⟨_, rfl⟩
  rw [← ez_1] at hX; rw [← ez_1]
  refine lv_if_eq (tgt := 19) hx hb dX6_readLaw_6 (by decide) (fun c_2 => ?_) (fun c_2 => ?_)
  · have b_3 : wx_b z_1.2 0 0 := by rw [c_2]; exact ⟨by decide, by decide⟩
    refine lv_iconst (v := 0) hx hb dX6_readLaw_19 (by decide) ?_
    exact hret _ _ _ _ _ _ dX6_readLaw_20 rfl hX hS (by subst ez_1; simp only [f_X6_readLaw, if_pos c_2])
  · refine lv_aload_n hx hb dX6_readLaw_9 rfl (lv_at hl 0 rfl) ?_
    refine lv_iconst (v := 2) hx hb dX6_readLaw_10 (by decide) ?_
    refine lv_bipush (v := 6) hx hb dX6_readLaw_11 (by decide) ?_
    refine wx_callei (va_runV (As := [.int 2, .int 6]) (rest := []) ⟨hx, hb, hml, hown, hts⟩ (k_X6_numberStands l z_1.1 2 6 (by rw [ez_1]; exact tT_X6_take hT)) (cwV 2 hts gX6_readLaw_X6_numberStands rfl rfl rfl (by decide +kernel) (by rw [hR]; exact ⟨Nat.le_of_ble_eq_true rfl, Nat.le_of_ble_eq_true rfl⟩)) ⟨wx_Pc.blind, wx_recv hK hX (by decide) sh_X6 rfl, (wx_Pc.pre hK hX).2⟩ rfl rfl hl.1 rfl (lv_room (Nat.le_of_ble_eq_true rfl)) dX6_readLaw_13 ⟨Nat.zero_le _, Nat.zero_le _⟩) hS (fun H locs hX hS => ?_)
    obtain ⟨z_4, ez_4⟩ : ∃ z, z = f_X6_numberStands z_1.1 2 6 := ⟨_, rfl⟩
    rw [← ez_4] at hX; rw [← ez_4]
    refine lv_if_ne (tgt := 21) hx hb dX6_readLaw_16 (by decide) (fun c_5 => ?_) (fun c_5 => ?_)
    · have b_6 : wx_b (z_4.1 18 7) 2 6 := by rw [ez_4]; exact ns_b (show wx_b 2 2 2 from ⟨by decide, by decide⟩) (show wx_b 6 6 6 from ⟨by decide, by decide⟩) (by rw [← ez_4]; exact c_5)
      refine lv_aload_n hx hb dX6_readLaw_21 rfl (lv_at hl 1 rfl) ?_
      refine lv_aload_n hx hb dX6_readLaw_22 rfl (lv_at hl 0 rfl) ?_
      refine wx_geti (C := RX6) (T := TX6) (N := 8) (ci := 6) (j := 7) hx hb hts hi_X6 hown hK hX (by decide) sh_X6_7 rfl (by decide) (hts (.fieldLink RX6 48 "SeenAgain$Tape" "number" "I") (by decide +kernel)) (fun _ h9 => h9) dX6_readLaw_23 ?_
      refine lv_topi (fun x_7 ex_7 => ?_)
      have bx_7 : wx_b x_7 2 6 := by rw [ex_7]; exact b_6
      refine wx_puti (C := RX3) (T := TX3) (N := 15) (ci := 3) (j := 0) (ty := .int) hx hb hts hi_X3 tyX3 tyX3_ok nmX3 hown hK hX hS hho.l0 (sh_X3_0 hho) rfl (by decide) (hts (.fieldLink RX6 51 "SeenAgain$House" "rooms" "I") (by decide +kernel)) (fun _ h9 => h9) rfl (by decide +kernel) rfl rfl dX6_readLaw_26 (fun H locs hX hS => ?_)
      obtain ⟨g_8, eg_8, hX⟩ := wx_nm hX
      refine lv_aload_n hx hb dX6_readLaw_29 rfl (lv_at hl 0 rfl) ?_
      refine wx_callev (va_runV (As := []) (rest := []) ⟨hx, hb, hml, hown, hts⟩ (k_X6_step l g_8 (by rw [eg_8]; exact tT_n (by rcases hho with rfl | rfl | rfl | rfl <;> decide) (by rw [ez_4]; exact tT_X6_numberStands (by rw [ez_1]; exact tT_X6_take hT)))) (cwV 0 hts gX6_readLaw_X6_step rfl rfl rfl (by decide +kernel) (by rw [hR]; exact ⟨Nat.le_of_ble_eq_true rfl, Nat.le_of_ble_eq_true rfl⟩)) ⟨wx_Pc.blind, wx_recv hK hX (by decide) sh_X6 rfl, (wx_Pc.pre hK hX).2⟩ rfl rfl hl.1 rfl (lv_room (Nat.le_of_ble_eq_true rfl)) dX6_readLaw_30 ⟨Nat.zero_le _, Nat.zero_le _⟩) hS (fun H locs hX hS => ?_)
      obtain ⟨g_9, eg_9, hX⟩ := wx_nm hX
      refine lv_aload_n hx hb dX6_readLaw_33 rfl (lv_at hl 0 rfl) ?_
      refine lv_bipush (v := 44) hx hb dX6_readLaw_34 (by decide) ?_
      refine wx_callei (va_runV (As := [.int 44]) (rest := []) ⟨hx, hb, hml, hown, hts⟩ (k_X6_take l g_9 44 (by rw [eg_9]; exact tT_X6_step (by rw [eg_8]; exact tT_n (by rcases hho with rfl | rfl | rfl | rfl <;> decide) (by rw [ez_4]; exact tT_X6_numberStands (by rw [ez_1]; exact tT_X6_take hT))))) (cwV 1 hts gX6_readLaw_X6_take rfl rfl rfl (by decide +kernel) (by rw [hR]; exact ⟨Nat.le_of_ble_eq_true rfl, Nat.le_of_ble_eq_true rfl⟩)) ⟨wx_Pc.blind, wx_recv hK hX (by decide) sh_X6 rfl, (wx_Pc.pre hK hX).2⟩ rfl rfl hl.1 rfl (lv_room (Nat.le_of_ble_eq_true rfl)) dX6_readLaw_36 ⟨Nat.zero_le _, Nat.zero_le _⟩) hS (fun H locs hX hS => ?_)
      obtain ⟨z_10, ez_10⟩ : ∃ z, z = f_X6_take g_9 44 := ⟨_, rfl⟩
      rw [← ez_10] at hX; rw [← ez_10]
      refine lv_if_eq (tgt := 51) hx hb dX6_readLaw_39 (by decide) (fun c_11 => ?_) (fun c_11 => ?_)
      · have b_12 : wx_b z_10.2 0 0 := by rw [c_11]; exact ⟨by decide, by decide⟩
        refine lv_iconst (v := 0) hx hb dX6_readLaw_51 (by decide) ?_
        exact hret _ _ _ _ _ _ dX6_readLaw_52 rfl hX hS (by subst ez_10 eg_9 eg_8 ex_7 ez_4 ez_1; simp only [f_X6_readLaw, if_neg c_2, if_neg c_5, if_pos c_11])
      · refine lv_aload_n hx hb dX6_readLaw_42 rfl (lv_at hl 0 rfl) ?_
        refine lv_iconst (v := 1) hx hb dX6_readLaw_43 (by decide) ?_
        refine lv_iconst (v := 5) hx hb dX6_readLaw_44 (by decide) ?_
        refine wx_callei (va_runV (As := [.int 1, .int 5]) (rest := []) ⟨hx, hb, hml, hown, hts⟩ (k_X6_numberStands l z_10.1 1 5 (by rw [ez_10]; exact tT_X6_take (by rw [eg_9]; exact tT_X6_step (by rw [eg_8]; exact tT_n (by rcases hho with rfl | rfl | rfl | rfl <;> decide) (by rw [ez_4]; exact tT_X6_numberStands (by rw [ez_1]; exact tT_X6_take hT)))))) (cwV 2 hts gX6_readLaw_X6_numberStands rfl rfl rfl (by decide +kernel) (by rw [hR]; exact ⟨Nat.le_of_ble_eq_true rfl, Nat.le_of_ble_eq_true rfl⟩)) ⟨wx_Pc.blind, wx_recv hK hX (by decide) sh_X6 rfl, (wx_Pc.pre hK hX).2⟩ rfl rfl hl.1 rfl (lv_room (Nat.le_of_ble_eq_true rfl)) dX6_readLaw_45 ⟨Nat.zero_le _, Nat.zero_le _⟩) hS (fun H locs hX hS => ?_)
        obtain ⟨z_13, ez_13⟩ : ∃ z, z = f_X6_numberStands z_10.1 1 5 := ⟨_, rfl⟩
        rw [← ez_13] at hX; rw [← ez_13]
        refine lv_if_ne (tgt := 53) hx hb dX6_readLaw_48 (by decide) (fun c_14 => ?_) (fun c_14 => ?_)
        · have b_15 : wx_b (z_13.1 18 7) 1 5 := by rw [ez_13]; exact ns_b (show wx_b 1 1 1 from ⟨by decide, by decide⟩) (show wx_b 5 5 5 from ⟨by decide, by decide⟩) (by rw [← ez_13]; exact c_14)
          refine lv_aload_n hx hb dX6_readLaw_53 rfl (lv_at hl 1 rfl) ?_
          refine lv_aload_n hx hb dX6_readLaw_54 rfl (lv_at hl 0 rfl) ?_
          refine wx_geti (C := RX6) (T := TX6) (N := 8) (ci := 6) (j := 7) hx hb hts hi_X6 hown hK hX (by decide) sh_X6_7 rfl (by decide) (hts (.fieldLink RX6 48 "SeenAgain$Tape" "number" "I") (by decide +kernel)) (fun _ h9 => h9) dX6_readLaw_55 ?_
          refine lv_topi (fun x_16 ex_16 => ?_)
          have bx_16 : wx_b x_16 1 5 := by rw [ex_16]; exact b_15
          refine wx_puti (C := RX3) (T := TX3) (N := 15) (ci := 3) (j := 1) (ty := .int) hx hb hts hi_X3 tyX3 tyX3_ok nmX3 hown hK hX hS hho.l0 (sh_X3_1 hho) rfl (by decide) (hts (.fieldLink RX6 54 "SeenAgain$House" "seats" "I") (by decide +kernel)) (fun _ h9 => h9) rfl (by decide +kernel) rfl rfl dX6_readLaw_58 (fun H locs hX hS => ?_)
          obtain ⟨g_17, eg_17, hX⟩ := wx_nm hX
          refine lv_aload_n hx hb dX6_readLaw_61 rfl (lv_at hl 0 rfl) ?_
          refine wx_callev (va_runV (As := []) (rest := []) ⟨hx, hb, hml, hown, hts⟩ (k_X6_step l g_17 (by rw [eg_17]; exact tT_n (by rcases hho with rfl | rfl | rfl | rfl <;> decide) (by rw [ez_13]; exact tT_X6_numberStands (by rw [ez_10]; exact tT_X6_take (by rw [eg_9]; exact tT_X6_step (by rw [eg_8]; exact tT_n (by rcases hho with rfl | rfl | rfl | rfl <;> decide) (by rw [ez_4]; exact tT_X6_numberStands (by rw [ez_1]; exact tT_X6_take hT)))))))) (cwV 0 hts gX6_readLaw_X6_step rfl rfl rfl (by decide +kernel) (by rw [hR]; exact ⟨Nat.le_of_ble_eq_true rfl, Nat.le_of_ble_eq_true rfl⟩)) ⟨wx_Pc.blind, wx_recv hK hX (by decide) sh_X6 rfl, (wx_Pc.pre hK hX).2⟩ rfl rfl hl.1 rfl (lv_room (Nat.le_of_ble_eq_true rfl)) dX6_readLaw_62 ⟨Nat.zero_le _, Nat.zero_le _⟩) hS (fun H locs hX hS => ?_)
          obtain ⟨g_18, eg_18, hX⟩ := wx_nm hX
          refine lv_aload_n hx hb dX6_readLaw_65 rfl (lv_at hl 0 rfl) ?_
          refine lv_bipush (v := 44) hx hb dX6_readLaw_66 (by decide) ?_
          refine wx_callei (va_runV (As := [.int 44]) (rest := []) ⟨hx, hb, hml, hown, hts⟩ (k_X6_take l g_18 44 (by rw [eg_18]; exact tT_X6_step (by rw [eg_17]; exact tT_n (by rcases hho with rfl | rfl | rfl | rfl <;> decide) (by rw [ez_13]; exact tT_X6_numberStands (by rw [ez_10]; exact tT_X6_take (by rw [eg_9]; exact tT_X6_step (by rw [eg_8]; exact tT_n (by rcases hho with rfl | rfl | rfl | rfl <;> decide) (by rw [ez_4]; exact tT_X6_numberStands (by rw [ez_1]; exact tT_X6_take hT))))))))) (cwV 1 hts gX6_readLaw_X6_take rfl rfl rfl (by decide +kernel) (by rw [hR]; exact ⟨Nat.le_of_ble_eq_true rfl, Nat.le_of_ble_eq_true rfl⟩)) ⟨wx_Pc.blind, wx_recv hK hX (by decide) sh_X6 rfl, (wx_Pc.pre hK hX).2⟩ rfl rfl hl.1 rfl (lv_room (Nat.le_of_ble_eq_true rfl)) dX6_readLaw_68 ⟨Nat.zero_le _, Nat.zero_le _⟩) hS (fun H locs hX hS => ?_)
          obtain ⟨z_19, ez_19⟩ : ∃ z, z = f_X6_take g_18 44 := ⟨_, rfl⟩
          rw [← ez_19] at hX; rw [← ez_19]
          refine lv_if_eq (tgt := 84) hx hb dX6_readLaw_71 (by decide) (fun c_20 => ?_) (fun c_20 => ?_)
          · have b_21 : wx_b z_19.2 0 0 := by rw [c_20]; exact ⟨by decide, by decide⟩
            refine lv_iconst (v := 0) hx hb dX6_readLaw_84 (by decide) ?_
            exact hret _ _ _ _ _ _ dX6_readLaw_85 rfl hX hS (by subst ez_19 eg_18 eg_17 ex_16 ez_13 ez_10 eg_9 eg_8 ex_7 ez_4 ez_1; simp only [f_X6_readLaw, if_neg c_2, if_neg c_5, if_neg c_11, if_neg c_14, if_pos c_20])
          · refine lv_aload_n hx hb dX6_readLaw_74 rfl (lv_at hl 0 rfl) ?_
            refine lv_iconst (v := 0) hx hb dX6_readLaw_75 (by decide) ?_
            refine lv_bipush (v := 20) hx hb dX6_readLaw_76 (by decide) ?_
            refine wx_callei (va_runV (As := [.int 0, .int 20]) (rest := []) ⟨hx, hb, hml, hown, hts⟩ (k_X6_numberStands l z_19.1 0 20 (by rw [ez_19]; exact tT_X6_take (by rw [eg_18]; exact tT_X6_step (by rw [eg_17]; exact tT_n (by rcases hho with rfl | rfl | rfl | rfl <;> decide) (by rw [ez_13]; exact tT_X6_numberStands (by rw [ez_10]; exact tT_X6_take (by rw [eg_9]; exact tT_X6_step (by rw [eg_8]; exact tT_n (by rcases hho with rfl | rfl | rfl | rfl <;> decide) (by rw [ez_4]; exact tT_X6_numberStands (by rw [ez_1]; exact tT_X6_take hT)))))))))) (cwV 2 hts gX6_readLaw_X6_numberStands rfl rfl rfl (by decide +kernel) (by rw [hR]; exact ⟨Nat.le_of_ble_eq_true rfl, Nat.le_of_ble_eq_true rfl⟩)) ⟨wx_Pc.blind, wx_recv hK hX (by decide) sh_X6 rfl, (wx_Pc.pre hK hX).2⟩ rfl rfl hl.1 rfl (lv_room (Nat.le_of_ble_eq_true rfl)) dX6_readLaw_78 ⟨Nat.zero_le _, Nat.zero_le _⟩) hS (fun H locs hX hS => ?_)
            obtain ⟨z_22, ez_22⟩ : ∃ z, z = f_X6_numberStands z_19.1 0 20 := ⟨_, rfl⟩
            rw [← ez_22] at hX; rw [← ez_22]
            refine lv_if_ne (tgt := 86) hx hb dX6_readLaw_81 (by decide) (fun c_23 => ?_) (fun c_23 => ?_)
            · have b_24 : wx_b (z_22.1 18 7) 0 20 := by rw [ez_22]; exact ns_b (show wx_b 0 0 0 from ⟨by decide, by decide⟩) (show wx_b 20 20 20 from ⟨by decide, by decide⟩) (by rw [← ez_22]; exact c_23)
              refine lv_aload_n hx hb dX6_readLaw_86 rfl (lv_at hl 1 rfl) ?_
              refine lv_aload_n hx hb dX6_readLaw_87 rfl (lv_at hl 0 rfl) ?_
              refine wx_geti (C := RX6) (T := TX6) (N := 8) (ci := 6) (j := 7) hx hb hts hi_X6 hown hK hX (by decide) sh_X6_7 rfl (by decide) (hts (.fieldLink RX6 48 "SeenAgain$Tape" "number" "I") (by decide +kernel)) (fun _ h9 => h9) dX6_readLaw_88 ?_
              refine lv_topi (fun x_25 ex_25 => ?_)
              have bx_25 : wx_b x_25 0 20 := by rw [ex_25]; exact b_24
              refine wx_puti (C := RX3) (T := TX3) (N := 15) (ci := 3) (j := 2) (ty := .int) hx hb hts hi_X3 tyX3 tyX3_ok nmX3 hown hK hX hS hho.l0 (sh_X3_2 hho) rfl (by decide) (hts (.fieldLink RX6 57 "SeenAgain$House" "fee" "I") (by decide +kernel)) (fun _ h9 => h9) rfl (by decide +kernel) rfl rfl dX6_readLaw_91 (fun H locs hX hS => ?_)
              obtain ⟨g_26, eg_26, hX⟩ := wx_nm hX
              refine lv_aload_n hx hb dX6_readLaw_94 rfl (lv_at hl 0 rfl) ?_
              refine wx_callev (va_runV (As := []) (rest := []) ⟨hx, hb, hml, hown, hts⟩ (k_X6_step l g_26 (by rw [eg_26]; exact tT_n (by rcases hho with rfl | rfl | rfl | rfl <;> decide) (by rw [ez_22]; exact tT_X6_numberStands (by rw [ez_19]; exact tT_X6_take (by rw [eg_18]; exact tT_X6_step (by rw [eg_17]; exact tT_n (by rcases hho with rfl | rfl | rfl | rfl <;> decide) (by rw [ez_13]; exact tT_X6_numberStands (by rw [ez_10]; exact tT_X6_take (by rw [eg_9]; exact tT_X6_step (by rw [eg_8]; exact tT_n (by rcases hho with rfl | rfl | rfl | rfl <;> decide) (by rw [ez_4]; exact tT_X6_numberStands (by rw [ez_1]; exact tT_X6_take hT)))))))))))) (cwV 0 hts gX6_readLaw_X6_step rfl rfl rfl (by decide +kernel) (by rw [hR]; exact ⟨Nat.le_of_ble_eq_true rfl, Nat.le_of_ble_eq_true rfl⟩)) ⟨wx_Pc.blind, wx_recv hK hX (by decide) sh_X6 rfl, (wx_Pc.pre hK hX).2⟩ rfl rfl hl.1 rfl (lv_room (Nat.le_of_ble_eq_true rfl)) dX6_readLaw_95 ⟨Nat.zero_le _, Nat.zero_le _⟩) hS (fun H locs hX hS => ?_)
              obtain ⟨g_27, eg_27, hX⟩ := wx_nm hX
              refine lv_aload_n hx hb dX6_readLaw_98 rfl (lv_at hl 0 rfl) ?_
              refine lv_bipush (v := 59) hx hb dX6_readLaw_99 (by decide) ?_
              refine wx_callei (va_runV (As := [.int 59]) (rest := []) ⟨hx, hb, hml, hown, hts⟩ (k_X6_take l g_27 59 (by rw [eg_27]; exact tT_X6_step (by rw [eg_26]; exact tT_n (by rcases hho with rfl | rfl | rfl | rfl <;> decide) (by rw [ez_22]; exact tT_X6_numberStands (by rw [ez_19]; exact tT_X6_take (by rw [eg_18]; exact tT_X6_step (by rw [eg_17]; exact tT_n (by rcases hho with rfl | rfl | rfl | rfl <;> decide) (by rw [ez_13]; exact tT_X6_numberStands (by rw [ez_10]; exact tT_X6_take (by rw [eg_9]; exact tT_X6_step (by rw [eg_8]; exact tT_n (by rcases hho with rfl | rfl | rfl | rfl <;> decide) (by rw [ez_4]; exact tT_X6_numberStands (by rw [ez_1]; exact tT_X6_take hT))))))))))))) (cwV 1 hts gX6_readLaw_X6_take rfl rfl rfl (by decide +kernel) (by rw [hR]; exact ⟨Nat.le_of_ble_eq_true rfl, Nat.le_of_ble_eq_true rfl⟩)) ⟨wx_Pc.blind, wx_recv hK hX (by decide) sh_X6 rfl, (wx_Pc.pre hK hX).2⟩ rfl rfl hl.1 rfl (lv_room (Nat.le_of_ble_eq_true rfl)) dX6_readLaw_101 ⟨Nat.zero_le _, Nat.zero_le _⟩) hS (fun H locs hX hS => ?_)
              obtain ⟨z_28, ez_28⟩ : ∃ z, z = f_X6_take g_27 59 := ⟨_, rfl⟩
              rw [← ez_28] at hX; rw [← ez_28]
              exact hret _ _ _ _ _ _ dX6_readLaw_104 (by rw [ez_28]; exact nb_f_X6_take _ _) hX hS (by subst ez_28 eg_27 eg_26 ex_25 ez_22 ez_19 eg_18 eg_17 ex_16 ez_13 ez_10 eg_9 eg_8 ex_7 ez_4 ez_1; simp only [f_X6_readLaw, if_neg c_2, if_neg c_5, if_neg c_11, if_neg c_14, if_neg c_20, if_neg c_23])
            · have b_29 : wx_b z_22.2 0 0 := by rw [c_23]; exact ⟨by decide, by decide⟩
              refine lv_iconst (v := 0) hx hb dX6_readLaw_84 (by decide) ?_
              exact hret _ _ _ _ _ _ dX6_readLaw_85 rfl hX hS (by subst ez_22 ez_19 eg_18 eg_17 ex_16 ez_13 ez_10 eg_9 eg_8 ex_7 ez_4 ez_1; simp only [f_X6_readLaw, if_neg c_2, if_neg c_5, if_neg c_11, if_neg c_14, if_neg c_20, if_pos c_23])
        · have b_30 : wx_b z_13.2 0 0 := by rw [c_14]; exact ⟨by decide, by decide⟩
          refine lv_iconst (v := 0) hx hb dX6_readLaw_51 (by decide) ?_
          exact hret _ _ _ _ _ _ dX6_readLaw_52 rfl hX hS (by subst ez_13 ez_10 eg_9 eg_8 ex_7 ez_4 ez_1; simp only [f_X6_readLaw, if_neg c_2, if_neg c_5, if_neg c_11, if_pos c_14])
    · have b_31 : wx_b z_4.2 0 0 := by rw [c_5]; exact ⟨by decide, by decide⟩
      refine lv_iconst (v := 0) hx hb dX6_readLaw_19 (by decide) ?_
      exact hret _ _ _ _ _ _ dX6_readLaw_20 rfl hX hS (by subst ez_4 ez_1; simp only [f_X6_readLaw, if_neg c_2, if_pos c_5])
set_option maxHeartbeats 4000000 in
theorem np_X6_readLaw {g : wx_M} {ho : Nat} (hho : wx_H ho) (hT : wx_TB g) (hro : wx_b (g ho 0) 0 6) : narrow .boolean (.int (f_X6_readLaw g ho).2) = .int (f_X6_readLaw g ho).2 := by
  obtain ⟨z_1, ez_1⟩ : ∃ z, z = f_X6_take g 104 := ⟨_, rfl⟩
  by_cases c_2 : z_1.2 = 0
  · have b_3 : wx_b z_1.2 0 0 := by rw [c_2]; exact ⟨by decide, by decide⟩
    rw [show f_X6_readLaw g ho = (z_1.1, 0) from (by subst ez_1; simp only [f_X6_readLaw, if_pos c_2])]
    exact (show narrow .boolean (.int 0) = .int 0 from rfl)
  · obtain ⟨z_4, ez_4⟩ : ∃ z, z = f_X6_numberStands z_1.1 2 6 := ⟨_, rfl⟩
    by_cases c_5 : z_4.2 = 0
    · have b_6 : wx_b z_4.2 0 0 := by rw [c_5]; exact ⟨by decide, by decide⟩
      rw [show f_X6_readLaw g ho = (z_4.1, 0) from (by subst ez_4 ez_1; simp only [f_X6_readLaw, if_neg c_2, if_pos c_5])]
      exact (show narrow .boolean (.int 0) = .int 0 from rfl)
    · have b_7 : wx_b (z_4.1 18 7) 2 6 := by rw [ez_4]; exact ns_b (show wx_b 2 2 2 from ⟨by decide, by decide⟩) (show wx_b 6 6 6 from ⟨by decide, by decide⟩) (by rw [← ez_4]; exact c_5)
      obtain ⟨x_8, ex_8⟩ : ∃ z : Int32, z = (z_4.1 18 7) := ⟨_, rfl⟩
      have bx_8 : wx_b x_8 2 6 := by rw [ex_8]; exact b_7
      obtain ⟨g_9, eg_9⟩ : ∃ z : wx_M, z = up2 z_4.1 ho 0 x_8 := ⟨_, rfl⟩
      obtain ⟨g_10, eg_10⟩ : ∃ z : wx_M, z = e_X6_step g_9 := ⟨_, rfl⟩
      obtain ⟨z_11, ez_11⟩ : ∃ z, z = f_X6_take g_10 44 := ⟨_, rfl⟩
      by_cases c_12 : z_11.2 = 0
      · have b_13 : wx_b z_11.2 0 0 := by rw [c_12]; exact ⟨by decide, by decide⟩
        rw [show f_X6_readLaw g ho = (z_11.1, 0) from (by subst ez_11 eg_10 eg_9 ex_8 ez_4 ez_1; simp only [f_X6_readLaw, if_neg c_2, if_neg c_5, if_pos c_12])]
        exact (show narrow .boolean (.int 0) = .int 0 from rfl)
      · obtain ⟨z_14, ez_14⟩ : ∃ z, z = f_X6_numberStands z_11.1 1 5 := ⟨_, rfl⟩
        by_cases c_15 : z_14.2 = 0
        · have b_16 : wx_b z_14.2 0 0 := by rw [c_15]; exact ⟨by decide, by decide⟩
          rw [show f_X6_readLaw g ho = (z_14.1, 0) from (by subst ez_14 ez_11 eg_10 eg_9 ex_8 ez_4 ez_1; simp only [f_X6_readLaw, if_neg c_2, if_neg c_5, if_neg c_12, if_pos c_15])]
          exact (show narrow .boolean (.int 0) = .int 0 from rfl)
        · have b_17 : wx_b (z_14.1 18 7) 1 5 := by rw [ez_14]; exact ns_b (show wx_b 1 1 1 from ⟨by decide, by decide⟩) (show wx_b 5 5 5 from ⟨by decide, by decide⟩) (by rw [← ez_14]; exact c_15)
          obtain ⟨x_18, ex_18⟩ : ∃ z : Int32, z = (z_14.1 18 7) := ⟨_, rfl⟩
          have bx_18 : wx_b x_18 1 5 := by rw [ex_18]; exact b_17
          obtain ⟨g_19, eg_19⟩ : ∃ z : wx_M, z = up2 z_14.1 ho 1 x_18 := ⟨_, rfl⟩
          obtain ⟨g_20, eg_20⟩ : ∃ z : wx_M, z = e_X6_step g_19 := ⟨_, rfl⟩
          obtain ⟨z_21, ez_21⟩ : ∃ z, z = f_X6_take g_20 44 := ⟨_, rfl⟩
          by_cases c_22 : z_21.2 = 0
          · have b_23 : wx_b z_21.2 0 0 := by rw [c_22]; exact ⟨by decide, by decide⟩
            rw [show f_X6_readLaw g ho = (z_21.1, 0) from (by subst ez_21 eg_20 eg_19 ex_18 ez_14 ez_11 eg_10 eg_9 ex_8 ez_4 ez_1; simp only [f_X6_readLaw, if_neg c_2, if_neg c_5, if_neg c_12, if_neg c_15, if_pos c_22])]
            exact (show narrow .boolean (.int 0) = .int 0 from rfl)
          · obtain ⟨z_24, ez_24⟩ : ∃ z, z = f_X6_numberStands z_21.1 0 20 := ⟨_, rfl⟩
            by_cases c_25 : z_24.2 = 0
            · have b_26 : wx_b z_24.2 0 0 := by rw [c_25]; exact ⟨by decide, by decide⟩
              rw [show f_X6_readLaw g ho = (z_24.1, 0) from (by subst ez_24 ez_21 eg_20 eg_19 ex_18 ez_14 ez_11 eg_10 eg_9 ex_8 ez_4 ez_1; simp only [f_X6_readLaw, if_neg c_2, if_neg c_5, if_neg c_12, if_neg c_15, if_neg c_22, if_pos c_25])]
              exact (show narrow .boolean (.int 0) = .int 0 from rfl)
            · have b_27 : wx_b (z_24.1 18 7) 0 20 := by rw [ez_24]; exact ns_b (show wx_b 0 0 0 from ⟨by decide, by decide⟩) (show wx_b 20 20 20 from ⟨by decide, by decide⟩) (by rw [← ez_24]; exact c_25)
              obtain ⟨x_28, ex_28⟩ : ∃ z : Int32, z = (z_24.1 18 7) := ⟨_, rfl⟩
              have bx_28 : wx_b x_28 0 20 := by rw [ex_28]; exact b_27
              obtain ⟨g_29, eg_29⟩ : ∃ z : wx_M, z = up2 z_24.1 ho 2 x_28 := ⟨_, rfl⟩
              obtain ⟨g_30, eg_30⟩ : ∃ z : wx_M, z = e_X6_step g_29 := ⟨_, rfl⟩
              obtain ⟨z_31, ez_31⟩ : ∃ z, z = f_X6_take g_30 59 := ⟨_, rfl⟩
              rw [show f_X6_readLaw g ho = (z_31.1, z_31.2) from (by subst ez_31 eg_30 eg_29 ex_28 ez_24 ez_21 eg_20 eg_19 ex_18 ez_14 ez_11 eg_10 eg_9 ex_8 ez_4 ez_1; simp only [f_X6_readLaw, if_neg c_2, if_neg c_5, if_neg c_12, if_neg c_15, if_neg c_22, if_neg c_25])]
              exact (by rw [ez_31]; exact nb_f_X6_take _ _)

set_option maxHeartbeats 4000000 in
theorem tT_X6_readLaw {g : wx_M} {ho : Nat} (hho : wx_H ho) (hT : wx_TB g) (hro : wx_b (g ho 0) 0 6) : wx_TB (f_X6_readLaw g ho).1 := by
  obtain ⟨z_1, ez_1⟩ : ∃ z, z = f_X6_take g 104 := ⟨_, rfl⟩
  by_cases c_2 : z_1.2 = 0
  · have b_3 : wx_b z_1.2 0 0 := by rw [c_2]; exact ⟨by decide, by decide⟩
    rw [show f_X6_readLaw g ho = (z_1.1, 0) from (by subst ez_1; simp only [f_X6_readLaw, if_pos c_2])]
    exact (by rw [ez_1]; exact tT_X6_take hT)
  · obtain ⟨z_4, ez_4⟩ : ∃ z, z = f_X6_numberStands z_1.1 2 6 := ⟨_, rfl⟩
    by_cases c_5 : z_4.2 = 0
    · have b_6 : wx_b z_4.2 0 0 := by rw [c_5]; exact ⟨by decide, by decide⟩
      rw [show f_X6_readLaw g ho = (z_4.1, 0) from (by subst ez_4 ez_1; simp only [f_X6_readLaw, if_neg c_2, if_pos c_5])]
      exact (by rw [ez_4]; exact tT_X6_numberStands (by rw [ez_1]; exact tT_X6_take hT))
    · have b_7 : wx_b (z_4.1 18 7) 2 6 := by rw [ez_4]; exact ns_b (show wx_b 2 2 2 from ⟨by decide, by decide⟩) (show wx_b 6 6 6 from ⟨by decide, by decide⟩) (by rw [← ez_4]; exact c_5)
      obtain ⟨x_8, ex_8⟩ : ∃ z : Int32, z = (z_4.1 18 7) := ⟨_, rfl⟩
      have bx_8 : wx_b x_8 2 6 := by rw [ex_8]; exact b_7
      obtain ⟨g_9, eg_9⟩ : ∃ z : wx_M, z = up2 z_4.1 ho 0 x_8 := ⟨_, rfl⟩
      obtain ⟨g_10, eg_10⟩ : ∃ z : wx_M, z = e_X6_step g_9 := ⟨_, rfl⟩
      obtain ⟨z_11, ez_11⟩ : ∃ z, z = f_X6_take g_10 44 := ⟨_, rfl⟩
      by_cases c_12 : z_11.2 = 0
      · have b_13 : wx_b z_11.2 0 0 := by rw [c_12]; exact ⟨by decide, by decide⟩
        rw [show f_X6_readLaw g ho = (z_11.1, 0) from (by subst ez_11 eg_10 eg_9 ex_8 ez_4 ez_1; simp only [f_X6_readLaw, if_neg c_2, if_neg c_5, if_pos c_12])]
        exact (by rw [ez_11]; exact tT_X6_take (by rw [eg_10]; exact tT_X6_step (by rw [eg_9]; exact tT_n (by rcases hho with rfl | rfl | rfl | rfl <;> decide) (by rw [ez_4]; exact tT_X6_numberStands (by rw [ez_1]; exact tT_X6_take hT)))))
      · obtain ⟨z_14, ez_14⟩ : ∃ z, z = f_X6_numberStands z_11.1 1 5 := ⟨_, rfl⟩
        by_cases c_15 : z_14.2 = 0
        · have b_16 : wx_b z_14.2 0 0 := by rw [c_15]; exact ⟨by decide, by decide⟩
          rw [show f_X6_readLaw g ho = (z_14.1, 0) from (by subst ez_14 ez_11 eg_10 eg_9 ex_8 ez_4 ez_1; simp only [f_X6_readLaw, if_neg c_2, if_neg c_5, if_neg c_12, if_pos c_15])]
          exact (by rw [ez_14]; exact tT_X6_numberStands (by rw [ez_11]; exact tT_X6_take (by rw [eg_10]; exact tT_X6_step (by rw [eg_9]; exact tT_n (by rcases hho with rfl | rfl | rfl | rfl <;> decide) (by rw [ez_4]; exact tT_X6_numberStands (by rw [ez_1]; exact tT_X6_take hT))))))
        · have b_17 : wx_b (z_14.1 18 7) 1 5 := by rw [ez_14]; exact ns_b (show wx_b 1 1 1 from ⟨by decide, by decide⟩) (show wx_b 5 5 5 from ⟨by decide, by decide⟩) (by rw [← ez_14]; exact c_15)
          obtain ⟨x_18, ex_18⟩ : ∃ z : Int32, z = (z_14.1 18 7) := ⟨_, rfl⟩
          have bx_18 : wx_b x_18 1 5 := by rw [ex_18]; exact b_17
          obtain ⟨g_19, eg_19⟩ : ∃ z : wx_M, z = up2 z_14.1 ho 1 x_18 := ⟨_, rfl⟩
          obtain ⟨g_20, eg_20⟩ : ∃ z : wx_M, z = e_X6_step g_19 := ⟨_, rfl⟩
          obtain ⟨z_21, ez_21⟩ : ∃ z, z = f_X6_take g_20 44 := ⟨_, rfl⟩
          by_cases c_22 : z_21.2 = 0
          · have b_23 : wx_b z_21.2 0 0 := by rw [c_22]; exact ⟨by decide, by decide⟩
            rw [show f_X6_readLaw g ho = (z_21.1, 0) from (by subst ez_21 eg_20 eg_19 ex_18 ez_14 ez_11 eg_10 eg_9 ex_8 ez_4 ez_1; simp only [f_X6_readLaw, if_neg c_2, if_neg c_5, if_neg c_12, if_neg c_15, if_pos c_22])]
            exact (by rw [ez_21]; exact tT_X6_take (by rw [eg_20]; exact tT_X6_step (by rw [eg_19]; exact tT_n (by rcases hho with rfl | rfl | rfl | rfl <;> decide) (by rw [ez_14]; exact tT_X6_numberStands (by rw [ez_11]; exact tT_X6_take (by rw [eg_10]; exact tT_X6_step (by rw [eg_9]; exact tT_n (by rcases hho with rfl | rfl | rfl | rfl <;> decide) (by rw [ez_4]; exact tT_X6_numberStands (by rw [ez_1]; exact tT_X6_take hT)))))))))
          · obtain ⟨z_24, ez_24⟩ : ∃ z, z = f_X6_numberStands z_21.1 0 20 := ⟨_, rfl⟩
            by_cases c_25 : z_24.2 = 0
            · have b_26 : wx_b z_24.2 0 0 := by rw [c_25]; exact ⟨by decide, by decide⟩
              rw [show f_X6_readLaw g ho = (z_24.1, 0) from (by subst ez_24 ez_21 eg_20 eg_19 ex_18 ez_14 ez_11 eg_10 eg_9 ex_8 ez_4 ez_1; simp only [f_X6_readLaw, if_neg c_2, if_neg c_5, if_neg c_12, if_neg c_15, if_neg c_22, if_pos c_25])]
              exact (by rw [ez_24]; exact tT_X6_numberStands (by rw [ez_21]; exact tT_X6_take (by rw [eg_20]; exact tT_X6_step (by rw [eg_19]; exact tT_n (by rcases hho with rfl | rfl | rfl | rfl <;> decide) (by rw [ez_14]; exact tT_X6_numberStands (by rw [ez_11]; exact tT_X6_take (by rw [eg_10]; exact tT_X6_step (by rw [eg_9]; exact tT_n (by rcases hho with rfl | rfl | rfl | rfl <;> decide) (by rw [ez_4]; exact tT_X6_numberStands (by rw [ez_1]; exact tT_X6_take hT))))))))))
            · have b_27 : wx_b (z_24.1 18 7) 0 20 := by rw [ez_24]; exact ns_b (show wx_b 0 0 0 from ⟨by decide, by decide⟩) (show wx_b 20 20 20 from ⟨by decide, by decide⟩) (by rw [← ez_24]; exact c_25)
              obtain ⟨x_28, ex_28⟩ : ∃ z : Int32, z = (z_24.1 18 7) := ⟨_, rfl⟩
              have bx_28 : wx_b x_28 0 20 := by rw [ex_28]; exact b_27
              obtain ⟨g_29, eg_29⟩ : ∃ z : wx_M, z = up2 z_24.1 ho 2 x_28 := ⟨_, rfl⟩
              obtain ⟨g_30, eg_30⟩ : ∃ z : wx_M, z = e_X6_step g_29 := ⟨_, rfl⟩
              obtain ⟨z_31, ez_31⟩ : ∃ z, z = f_X6_take g_30 59 := ⟨_, rfl⟩
              rw [show f_X6_readLaw g ho = (z_31.1, z_31.2) from (by subst ez_31 eg_30 eg_29 ex_28 ez_24 ez_21 eg_20 eg_19 ex_18 ez_14 ez_11 eg_10 eg_9 ex_8 ez_4 ez_1; simp only [f_X6_readLaw, if_neg c_2, if_neg c_5, if_neg c_12, if_neg c_15, if_neg c_22, if_neg c_25])]
              exact (by rw [ez_31]; exact tT_X6_take (by rw [eg_30]; exact tT_X6_step (by rw [eg_29]; exact tT_n (by rcases hho with rfl | rfl | rfl | rfl <;> decide) (by rw [ez_24]; exact tT_X6_numberStands (by rw [ez_21]; exact tT_X6_take (by rw [eg_20]; exact tT_X6_step (by rw [eg_19]; exact tT_n (by rcases hho with rfl | rfl | rfl | rfl <;> decide) (by rw [ez_14]; exact tT_X6_numberStands (by rw [ez_11]; exact tT_X6_take (by rw [eg_10]; exact tT_X6_step (by rw [eg_9]; exact tT_n (by rcases hho with rfl | rfl | rfl | rfl <;> decide) (by rw [ez_4]; exact tT_X6_numberStands (by rw [ez_1]; exact tT_X6_take hT)))))))))))))

set_option maxHeartbeats 4000000 in
theorem ro_X6_readLaw {g : wx_M} {ho : Nat} (hho : wx_H ho) (hT : wx_TB g) (hro : wx_b (g ho 0) 0 6) : wx_b ((f_X6_readLaw g ho).1 ho 0) 0 6 := by
  obtain ⟨z_1, ez_1⟩ : ∃ z, z = f_X6_take g 104 := ⟨_, rfl⟩
  by_cases c_2 : z_1.2 = 0
  · have b_3 : wx_b z_1.2 0 0 := by rw [c_2]; exact ⟨by decide, by decide⟩
    rw [show f_X6_readLaw g ho = (z_1.1, 0) from (by subst ez_1; simp only [f_X6_readLaw, if_pos c_2])]
    exact (wb_w (show wx_b (z_1.1 ho 0) 0 6 by rw [show (z_1.1 ho 0) = (g ho 0) from (by rw [ez_1, fr_X6_take (by rcases hho with rfl | rfl | rfl | rfl <;> decide)])]; exact hro) (by decide) (by decide))
  · obtain ⟨z_4, ez_4⟩ : ∃ z, z = f_X6_numberStands z_1.1 2 6 := ⟨_, rfl⟩
    by_cases c_5 : z_4.2 = 0
    · have b_6 : wx_b z_4.2 0 0 := by rw [c_5]; exact ⟨by decide, by decide⟩
      rw [show f_X6_readLaw g ho = (z_4.1, 0) from (by subst ez_4 ez_1; simp only [f_X6_readLaw, if_neg c_2, if_pos c_5])]
      exact (wb_w (show wx_b (z_4.1 ho 0) 0 6 by rw [show (z_4.1 ho 0) = (z_1.1 ho 0) from (by rw [ez_4, fr_X6_numberStands (by rcases hho with rfl | rfl | rfl | rfl <;> decide)])]; exact (show wx_b (z_1.1 ho 0) 0 6 by rw [show (z_1.1 ho 0) = (g ho 0) from (by rw [ez_1, fr_X6_take (by rcases hho with rfl | rfl | rfl | rfl <;> decide)])]; exact hro)) (by decide) (by decide))
    · have b_7 : wx_b (z_4.1 18 7) 2 6 := by rw [ez_4]; exact ns_b (show wx_b 2 2 2 from ⟨by decide, by decide⟩) (show wx_b 6 6 6 from ⟨by decide, by decide⟩) (by rw [← ez_4]; exact c_5)
      obtain ⟨x_8, ex_8⟩ : ∃ z : Int32, z = (z_4.1 18 7) := ⟨_, rfl⟩
      have bx_8 : wx_b x_8 2 6 := by rw [ex_8]; exact b_7
      obtain ⟨g_9, eg_9⟩ : ∃ z : wx_M, z = up2 z_4.1 ho 0 x_8 := ⟨_, rfl⟩
      obtain ⟨g_10, eg_10⟩ : ∃ z : wx_M, z = e_X6_step g_9 := ⟨_, rfl⟩
      obtain ⟨z_11, ez_11⟩ : ∃ z, z = f_X6_take g_10 44 := ⟨_, rfl⟩
      by_cases c_12 : z_11.2 = 0
      · have b_13 : wx_b z_11.2 0 0 := by rw [c_12]; exact ⟨by decide, by decide⟩
        rw [show f_X6_readLaw g ho = (z_11.1, 0) from (by subst ez_11 eg_10 eg_9 ex_8 ez_4 ez_1; simp only [f_X6_readLaw, if_neg c_2, if_neg c_5, if_pos c_12])]
        exact (wb_w (show wx_b (z_11.1 ho 0) 2 6 by rw [show (z_11.1 ho 0) = (g_10 ho 0) from (by rw [ez_11, fr_X6_take (by rcases hho with rfl | rfl | rfl | rfl <;> decide)])]; exact (show wx_b (g_10 ho 0) 2 6 by rw [show (g_10 ho 0) = (g_9 ho 0) from (by rw [eg_10, fr_X6_step (by rcases hho with rfl | rfl | rfl | rfl <;> decide)])]; exact (show wx_b (g_9 ho 0) 2 6 by rw [show (g_9 ho 0) = x_8 from (by rw [eg_9, up2_ss])]; exact bx_8))) (by decide) (by decide))
      · obtain ⟨z_14, ez_14⟩ : ∃ z, z = f_X6_numberStands z_11.1 1 5 := ⟨_, rfl⟩
        by_cases c_15 : z_14.2 = 0
        · have b_16 : wx_b z_14.2 0 0 := by rw [c_15]; exact ⟨by decide, by decide⟩
          rw [show f_X6_readLaw g ho = (z_14.1, 0) from (by subst ez_14 ez_11 eg_10 eg_9 ex_8 ez_4 ez_1; simp only [f_X6_readLaw, if_neg c_2, if_neg c_5, if_neg c_12, if_pos c_15])]
          exact (wb_w (show wx_b (z_14.1 ho 0) 2 6 by rw [show (z_14.1 ho 0) = (z_11.1 ho 0) from (by rw [ez_14, fr_X6_numberStands (by rcases hho with rfl | rfl | rfl | rfl <;> decide)])]; exact (show wx_b (z_11.1 ho 0) 2 6 by rw [show (z_11.1 ho 0) = (g_10 ho 0) from (by rw [ez_11, fr_X6_take (by rcases hho with rfl | rfl | rfl | rfl <;> decide)])]; exact (show wx_b (g_10 ho 0) 2 6 by rw [show (g_10 ho 0) = (g_9 ho 0) from (by rw [eg_10, fr_X6_step (by rcases hho with rfl | rfl | rfl | rfl <;> decide)])]; exact (show wx_b (g_9 ho 0) 2 6 by rw [show (g_9 ho 0) = x_8 from (by rw [eg_9, up2_ss])]; exact bx_8)))) (by decide) (by decide))
        · have b_17 : wx_b (z_14.1 18 7) 1 5 := by rw [ez_14]; exact ns_b (show wx_b 1 1 1 from ⟨by decide, by decide⟩) (show wx_b 5 5 5 from ⟨by decide, by decide⟩) (by rw [← ez_14]; exact c_15)
          obtain ⟨x_18, ex_18⟩ : ∃ z : Int32, z = (z_14.1 18 7) := ⟨_, rfl⟩
          have bx_18 : wx_b x_18 1 5 := by rw [ex_18]; exact b_17
          obtain ⟨g_19, eg_19⟩ : ∃ z : wx_M, z = up2 z_14.1 ho 1 x_18 := ⟨_, rfl⟩
          obtain ⟨g_20, eg_20⟩ : ∃ z : wx_M, z = e_X6_step g_19 := ⟨_, rfl⟩
          obtain ⟨z_21, ez_21⟩ : ∃ z, z = f_X6_take g_20 44 := ⟨_, rfl⟩
          by_cases c_22 : z_21.2 = 0
          · have b_23 : wx_b z_21.2 0 0 := by rw [c_22]; exact ⟨by decide, by decide⟩
            rw [show f_X6_readLaw g ho = (z_21.1, 0) from (by subst ez_21 eg_20 eg_19 ex_18 ez_14 ez_11 eg_10 eg_9 ex_8 ez_4 ez_1; simp only [f_X6_readLaw, if_neg c_2, if_neg c_5, if_neg c_12, if_neg c_15, if_pos c_22])]
            exact (wb_w (show wx_b (z_21.1 ho 0) 2 6 by rw [show (z_21.1 ho 0) = (g_20 ho 0) from (by rw [ez_21, fr_X6_take (by rcases hho with rfl | rfl | rfl | rfl <;> decide)])]; exact (show wx_b (g_20 ho 0) 2 6 by rw [show (g_20 ho 0) = (g_19 ho 0) from (by rw [eg_20, fr_X6_step (by rcases hho with rfl | rfl | rfl | rfl <;> decide)])]; exact (show wx_b (g_19 ho 0) 2 6 by rw [show (g_19 ho 0) = (z_14.1 ho 0) from (by rw [eg_19, up2_sn (by decide)])]; exact (show wx_b (z_14.1 ho 0) 2 6 by rw [show (z_14.1 ho 0) = (z_11.1 ho 0) from (by rw [ez_14, fr_X6_numberStands (by rcases hho with rfl | rfl | rfl | rfl <;> decide)])]; exact (show wx_b (z_11.1 ho 0) 2 6 by rw [show (z_11.1 ho 0) = (g_10 ho 0) from (by rw [ez_11, fr_X6_take (by rcases hho with rfl | rfl | rfl | rfl <;> decide)])]; exact (show wx_b (g_10 ho 0) 2 6 by rw [show (g_10 ho 0) = (g_9 ho 0) from (by rw [eg_10, fr_X6_step (by rcases hho with rfl | rfl | rfl | rfl <;> decide)])]; exact (show wx_b (g_9 ho 0) 2 6 by rw [show (g_9 ho 0) = x_8 from (by rw [eg_9, up2_ss])]; exact bx_8))))))) (by decide) (by decide))
          · obtain ⟨z_24, ez_24⟩ : ∃ z, z = f_X6_numberStands z_21.1 0 20 := ⟨_, rfl⟩
            by_cases c_25 : z_24.2 = 0
            · have b_26 : wx_b z_24.2 0 0 := by rw [c_25]; exact ⟨by decide, by decide⟩
              rw [show f_X6_readLaw g ho = (z_24.1, 0) from (by subst ez_24 ez_21 eg_20 eg_19 ex_18 ez_14 ez_11 eg_10 eg_9 ex_8 ez_4 ez_1; simp only [f_X6_readLaw, if_neg c_2, if_neg c_5, if_neg c_12, if_neg c_15, if_neg c_22, if_pos c_25])]
              exact (wb_w (show wx_b (z_24.1 ho 0) 2 6 by rw [show (z_24.1 ho 0) = (z_21.1 ho 0) from (by rw [ez_24, fr_X6_numberStands (by rcases hho with rfl | rfl | rfl | rfl <;> decide)])]; exact (show wx_b (z_21.1 ho 0) 2 6 by rw [show (z_21.1 ho 0) = (g_20 ho 0) from (by rw [ez_21, fr_X6_take (by rcases hho with rfl | rfl | rfl | rfl <;> decide)])]; exact (show wx_b (g_20 ho 0) 2 6 by rw [show (g_20 ho 0) = (g_19 ho 0) from (by rw [eg_20, fr_X6_step (by rcases hho with rfl | rfl | rfl | rfl <;> decide)])]; exact (show wx_b (g_19 ho 0) 2 6 by rw [show (g_19 ho 0) = (z_14.1 ho 0) from (by rw [eg_19, up2_sn (by decide)])]; exact (show wx_b (z_14.1 ho 0) 2 6 by rw [show (z_14.1 ho 0) = (z_11.1 ho 0) from (by rw [ez_14, fr_X6_numberStands (by rcases hho with rfl | rfl | rfl | rfl <;> decide)])]; exact (show wx_b (z_11.1 ho 0) 2 6 by rw [show (z_11.1 ho 0) = (g_10 ho 0) from (by rw [ez_11, fr_X6_take (by rcases hho with rfl | rfl | rfl | rfl <;> decide)])]; exact (show wx_b (g_10 ho 0) 2 6 by rw [show (g_10 ho 0) = (g_9 ho 0) from (by rw [eg_10, fr_X6_step (by rcases hho with rfl | rfl | rfl | rfl <;> decide)])]; exact (show wx_b (g_9 ho 0) 2 6 by rw [show (g_9 ho 0) = x_8 from (by rw [eg_9, up2_ss])]; exact bx_8)))))))) (by decide) (by decide))
            · have b_27 : wx_b (z_24.1 18 7) 0 20 := by rw [ez_24]; exact ns_b (show wx_b 0 0 0 from ⟨by decide, by decide⟩) (show wx_b 20 20 20 from ⟨by decide, by decide⟩) (by rw [← ez_24]; exact c_25)
              obtain ⟨x_28, ex_28⟩ : ∃ z : Int32, z = (z_24.1 18 7) := ⟨_, rfl⟩
              have bx_28 : wx_b x_28 0 20 := by rw [ex_28]; exact b_27
              obtain ⟨g_29, eg_29⟩ : ∃ z : wx_M, z = up2 z_24.1 ho 2 x_28 := ⟨_, rfl⟩
              obtain ⟨g_30, eg_30⟩ : ∃ z : wx_M, z = e_X6_step g_29 := ⟨_, rfl⟩
              obtain ⟨z_31, ez_31⟩ : ∃ z, z = f_X6_take g_30 59 := ⟨_, rfl⟩
              rw [show f_X6_readLaw g ho = (z_31.1, z_31.2) from (by subst ez_31 eg_30 eg_29 ex_28 ez_24 ez_21 eg_20 eg_19 ex_18 ez_14 ez_11 eg_10 eg_9 ex_8 ez_4 ez_1; simp only [f_X6_readLaw, if_neg c_2, if_neg c_5, if_neg c_12, if_neg c_15, if_neg c_22, if_neg c_25])]
              exact (wb_w (show wx_b (z_31.1 ho 0) 2 6 by rw [show (z_31.1 ho 0) = (g_30 ho 0) from (by rw [ez_31, fr_X6_take (by rcases hho with rfl | rfl | rfl | rfl <;> decide)])]; exact (show wx_b (g_30 ho 0) 2 6 by rw [show (g_30 ho 0) = (g_29 ho 0) from (by rw [eg_30, fr_X6_step (by rcases hho with rfl | rfl | rfl | rfl <;> decide)])]; exact (show wx_b (g_29 ho 0) 2 6 by rw [show (g_29 ho 0) = (z_24.1 ho 0) from (by rw [eg_29, up2_sn (by decide)])]; exact (show wx_b (z_24.1 ho 0) 2 6 by rw [show (z_24.1 ho 0) = (z_21.1 ho 0) from (by rw [ez_24, fr_X6_numberStands (by rcases hho with rfl | rfl | rfl | rfl <;> decide)])]; exact (show wx_b (z_21.1 ho 0) 2 6 by rw [show (z_21.1 ho 0) = (g_20 ho 0) from (by rw [ez_21, fr_X6_take (by rcases hho with rfl | rfl | rfl | rfl <;> decide)])]; exact (show wx_b (g_20 ho 0) 2 6 by rw [show (g_20 ho 0) = (g_19 ho 0) from (by rw [eg_20, fr_X6_step (by rcases hho with rfl | rfl | rfl | rfl <;> decide)])]; exact (show wx_b (g_19 ho 0) 2 6 by rw [show (g_19 ho 0) = (z_14.1 ho 0) from (by rw [eg_19, up2_sn (by decide)])]; exact (show wx_b (z_14.1 ho 0) 2 6 by rw [show (z_14.1 ho 0) = (z_11.1 ho 0) from (by rw [ez_14, fr_X6_numberStands (by rcases hho with rfl | rfl | rfl | rfl <;> decide)])]; exact (show wx_b (z_11.1 ho 0) 2 6 by rw [show (z_11.1 ho 0) = (g_10 ho 0) from (by rw [ez_11, fr_X6_take (by rcases hho with rfl | rfl | rfl | rfl <;> decide)])]; exact (show wx_b (g_10 ho 0) 2 6 by rw [show (g_10 ho 0) = (g_9 ho 0) from (by rw [eg_10, fr_X6_step (by rcases hho with rfl | rfl | rfl | rfl <;> decide)])]; exact (show wx_b (g_9 ho 0) 2 6 by rw [show (g_9 ho 0) = x_8 from (by rw [eg_9, up2_ss])]; exact bx_8))))))))))) (by decide) (by decide))

set_option maxHeartbeats 4000000 in
theorem fr_X6_readLaw {g : wx_M} {ho : Nat} {k : Nat} (hho : wx_H ho) (hT : wx_TB g) (hro : wx_b (g ho 0) 0 6) (hk18 : k ≠ 18) (hkh : k < ho ∨ ho + 6 < k) : (f_X6_readLaw g ho).1 k = g k := by
  obtain ⟨z_1, ez_1⟩ : ∃ z, z = f_X6_take g 104 := ⟨_, rfl⟩
  by_cases c_2 : z_1.2 = 0
  · have b_3 : wx_b z_1.2 0 0 := by rw [c_2]; exact ⟨by decide, by decide⟩
    rw [show f_X6_readLaw g ho = (z_1.1, 0) from (by subst ez_1; simp only [f_X6_readLaw, if_pos c_2])]
    exact ((show z_1.1 k = g k from by rw [ez_1]; exact fr_X6_take hk18).trans rfl)
  · obtain ⟨z_4, ez_4⟩ : ∃ z, z = f_X6_numberStands z_1.1 2 6 := ⟨_, rfl⟩
    by_cases c_5 : z_4.2 = 0
    · have b_6 : wx_b z_4.2 0 0 := by rw [c_5]; exact ⟨by decide, by decide⟩
      rw [show f_X6_readLaw g ho = (z_4.1, 0) from (by subst ez_4 ez_1; simp only [f_X6_readLaw, if_neg c_2, if_pos c_5])]
      exact ((show z_4.1 k = z_1.1 k from by rw [ez_4]; exact fr_X6_numberStands hk18).trans ((show z_1.1 k = g k from by rw [ez_1]; exact fr_X6_take hk18).trans rfl))
    · have b_7 : wx_b (z_4.1 18 7) 2 6 := by rw [ez_4]; exact ns_b (show wx_b 2 2 2 from ⟨by decide, by decide⟩) (show wx_b 6 6 6 from ⟨by decide, by decide⟩) (by rw [← ez_4]; exact c_5)
      obtain ⟨x_8, ex_8⟩ : ∃ z : Int32, z = (z_4.1 18 7) := ⟨_, rfl⟩
      have bx_8 : wx_b x_8 2 6 := by rw [ex_8]; exact b_7
      obtain ⟨g_9, eg_9⟩ : ∃ z : wx_M, z = up2 z_4.1 ho 0 x_8 := ⟨_, rfl⟩
      obtain ⟨g_10, eg_10⟩ : ∃ z : wx_M, z = e_X6_step g_9 := ⟨_, rfl⟩
      obtain ⟨z_11, ez_11⟩ : ∃ z, z = f_X6_take g_10 44 := ⟨_, rfl⟩
      by_cases c_12 : z_11.2 = 0
      · have b_13 : wx_b z_11.2 0 0 := by rw [c_12]; exact ⟨by decide, by decide⟩
        rw [show f_X6_readLaw g ho = (z_11.1, 0) from (by subst ez_11 eg_10 eg_9 ex_8 ez_4 ez_1; simp only [f_X6_readLaw, if_neg c_2, if_neg c_5, if_pos c_12])]
        exact ((show z_11.1 k = g_10 k from by rw [ez_11]; exact fr_X6_take hk18).trans ((show g_10 k = g_9 k from by rw [eg_10]; exact fr_X6_step hk18).trans ((show g_9 k = z_4.1 k from by rw [eg_9]; exact up2_n (by omega)).trans ((show z_4.1 k = z_1.1 k from by rw [ez_4]; exact fr_X6_numberStands hk18).trans ((show z_1.1 k = g k from by rw [ez_1]; exact fr_X6_take hk18).trans rfl)))))
      · obtain ⟨z_14, ez_14⟩ : ∃ z, z = f_X6_numberStands z_11.1 1 5 := ⟨_, rfl⟩
        by_cases c_15 : z_14.2 = 0
        · have b_16 : wx_b z_14.2 0 0 := by rw [c_15]; exact ⟨by decide, by decide⟩
          rw [show f_X6_readLaw g ho = (z_14.1, 0) from (by subst ez_14 ez_11 eg_10 eg_9 ex_8 ez_4 ez_1; simp only [f_X6_readLaw, if_neg c_2, if_neg c_5, if_neg c_12, if_pos c_15])]
          exact ((show z_14.1 k = z_11.1 k from by rw [ez_14]; exact fr_X6_numberStands hk18).trans ((show z_11.1 k = g_10 k from by rw [ez_11]; exact fr_X6_take hk18).trans ((show g_10 k = g_9 k from by rw [eg_10]; exact fr_X6_step hk18).trans ((show g_9 k = z_4.1 k from by rw [eg_9]; exact up2_n (by omega)).trans ((show z_4.1 k = z_1.1 k from by rw [ez_4]; exact fr_X6_numberStands hk18).trans ((show z_1.1 k = g k from by rw [ez_1]; exact fr_X6_take hk18).trans rfl))))))
        · have b_17 : wx_b (z_14.1 18 7) 1 5 := by rw [ez_14]; exact ns_b (show wx_b 1 1 1 from ⟨by decide, by decide⟩) (show wx_b 5 5 5 from ⟨by decide, by decide⟩) (by rw [← ez_14]; exact c_15)
          obtain ⟨x_18, ex_18⟩ : ∃ z : Int32, z = (z_14.1 18 7) := ⟨_, rfl⟩
          have bx_18 : wx_b x_18 1 5 := by rw [ex_18]; exact b_17
          obtain ⟨g_19, eg_19⟩ : ∃ z : wx_M, z = up2 z_14.1 ho 1 x_18 := ⟨_, rfl⟩
          obtain ⟨g_20, eg_20⟩ : ∃ z : wx_M, z = e_X6_step g_19 := ⟨_, rfl⟩
          obtain ⟨z_21, ez_21⟩ : ∃ z, z = f_X6_take g_20 44 := ⟨_, rfl⟩
          by_cases c_22 : z_21.2 = 0
          · have b_23 : wx_b z_21.2 0 0 := by rw [c_22]; exact ⟨by decide, by decide⟩
            rw [show f_X6_readLaw g ho = (z_21.1, 0) from (by subst ez_21 eg_20 eg_19 ex_18 ez_14 ez_11 eg_10 eg_9 ex_8 ez_4 ez_1; simp only [f_X6_readLaw, if_neg c_2, if_neg c_5, if_neg c_12, if_neg c_15, if_pos c_22])]
            exact ((show z_21.1 k = g_20 k from by rw [ez_21]; exact fr_X6_take hk18).trans ((show g_20 k = g_19 k from by rw [eg_20]; exact fr_X6_step hk18).trans ((show g_19 k = z_14.1 k from by rw [eg_19]; exact up2_n (by omega)).trans ((show z_14.1 k = z_11.1 k from by rw [ez_14]; exact fr_X6_numberStands hk18).trans ((show z_11.1 k = g_10 k from by rw [ez_11]; exact fr_X6_take hk18).trans ((show g_10 k = g_9 k from by rw [eg_10]; exact fr_X6_step hk18).trans ((show g_9 k = z_4.1 k from by rw [eg_9]; exact up2_n (by omega)).trans ((show z_4.1 k = z_1.1 k from by rw [ez_4]; exact fr_X6_numberStands hk18).trans ((show z_1.1 k = g k from by rw [ez_1]; exact fr_X6_take hk18).trans rfl)))))))))
          · obtain ⟨z_24, ez_24⟩ : ∃ z, z = f_X6_numberStands z_21.1 0 20 := ⟨_, rfl⟩
            by_cases c_25 : z_24.2 = 0
            · have b_26 : wx_b z_24.2 0 0 := by rw [c_25]; exact ⟨by decide, by decide⟩
              rw [show f_X6_readLaw g ho = (z_24.1, 0) from (by subst ez_24 ez_21 eg_20 eg_19 ex_18 ez_14 ez_11 eg_10 eg_9 ex_8 ez_4 ez_1; simp only [f_X6_readLaw, if_neg c_2, if_neg c_5, if_neg c_12, if_neg c_15, if_neg c_22, if_pos c_25])]
              exact ((show z_24.1 k = z_21.1 k from by rw [ez_24]; exact fr_X6_numberStands hk18).trans ((show z_21.1 k = g_20 k from by rw [ez_21]; exact fr_X6_take hk18).trans ((show g_20 k = g_19 k from by rw [eg_20]; exact fr_X6_step hk18).trans ((show g_19 k = z_14.1 k from by rw [eg_19]; exact up2_n (by omega)).trans ((show z_14.1 k = z_11.1 k from by rw [ez_14]; exact fr_X6_numberStands hk18).trans ((show z_11.1 k = g_10 k from by rw [ez_11]; exact fr_X6_take hk18).trans ((show g_10 k = g_9 k from by rw [eg_10]; exact fr_X6_step hk18).trans ((show g_9 k = z_4.1 k from by rw [eg_9]; exact up2_n (by omega)).trans ((show z_4.1 k = z_1.1 k from by rw [ez_4]; exact fr_X6_numberStands hk18).trans ((show z_1.1 k = g k from by rw [ez_1]; exact fr_X6_take hk18).trans rfl))))))))))
            · have b_27 : wx_b (z_24.1 18 7) 0 20 := by rw [ez_24]; exact ns_b (show wx_b 0 0 0 from ⟨by decide, by decide⟩) (show wx_b 20 20 20 from ⟨by decide, by decide⟩) (by rw [← ez_24]; exact c_25)
              obtain ⟨x_28, ex_28⟩ : ∃ z : Int32, z = (z_24.1 18 7) := ⟨_, rfl⟩
              have bx_28 : wx_b x_28 0 20 := by rw [ex_28]; exact b_27
              obtain ⟨g_29, eg_29⟩ : ∃ z : wx_M, z = up2 z_24.1 ho 2 x_28 := ⟨_, rfl⟩
              obtain ⟨g_30, eg_30⟩ : ∃ z : wx_M, z = e_X6_step g_29 := ⟨_, rfl⟩
              obtain ⟨z_31, ez_31⟩ : ∃ z, z = f_X6_take g_30 59 := ⟨_, rfl⟩
              rw [show f_X6_readLaw g ho = (z_31.1, z_31.2) from (by subst ez_31 eg_30 eg_29 ex_28 ez_24 ez_21 eg_20 eg_19 ex_18 ez_14 ez_11 eg_10 eg_9 ex_8 ez_4 ez_1; simp only [f_X6_readLaw, if_neg c_2, if_neg c_5, if_neg c_12, if_neg c_15, if_neg c_22, if_neg c_25])]
              exact ((show z_31.1 k = g_30 k from by rw [ez_31]; exact fr_X6_take hk18).trans ((show g_30 k = g_29 k from by rw [eg_30]; exact fr_X6_step hk18).trans ((show g_29 k = z_24.1 k from by rw [eg_29]; exact up2_n (by omega)).trans ((show z_24.1 k = z_21.1 k from by rw [ez_24]; exact fr_X6_numberStands hk18).trans ((show z_21.1 k = g_20 k from by rw [ez_21]; exact fr_X6_take hk18).trans ((show g_20 k = g_19 k from by rw [eg_20]; exact fr_X6_step hk18).trans ((show g_19 k = z_14.1 k from by rw [eg_19]; exact up2_n (by omega)).trans ((show z_14.1 k = z_11.1 k from by rw [ez_14]; exact fr_X6_numberStands hk18).trans ((show z_11.1 k = g_10 k from by rw [ez_11]; exact fr_X6_take hk18).trans ((show g_10 k = g_9 k from by rw [eg_10]; exact fr_X6_step hk18).trans ((show g_9 k = z_4.1 k from by rw [eg_9]; exact up2_n (by omega)).trans ((show z_4.1 k = z_1.1 k from by rw [ez_4]; exact fr_X6_numberStands hk18).trans ((show z_1.1 k = g k from by rw [ez_1]; exact fr_X6_take hk18).trans rfl)))))))))))))

def b_X6_readWalls_2 (g : wx_M) (ho : Nat) (t_2 : Nat) (s_2 : wx_M) : (wx_M) ⊕ (wx_M × Int32) :=
  if (s_2 18 6) = 103 then
    if (nI t_2) = 9 then
      let z_42 := f_X6_faulty s_2 3
      .inr ((z_42.1, z_42.2))
    else
      let g_8 := e_X6_step s_2
      let z_9 := f_X6_numberStands g_8 0 ((g_8 ho 0) - 1)
      if z_9.2 = 0 then
        .inr ((z_9.1, 0))
      else
        let x_12 := (z_9.1 18 7)
        let g_13 := e_X6_step z_9.1
        let z_14 := f_X6_take g_13 44
        if z_14.2 = 0 then
          .inr ((z_14.1, 0))
        else
          let z_19 := f_X6_numberStands z_14.1 0 ((z_14.1 ho 0) - 1)
          if z_19.2 = 0 then
            .inr ((z_19.1, 0))
          else
            let x_22 := (z_19.1 18 7)
            if x_22 = x_12 then
              let z_32 := f_X6_faulty z_19.1 2
              .inr ((z_32.1, z_32.2))
            else
              let g_24 := e_X6_step z_19.1
              let z_25 := f_X6_take g_24 59
              if z_25.2 = 0 then
                .inr ((z_25.1, 0))
              else
                let g_27 := e_X3_addWall z_25.1 ho x_12 x_22
                .inl g_27
  else
    .inr ((s_2, 1))
def f_X6_readWalls (g : wx_M) (ho : Nat) : wx_M × Int32 :=
  (match repX 10 (b_X6_readWalls_2 g ho) g with
  | .inl s_2 =>
    (s_2, 1)
  | .inr r9 => r9)
set_option maxHeartbeats 4000000 in
set_option maxRecDepth 100000 in
theorem k_X6_readWalls (l : Launch) {D : va_G} {cy : Nat → ClassId} {ad : Nat → Nat} {B0 : Nat} {f : wx_F} {P : va_W} (g : wx_M) (ho : Nat) (hho : wx_H ho) (hT : wx_TB g) (hro : wx_b (g ho 0) 0 6) : Met l yX6_readWalls wsX6_readWalls ({ frames := 4, cells := 0, slots := 0, locals := 83 } : Room) (wx_Pc D cy ad B0 f P g [.ref (ad 18), .ref (ad ho)]) (wx_Qe D cy ad B0 f P (f_X6_readWalls g ho).1 (some (.int (f_X6_readWalls g ho).2))) 0 0 (fun q => B0 ≤ q) := by
  refine wx_enterE (cc := cX6_readWalls) (maxL := 5) (ty := .boolean) (own := RX6) (lv := [(0, .ref (ad 18)), (1, .ref (ad ho))]) (by decide) rfl rfl (Nat.le_of_ble_eq_true rfl) rfl ?_
  intro p e R s m args below meth c ls Qm hx hb hml hown hts hK hX hS hR hret hl
  have hi_X6 : ∀ w ∈ wsX60, w ∈ wsX6_readWalls := by decide +kernel
  have hi_X3 : ∀ w ∈ wsX30, w ∈ wsX6_readWalls := by decide +kernel
  refine lv_iconst (v := 0) hx hb dX6_readWalls_0 (by decide) ?_
  refine lv_istore_n (lv' := [(2, .int 0), (0, .ref (ad 18)), (1, .ref (ad ho))]) hx hb dX6_readWalls_1 rfl hl (by decide) rfl (fun ls hl => ?_)
  have lp_2 : ∀ (n t_2 : Nat) (s_2 : wx_M) (ls : Array Slot) (H : Heap) (locs : List Loc), t_2 ≤ 10 → 10 + 1 ≤ t_2 + n → repX t_2 (b_X6_readWalls_2 g ho) g = .inl s_2 → wx_X D cy ad B0 f P s_2 H → va_S (fun q => B0 ≤ q) s.heap H locs → wx_TB s_2 → wx_b (s_2 ho 0) 0 6 → lv_has ls 5 [(2, .int (nI t_2)), (0, .ref (ad 18)), (1, .ref (ad ho))] → W p l e R s m args below meth c H locs 0 0 Qm (F0 m 2 ls []) := by
    intro n
    induction n with
    | zero => intro t_2 s_2 ls H locs h1 h2; exact absurd h2 (by omega)
    | succ n ih_2 =>
      intro t_2 s_2 ls H locs ht_2 hn_2 es_2 hX hS hTI_2 hRI_2 hl
      refine lv_iload_n hx hb dX6_readWalls_2 rfl (lv_at hl 0 rfl) ?_
      refine lv_bipush (v := 9) hx hb dX6_readWalls_3 (by decide) ?_
      refine lv_icmp_gt (tgt := 129) hx hb dX6_readWalls_5 (by decide) (fun c_1 => ?_) (fun c_1 => ?_)
      · have et_2 : t_2 = 10 := Nat.le_antisymm ht_2 (by have h9 := wx_dn1 (by omega) (by decide) c_1; have h8 : (9 : Int32).toNatClampNeg = 9 := (by decide); omega)
        subst et_2
        refine lv_iconst (v := 1) hx hb dX6_readWalls_129 (by decide) ?_
        exact hret _ _ _ _ _ _ dX6_readWalls_130 rfl hX hS (by simp only [f_X6_readWalls, es_2])
      · have hlt_2 : t_2 < 10 := by have h9 := wx_up1 (by omega) c_1; have h8 : (9 : Int32).toNatClampNeg = 9 := (by decide); omega
        have bt_2 : wx_b (nI (t_2)) 0 9 := wb_nI (n := 9) (by omega) (by decide)
        refine lv_aload_n hx hb dX6_readWalls_8 rfl (lv_at hl 1 rfl) ?_
        refine wx_geti (C := RX6) (T := TX6) (N := 8) (ci := 6) (j := 6) hx hb hts hi_X6 hown hK hX (by decide) sh_X6_6 rfl (by decide) (hts (.fieldLink RX6 60 "SeenAgain$Tape" "token" "I") (by decide +kernel)) (fun _ h9 => h9) dX6_readWalls_9 ?_
        refine lv_bipush (v := 103) hx hb dX6_readWalls_12 (by decide) ?_
        refine lv_icmp_ne (tgt := 129) hx hb dX6_readWalls_14 (by decide) (fun c_2 => ?_) (fun c_2 => ?_)
        · refine lv_iconst (v := 1) hx hb dX6_readWalls_129 (by decide) ?_
          have hF_3 : (b_X6_readWalls_2 g ho) t_2 s_2 = .inr ((s_2, 1)) := (by simp only [b_X6_readWalls_2, if_neg c_2])
          have hO_4 : repX 10 (b_X6_readWalls_2 g ho) g = .inr ((s_2, 1)) := repX_out es_2 hF_3 hlt_2
          exact hret _ _ _ _ _ _ dX6_readWalls_130 rfl hX hS (by simp only [f_X6_readWalls, hO_4])
        · have b_5 : wx_b (s_2 18 6) 103 103 := by rw [c_2]; exact ⟨by decide, by decide⟩
          refine lv_iload_n hx hb dX6_readWalls_17 rfl (lv_at hl 0 rfl) ?_
          refine lv_bipush (v := 9) hx hb dX6_readWalls_18 (by decide) ?_
          refine lv_icmp_ne (tgt := 29) hx hb dX6_readWalls_20 (by decide) (fun c_6 => ?_) (fun c_6 => ?_)
          · have b_7 : wx_b (nI t_2) 0 8 := wb_neh c_6 bt_2 (by decide)
            refine lv_aload_n hx hb dX6_readWalls_29 rfl (lv_at hl 1 rfl) ?_
            refine wx_callev (va_runV (As := []) (rest := []) ⟨hx, hb, hml, hown, hts⟩ (k_X6_step l s_2 hTI_2) (cwV 0 hts gX6_readWalls_X6_step rfl rfl rfl (by decide +kernel) (by rw [hR]; exact ⟨Nat.le_of_ble_eq_true rfl, Nat.le_of_ble_eq_true rfl⟩)) ⟨wx_Pc.blind, wx_recv hK hX (by decide) sh_X6 rfl, (wx_Pc.pre hK hX).2⟩ rfl rfl hl.1 rfl (lv_room (Nat.le_of_ble_eq_true rfl)) dX6_readWalls_30 ⟨Nat.zero_le _, Nat.zero_le _⟩) hS (fun H locs hX hS => ?_)
            obtain ⟨g_8, eg_8, hX⟩ := wx_nm hX
            refine lv_aload_n hx hb dX6_readWalls_33 rfl (lv_at hl 1 rfl) ?_
            refine lv_iconst (v := 0) hx hb dX6_readWalls_34 (by decide) ?_
            refine lv_aload_n hx hb dX6_readWalls_35 rfl (lv_at hl 2 rfl) ?_
            refine wx_geti (C := RX3) (T := TX3) (N := 15) (ci := 3) (j := 0) hx hb hts hi_X3 hown hK hX hho.l0 (sh_X3_0 hho) rfl (by decide) (hts (.fieldLink RX6 51 "SeenAgain$House" "rooms" "I") (by decide +kernel)) (fun _ h9 => h9) dX6_readWalls_36 ?_
            refine lv_iconst (v := 1) hx hb dX6_readWalls_39 (by decide) ?_
            refine lv_isub hx hb dX6_readWalls_40 ?_
            refine wx_callei (va_runV (As := [.int 0, .int ((g_8 ho 0) - 1)]) (rest := []) ⟨hx, hb, hml, hown, hts⟩ (k_X6_numberStands l g_8 0 ((g_8 ho 0) - 1) (by rw [eg_8]; exact tT_X6_step hTI_2)) (cwV 2 hts gX6_readWalls_X6_numberStands rfl rfl rfl (by decide +kernel) (by rw [hR]; exact ⟨Nat.le_of_ble_eq_true rfl, Nat.le_of_ble_eq_true rfl⟩)) ⟨wx_Pc.blind, wx_recv hK hX (by decide) sh_X6 rfl, (wx_Pc.pre hK hX).2⟩ rfl rfl hl.1 rfl (lv_room (Nat.le_of_ble_eq_true rfl)) dX6_readWalls_41 ⟨Nat.zero_le _, Nat.zero_le _⟩) hS (fun H locs hX hS => ?_)
            obtain ⟨z_9, ez_9⟩ : ∃ z, z = f_X6_numberStands g_8 0 ((g_8 ho 0) - 1) := ⟨_, rfl⟩
            rw [← ez_9] at hX; rw [← ez_9]
            refine lv_if_ne (tgt := 49) hx hb dX6_readWalls_44 (by decide) (fun c_10 => ?_) (fun c_10 => ?_)
            · have b_11 : wx_b (z_9.1 18 7) 0 5 := by rw [ez_9]; exact ns_b (show wx_b 0 0 0 from ⟨by decide, by decide⟩) (wb_sub (show wx_b (g_8 ho 0) 0 6 by rw [show (g_8 ho 0) = (s_2 ho 0) from (by rw [eg_8, fr_X6_step (by rcases hho with rfl | rfl | rfl | rfl <;> decide)])]; exact hRI_2) (show wx_b 1 1 1 from ⟨by decide, by decide⟩) (by decide) (by decide)) (by rw [← ez_9]; exact c_10)
              refine lv_aload_n hx hb dX6_readWalls_49 rfl (lv_at hl 1 rfl) ?_
              refine wx_geti (C := RX6) (T := TX6) (N := 8) (ci := 6) (j := 7) hx hb hts hi_X6 hown hK hX (by decide) sh_X6_7 rfl (by decide) (hts (.fieldLink RX6 48 "SeenAgain$Tape" "number" "I") (by decide +kernel)) (fun _ h9 => h9) dX6_readWalls_50 ?_
              refine lv_topi (fun x_12 ex_12 => ?_)
              have bx_12 : wx_b x_12 0 5 := by rw [ex_12]; exact b_11
              refine lv_istore_n (lv' := [(3, .int x_12), (2, .int (nI t_2)), (0, .ref (ad 18)), (1, .ref (ad ho))]) hx hb dX6_readWalls_53 rfl hl (by decide) rfl (fun ls hl => ?_)
              refine lv_aload_n hx hb dX6_readWalls_54 rfl (lv_at hl 2 rfl) ?_
              refine wx_callev (va_runV (As := []) (rest := []) ⟨hx, hb, hml, hown, hts⟩ (k_X6_step l z_9.1 (by rw [ez_9]; exact tT_X6_numberStands (by rw [eg_8]; exact tT_X6_step hTI_2))) (cwV 0 hts gX6_readWalls_X6_step rfl rfl rfl (by decide +kernel) (by rw [hR]; exact ⟨Nat.le_of_ble_eq_true rfl, Nat.le_of_ble_eq_true rfl⟩)) ⟨wx_Pc.blind, wx_recv hK hX (by decide) sh_X6 rfl, (wx_Pc.pre hK hX).2⟩ rfl rfl hl.1 rfl (lv_room (Nat.le_of_ble_eq_true rfl)) dX6_readWalls_55 ⟨Nat.zero_le _, Nat.zero_le _⟩) hS (fun H locs hX hS => ?_)
              obtain ⟨g_13, eg_13, hX⟩ := wx_nm hX
              refine lv_aload_n hx hb dX6_readWalls_58 rfl (lv_at hl 2 rfl) ?_
              refine lv_bipush (v := 44) hx hb dX6_readWalls_59 (by decide) ?_
              refine wx_callei (va_runV (As := [.int 44]) (rest := []) ⟨hx, hb, hml, hown, hts⟩ (k_X6_take l g_13 44 (by rw [eg_13]; exact tT_X6_step (by rw [ez_9]; exact tT_X6_numberStands (by rw [eg_8]; exact tT_X6_step hTI_2)))) (cwV 1 hts gX6_readWalls_X6_take rfl rfl rfl (by decide +kernel) (by rw [hR]; exact ⟨Nat.le_of_ble_eq_true rfl, Nat.le_of_ble_eq_true rfl⟩)) ⟨wx_Pc.blind, wx_recv hK hX (by decide) sh_X6 rfl, (wx_Pc.pre hK hX).2⟩ rfl rfl hl.1 rfl (lv_room (Nat.le_of_ble_eq_true rfl)) dX6_readWalls_61 ⟨Nat.zero_le _, Nat.zero_le _⟩) hS (fun H locs hX hS => ?_)
              obtain ⟨z_14, ez_14⟩ : ∃ z, z = f_X6_take g_13 44 := ⟨_, rfl⟩
              rw [← ez_14] at hX; rw [← ez_14]
              refine lv_if_eq (tgt := 81) hx hb dX6_readWalls_64 (by decide) (fun c_15 => ?_) (fun c_15 => ?_)
              · have b_16 : wx_b z_14.2 0 0 := by rw [c_15]; exact ⟨by decide, by decide⟩
                refine lv_iconst (v := 0) hx hb dX6_readWalls_81 (by decide) ?_
                have hF_17 : (b_X6_readWalls_2 g ho) t_2 s_2 = .inr ((z_14.1, 0)) := (by subst ez_14 eg_13 ex_12 ez_9 eg_8; simp only [b_X6_readWalls_2, if_pos c_2, if_neg c_6, if_neg c_10, if_pos c_15])
                have hO_18 : repX 10 (b_X6_readWalls_2 g ho) g = .inr ((z_14.1, 0)) := repX_out es_2 hF_17 hlt_2
                exact hret _ _ _ _ _ _ dX6_readWalls_82 rfl hX hS (by simp only [f_X6_readWalls, hO_18])
              · refine lv_aload_n hx hb dX6_readWalls_67 rfl (lv_at hl 2 rfl) ?_
                refine lv_iconst (v := 0) hx hb dX6_readWalls_68 (by decide) ?_
                refine lv_aload_n hx hb dX6_readWalls_69 rfl (lv_at hl 3 rfl) ?_
                refine wx_geti (C := RX3) (T := TX3) (N := 15) (ci := 3) (j := 0) hx hb hts hi_X3 hown hK hX hho.l0 (sh_X3_0 hho) rfl (by decide) (hts (.fieldLink RX6 51 "SeenAgain$House" "rooms" "I") (by decide +kernel)) (fun _ h9 => h9) dX6_readWalls_70 ?_
                refine lv_iconst (v := 1) hx hb dX6_readWalls_73 (by decide) ?_
                refine lv_isub hx hb dX6_readWalls_74 ?_
                refine wx_callei (va_runV (As := [.int 0, .int ((z_14.1 ho 0) - 1)]) (rest := []) ⟨hx, hb, hml, hown, hts⟩ (k_X6_numberStands l z_14.1 0 ((z_14.1 ho 0) - 1) (by rw [ez_14]; exact tT_X6_take (by rw [eg_13]; exact tT_X6_step (by rw [ez_9]; exact tT_X6_numberStands (by rw [eg_8]; exact tT_X6_step hTI_2))))) (cwV 2 hts gX6_readWalls_X6_numberStands rfl rfl rfl (by decide +kernel) (by rw [hR]; exact ⟨Nat.le_of_ble_eq_true rfl, Nat.le_of_ble_eq_true rfl⟩)) ⟨wx_Pc.blind, wx_recv hK hX (by decide) sh_X6 rfl, (wx_Pc.pre hK hX).2⟩ rfl rfl hl.1 rfl (lv_room (Nat.le_of_ble_eq_true rfl)) dX6_readWalls_75 ⟨Nat.zero_le _, Nat.zero_le _⟩) hS (fun H locs hX hS => ?_)
                obtain ⟨z_19, ez_19⟩ : ∃ z, z = f_X6_numberStands z_14.1 0 ((z_14.1 ho 0) - 1) := ⟨_, rfl⟩
                rw [← ez_19] at hX; rw [← ez_19]
                refine lv_if_ne (tgt := 83) hx hb dX6_readWalls_78 (by decide) (fun c_20 => ?_) (fun c_20 => ?_)
                · have b_21 : wx_b (z_19.1 18 7) 0 5 := by rw [ez_19]; exact ns_b (show wx_b 0 0 0 from ⟨by decide, by decide⟩) (wb_sub (show wx_b (z_14.1 ho 0) 0 6 by rw [show (z_14.1 ho 0) = (g_13 ho 0) from (by rw [ez_14, fr_X6_take (by rcases hho with rfl | rfl | rfl | rfl <;> decide)])]; exact (show wx_b (g_13 ho 0) 0 6 by rw [show (g_13 ho 0) = (z_9.1 ho 0) from (by rw [eg_13, fr_X6_step (by rcases hho with rfl | rfl | rfl | rfl <;> decide)])]; exact (show wx_b (z_9.1 ho 0) 0 6 by rw [show (z_9.1 ho 0) = (g_8 ho 0) from (by rw [ez_9, fr_X6_numberStands (by rcases hho with rfl | rfl | rfl | rfl <;> decide)])]; exact (show wx_b (g_8 ho 0) 0 6 by rw [show (g_8 ho 0) = (s_2 ho 0) from (by rw [eg_8, fr_X6_step (by rcases hho with rfl | rfl | rfl | rfl <;> decide)])]; exact hRI_2)))) (show wx_b 1 1 1 from ⟨by decide, by decide⟩) (by decide) (by decide)) (by rw [← ez_19]; exact c_20)
                  refine lv_aload_n hx hb dX6_readWalls_83 rfl (lv_at hl 2 rfl) ?_
                  refine wx_geti (C := RX6) (T := TX6) (N := 8) (ci := 6) (j := 7) hx hb hts hi_X6 hown hK hX (by decide) sh_X6_7 rfl (by decide) (hts (.fieldLink RX6 48 "SeenAgain$Tape" "number" "I") (by decide +kernel)) (fun _ h9 => h9) dX6_readWalls_84 ?_
                  refine lv_topi (fun x_22 ex_22 => ?_)
                  have bx_22 : wx_b x_22 0 5 := by rw [ex_22]; exact b_21
                  refine lv_istore (lv' := [(4, .int x_22), (3, .int x_12), (2, .int (nI t_2)), (0, .ref (ad 18)), (1, .ref (ad ho))]) hx hb dX6_readWalls_87 hl (by decide) rfl (fun ls hl => ?_)
                  refine lv_iload hx hb dX6_readWalls_89 (lv_at hl 0 rfl) ?_
                  refine lv_iload_n hx hb dX6_readWalls_91 rfl (lv_at hl 1 rfl) ?_
                  refine lv_icmp_ne (tgt := 101) hx hb dX6_readWalls_92 (by decide) (fun c_23 => ?_) (fun c_23 => ?_)
                  · refine lv_aload_n hx hb dX6_readWalls_101 rfl (lv_at hl 3 rfl) ?_
                    refine wx_callev (va_runV (As := []) (rest := []) ⟨hx, hb, hml, hown, hts⟩ (k_X6_step l z_19.1 (by rw [ez_19]; exact tT_X6_numberStands (by rw [ez_14]; exact tT_X6_take (by rw [eg_13]; exact tT_X6_step (by rw [ez_9]; exact tT_X6_numberStands (by rw [eg_8]; exact tT_X6_step hTI_2)))))) (cwV 0 hts gX6_readWalls_X6_step rfl rfl rfl (by decide +kernel) (by rw [hR]; exact ⟨Nat.le_of_ble_eq_true rfl, Nat.le_of_ble_eq_true rfl⟩)) ⟨wx_Pc.blind, wx_recv hK hX (by decide) sh_X6 rfl, (wx_Pc.pre hK hX).2⟩ rfl rfl hl.1 rfl (lv_room (Nat.le_of_ble_eq_true rfl)) dX6_readWalls_102 ⟨Nat.zero_le _, Nat.zero_le _⟩) hS (fun H locs hX hS => ?_)
                    obtain ⟨g_24, eg_24, hX⟩ := wx_nm hX
                    refine lv_aload_n hx hb dX6_readWalls_105 rfl (lv_at hl 3 rfl) ?_
                    refine lv_bipush (v := 59) hx hb dX6_readWalls_106 (by decide) ?_
                    refine wx_callei (va_runV (As := [.int 59]) (rest := []) ⟨hx, hb, hml, hown, hts⟩ (k_X6_take l g_24 59 (by rw [eg_24]; exact tT_X6_step (by rw [ez_19]; exact tT_X6_numberStands (by rw [ez_14]; exact tT_X6_take (by rw [eg_13]; exact tT_X6_step (by rw [ez_9]; exact tT_X6_numberStands (by rw [eg_8]; exact tT_X6_step hTI_2))))))) (cwV 1 hts gX6_readWalls_X6_take rfl rfl rfl (by decide +kernel) (by rw [hR]; exact ⟨Nat.le_of_ble_eq_true rfl, Nat.le_of_ble_eq_true rfl⟩)) ⟨wx_Pc.blind, wx_recv hK hX (by decide) sh_X6 rfl, (wx_Pc.pre hK hX).2⟩ rfl rfl hl.1 rfl (lv_room (Nat.le_of_ble_eq_true rfl)) dX6_readWalls_108 ⟨Nat.zero_le _, Nat.zero_le _⟩) hS (fun H locs hX hS => ?_)
                    obtain ⟨z_25, ez_25⟩ : ∃ z, z = f_X6_take g_24 59 := ⟨_, rfl⟩
                    rw [← ez_25] at hX; rw [← ez_25]
                    refine lv_if_ne (tgt := 116) hx hb dX6_readWalls_111 (by decide) (fun c_26 => ?_) (fun c_26 => ?_)
                    · refine lv_aload_n hx hb dX6_readWalls_116 rfl (lv_at hl 4 rfl) ?_
                      refine lv_iload_n hx hb dX6_readWalls_117 rfl (lv_at hl 1 rfl) ?_
                      refine lv_iload hx hb dX6_readWalls_118 (lv_at hl 0 rfl) ?_
                      refine wx_callev (va_runV (As := [.int x_12, .int x_22]) (rest := []) ⟨hx, hb, hml, hown, hts⟩ (k_X3_addWall l z_25.1 ho x_12 x_22 hho bx_12 bx_22) (cwV 2 hts gX6_readWalls_X3_addWall rfl rfl rfl (by decide +kernel) (by rw [hR]; exact ⟨Nat.le_of_ble_eq_true rfl, Nat.le_of_ble_eq_true rfl⟩)) ⟨wx_Pc.blind, wx_recv hK hX hho.l0 (sh_X3 hho) rfl, (wx_Pc.pre hK hX).2⟩ rfl rfl hl.1 rfl (lv_room (Nat.le_of_ble_eq_true rfl)) dX6_readWalls_120 ⟨Nat.zero_le _, Nat.zero_le _⟩) hS (fun H locs hX hS => ?_)
                      obtain ⟨g_27, eg_27, hX⟩ := wx_nm hX
                      refine lv_iinc (v := nI (t_2 + 1)) (lv' := [(2, .int (nI (t_2 + 1))), (4, .int x_22), (3, .int x_12), (0, .ref (ad 18)), (1, .ref (ad ho))]) hx hb dX6_readWalls_123 hl (k := 2) rfl (wx_inc _) (by decide) rfl (fun ls hl => ?_)
                      refine lv_goto (tgt := 2) hx hb dX6_readWalls_126 (by decide) ?_
                      have hF_28 : (b_X6_readWalls_2 g ho) t_2 s_2 = .inl g_27 := (by subst eg_27 ez_25 eg_24 ex_22 ez_19 ez_14 eg_13 ex_12 ez_9 eg_8; simp only [b_X6_readWalls_2, if_pos c_2, if_neg c_6, if_neg c_10, if_neg c_15, if_neg c_20, if_neg c_23, if_neg c_26])
                      exact ih_2 (t_2 + 1) g_27 ls H locs hlt_2 (by omega) ((repX_go es_2).trans hF_28) hX hS (by rw [eg_27]; exact tT_addWall hho (by rw [ez_25]; exact tT_X6_take (by rw [eg_24]; exact tT_X6_step (by rw [ez_19]; exact tT_X6_numberStands (by rw [ez_14]; exact tT_X6_take (by rw [eg_13]; exact tT_X6_step (by rw [ez_9]; exact tT_X6_numberStands (by rw [eg_8]; exact tT_X6_step hTI_2)))))))) (wb_w (show wx_b (g_27 ho 0) 0 6 by rw [show (g_27 ho 0) = (z_25.1 ho 0) from (by rw [eg_27, fr_addWall_0])]; exact (show wx_b (z_25.1 ho 0) 0 6 by rw [show (z_25.1 ho 0) = (g_24 ho 0) from (by rw [ez_25, fr_X6_take (by rcases hho with rfl | rfl | rfl | rfl <;> decide)])]; exact (show wx_b (g_24 ho 0) 0 6 by rw [show (g_24 ho 0) = (z_19.1 ho 0) from (by rw [eg_24, fr_X6_step (by rcases hho with rfl | rfl | rfl | rfl <;> decide)])]; exact (show wx_b (z_19.1 ho 0) 0 6 by rw [show (z_19.1 ho 0) = (z_14.1 ho 0) from (by rw [ez_19, fr_X6_numberStands (by rcases hho with rfl | rfl | rfl | rfl <;> decide)])]; exact (show wx_b (z_14.1 ho 0) 0 6 by rw [show (z_14.1 ho 0) = (g_13 ho 0) from (by rw [ez_14, fr_X6_take (by rcases hho with rfl | rfl | rfl | rfl <;> decide)])]; exact (show wx_b (g_13 ho 0) 0 6 by rw [show (g_13 ho 0) = (z_9.1 ho 0) from (by rw [eg_13, fr_X6_step (by rcases hho with rfl | rfl | rfl | rfl <;> decide)])]; exact (show wx_b (z_9.1 ho 0) 0 6 by rw [show (z_9.1 ho 0) = (g_8 ho 0) from (by rw [ez_9, fr_X6_numberStands (by rcases hho with rfl | rfl | rfl | rfl <;> decide)])]; exact (show wx_b (g_8 ho 0) 0 6 by rw [show (g_8 ho 0) = (s_2 ho 0) from (by rw [eg_8, fr_X6_step (by rcases hho with rfl | rfl | rfl | rfl <;> decide)])]; exact hRI_2)))))))) (by decide) (by decide)) (lv_sub hl [0, 3, 4] rfl)
                    · have b_29 : wx_b z_25.2 0 0 := by rw [c_26]; exact ⟨by decide, by decide⟩
                      refine lv_iconst (v := 0) hx hb dX6_readWalls_114 (by decide) ?_
                      have hF_30 : (b_X6_readWalls_2 g ho) t_2 s_2 = .inr ((z_25.1, 0)) := (by subst ez_25 eg_24 ex_22 ez_19 ez_14 eg_13 ex_12 ez_9 eg_8; simp only [b_X6_readWalls_2, if_pos c_2, if_neg c_6, if_neg c_10, if_neg c_15, if_neg c_20, if_neg c_23, if_pos c_26])
                      have hO_31 : repX 10 (b_X6_readWalls_2 g ho) g = .inr ((z_25.1, 0)) := repX_out es_2 hF_30 hlt_2
                      exact hret _ _ _ _ _ _ dX6_readWalls_115 rfl hX hS (by simp only [f_X6_readWalls, hO_31])
                  · refine lv_aload_n hx hb dX6_readWalls_95 rfl (lv_at hl 3 rfl) ?_
                    refine lv_iconst (v := 2) hx hb dX6_readWalls_96 (by decide) ?_
                    refine wx_callei (va_runV (As := [.int 2]) (rest := []) ⟨hx, hb, hml, hown, hts⟩ (k_X6_faulty l z_19.1 2 (by rw [ez_19]; exact tT_X6_numberStands (by rw [ez_14]; exact tT_X6_take (by rw [eg_13]; exact tT_X6_step (by rw [ez_9]; exact tT_X6_numberStands (by rw [eg_8]; exact tT_X6_step hTI_2)))))) (cwV 1 hts gX6_readWalls_X6_faulty rfl rfl rfl (by decide +kernel) (by rw [hR]; exact ⟨Nat.le_of_ble_eq_true rfl, Nat.le_of_ble_eq_true rfl⟩)) ⟨wx_Pc.blind, wx_recv hK hX (by decide) sh_X6 rfl, (wx_Pc.pre hK hX).2⟩ rfl rfl hl.1 rfl (lv_room (Nat.le_of_ble_eq_true rfl)) dX6_readWalls_97 ⟨Nat.zero_le _, Nat.zero_le _⟩) hS (fun H locs hX hS => ?_)
                    obtain ⟨z_32, ez_32⟩ : ∃ z, z = f_X6_faulty z_19.1 2 := ⟨_, rfl⟩
                    rw [← ez_32] at hX; rw [← ez_32]
                    have hF_33 : (b_X6_readWalls_2 g ho) t_2 s_2 = .inr ((z_32.1, z_32.2)) := (by subst ez_32 ex_22 ez_19 ez_14 eg_13 ex_12 ez_9 eg_8; simp only [b_X6_readWalls_2, if_pos c_2, if_neg c_6, if_neg c_10, if_neg c_15, if_neg c_20, if_pos c_23])
                    have hO_34 : repX 10 (b_X6_readWalls_2 g ho) g = .inr ((z_32.1, z_32.2)) := repX_out es_2 hF_33 hlt_2
                    exact hret _ _ _ _ _ _ dX6_readWalls_100 (by rw [ez_32]; exact nb_f_X6_faulty _ _) hX hS (by simp only [f_X6_readWalls, hO_34])
                · have b_35 : wx_b z_19.2 0 0 := by rw [c_20]; exact ⟨by decide, by decide⟩
                  refine lv_iconst (v := 0) hx hb dX6_readWalls_81 (by decide) ?_
                  have hF_36 : (b_X6_readWalls_2 g ho) t_2 s_2 = .inr ((z_19.1, 0)) := (by subst ez_19 ez_14 eg_13 ex_12 ez_9 eg_8; simp only [b_X6_readWalls_2, if_pos c_2, if_neg c_6, if_neg c_10, if_neg c_15, if_pos c_20])
                  have hO_37 : repX 10 (b_X6_readWalls_2 g ho) g = .inr ((z_19.1, 0)) := repX_out es_2 hF_36 hlt_2
                  exact hret _ _ _ _ _ _ dX6_readWalls_82 rfl hX hS (by simp only [f_X6_readWalls, hO_37])
            · have b_38 : wx_b z_9.2 0 0 := by rw [c_10]; exact ⟨by decide, by decide⟩
              refine lv_iconst (v := 0) hx hb dX6_readWalls_47 (by decide) ?_
              have hF_39 : (b_X6_readWalls_2 g ho) t_2 s_2 = .inr ((z_9.1, 0)) := (by subst ez_9 eg_8; simp only [b_X6_readWalls_2, if_pos c_2, if_neg c_6, if_pos c_10])
              have hO_40 : repX 10 (b_X6_readWalls_2 g ho) g = .inr ((z_9.1, 0)) := repX_out es_2 hF_39 hlt_2
              exact hret _ _ _ _ _ _ dX6_readWalls_48 rfl hX hS (by simp only [f_X6_readWalls, hO_40])
          · have b_41 : wx_b (nI t_2) 9 9 := by rw [c_6]; exact ⟨by decide, by decide⟩
            refine lv_aload_n hx hb dX6_readWalls_23 rfl (lv_at hl 1 rfl) ?_
            refine lv_iconst (v := 3) hx hb dX6_readWalls_24 (by decide) ?_
            refine wx_callei (va_runV (As := [.int 3]) (rest := []) ⟨hx, hb, hml, hown, hts⟩ (k_X6_faulty l s_2 3 hTI_2) (cwV 1 hts gX6_readWalls_X6_faulty rfl rfl rfl (by decide +kernel) (by rw [hR]; exact ⟨Nat.le_of_ble_eq_true rfl, Nat.le_of_ble_eq_true rfl⟩)) ⟨wx_Pc.blind, wx_recv hK hX (by decide) sh_X6 rfl, (wx_Pc.pre hK hX).2⟩ rfl rfl hl.1 rfl (lv_room (Nat.le_of_ble_eq_true rfl)) dX6_readWalls_25 ⟨Nat.zero_le _, Nat.zero_le _⟩) hS (fun H locs hX hS => ?_)
            obtain ⟨z_42, ez_42⟩ : ∃ z, z = f_X6_faulty s_2 3 := ⟨_, rfl⟩
            rw [← ez_42] at hX; rw [← ez_42]
            have hF_43 : (b_X6_readWalls_2 g ho) t_2 s_2 = .inr ((z_42.1, z_42.2)) := (by subst ez_42; simp only [b_X6_readWalls_2, if_pos c_2, if_pos c_6])
            have hO_44 : repX 10 (b_X6_readWalls_2 g ho) g = .inr ((z_42.1, z_42.2)) := repX_out es_2 hF_43 hlt_2
            exact hret _ _ _ _ _ _ dX6_readWalls_28 (by rw [ez_42]; exact nb_f_X6_faulty _ _) hX hS (by simp only [f_X6_readWalls, hO_44])
  exact lp_2 (10 + 1) 0 g ls s.heap [] (Nat.zero_le _) (by omega) rfl hX hS hT hro (lv_sub hl [0, 1, 2] rfl)
set_option maxHeartbeats 4000000 in
theorem np_X6_readWalls {g : wx_M} {ho : Nat} (hho : wx_H ho) (hT : wx_TB g) (hro : wx_b (g ho 0) 0 6) : narrow .boolean (.int (f_X6_readWalls g ho).2) = .int (f_X6_readWalls g ho).2 := by
  have lp_2 := repX_inv2 (f := (b_X6_readWalls_2 g ho)) (s0 := g) (fun (t_2 : Nat) (s_2 : wx_M) => (wx_TB s_2) ∧ (wx_b (s_2 ho 0) 0 6)) (fun r => narrow .boolean (.int (r).2) = .int (r).2) 10 ⟨hT, hro⟩ (by
    intro t_2 s_2 hlt_2 hI9
    obtain ⟨hTI_2, hRI_2⟩ := hI9
    have bt_2 : wx_b (nI (t_2)) 0 9 := wb_nI (n := 9) (by omega) (by decide)
    by_cases c_2 : (s_2 18 6) = 103
    · have b_3 : wx_b (s_2 18 6) 103 103 := by rw [c_2]; exact ⟨by decide, by decide⟩
      by_cases c_4 : (nI t_2) = 9
      · have b_5 : wx_b (nI t_2) 9 9 := by rw [c_4]; exact ⟨by decide, by decide⟩
        obtain ⟨z_6, ez_6⟩ : ∃ z, z = f_X6_faulty s_2 3 := ⟨_, rfl⟩
        rw [show (b_X6_readWalls_2 g ho) t_2 s_2 = .inr ((z_6.1, z_6.2)) from (by subst ez_6; simp only [b_X6_readWalls_2, if_pos c_2, if_pos c_4])]
        exact (Or.inr ⟨_, rfl, (by rw [ez_6]; exact nb_f_X6_faulty _ _)⟩)
      · have b_7 : wx_b (nI t_2) 0 8 := wb_neh c_4 bt_2 (by decide)
        obtain ⟨g_8, eg_8⟩ : ∃ z : wx_M, z = e_X6_step s_2 := ⟨_, rfl⟩
        obtain ⟨z_9, ez_9⟩ : ∃ z, z = f_X6_numberStands g_8 0 ((g_8 ho 0) - 1) := ⟨_, rfl⟩
        by_cases c_10 : z_9.2 = 0
        · have b_11 : wx_b z_9.2 0 0 := by rw [c_10]; exact ⟨by decide, by decide⟩
          rw [show (b_X6_readWalls_2 g ho) t_2 s_2 = .inr ((z_9.1, 0)) from (by subst ez_9 eg_8; simp only [b_X6_readWalls_2, if_pos c_2, if_neg c_4, if_pos c_10])]
          exact (Or.inr ⟨_, rfl, (show narrow .boolean (.int 0) = .int 0 from rfl)⟩)
        · have b_12 : wx_b (z_9.1 18 7) 0 5 := by rw [ez_9]; exact ns_b (show wx_b 0 0 0 from ⟨by decide, by decide⟩) (wb_sub (show wx_b (g_8 ho 0) 0 6 by rw [show (g_8 ho 0) = (s_2 ho 0) from (by rw [eg_8, fr_X6_step (by rcases hho with rfl | rfl | rfl | rfl <;> decide)])]; exact hRI_2) (show wx_b 1 1 1 from ⟨by decide, by decide⟩) (by decide) (by decide)) (by rw [← ez_9]; exact c_10)
          obtain ⟨x_13, ex_13⟩ : ∃ z : Int32, z = (z_9.1 18 7) := ⟨_, rfl⟩
          have bx_13 : wx_b x_13 0 5 := by rw [ex_13]; exact b_12
          obtain ⟨g_14, eg_14⟩ : ∃ z : wx_M, z = e_X6_step z_9.1 := ⟨_, rfl⟩
          obtain ⟨z_15, ez_15⟩ : ∃ z, z = f_X6_take g_14 44 := ⟨_, rfl⟩
          by_cases c_16 : z_15.2 = 0
          · have b_17 : wx_b z_15.2 0 0 := by rw [c_16]; exact ⟨by decide, by decide⟩
            rw [show (b_X6_readWalls_2 g ho) t_2 s_2 = .inr ((z_15.1, 0)) from (by subst ez_15 eg_14 ex_13 ez_9 eg_8; simp only [b_X6_readWalls_2, if_pos c_2, if_neg c_4, if_neg c_10, if_pos c_16])]
            exact (Or.inr ⟨_, rfl, (show narrow .boolean (.int 0) = .int 0 from rfl)⟩)
          · obtain ⟨z_18, ez_18⟩ : ∃ z, z = f_X6_numberStands z_15.1 0 ((z_15.1 ho 0) - 1) := ⟨_, rfl⟩
            by_cases c_19 : z_18.2 = 0
            · have b_20 : wx_b z_18.2 0 0 := by rw [c_19]; exact ⟨by decide, by decide⟩
              rw [show (b_X6_readWalls_2 g ho) t_2 s_2 = .inr ((z_18.1, 0)) from (by subst ez_18 ez_15 eg_14 ex_13 ez_9 eg_8; simp only [b_X6_readWalls_2, if_pos c_2, if_neg c_4, if_neg c_10, if_neg c_16, if_pos c_19])]
              exact (Or.inr ⟨_, rfl, (show narrow .boolean (.int 0) = .int 0 from rfl)⟩)
            · have b_21 : wx_b (z_18.1 18 7) 0 5 := by rw [ez_18]; exact ns_b (show wx_b 0 0 0 from ⟨by decide, by decide⟩) (wb_sub (show wx_b (z_15.1 ho 0) 0 6 by rw [show (z_15.1 ho 0) = (g_14 ho 0) from (by rw [ez_15, fr_X6_take (by rcases hho with rfl | rfl | rfl | rfl <;> decide)])]; exact (show wx_b (g_14 ho 0) 0 6 by rw [show (g_14 ho 0) = (z_9.1 ho 0) from (by rw [eg_14, fr_X6_step (by rcases hho with rfl | rfl | rfl | rfl <;> decide)])]; exact (show wx_b (z_9.1 ho 0) 0 6 by rw [show (z_9.1 ho 0) = (g_8 ho 0) from (by rw [ez_9, fr_X6_numberStands (by rcases hho with rfl | rfl | rfl | rfl <;> decide)])]; exact (show wx_b (g_8 ho 0) 0 6 by rw [show (g_8 ho 0) = (s_2 ho 0) from (by rw [eg_8, fr_X6_step (by rcases hho with rfl | rfl | rfl | rfl <;> decide)])]; exact hRI_2)))) (show wx_b 1 1 1 from ⟨by decide, by decide⟩) (by decide) (by decide)) (by rw [← ez_18]; exact c_19)
              obtain ⟨x_22, ex_22⟩ : ∃ z : Int32, z = (z_18.1 18 7) := ⟨_, rfl⟩
              have bx_22 : wx_b x_22 0 5 := by rw [ex_22]; exact b_21
              by_cases c_23 : x_22 = x_13
              · obtain ⟨z_24, ez_24⟩ : ∃ z, z = f_X6_faulty z_18.1 2 := ⟨_, rfl⟩
                rw [show (b_X6_readWalls_2 g ho) t_2 s_2 = .inr ((z_24.1, z_24.2)) from (by subst ez_24 ex_22 ez_18 ez_15 eg_14 ex_13 ez_9 eg_8; simp only [b_X6_readWalls_2, if_pos c_2, if_neg c_4, if_neg c_10, if_neg c_16, if_neg c_19, if_pos c_23])]
                exact (Or.inr ⟨_, rfl, (by rw [ez_24]; exact nb_f_X6_faulty _ _)⟩)
              · obtain ⟨g_25, eg_25⟩ : ∃ z : wx_M, z = e_X6_step z_18.1 := ⟨_, rfl⟩
                obtain ⟨z_26, ez_26⟩ : ∃ z, z = f_X6_take g_25 59 := ⟨_, rfl⟩
                by_cases c_27 : z_26.2 = 0
                · have b_28 : wx_b z_26.2 0 0 := by rw [c_27]; exact ⟨by decide, by decide⟩
                  rw [show (b_X6_readWalls_2 g ho) t_2 s_2 = .inr ((z_26.1, 0)) from (by subst ez_26 eg_25 ex_22 ez_18 ez_15 eg_14 ex_13 ez_9 eg_8; simp only [b_X6_readWalls_2, if_pos c_2, if_neg c_4, if_neg c_10, if_neg c_16, if_neg c_19, if_neg c_23, if_pos c_27])]
                  exact (Or.inr ⟨_, rfl, (show narrow .boolean (.int 0) = .int 0 from rfl)⟩)
                · obtain ⟨g_29, eg_29⟩ : ∃ z : wx_M, z = e_X3_addWall z_26.1 ho x_13 x_22 := ⟨_, rfl⟩
                  rw [show (b_X6_readWalls_2 g ho) t_2 s_2 = .inl g_29 from (by subst eg_29 ez_26 eg_25 ex_22 ez_18 ez_15 eg_14 ex_13 ez_9 eg_8; simp only [b_X6_readWalls_2, if_pos c_2, if_neg c_4, if_neg c_10, if_neg c_16, if_neg c_19, if_neg c_23, if_neg c_27])]
                  exact (Or.inl ⟨_, rfl, ⟨(by rw [eg_29]; exact tT_addWall hho (by rw [ez_26]; exact tT_X6_take (by rw [eg_25]; exact tT_X6_step (by rw [ez_18]; exact tT_X6_numberStands (by rw [ez_15]; exact tT_X6_take (by rw [eg_14]; exact tT_X6_step (by rw [ez_9]; exact tT_X6_numberStands (by rw [eg_8]; exact tT_X6_step hTI_2)))))))), (wb_w (show wx_b (g_29 ho 0) 0 6 by rw [show (g_29 ho 0) = (z_26.1 ho 0) from (by rw [eg_29, fr_addWall_0])]; exact (show wx_b (z_26.1 ho 0) 0 6 by rw [show (z_26.1 ho 0) = (g_25 ho 0) from (by rw [ez_26, fr_X6_take (by rcases hho with rfl | rfl | rfl | rfl <;> decide)])]; exact (show wx_b (g_25 ho 0) 0 6 by rw [show (g_25 ho 0) = (z_18.1 ho 0) from (by rw [eg_25, fr_X6_step (by rcases hho with rfl | rfl | rfl | rfl <;> decide)])]; exact (show wx_b (z_18.1 ho 0) 0 6 by rw [show (z_18.1 ho 0) = (z_15.1 ho 0) from (by rw [ez_18, fr_X6_numberStands (by rcases hho with rfl | rfl | rfl | rfl <;> decide)])]; exact (show wx_b (z_15.1 ho 0) 0 6 by rw [show (z_15.1 ho 0) = (g_14 ho 0) from (by rw [ez_15, fr_X6_take (by rcases hho with rfl | rfl | rfl | rfl <;> decide)])]; exact (show wx_b (g_14 ho 0) 0 6 by rw [show (g_14 ho 0) = (z_9.1 ho 0) from (by rw [eg_14, fr_X6_step (by rcases hho with rfl | rfl | rfl | rfl <;> decide)])]; exact (show wx_b (z_9.1 ho 0) 0 6 by rw [show (z_9.1 ho 0) = (g_8 ho 0) from (by rw [ez_9, fr_X6_numberStands (by rcases hho with rfl | rfl | rfl | rfl <;> decide)])]; exact (show wx_b (g_8 ho 0) 0 6 by rw [show (g_8 ho 0) = (s_2 ho 0) from (by rw [eg_8, fr_X6_step (by rcases hho with rfl | rfl | rfl | rfl <;> decide)])]; exact hRI_2)))))))) (by decide) (by decide))⟩⟩)
    · rw [show (b_X6_readWalls_2 g ho) t_2 s_2 = .inr ((s_2, 1)) from (by simp only [b_X6_readWalls_2, if_neg c_2])]
      exact (Or.inr ⟨_, rfl, (show narrow .boolean (.int 1) = .int 1 from rfl)⟩))
  cases hc_2 : repX 10 (b_X6_readWalls_2 g ho) g with
  | inr r_2 =>
    rw [show f_X6_readWalls g ho = r_2 from (by simp only [f_X6_readWalls, hc_2])]
    exact lp_2.2 _ hc_2
  | inl s_2 =>
    have h9 := lp_2.1 _ hc_2
    obtain ⟨hTI_2, hRI_2⟩ := h9
    rw [show f_X6_readWalls g ho = (s_2, 1) from (by simp only [f_X6_readWalls, hc_2])]
    exact (show narrow .boolean (.int 1) = .int 1 from rfl)

set_option maxHeartbeats 4000000 in
theorem tT_X6_readWalls {g : wx_M} {ho : Nat} (hho : wx_H ho) (hT : wx_TB g) (hro : wx_b (g ho 0) 0 6) : wx_TB (f_X6_readWalls g ho).1 := by
  have lp_2 := repX_inv2 (f := (b_X6_readWalls_2 g ho)) (s0 := g) (fun (t_2 : Nat) (s_2 : wx_M) => (wx_TB s_2) ∧ (wx_b (s_2 ho 0) 0 6)) (fun r => wx_TB (r).1) 10 ⟨hT, hro⟩ (by
    intro t_2 s_2 hlt_2 hI9
    obtain ⟨hTI_2, hRI_2⟩ := hI9
    have bt_2 : wx_b (nI (t_2)) 0 9 := wb_nI (n := 9) (by omega) (by decide)
    by_cases c_2 : (s_2 18 6) = 103
    · have b_3 : wx_b (s_2 18 6) 103 103 := by rw [c_2]; exact ⟨by decide, by decide⟩
      by_cases c_4 : (nI t_2) = 9
      · have b_5 : wx_b (nI t_2) 9 9 := by rw [c_4]; exact ⟨by decide, by decide⟩
        obtain ⟨z_6, ez_6⟩ : ∃ z, z = f_X6_faulty s_2 3 := ⟨_, rfl⟩
        rw [show (b_X6_readWalls_2 g ho) t_2 s_2 = .inr ((z_6.1, z_6.2)) from (by subst ez_6; simp only [b_X6_readWalls_2, if_pos c_2, if_pos c_4])]
        exact (Or.inr ⟨_, rfl, (by rw [ez_6]; exact tT_X6_faulty hTI_2)⟩)
      · have b_7 : wx_b (nI t_2) 0 8 := wb_neh c_4 bt_2 (by decide)
        obtain ⟨g_8, eg_8⟩ : ∃ z : wx_M, z = e_X6_step s_2 := ⟨_, rfl⟩
        obtain ⟨z_9, ez_9⟩ : ∃ z, z = f_X6_numberStands g_8 0 ((g_8 ho 0) - 1) := ⟨_, rfl⟩
        by_cases c_10 : z_9.2 = 0
        · have b_11 : wx_b z_9.2 0 0 := by rw [c_10]; exact ⟨by decide, by decide⟩
          rw [show (b_X6_readWalls_2 g ho) t_2 s_2 = .inr ((z_9.1, 0)) from (by subst ez_9 eg_8; simp only [b_X6_readWalls_2, if_pos c_2, if_neg c_4, if_pos c_10])]
          exact (Or.inr ⟨_, rfl, (by rw [ez_9]; exact tT_X6_numberStands (by rw [eg_8]; exact tT_X6_step hTI_2))⟩)
        · have b_12 : wx_b (z_9.1 18 7) 0 5 := by rw [ez_9]; exact ns_b (show wx_b 0 0 0 from ⟨by decide, by decide⟩) (wb_sub (show wx_b (g_8 ho 0) 0 6 by rw [show (g_8 ho 0) = (s_2 ho 0) from (by rw [eg_8, fr_X6_step (by rcases hho with rfl | rfl | rfl | rfl <;> decide)])]; exact hRI_2) (show wx_b 1 1 1 from ⟨by decide, by decide⟩) (by decide) (by decide)) (by rw [← ez_9]; exact c_10)
          obtain ⟨x_13, ex_13⟩ : ∃ z : Int32, z = (z_9.1 18 7) := ⟨_, rfl⟩
          have bx_13 : wx_b x_13 0 5 := by rw [ex_13]; exact b_12
          obtain ⟨g_14, eg_14⟩ : ∃ z : wx_M, z = e_X6_step z_9.1 := ⟨_, rfl⟩
          obtain ⟨z_15, ez_15⟩ : ∃ z, z = f_X6_take g_14 44 := ⟨_, rfl⟩
          by_cases c_16 : z_15.2 = 0
          · have b_17 : wx_b z_15.2 0 0 := by rw [c_16]; exact ⟨by decide, by decide⟩
            rw [show (b_X6_readWalls_2 g ho) t_2 s_2 = .inr ((z_15.1, 0)) from (by subst ez_15 eg_14 ex_13 ez_9 eg_8; simp only [b_X6_readWalls_2, if_pos c_2, if_neg c_4, if_neg c_10, if_pos c_16])]
            exact (Or.inr ⟨_, rfl, (by rw [ez_15]; exact tT_X6_take (by rw [eg_14]; exact tT_X6_step (by rw [ez_9]; exact tT_X6_numberStands (by rw [eg_8]; exact tT_X6_step hTI_2))))⟩)
          · obtain ⟨z_18, ez_18⟩ : ∃ z, z = f_X6_numberStands z_15.1 0 ((z_15.1 ho 0) - 1) := ⟨_, rfl⟩
            by_cases c_19 : z_18.2 = 0
            · have b_20 : wx_b z_18.2 0 0 := by rw [c_19]; exact ⟨by decide, by decide⟩
              rw [show (b_X6_readWalls_2 g ho) t_2 s_2 = .inr ((z_18.1, 0)) from (by subst ez_18 ez_15 eg_14 ex_13 ez_9 eg_8; simp only [b_X6_readWalls_2, if_pos c_2, if_neg c_4, if_neg c_10, if_neg c_16, if_pos c_19])]
              exact (Or.inr ⟨_, rfl, (by rw [ez_18]; exact tT_X6_numberStands (by rw [ez_15]; exact tT_X6_take (by rw [eg_14]; exact tT_X6_step (by rw [ez_9]; exact tT_X6_numberStands (by rw [eg_8]; exact tT_X6_step hTI_2)))))⟩)
            · have b_21 : wx_b (z_18.1 18 7) 0 5 := by rw [ez_18]; exact ns_b (show wx_b 0 0 0 from ⟨by decide, by decide⟩) (wb_sub (show wx_b (z_15.1 ho 0) 0 6 by rw [show (z_15.1 ho 0) = (g_14 ho 0) from (by rw [ez_15, fr_X6_take (by rcases hho with rfl | rfl | rfl | rfl <;> decide)])]; exact (show wx_b (g_14 ho 0) 0 6 by rw [show (g_14 ho 0) = (z_9.1 ho 0) from (by rw [eg_14, fr_X6_step (by rcases hho with rfl | rfl | rfl | rfl <;> decide)])]; exact (show wx_b (z_9.1 ho 0) 0 6 by rw [show (z_9.1 ho 0) = (g_8 ho 0) from (by rw [ez_9, fr_X6_numberStands (by rcases hho with rfl | rfl | rfl | rfl <;> decide)])]; exact (show wx_b (g_8 ho 0) 0 6 by rw [show (g_8 ho 0) = (s_2 ho 0) from (by rw [eg_8, fr_X6_step (by rcases hho with rfl | rfl | rfl | rfl <;> decide)])]; exact hRI_2)))) (show wx_b 1 1 1 from ⟨by decide, by decide⟩) (by decide) (by decide)) (by rw [← ez_18]; exact c_19)
              obtain ⟨x_22, ex_22⟩ : ∃ z : Int32, z = (z_18.1 18 7) := ⟨_, rfl⟩
              have bx_22 : wx_b x_22 0 5 := by rw [ex_22]; exact b_21
              by_cases c_23 : x_22 = x_13
              · obtain ⟨z_24, ez_24⟩ : ∃ z, z = f_X6_faulty z_18.1 2 := ⟨_, rfl⟩
                rw [show (b_X6_readWalls_2 g ho) t_2 s_2 = .inr ((z_24.1, z_24.2)) from (by subst ez_24 ex_22 ez_18 ez_15 eg_14 ex_13 ez_9 eg_8; simp only [b_X6_readWalls_2, if_pos c_2, if_neg c_4, if_neg c_10, if_neg c_16, if_neg c_19, if_pos c_23])]
                exact (Or.inr ⟨_, rfl, (by rw [ez_24]; exact tT_X6_faulty (by rw [ez_18]; exact tT_X6_numberStands (by rw [ez_15]; exact tT_X6_take (by rw [eg_14]; exact tT_X6_step (by rw [ez_9]; exact tT_X6_numberStands (by rw [eg_8]; exact tT_X6_step hTI_2))))))⟩)
              · obtain ⟨g_25, eg_25⟩ : ∃ z : wx_M, z = e_X6_step z_18.1 := ⟨_, rfl⟩
                obtain ⟨z_26, ez_26⟩ : ∃ z, z = f_X6_take g_25 59 := ⟨_, rfl⟩
                by_cases c_27 : z_26.2 = 0
                · have b_28 : wx_b z_26.2 0 0 := by rw [c_27]; exact ⟨by decide, by decide⟩
                  rw [show (b_X6_readWalls_2 g ho) t_2 s_2 = .inr ((z_26.1, 0)) from (by subst ez_26 eg_25 ex_22 ez_18 ez_15 eg_14 ex_13 ez_9 eg_8; simp only [b_X6_readWalls_2, if_pos c_2, if_neg c_4, if_neg c_10, if_neg c_16, if_neg c_19, if_neg c_23, if_pos c_27])]
                  exact (Or.inr ⟨_, rfl, (by rw [ez_26]; exact tT_X6_take (by rw [eg_25]; exact tT_X6_step (by rw [ez_18]; exact tT_X6_numberStands (by rw [ez_15]; exact tT_X6_take (by rw [eg_14]; exact tT_X6_step (by rw [ez_9]; exact tT_X6_numberStands (by rw [eg_8]; exact tT_X6_step hTI_2)))))))⟩)
                · obtain ⟨g_29, eg_29⟩ : ∃ z : wx_M, z = e_X3_addWall z_26.1 ho x_13 x_22 := ⟨_, rfl⟩
                  rw [show (b_X6_readWalls_2 g ho) t_2 s_2 = .inl g_29 from (by subst eg_29 ez_26 eg_25 ex_22 ez_18 ez_15 eg_14 ex_13 ez_9 eg_8; simp only [b_X6_readWalls_2, if_pos c_2, if_neg c_4, if_neg c_10, if_neg c_16, if_neg c_19, if_neg c_23, if_neg c_27])]
                  exact (Or.inl ⟨_, rfl, ⟨(by rw [eg_29]; exact tT_addWall hho (by rw [ez_26]; exact tT_X6_take (by rw [eg_25]; exact tT_X6_step (by rw [ez_18]; exact tT_X6_numberStands (by rw [ez_15]; exact tT_X6_take (by rw [eg_14]; exact tT_X6_step (by rw [ez_9]; exact tT_X6_numberStands (by rw [eg_8]; exact tT_X6_step hTI_2)))))))), (wb_w (show wx_b (g_29 ho 0) 0 6 by rw [show (g_29 ho 0) = (z_26.1 ho 0) from (by rw [eg_29, fr_addWall_0])]; exact (show wx_b (z_26.1 ho 0) 0 6 by rw [show (z_26.1 ho 0) = (g_25 ho 0) from (by rw [ez_26, fr_X6_take (by rcases hho with rfl | rfl | rfl | rfl <;> decide)])]; exact (show wx_b (g_25 ho 0) 0 6 by rw [show (g_25 ho 0) = (z_18.1 ho 0) from (by rw [eg_25, fr_X6_step (by rcases hho with rfl | rfl | rfl | rfl <;> decide)])]; exact (show wx_b (z_18.1 ho 0) 0 6 by rw [show (z_18.1 ho 0) = (z_15.1 ho 0) from (by rw [ez_18, fr_X6_numberStands (by rcases hho with rfl | rfl | rfl | rfl <;> decide)])]; exact (show wx_b (z_15.1 ho 0) 0 6 by rw [show (z_15.1 ho 0) = (g_14 ho 0) from (by rw [ez_15, fr_X6_take (by rcases hho with rfl | rfl | rfl | rfl <;> decide)])]; exact (show wx_b (g_14 ho 0) 0 6 by rw [show (g_14 ho 0) = (z_9.1 ho 0) from (by rw [eg_14, fr_X6_step (by rcases hho with rfl | rfl | rfl | rfl <;> decide)])]; exact (show wx_b (z_9.1 ho 0) 0 6 by rw [show (z_9.1 ho 0) = (g_8 ho 0) from (by rw [ez_9, fr_X6_numberStands (by rcases hho with rfl | rfl | rfl | rfl <;> decide)])]; exact (show wx_b (g_8 ho 0) 0 6 by rw [show (g_8 ho 0) = (s_2 ho 0) from (by rw [eg_8, fr_X6_step (by rcases hho with rfl | rfl | rfl | rfl <;> decide)])]; exact hRI_2)))))))) (by decide) (by decide))⟩⟩)
    · rw [show (b_X6_readWalls_2 g ho) t_2 s_2 = .inr ((s_2, 1)) from (by simp only [b_X6_readWalls_2, if_neg c_2])]
      exact (Or.inr ⟨_, rfl, hTI_2⟩))
  cases hc_2 : repX 10 (b_X6_readWalls_2 g ho) g with
  | inr r_2 =>
    rw [show f_X6_readWalls g ho = r_2 from (by simp only [f_X6_readWalls, hc_2])]
    exact lp_2.2 _ hc_2
  | inl s_2 =>
    have h9 := lp_2.1 _ hc_2
    obtain ⟨hTI_2, hRI_2⟩ := h9
    rw [show f_X6_readWalls g ho = (s_2, 1) from (by simp only [f_X6_readWalls, hc_2])]
    exact hTI_2

set_option maxHeartbeats 4000000 in
theorem ro_X6_readWalls {g : wx_M} {ho : Nat} (hho : wx_H ho) (hT : wx_TB g) (hro : wx_b (g ho 0) 0 6) : wx_b ((f_X6_readWalls g ho).1 ho 0) 0 6 := by
  have lp_2 := repX_inv2 (f := (b_X6_readWalls_2 g ho)) (s0 := g) (fun (t_2 : Nat) (s_2 : wx_M) => (wx_TB s_2) ∧ (wx_b (s_2 ho 0) 0 6)) (fun r => wx_b ((r).1 ho 0) 0 6) 10 ⟨hT, hro⟩ (by
    intro t_2 s_2 hlt_2 hI9
    obtain ⟨hTI_2, hRI_2⟩ := hI9
    have bt_2 : wx_b (nI (t_2)) 0 9 := wb_nI (n := 9) (by omega) (by decide)
    by_cases c_2 : (s_2 18 6) = 103
    · have b_3 : wx_b (s_2 18 6) 103 103 := by rw [c_2]; exact ⟨by decide, by decide⟩
      by_cases c_4 : (nI t_2) = 9
      · have b_5 : wx_b (nI t_2) 9 9 := by rw [c_4]; exact ⟨by decide, by decide⟩
        obtain ⟨z_6, ez_6⟩ : ∃ z, z = f_X6_faulty s_2 3 := ⟨_, rfl⟩
        rw [show (b_X6_readWalls_2 g ho) t_2 s_2 = .inr ((z_6.1, z_6.2)) from (by subst ez_6; simp only [b_X6_readWalls_2, if_pos c_2, if_pos c_4])]
        exact (Or.inr ⟨_, rfl, (wb_w (show wx_b (z_6.1 ho 0) 0 6 by rw [show (z_6.1 ho 0) = (s_2 ho 0) from (by rw [ez_6, fr_X6_faulty (by rcases hho with rfl | rfl | rfl | rfl <;> decide)])]; exact hRI_2) (by decide) (by decide))⟩)
      · have b_7 : wx_b (nI t_2) 0 8 := wb_neh c_4 bt_2 (by decide)
        obtain ⟨g_8, eg_8⟩ : ∃ z : wx_M, z = e_X6_step s_2 := ⟨_, rfl⟩
        obtain ⟨z_9, ez_9⟩ : ∃ z, z = f_X6_numberStands g_8 0 ((g_8 ho 0) - 1) := ⟨_, rfl⟩
        by_cases c_10 : z_9.2 = 0
        · have b_11 : wx_b z_9.2 0 0 := by rw [c_10]; exact ⟨by decide, by decide⟩
          rw [show (b_X6_readWalls_2 g ho) t_2 s_2 = .inr ((z_9.1, 0)) from (by subst ez_9 eg_8; simp only [b_X6_readWalls_2, if_pos c_2, if_neg c_4, if_pos c_10])]
          exact (Or.inr ⟨_, rfl, (wb_w (show wx_b (z_9.1 ho 0) 0 6 by rw [show (z_9.1 ho 0) = (g_8 ho 0) from (by rw [ez_9, fr_X6_numberStands (by rcases hho with rfl | rfl | rfl | rfl <;> decide)])]; exact (show wx_b (g_8 ho 0) 0 6 by rw [show (g_8 ho 0) = (s_2 ho 0) from (by rw [eg_8, fr_X6_step (by rcases hho with rfl | rfl | rfl | rfl <;> decide)])]; exact hRI_2)) (by decide) (by decide))⟩)
        · have b_12 : wx_b (z_9.1 18 7) 0 5 := by rw [ez_9]; exact ns_b (show wx_b 0 0 0 from ⟨by decide, by decide⟩) (wb_sub (show wx_b (g_8 ho 0) 0 6 by rw [show (g_8 ho 0) = (s_2 ho 0) from (by rw [eg_8, fr_X6_step (by rcases hho with rfl | rfl | rfl | rfl <;> decide)])]; exact hRI_2) (show wx_b 1 1 1 from ⟨by decide, by decide⟩) (by decide) (by decide)) (by rw [← ez_9]; exact c_10)
          obtain ⟨x_13, ex_13⟩ : ∃ z : Int32, z = (z_9.1 18 7) := ⟨_, rfl⟩
          have bx_13 : wx_b x_13 0 5 := by rw [ex_13]; exact b_12
          obtain ⟨g_14, eg_14⟩ : ∃ z : wx_M, z = e_X6_step z_9.1 := ⟨_, rfl⟩
          obtain ⟨z_15, ez_15⟩ : ∃ z, z = f_X6_take g_14 44 := ⟨_, rfl⟩
          by_cases c_16 : z_15.2 = 0
          · have b_17 : wx_b z_15.2 0 0 := by rw [c_16]; exact ⟨by decide, by decide⟩
            rw [show (b_X6_readWalls_2 g ho) t_2 s_2 = .inr ((z_15.1, 0)) from (by subst ez_15 eg_14 ex_13 ez_9 eg_8; simp only [b_X6_readWalls_2, if_pos c_2, if_neg c_4, if_neg c_10, if_pos c_16])]
            exact (Or.inr ⟨_, rfl, (wb_w (show wx_b (z_15.1 ho 0) 0 6 by rw [show (z_15.1 ho 0) = (g_14 ho 0) from (by rw [ez_15, fr_X6_take (by rcases hho with rfl | rfl | rfl | rfl <;> decide)])]; exact (show wx_b (g_14 ho 0) 0 6 by rw [show (g_14 ho 0) = (z_9.1 ho 0) from (by rw [eg_14, fr_X6_step (by rcases hho with rfl | rfl | rfl | rfl <;> decide)])]; exact (show wx_b (z_9.1 ho 0) 0 6 by rw [show (z_9.1 ho 0) = (g_8 ho 0) from (by rw [ez_9, fr_X6_numberStands (by rcases hho with rfl | rfl | rfl | rfl <;> decide)])]; exact (show wx_b (g_8 ho 0) 0 6 by rw [show (g_8 ho 0) = (s_2 ho 0) from (by rw [eg_8, fr_X6_step (by rcases hho with rfl | rfl | rfl | rfl <;> decide)])]; exact hRI_2)))) (by decide) (by decide))⟩)
          · obtain ⟨z_18, ez_18⟩ : ∃ z, z = f_X6_numberStands z_15.1 0 ((z_15.1 ho 0) - 1) := ⟨_, rfl⟩
            by_cases c_19 : z_18.2 = 0
            · have b_20 : wx_b z_18.2 0 0 := by rw [c_19]; exact ⟨by decide, by decide⟩
              rw [show (b_X6_readWalls_2 g ho) t_2 s_2 = .inr ((z_18.1, 0)) from (by subst ez_18 ez_15 eg_14 ex_13 ez_9 eg_8; simp only [b_X6_readWalls_2, if_pos c_2, if_neg c_4, if_neg c_10, if_neg c_16, if_pos c_19])]
              exact (Or.inr ⟨_, rfl, (wb_w (show wx_b (z_18.1 ho 0) 0 6 by rw [show (z_18.1 ho 0) = (z_15.1 ho 0) from (by rw [ez_18, fr_X6_numberStands (by rcases hho with rfl | rfl | rfl | rfl <;> decide)])]; exact (show wx_b (z_15.1 ho 0) 0 6 by rw [show (z_15.1 ho 0) = (g_14 ho 0) from (by rw [ez_15, fr_X6_take (by rcases hho with rfl | rfl | rfl | rfl <;> decide)])]; exact (show wx_b (g_14 ho 0) 0 6 by rw [show (g_14 ho 0) = (z_9.1 ho 0) from (by rw [eg_14, fr_X6_step (by rcases hho with rfl | rfl | rfl | rfl <;> decide)])]; exact (show wx_b (z_9.1 ho 0) 0 6 by rw [show (z_9.1 ho 0) = (g_8 ho 0) from (by rw [ez_9, fr_X6_numberStands (by rcases hho with rfl | rfl | rfl | rfl <;> decide)])]; exact (show wx_b (g_8 ho 0) 0 6 by rw [show (g_8 ho 0) = (s_2 ho 0) from (by rw [eg_8, fr_X6_step (by rcases hho with rfl | rfl | rfl | rfl <;> decide)])]; exact hRI_2))))) (by decide) (by decide))⟩)
            · have b_21 : wx_b (z_18.1 18 7) 0 5 := by rw [ez_18]; exact ns_b (show wx_b 0 0 0 from ⟨by decide, by decide⟩) (wb_sub (show wx_b (z_15.1 ho 0) 0 6 by rw [show (z_15.1 ho 0) = (g_14 ho 0) from (by rw [ez_15, fr_X6_take (by rcases hho with rfl | rfl | rfl | rfl <;> decide)])]; exact (show wx_b (g_14 ho 0) 0 6 by rw [show (g_14 ho 0) = (z_9.1 ho 0) from (by rw [eg_14, fr_X6_step (by rcases hho with rfl | rfl | rfl | rfl <;> decide)])]; exact (show wx_b (z_9.1 ho 0) 0 6 by rw [show (z_9.1 ho 0) = (g_8 ho 0) from (by rw [ez_9, fr_X6_numberStands (by rcases hho with rfl | rfl | rfl | rfl <;> decide)])]; exact (show wx_b (g_8 ho 0) 0 6 by rw [show (g_8 ho 0) = (s_2 ho 0) from (by rw [eg_8, fr_X6_step (by rcases hho with rfl | rfl | rfl | rfl <;> decide)])]; exact hRI_2)))) (show wx_b 1 1 1 from ⟨by decide, by decide⟩) (by decide) (by decide)) (by rw [← ez_18]; exact c_19)
              obtain ⟨x_22, ex_22⟩ : ∃ z : Int32, z = (z_18.1 18 7) := ⟨_, rfl⟩
              have bx_22 : wx_b x_22 0 5 := by rw [ex_22]; exact b_21
              by_cases c_23 : x_22 = x_13
              · obtain ⟨z_24, ez_24⟩ : ∃ z, z = f_X6_faulty z_18.1 2 := ⟨_, rfl⟩
                rw [show (b_X6_readWalls_2 g ho) t_2 s_2 = .inr ((z_24.1, z_24.2)) from (by subst ez_24 ex_22 ez_18 ez_15 eg_14 ex_13 ez_9 eg_8; simp only [b_X6_readWalls_2, if_pos c_2, if_neg c_4, if_neg c_10, if_neg c_16, if_neg c_19, if_pos c_23])]
                exact (Or.inr ⟨_, rfl, (wb_w (show wx_b (z_24.1 ho 0) 0 6 by rw [show (z_24.1 ho 0) = (z_18.1 ho 0) from (by rw [ez_24, fr_X6_faulty (by rcases hho with rfl | rfl | rfl | rfl <;> decide)])]; exact (show wx_b (z_18.1 ho 0) 0 6 by rw [show (z_18.1 ho 0) = (z_15.1 ho 0) from (by rw [ez_18, fr_X6_numberStands (by rcases hho with rfl | rfl | rfl | rfl <;> decide)])]; exact (show wx_b (z_15.1 ho 0) 0 6 by rw [show (z_15.1 ho 0) = (g_14 ho 0) from (by rw [ez_15, fr_X6_take (by rcases hho with rfl | rfl | rfl | rfl <;> decide)])]; exact (show wx_b (g_14 ho 0) 0 6 by rw [show (g_14 ho 0) = (z_9.1 ho 0) from (by rw [eg_14, fr_X6_step (by rcases hho with rfl | rfl | rfl | rfl <;> decide)])]; exact (show wx_b (z_9.1 ho 0) 0 6 by rw [show (z_9.1 ho 0) = (g_8 ho 0) from (by rw [ez_9, fr_X6_numberStands (by rcases hho with rfl | rfl | rfl | rfl <;> decide)])]; exact (show wx_b (g_8 ho 0) 0 6 by rw [show (g_8 ho 0) = (s_2 ho 0) from (by rw [eg_8, fr_X6_step (by rcases hho with rfl | rfl | rfl | rfl <;> decide)])]; exact hRI_2)))))) (by decide) (by decide))⟩)
              · obtain ⟨g_25, eg_25⟩ : ∃ z : wx_M, z = e_X6_step z_18.1 := ⟨_, rfl⟩
                obtain ⟨z_26, ez_26⟩ : ∃ z, z = f_X6_take g_25 59 := ⟨_, rfl⟩
                by_cases c_27 : z_26.2 = 0
                · have b_28 : wx_b z_26.2 0 0 := by rw [c_27]; exact ⟨by decide, by decide⟩
                  rw [show (b_X6_readWalls_2 g ho) t_2 s_2 = .inr ((z_26.1, 0)) from (by subst ez_26 eg_25 ex_22 ez_18 ez_15 eg_14 ex_13 ez_9 eg_8; simp only [b_X6_readWalls_2, if_pos c_2, if_neg c_4, if_neg c_10, if_neg c_16, if_neg c_19, if_neg c_23, if_pos c_27])]
                  exact (Or.inr ⟨_, rfl, (wb_w (show wx_b (z_26.1 ho 0) 0 6 by rw [show (z_26.1 ho 0) = (g_25 ho 0) from (by rw [ez_26, fr_X6_take (by rcases hho with rfl | rfl | rfl | rfl <;> decide)])]; exact (show wx_b (g_25 ho 0) 0 6 by rw [show (g_25 ho 0) = (z_18.1 ho 0) from (by rw [eg_25, fr_X6_step (by rcases hho with rfl | rfl | rfl | rfl <;> decide)])]; exact (show wx_b (z_18.1 ho 0) 0 6 by rw [show (z_18.1 ho 0) = (z_15.1 ho 0) from (by rw [ez_18, fr_X6_numberStands (by rcases hho with rfl | rfl | rfl | rfl <;> decide)])]; exact (show wx_b (z_15.1 ho 0) 0 6 by rw [show (z_15.1 ho 0) = (g_14 ho 0) from (by rw [ez_15, fr_X6_take (by rcases hho with rfl | rfl | rfl | rfl <;> decide)])]; exact (show wx_b (g_14 ho 0) 0 6 by rw [show (g_14 ho 0) = (z_9.1 ho 0) from (by rw [eg_14, fr_X6_step (by rcases hho with rfl | rfl | rfl | rfl <;> decide)])]; exact (show wx_b (z_9.1 ho 0) 0 6 by rw [show (z_9.1 ho 0) = (g_8 ho 0) from (by rw [ez_9, fr_X6_numberStands (by rcases hho with rfl | rfl | rfl | rfl <;> decide)])]; exact (show wx_b (g_8 ho 0) 0 6 by rw [show (g_8 ho 0) = (s_2 ho 0) from (by rw [eg_8, fr_X6_step (by rcases hho with rfl | rfl | rfl | rfl <;> decide)])]; exact hRI_2))))))) (by decide) (by decide))⟩)
                · obtain ⟨g_29, eg_29⟩ : ∃ z : wx_M, z = e_X3_addWall z_26.1 ho x_13 x_22 := ⟨_, rfl⟩
                  rw [show (b_X6_readWalls_2 g ho) t_2 s_2 = .inl g_29 from (by subst eg_29 ez_26 eg_25 ex_22 ez_18 ez_15 eg_14 ex_13 ez_9 eg_8; simp only [b_X6_readWalls_2, if_pos c_2, if_neg c_4, if_neg c_10, if_neg c_16, if_neg c_19, if_neg c_23, if_neg c_27])]
                  exact (Or.inl ⟨_, rfl, ⟨(by rw [eg_29]; exact tT_addWall hho (by rw [ez_26]; exact tT_X6_take (by rw [eg_25]; exact tT_X6_step (by rw [ez_18]; exact tT_X6_numberStands (by rw [ez_15]; exact tT_X6_take (by rw [eg_14]; exact tT_X6_step (by rw [ez_9]; exact tT_X6_numberStands (by rw [eg_8]; exact tT_X6_step hTI_2)))))))), (wb_w (show wx_b (g_29 ho 0) 0 6 by rw [show (g_29 ho 0) = (z_26.1 ho 0) from (by rw [eg_29, fr_addWall_0])]; exact (show wx_b (z_26.1 ho 0) 0 6 by rw [show (z_26.1 ho 0) = (g_25 ho 0) from (by rw [ez_26, fr_X6_take (by rcases hho with rfl | rfl | rfl | rfl <;> decide)])]; exact (show wx_b (g_25 ho 0) 0 6 by rw [show (g_25 ho 0) = (z_18.1 ho 0) from (by rw [eg_25, fr_X6_step (by rcases hho with rfl | rfl | rfl | rfl <;> decide)])]; exact (show wx_b (z_18.1 ho 0) 0 6 by rw [show (z_18.1 ho 0) = (z_15.1 ho 0) from (by rw [ez_18, fr_X6_numberStands (by rcases hho with rfl | rfl | rfl | rfl <;> decide)])]; exact (show wx_b (z_15.1 ho 0) 0 6 by rw [show (z_15.1 ho 0) = (g_14 ho 0) from (by rw [ez_15, fr_X6_take (by rcases hho with rfl | rfl | rfl | rfl <;> decide)])]; exact (show wx_b (g_14 ho 0) 0 6 by rw [show (g_14 ho 0) = (z_9.1 ho 0) from (by rw [eg_14, fr_X6_step (by rcases hho with rfl | rfl | rfl | rfl <;> decide)])]; exact (show wx_b (z_9.1 ho 0) 0 6 by rw [show (z_9.1 ho 0) = (g_8 ho 0) from (by rw [ez_9, fr_X6_numberStands (by rcases hho with rfl | rfl | rfl | rfl <;> decide)])]; exact (show wx_b (g_8 ho 0) 0 6 by rw [show (g_8 ho 0) = (s_2 ho 0) from (by rw [eg_8, fr_X6_step (by rcases hho with rfl | rfl | rfl | rfl <;> decide)])]; exact hRI_2)))))))) (by decide) (by decide))⟩⟩)
    · rw [show (b_X6_readWalls_2 g ho) t_2 s_2 = .inr ((s_2, 1)) from (by simp only [b_X6_readWalls_2, if_neg c_2])]
      exact (Or.inr ⟨_, rfl, (wb_w hRI_2 (by decide) (by decide))⟩))
  cases hc_2 : repX 10 (b_X6_readWalls_2 g ho) g with
  | inr r_2 =>
    rw [show f_X6_readWalls g ho = r_2 from (by simp only [f_X6_readWalls, hc_2])]
    exact lp_2.2 _ hc_2
  | inl s_2 =>
    have h9 := lp_2.1 _ hc_2
    obtain ⟨hTI_2, hRI_2⟩ := h9
    rw [show f_X6_readWalls g ho = (s_2, 1) from (by simp only [f_X6_readWalls, hc_2])]
    exact (wb_w hRI_2 (by decide) (by decide))

set_option maxHeartbeats 4000000 in
theorem fr_X6_readWalls {g : wx_M} {ho : Nat} {k : Nat} (hho : wx_H ho) (hT : wx_TB g) (hro : wx_b (g ho 0) 0 6) (hk18 : k ≠ 18) (hkh : k < ho ∨ ho + 6 < k) : (f_X6_readWalls g ho).1 k = g k := by
  have lp_2 := repX_inv2 (f := (b_X6_readWalls_2 g ho)) (s0 := g) (fun (t_2 : Nat) (s_2 : wx_M) => (wx_TB s_2) ∧ (wx_b (s_2 ho 0) 0 6) ∧ (s_2 k = g k)) (fun r => (r).1 k = g k) 10 ⟨hT, hro, rfl⟩ (by
    intro t_2 s_2 hlt_2 hI9
    obtain ⟨hTI_2, hRI_2, hfk_2⟩ := hI9
    have bt_2 : wx_b (nI (t_2)) 0 9 := wb_nI (n := 9) (by omega) (by decide)
    by_cases c_2 : (s_2 18 6) = 103
    · have b_3 : wx_b (s_2 18 6) 103 103 := by rw [c_2]; exact ⟨by decide, by decide⟩
      by_cases c_4 : (nI t_2) = 9
      · have b_5 : wx_b (nI t_2) 9 9 := by rw [c_4]; exact ⟨by decide, by decide⟩
        obtain ⟨z_6, ez_6⟩ : ∃ z, z = f_X6_faulty s_2 3 := ⟨_, rfl⟩
        rw [show (b_X6_readWalls_2 g ho) t_2 s_2 = .inr ((z_6.1, z_6.2)) from (by subst ez_6; simp only [b_X6_readWalls_2, if_pos c_2, if_pos c_4])]
        exact (Or.inr ⟨_, rfl, ((show z_6.1 k = s_2 k from by rw [ez_6]; exact fr_X6_faulty hk18).trans hfk_2)⟩)
      · have b_7 : wx_b (nI t_2) 0 8 := wb_neh c_4 bt_2 (by decide)
        obtain ⟨g_8, eg_8⟩ : ∃ z : wx_M, z = e_X6_step s_2 := ⟨_, rfl⟩
        obtain ⟨z_9, ez_9⟩ : ∃ z, z = f_X6_numberStands g_8 0 ((g_8 ho 0) - 1) := ⟨_, rfl⟩
        by_cases c_10 : z_9.2 = 0
        · have b_11 : wx_b z_9.2 0 0 := by rw [c_10]; exact ⟨by decide, by decide⟩
          rw [show (b_X6_readWalls_2 g ho) t_2 s_2 = .inr ((z_9.1, 0)) from (by subst ez_9 eg_8; simp only [b_X6_readWalls_2, if_pos c_2, if_neg c_4, if_pos c_10])]
          exact (Or.inr ⟨_, rfl, ((show z_9.1 k = g_8 k from by rw [ez_9]; exact fr_X6_numberStands hk18).trans ((show g_8 k = s_2 k from by rw [eg_8]; exact fr_X6_step hk18).trans hfk_2))⟩)
        · have b_12 : wx_b (z_9.1 18 7) 0 5 := by rw [ez_9]; exact ns_b (show wx_b 0 0 0 from ⟨by decide, by decide⟩) (wb_sub (show wx_b (g_8 ho 0) 0 6 by rw [show (g_8 ho 0) = (s_2 ho 0) from (by rw [eg_8, fr_X6_step (by rcases hho with rfl | rfl | rfl | rfl <;> decide)])]; exact hRI_2) (show wx_b 1 1 1 from ⟨by decide, by decide⟩) (by decide) (by decide)) (by rw [← ez_9]; exact c_10)
          obtain ⟨x_13, ex_13⟩ : ∃ z : Int32, z = (z_9.1 18 7) := ⟨_, rfl⟩
          have bx_13 : wx_b x_13 0 5 := by rw [ex_13]; exact b_12
          obtain ⟨g_14, eg_14⟩ : ∃ z : wx_M, z = e_X6_step z_9.1 := ⟨_, rfl⟩
          obtain ⟨z_15, ez_15⟩ : ∃ z, z = f_X6_take g_14 44 := ⟨_, rfl⟩
          by_cases c_16 : z_15.2 = 0
          · have b_17 : wx_b z_15.2 0 0 := by rw [c_16]; exact ⟨by decide, by decide⟩
            rw [show (b_X6_readWalls_2 g ho) t_2 s_2 = .inr ((z_15.1, 0)) from (by subst ez_15 eg_14 ex_13 ez_9 eg_8; simp only [b_X6_readWalls_2, if_pos c_2, if_neg c_4, if_neg c_10, if_pos c_16])]
            exact (Or.inr ⟨_, rfl, ((show z_15.1 k = g_14 k from by rw [ez_15]; exact fr_X6_take hk18).trans ((show g_14 k = z_9.1 k from by rw [eg_14]; exact fr_X6_step hk18).trans ((show z_9.1 k = g_8 k from by rw [ez_9]; exact fr_X6_numberStands hk18).trans ((show g_8 k = s_2 k from by rw [eg_8]; exact fr_X6_step hk18).trans hfk_2))))⟩)
          · obtain ⟨z_18, ez_18⟩ : ∃ z, z = f_X6_numberStands z_15.1 0 ((z_15.1 ho 0) - 1) := ⟨_, rfl⟩
            by_cases c_19 : z_18.2 = 0
            · have b_20 : wx_b z_18.2 0 0 := by rw [c_19]; exact ⟨by decide, by decide⟩
              rw [show (b_X6_readWalls_2 g ho) t_2 s_2 = .inr ((z_18.1, 0)) from (by subst ez_18 ez_15 eg_14 ex_13 ez_9 eg_8; simp only [b_X6_readWalls_2, if_pos c_2, if_neg c_4, if_neg c_10, if_neg c_16, if_pos c_19])]
              exact (Or.inr ⟨_, rfl, ((show z_18.1 k = z_15.1 k from by rw [ez_18]; exact fr_X6_numberStands hk18).trans ((show z_15.1 k = g_14 k from by rw [ez_15]; exact fr_X6_take hk18).trans ((show g_14 k = z_9.1 k from by rw [eg_14]; exact fr_X6_step hk18).trans ((show z_9.1 k = g_8 k from by rw [ez_9]; exact fr_X6_numberStands hk18).trans ((show g_8 k = s_2 k from by rw [eg_8]; exact fr_X6_step hk18).trans hfk_2)))))⟩)
            · have b_21 : wx_b (z_18.1 18 7) 0 5 := by rw [ez_18]; exact ns_b (show wx_b 0 0 0 from ⟨by decide, by decide⟩) (wb_sub (show wx_b (z_15.1 ho 0) 0 6 by rw [show (z_15.1 ho 0) = (g_14 ho 0) from (by rw [ez_15, fr_X6_take (by rcases hho with rfl | rfl | rfl | rfl <;> decide)])]; exact (show wx_b (g_14 ho 0) 0 6 by rw [show (g_14 ho 0) = (z_9.1 ho 0) from (by rw [eg_14, fr_X6_step (by rcases hho with rfl | rfl | rfl | rfl <;> decide)])]; exact (show wx_b (z_9.1 ho 0) 0 6 by rw [show (z_9.1 ho 0) = (g_8 ho 0) from (by rw [ez_9, fr_X6_numberStands (by rcases hho with rfl | rfl | rfl | rfl <;> decide)])]; exact (show wx_b (g_8 ho 0) 0 6 by rw [show (g_8 ho 0) = (s_2 ho 0) from (by rw [eg_8, fr_X6_step (by rcases hho with rfl | rfl | rfl | rfl <;> decide)])]; exact hRI_2)))) (show wx_b 1 1 1 from ⟨by decide, by decide⟩) (by decide) (by decide)) (by rw [← ez_18]; exact c_19)
              obtain ⟨x_22, ex_22⟩ : ∃ z : Int32, z = (z_18.1 18 7) := ⟨_, rfl⟩
              have bx_22 : wx_b x_22 0 5 := by rw [ex_22]; exact b_21
              by_cases c_23 : x_22 = x_13
              · obtain ⟨z_24, ez_24⟩ : ∃ z, z = f_X6_faulty z_18.1 2 := ⟨_, rfl⟩
                rw [show (b_X6_readWalls_2 g ho) t_2 s_2 = .inr ((z_24.1, z_24.2)) from (by subst ez_24 ex_22 ez_18 ez_15 eg_14 ex_13 ez_9 eg_8; simp only [b_X6_readWalls_2, if_pos c_2, if_neg c_4, if_neg c_10, if_neg c_16, if_neg c_19, if_pos c_23])]
                exact (Or.inr ⟨_, rfl, ((show z_24.1 k = z_18.1 k from by rw [ez_24]; exact fr_X6_faulty hk18).trans ((show z_18.1 k = z_15.1 k from by rw [ez_18]; exact fr_X6_numberStands hk18).trans ((show z_15.1 k = g_14 k from by rw [ez_15]; exact fr_X6_take hk18).trans ((show g_14 k = z_9.1 k from by rw [eg_14]; exact fr_X6_step hk18).trans ((show z_9.1 k = g_8 k from by rw [ez_9]; exact fr_X6_numberStands hk18).trans ((show g_8 k = s_2 k from by rw [eg_8]; exact fr_X6_step hk18).trans hfk_2))))))⟩)
              · obtain ⟨g_25, eg_25⟩ : ∃ z : wx_M, z = e_X6_step z_18.1 := ⟨_, rfl⟩
                obtain ⟨z_26, ez_26⟩ : ∃ z, z = f_X6_take g_25 59 := ⟨_, rfl⟩
                by_cases c_27 : z_26.2 = 0
                · have b_28 : wx_b z_26.2 0 0 := by rw [c_27]; exact ⟨by decide, by decide⟩
                  rw [show (b_X6_readWalls_2 g ho) t_2 s_2 = .inr ((z_26.1, 0)) from (by subst ez_26 eg_25 ex_22 ez_18 ez_15 eg_14 ex_13 ez_9 eg_8; simp only [b_X6_readWalls_2, if_pos c_2, if_neg c_4, if_neg c_10, if_neg c_16, if_neg c_19, if_neg c_23, if_pos c_27])]
                  exact (Or.inr ⟨_, rfl, ((show z_26.1 k = g_25 k from by rw [ez_26]; exact fr_X6_take hk18).trans ((show g_25 k = z_18.1 k from by rw [eg_25]; exact fr_X6_step hk18).trans ((show z_18.1 k = z_15.1 k from by rw [ez_18]; exact fr_X6_numberStands hk18).trans ((show z_15.1 k = g_14 k from by rw [ez_15]; exact fr_X6_take hk18).trans ((show g_14 k = z_9.1 k from by rw [eg_14]; exact fr_X6_step hk18).trans ((show z_9.1 k = g_8 k from by rw [ez_9]; exact fr_X6_numberStands hk18).trans ((show g_8 k = s_2 k from by rw [eg_8]; exact fr_X6_step hk18).trans hfk_2)))))))⟩)
                · obtain ⟨g_29, eg_29⟩ : ∃ z : wx_M, z = e_X3_addWall z_26.1 ho x_13 x_22 := ⟨_, rfl⟩
                  rw [show (b_X6_readWalls_2 g ho) t_2 s_2 = .inl g_29 from (by subst eg_29 ez_26 eg_25 ex_22 ez_18 ez_15 eg_14 ex_13 ez_9 eg_8; simp only [b_X6_readWalls_2, if_pos c_2, if_neg c_4, if_neg c_10, if_neg c_16, if_neg c_19, if_neg c_23, if_neg c_27])]
                  exact (Or.inl ⟨_, rfl, ⟨(by rw [eg_29]; exact tT_addWall hho (by rw [ez_26]; exact tT_X6_take (by rw [eg_25]; exact tT_X6_step (by rw [ez_18]; exact tT_X6_numberStands (by rw [ez_15]; exact tT_X6_take (by rw [eg_14]; exact tT_X6_step (by rw [ez_9]; exact tT_X6_numberStands (by rw [eg_8]; exact tT_X6_step hTI_2)))))))), (wb_w (show wx_b (g_29 ho 0) 0 6 by rw [show (g_29 ho 0) = (z_26.1 ho 0) from (by rw [eg_29, fr_addWall_0])]; exact (show wx_b (z_26.1 ho 0) 0 6 by rw [show (z_26.1 ho 0) = (g_25 ho 0) from (by rw [ez_26, fr_X6_take (by rcases hho with rfl | rfl | rfl | rfl <;> decide)])]; exact (show wx_b (g_25 ho 0) 0 6 by rw [show (g_25 ho 0) = (z_18.1 ho 0) from (by rw [eg_25, fr_X6_step (by rcases hho with rfl | rfl | rfl | rfl <;> decide)])]; exact (show wx_b (z_18.1 ho 0) 0 6 by rw [show (z_18.1 ho 0) = (z_15.1 ho 0) from (by rw [ez_18, fr_X6_numberStands (by rcases hho with rfl | rfl | rfl | rfl <;> decide)])]; exact (show wx_b (z_15.1 ho 0) 0 6 by rw [show (z_15.1 ho 0) = (g_14 ho 0) from (by rw [ez_15, fr_X6_take (by rcases hho with rfl | rfl | rfl | rfl <;> decide)])]; exact (show wx_b (g_14 ho 0) 0 6 by rw [show (g_14 ho 0) = (z_9.1 ho 0) from (by rw [eg_14, fr_X6_step (by rcases hho with rfl | rfl | rfl | rfl <;> decide)])]; exact (show wx_b (z_9.1 ho 0) 0 6 by rw [show (z_9.1 ho 0) = (g_8 ho 0) from (by rw [ez_9, fr_X6_numberStands (by rcases hho with rfl | rfl | rfl | rfl <;> decide)])]; exact (show wx_b (g_8 ho 0) 0 6 by rw [show (g_8 ho 0) = (s_2 ho 0) from (by rw [eg_8, fr_X6_step (by rcases hho with rfl | rfl | rfl | rfl <;> decide)])]; exact hRI_2)))))))) (by decide) (by decide)), ((show g_29 k = z_26.1 k from by rw [eg_29]; exact fr_addWall (by omega) (by omega)).trans ((show z_26.1 k = g_25 k from by rw [ez_26]; exact fr_X6_take hk18).trans ((show g_25 k = z_18.1 k from by rw [eg_25]; exact fr_X6_step hk18).trans ((show z_18.1 k = z_15.1 k from by rw [ez_18]; exact fr_X6_numberStands hk18).trans ((show z_15.1 k = g_14 k from by rw [ez_15]; exact fr_X6_take hk18).trans ((show g_14 k = z_9.1 k from by rw [eg_14]; exact fr_X6_step hk18).trans ((show z_9.1 k = g_8 k from by rw [ez_9]; exact fr_X6_numberStands hk18).trans ((show g_8 k = s_2 k from by rw [eg_8]; exact fr_X6_step hk18).trans hfk_2))))))))⟩⟩)
    · rw [show (b_X6_readWalls_2 g ho) t_2 s_2 = .inr ((s_2, 1)) from (by simp only [b_X6_readWalls_2, if_neg c_2])]
      exact (Or.inr ⟨_, rfl, hfk_2⟩))
  cases hc_2 : repX 10 (b_X6_readWalls_2 g ho) g with
  | inr r_2 =>
    rw [show f_X6_readWalls g ho = r_2 from (by simp only [f_X6_readWalls, hc_2])]
    exact lp_2.2 _ hc_2
  | inl s_2 =>
    have h9 := lp_2.1 _ hc_2
    obtain ⟨hTI_2, hRI_2, hfk_2⟩ := h9
    rw [show f_X6_readWalls g ho = (s_2, 1) from (by simp only [f_X6_readWalls, hc_2])]
    exact hfk_2

def b_X6_readPeople_33 (g : wx_M) (ho : Nat) (t_2 : Nat) (s_2 : wx_M) (g_8 : wx_M) (t_33 : Nat) (s_33 : wx_M) : (wx_M) ⊕ ((wx_M) ⊕ (wx_M × Int32)) :=
  if (nI t_33) ≤ 0 then
    let z_20 := f_X6_numberStands s_33 0 ((s_33 ho 0) - 1)
    if z_20.2 = 0 then
      .inr (.inr ((z_20.1, 0)))
    else
      let x_23 := (z_20.1 18 7)
      let g_24 := up2 z_20.1 (ho + 4) ((8 * (nI t_2)) + (nI t_33)).toNatClampNeg x_23
      let g_25 := e_X6_step g_24
      .inl g_25
  else
    let z_33 := f_X6_take s_33 44
    if z_33.2 = 0 then
      .inr (.inr ((z_33.1, 0)))
    else
      let z_40 := f_X6_numberStands z_33.1 0 ((z_33.1 ho 0) - 1)
      if z_40.2 = 0 then
        .inr (.inr ((z_40.1, 0)))
      else
        let x_43 := (z_40.1 18 7)
        let g_44 := up2 z_40.1 (ho + 4) ((8 * (nI t_2)) + (nI t_33)).toNatClampNeg x_43
        let g_45 := e_X6_step g_44
        .inl g_45
def b_X6_readPeople_2 (g : wx_M) (ho : Nat) (t_2 : Nat) (s_2 : wx_M) : (wx_M) ⊕ (wx_M × Int32) :=
  if (s_2 18 6) = 114 then
    if (nI t_2) = 4 then
      let z_53 := f_X6_faulty s_2 3
      .inr ((z_53.1, z_53.2))
    else
      let g_8 := e_X6_step s_2
      (match repX 8 (b_X6_readPeople_33 g ho t_2 s_2 g_8) g_8 with
      | .inl s_33 =>
        let z_10 := f_X6_take s_33 59
        if z_10.2 = 0 then
          .inr ((z_10.1, 0))
        else
          let x_12 := ((z_10.1 ho 4) + 1)
          let g_13 := up2 z_10.1 ho 4 x_12
          .inl g_13
      | .inr r9 => r9)
  else
    .inr ((s_2, 1))
def f_X6_readPeople (g : wx_M) (ho : Nat) : wx_M × Int32 :=
  (match repX 5 (b_X6_readPeople_2 g ho) g with
  | .inl s_2 =>
    (s_2, 1)
  | .inr r9 => r9)
set_option maxHeartbeats 4000000 in
set_option maxRecDepth 100000 in
theorem k_X6_readPeople (l : Launch) {D : va_G} {cy : Nat → ClassId} {ad : Nat → Nat} {B0 : Nat} {f : wx_F} {P : va_W} (g : wx_M) (ho : Nat) (hho : wx_H ho) (hT : wx_TB g) (hro : wx_b (g ho 0) 0 6) : Met l yX6_readPeople wsX6_readPeople ({ frames := 4, cells := 0, slots := 0, locals := 83 } : Room) (wx_Pc D cy ad B0 f P g [.ref (ad 18), .ref (ad ho)]) (wx_Qe D cy ad B0 f P (f_X6_readPeople g ho).1 (some (.int (f_X6_readPeople g ho).2))) 0 0 (fun q => B0 ≤ q) := by
  refine wx_enterE (cc := cX6_readPeople) (maxL := 4) (ty := .boolean) (own := RX6) (lv := [(0, .ref (ad 18)), (1, .ref (ad ho))]) (by decide) rfl rfl (Nat.le_of_ble_eq_true rfl) rfl ?_
  intro p e R s m args below meth c ls Qm hx hb hml hown hts hK hX hS hR hret hl
  have hi_X6 : ∀ w ∈ wsX60, w ∈ wsX6_readPeople := by decide +kernel
  have hi_X3 : ∀ w ∈ wsX30, w ∈ wsX6_readPeople := by decide +kernel
  refine lv_iconst (v := 0) hx hb dX6_readPeople_0 (by decide) ?_
  refine lv_istore_n (lv' := [(2, .int 0), (0, .ref (ad 18)), (1, .ref (ad ho))]) hx hb dX6_readPeople_1 rfl hl (by decide) rfl (fun ls hl => ?_)
  have lp_2 : ∀ (n t_2 : Nat) (s_2 : wx_M) (ls : Array Slot) (H : Heap) (locs : List Loc), t_2 ≤ 5 → 5 + 1 ≤ t_2 + n → repX t_2 (b_X6_readPeople_2 g ho) g = .inl s_2 → wx_X D cy ad B0 f P s_2 H → va_S (fun q => B0 ≤ q) s.heap H locs → wx_TB s_2 → wx_b (s_2 ho 0) 0 6 → lv_has ls 4 [(2, .int (nI t_2)), (0, .ref (ad 18)), (1, .ref (ad ho))] → W p l e R s m args below meth c H locs 0 0 Qm (F0 m 2 ls []) := by
    intro n
    induction n with
    | zero => intro t_2 s_2 ls H locs h1 h2; exact absurd h2 (by omega)
    | succ n ih_2 =>
      intro t_2 s_2 ls H locs ht_2 hn_2 es_2 hX hS hTI_2 hRI_2 hl
      refine lv_iload_n hx hb dX6_readPeople_2 rfl (lv_at hl 0 rfl) ?_
      refine lv_iconst (v := 4) hx hb dX6_readPeople_3 (by decide) ?_
      refine lv_icmp_gt (tgt := 120) hx hb dX6_readPeople_4 (by decide) (fun c_1 => ?_) (fun c_1 => ?_)
      · have et_2 : t_2 = 5 := Nat.le_antisymm ht_2 (by have h9 := wx_dn1 (by omega) (by decide) c_1; have h8 : (4 : Int32).toNatClampNeg = 4 := (by decide); omega)
        subst et_2
        refine lv_iconst (v := 1) hx hb dX6_readPeople_120 (by decide) ?_
        exact hret _ _ _ _ _ _ dX6_readPeople_121 rfl hX hS (by simp only [f_X6_readPeople, es_2])
      · have hlt_2 : t_2 < 5 := by have h9 := wx_up1 (by omega) c_1; have h8 : (4 : Int32).toNatClampNeg = 4 := (by decide); omega
        have bt_2 : wx_b (nI (t_2)) 0 4 := wb_nI (n := 4) (by omega) (by decide)
        refine lv_aload_n hx hb dX6_readPeople_7 rfl (lv_at hl 1 rfl) ?_
        refine wx_geti (C := RX6) (T := TX6) (N := 8) (ci := 6) (j := 6) hx hb hts hi_X6 hown hK hX (by decide) sh_X6_6 rfl (by decide) (hts (.fieldLink RX6 60 "SeenAgain$Tape" "token" "I") (by decide +kernel)) (fun _ h9 => h9) dX6_readPeople_8 ?_
        refine lv_bipush (v := 114) hx hb dX6_readPeople_11 (by decide) ?_
        refine lv_icmp_ne (tgt := 120) hx hb dX6_readPeople_13 (by decide) (fun c_2 => ?_) (fun c_2 => ?_)
        · refine lv_iconst (v := 1) hx hb dX6_readPeople_120 (by decide) ?_
          have hF_3 : (b_X6_readPeople_2 g ho) t_2 s_2 = .inr ((s_2, 1)) := (by simp only [b_X6_readPeople_2, if_neg c_2])
          have hO_4 : repX 5 (b_X6_readPeople_2 g ho) g = .inr ((s_2, 1)) := repX_out es_2 hF_3 hlt_2
          exact hret _ _ _ _ _ _ dX6_readPeople_121 rfl hX hS (by simp only [f_X6_readPeople, hO_4])
        · have b_5 : wx_b (s_2 18 6) 114 114 := by rw [c_2]; exact ⟨by decide, by decide⟩
          refine lv_iload_n hx hb dX6_readPeople_16 rfl (lv_at hl 0 rfl) ?_
          refine lv_iconst (v := 4) hx hb dX6_readPeople_17 (by decide) ?_
          refine lv_icmp_ne (tgt := 27) hx hb dX6_readPeople_18 (by decide) (fun c_6 => ?_) (fun c_6 => ?_)
          · have b_7 : wx_b (nI t_2) 0 3 := wb_neh c_6 bt_2 (by decide)
            refine lv_aload_n hx hb dX6_readPeople_27 rfl (lv_at hl 1 rfl) ?_
            refine wx_callev (va_runV (As := []) (rest := []) ⟨hx, hb, hml, hown, hts⟩ (k_X6_step l s_2 hTI_2) (cwV 0 hts gX6_readPeople_X6_step rfl rfl rfl (by decide +kernel) (by rw [hR]; exact ⟨Nat.le_of_ble_eq_true rfl, Nat.le_of_ble_eq_true rfl⟩)) ⟨wx_Pc.blind, wx_recv hK hX (by decide) sh_X6 rfl, (wx_Pc.pre hK hX).2⟩ rfl rfl hl.1 rfl (lv_room (Nat.le_of_ble_eq_true rfl)) dX6_readPeople_28 ⟨Nat.zero_le _, Nat.zero_le _⟩) hS (fun H locs hX hS => ?_)
            obtain ⟨g_8, eg_8, hX⟩ := wx_nm hX
            refine lv_iconst (v := 0) hx hb dX6_readPeople_31 (by decide) ?_
            refine lv_istore_n (lv' := [(3, .int 0), (2, .int (nI t_2)), (0, .ref (ad 18)), (1, .ref (ad ho))]) hx hb dX6_readPeople_32 rfl hl (by decide) rfl (fun ls hl => ?_)
            have lp_33 : ∀ (n t_33 : Nat) (s_33 : wx_M) (ls : Array Slot) (H : Heap) (locs : List Loc), t_33 ≤ 8 → 8 + 1 ≤ t_33 + n → repX t_33 (b_X6_readPeople_33 g ho t_2 s_2 g_8) g_8 = .inl s_33 → wx_X D cy ad B0 f P s_33 H → va_S (fun q => B0 ≤ q) s.heap H locs → wx_TB s_33 → wx_b (s_33 ho 0) 0 6 → lv_has ls 4 [(3, .int (nI t_33)), (2, .int (nI t_2)), (0, .ref (ad 18)), (1, .ref (ad ho))] → W p l e R s m args below meth c H locs 0 0 Qm (F0 m 33 ls []) := by
              intro n
              induction n with
              | zero => intro t_33 s_33 ls H locs h1 h2; exact absurd h2 (by omega)
              | succ n ih_33 =>
                intro t_33 s_33 ls H locs ht_33 hn_33 es_33 hX hS hTI_33 hRI_33 hl
                refine lv_iload_n hx hb dX6_readPeople_33 rfl (lv_at hl 0 rfl) ?_
                refine lv_bipush (v := 8) hx hb dX6_readPeople_34 (by decide) ?_
                refine lv_icmp_ge (tgt := 93) hx hb dX6_readPeople_36 (by decide) (fun c_9 => ?_) (fun c_9 => ?_)
                · have et_33 : t_33 = 8 := Nat.le_antisymm ht_33 (by have h9 := wx_dn (by omega) c_9; have h8 : (8 : Int32).toNatClampNeg = 8 := (by decide); omega)
                  subst et_33
                  refine lv_aload_n hx hb dX6_readPeople_93 rfl (lv_at hl 2 rfl) ?_
                  refine lv_bipush (v := 59) hx hb dX6_readPeople_94 (by decide) ?_
                  refine wx_callei (va_runV (As := [.int 59]) (rest := []) ⟨hx, hb, hml, hown, hts⟩ (k_X6_take l s_33 59 hTI_33) (cwV 1 hts gX6_readPeople_X6_take rfl rfl rfl (by decide +kernel) (by rw [hR]; exact ⟨Nat.le_of_ble_eq_true rfl, Nat.le_of_ble_eq_true rfl⟩)) ⟨wx_Pc.blind, wx_recv hK hX (by decide) sh_X6 rfl, (wx_Pc.pre hK hX).2⟩ rfl rfl hl.1 rfl (lv_room (Nat.le_of_ble_eq_true rfl)) dX6_readPeople_96 ⟨Nat.zero_le _, Nat.zero_le _⟩) hS (fun H locs hX hS => ?_)
                  obtain ⟨z_10, ez_10⟩ : ∃ z, z = f_X6_take s_33 59 := ⟨_, rfl⟩
                  rw [← ez_10] at hX; rw [← ez_10]
                  refine lv_if_ne (tgt := 104) hx hb dX6_readPeople_99 (by decide) (fun c_11 => ?_) (fun c_11 => ?_)
                  · refine lv_aload_n hx hb dX6_readPeople_104 rfl (lv_at hl 3 rfl) ?_
                    refine lv_dup hx hb dX6_readPeople_105 rfl ?_
                    refine wx_geti (C := RX3) (T := TX3) (N := 15) (ci := 3) (j := 4) hx hb hts hi_X3 hown hK hX hho.l0 (sh_X3_4 hho) rfl (by decide) (hts (.fieldLink RX6 73 "SeenAgain$House" "people" "I") (by decide +kernel)) (fun _ h9 => h9) dX6_readPeople_106 ?_
                    refine lv_iconst (v := 1) hx hb dX6_readPeople_109 (by decide) ?_
                    refine lv_iadd hx hb dX6_readPeople_110 ?_
                    refine lv_topi (fun x_12 ex_12 => ?_)
                    refine wx_puti (C := RX3) (T := TX3) (N := 15) (ci := 3) (j := 4) (ty := .int) hx hb hts hi_X3 tyX3 tyX3_ok nmX3 hown hK hX hS hho.l0 (sh_X3_4 hho) rfl (by decide) (hts (.fieldLink RX6 73 "SeenAgain$House" "people" "I") (by decide +kernel)) (fun _ h9 => h9) rfl (by decide +kernel) rfl rfl dX6_readPeople_111 (fun H locs hX hS => ?_)
                    obtain ⟨g_13, eg_13, hX⟩ := wx_nm hX
                    refine lv_iinc (v := nI (t_2 + 1)) (lv' := [(2, .int (nI (t_2 + 1))), (3, .int (nI (8))), (0, .ref (ad 18)), (1, .ref (ad ho))]) hx hb dX6_readPeople_114 hl (k := 1) rfl (wx_inc _) (by decide) rfl (fun ls hl => ?_)
                    refine lv_goto (tgt := 2) hx hb dX6_readPeople_117 (by decide) ?_
                    have hF_14 : (b_X6_readPeople_2 g ho) t_2 s_2 = .inl g_13 := (by subst eg_13 ex_12 ez_10 eg_8; simp only [b_X6_readPeople_2, if_pos c_2, if_neg c_6, if_neg c_11, es_33])
                    exact ih_2 (t_2 + 1) g_13 ls H locs hlt_2 (by omega) ((repX_go es_2).trans hF_14) hX hS (by rw [eg_13]; exact tT_n (by rcases hho with rfl | rfl | rfl | rfl <;> decide) (by rw [ez_10]; exact tT_X6_take hTI_33)) (wb_w (show wx_b (g_13 ho 0) 0 6 by rw [show (g_13 ho 0) = (z_10.1 ho 0) from (by rw [eg_13, up2_sn (by decide)])]; exact (show wx_b (z_10.1 ho 0) 0 6 by rw [show (z_10.1 ho 0) = (s_33 ho 0) from (by rw [ez_10, fr_X6_take (by rcases hho with rfl | rfl | rfl | rfl <;> decide)])]; exact hRI_33)) (by decide) (by decide)) (lv_sub hl [0, 2, 3] rfl)
                  · have b_15 : wx_b z_10.2 0 0 := by rw [c_11]; exact ⟨by decide, by decide⟩
                    refine lv_iconst (v := 0) hx hb dX6_readPeople_102 (by decide) ?_
                    have hF_16 : (b_X6_readPeople_2 g ho) t_2 s_2 = .inr ((z_10.1, 0)) := (by subst ez_10 eg_8; simp only [b_X6_readPeople_2, if_pos c_2, if_neg c_6, if_pos c_11, es_33])
                    have hO_17 : repX 5 (b_X6_readPeople_2 g ho) g = .inr ((z_10.1, 0)) := repX_out es_2 hF_16 hlt_2
                    exact hret _ _ _ _ _ _ dX6_readPeople_103 rfl hX hS (by simp only [f_X6_readPeople, hO_17])
                · have hlt_33 : t_33 < 8 := by have h9 := wx_up (by omega) c_9; have h8 : (8 : Int32).toNatClampNeg = 8 := (by decide); omega
                  have bt_33 : wx_b (nI (t_33)) 0 7 := wb_nI (n := 7) (by omega) (by decide)
                  refine lv_iload_n hx hb dX6_readPeople_39 rfl (lv_at hl 0 rfl) ?_
                  refine lv_if_le (tgt := 52) hx hb dX6_readPeople_40 (by decide) (fun c_18 => ?_) (fun c_18 => ?_)
                  · have b_19 : wx_b (nI t_33) 0 0 := wb_le c_18 bt_33 (show wx_b 0 0 0 from ⟨by decide, by decide⟩) (by decide) (by decide)
                    refine lv_aload_n hx hb dX6_readPeople_52 rfl (lv_at hl 2 rfl) ?_
                    refine lv_iconst (v := 0) hx hb dX6_readPeople_53 (by decide) ?_
                    refine lv_aload_n hx hb dX6_readPeople_54 rfl (lv_at hl 3 rfl) ?_
                    refine wx_geti (C := RX3) (T := TX3) (N := 15) (ci := 3) (j := 0) hx hb hts hi_X3 hown hK hX hho.l0 (sh_X3_0 hho) rfl (by decide) (hts (.fieldLink RX6 51 "SeenAgain$House" "rooms" "I") (by decide +kernel)) (fun _ h9 => h9) dX6_readPeople_55 ?_
                    refine lv_iconst (v := 1) hx hb dX6_readPeople_58 (by decide) ?_
                    refine lv_isub hx hb dX6_readPeople_59 ?_
                    refine wx_callei (va_runV (As := [.int 0, .int ((s_33 ho 0) - 1)]) (rest := []) ⟨hx, hb, hml, hown, hts⟩ (k_X6_numberStands l s_33 0 ((s_33 ho 0) - 1) hTI_33) (cwV 2 hts gX6_readPeople_X6_numberStands rfl rfl rfl (by decide +kernel) (by rw [hR]; exact ⟨Nat.le_of_ble_eq_true rfl, Nat.le_of_ble_eq_true rfl⟩)) ⟨wx_Pc.blind, wx_recv hK hX (by decide) sh_X6 rfl, (wx_Pc.pre hK hX).2⟩ rfl rfl hl.1 rfl (lv_room (Nat.le_of_ble_eq_true rfl)) dX6_readPeople_60 ⟨Nat.zero_le _, Nat.zero_le _⟩) hS (fun H locs hX hS => ?_)
                    obtain ⟨z_20, ez_20⟩ : ∃ z, z = f_X6_numberStands s_33 0 ((s_33 ho 0) - 1) := ⟨_, rfl⟩
                    rw [← ez_20] at hX; rw [← ez_20]
                    refine lv_if_ne (tgt := 68) hx hb dX6_readPeople_63 (by decide) (fun c_21 => ?_) (fun c_21 => ?_)
                    · have b_22 : wx_b (z_20.1 18 7) 0 5 := by rw [ez_20]; exact ns_b (show wx_b 0 0 0 from ⟨by decide, by decide⟩) (wb_sub hRI_33 (show wx_b 1 1 1 from ⟨by decide, by decide⟩) (by decide) (by decide)) (by rw [← ez_20]; exact c_21)
                      refine lv_aload_n hx hb dX6_readPeople_68 rfl (lv_at hl 3 rfl) ?_
                      refine wx_getr (t := ho + 4) (C := RX3) (T := TX3) (N := 15) (ci := 3) (j := 12) hx hb hts hi_X3 hown hK hX hho.l0 (sh_X3_12 hho) rfl (by decide) (hts (.fieldLink RX6 70 "SeenAgain$House" "stays" "[I") (by decide +kernel)) (fun _ h9 => h9) dX6_readPeople_69 ?_
                      refine lv_bipush (v := 8) hx hb dX6_readPeople_72 (by decide) ?_
                      refine lv_iload_n hx hb dX6_readPeople_74 rfl (lv_at hl 1 rfl) ?_
                      refine lv_imul hx hb dX6_readPeople_75 ?_
                      refine lv_iload_n hx hb dX6_readPeople_76 rfl (lv_at hl 0 rfl) ?_
                      refine lv_iadd hx hb dX6_readPeople_77 ?_
                      refine lv_aload_n hx hb dX6_readPeople_78 rfl (lv_at hl 2 rfl) ?_
                      refine wx_geti (C := RX6) (T := TX6) (N := 8) (ci := 6) (j := 7) hx hb hts hi_X6 hown hK hX (by decide) sh_X6_7 rfl (by decide) (hts (.fieldLink RX6 48 "SeenAgain$Tape" "number" "I") (by decide +kernel)) (fun _ h9 => h9) dX6_readPeople_79 ?_
                      refine lv_topi (fun x_23 ex_23 => ?_)
                      have bx_23 : wx_b x_23 0 5 := by rw [ex_23]; exact b_22
                      refine wx_iast hx hb hK hX hS hho.l4 (sa_X3_4 hho) (wb_in (wb_add (wb_mul (show wx_b 8 8 8 from ⟨by decide, by decide⟩) b_7 (by decide) (by decide) (by decide)) b_19 (by decide) (by decide)) (by decide) (by decide)) dX6_readPeople_82 (fun H locs hX hS => ?_)
                      obtain ⟨g_24, eg_24, hX⟩ := wx_nm hX
                      refine lv_aload_n hx hb dX6_readPeople_83 rfl (lv_at hl 2 rfl) ?_
                      refine wx_callev (va_runV (As := []) (rest := []) ⟨hx, hb, hml, hown, hts⟩ (k_X6_step l g_24 (by rw [eg_24]; exact tT_n (by rcases hho with rfl | rfl | rfl | rfl <;> decide) (by rw [ez_20]; exact tT_X6_numberStands hTI_33))) (cwV 0 hts gX6_readPeople_X6_step rfl rfl rfl (by decide +kernel) (by rw [hR]; exact ⟨Nat.le_of_ble_eq_true rfl, Nat.le_of_ble_eq_true rfl⟩)) ⟨wx_Pc.blind, wx_recv hK hX (by decide) sh_X6 rfl, (wx_Pc.pre hK hX).2⟩ rfl rfl hl.1 rfl (lv_room (Nat.le_of_ble_eq_true rfl)) dX6_readPeople_84 ⟨Nat.zero_le _, Nat.zero_le _⟩) hS (fun H locs hX hS => ?_)
                      obtain ⟨g_25, eg_25, hX⟩ := wx_nm hX
                      refine lv_iinc (v := nI (t_33 + 1)) (lv' := [(3, .int (nI (t_33 + 1))), (2, .int (nI t_2)), (0, .ref (ad 18)), (1, .ref (ad ho))]) hx hb dX6_readPeople_87 hl (k := 0) rfl (wx_inc _) (by decide) rfl (fun ls hl => ?_)
                      refine lv_goto (tgt := 33) hx hb dX6_readPeople_90 (by decide) ?_
                      have hF_26 : (b_X6_readPeople_33 g ho t_2 s_2 g_8) t_33 s_33 = .inl g_25 := (by subst eg_25 eg_24 ex_23 ez_20; simp only [b_X6_readPeople_33, if_pos c_18, if_neg c_21])
                      exact ih_33 (t_33 + 1) g_25 ls H locs hlt_33 (by omega) ((repX_go es_33).trans hF_26) hX hS (by rw [eg_25]; exact tT_X6_step (by rw [eg_24]; exact tT_n (by rcases hho with rfl | rfl | rfl | rfl <;> decide) (by rw [ez_20]; exact tT_X6_numberStands hTI_33))) (wb_w (show wx_b (g_25 ho 0) 0 6 by rw [show (g_25 ho 0) = (g_24 ho 0) from (by rw [eg_25, fr_X6_step (by rcases hho with rfl | rfl | rfl | rfl <;> decide)])]; exact (show wx_b (g_24 ho 0) 0 6 by rw [show (g_24 ho 0) = (z_20.1 ho 0) from (by rw [eg_24, up2_n (by omega)])]; exact (show wx_b (z_20.1 ho 0) 0 6 by rw [show (z_20.1 ho 0) = (s_33 ho 0) from (by rw [ez_20, fr_X6_numberStands (by rcases hho with rfl | rfl | rfl | rfl <;> decide)])]; exact hRI_33))) (by decide) (by decide)) (lv_sub hl [0, 1, 2, 3] rfl)
                    · have b_27 : wx_b z_20.2 0 0 := by rw [c_21]; exact ⟨by decide, by decide⟩
                      refine lv_iconst (v := 0) hx hb dX6_readPeople_66 (by decide) ?_
                      have hF_28 : (b_X6_readPeople_33 g ho t_2 s_2 g_8) t_33 s_33 = .inr (.inr ((z_20.1, 0))) := (by subst ez_20; simp only [b_X6_readPeople_33, if_pos c_18, if_pos c_21])
                      have hO_29 : repX 8 (b_X6_readPeople_33 g ho t_2 s_2 g_8) g_8 = .inr (.inr ((z_20.1, 0))) := repX_out es_33 hF_28 hlt_33
                      have hF_30 : (b_X6_readPeople_2 g ho) t_2 s_2 = .inr ((z_20.1, 0)) := (by subst eg_8; simp only [b_X6_readPeople_2, if_pos c_2, if_neg c_6, hO_29])
                      have hO_31 : repX 5 (b_X6_readPeople_2 g ho) g = .inr ((z_20.1, 0)) := repX_out es_2 hF_30 hlt_2
                      exact hret _ _ _ _ _ _ dX6_readPeople_67 rfl hX hS (by simp only [f_X6_readPeople, hO_31])
                  · have b_32 : wx_b (nI t_33) 1 7 := wb_gt (wb_nle c_18) bt_33 (show wx_b 0 0 0 from ⟨by decide, by decide⟩) (by decide) (by decide)
                    refine lv_aload_n hx hb dX6_readPeople_43 rfl (lv_at hl 2 rfl) ?_
                    refine lv_bipush (v := 44) hx hb dX6_readPeople_44 (by decide) ?_
                    refine wx_callei (va_runV (As := [.int 44]) (rest := []) ⟨hx, hb, hml, hown, hts⟩ (k_X6_take l s_33 44 hTI_33) (cwV 1 hts gX6_readPeople_X6_take rfl rfl rfl (by decide +kernel) (by rw [hR]; exact ⟨Nat.le_of_ble_eq_true rfl, Nat.le_of_ble_eq_true rfl⟩)) ⟨wx_Pc.blind, wx_recv hK hX (by decide) sh_X6 rfl, (wx_Pc.pre hK hX).2⟩ rfl rfl hl.1 rfl (lv_room (Nat.le_of_ble_eq_true rfl)) dX6_readPeople_46 ⟨Nat.zero_le _, Nat.zero_le _⟩) hS (fun H locs hX hS => ?_)
                    obtain ⟨z_33, ez_33⟩ : ∃ z, z = f_X6_take s_33 44 := ⟨_, rfl⟩
                    rw [← ez_33] at hX; rw [← ez_33]
                    refine lv_if_eq (tgt := 66) hx hb dX6_readPeople_49 (by decide) (fun c_34 => ?_) (fun c_34 => ?_)
                    · have b_35 : wx_b z_33.2 0 0 := by rw [c_34]; exact ⟨by decide, by decide⟩
                      refine lv_iconst (v := 0) hx hb dX6_readPeople_66 (by decide) ?_
                      have hF_36 : (b_X6_readPeople_33 g ho t_2 s_2 g_8) t_33 s_33 = .inr (.inr ((z_33.1, 0))) := (by subst ez_33; simp only [b_X6_readPeople_33, if_neg c_18, if_pos c_34])
                      have hO_37 : repX 8 (b_X6_readPeople_33 g ho t_2 s_2 g_8) g_8 = .inr (.inr ((z_33.1, 0))) := repX_out es_33 hF_36 hlt_33
                      have hF_38 : (b_X6_readPeople_2 g ho) t_2 s_2 = .inr ((z_33.1, 0)) := (by subst eg_8; simp only [b_X6_readPeople_2, if_pos c_2, if_neg c_6, hO_37])
                      have hO_39 : repX 5 (b_X6_readPeople_2 g ho) g = .inr ((z_33.1, 0)) := repX_out es_2 hF_38 hlt_2
                      exact hret _ _ _ _ _ _ dX6_readPeople_67 rfl hX hS (by simp only [f_X6_readPeople, hO_39])
                    · refine lv_aload_n hx hb dX6_readPeople_52 rfl (lv_at hl 2 rfl) ?_
                      refine lv_iconst (v := 0) hx hb dX6_readPeople_53 (by decide) ?_
                      refine lv_aload_n hx hb dX6_readPeople_54 rfl (lv_at hl 3 rfl) ?_
                      refine wx_geti (C := RX3) (T := TX3) (N := 15) (ci := 3) (j := 0) hx hb hts hi_X3 hown hK hX hho.l0 (sh_X3_0 hho) rfl (by decide) (hts (.fieldLink RX6 51 "SeenAgain$House" "rooms" "I") (by decide +kernel)) (fun _ h9 => h9) dX6_readPeople_55 ?_
                      refine lv_iconst (v := 1) hx hb dX6_readPeople_58 (by decide) ?_
                      refine lv_isub hx hb dX6_readPeople_59 ?_
                      refine wx_callei (va_runV (As := [.int 0, .int ((z_33.1 ho 0) - 1)]) (rest := []) ⟨hx, hb, hml, hown, hts⟩ (k_X6_numberStands l z_33.1 0 ((z_33.1 ho 0) - 1) (by rw [ez_33]; exact tT_X6_take hTI_33)) (cwV 2 hts gX6_readPeople_X6_numberStands rfl rfl rfl (by decide +kernel) (by rw [hR]; exact ⟨Nat.le_of_ble_eq_true rfl, Nat.le_of_ble_eq_true rfl⟩)) ⟨wx_Pc.blind, wx_recv hK hX (by decide) sh_X6 rfl, (wx_Pc.pre hK hX).2⟩ rfl rfl hl.1 rfl (lv_room (Nat.le_of_ble_eq_true rfl)) dX6_readPeople_60 ⟨Nat.zero_le _, Nat.zero_le _⟩) hS (fun H locs hX hS => ?_)
                      obtain ⟨z_40, ez_40⟩ : ∃ z, z = f_X6_numberStands z_33.1 0 ((z_33.1 ho 0) - 1) := ⟨_, rfl⟩
                      rw [← ez_40] at hX; rw [← ez_40]
                      refine lv_if_ne (tgt := 68) hx hb dX6_readPeople_63 (by decide) (fun c_41 => ?_) (fun c_41 => ?_)
                      · have b_42 : wx_b (z_40.1 18 7) 0 5 := by rw [ez_40]; exact ns_b (show wx_b 0 0 0 from ⟨by decide, by decide⟩) (wb_sub (show wx_b (z_33.1 ho 0) 0 6 by rw [show (z_33.1 ho 0) = (s_33 ho 0) from (by rw [ez_33, fr_X6_take (by rcases hho with rfl | rfl | rfl | rfl <;> decide)])]; exact hRI_33) (show wx_b 1 1 1 from ⟨by decide, by decide⟩) (by decide) (by decide)) (by rw [← ez_40]; exact c_41)
                        refine lv_aload_n hx hb dX6_readPeople_68 rfl (lv_at hl 3 rfl) ?_
                        refine wx_getr (t := ho + 4) (C := RX3) (T := TX3) (N := 15) (ci := 3) (j := 12) hx hb hts hi_X3 hown hK hX hho.l0 (sh_X3_12 hho) rfl (by decide) (hts (.fieldLink RX6 70 "SeenAgain$House" "stays" "[I") (by decide +kernel)) (fun _ h9 => h9) dX6_readPeople_69 ?_
                        refine lv_bipush (v := 8) hx hb dX6_readPeople_72 (by decide) ?_
                        refine lv_iload_n hx hb dX6_readPeople_74 rfl (lv_at hl 1 rfl) ?_
                        refine lv_imul hx hb dX6_readPeople_75 ?_
                        refine lv_iload_n hx hb dX6_readPeople_76 rfl (lv_at hl 0 rfl) ?_
                        refine lv_iadd hx hb dX6_readPeople_77 ?_
                        refine lv_aload_n hx hb dX6_readPeople_78 rfl (lv_at hl 2 rfl) ?_
                        refine wx_geti (C := RX6) (T := TX6) (N := 8) (ci := 6) (j := 7) hx hb hts hi_X6 hown hK hX (by decide) sh_X6_7 rfl (by decide) (hts (.fieldLink RX6 48 "SeenAgain$Tape" "number" "I") (by decide +kernel)) (fun _ h9 => h9) dX6_readPeople_79 ?_
                        refine lv_topi (fun x_43 ex_43 => ?_)
                        have bx_43 : wx_b x_43 0 5 := by rw [ex_43]; exact b_42
                        refine wx_iast hx hb hK hX hS hho.l4 (sa_X3_4 hho) (wb_in (wb_add (wb_mul (show wx_b 8 8 8 from ⟨by decide, by decide⟩) b_7 (by decide) (by decide) (by decide)) b_32 (by decide) (by decide)) (by decide) (by decide)) dX6_readPeople_82 (fun H locs hX hS => ?_)
                        obtain ⟨g_44, eg_44, hX⟩ := wx_nm hX
                        refine lv_aload_n hx hb dX6_readPeople_83 rfl (lv_at hl 2 rfl) ?_
                        refine wx_callev (va_runV (As := []) (rest := []) ⟨hx, hb, hml, hown, hts⟩ (k_X6_step l g_44 (by rw [eg_44]; exact tT_n (by rcases hho with rfl | rfl | rfl | rfl <;> decide) (by rw [ez_40]; exact tT_X6_numberStands (by rw [ez_33]; exact tT_X6_take hTI_33)))) (cwV 0 hts gX6_readPeople_X6_step rfl rfl rfl (by decide +kernel) (by rw [hR]; exact ⟨Nat.le_of_ble_eq_true rfl, Nat.le_of_ble_eq_true rfl⟩)) ⟨wx_Pc.blind, wx_recv hK hX (by decide) sh_X6 rfl, (wx_Pc.pre hK hX).2⟩ rfl rfl hl.1 rfl (lv_room (Nat.le_of_ble_eq_true rfl)) dX6_readPeople_84 ⟨Nat.zero_le _, Nat.zero_le _⟩) hS (fun H locs hX hS => ?_)
                        obtain ⟨g_45, eg_45, hX⟩ := wx_nm hX
                        refine lv_iinc (v := nI (t_33 + 1)) (lv' := [(3, .int (nI (t_33 + 1))), (2, .int (nI t_2)), (0, .ref (ad 18)), (1, .ref (ad ho))]) hx hb dX6_readPeople_87 hl (k := 0) rfl (wx_inc _) (by decide) rfl (fun ls hl => ?_)
                        refine lv_goto (tgt := 33) hx hb dX6_readPeople_90 (by decide) ?_
                        have hF_46 : (b_X6_readPeople_33 g ho t_2 s_2 g_8) t_33 s_33 = .inl g_45 := (by subst eg_45 eg_44 ex_43 ez_40 ez_33; simp only [b_X6_readPeople_33, if_neg c_18, if_neg c_34, if_neg c_41])
                        exact ih_33 (t_33 + 1) g_45 ls H locs hlt_33 (by omega) ((repX_go es_33).trans hF_46) hX hS (by rw [eg_45]; exact tT_X6_step (by rw [eg_44]; exact tT_n (by rcases hho with rfl | rfl | rfl | rfl <;> decide) (by rw [ez_40]; exact tT_X6_numberStands (by rw [ez_33]; exact tT_X6_take hTI_33)))) (wb_w (show wx_b (g_45 ho 0) 0 6 by rw [show (g_45 ho 0) = (g_44 ho 0) from (by rw [eg_45, fr_X6_step (by rcases hho with rfl | rfl | rfl | rfl <;> decide)])]; exact (show wx_b (g_44 ho 0) 0 6 by rw [show (g_44 ho 0) = (z_40.1 ho 0) from (by rw [eg_44, up2_n (by omega)])]; exact (show wx_b (z_40.1 ho 0) 0 6 by rw [show (z_40.1 ho 0) = (z_33.1 ho 0) from (by rw [ez_40, fr_X6_numberStands (by rcases hho with rfl | rfl | rfl | rfl <;> decide)])]; exact (show wx_b (z_33.1 ho 0) 0 6 by rw [show (z_33.1 ho 0) = (s_33 ho 0) from (by rw [ez_33, fr_X6_take (by rcases hho with rfl | rfl | rfl | rfl <;> decide)])]; exact hRI_33)))) (by decide) (by decide)) (lv_sub hl [0, 1, 2, 3] rfl)
                      · have b_47 : wx_b z_40.2 0 0 := by rw [c_41]; exact ⟨by decide, by decide⟩
                        refine lv_iconst (v := 0) hx hb dX6_readPeople_66 (by decide) ?_
                        have hF_48 : (b_X6_readPeople_33 g ho t_2 s_2 g_8) t_33 s_33 = .inr (.inr ((z_40.1, 0))) := (by subst ez_40 ez_33; simp only [b_X6_readPeople_33, if_neg c_18, if_neg c_34, if_pos c_41])
                        have hO_49 : repX 8 (b_X6_readPeople_33 g ho t_2 s_2 g_8) g_8 = .inr (.inr ((z_40.1, 0))) := repX_out es_33 hF_48 hlt_33
                        have hF_50 : (b_X6_readPeople_2 g ho) t_2 s_2 = .inr ((z_40.1, 0)) := (by subst eg_8; simp only [b_X6_readPeople_2, if_pos c_2, if_neg c_6, hO_49])
                        have hO_51 : repX 5 (b_X6_readPeople_2 g ho) g = .inr ((z_40.1, 0)) := repX_out es_2 hF_50 hlt_2
                        exact hret _ _ _ _ _ _ dX6_readPeople_67 rfl hX hS (by simp only [f_X6_readPeople, hO_51])
            exact lp_33 (8 + 1) 0 g_8 ls H locs (Nat.zero_le _) (by omega) rfl hX hS (by rw [eg_8]; exact tT_X6_step hTI_2) (wb_w (show wx_b (g_8 ho 0) 0 6 by rw [show (g_8 ho 0) = (s_2 ho 0) from (by rw [eg_8, fr_X6_step (by rcases hho with rfl | rfl | rfl | rfl <;> decide)])]; exact hRI_2) (by decide) (by decide)) (lv_sub hl [0, 1, 2, 3] rfl)
          · have b_52 : wx_b (nI t_2) 4 4 := by rw [c_6]; exact ⟨by decide, by decide⟩
            refine lv_aload_n hx hb dX6_readPeople_21 rfl (lv_at hl 1 rfl) ?_
            refine lv_iconst (v := 3) hx hb dX6_readPeople_22 (by decide) ?_
            refine wx_callei (va_runV (As := [.int 3]) (rest := []) ⟨hx, hb, hml, hown, hts⟩ (k_X6_faulty l s_2 3 hTI_2) (cwV 1 hts gX6_readPeople_X6_faulty rfl rfl rfl (by decide +kernel) (by rw [hR]; exact ⟨Nat.le_of_ble_eq_true rfl, Nat.le_of_ble_eq_true rfl⟩)) ⟨wx_Pc.blind, wx_recv hK hX (by decide) sh_X6 rfl, (wx_Pc.pre hK hX).2⟩ rfl rfl hl.1 rfl (lv_room (Nat.le_of_ble_eq_true rfl)) dX6_readPeople_23 ⟨Nat.zero_le _, Nat.zero_le _⟩) hS (fun H locs hX hS => ?_)
            obtain ⟨z_53, ez_53⟩ : ∃ z, z = f_X6_faulty s_2 3 := ⟨_, rfl⟩
            rw [← ez_53] at hX; rw [← ez_53]
            have hF_54 : (b_X6_readPeople_2 g ho) t_2 s_2 = .inr ((z_53.1, z_53.2)) := (by subst ez_53; simp only [b_X6_readPeople_2, if_pos c_2, if_pos c_6])
            have hO_55 : repX 5 (b_X6_readPeople_2 g ho) g = .inr ((z_53.1, z_53.2)) := repX_out es_2 hF_54 hlt_2
            exact hret _ _ _ _ _ _ dX6_readPeople_26 (by rw [ez_53]; exact nb_f_X6_faulty _ _) hX hS (by simp only [f_X6_readPeople, hO_55])
  exact lp_2 (5 + 1) 0 g ls s.heap [] (Nat.zero_le _) (by omega) rfl hX hS hT hro (lv_sub hl [0, 1, 2] rfl)
set_option maxHeartbeats 4000000 in
theorem np_X6_readPeople {g : wx_M} {ho : Nat} (hho : wx_H ho) (hT : wx_TB g) (hro : wx_b (g ho 0) 0 6) : narrow .boolean (.int (f_X6_readPeople g ho).2) = .int (f_X6_readPeople g ho).2 := by
  have lp_2 := repX_inv2 (f := (b_X6_readPeople_2 g ho)) (s0 := g) (fun (t_2 : Nat) (s_2 : wx_M) => (wx_TB s_2) ∧ (wx_b (s_2 ho 0) 0 6)) (fun r => narrow .boolean (.int (r).2) = .int (r).2) 5 ⟨hT, hro⟩ (by
    intro t_2 s_2 hlt_2 hI9
    obtain ⟨hTI_2, hRI_2⟩ := hI9
    have bt_2 : wx_b (nI (t_2)) 0 4 := wb_nI (n := 4) (by omega) (by decide)
    by_cases c_2 : (s_2 18 6) = 114
    · have b_3 : wx_b (s_2 18 6) 114 114 := by rw [c_2]; exact ⟨by decide, by decide⟩
      by_cases c_4 : (nI t_2) = 4
      · have b_5 : wx_b (nI t_2) 4 4 := by rw [c_4]; exact ⟨by decide, by decide⟩
        obtain ⟨z_6, ez_6⟩ : ∃ z, z = f_X6_faulty s_2 3 := ⟨_, rfl⟩
        rw [show (b_X6_readPeople_2 g ho) t_2 s_2 = .inr ((z_6.1, z_6.2)) from (by subst ez_6; simp only [b_X6_readPeople_2, if_pos c_2, if_pos c_4])]
        exact (Or.inr ⟨_, rfl, (by rw [ez_6]; exact nb_f_X6_faulty _ _)⟩)
      · have b_7 : wx_b (nI t_2) 0 3 := wb_neh c_4 bt_2 (by decide)
        obtain ⟨g_8, eg_8⟩ : ∃ z : wx_M, z = e_X6_step s_2 := ⟨_, rfl⟩
        have lp_33 := repX_inv2 (f := (b_X6_readPeople_33 g ho t_2 s_2 g_8)) (s0 := g_8) (fun (t_33 : Nat) (s_33 : wx_M) => (wx_TB s_33) ∧ (wx_b (s_33 ho 0) 0 6)) (fun r => (∃ s9, r = .inl s9 ∧ ((wx_TB s9) ∧ (wx_b (s9 ho 0) 0 6))) ∨ (∃ r1, r = .inr r1 ∧ (narrow .boolean (.int (r1).2) = .int (r1).2))) 8 ⟨(by rw [eg_8]; exact tT_X6_step hTI_2), (wb_w (show wx_b (g_8 ho 0) 0 6 by rw [show (g_8 ho 0) = (s_2 ho 0) from (by rw [eg_8, fr_X6_step (by rcases hho with rfl | rfl | rfl | rfl <;> decide)])]; exact hRI_2) (by decide) (by decide))⟩ (by
          intro t_33 s_33 hlt_33 hI9
          obtain ⟨hTI_33, hRI_33⟩ := hI9
          have bt_33 : wx_b (nI (t_33)) 0 7 := wb_nI (n := 7) (by omega) (by decide)
          by_cases c_10 : (nI t_33) ≤ 0
          · have b_11 : wx_b (nI t_33) 0 0 := wb_le c_10 bt_33 (show wx_b 0 0 0 from ⟨by decide, by decide⟩) (by decide) (by decide)
            obtain ⟨z_12, ez_12⟩ : ∃ z, z = f_X6_numberStands s_33 0 ((s_33 ho 0) - 1) := ⟨_, rfl⟩
            by_cases c_13 : z_12.2 = 0
            · have b_14 : wx_b z_12.2 0 0 := by rw [c_13]; exact ⟨by decide, by decide⟩
              rw [show (b_X6_readPeople_33 g ho t_2 s_2 g_8) t_33 s_33 = .inr (.inr ((z_12.1, 0))) from (by subst ez_12; simp only [b_X6_readPeople_33, if_pos c_10, if_pos c_13])]
              exact (Or.inr ⟨_, rfl, (Or.inr ⟨_, rfl, (show narrow .boolean (.int 0) = .int 0 from rfl)⟩)⟩)
            · have b_15 : wx_b (z_12.1 18 7) 0 5 := by rw [ez_12]; exact ns_b (show wx_b 0 0 0 from ⟨by decide, by decide⟩) (wb_sub hRI_33 (show wx_b 1 1 1 from ⟨by decide, by decide⟩) (by decide) (by decide)) (by rw [← ez_12]; exact c_13)
              obtain ⟨x_16, ex_16⟩ : ∃ z : Int32, z = (z_12.1 18 7) := ⟨_, rfl⟩
              have bx_16 : wx_b x_16 0 5 := by rw [ex_16]; exact b_15
              obtain ⟨g_17, eg_17⟩ : ∃ z : wx_M, z = up2 z_12.1 (ho + 4) ((8 * (nI t_2)) + (nI t_33)).toNatClampNeg x_16 := ⟨_, rfl⟩
              obtain ⟨g_18, eg_18⟩ : ∃ z : wx_M, z = e_X6_step g_17 := ⟨_, rfl⟩
              rw [show (b_X6_readPeople_33 g ho t_2 s_2 g_8) t_33 s_33 = .inl g_18 from (by subst eg_18 eg_17 ex_16 ez_12; simp only [b_X6_readPeople_33, if_pos c_10, if_neg c_13])]
              exact (Or.inl ⟨_, rfl, ⟨(by rw [eg_18]; exact tT_X6_step (by rw [eg_17]; exact tT_n (by rcases hho with rfl | rfl | rfl | rfl <;> decide) (by rw [ez_12]; exact tT_X6_numberStands hTI_33))), (wb_w (show wx_b (g_18 ho 0) 0 6 by rw [show (g_18 ho 0) = (g_17 ho 0) from (by rw [eg_18, fr_X6_step (by rcases hho with rfl | rfl | rfl | rfl <;> decide)])]; exact (show wx_b (g_17 ho 0) 0 6 by rw [show (g_17 ho 0) = (z_12.1 ho 0) from (by rw [eg_17, up2_n (by omega)])]; exact (show wx_b (z_12.1 ho 0) 0 6 by rw [show (z_12.1 ho 0) = (s_33 ho 0) from (by rw [ez_12, fr_X6_numberStands (by rcases hho with rfl | rfl | rfl | rfl <;> decide)])]; exact hRI_33))) (by decide) (by decide))⟩⟩)
          · have b_19 : wx_b (nI t_33) 1 7 := wb_gt (wb_nle c_10) bt_33 (show wx_b 0 0 0 from ⟨by decide, by decide⟩) (by decide) (by decide)
            obtain ⟨z_20, ez_20⟩ : ∃ z, z = f_X6_take s_33 44 := ⟨_, rfl⟩
            by_cases c_21 : z_20.2 = 0
            · have b_22 : wx_b z_20.2 0 0 := by rw [c_21]; exact ⟨by decide, by decide⟩
              rw [show (b_X6_readPeople_33 g ho t_2 s_2 g_8) t_33 s_33 = .inr (.inr ((z_20.1, 0))) from (by subst ez_20; simp only [b_X6_readPeople_33, if_neg c_10, if_pos c_21])]
              exact (Or.inr ⟨_, rfl, (Or.inr ⟨_, rfl, (show narrow .boolean (.int 0) = .int 0 from rfl)⟩)⟩)
            · obtain ⟨z_23, ez_23⟩ : ∃ z, z = f_X6_numberStands z_20.1 0 ((z_20.1 ho 0) - 1) := ⟨_, rfl⟩
              by_cases c_24 : z_23.2 = 0
              · have b_25 : wx_b z_23.2 0 0 := by rw [c_24]; exact ⟨by decide, by decide⟩
                rw [show (b_X6_readPeople_33 g ho t_2 s_2 g_8) t_33 s_33 = .inr (.inr ((z_23.1, 0))) from (by subst ez_23 ez_20; simp only [b_X6_readPeople_33, if_neg c_10, if_neg c_21, if_pos c_24])]
                exact (Or.inr ⟨_, rfl, (Or.inr ⟨_, rfl, (show narrow .boolean (.int 0) = .int 0 from rfl)⟩)⟩)
              · have b_26 : wx_b (z_23.1 18 7) 0 5 := by rw [ez_23]; exact ns_b (show wx_b 0 0 0 from ⟨by decide, by decide⟩) (wb_sub (show wx_b (z_20.1 ho 0) 0 6 by rw [show (z_20.1 ho 0) = (s_33 ho 0) from (by rw [ez_20, fr_X6_take (by rcases hho with rfl | rfl | rfl | rfl <;> decide)])]; exact hRI_33) (show wx_b 1 1 1 from ⟨by decide, by decide⟩) (by decide) (by decide)) (by rw [← ez_23]; exact c_24)
                obtain ⟨x_27, ex_27⟩ : ∃ z : Int32, z = (z_23.1 18 7) := ⟨_, rfl⟩
                have bx_27 : wx_b x_27 0 5 := by rw [ex_27]; exact b_26
                obtain ⟨g_28, eg_28⟩ : ∃ z : wx_M, z = up2 z_23.1 (ho + 4) ((8 * (nI t_2)) + (nI t_33)).toNatClampNeg x_27 := ⟨_, rfl⟩
                obtain ⟨g_29, eg_29⟩ : ∃ z : wx_M, z = e_X6_step g_28 := ⟨_, rfl⟩
                rw [show (b_X6_readPeople_33 g ho t_2 s_2 g_8) t_33 s_33 = .inl g_29 from (by subst eg_29 eg_28 ex_27 ez_23 ez_20; simp only [b_X6_readPeople_33, if_neg c_10, if_neg c_21, if_neg c_24])]
                exact (Or.inl ⟨_, rfl, ⟨(by rw [eg_29]; exact tT_X6_step (by rw [eg_28]; exact tT_n (by rcases hho with rfl | rfl | rfl | rfl <;> decide) (by rw [ez_23]; exact tT_X6_numberStands (by rw [ez_20]; exact tT_X6_take hTI_33)))), (wb_w (show wx_b (g_29 ho 0) 0 6 by rw [show (g_29 ho 0) = (g_28 ho 0) from (by rw [eg_29, fr_X6_step (by rcases hho with rfl | rfl | rfl | rfl <;> decide)])]; exact (show wx_b (g_28 ho 0) 0 6 by rw [show (g_28 ho 0) = (z_23.1 ho 0) from (by rw [eg_28, up2_n (by omega)])]; exact (show wx_b (z_23.1 ho 0) 0 6 by rw [show (z_23.1 ho 0) = (z_20.1 ho 0) from (by rw [ez_23, fr_X6_numberStands (by rcases hho with rfl | rfl | rfl | rfl <;> decide)])]; exact (show wx_b (z_20.1 ho 0) 0 6 by rw [show (z_20.1 ho 0) = (s_33 ho 0) from (by rw [ez_20, fr_X6_take (by rcases hho with rfl | rfl | rfl | rfl <;> decide)])]; exact hRI_33)))) (by decide) (by decide))⟩⟩))
        cases hc_33 : repX 8 (b_X6_readPeople_33 g ho t_2 s_2 g_8) g_8 with
        | inr r_33 =>
          rw [show (b_X6_readPeople_2 g ho) t_2 s_2 = r_33 from (by subst eg_8; simp only [b_X6_readPeople_2, if_pos c_2, if_neg c_4, hc_33])]
          exact lp_33.2 _ hc_33
        | inl s_33 =>
          have h9 := lp_33.1 _ hc_33
          obtain ⟨hTI_33, hRI_33⟩ := h9
          obtain ⟨z_30, ez_30⟩ : ∃ z, z = f_X6_take s_33 59 := ⟨_, rfl⟩
          by_cases c_31 : z_30.2 = 0
          · have b_32 : wx_b z_30.2 0 0 := by rw [c_31]; exact ⟨by decide, by decide⟩
            rw [show (b_X6_readPeople_2 g ho) t_2 s_2 = .inr ((z_30.1, 0)) from (by subst ez_30 eg_8; simp only [b_X6_readPeople_2, if_pos c_2, if_neg c_4, if_pos c_31, hc_33])]
            exact (Or.inr ⟨_, rfl, (show narrow .boolean (.int 0) = .int 0 from rfl)⟩)
          · obtain ⟨x_33, ex_33⟩ : ∃ z : Int32, z = ((z_30.1 ho 4) + 1) := ⟨_, rfl⟩
            obtain ⟨g_34, eg_34⟩ : ∃ z : wx_M, z = up2 z_30.1 ho 4 x_33 := ⟨_, rfl⟩
            rw [show (b_X6_readPeople_2 g ho) t_2 s_2 = .inl g_34 from (by subst eg_34 ex_33 ez_30 eg_8; simp only [b_X6_readPeople_2, if_pos c_2, if_neg c_4, if_neg c_31, hc_33])]
            exact (Or.inl ⟨_, rfl, ⟨(by rw [eg_34]; exact tT_n (by rcases hho with rfl | rfl | rfl | rfl <;> decide) (by rw [ez_30]; exact tT_X6_take hTI_33)), (wb_w (show wx_b (g_34 ho 0) 0 6 by rw [show (g_34 ho 0) = (z_30.1 ho 0) from (by rw [eg_34, up2_sn (by decide)])]; exact (show wx_b (z_30.1 ho 0) 0 6 by rw [show (z_30.1 ho 0) = (s_33 ho 0) from (by rw [ez_30, fr_X6_take (by rcases hho with rfl | rfl | rfl | rfl <;> decide)])]; exact hRI_33)) (by decide) (by decide))⟩⟩)
    · rw [show (b_X6_readPeople_2 g ho) t_2 s_2 = .inr ((s_2, 1)) from (by simp only [b_X6_readPeople_2, if_neg c_2])]
      exact (Or.inr ⟨_, rfl, (show narrow .boolean (.int 1) = .int 1 from rfl)⟩))
  cases hc_2 : repX 5 (b_X6_readPeople_2 g ho) g with
  | inr r_2 =>
    rw [show f_X6_readPeople g ho = r_2 from (by simp only [f_X6_readPeople, hc_2])]
    exact lp_2.2 _ hc_2
  | inl s_2 =>
    have h9 := lp_2.1 _ hc_2
    obtain ⟨hTI_2, hRI_2⟩ := h9
    rw [show f_X6_readPeople g ho = (s_2, 1) from (by simp only [f_X6_readPeople, hc_2])]
    exact (show narrow .boolean (.int 1) = .int 1 from rfl)

set_option maxHeartbeats 4000000 in
theorem tT_X6_readPeople {g : wx_M} {ho : Nat} (hho : wx_H ho) (hT : wx_TB g) (hro : wx_b (g ho 0) 0 6) : wx_TB (f_X6_readPeople g ho).1 := by
  have lp_2 := repX_inv2 (f := (b_X6_readPeople_2 g ho)) (s0 := g) (fun (t_2 : Nat) (s_2 : wx_M) => (wx_TB s_2) ∧ (wx_b (s_2 ho 0) 0 6)) (fun r => wx_TB (r).1) 5 ⟨hT, hro⟩ (by
    intro t_2 s_2 hlt_2 hI9
    obtain ⟨hTI_2, hRI_2⟩ := hI9
    have bt_2 : wx_b (nI (t_2)) 0 4 := wb_nI (n := 4) (by omega) (by decide)
    by_cases c_2 : (s_2 18 6) = 114
    · have b_3 : wx_b (s_2 18 6) 114 114 := by rw [c_2]; exact ⟨by decide, by decide⟩
      by_cases c_4 : (nI t_2) = 4
      · have b_5 : wx_b (nI t_2) 4 4 := by rw [c_4]; exact ⟨by decide, by decide⟩
        obtain ⟨z_6, ez_6⟩ : ∃ z, z = f_X6_faulty s_2 3 := ⟨_, rfl⟩
        rw [show (b_X6_readPeople_2 g ho) t_2 s_2 = .inr ((z_6.1, z_6.2)) from (by subst ez_6; simp only [b_X6_readPeople_2, if_pos c_2, if_pos c_4])]
        exact (Or.inr ⟨_, rfl, (by rw [ez_6]; exact tT_X6_faulty hTI_2)⟩)
      · have b_7 : wx_b (nI t_2) 0 3 := wb_neh c_4 bt_2 (by decide)
        obtain ⟨g_8, eg_8⟩ : ∃ z : wx_M, z = e_X6_step s_2 := ⟨_, rfl⟩
        have lp_33 := repX_inv2 (f := (b_X6_readPeople_33 g ho t_2 s_2 g_8)) (s0 := g_8) (fun (t_33 : Nat) (s_33 : wx_M) => (wx_TB s_33) ∧ (wx_b (s_33 ho 0) 0 6)) (fun r => (∃ s9, r = .inl s9 ∧ ((wx_TB s9) ∧ (wx_b (s9 ho 0) 0 6))) ∨ (∃ r1, r = .inr r1 ∧ (wx_TB (r1).1))) 8 ⟨(by rw [eg_8]; exact tT_X6_step hTI_2), (wb_w (show wx_b (g_8 ho 0) 0 6 by rw [show (g_8 ho 0) = (s_2 ho 0) from (by rw [eg_8, fr_X6_step (by rcases hho with rfl | rfl | rfl | rfl <;> decide)])]; exact hRI_2) (by decide) (by decide))⟩ (by
          intro t_33 s_33 hlt_33 hI9
          obtain ⟨hTI_33, hRI_33⟩ := hI9
          have bt_33 : wx_b (nI (t_33)) 0 7 := wb_nI (n := 7) (by omega) (by decide)
          by_cases c_10 : (nI t_33) ≤ 0
          · have b_11 : wx_b (nI t_33) 0 0 := wb_le c_10 bt_33 (show wx_b 0 0 0 from ⟨by decide, by decide⟩) (by decide) (by decide)
            obtain ⟨z_12, ez_12⟩ : ∃ z, z = f_X6_numberStands s_33 0 ((s_33 ho 0) - 1) := ⟨_, rfl⟩
            by_cases c_13 : z_12.2 = 0
            · have b_14 : wx_b z_12.2 0 0 := by rw [c_13]; exact ⟨by decide, by decide⟩
              rw [show (b_X6_readPeople_33 g ho t_2 s_2 g_8) t_33 s_33 = .inr (.inr ((z_12.1, 0))) from (by subst ez_12; simp only [b_X6_readPeople_33, if_pos c_10, if_pos c_13])]
              exact (Or.inr ⟨_, rfl, (Or.inr ⟨_, rfl, (by rw [ez_12]; exact tT_X6_numberStands hTI_33)⟩)⟩)
            · have b_15 : wx_b (z_12.1 18 7) 0 5 := by rw [ez_12]; exact ns_b (show wx_b 0 0 0 from ⟨by decide, by decide⟩) (wb_sub hRI_33 (show wx_b 1 1 1 from ⟨by decide, by decide⟩) (by decide) (by decide)) (by rw [← ez_12]; exact c_13)
              obtain ⟨x_16, ex_16⟩ : ∃ z : Int32, z = (z_12.1 18 7) := ⟨_, rfl⟩
              have bx_16 : wx_b x_16 0 5 := by rw [ex_16]; exact b_15
              obtain ⟨g_17, eg_17⟩ : ∃ z : wx_M, z = up2 z_12.1 (ho + 4) ((8 * (nI t_2)) + (nI t_33)).toNatClampNeg x_16 := ⟨_, rfl⟩
              obtain ⟨g_18, eg_18⟩ : ∃ z : wx_M, z = e_X6_step g_17 := ⟨_, rfl⟩
              rw [show (b_X6_readPeople_33 g ho t_2 s_2 g_8) t_33 s_33 = .inl g_18 from (by subst eg_18 eg_17 ex_16 ez_12; simp only [b_X6_readPeople_33, if_pos c_10, if_neg c_13])]
              exact (Or.inl ⟨_, rfl, ⟨(by rw [eg_18]; exact tT_X6_step (by rw [eg_17]; exact tT_n (by rcases hho with rfl | rfl | rfl | rfl <;> decide) (by rw [ez_12]; exact tT_X6_numberStands hTI_33))), (wb_w (show wx_b (g_18 ho 0) 0 6 by rw [show (g_18 ho 0) = (g_17 ho 0) from (by rw [eg_18, fr_X6_step (by rcases hho with rfl | rfl | rfl | rfl <;> decide)])]; exact (show wx_b (g_17 ho 0) 0 6 by rw [show (g_17 ho 0) = (z_12.1 ho 0) from (by rw [eg_17, up2_n (by omega)])]; exact (show wx_b (z_12.1 ho 0) 0 6 by rw [show (z_12.1 ho 0) = (s_33 ho 0) from (by rw [ez_12, fr_X6_numberStands (by rcases hho with rfl | rfl | rfl | rfl <;> decide)])]; exact hRI_33))) (by decide) (by decide))⟩⟩)
          · have b_19 : wx_b (nI t_33) 1 7 := wb_gt (wb_nle c_10) bt_33 (show wx_b 0 0 0 from ⟨by decide, by decide⟩) (by decide) (by decide)
            obtain ⟨z_20, ez_20⟩ : ∃ z, z = f_X6_take s_33 44 := ⟨_, rfl⟩
            by_cases c_21 : z_20.2 = 0
            · have b_22 : wx_b z_20.2 0 0 := by rw [c_21]; exact ⟨by decide, by decide⟩
              rw [show (b_X6_readPeople_33 g ho t_2 s_2 g_8) t_33 s_33 = .inr (.inr ((z_20.1, 0))) from (by subst ez_20; simp only [b_X6_readPeople_33, if_neg c_10, if_pos c_21])]
              exact (Or.inr ⟨_, rfl, (Or.inr ⟨_, rfl, (by rw [ez_20]; exact tT_X6_take hTI_33)⟩)⟩)
            · obtain ⟨z_23, ez_23⟩ : ∃ z, z = f_X6_numberStands z_20.1 0 ((z_20.1 ho 0) - 1) := ⟨_, rfl⟩
              by_cases c_24 : z_23.2 = 0
              · have b_25 : wx_b z_23.2 0 0 := by rw [c_24]; exact ⟨by decide, by decide⟩
                rw [show (b_X6_readPeople_33 g ho t_2 s_2 g_8) t_33 s_33 = .inr (.inr ((z_23.1, 0))) from (by subst ez_23 ez_20; simp only [b_X6_readPeople_33, if_neg c_10, if_neg c_21, if_pos c_24])]
                exact (Or.inr ⟨_, rfl, (Or.inr ⟨_, rfl, (by rw [ez_23]; exact tT_X6_numberStands (by rw [ez_20]; exact tT_X6_take hTI_33))⟩)⟩)
              · have b_26 : wx_b (z_23.1 18 7) 0 5 := by rw [ez_23]; exact ns_b (show wx_b 0 0 0 from ⟨by decide, by decide⟩) (wb_sub (show wx_b (z_20.1 ho 0) 0 6 by rw [show (z_20.1 ho 0) = (s_33 ho 0) from (by rw [ez_20, fr_X6_take (by rcases hho with rfl | rfl | rfl | rfl <;> decide)])]; exact hRI_33) (show wx_b 1 1 1 from ⟨by decide, by decide⟩) (by decide) (by decide)) (by rw [← ez_23]; exact c_24)
                obtain ⟨x_27, ex_27⟩ : ∃ z : Int32, z = (z_23.1 18 7) := ⟨_, rfl⟩
                have bx_27 : wx_b x_27 0 5 := by rw [ex_27]; exact b_26
                obtain ⟨g_28, eg_28⟩ : ∃ z : wx_M, z = up2 z_23.1 (ho + 4) ((8 * (nI t_2)) + (nI t_33)).toNatClampNeg x_27 := ⟨_, rfl⟩
                obtain ⟨g_29, eg_29⟩ : ∃ z : wx_M, z = e_X6_step g_28 := ⟨_, rfl⟩
                rw [show (b_X6_readPeople_33 g ho t_2 s_2 g_8) t_33 s_33 = .inl g_29 from (by subst eg_29 eg_28 ex_27 ez_23 ez_20; simp only [b_X6_readPeople_33, if_neg c_10, if_neg c_21, if_neg c_24])]
                exact (Or.inl ⟨_, rfl, ⟨(by rw [eg_29]; exact tT_X6_step (by rw [eg_28]; exact tT_n (by rcases hho with rfl | rfl | rfl | rfl <;> decide) (by rw [ez_23]; exact tT_X6_numberStands (by rw [ez_20]; exact tT_X6_take hTI_33)))), (wb_w (show wx_b (g_29 ho 0) 0 6 by rw [show (g_29 ho 0) = (g_28 ho 0) from (by rw [eg_29, fr_X6_step (by rcases hho with rfl | rfl | rfl | rfl <;> decide)])]; exact (show wx_b (g_28 ho 0) 0 6 by rw [show (g_28 ho 0) = (z_23.1 ho 0) from (by rw [eg_28, up2_n (by omega)])]; exact (show wx_b (z_23.1 ho 0) 0 6 by rw [show (z_23.1 ho 0) = (z_20.1 ho 0) from (by rw [ez_23, fr_X6_numberStands (by rcases hho with rfl | rfl | rfl | rfl <;> decide)])]; exact (show wx_b (z_20.1 ho 0) 0 6 by rw [show (z_20.1 ho 0) = (s_33 ho 0) from (by rw [ez_20, fr_X6_take (by rcases hho with rfl | rfl | rfl | rfl <;> decide)])]; exact hRI_33)))) (by decide) (by decide))⟩⟩))
        cases hc_33 : repX 8 (b_X6_readPeople_33 g ho t_2 s_2 g_8) g_8 with
        | inr r_33 =>
          rw [show (b_X6_readPeople_2 g ho) t_2 s_2 = r_33 from (by subst eg_8; simp only [b_X6_readPeople_2, if_pos c_2, if_neg c_4, hc_33])]
          exact lp_33.2 _ hc_33
        | inl s_33 =>
          have h9 := lp_33.1 _ hc_33
          obtain ⟨hTI_33, hRI_33⟩ := h9
          obtain ⟨z_30, ez_30⟩ : ∃ z, z = f_X6_take s_33 59 := ⟨_, rfl⟩
          by_cases c_31 : z_30.2 = 0
          · have b_32 : wx_b z_30.2 0 0 := by rw [c_31]; exact ⟨by decide, by decide⟩
            rw [show (b_X6_readPeople_2 g ho) t_2 s_2 = .inr ((z_30.1, 0)) from (by subst ez_30 eg_8; simp only [b_X6_readPeople_2, if_pos c_2, if_neg c_4, if_pos c_31, hc_33])]
            exact (Or.inr ⟨_, rfl, (by rw [ez_30]; exact tT_X6_take hTI_33)⟩)
          · obtain ⟨x_33, ex_33⟩ : ∃ z : Int32, z = ((z_30.1 ho 4) + 1) := ⟨_, rfl⟩
            obtain ⟨g_34, eg_34⟩ : ∃ z : wx_M, z = up2 z_30.1 ho 4 x_33 := ⟨_, rfl⟩
            rw [show (b_X6_readPeople_2 g ho) t_2 s_2 = .inl g_34 from (by subst eg_34 ex_33 ez_30 eg_8; simp only [b_X6_readPeople_2, if_pos c_2, if_neg c_4, if_neg c_31, hc_33])]
            exact (Or.inl ⟨_, rfl, ⟨(by rw [eg_34]; exact tT_n (by rcases hho with rfl | rfl | rfl | rfl <;> decide) (by rw [ez_30]; exact tT_X6_take hTI_33)), (wb_w (show wx_b (g_34 ho 0) 0 6 by rw [show (g_34 ho 0) = (z_30.1 ho 0) from (by rw [eg_34, up2_sn (by decide)])]; exact (show wx_b (z_30.1 ho 0) 0 6 by rw [show (z_30.1 ho 0) = (s_33 ho 0) from (by rw [ez_30, fr_X6_take (by rcases hho with rfl | rfl | rfl | rfl <;> decide)])]; exact hRI_33)) (by decide) (by decide))⟩⟩)
    · rw [show (b_X6_readPeople_2 g ho) t_2 s_2 = .inr ((s_2, 1)) from (by simp only [b_X6_readPeople_2, if_neg c_2])]
      exact (Or.inr ⟨_, rfl, hTI_2⟩))
  cases hc_2 : repX 5 (b_X6_readPeople_2 g ho) g with
  | inr r_2 =>
    rw [show f_X6_readPeople g ho = r_2 from (by simp only [f_X6_readPeople, hc_2])]
    exact lp_2.2 _ hc_2
  | inl s_2 =>
    have h9 := lp_2.1 _ hc_2
    obtain ⟨hTI_2, hRI_2⟩ := h9
    rw [show f_X6_readPeople g ho = (s_2, 1) from (by simp only [f_X6_readPeople, hc_2])]
    exact hTI_2

set_option maxHeartbeats 4000000 in
theorem ro_X6_readPeople {g : wx_M} {ho : Nat} (hho : wx_H ho) (hT : wx_TB g) (hro : wx_b (g ho 0) 0 6) : wx_b ((f_X6_readPeople g ho).1 ho 0) 0 6 := by
  have lp_2 := repX_inv2 (f := (b_X6_readPeople_2 g ho)) (s0 := g) (fun (t_2 : Nat) (s_2 : wx_M) => (wx_TB s_2) ∧ (wx_b (s_2 ho 0) 0 6)) (fun r => wx_b ((r).1 ho 0) 0 6) 5 ⟨hT, hro⟩ (by
    intro t_2 s_2 hlt_2 hI9
    obtain ⟨hTI_2, hRI_2⟩ := hI9
    have bt_2 : wx_b (nI (t_2)) 0 4 := wb_nI (n := 4) (by omega) (by decide)
    by_cases c_2 : (s_2 18 6) = 114
    · have b_3 : wx_b (s_2 18 6) 114 114 := by rw [c_2]; exact ⟨by decide, by decide⟩
      by_cases c_4 : (nI t_2) = 4
      · have b_5 : wx_b (nI t_2) 4 4 := by rw [c_4]; exact ⟨by decide, by decide⟩
        obtain ⟨z_6, ez_6⟩ : ∃ z, z = f_X6_faulty s_2 3 := ⟨_, rfl⟩
        rw [show (b_X6_readPeople_2 g ho) t_2 s_2 = .inr ((z_6.1, z_6.2)) from (by subst ez_6; simp only [b_X6_readPeople_2, if_pos c_2, if_pos c_4])]
        exact (Or.inr ⟨_, rfl, (wb_w (show wx_b (z_6.1 ho 0) 0 6 by rw [show (z_6.1 ho 0) = (s_2 ho 0) from (by rw [ez_6, fr_X6_faulty (by rcases hho with rfl | rfl | rfl | rfl <;> decide)])]; exact hRI_2) (by decide) (by decide))⟩)
      · have b_7 : wx_b (nI t_2) 0 3 := wb_neh c_4 bt_2 (by decide)
        obtain ⟨g_8, eg_8⟩ : ∃ z : wx_M, z = e_X6_step s_2 := ⟨_, rfl⟩
        have lp_33 := repX_inv2 (f := (b_X6_readPeople_33 g ho t_2 s_2 g_8)) (s0 := g_8) (fun (t_33 : Nat) (s_33 : wx_M) => (wx_TB s_33) ∧ (wx_b (s_33 ho 0) 0 6)) (fun r => (∃ s9, r = .inl s9 ∧ ((wx_TB s9) ∧ (wx_b (s9 ho 0) 0 6))) ∨ (∃ r1, r = .inr r1 ∧ (wx_b ((r1).1 ho 0) 0 6))) 8 ⟨(by rw [eg_8]; exact tT_X6_step hTI_2), (wb_w (show wx_b (g_8 ho 0) 0 6 by rw [show (g_8 ho 0) = (s_2 ho 0) from (by rw [eg_8, fr_X6_step (by rcases hho with rfl | rfl | rfl | rfl <;> decide)])]; exact hRI_2) (by decide) (by decide))⟩ (by
          intro t_33 s_33 hlt_33 hI9
          obtain ⟨hTI_33, hRI_33⟩ := hI9
          have bt_33 : wx_b (nI (t_33)) 0 7 := wb_nI (n := 7) (by omega) (by decide)
          by_cases c_10 : (nI t_33) ≤ 0
          · have b_11 : wx_b (nI t_33) 0 0 := wb_le c_10 bt_33 (show wx_b 0 0 0 from ⟨by decide, by decide⟩) (by decide) (by decide)
            obtain ⟨z_12, ez_12⟩ : ∃ z, z = f_X6_numberStands s_33 0 ((s_33 ho 0) - 1) := ⟨_, rfl⟩
            by_cases c_13 : z_12.2 = 0
            · have b_14 : wx_b z_12.2 0 0 := by rw [c_13]; exact ⟨by decide, by decide⟩
              rw [show (b_X6_readPeople_33 g ho t_2 s_2 g_8) t_33 s_33 = .inr (.inr ((z_12.1, 0))) from (by subst ez_12; simp only [b_X6_readPeople_33, if_pos c_10, if_pos c_13])]
              exact (Or.inr ⟨_, rfl, (Or.inr ⟨_, rfl, (wb_w (show wx_b (z_12.1 ho 0) 0 6 by rw [show (z_12.1 ho 0) = (s_33 ho 0) from (by rw [ez_12, fr_X6_numberStands (by rcases hho with rfl | rfl | rfl | rfl <;> decide)])]; exact hRI_33) (by decide) (by decide))⟩)⟩)
            · have b_15 : wx_b (z_12.1 18 7) 0 5 := by rw [ez_12]; exact ns_b (show wx_b 0 0 0 from ⟨by decide, by decide⟩) (wb_sub hRI_33 (show wx_b 1 1 1 from ⟨by decide, by decide⟩) (by decide) (by decide)) (by rw [← ez_12]; exact c_13)
              obtain ⟨x_16, ex_16⟩ : ∃ z : Int32, z = (z_12.1 18 7) := ⟨_, rfl⟩
              have bx_16 : wx_b x_16 0 5 := by rw [ex_16]; exact b_15
              obtain ⟨g_17, eg_17⟩ : ∃ z : wx_M, z = up2 z_12.1 (ho + 4) ((8 * (nI t_2)) + (nI t_33)).toNatClampNeg x_16 := ⟨_, rfl⟩
              obtain ⟨g_18, eg_18⟩ : ∃ z : wx_M, z = e_X6_step g_17 := ⟨_, rfl⟩
              rw [show (b_X6_readPeople_33 g ho t_2 s_2 g_8) t_33 s_33 = .inl g_18 from (by subst eg_18 eg_17 ex_16 ez_12; simp only [b_X6_readPeople_33, if_pos c_10, if_neg c_13])]
              exact (Or.inl ⟨_, rfl, ⟨(by rw [eg_18]; exact tT_X6_step (by rw [eg_17]; exact tT_n (by rcases hho with rfl | rfl | rfl | rfl <;> decide) (by rw [ez_12]; exact tT_X6_numberStands hTI_33))), (wb_w (show wx_b (g_18 ho 0) 0 6 by rw [show (g_18 ho 0) = (g_17 ho 0) from (by rw [eg_18, fr_X6_step (by rcases hho with rfl | rfl | rfl | rfl <;> decide)])]; exact (show wx_b (g_17 ho 0) 0 6 by rw [show (g_17 ho 0) = (z_12.1 ho 0) from (by rw [eg_17, up2_n (by omega)])]; exact (show wx_b (z_12.1 ho 0) 0 6 by rw [show (z_12.1 ho 0) = (s_33 ho 0) from (by rw [ez_12, fr_X6_numberStands (by rcases hho with rfl | rfl | rfl | rfl <;> decide)])]; exact hRI_33))) (by decide) (by decide))⟩⟩)
          · have b_19 : wx_b (nI t_33) 1 7 := wb_gt (wb_nle c_10) bt_33 (show wx_b 0 0 0 from ⟨by decide, by decide⟩) (by decide) (by decide)
            obtain ⟨z_20, ez_20⟩ : ∃ z, z = f_X6_take s_33 44 := ⟨_, rfl⟩
            by_cases c_21 : z_20.2 = 0
            · have b_22 : wx_b z_20.2 0 0 := by rw [c_21]; exact ⟨by decide, by decide⟩
              rw [show (b_X6_readPeople_33 g ho t_2 s_2 g_8) t_33 s_33 = .inr (.inr ((z_20.1, 0))) from (by subst ez_20; simp only [b_X6_readPeople_33, if_neg c_10, if_pos c_21])]
              exact (Or.inr ⟨_, rfl, (Or.inr ⟨_, rfl, (wb_w (show wx_b (z_20.1 ho 0) 0 6 by rw [show (z_20.1 ho 0) = (s_33 ho 0) from (by rw [ez_20, fr_X6_take (by rcases hho with rfl | rfl | rfl | rfl <;> decide)])]; exact hRI_33) (by decide) (by decide))⟩)⟩)
            · obtain ⟨z_23, ez_23⟩ : ∃ z, z = f_X6_numberStands z_20.1 0 ((z_20.1 ho 0) - 1) := ⟨_, rfl⟩
              by_cases c_24 : z_23.2 = 0
              · have b_25 : wx_b z_23.2 0 0 := by rw [c_24]; exact ⟨by decide, by decide⟩
                rw [show (b_X6_readPeople_33 g ho t_2 s_2 g_8) t_33 s_33 = .inr (.inr ((z_23.1, 0))) from (by subst ez_23 ez_20; simp only [b_X6_readPeople_33, if_neg c_10, if_neg c_21, if_pos c_24])]
                exact (Or.inr ⟨_, rfl, (Or.inr ⟨_, rfl, (wb_w (show wx_b (z_23.1 ho 0) 0 6 by rw [show (z_23.1 ho 0) = (z_20.1 ho 0) from (by rw [ez_23, fr_X6_numberStands (by rcases hho with rfl | rfl | rfl | rfl <;> decide)])]; exact (show wx_b (z_20.1 ho 0) 0 6 by rw [show (z_20.1 ho 0) = (s_33 ho 0) from (by rw [ez_20, fr_X6_take (by rcases hho with rfl | rfl | rfl | rfl <;> decide)])]; exact hRI_33)) (by decide) (by decide))⟩)⟩)
              · have b_26 : wx_b (z_23.1 18 7) 0 5 := by rw [ez_23]; exact ns_b (show wx_b 0 0 0 from ⟨by decide, by decide⟩) (wb_sub (show wx_b (z_20.1 ho 0) 0 6 by rw [show (z_20.1 ho 0) = (s_33 ho 0) from (by rw [ez_20, fr_X6_take (by rcases hho with rfl | rfl | rfl | rfl <;> decide)])]; exact hRI_33) (show wx_b 1 1 1 from ⟨by decide, by decide⟩) (by decide) (by decide)) (by rw [← ez_23]; exact c_24)
                obtain ⟨x_27, ex_27⟩ : ∃ z : Int32, z = (z_23.1 18 7) := ⟨_, rfl⟩
                have bx_27 : wx_b x_27 0 5 := by rw [ex_27]; exact b_26
                obtain ⟨g_28, eg_28⟩ : ∃ z : wx_M, z = up2 z_23.1 (ho + 4) ((8 * (nI t_2)) + (nI t_33)).toNatClampNeg x_27 := ⟨_, rfl⟩
                obtain ⟨g_29, eg_29⟩ : ∃ z : wx_M, z = e_X6_step g_28 := ⟨_, rfl⟩
                rw [show (b_X6_readPeople_33 g ho t_2 s_2 g_8) t_33 s_33 = .inl g_29 from (by subst eg_29 eg_28 ex_27 ez_23 ez_20; simp only [b_X6_readPeople_33, if_neg c_10, if_neg c_21, if_neg c_24])]
                exact (Or.inl ⟨_, rfl, ⟨(by rw [eg_29]; exact tT_X6_step (by rw [eg_28]; exact tT_n (by rcases hho with rfl | rfl | rfl | rfl <;> decide) (by rw [ez_23]; exact tT_X6_numberStands (by rw [ez_20]; exact tT_X6_take hTI_33)))), (wb_w (show wx_b (g_29 ho 0) 0 6 by rw [show (g_29 ho 0) = (g_28 ho 0) from (by rw [eg_29, fr_X6_step (by rcases hho with rfl | rfl | rfl | rfl <;> decide)])]; exact (show wx_b (g_28 ho 0) 0 6 by rw [show (g_28 ho 0) = (z_23.1 ho 0) from (by rw [eg_28, up2_n (by omega)])]; exact (show wx_b (z_23.1 ho 0) 0 6 by rw [show (z_23.1 ho 0) = (z_20.1 ho 0) from (by rw [ez_23, fr_X6_numberStands (by rcases hho with rfl | rfl | rfl | rfl <;> decide)])]; exact (show wx_b (z_20.1 ho 0) 0 6 by rw [show (z_20.1 ho 0) = (s_33 ho 0) from (by rw [ez_20, fr_X6_take (by rcases hho with rfl | rfl | rfl | rfl <;> decide)])]; exact hRI_33)))) (by decide) (by decide))⟩⟩))
        cases hc_33 : repX 8 (b_X6_readPeople_33 g ho t_2 s_2 g_8) g_8 with
        | inr r_33 =>
          rw [show (b_X6_readPeople_2 g ho) t_2 s_2 = r_33 from (by subst eg_8; simp only [b_X6_readPeople_2, if_pos c_2, if_neg c_4, hc_33])]
          exact lp_33.2 _ hc_33
        | inl s_33 =>
          have h9 := lp_33.1 _ hc_33
          obtain ⟨hTI_33, hRI_33⟩ := h9
          obtain ⟨z_30, ez_30⟩ : ∃ z, z = f_X6_take s_33 59 := ⟨_, rfl⟩
          by_cases c_31 : z_30.2 = 0
          · have b_32 : wx_b z_30.2 0 0 := by rw [c_31]; exact ⟨by decide, by decide⟩
            rw [show (b_X6_readPeople_2 g ho) t_2 s_2 = .inr ((z_30.1, 0)) from (by subst ez_30 eg_8; simp only [b_X6_readPeople_2, if_pos c_2, if_neg c_4, if_pos c_31, hc_33])]
            exact (Or.inr ⟨_, rfl, (wb_w (show wx_b (z_30.1 ho 0) 0 6 by rw [show (z_30.1 ho 0) = (s_33 ho 0) from (by rw [ez_30, fr_X6_take (by rcases hho with rfl | rfl | rfl | rfl <;> decide)])]; exact hRI_33) (by decide) (by decide))⟩)
          · obtain ⟨x_33, ex_33⟩ : ∃ z : Int32, z = ((z_30.1 ho 4) + 1) := ⟨_, rfl⟩
            obtain ⟨g_34, eg_34⟩ : ∃ z : wx_M, z = up2 z_30.1 ho 4 x_33 := ⟨_, rfl⟩
            rw [show (b_X6_readPeople_2 g ho) t_2 s_2 = .inl g_34 from (by subst eg_34 ex_33 ez_30 eg_8; simp only [b_X6_readPeople_2, if_pos c_2, if_neg c_4, if_neg c_31, hc_33])]
            exact (Or.inl ⟨_, rfl, ⟨(by rw [eg_34]; exact tT_n (by rcases hho with rfl | rfl | rfl | rfl <;> decide) (by rw [ez_30]; exact tT_X6_take hTI_33)), (wb_w (show wx_b (g_34 ho 0) 0 6 by rw [show (g_34 ho 0) = (z_30.1 ho 0) from (by rw [eg_34, up2_sn (by decide)])]; exact (show wx_b (z_30.1 ho 0) 0 6 by rw [show (z_30.1 ho 0) = (s_33 ho 0) from (by rw [ez_30, fr_X6_take (by rcases hho with rfl | rfl | rfl | rfl <;> decide)])]; exact hRI_33)) (by decide) (by decide))⟩⟩)
    · rw [show (b_X6_readPeople_2 g ho) t_2 s_2 = .inr ((s_2, 1)) from (by simp only [b_X6_readPeople_2, if_neg c_2])]
      exact (Or.inr ⟨_, rfl, (wb_w hRI_2 (by decide) (by decide))⟩))
  cases hc_2 : repX 5 (b_X6_readPeople_2 g ho) g with
  | inr r_2 =>
    rw [show f_X6_readPeople g ho = r_2 from (by simp only [f_X6_readPeople, hc_2])]
    exact lp_2.2 _ hc_2
  | inl s_2 =>
    have h9 := lp_2.1 _ hc_2
    obtain ⟨hTI_2, hRI_2⟩ := h9
    rw [show f_X6_readPeople g ho = (s_2, 1) from (by simp only [f_X6_readPeople, hc_2])]
    exact (wb_w hRI_2 (by decide) (by decide))

set_option maxHeartbeats 4000000 in
theorem fr_X6_readPeople {g : wx_M} {ho : Nat} {k : Nat} (hho : wx_H ho) (hT : wx_TB g) (hro : wx_b (g ho 0) 0 6) (hk18 : k ≠ 18) (hkh : k < ho ∨ ho + 6 < k) : (f_X6_readPeople g ho).1 k = g k := by
  have lp_2 := repX_inv2 (f := (b_X6_readPeople_2 g ho)) (s0 := g) (fun (t_2 : Nat) (s_2 : wx_M) => (wx_TB s_2) ∧ (wx_b (s_2 ho 0) 0 6) ∧ (s_2 k = g k)) (fun r => (r).1 k = g k) 5 ⟨hT, hro, rfl⟩ (by
    intro t_2 s_2 hlt_2 hI9
    obtain ⟨hTI_2, hRI_2, hfk_2⟩ := hI9
    have bt_2 : wx_b (nI (t_2)) 0 4 := wb_nI (n := 4) (by omega) (by decide)
    by_cases c_2 : (s_2 18 6) = 114
    · have b_3 : wx_b (s_2 18 6) 114 114 := by rw [c_2]; exact ⟨by decide, by decide⟩
      by_cases c_4 : (nI t_2) = 4
      · have b_5 : wx_b (nI t_2) 4 4 := by rw [c_4]; exact ⟨by decide, by decide⟩
        obtain ⟨z_6, ez_6⟩ : ∃ z, z = f_X6_faulty s_2 3 := ⟨_, rfl⟩
        rw [show (b_X6_readPeople_2 g ho) t_2 s_2 = .inr ((z_6.1, z_6.2)) from (by subst ez_6; simp only [b_X6_readPeople_2, if_pos c_2, if_pos c_4])]
        exact (Or.inr ⟨_, rfl, ((show z_6.1 k = s_2 k from by rw [ez_6]; exact fr_X6_faulty hk18).trans hfk_2)⟩)
      · have b_7 : wx_b (nI t_2) 0 3 := wb_neh c_4 bt_2 (by decide)
        obtain ⟨g_8, eg_8⟩ : ∃ z : wx_M, z = e_X6_step s_2 := ⟨_, rfl⟩
        have lp_33 := repX_inv2 (f := (b_X6_readPeople_33 g ho t_2 s_2 g_8)) (s0 := g_8) (fun (t_33 : Nat) (s_33 : wx_M) => (wx_TB s_33) ∧ (wx_b (s_33 ho 0) 0 6) ∧ (s_33 k = g k)) (fun r => (∃ s9, r = .inl s9 ∧ ((wx_TB s9) ∧ (wx_b (s9 ho 0) 0 6) ∧ (s9 k = g k))) ∨ (∃ r1, r = .inr r1 ∧ ((r1).1 k = g k))) 8 ⟨(by rw [eg_8]; exact tT_X6_step hTI_2), (wb_w (show wx_b (g_8 ho 0) 0 6 by rw [show (g_8 ho 0) = (s_2 ho 0) from (by rw [eg_8, fr_X6_step (by rcases hho with rfl | rfl | rfl | rfl <;> decide)])]; exact hRI_2) (by decide) (by decide)), ((show g_8 k = s_2 k from by rw [eg_8]; exact fr_X6_step hk18).trans hfk_2)⟩ (by
          intro t_33 s_33 hlt_33 hI9
          obtain ⟨hTI_33, hRI_33, hfk_33⟩ := hI9
          have bt_33 : wx_b (nI (t_33)) 0 7 := wb_nI (n := 7) (by omega) (by decide)
          by_cases c_10 : (nI t_33) ≤ 0
          · have b_11 : wx_b (nI t_33) 0 0 := wb_le c_10 bt_33 (show wx_b 0 0 0 from ⟨by decide, by decide⟩) (by decide) (by decide)
            obtain ⟨z_12, ez_12⟩ : ∃ z, z = f_X6_numberStands s_33 0 ((s_33 ho 0) - 1) := ⟨_, rfl⟩
            by_cases c_13 : z_12.2 = 0
            · have b_14 : wx_b z_12.2 0 0 := by rw [c_13]; exact ⟨by decide, by decide⟩
              rw [show (b_X6_readPeople_33 g ho t_2 s_2 g_8) t_33 s_33 = .inr (.inr ((z_12.1, 0))) from (by subst ez_12; simp only [b_X6_readPeople_33, if_pos c_10, if_pos c_13])]
              exact (Or.inr ⟨_, rfl, (Or.inr ⟨_, rfl, ((show z_12.1 k = s_33 k from by rw [ez_12]; exact fr_X6_numberStands hk18).trans hfk_33)⟩)⟩)
            · have b_15 : wx_b (z_12.1 18 7) 0 5 := by rw [ez_12]; exact ns_b (show wx_b 0 0 0 from ⟨by decide, by decide⟩) (wb_sub hRI_33 (show wx_b 1 1 1 from ⟨by decide, by decide⟩) (by decide) (by decide)) (by rw [← ez_12]; exact c_13)
              obtain ⟨x_16, ex_16⟩ : ∃ z : Int32, z = (z_12.1 18 7) := ⟨_, rfl⟩
              have bx_16 : wx_b x_16 0 5 := by rw [ex_16]; exact b_15
              obtain ⟨g_17, eg_17⟩ : ∃ z : wx_M, z = up2 z_12.1 (ho + 4) ((8 * (nI t_2)) + (nI t_33)).toNatClampNeg x_16 := ⟨_, rfl⟩
              obtain ⟨g_18, eg_18⟩ : ∃ z : wx_M, z = e_X6_step g_17 := ⟨_, rfl⟩
              rw [show (b_X6_readPeople_33 g ho t_2 s_2 g_8) t_33 s_33 = .inl g_18 from (by subst eg_18 eg_17 ex_16 ez_12; simp only [b_X6_readPeople_33, if_pos c_10, if_neg c_13])]
              exact (Or.inl ⟨_, rfl, ⟨(by rw [eg_18]; exact tT_X6_step (by rw [eg_17]; exact tT_n (by rcases hho with rfl | rfl | rfl | rfl <;> decide) (by rw [ez_12]; exact tT_X6_numberStands hTI_33))), (wb_w (show wx_b (g_18 ho 0) 0 6 by rw [show (g_18 ho 0) = (g_17 ho 0) from (by rw [eg_18, fr_X6_step (by rcases hho with rfl | rfl | rfl | rfl <;> decide)])]; exact (show wx_b (g_17 ho 0) 0 6 by rw [show (g_17 ho 0) = (z_12.1 ho 0) from (by rw [eg_17, up2_n (by omega)])]; exact (show wx_b (z_12.1 ho 0) 0 6 by rw [show (z_12.1 ho 0) = (s_33 ho 0) from (by rw [ez_12, fr_X6_numberStands (by rcases hho with rfl | rfl | rfl | rfl <;> decide)])]; exact hRI_33))) (by decide) (by decide)), ((show g_18 k = g_17 k from by rw [eg_18]; exact fr_X6_step hk18).trans ((show g_17 k = z_12.1 k from by rw [eg_17]; exact up2_n (by omega)).trans ((show z_12.1 k = s_33 k from by rw [ez_12]; exact fr_X6_numberStands hk18).trans hfk_33)))⟩⟩)
          · have b_19 : wx_b (nI t_33) 1 7 := wb_gt (wb_nle c_10) bt_33 (show wx_b 0 0 0 from ⟨by decide, by decide⟩) (by decide) (by decide)
            obtain ⟨z_20, ez_20⟩ : ∃ z, z = f_X6_take s_33 44 := ⟨_, rfl⟩
            by_cases c_21 : z_20.2 = 0
            · have b_22 : wx_b z_20.2 0 0 := by rw [c_21]; exact ⟨by decide, by decide⟩
              rw [show (b_X6_readPeople_33 g ho t_2 s_2 g_8) t_33 s_33 = .inr (.inr ((z_20.1, 0))) from (by subst ez_20; simp only [b_X6_readPeople_33, if_neg c_10, if_pos c_21])]
              exact (Or.inr ⟨_, rfl, (Or.inr ⟨_, rfl, ((show z_20.1 k = s_33 k from by rw [ez_20]; exact fr_X6_take hk18).trans hfk_33)⟩)⟩)
            · obtain ⟨z_23, ez_23⟩ : ∃ z, z = f_X6_numberStands z_20.1 0 ((z_20.1 ho 0) - 1) := ⟨_, rfl⟩
              by_cases c_24 : z_23.2 = 0
              · have b_25 : wx_b z_23.2 0 0 := by rw [c_24]; exact ⟨by decide, by decide⟩
                rw [show (b_X6_readPeople_33 g ho t_2 s_2 g_8) t_33 s_33 = .inr (.inr ((z_23.1, 0))) from (by subst ez_23 ez_20; simp only [b_X6_readPeople_33, if_neg c_10, if_neg c_21, if_pos c_24])]
                exact (Or.inr ⟨_, rfl, (Or.inr ⟨_, rfl, ((show z_23.1 k = z_20.1 k from by rw [ez_23]; exact fr_X6_numberStands hk18).trans ((show z_20.1 k = s_33 k from by rw [ez_20]; exact fr_X6_take hk18).trans hfk_33))⟩)⟩)
              · have b_26 : wx_b (z_23.1 18 7) 0 5 := by rw [ez_23]; exact ns_b (show wx_b 0 0 0 from ⟨by decide, by decide⟩) (wb_sub (show wx_b (z_20.1 ho 0) 0 6 by rw [show (z_20.1 ho 0) = (s_33 ho 0) from (by rw [ez_20, fr_X6_take (by rcases hho with rfl | rfl | rfl | rfl <;> decide)])]; exact hRI_33) (show wx_b 1 1 1 from ⟨by decide, by decide⟩) (by decide) (by decide)) (by rw [← ez_23]; exact c_24)
                obtain ⟨x_27, ex_27⟩ : ∃ z : Int32, z = (z_23.1 18 7) := ⟨_, rfl⟩
                have bx_27 : wx_b x_27 0 5 := by rw [ex_27]; exact b_26
                obtain ⟨g_28, eg_28⟩ : ∃ z : wx_M, z = up2 z_23.1 (ho + 4) ((8 * (nI t_2)) + (nI t_33)).toNatClampNeg x_27 := ⟨_, rfl⟩
                obtain ⟨g_29, eg_29⟩ : ∃ z : wx_M, z = e_X6_step g_28 := ⟨_, rfl⟩
                rw [show (b_X6_readPeople_33 g ho t_2 s_2 g_8) t_33 s_33 = .inl g_29 from (by subst eg_29 eg_28 ex_27 ez_23 ez_20; simp only [b_X6_readPeople_33, if_neg c_10, if_neg c_21, if_neg c_24])]
                exact (Or.inl ⟨_, rfl, ⟨(by rw [eg_29]; exact tT_X6_step (by rw [eg_28]; exact tT_n (by rcases hho with rfl | rfl | rfl | rfl <;> decide) (by rw [ez_23]; exact tT_X6_numberStands (by rw [ez_20]; exact tT_X6_take hTI_33)))), (wb_w (show wx_b (g_29 ho 0) 0 6 by rw [show (g_29 ho 0) = (g_28 ho 0) from (by rw [eg_29, fr_X6_step (by rcases hho with rfl | rfl | rfl | rfl <;> decide)])]; exact (show wx_b (g_28 ho 0) 0 6 by rw [show (g_28 ho 0) = (z_23.1 ho 0) from (by rw [eg_28, up2_n (by omega)])]; exact (show wx_b (z_23.1 ho 0) 0 6 by rw [show (z_23.1 ho 0) = (z_20.1 ho 0) from (by rw [ez_23, fr_X6_numberStands (by rcases hho with rfl | rfl | rfl | rfl <;> decide)])]; exact (show wx_b (z_20.1 ho 0) 0 6 by rw [show (z_20.1 ho 0) = (s_33 ho 0) from (by rw [ez_20, fr_X6_take (by rcases hho with rfl | rfl | rfl | rfl <;> decide)])]; exact hRI_33)))) (by decide) (by decide)), ((show g_29 k = g_28 k from by rw [eg_29]; exact fr_X6_step hk18).trans ((show g_28 k = z_23.1 k from by rw [eg_28]; exact up2_n (by omega)).trans ((show z_23.1 k = z_20.1 k from by rw [ez_23]; exact fr_X6_numberStands hk18).trans ((show z_20.1 k = s_33 k from by rw [ez_20]; exact fr_X6_take hk18).trans hfk_33))))⟩⟩))
        cases hc_33 : repX 8 (b_X6_readPeople_33 g ho t_2 s_2 g_8) g_8 with
        | inr r_33 =>
          rw [show (b_X6_readPeople_2 g ho) t_2 s_2 = r_33 from (by subst eg_8; simp only [b_X6_readPeople_2, if_pos c_2, if_neg c_4, hc_33])]
          exact lp_33.2 _ hc_33
        | inl s_33 =>
          have h9 := lp_33.1 _ hc_33
          obtain ⟨hTI_33, hRI_33, hfk_33⟩ := h9
          obtain ⟨z_30, ez_30⟩ : ∃ z, z = f_X6_take s_33 59 := ⟨_, rfl⟩
          by_cases c_31 : z_30.2 = 0
          · have b_32 : wx_b z_30.2 0 0 := by rw [c_31]; exact ⟨by decide, by decide⟩
            rw [show (b_X6_readPeople_2 g ho) t_2 s_2 = .inr ((z_30.1, 0)) from (by subst ez_30 eg_8; simp only [b_X6_readPeople_2, if_pos c_2, if_neg c_4, if_pos c_31, hc_33])]
            exact (Or.inr ⟨_, rfl, ((show z_30.1 k = s_33 k from by rw [ez_30]; exact fr_X6_take hk18).trans hfk_33)⟩)
          · obtain ⟨x_33, ex_33⟩ : ∃ z : Int32, z = ((z_30.1 ho 4) + 1) := ⟨_, rfl⟩
            obtain ⟨g_34, eg_34⟩ : ∃ z : wx_M, z = up2 z_30.1 ho 4 x_33 := ⟨_, rfl⟩
            rw [show (b_X6_readPeople_2 g ho) t_2 s_2 = .inl g_34 from (by subst eg_34 ex_33 ez_30 eg_8; simp only [b_X6_readPeople_2, if_pos c_2, if_neg c_4, if_neg c_31, hc_33])]
            exact (Or.inl ⟨_, rfl, ⟨(by rw [eg_34]; exact tT_n (by rcases hho with rfl | rfl | rfl | rfl <;> decide) (by rw [ez_30]; exact tT_X6_take hTI_33)), (wb_w (show wx_b (g_34 ho 0) 0 6 by rw [show (g_34 ho 0) = (z_30.1 ho 0) from (by rw [eg_34, up2_sn (by decide)])]; exact (show wx_b (z_30.1 ho 0) 0 6 by rw [show (z_30.1 ho 0) = (s_33 ho 0) from (by rw [ez_30, fr_X6_take (by rcases hho with rfl | rfl | rfl | rfl <;> decide)])]; exact hRI_33)) (by decide) (by decide)), ((show g_34 k = z_30.1 k from by rw [eg_34]; exact up2_n (by omega)).trans ((show z_30.1 k = s_33 k from by rw [ez_30]; exact fr_X6_take hk18).trans hfk_33))⟩⟩)
    · rw [show (b_X6_readPeople_2 g ho) t_2 s_2 = .inr ((s_2, 1)) from (by simp only [b_X6_readPeople_2, if_neg c_2])]
      exact (Or.inr ⟨_, rfl, hfk_2⟩))
  cases hc_2 : repX 5 (b_X6_readPeople_2 g ho) g with
  | inr r_2 =>
    rw [show f_X6_readPeople g ho = r_2 from (by simp only [f_X6_readPeople, hc_2])]
    exact lp_2.2 _ hc_2
  | inl s_2 =>
    have h9 := lp_2.1 _ hc_2
    obtain ⟨hTI_2, hRI_2, hfk_2⟩ := h9
    rw [show f_X6_readPeople g ho = (s_2, 1) from (by simp only [f_X6_readPeople, hc_2])]
    exact hfk_2

