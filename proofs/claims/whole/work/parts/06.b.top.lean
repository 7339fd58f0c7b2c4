def r_X11_visitor (g : wx_M) (a1 : Int32) (a2 : Int32) : Int32 :=
  if (r_X3_isVisitor g 20 a1) = 0 then
    (-1000001)
  else
    if a2 = 0 then
      (g 25 a1.toNatClampNeg)
    else
      if a2 = 1 then
        (r_X3_seatsOf g 20 a1)
      else
        if a2 = 2 then
          (r_X3_everLookedBy g 20 a1)
        else
          (-1000001)
set_option maxHeartbeats 4000000 in
set_option maxRecDepth 100000 in
theorem k_X11_visitor (l : Launch) {D : va_G} {cy : Nat → ClassId} {ad : Nat → Nat} {B0 : Nat} {f : wx_F} {P : va_W} (g : wx_M) (a1 : Int32) (a2 : Int32) (hg : wx_HB g 20) : Met l yX11_visitor wsX11_visitor ({ frames := 4, cells := 0, slots := 0, locals := 90 } : Room) (wx_Pc D cy ad B0 f P g [.ref (ad 0), .int a1, .int a2]) (QcRead (r_X11_visitor g a1 a2)) 0 0 (fun _ => False) := by
  refine wx_enterR (cc := cX11_visitor) (maxL := 3) (ty := .int) (own := RX11) (lv := [(0, .ref (ad 0)), (1, .int a1), (2, .int a2)]) (by decide) rfl rfl (Nat.le_of_ble_eq_true rfl) rfl ?_
  intro p e R s m args below meth c ls Qm hx hb hml hown hts hK hX hR hret hl
  have hi_X11 : ∀ w ∈ wsX110, w ∈ wsX11_visitor := by decide +kernel
  have hi_X3 : ∀ w ∈ wsX30, w ∈ wsX11_visitor := by decide +kernel
  refine lv_aload_n hx hb dX11_visitor_0 rfl (lv_at hl 0 rfl) ?_
  refine wx_getr (t := 20) (C := RX11) (T := TX11) (N := 8) (ci := 10) (j := 2) hx hb hts hi_X11 hown hK hX (by decide) sh_X11_2 rfl (by decide) (hts (.fieldLink RX11 25 "SeenAgain" "house" "LSeenAgain$House;") (by decide +kernel)) (fun _ h9 => h9) dX11_visitor_1 ?_
  refine lv_iload_n hx hb dX11_visitor_4 rfl (lv_at hl 1 rfl) ?_
  refine wx_callr (va_runV (As := [.int a1]) (rest := []) ⟨hx, hb, hml, hown, hts⟩ (k_X3_isVisitor l g 20 a1 (show wx_H 20 from Or.inl rfl)) (cwV 1 hts gX11_visitor_X3_isVisitor rfl rfl rfl (by decide +kernel) (by rw [hR]; exact ⟨Nat.le_of_ble_eq_true rfl, Nat.le_of_ble_eq_true rfl⟩)) ⟨wx_Pc.blind, wx_recv hK hX (by decide) (sh_X3 (show wx_H 20 from Or.inl rfl)) rfl, (wx_Pc.pre hK hX).2⟩ rfl rfl hl.1 rfl (lv_room (Nat.le_of_ble_eq_true rfl)) dX11_visitor_5 ⟨Nat.zero_le _, Nat.zero_le _⟩) ?_
  refine lv_if_ne (tgt := 14) hx hb dX11_visitor_8 (by decide) (fun c_1 => ?_) (fun c_1 => ?_)
  · have b_2 : wx_b a1 0 3 := rf_X3_isVisitor hg c_1
    refine lv_iload_n hx hb dX11_visitor_14 rfl (lv_at hl 2 rfl) ?_
    by_cases c_3 : a2 = 0
    · have b_4 : wx_b a2 0 0 := by rw [c_3]; exact ⟨by decide, by decide⟩
      refine lv_tableIn (tgt := 40) hx hb dX11_visitor_15 (by rw [c_3]; decide) (by rw [c_3]; decide) (by rw [c_3]; rfl) (by decide) ?_
      refine lv_aload_n hx hb dX11_visitor_40 rfl (lv_at hl 0 rfl) ?_
      refine wx_getr (t := 20) (C := RX11) (T := TX11) (N := 8) (ci := 10) (j := 2) hx hb hts hi_X11 hown hK hX (by decide) sh_X11_2 rfl (by decide) (hts (.fieldLink RX11 25 "SeenAgain" "house" "LSeenAgain$House;") (by decide +kernel)) (fun _ h9 => h9) dX11_visitor_41 ?_
      refine wx_getr (t := 25) (C := RX3) (T := TX3) (N := 15) (ci := 3) (j := 13) hx hb hts hi_X3 hown hK hX (by decide) (sh_X3_13 (show wx_H 20 from Or.inl rfl)) rfl (by decide) (hts (.fieldLink RX11 164 "SeenAgain$House" "purses" "[I") (by decide +kernel)) (fun _ h9 => h9) dX11_visitor_44 ?_
      refine lv_iload_n hx hb dX11_visitor_47 rfl (lv_at hl 1 rfl) ?_
      refine wx_iald hx hb hK hX (by decide) (sa_X3_5 (show wx_H 20 from Or.inl rfl)) (wb_in b_2 (by decide) (by decide)) dX11_visitor_48 ?_
      exact hret _ _ _ dX11_visitor_49 rfl (by simp only [r_X11_visitor, if_neg c_1, if_pos c_3])
    · by_cases c_5 : a2 = 1
      · have b_6 : wx_b a2 1 1 := by rw [c_5]; exact ⟨by decide, by decide⟩
        refine lv_tableIn (tgt := 50) hx hb dX11_visitor_15 (by rw [c_5]; decide) (by rw [c_5]; decide) (by rw [c_5]; rfl) (by decide) ?_
        refine lv_aload_n hx hb dX11_visitor_50 rfl (lv_at hl 0 rfl) ?_
        refine wx_getr (t := 20) (C := RX11) (T := TX11) (N := 8) (ci := 10) (j := 2) hx hb hts hi_X11 hown hK hX (by decide) sh_X11_2 rfl (by decide) (hts (.fieldLink RX11 25 "SeenAgain" "house" "LSeenAgain$House;") (by decide +kernel)) (fun _ h9 => h9) dX11_visitor_51 ?_
        refine lv_iload_n hx hb dX11_visitor_54 rfl (lv_at hl 1 rfl) ?_
        refine wx_callr (va_runV (As := [.int a1]) (rest := []) ⟨hx, hb, hml, hown, hts⟩ (k_X3_seatsOf l g 20 a1 (show wx_H 20 from Or.inl rfl)) (cwV 1 hts gX11_visitor_X3_seatsOf rfl rfl rfl (by decide +kernel) (by rw [hR]; exact ⟨Nat.le_of_ble_eq_true rfl, Nat.le_of_ble_eq_true rfl⟩)) ⟨wx_Pc.blind, wx_recv hK hX (by decide) (sh_X3 (show wx_H 20 from Or.inl rfl)) rfl, (wx_Pc.pre hK hX).2⟩ rfl rfl hl.1 rfl (lv_room (Nat.le_of_ble_eq_true rfl)) dX11_visitor_55 ⟨Nat.zero_le _, Nat.zero_le _⟩) ?_
        exact hret _ _ _ dX11_visitor_58 rfl (by simp only [r_X11_visitor, if_neg c_1, if_neg c_3, if_pos c_5])
      · by_cases c_7 : a2 = 2
        · have b_8 : wx_b a2 2 2 := by rw [c_7]; exact ⟨by decide, by decide⟩
          refine lv_tableIn (tgt := 59) hx hb dX11_visitor_15 (by rw [c_7]; decide) (by rw [c_7]; decide) (by rw [c_7]; rfl) (by decide) ?_
          refine lv_aload_n hx hb dX11_visitor_59 rfl (lv_at hl 0 rfl) ?_
          refine wx_getr (t := 20) (C := RX11) (T := TX11) (N := 8) (ci := 10) (j := 2) hx hb hts hi_X11 hown hK hX (by decide) sh_X11_2 rfl (by decide) (hts (.fieldLink RX11 25 "SeenAgain" "house" "LSeenAgain$House;") (by decide +kernel)) (fun _ h9 => h9) dX11_visitor_60 ?_
          refine lv_iload_n hx hb dX11_visitor_63 rfl (lv_at hl 1 rfl) ?_
          refine wx_callr (va_runV (As := [.int a1]) (rest := []) ⟨hx, hb, hml, hown, hts⟩ (k_X3_everLookedBy l g 20 a1 (show wx_H 20 from Or.inl rfl) hg) (cwV 1 hts gX11_visitor_X3_everLookedBy rfl rfl rfl (by decide +kernel) (by rw [hR]; exact ⟨Nat.le_of_ble_eq_true rfl, Nat.le_of_ble_eq_true rfl⟩)) ⟨wx_Pc.blind, wx_recv hK hX (by decide) (sh_X3 (show wx_H 20 from Or.inl rfl)) rfl, (wx_Pc.pre hK hX).2⟩ rfl rfl hl.1 rfl (lv_room (Nat.le_of_ble_eq_true rfl)) dX11_visitor_64 ⟨Nat.zero_le _, Nat.zero_le _⟩) ?_
          exact hret _ _ _ dX11_visitor_67 rfl (by simp only [r_X11_visitor, if_neg c_1, if_neg c_3, if_neg c_5, if_pos c_7])
        · refine lv_tableOut (tgt := 68) hx hb dX11_visitor_15 (by have q0 := lv_neT (a := 0) c_3 (by decide); have q1 := lv_neT (a := 1) c_5 (by decide); have q2 := lv_neT (a := 2) c_7 (by decide); omega) (by decide) ?_
          refine lv_ldc hx hb hown (hts (.constant RX11 55 (-1000001)) (by decide +kernel)) dX11_visitor_68 ?_
          exact hret _ _ _ dX11_visitor_70 rfl (by simp only [r_X11_visitor, if_neg c_1, if_neg c_3, if_neg c_5, if_neg c_7])
  · have b_9 : wx_b (r_X3_isVisitor g 20 a1) 0 0 := by rw [c_1]; exact ⟨by decide, by decide⟩
    refine lv_ldc hx hb hown (hts (.constant RX11 55 (-1000001)) (by decide +kernel)) dX11_visitor_11 ?_
    exact hret _ _ _ dX11_visitor_13 rfl (by simp only [r_X11_visitor, if_pos c_1])
def r_X11_seat (g : wx_M) (a1 : Int32) (a2 : Int32) (a3 : Int32) : Int32 :=
  if (r_X3_isRoom g 20 a1) = 0 then
    (-1000001)
  else
    if (r_X11_isMinute a2) = 0 then
      (-1000001)
    else
      if a3 = 0 then
        (r_X3_viewOf g 20 a1 a2)
      else
        if a3 = 1 then
          (g 23 (r_X11_seatNumber a1 a2).toNatClampNeg)
        else
          if a3 = 2 then
            (r_X3_peopleIn g 20 a1 a2)
          else
            (-1000001)
set_option maxHeartbeats 4000000 in
set_option maxRecDepth 100000 in
theorem k_X11_seat (l : Launch) {D : va_G} {cy : Nat → ClassId} {ad : Nat → Nat} {B0 : Nat} {f : wx_F} {P : va_W} (g : wx_M) (a1 : Int32) (a2 : Int32) (a3 : Int32) (hg : wx_HB g 20) : Met l yX11_seat wsX11_seat ({ frames := 2, cells := 0, slots := 0, locals := 46 } : Room) (wx_Pc D cy ad B0 f P g [.ref (ad 0), .int a1, .int a2, .int a3]) (QcRead (r_X11_seat g a1 a2 a3)) 0 0 (fun _ => False) := by
  refine wx_enterR (cc := cX11_seat) (maxL := 4) (ty := .int) (own := RX11) (lv := [(0, .ref (ad 0)), (1, .int a1), (2, .int a2), (3, .int a3)]) (by decide) rfl rfl (Nat.le_of_ble_eq_true rfl) rfl ?_
  intro p e R s m args below meth c ls Qm hx hb hml hown hts hK hX hR hret hl
  have hi_X11 : ∀ w ∈ wsX110, w ∈ wsX11_seat := by decide +kernel
  have hi_X3 : ∀ w ∈ wsX30, w ∈ wsX11_seat := by decide +kernel
  refine lv_aload_n hx hb dX11_seat_0 rfl (lv_at hl 0 rfl) ?_
  refine wx_getr (t := 20) (C := RX11) (T := TX11) (N := 8) (ci := 10) (j := 2) hx hb hts hi_X11 hown hK hX (by decide) sh_X11_2 rfl (by decide) (hts (.fieldLink RX11 25 "SeenAgain" "house" "LSeenAgain$House;") (by decide +kernel)) (fun _ h9 => h9) dX11_seat_1 ?_
  refine lv_iload_n hx hb dX11_seat_4 rfl (lv_at hl 1 rfl) ?_
  refine wx_callr (va_runV (As := [.int a1]) (rest := []) ⟨hx, hb, hml, hown, hts⟩ (k_X3_isRoom l g 20 a1 (show wx_H 20 from Or.inl rfl)) (cwV 1 hts gX11_seat_X3_isRoom rfl rfl rfl (by decide +kernel) (by rw [hR]; exact ⟨Nat.le_of_ble_eq_true rfl, Nat.le_of_ble_eq_true rfl⟩)) ⟨wx_Pc.blind, wx_recv hK hX (by decide) (sh_X3 (show wx_H 20 from Or.inl rfl)) rfl, (wx_Pc.pre hK hX).2⟩ rfl rfl hl.1 rfl (lv_room (Nat.le_of_ble_eq_true rfl)) dX11_seat_5 ⟨Nat.zero_le _, Nat.zero_le _⟩) ?_
  refine lv_if_eq (tgt := 18) hx hb dX11_seat_8 (by decide) (fun c_1 => ?_) (fun c_1 => ?_)
  · have b_2 : wx_b (r_X3_isRoom g 20 a1) 0 0 := by rw [c_1]; exact ⟨by decide, by decide⟩
    refine lv_ldc hx hb hown (hts (.constant RX11 55 (-1000001)) (by decide +kernel)) dX11_seat_18 ?_
    exact hret _ _ _ dX11_seat_20 rfl (by simp only [r_X11_seat, if_pos c_1])
  · have b_3 : wx_b a1 0 5 := rf_X3_isRoom hg c_1
    refine lv_iload_n hx hb dX11_seat_11 rfl (lv_at hl 2 rfl) ?_
    refine wx_callr (va_runS (As := [.int a2]) (rest := []) ⟨hx, hb, hml, hown, hts⟩ (k_X11_isMinute l g a2) (va_cwS 1 hts gX11_seat_X11_isMinute rfl rfl rfl (by decide +kernel) (by rw [hR]; exact ⟨Nat.le_of_ble_eq_true rfl, Nat.le_of_ble_eq_true rfl⟩)) (wx_Pc.pre hK hX) rfl rfl hl.1 rfl (lv_room (Nat.le_of_ble_eq_true rfl)) dX11_seat_12 ⟨Nat.zero_le _, Nat.zero_le _⟩) ?_
    refine lv_if_ne (tgt := 21) hx hb dX11_seat_15 (by decide) (fun c_4 => ?_) (fun c_4 => ?_)
    · have b_5 : wx_b a2 0 7 := rf_X11_isMinute  c_4
      refine lv_iload_n hx hb dX11_seat_21 rfl (lv_at hl 3 rfl) ?_
      by_cases c_6 : a3 = 0
      · have b_7 : wx_b a3 0 0 := by rw [c_6]; exact ⟨by decide, by decide⟩
        refine lv_tableIn (tgt := 48) hx hb dX11_seat_22 (by rw [c_6]; decide) (by rw [c_6]; decide) (by rw [c_6]; rfl) (by decide) ?_
        refine lv_aload_n hx hb dX11_seat_48 rfl (lv_at hl 0 rfl) ?_
        refine wx_getr (t := 20) (C := RX11) (T := TX11) (N := 8) (ci := 10) (j := 2) hx hb hts hi_X11 hown hK hX (by decide) sh_X11_2 rfl (by decide) (hts (.fieldLink RX11 25 "SeenAgain" "house" "LSeenAgain$House;") (by decide +kernel)) (fun _ h9 => h9) dX11_seat_49 ?_
        refine lv_iload_n hx hb dX11_seat_52 rfl (lv_at hl 1 rfl) ?_
        refine lv_iload_n hx hb dX11_seat_53 rfl (lv_at hl 2 rfl) ?_
        refine wx_callr (va_runV (As := [.int a1, .int a2]) (rest := []) ⟨hx, hb, hml, hown, hts⟩ (k_X3_viewOf l g 20 a1 a2 (show wx_H 20 from Or.inl rfl) b_3 b_5) (cwV 2 hts gX11_seat_X3_viewOf rfl rfl rfl (by decide +kernel) (by rw [hR]; exact ⟨Nat.le_of_ble_eq_true rfl, Nat.le_of_ble_eq_true rfl⟩)) ⟨wx_Pc.blind, wx_recv hK hX (by decide) (sh_X3 (show wx_H 20 from Or.inl rfl)) rfl, (wx_Pc.pre hK hX).2⟩ rfl rfl hl.1 rfl (lv_room (Nat.le_of_ble_eq_true rfl)) dX11_seat_54 ⟨Nat.zero_le _, Nat.zero_le _⟩) ?_
        exact hret _ _ _ dX11_seat_57 rfl (by simp only [r_X11_seat, if_neg c_1, if_neg c_4, if_pos c_6])
      · by_cases c_8 : a3 = 1
        · have b_9 : wx_b a3 1 1 := by rw [c_8]; exact ⟨by decide, by decide⟩
          refine lv_tableIn (tgt := 58) hx hb dX11_seat_22 (by rw [c_8]; decide) (by rw [c_8]; decide) (by rw [c_8]; rfl) (by decide) ?_
          refine lv_aload_n hx hb dX11_seat_58 rfl (lv_at hl 0 rfl) ?_
          refine wx_getr (t := 20) (C := RX11) (T := TX11) (N := 8) (ci := 10) (j := 2) hx hb hts hi_X11 hown hK hX (by decide) sh_X11_2 rfl (by decide) (hts (.fieldLink RX11 25 "SeenAgain" "house" "LSeenAgain$House;") (by decide +kernel)) (fun _ h9 => h9) dX11_seat_59 ?_
          refine wx_getr (t := 23) (C := RX3) (T := TX3) (N := 15) (ci := 3) (j := 11) hx hb hts hi_X3 hown hK hX (by decide) (sh_X3_11 (show wx_H 20 from Or.inl rfl)) rfl (by decide) (hts (.fieldLink RX11 205 "SeenAgain$House" "holders" "[I") (by decide +kernel)) (fun _ h9 => h9) dX11_seat_62 ?_
          refine lv_iload_n hx hb dX11_seat_65 rfl (lv_at hl 1 rfl) ?_
          refine lv_iload_n hx hb dX11_seat_66 rfl (lv_at hl 2 rfl) ?_
          refine wx_callr (va_runS (As := [.int a1, .int a2]) (rest := [.ref (ad 23)]) ⟨hx, hb, hml, hown, hts⟩ (k_X11_seatNumber l g a1 a2) (va_cwS 2 hts gX11_seat_X11_seatNumber rfl rfl rfl (by decide +kernel) (by rw [hR]; exact ⟨Nat.le_of_ble_eq_true rfl, Nat.le_of_ble_eq_true rfl⟩)) (wx_Pc.pre hK hX) rfl rfl hl.1 rfl (lv_room (Nat.le_of_ble_eq_true rfl)) dX11_seat_67 ⟨Nat.zero_le _, Nat.zero_le _⟩) ?_
          refine wx_iald hx hb hK hX (by decide) (sa_X3_3 (show wx_H 20 from Or.inl rfl)) (wb_in (rg_seat (wb_w b_3 (by decide) (by decide)) (wb_w b_5 (by decide) (by decide))) (by decide) (by decide)) dX11_seat_70 ?_
          exact hret _ _ _ dX11_seat_71 rfl (by simp only [r_X11_seat, if_neg c_1, if_neg c_4, if_neg c_6, if_pos c_8])
        · by_cases c_10 : a3 = 2
          · have b_11 : wx_b a3 2 2 := by rw [c_10]; exact ⟨by decide, by decide⟩
            refine lv_tableIn (tgt := 72) hx hb dX11_seat_22 (by rw [c_10]; decide) (by rw [c_10]; decide) (by rw [c_10]; rfl) (by decide) ?_
            refine lv_aload_n hx hb dX11_seat_72 rfl (lv_at hl 0 rfl) ?_
            refine wx_getr (t := 20) (C := RX11) (T := TX11) (N := 8) (ci := 10) (j := 2) hx hb hts hi_X11 hown hK hX (by decide) sh_X11_2 rfl (by decide) (hts (.fieldLink RX11 25 "SeenAgain" "house" "LSeenAgain$House;") (by decide +kernel)) (fun _ h9 => h9) dX11_seat_73 ?_
            refine lv_iload_n hx hb dX11_seat_76 rfl (lv_at hl 1 rfl) ?_
            refine lv_iload_n hx hb dX11_seat_77 rfl (lv_at hl 2 rfl) ?_
            refine wx_callr (va_runV (As := [.int a1, .int a2]) (rest := []) ⟨hx, hb, hml, hown, hts⟩ (k_X3_peopleIn l g 20 a1 a2 (show wx_H 20 from Or.inl rfl) b_5 hg) (cwV 2 hts gX11_seat_X3_peopleIn rfl rfl rfl (by decide +kernel) (by rw [hR]; exact ⟨Nat.le_of_ble_eq_true rfl, Nat.le_of_ble_eq_true rfl⟩)) ⟨wx_Pc.blind, wx_recv hK hX (by decide) (sh_X3 (show wx_H 20 from Or.inl rfl)) rfl, (wx_Pc.pre hK hX).2⟩ rfl rfl hl.1 rfl (lv_room (Nat.le_of_ble_eq_true rfl)) dX11_seat_78 ⟨Nat.zero_le _, Nat.zero_le _⟩) ?_
            exact hret _ _ _ dX11_seat_81 rfl (by simp only [r_X11_seat, if_neg c_1, if_neg c_4, if_neg c_6, if_neg c_8, if_pos c_10])
          · refine lv_tableOut (tgt := 82) hx hb dX11_seat_22 (by have q0 := lv_neT (a := 0) c_6 (by decide); have q1 := lv_neT (a := 1) c_8 (by decide); have q2 := lv_neT (a := 2) c_10 (by decide); omega) (by decide) ?_
            refine lv_ldc hx hb hown (hts (.constant RX11 55 (-1000001)) (by decide +kernel)) dX11_seat_82 ?_
            exact hret _ _ _ dX11_seat_84 rfl (by simp only [r_X11_seat, if_neg c_1, if_neg c_4, if_neg c_6, if_neg c_8, if_neg c_10])
    · have b_12 : wx_b (r_X11_isMinute a2) 0 0 := by rw [c_4]; exact ⟨by decide, by decide⟩
      refine lv_ldc hx hb hown (hts (.constant RX11 55 (-1000001)) (by decide +kernel)) dX11_seat_18 ?_
      exact hret _ _ _ dX11_seat_20 rfl (by simp only [r_X11_seat, if_neg c_1, if_pos c_4])
def r_X11_price (g : wx_M) (a1 : Int32) (a2 : Int32) (a3 : Int32) : Int32 :=
  if (r_X3_isVisitor g 20 a1) = 0 then
    (-1000001)
  else
    if (r_X3_isRoom g 20 a2) = 0 then
      (-1000001)
    else
      if (r_X11_isMinute a3) = 0 then
        (-1000001)
      else
        (r_X3_priceFor g 20 a1 a2 a3)
set_option maxHeartbeats 4000000 in
set_option maxRecDepth 100000 in
theorem k_X11_price (l : Launch) {D : va_G} {cy : Nat → ClassId} {ad : Nat → Nat} {B0 : Nat} {f : wx_F} {P : va_W} (g : wx_M) (a1 : Int32) (a2 : Int32) (a3 : Int32) (hg : wx_HB g 20) : Met l yX11_price wsX11_price ({ frames := 4, cells := 0, slots := 0, locals := 99 } : Room) (wx_Pc D cy ad B0 f P g [.ref (ad 0), .int a1, .int a2, .int a3]) (QcRead (r_X11_price g a1 a2 a3)) 0 0 (fun _ => False) := by
  refine wx_enterR (cc := cX11_price) (maxL := 4) (ty := .int) (own := RX11) (lv := [(0, .ref (ad 0)), (1, .int a1), (2, .int a2), (3, .int a3)]) (by decide) rfl rfl (Nat.le_of_ble_eq_true rfl) rfl ?_
  intro p e R s m args below meth c ls Qm hx hb hml hown hts hK hX hR hret hl
  have hi_X11 : ∀ w ∈ wsX110, w ∈ wsX11_price := by decide +kernel
  refine lv_aload_n hx hb dX11_price_0 rfl (lv_at hl 0 rfl) ?_
  refine wx_getr (t := 20) (C := RX11) (T := TX11) (N := 8) (ci := 10) (j := 2) hx hb hts hi_X11 hown hK hX (by decide) sh_X11_2 rfl (by decide) (hts (.fieldLink RX11 25 "SeenAgain" "house" "LSeenAgain$House;") (by decide +kernel)) (fun _ h9 => h9) dX11_price_1 ?_
  refine lv_iload_n hx hb dX11_price_4 rfl (lv_at hl 1 rfl) ?_
  refine wx_callr (va_runV (As := [.int a1]) (rest := []) ⟨hx, hb, hml, hown, hts⟩ (k_X3_isVisitor l g 20 a1 (show wx_H 20 from Or.inl rfl)) (cwV 1 hts gX11_price_X3_isVisitor rfl rfl rfl (by decide +kernel) (by rw [hR]; exact ⟨Nat.le_of_ble_eq_true rfl, Nat.le_of_ble_eq_true rfl⟩)) ⟨wx_Pc.blind, wx_recv hK hX (by decide) (sh_X3 (show wx_H 20 from Or.inl rfl)) rfl, (wx_Pc.pre hK hX).2⟩ rfl rfl hl.1 rfl (lv_room (Nat.le_of_ble_eq_true rfl)) dX11_price_5 ⟨Nat.zero_le _, Nat.zero_le _⟩) ?_
  refine lv_if_eq (tgt := 29) hx hb dX11_price_8 (by decide) (fun c_1 => ?_) (fun c_1 => ?_)
  · have b_2 : wx_b (r_X3_isVisitor g 20 a1) 0 0 := by rw [c_1]; exact ⟨by decide, by decide⟩
    refine lv_ldc hx hb hown (hts (.constant RX11 55 (-1000001)) (by decide +kernel)) dX11_price_29 ?_
    exact hret _ _ _ dX11_price_31 rfl (by simp only [r_X11_price, if_pos c_1])
  · have b_3 : wx_b a1 0 3 := rf_X3_isVisitor hg c_1
    refine lv_aload_n hx hb dX11_price_11 rfl (lv_at hl 0 rfl) ?_
    refine wx_getr (t := 20) (C := RX11) (T := TX11) (N := 8) (ci := 10) (j := 2) hx hb hts hi_X11 hown hK hX (by decide) sh_X11_2 rfl (by decide) (hts (.fieldLink RX11 25 "SeenAgain" "house" "LSeenAgain$House;") (by decide +kernel)) (fun _ h9 => h9) dX11_price_12 ?_
    refine lv_iload_n hx hb dX11_price_15 rfl (lv_at hl 2 rfl) ?_
    refine wx_callr (va_runV (As := [.int a2]) (rest := []) ⟨hx, hb, hml, hown, hts⟩ (k_X3_isRoom l g 20 a2 (show wx_H 20 from Or.inl rfl)) (cwV 1 hts gX11_price_X3_isRoom rfl rfl rfl (by decide +kernel) (by rw [hR]; exact ⟨Nat.le_of_ble_eq_true rfl, Nat.le_of_ble_eq_true rfl⟩)) ⟨wx_Pc.blind, wx_recv hK hX (by decide) (sh_X3 (show wx_H 20 from Or.inl rfl)) rfl, (wx_Pc.pre hK hX).2⟩ rfl rfl hl.1 rfl (lv_room (Nat.le_of_ble_eq_true rfl)) dX11_price_16 ⟨Nat.zero_le _, Nat.zero_le _⟩) ?_
    refine lv_if_eq (tgt := 29) hx hb dX11_price_19 (by decide) (fun c_4 => ?_) (fun c_4 => ?_)
    · have b_5 : wx_b (r_X3_isRoom g 20 a2) 0 0 := by rw [c_4]; exact ⟨by decide, by decide⟩
      refine lv_ldc hx hb hown (hts (.constant RX11 55 (-1000001)) (by decide +kernel)) dX11_price_29 ?_
      exact hret _ _ _ dX11_price_31 rfl (by simp only [r_X11_price, if_neg c_1, if_pos c_4])
    · have b_6 : wx_b a2 0 5 := rf_X3_isRoom hg c_4
      refine lv_iload_n hx hb dX11_price_22 rfl (lv_at hl 3 rfl) ?_
      refine wx_callr (va_runS (As := [.int a3]) (rest := []) ⟨hx, hb, hml, hown, hts⟩ (k_X11_isMinute l g a3) (va_cwS 1 hts gX11_price_X11_isMinute rfl rfl rfl (by decide +kernel) (by rw [hR]; exact ⟨Nat.le_of_ble_eq_true rfl, Nat.le_of_ble_eq_true rfl⟩)) (wx_Pc.pre hK hX) rfl rfl hl.1 rfl (lv_room (Nat.le_of_ble_eq_true rfl)) dX11_price_23 ⟨Nat.zero_le _, Nat.zero_le _⟩) ?_
      refine lv_if_ne (tgt := 32) hx hb dX11_price_26 (by decide) (fun c_7 => ?_) (fun c_7 => ?_)
      · have b_8 : wx_b a3 0 7 := rf_X11_isMinute  c_7
        refine lv_aload_n hx hb dX11_price_32 rfl (lv_at hl 0 rfl) ?_
        refine wx_getr (t := 20) (C := RX11) (T := TX11) (N := 8) (ci := 10) (j := 2) hx hb hts hi_X11 hown hK hX (by decide) sh_X11_2 rfl (by decide) (hts (.fieldLink RX11 25 "SeenAgain" "house" "LSeenAgain$House;") (by decide +kernel)) (fun _ h9 => h9) dX11_price_33 ?_
        refine lv_iload_n hx hb dX11_price_36 rfl (lv_at hl 1 rfl) ?_
        refine lv_iload_n hx hb dX11_price_37 rfl (lv_at hl 2 rfl) ?_
        refine lv_iload_n hx hb dX11_price_38 rfl (lv_at hl 3 rfl) ?_
        refine wx_callr (va_runV (As := [.int a1, .int a2, .int a3]) (rest := []) ⟨hx, hb, hml, hown, hts⟩ (k_X3_priceFor l g 20 a1 a2 a3 (show wx_H 20 from Or.inl rfl) b_3 b_6 b_8 hg) (cwV 3 hts gX11_price_X3_priceFor rfl rfl rfl (by decide +kernel) (by rw [hR]; exact ⟨Nat.le_of_ble_eq_true rfl, Nat.le_of_ble_eq_true rfl⟩)) ⟨wx_Pc.blind, wx_recv hK hX (by decide) (sh_X3 (show wx_H 20 from Or.inl rfl)) rfl, (wx_Pc.pre hK hX).2⟩ rfl rfl hl.1 rfl (lv_room (Nat.le_of_ble_eq_true rfl)) dX11_price_39 ⟨Nat.zero_le _, Nat.zero_le _⟩) ?_
        exact hret _ _ _ dX11_price_42 rfl (by simp only [r_X11_price, if_neg c_1, if_neg c_4, if_neg c_7])
      · have b_9 : wx_b (r_X11_isMinute a3) 0 0 := by rw [c_7]; exact ⟨by decide, by decide⟩
        refine lv_ldc hx hb hown (hts (.constant RX11 55 (-1000001)) (by decide +kernel)) dX11_price_29 ?_
        exact hret _ _ _ dX11_price_31 rfl (by simp only [r_X11_price, if_neg c_1, if_neg c_4, if_pos c_7])
def r_X11_looked (g : wx_M) (a1 : Int32) (a2 : Int32) : Int32 :=
  if (r_X3_stands g 20) = 0 then
    (-1000002)
  else
    if (r_X3_isVisitorSet g 20 a1) = 0 then
      (-1000001)
    else
      if (r_X11_isMinute a2) = 0 then
        (-1000001)
      else
        (r_X3_lookedBy g 20 a1 a2)
set_option maxHeartbeats 4000000 in
set_option maxRecDepth 100000 in
theorem k_X11_looked (l : Launch) {D : va_G} {cy : Nat → ClassId} {ad : Nat → Nat} {B0 : Nat} {f : wx_F} {P : va_W} (g : wx_M) (a1 : Int32) (a2 : Int32) (hg : wx_HB g 20) : Met l yX11_looked wsX11_looked ({ frames := 3, cells := 0, slots := 0, locals := 67 } : Room) (wx_Pc D cy ad B0 f P g [.ref (ad 0), .int a1, .int a2]) (QcRead (r_X11_looked g a1 a2)) 0 0 (fun _ => False) := by
  refine wx_enterR (cc := cX11_looked) (maxL := 3) (ty := .int) (own := RX11) (lv := [(0, .ref (ad 0)), (1, .int a1), (2, .int a2)]) (by decide) rfl rfl (Nat.le_of_ble_eq_true rfl) rfl ?_
  intro p e R s m args below meth c ls Qm hx hb hml hown hts hK hX hR hret hl
  have hi_X11 : ∀ w ∈ wsX110, w ∈ wsX11_looked := by decide +kernel
  refine lv_aload_n hx hb dX11_looked_0 rfl (lv_at hl 0 rfl) ?_
  refine wx_getr (t := 20) (C := RX11) (T := TX11) (N := 8) (ci := 10) (j := 2) hx hb hts hi_X11 hown hK hX (by decide) sh_X11_2 rfl (by decide) (hts (.fieldLink RX11 25 "SeenAgain" "house" "LSeenAgain$House;") (by decide +kernel)) (fun _ h9 => h9) dX11_looked_1 ?_
  refine wx_callr (va_runV (As := []) (rest := []) ⟨hx, hb, hml, hown, hts⟩ (k_X3_stands l g 20 (show wx_H 20 from Or.inl rfl)) (cwV 0 hts gX11_looked_X3_stands rfl rfl rfl (by decide +kernel) (by rw [hR]; exact ⟨Nat.le_of_ble_eq_true rfl, Nat.le_of_ble_eq_true rfl⟩)) ⟨wx_Pc.blind, wx_recv hK hX (by decide) (sh_X3 (show wx_H 20 from Or.inl rfl)) rfl, (wx_Pc.pre hK hX).2⟩ rfl rfl hl.1 rfl (lv_room (Nat.le_of_ble_eq_true rfl)) dX11_looked_4 ⟨Nat.zero_le _, Nat.zero_le _⟩) ?_
  refine lv_if_ne (tgt := 13) hx hb dX11_looked_7 (by decide) (fun c_1 => ?_) (fun c_1 => ?_)
  · refine lv_aload_n hx hb dX11_looked_13 rfl (lv_at hl 0 rfl) ?_
    refine wx_getr (t := 20) (C := RX11) (T := TX11) (N := 8) (ci := 10) (j := 2) hx hb hts hi_X11 hown hK hX (by decide) sh_X11_2 rfl (by decide) (hts (.fieldLink RX11 25 "SeenAgain" "house" "LSeenAgain$House;") (by decide +kernel)) (fun _ h9 => h9) dX11_looked_14 ?_
    refine lv_iload_n hx hb dX11_looked_17 rfl (lv_at hl 1 rfl) ?_
    refine wx_callr (va_runV (As := [.int a1]) (rest := []) ⟨hx, hb, hml, hown, hts⟩ (k_X3_isVisitorSet l g 20 a1 (show wx_H 20 from Or.inl rfl)) (cwV 1 hts gX11_looked_X3_isVisitorSet rfl rfl rfl (by decide +kernel) (by rw [hR]; exact ⟨Nat.le_of_ble_eq_true rfl, Nat.le_of_ble_eq_true rfl⟩)) ⟨wx_Pc.blind, wx_recv hK hX (by decide) (sh_X3 (show wx_H 20 from Or.inl rfl)) rfl, (wx_Pc.pre hK hX).2⟩ rfl rfl hl.1 rfl (lv_room (Nat.le_of_ble_eq_true rfl)) dX11_looked_18 ⟨Nat.zero_le _, Nat.zero_le _⟩) ?_
    refine lv_if_eq (tgt := 31) hx hb dX11_looked_21 (by decide) (fun c_2 => ?_) (fun c_2 => ?_)
    · have b_3 : wx_b (r_X3_isVisitorSet g 20 a1) 0 0 := by rw [c_2]; exact ⟨by decide, by decide⟩
      refine lv_ldc hx hb hown (hts (.constant RX11 55 (-1000001)) (by decide +kernel)) dX11_looked_31 ?_
      exact hret _ _ _ dX11_looked_33 rfl (by simp only [r_X11_looked, if_neg c_1, if_pos c_2])
    · refine lv_iload_n hx hb dX11_looked_24 rfl (lv_at hl 2 rfl) ?_
      refine wx_callr (va_runS (As := [.int a2]) (rest := []) ⟨hx, hb, hml, hown, hts⟩ (k_X11_isMinute l g a2) (va_cwS 1 hts gX11_looked_X11_isMinute rfl rfl rfl (by decide +kernel) (by rw [hR]; exact ⟨Nat.le_of_ble_eq_true rfl, Nat.le_of_ble_eq_true rfl⟩)) (wx_Pc.pre hK hX) rfl rfl hl.1 rfl (lv_room (Nat.le_of_ble_eq_true rfl)) dX11_looked_25 ⟨Nat.zero_le _, Nat.zero_le _⟩) ?_
      refine lv_if_ne (tgt := 34) hx hb dX11_looked_28 (by decide) (fun c_4 => ?_) (fun c_4 => ?_)
      · have b_5 : wx_b a2 0 7 := rf_X11_isMinute  c_4
        refine lv_aload_n hx hb dX11_looked_34 rfl (lv_at hl 0 rfl) ?_
        refine wx_getr (t := 20) (C := RX11) (T := TX11) (N := 8) (ci := 10) (j := 2) hx hb hts hi_X11 hown hK hX (by decide) sh_X11_2 rfl (by decide) (hts (.fieldLink RX11 25 "SeenAgain" "house" "LSeenAgain$House;") (by decide +kernel)) (fun _ h9 => h9) dX11_looked_35 ?_
        refine lv_iload_n hx hb dX11_looked_38 rfl (lv_at hl 1 rfl) ?_
        refine lv_iload_n hx hb dX11_looked_39 rfl (lv_at hl 2 rfl) ?_
        refine wx_callr (va_runV (As := [.int a1, .int a2]) (rest := []) ⟨hx, hb, hml, hown, hts⟩ (k_X3_lookedBy l g 20 a1 a2 (show wx_H 20 from Or.inl rfl) b_5 hg) (cwV 2 hts gX11_looked_X3_lookedBy rfl rfl rfl (by decide +kernel) (by rw [hR]; exact ⟨Nat.le_of_ble_eq_true rfl, Nat.le_of_ble_eq_true rfl⟩)) ⟨wx_Pc.blind, wx_recv hK hX (by decide) (sh_X3 (show wx_H 20 from Or.inl rfl)) rfl, (wx_Pc.pre hK hX).2⟩ rfl rfl hl.1 rfl (lv_room (Nat.le_of_ble_eq_true rfl)) dX11_looked_40 ⟨Nat.zero_le _, Nat.zero_le _⟩) ?_
        exact hret _ _ _ dX11_looked_43 rfl (by simp only [r_X11_looked, if_neg c_1, if_neg c_2, if_neg c_4])
      · have b_6 : wx_b (r_X11_isMinute a2) 0 0 := by rw [c_4]; exact ⟨by decide, by decide⟩
        refine lv_ldc hx hb hown (hts (.constant RX11 55 (-1000001)) (by decide +kernel)) dX11_looked_31 ?_
        exact hret _ _ _ dX11_looked_33 rfl (by simp only [r_X11_looked, if_neg c_1, if_neg c_2, if_pos c_4])
  · have b_7 : wx_b (r_X3_stands g 20) 0 0 := by rw [c_1]; exact ⟨by decide, by decide⟩
    refine lv_ldc hx hb hown (hts (.constant RX11 126 (-1000002)) (by decide +kernel)) dX11_looked_10 ?_
    exact hret _ _ _ dX11_looked_12 rfl (by simp only [r_X11_looked, if_pos c_1])
def r_X11_seen (g : wx_M) (a1 : Int32) (a2 : Int32) (a3 : Int32) : Int32 :=
  if (r_X3_isVisitorSet g 20 a1) = 0 then
    (-1000001)
  else
    if (r_X3_isPerson g 20 a2) = 0 then
      (-1000001)
    else
      if (r_X11_isMinute a3) = 0 then
        (-1000001)
      else
        (r_X3_seenBy g 20 a1 a2 a3)
set_option maxHeartbeats 4000000 in
set_option maxRecDepth 100000 in
theorem k_X11_seen (l : Launch) {D : va_G} {cy : Nat → ClassId} {ad : Nat → Nat} {B0 : Nat} {f : wx_F} {P : va_W} (g : wx_M) (a1 : Int32) (a2 : Int32) (a3 : Int32) (hg : wx_HB g 20) : Met l yX11_seen wsX11_seen ({ frames := 4, cells := 0, slots := 0, locals := 91 } : Room) (wx_Pc D cy ad B0 f P g [.ref (ad 0), .int a1, .int a2, .int a3]) (QcRead (r_X11_seen g a1 a2 a3)) 0 0 (fun _ => False) := by
  refine wx_enterR (cc := cX11_seen) (maxL := 4) (ty := .int) (own := RX11) (lv := [(0, .ref (ad 0)), (1, .int a1), (2, .int a2), (3, .int a3)]) (by decide) rfl rfl (Nat.le_of_ble_eq_true rfl) rfl ?_
  intro p e R s m args below meth c ls Qm hx hb hml hown hts hK hX hR hret hl
  have hi_X11 : ∀ w ∈ wsX110, w ∈ wsX11_seen := by decide +kernel
  refine lv_aload_n hx hb dX11_seen_0 rfl (lv_at hl 0 rfl) ?_
  refine wx_getr (t := 20) (C := RX11) (T := TX11) (N := 8) (ci := 10) (j := 2) hx hb hts hi_X11 hown hK hX (by decide) sh_X11_2 rfl (by decide) (hts (.fieldLink RX11 25 "SeenAgain" "house" "LSeenAgain$House;") (by decide +kernel)) (fun _ h9 => h9) dX11_seen_1 ?_
  refine lv_iload_n hx hb dX11_seen_4 rfl (lv_at hl 1 rfl) ?_
  refine wx_callr (va_runV (As := [.int a1]) (rest := []) ⟨hx, hb, hml, hown, hts⟩ (k_X3_isVisitorSet l g 20 a1 (show wx_H 20 from Or.inl rfl)) (cwV 1 hts gX11_seen_X3_isVisitorSet rfl rfl rfl (by decide +kernel) (by rw [hR]; exact ⟨Nat.le_of_ble_eq_true rfl, Nat.le_of_ble_eq_true rfl⟩)) ⟨wx_Pc.blind, wx_recv hK hX (by decide) (sh_X3 (show wx_H 20 from Or.inl rfl)) rfl, (wx_Pc.pre hK hX).2⟩ rfl rfl hl.1 rfl (lv_room (Nat.le_of_ble_eq_true rfl)) dX11_seen_5 ⟨Nat.zero_le _, Nat.zero_le _⟩) ?_
  refine lv_if_eq (tgt := 29) hx hb dX11_seen_8 (by decide) (fun c_1 => ?_) (fun c_1 => ?_)
  · have b_2 : wx_b (r_X3_isVisitorSet g 20 a1) 0 0 := by rw [c_1]; exact ⟨by decide, by decide⟩
    refine lv_ldc hx hb hown (hts (.constant RX11 55 (-1000001)) (by decide +kernel)) dX11_seen_29 ?_
    exact hret _ _ _ dX11_seen_31 rfl (by simp only [r_X11_seen, if_pos c_1])
  · refine lv_aload_n hx hb dX11_seen_11 rfl (lv_at hl 0 rfl) ?_
    refine wx_getr (t := 20) (C := RX11) (T := TX11) (N := 8) (ci := 10) (j := 2) hx hb hts hi_X11 hown hK hX (by decide) sh_X11_2 rfl (by decide) (hts (.fieldLink RX11 25 "SeenAgain" "house" "LSeenAgain$House;") (by decide +kernel)) (fun _ h9 => h9) dX11_seen_12 ?_
    refine lv_iload_n hx hb dX11_seen_15 rfl (lv_at hl 2 rfl) ?_
    refine wx_callr (va_runV (As := [.int a2]) (rest := []) ⟨hx, hb, hml, hown, hts⟩ (k_X3_isPerson l g 20 a2 (show wx_H 20 from Or.inl rfl)) (cwV 1 hts gX11_seen_X3_isPerson rfl rfl rfl (by decide +kernel) (by rw [hR]; exact ⟨Nat.le_of_ble_eq_true rfl, Nat.le_of_ble_eq_true rfl⟩)) ⟨wx_Pc.blind, wx_recv hK hX (by decide) (sh_X3 (show wx_H 20 from Or.inl rfl)) rfl, (wx_Pc.pre hK hX).2⟩ rfl rfl hl.1 rfl (lv_room (Nat.le_of_ble_eq_true rfl)) dX11_seen_16 ⟨Nat.zero_le _, Nat.zero_le _⟩) ?_
    refine lv_if_eq (tgt := 29) hx hb dX11_seen_19 (by decide) (fun c_3 => ?_) (fun c_3 => ?_)
    · have b_4 : wx_b (r_X3_isPerson g 20 a2) 0 0 := by rw [c_3]; exact ⟨by decide, by decide⟩
      refine lv_ldc hx hb hown (hts (.constant RX11 55 (-1000001)) (by decide +kernel)) dX11_seen_29 ?_
      exact hret _ _ _ dX11_seen_31 rfl (by simp only [r_X11_seen, if_neg c_1, if_pos c_3])
    · have b_5 : wx_b a2 0 3 := rf_X3_isPerson hg c_3
      refine lv_iload_n hx hb dX11_seen_22 rfl (lv_at hl 3 rfl) ?_
      refine wx_callr (va_runS (As := [.int a3]) (rest := []) ⟨hx, hb, hml, hown, hts⟩ (k_X11_isMinute l g a3) (va_cwS 1 hts gX11_seen_X11_isMinute rfl rfl rfl (by decide +kernel) (by rw [hR]; exact ⟨Nat.le_of_ble_eq_true rfl, Nat.le_of_ble_eq_true rfl⟩)) (wx_Pc.pre hK hX) rfl rfl hl.1 rfl (lv_room (Nat.le_of_ble_eq_true rfl)) dX11_seen_23 ⟨Nat.zero_le _, Nat.zero_le _⟩) ?_
      refine lv_if_ne (tgt := 32) hx hb dX11_seen_26 (by decide) (fun c_6 => ?_) (fun c_6 => ?_)
      · have b_7 : wx_b a3 0 7 := rf_X11_isMinute  c_6
        refine lv_aload_n hx hb dX11_seen_32 rfl (lv_at hl 0 rfl) ?_
        refine wx_getr (t := 20) (C := RX11) (T := TX11) (N := 8) (ci := 10) (j := 2) hx hb hts hi_X11 hown hK hX (by decide) sh_X11_2 rfl (by decide) (hts (.fieldLink RX11 25 "SeenAgain" "house" "LSeenAgain$House;") (by decide +kernel)) (fun _ h9 => h9) dX11_seen_33 ?_
        refine lv_iload_n hx hb dX11_seen_36 rfl (lv_at hl 1 rfl) ?_
        refine lv_iload_n hx hb dX11_seen_37 rfl (lv_at hl 2 rfl) ?_
        refine lv_iload_n hx hb dX11_seen_38 rfl (lv_at hl 3 rfl) ?_
        refine wx_callr (va_runV (As := [.int a1, .int a2, .int a3]) (rest := []) ⟨hx, hb, hml, hown, hts⟩ (k_X3_seenBy l g 20 a1 a2 a3 (show wx_H 20 from Or.inl rfl) b_5 b_7 hg) (cwV 3 hts gX11_seen_X3_seenBy rfl rfl rfl (by decide +kernel) (by rw [hR]; exact ⟨Nat.le_of_ble_eq_true rfl, Nat.le_of_ble_eq_true rfl⟩)) ⟨wx_Pc.blind, wx_recv hK hX (by decide) (sh_X3 (show wx_H 20 from Or.inl rfl)) rfl, (wx_Pc.pre hK hX).2⟩ rfl rfl hl.1 rfl (lv_room (Nat.le_of_ble_eq_true rfl)) dX11_seen_39 ⟨Nat.zero_le _, Nat.zero_le _⟩) ?_
        exact hret _ _ _ dX11_seen_42 rfl (by simp only [r_X11_seen, if_neg c_1, if_neg c_3, if_neg c_6])
      · have b_8 : wx_b (r_X11_isMinute a3) 0 0 := by rw [c_6]; exact ⟨by decide, by decide⟩
        refine lv_ldc hx hb hown (hts (.constant RX11 55 (-1000001)) (by decide +kernel)) dX11_seen_29 ?_
        exact hret _ _ _ dX11_seen_31 rfl (by simp only [r_X11_seen, if_neg c_1, if_neg c_3, if_pos c_6])
def r_X11_known (g : wx_M) (a1 : Int32) (a2 : Int32) : Int32 :=
  if (r_X3_isVisitorSet g 20 a1) = 0 then
    (-1000001)
  else
    if (r_X3_isPerson g 20 a2) = 0 then
      (-1000001)
    else
      (r_X3_minutesSeen g 20 a1 a2)
set_option maxHeartbeats 4000000 in
set_option maxRecDepth 100000 in
theorem k_X11_known (l : Launch) {D : va_G} {cy : Nat → ClassId} {ad : Nat → Nat} {B0 : Nat} {f : wx_F} {P : va_W} (g : wx_M) (a1 : Int32) (a2 : Int32) (hg : wx_HB g 20) : Met l yX11_known wsX11_known ({ frames := 5, cells := 0, slots := 0, locals := 115 } : Room) (wx_Pc D cy ad B0 f P g [.ref (ad 0), .int a1, .int a2]) (QcRead (r_X11_known g a1 a2)) 0 0 (fun _ => False) := by
  refine wx_enterR (cc := cX11_known) (maxL := 3) (ty := .int) (own := RX11) (lv := [(0, .ref (ad 0)), (1, .int a1), (2, .int a2)]) (by decide) rfl rfl (Nat.le_of_ble_eq_true rfl) rfl ?_
  intro p e R s m args below meth c ls Qm hx hb hml hown hts hK hX hR hret hl
  have hi_X11 : ∀ w ∈ wsX110, w ∈ wsX11_known := by decide +kernel
  refine lv_aload_n hx hb dX11_known_0 rfl (lv_at hl 0 rfl) ?_
  refine wx_getr (t := 20) (C := RX11) (T := TX11) (N := 8) (ci := 10) (j := 2) hx hb hts hi_X11 hown hK hX (by decide) sh_X11_2 rfl (by decide) (hts (.fieldLink RX11 25 "SeenAgain" "house" "LSeenAgain$House;") (by decide +kernel)) (fun _ h9 => h9) dX11_known_1 ?_
  refine lv_iload_n hx hb dX11_known_4 rfl (lv_at hl 1 rfl) ?_
  refine wx_callr (va_runV (As := [.int a1]) (rest := []) ⟨hx, hb, hml, hown, hts⟩ (k_X3_isVisitorSet l g 20 a1 (show wx_H 20 from Or.inl rfl)) (cwV 1 hts gX11_known_X3_isVisitorSet rfl rfl rfl (by decide +kernel) (by rw [hR]; exact ⟨Nat.le_of_ble_eq_true rfl, Nat.le_of_ble_eq_true rfl⟩)) ⟨wx_Pc.blind, wx_recv hK hX (by decide) (sh_X3 (show wx_H 20 from Or.inl rfl)) rfl, (wx_Pc.pre hK hX).2⟩ rfl rfl hl.1 rfl (lv_room (Nat.le_of_ble_eq_true rfl)) dX11_known_5 ⟨Nat.zero_le _, Nat.zero_le _⟩) ?_
  refine lv_if_eq (tgt := 22) hx hb dX11_known_8 (by decide) (fun c_1 => ?_) (fun c_1 => ?_)
  · have b_2 : wx_b (r_X3_isVisitorSet g 20 a1) 0 0 := by rw [c_1]; exact ⟨by decide, by decide⟩
    refine lv_ldc hx hb hown (hts (.constant RX11 55 (-1000001)) (by decide +kernel)) dX11_known_22 ?_
    exact hret _ _ _ dX11_known_24 rfl (by simp only [r_X11_known, if_pos c_1])
  · refine lv_aload_n hx hb dX11_known_11 rfl (lv_at hl 0 rfl) ?_
    refine wx_getr (t := 20) (C := RX11) (T := TX11) (N := 8) (ci := 10) (j := 2) hx hb hts hi_X11 hown hK hX (by decide) sh_X11_2 rfl (by decide) (hts (.fieldLink RX11 25 "SeenAgain" "house" "LSeenAgain$House;") (by decide +kernel)) (fun _ h9 => h9) dX11_known_12 ?_
    refine lv_iload_n hx hb dX11_known_15 rfl (lv_at hl 2 rfl) ?_
    refine wx_callr (va_runV (As := [.int a2]) (rest := []) ⟨hx, hb, hml, hown, hts⟩ (k_X3_isPerson l g 20 a2 (show wx_H 20 from Or.inl rfl)) (cwV 1 hts gX11_known_X3_isPerson rfl rfl rfl (by decide +kernel) (by rw [hR]; exact ⟨Nat.le_of_ble_eq_true rfl, Nat.le_of_ble_eq_true rfl⟩)) ⟨wx_Pc.blind, wx_recv hK hX (by decide) (sh_X3 (show wx_H 20 from Or.inl rfl)) rfl, (wx_Pc.pre hK hX).2⟩ rfl rfl hl.1 rfl (lv_room (Nat.le_of_ble_eq_true rfl)) dX11_known_16 ⟨Nat.zero_le _, Nat.zero_le _⟩) ?_
    refine lv_if_ne (tgt := 25) hx hb dX11_known_19 (by decide) (fun c_3 => ?_) (fun c_3 => ?_)
    · have b_4 : wx_b a2 0 3 := rf_X3_isPerson hg c_3
      refine lv_aload_n hx hb dX11_known_25 rfl (lv_at hl 0 rfl) ?_
      refine wx_getr (t := 20) (C := RX11) (T := TX11) (N := 8) (ci := 10) (j := 2) hx hb hts hi_X11 hown hK hX (by decide) sh_X11_2 rfl (by decide) (hts (.fieldLink RX11 25 "SeenAgain" "house" "LSeenAgain$House;") (by decide +kernel)) (fun _ h9 => h9) dX11_known_26 ?_
      refine lv_iload_n hx hb dX11_known_29 rfl (lv_at hl 1 rfl) ?_
      refine lv_iload_n hx hb dX11_known_30 rfl (lv_at hl 2 rfl) ?_
      refine wx_callr (va_runV (As := [.int a1, .int a2]) (rest := []) ⟨hx, hb, hml, hown, hts⟩ (k_X3_minutesSeen l g 20 a1 a2 (show wx_H 20 from Or.inl rfl) b_4 hg) (cwV 2 hts gX11_known_X3_minutesSeen rfl rfl rfl (by decide +kernel) (by rw [hR]; exact ⟨Nat.le_of_ble_eq_true rfl, Nat.le_of_ble_eq_true rfl⟩)) ⟨wx_Pc.blind, wx_recv hK hX (by decide) (sh_X3 (show wx_H 20 from Or.inl rfl)) rfl, (wx_Pc.pre hK hX).2⟩ rfl rfl hl.1 rfl (lv_room (Nat.le_of_ble_eq_true rfl)) dX11_known_31 ⟨Nat.zero_le _, Nat.zero_le _⟩) ?_
      exact hret _ _ _ dX11_known_34 rfl (by simp only [r_X11_known, if_neg c_1, if_neg c_3])
    · have b_5 : wx_b (r_X3_isPerson g 20 a2) 0 0 := by rw [c_3]; exact ⟨by decide, by decide⟩
      refine lv_ldc hx hb hown (hts (.constant RX11 55 (-1000001)) (by decide +kernel)) dX11_known_22 ?_
      exact hret _ _ _ dX11_known_24 rfl (by simp only [r_X11_known, if_neg c_1, if_pos c_3])
def r_X11_canBe (g : wx_M) (a1 : Int32) (a2 : Int32) (a3 : Int32) (a4 : Int32) : Int32 :=
  if (r_X3_isVisitorSet g 20 a1) = 0 then
    (-1000001)
  else
    if (r_X3_isPerson g 20 a2) = 0 then
      (-1000001)
    else
      if (r_X3_isRoom g 20 a3) = 0 then
        (-1000001)
      else
        if (r_X11_isMinute a4) = 0 then
          (-1000001)
        else
          if (r_X3_canBeIn g 20 a1 a2 a3 a4) = 0 then
            0
          else
            1
set_option maxHeartbeats 4000000 in
set_option maxRecDepth 100000 in
theorem k_X11_canBe (l : Launch) {D : va_G} {cy : Nat → ClassId} {ad : Nat → Nat} {B0 : Nat} {f : wx_F} {P : va_W} (g : wx_M) (a1 : Int32) (a2 : Int32) (a3 : Int32) (a4 : Int32) (hg : wx_HB g 20) : Met l yX11_canBe wsX11_canBe ({ frames := 4, cells := 0, slots := 0, locals := 93 } : Room) (wx_Pc D cy ad B0 f P g [.ref (ad 0), .int a1, .int a2, .int a3, .int a4]) (QcRead (r_X11_canBe g a1 a2 a3 a4)) 0 0 (fun _ => False) := by
  refine wx_enterR (cc := cX11_canBe) (maxL := 5) (ty := .int) (own := RX11) (lv := [(0, .ref (ad 0)), (1, .int a1), (2, .int a2), (3, .int a3), (4, .int a4)]) (by decide) rfl rfl (Nat.le_of_ble_eq_true rfl) rfl ?_
  intro p e R s m args below meth c ls Qm hx hb hml hown hts hK hX hR hret hl
  have hi_X11 : ∀ w ∈ wsX110, w ∈ wsX11_canBe := by decide +kernel
  refine lv_aload_n hx hb dX11_canBe_0 rfl (lv_at hl 0 rfl) ?_
  refine wx_getr (t := 20) (C := RX11) (T := TX11) (N := 8) (ci := 10) (j := 2) hx hb hts hi_X11 hown hK hX (by decide) sh_X11_2 rfl (by decide) (hts (.fieldLink RX11 25 "SeenAgain" "house" "LSeenAgain$House;") (by decide +kernel)) (fun _ h9 => h9) dX11_canBe_1 ?_
  refine lv_iload_n hx hb dX11_canBe_4 rfl (lv_at hl 1 rfl) ?_
  refine wx_callr (va_runV (As := [.int a1]) (rest := []) ⟨hx, hb, hml, hown, hts⟩ (k_X3_isVisitorSet l g 20 a1 (show wx_H 20 from Or.inl rfl)) (cwV 1 hts gX11_canBe_X3_isVisitorSet rfl rfl rfl (by decide +kernel) (by rw [hR]; exact ⟨Nat.le_of_ble_eq_true rfl, Nat.le_of_ble_eq_true rfl⟩)) ⟨wx_Pc.blind, wx_recv hK hX (by decide) (sh_X3 (show wx_H 20 from Or.inl rfl)) rfl, (wx_Pc.pre hK hX).2⟩ rfl rfl hl.1 rfl (lv_room (Nat.le_of_ble_eq_true rfl)) dX11_canBe_5 ⟨Nat.zero_le _, Nat.zero_le _⟩) ?_
  refine lv_if_eq (tgt := 22) hx hb dX11_canBe_8 (by decide) (fun c_1 => ?_) (fun c_1 => ?_)
  · have b_2 : wx_b (r_X3_isVisitorSet g 20 a1) 0 0 := by rw [c_1]; exact ⟨by decide, by decide⟩
    refine lv_ldc hx hb hown (hts (.constant RX11 55 (-1000001)) (by decide +kernel)) dX11_canBe_22 ?_
    exact hret _ _ _ dX11_canBe_24 rfl (by simp only [r_X11_canBe, if_pos c_1])
  · refine lv_aload_n hx hb dX11_canBe_11 rfl (lv_at hl 0 rfl) ?_
    refine wx_getr (t := 20) (C := RX11) (T := TX11) (N := 8) (ci := 10) (j := 2) hx hb hts hi_X11 hown hK hX (by decide) sh_X11_2 rfl (by decide) (hts (.fieldLink RX11 25 "SeenAgain" "house" "LSeenAgain$House;") (by decide +kernel)) (fun _ h9 => h9) dX11_canBe_12 ?_
    refine lv_iload_n hx hb dX11_canBe_15 rfl (lv_at hl 2 rfl) ?_
    refine wx_callr (va_runV (As := [.int a2]) (rest := []) ⟨hx, hb, hml, hown, hts⟩ (k_X3_isPerson l g 20 a2 (show wx_H 20 from Or.inl rfl)) (cwV 1 hts gX11_canBe_X3_isPerson rfl rfl rfl (by decide +kernel) (by rw [hR]; exact ⟨Nat.le_of_ble_eq_true rfl, Nat.le_of_ble_eq_true rfl⟩)) ⟨wx_Pc.blind, wx_recv hK hX (by decide) (sh_X3 (show wx_H 20 from Or.inl rfl)) rfl, (wx_Pc.pre hK hX).2⟩ rfl rfl hl.1 rfl (lv_room (Nat.le_of_ble_eq_true rfl)) dX11_canBe_16 ⟨Nat.zero_le _, Nat.zero_le _⟩) ?_
    refine lv_if_ne (tgt := 25) hx hb dX11_canBe_19 (by decide) (fun c_3 => ?_) (fun c_3 => ?_)
    · have b_4 : wx_b a2 0 3 := rf_X3_isPerson hg c_3
      refine lv_aload_n hx hb dX11_canBe_25 rfl (lv_at hl 0 rfl) ?_
      refine wx_getr (t := 20) (C := RX11) (T := TX11) (N := 8) (ci := 10) (j := 2) hx hb hts hi_X11 hown hK hX (by decide) sh_X11_2 rfl (by decide) (hts (.fieldLink RX11 25 "SeenAgain" "house" "LSeenAgain$House;") (by decide +kernel)) (fun _ h9 => h9) dX11_canBe_26 ?_
      refine lv_iload_n hx hb dX11_canBe_29 rfl (lv_at hl 3 rfl) ?_
      refine wx_callr (va_runV (As := [.int a3]) (rest := []) ⟨hx, hb, hml, hown, hts⟩ (k_X3_isRoom l g 20 a3 (show wx_H 20 from Or.inl rfl)) (cwV 1 hts gX11_canBe_X3_isRoom rfl rfl rfl (by decide +kernel) (by rw [hR]; exact ⟨Nat.le_of_ble_eq_true rfl, Nat.le_of_ble_eq_true rfl⟩)) ⟨wx_Pc.blind, wx_recv hK hX (by decide) (sh_X3 (show wx_H 20 from Or.inl rfl)) rfl, (wx_Pc.pre hK hX).2⟩ rfl rfl hl.1 rfl (lv_room (Nat.le_of_ble_eq_true rfl)) dX11_canBe_30 ⟨Nat.zero_le _, Nat.zero_le _⟩) ?_
      refine lv_if_eq (tgt := 44) hx hb dX11_canBe_33 (by decide) (fun c_5 => ?_) (fun c_5 => ?_)
      · have b_6 : wx_b (r_X3_isRoom g 20 a3) 0 0 := by rw [c_5]; exact ⟨by decide, by decide⟩
        refine lv_ldc hx hb hown (hts (.constant RX11 55 (-1000001)) (by decide +kernel)) dX11_canBe_44 ?_
        exact hret _ _ _ dX11_canBe_46 rfl (by simp only [r_X11_canBe, if_neg c_1, if_neg c_3, if_pos c_5])
      · have b_7 : wx_b a3 0 5 := rf_X3_isRoom hg c_5
        refine lv_iload hx hb dX11_canBe_36 (lv_at hl 4 rfl) ?_
        refine wx_callr (va_runS (As := [.int a4]) (rest := []) ⟨hx, hb, hml, hown, hts⟩ (k_X11_isMinute l g a4) (va_cwS 1 hts gX11_canBe_X11_isMinute rfl rfl rfl (by decide +kernel) (by rw [hR]; exact ⟨Nat.le_of_ble_eq_true rfl, Nat.le_of_ble_eq_true rfl⟩)) (wx_Pc.pre hK hX) rfl rfl hl.1 rfl (lv_room (Nat.le_of_ble_eq_true rfl)) dX11_canBe_38 ⟨Nat.zero_le _, Nat.zero_le _⟩) ?_
        refine lv_if_ne (tgt := 47) hx hb dX11_canBe_41 (by decide) (fun c_8 => ?_) (fun c_8 => ?_)
        · have b_9 : wx_b a4 0 7 := rf_X11_isMinute  c_8
          refine lv_aload_n hx hb dX11_canBe_47 rfl (lv_at hl 0 rfl) ?_
          refine wx_getr (t := 20) (C := RX11) (T := TX11) (N := 8) (ci := 10) (j := 2) hx hb hts hi_X11 hown hK hX (by decide) sh_X11_2 rfl (by decide) (hts (.fieldLink RX11 25 "SeenAgain" "house" "LSeenAgain$House;") (by decide +kernel)) (fun _ h9 => h9) dX11_canBe_48 ?_
          refine lv_iload_n hx hb dX11_canBe_51 rfl (lv_at hl 1 rfl) ?_
          refine lv_iload_n hx hb dX11_canBe_52 rfl (lv_at hl 2 rfl) ?_
          refine lv_iload_n hx hb dX11_canBe_53 rfl (lv_at hl 3 rfl) ?_
          refine lv_iload hx hb dX11_canBe_54 (lv_at hl 4 rfl) ?_
          refine wx_callr (va_runV (As := [.int a1, .int a2, .int a3, .int a4]) (rest := []) ⟨hx, hb, hml, hown, hts⟩ (k_X3_canBeIn l g 20 a1 a2 a3 a4 (show wx_H 20 from Or.inl rfl) b_4 b_9 hg) (cwV 4 hts gX11_canBe_X3_canBeIn rfl rfl rfl (by decide +kernel) (by rw [hR]; exact ⟨Nat.le_of_ble_eq_true rfl, Nat.le_of_ble_eq_true rfl⟩)) ⟨wx_Pc.blind, wx_recv hK hX (by decide) (sh_X3 (show wx_H 20 from Or.inl rfl)) rfl, (wx_Pc.pre hK hX).2⟩ rfl rfl hl.1 rfl (lv_room (Nat.le_of_ble_eq_true rfl)) dX11_canBe_56 ⟨Nat.zero_le _, Nat.zero_le _⟩) ?_
          refine lv_if_eq (tgt := 66) hx hb dX11_canBe_59 (by decide) (fun c_10 => ?_) (fun c_10 => ?_)
          · have b_11 : wx_b (r_X3_canBeIn g 20 a1 a2 a3 a4) 0 0 := by rw [c_10]; exact ⟨by decide, by decide⟩
            refine lv_iconst (v := 0) hx hb dX11_canBe_66 (by decide) ?_
            exact hret _ _ _ dX11_canBe_67 rfl (by simp only [r_X11_canBe, if_neg c_1, if_neg c_3, if_neg c_5, if_neg c_8, if_pos c_10])
          · refine lv_iconst (v := 1) hx hb dX11_canBe_62 (by decide) ?_
            refine lv_goto (tgt := 67) hx hb dX11_canBe_63 (by decide) ?_
            exact hret _ _ _ dX11_canBe_67 rfl (by simp only [r_X11_canBe, if_neg c_1, if_neg c_3, if_neg c_5, if_neg c_8, if_neg c_10])
        · have b_12 : wx_b (r_X11_isMinute a4) 0 0 := by rw [c_8]; exact ⟨by decide, by decide⟩
          refine lv_ldc hx hb hown (hts (.constant RX11 55 (-1000001)) (by decide +kernel)) dX11_canBe_44 ?_
          exact hret _ _ _ dX11_canBe_46 rfl (by simp only [r_X11_canBe, if_neg c_1, if_neg c_3, if_neg c_5, if_pos c_8])
    · have b_13 : wx_b (r_X3_isPerson g 20 a2) 0 0 := by rw [c_3]; exact ⟨by decide, by decide⟩
      refine lv_ldc hx hb hown (hts (.constant RX11 55 (-1000001)) (by decide +kernel)) dX11_canBe_22 ?_
      exact hret _ _ _ dX11_canBe_24 rfl (by simp only [r_X11_canBe, if_neg c_1, if_pos c_3])
def r_X11_suspects (g : wx_M) (a1 : Int32) (a2 : Int32) (a3 : Int32) : Int32 :=
  if (r_X3_stands g 20) = 0 then
    (-1000002)
  else
    if (r_X3_isVisitorSet g 20 a1) = 0 then
      (-1000001)
    else
      if (r_X3_isRoom g 20 a2) = 0 then
        (-1000001)
      else
        if (r_X11_isMinuteSet a3) = 0 then
          (-1000001)
        else
          (r_X3_suspectsBy g 20 a1 a2 a3)
set_option maxHeartbeats 4000000 in
set_option maxRecDepth 100000 in
theorem k_X11_suspects (l : Launch) {D : va_G} {cy : Nat → ClassId} {ad : Nat → Nat} {B0 : Nat} {f : wx_F} {P : va_W} (g : wx_M) (a1 : Int32) (a2 : Int32) (a3 : Int32) (hg : wx_HB g 20) : Met l yX11_suspects wsX11_suspects ({ frames := 5, cells := 0, slots := 0, locals := 119 } : Room) (wx_Pc D cy ad B0 f P g [.ref (ad 0), .int a1, .int a2, .int a3]) (QcRead (r_X11_suspects g a1 a2 a3)) 0 0 (fun _ => False) := by
  refine wx_enterR (cc := cX11_suspects) (maxL := 4) (ty := .int) (own := RX11) (lv := [(0, .ref (ad 0)), (1, .int a1), (2, .int a2), (3, .int a3)]) (by decide) rfl rfl (Nat.le_of_ble_eq_true rfl) rfl ?_
  intro p e R s m args below meth c ls Qm hx hb hml hown hts hK hX hR hret hl
  have hi_X11 : ∀ w ∈ wsX110, w ∈ wsX11_suspects := by decide +kernel
  refine lv_aload_n hx hb dX11_suspects_0 rfl (lv_at hl 0 rfl) ?_
  refine wx_getr (t := 20) (C := RX11) (T := TX11) (N := 8) (ci := 10) (j := 2) hx hb hts hi_X11 hown hK hX (by decide) sh_X11_2 rfl (by decide) (hts (.fieldLink RX11 25 "SeenAgain" "house" "LSeenAgain$House;") (by decide +kernel)) (fun _ h9 => h9) dX11_suspects_1 ?_
  refine wx_callr (va_runV (As := []) (rest := []) ⟨hx, hb, hml, hown, hts⟩ (k_X3_stands l g 20 (show wx_H 20 from Or.inl rfl)) (cwV 0 hts gX11_suspects_X3_stands rfl rfl rfl (by decide +kernel) (by rw [hR]; exact ⟨Nat.le_of_ble_eq_true rfl, Nat.le_of_ble_eq_true rfl⟩)) ⟨wx_Pc.blind, wx_recv hK hX (by decide) (sh_X3 (show wx_H 20 from Or.inl rfl)) rfl, (wx_Pc.pre hK hX).2⟩ rfl rfl hl.1 rfl (lv_room (Nat.le_of_ble_eq_true rfl)) dX11_suspects_4 ⟨Nat.zero_le _, Nat.zero_le _⟩) ?_
  refine lv_if_ne (tgt := 13) hx hb dX11_suspects_7 (by decide) (fun c_1 => ?_) (fun c_1 => ?_)
  · refine lv_aload_n hx hb dX11_suspects_13 rfl (lv_at hl 0 rfl) ?_
    refine wx_getr (t := 20) (C := RX11) (T := TX11) (N := 8) (ci := 10) (j := 2) hx hb hts hi_X11 hown hK hX (by decide) sh_X11_2 rfl (by decide) (hts (.fieldLink RX11 25 "SeenAgain" "house" "LSeenAgain$House;") (by decide +kernel)) (fun _ h9 => h9) dX11_suspects_14 ?_
    refine lv_iload_n hx hb dX11_suspects_17 rfl (lv_at hl 1 rfl) ?_
    refine wx_callr (va_runV (As := [.int a1]) (rest := []) ⟨hx, hb, hml, hown, hts⟩ (k_X3_isVisitorSet l g 20 a1 (show wx_H 20 from Or.inl rfl)) (cwV 1 hts gX11_suspects_X3_isVisitorSet rfl rfl rfl (by decide +kernel) (by rw [hR]; exact ⟨Nat.le_of_ble_eq_true rfl, Nat.le_of_ble_eq_true rfl⟩)) ⟨wx_Pc.blind, wx_recv hK hX (by decide) (sh_X3 (show wx_H 20 from Or.inl rfl)) rfl, (wx_Pc.pre hK hX).2⟩ rfl rfl hl.1 rfl (lv_room (Nat.le_of_ble_eq_true rfl)) dX11_suspects_18 ⟨Nat.zero_le _, Nat.zero_le _⟩) ?_
    refine lv_if_eq (tgt := 42) hx hb dX11_suspects_21 (by decide) (fun c_2 => ?_) (fun c_2 => ?_)
    · have b_3 : wx_b (r_X3_isVisitorSet g 20 a1) 0 0 := by rw [c_2]; exact ⟨by decide, by decide⟩
      refine lv_ldc hx hb hown (hts (.constant RX11 55 (-1000001)) (by decide +kernel)) dX11_suspects_42 ?_
      exact hret _ _ _ dX11_suspects_44 rfl (by simp only [r_X11_suspects, if_neg c_1, if_pos c_2])
    · refine lv_aload_n hx hb dX11_suspects_24 rfl (lv_at hl 0 rfl) ?_
      refine wx_getr (t := 20) (C := RX11) (T := TX11) (N := 8) (ci := 10) (j := 2) hx hb hts hi_X11 hown hK hX (by decide) sh_X11_2 rfl (by decide) (hts (.fieldLink RX11 25 "SeenAgain" "house" "LSeenAgain$House;") (by decide +kernel)) (fun _ h9 => h9) dX11_suspects_25 ?_
      refine lv_iload_n hx hb dX11_suspects_28 rfl (lv_at hl 2 rfl) ?_
      refine wx_callr (va_runV (As := [.int a2]) (rest := []) ⟨hx, hb, hml, hown, hts⟩ (k_X3_isRoom l g 20 a2 (show wx_H 20 from Or.inl rfl)) (cwV 1 hts gX11_suspects_X3_isRoom rfl rfl rfl (by decide +kernel) (by rw [hR]; exact ⟨Nat.le_of_ble_eq_true rfl, Nat.le_of_ble_eq_true rfl⟩)) ⟨wx_Pc.blind, wx_recv hK hX (by decide) (sh_X3 (show wx_H 20 from Or.inl rfl)) rfl, (wx_Pc.pre hK hX).2⟩ rfl rfl hl.1 rfl (lv_room (Nat.le_of_ble_eq_true rfl)) dX11_suspects_29 ⟨Nat.zero_le _, Nat.zero_le _⟩) ?_
      refine lv_if_eq (tgt := 42) hx hb dX11_suspects_32 (by decide) (fun c_4 => ?_) (fun c_4 => ?_)
      · have b_5 : wx_b (r_X3_isRoom g 20 a2) 0 0 := by rw [c_4]; exact ⟨by decide, by decide⟩
        refine lv_ldc hx hb hown (hts (.constant RX11 55 (-1000001)) (by decide +kernel)) dX11_suspects_42 ?_
        exact hret _ _ _ dX11_suspects_44 rfl (by simp only [r_X11_suspects, if_neg c_1, if_neg c_2, if_pos c_4])
      · have b_6 : wx_b a2 0 5 := rf_X3_isRoom hg c_4
        refine lv_iload_n hx hb dX11_suspects_35 rfl (lv_at hl 3 rfl) ?_
        refine wx_callr (va_runS (As := [.int a3]) (rest := []) ⟨hx, hb, hml, hown, hts⟩ (k_X11_isMinuteSet l g a3) (va_cwS 1 hts gX11_suspects_X11_isMinuteSet rfl rfl rfl (by decide +kernel) (by rw [hR]; exact ⟨Nat.le_of_ble_eq_true rfl, Nat.le_of_ble_eq_true rfl⟩)) (wx_Pc.pre hK hX) rfl rfl hl.1 rfl (lv_room (Nat.le_of_ble_eq_true rfl)) dX11_suspects_36 ⟨Nat.zero_le _, Nat.zero_le _⟩) ?_
        refine lv_if_ne (tgt := 45) hx hb dX11_suspects_39 (by decide) (fun c_7 => ?_) (fun c_7 => ?_)
        · have b_8 : wx_b a3 0 255 := rf_X11_isMinuteSet  c_7
          refine lv_aload_n hx hb dX11_suspects_45 rfl (lv_at hl 0 rfl) ?_
          refine wx_getr (t := 20) (C := RX11) (T := TX11) (N := 8) (ci := 10) (j := 2) hx hb hts hi_X11 hown hK hX (by decide) sh_X11_2 rfl (by decide) (hts (.fieldLink RX11 25 "SeenAgain" "house" "LSeenAgain$House;") (by decide +kernel)) (fun _ h9 => h9) dX11_suspects_46 ?_
          refine lv_iload_n hx hb dX11_suspects_49 rfl (lv_at hl 1 rfl) ?_
          refine lv_iload_n hx hb dX11_suspects_50 rfl (lv_at hl 2 rfl) ?_
          refine lv_iload_n hx hb dX11_suspects_51 rfl (lv_at hl 3 rfl) ?_
          refine wx_callr (va_runV (As := [.int a1, .int a2, .int a3]) (rest := []) ⟨hx, hb, hml, hown, hts⟩ (k_X3_suspectsBy l g 20 a1 a2 a3 (show wx_H 20 from Or.inl rfl) hg) (cwV 3 hts gX11_suspects_X3_suspectsBy rfl rfl rfl (by decide +kernel) (by rw [hR]; exact ⟨Nat.le_of_ble_eq_true rfl, Nat.le_of_ble_eq_true rfl⟩)) ⟨wx_Pc.blind, wx_recv hK hX (by decide) (sh_X3 (show wx_H 20 from Or.inl rfl)) rfl, (wx_Pc.pre hK hX).2⟩ rfl rfl hl.1 rfl (lv_room (Nat.le_of_ble_eq_true rfl)) dX11_suspects_52 ⟨Nat.zero_le _, Nat.zero_le _⟩) ?_
          exact hret _ _ _ dX11_suspects_55 rfl (by simp only [r_X11_suspects, if_neg c_1, if_neg c_2, if_neg c_4, if_neg c_7])
        · have b_9 : wx_b (r_X11_isMinuteSet a3) 0 0 := by rw [c_7]; exact ⟨by decide, by decide⟩
          refine lv_ldc hx hb hown (hts (.constant RX11 55 (-1000001)) (by decide +kernel)) dX11_suspects_42 ?_
          exact hret _ _ _ dX11_suspects_44 rfl (by simp only [r_X11_suspects, if_neg c_1, if_neg c_2, if_neg c_4, if_pos c_7])
  · have b_10 : wx_b (r_X3_stands g 20) 0 0 := by rw [c_1]; exact ⟨by decide, by decide⟩
    refine lv_ldc hx hb hown (hts (.constant RX11 126 (-1000002)) (by decide +kernel)) dX11_suspects_10 ?_
    exact hret _ _ _ dX11_suspects_12 rfl (by simp only [r_X11_suspects, if_pos c_1])
def r_X11_settled (g : wx_M) (a1 : Int32) : Int32 :=
  if (r_X3_stands g 20) = 0 then
    (-1000002)
  else
    if (r_X11_isMinute a1) = 0 then
      (-1000001)
    else
      (r_X3_fewestSettling g 20 a1)
set_option maxHeartbeats 4000000 in
set_option maxRecDepth 100000 in
theorem k_X11_settled (l : Launch) {D : va_G} {cy : Nat → ClassId} {ad : Nat → Nat} {B0 : Nat} {f : wx_F} {P : va_W} (g : wx_M) (a1 : Int32) (hg : wx_HB g 20) : Met l yX11_settled wsX11_settled ({ frames := 4, cells := 0, slots := 0, locals := 91 } : Room) (wx_Pc D cy ad B0 f P g [.ref (ad 0), .int a1]) (QcRead (r_X11_settled g a1)) 0 0 (fun _ => False) := by
  refine wx_enterR (cc := cX11_settled) (maxL := 2) (ty := .int) (own := RX11) (lv := [(0, .ref (ad 0)), (1, .int a1)]) (by decide) rfl rfl (Nat.le_of_ble_eq_true rfl) rfl ?_
  intro p e R s m args below meth c ls Qm hx hb hml hown hts hK hX hR hret hl
  have hi_X11 : ∀ w ∈ wsX110, w ∈ wsX11_settled := by decide +kernel
  refine lv_aload_n hx hb dX11_settled_0 rfl (lv_at hl 0 rfl) ?_
  refine wx_getr (t := 20) (C := RX11) (T := TX11) (N := 8) (ci := 10) (j := 2) hx hb hts hi_X11 hown hK hX (by decide) sh_X11_2 rfl (by decide) (hts (.fieldLink RX11 25 "SeenAgain" "house" "LSeenAgain$House;") (by decide +kernel)) (fun _ h9 => h9) dX11_settled_1 ?_
  refine wx_callr (va_runV (As := []) (rest := []) ⟨hx, hb, hml, hown, hts⟩ (k_X3_stands l g 20 (show wx_H 20 from Or.inl rfl)) (cwV 0 hts gX11_settled_X3_stands rfl rfl rfl (by decide +kernel) (by rw [hR]; exact ⟨Nat.le_of_ble_eq_true rfl, Nat.le_of_ble_eq_true rfl⟩)) ⟨wx_Pc.blind, wx_recv hK hX (by decide) (sh_X3 (show wx_H 20 from Or.inl rfl)) rfl, (wx_Pc.pre hK hX).2⟩ rfl rfl hl.1 rfl (lv_room (Nat.le_of_ble_eq_true rfl)) dX11_settled_4 ⟨Nat.zero_le _, Nat.zero_le _⟩) ?_
  refine lv_if_ne (tgt := 13) hx hb dX11_settled_7 (by decide) (fun c_1 => ?_) (fun c_1 => ?_)
  · refine lv_iload_n hx hb dX11_settled_13 rfl (lv_at hl 1 rfl) ?_
    refine wx_callr (va_runS (As := [.int a1]) (rest := []) ⟨hx, hb, hml, hown, hts⟩ (k_X11_isMinute l g a1) (va_cwS 1 hts gX11_settled_X11_isMinute rfl rfl rfl (by decide +kernel) (by rw [hR]; exact ⟨Nat.le_of_ble_eq_true rfl, Nat.le_of_ble_eq_true rfl⟩)) (wx_Pc.pre hK hX) rfl rfl hl.1 rfl (lv_room (Nat.le_of_ble_eq_true rfl)) dX11_settled_14 ⟨Nat.zero_le _, Nat.zero_le _⟩) ?_
    refine lv_if_ne (tgt := 23) hx hb dX11_settled_17 (by decide) (fun c_2 => ?_) (fun c_2 => ?_)
    · have b_3 : wx_b a1 0 7 := rf_X11_isMinute  c_2
      refine lv_aload_n hx hb dX11_settled_23 rfl (lv_at hl 0 rfl) ?_
      refine wx_getr (t := 20) (C := RX11) (T := TX11) (N := 8) (ci := 10) (j := 2) hx hb hts hi_X11 hown hK hX (by decide) sh_X11_2 rfl (by decide) (hts (.fieldLink RX11 25 "SeenAgain" "house" "LSeenAgain$House;") (by decide +kernel)) (fun _ h9 => h9) dX11_settled_24 ?_
      refine lv_iload_n hx hb dX11_settled_27 rfl (lv_at hl 1 rfl) ?_
      refine wx_callr (va_runV (As := [.int a1]) (rest := []) ⟨hx, hb, hml, hown, hts⟩ (k_X3_fewestSettling l g 20 a1 (show wx_H 20 from Or.inl rfl) b_3 hg) (cwV 1 hts gX11_settled_X3_fewestSettling rfl rfl rfl (by decide +kernel) (by rw [hR]; exact ⟨Nat.le_of_ble_eq_true rfl, Nat.le_of_ble_eq_true rfl⟩)) ⟨wx_Pc.blind, wx_recv hK hX (by decide) (sh_X3 (show wx_H 20 from Or.inl rfl)) rfl, (wx_Pc.pre hK hX).2⟩ rfl rfl hl.1 rfl (lv_room (Nat.le_of_ble_eq_true rfl)) dX11_settled_28 ⟨Nat.zero_le _, Nat.zero_le _⟩) ?_
      exact hret _ _ _ dX11_settled_31 rfl (by simp only [r_X11_settled, if_neg c_1, if_neg c_2])
    · have b_4 : wx_b (r_X11_isMinute a1) 0 0 := by rw [c_2]; exact ⟨by decide, by decide⟩
      refine lv_ldc hx hb hown (hts (.constant RX11 55 (-1000001)) (by decide +kernel)) dX11_settled_20 ?_
      exact hret _ _ _ dX11_settled_22 rfl (by simp only [r_X11_settled, if_neg c_1, if_pos c_2])
  · have b_5 : wx_b (r_X3_stands g 20) 0 0 := by rw [c_1]; exact ⟨by decide, by decide⟩
    refine lv_ldc hx hb hown (hts (.constant RX11 126 (-1000002)) (by decide +kernel)) dX11_settled_10 ?_
    exact hret _ _ _ dX11_settled_12 rfl (by simp only [r_X11_settled, if_pos c_1])
def r_X11_cheapest (g : wx_M) (a1 : Int32) (a2 : Int32) (a3 : Int32) : Int32 :=
  if (r_X3_isVisitor g 20 a1) = 0 then
    (-1000001)
  else
    if (r_X11_isMinute a2) = 0 then
      (-1000001)
    else
      if a3 < 0 then
        (-1000001)
      else
        if a3 ≤ 1 then
          let x_12 := (r_X3_cheapestSettling g 20 a1 a2)
          if x_12 = (-1000000) then
            x_12
          else
            if a3 = 0 then
              x_12
            else
              (r_X3_costOf g 20 a1 x_12 a2)
        else
          (-1000001)
set_option maxHeartbeats 4000000 in
set_option maxRecDepth 100000 in
theorem k_X11_cheapest (l : Launch) {D : va_G} {cy : Nat → ClassId} {ad : Nat → Nat} {B0 : Nat} {f : wx_F} {P : va_W} (g : wx_M) (a1 : Int32) (a2 : Int32) (a3 : Int32) (hg : wx_HB g 20) : Met l yX11_cheapest wsX11_cheapest ({ frames := 6, cells := 0, slots := 0, locals := 150 } : Room) (wx_Pc D cy ad B0 f P g [.ref (ad 0), .int a1, .int a2, .int a3]) (QcRead (r_X11_cheapest g a1 a2 a3)) 0 0 (fun _ => False) := by
  refine wx_enterR (cc := cX11_cheapest) (maxL := 5) (ty := .int) (own := RX11) (lv := [(0, .ref (ad 0)), (1, .int a1), (2, .int a2), (3, .int a3)]) (by decide) rfl rfl (Nat.le_of_ble_eq_true rfl) rfl ?_
  intro p e R s m args below meth c ls Qm hx hb hml hown hts hK hX hR hret hl
  have hi_X11 : ∀ w ∈ wsX110, w ∈ wsX11_cheapest := by decide +kernel
  refine lv_aload_n hx hb dX11_cheapest_0 rfl (lv_at hl 0 rfl) ?_
  refine wx_getr (t := 20) (C := RX11) (T := TX11) (N := 8) (ci := 10) (j := 2) hx hb hts hi_X11 hown hK hX (by decide) sh_X11_2 rfl (by decide) (hts (.fieldLink RX11 25 "SeenAgain" "house" "LSeenAgain$House;") (by decide +kernel)) (fun _ h9 => h9) dX11_cheapest_1 ?_
  refine lv_iload_n hx hb dX11_cheapest_4 rfl (lv_at hl 1 rfl) ?_
  refine wx_callr (va_runV (As := [.int a1]) (rest := []) ⟨hx, hb, hml, hown, hts⟩ (k_X3_isVisitor l g 20 a1 (show wx_H 20 from Or.inl rfl)) (cwV 1 hts gX11_cheapest_X3_isVisitor rfl rfl rfl (by decide +kernel) (by rw [hR]; exact ⟨Nat.le_of_ble_eq_true rfl, Nat.le_of_ble_eq_true rfl⟩)) ⟨wx_Pc.blind, wx_recv hK hX (by decide) (sh_X3 (show wx_H 20 from Or.inl rfl)) rfl, (wx_Pc.pre hK hX).2⟩ rfl rfl hl.1 rfl (lv_room (Nat.le_of_ble_eq_true rfl)) dX11_cheapest_5 ⟨Nat.zero_le _, Nat.zero_le _⟩) ?_
  refine lv_if_eq (tgt := 27) hx hb dX11_cheapest_8 (by decide) (fun c_1 => ?_) (fun c_1 => ?_)
  · have b_2 : wx_b (r_X3_isVisitor g 20 a1) 0 0 := by rw [c_1]; exact ⟨by decide, by decide⟩
    refine lv_ldc hx hb hown (hts (.constant RX11 55 (-1000001)) (by decide +kernel)) dX11_cheapest_27 ?_
    exact hret _ _ _ dX11_cheapest_29 rfl (by simp only [r_X11_cheapest, if_pos c_1])
  · have b_3 : wx_b a1 0 3 := rf_X3_isVisitor hg c_1
    refine lv_iload_n hx hb dX11_cheapest_11 rfl (lv_at hl 2 rfl) ?_
    refine wx_callr (va_runS (As := [.int a2]) (rest := []) ⟨hx, hb, hml, hown, hts⟩ (k_X11_isMinute l g a2) (va_cwS 1 hts gX11_cheapest_X11_isMinute rfl rfl rfl (by decide +kernel) (by rw [hR]; exact ⟨Nat.le_of_ble_eq_true rfl, Nat.le_of_ble_eq_true rfl⟩)) (wx_Pc.pre hK hX) rfl rfl hl.1 rfl (lv_room (Nat.le_of_ble_eq_true rfl)) dX11_cheapest_12 ⟨Nat.zero_le _, Nat.zero_le _⟩) ?_
    refine lv_if_eq (tgt := 27) hx hb dX11_cheapest_15 (by decide) (fun c_4 => ?_) (fun c_4 => ?_)
    · have b_5 : wx_b (r_X11_isMinute a2) 0 0 := by rw [c_4]; exact ⟨by decide, by decide⟩
      refine lv_ldc hx hb hown (hts (.constant RX11 55 (-1000001)) (by decide +kernel)) dX11_cheapest_27 ?_
      exact hret _ _ _ dX11_cheapest_29 rfl (by simp only [r_X11_cheapest, if_neg c_1, if_pos c_4])
    · have b_6 : wx_b a2 0 7 := rf_X11_isMinute  c_4
      refine lv_iload_n hx hb dX11_cheapest_18 rfl (lv_at hl 3 rfl) ?_
      refine lv_if_lt (tgt := 27) hx hb dX11_cheapest_19 (by decide) (fun c_7 => ?_) (fun c_7 => ?_)
      · have b_8 : wx_b a3 (-2147483648) (-1) := wb_lt c_7 (wb_any _) (show wx_b 0 0 0 from ⟨by decide, by decide⟩) (by decide) (by decide)
        refine lv_ldc hx hb hown (hts (.constant RX11 55 (-1000001)) (by decide +kernel)) dX11_cheapest_27 ?_
        exact hret _ _ _ dX11_cheapest_29 rfl (by simp only [r_X11_cheapest, if_neg c_1, if_neg c_4, if_pos c_7])
      · have b_9 : wx_b a3 0 2147483647 := wb_ge (wb_nlt c_7) (wb_any _) (show wx_b 0 0 0 from ⟨by decide, by decide⟩) (by decide) (by decide)
        refine lv_iload_n hx hb dX11_cheapest_22 rfl (lv_at hl 3 rfl) ?_
        refine lv_iconst (v := 1) hx hb dX11_cheapest_23 (by decide) ?_
        refine lv_icmp_le (tgt := 30) hx hb dX11_cheapest_24 (by decide) (fun c_10 => ?_) (fun c_10 => ?_)
        · have b_11 : wx_b a3 0 1 := wb_le c_10 b_9 (show wx_b 1 1 1 from ⟨by decide, by decide⟩) (by decide) (by decide)
          refine lv_aload_n hx hb dX11_cheapest_30 rfl (lv_at hl 0 rfl) ?_
          refine wx_getr (t := 20) (C := RX11) (T := TX11) (N := 8) (ci := 10) (j := 2) hx hb hts hi_X11 hown hK hX (by decide) sh_X11_2 rfl (by decide) (hts (.fieldLink RX11 25 "SeenAgain" "house" "LSeenAgain$House;") (by decide +kernel)) (fun _ h9 => h9) dX11_cheapest_31 ?_
          refine lv_iload_n hx hb dX11_cheapest_34 rfl (lv_at hl 1 rfl) ?_
          refine lv_iload_n hx hb dX11_cheapest_35 rfl (lv_at hl 2 rfl) ?_
          refine wx_callr (va_runV (As := [.int a1, .int a2]) (rest := []) ⟨hx, hb, hml, hown, hts⟩ (k_X3_cheapestSettling l g 20 a1 a2 (show wx_H 20 from Or.inl rfl) b_3 b_6 hg) (cwV 2 hts gX11_cheapest_X3_cheapestSettling rfl rfl rfl (by decide +kernel) (by rw [hR]; exact ⟨Nat.le_of_ble_eq_true rfl, Nat.le_of_ble_eq_true rfl⟩)) ⟨wx_Pc.blind, wx_recv hK hX (by decide) (sh_X3 (show wx_H 20 from Or.inl rfl)) rfl, (wx_Pc.pre hK hX).2⟩ rfl rfl hl.1 rfl (lv_room (Nat.le_of_ble_eq_true rfl)) dX11_cheapest_36 ⟨Nat.zero_le _, Nat.zero_le _⟩) ?_
          refine lv_topi (fun x_12 ex_12 => ?_)
          refine lv_istore (lv' := [(4, .int x_12), (0, .ref (ad 0)), (1, .int a1), (2, .int a2), (3, .int a3)]) hx hb dX11_cheapest_39 hl (by decide) rfl (fun ls hl => ?_)
          refine lv_iload hx hb dX11_cheapest_41 (lv_at hl 0 rfl) ?_
          refine lv_ldc hx hb hown (hts (.constant RX11 245 (-1000000)) (by decide +kernel)) dX11_cheapest_43 ?_
          refine lv_icmp_eq (tgt := 52) hx hb dX11_cheapest_45 (by decide) (fun c_13 => ?_) (fun c_13 => ?_)
          · have b_14 : wx_b x_12 (-1000000) (-1000000) := by rw [c_13]; exact ⟨by decide, by decide⟩
            refine lv_iload hx hb dX11_cheapest_52 (lv_at hl 0 rfl) ?_
            exact hret _ _ _ dX11_cheapest_54 rfl (by subst ex_12; simp only [r_X11_cheapest, if_neg c_1, if_neg c_4, if_neg c_7, if_pos c_10, if_pos c_13])
          · refine lv_iload_n hx hb dX11_cheapest_48 rfl (lv_at hl 4 rfl) ?_
            refine lv_if_ne (tgt := 55) hx hb dX11_cheapest_49 (by decide) (fun c_15 => ?_) (fun c_15 => ?_)
            · have b_16 : wx_b a3 1 1 := wb_nel c_15 b_11 (by decide)
              refine lv_aload_n hx hb dX11_cheapest_55 rfl (lv_at hl 1 rfl) ?_
              refine wx_getr (t := 20) (C := RX11) (T := TX11) (N := 8) (ci := 10) (j := 2) hx hb hts hi_X11 hown hK hX (by decide) sh_X11_2 rfl (by decide) (hts (.fieldLink RX11 25 "SeenAgain" "house" "LSeenAgain$House;") (by decide +kernel)) (fun _ h9 => h9) dX11_cheapest_56 ?_
              refine lv_iload_n hx hb dX11_cheapest_59 rfl (lv_at hl 2 rfl) ?_
              refine lv_iload hx hb dX11_cheapest_60 (lv_at hl 0 rfl) ?_
              refine lv_iload_n hx hb dX11_cheapest_62 rfl (lv_at hl 3 rfl) ?_
              refine wx_callr (va_runV (As := [.int a1, .int x_12, .int a2]) (rest := []) ⟨hx, hb, hml, hown, hts⟩ (k_X3_costOf l g 20 a1 x_12 a2 (show wx_H 20 from Or.inl rfl) b_3 b_6 hg) (cwV 3 hts gX11_cheapest_X3_costOf rfl rfl rfl (by decide +kernel) (by rw [hR]; exact ⟨Nat.le_of_ble_eq_true rfl, Nat.le_of_ble_eq_true rfl⟩)) ⟨wx_Pc.blind, wx_recv hK hX (by decide) (sh_X3 (show wx_H 20 from Or.inl rfl)) rfl, (wx_Pc.pre hK hX).2⟩ rfl rfl hl.1 rfl (lv_room (Nat.le_of_ble_eq_true rfl)) dX11_cheapest_63 ⟨Nat.zero_le _, Nat.zero_le _⟩) ?_
              exact hret _ _ _ dX11_cheapest_66 rfl (by subst ex_12; simp only [r_X11_cheapest, if_neg c_1, if_neg c_4, if_neg c_7, if_pos c_10, if_neg c_13, if_neg c_15])
            · have b_17 : wx_b a3 0 0 := by rw [c_15]; exact ⟨by decide, by decide⟩
              refine lv_iload hx hb dX11_cheapest_52 (lv_at hl 0 rfl) ?_
              exact hret _ _ _ dX11_cheapest_54 rfl (by subst ex_12; simp only [r_X11_cheapest, if_neg c_1, if_neg c_4, if_neg c_7, if_pos c_10, if_neg c_13, if_pos c_15])
        · have b_18 : wx_b a3 2 2147483647 := wb_gt (wb_nle c_10) b_9 (show wx_b 1 1 1 from ⟨by decide, by decide⟩) (by decide) (by decide)
          refine lv_ldc hx hb hown (hts (.constant RX11 55 (-1000001)) (by decide +kernel)) dX11_cheapest_27 ?_
          exact hret _ _ _ dX11_cheapest_29 rfl (by simp only [r_X11_cheapest, if_neg c_1, if_neg c_4, if_neg c_7, if_neg c_10])
def r_X11_crowd (g : wx_M) (a1 : Int32) (a2 : Int32) : Int32 :=
  if (r_X3_isVisitor g 20 a1) = 0 then
    (-1000001)
  else
    if (r_X11_isMinute a2) = 0 then
      (-1000001)
    else
      (r_X3_crowdOf g 20 a1 a2)
set_option maxHeartbeats 4000000 in
set_option maxRecDepth 100000 in
theorem k_X11_crowd (l : Launch) {D : va_G} {cy : Nat → ClassId} {ad : Nat → Nat} {B0 : Nat} {f : wx_F} {P : va_W} (g : wx_M) (a1 : Int32) (a2 : Int32) (hg : wx_HB g 20) : Met l yX11_crowd wsX11_crowd ({ frames := 4, cells := 0, slots := 0, locals := 92 } : Room) (wx_Pc D cy ad B0 f P g [.ref (ad 0), .int a1, .int a2]) (QcRead (r_X11_crowd g a1 a2)) 0 0 (fun _ => False) := by
  refine wx_enterR (cc := cX11_crowd) (maxL := 3) (ty := .int) (own := RX11) (lv := [(0, .ref (ad 0)), (1, .int a1), (2, .int a2)]) (by decide) rfl rfl (Nat.le_of_ble_eq_true rfl) rfl ?_
  intro p e R s m args below meth c ls Qm hx hb hml hown hts hK hX hR hret hl
  have hi_X11 : ∀ w ∈ wsX110, w ∈ wsX11_crowd := by decide +kernel
  refine lv_aload_n hx hb dX11_crowd_0 rfl (lv_at hl 0 rfl) ?_
  refine wx_getr (t := 20) (C := RX11) (T := TX11) (N := 8) (ci := 10) (j := 2) hx hb hts hi_X11 hown hK hX (by decide) sh_X11_2 rfl (by decide) (hts (.fieldLink RX11 25 "SeenAgain" "house" "LSeenAgain$House;") (by decide +kernel)) (fun _ h9 => h9) dX11_crowd_1 ?_
  refine lv_iload_n hx hb dX11_crowd_4 rfl (lv_at hl 1 rfl) ?_
  refine wx_callr (va_runV (As := [.int a1]) (rest := []) ⟨hx, hb, hml, hown, hts⟩ (k_X3_isVisitor l g 20 a1 (show wx_H 20 from Or.inl rfl)) (cwV 1 hts gX11_crowd_X3_isVisitor rfl rfl rfl (by decide +kernel) (by rw [hR]; exact ⟨Nat.le_of_ble_eq_true rfl, Nat.le_of_ble_eq_true rfl⟩)) ⟨wx_Pc.blind, wx_recv hK hX (by decide) (sh_X3 (show wx_H 20 from Or.inl rfl)) rfl, (wx_Pc.pre hK hX).2⟩ rfl rfl hl.1 rfl (lv_room (Nat.le_of_ble_eq_true rfl)) dX11_crowd_5 ⟨Nat.zero_le _, Nat.zero_le _⟩) ?_
  refine lv_if_eq (tgt := 18) hx hb dX11_crowd_8 (by decide) (fun c_1 => ?_) (fun c_1 => ?_)
  · have b_2 : wx_b (r_X3_isVisitor g 20 a1) 0 0 := by rw [c_1]; exact ⟨by decide, by decide⟩
    refine lv_ldc hx hb hown (hts (.constant RX11 55 (-1000001)) (by decide +kernel)) dX11_crowd_18 ?_
    exact hret _ _ _ dX11_crowd_20 rfl (by simp only [r_X11_crowd, if_pos c_1])
  · have b_3 : wx_b a1 0 3 := rf_X3_isVisitor hg c_1
    refine lv_iload_n hx hb dX11_crowd_11 rfl (lv_at hl 2 rfl) ?_
    refine wx_callr (va_runS (As := [.int a2]) (rest := []) ⟨hx, hb, hml, hown, hts⟩ (k_X11_isMinute l g a2) (va_cwS 1 hts gX11_crowd_X11_isMinute rfl rfl rfl (by decide +kernel) (by rw [hR]; exact ⟨Nat.le_of_ble_eq_true rfl, Nat.le_of_ble_eq_true rfl⟩)) (wx_Pc.pre hK hX) rfl rfl hl.1 rfl (lv_room (Nat.le_of_ble_eq_true rfl)) dX11_crowd_12 ⟨Nat.zero_le _, Nat.zero_le _⟩) ?_
    refine lv_if_ne (tgt := 21) hx hb dX11_crowd_15 (by decide) (fun c_4 => ?_) (fun c_4 => ?_)
    · have b_5 : wx_b a2 0 7 := rf_X11_isMinute  c_4
      refine lv_aload_n hx hb dX11_crowd_21 rfl (lv_at hl 0 rfl) ?_
      refine wx_getr (t := 20) (C := RX11) (T := TX11) (N := 8) (ci := 10) (j := 2) hx hb hts hi_X11 hown hK hX (by decide) sh_X11_2 rfl (by decide) (hts (.fieldLink RX11 25 "SeenAgain" "house" "LSeenAgain$House;") (by decide +kernel)) (fun _ h9 => h9) dX11_crowd_22 ?_
      refine lv_iload_n hx hb dX11_crowd_25 rfl (lv_at hl 1 rfl) ?_
      refine lv_iload_n hx hb dX11_crowd_26 rfl (lv_at hl 2 rfl) ?_
      refine wx_callr (va_runV (As := [.int a1, .int a2]) (rest := []) ⟨hx, hb, hml, hown, hts⟩ (k_X3_crowdOf l g 20 a1 a2 (show wx_H 20 from Or.inl rfl) b_5 hg) (cwV 2 hts gX11_crowd_X3_crowdOf rfl rfl rfl (by decide +kernel) (by rw [hR]; exact ⟨Nat.le_of_ble_eq_true rfl, Nat.le_of_ble_eq_true rfl⟩)) ⟨wx_Pc.blind, wx_recv hK hX (by decide) (sh_X3 (show wx_H 20 from Or.inl rfl)) rfl, (wx_Pc.pre hK hX).2⟩ rfl rfl hl.1 rfl (lv_room (Nat.le_of_ble_eq_true rfl)) dX11_crowd_27 ⟨Nat.zero_le _, Nat.zero_le _⟩) ?_
      exact hret _ _ _ dX11_crowd_30 rfl (by simp only [r_X11_crowd, if_neg c_1, if_neg c_4])
    · have b_6 : wx_b (r_X11_isMinute a2) 0 0 := by rw [c_4]; exact ⟨by decide, by decide⟩
      refine lv_ldc hx hb hown (hts (.constant RX11 55 (-1000001)) (by decide +kernel)) dX11_crowd_18 ?_
      exact hret _ _ _ dX11_crowd_20 rfl (by simp only [r_X11_crowd, if_neg c_1, if_pos c_4])
def r_X11_told (g : wx_M) (a1 : Int32) (a2 : Int32) (a3 : Int32) : Int32 :=
  if (r_X3_isVisitor g 20 a1) = 0 then
    (-1000001)
  else
    if (r_X3_isPerson g 20 a2) = 0 then
      (-1000001)
    else
      if (r_X11_isMinute a3) = 0 then
        (-1000001)
      else
        (r_X3_toldBy g 20 a1 a2 a3)
set_option maxHeartbeats 4000000 in
set_option maxRecDepth 100000 in
theorem k_X11_told (l : Launch) {D : va_G} {cy : Nat → ClassId} {ad : Nat → Nat} {B0 : Nat} {f : wx_F} {P : va_W} (g : wx_M) (a1 : Int32) (a2 : Int32) (a3 : Int32) (hg : wx_HB g 20) : Met l yX11_told wsX11_told ({ frames := 5, cells := 0, slots := 0, locals := 115 } : Room) (wx_Pc D cy ad B0 f P g [.ref (ad 0), .int a1, .int a2, .int a3]) (QcRead (r_X11_told g a1 a2 a3)) 0 0 (fun _ => False) := by
  refine wx_enterR (cc := cX11_told) (maxL := 4) (ty := .int) (own := RX11) (lv := [(0, .ref (ad 0)), (1, .int a1), (2, .int a2), (3, .int a3)]) (by decide) rfl rfl (Nat.le_of_ble_eq_true rfl) rfl ?_
  intro p e R s m args below meth c ls Qm hx hb hml hown hts hK hX hR hret hl
  have hi_X11 : ∀ w ∈ wsX110, w ∈ wsX11_told := by decide +kernel
  refine lv_aload_n hx hb dX11_told_0 rfl (lv_at hl 0 rfl) ?_
  refine wx_getr (t := 20) (C := RX11) (T := TX11) (N := 8) (ci := 10) (j := 2) hx hb hts hi_X11 hown hK hX (by decide) sh_X11_2 rfl (by decide) (hts (.fieldLink RX11 25 "SeenAgain" "house" "LSeenAgain$House;") (by decide +kernel)) (fun _ h9 => h9) dX11_told_1 ?_
  refine lv_iload_n hx hb dX11_told_4 rfl (lv_at hl 1 rfl) ?_
  refine wx_callr (va_runV (As := [.int a1]) (rest := []) ⟨hx, hb, hml, hown, hts⟩ (k_X3_isVisitor l g 20 a1 (show wx_H 20 from Or.inl rfl)) (cwV 1 hts gX11_told_X3_isVisitor rfl rfl rfl (by decide +kernel) (by rw [hR]; exact ⟨Nat.le_of_ble_eq_true rfl, Nat.le_of_ble_eq_true rfl⟩)) ⟨wx_Pc.blind, wx_recv hK hX (by decide) (sh_X3 (show wx_H 20 from Or.inl rfl)) rfl, (wx_Pc.pre hK hX).2⟩ rfl rfl hl.1 rfl (lv_room (Nat.le_of_ble_eq_true rfl)) dX11_told_5 ⟨Nat.zero_le _, Nat.zero_le _⟩) ?_
  refine lv_if_eq (tgt := 29) hx hb dX11_told_8 (by decide) (fun c_1 => ?_) (fun c_1 => ?_)
  · have b_2 : wx_b (r_X3_isVisitor g 20 a1) 0 0 := by rw [c_1]; exact ⟨by decide, by decide⟩
    refine lv_ldc hx hb hown (hts (.constant RX11 55 (-1000001)) (by decide +kernel)) dX11_told_29 ?_
    exact hret _ _ _ dX11_told_31 rfl (by simp only [r_X11_told, if_pos c_1])
  · have b_3 : wx_b a1 0 3 := rf_X3_isVisitor hg c_1
    refine lv_aload_n hx hb dX11_told_11 rfl (lv_at hl 0 rfl) ?_
    refine wx_getr (t := 20) (C := RX11) (T := TX11) (N := 8) (ci := 10) (j := 2) hx hb hts hi_X11 hown hK hX (by decide) sh_X11_2 rfl (by decide) (hts (.fieldLink RX11 25 "SeenAgain" "house" "LSeenAgain$House;") (by decide +kernel)) (fun _ h9 => h9) dX11_told_12 ?_
    refine lv_iload_n hx hb dX11_told_15 rfl (lv_at hl 2 rfl) ?_
    refine wx_callr (va_runV (As := [.int a2]) (rest := []) ⟨hx, hb, hml, hown, hts⟩ (k_X3_isPerson l g 20 a2 (show wx_H 20 from Or.inl rfl)) (cwV 1 hts gX11_told_X3_isPerson rfl rfl rfl (by decide +kernel) (by rw [hR]; exact ⟨Nat.le_of_ble_eq_true rfl, Nat.le_of_ble_eq_true rfl⟩)) ⟨wx_Pc.blind, wx_recv hK hX (by decide) (sh_X3 (show wx_H 20 from Or.inl rfl)) rfl, (wx_Pc.pre hK hX).2⟩ rfl rfl hl.1 rfl (lv_room (Nat.le_of_ble_eq_true rfl)) dX11_told_16 ⟨Nat.zero_le _, Nat.zero_le _⟩) ?_
    refine lv_if_eq (tgt := 29) hx hb dX11_told_19 (by decide) (fun c_4 => ?_) (fun c_4 => ?_)
    · have b_5 : wx_b (r_X3_isPerson g 20 a2) 0 0 := by rw [c_4]; exact ⟨by decide, by decide⟩
      refine lv_ldc hx hb hown (hts (.constant RX11 55 (-1000001)) (by decide +kernel)) dX11_told_29 ?_
      exact hret _ _ _ dX11_told_31 rfl (by simp only [r_X11_told, if_neg c_1, if_pos c_4])
    · have b_6 : wx_b a2 0 3 := rf_X3_isPerson hg c_4
      refine lv_iload_n hx hb dX11_told_22 rfl (lv_at hl 3 rfl) ?_
      refine wx_callr (va_runS (As := [.int a3]) (rest := []) ⟨hx, hb, hml, hown, hts⟩ (k_X11_isMinute l g a3) (va_cwS 1 hts gX11_told_X11_isMinute rfl rfl rfl (by decide +kernel) (by rw [hR]; exact ⟨Nat.le_of_ble_eq_true rfl, Nat.le_of_ble_eq_true rfl⟩)) (wx_Pc.pre hK hX) rfl rfl hl.1 rfl (lv_room (Nat.le_of_ble_eq_true rfl)) dX11_told_23 ⟨Nat.zero_le _, Nat.zero_le _⟩) ?_
      refine lv_if_ne (tgt := 32) hx hb dX11_told_26 (by decide) (fun c_7 => ?_) (fun c_7 => ?_)
      · have b_8 : wx_b a3 0 7 := rf_X11_isMinute  c_7
        refine lv_aload_n hx hb dX11_told_32 rfl (lv_at hl 0 rfl) ?_
        refine wx_getr (t := 20) (C := RX11) (T := TX11) (N := 8) (ci := 10) (j := 2) hx hb hts hi_X11 hown hK hX (by decide) sh_X11_2 rfl (by decide) (hts (.fieldLink RX11 25 "SeenAgain" "house" "LSeenAgain$House;") (by decide +kernel)) (fun _ h9 => h9) dX11_told_33 ?_
        refine lv_iload_n hx hb dX11_told_36 rfl (lv_at hl 1 rfl) ?_
        refine lv_iload_n hx hb dX11_told_37 rfl (lv_at hl 2 rfl) ?_
        refine lv_iload_n hx hb dX11_told_38 rfl (lv_at hl 3 rfl) ?_
        refine wx_callr (va_runV (As := [.int a1, .int a2, .int a3]) (rest := []) ⟨hx, hb, hml, hown, hts⟩ (k_X3_toldBy l g 20 a1 a2 a3 (show wx_H 20 from Or.inl rfl) b_3 b_6 b_8 hg) (cwV 3 hts gX11_told_X3_toldBy rfl rfl rfl (by decide +kernel) (by rw [hR]; exact ⟨Nat.le_of_ble_eq_true rfl, Nat.le_of_ble_eq_true rfl⟩)) ⟨wx_Pc.blind, wx_recv hK hX (by decide) (sh_X3 (show wx_H 20 from Or.inl rfl)) rfl, (wx_Pc.pre hK hX).2⟩ rfl rfl hl.1 rfl (lv_room (Nat.le_of_ble_eq_true rfl)) dX11_told_39 ⟨Nat.zero_le _, Nat.zero_le _⟩) ?_
        exact hret _ _ _ dX11_told_42 rfl (by simp only [r_X11_told, if_neg c_1, if_neg c_4, if_neg c_7])
      · have b_9 : wx_b (r_X11_isMinute a3) 0 0 := by rw [c_7]; exact ⟨by decide, by decide⟩
        refine lv_ldc hx hb hown (hts (.constant RX11 55 (-1000001)) (by decide +kernel)) dX11_told_29 ?_
        exact hret _ _ _ dX11_told_31 rfl (by simp only [r_X11_told, if_neg c_1, if_neg c_4, if_pos c_7])
def r_X11_believed (g : wx_M) (a1 : Int32) (a2 : Int32) : Int32 :=
  if (r_X3_isPerson g 20 a1) = 0 then
    (-1000001)
  else
    if (r_X11_isMinute a2) = 0 then
      (-1000001)
    else
      (r_X3_mostTold g 20 a1 a2)
set_option maxHeartbeats 4000000 in
set_option maxRecDepth 100000 in
theorem k_X11_believed (l : Launch) {D : va_G} {cy : Nat → ClassId} {ad : Nat → Nat} {B0 : Nat} {f : wx_F} {P : va_W} (g : wx_M) (a1 : Int32) (a2 : Int32) (hg : wx_HB g 20) : Met l yX11_believed wsX11_believed ({ frames := 6, cells := 0, slots := 0, locals := 142 } : Room) (wx_Pc D cy ad B0 f P g [.ref (ad 0), .int a1, .int a2]) (QcRead (r_X11_believed g a1 a2)) 0 0 (fun _ => False) := by
  refine wx_enterR (cc := cX11_believed) (maxL := 3) (ty := .int) (own := RX11) (lv := [(0, .ref (ad 0)), (1, .int a1), (2, .int a2)]) (by decide) rfl rfl (Nat.le_of_ble_eq_true rfl) rfl ?_
  intro p e R s m args below meth c ls Qm hx hb hml hown hts hK hX hR hret hl
  have hi_X11 : ∀ w ∈ wsX110, w ∈ wsX11_believed := by decide +kernel
  refine lv_aload_n hx hb dX11_believed_0 rfl (lv_at hl 0 rfl) ?_
  refine wx_getr (t := 20) (C := RX11) (T := TX11) (N := 8) (ci := 10) (j := 2) hx hb hts hi_X11 hown hK hX (by decide) sh_X11_2 rfl (by decide) (hts (.fieldLink RX11 25 "SeenAgain" "house" "LSeenAgain$House;") (by decide +kernel)) (fun _ h9 => h9) dX11_believed_1 ?_
  refine lv_iload_n hx hb dX11_believed_4 rfl (lv_at hl 1 rfl) ?_
  refine wx_callr (va_runV (As := [.int a1]) (rest := []) ⟨hx, hb, hml, hown, hts⟩ (k_X3_isPerson l g 20 a1 (show wx_H 20 from Or.inl rfl)) (cwV 1 hts gX11_believed_X3_isPerson rfl rfl rfl (by decide +kernel) (by rw [hR]; exact ⟨Nat.le_of_ble_eq_true rfl, Nat.le_of_ble_eq_true rfl⟩)) ⟨wx_Pc.blind, wx_recv hK hX (by decide) (sh_X3 (show wx_H 20 from Or.inl rfl)) rfl, (wx_Pc.pre hK hX).2⟩ rfl rfl hl.1 rfl (lv_room (Nat.le_of_ble_eq_true rfl)) dX11_believed_5 ⟨Nat.zero_le _, Nat.zero_le _⟩) ?_
  refine lv_if_eq (tgt := 18) hx hb dX11_believed_8 (by decide) (fun c_1 => ?_) (fun c_1 => ?_)
  · have b_2 : wx_b (r_X3_isPerson g 20 a1) 0 0 := by rw [c_1]; exact ⟨by decide, by decide⟩
    refine lv_ldc hx hb hown (hts (.constant RX11 55 (-1000001)) (by decide +kernel)) dX11_believed_18 ?_
    exact hret _ _ _ dX11_believed_20 rfl (by simp only [r_X11_believed, if_pos c_1])
  · have b_3 : wx_b a1 0 3 := rf_X3_isPerson hg c_1
    refine lv_iload_n hx hb dX11_believed_11 rfl (lv_at hl 2 rfl) ?_
    refine wx_callr (va_runS (As := [.int a2]) (rest := []) ⟨hx, hb, hml, hown, hts⟩ (k_X11_isMinute l g a2) (va_cwS 1 hts gX11_believed_X11_isMinute rfl rfl rfl (by decide +kernel) (by rw [hR]; exact ⟨Nat.le_of_ble_eq_true rfl, Nat.le_of_ble_eq_true rfl⟩)) (wx_Pc.pre hK hX) rfl rfl hl.1 rfl (lv_room (Nat.le_of_ble_eq_true rfl)) dX11_believed_12 ⟨Nat.zero_le _, Nat.zero_le _⟩) ?_
    refine lv_if_ne (tgt := 21) hx hb dX11_believed_15 (by decide) (fun c_4 => ?_) (fun c_4 => ?_)
    · have b_5 : wx_b a2 0 7 := rf_X11_isMinute  c_4
      refine lv_aload_n hx hb dX11_believed_21 rfl (lv_at hl 0 rfl) ?_
      refine wx_getr (t := 20) (C := RX11) (T := TX11) (N := 8) (ci := 10) (j := 2) hx hb hts hi_X11 hown hK hX (by decide) sh_X11_2 rfl (by decide) (hts (.fieldLink RX11 25 "SeenAgain" "house" "LSeenAgain$House;") (by decide +kernel)) (fun _ h9 => h9) dX11_believed_22 ?_
      refine lv_iload_n hx hb dX11_believed_25 rfl (lv_at hl 1 rfl) ?_
      refine lv_iload_n hx hb dX11_believed_26 rfl (lv_at hl 2 rfl) ?_
      refine wx_callr (va_runV (As := [.int a1, .int a2]) (rest := []) ⟨hx, hb, hml, hown, hts⟩ (k_X3_mostTold l g 20 a1 a2 (show wx_H 20 from Or.inl rfl) b_3 b_5 hg) (cwV 2 hts gX11_believed_X3_mostTold rfl rfl rfl (by decide +kernel) (by rw [hR]; exact ⟨Nat.le_of_ble_eq_true rfl, Nat.le_of_ble_eq_true rfl⟩)) ⟨wx_Pc.blind, wx_recv hK hX (by decide) (sh_X3 (show wx_H 20 from Or.inl rfl)) rfl, (wx_Pc.pre hK hX).2⟩ rfl rfl hl.1 rfl (lv_room (Nat.le_of_ble_eq_true rfl)) dX11_believed_27 ⟨Nat.zero_le _, Nat.zero_le _⟩) ?_
      exact hret _ _ _ dX11_believed_30 rfl (by simp only [r_X11_believed, if_neg c_1, if_neg c_4])
    · have b_6 : wx_b (r_X11_isMinute a2) 0 0 := by rw [c_4]; exact ⟨by decide, by decide⟩
      refine lv_ldc hx hb hown (hts (.constant RX11 55 (-1000001)) (by decide +kernel)) dX11_believed_18 ?_
      exact hret _ _ _ dX11_believed_20 rfl (by simp only [r_X11_believed, if_neg c_1, if_pos c_4])
def r_X11_met (g : wx_M) (a1 : Int32) (a2 : Int32) : Int32 :=
  if (r_X3_isPerson g 20 a1) = 0 then
    (-1000001)
  else
    if (r_X3_isPerson g 20 a2) = 0 then
      (-1000001)
    else
      if a1 = a2 then
        (-1000001)
      else
        (r_X3_minutesTogether g 20 a1 a2)
set_option maxHeartbeats 4000000 in
set_option maxRecDepth 100000 in
theorem k_X11_met (l : Launch) {D : va_G} {cy : Nat → ClassId} {ad : Nat → Nat} {B0 : Nat} {f : wx_F} {P : va_W} (g : wx_M) (a1 : Int32) (a2 : Int32) (hg : wx_HB g 20) : Met l yX11_met wsX11_met ({ frames := 2, cells := 0, slots := 0, locals := 46 } : Room) (wx_Pc D cy ad B0 f P g [.ref (ad 0), .int a1, .int a2]) (QcRead (r_X11_met g a1 a2)) 0 0 (fun _ => False) := by
  refine wx_enterR (cc := cX11_met) (maxL := 3) (ty := .int) (own := RX11) (lv := [(0, .ref (ad 0)), (1, .int a1), (2, .int a2)]) (by decide) rfl rfl (Nat.le_of_ble_eq_true rfl) rfl ?_
  intro p e R s m args below meth c ls Qm hx hb hml hown hts hK hX hR hret hl
  have hi_X11 : ∀ w ∈ wsX110, w ∈ wsX11_met := by decide +kernel
  refine lv_aload_n hx hb dX11_met_0 rfl (lv_at hl 0 rfl) ?_
  refine wx_getr (t := 20) (C := RX11) (T := TX11) (N := 8) (ci := 10) (j := 2) hx hb hts hi_X11 hown hK hX (by decide) sh_X11_2 rfl (by decide) (hts (.fieldLink RX11 25 "SeenAgain" "house" "LSeenAgain$House;") (by decide +kernel)) (fun _ h9 => h9) dX11_met_1 ?_
  refine lv_iload_n hx hb dX11_met_4 rfl (lv_at hl 1 rfl) ?_
  refine wx_callr (va_runV (As := [.int a1]) (rest := []) ⟨hx, hb, hml, hown, hts⟩ (k_X3_isPerson l g 20 a1 (show wx_H 20 from Or.inl rfl)) (cwV 1 hts gX11_met_X3_isPerson rfl rfl rfl (by decide +kernel) (by rw [hR]; exact ⟨Nat.le_of_ble_eq_true rfl, Nat.le_of_ble_eq_true rfl⟩)) ⟨wx_Pc.blind, wx_recv hK hX (by decide) (sh_X3 (show wx_H 20 from Or.inl rfl)) rfl, (wx_Pc.pre hK hX).2⟩ rfl rfl hl.1 rfl (lv_room (Nat.le_of_ble_eq_true rfl)) dX11_met_5 ⟨Nat.zero_le _, Nat.zero_le _⟩) ?_
  refine lv_if_eq (tgt := 27) hx hb dX11_met_8 (by decide) (fun c_1 => ?_) (fun c_1 => ?_)
  · have b_2 : wx_b (r_X3_isPerson g 20 a1) 0 0 := by rw [c_1]; exact ⟨by decide, by decide⟩
    refine lv_ldc hx hb hown (hts (.constant RX11 55 (-1000001)) (by decide +kernel)) dX11_met_27 ?_
    exact hret _ _ _ dX11_met_29 rfl (by simp only [r_X11_met, if_pos c_1])
  · have b_3 : wx_b a1 0 3 := rf_X3_isPerson hg c_1
    refine lv_aload_n hx hb dX11_met_11 rfl (lv_at hl 0 rfl) ?_
    refine wx_getr (t := 20) (C := RX11) (T := TX11) (N := 8) (ci := 10) (j := 2) hx hb hts hi_X11 hown hK hX (by decide) sh_X11_2 rfl (by decide) (hts (.fieldLink RX11 25 "SeenAgain" "house" "LSeenAgain$House;") (by decide +kernel)) (fun _ h9 => h9) dX11_met_12 ?_
    refine lv_iload_n hx hb dX11_met_15 rfl (lv_at hl 2 rfl) ?_
    refine wx_callr (va_runV (As := [.int a2]) (rest := []) ⟨hx, hb, hml, hown, hts⟩ (k_X3_isPerson l g 20 a2 (show wx_H 20 from Or.inl rfl)) (cwV 1 hts gX11_met_X3_isPerson rfl rfl rfl (by decide +kernel) (by rw [hR]; exact ⟨Nat.le_of_ble_eq_true rfl, Nat.le_of_ble_eq_true rfl⟩)) ⟨wx_Pc.blind, wx_recv hK hX (by decide) (sh_X3 (show wx_H 20 from Or.inl rfl)) rfl, (wx_Pc.pre hK hX).2⟩ rfl rfl hl.1 rfl (lv_room (Nat.le_of_ble_eq_true rfl)) dX11_met_16 ⟨Nat.zero_le _, Nat.zero_le _⟩) ?_
    refine lv_if_eq (tgt := 27) hx hb dX11_met_19 (by decide) (fun c_4 => ?_) (fun c_4 => ?_)
    · have b_5 : wx_b (r_X3_isPerson g 20 a2) 0 0 := by rw [c_4]; exact ⟨by decide, by decide⟩
      refine lv_ldc hx hb hown (hts (.constant RX11 55 (-1000001)) (by decide +kernel)) dX11_met_27 ?_
      exact hret _ _ _ dX11_met_29 rfl (by simp only [r_X11_met, if_neg c_1, if_pos c_4])
    · have b_6 : wx_b a2 0 3 := rf_X3_isPerson hg c_4
      refine lv_iload_n hx hb dX11_met_22 rfl (lv_at hl 1 rfl) ?_
      refine lv_iload_n hx hb dX11_met_23 rfl (lv_at hl 2 rfl) ?_
      refine lv_icmp_ne (tgt := 30) hx hb dX11_met_24 (by decide) (fun c_7 => ?_) (fun c_7 => ?_)
      · refine lv_aload_n hx hb dX11_met_30 rfl (lv_at hl 0 rfl) ?_
        refine wx_getr (t := 20) (C := RX11) (T := TX11) (N := 8) (ci := 10) (j := 2) hx hb hts hi_X11 hown hK hX (by decide) sh_X11_2 rfl (by decide) (hts (.fieldLink RX11 25 "SeenAgain" "house" "LSeenAgain$House;") (by decide +kernel)) (fun _ h9 => h9) dX11_met_31 ?_
        refine lv_iload_n hx hb dX11_met_34 rfl (lv_at hl 1 rfl) ?_
        refine lv_iload_n hx hb dX11_met_35 rfl (lv_at hl 2 rfl) ?_
        refine wx_callr (va_runV (As := [.int a1, .int a2]) (rest := []) ⟨hx, hb, hml, hown, hts⟩ (k_X3_minutesTogether l g 20 a1 a2 (show wx_H 20 from Or.inl rfl) b_3 b_6) (cwV 2 hts gX11_met_X3_minutesTogether rfl rfl rfl (by decide +kernel) (by rw [hR]; exact ⟨Nat.le_of_ble_eq_true rfl, Nat.le_of_ble_eq_true rfl⟩)) ⟨wx_Pc.blind, wx_recv hK hX (by decide) (sh_X3 (show wx_H 20 from Or.inl rfl)) rfl, (wx_Pc.pre hK hX).2⟩ rfl rfl hl.1 rfl (lv_room (Nat.le_of_ble_eq_true rfl)) dX11_met_36 ⟨Nat.zero_le _, Nat.zero_le _⟩) ?_
        exact hret _ _ _ dX11_met_39 rfl (by simp only [r_X11_met, if_neg c_1, if_neg c_4, if_neg c_7])
      · refine lv_ldc hx hb hown (hts (.constant RX11 55 (-1000001)) (by decide +kernel)) dX11_met_27 ?_
        exact hret _ _ _ dX11_met_29 rfl (by simp only [r_X11_met, if_neg c_1, if_neg c_4, if_pos c_7])
def r_X11_soldOut (g : wx_M) (a1 : Int32) : Int32 :=
  if (r_X3_stands g 20) = 0 then
    (-1000002)
  else
    if (-1) ≤ a1 then
      (r_X3_soldOutAt g 20 a1)
    else
      (-1000001)
set_option maxHeartbeats 4000000 in
set_option maxRecDepth 100000 in
theorem k_X11_soldOut (l : Launch) {D : va_G} {cy : Nat → ClassId} {ad : Nat → Nat} {B0 : Nat} {f : wx_F} {P : va_W} (g : wx_M) (a1 : Int32) (hg : wx_HB g 20) : Met l yX11_soldOut wsX11_soldOut ({ frames := 4, cells := 0, slots := 0, locals := 89 } : Room) (wx_Pc D cy ad B0 f P g [.ref (ad 0), .int a1]) (QcRead (r_X11_soldOut g a1)) 0 0 (fun _ => False) := by
  refine wx_enterR (cc := cX11_soldOut) (maxL := 2) (ty := .int) (own := RX11) (lv := [(0, .ref (ad 0)), (1, .int a1)]) (by decide) rfl rfl (Nat.le_of_ble_eq_true rfl) rfl ?_
  intro p e R s m args below meth c ls Qm hx hb hml hown hts hK hX hR hret hl
  have hi_X11 : ∀ w ∈ wsX110, w ∈ wsX11_soldOut := by decide +kernel
  refine lv_aload_n hx hb dX11_soldOut_0 rfl (lv_at hl 0 rfl) ?_
  refine wx_getr (t := 20) (C := RX11) (T := TX11) (N := 8) (ci := 10) (j := 2) hx hb hts hi_X11 hown hK hX (by decide) sh_X11_2 rfl (by decide) (hts (.fieldLink RX11 25 "SeenAgain" "house" "LSeenAgain$House;") (by decide +kernel)) (fun _ h9 => h9) dX11_soldOut_1 ?_
  refine wx_callr (va_runV (As := []) (rest := []) ⟨hx, hb, hml, hown, hts⟩ (k_X3_stands l g 20 (show wx_H 20 from Or.inl rfl)) (cwV 0 hts gX11_soldOut_X3_stands rfl rfl rfl (by decide +kernel) (by rw [hR]; exact ⟨Nat.le_of_ble_eq_true rfl, Nat.le_of_ble_eq_true rfl⟩)) ⟨wx_Pc.blind, wx_recv hK hX (by decide) (sh_X3 (show wx_H 20 from Or.inl rfl)) rfl, (wx_Pc.pre hK hX).2⟩ rfl rfl hl.1 rfl (lv_room (Nat.le_of_ble_eq_true rfl)) dX11_soldOut_4 ⟨Nat.zero_le _, Nat.zero_le _⟩) ?_
  refine lv_if_ne (tgt := 13) hx hb dX11_soldOut_7 (by decide) (fun c_1 => ?_) (fun c_1 => ?_)
  · refine lv_iload_n hx hb dX11_soldOut_13 rfl (lv_at hl 1 rfl) ?_
    refine lv_iconst (v := (-1)) hx hb dX11_soldOut_14 (by decide) ?_
    refine lv_icmp_ge (tgt := 21) hx hb dX11_soldOut_15 (by decide) (fun c_2 => ?_) (fun c_2 => ?_)
    · have b_3 : wx_b a1 (-1) 2147483647 := wb_ge c_2 (wb_any _) (show wx_b (-1) (-1) (-1) from ⟨by decide, by decide⟩) (by decide) (by decide)
      refine lv_aload_n hx hb dX11_soldOut_21 rfl (lv_at hl 0 rfl) ?_
      refine wx_getr (t := 20) (C := RX11) (T := TX11) (N := 8) (ci := 10) (j := 2) hx hb hts hi_X11 hown hK hX (by decide) sh_X11_2 rfl (by decide) (hts (.fieldLink RX11 25 "SeenAgain" "house" "LSeenAgain$House;") (by decide +kernel)) (fun _ h9 => h9) dX11_soldOut_22 ?_
      refine lv_iload_n hx hb dX11_soldOut_25 rfl (lv_at hl 1 rfl) ?_
      refine wx_callr (va_runV (As := [.int a1]) (rest := []) ⟨hx, hb, hml, hown, hts⟩ (k_X3_soldOutAt l g 20 a1 (show wx_H 20 from Or.inl rfl) hg) (cwV 1 hts gX11_soldOut_X3_soldOutAt rfl rfl rfl (by decide +kernel) (by rw [hR]; exact ⟨Nat.le_of_ble_eq_true rfl, Nat.le_of_ble_eq_true rfl⟩)) ⟨wx_Pc.blind, wx_recv hK hX (by decide) (sh_X3 (show wx_H 20 from Or.inl rfl)) rfl, (wx_Pc.pre hK hX).2⟩ rfl rfl hl.1 rfl (lv_room (Nat.le_of_ble_eq_true rfl)) dX11_soldOut_26 ⟨Nat.zero_le _, Nat.zero_le _⟩) ?_
      exact hret _ _ _ dX11_soldOut_29 rfl (by simp only [r_X11_soldOut, if_neg c_1, if_pos c_2])
    · have b_4 : wx_b a1 (-2147483648) (-2) := wb_lt (wb_nle c_2) (wb_any _) (show wx_b (-1) (-1) (-1) from ⟨by decide, by decide⟩) (by decide) (by decide)
      refine lv_ldc hx hb hown (hts (.constant RX11 55 (-1000001)) (by decide +kernel)) dX11_soldOut_18 ?_
      exact hret _ _ _ dX11_soldOut_20 rfl (by simp only [r_X11_soldOut, if_neg c_1, if_neg c_2])
  · have b_5 : wx_b (r_X3_stands g 20) 0 0 := by rw [c_1]; exact ⟨by decide, by decide⟩
    refine lv_ldc hx hb hown (hts (.constant RX11 126 (-1000002)) (by decide +kernel)) dX11_soldOut_10 ?_
    exact hret _ _ _ dX11_soldOut_12 rfl (by simp only [r_X11_soldOut, if_pos c_1])
def r_X11_haunted (g : wx_M) : Int32 :=
  if (r_X3_stands g 20) = 0 then
    (-1000002)
  else
    (r_X3_mostHeld g 20)
set_option maxHeartbeats 4000000 in
set_option maxRecDepth 100000 in
theorem k_X11_haunted (l : Launch) {D : va_G} {cy : Nat → ClassId} {ad : Nat → Nat} {B0 : Nat} {f : wx_F} {P : va_W} (g : wx_M) (hg : wx_HB g 20) : Met l yX11_haunted wsX11_haunted ({ frames := 3, cells := 0, slots := 0, locals := 67 } : Room) (wx_Pc D cy ad B0 f P g [.ref (ad 0)]) (QcRead (r_X11_haunted g)) 0 0 (fun _ => False) := by
  refine wx_enterR (cc := cX11_haunted) (maxL := 1) (ty := .int) (own := RX11) (lv := [(0, .ref (ad 0))]) (by decide) rfl rfl (Nat.le_of_ble_eq_true rfl) rfl ?_
  intro p e R s m args below meth c ls Qm hx hb hml hown hts hK hX hR hret hl
  have hi_X11 : ∀ w ∈ wsX110, w ∈ wsX11_haunted := by decide +kernel
  refine lv_aload_n hx hb dX11_haunted_0 rfl (lv_at hl 0 rfl) ?_
  refine wx_getr (t := 20) (C := RX11) (T := TX11) (N := 8) (ci := 10) (j := 2) hx hb hts hi_X11 hown hK hX (by decide) sh_X11_2 rfl (by decide) (hts (.fieldLink RX11 25 "SeenAgain" "house" "LSeenAgain$House;") (by decide +kernel)) (fun _ h9 => h9) dX11_haunted_1 ?_
  refine wx_callr (va_runV (As := []) (rest := []) ⟨hx, hb, hml, hown, hts⟩ (k_X3_stands l g 20 (show wx_H 20 from Or.inl rfl)) (cwV 0 hts gX11_haunted_X3_stands rfl rfl rfl (by decide +kernel) (by rw [hR]; exact ⟨Nat.le_of_ble_eq_true rfl, Nat.le_of_ble_eq_true rfl⟩)) ⟨wx_Pc.blind, wx_recv hK hX (by decide) (sh_X3 (show wx_H 20 from Or.inl rfl)) rfl, (wx_Pc.pre hK hX).2⟩ rfl rfl hl.1 rfl (lv_room (Nat.le_of_ble_eq_true rfl)) dX11_haunted_4 ⟨Nat.zero_le _, Nat.zero_le _⟩) ?_
  refine lv_if_eq (tgt := 20) hx hb dX11_haunted_7 (by decide) (fun c_1 => ?_) (fun c_1 => ?_)
  · have b_2 : wx_b (r_X3_stands g 20) 0 0 := by rw [c_1]; exact ⟨by decide, by decide⟩
    refine lv_ldc hx hb hown (hts (.constant RX11 126 (-1000002)) (by decide +kernel)) dX11_haunted_20 ?_
    exact hret _ _ _ dX11_haunted_22 rfl (by simp only [r_X11_haunted, if_pos c_1])
  · refine lv_aload_n hx hb dX11_haunted_10 rfl (lv_at hl 0 rfl) ?_
    refine wx_getr (t := 20) (C := RX11) (T := TX11) (N := 8) (ci := 10) (j := 2) hx hb hts hi_X11 hown hK hX (by decide) sh_X11_2 rfl (by decide) (hts (.fieldLink RX11 25 "SeenAgain" "house" "LSeenAgain$House;") (by decide +kernel)) (fun _ h9 => h9) dX11_haunted_11 ?_
    refine wx_callr (va_runV (As := []) (rest := []) ⟨hx, hb, hml, hown, hts⟩ (k_X3_mostHeld l g 20 (show wx_H 20 from Or.inl rfl) hg) (cwV 0 hts gX11_haunted_X3_mostHeld rfl rfl rfl (by decide +kernel) (by rw [hR]; exact ⟨Nat.le_of_ble_eq_true rfl, Nat.le_of_ble_eq_true rfl⟩)) ⟨wx_Pc.blind, wx_recv hK hX (by decide) (sh_X3 (show wx_H 20 from Or.inl rfl)) rfl, (wx_Pc.pre hK hX).2⟩ rfl rfl hl.1 rfl (lv_room (Nat.le_of_ble_eq_true rfl)) dX11_haunted_14 ⟨Nat.zero_le _, Nat.zero_le _⟩) ?_
    refine lv_goto (tgt := 22) hx hb dX11_haunted_17 (by decide) ?_
    exact hret _ _ _ dX11_haunted_22 rfl (by simp only [r_X11_haunted, if_neg c_1])
def b_X11_followed_44 (g : wx_M) (a1 : Int32) (a2 : Int32) (a3 : Int32) (t_44 : Nat) (s_44 : Int32 × Int32) : Int32 × Int32 :=
  let x_16 := (r_X3_followedFrom g 20 a1 a2 (nI t_44))
  if x_16 ≤ s_44.1 then
    (s_44.1, s_44.2)
  else
    (x_16, (nI t_44))
def r_X11_followed (g : wx_M) (a1 : Int32) (a2 : Int32) (a3 : Int32) : Int32 :=
  if (r_X3_isVisitor g 20 a1) = 0 then
    (-1000001)
  else
    if (r_X3_isPerson g 20 a2) = 0 then
      (-1000001)
    else
      if a3 < 0 then
        (-1000001)
      else
        if a3 ≤ 1 then
          let s_44 := rep 8 (b_X11_followed_44 g a1 a2 a3) (0, (-1000000))
          if a3 = 0 then
            s_44.1
          else
            s_44.2
        else
          (-1000001)
set_option maxHeartbeats 4000000 in
set_option maxRecDepth 100000 in
theorem k_X11_followed (l : Launch) {D : va_G} {cy : Nat → ClassId} {ad : Nat → Nat} {B0 : Nat} {f : wx_F} {P : va_W} (g : wx_M) (a1 : Int32) (a2 : Int32) (a3 : Int32) (hg : wx_HB g 20) : Met l yX11_followed wsX11_followed ({ frames := 6, cells := 0, slots := 0, locals := 152 } : Room) (wx_Pc D cy ad B0 f P g [.ref (ad 0), .int a1, .int a2, .int a3]) (QcRead (r_X11_followed g a1 a2 a3)) 0 0 (fun _ => False) := by
  refine wx_enterR (cc := cX11_followed) (maxL := 8) (ty := .int) (own := RX11) (lv := [(0, .ref (ad 0)), (1, .int a1), (2, .int a2), (3, .int a3)]) (by decide) rfl rfl (Nat.le_of_ble_eq_true rfl) rfl ?_
  intro p e R s m args below meth c ls Qm hx hb hml hown hts hK hX hR hret hl
  have hi_X11 : ∀ w ∈ wsX110, w ∈ wsX11_followed := by decide +kernel
  refine lv_aload_n hx hb dX11_followed_0 rfl (lv_at hl 0 rfl) ?_
  refine wx_getr (t := 20) (C := RX11) (T := TX11) (N := 8) (ci := 10) (j := 2) hx hb hts hi_X11 hown hK hX (by decide) sh_X11_2 rfl (by decide) (hts (.fieldLink RX11 25 "SeenAgain" "house" "LSeenAgain$House;") (by decide +kernel)) (fun _ h9 => h9) dX11_followed_1 ?_
  refine lv_iload_n hx hb dX11_followed_4 rfl (lv_at hl 1 rfl) ?_
  refine wx_callr (va_runV (As := [.int a1]) (rest := []) ⟨hx, hb, hml, hown, hts⟩ (k_X3_isVisitor l g 20 a1 (show wx_H 20 from Or.inl rfl)) (cwV 1 hts gX11_followed_X3_isVisitor rfl rfl rfl (by decide +kernel) (by rw [hR]; exact ⟨Nat.le_of_ble_eq_true rfl, Nat.le_of_ble_eq_true rfl⟩)) ⟨wx_Pc.blind, wx_recv hK hX (by decide) (sh_X3 (show wx_H 20 from Or.inl rfl)) rfl, (wx_Pc.pre hK hX).2⟩ rfl rfl hl.1 rfl (lv_room (Nat.le_of_ble_eq_true rfl)) dX11_followed_5 ⟨Nat.zero_le _, Nat.zero_le _⟩) ?_
  refine lv_if_eq (tgt := 31) hx hb dX11_followed_8 (by decide) (fun c_1 => ?_) (fun c_1 => ?_)
  · have b_2 : wx_b (r_X3_isVisitor g 20 a1) 0 0 := by rw [c_1]; exact ⟨by decide, by decide⟩
    refine lv_ldc hx hb hown (hts (.constant RX11 55 (-1000001)) (by decide +kernel)) dX11_followed_31 ?_
    exact hret _ _ _ dX11_followed_33 rfl (by simp only [r_X11_followed, if_pos c_1])
  · have b_3 : wx_b a1 0 3 := rf_X3_isVisitor hg c_1
    refine lv_aload_n hx hb dX11_followed_11 rfl (lv_at hl 0 rfl) ?_
    refine wx_getr (t := 20) (C := RX11) (T := TX11) (N := 8) (ci := 10) (j := 2) hx hb hts hi_X11 hown hK hX (by decide) sh_X11_2 rfl (by decide) (hts (.fieldLink RX11 25 "SeenAgain" "house" "LSeenAgain$House;") (by decide +kernel)) (fun _ h9 => h9) dX11_followed_12 ?_
    refine lv_iload_n hx hb dX11_followed_15 rfl (lv_at hl 2 rfl) ?_
    refine wx_callr (va_runV (As := [.int a2]) (rest := []) ⟨hx, hb, hml, hown, hts⟩ (k_X3_isPerson l g 20 a2 (show wx_H 20 from Or.inl rfl)) (cwV 1 hts gX11_followed_X3_isPerson rfl rfl rfl (by decide +kernel) (by rw [hR]; exact ⟨Nat.le_of_ble_eq_true rfl, Nat.le_of_ble_eq_true rfl⟩)) ⟨wx_Pc.blind, wx_recv hK hX (by decide) (sh_X3 (show wx_H 20 from Or.inl rfl)) rfl, (wx_Pc.pre hK hX).2⟩ rfl rfl hl.1 rfl (lv_room (Nat.le_of_ble_eq_true rfl)) dX11_followed_16 ⟨Nat.zero_le _, Nat.zero_le _⟩) ?_
    refine lv_if_eq (tgt := 31) hx hb dX11_followed_19 (by decide) (fun c_4 => ?_) (fun c_4 => ?_)
    · have b_5 : wx_b (r_X3_isPerson g 20 a2) 0 0 := by rw [c_4]; exact ⟨by decide, by decide⟩
      refine lv_ldc hx hb hown (hts (.constant RX11 55 (-1000001)) (by decide +kernel)) dX11_followed_31 ?_
      exact hret _ _ _ dX11_followed_33 rfl (by simp only [r_X11_followed, if_neg c_1, if_pos c_4])
    · have b_6 : wx_b a2 0 3 := rf_X3_isPerson hg c_4
      refine lv_iload_n hx hb dX11_followed_22 rfl (lv_at hl 3 rfl) ?_
      refine lv_if_lt (tgt := 31) hx hb dX11_followed_23 (by decide) (fun c_7 => ?_) (fun c_7 => ?_)
      · have b_8 : wx_b a3 (-2147483648) (-1) := wb_lt c_7 (wb_any _) (show wx_b 0 0 0 from ⟨by decide, by decide⟩) (by decide) (by decide)
        refine lv_ldc hx hb hown (hts (.constant RX11 55 (-1000001)) (by decide +kernel)) dX11_followed_31 ?_
        exact hret _ _ _ dX11_followed_33 rfl (by simp only [r_X11_followed, if_neg c_1, if_neg c_4, if_pos c_7])
      · have b_9 : wx_b a3 0 2147483647 := wb_ge (wb_nlt c_7) (wb_any _) (show wx_b 0 0 0 from ⟨by decide, by decide⟩) (by decide) (by decide)
        refine lv_iload_n hx hb dX11_followed_26 rfl (lv_at hl 3 rfl) ?_
        refine lv_iconst (v := 1) hx hb dX11_followed_27 (by decide) ?_
        refine lv_icmp_le (tgt := 34) hx hb dX11_followed_28 (by decide) (fun c_10 => ?_) (fun c_10 => ?_)
        · have b_11 : wx_b a3 0 1 := wb_le c_10 b_9 (show wx_b 1 1 1 from ⟨by decide, by decide⟩) (by decide) (by decide)
          refine lv_iconst (v := 0) hx hb dX11_followed_34 (by decide) ?_
          refine lv_istore (lv' := [(4, .int 0), (0, .ref (ad 0)), (1, .int a1), (2, .int a2), (3, .int a3)]) hx hb dX11_followed_35 hl (by decide) rfl (fun ls hl => ?_)
          refine lv_ldc hx hb hown (hts (.constant RX11 245 (-1000000)) (by decide +kernel)) dX11_followed_37 ?_
          refine lv_istore (lv' := [(5, .int (-1000000)), (4, .int 0), (0, .ref (ad 0)), (1, .int a1), (2, .int a2), (3, .int a3)]) hx hb dX11_followed_39 hl (by decide) rfl (fun ls hl => ?_)
          refine lv_iconst (v := 0) hx hb dX11_followed_41 (by decide) ?_
          refine lv_istore (lv' := [(6, .int 0), (5, .int (-1000000)), (4, .int 0), (0, .ref (ad 0)), (1, .int a1), (2, .int a2), (3, .int a3)]) hx hb dX11_followed_42 hl (by decide) rfl (fun ls hl => ?_)
          have lp_44 : ∀ (n t_44 : Nat) (s_44 : Int32 × Int32) (ls : Array Slot), t_44 ≤ 8 → 8 + 1 ≤ t_44 + n → s_44 = rep t_44 (b_X11_followed_44 g a1 a2 a3) (0, (-1000000)) → lv_has ls 8 [(6, .int (nI t_44)), (5, .int s_44.2), (4, .int s_44.1), (0, .ref (ad 0)), (1, .int a1), (2, .int a2), (3, .int a3)] → W p l e R s m args below meth c s.heap [] 0 0 Qm (F0 m 44 ls []) := by
            intro n
            induction n with
            | zero => intro t_44 s_44 ls h1 h2; exact absurd h2 (by omega)
            | succ n ih_44 =>
              intro t_44 s_44 ls ht_44 hn_44 es_44 hl
              refine lv_iload hx hb dX11_followed_44 (lv_at hl 0 rfl) ?_
              refine lv_bipush (v := 8) hx hb dX11_followed_46 (by decide) ?_
              refine lv_icmp_ge (tgt := 85) hx hb dX11_followed_48 (by decide) (fun c_12 => ?_) (fun c_12 => ?_)
              · have et_44 : t_44 = 8 := Nat.le_antisymm ht_44 (by have h9 := wx_dn (by omega) c_12; have h8 : (8 : Int32).toNatClampNeg = 8 := (by decide); omega)
                subst et_44
                refine lv_iload_n hx hb dX11_followed_85 rfl (lv_at hl 6 rfl) ?_
                refine lv_if_ne (tgt := 94) hx hb dX11_followed_86 (by decide) (fun c_13 => ?_) (fun c_13 => ?_)
                · have b_14 : wx_b a3 1 1 := wb_nel c_13 b_11 (by decide)
                  refine lv_iload hx hb dX11_followed_94 (lv_at hl 1 rfl) ?_
                  exact hret _ _ _ dX11_followed_96 rfl (by simp only [r_X11_followed, if_neg c_1, if_neg c_4, if_neg c_7, if_pos c_10, if_neg c_13, ← es_44])
                · have b_15 : wx_b a3 0 0 := by rw [c_13]; exact ⟨by decide, by decide⟩
                  refine lv_iload hx hb dX11_followed_89 (lv_at hl 2 rfl) ?_
                  refine lv_goto (tgt := 96) hx hb dX11_followed_91 (by decide) ?_
                  exact hret _ _ _ dX11_followed_96 rfl (by simp only [r_X11_followed, if_neg c_1, if_neg c_4, if_neg c_7, if_pos c_10, if_pos c_13, ← es_44])
              · have hlt_44 : t_44 < 8 := by have h9 := wx_up (by omega) c_12; have h8 : (8 : Int32).toNatClampNeg = 8 := (by decide); omega
                have bt_44 : wx_b (nI (t_44)) 0 7 := wb_nI (n := 7) (by omega) (by decide)
                refine lv_aload_n hx hb dX11_followed_51 rfl (lv_at hl 3 rfl) ?_
                refine wx_getr (t := 20) (C := RX11) (T := TX11) (N := 8) (ci := 10) (j := 2) hx hb hts hi_X11 hown hK hX (by decide) sh_X11_2 rfl (by decide) (hts (.fieldLink RX11 25 "SeenAgain" "house" "LSeenAgain$House;") (by decide +kernel)) (fun _ h9 => h9) dX11_followed_52 ?_
                refine lv_iload_n hx hb dX11_followed_55 rfl (lv_at hl 4 rfl) ?_
                refine lv_iload_n hx hb dX11_followed_56 rfl (lv_at hl 5 rfl) ?_
                refine lv_iload hx hb dX11_followed_57 (lv_at hl 0 rfl) ?_
                refine wx_callr (va_runV (As := [.int a1, .int a2, .int (nI t_44)]) (rest := []) ⟨hx, hb, hml, hown, hts⟩ (k_X3_followedFrom l g 20 a1 a2 (nI t_44) (show wx_H 20 from Or.inl rfl) b_3 b_6 bt_44 hg) (cwV 3 hts gX11_followed_X3_followedFrom rfl rfl rfl (by decide +kernel) (by rw [hR]; exact ⟨Nat.le_of_ble_eq_true rfl, Nat.le_of_ble_eq_true rfl⟩)) ⟨wx_Pc.blind, wx_recv hK hX (by decide) (sh_X3 (show wx_H 20 from Or.inl rfl)) rfl, (wx_Pc.pre hK hX).2⟩ rfl rfl hl.1 rfl (lv_room (Nat.le_of_ble_eq_true rfl)) dX11_followed_59 ⟨Nat.zero_le _, Nat.zero_le _⟩) ?_
                refine lv_topi (fun x_16 ex_16 => ?_)
                refine lv_istore (lv' := [(7, .int x_16), (6, .int (nI t_44)), (5, .int s_44.2), (4, .int s_44.1), (0, .ref (ad 0)), (1, .int a1), (2, .int a2), (3, .int a3)]) hx hb dX11_followed_62 hl (by decide) rfl (fun ls hl => ?_)
                refine lv_iload hx hb dX11_followed_64 (lv_at hl 0 rfl) ?_
                refine lv_iload hx hb dX11_followed_66 (lv_at hl 3 rfl) ?_
                refine lv_icmp_le (tgt := 79) hx hb dX11_followed_68 (by decide) (fun c_17 => ?_) (fun c_17 => ?_)
                · refine lv_iinc (v := nI (t_44 + 1)) (lv' := [(6, .int (nI (t_44 + 1))), (7, .int x_16), (5, .int s_44.2), (4, .int s_44.1), (0, .ref (ad 0)), (1, .int a1), (2, .int a2), (3, .int a3)]) hx hb dX11_followed_79 hl (k := 1) rfl (wx_inc _) (by decide) rfl (fun ls hl => ?_)
                  refine lv_goto (tgt := 44) hx hb dX11_followed_82 (by decide) ?_
                  have hF_18 : (b_X11_followed_44 g a1 a2 a3) t_44 s_44 = (s_44.1, s_44.2) := (by subst ex_16; simp only [b_X11_followed_44, if_pos c_17])
                  exact ih_44 (t_44 + 1) (s_44.1, s_44.2) ls hlt_44 (by omega) (by rw [rep_succ, ← es_44, hF_18]) (lv_sub hl [0, 2, 3, 4, 5, 6, 7] rfl)
                · have b_19 : wx_b s_44.1 (-2147483648) 2147483646 := wb_lt (wb_nle c_17) (wb_any _) (wb_any _) (by decide) (by decide)
                  have b_20 : wx_b x_16 (-2147483647) 2147483647 := wb_gt (wb_nle c_17) (wb_any _) (wb_any _) (by decide) (by decide)
                  refine lv_iload hx hb dX11_followed_71 (lv_at hl 0 rfl) ?_
                  refine lv_istore (lv' := [(4, .int x_16), (7, .int x_16), (6, .int (nI t_44)), (5, .int s_44.2), (0, .ref (ad 0)), (1, .int a1), (2, .int a2), (3, .int a3)]) hx hb dX11_followed_73 hl (by decide) rfl (fun ls hl => ?_)
                  refine lv_iload hx hb dX11_followed_75 (lv_at hl 2 rfl) ?_
                  refine lv_istore (lv' := [(5, .int (nI t_44)), (4, .int x_16), (7, .int x_16), (6, .int (nI t_44)), (0, .ref (ad 0)), (1, .int a1), (2, .int a2), (3, .int a3)]) hx hb dX11_followed_77 hl (by decide) rfl (fun ls hl => ?_)
                  refine lv_iinc (v := nI (t_44 + 1)) (lv' := [(6, .int (nI (t_44 + 1))), (5, .int (nI t_44)), (4, .int x_16), (7, .int x_16), (0, .ref (ad 0)), (1, .int a1), (2, .int a2), (3, .int a3)]) hx hb dX11_followed_79 hl (k := 3) rfl (wx_inc _) (by decide) rfl (fun ls hl => ?_)
                  refine lv_goto (tgt := 44) hx hb dX11_followed_82 (by decide) ?_
                  have hF_21 : (b_X11_followed_44 g a1 a2 a3) t_44 s_44 = (x_16, (nI t_44)) := (by subst ex_16; simp only [b_X11_followed_44, if_neg c_17])
                  exact ih_44 (t_44 + 1) (x_16, (nI t_44)) ls hlt_44 (by omega) (by rw [rep_succ, ← es_44, hF_21]) (lv_sub hl [0, 1, 2, 4, 5, 6, 7] rfl)
          exact lp_44 (8 + 1) 0 (0, (-1000000)) ls (Nat.zero_le _) (by omega) rfl (lv_sub hl [0, 1, 2, 3, 4, 5, 6] rfl)
        · have b_22 : wx_b a3 2 2147483647 := wb_gt (wb_nle c_10) b_9 (show wx_b 1 1 1 from ⟨by decide, by decide⟩) (by decide) (by decide)
          refine lv_ldc hx hb hown (hts (.constant RX11 55 (-1000001)) (by decide +kernel)) dX11_followed_31 ?_
          exact hret _ _ _ dX11_followed_33 rfl (by simp only [r_X11_followed, if_neg c_1, if_neg c_4, if_neg c_7, if_neg c_10])
def f_X11_nextSeat (g : wx_M) (a1 : Int32) (a2 : Int32) (a3 : Int32) : wx_M × Int32 :=
  if (r_X3_isVisitor g 20 a1) = 0 then
    (g, (-1000001))
  else
    if (r_X3_isRoom g 20 a2) = 0 then
      (g, (-1000001))
    else
      if (r_X11_isMinuteSet a3) = 0 then
        (g, (-1000001))
      else
        let z_9 := f_X3_nextSeatFor g 20 a1 a2 a3
        (z_9.1, z_9.2)
set_option maxHeartbeats 4000000 in
set_option maxRecDepth 100000 in
theorem k_X11_nextSeat (l : Launch) {D : va_G} {cy : Nat → ClassId} {ad : Nat → Nat} {B0 : Nat} {f : wx_F} {P : va_W} (g : wx_M) (a1 : Int32) (a2 : Int32) (a3 : Int32) (hg : wx_HB g 20) : Met l yX11_nextSeat wsX11_nextSeat ({ frames := 6, cells := 0, slots := 0, locals := 150 } : Room) (wx_Pc D cy ad B0 f P g [.ref (ad 0), .int a1, .int a2, .int a3]) (wx_Qe D cy ad B0 f P (f_X11_nextSeat g a1 a2 a3).1 (some (.int (f_X11_nextSeat g a1 a2 a3).2))) 0 0 (fun q => B0 ≤ q) := by
  refine wx_enterE (cc := cX11_nextSeat) (maxL := 4) (ty := .int) (own := RX11) (lv := [(0, .ref (ad 0)), (1, .int a1), (2, .int a2), (3, .int a3)]) (by decide) rfl rfl (Nat.le_of_ble_eq_true rfl) rfl ?_
  intro p e R s m args below meth c ls Qm hx hb hml hown hts hK hX hS hR hret hl
  have hi_X11 : ∀ w ∈ wsX110, w ∈ wsX11_nextSeat := by decide +kernel
  refine lv_aload_n hx hb dX11_nextSeat_0 rfl (lv_at hl 0 rfl) ?_
  refine wx_getr (t := 20) (C := RX11) (T := TX11) (N := 8) (ci := 10) (j := 2) hx hb hts hi_X11 hown hK hX (by decide) sh_X11_2 rfl (by decide) (hts (.fieldLink RX11 25 "SeenAgain" "house" "LSeenAgain$House;") (by decide +kernel)) (fun _ h9 => h9) dX11_nextSeat_1 ?_
  refine lv_iload_n hx hb dX11_nextSeat_4 rfl (lv_at hl 1 rfl) ?_
  refine wx_callr (va_runV (As := [.int a1]) (rest := []) ⟨hx, hb, hml, hown, hts⟩ (k_X3_isVisitor l g 20 a1 (show wx_H 20 from Or.inl rfl)) (cwV 1 hts gX11_nextSeat_X3_isVisitor rfl rfl rfl (by decide +kernel) (by rw [hR]; exact ⟨Nat.le_of_ble_eq_true rfl, Nat.le_of_ble_eq_true rfl⟩)) ⟨wx_Pc.blind, wx_recv hK hX (by decide) (sh_X3 (show wx_H 20 from Or.inl rfl)) rfl, (wx_Pc.pre hK hX).2⟩ rfl rfl hl.1 rfl (lv_room (Nat.le_of_ble_eq_true rfl)) dX11_nextSeat_5 ⟨Nat.zero_le _, Nat.zero_le _⟩) ?_
  refine lv_if_eq (tgt := 29) hx hb dX11_nextSeat_8 (by decide) (fun c_1 => ?_) (fun c_1 => ?_)
  · have b_2 : wx_b (r_X3_isVisitor g 20 a1) 0 0 := by rw [c_1]; exact ⟨by decide, by decide⟩
    refine lv_ldc hx hb hown (hts (.constant RX11 55 (-1000001)) (by decide +kernel)) dX11_nextSeat_29 ?_
    exact hret _ _ _ _ _ _ dX11_nextSeat_31 rfl hX hS (by simp only [f_X11_nextSeat, if_pos c_1])
  · have b_3 : wx_b a1 0 3 := rf_X3_isVisitor hg c_1
    refine lv_aload_n hx hb dX11_nextSeat_11 rfl (lv_at hl 0 rfl) ?_
    refine wx_getr (t := 20) (C := RX11) (T := TX11) (N := 8) (ci := 10) (j := 2) hx hb hts hi_X11 hown hK hX (by decide) sh_X11_2 rfl (by decide) (hts (.fieldLink RX11 25 "SeenAgain" "house" "LSeenAgain$House;") (by decide +kernel)) (fun _ h9 => h9) dX11_nextSeat_12 ?_
    refine lv_iload_n hx hb dX11_nextSeat_15 rfl (lv_at hl 2 rfl) ?_
    refine wx_callr (va_runV (As := [.int a2]) (rest := []) ⟨hx, hb, hml, hown, hts⟩ (k_X3_isRoom l g 20 a2 (show wx_H 20 from Or.inl rfl)) (cwV 1 hts gX11_nextSeat_X3_isRoom rfl rfl rfl (by decide +kernel) (by rw [hR]; exact ⟨Nat.le_of_ble_eq_true rfl, Nat.le_of_ble_eq_true rfl⟩)) ⟨wx_Pc.blind, wx_recv hK hX (by decide) (sh_X3 (show wx_H 20 from Or.inl rfl)) rfl, (wx_Pc.pre hK hX).2⟩ rfl rfl hl.1 rfl (lv_room (Nat.le_of_ble_eq_true rfl)) dX11_nextSeat_16 ⟨Nat.zero_le _, Nat.zero_le _⟩) ?_
    refine lv_if_eq (tgt := 29) hx hb dX11_nextSeat_19 (by decide) (fun c_4 => ?_) (fun c_4 => ?_)
    · have b_5 : wx_b (r_X3_isRoom g 20 a2) 0 0 := by rw [c_4]; exact ⟨by decide, by decide⟩
      refine lv_ldc hx hb hown (hts (.constant RX11 55 (-1000001)) (by decide +kernel)) dX11_nextSeat_29 ?_
      exact hret _ _ _ _ _ _ dX11_nextSeat_31 rfl hX hS (by simp only [f_X11_nextSeat, if_neg c_1, if_pos c_4])
    · have b_6 : wx_b a2 0 5 := rf_X3_isRoom hg c_4
      refine lv_iload_n hx hb dX11_nextSeat_22 rfl (lv_at hl 3 rfl) ?_
      refine wx_callr (va_runS (As := [.int a3]) (rest := []) ⟨hx, hb, hml, hown, hts⟩ (k_X11_isMinuteSet l g a3) (va_cwS 1 hts gX11_nextSeat_X11_isMinuteSet rfl rfl rfl (by decide +kernel) (by rw [hR]; exact ⟨Nat.le_of_ble_eq_true rfl, Nat.le_of_ble_eq_true rfl⟩)) (wx_Pc.pre hK hX) rfl rfl hl.1 rfl (lv_room (Nat.le_of_ble_eq_true rfl)) dX11_nextSeat_23 ⟨Nat.zero_le _, Nat.zero_le _⟩) ?_
      refine lv_if_ne (tgt := 32) hx hb dX11_nextSeat_26 (by decide) (fun c_7 => ?_) (fun c_7 => ?_)
      · have b_8 : wx_b a3 0 255 := rf_X11_isMinuteSet  c_7
        refine lv_aload_n hx hb dX11_nextSeat_32 rfl (lv_at hl 0 rfl) ?_
        refine wx_getr (t := 20) (C := RX11) (T := TX11) (N := 8) (ci := 10) (j := 2) hx hb hts hi_X11 hown hK hX (by decide) sh_X11_2 rfl (by decide) (hts (.fieldLink RX11 25 "SeenAgain" "house" "LSeenAgain$House;") (by decide +kernel)) (fun _ h9 => h9) dX11_nextSeat_33 ?_
        refine lv_iload_n hx hb dX11_nextSeat_36 rfl (lv_at hl 1 rfl) ?_
        refine lv_iload_n hx hb dX11_nextSeat_37 rfl (lv_at hl 2 rfl) ?_
        refine lv_iload_n hx hb dX11_nextSeat_38 rfl (lv_at hl 3 rfl) ?_
        refine wx_callei (va_runV (As := [.int a1, .int a2, .int a3]) (rest := []) ⟨hx, hb, hml, hown, hts⟩ (k_X3_nextSeatFor l g 20 a1 a2 a3 (show wx_H 20 from Or.inl rfl) b_3 hg) (cwV 3 hts gX11_nextSeat_X3_nextSeatFor rfl rfl rfl (by decide +kernel) (by rw [hR]; exact ⟨Nat.le_of_ble_eq_true rfl, Nat.le_of_ble_eq_true rfl⟩)) ⟨wx_Pc.blind, wx_recv hK hX (by decide) (sh_X3 (show wx_H 20 from Or.inl rfl)) rfl, (wx_Pc.pre hK hX).2⟩ rfl rfl hl.1 rfl (lv_room (Nat.le_of_ble_eq_true rfl)) dX11_nextSeat_39 ⟨Nat.zero_le _, Nat.zero_le _⟩) hS (fun H locs hX hS => ?_)
        obtain ⟨z_9, ez_9⟩ : ∃ z, z = f_X3_nextSeatFor g 20 a1 a2 a3 := ⟨_, rfl⟩
        rw [← ez_9] at hX; rw [← ez_9]
        exact hret _ _ _ _ _ _ dX11_nextSeat_42 rfl hX hS (by subst ez_9; simp only [f_X11_nextSeat, if_neg c_1, if_neg c_4, if_neg c_7])
      · have b_10 : wx_b (r_X11_isMinuteSet a3) 0 0 := by rw [c_7]; exact ⟨by decide, by decide⟩
        refine lv_ldc hx hb hown (hts (.constant RX11 55 (-1000001)) (by decide +kernel)) dX11_nextSeat_29 ?_
        exact hret _ _ _ _ _ _ dX11_nextSeat_31 rfl hX hS (by simp only [f_X11_nextSeat, if_neg c_1, if_neg c_4, if_pos c_7])
def b_X11_account_78 (g : wx_M) (a1 : Int32) (a2 : Int32) (a3 : Int32) (a4 : Int32) (k_8 : Nat) (t_78 : Nat) (s_78 : Int32) : (Int32) ⊕ (wx_M × Int32) :=
  let x_15 := (g (k_8 + 8) (a4 + (nI t_78)).toNatClampNeg)
  if x_15 = (-1) then
    .inl s_78
  else
    if (r_X3_isRoom g 20 x_15) = 0 then
      .inr ((g, (-1000001)))
    else
      if (r_X3_canBeIn g 20 a1 a2 x_15 (nI t_78)) = 0 then
        let x_24 := (s_78 ||| (1 <<< ((nI t_78) &&& 31)))
        .inl x_24
      else
        .inl s_78
def f_X11_account (g : wx_M) (a1 : Int32) (a2 : Int32) (a3 : Int32) (a4 : Int32) : wx_M × Int32 :=
  if (r_X3_isVisitorSet g 20 a1) = 0 then
    (g, (-1000001))
  else
    if (r_X3_isPerson g 20 a2) = 0 then
      (g, (-1000001))
    else
      if (r_X11_isRow a3) = 0 then
        (g, (-1000001))
      else
        let k_8 := 2 + a3.toNatClampNeg
        if (g k_8 3) = 0 then
          if (r_X5_hasItems g k_8 a4 8) = 0 then
            let z_30 := f_X11_found g 2
            (z_30.1, z_30.2)
          else
            (match repX 8 (b_X11_account_78 g a1 a2 a3 a4 k_8) (0 : Int32) with
            | .inl s_78 =>
              let z_14 := f_X11_answered g s_78
              (z_14.1, z_14.2)
            | .inr r9 => r9)
        else
          let z_31 := f_X11_found g 1
          (z_31.1, z_31.2)
set_option maxHeartbeats 4000000 in
set_option maxRecDepth 100000 in
theorem k_X11_account (l : Launch) {D : va_G} {cy : Nat → ClassId} {ad : Nat → Nat} {B0 : Nat} {f : wx_F} {P : va_W} (g : wx_M) (a1 : Int32) (a2 : Int32) (a3 : Int32) (a4 : Int32) (hg : wx_HB g 20) (hsz : wx_SZ g) : Met l yX11_account wsX11_account ({ frames := 4, cells := 0, slots := 0, locals := 93 } : Room) (wx_Pc D cy ad B0 f P g [.ref (ad 0), .int a1, .int a2, .int a3, .int a4]) (wx_Qe D cy ad B0 f P (f_X11_account g a1 a2 a3 a4).1 (some (.int (f_X11_account g a1 a2 a3 a4).2))) 0 0 (fun q => B0 ≤ q) := by
  refine wx_enterE (cc := cX11_account) (maxL := 9) (ty := .int) (own := RX11) (lv := [(0, .ref (ad 0)), (1, .int a1), (2, .int a2), (3, .int a3), (4, .int a4)]) (by decide) rfl rfl (Nat.le_of_ble_eq_true rfl) rfl ?_
  intro p e R s m args below meth c ls Qm hx hb hml hown hts hK hX hS hR hret hl
  have hi_X11 : ∀ w ∈ wsX110, w ∈ wsX11_account := by decide +kernel
  have hi_X5 : ∀ w ∈ wsX50, w ∈ wsX11_account := by decide +kernel
  refine lv_aload_n hx hb dX11_account_0 rfl (lv_at hl 0 rfl) ?_
  refine wx_getr (t := 20) (C := RX11) (T := TX11) (N := 8) (ci := 10) (j := 2) hx hb hts hi_X11 hown hK hX (by decide) sh_X11_2 rfl (by decide) (hts (.fieldLink RX11 25 "SeenAgain" "house" "LSeenAgain$House;") (by decide +kernel)) (fun _ h9 => h9) dX11_account_1 ?_
  refine lv_iload_n hx hb dX11_account_4 rfl (lv_at hl 1 rfl) ?_
  refine wx_callr (va_runV (As := [.int a1]) (rest := []) ⟨hx, hb, hml, hown, hts⟩ (k_X3_isVisitorSet l g 20 a1 (show wx_H 20 from Or.inl rfl)) (cwV 1 hts gX11_account_X3_isVisitorSet rfl rfl rfl (by decide +kernel) (by rw [hR]; exact ⟨Nat.le_of_ble_eq_true rfl, Nat.le_of_ble_eq_true rfl⟩)) ⟨wx_Pc.blind, wx_recv hK hX (by decide) (sh_X3 (show wx_H 20 from Or.inl rfl)) rfl, (wx_Pc.pre hK hX).2⟩ rfl rfl hl.1 rfl (lv_room (Nat.le_of_ble_eq_true rfl)) dX11_account_5 ⟨Nat.zero_le _, Nat.zero_le _⟩) ?_
  refine lv_if_eq (tgt := 29) hx hb dX11_account_8 (by decide) (fun c_1 => ?_) (fun c_1 => ?_)
  · have b_2 : wx_b (r_X3_isVisitorSet g 20 a1) 0 0 := by rw [c_1]; exact ⟨by decide, by decide⟩
    refine lv_ldc hx hb hown (hts (.constant RX11 55 (-1000001)) (by decide +kernel)) dX11_account_29 ?_
    exact hret _ _ _ _ _ _ dX11_account_31 rfl hX hS (by simp only [f_X11_account, if_pos c_1])
  · refine lv_aload_n hx hb dX11_account_11 rfl (lv_at hl 0 rfl) ?_
    refine wx_getr (t := 20) (C := RX11) (T := TX11) (N := 8) (ci := 10) (j := 2) hx hb hts hi_X11 hown hK hX (by decide) sh_X11_2 rfl (by decide) (hts (.fieldLink RX11 25 "SeenAgain" "house" "LSeenAgain$House;") (by decide +kernel)) (fun _ h9 => h9) dX11_account_12 ?_
    refine lv_iload_n hx hb dX11_account_15 rfl (lv_at hl 2 rfl) ?_
    refine wx_callr (va_runV (As := [.int a2]) (rest := []) ⟨hx, hb, hml, hown, hts⟩ (k_X3_isPerson l g 20 a2 (show wx_H 20 from Or.inl rfl)) (cwV 1 hts gX11_account_X3_isPerson rfl rfl rfl (by decide +kernel) (by rw [hR]; exact ⟨Nat.le_of_ble_eq_true rfl, Nat.le_of_ble_eq_true rfl⟩)) ⟨wx_Pc.blind, wx_recv hK hX (by decide) (sh_X3 (show wx_H 20 from Or.inl rfl)) rfl, (wx_Pc.pre hK hX).2⟩ rfl rfl hl.1 rfl (lv_room (Nat.le_of_ble_eq_true rfl)) dX11_account_16 ⟨Nat.zero_le _, Nat.zero_le _⟩) ?_
    refine lv_if_eq (tgt := 29) hx hb dX11_account_19 (by decide) (fun c_3 => ?_) (fun c_3 => ?_)
    · have b_4 : wx_b (r_X3_isPerson g 20 a2) 0 0 := by rw [c_3]; exact ⟨by decide, by decide⟩
      refine lv_ldc hx hb hown (hts (.constant RX11 55 (-1000001)) (by decide +kernel)) dX11_account_29 ?_
      exact hret _ _ _ _ _ _ dX11_account_31 rfl hX hS (by simp only [f_X11_account, if_neg c_1, if_pos c_3])
    · have b_5 : wx_b a2 0 3 := rf_X3_isPerson hg c_3
      refine lv_iload_n hx hb dX11_account_22 rfl (lv_at hl 3 rfl) ?_
      refine wx_callr (va_runS (As := [.int a3]) (rest := []) ⟨hx, hb, hml, hown, hts⟩ (k_X11_isRow l g a3) (va_cwS 1 hts gX11_account_X11_isRow rfl rfl rfl (by decide +kernel) (by rw [hR]; exact ⟨Nat.le_of_ble_eq_true rfl, Nat.le_of_ble_eq_true rfl⟩)) (wx_Pc.pre hK hX) rfl rfl hl.1 rfl (lv_room (Nat.le_of_ble_eq_true rfl)) dX11_account_23 ⟨Nat.zero_le _, Nat.zero_le _⟩) ?_
      refine lv_if_ne (tgt := 32) hx hb dX11_account_26 (by decide) (fun c_6 => ?_) (fun c_6 => ?_)
      · have b_7 : wx_b a3 0 7 := rf_X11_isRow  c_6
        refine lv_aload_n hx hb dX11_account_32 rfl (lv_at hl 0 rfl) ?_
        refine wx_getr (t := 1) (C := RX11) (T := TX11) (N := 8) (ci := 10) (j := 0) hx hb hts hi_X11 hown hK hX (by decide) sh_X11_0 rfl (by decide) (hts (.fieldLink RX11 11 "SeenAgain" "rows" "[LSeenAgain$Row;") (by decide +kernel)) (fun _ h9 => h9) dX11_account_33 ?_
        refine lv_iload_n hx hb dX11_account_36 rfl (lv_at hl 3 rfl) ?_
        refine wx_qald (C := "SeenAgain$Row") hx hb hK hX (by decide) sq_1 rfl (wb_in b_7 (by decide) (by decide)) dX11_account_37 ?_
        obtain ⟨k_8, ek_8⟩ : ∃ z : Nat, z = 2 + a3.toNatClampNeg := ⟨_, rfl⟩
        have hkk_8 : wx_Rk k_8 := ⟨by omega, by have := wb_cl (n := 7) b_7 (by decide); omega⟩
        rw [← ek_8]
        refine lv_astore (lv' := [(5, .ref (ad k_8)), (0, .ref (ad 0)), (1, .int a1), (2, .int a2), (3, .int a3), (4, .int a4)]) hx hb dX11_account_38 hl (by decide) rfl (fun ls hl => ?_)
        refine lv_aload hx hb dX11_account_40 (lv_at hl 0 rfl) ?_
        refine wx_geti (C := RX5) (T := TX5) (N := 4) (ci := 5) (j := 3) hx hb hts hi_X5 hown hK hX (by have := (show wx_Rk k_8 from hkk_8).2; omega) (sh_X5_3 (show wx_Rk k_8 from hkk_8)) rfl (by decide) (hts (.fieldLink RX11 67 "SeenAgain$Row" "missing" "Z") (by decide +kernel)) (fun _ h9 => h9) dX11_account_42 ?_
        refine lv_if_eq (tgt := 54) hx hb dX11_account_45 (by decide) (fun c_9 => ?_) (fun c_9 => ?_)
        · have b_10 : wx_b (g k_8 3) 0 0 := by rw [c_9]; exact ⟨by decide, by decide⟩
          refine lv_aload hx hb dX11_account_54 (lv_at hl 0 rfl) ?_
          refine lv_iload hx hb dX11_account_56 (lv_at hl 5 rfl) ?_
          refine lv_bipush (v := 8) hx hb dX11_account_58 (by decide) ?_
          refine wx_callr (va_runV (As := [.int a4, .int 8]) (rest := []) ⟨hx, hb, hml, hown, hts⟩ (k_X5_hasItems l g k_8 a4 8 (show wx_Rk k_8 from hkk_8)) (cwV 2 hts gX11_account_X5_hasItems rfl rfl rfl (by decide +kernel) (by rw [hR]; exact ⟨Nat.le_of_ble_eq_true rfl, Nat.le_of_ble_eq_true rfl⟩)) ⟨wx_Pc.blind, wx_recv hK hX (by have := (show wx_Rk k_8 from hkk_8).2; omega) (sh_X5 (show wx_Rk k_8 from hkk_8)) rfl, (wx_Pc.pre hK hX).2⟩ rfl rfl hl.1 rfl (lv_room (Nat.le_of_ble_eq_true rfl)) dX11_account_60 ⟨Nat.zero_le _, Nat.zero_le _⟩) ?_
          refine lv_if_ne (tgt := 72) hx hb dX11_account_63 (by decide) (fun c_11 => ?_) (fun c_11 => ?_)
          · have b_12 : wx_b a4 0 32 := rf_X5_hasItems (hsz _ (show wx_Rk k_8 from hkk_8)) (show wx_b 8 8 8 from ⟨by decide, by decide⟩) (by decide) c_11
            refine lv_iconst (v := 0) hx hb dX11_account_72 (by decide) ?_
            refine lv_istore (lv' := [(6, .int 0), (5, .ref (ad k_8)), (0, .ref (ad 0)), (1, .int a1), (2, .int a2), (3, .int a3), (4, .int a4)]) hx hb dX11_account_73 hl (by decide) rfl (fun ls hl => ?_)
            refine lv_iconst (v := 0) hx hb dX11_account_75 (by decide) ?_
            refine lv_istore (lv' := [(7, .int 0), (6, .int 0), (5, .ref (ad k_8)), (0, .ref (ad 0)), (1, .int a1), (2, .int a2), (3, .int a3), (4, .int a4)]) hx hb dX11_account_76 hl (by decide) rfl (fun ls hl => ?_)
            have lp_78 : ∀ (n t_78 : Nat) (s_78 : Int32) (ls : Array Slot), t_78 ≤ 8 → 8 + 1 ≤ t_78 + n → repX t_78 (b_X11_account_78 g a1 a2 a3 a4 k_8) (0 : Int32) = .inl s_78 → lv_has ls 9 [(7, .int (nI t_78)), (6, .int s_78), (5, .ref (ad k_8)), (0, .ref (ad 0)), (1, .int a1), (2, .int a2), (4, .int a4)] → W p l e R s m args below meth c s.heap [] 0 0 Qm (F0 m 78 ls []) := by
              intro n
              induction n with
              | zero => intro t_78 s_78 ls h1 h2; exact absurd h2 (by omega)
              | succ n ih_78 =>
                intro t_78 s_78 ls ht_78 hn_78 es_78 hl
                refine lv_iload hx hb dX11_account_78 (lv_at hl 0 rfl) ?_
                refine lv_bipush (v := 8) hx hb dX11_account_80 (by decide) ?_
                refine lv_icmp_ge (tgt := 156) hx hb dX11_account_82 (by decide) (fun c_13 => ?_) (fun c_13 => ?_)
                · have et_78 : t_78 = 8 := Nat.le_antisymm ht_78 (by have h9 := wx_dn (by omega) c_13; have h8 : (8 : Int32).toNatClampNeg = 8 := (by decide); omega)
                  subst et_78
                  refine lv_aload_n hx hb dX11_account_156 rfl (lv_at hl 3 rfl) ?_
                  refine lv_iload hx hb dX11_account_157 (lv_at hl 1 rfl) ?_
                  refine wx_callei (va_runV (As := [.int s_78]) (rest := []) ⟨hx, hb, hml, hown, hts⟩ (k_X11_answered l g s_78) (cwV 1 hts gX11_account_X11_answered rfl rfl rfl (by decide +kernel) (by rw [hR]; exact ⟨Nat.le_of_ble_eq_true rfl, Nat.le_of_ble_eq_true rfl⟩)) ⟨wx_Pc.blind, wx_recv hK hX (by decide) sh_X11 rfl, (wx_Pc.pre hK hX).2⟩ rfl rfl hl.1 rfl (lv_room (Nat.le_of_ble_eq_true rfl)) dX11_account_159 ⟨Nat.zero_le _, Nat.zero_le _⟩) hS (fun H locs hX hS => ?_)
                  obtain ⟨z_14, ez_14⟩ : ∃ z, z = f_X11_answered g s_78 := ⟨_, rfl⟩
                  rw [← ez_14] at hX; rw [← ez_14]
                  exact hret _ _ _ _ _ _ dX11_account_162 rfl hX hS (by subst ez_14 ek_8; simp only [f_X11_account, if_neg c_1, if_neg c_3, if_neg c_6, if_pos c_9, if_neg c_11, es_78])
                · have hlt_78 : t_78 < 8 := by have h9 := wx_up (by omega) c_13; have h8 : (8 : Int32).toNatClampNeg = 8 := (by decide); omega
                  have bt_78 : wx_b (nI (t_78)) 0 7 := wb_nI (n := 7) (by omega) (by decide)
                  refine lv_aload hx hb dX11_account_85 (lv_at hl 2 rfl) ?_
                  refine wx_getr (t := k_8 + 8) (C := RX5) (T := TX5) (N := 4) (ci := 5) (j := 0) hx hb hts hi_X5 hown hK hX (by have := (show wx_Rk k_8 from hkk_8).2; omega) (sh_X5_0 (show wx_Rk k_8 from hkk_8)) rfl (by decide) (hts (.fieldLink RX11 75 "SeenAgain$Row" "items" "[I") (by decide +kernel)) (fun _ h9 => h9) dX11_account_87 ?_
                  refine lv_iload hx hb dX11_account_90 (lv_at hl 6 rfl) ?_
                  refine lv_iload hx hb dX11_account_92 (lv_at hl 0 rfl) ?_
                  refine lv_iadd hx hb dX11_account_94 ?_
                  refine wx_iald hx hb hK hX (by have := (show wx_Rk k_8 from hkk_8).2; omega) (sa_X5 (show wx_Rk k_8 from hkk_8)) (wb_in (wb_add b_12 bt_78 (by decide) (by decide)) (by decide) (by decide)) dX11_account_95 ?_
                  refine lv_topi (fun x_15 ex_15 => ?_)
                  refine lv_istore (lv' := [(8, .int x_15), (7, .int (nI t_78)), (6, .int s_78), (5, .ref (ad k_8)), (0, .ref (ad 0)), (1, .int a1), (2, .int a2), (4, .int a4)]) hx hb dX11_account_96 hl (by decide) rfl (fun ls hl => ?_)
                  refine lv_iload hx hb dX11_account_98 (lv_at hl 0 rfl) ?_
                  refine lv_iconst (v := (-1)) hx hb dX11_account_100 (by decide) ?_
                  refine lv_icmp_eq (tgt := 119) hx hb dX11_account_101 (by decide) (fun c_16 => ?_) (fun c_16 => ?_)
                  · have b_17 : wx_b x_15 (-1) (-1) := by rw [c_16]; exact ⟨by decide, by decide⟩
                    refine lv_iload hx hb dX11_account_119 (lv_at hl 0 rfl) ?_
                    refine lv_iconst (v := (-1)) hx hb dX11_account_121 (by decide) ?_
                    refine lv_icmp_eq (tgt := 150) hx hb dX11_account_122 (by decide) (fun _ => ?_) (fun c9 => absurd c_16 c9)
                    refine lv_iinc (v := nI (t_78 + 1)) (lv' := [(7, .int (nI (t_78 + 1))), (8, .int x_15), (6, .int s_78), (5, .ref (ad k_8)), (0, .ref (ad 0)), (1, .int a1), (2, .int a2), (4, .int a4)]) hx hb dX11_account_150 hl (k := 1) rfl (wx_inc _) (by decide) rfl (fun ls hl => ?_)
                    refine lv_goto (tgt := 78) hx hb dX11_account_153 (by decide) ?_
                    have hF_18 : (b_X11_account_78 g a1 a2 a3 a4 k_8) t_78 s_78 = .inl s_78 := (by subst ex_15; simp only [b_X11_account_78, if_pos c_16])
                    exact ih_78 (t_78 + 1) s_78 ls hlt_78 (by omega) ((repX_go es_78).trans hF_18) (lv_sub hl [0, 2, 3, 4, 5, 6, 7] rfl)
                  · refine lv_aload_n hx hb dX11_account_104 rfl (lv_at hl 4 rfl) ?_
                    refine wx_getr (t := 20) (C := RX11) (T := TX11) (N := 8) (ci := 10) (j := 2) hx hb hts hi_X11 hown hK hX (by decide) sh_X11_2 rfl (by decide) (hts (.fieldLink RX11 25 "SeenAgain" "house" "LSeenAgain$House;") (by decide +kernel)) (fun _ h9 => h9) dX11_account_105 ?_
                    refine lv_iload hx hb dX11_account_108 (lv_at hl 0 rfl) ?_
                    refine wx_callr (va_runV (As := [.int x_15]) (rest := []) ⟨hx, hb, hml, hown, hts⟩ (k_X3_isRoom l g 20 x_15 (show wx_H 20 from Or.inl rfl)) (cwV 1 hts gX11_account_X3_isRoom rfl rfl rfl (by decide +kernel) (by rw [hR]; exact ⟨Nat.le_of_ble_eq_true rfl, Nat.le_of_ble_eq_true rfl⟩)) ⟨wx_Pc.blind, wx_recv hK hX (by decide) (sh_X3 (show wx_H 20 from Or.inl rfl)) rfl, (wx_Pc.pre hK hX).2⟩ rfl rfl hl.1 rfl (lv_room (Nat.le_of_ble_eq_true rfl)) dX11_account_110 ⟨Nat.zero_le _, Nat.zero_le _⟩) ?_
                    refine lv_if_ne (tgt := 119) hx hb dX11_account_113 (by decide) (fun c_19 => ?_) (fun c_19 => ?_)
                    · have b_20 : wx_b x_15 0 5 := rf_X3_isRoom hg c_19
                      refine lv_iload hx hb dX11_account_119 (lv_at hl 0 rfl) ?_
                      refine lv_iconst (v := (-1)) hx hb dX11_account_121 (by decide) ?_
                      refine lv_icmp_eq (tgt := 150) hx hb dX11_account_122 (by decide) (fun c9 => absurd c9 c_16) (fun _ => ?_)
                      refine lv_aload_n hx hb dX11_account_125 rfl (lv_at hl 4 rfl) ?_
                      refine wx_getr (t := 20) (C := RX11) (T := TX11) (N := 8) (ci := 10) (j := 2) hx hb hts hi_X11 hown hK hX (by decide) sh_X11_2 rfl (by decide) (hts (.fieldLink RX11 25 "SeenAgain" "house" "LSeenAgain$House;") (by decide +kernel)) (fun _ h9 => h9) dX11_account_126 ?_
                      refine lv_iload_n hx hb dX11_account_129 rfl (lv_at hl 5 rfl) ?_
                      refine lv_iload_n hx hb dX11_account_130 rfl (lv_at hl 6 rfl) ?_
                      refine lv_iload hx hb dX11_account_131 (lv_at hl 0 rfl) ?_
                      refine lv_iload hx hb dX11_account_133 (lv_at hl 1 rfl) ?_
                      refine wx_callr (va_runV (As := [.int a1, .int a2, .int x_15, .int (nI t_78)]) (rest := []) ⟨hx, hb, hml, hown, hts⟩ (k_X3_canBeIn l g 20 a1 a2 x_15 (nI t_78) (show wx_H 20 from Or.inl rfl) b_5 bt_78 hg) (cwV 4 hts gX11_account_X3_canBeIn rfl rfl rfl (by decide +kernel) (by rw [hR]; exact ⟨Nat.le_of_ble_eq_true rfl, Nat.le_of_ble_eq_true rfl⟩)) ⟨wx_Pc.blind, wx_recv hK hX (by decide) (sh_X3 (show wx_H 20 from Or.inl rfl)) rfl, (wx_Pc.pre hK hX).2⟩ rfl rfl hl.1 rfl (lv_room (Nat.le_of_ble_eq_true rfl)) dX11_account_135 ⟨Nat.zero_le _, Nat.zero_le _⟩) ?_
                      refine lv_if_ne (tgt := 150) hx hb dX11_account_138 (by decide) (fun c_21 => ?_) (fun c_21 => ?_)
                      · refine lv_iinc (v := nI (t_78 + 1)) (lv' := [(7, .int (nI (t_78 + 1))), (8, .int x_15), (6, .int s_78), (5, .ref (ad k_8)), (0, .ref (ad 0)), (1, .int a1), (2, .int a2), (4, .int a4)]) hx hb dX11_account_150 hl (k := 1) rfl (wx_inc _) (by decide) rfl (fun ls hl => ?_)
                        refine lv_goto (tgt := 78) hx hb dX11_account_153 (by decide) ?_
                        have hF_22 : (b_X11_account_78 g a1 a2 a3 a4 k_8) t_78 s_78 = .inl s_78 := (by subst ex_15; simp only [b_X11_account_78, if_neg c_16, if_neg c_19, if_neg c_21])
                        exact ih_78 (t_78 + 1) s_78 ls hlt_78 (by omega) ((repX_go es_78).trans hF_22) (lv_sub hl [0, 2, 3, 4, 5, 6, 7] rfl)
                      · have b_23 : wx_b (r_X3_canBeIn g 20 a1 a2 x_15 (nI t_78)) 0 0 := by rw [c_21]; exact ⟨by decide, by decide⟩
                        refine lv_iload hx hb dX11_account_141 (lv_at hl 2 rfl) ?_
                        refine lv_iconst (v := 1) hx hb dX11_account_143 (by decide) ?_
                        refine lv_iload hx hb dX11_account_144 (lv_at hl 1 rfl) ?_
                        refine lv_ishl hx hb dX11_account_146 ?_
                        refine lv_ior hx hb dX11_account_147 ?_
                        refine lv_topi (fun x_24 ex_24 => ?_)
                        refine lv_istore (lv' := [(6, .int x_24), (8, .int x_15), (7, .int (nI t_78)), (5, .ref (ad k_8)), (0, .ref (ad 0)), (1, .int a1), (2, .int a2), (4, .int a4)]) hx hb dX11_account_148 hl (by decide) rfl (fun ls hl => ?_)
                        refine lv_iinc (v := nI (t_78 + 1)) (lv' := [(7, .int (nI (t_78 + 1))), (6, .int x_24), (8, .int x_15), (5, .ref (ad k_8)), (0, .ref (ad 0)), (1, .int a1), (2, .int a2), (4, .int a4)]) hx hb dX11_account_150 hl (k := 2) rfl (wx_inc _) (by decide) rfl (fun ls hl => ?_)
                        refine lv_goto (tgt := 78) hx hb dX11_account_153 (by decide) ?_
                        have hF_25 : (b_X11_account_78 g a1 a2 a3 a4 k_8) t_78 s_78 = .inl x_24 := (by subst ex_24 ex_15; simp only [b_X11_account_78, if_neg c_16, if_neg c_19, if_pos c_21])
                        exact ih_78 (t_78 + 1) x_24 ls hlt_78 (by omega) ((repX_go es_78).trans hF_25) (lv_sub hl [0, 1, 3, 4, 5, 6, 7] rfl)
                    · have b_26 : wx_b (r_X3_isRoom g 20 x_15) 0 0 := by rw [c_19]; exact ⟨by decide, by decide⟩
                      refine lv_ldc hx hb hown (hts (.constant RX11 55 (-1000001)) (by decide +kernel)) dX11_account_116 ?_
                      have hF_27 : (b_X11_account_78 g a1 a2 a3 a4 k_8) t_78 s_78 = .inr ((g, (-1000001))) := (by subst ex_15; simp only [b_X11_account_78, if_neg c_16, if_pos c_19])
                      have hO_28 : repX 8 (b_X11_account_78 g a1 a2 a3 a4 k_8) (0 : Int32) = .inr ((g, (-1000001))) := repX_out es_78 hF_27 hlt_78
                      exact hret _ _ _ _ _ _ dX11_account_118 rfl hX hS (by subst ek_8; simp only [f_X11_account, if_neg c_1, if_neg c_3, if_neg c_6, if_pos c_9, if_neg c_11, hO_28])
            exact lp_78 (8 + 1) 0 (0 : Int32) ls (Nat.zero_le _) (by omega) rfl (lv_sub hl [0, 1, 2, 3, 4, 5, 7] rfl)
          · have b_29 : wx_b (r_X5_hasItems g k_8 a4 8) 0 0 := by rw [c_11]; exact ⟨by decide, by decide⟩
            refine lv_aload_n hx hb dX11_account_66 rfl (lv_at hl 1 rfl) ?_
            refine lv_iconst (v := 2) hx hb dX11_account_67 (by decide) ?_
            refine wx_callei (va_runV (As := [.int 2]) (rest := []) ⟨hx, hb, hml, hown, hts⟩ (k_X11_found l g 2) (cwV 1 hts gX11_account_X11_found rfl rfl rfl (by decide +kernel) (by rw [hR]; exact ⟨Nat.le_of_ble_eq_true rfl, Nat.le_of_ble_eq_true rfl⟩)) ⟨wx_Pc.blind, wx_recv hK hX (by decide) sh_X11 rfl, (wx_Pc.pre hK hX).2⟩ rfl rfl hl.1 rfl (lv_room (Nat.le_of_ble_eq_true rfl)) dX11_account_68 ⟨Nat.zero_le _, Nat.zero_le _⟩) hS (fun H locs hX hS => ?_)
            obtain ⟨z_30, ez_30⟩ : ∃ z, z = f_X11_found g 2 := ⟨_, rfl⟩
            rw [← ez_30] at hX; rw [← ez_30]
            exact hret _ _ _ _ _ _ dX11_account_71 rfl hX hS (by subst ez_30 ek_8; simp only [f_X11_account, if_neg c_1, if_neg c_3, if_neg c_6, if_pos c_9, if_pos c_11])
        · refine lv_aload_n hx hb dX11_account_48 rfl (lv_at hl 1 rfl) ?_
          refine lv_iconst (v := 1) hx hb dX11_account_49 (by decide) ?_
          refine wx_callei (va_runV (As := [.int 1]) (rest := []) ⟨hx, hb, hml, hown, hts⟩ (k_X11_found l g 1) (cwV 1 hts gX11_account_X11_found rfl rfl rfl (by decide +kernel) (by rw [hR]; exact ⟨Nat.le_of_ble_eq_true rfl, Nat.le_of_ble_eq_true rfl⟩)) ⟨wx_Pc.blind, wx_recv hK hX (by decide) sh_X11 rfl, (wx_Pc.pre hK hX).2⟩ rfl rfl hl.1 rfl (lv_room (Nat.le_of_ble_eq_true rfl)) dX11_account_50 ⟨Nat.zero_le _, Nat.zero_le _⟩) hS (fun H locs hX hS => ?_)
          obtain ⟨z_31, ez_31⟩ : ∃ z, z = f_X11_found g 1 := ⟨_, rfl⟩
          rw [← ez_31] at hX; rw [← ez_31]
          exact hret _ _ _ _ _ _ dX11_account_53 rfl hX hS (by subst ez_31 ek_8; simp only [f_X11_account, if_neg c_1, if_neg c_3, if_neg c_6, if_neg c_9])
      · have b_32 : wx_b (r_X11_isRow a3) 0 0 := by rw [c_6]; exact ⟨by decide, by decide⟩
        refine lv_ldc hx hb hown (hts (.constant RX11 55 (-1000001)) (by decide +kernel)) dX11_account_29 ?_
        exact hret _ _ _ _ _ _ dX11_account_31 rfl hX hS (by simp only [f_X11_account, if_neg c_1, if_neg c_3, if_pos c_6])
def f_X11_ask (g : wx_M) (a1 : Int32) (a2 : Int32) : wx_M × Int32 :=
  if (r_X3_isVisitor g 20 a1) = 0 then
    (g, (-1000001))
  else
    if a2 < 0 then
      (g, (-1000001))
    else
      if a2 ≤ 1 then
        let g_9 := up2 g 55 1 0
        if a2 = 0 then
          if (g_9 26 a1.toNatClampNeg) = 1 then
            let z_41 := f_X7_size g_9 (g_9 26 a1.toNatClampNeg) a1 20
            (z_41.1, z_41.2)
          else
            if (g_9 26 a1.toNatClampNeg) = 2 then
              let z_45 := f_X4_size g_9 (g_9 26 a1.toNatClampNeg) a1 20
              (z_45.1, z_45.2)
            else
              if (g_9 26 a1.toNatClampNeg) = 3 then
                let z_50 := f_X7_size g_9 (g_9 26 a1.toNatClampNeg) a1 20
                (z_50.1, z_50.2)
              else
                if (g_9 26 a1.toNatClampNeg) = 4 then
                  let z_56 := f_X10_size g_9 a1 20
                  (z_56.1, z_56.2)
                else
                  let z_62 := f_X2_size g_9 a1 20
                  (z_62.1, z_62.2)
        else
          if (g_9 26 a1.toNatClampNeg) = 1 then
            let z_15 := f_X7_mark g_9 a1 20
            (z_15.1, z_15.2)
          else
            if (g_9 26 a1.toNatClampNeg) = 2 then
              let z_19 := f_X4_mark g_9 a1 20
              (z_19.1, z_19.2)
            else
              if (g_9 26 a1.toNatClampNeg) = 3 then
                let z_24 := f_X1_mark g_9 a1 20
                (z_24.1, z_24.2)
              else
                if (g_9 26 a1.toNatClampNeg) = 4 then
                  let z_30 := f_X10_mark g_9 (g_9 26 a1.toNatClampNeg) a1 20
                  (z_30.1, z_30.2)
                else
                  let z_36 := f_X10_mark g_9 (g_9 26 a1.toNatClampNeg) a1 20
                  (z_36.1, z_36.2)
      else
        (g, (-1000001))
set_option maxHeartbeats 4000000 in
set_option maxRecDepth 100000 in
theorem k_X11_ask (l : Launch) {D : va_G} {cy : Nat → ClassId} {ad : Nat → Nat} {B0 : Nat} {f : wx_F} {P : va_W} (g : wx_M) (a1 : Int32) (a2 : Int32) (hg : wx_HB g 20) : Met l yX11_ask wsX11_ask ({ frames := 6, cells := 0, slots := 0, locals := 132 } : Room) (wx_Pc D cy ad B0 f P g [.ref (ad 0), .int a1, .int a2]) (wx_Qe D cy ad B0 f P (f_X11_ask g a1 a2).1 (some (.int (f_X11_ask g a1 a2).2))) 0 0 (fun q => B0 ≤ q) := by
  refine wx_enterE (cc := cX11_ask) (maxL := 4) (ty := .int) (own := RX11) (lv := [(0, .ref (ad 0)), (1, .int a1), (2, .int a2)]) (by decide) rfl rfl (Nat.le_of_ble_eq_true rfl) rfl ?_
  intro p e R s m args below meth c ls Qm hx hb hml hown hts hK hX hS hR hret hl
  have hi_X11 : ∀ w ∈ wsX110, w ∈ wsX11_ask := by decide +kernel
  have hi_X8 : ∀ w ∈ wsX80, w ∈ wsX11_ask := by decide +kernel
  have hi_X3 : ∀ w ∈ wsX30, w ∈ wsX11_ask := by decide +kernel
  refine lv_aload_n hx hb dX11_ask_0 rfl (lv_at hl 0 rfl) ?_
  refine wx_getr (t := 20) (C := RX11) (T := TX11) (N := 8) (ci := 10) (j := 2) hx hb hts hi_X11 hown hK hX (by decide) sh_X11_2 rfl (by decide) (hts (.fieldLink RX11 25 "SeenAgain" "house" "LSeenAgain$House;") (by decide +kernel)) (fun _ h9 => h9) dX11_ask_1 ?_
  refine lv_iload_n hx hb dX11_ask_4 rfl (lv_at hl 1 rfl) ?_
  refine wx_callr (va_runV (As := [.int a1]) (rest := []) ⟨hx, hb, hml, hown, hts⟩ (k_X3_isVisitor l g 20 a1 (show wx_H 20 from Or.inl rfl)) (cwV 1 hts gX11_ask_X3_isVisitor rfl rfl rfl (by decide +kernel) (by rw [hR]; exact ⟨Nat.le_of_ble_eq_true rfl, Nat.le_of_ble_eq_true rfl⟩)) ⟨wx_Pc.blind, wx_recv hK hX (by decide) (sh_X3 (show wx_H 20 from Or.inl rfl)) rfl, (wx_Pc.pre hK hX).2⟩ rfl rfl hl.1 rfl (lv_room (Nat.le_of_ble_eq_true rfl)) dX11_ask_5 ⟨Nat.zero_le _, Nat.zero_le _⟩) ?_
  refine lv_if_eq (tgt := 20) hx hb dX11_ask_8 (by decide) (fun c_1 => ?_) (fun c_1 => ?_)
  · have b_2 : wx_b (r_X3_isVisitor g 20 a1) 0 0 := by rw [c_1]; exact ⟨by decide, by decide⟩
    refine lv_ldc hx hb hown (hts (.constant RX11 55 (-1000001)) (by decide +kernel)) dX11_ask_20 ?_
    exact hret _ _ _ _ _ _ dX11_ask_22 rfl hX hS (by simp only [f_X11_ask, if_pos c_1])
  · have b_3 : wx_b a1 0 3 := rf_X3_isVisitor hg c_1
    refine lv_iload_n hx hb dX11_ask_11 rfl (lv_at hl 2 rfl) ?_
    refine lv_if_lt (tgt := 20) hx hb dX11_ask_12 (by decide) (fun c_4 => ?_) (fun c_4 => ?_)
    · have b_5 : wx_b a2 (-2147483648) (-1) := wb_lt c_4 (wb_any _) (show wx_b 0 0 0 from ⟨by decide, by decide⟩) (by decide) (by decide)
      refine lv_ldc hx hb hown (hts (.constant RX11 55 (-1000001)) (by decide +kernel)) dX11_ask_20 ?_
      exact hret _ _ _ _ _ _ dX11_ask_22 rfl hX hS (by simp only [f_X11_ask, if_neg c_1, if_pos c_4])
    · have b_6 : wx_b a2 0 2147483647 := wb_ge (wb_nlt c_4) (wb_any _) (show wx_b 0 0 0 from ⟨by decide, by decide⟩) (by decide) (by decide)
      refine lv_iload_n hx hb dX11_ask_15 rfl (lv_at hl 2 rfl) ?_
      refine lv_iconst (v := 1) hx hb dX11_ask_16 (by decide) ?_
      refine lv_icmp_le (tgt := 23) hx hb dX11_ask_17 (by decide) (fun c_7 => ?_) (fun c_7 => ?_)
      · have b_8 : wx_b a2 0 1 := wb_le c_7 b_6 (show wx_b 1 1 1 from ⟨by decide, by decide⟩) (by decide) (by decide)
        refine lv_aload_n hx hb dX11_ask_23 rfl (lv_at hl 0 rfl) ?_
        refine wx_getr (t := 55) (C := RX11) (T := TX11) (N := 8) (ci := 10) (j := 6) hx hb hts hi_X11 hown hK hX (by decide) sh_X11_6 rfl (by decide) (hts (.fieldLink RX11 46 "SeenAgain" "bodies" "LSeenAgain$Trace;") (by decide +kernel)) (fun _ h9 => h9) dX11_ask_24 ?_
        refine lv_iconst (v := 0) hx hb dX11_ask_27 (by decide) ?_
        refine wx_puti (C := RX8) (T := TX8) (N := 2) (ci := 8) (j := 1) (ty := .int) hx hb hts hi_X8 tyX8 tyX8_ok nmX8 hown hK hX hS (by decide) sh_X8_1 rfl (by decide) (hts (.fieldLink RX11 287 "SeenAgain$Trace" "length" "I") (by decide +kernel)) (fun _ h9 => h9) rfl (by decide +kernel) rfl rfl dX11_ask_28 (fun H locs hX hS => ?_)
        obtain ⟨g_9, eg_9, hX⟩ := wx_nm hX
        refine lv_aload_n hx hb dX11_ask_31 rfl (lv_at hl 0 rfl) ?_
        refine wx_getr (t := 20) (C := RX11) (T := TX11) (N := 8) (ci := 10) (j := 2) hx hb hts hi_X11 hown hK hX (by decide) sh_X11_2 rfl (by decide) (hts (.fieldLink RX11 25 "SeenAgain" "house" "LSeenAgain$House;") (by decide +kernel)) (fun _ h9 => h9) dX11_ask_32 ?_
        refine wx_getr (t := 26) (C := RX3) (T := TX3) (N := 15) (ci := 3) (j := 14) hx hb hts hi_X3 hown hK hX (by decide) (sh_X3_14 (show wx_H 20 from Or.inl rfl)) rfl (by decide) (hts (.fieldLink RX11 274 "SeenAgain$House" "guests" "[LSeenAgain$Visitor;") (by decide +kernel)) (fun _ h9 => h9) dX11_ask_35 ?_
        refine lv_iload_n hx hb dX11_ask_38 rfl (lv_at hl 1 rfl) ?_
        refine wx_gald hx hb hK hX (h := 20) (show wx_H 20 from Or.inl rfl).l6 (show wx_H 20 from Or.inl rfl) (wb_in b_3 (by decide) (by decide)) dX11_ask_39 (fun q_10 ci_q_10 pi_q_10 hp_q_10 hv_q_10 => ?_)
        refine lv_astore_n (lv' := [(3, .ref q_10), (0, .ref (ad 0)), (1, .int a1), (2, .int a2)]) hx hb dX11_ask_40 rfl hl (by decide) rfl (fun ls hl => ?_)
        refine lv_iload_n hx hb dX11_ask_41 rfl (lv_at hl 3 rfl) ?_
        refine lv_if_ne (tgt := 60) hx hb dX11_ask_42 (by decide) (fun c_11 => ?_) (fun c_11 => ?_)
        · have b_12 : wx_b a2 1 1 := wb_nel c_11 b_8 (by decide)
          refine lv_aload_n hx hb dX11_ask_60 rfl (lv_at hl 0 rfl) ?_
          refine lv_aload_n hx hb dX11_ask_61 rfl (lv_at hl 1 rfl) ?_
          refine wx_getr (t := 20) (C := RX11) (T := TX11) (N := 8) (ci := 10) (j := 2) hx hb hts hi_X11 hown hK hX (by decide) sh_X11_2 rfl (by decide) (hts (.fieldLink RX11 25 "SeenAgain" "house" "LSeenAgain$House;") (by decide +kernel)) (fun _ h9 => h9) dX11_ask_62 ?_
          refine lv_aload_n hx hb dX11_ask_65 rfl (lv_at hl 1 rfl) ?_
          refine wx_getr (t := 55) (C := RX11) (T := TX11) (N := 8) (ci := 10) (j := 6) hx hb hts hi_X11 hown hK hX (by decide) sh_X11_6 rfl (by decide) (hts (.fieldLink RX11 46 "SeenAgain" "bodies" "LSeenAgain$Trace;") (by decide +kernel)) (fun _ h9 => h9) dX11_ask_66 ?_
          have hk_13 := hv_q_10
          rcases hk_13 with ⟨hkd, rfl⟩ | ⟨hkd, rfl⟩ | ⟨hkd, rfl⟩ | ⟨hkd, rfl⟩ | ⟨hkd, rfl⟩
          · have c_14 : (g_9 26 a1.toNatClampNeg) = 1 := hkd
            refine wx_callei (va_runU (As := [.ref (ad 20), .ref (ad 55)]) (rest := []) ⟨hx, hb, hml, hown, hts⟩ (k_X7_mark l g_9 (g_9 26 a1.toNatClampNeg) a1 20 hp_q_10 hv_q_10 (show wx_H 20 from Or.inl rfl) (wb_w (show wx_b (g_9 55 1) 0 0 by rw [show (g_9 55 1) = 0 from (by rw [eg_9, up2_ss])]; exact (show wx_b 0 0 0 from ⟨by decide, by decide⟩)) (by decide) (by decide)) b_3) (va_cwO 2 hts gX11_ask_X7_mark_u291X7 rfl rfl rfl (show Cond.code yX9_mark cX9_mark 3 (some .int) ∈ wsX11_ask by decide +kernel) (by decide +kernel) (by rw [hR]; exact ⟨Nat.le_of_ble_eq_true rfl, Nat.le_of_ble_eq_true rfl⟩)) ⟨wx_Pc.blind, wx_recvP hK hX hp_q_10 (show vwCl[7]? = some (RX7, TX7, 1) from rfl), (wx_Pc.pre hK hX).2⟩ rfl rfl hl.1 rfl (lv_room (Nat.le_of_ble_eq_true rfl)) dX11_ask_69 ⟨Nat.zero_le _, Nat.zero_le _⟩) hS (fun H locs hX hS => ?_)
            obtain ⟨z_15, ez_15⟩ : ∃ z, z = f_X7_mark g_9 a1 20 := ⟨_, rfl⟩
            rw [← ez_15] at hX; rw [← ez_15]
            have bt_16 : wx_b (z_15.1 55 1) 0 16 := by rw [ez_15]; exact tb_X7_mark (wb_w (show wx_b (g_9 55 1) 0 0 by rw [show (g_9 55 1) = 0 from (by rw [eg_9, up2_ss])]; exact (show wx_b 0 0 0 from ⟨by decide, by decide⟩)) (by decide) (by decide))
            exact hret _ _ _ _ _ _ dX11_ask_72 rfl hX hS (by subst ez_15 eg_9; simp only [f_X11_ask, if_neg c_1, if_neg c_4, if_pos c_7, if_neg c_11, if_pos c_14])
          · have c_17 : ¬ (g_9 26 a1.toNatClampNeg) = 1 := by rw [hkd]; decide
            have c_18 : (g_9 26 a1.toNatClampNeg) = 2 := hkd
            refine wx_callei (va_runU (As := [.ref (ad 20), .ref (ad 55)]) (rest := []) ⟨hx, hb, hml, hown, hts⟩ (k_X4_mark l g_9 (g_9 26 a1.toNatClampNeg) a1 20 hp_q_10 hv_q_10 (show wx_H 20 from Or.inl rfl) (wb_w (show wx_b (g_9 55 1) 0 0 by rw [show (g_9 55 1) = 0 from (by rw [eg_9, up2_ss])]; exact (show wx_b 0 0 0 from ⟨by decide, by decide⟩)) (by decide) (by decide)) b_3) (va_cwO 2 hts gX11_ask_X4_mark_u291X4 rfl rfl rfl (show Cond.code yX9_mark cX9_mark 3 (some .int) ∈ wsX11_ask by decide +kernel) (by decide +kernel) (by rw [hR]; exact ⟨Nat.le_of_ble_eq_true rfl, Nat.le_of_ble_eq_true rfl⟩)) ⟨wx_Pc.blind, wx_recvP hK hX hp_q_10 (show vwCl[4]? = some (RX4, TX4, 1) from rfl), (wx_Pc.pre hK hX).2⟩ rfl rfl hl.1 rfl (lv_room (Nat.le_of_ble_eq_true rfl)) dX11_ask_69 ⟨Nat.zero_le _, Nat.zero_le _⟩) hS (fun H locs hX hS => ?_)
            obtain ⟨z_19, ez_19⟩ : ∃ z, z = f_X4_mark g_9 a1 20 := ⟨_, rfl⟩
            rw [← ez_19] at hX; rw [← ez_19]
            have bt_20 : wx_b (z_19.1 55 1) 0 16 := by rw [ez_19]; exact tb_X4_mark (wb_w (show wx_b (g_9 55 1) 0 0 by rw [show (g_9 55 1) = 0 from (by rw [eg_9, up2_ss])]; exact (show wx_b 0 0 0 from ⟨by decide, by decide⟩)) (by decide) (by decide))
            exact hret _ _ _ _ _ _ dX11_ask_72 rfl hX hS (by subst ez_19 eg_9; simp only [f_X11_ask, if_neg c_1, if_neg c_4, if_pos c_7, if_neg c_11, if_neg c_17, if_pos c_18])
          · have c_21 : ¬ (g_9 26 a1.toNatClampNeg) = 1 := by rw [hkd]; decide
            have c_22 : ¬ (g_9 26 a1.toNatClampNeg) = 2 := by rw [hkd]; decide
            have c_23 : (g_9 26 a1.toNatClampNeg) = 3 := hkd
            refine wx_callei (va_runU (As := [.ref (ad 20), .ref (ad 55)]) (rest := []) ⟨hx, hb, hml, hown, hts⟩ (k_X1_mark l g_9 (g_9 26 a1.toNatClampNeg) a1 20 hp_q_10 hv_q_10 (show wx_H 20 from Or.inl rfl) (wb_w (show wx_b (g_9 55 1) 0 0 by rw [show (g_9 55 1) = 0 from (by rw [eg_9, up2_ss])]; exact (show wx_b 0 0 0 from ⟨by decide, by decide⟩)) (by decide) (by decide)) b_3) (va_cwO 2 hts gX11_ask_X1_mark_u291X1 rfl rfl rfl (show Cond.code yX9_mark cX9_mark 3 (some .int) ∈ wsX11_ask by decide +kernel) (by decide +kernel) (by rw [hR]; exact ⟨Nat.le_of_ble_eq_true rfl, Nat.le_of_ble_eq_true rfl⟩)) ⟨wx_Pc.blind, wx_recvP hK hX hp_q_10 (show vwCl[1]? = some (RX1, TX1, 1) from rfl), (wx_Pc.pre hK hX).2⟩ rfl rfl hl.1 rfl (lv_room (Nat.le_of_ble_eq_true rfl)) dX11_ask_69 ⟨Nat.zero_le _, Nat.zero_le _⟩) hS (fun H locs hX hS => ?_)
            obtain ⟨z_24, ez_24⟩ : ∃ z, z = f_X1_mark g_9 a1 20 := ⟨_, rfl⟩
            rw [← ez_24] at hX; rw [← ez_24]
            have bt_25 : wx_b (z_24.1 55 1) 0 16 := by rw [ez_24]; exact tb_X1_mark (wb_w (show wx_b (g_9 55 1) 0 0 by rw [show (g_9 55 1) = 0 from (by rw [eg_9, up2_ss])]; exact (show wx_b 0 0 0 from ⟨by decide, by decide⟩)) (by decide) (by decide))
            exact hret _ _ _ _ _ _ dX11_ask_72 rfl hX hS (by subst ez_24 eg_9; simp only [f_X11_ask, if_neg c_1, if_neg c_4, if_pos c_7, if_neg c_11, if_neg c_21, if_neg c_22, if_pos c_23])
          · have c_26 : ¬ (g_9 26 a1.toNatClampNeg) = 1 := by rw [hkd]; decide
            have c_27 : ¬ (g_9 26 a1.toNatClampNeg) = 2 := by rw [hkd]; decide
            have c_28 : ¬ (g_9 26 a1.toNatClampNeg) = 3 := by rw [hkd]; decide
            have c_29 : (g_9 26 a1.toNatClampNeg) = 4 := hkd
            refine wx_callei (va_runU (As := [.ref (ad 20), .ref (ad 55)]) (rest := []) ⟨hx, hb, hml, hown, hts⟩ (k_X10_mark l g_9 (g_9 26 a1.toNatClampNeg) a1 20 hp_q_10 hv_q_10 (show wx_H 20 from Or.inl rfl) (by first | exact hkd | (rw [hkd]; decide)) (wb_w (show wx_b (g_9 55 1) 0 0 by rw [show (g_9 55 1) = 0 from (by rw [eg_9, up2_ss])]; exact (show wx_b 0 0 0 from ⟨by decide, by decide⟩)) (by decide) (by decide)) b_3) (va_cwO 2 hts gX11_ask_X10_mark_u291X10 rfl rfl rfl (show Cond.code yX9_mark cX9_mark 3 (some .int) ∈ wsX11_ask by decide +kernel) (by decide +kernel) (by rw [hR]; exact ⟨Nat.le_of_ble_eq_true rfl, Nat.le_of_ble_eq_true rfl⟩)) ⟨wx_Pc.blind, wx_recvP hK hX hp_q_10 (show vwCl[9]? = some (RX10, TX10, 1) from rfl), (wx_Pc.pre hK hX).2⟩ rfl rfl hl.1 rfl (lv_room (Nat.le_of_ble_eq_true rfl)) dX11_ask_69 ⟨Nat.zero_le _, Nat.zero_le _⟩) hS (fun H locs hX hS => ?_)
            obtain ⟨z_30, ez_30⟩ : ∃ z, z = f_X10_mark g_9 (g_9 26 a1.toNatClampNeg) a1 20 := ⟨_, rfl⟩
            rw [← ez_30] at hX; rw [← ez_30]
            have bt_31 : wx_b (z_30.1 55 1) 0 16 := by rw [ez_30]; exact tb_X10_mark (wb_w (show wx_b (g_9 55 1) 0 0 by rw [show (g_9 55 1) = 0 from (by rw [eg_9, up2_ss])]; exact (show wx_b 0 0 0 from ⟨by decide, by decide⟩)) (by decide) (by decide))
            exact hret _ _ _ _ _ _ dX11_ask_72 rfl hX hS (by subst ez_30 eg_9; simp only [f_X11_ask, if_neg c_1, if_neg c_4, if_pos c_7, if_neg c_11, if_neg c_26, if_neg c_27, if_neg c_28, if_pos c_29])
          · have c_32 : ¬ (g_9 26 a1.toNatClampNeg) = 1 := by rw [hkd]; decide
            have c_33 : ¬ (g_9 26 a1.toNatClampNeg) = 2 := by rw [hkd]; decide
            have c_34 : ¬ (g_9 26 a1.toNatClampNeg) = 3 := by rw [hkd]; decide
            have c_35 : ¬ (g_9 26 a1.toNatClampNeg) = 4 := by rw [hkd]; decide
            refine wx_callei (va_runU (As := [.ref (ad 20), .ref (ad 55)]) (rest := []) ⟨hx, hb, hml, hown, hts⟩ (k_X10_mark l g_9 (g_9 26 a1.toNatClampNeg) a1 20 hp_q_10 hv_q_10 (show wx_H 20 from Or.inl rfl) (by first | exact hkd | (rw [hkd]; decide)) (wb_w (show wx_b (g_9 55 1) 0 0 by rw [show (g_9 55 1) = 0 from (by rw [eg_9, up2_ss])]; exact (show wx_b 0 0 0 from ⟨by decide, by decide⟩)) (by decide) (by decide)) b_3) (va_cwO 2 hts gX11_ask_X10_mark_u291X2 rfl rfl rfl (show Cond.code yX9_mark cX9_mark 3 (some .int) ∈ wsX11_ask by decide +kernel) (by decide +kernel) (by rw [hR]; exact ⟨Nat.le_of_ble_eq_true rfl, Nat.le_of_ble_eq_true rfl⟩)) ⟨wx_Pc.blind, wx_recvP hK hX hp_q_10 (show vwCl[2]? = some (RX2, TX2, 1) from rfl), (wx_Pc.pre hK hX).2⟩ rfl rfl hl.1 rfl (lv_room (Nat.le_of_ble_eq_true rfl)) dX11_ask_69 ⟨Nat.zero_le _, Nat.zero_le _⟩) hS (fun H locs hX hS => ?_)
            obtain ⟨z_36, ez_36⟩ : ∃ z, z = f_X10_mark g_9 (g_9 26 a1.toNatClampNeg) a1 20 := ⟨_, rfl⟩
            rw [← ez_36] at hX; rw [← ez_36]
            have bt_37 : wx_b (z_36.1 55 1) 0 16 := by rw [ez_36]; exact tb_X10_mark (wb_w (show wx_b (g_9 55 1) 0 0 by rw [show (g_9 55 1) = 0 from (by rw [eg_9, up2_ss])]; exact (show wx_b 0 0 0 from ⟨by decide, by decide⟩)) (by decide) (by decide))
            exact hret _ _ _ _ _ _ dX11_ask_72 rfl hX hS (by subst ez_36 eg_9; simp only [f_X11_ask, if_neg c_1, if_neg c_4, if_pos c_7, if_neg c_11, if_neg c_32, if_neg c_33, if_neg c_34, if_neg c_35])
        · have b_38 : wx_b a2 0 0 := by rw [c_11]; exact ⟨by decide, by decide⟩
          refine lv_aload_n hx hb dX11_ask_45 rfl (lv_at hl 0 rfl) ?_
          refine lv_aload_n hx hb dX11_ask_46 rfl (lv_at hl 1 rfl) ?_
          refine wx_getr (t := 20) (C := RX11) (T := TX11) (N := 8) (ci := 10) (j := 2) hx hb hts hi_X11 hown hK hX (by decide) sh_X11_2 rfl (by decide) (hts (.fieldLink RX11 25 "SeenAgain" "house" "LSeenAgain$House;") (by decide +kernel)) (fun _ h9 => h9) dX11_ask_47 ?_
          refine lv_aload_n hx hb dX11_ask_50 rfl (lv_at hl 1 rfl) ?_
          refine wx_getr (t := 55) (C := RX11) (T := TX11) (N := 8) (ci := 10) (j := 6) hx hb hts hi_X11 hown hK hX (by decide) sh_X11_6 rfl (by decide) (hts (.fieldLink RX11 46 "SeenAgain" "bodies" "LSeenAgain$Trace;") (by decide +kernel)) (fun _ h9 => h9) dX11_ask_51 ?_
          have hk_39 := hv_q_10
          rcases hk_39 with ⟨hkd, rfl⟩ | ⟨hkd, rfl⟩ | ⟨hkd, rfl⟩ | ⟨hkd, rfl⟩ | ⟨hkd, rfl⟩
          · have c_40 : (g_9 26 a1.toNatClampNeg) = 1 := hkd
            refine wx_callei (va_runU (As := [.ref (ad 20), .ref (ad 55)]) (rest := []) ⟨hx, hb, hml, hown, hts⟩ (k_X7_size l g_9 (g_9 26 a1.toNatClampNeg) a1 20 hp_q_10 hv_q_10 (show wx_H 20 from Or.inl rfl) (by first | exact hkd | (rw [hkd]; decide)) (wb_w (show wx_b (g_9 55 1) 0 0 by rw [show (g_9 55 1) = 0 from (by rw [eg_9, up2_ss])]; exact (show wx_b 0 0 0 from ⟨by decide, by decide⟩)) (by decide) (by decide)) b_3) (va_cwO 2 hts gX11_ask_X7_size_u288X7 rfl rfl rfl (show Cond.code yX9_size cX9_size 3 (some .int) ∈ wsX11_ask by decide +kernel) (by decide +kernel) (by rw [hR]; exact ⟨Nat.le_of_ble_eq_true rfl, Nat.le_of_ble_eq_true rfl⟩)) ⟨wx_Pc.blind, wx_recvP hK hX hp_q_10 (show vwCl[7]? = some (RX7, TX7, 1) from rfl), (wx_Pc.pre hK hX).2⟩ rfl rfl hl.1 rfl (lv_room (Nat.le_of_ble_eq_true rfl)) dX11_ask_54 ⟨Nat.zero_le _, Nat.zero_le _⟩) hS (fun H locs hX hS => ?_)
            obtain ⟨z_41, ez_41⟩ : ∃ z, z = f_X7_size g_9 (g_9 26 a1.toNatClampNeg) a1 20 := ⟨_, rfl⟩
            rw [← ez_41] at hX; rw [← ez_41]
            have bt_42 : wx_b (z_41.1 55 1) 0 16 := by rw [ez_41]; exact tb_X7_size (wb_w (show wx_b (g_9 55 1) 0 0 by rw [show (g_9 55 1) = 0 from (by rw [eg_9, up2_ss])]; exact (show wx_b 0 0 0 from ⟨by decide, by decide⟩)) (by decide) (by decide))
            refine lv_goto (tgt := 72) hx hb dX11_ask_57 (by decide) ?_
            exact hret _ _ _ _ _ _ dX11_ask_72 rfl hX hS (by subst ez_41 eg_9; simp only [f_X11_ask, if_neg c_1, if_neg c_4, if_pos c_7, if_pos c_11, if_pos c_40])
          · have c_43 : ¬ (g_9 26 a1.toNatClampNeg) = 1 := by rw [hkd]; decide
            have c_44 : (g_9 26 a1.toNatClampNeg) = 2 := hkd
            refine wx_callei (va_runU (As := [.ref (ad 20), .ref (ad 55)]) (rest := []) ⟨hx, hb, hml, hown, hts⟩ (k_X4_size l g_9 (g_9 26 a1.toNatClampNeg) a1 20 hp_q_10 hv_q_10 (show wx_H 20 from Or.inl rfl) (by first | exact hkd | (rw [hkd]; decide)) (wb_w (show wx_b (g_9 55 1) 0 0 by rw [show (g_9 55 1) = 0 from (by rw [eg_9, up2_ss])]; exact (show wx_b 0 0 0 from ⟨by decide, by decide⟩)) (by decide) (by decide)) b_3) (va_cwO 2 hts gX11_ask_X4_size_u288X4 rfl rfl rfl (show Cond.code yX9_size cX9_size 3 (some .int) ∈ wsX11_ask by decide +kernel) (by decide +kernel) (by rw [hR]; exact ⟨Nat.le_of_ble_eq_true rfl, Nat.le_of_ble_eq_true rfl⟩)) ⟨wx_Pc.blind, wx_recvP hK hX hp_q_10 (show vwCl[4]? = some (RX4, TX4, 1) from rfl), (wx_Pc.pre hK hX).2⟩ rfl rfl hl.1 rfl (lv_room (Nat.le_of_ble_eq_true rfl)) dX11_ask_54 ⟨Nat.zero_le _, Nat.zero_le _⟩) hS (fun H locs hX hS => ?_)
            obtain ⟨z_45, ez_45⟩ : ∃ z, z = f_X4_size g_9 (g_9 26 a1.toNatClampNeg) a1 20 := ⟨_, rfl⟩
            rw [← ez_45] at hX; rw [← ez_45]
            have bt_46 : wx_b (z_45.1 55 1) 0 16 := by rw [ez_45]; exact tb_X4_size (wb_w (show wx_b (g_9 55 1) 0 0 by rw [show (g_9 55 1) = 0 from (by rw [eg_9, up2_ss])]; exact (show wx_b 0 0 0 from ⟨by decide, by decide⟩)) (by decide) (by decide))
            refine lv_goto (tgt := 72) hx hb dX11_ask_57 (by decide) ?_
            exact hret _ _ _ _ _ _ dX11_ask_72 rfl hX hS (by subst ez_45 eg_9; simp only [f_X11_ask, if_neg c_1, if_neg c_4, if_pos c_7, if_pos c_11, if_neg c_43, if_pos c_44])
          · have c_47 : ¬ (g_9 26 a1.toNatClampNeg) = 1 := by rw [hkd]; decide
            have c_48 : ¬ (g_9 26 a1.toNatClampNeg) = 2 := by rw [hkd]; decide
            have c_49 : (g_9 26 a1.toNatClampNeg) = 3 := hkd
            refine wx_callei (va_runU (As := [.ref (ad 20), .ref (ad 55)]) (rest := []) ⟨hx, hb, hml, hown, hts⟩ (k_X7_size l g_9 (g_9 26 a1.toNatClampNeg) a1 20 hp_q_10 hv_q_10 (show wx_H 20 from Or.inl rfl) (by first | exact hkd | (rw [hkd]; decide)) (wb_w (show wx_b (g_9 55 1) 0 0 by rw [show (g_9 55 1) = 0 from (by rw [eg_9, up2_ss])]; exact (show wx_b 0 0 0 from ⟨by decide, by decide⟩)) (by decide) (by decide)) b_3) (va_cwO 2 hts gX11_ask_X7_size_u288X1 rfl rfl rfl (show Cond.code yX9_size cX9_size 3 (some .int) ∈ wsX11_ask by decide +kernel) (by decide +kernel) (by rw [hR]; exact ⟨Nat.le_of_ble_eq_true rfl, Nat.le_of_ble_eq_true rfl⟩)) ⟨wx_Pc.blind, wx_recvP hK hX hp_q_10 (show vwCl[1]? = some (RX1, TX1, 1) from rfl), (wx_Pc.pre hK hX).2⟩ rfl rfl hl.1 rfl (lv_room (Nat.le_of_ble_eq_true rfl)) dX11_ask_54 ⟨Nat.zero_le _, Nat.zero_le _⟩) hS (fun H locs hX hS => ?_)
            obtain ⟨z_50, ez_50⟩ : ∃ z, z = f_X7_size g_9 (g_9 26 a1.toNatClampNeg) a1 20 := ⟨_, rfl⟩
            rw [← ez_50] at hX; rw [← ez_50]
            have bt_51 : wx_b (z_50.1 55 1) 0 16 := by rw [ez_50]; exact tb_X7_size (wb_w (show wx_b (g_9 55 1) 0 0 by rw [show (g_9 55 1) = 0 from (by rw [eg_9, up2_ss])]; exact (show wx_b 0 0 0 from ⟨by decide, by decide⟩)) (by decide) (by decide))
            refine lv_goto (tgt := 72) hx hb dX11_ask_57 (by decide) ?_
            exact hret _ _ _ _ _ _ dX11_ask_72 rfl hX hS (by subst ez_50 eg_9; simp only [f_X11_ask, if_neg c_1, if_neg c_4, if_pos c_7, if_pos c_11, if_neg c_47, if_neg c_48, if_pos c_49])
          · have c_52 : ¬ (g_9 26 a1.toNatClampNeg) = 1 := by rw [hkd]; decide
            have c_53 : ¬ (g_9 26 a1.toNatClampNeg) = 2 := by rw [hkd]; decide
            have c_54 : ¬ (g_9 26 a1.toNatClampNeg) = 3 := by rw [hkd]; decide
            have c_55 : (g_9 26 a1.toNatClampNeg) = 4 := hkd
            refine wx_callei (va_runU (As := [.ref (ad 20), .ref (ad 55)]) (rest := []) ⟨hx, hb, hml, hown, hts⟩ (k_X10_size l g_9 (g_9 26 a1.toNatClampNeg) a1 20 hp_q_10 hv_q_10 (show wx_H 20 from Or.inl rfl) (wb_w (show wx_b (g_9 55 1) 0 0 by rw [show (g_9 55 1) = 0 from (by rw [eg_9, up2_ss])]; exact (show wx_b 0 0 0 from ⟨by decide, by decide⟩)) (by decide) (by decide)) b_3) (va_cwO 2 hts gX11_ask_X10_size_u288X10 rfl rfl rfl (show Cond.code yX9_size cX9_size 3 (some .int) ∈ wsX11_ask by decide +kernel) (by decide +kernel) (by rw [hR]; exact ⟨Nat.le_of_ble_eq_true rfl, Nat.le_of_ble_eq_true rfl⟩)) ⟨wx_Pc.blind, wx_recvP hK hX hp_q_10 (show vwCl[9]? = some (RX10, TX10, 1) from rfl), (wx_Pc.pre hK hX).2⟩ rfl rfl hl.1 rfl (lv_room (Nat.le_of_ble_eq_true rfl)) dX11_ask_54 ⟨Nat.zero_le _, Nat.zero_le _⟩) hS (fun H locs hX hS => ?_)
            obtain ⟨z_56, ez_56⟩ : ∃ z, z = f_X10_size g_9 a1 20 := ⟨_, rfl⟩
            rw [← ez_56] at hX; rw [← ez_56]
            have bt_57 : wx_b (z_56.1 55 1) 0 16 := by rw [ez_56]; exact tb_X10_size (wb_w (show wx_b (g_9 55 1) 0 0 by rw [show (g_9 55 1) = 0 from (by rw [eg_9, up2_ss])]; exact (show wx_b 0 0 0 from ⟨by decide, by decide⟩)) (by decide) (by decide))
            refine lv_goto (tgt := 72) hx hb dX11_ask_57 (by decide) ?_
            exact hret _ _ _ _ _ _ dX11_ask_72 rfl hX hS (by subst ez_56 eg_9; simp only [f_X11_ask, if_neg c_1, if_neg c_4, if_pos c_7, if_pos c_11, if_neg c_52, if_neg c_53, if_neg c_54, if_pos c_55])
          · have c_58 : ¬ (g_9 26 a1.toNatClampNeg) = 1 := by rw [hkd]; decide
            have c_59 : ¬ (g_9 26 a1.toNatClampNeg) = 2 := by rw [hkd]; decide
            have c_60 : ¬ (g_9 26 a1.toNatClampNeg) = 3 := by rw [hkd]; decide
            have c_61 : ¬ (g_9 26 a1.toNatClampNeg) = 4 := by rw [hkd]; decide
            refine wx_callei (va_runU (As := [.ref (ad 20), .ref (ad 55)]) (rest := []) ⟨hx, hb, hml, hown, hts⟩ (k_X2_size l g_9 (g_9 26 a1.toNatClampNeg) a1 20 hp_q_10 hv_q_10 (show wx_H 20 from Or.inl rfl) (wb_w (show wx_b (g_9 55 1) 0 0 by rw [show (g_9 55 1) = 0 from (by rw [eg_9, up2_ss])]; exact (show wx_b 0 0 0 from ⟨by decide, by decide⟩)) (by decide) (by decide)) b_3) (va_cwO 2 hts gX11_ask_X2_size_u288X2 rfl rfl rfl (show Cond.code yX9_size cX9_size 3 (some .int) ∈ wsX11_ask by decide +kernel) (by decide +kernel) (by rw [hR]; exact ⟨Nat.le_of_ble_eq_true rfl, Nat.le_of_ble_eq_true rfl⟩)) ⟨wx_Pc.blind, wx_recvP hK hX hp_q_10 (show vwCl[2]? = some (RX2, TX2, 1) from rfl), (wx_Pc.pre hK hX).2⟩ rfl rfl hl.1 rfl (lv_room (Nat.le_of_ble_eq_true rfl)) dX11_ask_54 ⟨Nat.zero_le _, Nat.zero_le _⟩) hS (fun H locs hX hS => ?_)
            obtain ⟨z_62, ez_62⟩ : ∃ z, z = f_X2_size g_9 a1 20 := ⟨_, rfl⟩
            rw [← ez_62] at hX; rw [← ez_62]
            have bt_63 : wx_b (z_62.1 55 1) 0 16 := by rw [ez_62]; exact tb_X2_size (wb_w (show wx_b (g_9 55 1) 0 0 by rw [show (g_9 55 1) = 0 from (by rw [eg_9, up2_ss])]; exact (show wx_b 0 0 0 from ⟨by decide, by decide⟩)) (by decide) (by decide))
            refine lv_goto (tgt := 72) hx hb dX11_ask_57 (by decide) ?_
            exact hret _ _ _ _ _ _ dX11_ask_72 rfl hX hS (by subst ez_62 eg_9; simp only [f_X11_ask, if_neg c_1, if_neg c_4, if_pos c_7, if_pos c_11, if_neg c_58, if_neg c_59, if_neg c_60, if_neg c_61])
      · have b_64 : wx_b a2 2 2147483647 := wb_gt (wb_nle c_7) b_6 (show wx_b 1 1 1 from ⟨by decide, by decide⟩) (by decide) (by decide)
        refine lv_ldc hx hb hown (hts (.constant RX11 55 (-1000001)) (by decide +kernel)) dX11_ask_20 ?_
        exact hret _ _ _ _ _ _ dX11_ask_22 rfl hX hS (by simp only [f_X11_ask, if_neg c_1, if_neg c_4, if_neg c_7])
def r_X11_trace (g : wx_M) (a1 : Int32) : Int32 :=
  if a1 < 0 then
    (-1000000)
  else
    if (g 55 1) ≤ a1 then
      (-1000000)
    else
      (g 56 a1.toNatClampNeg)
set_option maxHeartbeats 4000000 in
set_option maxRecDepth 100000 in
theorem k_X11_trace (l : Launch) {D : va_G} {cy : Nat → ClassId} {ad : Nat → Nat} {B0 : Nat} {f : wx_F} {P : va_W} (g : wx_M) (a1 : Int32) (ht : wx_b (g 55 1) 0 16) : Met l yX11_trace wsX11_trace ({ frames := 0, cells := 0, slots := 0, locals := 0 } : Room) (wx_Pc D cy ad B0 f P g [.ref (ad 0), .int a1]) (QcRead (r_X11_trace g a1)) 0 0 (fun _ => False) := by
  refine wx_enterR (cc := cX11_trace) (maxL := 2) (ty := .int) (own := RX11) (lv := [(0, .ref (ad 0)), (1, .int a1)]) (by decide) rfl rfl (Nat.le_of_ble_eq_true rfl) rfl ?_
  intro p e R s m args below meth c ls Qm hx hb hml hown hts hK hX hR hret hl
  have hi_X11 : ∀ w ∈ wsX110, w ∈ wsX11_trace := by decide +kernel
  have hi_X8 : ∀ w ∈ wsX80, w ∈ wsX11_trace := by decide +kernel
  refine lv_iload_n hx hb dX11_trace_0 rfl (lv_at hl 1 rfl) ?_
  refine lv_if_lt (tgt := 27) hx hb dX11_trace_1 (by decide) (fun c_1 => ?_) (fun c_1 => ?_)
  · have b_2 : wx_b a1 (-2147483648) (-1) := wb_lt c_1 (wb_any _) (show wx_b 0 0 0 from ⟨by decide, by decide⟩) (by decide) (by decide)
    refine lv_ldc hx hb hown (hts (.constant RX11 245 (-1000000)) (by decide +kernel)) dX11_trace_27 ?_
    exact hret _ _ _ dX11_trace_29 rfl (by simp only [r_X11_trace, if_pos c_1])
  · have b_3 : wx_b a1 0 2147483647 := wb_ge (wb_nlt c_1) (wb_any _) (show wx_b 0 0 0 from ⟨by decide, by decide⟩) (by decide) (by decide)
    refine lv_iload_n hx hb dX11_trace_4 rfl (lv_at hl 1 rfl) ?_
    refine lv_aload_n hx hb dX11_trace_5 rfl (lv_at hl 0 rfl) ?_
    refine wx_getr (t := 55) (C := RX11) (T := TX11) (N := 8) (ci := 10) (j := 6) hx hb hts hi_X11 hown hK hX (by decide) sh_X11_6 rfl (by decide) (hts (.fieldLink RX11 46 "SeenAgain" "bodies" "LSeenAgain$Trace;") (by decide +kernel)) (fun _ h9 => h9) dX11_trace_6 ?_
    refine wx_geti (C := RX8) (T := TX8) (N := 2) (ci := 8) (j := 1) hx hb hts hi_X8 hown hK hX (by decide) sh_X8_1 rfl (by decide) (hts (.fieldLink RX11 287 "SeenAgain$Trace" "length" "I") (by decide +kernel)) (fun _ h9 => h9) dX11_trace_9 ?_
    refine lv_icmp_ge (tgt := 27) hx hb dX11_trace_12 (by decide) (fun c_4 => ?_) (fun c_4 => ?_)
    · refine lv_ldc hx hb hown (hts (.constant RX11 245 (-1000000)) (by decide +kernel)) dX11_trace_27 ?_
      exact hret _ _ _ dX11_trace_29 rfl (by simp only [r_X11_trace, if_neg c_1, if_pos c_4])
    · have b_5 : wx_b a1 0 15 := wb_lt (wb_nle c_4) b_3 ht (by decide) (by decide)
      have b_6 : wx_b (g 55 1) 1 16 := wb_gt (wb_nle c_4) ht b_3 (by decide) (by decide)
      refine lv_aload_n hx hb dX11_trace_15 rfl (lv_at hl 0 rfl) ?_
      refine wx_getr (t := 55) (C := RX11) (T := TX11) (N := 8) (ci := 10) (j := 6) hx hb hts hi_X11 hown hK hX (by decide) sh_X11_6 rfl (by decide) (hts (.fieldLink RX11 46 "SeenAgain" "bodies" "LSeenAgain$Trace;") (by decide +kernel)) (fun _ h9 => h9) dX11_trace_16 ?_
      refine wx_getr (t := 56) (C := RX8) (T := TX8) (N := 2) (ci := 8) (j := 0) hx hb hts hi_X8 hown hK hX (by decide) sh_X8_0 rfl (by decide) (hts (.fieldLink RX11 294 "SeenAgain$Trace" "numbers" "[I") (by decide +kernel)) (fun _ h9 => h9) dX11_trace_19 ?_
      refine lv_iload_n hx hb dX11_trace_22 rfl (lv_at hl 1 rfl) ?_
      refine wx_iald hx hb hK hX (by decide) sa_56 (wb_in b_5 (by decide) (by decide)) dX11_trace_23 ?_
      refine lv_goto (tgt := 29) hx hb dX11_trace_24 (by decide) ?_
      exact hret _ _ _ dX11_trace_29 rfl (by simp only [r_X11_trace, if_neg c_1, if_neg c_4])
def r_X11_count (g : wx_M) (a1 : Int32) : Int32 :=
  if a1 = 0 then
    (r_X11_standingRows g)
  else
    if a1 = 1 then
      (g 20 0)
    else
      if a1 = 2 then
        (g 20 3)
      else
        if a1 = 3 then
          (g 20 4)
        else
          if a1 = 4 then
            (g 20 5)
          else
            if a1 = 5 then
              (g 20 6)
            else
              if a1 = 6 then
                (g 20 7)
              else
                if a1 = 7 then
                  (g 49 6)
                else
                  if a1 = 8 then
                    (g 18 1)
                  else
                    (-1000001)
set_option maxHeartbeats 4000000 in
set_option maxRecDepth 100000 in
theorem k_X11_count (l : Launch) {D : va_G} {cy : Nat → ClassId} {ad : Nat → Nat} {B0 : Nat} {f : wx_F} {P : va_W} (g : wx_M) (a1 : Int32) : Met l yX11_count wsX11_count ({ frames := 1, cells := 0, slots := 0, locals := 22 } : Room) (wx_Pc D cy ad B0 f P g [.ref (ad 0), .int a1]) (QcRead (r_X11_count g a1)) 0 0 (fun _ => False) := by
  refine wx_enterR (cc := cX11_count) (maxL := 2) (ty := .int) (own := RX11) (lv := [(0, .ref (ad 0)), (1, .int a1)]) (by decide) rfl rfl (Nat.le_of_ble_eq_true rfl) rfl ?_
  intro p e R s m args below meth c ls Qm hx hb hml hown hts hK hX hR hret hl
  have hi_X11 : ∀ w ∈ wsX110, w ∈ wsX11_count := by decide +kernel
  have hi_X3 : ∀ w ∈ wsX30, w ∈ wsX11_count := by decide +kernel
  have hi_X0 : ∀ w ∈ wsX00, w ∈ wsX11_count := by decide +kernel
  have hi_X6 : ∀ w ∈ wsX60, w ∈ wsX11_count := by decide +kernel
  refine lv_iload_n hx hb dX11_count_0 rfl (lv_at hl 1 rfl) ?_
  by_cases c_1 : a1 = 0
  · have b_2 : wx_b a1 0 0 := by rw [c_1]; exact ⟨by decide, by decide⟩
    refine lv_tableIn (tgt := 52) hx hb dX11_count_1 (by rw [c_1]; decide) (by rw [c_1]; decide) (by rw [c_1]; rfl) (by decide) ?_
    refine lv_aload_n hx hb dX11_count_52 rfl (lv_at hl 0 rfl) ?_
    refine wx_callr (va_runV (As := []) (rest := []) ⟨hx, hb, hml, hown, hts⟩ (k_X11_standingRows l g) (cwV 0 hts gX11_count_X11_standingRows rfl rfl rfl (by decide +kernel) (by rw [hR]; exact ⟨Nat.le_of_ble_eq_true rfl, Nat.le_of_ble_eq_true rfl⟩)) ⟨wx_Pc.blind, wx_recv hK hX (by decide) sh_X11 rfl, (wx_Pc.pre hK hX).2⟩ rfl rfl hl.1 rfl (lv_room (Nat.le_of_ble_eq_true rfl)) dX11_count_53 ⟨Nat.zero_le _, Nat.zero_le _⟩) ?_
    exact hret _ _ _ dX11_count_56 rfl (by simp only [r_X11_count, if_pos c_1])
  · by_cases c_3 : a1 = 1
    · have b_4 : wx_b a1 1 1 := by rw [c_3]; exact ⟨by decide, by decide⟩
      refine lv_tableIn (tgt := 57) hx hb dX11_count_1 (by rw [c_3]; decide) (by rw [c_3]; decide) (by rw [c_3]; rfl) (by decide) ?_
      refine lv_aload_n hx hb dX11_count_57 rfl (lv_at hl 0 rfl) ?_
      refine wx_getr (t := 20) (C := RX11) (T := TX11) (N := 8) (ci := 10) (j := 2) hx hb hts hi_X11 hown hK hX (by decide) sh_X11_2 rfl (by decide) (hts (.fieldLink RX11 25 "SeenAgain" "house" "LSeenAgain$House;") (by decide +kernel)) (fun _ h9 => h9) dX11_count_58 ?_
      refine wx_geti (C := RX3) (T := TX3) (N := 15) (ci := 3) (j := 0) hx hb hts hi_X3 hown hK hX (by decide) (sh_X3_0 (show wx_H 20 from Or.inl rfl)) rfl (by decide) (hts (.fieldLink RX11 117 "SeenAgain$House" "rooms" "I") (by decide +kernel)) (fun _ h9 => h9) dX11_count_61 ?_
      exact hret _ _ _ dX11_count_64 rfl (by simp only [r_X11_count, if_neg c_1, if_pos c_3])
    · by_cases c_5 : a1 = 2
      · have b_6 : wx_b a1 2 2 := by rw [c_5]; exact ⟨by decide, by decide⟩
        refine lv_tableIn (tgt := 65) hx hb dX11_count_1 (by rw [c_5]; decide) (by rw [c_5]; decide) (by rw [c_5]; rfl) (by decide) ?_
        refine lv_aload_n hx hb dX11_count_65 rfl (lv_at hl 0 rfl) ?_
        refine wx_getr (t := 20) (C := RX11) (T := TX11) (N := 8) (ci := 10) (j := 2) hx hb hts hi_X11 hown hK hX (by decide) sh_X11_2 rfl (by decide) (hts (.fieldLink RX11 25 "SeenAgain" "house" "LSeenAgain$House;") (by decide +kernel)) (fun _ h9 => h9) dX11_count_66 ?_
        refine wx_geti (C := RX3) (T := TX3) (N := 15) (ci := 3) (j := 3) hx hb hts hi_X3 hown hK hX (by decide) (sh_X3_3 (show wx_H 20 from Or.inl rfl)) rfl (by decide) (hts (.fieldLink RX11 300 "SeenAgain$House" "walls" "I") (by decide +kernel)) (fun _ h9 => h9) dX11_count_69 ?_
        exact hret _ _ _ dX11_count_72 rfl (by simp only [r_X11_count, if_neg c_1, if_neg c_3, if_pos c_5])
      · by_cases c_7 : a1 = 3
        · have b_8 : wx_b a1 3 3 := by rw [c_7]; exact ⟨by decide, by decide⟩
          refine lv_tableIn (tgt := 73) hx hb dX11_count_1 (by rw [c_7]; decide) (by rw [c_7]; decide) (by rw [c_7]; rfl) (by decide) ?_
          refine lv_aload_n hx hb dX11_count_73 rfl (lv_at hl 0 rfl) ?_
          refine wx_getr (t := 20) (C := RX11) (T := TX11) (N := 8) (ci := 10) (j := 2) hx hb hts hi_X11 hown hK hX (by decide) sh_X11_2 rfl (by decide) (hts (.fieldLink RX11 25 "SeenAgain" "house" "LSeenAgain$House;") (by decide +kernel)) (fun _ h9 => h9) dX11_count_74 ?_
          refine wx_geti (C := RX3) (T := TX3) (N := 15) (ci := 3) (j := 4) hx hb hts hi_X3 hown hK hX (by decide) (sh_X3_4 (show wx_H 20 from Or.inl rfl)) rfl (by decide) (hts (.fieldLink RX11 303 "SeenAgain$House" "people" "I") (by decide +kernel)) (fun _ h9 => h9) dX11_count_77 ?_
          exact hret _ _ _ dX11_count_80 rfl (by simp only [r_X11_count, if_neg c_1, if_neg c_3, if_neg c_5, if_pos c_7])
        · by_cases c_9 : a1 = 4
          · have b_10 : wx_b a1 4 4 := by rw [c_9]; exact ⟨by decide, by decide⟩
            refine lv_tableIn (tgt := 81) hx hb dX11_count_1 (by rw [c_9]; decide) (by rw [c_9]; decide) (by rw [c_9]; rfl) (by decide) ?_
            refine lv_aload_n hx hb dX11_count_81 rfl (lv_at hl 0 rfl) ?_
            refine wx_getr (t := 20) (C := RX11) (T := TX11) (N := 8) (ci := 10) (j := 2) hx hb hts hi_X11 hown hK hX (by decide) sh_X11_2 rfl (by decide) (hts (.fieldLink RX11 25 "SeenAgain" "house" "LSeenAgain$House;") (by decide +kernel)) (fun _ h9 => h9) dX11_count_82 ?_
            refine wx_geti (C := RX3) (T := TX3) (N := 15) (ci := 3) (j := 5) hx hb hts hi_X3 hown hK hX (by decide) (sh_X3_5 (show wx_H 20 from Or.inl rfl)) rfl (by decide) (hts (.fieldLink RX11 306 "SeenAgain$House" "visitors" "I") (by decide +kernel)) (fun _ h9 => h9) dX11_count_85 ?_
            exact hret _ _ _ dX11_count_88 rfl (by simp only [r_X11_count, if_neg c_1, if_neg c_3, if_neg c_5, if_neg c_7, if_pos c_9])
          · by_cases c_11 : a1 = 5
            · have b_12 : wx_b a1 5 5 := by rw [c_11]; exact ⟨by decide, by decide⟩
              refine lv_tableIn (tgt := 89) hx hb dX11_count_1 (by rw [c_11]; decide) (by rw [c_11]; decide) (by rw [c_11]; rfl) (by decide) ?_
              refine lv_aload_n hx hb dX11_count_89 rfl (lv_at hl 0 rfl) ?_
              refine wx_getr (t := 20) (C := RX11) (T := TX11) (N := 8) (ci := 10) (j := 2) hx hb hts hi_X11 hown hK hX (by decide) sh_X11_2 rfl (by decide) (hts (.fieldLink RX11 25 "SeenAgain" "house" "LSeenAgain$House;") (by decide +kernel)) (fun _ h9 => h9) dX11_count_90 ?_
              refine wx_geti (C := RX3) (T := TX3) (N := 15) (ci := 3) (j := 6) hx hb hts hi_X3 hown hK hX (by decide) (sh_X3_6 (show wx_H 20 from Or.inl rfl)) rfl (by decide) (hts (.fieldLink RX11 309 "SeenAgain$House" "held" "I") (by decide +kernel)) (fun _ h9 => h9) dX11_count_93 ?_
              exact hret _ _ _ dX11_count_96 rfl (by simp only [r_X11_count, if_neg c_1, if_neg c_3, if_neg c_5, if_neg c_7, if_neg c_9, if_pos c_11])
            · by_cases c_13 : a1 = 6
              · have b_14 : wx_b a1 6 6 := by rw [c_13]; exact ⟨by decide, by decide⟩
                refine lv_tableIn (tgt := 97) hx hb dX11_count_1 (by rw [c_13]; decide) (by rw [c_13]; decide) (by rw [c_13]; rfl) (by decide) ?_
                refine lv_aload_n hx hb dX11_count_97 rfl (lv_at hl 0 rfl) ?_
                refine wx_getr (t := 20) (C := RX11) (T := TX11) (N := 8) (ci := 10) (j := 2) hx hb hts hi_X11 hown hK hX (by decide) sh_X11_2 rfl (by decide) (hts (.fieldLink RX11 25 "SeenAgain" "house" "LSeenAgain$House;") (by decide +kernel)) (fun _ h9 => h9) dX11_count_98 ?_
                refine wx_geti (C := RX3) (T := TX3) (N := 15) (ci := 3) (j := 7) hx hb hts hi_X3 hown hK hX (by decide) (sh_X3_7 (show wx_H 20 from Or.inl rfl)) rfl (by decide) (hts (.fieldLink RX11 177 "SeenAgain$House" "curtains" "I") (by decide +kernel)) (fun _ h9 => h9) dX11_count_101 ?_
                exact hret _ _ _ dX11_count_104 rfl (by simp only [r_X11_count, if_neg c_1, if_neg c_3, if_neg c_5, if_neg c_7, if_neg c_9, if_neg c_11, if_pos c_13])
              · by_cases c_15 : a1 = 7
                · have b_16 : wx_b a1 7 7 := by rw [c_15]; exact ⟨by decide, by decide⟩
                  refine lv_tableIn (tgt := 105) hx hb dX11_count_1 (by rw [c_15]; decide) (by rw [c_15]; decide) (by rw [c_15]; rfl) (by decide) ?_
                  refine lv_aload_n hx hb dX11_count_105 rfl (lv_at hl 0 rfl) ?_
                  refine wx_getr (t := 49) (C := RX11) (T := TX11) (N := 8) (ci := 10) (j := 5) hx hb hts hi_X11 hown hK hX (by decide) sh_X11_5 rfl (by decide) (hts (.fieldLink RX11 39 "SeenAgain" "acts" "LSeenAgain$Acts;") (by decide +kernel)) (fun _ h9 => h9) dX11_count_106 ?_
                  refine wx_geti (C := RX0) (T := TX0) (N := 7) (ci := 0) (j := 6) hx hb hts hi_X0 hown hK hX (by decide) sh_X0_6 rfl (by decide) (hts (.fieldLink RX11 123 "SeenAgain$Acts" "kept" "I") (by decide +kernel)) (fun _ h9 => h9) dX11_count_109 ?_
                  exact hret _ _ _ dX11_count_112 rfl (by simp only [r_X11_count, if_neg c_1, if_neg c_3, if_neg c_5, if_neg c_7, if_neg c_9, if_neg c_11, if_neg c_13, if_pos c_15])
                · by_cases c_17 : a1 = 8
                  · have b_18 : wx_b a1 8 8 := by rw [c_17]; exact ⟨by decide, by decide⟩
                    refine lv_tableIn (tgt := 113) hx hb dX11_count_1 (by rw [c_17]; decide) (by rw [c_17]; decide) (by rw [c_17]; rfl) (by decide) ?_
                    refine lv_aload_n hx hb dX11_count_113 rfl (lv_at hl 0 rfl) ?_
                    refine wx_getr (t := 18) (C := RX11) (T := TX11) (N := 8) (ci := 10) (j := 1) hx hb hts hi_X11 hown hK hX (by decide) sh_X11_1 rfl (by decide) (hts (.fieldLink RX11 18 "SeenAgain" "tape" "LSeenAgain$Tape;") (by decide +kernel)) (fun _ h9 => h9) dX11_count_114 ?_
                    refine wx_geti (C := RX6) (T := TX6) (N := 8) (ci := 6) (j := 1) hx hb hts hi_X6 hown hK hX (by decide) sh_X6_1 rfl (by decide) (hts (.fieldLink RX11 95 "SeenAgain$Tape" "length" "I") (by decide +kernel)) (fun _ h9 => h9) dX11_count_117 ?_
                    exact hret _ _ _ dX11_count_120 rfl (by simp only [r_X11_count, if_neg c_1, if_neg c_3, if_neg c_5, if_neg c_7, if_neg c_9, if_neg c_11, if_neg c_13, if_neg c_15, if_pos c_17])
                  · refine lv_tableOut (tgt := 121) hx hb dX11_count_1 (by have q0 := lv_neT (a := 0) c_1 (by decide); have q1 := lv_neT (a := 1) c_3 (by decide); have q2 := lv_neT (a := 2) c_5 (by decide); have q3 := lv_neT (a := 3) c_7 (by decide); have q4 := lv_neT (a := 4) c_9 (by decide); have q5 := lv_neT (a := 5) c_11 (by decide); have q6 := lv_neT (a := 6) c_13 (by decide); have q7 := lv_neT (a := 7) c_15 (by decide); have q8 := lv_neT (a := 8) c_17 (by decide); omega) (by decide) ?_
                    refine lv_ldc hx hb hown (hts (.constant RX11 55 (-1000001)) (by decide +kernel)) dX11_count_121 ?_
                    exact hret _ _ _ dX11_count_123 rfl (by simp only [r_X11_count, if_neg c_1, if_neg c_3, if_neg c_5, if_neg c_7, if_neg c_9, if_neg c_11, if_neg c_13, if_neg c_15, if_neg c_17])
