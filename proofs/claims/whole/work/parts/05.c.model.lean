def b_X12_visitor_16 (g : wx_M) (a1 : Int32) (a2 : Int32) (t_16 : Nat) (s_16 : Int32) : Int32 :=
  let x_10 := (s_16 ||| (r_X12_lookedBy g (1 <<< (a1 &&& 31)) (nI t_16)))
  x_10
def r_X12_visitor (g : wx_M) (a1 : Int32) (a2 : Int32) : Int32 :=
  if (r_X12_isGuest g a1) = 0 then
    (-1000001)
  else
    let s_16 := rep 8 (b_X12_visitor_16 g a1 a2) (0 : Int32)
    if a2 = 0 then
      (g 65 (47 + a1).toNatClampNeg)
    else
      if a2 = 1 then
        (r_X12_heldBy g a1)
      else
        if a2 = 2 then
          s_16
        else
          (-1000001)
set_option maxHeartbeats 4000000 in
set_option maxRecDepth 100000 in
theorem k_X12_visitor (l : Launch) {D : va_G} {cy : Nat → ClassId} {ad : Nat → Nat} {B0 : Nat} {f : wx_F} {P : va_W} (g : wx_M) (a1 : Int32) (a2 : Int32) (hm : wx_MB g) : Met l yX12_visitor wsX12_visitor ({ frames := 2, cells := 0, slots := 0, locals := 46 } : Room) (wx_Pc D cy ad B0 f P g [.ref (ad 57), .int a1, .int a2]) (QcRead (r_X12_visitor g a1 a2)) 0 0 (fun _ => False) := by
  refine wx_enterR (cc := cX12_visitor) (maxL := 5) (ty := .int) (own := RX12) (lv := [(0, .ref (ad 57)), (1, .int a1), (2, .int a2)]) (by decide) rfl rfl (Nat.le_of_ble_eq_true rfl) rfl ?_
  intro p e R s m args below meth c ls Qm hx hb hml hown hts hK hX hR hret hl
  have hi_X12 : ∀ w ∈ wsX120, w ∈ wsX12_visitor := by decide +kernel
  refine lv_aload_n hx hb dX12_visitor_0 rfl (lv_at hl 0 rfl) ?_
  refine lv_iload_n hx hb dX12_visitor_1 rfl (lv_at hl 1 rfl) ?_
  refine wx_callr (va_runV (As := [.int a1]) (rest := []) ⟨hx, hb, hml, hown, hts⟩ (k_X12_isGuest l g a1) (cwV 1 hts gX12_visitor_X12_isGuest rfl rfl rfl (by decide +kernel) (by rw [hR]; exact ⟨Nat.le_of_ble_eq_true rfl, Nat.le_of_ble_eq_true rfl⟩)) ⟨wx_Pc.blind, wx_recv hK hX (by decide) sh_X12 rfl, (wx_Pc.pre hK hX).2⟩ rfl rfl hl.1 rfl (lv_room (Nat.le_of_ble_eq_true rfl)) dX12_visitor_2 ⟨Nat.zero_le _, Nat.zero_le _⟩) ?_
  refine lv_if_ne (tgt := 11) hx hb dX12_visitor_5 (by decide) (fun c_1 => ?_) (fun c_1 => ?_)
  · have b_2 : wx_b a1 0 3 := rf_X12_isGuest hm c_1
    refine lv_iconst (v := 0) hx hb dX12_visitor_11 (by decide) ?_
    refine lv_istore_n (lv' := [(3, .int 0), (0, .ref (ad 57)), (1, .int a1), (2, .int a2)]) hx hb dX12_visitor_12 rfl hl (by decide) rfl (fun ls hl => ?_)
    refine lv_iconst (v := 0) hx hb dX12_visitor_13 (by decide) ?_
    refine lv_istore (lv' := [(4, .int 0), (3, .int 0), (0, .ref (ad 57)), (1, .int a1), (2, .int a2)]) hx hb dX12_visitor_14 hl (by decide) rfl (fun ls hl => ?_)
    have lp_16 : ∀ (n t_16 : Nat) (s_16 : Int32) (ls : Array Slot), t_16 ≤ 8 → 8 + 1 ≤ t_16 + n → s_16 = rep t_16 (b_X12_visitor_16 g a1 a2) (0 : Int32) → lv_has ls 5 [(4, .int (nI t_16)), (3, .int s_16), (0, .ref (ad 57)), (1, .int a1), (2, .int a2)] → W p l e R s m args below meth c s.heap [] 0 0 Qm (F0 m 16 ls []) := by
      intro n
      induction n with
      | zero => intro t_16 s_16 ls h1 h2; exact absurd h2 (by omega)
      | succ n ih_16 =>
        intro t_16 s_16 ls ht_16 hn_16 es_16 hl
        refine lv_iload hx hb dX12_visitor_16 (lv_at hl 0 rfl) ?_
        refine lv_bipush (v := 8) hx hb dX12_visitor_18 (by decide) ?_
        refine lv_icmp_ge (tgt := 41) hx hb dX12_visitor_20 (by decide) (fun c_3 => ?_) (fun c_3 => ?_)
        · have et_16 : t_16 = 8 := Nat.le_antisymm ht_16 (by have h9 := wx_dn (by omega) c_3; have h8 : (8 : Int32).toNatClampNeg = 8 := (by decide); omega)
          subst et_16
          refine lv_iload_n hx hb dX12_visitor_41 rfl (lv_at hl 4 rfl) ?_
          refine lv_if_ne (tgt := 57) hx hb dX12_visitor_42 (by decide) (fun c_4 => ?_) (fun c_4 => ?_)
          · refine lv_iload_n hx hb dX12_visitor_57 rfl (lv_at hl 4 rfl) ?_
            refine lv_iconst (v := 1) hx hb dX12_visitor_58 (by decide) ?_
            refine lv_icmp_ne (tgt := 70) hx hb dX12_visitor_59 (by decide) (fun c_5 => ?_) (fun c_5 => ?_)
            · refine lv_iload_n hx hb dX12_visitor_70 rfl (lv_at hl 4 rfl) ?_
              refine lv_iconst (v := 2) hx hb dX12_visitor_71 (by decide) ?_
              refine lv_icmp_ne (tgt := 79) hx hb dX12_visitor_72 (by decide) (fun c_6 => ?_) (fun c_6 => ?_)
              · refine lv_ldc hx hb hown (hts (.constant RX12 60 (-1000001)) (by decide +kernel)) dX12_visitor_79 ?_
                exact hret _ _ _ dX12_visitor_81 rfl (by simp only [r_X12_visitor, if_neg c_1, if_neg c_4, if_neg c_5, if_neg c_6, ← es_16])
              · have b_7 : wx_b a2 2 2 := by rw [c_6]; exact ⟨by decide, by decide⟩
                refine lv_iload_n hx hb dX12_visitor_75 rfl (lv_at hl 1 rfl) ?_
                refine lv_goto (tgt := 81) hx hb dX12_visitor_76 (by decide) ?_
                exact hret _ _ _ dX12_visitor_81 rfl (by simp only [r_X12_visitor, if_neg c_1, if_neg c_4, if_neg c_5, if_pos c_6, ← es_16])
            · have b_8 : wx_b a2 1 1 := by rw [c_5]; exact ⟨by decide, by decide⟩
              refine lv_aload_n hx hb dX12_visitor_62 rfl (lv_at hl 2 rfl) ?_
              refine lv_iload_n hx hb dX12_visitor_63 rfl (lv_at hl 3 rfl) ?_
              refine wx_callr (va_runV (As := [.int a1]) (rest := []) ⟨hx, hb, hml, hown, hts⟩ (k_X12_heldBy l g a1) (cwV 1 hts gX12_visitor_X12_heldBy rfl rfl rfl (by decide +kernel) (by rw [hR]; exact ⟨Nat.le_of_ble_eq_true rfl, Nat.le_of_ble_eq_true rfl⟩)) ⟨wx_Pc.blind, wx_recv hK hX (by decide) sh_X12 rfl, (wx_Pc.pre hK hX).2⟩ rfl rfl hl.1 rfl (lv_room (Nat.le_of_ble_eq_true rfl)) dX12_visitor_64 ⟨Nat.zero_le _, Nat.zero_le _⟩) ?_
              refine lv_goto (tgt := 81) hx hb dX12_visitor_67 (by decide) ?_
              exact hret _ _ _ dX12_visitor_81 rfl (by simp only [r_X12_visitor, if_neg c_1, if_neg c_4, if_pos c_5, ← es_16])
          · have b_9 : wx_b a2 0 0 := by rw [c_4]; exact ⟨by decide, by decide⟩
            refine lv_aload_n hx hb dX12_visitor_45 rfl (lv_at hl 2 rfl) ?_
            refine wx_getr (t := 65) (C := RX12) (T := TX12) (N := 27) (ci := 11) (j := 20) hx hb hts hi_X12 hown hK hX (by decide) sh_X12_20 rfl (by decide) (hts (.fieldLink RX12 31 "SeenAgainModel" "now" "[I") (by decide +kernel)) (fun _ h9 => h9) dX12_visitor_46 ?_
            refine lv_bipush (v := 47) hx hb dX12_visitor_49 (by decide) ?_
            refine lv_iload_n hx hb dX12_visitor_51 rfl (lv_at hl 3 rfl) ?_
            refine lv_iadd hx hb dX12_visitor_52 ?_
            refine wx_iald hx hb hK hX (by decide) sa_65 (wb_in (wb_add (show wx_b 47 47 47 from ⟨by decide, by decide⟩) b_2 (by decide) (by decide)) (by decide) (by decide)) dX12_visitor_53 ?_
            refine lv_goto (tgt := 81) hx hb dX12_visitor_54 (by decide) ?_
            exact hret _ _ _ dX12_visitor_81 rfl (by simp only [r_X12_visitor, if_neg c_1, if_pos c_4, ← es_16])
        · have hlt_16 : t_16 < 8 := by have h9 := wx_up (by omega) c_3; have h8 : (8 : Int32).toNatClampNeg = 8 := (by decide); omega
          have bt_16 : wx_b (nI (t_16)) 0 7 := wb_nI (n := 7) (by omega) (by decide)
          refine lv_iload_n hx hb dX12_visitor_23 rfl (lv_at hl 1 rfl) ?_
          refine lv_aload_n hx hb dX12_visitor_24 rfl (lv_at hl 2 rfl) ?_
          refine lv_iconst (v := 1) hx hb dX12_visitor_25 (by decide) ?_
          refine lv_iload_n hx hb dX12_visitor_26 rfl (lv_at hl 3 rfl) ?_
          refine lv_ishl hx hb dX12_visitor_27 ?_
          refine lv_iload hx hb dX12_visitor_28 (lv_at hl 0 rfl) ?_
          refine wx_callr (va_runV (As := [.int (1 <<< (a1 &&& 31)), .int (nI t_16)]) (rest := [.int s_16]) ⟨hx, hb, hml, hown, hts⟩ (k_X12_lookedBy l g (1 <<< (a1 &&& 31)) (nI t_16) bt_16 hm) (cwV 2 hts gX12_visitor_X12_lookedBy rfl rfl rfl (by decide +kernel) (by rw [hR]; exact ⟨Nat.le_of_ble_eq_true rfl, Nat.le_of_ble_eq_true rfl⟩)) ⟨wx_Pc.blind, wx_recv hK hX (by decide) sh_X12 rfl, (wx_Pc.pre hK hX).2⟩ rfl rfl hl.1 rfl (lv_room (Nat.le_of_ble_eq_true rfl)) dX12_visitor_30 ⟨Nat.zero_le _, Nat.zero_le _⟩) ?_
          refine lv_ior hx hb dX12_visitor_33 ?_
          refine lv_topi (fun x_10 ex_10 => ?_)
          refine lv_istore_n (lv' := [(3, .int x_10), (4, .int (nI t_16)), (0, .ref (ad 57)), (1, .int a1), (2, .int a2)]) hx hb dX12_visitor_34 rfl hl (by decide) rfl (fun ls hl => ?_)
          refine lv_iinc (v := nI (t_16 + 1)) (lv' := [(4, .int (nI (t_16 + 1))), (3, .int x_10), (0, .ref (ad 57)), (1, .int a1), (2, .int a2)]) hx hb dX12_visitor_35 hl (k := 1) rfl (wx_inc _) (by decide) rfl (fun ls hl => ?_)
          refine lv_goto (tgt := 16) hx hb dX12_visitor_38 (by decide) ?_
          have hF_11 : (b_X12_visitor_16 g a1 a2) t_16 s_16 = x_10 := (by subst ex_10; simp only [b_X12_visitor_16])
          exact ih_16 (t_16 + 1) x_10 ls hlt_16 (by omega) (by rw [rep_succ, ← es_16, hF_11]) (lv_sub hl [0, 1, 2, 3, 4] rfl)
    exact lp_16 (8 + 1) 0 (0 : Int32) ls (Nat.zero_le _) (by omega) rfl (lv_sub hl [0, 1, 2, 3, 4] rfl)
  · have b_12 : wx_b (r_X12_isGuest g a1) 0 0 := by rw [c_1]; exact ⟨by decide, by decide⟩
    refine lv_ldc hx hb hown (hts (.constant RX12 60 (-1000001)) (by decide +kernel)) dX12_visitor_8 ?_
    exact hret _ _ _ dX12_visitor_10 rfl (by simp only [r_X12_visitor, if_pos c_1])
def b_X12_seat_24 (g : wx_M) (a1 : Int32) (a2 : Int32) (a3 : Int32) (t_24 : Nat) (s_24 : Int32) : Int32 :=
  if (r_X12_was g (nI t_24) a2) = a1 then
    let x_16 := (s_24 ||| (1 <<< ((nI t_24) &&& 31)))
    x_16
  else
    let x_14 := (s_24 ||| 0)
    x_14
def r_X12_seat (g : wx_M) (a1 : Int32) (a2 : Int32) (a3 : Int32) : Int32 :=
  if (r_X12_isRoom g a1) = 0 then
    (-1000001)
  else
    if (r_X12_isMinute a2) = 0 then
      (-1000001)
    else
      let s_24 := rep (g 65 (3 : Int32).toNatClampNeg).toNatClampNeg (b_X12_seat_24 g a1 a2 a3) (0 : Int32)
      if a3 = 0 then
        (r_X12_viewOf g a1 a2)
      else
        if a3 = 1 then
          (r_X12_heldAt g a1 a2)
        else
          if a3 = 2 then
            s_24
          else
            (-1000001)
set_option maxHeartbeats 4000000 in
set_option maxRecDepth 100000 in
theorem k_X12_seat (l : Launch) {D : va_G} {cy : Nat → ClassId} {ad : Nat → Nat} {B0 : Nat} {f : wx_F} {P : va_W} (g : wx_M) (a1 : Int32) (a2 : Int32) (a3 : Int32) (hm : wx_MB g) : Met l yX12_seat wsX12_seat ({ frames := 2, cells := 0, slots := 0, locals := 43 } : Room) (wx_Pc D cy ad B0 f P g [.ref (ad 57), .int a1, .int a2, .int a3]) (QcRead (r_X12_seat g a1 a2 a3)) 0 0 (fun _ => False) := by
  refine wx_enterR (cc := cX12_seat) (maxL := 6) (ty := .int) (own := RX12) (lv := [(0, .ref (ad 57)), (1, .int a1), (2, .int a2), (3, .int a3)]) (by decide) rfl rfl (Nat.le_of_ble_eq_true rfl) rfl ?_
  intro p e R s m args below meth c ls Qm hx hb hml hown hts hK hX hR hret hl
  have hi_X12 : ∀ w ∈ wsX120, w ∈ wsX12_seat := by decide +kernel
  refine lv_aload_n hx hb dX12_seat_0 rfl (lv_at hl 0 rfl) ?_
  refine lv_iload_n hx hb dX12_seat_1 rfl (lv_at hl 1 rfl) ?_
  refine wx_callr (va_runV (As := [.int a1]) (rest := []) ⟨hx, hb, hml, hown, hts⟩ (k_X12_isRoom l g a1) (cwV 1 hts gX12_seat_X12_isRoom rfl rfl rfl (by decide +kernel) (by rw [hR]; exact ⟨Nat.le_of_ble_eq_true rfl, Nat.le_of_ble_eq_true rfl⟩)) ⟨wx_Pc.blind, wx_recv hK hX (by decide) sh_X12 rfl, (wx_Pc.pre hK hX).2⟩ rfl rfl hl.1 rfl (lv_room (Nat.le_of_ble_eq_true rfl)) dX12_seat_2 ⟨Nat.zero_le _, Nat.zero_le _⟩) ?_
  refine lv_if_eq (tgt := 15) hx hb dX12_seat_5 (by decide) (fun c_1 => ?_) (fun c_1 => ?_)
  · have b_2 : wx_b (r_X12_isRoom g a1) 0 0 := by rw [c_1]; exact ⟨by decide, by decide⟩
    refine lv_ldc hx hb hown (hts (.constant RX12 60 (-1000001)) (by decide +kernel)) dX12_seat_15 ?_
    exact hret _ _ _ dX12_seat_17 rfl (by simp only [r_X12_seat, if_pos c_1])
  · have b_3 : wx_b a1 0 5 := rf_X12_isRoom hm c_1
    refine lv_iload_n hx hb dX12_seat_8 rfl (lv_at hl 2 rfl) ?_
    refine wx_callr (va_runS (As := [.int a2]) (rest := []) ⟨hx, hb, hml, hown, hts⟩ (k_X12_isMinute l g a2) (va_cwS 1 hts gX12_seat_X12_isMinute rfl rfl rfl (by decide +kernel) (by rw [hR]; exact ⟨Nat.le_of_ble_eq_true rfl, Nat.le_of_ble_eq_true rfl⟩)) (wx_Pc.pre hK hX) rfl rfl hl.1 rfl (lv_room (Nat.le_of_ble_eq_true rfl)) dX12_seat_9 ⟨Nat.zero_le _, Nat.zero_le _⟩) ?_
    refine lv_if_ne (tgt := 18) hx hb dX12_seat_12 (by decide) (fun c_4 => ?_) (fun c_4 => ?_)
    · have b_5 : wx_b a2 0 7 := rf_X12_isMinute  c_4
      refine lv_iconst (v := 0) hx hb dX12_seat_18 (by decide) ?_
      refine lv_istore (lv' := [(4, .int 0), (0, .ref (ad 57)), (1, .int a1), (2, .int a2), (3, .int a3)]) hx hb dX12_seat_19 hl (by decide) rfl (fun ls hl => ?_)
      refine lv_iconst (v := 0) hx hb dX12_seat_21 (by decide) ?_
      refine lv_istore (lv' := [(5, .int 0), (4, .int 0), (0, .ref (ad 57)), (1, .int a1), (2, .int a2), (3, .int a3)]) hx hb dX12_seat_22 hl (by decide) rfl (fun ls hl => ?_)
      have lp_24 : ∀ (n t_24 : Nat) (s_24 : Int32) (ls : Array Slot), t_24 ≤ (g 65 (3 : Int32).toNatClampNeg).toNatClampNeg → (g 65 (3 : Int32).toNatClampNeg).toNatClampNeg + 1 ≤ t_24 + n → s_24 = rep t_24 (b_X12_seat_24 g a1 a2 a3) (0 : Int32) → lv_has ls 6 [(5, .int (nI t_24)), (4, .int s_24), (0, .ref (ad 57)), (1, .int a1), (2, .int a2), (3, .int a3)] → W p l e R s m args below meth c s.heap [] 0 0 Qm (F0 m 24 ls []) := by
        intro n
        induction n with
        | zero => intro t_24 s_24 ls h1 h2; exact absurd h2 (by omega)
        | succ n ih_24 =>
          intro t_24 s_24 ls ht_24 hn_24 es_24 hl
          refine lv_iload hx hb dX12_seat_24 (lv_at hl 0 rfl) ?_
          refine lv_aload_n hx hb dX12_seat_26 rfl (lv_at hl 2 rfl) ?_
          refine wx_getr (t := 65) (C := RX12) (T := TX12) (N := 27) (ci := 11) (j := 20) hx hb hts hi_X12 hown hK hX (by decide) sh_X12_20 rfl (by decide) (hts (.fieldLink RX12 31 "SeenAgainModel" "now" "[I") (by decide +kernel)) (fun _ h9 => h9) dX12_seat_27 ?_
          refine lv_iconst (v := 3) hx hb dX12_seat_30 (by decide) ?_
          refine wx_iald hx hb hK hX (by decide) sa_65 (wb_in (show wx_b 3 3 3 from ⟨by decide, by decide⟩) (by decide) (by decide)) dX12_seat_31 ?_
          refine lv_icmp_ge (tgt := 65) hx hb dX12_seat_32 (by decide) (fun c_6 => ?_) (fun c_6 => ?_)
          · have et_24 : t_24 = (g 65 (3 : Int32).toNatClampNeg).toNatClampNeg := Nat.le_antisymm ht_24 (by have h9 := wx_dn (by have := wx_cl31 (g 65 (3 : Int32).toNatClampNeg); omega) c_6; omega)
            subst et_24
            refine lv_iload_n hx hb dX12_seat_65 rfl (lv_at hl 5 rfl) ?_
            refine lv_if_ne (tgt := 78) hx hb dX12_seat_66 (by decide) (fun c_7 => ?_) (fun c_7 => ?_)
            · refine lv_iload_n hx hb dX12_seat_78 rfl (lv_at hl 5 rfl) ?_
              refine lv_iconst (v := 1) hx hb dX12_seat_79 (by decide) ?_
              refine lv_icmp_ne (tgt := 92) hx hb dX12_seat_80 (by decide) (fun c_8 => ?_) (fun c_8 => ?_)
              · refine lv_iload_n hx hb dX12_seat_92 rfl (lv_at hl 5 rfl) ?_
                refine lv_iconst (v := 2) hx hb dX12_seat_93 (by decide) ?_
                refine lv_icmp_ne (tgt := 102) hx hb dX12_seat_94 (by decide) (fun c_9 => ?_) (fun c_9 => ?_)
                · refine lv_ldc hx hb hown (hts (.constant RX12 60 (-1000001)) (by decide +kernel)) dX12_seat_102 ?_
                  exact hret _ _ _ dX12_seat_104 rfl (by simp only [r_X12_seat, if_neg c_1, if_neg c_4, if_neg c_7, if_neg c_8, if_neg c_9, ← es_24])
                · have b_10 : wx_b a3 2 2 := by rw [c_9]; exact ⟨by decide, by decide⟩
                  refine lv_iload hx hb dX12_seat_97 (lv_at hl 1 rfl) ?_
                  refine lv_goto (tgt := 104) hx hb dX12_seat_99 (by decide) ?_
                  exact hret _ _ _ dX12_seat_104 rfl (by simp only [r_X12_seat, if_neg c_1, if_neg c_4, if_neg c_7, if_neg c_8, if_pos c_9, ← es_24])
              · have b_11 : wx_b a3 1 1 := by rw [c_8]; exact ⟨by decide, by decide⟩
                refine lv_aload_n hx hb dX12_seat_83 rfl (lv_at hl 2 rfl) ?_
                refine lv_iload_n hx hb dX12_seat_84 rfl (lv_at hl 3 rfl) ?_
                refine lv_iload_n hx hb dX12_seat_85 rfl (lv_at hl 4 rfl) ?_
                refine wx_callr (va_runV (As := [.int a1, .int a2]) (rest := []) ⟨hx, hb, hml, hown, hts⟩ (k_X12_heldAt l g a1 a2 b_3 b_5) (cwV 2 hts gX12_seat_X12_heldAt rfl rfl rfl (by decide +kernel) (by rw [hR]; exact ⟨Nat.le_of_ble_eq_true rfl, Nat.le_of_ble_eq_true rfl⟩)) ⟨wx_Pc.blind, wx_recv hK hX (by decide) sh_X12 rfl, (wx_Pc.pre hK hX).2⟩ rfl rfl hl.1 rfl (lv_room (Nat.le_of_ble_eq_true rfl)) dX12_seat_86 ⟨Nat.zero_le _, Nat.zero_le _⟩) ?_
                refine lv_goto (tgt := 104) hx hb dX12_seat_89 (by decide) ?_
                exact hret _ _ _ dX12_seat_104 rfl (by simp only [r_X12_seat, if_neg c_1, if_neg c_4, if_neg c_7, if_pos c_8, ← es_24])
            · have b_12 : wx_b a3 0 0 := by rw [c_7]; exact ⟨by decide, by decide⟩
              refine lv_aload_n hx hb dX12_seat_69 rfl (lv_at hl 2 rfl) ?_
              refine lv_iload_n hx hb dX12_seat_70 rfl (lv_at hl 3 rfl) ?_
              refine lv_iload_n hx hb dX12_seat_71 rfl (lv_at hl 4 rfl) ?_
              refine wx_callr (va_runV (As := [.int a1, .int a2]) (rest := []) ⟨hx, hb, hml, hown, hts⟩ (k_X12_viewOf l g a1 a2 b_3 b_5) (cwV 2 hts gX12_seat_X12_viewOf rfl rfl rfl (by decide +kernel) (by rw [hR]; exact ⟨Nat.le_of_ble_eq_true rfl, Nat.le_of_ble_eq_true rfl⟩)) ⟨wx_Pc.blind, wx_recv hK hX (by decide) sh_X12 rfl, (wx_Pc.pre hK hX).2⟩ rfl rfl hl.1 rfl (lv_room (Nat.le_of_ble_eq_true rfl)) dX12_seat_72 ⟨Nat.zero_le _, Nat.zero_le _⟩) ?_
              refine lv_goto (tgt := 104) hx hb dX12_seat_75 (by decide) ?_
              exact hret _ _ _ dX12_seat_104 rfl (by simp only [r_X12_seat, if_neg c_1, if_neg c_4, if_pos c_7, ← es_24])
          · have hlt_24 : t_24 < (g 65 (3 : Int32).toNatClampNeg).toNatClampNeg := by have h9 := wx_up (by have := wx_cl31 (g 65 (3 : Int32).toNatClampNeg); omega) c_6; omega
            have bt_24 : wx_b (nI (t_24)) 0 3 := wb_nI (n := 3) (by have := wb_cl (n := 4) hm.2.1 (by decide); omega) (by decide)
            refine lv_iload hx hb dX12_seat_35 (lv_at hl 1 rfl) ?_
            refine lv_aload_n hx hb dX12_seat_37 rfl (lv_at hl 2 rfl) ?_
            refine lv_iload hx hb dX12_seat_38 (lv_at hl 0 rfl) ?_
            refine lv_iload_n hx hb dX12_seat_40 rfl (lv_at hl 4 rfl) ?_
            refine wx_callr (va_runV (As := [.int (nI t_24), .int a2]) (rest := [.int s_24]) ⟨hx, hb, hml, hown, hts⟩ (k_X12_was l g (nI t_24) a2 bt_24 b_5) (cwV 2 hts gX12_seat_X12_was rfl rfl rfl (by decide +kernel) (by rw [hR]; exact ⟨Nat.le_of_ble_eq_true rfl, Nat.le_of_ble_eq_true rfl⟩)) ⟨wx_Pc.blind, wx_recv hK hX (by decide) sh_X12 rfl, (wx_Pc.pre hK hX).2⟩ rfl rfl hl.1 rfl (lv_room (Nat.le_of_ble_eq_true rfl)) dX12_seat_41 ⟨Nat.zero_le _, Nat.zero_le _⟩) ?_
            refine lv_iload_n hx hb dX12_seat_44 rfl (lv_at hl 3 rfl) ?_
            refine lv_icmp_ne (tgt := 55) hx hb dX12_seat_45 (by decide) (fun c_13 => ?_) (fun c_13 => ?_)
            · refine lv_iconst (v := 0) hx hb dX12_seat_55 (by decide) ?_
              refine lv_ior hx hb dX12_seat_56 ?_
              refine lv_topi (fun x_14 ex_14 => ?_)
              refine lv_istore (lv' := [(4, .int x_14), (5, .int (nI t_24)), (0, .ref (ad 57)), (1, .int a1), (2, .int a2), (3, .int a3)]) hx hb dX12_seat_57 hl (by decide) rfl (fun ls hl => ?_)
              refine lv_iinc (v := nI (t_24 + 1)) (lv' := [(5, .int (nI (t_24 + 1))), (4, .int x_14), (0, .ref (ad 57)), (1, .int a1), (2, .int a2), (3, .int a3)]) hx hb dX12_seat_59 hl (k := 1) rfl (wx_inc _) (by decide) rfl (fun ls hl => ?_)
              refine lv_goto (tgt := 24) hx hb dX12_seat_62 (by decide) ?_
              have hF_15 : (b_X12_seat_24 g a1 a2 a3) t_24 s_24 = x_14 := (by subst ex_14; simp only [b_X12_seat_24, if_neg c_13])
              exact ih_24 (t_24 + 1) x_14 ls hlt_24 (by omega) (by rw [rep_succ, ← es_24, hF_15]) (lv_sub hl [0, 1, 2, 3, 4, 5] rfl)
            · refine lv_iconst (v := 1) hx hb dX12_seat_48 (by decide) ?_
              refine lv_iload hx hb dX12_seat_49 (lv_at hl 0 rfl) ?_
              refine lv_ishl hx hb dX12_seat_51 ?_
              refine lv_goto (tgt := 56) hx hb dX12_seat_52 (by decide) ?_
              refine lv_ior hx hb dX12_seat_56 ?_
              refine lv_topi (fun x_16 ex_16 => ?_)
              refine lv_istore (lv' := [(4, .int x_16), (5, .int (nI t_24)), (0, .ref (ad 57)), (1, .int a1), (2, .int a2), (3, .int a3)]) hx hb dX12_seat_57 hl (by decide) rfl (fun ls hl => ?_)
              refine lv_iinc (v := nI (t_24 + 1)) (lv' := [(5, .int (nI (t_24 + 1))), (4, .int x_16), (0, .ref (ad 57)), (1, .int a1), (2, .int a2), (3, .int a3)]) hx hb dX12_seat_59 hl (k := 1) rfl (wx_inc _) (by decide) rfl (fun ls hl => ?_)
              refine lv_goto (tgt := 24) hx hb dX12_seat_62 (by decide) ?_
              have hF_17 : (b_X12_seat_24 g a1 a2 a3) t_24 s_24 = x_16 := (by subst ex_16; simp only [b_X12_seat_24, if_pos c_13])
              exact ih_24 (t_24 + 1) x_16 ls hlt_24 (by omega) (by rw [rep_succ, ← es_24, hF_17]) (lv_sub hl [0, 1, 2, 3, 4, 5] rfl)
      exact lp_24 ((g 65 (3 : Int32).toNatClampNeg).toNatClampNeg + 1) 0 (0 : Int32) ls (Nat.zero_le _) (by omega) rfl (lv_sub hl [0, 1, 2, 3, 4, 5] rfl)
    · have b_18 : wx_b (r_X12_isMinute a2) 0 0 := by rw [c_4]; exact ⟨by decide, by decide⟩
      refine lv_ldc hx hb hown (hts (.constant RX12 60 (-1000001)) (by decide +kernel)) dX12_seat_15 ?_
      exact hret _ _ _ dX12_seat_17 rfl (by simp only [r_X12_seat, if_neg c_1, if_pos c_4])
def r_X12_price (g : wx_M) (a1 : Int32) (a2 : Int32) (a3 : Int32) : Int32 :=
  if (r_X12_isSeat g a1 a2 a3) = 0 then
    (-1000001)
  else
    (r_X12_priceOf g a1 a2 a3)
set_option maxHeartbeats 4000000 in
set_option maxRecDepth 100000 in
theorem k_X12_price (l : Launch) {D : va_G} {cy : Nat → ClassId} {ad : Nat → Nat} {B0 : Nat} {f : wx_F} {P : va_W} (g : wx_M) (a1 : Int32) (a2 : Int32) (a3 : Int32) (hm : wx_MB g) : Met l yX12_price wsX12_price ({ frames := 3, cells := 0, slots := 0, locals := 66 } : Room) (wx_Pc D cy ad B0 f P g [.ref (ad 57), .int a1, .int a2, .int a3]) (QcRead (r_X12_price g a1 a2 a3)) 0 0 (fun _ => False) := by
  refine wx_enterR (cc := cX12_price) (maxL := 4) (ty := .int) (own := RX12) (lv := [(0, .ref (ad 57)), (1, .int a1), (2, .int a2), (3, .int a3)]) (by decide) rfl rfl (Nat.le_of_ble_eq_true rfl) rfl ?_
  intro p e R s m args below meth c ls Qm hx hb hml hown hts hK hX hR hret hl
  refine lv_aload_n hx hb dX12_price_0 rfl (lv_at hl 0 rfl) ?_
  refine lv_iload_n hx hb dX12_price_1 rfl (lv_at hl 1 rfl) ?_
  refine lv_iload_n hx hb dX12_price_2 rfl (lv_at hl 2 rfl) ?_
  refine lv_iload_n hx hb dX12_price_3 rfl (lv_at hl 3 rfl) ?_
  refine wx_callr (va_runV (As := [.int a1, .int a2, .int a3]) (rest := []) ⟨hx, hb, hml, hown, hts⟩ (k_X12_isSeat l g a1 a2 a3) (cwV 3 hts gX12_price_X12_isSeat rfl rfl rfl (by decide +kernel) (by rw [hR]; exact ⟨Nat.le_of_ble_eq_true rfl, Nat.le_of_ble_eq_true rfl⟩)) ⟨wx_Pc.blind, wx_recv hK hX (by decide) sh_X12 rfl, (wx_Pc.pre hK hX).2⟩ rfl rfl hl.1 rfl (lv_room (Nat.le_of_ble_eq_true rfl)) dX12_price_4 ⟨Nat.zero_le _, Nat.zero_le _⟩) ?_
  refine lv_if_eq (tgt := 20) hx hb dX12_price_7 (by decide) (fun c_1 => ?_) (fun c_1 => ?_)
  · have b_2 : wx_b (r_X12_isSeat g a1 a2 a3) 0 0 := by rw [c_1]; exact ⟨by decide, by decide⟩
    refine lv_ldc hx hb hown (hts (.constant RX12 60 (-1000001)) (by decide +kernel)) dX12_price_20 ?_
    exact hret _ _ _ dX12_price_22 rfl (by simp only [r_X12_price, if_pos c_1])
  · have b_3 : wx_b a1 0 3 := rf_X12_isSeat1 hm c_1
    have b_4 : wx_b a2 0 5 := rf_X12_isSeat2 hm c_1
    have b_5 : wx_b a3 0 7 := rf_X12_isSeat3 hm c_1
    refine lv_aload_n hx hb dX12_price_10 rfl (lv_at hl 0 rfl) ?_
    refine lv_iload_n hx hb dX12_price_11 rfl (lv_at hl 1 rfl) ?_
    refine lv_iload_n hx hb dX12_price_12 rfl (lv_at hl 2 rfl) ?_
    refine lv_iload_n hx hb dX12_price_13 rfl (lv_at hl 3 rfl) ?_
    refine wx_callr (va_runV (As := [.int a1, .int a2, .int a3]) (rest := []) ⟨hx, hb, hml, hown, hts⟩ (k_X12_priceOf l g a1 a2 a3 b_3 b_4 b_5 hm) (cwV 3 hts gX12_price_X12_priceOf rfl rfl rfl (by decide +kernel) (by rw [hR]; exact ⟨Nat.le_of_ble_eq_true rfl, Nat.le_of_ble_eq_true rfl⟩)) ⟨wx_Pc.blind, wx_recv hK hX (by decide) sh_X12 rfl, (wx_Pc.pre hK hX).2⟩ rfl rfl hl.1 rfl (lv_room (Nat.le_of_ble_eq_true rfl)) dX12_price_14 ⟨Nat.zero_le _, Nat.zero_le _⟩) ?_
    refine lv_goto (tgt := 22) hx hb dX12_price_17 (by decide) ?_
    exact hret _ _ _ dX12_price_22 rfl (by simp only [r_X12_price, if_neg c_1])
def r_X12_looked (g : wx_M) (a1 : Int32) (a2 : Int32) : Int32 :=
  if (g 65 (0 : Int32).toNatClampNeg) = 0 then
    (-1000002)
  else
    if (r_X12_isSet g a1) = 0 then
      (-1000001)
    else
      if (r_X12_isMinute a2) = 0 then
        (-1000001)
      else
        (r_X12_lookedBy g a1 a2)
set_option maxHeartbeats 4000000 in
set_option maxRecDepth 100000 in
theorem k_X12_looked (l : Launch) {D : va_G} {cy : Nat → ClassId} {ad : Nat → Nat} {B0 : Nat} {f : wx_F} {P : va_W} (g : wx_M) (a1 : Int32) (a2 : Int32) (hm : wx_MB g) : Met l yX12_looked wsX12_looked ({ frames := 2, cells := 0, slots := 0, locals := 46 } : Room) (wx_Pc D cy ad B0 f P g [.ref (ad 57), .int a1, .int a2]) (QcRead (r_X12_looked g a1 a2)) 0 0 (fun _ => False) := by
  refine wx_enterR (cc := cX12_looked) (maxL := 3) (ty := .int) (own := RX12) (lv := [(0, .ref (ad 57)), (1, .int a1), (2, .int a2)]) (by decide) rfl rfl (Nat.le_of_ble_eq_true rfl) rfl ?_
  intro p e R s m args below meth c ls Qm hx hb hml hown hts hK hX hR hret hl
  have hi_X12 : ∀ w ∈ wsX120, w ∈ wsX12_looked := by decide +kernel
  refine lv_aload_n hx hb dX12_looked_0 rfl (lv_at hl 0 rfl) ?_
  refine wx_getr (t := 65) (C := RX12) (T := TX12) (N := 27) (ci := 11) (j := 20) hx hb hts hi_X12 hown hK hX (by decide) sh_X12_20 rfl (by decide) (hts (.fieldLink RX12 31 "SeenAgainModel" "now" "[I") (by decide +kernel)) (fun _ h9 => h9) dX12_looked_1 ?_
  refine lv_iconst (v := 0) hx hb dX12_looked_4 (by decide) ?_
  refine wx_iald hx hb hK hX (by decide) sa_65 (wb_in (show wx_b 0 0 0 from ⟨by decide, by decide⟩) (by decide) (by decide)) dX12_looked_5 ?_
  refine lv_if_ne (tgt := 12) hx hb dX12_looked_6 (by decide) (fun c_1 => ?_) (fun c_1 => ?_)
  · have b_2 : wx_b (g 65 (0 : Int32).toNatClampNeg) 1 6 := wb_nel c_1 hm.1 (by decide)
    refine lv_aload_n hx hb dX12_looked_12 rfl (lv_at hl 0 rfl) ?_
    refine lv_iload_n hx hb dX12_looked_13 rfl (lv_at hl 1 rfl) ?_
    refine wx_callr (va_runV (As := [.int a1]) (rest := []) ⟨hx, hb, hml, hown, hts⟩ (k_X12_isSet l g a1) (cwV 1 hts gX12_looked_X12_isSet rfl rfl rfl (by decide +kernel) (by rw [hR]; exact ⟨Nat.le_of_ble_eq_true rfl, Nat.le_of_ble_eq_true rfl⟩)) ⟨wx_Pc.blind, wx_recv hK hX (by decide) sh_X12 rfl, (wx_Pc.pre hK hX).2⟩ rfl rfl hl.1 rfl (lv_room (Nat.le_of_ble_eq_true rfl)) dX12_looked_14 ⟨Nat.zero_le _, Nat.zero_le _⟩) ?_
    refine lv_if_eq (tgt := 36) hx hb dX12_looked_17 (by decide) (fun c_3 => ?_) (fun c_3 => ?_)
    · have b_4 : wx_b (r_X12_isSet g a1) 0 0 := by rw [c_3]; exact ⟨by decide, by decide⟩
      refine lv_ldc hx hb hown (hts (.constant RX12 60 (-1000001)) (by decide +kernel)) dX12_looked_36 ?_
      exact hret _ _ _ dX12_looked_38 rfl (by simp only [r_X12_looked, if_neg c_1, if_pos c_3])
    · refine lv_iload_n hx hb dX12_looked_20 rfl (lv_at hl 2 rfl) ?_
      refine wx_callr (va_runS (As := [.int a2]) (rest := []) ⟨hx, hb, hml, hown, hts⟩ (k_X12_isMinute l g a2) (va_cwS 1 hts gX12_looked_X12_isMinute rfl rfl rfl (by decide +kernel) (by rw [hR]; exact ⟨Nat.le_of_ble_eq_true rfl, Nat.le_of_ble_eq_true rfl⟩)) (wx_Pc.pre hK hX) rfl rfl hl.1 rfl (lv_room (Nat.le_of_ble_eq_true rfl)) dX12_looked_21 ⟨Nat.zero_le _, Nat.zero_le _⟩) ?_
      refine lv_if_eq (tgt := 36) hx hb dX12_looked_24 (by decide) (fun c_5 => ?_) (fun c_5 => ?_)
      · have b_6 : wx_b (r_X12_isMinute a2) 0 0 := by rw [c_5]; exact ⟨by decide, by decide⟩
        refine lv_ldc hx hb hown (hts (.constant RX12 60 (-1000001)) (by decide +kernel)) dX12_looked_36 ?_
        exact hret _ _ _ dX12_looked_38 rfl (by simp only [r_X12_looked, if_neg c_1, if_neg c_3, if_pos c_5])
      · have b_7 : wx_b a2 0 7 := rf_X12_isMinute  c_5
        refine lv_aload_n hx hb dX12_looked_27 rfl (lv_at hl 0 rfl) ?_
        refine lv_iload_n hx hb dX12_looked_28 rfl (lv_at hl 1 rfl) ?_
        refine lv_iload_n hx hb dX12_looked_29 rfl (lv_at hl 2 rfl) ?_
        refine wx_callr (va_runV (As := [.int a1, .int a2]) (rest := []) ⟨hx, hb, hml, hown, hts⟩ (k_X12_lookedBy l g a1 a2 b_7 hm) (cwV 2 hts gX12_looked_X12_lookedBy rfl rfl rfl (by decide +kernel) (by rw [hR]; exact ⟨Nat.le_of_ble_eq_true rfl, Nat.le_of_ble_eq_true rfl⟩)) ⟨wx_Pc.blind, wx_recv hK hX (by decide) sh_X12 rfl, (wx_Pc.pre hK hX).2⟩ rfl rfl hl.1 rfl (lv_room (Nat.le_of_ble_eq_true rfl)) dX12_looked_30 ⟨Nat.zero_le _, Nat.zero_le _⟩) ?_
        refine lv_goto (tgt := 38) hx hb dX12_looked_33 (by decide) ?_
        exact hret _ _ _ dX12_looked_38 rfl (by simp only [r_X12_looked, if_neg c_1, if_neg c_3, if_neg c_5])
  · have b_8 : wx_b (g 65 (0 : Int32).toNatClampNeg) 0 0 := by rw [c_1]; exact ⟨by decide, by decide⟩
    refine lv_ldc hx hb hown (hts (.constant RX12 166 (-1000002)) (by decide +kernel)) dX12_looked_9 ?_
    exact hret _ _ _ dX12_looked_11 rfl (by simp only [r_X12_looked, if_pos c_1])
def r_X12_seen (g : wx_M) (a1 : Int32) (a2 : Int32) (a3 : Int32) : Int32 :=
  if (r_X12_isSet g a1) = 0 then
    (-1000001)
  else
    if (r_X12_isMan g a2) = 0 then
      (-1000001)
    else
      if (r_X12_isMinute a3) = 0 then
        (-1000001)
      else
        (r_X12_seenBy g a1 a2 a3)
set_option maxHeartbeats 4000000 in
set_option maxRecDepth 100000 in
theorem k_X12_seen (l : Launch) {D : va_G} {cy : Nat → ClassId} {ad : Nat → Nat} {B0 : Nat} {f : wx_F} {P : va_W} (g : wx_M) (a1 : Int32) (a2 : Int32) (a3 : Int32) (hm : wx_MB g) : Met l yX12_seen wsX12_seen ({ frames := 3, cells := 0, slots := 0, locals := 69 } : Room) (wx_Pc D cy ad B0 f P g [.ref (ad 57), .int a1, .int a2, .int a3]) (QcRead (r_X12_seen g a1 a2 a3)) 0 0 (fun _ => False) := by
  refine wx_enterR (cc := cX12_seen) (maxL := 4) (ty := .int) (own := RX12) (lv := [(0, .ref (ad 57)), (1, .int a1), (2, .int a2), (3, .int a3)]) (by decide) rfl rfl (Nat.le_of_ble_eq_true rfl) rfl ?_
  intro p e R s m args below meth c ls Qm hx hb hml hown hts hK hX hR hret hl
  refine lv_aload_n hx hb dX12_seen_0 rfl (lv_at hl 0 rfl) ?_
  refine lv_iload_n hx hb dX12_seen_1 rfl (lv_at hl 1 rfl) ?_
  refine wx_callr (va_runV (As := [.int a1]) (rest := []) ⟨hx, hb, hml, hown, hts⟩ (k_X12_isSet l g a1) (cwV 1 hts gX12_seen_X12_isSet rfl rfl rfl (by decide +kernel) (by rw [hR]; exact ⟨Nat.le_of_ble_eq_true rfl, Nat.le_of_ble_eq_true rfl⟩)) ⟨wx_Pc.blind, wx_recv hK hX (by decide) sh_X12 rfl, (wx_Pc.pre hK hX).2⟩ rfl rfl hl.1 rfl (lv_room (Nat.le_of_ble_eq_true rfl)) dX12_seen_2 ⟨Nat.zero_le _, Nat.zero_le _⟩) ?_
  refine lv_if_eq (tgt := 33) hx hb dX12_seen_5 (by decide) (fun c_1 => ?_) (fun c_1 => ?_)
  · have b_2 : wx_b (r_X12_isSet g a1) 0 0 := by rw [c_1]; exact ⟨by decide, by decide⟩
    refine lv_ldc hx hb hown (hts (.constant RX12 60 (-1000001)) (by decide +kernel)) dX12_seen_33 ?_
    exact hret _ _ _ dX12_seen_35 rfl (by simp only [r_X12_seen, if_pos c_1])
  · refine lv_aload_n hx hb dX12_seen_8 rfl (lv_at hl 0 rfl) ?_
    refine lv_iload_n hx hb dX12_seen_9 rfl (lv_at hl 2 rfl) ?_
    refine wx_callr (va_runV (As := [.int a2]) (rest := []) ⟨hx, hb, hml, hown, hts⟩ (k_X12_isMan l g a2) (cwV 1 hts gX12_seen_X12_isMan rfl rfl rfl (by decide +kernel) (by rw [hR]; exact ⟨Nat.le_of_ble_eq_true rfl, Nat.le_of_ble_eq_true rfl⟩)) ⟨wx_Pc.blind, wx_recv hK hX (by decide) sh_X12 rfl, (wx_Pc.pre hK hX).2⟩ rfl rfl hl.1 rfl (lv_room (Nat.le_of_ble_eq_true rfl)) dX12_seen_10 ⟨Nat.zero_le _, Nat.zero_le _⟩) ?_
    refine lv_if_eq (tgt := 33) hx hb dX12_seen_13 (by decide) (fun c_3 => ?_) (fun c_3 => ?_)
    · have b_4 : wx_b (r_X12_isMan g a2) 0 0 := by rw [c_3]; exact ⟨by decide, by decide⟩
      refine lv_ldc hx hb hown (hts (.constant RX12 60 (-1000001)) (by decide +kernel)) dX12_seen_33 ?_
      exact hret _ _ _ dX12_seen_35 rfl (by simp only [r_X12_seen, if_neg c_1, if_pos c_3])
    · have b_5 : wx_b a2 0 3 := rf_X12_isMan hm c_3
      refine lv_iload_n hx hb dX12_seen_16 rfl (lv_at hl 3 rfl) ?_
      refine wx_callr (va_runS (As := [.int a3]) (rest := []) ⟨hx, hb, hml, hown, hts⟩ (k_X12_isMinute l g a3) (va_cwS 1 hts gX12_seen_X12_isMinute rfl rfl rfl (by decide +kernel) (by rw [hR]; exact ⟨Nat.le_of_ble_eq_true rfl, Nat.le_of_ble_eq_true rfl⟩)) (wx_Pc.pre hK hX) rfl rfl hl.1 rfl (lv_room (Nat.le_of_ble_eq_true rfl)) dX12_seen_17 ⟨Nat.zero_le _, Nat.zero_le _⟩) ?_
      refine lv_if_eq (tgt := 33) hx hb dX12_seen_20 (by decide) (fun c_6 => ?_) (fun c_6 => ?_)
      · have b_7 : wx_b (r_X12_isMinute a3) 0 0 := by rw [c_6]; exact ⟨by decide, by decide⟩
        refine lv_ldc hx hb hown (hts (.constant RX12 60 (-1000001)) (by decide +kernel)) dX12_seen_33 ?_
        exact hret _ _ _ dX12_seen_35 rfl (by simp only [r_X12_seen, if_neg c_1, if_neg c_3, if_pos c_6])
      · have b_8 : wx_b a3 0 7 := rf_X12_isMinute  c_6
        refine lv_aload_n hx hb dX12_seen_23 rfl (lv_at hl 0 rfl) ?_
        refine lv_iload_n hx hb dX12_seen_24 rfl (lv_at hl 1 rfl) ?_
        refine lv_iload_n hx hb dX12_seen_25 rfl (lv_at hl 2 rfl) ?_
        refine lv_iload_n hx hb dX12_seen_26 rfl (lv_at hl 3 rfl) ?_
        refine wx_callr (va_runV (As := [.int a1, .int a2, .int a3]) (rest := []) ⟨hx, hb, hml, hown, hts⟩ (k_X12_seenBy l g a1 a2 a3 b_5 b_8 hm) (cwV 3 hts gX12_seen_X12_seenBy rfl rfl rfl (by decide +kernel) (by rw [hR]; exact ⟨Nat.le_of_ble_eq_true rfl, Nat.le_of_ble_eq_true rfl⟩)) ⟨wx_Pc.blind, wx_recv hK hX (by decide) sh_X12 rfl, (wx_Pc.pre hK hX).2⟩ rfl rfl hl.1 rfl (lv_room (Nat.le_of_ble_eq_true rfl)) dX12_seen_27 ⟨Nat.zero_le _, Nat.zero_le _⟩) ?_
        refine lv_goto (tgt := 35) hx hb dX12_seen_30 (by decide) ?_
        exact hret _ _ _ dX12_seen_35 rfl (by simp only [r_X12_seen, if_neg c_1, if_neg c_3, if_neg c_6])
def b_X12_known_24 (g : wx_M) (a1 : Int32) (a2 : Int32) (t_24 : Nat) (s_24 : Int32) : Int32 :=
  if (r_X12_seenBy g a1 a2 (nI t_24)) = (-1000000) then
    let x_10 := (s_24 ||| 0)
    x_10
  else
    let x_7 := (s_24 ||| (1 <<< ((nI t_24) &&& 31)))
    x_7
def r_X12_known (g : wx_M) (a1 : Int32) (a2 : Int32) : Int32 :=
  if (r_X12_isSet g a1) = 0 then
    (-1000001)
  else
    if (r_X12_isMan g a2) = 0 then
      (-1000001)
    else
      let s_24 := rep 8 (b_X12_known_24 g a1 a2) (0 : Int32)
      s_24
set_option maxHeartbeats 4000000 in
set_option maxRecDepth 100000 in
theorem k_X12_known (l : Launch) {D : va_G} {cy : Nat → ClassId} {ad : Nat → Nat} {B0 : Nat} {f : wx_F} {P : va_W} (g : wx_M) (a1 : Int32) (a2 : Int32) (hm : wx_MB g) : Met l yX12_known wsX12_known ({ frames := 3, cells := 0, slots := 0, locals := 69 } : Room) (wx_Pc D cy ad B0 f P g [.ref (ad 57), .int a1, .int a2]) (QcRead (r_X12_known g a1 a2)) 0 0 (fun _ => False) := by
  refine wx_enterR (cc := cX12_known) (maxL := 5) (ty := .int) (own := RX12) (lv := [(0, .ref (ad 57)), (1, .int a1), (2, .int a2)]) (by decide) rfl rfl (Nat.le_of_ble_eq_true rfl) rfl ?_
  intro p e R s m args below meth c ls Qm hx hb hml hown hts hK hX hR hret hl
  refine lv_aload_n hx hb dX12_known_0 rfl (lv_at hl 0 rfl) ?_
  refine lv_iload_n hx hb dX12_known_1 rfl (lv_at hl 1 rfl) ?_
  refine wx_callr (va_runV (As := [.int a1]) (rest := []) ⟨hx, hb, hml, hown, hts⟩ (k_X12_isSet l g a1) (cwV 1 hts gX12_known_X12_isSet rfl rfl rfl (by decide +kernel) (by rw [hR]; exact ⟨Nat.le_of_ble_eq_true rfl, Nat.le_of_ble_eq_true rfl⟩)) ⟨wx_Pc.blind, wx_recv hK hX (by decide) sh_X12 rfl, (wx_Pc.pre hK hX).2⟩ rfl rfl hl.1 rfl (lv_room (Nat.le_of_ble_eq_true rfl)) dX12_known_2 ⟨Nat.zero_le _, Nat.zero_le _⟩) ?_
  refine lv_if_eq (tgt := 16) hx hb dX12_known_5 (by decide) (fun c_1 => ?_) (fun c_1 => ?_)
  · have b_2 : wx_b (r_X12_isSet g a1) 0 0 := by rw [c_1]; exact ⟨by decide, by decide⟩
    refine lv_ldc hx hb hown (hts (.constant RX12 60 (-1000001)) (by decide +kernel)) dX12_known_16 ?_
    exact hret _ _ _ dX12_known_18 rfl (by simp only [r_X12_known, if_pos c_1])
  · refine lv_aload_n hx hb dX12_known_8 rfl (lv_at hl 0 rfl) ?_
    refine lv_iload_n hx hb dX12_known_9 rfl (lv_at hl 2 rfl) ?_
    refine wx_callr (va_runV (As := [.int a2]) (rest := []) ⟨hx, hb, hml, hown, hts⟩ (k_X12_isMan l g a2) (cwV 1 hts gX12_known_X12_isMan rfl rfl rfl (by decide +kernel) (by rw [hR]; exact ⟨Nat.le_of_ble_eq_true rfl, Nat.le_of_ble_eq_true rfl⟩)) ⟨wx_Pc.blind, wx_recv hK hX (by decide) sh_X12 rfl, (wx_Pc.pre hK hX).2⟩ rfl rfl hl.1 rfl (lv_room (Nat.le_of_ble_eq_true rfl)) dX12_known_10 ⟨Nat.zero_le _, Nat.zero_le _⟩) ?_
    refine lv_if_ne (tgt := 19) hx hb dX12_known_13 (by decide) (fun c_3 => ?_) (fun c_3 => ?_)
    · have b_4 : wx_b a2 0 3 := rf_X12_isMan hm c_3
      refine lv_iconst (v := 0) hx hb dX12_known_19 (by decide) ?_
      refine lv_istore_n (lv' := [(3, .int 0), (0, .ref (ad 57)), (1, .int a1), (2, .int a2)]) hx hb dX12_known_20 rfl hl (by decide) rfl (fun ls hl => ?_)
      refine lv_iconst (v := 0) hx hb dX12_known_21 (by decide) ?_
      refine lv_istore (lv' := [(4, .int 0), (3, .int 0), (0, .ref (ad 57)), (1, .int a1), (2, .int a2)]) hx hb dX12_known_22 hl (by decide) rfl (fun ls hl => ?_)
      have lp_24 : ∀ (n t_24 : Nat) (s_24 : Int32) (ls : Array Slot), t_24 ≤ 8 → 8 + 1 ≤ t_24 + n → s_24 = rep t_24 (b_X12_known_24 g a1 a2) (0 : Int32) → lv_has ls 5 [(4, .int (nI t_24)), (3, .int s_24), (0, .ref (ad 57)), (1, .int a1), (2, .int a2)] → W p l e R s m args below meth c s.heap [] 0 0 Qm (F0 m 24 ls []) := by
        intro n
        induction n with
        | zero => intro t_24 s_24 ls h1 h2; exact absurd h2 (by omega)
        | succ n ih_24 =>
          intro t_24 s_24 ls ht_24 hn_24 es_24 hl
          refine lv_iload hx hb dX12_known_24 (lv_at hl 0 rfl) ?_
          refine lv_bipush (v := 8) hx hb dX12_known_26 (by decide) ?_
          refine lv_icmp_ge (tgt := 61) hx hb dX12_known_28 (by decide) (fun c_5 => ?_) (fun c_5 => ?_)
          · have et_24 : t_24 = 8 := Nat.le_antisymm ht_24 (by have h9 := wx_dn (by omega) c_5; have h8 : (8 : Int32).toNatClampNeg = 8 := (by decide); omega)
            subst et_24
            refine lv_iload_n hx hb dX12_known_61 rfl (lv_at hl 1 rfl) ?_
            exact hret _ _ _ dX12_known_62 rfl (by simp only [r_X12_known, if_neg c_1, if_neg c_3, ← es_24])
          · have hlt_24 : t_24 < 8 := by have h9 := wx_up (by omega) c_5; have h8 : (8 : Int32).toNatClampNeg = 8 := (by decide); omega
            have bt_24 : wx_b (nI (t_24)) 0 7 := wb_nI (n := 7) (by omega) (by decide)
            refine lv_iload_n hx hb dX12_known_31 rfl (lv_at hl 1 rfl) ?_
            refine lv_aload_n hx hb dX12_known_32 rfl (lv_at hl 2 rfl) ?_
            refine lv_iload_n hx hb dX12_known_33 rfl (lv_at hl 3 rfl) ?_
            refine lv_iload_n hx hb dX12_known_34 rfl (lv_at hl 4 rfl) ?_
            refine lv_iload hx hb dX12_known_35 (lv_at hl 0 rfl) ?_
            refine wx_callr (va_runV (As := [.int a1, .int a2, .int (nI t_24)]) (rest := [.int s_24]) ⟨hx, hb, hml, hown, hts⟩ (k_X12_seenBy l g a1 a2 (nI t_24) b_4 bt_24 hm) (cwV 3 hts gX12_known_X12_seenBy rfl rfl rfl (by decide +kernel) (by rw [hR]; exact ⟨Nat.le_of_ble_eq_true rfl, Nat.le_of_ble_eq_true rfl⟩)) ⟨wx_Pc.blind, wx_recv hK hX (by decide) sh_X12 rfl, (wx_Pc.pre hK hX).2⟩ rfl rfl hl.1 rfl (lv_room (Nat.le_of_ble_eq_true rfl)) dX12_known_37 ⟨Nat.zero_le _, Nat.zero_le _⟩) ?_
            refine lv_ldc hx hb hown (hts (.constant RX12 201 (-1000000)) (by decide +kernel)) dX12_known_40 ?_
            refine lv_icmp_ne (tgt := 49) hx hb dX12_known_42 (by decide) (fun c_6 => ?_) (fun c_6 => ?_)
            · refine lv_iconst (v := 1) hx hb dX12_known_49 (by decide) ?_
              refine lv_iload hx hb dX12_known_50 (lv_at hl 0 rfl) ?_
              refine lv_ishl hx hb dX12_known_52 ?_
              refine lv_ior hx hb dX12_known_53 ?_
              refine lv_topi (fun x_7 ex_7 => ?_)
              refine lv_istore_n (lv' := [(3, .int x_7), (4, .int (nI t_24)), (0, .ref (ad 57)), (1, .int a1), (2, .int a2)]) hx hb dX12_known_54 rfl hl (by decide) rfl (fun ls hl => ?_)
              refine lv_iinc (v := nI (t_24 + 1)) (lv' := [(4, .int (nI (t_24 + 1))), (3, .int x_7), (0, .ref (ad 57)), (1, .int a1), (2, .int a2)]) hx hb dX12_known_55 hl (k := 1) rfl (wx_inc _) (by decide) rfl (fun ls hl => ?_)
              refine lv_goto (tgt := 24) hx hb dX12_known_58 (by decide) ?_
              have hF_8 : (b_X12_known_24 g a1 a2) t_24 s_24 = x_7 := (by subst ex_7; simp only [b_X12_known_24, if_neg c_6])
              exact ih_24 (t_24 + 1) x_7 ls hlt_24 (by omega) (by rw [rep_succ, ← es_24, hF_8]) (lv_sub hl [0, 1, 2, 3, 4] rfl)
            · have b_9 : wx_b (r_X12_seenBy g a1 a2 (nI t_24)) (-1000000) (-1000000) := by rw [c_6]; exact ⟨by decide, by decide⟩
              refine lv_iconst (v := 0) hx hb dX12_known_45 (by decide) ?_
              refine lv_goto (tgt := 53) hx hb dX12_known_46 (by decide) ?_
              refine lv_ior hx hb dX12_known_53 ?_
              refine lv_topi (fun x_10 ex_10 => ?_)
              refine lv_istore_n (lv' := [(3, .int x_10), (4, .int (nI t_24)), (0, .ref (ad 57)), (1, .int a1), (2, .int a2)]) hx hb dX12_known_54 rfl hl (by decide) rfl (fun ls hl => ?_)
              refine lv_iinc (v := nI (t_24 + 1)) (lv' := [(4, .int (nI (t_24 + 1))), (3, .int x_10), (0, .ref (ad 57)), (1, .int a1), (2, .int a2)]) hx hb dX12_known_55 hl (k := 1) rfl (wx_inc _) (by decide) rfl (fun ls hl => ?_)
              refine lv_goto (tgt := 24) hx hb dX12_known_58 (by decide) ?_
              have hF_11 : (b_X12_known_24 g a1 a2) t_24 s_24 = x_10 := (by subst ex_10; simp only [b_X12_known_24, if_pos c_6])
              exact ih_24 (t_24 + 1) x_10 ls hlt_24 (by omega) (by rw [rep_succ, ← es_24, hF_11]) (lv_sub hl [0, 1, 2, 3, 4] rfl)
      exact lp_24 (8 + 1) 0 (0 : Int32) ls (Nat.zero_le _) (by omega) rfl (lv_sub hl [0, 1, 2, 3, 4] rfl)
    · have b_12 : wx_b (r_X12_isMan g a2) 0 0 := by rw [c_3]; exact ⟨by decide, by decide⟩
      refine lv_ldc hx hb hown (hts (.constant RX12 60 (-1000001)) (by decide +kernel)) dX12_known_16 ?_
      exact hret _ _ _ dX12_known_18 rfl (by simp only [r_X12_known, if_neg c_1, if_pos c_3])
def r_X12_canBe (g : wx_M) (a1 : Int32) (a2 : Int32) (a3 : Int32) (a4 : Int32) : Int32 :=
  if (r_X12_isSet g a1) = 0 then
    (-1000001)
  else
    if (r_X12_isMan g a2) = 0 then
      (-1000001)
    else
      if (r_X12_isRoom g a3) = 0 then
        (-1000001)
      else
        if (r_X12_isMinute a4) = 0 then
          (-1000001)
        else
          if (r_X12_canBeAt g a1 a2 a3 a4) = 0 then
            0
          else
            1
set_option maxHeartbeats 4000000 in
set_option maxRecDepth 100000 in
theorem k_X12_canBe (l : Launch) {D : va_G} {cy : Nat → ClassId} {ad : Nat → Nat} {B0 : Nat} {f : wx_F} {P : va_W} (g : wx_M) (a1 : Int32) (a2 : Int32) (a3 : Int32) (a4 : Int32) (hm : wx_MB g) : Met l yX12_canBe wsX12_canBe ({ frames := 4, cells := 0, slots := 0, locals := 94 } : Room) (wx_Pc D cy ad B0 f P g [.ref (ad 57), .int a1, .int a2, .int a3, .int a4]) (QcRead (r_X12_canBe g a1 a2 a3 a4)) 0 0 (fun _ => False) := by
  refine wx_enterR (cc := cX12_canBe) (maxL := 5) (ty := .int) (own := RX12) (lv := [(0, .ref (ad 57)), (1, .int a1), (2, .int a2), (3, .int a3), (4, .int a4)]) (by decide) rfl rfl (Nat.le_of_ble_eq_true rfl) rfl ?_
  intro p e R s m args below meth c ls Qm hx hb hml hown hts hK hX hR hret hl
  refine lv_aload_n hx hb dX12_canBe_0 rfl (lv_at hl 0 rfl) ?_
  refine lv_iload_n hx hb dX12_canBe_1 rfl (lv_at hl 1 rfl) ?_
  refine wx_callr (va_runV (As := [.int a1]) (rest := []) ⟨hx, hb, hml, hown, hts⟩ (k_X12_isSet l g a1) (cwV 1 hts gX12_canBe_X12_isSet rfl rfl rfl (by decide +kernel) (by rw [hR]; exact ⟨Nat.le_of_ble_eq_true rfl, Nat.le_of_ble_eq_true rfl⟩)) ⟨wx_Pc.blind, wx_recv hK hX (by decide) sh_X12 rfl, (wx_Pc.pre hK hX).2⟩ rfl rfl hl.1 rfl (lv_room (Nat.le_of_ble_eq_true rfl)) dX12_canBe_2 ⟨Nat.zero_le _, Nat.zero_le _⟩) ?_
  refine lv_if_eq (tgt := 32) hx hb dX12_canBe_5 (by decide) (fun c_1 => ?_) (fun c_1 => ?_)
  · have b_2 : wx_b (r_X12_isSet g a1) 0 0 := by rw [c_1]; exact ⟨by decide, by decide⟩
    refine lv_ldc hx hb hown (hts (.constant RX12 60 (-1000001)) (by decide +kernel)) dX12_canBe_32 ?_
    exact hret _ _ _ dX12_canBe_34 rfl (by simp only [r_X12_canBe, if_pos c_1])
  · refine lv_aload_n hx hb dX12_canBe_8 rfl (lv_at hl 0 rfl) ?_
    refine lv_iload_n hx hb dX12_canBe_9 rfl (lv_at hl 2 rfl) ?_
    refine wx_callr (va_runV (As := [.int a2]) (rest := []) ⟨hx, hb, hml, hown, hts⟩ (k_X12_isMan l g a2) (cwV 1 hts gX12_canBe_X12_isMan rfl rfl rfl (by decide +kernel) (by rw [hR]; exact ⟨Nat.le_of_ble_eq_true rfl, Nat.le_of_ble_eq_true rfl⟩)) ⟨wx_Pc.blind, wx_recv hK hX (by decide) sh_X12 rfl, (wx_Pc.pre hK hX).2⟩ rfl rfl hl.1 rfl (lv_room (Nat.le_of_ble_eq_true rfl)) dX12_canBe_10 ⟨Nat.zero_le _, Nat.zero_le _⟩) ?_
    refine lv_if_eq (tgt := 32) hx hb dX12_canBe_13 (by decide) (fun c_3 => ?_) (fun c_3 => ?_)
    · have b_4 : wx_b (r_X12_isMan g a2) 0 0 := by rw [c_3]; exact ⟨by decide, by decide⟩
      refine lv_ldc hx hb hown (hts (.constant RX12 60 (-1000001)) (by decide +kernel)) dX12_canBe_32 ?_
      exact hret _ _ _ dX12_canBe_34 rfl (by simp only [r_X12_canBe, if_neg c_1, if_pos c_3])
    · have b_5 : wx_b a2 0 3 := rf_X12_isMan hm c_3
      refine lv_aload_n hx hb dX12_canBe_16 rfl (lv_at hl 0 rfl) ?_
      refine lv_iload_n hx hb dX12_canBe_17 rfl (lv_at hl 3 rfl) ?_
      refine wx_callr (va_runV (As := [.int a3]) (rest := []) ⟨hx, hb, hml, hown, hts⟩ (k_X12_isRoom l g a3) (cwV 1 hts gX12_canBe_X12_isRoom rfl rfl rfl (by decide +kernel) (by rw [hR]; exact ⟨Nat.le_of_ble_eq_true rfl, Nat.le_of_ble_eq_true rfl⟩)) ⟨wx_Pc.blind, wx_recv hK hX (by decide) sh_X12 rfl, (wx_Pc.pre hK hX).2⟩ rfl rfl hl.1 rfl (lv_room (Nat.le_of_ble_eq_true rfl)) dX12_canBe_18 ⟨Nat.zero_le _, Nat.zero_le _⟩) ?_
      refine lv_if_eq (tgt := 32) hx hb dX12_canBe_21 (by decide) (fun c_6 => ?_) (fun c_6 => ?_)
      · have b_7 : wx_b (r_X12_isRoom g a3) 0 0 := by rw [c_6]; exact ⟨by decide, by decide⟩
        refine lv_ldc hx hb hown (hts (.constant RX12 60 (-1000001)) (by decide +kernel)) dX12_canBe_32 ?_
        exact hret _ _ _ dX12_canBe_34 rfl (by simp only [r_X12_canBe, if_neg c_1, if_neg c_3, if_pos c_6])
      · have b_8 : wx_b a3 0 5 := rf_X12_isRoom hm c_6
        refine lv_iload hx hb dX12_canBe_24 (lv_at hl 4 rfl) ?_
        refine wx_callr (va_runS (As := [.int a4]) (rest := []) ⟨hx, hb, hml, hown, hts⟩ (k_X12_isMinute l g a4) (va_cwS 1 hts gX12_canBe_X12_isMinute rfl rfl rfl (by decide +kernel) (by rw [hR]; exact ⟨Nat.le_of_ble_eq_true rfl, Nat.le_of_ble_eq_true rfl⟩)) (wx_Pc.pre hK hX) rfl rfl hl.1 rfl (lv_room (Nat.le_of_ble_eq_true rfl)) dX12_canBe_26 ⟨Nat.zero_le _, Nat.zero_le _⟩) ?_
        refine lv_if_ne (tgt := 35) hx hb dX12_canBe_29 (by decide) (fun c_9 => ?_) (fun c_9 => ?_)
        · have b_10 : wx_b a4 0 7 := rf_X12_isMinute  c_9
          refine lv_aload_n hx hb dX12_canBe_35 rfl (lv_at hl 0 rfl) ?_
          refine lv_iload_n hx hb dX12_canBe_36 rfl (lv_at hl 1 rfl) ?_
          refine lv_iload_n hx hb dX12_canBe_37 rfl (lv_at hl 2 rfl) ?_
          refine lv_iload_n hx hb dX12_canBe_38 rfl (lv_at hl 3 rfl) ?_
          refine lv_iload hx hb dX12_canBe_39 (lv_at hl 4 rfl) ?_
          refine wx_callr (va_runV (As := [.int a1, .int a2, .int a3, .int a4]) (rest := []) ⟨hx, hb, hml, hown, hts⟩ (k_X12_canBeAt l g a1 a2 a3 a4 b_5 b_10 hm) (cwV 4 hts gX12_canBe_X12_canBeAt rfl rfl rfl (by decide +kernel) (by rw [hR]; exact ⟨Nat.le_of_ble_eq_true rfl, Nat.le_of_ble_eq_true rfl⟩)) ⟨wx_Pc.blind, wx_recv hK hX (by decide) sh_X12 rfl, (wx_Pc.pre hK hX).2⟩ rfl rfl hl.1 rfl (lv_room (Nat.le_of_ble_eq_true rfl)) dX12_canBe_41 ⟨Nat.zero_le _, Nat.zero_le _⟩) ?_
          refine lv_if_eq (tgt := 51) hx hb dX12_canBe_44 (by decide) (fun c_11 => ?_) (fun c_11 => ?_)
          · have b_12 : wx_b (r_X12_canBeAt g a1 a2 a3 a4) 0 0 := by rw [c_11]; exact ⟨by decide, by decide⟩
            refine lv_iconst (v := 0) hx hb dX12_canBe_51 (by decide) ?_
            exact hret _ _ _ dX12_canBe_52 rfl (by simp only [r_X12_canBe, if_neg c_1, if_neg c_3, if_neg c_6, if_neg c_9, if_pos c_11])
          · refine lv_iconst (v := 1) hx hb dX12_canBe_47 (by decide) ?_
            refine lv_goto (tgt := 52) hx hb dX12_canBe_48 (by decide) ?_
            exact hret _ _ _ dX12_canBe_52 rfl (by simp only [r_X12_canBe, if_neg c_1, if_neg c_3, if_neg c_6, if_neg c_9, if_neg c_11])
        · have b_13 : wx_b (r_X12_isMinute a4) 0 0 := by rw [c_9]; exact ⟨by decide, by decide⟩
          refine lv_ldc hx hb hown (hts (.constant RX12 60 (-1000001)) (by decide +kernel)) dX12_canBe_32 ?_
          exact hret _ _ _ dX12_canBe_34 rfl (by simp only [r_X12_canBe, if_neg c_1, if_neg c_3, if_neg c_6, if_pos c_9])
def r_X12_suspects (g : wx_M) (a1 : Int32) (a2 : Int32) (a3 : Int32) : Int32 :=
  if (g 65 (0 : Int32).toNatClampNeg) = 0 then
    (-1000002)
  else
    if (r_X12_isSet g a1) = 0 then
      (-1000001)
    else
      if (r_X12_isRoom g a2) = 0 then
        (-1000001)
      else
        if (r_X12_in a3 0 255) = 0 then
          (-1000001)
        else
          (r_X12_suspectsOf g a1 a2 a3)
set_option maxHeartbeats 4000000 in
set_option maxRecDepth 100000 in
theorem k_X12_suspects (l : Launch) {D : va_G} {cy : Nat → ClassId} {ad : Nat → Nat} {B0 : Nat} {f : wx_F} {P : va_W} (g : wx_M) (a1 : Int32) (a2 : Int32) (a3 : Int32) (hm : wx_MB g) : Met l yX12_suspects wsX12_suspects ({ frames := 5, cells := 0, slots := 0, locals := 120 } : Room) (wx_Pc D cy ad B0 f P g [.ref (ad 57), .int a1, .int a2, .int a3]) (QcRead (r_X12_suspects g a1 a2 a3)) 0 0 (fun _ => False) := by
  refine wx_enterR (cc := cX12_suspects) (maxL := 4) (ty := .int) (own := RX12) (lv := [(0, .ref (ad 57)), (1, .int a1), (2, .int a2), (3, .int a3)]) (by decide) rfl rfl (Nat.le_of_ble_eq_true rfl) rfl ?_
  intro p e R s m args below meth c ls Qm hx hb hml hown hts hK hX hR hret hl
  have hi_X12 : ∀ w ∈ wsX120, w ∈ wsX12_suspects := by decide +kernel
  refine lv_aload_n hx hb dX12_suspects_0 rfl (lv_at hl 0 rfl) ?_
  refine wx_getr (t := 65) (C := RX12) (T := TX12) (N := 27) (ci := 11) (j := 20) hx hb hts hi_X12 hown hK hX (by decide) sh_X12_20 rfl (by decide) (hts (.fieldLink RX12 31 "SeenAgainModel" "now" "[I") (by decide +kernel)) (fun _ h9 => h9) dX12_suspects_1 ?_
  refine lv_iconst (v := 0) hx hb dX12_suspects_4 (by decide) ?_
  refine wx_iald hx hb hK hX (by decide) sa_65 (wb_in (show wx_b 0 0 0 from ⟨by decide, by decide⟩) (by decide) (by decide)) dX12_suspects_5 ?_
  refine lv_if_ne (tgt := 12) hx hb dX12_suspects_6 (by decide) (fun c_1 => ?_) (fun c_1 => ?_)
  · have b_2 : wx_b (g 65 (0 : Int32).toNatClampNeg) 1 6 := wb_nel c_1 hm.1 (by decide)
    refine lv_aload_n hx hb dX12_suspects_12 rfl (lv_at hl 0 rfl) ?_
    refine lv_iload_n hx hb dX12_suspects_13 rfl (lv_at hl 1 rfl) ?_
    refine wx_callr (va_runV (As := [.int a1]) (rest := []) ⟨hx, hb, hml, hown, hts⟩ (k_X12_isSet l g a1) (cwV 1 hts gX12_suspects_X12_isSet rfl rfl rfl (by decide +kernel) (by rw [hR]; exact ⟨Nat.le_of_ble_eq_true rfl, Nat.le_of_ble_eq_true rfl⟩)) ⟨wx_Pc.blind, wx_recv hK hX (by decide) sh_X12 rfl, (wx_Pc.pre hK hX).2⟩ rfl rfl hl.1 rfl (lv_room (Nat.le_of_ble_eq_true rfl)) dX12_suspects_14 ⟨Nat.zero_le _, Nat.zero_le _⟩) ?_
    refine lv_if_eq (tgt := 49) hx hb dX12_suspects_17 (by decide) (fun c_3 => ?_) (fun c_3 => ?_)
    · have b_4 : wx_b (r_X12_isSet g a1) 0 0 := by rw [c_3]; exact ⟨by decide, by decide⟩
      refine lv_ldc hx hb hown (hts (.constant RX12 60 (-1000001)) (by decide +kernel)) dX12_suspects_49 ?_
      exact hret _ _ _ dX12_suspects_51 rfl (by simp only [r_X12_suspects, if_neg c_1, if_pos c_3])
    · refine lv_aload_n hx hb dX12_suspects_20 rfl (lv_at hl 0 rfl) ?_
      refine lv_iload_n hx hb dX12_suspects_21 rfl (lv_at hl 2 rfl) ?_
      refine wx_callr (va_runV (As := [.int a2]) (rest := []) ⟨hx, hb, hml, hown, hts⟩ (k_X12_isRoom l g a2) (cwV 1 hts gX12_suspects_X12_isRoom rfl rfl rfl (by decide +kernel) (by rw [hR]; exact ⟨Nat.le_of_ble_eq_true rfl, Nat.le_of_ble_eq_true rfl⟩)) ⟨wx_Pc.blind, wx_recv hK hX (by decide) sh_X12 rfl, (wx_Pc.pre hK hX).2⟩ rfl rfl hl.1 rfl (lv_room (Nat.le_of_ble_eq_true rfl)) dX12_suspects_22 ⟨Nat.zero_le _, Nat.zero_le _⟩) ?_
      refine lv_if_eq (tgt := 49) hx hb dX12_suspects_25 (by decide) (fun c_5 => ?_) (fun c_5 => ?_)
      · have b_6 : wx_b (r_X12_isRoom g a2) 0 0 := by rw [c_5]; exact ⟨by decide, by decide⟩
        refine lv_ldc hx hb hown (hts (.constant RX12 60 (-1000001)) (by decide +kernel)) dX12_suspects_49 ?_
        exact hret _ _ _ dX12_suspects_51 rfl (by simp only [r_X12_suspects, if_neg c_1, if_neg c_3, if_pos c_5])
      · have b_7 : wx_b a2 0 5 := rf_X12_isRoom hm c_5
        refine lv_iload_n hx hb dX12_suspects_28 rfl (lv_at hl 3 rfl) ?_
        refine lv_iconst (v := 0) hx hb dX12_suspects_29 (by decide) ?_
        refine lv_sipush (v := 255) hx hb dX12_suspects_30 (by decide) ?_
        refine wx_callr (va_runS (As := [.int a3, .int 0, .int 255]) (rest := []) ⟨hx, hb, hml, hown, hts⟩ (k_X12_in l g a3 0 255) (va_cwS 3 hts gX12_suspects_X12_in rfl rfl rfl (by decide +kernel) (by rw [hR]; exact ⟨Nat.le_of_ble_eq_true rfl, Nat.le_of_ble_eq_true rfl⟩)) (wx_Pc.pre hK hX) rfl rfl hl.1 rfl (lv_room (Nat.le_of_ble_eq_true rfl)) dX12_suspects_33 ⟨Nat.zero_le _, Nat.zero_le _⟩) ?_
        refine lv_if_eq (tgt := 49) hx hb dX12_suspects_36 (by decide) (fun c_8 => ?_) (fun c_8 => ?_)
        · have b_9 : wx_b (r_X12_in a3 0 255) 0 0 := by rw [c_8]; exact ⟨by decide, by decide⟩
          refine lv_ldc hx hb hown (hts (.constant RX12 60 (-1000001)) (by decide +kernel)) dX12_suspects_49 ?_
          exact hret _ _ _ dX12_suspects_51 rfl (by simp only [r_X12_suspects, if_neg c_1, if_neg c_3, if_neg c_5, if_pos c_8])
        · have b_10 : wx_b a3 0 255 := rf_X12_in (show wx_b 0 0 0 from ⟨by decide, by decide⟩) (show wx_b 255 255 255 from ⟨by decide, by decide⟩) c_8
          refine lv_aload_n hx hb dX12_suspects_39 rfl (lv_at hl 0 rfl) ?_
          refine lv_iload_n hx hb dX12_suspects_40 rfl (lv_at hl 1 rfl) ?_
          refine lv_iload_n hx hb dX12_suspects_41 rfl (lv_at hl 2 rfl) ?_
          refine lv_iload_n hx hb dX12_suspects_42 rfl (lv_at hl 3 rfl) ?_
          refine wx_callr (va_runV (As := [.int a1, .int a2, .int a3]) (rest := []) ⟨hx, hb, hml, hown, hts⟩ (k_X12_suspectsOf l g a1 a2 a3 hm) (cwV 3 hts gX12_suspects_X12_suspectsOf rfl rfl rfl (by decide +kernel) (by rw [hR]; exact ⟨Nat.le_of_ble_eq_true rfl, Nat.le_of_ble_eq_true rfl⟩)) ⟨wx_Pc.blind, wx_recv hK hX (by decide) sh_X12 rfl, (wx_Pc.pre hK hX).2⟩ rfl rfl hl.1 rfl (lv_room (Nat.le_of_ble_eq_true rfl)) dX12_suspects_43 ⟨Nat.zero_le _, Nat.zero_le _⟩) ?_
          refine lv_goto (tgt := 51) hx hb dX12_suspects_46 (by decide) ?_
          exact hret _ _ _ dX12_suspects_51 rfl (by simp only [r_X12_suspects, if_neg c_1, if_neg c_3, if_neg c_5, if_neg c_8])
  · have b_11 : wx_b (g 65 (0 : Int32).toNatClampNeg) 0 0 := by rw [c_1]; exact ⟨by decide, by decide⟩
    refine lv_ldc hx hb hown (hts (.constant RX12 166 (-1000002)) (by decide +kernel)) dX12_suspects_9 ?_
    exact hret _ _ _ dX12_suspects_11 rfl (by simp only [r_X12_suspects, if_pos c_1])
def b_X12_settled_27 (g : wx_M) (a1 : Int32) (t_27 : Nat) (s_27 : Int32) : Int32 :=
  if s_27 = (-1000000) then
    if (r_X12_settles g (nI (1 + t_27)) a1) = 0 then
      s_27
    else
      (nI (1 + t_27))
  else
    if (r_X12_bits g s_27) ≤ (r_X12_bits g (nI (1 + t_27))) then
      s_27
    else
      if (r_X12_settles g (nI (1 + t_27)) a1) = 0 then
        s_27
      else
        (nI (1 + t_27))
def r_X12_settled (g : wx_M) (a1 : Int32) : Int32 :=
  if (g 65 (0 : Int32).toNatClampNeg) = 0 then
    (-1000002)
  else
    if (r_X12_isMinute a1) = 0 then
      (-1000001)
    else
      let s_27 := rep ((1 <<< ((g 65 (0 : Int32).toNatClampNeg) &&& 31)).toNatClampNeg - 1) (b_X12_settled_27 g a1) ((-1000000) : Int32)
      s_27
set_option maxHeartbeats 4000000 in
set_option maxRecDepth 100000 in
theorem k_X12_settled (l : Launch) {D : va_G} {cy : Nat → ClassId} {ad : Nat → Nat} {B0 : Nat} {f : wx_F} {P : va_W} (g : wx_M) (a1 : Int32) (hm : wx_MB g) : Met l yX12_settled wsX12_settled ({ frames := 2, cells := 0, slots := 0, locals := 46 } : Room) (wx_Pc D cy ad B0 f P g [.ref (ad 57), .int a1]) (QcRead (r_X12_settled g a1)) 0 0 (fun _ => False) := by
  refine wx_enterR (cc := cX12_settled) (maxL := 5) (ty := .int) (own := RX12) (lv := [(0, .ref (ad 57)), (1, .int a1)]) (by decide) rfl rfl (Nat.le_of_ble_eq_true rfl) rfl ?_
  intro p e R s m args below meth c ls Qm hx hb hml hown hts hK hX hR hret hl
  have hi_X12 : ∀ w ∈ wsX120, w ∈ wsX12_settled := by decide +kernel
  refine lv_aload_n hx hb dX12_settled_0 rfl (lv_at hl 0 rfl) ?_
  refine wx_getr (t := 65) (C := RX12) (T := TX12) (N := 27) (ci := 11) (j := 20) hx hb hts hi_X12 hown hK hX (by decide) sh_X12_20 rfl (by decide) (hts (.fieldLink RX12 31 "SeenAgainModel" "now" "[I") (by decide +kernel)) (fun _ h9 => h9) dX12_settled_1 ?_
  refine lv_iconst (v := 0) hx hb dX12_settled_4 (by decide) ?_
  refine wx_iald hx hb hK hX (by decide) sa_65 (wb_in (show wx_b 0 0 0 from ⟨by decide, by decide⟩) (by decide) (by decide)) dX12_settled_5 ?_
  refine lv_if_ne (tgt := 12) hx hb dX12_settled_6 (by decide) (fun c_1 => ?_) (fun c_1 => ?_)
  · have b_2 : wx_b (g 65 (0 : Int32).toNatClampNeg) 1 6 := wb_nel c_1 hm.1 (by decide)
    refine lv_iload_n hx hb dX12_settled_12 rfl (lv_at hl 1 rfl) ?_
    refine wx_callr (va_runS (As := [.int a1]) (rest := []) ⟨hx, hb, hml, hown, hts⟩ (k_X12_isMinute l g a1) (va_cwS 1 hts gX12_settled_X12_isMinute rfl rfl rfl (by decide +kernel) (by rw [hR]; exact ⟨Nat.le_of_ble_eq_true rfl, Nat.le_of_ble_eq_true rfl⟩)) (wx_Pc.pre hK hX) rfl rfl hl.1 rfl (lv_room (Nat.le_of_ble_eq_true rfl)) dX12_settled_13 ⟨Nat.zero_le _, Nat.zero_le _⟩) ?_
    refine lv_if_ne (tgt := 22) hx hb dX12_settled_16 (by decide) (fun c_3 => ?_) (fun c_3 => ?_)
    · have b_4 : wx_b a1 0 7 := rf_X12_isMinute  c_3
      refine lv_ldc hx hb hown (hts (.constant RX12 201 (-1000000)) (by decide +kernel)) dX12_settled_22 ?_
      refine lv_istore_n (lv' := [(2, .int (-1000000)), (0, .ref (ad 57)), (1, .int a1)]) hx hb dX12_settled_24 rfl hl (by decide) rfl (fun ls hl => ?_)
      refine lv_iconst (v := 1) hx hb dX12_settled_25 (by decide) ?_
      refine lv_istore_n (lv' := [(3, .int 1), (2, .int (-1000000)), (0, .ref (ad 57)), (1, .int a1)]) hx hb dX12_settled_26 rfl hl (by decide) rfl (fun ls hl => ?_)
      have lp_27 : ∀ (n t_27 : Nat) (s_27 : Int32) (ls : Array Slot), t_27 ≤ ((1 <<< ((g 65 (0 : Int32).toNatClampNeg) &&& 31)).toNatClampNeg - 1) → ((1 <<< ((g 65 (0 : Int32).toNatClampNeg) &&& 31)).toNatClampNeg - 1) + 1 ≤ t_27 + n → s_27 = rep t_27 (b_X12_settled_27 g a1) ((-1000000) : Int32) → lv_has ls 5 [(3, .int (nI (1 + t_27))), (2, .int s_27), (0, .ref (ad 57)), (1, .int a1)] → W p l e R s m args below meth c s.heap [] 0 0 Qm (F0 m 27 ls []) := by
        intro n
        induction n with
        | zero => intro t_27 s_27 ls h1 h2; exact absurd h2 (by omega)
        | succ n ih_27 =>
          intro t_27 s_27 ls ht_27 hn_27 es_27 hl
          refine lv_iload_n hx hb dX12_settled_27 rfl (lv_at hl 0 rfl) ?_
          refine lv_iconst (v := 1) hx hb dX12_settled_28 (by decide) ?_
          refine lv_aload_n hx hb dX12_settled_29 rfl (lv_at hl 2 rfl) ?_
          refine wx_getr (t := 65) (C := RX12) (T := TX12) (N := 27) (ci := 11) (j := 20) hx hb hts hi_X12 hown hK hX (by decide) sh_X12_20 rfl (by decide) (hts (.fieldLink RX12 31 "SeenAgainModel" "now" "[I") (by decide +kernel)) (fun _ h9 => h9) dX12_settled_30 ?_
          refine lv_iconst (v := 0) hx hb dX12_settled_33 (by decide) ?_
          refine wx_iald hx hb hK hX (by decide) sa_65 (wb_in (show wx_b 0 0 0 from ⟨by decide, by decide⟩) (by decide) (by decide)) dX12_settled_34 ?_
          refine lv_ishl hx hb dX12_settled_35 ?_
          refine lv_icmp_ge (tgt := 89) hx hb dX12_settled_36 (by decide) (fun c_5 => ?_) (fun c_5 => ?_)
          · have et_27 : t_27 = ((1 <<< ((g 65 (0 : Int32).toNatClampNeg) &&& 31)).toNatClampNeg - 1) := Nat.le_antisymm ht_27 (by have h9 := wx_dn (by have := wx_cl31 (1 <<< ((g 65 (0 : Int32).toNatClampNeg) &&& 31)); omega) c_5; omega)
            subst et_27
            refine lv_iload_n hx hb dX12_settled_89 rfl (lv_at hl 1 rfl) ?_
            exact hret _ _ _ dX12_settled_90 rfl (by simp only [r_X12_settled, if_neg c_1, if_neg c_3, ← es_27])
          · have hlt_27 : t_27 < ((1 <<< ((g 65 (0 : Int32).toNatClampNeg) &&& 31)).toNatClampNeg - 1) := by have h9 := wx_up (by have := wx_cl31 (1 <<< ((g 65 (0 : Int32).toNatClampNeg) &&& 31)); omega) c_5; omega
            have bt_27 : wx_b (nI (1 + t_27)) 0 2147483646 := wb_nI (n := 2147483646) (by have := wx_cl31 (1 <<< ((g 65 (0 : Int32).toNatClampNeg) &&& 31)); omega) (by decide)
            refine lv_iload_n hx hb dX12_settled_39 rfl (lv_at hl 1 rfl) ?_
            refine lv_ldc hx hb hown (hts (.constant RX12 201 (-1000000)) (by decide +kernel)) dX12_settled_40 ?_
            refine lv_icmp_eq (tgt := 56) hx hb dX12_settled_42 (by decide) (fun c_6 => ?_) (fun c_6 => ?_)
            · have b_7 : wx_b s_27 (-1000000) (-1000000) := by rw [c_6]; exact ⟨by decide, by decide⟩
              refine lv_iconst (v := 1) hx hb dX12_settled_56 (by decide) ?_
              refine lv_goto (tgt := 61) hx hb dX12_settled_57 (by decide) ?_
              refine lv_istore (lv' := [(4, .int 1), (3, .int (nI (1 + t_27))), (2, .int s_27), (0, .ref (ad 57)), (1, .int a1)]) hx hb dX12_settled_61 hl (by decide) rfl (fun ls hl => ?_)
              refine lv_iload hx hb dX12_settled_63 (lv_at hl 0 rfl) ?_
              refine lv_if_eq (tgt := 81) hx hb dX12_settled_65 (by decide) (fun c9 => absurd c9 (by decide)) (fun _ => ?_)
              refine lv_aload_n hx hb dX12_settled_68 rfl (lv_at hl 3 rfl) ?_
              refine lv_iload_n hx hb dX12_settled_69 rfl (lv_at hl 1 rfl) ?_
              refine lv_iload_n hx hb dX12_settled_70 rfl (lv_at hl 4 rfl) ?_
              refine wx_callr (va_runV (As := [.int (nI (1 + t_27)), .int a1]) (rest := []) ⟨hx, hb, hml, hown, hts⟩ (k_X12_settles l g (nI (1 + t_27)) a1 b_4 hm) (cwV 2 hts gX12_settled_X12_settles rfl rfl rfl (by decide +kernel) (by rw [hR]; exact ⟨Nat.le_of_ble_eq_true rfl, Nat.le_of_ble_eq_true rfl⟩)) ⟨wx_Pc.blind, wx_recv hK hX (by decide) sh_X12 rfl, (wx_Pc.pre hK hX).2⟩ rfl rfl hl.1 rfl (lv_room (Nat.le_of_ble_eq_true rfl)) dX12_settled_71 ⟨Nat.zero_le _, Nat.zero_le _⟩) ?_
              refine lv_if_eq (tgt := 81) hx hb dX12_settled_74 (by decide) (fun c_8 => ?_) (fun c_8 => ?_)
              · have b_9 : wx_b (r_X12_settles g (nI (1 + t_27)) a1) 0 0 := by rw [c_8]; exact ⟨by decide, by decide⟩
                refine lv_iload_n hx hb dX12_settled_81 rfl (lv_at hl 2 rfl) ?_
                refine lv_istore_n (lv' := [(2, .int s_27), (4, .int 1), (3, .int (nI (1 + t_27))), (0, .ref (ad 57)), (1, .int a1)]) hx hb dX12_settled_82 rfl hl (by decide) rfl (fun ls hl => ?_)
                refine lv_iinc (v := nI ((1 + t_27) + 1)) (lv' := [(3, .int (nI ((1 + t_27) + 1))), (2, .int s_27), (4, .int 1), (0, .ref (ad 57)), (1, .int a1)]) hx hb dX12_settled_83 hl (k := 2) rfl (wx_inc _) (by decide) rfl (fun ls hl => ?_)
                refine lv_goto (tgt := 27) hx hb dX12_settled_86 (by decide) ?_
                have hF_10 : (b_X12_settled_27 g a1) t_27 s_27 = s_27 := (by simp only [b_X12_settled_27, if_pos c_6, if_pos c_8])
                exact ih_27 (t_27 + 1) s_27 ls hlt_27 (by omega) (by rw [rep_succ, ← es_27, hF_10]) (lv_sub hl [0, 1, 3, 4] rfl)
              · refine lv_iload_n hx hb dX12_settled_77 rfl (lv_at hl 1 rfl) ?_
                refine lv_goto (tgt := 82) hx hb dX12_settled_78 (by decide) ?_
                refine lv_istore_n (lv' := [(2, .int (nI (1 + t_27))), (4, .int 1), (3, .int (nI (1 + t_27))), (0, .ref (ad 57)), (1, .int a1)]) hx hb dX12_settled_82 rfl hl (by decide) rfl (fun ls hl => ?_)
                refine lv_iinc (v := nI ((1 + t_27) + 1)) (lv' := [(3, .int (nI ((1 + t_27) + 1))), (2, .int (nI (1 + t_27))), (4, .int 1), (0, .ref (ad 57)), (1, .int a1)]) hx hb dX12_settled_83 hl (k := 2) rfl (wx_inc _) (by decide) rfl (fun ls hl => ?_)
                refine lv_goto (tgt := 27) hx hb dX12_settled_86 (by decide) ?_
                have hF_11 : (b_X12_settled_27 g a1) t_27 s_27 = (nI (1 + t_27)) := (by simp only [b_X12_settled_27, if_pos c_6, if_neg c_8])
                exact ih_27 (t_27 + 1) (nI (1 + t_27)) ls hlt_27 (by omega) (by rw [rep_succ, ← es_27, hF_11]) (lv_sub hl [0, 1, 3, 4] rfl)
            · refine lv_iload_n hx hb dX12_settled_45 rfl (lv_at hl 0 rfl) ?_
              refine wx_callr (va_runS (As := [.int (nI (1 + t_27))]) (rest := []) ⟨hx, hb, hml, hown, hts⟩ (k_X12_bits l g (nI (1 + t_27))) (va_cwS 1 hts gX12_settled_X12_bits rfl rfl rfl (by decide +kernel) (by rw [hR]; exact ⟨Nat.le_of_ble_eq_true rfl, Nat.le_of_ble_eq_true rfl⟩)) (wx_Pc.pre hK hX) rfl rfl hl.1 rfl (lv_room (Nat.le_of_ble_eq_true rfl)) dX12_settled_46 ⟨Nat.zero_le _, Nat.zero_le _⟩) ?_
              refine lv_iload_n hx hb dX12_settled_49 rfl (lv_at hl 1 rfl) ?_
              refine wx_callr (va_runS (As := [.int s_27]) (rest := [.int (r_X12_bits g (nI (1 + t_27)))]) ⟨hx, hb, hml, hown, hts⟩ (k_X12_bits l g s_27) (va_cwS 1 hts gX12_settled_X12_bits rfl rfl rfl (by decide +kernel) (by rw [hR]; exact ⟨Nat.le_of_ble_eq_true rfl, Nat.le_of_ble_eq_true rfl⟩)) (wx_Pc.pre hK hX) rfl rfl hl.1 rfl (lv_room (Nat.le_of_ble_eq_true rfl)) dX12_settled_50 ⟨Nat.zero_le _, Nat.zero_le _⟩) ?_
              refine lv_icmp_ge (tgt := 60) hx hb dX12_settled_53 (by decide) (fun c_12 => ?_) (fun c_12 => ?_)
              · refine lv_iconst (v := 0) hx hb dX12_settled_60 (by decide) ?_
                refine lv_istore (lv' := [(4, .int 0), (3, .int (nI (1 + t_27))), (2, .int s_27), (0, .ref (ad 57)), (1, .int a1)]) hx hb dX12_settled_61 hl (by decide) rfl (fun ls hl => ?_)
                refine lv_iload hx hb dX12_settled_63 (lv_at hl 0 rfl) ?_
                refine lv_if_eq (tgt := 81) hx hb dX12_settled_65 (by decide) (fun _ => ?_) (fun c9 => absurd c9 (by decide))
                refine lv_iload_n hx hb dX12_settled_81 rfl (lv_at hl 2 rfl) ?_
                refine lv_istore_n (lv' := [(2, .int s_27), (4, .int 0), (3, .int (nI (1 + t_27))), (0, .ref (ad 57)), (1, .int a1)]) hx hb dX12_settled_82 rfl hl (by decide) rfl (fun ls hl => ?_)
                refine lv_iinc (v := nI ((1 + t_27) + 1)) (lv' := [(3, .int (nI ((1 + t_27) + 1))), (2, .int s_27), (4, .int 0), (0, .ref (ad 57)), (1, .int a1)]) hx hb dX12_settled_83 hl (k := 2) rfl (wx_inc _) (by decide) rfl (fun ls hl => ?_)
                refine lv_goto (tgt := 27) hx hb dX12_settled_86 (by decide) ?_
                have hF_13 : (b_X12_settled_27 g a1) t_27 s_27 = s_27 := (by simp only [b_X12_settled_27, if_neg c_6, if_pos c_12])
                exact ih_27 (t_27 + 1) s_27 ls hlt_27 (by omega) (by rw [rep_succ, ← es_27, hF_13]) (lv_sub hl [0, 1, 3, 4] rfl)
              · have b_14 : wx_b (r_X12_bits g (nI (1 + t_27))) (-2147483648) 2147483646 := wb_lt (wb_nle c_12) (wb_any _) (wb_any _) (by decide) (by decide)
                have b_15 : wx_b (r_X12_bits g s_27) (-2147483647) 2147483647 := wb_gt (wb_nle c_12) (wb_any _) (wb_any _) (by decide) (by decide)
                refine lv_iconst (v := 1) hx hb dX12_settled_56 (by decide) ?_
                refine lv_goto (tgt := 61) hx hb dX12_settled_57 (by decide) ?_
                refine lv_istore (lv' := [(4, .int 1), (3, .int (nI (1 + t_27))), (2, .int s_27), (0, .ref (ad 57)), (1, .int a1)]) hx hb dX12_settled_61 hl (by decide) rfl (fun ls hl => ?_)
                refine lv_iload hx hb dX12_settled_63 (lv_at hl 0 rfl) ?_
                refine lv_if_eq (tgt := 81) hx hb dX12_settled_65 (by decide) (fun c9 => absurd c9 (by decide)) (fun _ => ?_)
                refine lv_aload_n hx hb dX12_settled_68 rfl (lv_at hl 3 rfl) ?_
                refine lv_iload_n hx hb dX12_settled_69 rfl (lv_at hl 1 rfl) ?_
                refine lv_iload_n hx hb dX12_settled_70 rfl (lv_at hl 4 rfl) ?_
                refine wx_callr (va_runV (As := [.int (nI (1 + t_27)), .int a1]) (rest := []) ⟨hx, hb, hml, hown, hts⟩ (k_X12_settles l g (nI (1 + t_27)) a1 b_4 hm) (cwV 2 hts gX12_settled_X12_settles rfl rfl rfl (by decide +kernel) (by rw [hR]; exact ⟨Nat.le_of_ble_eq_true rfl, Nat.le_of_ble_eq_true rfl⟩)) ⟨wx_Pc.blind, wx_recv hK hX (by decide) sh_X12 rfl, (wx_Pc.pre hK hX).2⟩ rfl rfl hl.1 rfl (lv_room (Nat.le_of_ble_eq_true rfl)) dX12_settled_71 ⟨Nat.zero_le _, Nat.zero_le _⟩) ?_
                refine lv_if_eq (tgt := 81) hx hb dX12_settled_74 (by decide) (fun c_16 => ?_) (fun c_16 => ?_)
                · have b_17 : wx_b (r_X12_settles g (nI (1 + t_27)) a1) 0 0 := by rw [c_16]; exact ⟨by decide, by decide⟩
                  refine lv_iload_n hx hb dX12_settled_81 rfl (lv_at hl 2 rfl) ?_
                  refine lv_istore_n (lv' := [(2, .int s_27), (4, .int 1), (3, .int (nI (1 + t_27))), (0, .ref (ad 57)), (1, .int a1)]) hx hb dX12_settled_82 rfl hl (by decide) rfl (fun ls hl => ?_)
                  refine lv_iinc (v := nI ((1 + t_27) + 1)) (lv' := [(3, .int (nI ((1 + t_27) + 1))), (2, .int s_27), (4, .int 1), (0, .ref (ad 57)), (1, .int a1)]) hx hb dX12_settled_83 hl (k := 2) rfl (wx_inc _) (by decide) rfl (fun ls hl => ?_)
                  refine lv_goto (tgt := 27) hx hb dX12_settled_86 (by decide) ?_
                  have hF_18 : (b_X12_settled_27 g a1) t_27 s_27 = s_27 := (by simp only [b_X12_settled_27, if_neg c_6, if_neg c_12, if_pos c_16])
                  exact ih_27 (t_27 + 1) s_27 ls hlt_27 (by omega) (by rw [rep_succ, ← es_27, hF_18]) (lv_sub hl [0, 1, 3, 4] rfl)
                · refine lv_iload_n hx hb dX12_settled_77 rfl (lv_at hl 1 rfl) ?_
                  refine lv_goto (tgt := 82) hx hb dX12_settled_78 (by decide) ?_
                  refine lv_istore_n (lv' := [(2, .int (nI (1 + t_27))), (4, .int 1), (3, .int (nI (1 + t_27))), (0, .ref (ad 57)), (1, .int a1)]) hx hb dX12_settled_82 rfl hl (by decide) rfl (fun ls hl => ?_)
                  refine lv_iinc (v := nI ((1 + t_27) + 1)) (lv' := [(3, .int (nI ((1 + t_27) + 1))), (2, .int (nI (1 + t_27))), (4, .int 1), (0, .ref (ad 57)), (1, .int a1)]) hx hb dX12_settled_83 hl (k := 2) rfl (wx_inc _) (by decide) rfl (fun ls hl => ?_)
                  refine lv_goto (tgt := 27) hx hb dX12_settled_86 (by decide) ?_
                  have hF_19 : (b_X12_settled_27 g a1) t_27 s_27 = (nI (1 + t_27)) := (by simp only [b_X12_settled_27, if_neg c_6, if_neg c_12, if_neg c_16])
                  exact ih_27 (t_27 + 1) (nI (1 + t_27)) ls hlt_27 (by omega) (by rw [rep_succ, ← es_27, hF_19]) (lv_sub hl [0, 1, 3, 4] rfl)
      exact lp_27 (((1 <<< ((g 65 (0 : Int32).toNatClampNeg) &&& 31)).toNatClampNeg - 1) + 1) 0 ((-1000000) : Int32) ls (Nat.zero_le _) (by omega) rfl (lv_sub hl [0, 1, 2, 3] rfl)
    · have b_20 : wx_b (r_X12_isMinute a1) 0 0 := by rw [c_3]; exact ⟨by decide, by decide⟩
      refine lv_ldc hx hb hown (hts (.constant RX12 60 (-1000001)) (by decide +kernel)) dX12_settled_19 ?_
      exact hret _ _ _ dX12_settled_21 rfl (by simp only [r_X12_settled, if_neg c_1, if_pos c_3])
  · have b_21 : wx_b (g 65 (0 : Int32).toNatClampNeg) 0 0 := by rw [c_1]; exact ⟨by decide, by decide⟩
    refine lv_ldc hx hb hown (hts (.constant RX12 166 (-1000002)) (by decide +kernel)) dX12_settled_9 ?_
    exact hret _ _ _ dX12_settled_11 rfl (by simp only [r_X12_settled, if_pos c_1])
def b_X12_cheapest_66 (g : wx_M) (a1 : Int32) (a2 : Int32) (a3 : Int32) (t_38 : Nat) (s_38 : Int32 × Int32) (x_13 : Int32) (t_66 : Nat) (s_66 : Int32 × Int32) : Int32 × Int32 :=
  if (r_X12_has (nI (1 + t_38)) (nI t_66)) = 0 then
    (s_66.1, s_66.2)
  else
    if (r_X12_has (r_X12_heldAt g (nI t_66) a2) a1) = 0 then
      if s_66.2 = 0 then
        let x_34 := (s_66.1 + (r_X12_priceOf g a1 (nI t_66) a2))
        (x_34, 0)
      else
        if (r_X12_isLeft g (nI t_66) a2) = 0 then
          let x_38 := (s_66.1 + (r_X12_priceOf g a1 (nI t_66) a2))
          (x_38, 0)
        else
          let x_40 := (s_66.1 + (r_X12_priceOf g a1 (nI t_66) a2))
          (x_40, 1)
    else
      (s_66.1, s_66.2)
def b_X12_cheapest_38 (g : wx_M) (a1 : Int32) (a2 : Int32) (a3 : Int32) (t_38 : Nat) (s_38 : Int32 × Int32) : Int32 × Int32 :=
  let x_13 := (r_X12_settles g (nI (1 + t_38)) a2)
  let s_66 := rep (g 65 (0 : Int32).toNatClampNeg).toNatClampNeg (b_X12_cheapest_66 g a1 a2 a3 t_38 s_38 x_13) (0, x_13)
  if s_66.2 = 0 then
    (s_38.1, s_38.2)
  else
    if s_38.1 = (-1000000) then
      ((nI (1 + t_38)), s_66.1)
    else
      if s_38.2 ≤ s_66.1 then
        (s_38.1, s_38.2)
      else
        ((nI (1 + t_38)), s_66.1)
def r_X12_cheapest (g : wx_M) (a1 : Int32) (a2 : Int32) (a3 : Int32) : Int32 :=
  if (r_X12_isGuest g a1) = 0 then
    (-1000001)
  else
    if (r_X12_isMinute a2) = 0 then
      (-1000001)
    else
      if (r_X12_in a3 0 1) = 0 then
        (-1000001)
      else
        let s_38 := rep ((1 <<< ((g 65 (0 : Int32).toNatClampNeg) &&& 31)).toNatClampNeg - 1) (b_X12_cheapest_38 g a1 a2 a3) ((-1000000), (-1000000))
        if a3 = 0 then
          s_38.1
        else
          s_38.2
set_option maxHeartbeats 4000000 in
set_option maxRecDepth 100000 in
theorem k_X12_cheapest (l : Launch) {D : va_G} {cy : Nat → ClassId} {ad : Nat → Nat} {B0 : Nat} {f : wx_F} {P : va_W} (g : wx_M) (a1 : Int32) (a2 : Int32) (a3 : Int32) (hm : wx_MB g) : Met l yX12_cheapest wsX12_cheapest ({ frames := 2, cells := 0, slots := 0, locals := 46 } : Room) (wx_Pc D cy ad B0 f P g [.ref (ad 57), .int a1, .int a2, .int a3]) (QcRead (r_X12_cheapest g a1 a2 a3)) 0 0 (fun _ => False) := by
  refine wx_enterR (cc := cX12_cheapest) (maxL := 10) (ty := .int) (own := RX12) (lv := [(0, .ref (ad 57)), (1, .int a1), (2, .int a2), (3, .int a3)]) (by decide) rfl rfl (Nat.le_of_ble_eq_true rfl) rfl ?_
  intro p e R s m args below meth c ls Qm hx hb hml hown hts hK hX hR hret hl
  have hi_X12 : ∀ w ∈ wsX120, w ∈ wsX12_cheapest := by decide +kernel
  refine lv_aload_n hx hb dX12_cheapest_0 rfl (lv_at hl 0 rfl) ?_
  refine lv_iload_n hx hb dX12_cheapest_1 rfl (lv_at hl 1 rfl) ?_
  refine wx_callr (va_runV (As := [.int a1]) (rest := []) ⟨hx, hb, hml, hown, hts⟩ (k_X12_isGuest l g a1) (cwV 1 hts gX12_cheapest_X12_isGuest rfl rfl rfl (by decide +kernel) (by rw [hR]; exact ⟨Nat.le_of_ble_eq_true rfl, Nat.le_of_ble_eq_true rfl⟩)) ⟨wx_Pc.blind, wx_recv hK hX (by decide) sh_X12 rfl, (wx_Pc.pre hK hX).2⟩ rfl rfl hl.1 rfl (lv_room (Nat.le_of_ble_eq_true rfl)) dX12_cheapest_2 ⟨Nat.zero_le _, Nat.zero_le _⟩) ?_
  refine lv_if_eq (tgt := 24) hx hb dX12_cheapest_5 (by decide) (fun c_1 => ?_) (fun c_1 => ?_)
  · have b_2 : wx_b (r_X12_isGuest g a1) 0 0 := by rw [c_1]; exact ⟨by decide, by decide⟩
    refine lv_ldc hx hb hown (hts (.constant RX12 60 (-1000001)) (by decide +kernel)) dX12_cheapest_24 ?_
    exact hret _ _ _ dX12_cheapest_26 rfl (by simp only [r_X12_cheapest, if_pos c_1])
  · have b_3 : wx_b a1 0 3 := rf_X12_isGuest hm c_1
    refine lv_iload_n hx hb dX12_cheapest_8 rfl (lv_at hl 2 rfl) ?_
    refine wx_callr (va_runS (As := [.int a2]) (rest := []) ⟨hx, hb, hml, hown, hts⟩ (k_X12_isMinute l g a2) (va_cwS 1 hts gX12_cheapest_X12_isMinute rfl rfl rfl (by decide +kernel) (by rw [hR]; exact ⟨Nat.le_of_ble_eq_true rfl, Nat.le_of_ble_eq_true rfl⟩)) (wx_Pc.pre hK hX) rfl rfl hl.1 rfl (lv_room (Nat.le_of_ble_eq_true rfl)) dX12_cheapest_9 ⟨Nat.zero_le _, Nat.zero_le _⟩) ?_
    refine lv_if_eq (tgt := 24) hx hb dX12_cheapest_12 (by decide) (fun c_4 => ?_) (fun c_4 => ?_)
    · have b_5 : wx_b (r_X12_isMinute a2) 0 0 := by rw [c_4]; exact ⟨by decide, by decide⟩
      refine lv_ldc hx hb hown (hts (.constant RX12 60 (-1000001)) (by decide +kernel)) dX12_cheapest_24 ?_
      exact hret _ _ _ dX12_cheapest_26 rfl (by simp only [r_X12_cheapest, if_neg c_1, if_pos c_4])
    · have b_6 : wx_b a2 0 7 := rf_X12_isMinute  c_4
      refine lv_iload_n hx hb dX12_cheapest_15 rfl (lv_at hl 3 rfl) ?_
      refine lv_iconst (v := 0) hx hb dX12_cheapest_16 (by decide) ?_
      refine lv_iconst (v := 1) hx hb dX12_cheapest_17 (by decide) ?_
      refine wx_callr (va_runS (As := [.int a3, .int 0, .int 1]) (rest := []) ⟨hx, hb, hml, hown, hts⟩ (k_X12_in l g a3 0 1) (va_cwS 3 hts gX12_cheapest_X12_in rfl rfl rfl (by decide +kernel) (by rw [hR]; exact ⟨Nat.le_of_ble_eq_true rfl, Nat.le_of_ble_eq_true rfl⟩)) (wx_Pc.pre hK hX) rfl rfl hl.1 rfl (lv_room (Nat.le_of_ble_eq_true rfl)) dX12_cheapest_18 ⟨Nat.zero_le _, Nat.zero_le _⟩) ?_
      refine lv_if_ne (tgt := 27) hx hb dX12_cheapest_21 (by decide) (fun c_7 => ?_) (fun c_7 => ?_)
      · have b_8 : wx_b a3 0 1 := rf_X12_in (show wx_b 0 0 0 from ⟨by decide, by decide⟩) (show wx_b 1 1 1 from ⟨by decide, by decide⟩) c_7
        refine lv_ldc hx hb hown (hts (.constant RX12 201 (-1000000)) (by decide +kernel)) dX12_cheapest_27 ?_
        refine lv_istore (lv' := [(4, .int (-1000000)), (0, .ref (ad 57)), (1, .int a1), (2, .int a2), (3, .int a3)]) hx hb dX12_cheapest_29 hl (by decide) rfl (fun ls hl => ?_)
        refine lv_ldc hx hb hown (hts (.constant RX12 201 (-1000000)) (by decide +kernel)) dX12_cheapest_31 ?_
        refine lv_istore (lv' := [(5, .int (-1000000)), (4, .int (-1000000)), (0, .ref (ad 57)), (1, .int a1), (2, .int a2), (3, .int a3)]) hx hb dX12_cheapest_33 hl (by decide) rfl (fun ls hl => ?_)
        refine lv_iconst (v := 1) hx hb dX12_cheapest_35 (by decide) ?_
        refine lv_istore (lv' := [(6, .int 1), (5, .int (-1000000)), (4, .int (-1000000)), (0, .ref (ad 57)), (1, .int a1), (2, .int a2), (3, .int a3)]) hx hb dX12_cheapest_36 hl (by decide) rfl (fun ls hl => ?_)
        have lp_38 : ∀ (n t_38 : Nat) (s_38 : Int32 × Int32) (ls : Array Slot), t_38 ≤ ((1 <<< ((g 65 (0 : Int32).toNatClampNeg) &&& 31)).toNatClampNeg - 1) → ((1 <<< ((g 65 (0 : Int32).toNatClampNeg) &&& 31)).toNatClampNeg - 1) + 1 ≤ t_38 + n → s_38 = rep t_38 (b_X12_cheapest_38 g a1 a2 a3) ((-1000000), (-1000000)) → lv_has ls 10 [(6, .int (nI (1 + t_38))), (5, .int s_38.2), (4, .int s_38.1), (0, .ref (ad 57)), (1, .int a1), (2, .int a2), (3, .int a3)] → W p l e R s m args below meth c s.heap [] 0 0 Qm (F0 m 38 ls []) := by
          intro n
          induction n with
          | zero => intro t_38 s_38 ls h1 h2; exact absurd h2 (by omega)
          | succ n ih_38 =>
            intro t_38 s_38 ls ht_38 hn_38 es_38 hl
            refine lv_iload hx hb dX12_cheapest_38 (lv_at hl 0 rfl) ?_
            refine lv_iconst (v := 1) hx hb dX12_cheapest_40 (by decide) ?_
            refine lv_aload_n hx hb dX12_cheapest_41 rfl (lv_at hl 3 rfl) ?_
            refine wx_getr (t := 65) (C := RX12) (T := TX12) (N := 27) (ci := 11) (j := 20) hx hb hts hi_X12 hown hK hX (by decide) sh_X12_20 rfl (by decide) (hts (.fieldLink RX12 31 "SeenAgainModel" "now" "[I") (by decide +kernel)) (fun _ h9 => h9) dX12_cheapest_42 ?_
            refine lv_iconst (v := 0) hx hb dX12_cheapest_45 (by decide) ?_
            refine wx_iald hx hb hK hX (by decide) sa_65 (wb_in (show wx_b 0 0 0 from ⟨by decide, by decide⟩) (by decide) (by decide)) dX12_cheapest_46 ?_
            refine lv_ishl hx hb dX12_cheapest_47 ?_
            refine lv_icmp_ge (tgt := 202) hx hb dX12_cheapest_48 (by decide) (fun c_9 => ?_) (fun c_9 => ?_)
            · have et_38 : t_38 = ((1 <<< ((g 65 (0 : Int32).toNatClampNeg) &&& 31)).toNatClampNeg - 1) := Nat.le_antisymm ht_38 (by have h9 := wx_dn (by have := wx_cl31 (1 <<< ((g 65 (0 : Int32).toNatClampNeg) &&& 31)); omega) c_9; omega)
              subst et_38
              refine lv_iload_n hx hb dX12_cheapest_202 rfl (lv_at hl 6 rfl) ?_
              refine lv_if_ne (tgt := 211) hx hb dX12_cheapest_203 (by decide) (fun c_10 => ?_) (fun c_10 => ?_)
              · have b_11 : wx_b a3 1 1 := wb_nel c_10 b_8 (by decide)
                refine lv_iload hx hb dX12_cheapest_211 (lv_at hl 1 rfl) ?_
                exact hret _ _ _ dX12_cheapest_213 rfl (by simp only [r_X12_cheapest, if_neg c_1, if_neg c_4, if_neg c_7, if_neg c_10, ← es_38])
              · have b_12 : wx_b a3 0 0 := by rw [c_10]; exact ⟨by decide, by decide⟩
                refine lv_iload hx hb dX12_cheapest_206 (lv_at hl 2 rfl) ?_
                refine lv_goto (tgt := 213) hx hb dX12_cheapest_208 (by decide) ?_
                exact hret _ _ _ dX12_cheapest_213 rfl (by simp only [r_X12_cheapest, if_neg c_1, if_neg c_4, if_neg c_7, if_pos c_10, ← es_38])
            · have hlt_38 : t_38 < ((1 <<< ((g 65 (0 : Int32).toNatClampNeg) &&& 31)).toNatClampNeg - 1) := by have h9 := wx_up (by have := wx_cl31 (1 <<< ((g 65 (0 : Int32).toNatClampNeg) &&& 31)); omega) c_9; omega
              have bt_38 : wx_b (nI (1 + t_38)) 0 2147483646 := wb_nI (n := 2147483646) (by have := wx_cl31 (1 <<< ((g 65 (0 : Int32).toNatClampNeg) &&& 31)); omega) (by decide)
              refine lv_iconst (v := 0) hx hb dX12_cheapest_51 (by decide) ?_
              refine lv_istore (lv' := [(7, .int 0), (6, .int (nI (1 + t_38))), (5, .int s_38.2), (4, .int s_38.1), (0, .ref (ad 57)), (1, .int a1), (2, .int a2), (3, .int a3)]) hx hb dX12_cheapest_52 hl (by decide) rfl (fun ls hl => ?_)
              refine lv_aload_n hx hb dX12_cheapest_54 rfl (lv_at hl 4 rfl) ?_
              refine lv_iload hx hb dX12_cheapest_55 (lv_at hl 1 rfl) ?_
              refine lv_iload_n hx hb dX12_cheapest_57 rfl (lv_at hl 6 rfl) ?_
              refine wx_callr (va_runV (As := [.int (nI (1 + t_38)), .int a2]) (rest := []) ⟨hx, hb, hml, hown, hts⟩ (k_X12_settles l g (nI (1 + t_38)) a2 b_6 hm) (cwV 2 hts gX12_cheapest_X12_settles rfl rfl rfl (by decide +kernel) (by rw [hR]; exact ⟨Nat.le_of_ble_eq_true rfl, Nat.le_of_ble_eq_true rfl⟩)) ⟨wx_Pc.blind, wx_recv hK hX (by decide) sh_X12 rfl, (wx_Pc.pre hK hX).2⟩ rfl rfl hl.1 rfl (lv_room (Nat.le_of_ble_eq_true rfl)) dX12_cheapest_58 ⟨Nat.zero_le _, Nat.zero_le _⟩) ?_
              refine lv_topi (fun x_13 ex_13 => ?_)
              refine lv_istore (lv' := [(8, .int x_13), (7, .int 0), (6, .int (nI (1 + t_38))), (5, .int s_38.2), (4, .int s_38.1), (0, .ref (ad 57)), (1, .int a1), (2, .int a2), (3, .int a3)]) hx hb dX12_cheapest_61 hl (by decide) rfl (fun ls hl => ?_)
              refine lv_iconst (v := 0) hx hb dX12_cheapest_63 (by decide) ?_
              refine lv_istore (lv' := [(9, .int 0), (8, .int x_13), (7, .int 0), (6, .int (nI (1 + t_38))), (5, .int s_38.2), (4, .int s_38.1), (0, .ref (ad 57)), (1, .int a1), (2, .int a2), (3, .int a3)]) hx hb dX12_cheapest_64 hl (by decide) rfl (fun ls hl => ?_)
              have lp_66 : ∀ (n t_66 : Nat) (s_66 : Int32 × Int32) (ls : Array Slot), t_66 ≤ (g 65 (0 : Int32).toNatClampNeg).toNatClampNeg → (g 65 (0 : Int32).toNatClampNeg).toNatClampNeg + 1 ≤ t_66 + n → s_66 = rep t_66 (b_X12_cheapest_66 g a1 a2 a3 t_38 s_38 x_13) (0, x_13) → lv_has ls 10 [(9, .int (nI t_66)), (8, .int s_66.2), (7, .int s_66.1), (6, .int (nI (1 + t_38))), (5, .int s_38.2), (4, .int s_38.1), (0, .ref (ad 57)), (1, .int a1), (2, .int a2), (3, .int a3)] → W p l e R s m args below meth c s.heap [] 0 0 Qm (F0 m 66 ls []) := by
                intro n
                induction n with
                | zero => intro t_66 s_66 ls h1 h2; exact absurd h2 (by omega)
                | succ n ih_66 =>
                  intro t_66 s_66 ls ht_66 hn_66 es_66 hl
                  refine lv_iload hx hb dX12_cheapest_66 (lv_at hl 0 rfl) ?_
                  refine lv_aload_n hx hb dX12_cheapest_68 rfl (lv_at hl 6 rfl) ?_
                  refine wx_getr (t := 65) (C := RX12) (T := TX12) (N := 27) (ci := 11) (j := 20) hx hb hts hi_X12 hown hK hX (by decide) sh_X12_20 rfl (by decide) (hts (.fieldLink RX12 31 "SeenAgainModel" "now" "[I") (by decide +kernel)) (fun _ h9 => h9) dX12_cheapest_69 ?_
                  refine lv_iconst (v := 0) hx hb dX12_cheapest_72 (by decide) ?_
                  refine wx_iald hx hb hK hX (by decide) sa_65 (wb_in (show wx_b 0 0 0 from ⟨by decide, by decide⟩) (by decide) (by decide)) dX12_cheapest_73 ?_
                  refine lv_icmp_ge (tgt := 142) hx hb dX12_cheapest_74 (by decide) (fun c_14 => ?_) (fun c_14 => ?_)
                  · have et_66 : t_66 = (g 65 (0 : Int32).toNatClampNeg).toNatClampNeg := Nat.le_antisymm ht_66 (by have h9 := wx_dn (by have := wx_cl31 (g 65 (0 : Int32).toNatClampNeg); omega) c_14; omega)
                    subst et_66
                    refine lv_iload hx hb dX12_cheapest_142 (lv_at hl 1 rfl) ?_
                    refine lv_if_eq (tgt := 165) hx hb dX12_cheapest_144 (by decide) (fun c_15 => ?_) (fun c_15 => ?_)
                    · have b_16 : wx_b s_66.2 0 0 := by rw [c_15]; exact ⟨by decide, by decide⟩
                      refine lv_iconst (v := 0) hx hb dX12_cheapest_165 (by decide) ?_
                      refine lv_istore (lv' := [(9, .int 0), (8, .int s_66.2), (7, .int s_66.1), (6, .int (nI (1 + t_38))), (5, .int s_38.2), (4, .int s_38.1), (0, .ref (ad 57)), (1, .int a1), (2, .int a2), (3, .int a3)]) hx hb dX12_cheapest_166 hl (by decide) rfl (fun ls hl => ?_)
                      refine lv_iload hx hb dX12_cheapest_168 (lv_at hl 0 rfl) ?_
                      refine lv_if_eq (tgt := 178) hx hb dX12_cheapest_170 (by decide) (fun _ => ?_) (fun c9 => absurd c9 (by decide))
                      refine lv_iload hx hb dX12_cheapest_178 (lv_at hl 5 rfl) ?_
                      refine lv_istore (lv' := [(4, .int s_38.1), (9, .int 0), (8, .int s_66.2), (7, .int s_66.1), (6, .int (nI (1 + t_38))), (5, .int s_38.2), (0, .ref (ad 57)), (1, .int a1), (2, .int a2), (3, .int a3)]) hx hb dX12_cheapest_180 hl (by decide) rfl (fun ls hl => ?_)
                      refine lv_iload hx hb dX12_cheapest_182 (lv_at hl 1 rfl) ?_
                      refine lv_if_eq (tgt := 192) hx hb dX12_cheapest_184 (by decide) (fun _ => ?_) (fun c9 => absurd c9 (by decide))
                      refine lv_iload hx hb dX12_cheapest_192 (lv_at hl 5 rfl) ?_
                      refine lv_istore (lv' := [(5, .int s_38.2), (4, .int s_38.1), (9, .int 0), (8, .int s_66.2), (7, .int s_66.1), (6, .int (nI (1 + t_38))), (0, .ref (ad 57)), (1, .int a1), (2, .int a2), (3, .int a3)]) hx hb dX12_cheapest_194 hl (by decide) rfl (fun ls hl => ?_)
                      refine lv_iinc (v := nI ((1 + t_38) + 1)) (lv' := [(6, .int (nI ((1 + t_38) + 1))), (5, .int s_38.2), (4, .int s_38.1), (9, .int 0), (8, .int s_66.2), (7, .int s_66.1), (0, .ref (ad 57)), (1, .int a1), (2, .int a2), (3, .int a3)]) hx hb dX12_cheapest_196 hl (k := 5) rfl (wx_inc _) (by decide) rfl (fun ls hl => ?_)
                      refine lv_goto (tgt := 38) hx hb dX12_cheapest_199 (by decide) ?_
                      have hF_17 : (b_X12_cheapest_38 g a1 a2 a3) t_38 s_38 = (s_38.1, s_38.2) := (by subst ex_13; simp only [b_X12_cheapest_38, if_pos c_15, ← es_66])
                      exact ih_38 (t_38 + 1) (s_38.1, s_38.2) ls hlt_38 (by omega) (by rw [rep_succ, ← es_38, hF_17]) (lv_sub hl [0, 1, 2, 6, 7, 8, 9] rfl)
                    · refine lv_iload hx hb dX12_cheapest_147 (lv_at hl 5 rfl) ?_
                      refine lv_ldc hx hb hown (hts (.constant RX12 201 (-1000000)) (by decide +kernel)) dX12_cheapest_149 ?_
                      refine lv_icmp_eq (tgt := 161) hx hb dX12_cheapest_151 (by decide) (fun c_18 => ?_) (fun c_18 => ?_)
                      · have b_19 : wx_b s_38.1 (-1000000) (-1000000) := by rw [c_18]; exact ⟨by decide, by decide⟩
                        refine lv_iconst (v := 1) hx hb dX12_cheapest_161 (by decide) ?_
                        refine lv_goto (tgt := 166) hx hb dX12_cheapest_162 (by decide) ?_
                        refine lv_istore (lv' := [(9, .int 1), (8, .int s_66.2), (7, .int s_66.1), (6, .int (nI (1 + t_38))), (5, .int s_38.2), (4, .int s_38.1), (0, .ref (ad 57)), (1, .int a1), (2, .int a2), (3, .int a3)]) hx hb dX12_cheapest_166 hl (by decide) rfl (fun ls hl => ?_)
                        refine lv_iload hx hb dX12_cheapest_168 (lv_at hl 0 rfl) ?_
                        refine lv_if_eq (tgt := 178) hx hb dX12_cheapest_170 (by decide) (fun c9 => absurd c9 (by decide)) (fun _ => ?_)
                        refine lv_iload hx hb dX12_cheapest_173 (lv_at hl 3 rfl) ?_
                        refine lv_goto (tgt := 180) hx hb dX12_cheapest_175 (by decide) ?_
                        refine lv_istore (lv' := [(4, .int (nI (1 + t_38))), (9, .int 1), (8, .int s_66.2), (7, .int s_66.1), (6, .int (nI (1 + t_38))), (5, .int s_38.2), (0, .ref (ad 57)), (1, .int a1), (2, .int a2), (3, .int a3)]) hx hb dX12_cheapest_180 hl (by decide) rfl (fun ls hl => ?_)
                        refine lv_iload hx hb dX12_cheapest_182 (lv_at hl 1 rfl) ?_
                        refine lv_if_eq (tgt := 192) hx hb dX12_cheapest_184 (by decide) (fun c9 => absurd c9 (by decide)) (fun _ => ?_)
                        refine lv_iload hx hb dX12_cheapest_187 (lv_at hl 3 rfl) ?_
                        refine lv_goto (tgt := 194) hx hb dX12_cheapest_189 (by decide) ?_
                        refine lv_istore (lv' := [(5, .int s_66.1), (4, .int (nI (1 + t_38))), (9, .int 1), (8, .int s_66.2), (7, .int s_66.1), (6, .int (nI (1 + t_38))), (0, .ref (ad 57)), (1, .int a1), (2, .int a2), (3, .int a3)]) hx hb dX12_cheapest_194 hl (by decide) rfl (fun ls hl => ?_)
                        refine lv_iinc (v := nI ((1 + t_38) + 1)) (lv' := [(6, .int (nI ((1 + t_38) + 1))), (5, .int s_66.1), (4, .int (nI (1 + t_38))), (9, .int 1), (8, .int s_66.2), (7, .int s_66.1), (0, .ref (ad 57)), (1, .int a1), (2, .int a2), (3, .int a3)]) hx hb dX12_cheapest_196 hl (k := 5) rfl (wx_inc _) (by decide) rfl (fun ls hl => ?_)
                        refine lv_goto (tgt := 38) hx hb dX12_cheapest_199 (by decide) ?_
                        have hF_20 : (b_X12_cheapest_38 g a1 a2 a3) t_38 s_38 = ((nI (1 + t_38)), s_66.1) := (by subst ex_13; simp only [b_X12_cheapest_38, if_neg c_15, if_pos c_18, ← es_66])
                        exact ih_38 (t_38 + 1) ((nI (1 + t_38)), s_66.1) ls hlt_38 (by omega) (by rw [rep_succ, ← es_38, hF_20]) (lv_sub hl [0, 1, 2, 6, 7, 8, 9] rfl)
                      · refine lv_iload hx hb dX12_cheapest_154 (lv_at hl 2 rfl) ?_
                        refine lv_iload hx hb dX12_cheapest_156 (lv_at hl 4 rfl) ?_
                        refine lv_icmp_ge (tgt := 165) hx hb dX12_cheapest_158 (by decide) (fun c_21 => ?_) (fun c_21 => ?_)
                        · refine lv_iconst (v := 0) hx hb dX12_cheapest_165 (by decide) ?_
                          refine lv_istore (lv' := [(9, .int 0), (8, .int s_66.2), (7, .int s_66.1), (6, .int (nI (1 + t_38))), (5, .int s_38.2), (4, .int s_38.1), (0, .ref (ad 57)), (1, .int a1), (2, .int a2), (3, .int a3)]) hx hb dX12_cheapest_166 hl (by decide) rfl (fun ls hl => ?_)
                          refine lv_iload hx hb dX12_cheapest_168 (lv_at hl 0 rfl) ?_
                          refine lv_if_eq (tgt := 178) hx hb dX12_cheapest_170 (by decide) (fun _ => ?_) (fun c9 => absurd c9 (by decide))
                          refine lv_iload hx hb dX12_cheapest_178 (lv_at hl 5 rfl) ?_
                          refine lv_istore (lv' := [(4, .int s_38.1), (9, .int 0), (8, .int s_66.2), (7, .int s_66.1), (6, .int (nI (1 + t_38))), (5, .int s_38.2), (0, .ref (ad 57)), (1, .int a1), (2, .int a2), (3, .int a3)]) hx hb dX12_cheapest_180 hl (by decide) rfl (fun ls hl => ?_)
                          refine lv_iload hx hb dX12_cheapest_182 (lv_at hl 1 rfl) ?_
                          refine lv_if_eq (tgt := 192) hx hb dX12_cheapest_184 (by decide) (fun _ => ?_) (fun c9 => absurd c9 (by decide))
                          refine lv_iload hx hb dX12_cheapest_192 (lv_at hl 5 rfl) ?_
                          refine lv_istore (lv' := [(5, .int s_38.2), (4, .int s_38.1), (9, .int 0), (8, .int s_66.2), (7, .int s_66.1), (6, .int (nI (1 + t_38))), (0, .ref (ad 57)), (1, .int a1), (2, .int a2), (3, .int a3)]) hx hb dX12_cheapest_194 hl (by decide) rfl (fun ls hl => ?_)
                          refine lv_iinc (v := nI ((1 + t_38) + 1)) (lv' := [(6, .int (nI ((1 + t_38) + 1))), (5, .int s_38.2), (4, .int s_38.1), (9, .int 0), (8, .int s_66.2), (7, .int s_66.1), (0, .ref (ad 57)), (1, .int a1), (2, .int a2), (3, .int a3)]) hx hb dX12_cheapest_196 hl (k := 5) rfl (wx_inc _) (by decide) rfl (fun ls hl => ?_)
                          refine lv_goto (tgt := 38) hx hb dX12_cheapest_199 (by decide) ?_
                          have hF_22 : (b_X12_cheapest_38 g a1 a2 a3) t_38 s_38 = (s_38.1, s_38.2) := (by subst ex_13; simp only [b_X12_cheapest_38, if_neg c_15, if_neg c_18, if_pos c_21, ← es_66])
                          exact ih_38 (t_38 + 1) (s_38.1, s_38.2) ls hlt_38 (by omega) (by rw [rep_succ, ← es_38, hF_22]) (lv_sub hl [0, 1, 2, 6, 7, 8, 9] rfl)
                        · have b_23 : wx_b s_66.1 (-2147483648) 2147483646 := wb_lt (wb_nle c_21) (wb_any _) (wb_any _) (by decide) (by decide)
                          have b_24 : wx_b s_38.2 (-2147483647) 2147483647 := wb_gt (wb_nle c_21) (wb_any _) (wb_any _) (by decide) (by decide)
                          refine lv_iconst (v := 1) hx hb dX12_cheapest_161 (by decide) ?_
                          refine lv_goto (tgt := 166) hx hb dX12_cheapest_162 (by decide) ?_
                          refine lv_istore (lv' := [(9, .int 1), (8, .int s_66.2), (7, .int s_66.1), (6, .int (nI (1 + t_38))), (5, .int s_38.2), (4, .int s_38.1), (0, .ref (ad 57)), (1, .int a1), (2, .int a2), (3, .int a3)]) hx hb dX12_cheapest_166 hl (by decide) rfl (fun ls hl => ?_)
                          refine lv_iload hx hb dX12_cheapest_168 (lv_at hl 0 rfl) ?_
                          refine lv_if_eq (tgt := 178) hx hb dX12_cheapest_170 (by decide) (fun c9 => absurd c9 (by decide)) (fun _ => ?_)
                          refine lv_iload hx hb dX12_cheapest_173 (lv_at hl 3 rfl) ?_
                          refine lv_goto (tgt := 180) hx hb dX12_cheapest_175 (by decide) ?_
                          refine lv_istore (lv' := [(4, .int (nI (1 + t_38))), (9, .int 1), (8, .int s_66.2), (7, .int s_66.1), (6, .int (nI (1 + t_38))), (5, .int s_38.2), (0, .ref (ad 57)), (1, .int a1), (2, .int a2), (3, .int a3)]) hx hb dX12_cheapest_180 hl (by decide) rfl (fun ls hl => ?_)
                          refine lv_iload hx hb dX12_cheapest_182 (lv_at hl 1 rfl) ?_
                          refine lv_if_eq (tgt := 192) hx hb dX12_cheapest_184 (by decide) (fun c9 => absurd c9 (by decide)) (fun _ => ?_)
                          refine lv_iload hx hb dX12_cheapest_187 (lv_at hl 3 rfl) ?_
                          refine lv_goto (tgt := 194) hx hb dX12_cheapest_189 (by decide) ?_
                          refine lv_istore (lv' := [(5, .int s_66.1), (4, .int (nI (1 + t_38))), (9, .int 1), (8, .int s_66.2), (7, .int s_66.1), (6, .int (nI (1 + t_38))), (0, .ref (ad 57)), (1, .int a1), (2, .int a2), (3, .int a3)]) hx hb dX12_cheapest_194 hl (by decide) rfl (fun ls hl => ?_)
                          refine lv_iinc (v := nI ((1 + t_38) + 1)) (lv' := [(6, .int (nI ((1 + t_38) + 1))), (5, .int s_66.1), (4, .int (nI (1 + t_38))), (9, .int 1), (8, .int s_66.2), (7, .int s_66.1), (0, .ref (ad 57)), (1, .int a1), (2, .int a2), (3, .int a3)]) hx hb dX12_cheapest_196 hl (k := 5) rfl (wx_inc _) (by decide) rfl (fun ls hl => ?_)
                          refine lv_goto (tgt := 38) hx hb dX12_cheapest_199 (by decide) ?_
                          have hF_25 : (b_X12_cheapest_38 g a1 a2 a3) t_38 s_38 = ((nI (1 + t_38)), s_66.1) := (by subst ex_13; simp only [b_X12_cheapest_38, if_neg c_15, if_neg c_18, if_neg c_21, ← es_66])
                          exact ih_38 (t_38 + 1) ((nI (1 + t_38)), s_66.1) ls hlt_38 (by omega) (by rw [rep_succ, ← es_38, hF_25]) (lv_sub hl [0, 1, 2, 6, 7, 8, 9] rfl)
                  · have hlt_66 : t_66 < (g 65 (0 : Int32).toNatClampNeg).toNatClampNeg := by have h9 := wx_up (by have := wx_cl31 (g 65 (0 : Int32).toNatClampNeg); omega) c_14; omega
                    have bt_66 : wx_b (nI (t_66)) 0 5 := wb_nI (n := 5) (by have := wb_cl (n := 6) hm.1 (by decide); omega) (by decide)
                    refine lv_iload hx hb dX12_cheapest_77 (lv_at hl 3 rfl) ?_
                    refine lv_iload hx hb dX12_cheapest_79 (lv_at hl 0 rfl) ?_
                    refine wx_callr (va_runS (As := [.int (nI (1 + t_38)), .int (nI t_66)]) (rest := []) ⟨hx, hb, hml, hown, hts⟩ (k_X12_has l g (nI (1 + t_38)) (nI t_66)) (va_cwS 2 hts gX12_cheapest_X12_has rfl rfl rfl (by decide +kernel) (by rw [hR]; exact ⟨Nat.le_of_ble_eq_true rfl, Nat.le_of_ble_eq_true rfl⟩)) (wx_Pc.pre hK hX) rfl rfl hl.1 rfl (lv_room (Nat.le_of_ble_eq_true rfl)) dX12_cheapest_81 ⟨Nat.zero_le _, Nat.zero_le _⟩) ?_
                    refine lv_if_eq (tgt := 136) hx hb dX12_cheapest_84 (by decide) (fun c_26 => ?_) (fun c_26 => ?_)
                    · have b_27 : wx_b (r_X12_has (nI (1 + t_38)) (nI t_66)) 0 0 := by rw [c_26]; exact ⟨by decide, by decide⟩
                      refine lv_iinc (v := nI (t_66 + 1)) (lv' := [(9, .int (nI (t_66 + 1))), (8, .int s_66.2), (7, .int s_66.1), (6, .int (nI (1 + t_38))), (5, .int s_38.2), (4, .int s_38.1), (0, .ref (ad 57)), (1, .int a1), (2, .int a2), (3, .int a3)]) hx hb dX12_cheapest_136 hl (k := 0) rfl (wx_inc _) (by decide) rfl (fun ls hl => ?_)
                      refine lv_goto (tgt := 66) hx hb dX12_cheapest_139 (by decide) ?_
                      have hF_28 : (b_X12_cheapest_66 g a1 a2 a3 t_38 s_38 x_13) t_66 s_66 = (s_66.1, s_66.2) := (by simp only [b_X12_cheapest_66, if_pos c_26])
                      exact ih_66 (t_66 + 1) (s_66.1, s_66.2) ls hlt_66 (by omega) (by rw [rep_succ, ← es_66, hF_28]) (lv_sub hl [0, 1, 2, 3, 4, 5, 6, 7, 8, 9] rfl)
                    · refine lv_aload_n hx hb dX12_cheapest_87 rfl (lv_at hl 6 rfl) ?_
                      refine lv_iload hx hb dX12_cheapest_88 (lv_at hl 0 rfl) ?_
                      refine lv_iload_n hx hb dX12_cheapest_90 rfl (lv_at hl 8 rfl) ?_
                      refine wx_callr (va_runV (As := [.int (nI t_66), .int a2]) (rest := []) ⟨hx, hb, hml, hown, hts⟩ (k_X12_heldAt l g (nI t_66) a2 bt_66 b_6) (cwV 2 hts gX12_cheapest_X12_heldAt rfl rfl rfl (by decide +kernel) (by rw [hR]; exact ⟨Nat.le_of_ble_eq_true rfl, Nat.le_of_ble_eq_true rfl⟩)) ⟨wx_Pc.blind, wx_recv hK hX (by decide) sh_X12 rfl, (wx_Pc.pre hK hX).2⟩ rfl rfl hl.1 rfl (lv_room (Nat.le_of_ble_eq_true rfl)) dX12_cheapest_91 ⟨Nat.zero_le _, Nat.zero_le _⟩) ?_
                      refine lv_iload_n hx hb dX12_cheapest_94 rfl (lv_at hl 7 rfl) ?_
                      refine wx_callr (va_runS (As := [.int (r_X12_heldAt g (nI t_66) a2), .int a1]) (rest := []) ⟨hx, hb, hml, hown, hts⟩ (k_X12_has l g (r_X12_heldAt g (nI t_66) a2) a1) (va_cwS 2 hts gX12_cheapest_X12_has rfl rfl rfl (by decide +kernel) (by rw [hR]; exact ⟨Nat.le_of_ble_eq_true rfl, Nat.le_of_ble_eq_true rfl⟩)) (wx_Pc.pre hK hX) rfl rfl hl.1 rfl (lv_room (Nat.le_of_ble_eq_true rfl)) dX12_cheapest_95 ⟨Nat.zero_le _, Nat.zero_le _⟩) ?_
                      refine lv_if_ne (tgt := 136) hx hb dX12_cheapest_98 (by decide) (fun c_29 => ?_) (fun c_29 => ?_)
                      · refine lv_iinc (v := nI (t_66 + 1)) (lv' := [(9, .int (nI (t_66 + 1))), (8, .int s_66.2), (7, .int s_66.1), (6, .int (nI (1 + t_38))), (5, .int s_38.2), (4, .int s_38.1), (0, .ref (ad 57)), (1, .int a1), (2, .int a2), (3, .int a3)]) hx hb dX12_cheapest_136 hl (k := 0) rfl (wx_inc _) (by decide) rfl (fun ls hl => ?_)
                        refine lv_goto (tgt := 66) hx hb dX12_cheapest_139 (by decide) ?_
                        have hF_30 : (b_X12_cheapest_66 g a1 a2 a3 t_38 s_38 x_13) t_66 s_66 = (s_66.1, s_66.2) := (by simp only [b_X12_cheapest_66, if_neg c_26, if_neg c_29])
                        exact ih_66 (t_66 + 1) (s_66.1, s_66.2) ls hlt_66 (by omega) (by rw [rep_succ, ← es_66, hF_30]) (lv_sub hl [0, 1, 2, 3, 4, 5, 6, 7, 8, 9] rfl)
                      · have b_31 : wx_b (r_X12_has (r_X12_heldAt g (nI t_66) a2) a1) 0 0 := by rw [c_29]; exact ⟨by decide, by decide⟩
                        refine lv_iload hx hb dX12_cheapest_101 (lv_at hl 1 rfl) ?_
                        refine lv_if_eq (tgt := 120) hx hb dX12_cheapest_103 (by decide) (fun c_32 => ?_) (fun c_32 => ?_)
                        · have b_33 : wx_b s_66.2 0 0 := by rw [c_32]; exact ⟨by decide, by decide⟩
                          refine lv_iconst (v := 0) hx hb dX12_cheapest_120 (by decide) ?_
                          refine lv_istore (lv' := [(8, .int 0), (9, .int (nI t_66)), (7, .int s_66.1), (6, .int (nI (1 + t_38))), (5, .int s_38.2), (4, .int s_38.1), (0, .ref (ad 57)), (1, .int a1), (2, .int a2), (3, .int a3)]) hx hb dX12_cheapest_121 hl (by decide) rfl (fun ls hl => ?_)
                          refine lv_iload hx hb dX12_cheapest_123 (lv_at hl 2 rfl) ?_
                          refine lv_aload_n hx hb dX12_cheapest_125 rfl (lv_at hl 6 rfl) ?_
                          refine lv_iload_n hx hb dX12_cheapest_126 rfl (lv_at hl 7 rfl) ?_
                          refine lv_iload hx hb dX12_cheapest_127 (lv_at hl 1 rfl) ?_
                          refine lv_iload_n hx hb dX12_cheapest_129 rfl (lv_at hl 8 rfl) ?_
                          refine wx_callr (va_runV (As := [.int a1, .int (nI t_66), .int a2]) (rest := [.int s_66.1]) ⟨hx, hb, hml, hown, hts⟩ (k_X12_priceOf l g a1 (nI t_66) a2 b_3 bt_66 b_6 hm) (cwV 3 hts gX12_cheapest_X12_priceOf rfl rfl rfl (by decide +kernel) (by rw [hR]; exact ⟨Nat.le_of_ble_eq_true rfl, Nat.le_of_ble_eq_true rfl⟩)) ⟨wx_Pc.blind, wx_recv hK hX (by decide) sh_X12 rfl, (wx_Pc.pre hK hX).2⟩ rfl rfl hl.1 rfl (lv_room (Nat.le_of_ble_eq_true rfl)) dX12_cheapest_130 ⟨Nat.zero_le _, Nat.zero_le _⟩) ?_
                          refine lv_iadd hx hb dX12_cheapest_133 ?_
                          refine lv_topi (fun x_34 ex_34 => ?_)
                          refine lv_istore (lv' := [(7, .int x_34), (8, .int 0), (9, .int (nI t_66)), (6, .int (nI (1 + t_38))), (5, .int s_38.2), (4, .int s_38.1), (0, .ref (ad 57)), (1, .int a1), (2, .int a2), (3, .int a3)]) hx hb dX12_cheapest_134 hl (by decide) rfl (fun ls hl => ?_)
                          refine lv_iinc (v := nI (t_66 + 1)) (lv' := [(9, .int (nI (t_66 + 1))), (7, .int x_34), (8, .int 0), (6, .int (nI (1 + t_38))), (5, .int s_38.2), (4, .int s_38.1), (0, .ref (ad 57)), (1, .int a1), (2, .int a2), (3, .int a3)]) hx hb dX12_cheapest_136 hl (k := 2) rfl (wx_inc _) (by decide) rfl (fun ls hl => ?_)
                          refine lv_goto (tgt := 66) hx hb dX12_cheapest_139 (by decide) ?_
                          have hF_35 : (b_X12_cheapest_66 g a1 a2 a3 t_38 s_38 x_13) t_66 s_66 = (x_34, 0) := (by subst ex_34; simp only [b_X12_cheapest_66, if_neg c_26, if_pos c_29, if_pos c_32])
                          exact ih_66 (t_66 + 1) (x_34, 0) ls hlt_66 (by omega) (by rw [rep_succ, ← es_66, hF_35]) (lv_sub hl [0, 2, 1, 3, 4, 5, 6, 7, 8, 9] rfl)
                        · refine lv_aload_n hx hb dX12_cheapest_106 rfl (lv_at hl 6 rfl) ?_
                          refine lv_iload hx hb dX12_cheapest_107 (lv_at hl 0 rfl) ?_
                          refine lv_iload_n hx hb dX12_cheapest_109 rfl (lv_at hl 8 rfl) ?_
                          refine wx_callr (va_runV (As := [.int (nI t_66), .int a2]) (rest := []) ⟨hx, hb, hml, hown, hts⟩ (k_X12_isLeft l g (nI t_66) a2 bt_66 b_6) (cwV 2 hts gX12_cheapest_X12_isLeft rfl rfl rfl (by decide +kernel) (by rw [hR]; exact ⟨Nat.le_of_ble_eq_true rfl, Nat.le_of_ble_eq_true rfl⟩)) ⟨wx_Pc.blind, wx_recv hK hX (by decide) sh_X12 rfl, (wx_Pc.pre hK hX).2⟩ rfl rfl hl.1 rfl (lv_room (Nat.le_of_ble_eq_true rfl)) dX12_cheapest_110 ⟨Nat.zero_le _, Nat.zero_le _⟩) ?_
                          refine lv_if_eq (tgt := 120) hx hb dX12_cheapest_113 (by decide) (fun c_36 => ?_) (fun c_36 => ?_)
                          · have b_37 : wx_b (r_X12_isLeft g (nI t_66) a2) 0 0 := by rw [c_36]; exact ⟨by decide, by decide⟩
                            refine lv_iconst (v := 0) hx hb dX12_cheapest_120 (by decide) ?_
                            refine lv_istore (lv' := [(8, .int 0), (9, .int (nI t_66)), (7, .int s_66.1), (6, .int (nI (1 + t_38))), (5, .int s_38.2), (4, .int s_38.1), (0, .ref (ad 57)), (1, .int a1), (2, .int a2), (3, .int a3)]) hx hb dX12_cheapest_121 hl (by decide) rfl (fun ls hl => ?_)
                            refine lv_iload hx hb dX12_cheapest_123 (lv_at hl 2 rfl) ?_
                            refine lv_aload_n hx hb dX12_cheapest_125 rfl (lv_at hl 6 rfl) ?_
                            refine lv_iload_n hx hb dX12_cheapest_126 rfl (lv_at hl 7 rfl) ?_
                            refine lv_iload hx hb dX12_cheapest_127 (lv_at hl 1 rfl) ?_
                            refine lv_iload_n hx hb dX12_cheapest_129 rfl (lv_at hl 8 rfl) ?_
                            refine wx_callr (va_runV (As := [.int a1, .int (nI t_66), .int a2]) (rest := [.int s_66.1]) ⟨hx, hb, hml, hown, hts⟩ (k_X12_priceOf l g a1 (nI t_66) a2 b_3 bt_66 b_6 hm) (cwV 3 hts gX12_cheapest_X12_priceOf rfl rfl rfl (by decide +kernel) (by rw [hR]; exact ⟨Nat.le_of_ble_eq_true rfl, Nat.le_of_ble_eq_true rfl⟩)) ⟨wx_Pc.blind, wx_recv hK hX (by decide) sh_X12 rfl, (wx_Pc.pre hK hX).2⟩ rfl rfl hl.1 rfl (lv_room (Nat.le_of_ble_eq_true rfl)) dX12_cheapest_130 ⟨Nat.zero_le _, Nat.zero_le _⟩) ?_
                            refine lv_iadd hx hb dX12_cheapest_133 ?_
                            refine lv_topi (fun x_38 ex_38 => ?_)
                            refine lv_istore (lv' := [(7, .int x_38), (8, .int 0), (9, .int (nI t_66)), (6, .int (nI (1 + t_38))), (5, .int s_38.2), (4, .int s_38.1), (0, .ref (ad 57)), (1, .int a1), (2, .int a2), (3, .int a3)]) hx hb dX12_cheapest_134 hl (by decide) rfl (fun ls hl => ?_)
                            refine lv_iinc (v := nI (t_66 + 1)) (lv' := [(9, .int (nI (t_66 + 1))), (7, .int x_38), (8, .int 0), (6, .int (nI (1 + t_38))), (5, .int s_38.2), (4, .int s_38.1), (0, .ref (ad 57)), (1, .int a1), (2, .int a2), (3, .int a3)]) hx hb dX12_cheapest_136 hl (k := 2) rfl (wx_inc _) (by decide) rfl (fun ls hl => ?_)
                            refine lv_goto (tgt := 66) hx hb dX12_cheapest_139 (by decide) ?_
                            have hF_39 : (b_X12_cheapest_66 g a1 a2 a3 t_38 s_38 x_13) t_66 s_66 = (x_38, 0) := (by subst ex_38; simp only [b_X12_cheapest_66, if_neg c_26, if_pos c_29, if_neg c_32, if_pos c_36])
                            exact ih_66 (t_66 + 1) (x_38, 0) ls hlt_66 (by omega) (by rw [rep_succ, ← es_66, hF_39]) (lv_sub hl [0, 2, 1, 3, 4, 5, 6, 7, 8, 9] rfl)
                          · refine lv_iconst (v := 1) hx hb dX12_cheapest_116 (by decide) ?_
                            refine lv_goto (tgt := 121) hx hb dX12_cheapest_117 (by decide) ?_
                            refine lv_istore (lv' := [(8, .int 1), (9, .int (nI t_66)), (7, .int s_66.1), (6, .int (nI (1 + t_38))), (5, .int s_38.2), (4, .int s_38.1), (0, .ref (ad 57)), (1, .int a1), (2, .int a2), (3, .int a3)]) hx hb dX12_cheapest_121 hl (by decide) rfl (fun ls hl => ?_)
                            refine lv_iload hx hb dX12_cheapest_123 (lv_at hl 2 rfl) ?_
                            refine lv_aload_n hx hb dX12_cheapest_125 rfl (lv_at hl 6 rfl) ?_
                            refine lv_iload_n hx hb dX12_cheapest_126 rfl (lv_at hl 7 rfl) ?_
                            refine lv_iload hx hb dX12_cheapest_127 (lv_at hl 1 rfl) ?_
                            refine lv_iload_n hx hb dX12_cheapest_129 rfl (lv_at hl 8 rfl) ?_
                            refine wx_callr (va_runV (As := [.int a1, .int (nI t_66), .int a2]) (rest := [.int s_66.1]) ⟨hx, hb, hml, hown, hts⟩ (k_X12_priceOf l g a1 (nI t_66) a2 b_3 bt_66 b_6 hm) (cwV 3 hts gX12_cheapest_X12_priceOf rfl rfl rfl (by decide +kernel) (by rw [hR]; exact ⟨Nat.le_of_ble_eq_true rfl, Nat.le_of_ble_eq_true rfl⟩)) ⟨wx_Pc.blind, wx_recv hK hX (by decide) sh_X12 rfl, (wx_Pc.pre hK hX).2⟩ rfl rfl hl.1 rfl (lv_room (Nat.le_of_ble_eq_true rfl)) dX12_cheapest_130 ⟨Nat.zero_le _, Nat.zero_le _⟩) ?_
                            refine lv_iadd hx hb dX12_cheapest_133 ?_
                            refine lv_topi (fun x_40 ex_40 => ?_)
                            refine lv_istore (lv' := [(7, .int x_40), (8, .int 1), (9, .int (nI t_66)), (6, .int (nI (1 + t_38))), (5, .int s_38.2), (4, .int s_38.1), (0, .ref (ad 57)), (1, .int a1), (2, .int a2), (3, .int a3)]) hx hb dX12_cheapest_134 hl (by decide) rfl (fun ls hl => ?_)
                            refine lv_iinc (v := nI (t_66 + 1)) (lv' := [(9, .int (nI (t_66 + 1))), (7, .int x_40), (8, .int 1), (6, .int (nI (1 + t_38))), (5, .int s_38.2), (4, .int s_38.1), (0, .ref (ad 57)), (1, .int a1), (2, .int a2), (3, .int a3)]) hx hb dX12_cheapest_136 hl (k := 2) rfl (wx_inc _) (by decide) rfl (fun ls hl => ?_)
                            refine lv_goto (tgt := 66) hx hb dX12_cheapest_139 (by decide) ?_
                            have hF_41 : (b_X12_cheapest_66 g a1 a2 a3 t_38 s_38 x_13) t_66 s_66 = (x_40, 1) := (by subst ex_40; simp only [b_X12_cheapest_66, if_neg c_26, if_pos c_29, if_neg c_32, if_neg c_36])
                            exact ih_66 (t_66 + 1) (x_40, 1) ls hlt_66 (by omega) (by rw [rep_succ, ← es_66, hF_41]) (lv_sub hl [0, 2, 1, 3, 4, 5, 6, 7, 8, 9] rfl)
              exact lp_66 ((g 65 (0 : Int32).toNatClampNeg).toNatClampNeg + 1) 0 (0, x_13) ls (Nat.zero_le _) (by omega) rfl (lv_sub hl [0, 1, 2, 3, 4, 5, 6, 7, 8, 9] rfl)
        exact lp_38 (((1 <<< ((g 65 (0 : Int32).toNatClampNeg) &&& 31)).toNatClampNeg - 1) + 1) 0 ((-1000000), (-1000000)) ls (Nat.zero_le _) (by omega) rfl (lv_sub hl [0, 1, 2, 3, 4, 5, 6] rfl)
      · have b_42 : wx_b (r_X12_in a3 0 1) 0 0 := by rw [c_7]; exact ⟨by decide, by decide⟩
        refine lv_ldc hx hb hown (hts (.constant RX12 60 (-1000001)) (by decide +kernel)) dX12_cheapest_24 ?_
        exact hret _ _ _ dX12_cheapest_26 rfl (by simp only [r_X12_cheapest, if_neg c_1, if_neg c_4, if_pos c_7])
def b_X12_crowd_33 (g : wx_M) (a1 : Int32) (a2 : Int32) (x_6 : Int32) (t_33 : Nat) (s_33 : Int32) : Int32 :=
  if (r_X12_has x_6 (nI t_33)) = 0 then
    let x_10 := (s_33 ||| 0)
    x_10
  else
    let x_12 := (s_33 ||| (r_X12_heldAt g (nI t_33) a2))
    x_12
def r_X12_crowd (g : wx_M) (a1 : Int32) (a2 : Int32) : Int32 :=
  if (r_X12_isGuest g a1) = 0 then
    (-1000001)
  else
    if (r_X12_isMinute a2) = 0 then
      (-1000001)
    else
      let x_6 := (r_X12_lookedBy g (1 <<< (a1 &&& 31)) a2)
      let s_33 := rep (g 65 (0 : Int32).toNatClampNeg).toNatClampNeg (b_X12_crowd_33 g a1 a2 x_6) (0 : Int32)
      (s_33 &&& ((1 <<< (a1 &&& 31)) ^^^ (-1)))
set_option maxHeartbeats 4000000 in
set_option maxRecDepth 100000 in
theorem k_X12_crowd (l : Launch) {D : va_G} {cy : Nat → ClassId} {ad : Nat → Nat} {B0 : Nat} {f : wx_F} {P : va_W} (g : wx_M) (a1 : Int32) (a2 : Int32) (hm : wx_MB g) : Met l yX12_crowd wsX12_crowd ({ frames := 2, cells := 0, slots := 0, locals := 46 } : Room) (wx_Pc D cy ad B0 f P g [.ref (ad 57), .int a1, .int a2]) (QcRead (r_X12_crowd g a1 a2)) 0 0 (fun _ => False) := by
  refine wx_enterR (cc := cX12_crowd) (maxL := 6) (ty := .int) (own := RX12) (lv := [(0, .ref (ad 57)), (1, .int a1), (2, .int a2)]) (by decide) rfl rfl (Nat.le_of_ble_eq_true rfl) rfl ?_
  intro p e R s m args below meth c ls Qm hx hb hml hown hts hK hX hR hret hl
  have hi_X12 : ∀ w ∈ wsX120, w ∈ wsX12_crowd := by decide +kernel
  refine lv_aload_n hx hb dX12_crowd_0 rfl (lv_at hl 0 rfl) ?_
  refine lv_iload_n hx hb dX12_crowd_1 rfl (lv_at hl 1 rfl) ?_
  refine wx_callr (va_runV (As := [.int a1]) (rest := []) ⟨hx, hb, hml, hown, hts⟩ (k_X12_isGuest l g a1) (cwV 1 hts gX12_crowd_X12_isGuest rfl rfl rfl (by decide +kernel) (by rw [hR]; exact ⟨Nat.le_of_ble_eq_true rfl, Nat.le_of_ble_eq_true rfl⟩)) ⟨wx_Pc.blind, wx_recv hK hX (by decide) sh_X12 rfl, (wx_Pc.pre hK hX).2⟩ rfl rfl hl.1 rfl (lv_room (Nat.le_of_ble_eq_true rfl)) dX12_crowd_2 ⟨Nat.zero_le _, Nat.zero_le _⟩) ?_
  refine lv_if_eq (tgt := 15) hx hb dX12_crowd_5 (by decide) (fun c_1 => ?_) (fun c_1 => ?_)
  · have b_2 : wx_b (r_X12_isGuest g a1) 0 0 := by rw [c_1]; exact ⟨by decide, by decide⟩
    refine lv_ldc hx hb hown (hts (.constant RX12 60 (-1000001)) (by decide +kernel)) dX12_crowd_15 ?_
    exact hret _ _ _ dX12_crowd_17 rfl (by simp only [r_X12_crowd, if_pos c_1])
  · have b_3 : wx_b a1 0 3 := rf_X12_isGuest hm c_1
    refine lv_iload_n hx hb dX12_crowd_8 rfl (lv_at hl 2 rfl) ?_
    refine wx_callr (va_runS (As := [.int a2]) (rest := []) ⟨hx, hb, hml, hown, hts⟩ (k_X12_isMinute l g a2) (va_cwS 1 hts gX12_crowd_X12_isMinute rfl rfl rfl (by decide +kernel) (by rw [hR]; exact ⟨Nat.le_of_ble_eq_true rfl, Nat.le_of_ble_eq_true rfl⟩)) (wx_Pc.pre hK hX) rfl rfl hl.1 rfl (lv_room (Nat.le_of_ble_eq_true rfl)) dX12_crowd_9 ⟨Nat.zero_le _, Nat.zero_le _⟩) ?_
    refine lv_if_ne (tgt := 18) hx hb dX12_crowd_12 (by decide) (fun c_4 => ?_) (fun c_4 => ?_)
    · have b_5 : wx_b a2 0 7 := rf_X12_isMinute  c_4
      refine lv_aload_n hx hb dX12_crowd_18 rfl (lv_at hl 0 rfl) ?_
      refine lv_iconst (v := 1) hx hb dX12_crowd_19 (by decide) ?_
      refine lv_iload_n hx hb dX12_crowd_20 rfl (lv_at hl 1 rfl) ?_
      refine lv_ishl hx hb dX12_crowd_21 ?_
      refine lv_iload_n hx hb dX12_crowd_22 rfl (lv_at hl 2 rfl) ?_
      refine wx_callr (va_runV (As := [.int (1 <<< (a1 &&& 31)), .int a2]) (rest := []) ⟨hx, hb, hml, hown, hts⟩ (k_X12_lookedBy l g (1 <<< (a1 &&& 31)) a2 b_5 hm) (cwV 2 hts gX12_crowd_X12_lookedBy rfl rfl rfl (by decide +kernel) (by rw [hR]; exact ⟨Nat.le_of_ble_eq_true rfl, Nat.le_of_ble_eq_true rfl⟩)) ⟨wx_Pc.blind, wx_recv hK hX (by decide) sh_X12 rfl, (wx_Pc.pre hK hX).2⟩ rfl rfl hl.1 rfl (lv_room (Nat.le_of_ble_eq_true rfl)) dX12_crowd_23 ⟨Nat.zero_le _, Nat.zero_le _⟩) ?_
      refine lv_topi (fun x_6 ex_6 => ?_)
      refine lv_istore_n (lv' := [(3, .int x_6), (0, .ref (ad 57)), (1, .int a1), (2, .int a2)]) hx hb dX12_crowd_26 rfl hl (by decide) rfl (fun ls hl => ?_)
      refine lv_iconst (v := 0) hx hb dX12_crowd_27 (by decide) ?_
      refine lv_istore (lv' := [(4, .int 0), (3, .int x_6), (0, .ref (ad 57)), (1, .int a1), (2, .int a2)]) hx hb dX12_crowd_28 hl (by decide) rfl (fun ls hl => ?_)
      refine lv_iconst (v := 0) hx hb dX12_crowd_30 (by decide) ?_
      refine lv_istore (lv' := [(5, .int 0), (4, .int 0), (3, .int x_6), (0, .ref (ad 57)), (1, .int a1), (2, .int a2)]) hx hb dX12_crowd_31 hl (by decide) rfl (fun ls hl => ?_)
      have lp_33 : ∀ (n t_33 : Nat) (s_33 : Int32) (ls : Array Slot), t_33 ≤ (g 65 (0 : Int32).toNatClampNeg).toNatClampNeg → (g 65 (0 : Int32).toNatClampNeg).toNatClampNeg + 1 ≤ t_33 + n → s_33 = rep t_33 (b_X12_crowd_33 g a1 a2 x_6) (0 : Int32) → lv_has ls 6 [(5, .int (nI t_33)), (4, .int s_33), (3, .int x_6), (0, .ref (ad 57)), (1, .int a1), (2, .int a2)] → W p l e R s m args below meth c s.heap [] 0 0 Qm (F0 m 33 ls []) := by
        intro n
        induction n with
        | zero => intro t_33 s_33 ls h1 h2; exact absurd h2 (by omega)
        | succ n ih_33 =>
          intro t_33 s_33 ls ht_33 hn_33 es_33 hl
          refine lv_iload hx hb dX12_crowd_33 (lv_at hl 0 rfl) ?_
          refine lv_aload_n hx hb dX12_crowd_35 rfl (lv_at hl 3 rfl) ?_
          refine wx_getr (t := 65) (C := RX12) (T := TX12) (N := 27) (ci := 11) (j := 20) hx hb hts hi_X12 hown hK hX (by decide) sh_X12_20 rfl (by decide) (hts (.fieldLink RX12 31 "SeenAgainModel" "now" "[I") (by decide +kernel)) (fun _ h9 => h9) dX12_crowd_36 ?_
          refine lv_iconst (v := 0) hx hb dX12_crowd_39 (by decide) ?_
          refine wx_iald hx hb hK hX (by decide) sa_65 (wb_in (show wx_b 0 0 0 from ⟨by decide, by decide⟩) (by decide) (by decide)) dX12_crowd_40 ?_
          refine lv_icmp_ge (tgt := 75) hx hb dX12_crowd_41 (by decide) (fun c_7 => ?_) (fun c_7 => ?_)
          · have et_33 : t_33 = (g 65 (0 : Int32).toNatClampNeg).toNatClampNeg := Nat.le_antisymm ht_33 (by have h9 := wx_dn (by have := wx_cl31 (g 65 (0 : Int32).toNatClampNeg); omega) c_7; omega)
            subst et_33
            refine lv_iload hx hb dX12_crowd_75 (lv_at hl 1 rfl) ?_
            refine lv_iconst (v := 1) hx hb dX12_crowd_77 (by decide) ?_
            refine lv_iload_n hx hb dX12_crowd_78 rfl (lv_at hl 4 rfl) ?_
            refine lv_ishl hx hb dX12_crowd_79 ?_
            refine lv_iconst (v := (-1)) hx hb dX12_crowd_80 (by decide) ?_
            refine lv_ixor hx hb dX12_crowd_81 ?_
            refine lv_iand hx hb dX12_crowd_82 ?_
            exact hret _ _ _ dX12_crowd_83 rfl (by subst ex_6; simp only [r_X12_crowd, if_neg c_1, if_neg c_4, ← es_33])
          · have hlt_33 : t_33 < (g 65 (0 : Int32).toNatClampNeg).toNatClampNeg := by have h9 := wx_up (by have := wx_cl31 (g 65 (0 : Int32).toNatClampNeg); omega) c_7; omega
            have bt_33 : wx_b (nI (t_33)) 0 5 := wb_nI (n := 5) (by have := wb_cl (n := 6) hm.1 (by decide); omega) (by decide)
            refine lv_iload hx hb dX12_crowd_44 (lv_at hl 1 rfl) ?_
            refine lv_iload_n hx hb dX12_crowd_46 rfl (lv_at hl 2 rfl) ?_
            refine lv_iload hx hb dX12_crowd_47 (lv_at hl 0 rfl) ?_
            refine wx_callr (va_runS (As := [.int x_6, .int (nI t_33)]) (rest := [.int s_33]) ⟨hx, hb, hml, hown, hts⟩ (k_X12_has l g x_6 (nI t_33)) (va_cwS 2 hts gX12_crowd_X12_has rfl rfl rfl (by decide +kernel) (by rw [hR]; exact ⟨Nat.le_of_ble_eq_true rfl, Nat.le_of_ble_eq_true rfl⟩)) (wx_Pc.pre hK hX) rfl rfl hl.1 rfl (lv_room (Nat.le_of_ble_eq_true rfl)) dX12_crowd_49 ⟨Nat.zero_le _, Nat.zero_le _⟩) ?_
            refine lv_if_eq (tgt := 65) hx hb dX12_crowd_52 (by decide) (fun c_8 => ?_) (fun c_8 => ?_)
            · have b_9 : wx_b (r_X12_has x_6 (nI t_33)) 0 0 := by rw [c_8]; exact ⟨by decide, by decide⟩
              refine lv_iconst (v := 0) hx hb dX12_crowd_65 (by decide) ?_
              refine lv_ior hx hb dX12_crowd_66 ?_
              refine lv_topi (fun x_10 ex_10 => ?_)
              refine lv_istore (lv' := [(4, .int x_10), (5, .int (nI t_33)), (3, .int x_6), (0, .ref (ad 57)), (1, .int a1), (2, .int a2)]) hx hb dX12_crowd_67 hl (by decide) rfl (fun ls hl => ?_)
              refine lv_iinc (v := nI (t_33 + 1)) (lv' := [(5, .int (nI (t_33 + 1))), (4, .int x_10), (3, .int x_6), (0, .ref (ad 57)), (1, .int a1), (2, .int a2)]) hx hb dX12_crowd_69 hl (k := 1) rfl (wx_inc _) (by decide) rfl (fun ls hl => ?_)
              refine lv_goto (tgt := 33) hx hb dX12_crowd_72 (by decide) ?_
              have hF_11 : (b_X12_crowd_33 g a1 a2 x_6) t_33 s_33 = x_10 := (by subst ex_10; simp only [b_X12_crowd_33, if_pos c_8])
              exact ih_33 (t_33 + 1) x_10 ls hlt_33 (by omega) (by rw [rep_succ, ← es_33, hF_11]) (lv_sub hl [0, 1, 2, 3, 4, 5] rfl)
            · refine lv_aload_n hx hb dX12_crowd_55 rfl (lv_at hl 3 rfl) ?_
              refine lv_iload hx hb dX12_crowd_56 (lv_at hl 0 rfl) ?_
              refine lv_iload_n hx hb dX12_crowd_58 rfl (lv_at hl 5 rfl) ?_
              refine wx_callr (va_runV (As := [.int (nI t_33), .int a2]) (rest := [.int s_33]) ⟨hx, hb, hml, hown, hts⟩ (k_X12_heldAt l g (nI t_33) a2 bt_33 b_5) (cwV 2 hts gX12_crowd_X12_heldAt rfl rfl rfl (by decide +kernel) (by rw [hR]; exact ⟨Nat.le_of_ble_eq_true rfl, Nat.le_of_ble_eq_true rfl⟩)) ⟨wx_Pc.blind, wx_recv hK hX (by decide) sh_X12 rfl, (wx_Pc.pre hK hX).2⟩ rfl rfl hl.1 rfl (lv_room (Nat.le_of_ble_eq_true rfl)) dX12_crowd_59 ⟨Nat.zero_le _, Nat.zero_le _⟩) ?_
              refine lv_goto (tgt := 66) hx hb dX12_crowd_62 (by decide) ?_
              refine lv_ior hx hb dX12_crowd_66 ?_
              refine lv_topi (fun x_12 ex_12 => ?_)
              refine lv_istore (lv' := [(4, .int x_12), (5, .int (nI t_33)), (3, .int x_6), (0, .ref (ad 57)), (1, .int a1), (2, .int a2)]) hx hb dX12_crowd_67 hl (by decide) rfl (fun ls hl => ?_)
              refine lv_iinc (v := nI (t_33 + 1)) (lv' := [(5, .int (nI (t_33 + 1))), (4, .int x_12), (3, .int x_6), (0, .ref (ad 57)), (1, .int a1), (2, .int a2)]) hx hb dX12_crowd_69 hl (k := 1) rfl (wx_inc _) (by decide) rfl (fun ls hl => ?_)
              refine lv_goto (tgt := 33) hx hb dX12_crowd_72 (by decide) ?_
              have hF_13 : (b_X12_crowd_33 g a1 a2 x_6) t_33 s_33 = x_12 := (by subst ex_12; simp only [b_X12_crowd_33, if_neg c_8])
              exact ih_33 (t_33 + 1) x_12 ls hlt_33 (by omega) (by rw [rep_succ, ← es_33, hF_13]) (lv_sub hl [0, 1, 2, 3, 4, 5] rfl)
      exact lp_33 ((g 65 (0 : Int32).toNatClampNeg).toNatClampNeg + 1) 0 (0 : Int32) ls (Nat.zero_le _) (by omega) rfl (lv_sub hl [0, 1, 2, 3, 4, 5] rfl)
    · have b_14 : wx_b (r_X12_isMinute a2) 0 0 := by rw [c_4]; exact ⟨by decide, by decide⟩
      refine lv_ldc hx hb hown (hts (.constant RX12 60 (-1000001)) (by decide +kernel)) dX12_crowd_15 ?_
      exact hret _ _ _ dX12_crowd_17 rfl (by simp only [r_X12_crowd, if_neg c_1, if_pos c_4])
def b_X12_met_29 (g : wx_M) (a1 : Int32) (a2 : Int32) (t_29 : Nat) (s_29 : Int32) : Int32 :=
  if (r_X12_was g a1 (nI t_29)) = (r_X12_was g a2 (nI t_29)) then
    let x_12 := (s_29 ||| (1 <<< ((nI t_29) &&& 31)))
    x_12
  else
    let x_10 := (s_29 ||| 0)
    x_10
def r_X12_met (g : wx_M) (a1 : Int32) (a2 : Int32) : Int32 :=
  if (r_X12_isMan g a1) = 0 then
    (-1000001)
  else
    if (r_X12_isMan g a2) = 0 then
      (-1000001)
    else
      if a1 = a2 then
        (-1000001)
      else
        let s_29 := rep 8 (b_X12_met_29 g a1 a2) (0 : Int32)
        s_29
set_option maxHeartbeats 4000000 in
set_option maxRecDepth 100000 in
theorem k_X12_met (l : Launch) {D : va_G} {cy : Nat → ClassId} {ad : Nat → Nat} {B0 : Nat} {f : wx_F} {P : va_W} (g : wx_M) (a1 : Int32) (a2 : Int32) (hm : wx_MB g) : Met l yX12_met wsX12_met ({ frames := 2, cells := 0, slots := 0, locals := 43 } : Room) (wx_Pc D cy ad B0 f P g [.ref (ad 57), .int a1, .int a2]) (QcRead (r_X12_met g a1 a2)) 0 0 (fun _ => False) := by
  refine wx_enterR (cc := cX12_met) (maxL := 5) (ty := .int) (own := RX12) (lv := [(0, .ref (ad 57)), (1, .int a1), (2, .int a2)]) (by decide) rfl rfl (Nat.le_of_ble_eq_true rfl) rfl ?_
  intro p e R s m args below meth c ls Qm hx hb hml hown hts hK hX hR hret hl
  refine lv_aload_n hx hb dX12_met_0 rfl (lv_at hl 0 rfl) ?_
  refine lv_iload_n hx hb dX12_met_1 rfl (lv_at hl 1 rfl) ?_
  refine wx_callr (va_runV (As := [.int a1]) (rest := []) ⟨hx, hb, hml, hown, hts⟩ (k_X12_isMan l g a1) (cwV 1 hts gX12_met_X12_isMan rfl rfl rfl (by decide +kernel) (by rw [hR]; exact ⟨Nat.le_of_ble_eq_true rfl, Nat.le_of_ble_eq_true rfl⟩)) ⟨wx_Pc.blind, wx_recv hK hX (by decide) sh_X12 rfl, (wx_Pc.pre hK hX).2⟩ rfl rfl hl.1 rfl (lv_room (Nat.le_of_ble_eq_true rfl)) dX12_met_2 ⟨Nat.zero_le _, Nat.zero_le _⟩) ?_
  refine lv_if_eq (tgt := 21) hx hb dX12_met_5 (by decide) (fun c_1 => ?_) (fun c_1 => ?_)
  · have b_2 : wx_b (r_X12_isMan g a1) 0 0 := by rw [c_1]; exact ⟨by decide, by decide⟩
    refine lv_ldc hx hb hown (hts (.constant RX12 60 (-1000001)) (by decide +kernel)) dX12_met_21 ?_
    exact hret _ _ _ dX12_met_23 rfl (by simp only [r_X12_met, if_pos c_1])
  · have b_3 : wx_b a1 0 3 := rf_X12_isMan hm c_1
    refine lv_aload_n hx hb dX12_met_8 rfl (lv_at hl 0 rfl) ?_
    refine lv_iload_n hx hb dX12_met_9 rfl (lv_at hl 2 rfl) ?_
    refine wx_callr (va_runV (As := [.int a2]) (rest := []) ⟨hx, hb, hml, hown, hts⟩ (k_X12_isMan l g a2) (cwV 1 hts gX12_met_X12_isMan rfl rfl rfl (by decide +kernel) (by rw [hR]; exact ⟨Nat.le_of_ble_eq_true rfl, Nat.le_of_ble_eq_true rfl⟩)) ⟨wx_Pc.blind, wx_recv hK hX (by decide) sh_X12 rfl, (wx_Pc.pre hK hX).2⟩ rfl rfl hl.1 rfl (lv_room (Nat.le_of_ble_eq_true rfl)) dX12_met_10 ⟨Nat.zero_le _, Nat.zero_le _⟩) ?_
    refine lv_if_eq (tgt := 21) hx hb dX12_met_13 (by decide) (fun c_4 => ?_) (fun c_4 => ?_)
    · have b_5 : wx_b (r_X12_isMan g a2) 0 0 := by rw [c_4]; exact ⟨by decide, by decide⟩
      refine lv_ldc hx hb hown (hts (.constant RX12 60 (-1000001)) (by decide +kernel)) dX12_met_21 ?_
      exact hret _ _ _ dX12_met_23 rfl (by simp only [r_X12_met, if_neg c_1, if_pos c_4])
    · have b_6 : wx_b a2 0 3 := rf_X12_isMan hm c_4
      refine lv_iload_n hx hb dX12_met_16 rfl (lv_at hl 1 rfl) ?_
      refine lv_iload_n hx hb dX12_met_17 rfl (lv_at hl 2 rfl) ?_
      refine lv_icmp_ne (tgt := 24) hx hb dX12_met_18 (by decide) (fun c_7 => ?_) (fun c_7 => ?_)
      · refine lv_iconst (v := 0) hx hb dX12_met_24 (by decide) ?_
        refine lv_istore_n (lv' := [(3, .int 0), (0, .ref (ad 57)), (1, .int a1), (2, .int a2)]) hx hb dX12_met_25 rfl hl (by decide) rfl (fun ls hl => ?_)
        refine lv_iconst (v := 0) hx hb dX12_met_26 (by decide) ?_
        refine lv_istore (lv' := [(4, .int 0), (3, .int 0), (0, .ref (ad 57)), (1, .int a1), (2, .int a2)]) hx hb dX12_met_27 hl (by decide) rfl (fun ls hl => ?_)
        have lp_29 : ∀ (n t_29 : Nat) (s_29 : Int32) (ls : Array Slot), t_29 ≤ 8 → 8 + 1 ≤ t_29 + n → s_29 = rep t_29 (b_X12_met_29 g a1 a2) (0 : Int32) → lv_has ls 5 [(4, .int (nI t_29)), (3, .int s_29), (0, .ref (ad 57)), (1, .int a1), (2, .int a2)] → W p l e R s m args below meth c s.heap [] 0 0 Qm (F0 m 29 ls []) := by
          intro n
          induction n with
          | zero => intro t_29 s_29 ls h1 h2; exact absurd h2 (by omega)
          | succ n ih_29 =>
            intro t_29 s_29 ls ht_29 hn_29 es_29 hl
            refine lv_iload hx hb dX12_met_29 (lv_at hl 0 rfl) ?_
            refine lv_bipush (v := 8) hx hb dX12_met_31 (by decide) ?_
            refine lv_icmp_ge (tgt := 70) hx hb dX12_met_33 (by decide) (fun c_8 => ?_) (fun c_8 => ?_)
            · have et_29 : t_29 = 8 := Nat.le_antisymm ht_29 (by have h9 := wx_dn (by omega) c_8; have h8 : (8 : Int32).toNatClampNeg = 8 := (by decide); omega)
              subst et_29
              refine lv_iload_n hx hb dX12_met_70 rfl (lv_at hl 1 rfl) ?_
              exact hret _ _ _ dX12_met_71 rfl (by simp only [r_X12_met, if_neg c_1, if_neg c_4, if_neg c_7, ← es_29])
            · have hlt_29 : t_29 < 8 := by have h9 := wx_up (by omega) c_8; have h8 : (8 : Int32).toNatClampNeg = 8 := (by decide); omega
              have bt_29 : wx_b (nI (t_29)) 0 7 := wb_nI (n := 7) (by omega) (by decide)
              refine lv_iload_n hx hb dX12_met_36 rfl (lv_at hl 1 rfl) ?_
              refine lv_aload_n hx hb dX12_met_37 rfl (lv_at hl 2 rfl) ?_
              refine lv_iload_n hx hb dX12_met_38 rfl (lv_at hl 3 rfl) ?_
              refine lv_iload hx hb dX12_met_39 (lv_at hl 0 rfl) ?_
              refine wx_callr (va_runV (As := [.int a1, .int (nI t_29)]) (rest := [.int s_29]) ⟨hx, hb, hml, hown, hts⟩ (k_X12_was l g a1 (nI t_29) b_3 bt_29) (cwV 2 hts gX12_met_X12_was rfl rfl rfl (by decide +kernel) (by rw [hR]; exact ⟨Nat.le_of_ble_eq_true rfl, Nat.le_of_ble_eq_true rfl⟩)) ⟨wx_Pc.blind, wx_recv hK hX (by decide) sh_X12 rfl, (wx_Pc.pre hK hX).2⟩ rfl rfl hl.1 rfl (lv_room (Nat.le_of_ble_eq_true rfl)) dX12_met_41 ⟨Nat.zero_le _, Nat.zero_le _⟩) ?_
              refine lv_aload_n hx hb dX12_met_44 rfl (lv_at hl 2 rfl) ?_
              refine lv_iload_n hx hb dX12_met_45 rfl (lv_at hl 4 rfl) ?_
              refine lv_iload hx hb dX12_met_46 (lv_at hl 0 rfl) ?_
              refine wx_callr (va_runV (As := [.int a2, .int (nI t_29)]) (rest := [.int (r_X12_was g a1 (nI t_29)), .int s_29]) ⟨hx, hb, hml, hown, hts⟩ (k_X12_was l g a2 (nI t_29) b_6 bt_29) (cwV 2 hts gX12_met_X12_was rfl rfl rfl (by decide +kernel) (by rw [hR]; exact ⟨Nat.le_of_ble_eq_true rfl, Nat.le_of_ble_eq_true rfl⟩)) ⟨wx_Pc.blind, wx_recv hK hX (by decide) sh_X12 rfl, (wx_Pc.pre hK hX).2⟩ rfl rfl hl.1 rfl (lv_room (Nat.le_of_ble_eq_true rfl)) dX12_met_48 ⟨Nat.zero_le _, Nat.zero_le _⟩) ?_
              refine lv_icmp_ne (tgt := 61) hx hb dX12_met_51 (by decide) (fun c_9 => ?_) (fun c_9 => ?_)
              · refine lv_iconst (v := 0) hx hb dX12_met_61 (by decide) ?_
                refine lv_ior hx hb dX12_met_62 ?_
                refine lv_topi (fun x_10 ex_10 => ?_)
                refine lv_istore_n (lv' := [(3, .int x_10), (4, .int (nI t_29)), (0, .ref (ad 57)), (1, .int a1), (2, .int a2)]) hx hb dX12_met_63 rfl hl (by decide) rfl (fun ls hl => ?_)
                refine lv_iinc (v := nI (t_29 + 1)) (lv' := [(4, .int (nI (t_29 + 1))), (3, .int x_10), (0, .ref (ad 57)), (1, .int a1), (2, .int a2)]) hx hb dX12_met_64 hl (k := 1) rfl (wx_inc _) (by decide) rfl (fun ls hl => ?_)
                refine lv_goto (tgt := 29) hx hb dX12_met_67 (by decide) ?_
                have hF_11 : (b_X12_met_29 g a1 a2) t_29 s_29 = x_10 := (by subst ex_10; simp only [b_X12_met_29, if_neg c_9])
                exact ih_29 (t_29 + 1) x_10 ls hlt_29 (by omega) (by rw [rep_succ, ← es_29, hF_11]) (lv_sub hl [0, 1, 2, 3, 4] rfl)
              · refine lv_iconst (v := 1) hx hb dX12_met_54 (by decide) ?_
                refine lv_iload hx hb dX12_met_55 (lv_at hl 0 rfl) ?_
                refine lv_ishl hx hb dX12_met_57 ?_
                refine lv_goto (tgt := 62) hx hb dX12_met_58 (by decide) ?_
                refine lv_ior hx hb dX12_met_62 ?_
                refine lv_topi (fun x_12 ex_12 => ?_)
                refine lv_istore_n (lv' := [(3, .int x_12), (4, .int (nI t_29)), (0, .ref (ad 57)), (1, .int a1), (2, .int a2)]) hx hb dX12_met_63 rfl hl (by decide) rfl (fun ls hl => ?_)
                refine lv_iinc (v := nI (t_29 + 1)) (lv' := [(4, .int (nI (t_29 + 1))), (3, .int x_12), (0, .ref (ad 57)), (1, .int a1), (2, .int a2)]) hx hb dX12_met_64 hl (k := 1) rfl (wx_inc _) (by decide) rfl (fun ls hl => ?_)
                refine lv_goto (tgt := 29) hx hb dX12_met_67 (by decide) ?_
                have hF_13 : (b_X12_met_29 g a1 a2) t_29 s_29 = x_12 := (by subst ex_12; simp only [b_X12_met_29, if_pos c_9])
                exact ih_29 (t_29 + 1) x_12 ls hlt_29 (by omega) (by rw [rep_succ, ← es_29, hF_13]) (lv_sub hl [0, 1, 2, 3, 4] rfl)
        exact lp_29 (8 + 1) 0 (0 : Int32) ls (Nat.zero_le _) (by omega) rfl (lv_sub hl [0, 1, 2, 3, 4] rfl)
      · refine lv_ldc hx hb hown (hts (.constant RX12 60 (-1000001)) (by decide +kernel)) dX12_met_21 ?_
        exact hret _ _ _ dX12_met_23 rfl (by simp only [r_X12_met, if_neg c_1, if_neg c_4, if_pos c_7])
def b_X12_soldOut_24 (g : wx_M) (a1 : Int32) (t_24 : Nat) (s_24 : Int32) : (Int32) ⊕ (Int32) :=
  if (r_X12_isRoom g ((nI t_24) - (nI t_24) / 6 * 6)) = 0 then
    .inl s_24
  else
    if (r_X12_isLeft g ((nI t_24) - (nI t_24) / 6 * 6) ((nI t_24) / 6)) = 0 then
      if s_24 = a1 then
        .inr ((nI t_24))
      else
        let x_16 := (s_24 + 1)
        .inl x_16
    else
      .inl s_24
def r_X12_soldOut (g : wx_M) (a1 : Int32) : Int32 :=
  if (g 65 (0 : Int32).toNatClampNeg) = 0 then
    (-1000002)
  else
    if (-1) ≤ a1 then
      (match repX 48 (b_X12_soldOut_24 g a1) (0 : Int32) with
      | .inl s_24 =>
        if a1 = (-1) then
          s_24
        else
          (-1000000)
      | .inr r9 => r9)
    else
      (-1000001)
set_option maxHeartbeats 4000000 in
set_option maxRecDepth 100000 in
theorem k_X12_soldOut (l : Launch) {D : va_G} {cy : Nat → ClassId} {ad : Nat → Nat} {B0 : Nat} {f : wx_F} {P : va_W} (g : wx_M) (a1 : Int32) (hm : wx_MB g) : Met l yX12_soldOut wsX12_soldOut ({ frames := 2, cells := 0, slots := 0, locals := 44 } : Room) (wx_Pc D cy ad B0 f P g [.ref (ad 57), .int a1]) (QcRead (r_X12_soldOut g a1)) 0 0 (fun _ => False) := by
  refine wx_enterR (cc := cX12_soldOut) (maxL := 4) (ty := .int) (own := RX12) (lv := [(0, .ref (ad 57)), (1, .int a1)]) (by decide) rfl rfl (Nat.le_of_ble_eq_true rfl) rfl ?_
  intro p e R s m args below meth c ls Qm hx hb hml hown hts hK hX hR hret hl
  have hi_X12 : ∀ w ∈ wsX120, w ∈ wsX12_soldOut := by decide +kernel
  refine lv_aload_n hx hb dX12_soldOut_0 rfl (lv_at hl 0 rfl) ?_
  refine wx_getr (t := 65) (C := RX12) (T := TX12) (N := 27) (ci := 11) (j := 20) hx hb hts hi_X12 hown hK hX (by decide) sh_X12_20 rfl (by decide) (hts (.fieldLink RX12 31 "SeenAgainModel" "now" "[I") (by decide +kernel)) (fun _ h9 => h9) dX12_soldOut_1 ?_
  refine lv_iconst (v := 0) hx hb dX12_soldOut_4 (by decide) ?_
  refine wx_iald hx hb hK hX (by decide) sa_65 (wb_in (show wx_b 0 0 0 from ⟨by decide, by decide⟩) (by decide) (by decide)) dX12_soldOut_5 ?_
  refine lv_if_ne (tgt := 12) hx hb dX12_soldOut_6 (by decide) (fun c_1 => ?_) (fun c_1 => ?_)
  · have b_2 : wx_b (g 65 (0 : Int32).toNatClampNeg) 1 6 := wb_nel c_1 hm.1 (by decide)
    refine lv_iload_n hx hb dX12_soldOut_12 rfl (lv_at hl 1 rfl) ?_
    refine lv_iconst (v := (-1)) hx hb dX12_soldOut_13 (by decide) ?_
    refine lv_icmp_ge (tgt := 20) hx hb dX12_soldOut_14 (by decide) (fun c_3 => ?_) (fun c_3 => ?_)
    · have b_4 : wx_b a1 (-1) 2147483647 := wb_ge c_3 (wb_any _) (show wx_b (-1) (-1) (-1) from ⟨by decide, by decide⟩) (by decide) (by decide)
      refine lv_iconst (v := 0) hx hb dX12_soldOut_20 (by decide) ?_
      refine lv_istore_n (lv' := [(2, .int 0), (0, .ref (ad 57)), (1, .int a1)]) hx hb dX12_soldOut_21 rfl hl (by decide) rfl (fun ls hl => ?_)
      refine lv_iconst (v := 0) hx hb dX12_soldOut_22 (by decide) ?_
      refine lv_istore_n (lv' := [(3, .int 0), (2, .int 0), (0, .ref (ad 57)), (1, .int a1)]) hx hb dX12_soldOut_23 rfl hl (by decide) rfl (fun ls hl => ?_)
      have lp_24 : ∀ (n t_24 : Nat) (s_24 : Int32) (ls : Array Slot), t_24 ≤ 48 → 48 + 1 ≤ t_24 + n → repX t_24 (b_X12_soldOut_24 g a1) (0 : Int32) = .inl s_24 → lv_has ls 4 [(3, .int (nI t_24)), (2, .int s_24), (0, .ref (ad 57)), (1, .int a1)] → W p l e R s m args below meth c s.heap [] 0 0 Qm (F0 m 24 ls []) := by
        intro n
        induction n with
        | zero => intro t_24 s_24 ls h1 h2; exact absurd h2 (by omega)
        | succ n ih_24 =>
          intro t_24 s_24 ls ht_24 hn_24 es_24 hl
          refine lv_iload_n hx hb dX12_soldOut_24 rfl (lv_at hl 0 rfl) ?_
          refine lv_bipush (v := 48) hx hb dX12_soldOut_25 (by decide) ?_
          refine lv_icmp_ge (tgt := 72) hx hb dX12_soldOut_27 (by decide) (fun c_5 => ?_) (fun c_5 => ?_)
          · have et_24 : t_24 = 48 := Nat.le_antisymm ht_24 (by have h9 := wx_dn (by omega) c_5; have h8 : (48 : Int32).toNatClampNeg = 48 := (by decide); omega)
            subst et_24
            refine lv_iload_n hx hb dX12_soldOut_72 rfl (lv_at hl 3 rfl) ?_
            refine lv_iconst (v := (-1)) hx hb dX12_soldOut_73 (by decide) ?_
            refine lv_icmp_ne (tgt := 81) hx hb dX12_soldOut_74 (by decide) (fun c_6 => ?_) (fun c_6 => ?_)
            · have b_7 : wx_b a1 0 2147483647 := wb_nel c_6 b_4 (by decide)
              refine lv_ldc hx hb hown (hts (.constant RX12 201 (-1000000)) (by decide +kernel)) dX12_soldOut_81 ?_
              exact hret _ _ _ dX12_soldOut_83 rfl (by simp only [r_X12_soldOut, if_neg c_1, if_pos c_3, if_neg c_6, es_24])
            · have b_8 : wx_b a1 (-1) (-1) := by rw [c_6]; exact ⟨by decide, by decide⟩
              refine lv_iload_n hx hb dX12_soldOut_77 rfl (lv_at hl 1 rfl) ?_
              refine lv_goto (tgt := 83) hx hb dX12_soldOut_78 (by decide) ?_
              exact hret _ _ _ dX12_soldOut_83 rfl (by simp only [r_X12_soldOut, if_neg c_1, if_pos c_3, if_pos c_6, es_24])
          · have hlt_24 : t_24 < 48 := by have h9 := wx_up (by omega) c_5; have h8 : (48 : Int32).toNatClampNeg = 48 := (by decide); omega
            have bt_24 : wx_b (nI (t_24)) 0 47 := wb_nI (n := 47) (by omega) (by decide)
            refine lv_aload_n hx hb dX12_soldOut_30 rfl (lv_at hl 2 rfl) ?_
            refine lv_iload_n hx hb dX12_soldOut_31 rfl (lv_at hl 0 rfl) ?_
            refine lv_bipush (v := 6) hx hb dX12_soldOut_32 (by decide) ?_
            refine lv_irem hx hb dX12_soldOut_34 (by decide) ?_
            refine wx_callr (va_runV (As := [.int ((nI t_24) - (nI t_24) / 6 * 6)]) (rest := []) ⟨hx, hb, hml, hown, hts⟩ (k_X12_isRoom l g ((nI t_24) - (nI t_24) / 6 * 6)) (cwV 1 hts gX12_soldOut_X12_isRoom rfl rfl rfl (by decide +kernel) (by rw [hR]; exact ⟨Nat.le_of_ble_eq_true rfl, Nat.le_of_ble_eq_true rfl⟩)) ⟨wx_Pc.blind, wx_recv hK hX (by decide) sh_X12 rfl, (wx_Pc.pre hK hX).2⟩ rfl rfl hl.1 rfl (lv_room (Nat.le_of_ble_eq_true rfl)) dX12_soldOut_35 ⟨Nat.zero_le _, Nat.zero_le _⟩) ?_
            refine lv_if_eq (tgt := 66) hx hb dX12_soldOut_38 (by decide) (fun c_9 => ?_) (fun c_9 => ?_)
            · have b_10 : wx_b (r_X12_isRoom g ((nI t_24) - (nI t_24) / 6 * 6)) 0 0 := by rw [c_9]; exact ⟨by decide, by decide⟩
              refine lv_iinc (v := nI (t_24 + 1)) (lv' := [(3, .int (nI (t_24 + 1))), (2, .int s_24), (0, .ref (ad 57)), (1, .int a1)]) hx hb dX12_soldOut_66 hl (k := 0) rfl (wx_inc _) (by decide) rfl (fun ls hl => ?_)
              refine lv_goto (tgt := 24) hx hb dX12_soldOut_69 (by decide) ?_
              have hF_11 : (b_X12_soldOut_24 g a1) t_24 s_24 = .inl s_24 := (by simp only [b_X12_soldOut_24, if_pos c_9])
              exact ih_24 (t_24 + 1) s_24 ls hlt_24 (by omega) ((repX_go es_24).trans hF_11) (lv_sub hl [0, 1, 2, 3] rfl)
            · refine lv_aload_n hx hb dX12_soldOut_41 rfl (lv_at hl 2 rfl) ?_
              refine lv_iload_n hx hb dX12_soldOut_42 rfl (lv_at hl 0 rfl) ?_
              refine lv_bipush (v := 6) hx hb dX12_soldOut_43 (by decide) ?_
              refine lv_irem hx hb dX12_soldOut_45 (by decide) ?_
              refine lv_iload_n hx hb dX12_soldOut_46 rfl (lv_at hl 0 rfl) ?_
              refine lv_bipush (v := 6) hx hb dX12_soldOut_47 (by decide) ?_
              refine lv_idiv hx hb dX12_soldOut_49 (by decide) ?_
              refine wx_callr (va_runV (As := [.int ((nI t_24) - (nI t_24) / 6 * 6), .int ((nI t_24) / 6)]) (rest := []) ⟨hx, hb, hml, hown, hts⟩ (k_X12_isLeft l g ((nI t_24) - (nI t_24) / 6 * 6) ((nI t_24) / 6) (wb_rem (d := 6) bt_24 (by decide) (by decide) trivial) (wb_div (d := 6) bt_24 (by decide) (by decide) (by decide) (by decide))) (cwV 2 hts gX12_soldOut_X12_isLeft rfl rfl rfl (by decide +kernel) (by rw [hR]; exact ⟨Nat.le_of_ble_eq_true rfl, Nat.le_of_ble_eq_true rfl⟩)) ⟨wx_Pc.blind, wx_recv hK hX (by decide) sh_X12 rfl, (wx_Pc.pre hK hX).2⟩ rfl rfl hl.1 rfl (lv_room (Nat.le_of_ble_eq_true rfl)) dX12_soldOut_50 ⟨Nat.zero_le _, Nat.zero_le _⟩) ?_
              refine lv_if_ne (tgt := 66) hx hb dX12_soldOut_53 (by decide) (fun c_12 => ?_) (fun c_12 => ?_)
              · refine lv_iinc (v := nI (t_24 + 1)) (lv' := [(3, .int (nI (t_24 + 1))), (2, .int s_24), (0, .ref (ad 57)), (1, .int a1)]) hx hb dX12_soldOut_66 hl (k := 0) rfl (wx_inc _) (by decide) rfl (fun ls hl => ?_)
                refine lv_goto (tgt := 24) hx hb dX12_soldOut_69 (by decide) ?_
                have hF_13 : (b_X12_soldOut_24 g a1) t_24 s_24 = .inl s_24 := (by simp only [b_X12_soldOut_24, if_neg c_9, if_neg c_12])
                exact ih_24 (t_24 + 1) s_24 ls hlt_24 (by omega) ((repX_go es_24).trans hF_13) (lv_sub hl [0, 1, 2, 3] rfl)
              · have b_14 : wx_b (r_X12_isLeft g ((nI t_24) - (nI t_24) / 6 * 6) ((nI t_24) / 6)) 0 0 := by rw [c_12]; exact ⟨by decide, by decide⟩
                refine lv_iload_n hx hb dX12_soldOut_56 rfl (lv_at hl 1 rfl) ?_
                refine lv_iload_n hx hb dX12_soldOut_57 rfl (lv_at hl 3 rfl) ?_
                refine lv_icmp_ne (tgt := 63) hx hb dX12_soldOut_58 (by decide) (fun c_15 => ?_) (fun c_15 => ?_)
                · obtain ⟨x_16, ex_16⟩ : ∃ y : Int32, y = (s_24 + 1) := ⟨_, rfl⟩
                  refine lv_iinc (v := x_16) (lv' := [(2, .int x_16), (3, .int (nI t_24)), (0, .ref (ad 57)), (1, .int a1)]) hx hb dX12_soldOut_63 hl (k := 1) rfl (by rw [ex_16]; rfl) (by decide) rfl (fun ls hl => ?_)
                  refine lv_iinc (v := nI (t_24 + 1)) (lv' := [(3, .int (nI (t_24 + 1))), (2, .int x_16), (0, .ref (ad 57)), (1, .int a1)]) hx hb dX12_soldOut_66 hl (k := 1) rfl (wx_inc _) (by decide) rfl (fun ls hl => ?_)
                  refine lv_goto (tgt := 24) hx hb dX12_soldOut_69 (by decide) ?_
                  have hF_17 : (b_X12_soldOut_24 g a1) t_24 s_24 = .inl x_16 := (by subst ex_16; simp only [b_X12_soldOut_24, if_neg c_9, if_pos c_12, if_neg c_15])
                  exact ih_24 (t_24 + 1) x_16 ls hlt_24 (by omega) ((repX_go es_24).trans hF_17) (lv_sub hl [0, 1, 2, 3] rfl)
                · refine lv_iload_n hx hb dX12_soldOut_61 rfl (lv_at hl 0 rfl) ?_
                  have hF_18 : (b_X12_soldOut_24 g a1) t_24 s_24 = .inr ((nI t_24)) := (by simp only [b_X12_soldOut_24, if_neg c_9, if_pos c_12, if_pos c_15])
                  have hO_19 : repX 48 (b_X12_soldOut_24 g a1) (0 : Int32) = .inr ((nI t_24)) := repX_out es_24 hF_18 hlt_24
                  exact hret _ _ _ dX12_soldOut_62 rfl (by simp only [r_X12_soldOut, if_neg c_1, if_pos c_3, hO_19])
      exact lp_24 (48 + 1) 0 (0 : Int32) ls (Nat.zero_le _) (by omega) rfl (lv_sub hl [0, 1, 2, 3] rfl)
    · have b_20 : wx_b a1 (-2147483648) (-2) := wb_lt (wb_nle c_3) (wb_any _) (show wx_b (-1) (-1) (-1) from ⟨by decide, by decide⟩) (by decide) (by decide)
      refine lv_ldc hx hb hown (hts (.constant RX12 60 (-1000001)) (by decide +kernel)) dX12_soldOut_17 ?_
      exact hret _ _ _ dX12_soldOut_19 rfl (by simp only [r_X12_soldOut, if_neg c_1, if_neg c_3])
  · have b_21 : wx_b (g 65 (0 : Int32).toNatClampNeg) 0 0 := by rw [c_1]; exact ⟨by decide, by decide⟩
    refine lv_ldc hx hb hown (hts (.constant RX12 166 (-1000002)) (by decide +kernel)) dX12_soldOut_9 ?_
    exact hret _ _ _ dX12_soldOut_11 rfl (by simp only [r_X12_soldOut, if_pos c_1])
def r_X12_kind (g : wx_M) (a1 : Int32) : Int32 :=
  if (r_X12_isGuest g a1) = 0 then
    (-1000001)
  else
    (g 65 (43 + a1).toNatClampNeg)
set_option maxHeartbeats 4000000 in
set_option maxRecDepth 100000 in
theorem k_X12_kind (l : Launch) {D : va_G} {cy : Nat → ClassId} {ad : Nat → Nat} {B0 : Nat} {f : wx_F} {P : va_W} (g : wx_M) (a1 : Int32) (hm : wx_MB g) : Met l yX12_kind wsX12_kind ({ frames := 2, cells := 0, slots := 0, locals := 43 } : Room) (wx_Pc D cy ad B0 f P g [.ref (ad 57), .int a1]) (QcRead (r_X12_kind g a1)) 0 0 (fun _ => False) := by
  refine wx_enterR (cc := cX12_kind) (maxL := 2) (ty := .int) (own := RX12) (lv := [(0, .ref (ad 57)), (1, .int a1)]) (by decide) rfl rfl (Nat.le_of_ble_eq_true rfl) rfl ?_
  intro p e R s m args below meth c ls Qm hx hb hml hown hts hK hX hR hret hl
  have hi_X12 : ∀ w ∈ wsX120, w ∈ wsX12_kind := by decide +kernel
  refine lv_aload_n hx hb dX12_kind_0 rfl (lv_at hl 0 rfl) ?_
  refine lv_iload_n hx hb dX12_kind_1 rfl (lv_at hl 1 rfl) ?_
  refine wx_callr (va_runV (As := [.int a1]) (rest := []) ⟨hx, hb, hml, hown, hts⟩ (k_X12_isGuest l g a1) (cwV 1 hts gX12_kind_X12_isGuest rfl rfl rfl (by decide +kernel) (by rw [hR]; exact ⟨Nat.le_of_ble_eq_true rfl, Nat.le_of_ble_eq_true rfl⟩)) ⟨wx_Pc.blind, wx_recv hK hX (by decide) sh_X12 rfl, (wx_Pc.pre hK hX).2⟩ rfl rfl hl.1 rfl (lv_room (Nat.le_of_ble_eq_true rfl)) dX12_kind_2 ⟨Nat.zero_le _, Nat.zero_le _⟩) ?_
  refine lv_if_eq (tgt := 20) hx hb dX12_kind_5 (by decide) (fun c_1 => ?_) (fun c_1 => ?_)
  · have b_2 : wx_b (r_X12_isGuest g a1) 0 0 := by rw [c_1]; exact ⟨by decide, by decide⟩
    refine lv_ldc hx hb hown (hts (.constant RX12 60 (-1000001)) (by decide +kernel)) dX12_kind_20 ?_
    exact hret _ _ _ dX12_kind_22 rfl (by simp only [r_X12_kind, if_pos c_1])
  · have b_3 : wx_b a1 0 3 := rf_X12_isGuest hm c_1
    refine lv_aload_n hx hb dX12_kind_8 rfl (lv_at hl 0 rfl) ?_
    refine wx_getr (t := 65) (C := RX12) (T := TX12) (N := 27) (ci := 11) (j := 20) hx hb hts hi_X12 hown hK hX (by decide) sh_X12_20 rfl (by decide) (hts (.fieldLink RX12 31 "SeenAgainModel" "now" "[I") (by decide +kernel)) (fun _ h9 => h9) dX12_kind_9 ?_
    refine lv_bipush (v := 43) hx hb dX12_kind_12 (by decide) ?_
    refine lv_iload_n hx hb dX12_kind_14 rfl (lv_at hl 1 rfl) ?_
    refine lv_iadd hx hb dX12_kind_15 ?_
    refine wx_iald hx hb hK hX (by decide) sa_65 (wb_in (wb_add (show wx_b 43 43 43 from ⟨by decide, by decide⟩) b_3 (by decide) (by decide)) (by decide) (by decide)) dX12_kind_16 ?_
    refine lv_goto (tgt := 22) hx hb dX12_kind_17 (by decide) ?_
    exact hret _ _ _ dX12_kind_22 rfl (by simp only [r_X12_kind, if_neg c_1])
def r_X12_told (g : wx_M) (a1 : Int32) (a2 : Int32) (a3 : Int32) : Int32 :=
  if (r_X12_isGuest g a1) = 0 then
    (-1000001)
  else
    if (r_X12_isMan g a2) = 0 then
      (-1000001)
    else
      if (r_X12_isMinute a3) = 0 then
        (-1000001)
      else
        (r_X12_toldBy g a1 a2 a3)
set_option maxHeartbeats 4000000 in
set_option maxRecDepth 100000 in
theorem k_X12_told (l : Launch) {D : va_G} {cy : Nat → ClassId} {ad : Nat → Nat} {B0 : Nat} {f : wx_F} {P : va_W} (g : wx_M) (a1 : Int32) (a2 : Int32) (a3 : Int32) (hm : wx_MB g) (hmp : wx_MP g) : Met l yX12_told wsX12_told ({ frames := 4, cells := 0, slots := 0, locals := 93 } : Room) (wx_Pc D cy ad B0 f P g [.ref (ad 57), .int a1, .int a2, .int a3]) (QcRead (r_X12_told g a1 a2 a3)) 0 0 (fun _ => False) := by
  refine wx_enterR (cc := cX12_told) (maxL := 4) (ty := .int) (own := RX12) (lv := [(0, .ref (ad 57)), (1, .int a1), (2, .int a2), (3, .int a3)]) (by decide) rfl rfl (Nat.le_of_ble_eq_true rfl) rfl ?_
  intro p e R s m args below meth c ls Qm hx hb hml hown hts hK hX hR hret hl
  refine lv_aload_n hx hb dX12_told_0 rfl (lv_at hl 0 rfl) ?_
  refine lv_iload_n hx hb dX12_told_1 rfl (lv_at hl 1 rfl) ?_
  refine wx_callr (va_runV (As := [.int a1]) (rest := []) ⟨hx, hb, hml, hown, hts⟩ (k_X12_isGuest l g a1) (cwV 1 hts gX12_told_X12_isGuest rfl rfl rfl (by decide +kernel) (by rw [hR]; exact ⟨Nat.le_of_ble_eq_true rfl, Nat.le_of_ble_eq_true rfl⟩)) ⟨wx_Pc.blind, wx_recv hK hX (by decide) sh_X12 rfl, (wx_Pc.pre hK hX).2⟩ rfl rfl hl.1 rfl (lv_room (Nat.le_of_ble_eq_true rfl)) dX12_told_2 ⟨Nat.zero_le _, Nat.zero_le _⟩) ?_
  refine lv_if_eq (tgt := 33) hx hb dX12_told_5 (by decide) (fun c_1 => ?_) (fun c_1 => ?_)
  · have b_2 : wx_b (r_X12_isGuest g a1) 0 0 := by rw [c_1]; exact ⟨by decide, by decide⟩
    refine lv_ldc hx hb hown (hts (.constant RX12 60 (-1000001)) (by decide +kernel)) dX12_told_33 ?_
    exact hret _ _ _ dX12_told_35 rfl (by simp only [r_X12_told, if_pos c_1])
  · have b_3 : wx_b a1 0 3 := rf_X12_isGuest hm c_1
    refine lv_aload_n hx hb dX12_told_8 rfl (lv_at hl 0 rfl) ?_
    refine lv_iload_n hx hb dX12_told_9 rfl (lv_at hl 2 rfl) ?_
    refine wx_callr (va_runV (As := [.int a2]) (rest := []) ⟨hx, hb, hml, hown, hts⟩ (k_X12_isMan l g a2) (cwV 1 hts gX12_told_X12_isMan rfl rfl rfl (by decide +kernel) (by rw [hR]; exact ⟨Nat.le_of_ble_eq_true rfl, Nat.le_of_ble_eq_true rfl⟩)) ⟨wx_Pc.blind, wx_recv hK hX (by decide) sh_X12 rfl, (wx_Pc.pre hK hX).2⟩ rfl rfl hl.1 rfl (lv_room (Nat.le_of_ble_eq_true rfl)) dX12_told_10 ⟨Nat.zero_le _, Nat.zero_le _⟩) ?_
    refine lv_if_eq (tgt := 33) hx hb dX12_told_13 (by decide) (fun c_4 => ?_) (fun c_4 => ?_)
    · have b_5 : wx_b (r_X12_isMan g a2) 0 0 := by rw [c_4]; exact ⟨by decide, by decide⟩
      refine lv_ldc hx hb hown (hts (.constant RX12 60 (-1000001)) (by decide +kernel)) dX12_told_33 ?_
      exact hret _ _ _ dX12_told_35 rfl (by simp only [r_X12_told, if_neg c_1, if_pos c_4])
    · have b_6 : wx_b a2 0 3 := rf_X12_isMan hm c_4
      have b_7 : wx_b (g 65 (0 : Int32).toNatClampNeg) 1 6 := hmp (rf_X12_isMan0 hm c_4)
      refine lv_iload_n hx hb dX12_told_16 rfl (lv_at hl 3 rfl) ?_
      refine wx_callr (va_runS (As := [.int a3]) (rest := []) ⟨hx, hb, hml, hown, hts⟩ (k_X12_isMinute l g a3) (va_cwS 1 hts gX12_told_X12_isMinute rfl rfl rfl (by decide +kernel) (by rw [hR]; exact ⟨Nat.le_of_ble_eq_true rfl, Nat.le_of_ble_eq_true rfl⟩)) (wx_Pc.pre hK hX) rfl rfl hl.1 rfl (lv_room (Nat.le_of_ble_eq_true rfl)) dX12_told_17 ⟨Nat.zero_le _, Nat.zero_le _⟩) ?_
      refine lv_if_eq (tgt := 33) hx hb dX12_told_20 (by decide) (fun c_8 => ?_) (fun c_8 => ?_)
      · have b_9 : wx_b (r_X12_isMinute a3) 0 0 := by rw [c_8]; exact ⟨by decide, by decide⟩
        refine lv_ldc hx hb hown (hts (.constant RX12 60 (-1000001)) (by decide +kernel)) dX12_told_33 ?_
        exact hret _ _ _ dX12_told_35 rfl (by simp only [r_X12_told, if_neg c_1, if_neg c_4, if_pos c_8])
      · have b_10 : wx_b a3 0 7 := rf_X12_isMinute  c_8
        refine lv_aload_n hx hb dX12_told_23 rfl (lv_at hl 0 rfl) ?_
        refine lv_iload_n hx hb dX12_told_24 rfl (lv_at hl 1 rfl) ?_
        refine lv_iload_n hx hb dX12_told_25 rfl (lv_at hl 2 rfl) ?_
        refine lv_iload_n hx hb dX12_told_26 rfl (lv_at hl 3 rfl) ?_
        refine wx_callr (va_runV (As := [.int a1, .int a2, .int a3]) (rest := []) ⟨hx, hb, hml, hown, hts⟩ (k_X12_toldBy l g a1 a2 a3 b_3 b_6 b_10 hm (wb_w b_7 (by decide) (by decide))) (cwV 3 hts gX12_told_X12_toldBy rfl rfl rfl (by decide +kernel) (by rw [hR]; exact ⟨Nat.le_of_ble_eq_true rfl, Nat.le_of_ble_eq_true rfl⟩)) ⟨wx_Pc.blind, wx_recv hK hX (by decide) sh_X12 rfl, (wx_Pc.pre hK hX).2⟩ rfl rfl hl.1 rfl (lv_room (Nat.le_of_ble_eq_true rfl)) dX12_told_27 ⟨Nat.zero_le _, Nat.zero_le _⟩) ?_
        refine lv_goto (tgt := 35) hx hb dX12_told_30 (by decide) ?_
        exact hret _ _ _ dX12_told_35 rfl (by simp only [r_X12_told, if_neg c_1, if_neg c_4, if_neg c_8])
def b_X12_believed_44 (g : wx_M) (a1 : Int32) (a2 : Int32) (t_27 : Nat) (s_27 : Int32 × Int32) (t_44 : Nat) (s_44 : Int32) : Int32 :=
  if (r_X12_toldBy g (nI t_44) a1 a2) = (nI t_27) then
    let x_17 := (s_44 + 1)
    x_17
  else
    let x_15 := (s_44 + 0)
    x_15
def b_X12_believed_27 (g : wx_M) (a1 : Int32) (a2 : Int32) (t_27 : Nat) (s_27 : Int32 × Int32) : Int32 × Int32 :=
  let s_44 := rep (g 65 (4 : Int32).toNatClampNeg).toNatClampNeg (b_X12_believed_44 g a1 a2 t_27 s_27) (0 : Int32)
  if s_44 ≤ s_27.2 then
    (s_27.1, s_27.2)
  else
    ((nI t_27), s_44)
def r_X12_believed (g : wx_M) (a1 : Int32) (a2 : Int32) : Int32 :=
  if (r_X12_isMan g a1) = 0 then
    (-1000001)
  else
    if (r_X12_isMinute a2) = 0 then
      (-1000001)
    else
      let s_27 := rep (g 65 (0 : Int32).toNatClampNeg).toNatClampNeg (b_X12_believed_27 g a1 a2) ((-1000000), 0)
      s_27.1
set_option maxHeartbeats 4000000 in
set_option maxRecDepth 100000 in
theorem k_X12_believed (l : Launch) {D : va_G} {cy : Nat → ClassId} {ad : Nat → Nat} {B0 : Nat} {f : wx_F} {P : va_W} (g : wx_M) (a1 : Int32) (a2 : Int32) (hm : wx_MB g) (hmp : wx_MP g) : Met l yX12_believed wsX12_believed ({ frames := 4, cells := 0, slots := 0, locals := 93 } : Room) (wx_Pc D cy ad B0 f P g [.ref (ad 57), .int a1, .int a2]) (QcRead (r_X12_believed g a1 a2)) 0 0 (fun _ => False) := by
  refine wx_enterR (cc := cX12_believed) (maxL := 8) (ty := .int) (own := RX12) (lv := [(0, .ref (ad 57)), (1, .int a1), (2, .int a2)]) (by decide) rfl rfl (Nat.le_of_ble_eq_true rfl) rfl ?_
  intro p e R s m args below meth c ls Qm hx hb hml hown hts hK hX hR hret hl
  have hi_X12 : ∀ w ∈ wsX120, w ∈ wsX12_believed := by decide +kernel
  refine lv_aload_n hx hb dX12_believed_0 rfl (lv_at hl 0 rfl) ?_
  refine lv_iload_n hx hb dX12_believed_1 rfl (lv_at hl 1 rfl) ?_
  refine wx_callr (va_runV (As := [.int a1]) (rest := []) ⟨hx, hb, hml, hown, hts⟩ (k_X12_isMan l g a1) (cwV 1 hts gX12_believed_X12_isMan rfl rfl rfl (by decide +kernel) (by rw [hR]; exact ⟨Nat.le_of_ble_eq_true rfl, Nat.le_of_ble_eq_true rfl⟩)) ⟨wx_Pc.blind, wx_recv hK hX (by decide) sh_X12 rfl, (wx_Pc.pre hK hX).2⟩ rfl rfl hl.1 rfl (lv_room (Nat.le_of_ble_eq_true rfl)) dX12_believed_2 ⟨Nat.zero_le _, Nat.zero_le _⟩) ?_
  refine lv_if_eq (tgt := 15) hx hb dX12_believed_5 (by decide) (fun c_1 => ?_) (fun c_1 => ?_)
  · have b_2 : wx_b (r_X12_isMan g a1) 0 0 := by rw [c_1]; exact ⟨by decide, by decide⟩
    refine lv_ldc hx hb hown (hts (.constant RX12 60 (-1000001)) (by decide +kernel)) dX12_believed_15 ?_
    exact hret _ _ _ dX12_believed_17 rfl (by simp only [r_X12_believed, if_pos c_1])
  · have b_3 : wx_b a1 0 3 := rf_X12_isMan hm c_1
    have b_4 : wx_b (g 65 (0 : Int32).toNatClampNeg) 1 6 := hmp (rf_X12_isMan0 hm c_1)
    refine lv_iload_n hx hb dX12_believed_8 rfl (lv_at hl 2 rfl) ?_
    refine wx_callr (va_runS (As := [.int a2]) (rest := []) ⟨hx, hb, hml, hown, hts⟩ (k_X12_isMinute l g a2) (va_cwS 1 hts gX12_believed_X12_isMinute rfl rfl rfl (by decide +kernel) (by rw [hR]; exact ⟨Nat.le_of_ble_eq_true rfl, Nat.le_of_ble_eq_true rfl⟩)) (wx_Pc.pre hK hX) rfl rfl hl.1 rfl (lv_room (Nat.le_of_ble_eq_true rfl)) dX12_believed_9 ⟨Nat.zero_le _, Nat.zero_le _⟩) ?_
    refine lv_if_ne (tgt := 18) hx hb dX12_believed_12 (by decide) (fun c_5 => ?_) (fun c_5 => ?_)
    · have b_6 : wx_b a2 0 7 := rf_X12_isMinute  c_5
      refine lv_ldc hx hb hown (hts (.constant RX12 201 (-1000000)) (by decide +kernel)) dX12_believed_18 ?_
      refine lv_istore_n (lv' := [(3, .int (-1000000)), (0, .ref (ad 57)), (1, .int a1), (2, .int a2)]) hx hb dX12_believed_20 rfl hl (by decide) rfl (fun ls hl => ?_)
      refine lv_iconst (v := 0) hx hb dX12_believed_21 (by decide) ?_
      refine lv_istore (lv' := [(4, .int 0), (3, .int (-1000000)), (0, .ref (ad 57)), (1, .int a1), (2, .int a2)]) hx hb dX12_believed_22 hl (by decide) rfl (fun ls hl => ?_)
      refine lv_iconst (v := 0) hx hb dX12_believed_24 (by decide) ?_
      refine lv_istore (lv' := [(5, .int 0), (4, .int 0), (3, .int (-1000000)), (0, .ref (ad 57)), (1, .int a1), (2, .int a2)]) hx hb dX12_believed_25 hl (by decide) rfl (fun ls hl => ?_)
      have lp_27 : ∀ (n t_27 : Nat) (s_27 : Int32 × Int32) (ls : Array Slot), t_27 ≤ (g 65 (0 : Int32).toNatClampNeg).toNatClampNeg → (g 65 (0 : Int32).toNatClampNeg).toNatClampNeg + 1 ≤ t_27 + n → s_27 = rep t_27 (b_X12_believed_27 g a1 a2) ((-1000000), 0) → lv_has ls 8 [(5, .int (nI t_27)), (4, .int s_27.2), (3, .int s_27.1), (0, .ref (ad 57)), (1, .int a1), (2, .int a2)] → W p l e R s m args below meth c s.heap [] 0 0 Qm (F0 m 27 ls []) := by
        intro n
        induction n with
        | zero => intro t_27 s_27 ls h1 h2; exact absurd h2 (by omega)
        | succ n ih_27 =>
          intro t_27 s_27 ls ht_27 hn_27 es_27 hl
          refine lv_iload hx hb dX12_believed_27 (lv_at hl 0 rfl) ?_
          refine lv_aload_n hx hb dX12_believed_29 rfl (lv_at hl 3 rfl) ?_
          refine wx_getr (t := 65) (C := RX12) (T := TX12) (N := 27) (ci := 11) (j := 20) hx hb hts hi_X12 hown hK hX (by decide) sh_X12_20 rfl (by decide) (hts (.fieldLink RX12 31 "SeenAgainModel" "now" "[I") (by decide +kernel)) (fun _ h9 => h9) dX12_believed_30 ?_
          refine lv_iconst (v := 0) hx hb dX12_believed_33 (by decide) ?_
          refine wx_iald hx hb hK hX (by decide) sa_65 (wb_in (show wx_b 0 0 0 from ⟨by decide, by decide⟩) (by decide) (by decide)) dX12_believed_34 ?_
          refine lv_icmp_ge (tgt := 120) hx hb dX12_believed_35 (by decide) (fun c_7 => ?_) (fun c_7 => ?_)
          · have et_27 : t_27 = (g 65 (0 : Int32).toNatClampNeg).toNatClampNeg := Nat.le_antisymm ht_27 (by have h9 := wx_dn (by have := wx_cl31 (g 65 (0 : Int32).toNatClampNeg); omega) c_7; omega)
            subst et_27
            refine lv_iload_n hx hb dX12_believed_120 rfl (lv_at hl 2 rfl) ?_
            exact hret _ _ _ dX12_believed_121 rfl (by simp only [r_X12_believed, if_neg c_1, if_neg c_5, ← es_27])
          · have hlt_27 : t_27 < (g 65 (0 : Int32).toNatClampNeg).toNatClampNeg := by have h9 := wx_up (by have := wx_cl31 (g 65 (0 : Int32).toNatClampNeg); omega) c_7; omega
            have bt_27 : wx_b (nI (t_27)) 0 5 := wb_nI (n := 5) (by have := wb_cl (n := 6) b_4 (by decide); omega) (by decide)
            refine lv_iconst (v := 0) hx hb dX12_believed_38 (by decide) ?_
            refine lv_istore (lv' := [(6, .int 0), (5, .int (nI t_27)), (4, .int s_27.2), (3, .int s_27.1), (0, .ref (ad 57)), (1, .int a1), (2, .int a2)]) hx hb dX12_believed_39 hl (by decide) rfl (fun ls hl => ?_)
            refine lv_iconst (v := 0) hx hb dX12_believed_41 (by decide) ?_
            refine lv_istore (lv' := [(7, .int 0), (6, .int 0), (5, .int (nI t_27)), (4, .int s_27.2), (3, .int s_27.1), (0, .ref (ad 57)), (1, .int a1), (2, .int a2)]) hx hb dX12_believed_42 hl (by decide) rfl (fun ls hl => ?_)
            have lp_44 : ∀ (n t_44 : Nat) (s_44 : Int32) (ls : Array Slot), t_44 ≤ (g 65 (4 : Int32).toNatClampNeg).toNatClampNeg → (g 65 (4 : Int32).toNatClampNeg).toNatClampNeg + 1 ≤ t_44 + n → s_44 = rep t_44 (b_X12_believed_44 g a1 a2 t_27 s_27) (0 : Int32) → lv_has ls 8 [(7, .int (nI t_44)), (6, .int s_44), (5, .int (nI t_27)), (4, .int s_27.2), (3, .int s_27.1), (0, .ref (ad 57)), (1, .int a1), (2, .int a2)] → W p l e R s m args below meth c s.heap [] 0 0 Qm (F0 m 44 ls []) := by
              intro n
              induction n with
              | zero => intro t_44 s_44 ls h1 h2; exact absurd h2 (by omega)
              | succ n ih_44 =>
                intro t_44 s_44 ls ht_44 hn_44 es_44 hl
                refine lv_iload hx hb dX12_believed_44 (lv_at hl 0 rfl) ?_
                refine lv_aload_n hx hb dX12_believed_46 rfl (lv_at hl 5 rfl) ?_
                refine wx_getr (t := 65) (C := RX12) (T := TX12) (N := 27) (ci := 11) (j := 20) hx hb hts hi_X12 hown hK hX (by decide) sh_X12_20 rfl (by decide) (hts (.fieldLink RX12 31 "SeenAgainModel" "now" "[I") (by decide +kernel)) (fun _ h9 => h9) dX12_believed_47 ?_
                refine lv_iconst (v := 4) hx hb dX12_believed_50 (by decide) ?_
                refine wx_iald hx hb hK hX (by decide) sa_65 (wb_in (show wx_b 4 4 4 from ⟨by decide, by decide⟩) (by decide) (by decide)) dX12_believed_51 ?_
                refine lv_icmp_ge (tgt := 84) hx hb dX12_believed_52 (by decide) (fun c_8 => ?_) (fun c_8 => ?_)
                · have et_44 : t_44 = (g 65 (4 : Int32).toNatClampNeg).toNatClampNeg := Nat.le_antisymm ht_44 (by have h9 := wx_dn (by have := wx_cl31 (g 65 (4 : Int32).toNatClampNeg); omega) c_8; omega)
                  subst et_44
                  refine lv_iload hx hb dX12_believed_84 (lv_at hl 1 rfl) ?_
                  refine lv_iload hx hb dX12_believed_86 (lv_at hl 3 rfl) ?_
                  refine lv_icmp_le (tgt := 96) hx hb dX12_believed_88 (by decide) (fun c_9 => ?_) (fun c_9 => ?_)
                  · refine lv_iload_n hx hb dX12_believed_96 rfl (lv_at hl 4 rfl) ?_
                    refine lv_istore_n (lv' := [(3, .int s_27.1), (7, .int (nI ((g 65 (4 : Int32).toNatClampNeg).toNatClampNeg))), (6, .int s_44), (5, .int (nI t_27)), (4, .int s_27.2), (0, .ref (ad 57)), (1, .int a1), (2, .int a2)]) hx hb dX12_believed_97 rfl hl (by decide) rfl (fun ls hl => ?_)
                    refine lv_iload hx hb dX12_believed_98 (lv_at hl 2 rfl) ?_
                    refine lv_iload hx hb dX12_believed_100 (lv_at hl 4 rfl) ?_
                    refine lv_icmp_le (tgt := 110) hx hb dX12_believed_102 (by decide) (fun _ => ?_) (fun c9 => absurd c_9 c9)
                    refine lv_iload hx hb dX12_believed_110 (lv_at hl 4 rfl) ?_
                    refine lv_istore (lv' := [(4, .int s_27.2), (3, .int s_27.1), (7, .int (nI ((g 65 (4 : Int32).toNatClampNeg).toNatClampNeg))), (6, .int s_44), (5, .int (nI t_27)), (0, .ref (ad 57)), (1, .int a1), (2, .int a2)]) hx hb dX12_believed_112 hl (by decide) rfl (fun ls hl => ?_)
                    refine lv_iinc (v := nI (t_27 + 1)) (lv' := [(5, .int (nI (t_27 + 1))), (4, .int s_27.2), (3, .int s_27.1), (7, .int (nI ((g 65 (4 : Int32).toNatClampNeg).toNatClampNeg))), (6, .int s_44), (0, .ref (ad 57)), (1, .int a1), (2, .int a2)]) hx hb dX12_believed_114 hl (k := 4) rfl (wx_inc _) (by decide) rfl (fun ls hl => ?_)
                    refine lv_goto (tgt := 27) hx hb dX12_believed_117 (by decide) ?_
                    have hF_10 : (b_X12_believed_27 g a1 a2) t_27 s_27 = (s_27.1, s_27.2) := (by simp only [b_X12_believed_27, if_pos c_9, ← es_44])
                    exact ih_27 (t_27 + 1) (s_27.1, s_27.2) ls hlt_27 (by omega) (by rw [rep_succ, ← es_27, hF_10]) (lv_sub hl [0, 1, 2, 5, 6, 7] rfl)
                  · have b_11 : wx_b s_27.2 (-2147483648) 2147483646 := wb_lt (wb_nle c_9) (wb_any _) (wb_any _) (by decide) (by decide)
                    have b_12 : wx_b s_44 (-2147483647) 2147483647 := wb_gt (wb_nle c_9) (wb_any _) (wb_any _) (by decide) (by decide)
                    refine lv_iload hx hb dX12_believed_91 (lv_at hl 2 rfl) ?_
                    refine lv_goto (tgt := 97) hx hb dX12_believed_93 (by decide) ?_
                    refine lv_istore_n (lv' := [(3, .int (nI t_27)), (7, .int (nI ((g 65 (4 : Int32).toNatClampNeg).toNatClampNeg))), (6, .int s_44), (5, .int (nI t_27)), (4, .int s_27.2), (0, .ref (ad 57)), (1, .int a1), (2, .int a2)]) hx hb dX12_believed_97 rfl hl (by decide) rfl (fun ls hl => ?_)
                    refine lv_iload hx hb dX12_believed_98 (lv_at hl 2 rfl) ?_
                    refine lv_iload hx hb dX12_believed_100 (lv_at hl 4 rfl) ?_
                    refine lv_icmp_le (tgt := 110) hx hb dX12_believed_102 (by decide) (fun c9 => absurd c9 c_9) (fun _ => ?_)
                    refine lv_iload hx hb dX12_believed_105 (lv_at hl 2 rfl) ?_
                    refine lv_goto (tgt := 112) hx hb dX12_believed_107 (by decide) ?_
                    refine lv_istore (lv' := [(4, .int s_44), (3, .int (nI t_27)), (7, .int (nI ((g 65 (4 : Int32).toNatClampNeg).toNatClampNeg))), (6, .int s_44), (5, .int (nI t_27)), (0, .ref (ad 57)), (1, .int a1), (2, .int a2)]) hx hb dX12_believed_112 hl (by decide) rfl (fun ls hl => ?_)
                    refine lv_iinc (v := nI (t_27 + 1)) (lv' := [(5, .int (nI (t_27 + 1))), (4, .int s_44), (3, .int (nI t_27)), (7, .int (nI ((g 65 (4 : Int32).toNatClampNeg).toNatClampNeg))), (6, .int s_44), (0, .ref (ad 57)), (1, .int a1), (2, .int a2)]) hx hb dX12_believed_114 hl (k := 4) rfl (wx_inc _) (by decide) rfl (fun ls hl => ?_)
                    refine lv_goto (tgt := 27) hx hb dX12_believed_117 (by decide) ?_
                    have hF_13 : (b_X12_believed_27 g a1 a2) t_27 s_27 = ((nI t_27), s_44) := (by simp only [b_X12_believed_27, if_neg c_9, ← es_44])
                    exact ih_27 (t_27 + 1) ((nI t_27), s_44) ls hlt_27 (by omega) (by rw [rep_succ, ← es_27, hF_13]) (lv_sub hl [0, 1, 2, 5, 6, 7] rfl)
                · have hlt_44 : t_44 < (g 65 (4 : Int32).toNatClampNeg).toNatClampNeg := by have h9 := wx_up (by have := wx_cl31 (g 65 (4 : Int32).toNatClampNeg); omega) c_8; omega
                  have bt_44 : wx_b (nI (t_44)) 0 3 := wb_nI (n := 3) (by have := wb_cl (n := 4) hm.2.2 (by decide); omega) (by decide)
                  refine lv_iload hx hb dX12_believed_55 (lv_at hl 1 rfl) ?_
                  refine lv_aload_n hx hb dX12_believed_57 rfl (lv_at hl 5 rfl) ?_
                  refine lv_iload hx hb dX12_believed_58 (lv_at hl 0 rfl) ?_
                  refine lv_iload_n hx hb dX12_believed_60 rfl (lv_at hl 6 rfl) ?_
                  refine lv_iload_n hx hb dX12_believed_61 rfl (lv_at hl 7 rfl) ?_
                  refine wx_callr (va_runV (As := [.int (nI t_44), .int a1, .int a2]) (rest := [.int s_44]) ⟨hx, hb, hml, hown, hts⟩ (k_X12_toldBy l g (nI t_44) a1 a2 bt_44 b_3 b_6 hm (wb_w b_4 (by decide) (by decide))) (cwV 3 hts gX12_believed_X12_toldBy rfl rfl rfl (by decide +kernel) (by rw [hR]; exact ⟨Nat.le_of_ble_eq_true rfl, Nat.le_of_ble_eq_true rfl⟩)) ⟨wx_Pc.blind, wx_recv hK hX (by decide) sh_X12 rfl, (wx_Pc.pre hK hX).2⟩ rfl rfl hl.1 rfl (lv_room (Nat.le_of_ble_eq_true rfl)) dX12_believed_62 ⟨Nat.zero_le _, Nat.zero_le _⟩) ?_
                  refine lv_iload hx hb dX12_believed_65 (lv_at hl 2 rfl) ?_
                  refine lv_icmp_ne (tgt := 74) hx hb dX12_believed_67 (by decide) (fun c_14 => ?_) (fun c_14 => ?_)
                  · refine lv_iconst (v := 0) hx hb dX12_believed_74 (by decide) ?_
                    refine lv_iadd hx hb dX12_believed_75 ?_
                    refine lv_topi (fun x_15 ex_15 => ?_)
                    refine lv_istore (lv' := [(6, .int x_15), (7, .int (nI t_44)), (5, .int (nI t_27)), (4, .int s_27.2), (3, .int s_27.1), (0, .ref (ad 57)), (1, .int a1), (2, .int a2)]) hx hb dX12_believed_76 hl (by decide) rfl (fun ls hl => ?_)
                    refine lv_iinc (v := nI (t_44 + 1)) (lv' := [(7, .int (nI (t_44 + 1))), (6, .int x_15), (5, .int (nI t_27)), (4, .int s_27.2), (3, .int s_27.1), (0, .ref (ad 57)), (1, .int a1), (2, .int a2)]) hx hb dX12_believed_78 hl (k := 1) rfl (wx_inc _) (by decide) rfl (fun ls hl => ?_)
                    refine lv_goto (tgt := 44) hx hb dX12_believed_81 (by decide) ?_
                    have hF_16 : (b_X12_believed_44 g a1 a2 t_27 s_27) t_44 s_44 = x_15 := (by subst ex_15; simp only [b_X12_believed_44, if_neg c_14])
                    exact ih_44 (t_44 + 1) x_15 ls hlt_44 (by omega) (by rw [rep_succ, ← es_44, hF_16]) (lv_sub hl [0, 1, 2, 3, 4, 5, 6, 7] rfl)
                  · refine lv_iconst (v := 1) hx hb dX12_believed_70 (by decide) ?_
                    refine lv_goto (tgt := 75) hx hb dX12_believed_71 (by decide) ?_
                    refine lv_iadd hx hb dX12_believed_75 ?_
                    refine lv_topi (fun x_17 ex_17 => ?_)
                    refine lv_istore (lv' := [(6, .int x_17), (7, .int (nI t_44)), (5, .int (nI t_27)), (4, .int s_27.2), (3, .int s_27.1), (0, .ref (ad 57)), (1, .int a1), (2, .int a2)]) hx hb dX12_believed_76 hl (by decide) rfl (fun ls hl => ?_)
                    refine lv_iinc (v := nI (t_44 + 1)) (lv' := [(7, .int (nI (t_44 + 1))), (6, .int x_17), (5, .int (nI t_27)), (4, .int s_27.2), (3, .int s_27.1), (0, .ref (ad 57)), (1, .int a1), (2, .int a2)]) hx hb dX12_believed_78 hl (k := 1) rfl (wx_inc _) (by decide) rfl (fun ls hl => ?_)
                    refine lv_goto (tgt := 44) hx hb dX12_believed_81 (by decide) ?_
                    have hF_18 : (b_X12_believed_44 g a1 a2 t_27 s_27) t_44 s_44 = x_17 := (by subst ex_17; simp only [b_X12_believed_44, if_pos c_14])
                    exact ih_44 (t_44 + 1) x_17 ls hlt_44 (by omega) (by rw [rep_succ, ← es_44, hF_18]) (lv_sub hl [0, 1, 2, 3, 4, 5, 6, 7] rfl)
            exact lp_44 ((g 65 (4 : Int32).toNatClampNeg).toNatClampNeg + 1) 0 (0 : Int32) ls (Nat.zero_le _) (by omega) rfl (lv_sub hl [0, 1, 2, 3, 4, 5, 6, 7] rfl)
      exact lp_27 ((g 65 (0 : Int32).toNatClampNeg).toNatClampNeg + 1) 0 ((-1000000), 0) ls (Nat.zero_le _) (by omega) rfl (lv_sub hl [0, 1, 2, 3, 4, 5] rfl)
    · have b_19 : wx_b (r_X12_isMinute a2) 0 0 := by rw [c_5]; exact ⟨by decide, by decide⟩
      refine lv_ldc hx hb hown (hts (.constant RX12 60 (-1000001)) (by decide +kernel)) dX12_believed_15 ?_
      exact hret _ _ _ dX12_believed_17 rfl (by simp only [r_X12_believed, if_neg c_1, if_pos c_5])
