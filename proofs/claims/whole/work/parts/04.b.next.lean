def b_X3_nextSeatFor_20 (g : wx_M) (h : Nat) (a1 : Int32) (a2 : Int32) (a3 : Int32) (t_10 : Nat) (s_10 : wx_M × Int32 × Int32) (t_20 : Nat) (s_20 : wx_M × Int32 × Int32) : wx_M × Int32 × Int32 :=
  if (r_X3_holds s_20.1 h a1 (nI t_20) (nI t_10)) = 0 then
    if (r_X3_canBuy s_20.1 h a1 (nI t_20) (nI t_10)) = 0 then
      (s_20.1, s_20.2.1, s_20.2.2)
    else
      let g_10 := e_X3_takeSeat s_20.1 h a1 (nI t_20) (nI t_10) 0
      let x_11 := (r_J6_bitCount_0f7a4 (r_X3_suspectsBy g_10 h (1 <<< (a1 &&& 31)) a2 a3))
      let g_12 := e_X3_leaveSeat g_10 h a1 (nI t_20) (nI t_10) 0
      if s_20.2.2 ≤ x_11 then
        (g_12, s_20.2.1, s_20.2.2)
      else
        let x_17 := (r_X11_seatNumber (nI t_20) (nI t_10))
        (g_12, x_17, x_11)
  else
    (s_20.1, s_20.2.1, s_20.2.2)
def b_X3_nextSeatFor_10 (g : wx_M) (h : Nat) (a1 : Int32) (a2 : Int32) (a3 : Int32) (t_10 : Nat) (s_10 : wx_M × Int32 × Int32) : wx_M × Int32 × Int32 :=
  let s_20 := rep (g h 0).toNatClampNeg (b_X3_nextSeatFor_20 g h a1 a2 a3 t_10 s_10) (s_10.1, s_10.2.1, s_10.2.2)
  (s_20.1, s_20.2.1, s_20.2.2)
def f_X3_nextSeatFor (g : wx_M) (h : Nat) (a1 : Int32) (a2 : Int32) (a3 : Int32) : wx_M × Int32 :=
  let s_10 := rep 8 (b_X3_nextSeatFor_10 g h a1 a2 a3) (g, (-1000000), 5)
  (s_10.1, s_10.2.1)
set_option maxHeartbeats 4000000 in
set_option maxRecDepth 100000 in
theorem k_X3_nextSeatFor (l : Launch) {D : va_G} {cy : Nat → ClassId} {ad : Nat → Nat} {B0 : Nat} {f : wx_F} {P : va_W} (g : wx_M) (h : Nat) (a1 : Int32) (a2 : Int32) (a3 : Int32) (hh : wx_H h) (b1 : wx_b a1 0 3) (hg : wx_HB g h) : Met l yX3_nextSeatFor wsX3_nextSeatFor ({ frames := 5, cells := 0, slots := 0, locals := 122 } : Room) (wx_Pc D cy ad B0 f P g [.ref (ad h), .int a1, .int a2, .int a3]) (wx_Qe D cy ad B0 f P (f_X3_nextSeatFor g h a1 a2 a3).1 (some (.int (f_X3_nextSeatFor g h a1 a2 a3).2))) 0 0 (fun q => B0 ≤ q) := by
  refine wx_enterE (cc := cX3_nextSeatFor) (maxL := 9) (ty := .int) (own := RX3) (lv := [(0, .ref (ad h)), (1, .int a1), (2, .int a2), (3, .int a3)]) (by decide) rfl rfl (Nat.le_of_ble_eq_true rfl) rfl ?_
  intro p e R s m args below meth c ls Qm hx hb hml hown hts hK hX hS hR hret hl
  have hi_X3 : ∀ w ∈ wsX30, w ∈ wsX3_nextSeatFor := by decide +kernel
  refine lv_ldc hx hb hown (hts (.constant RX3 111 (-1000000)) (by decide +kernel)) dX3_nextSeatFor_0 ?_
  refine lv_istore (lv' := [(4, .int (-1000000)), (0, .ref (ad h)), (1, .int a1), (2, .int a2), (3, .int a3)]) hx hb dX3_nextSeatFor_2 hl (by decide) rfl (fun ls hl => ?_)
  refine lv_iconst (v := 5) hx hb dX3_nextSeatFor_4 (by decide) ?_
  refine lv_istore (lv' := [(5, .int 5), (4, .int (-1000000)), (0, .ref (ad h)), (1, .int a1), (2, .int a2), (3, .int a3)]) hx hb dX3_nextSeatFor_5 hl (by decide) rfl (fun ls hl => ?_)
  refine lv_iconst (v := 0) hx hb dX3_nextSeatFor_7 (by decide) ?_
  refine lv_istore (lv' := [(6, .int 0), (5, .int 5), (4, .int (-1000000)), (0, .ref (ad h)), (1, .int a1), (2, .int a2), (3, .int a3)]) hx hb dX3_nextSeatFor_8 hl (by decide) rfl (fun ls hl => ?_)
  have lp_10 : ∀ (n t_10 : Nat) (s_10 : wx_M × Int32 × Int32) (ls : Array Slot) (H : Heap) (locs : List Loc), t_10 ≤ 8 → 8 + 1 ≤ t_10 + n → s_10 = rep t_10 (b_X3_nextSeatFor_10 g h a1 a2 a3) (g, (-1000000), 5) → wx_X D cy ad B0 f P s_10.1 H → va_S (fun q => B0 ≤ q) s.heap H locs → wx_HB s_10.1 h → s_10.1 h 0 = g h 0 → lv_has ls 9 [(6, .int (nI t_10)), (5, .int s_10.2.2), (4, .int s_10.2.1), (0, .ref (ad h)), (1, .int a1), (2, .int a2), (3, .int a3)] → W p l e R s m args below meth c H locs 0 0 Qm (F0 m 10 ls []) := by
    intro n
    induction n with
    | zero => intro t_10 s_10 ls H locs h1 h2; exact absurd h2 (by omega)
    | succ n ih_10 =>
      intro t_10 s_10 ls H locs ht_10 hn_10 es_10 hX hS hgI_10 hrI_10 hl
      refine lv_iload hx hb dX3_nextSeatFor_10 (lv_at hl 0 rfl) ?_
      refine lv_bipush (v := 8) hx hb dX3_nextSeatFor_12 (by decide) ?_
      refine lv_icmp_ge (tgt := 119) hx hb dX3_nextSeatFor_14 (by decide) (fun c_1 => ?_) (fun c_1 => ?_)
      · have et_10 : t_10 = 8 := Nat.le_antisymm ht_10 (by have h9 := wx_dn (by omega) c_1; have h8 : (8 : Int32).toNatClampNeg = 8 := (by decide); omega)
        subst et_10
        refine lv_iload hx hb dX3_nextSeatFor_119 (lv_at hl 2 rfl) ?_
        exact hret _ _ _ _ _ _ dX3_nextSeatFor_121 rfl hX hS (by simp only [f_X3_nextSeatFor, ← es_10])
      · have hlt_10 : t_10 < 8 := by have h9 := wx_up (by omega) c_1; have h8 : (8 : Int32).toNatClampNeg = 8 := (by decide); omega
        have bt_10 : wx_b (nI (t_10)) 0 7 := wb_nI (n := 7) (by omega) (by decide)
        refine lv_iconst (v := 0) hx hb dX3_nextSeatFor_17 (by decide) ?_
        refine lv_istore (lv' := [(7, .int 0), (6, .int (nI t_10)), (5, .int s_10.2.2), (4, .int s_10.2.1), (0, .ref (ad h)), (1, .int a1), (2, .int a2), (3, .int a3)]) hx hb dX3_nextSeatFor_18 hl (by decide) rfl (fun ls hl => ?_)
        have lp_20 : ∀ (n t_20 : Nat) (s_20 : wx_M × Int32 × Int32) (ls : Array Slot) (H : Heap) (locs : List Loc), t_20 ≤ (g h 0).toNatClampNeg → (g h 0).toNatClampNeg + 1 ≤ t_20 + n → s_20 = rep t_20 (b_X3_nextSeatFor_20 g h a1 a2 a3 t_10 s_10) (s_10.1, s_10.2.1, s_10.2.2) → wx_X D cy ad B0 f P s_20.1 H → va_S (fun q => B0 ≤ q) s.heap H locs → wx_HB s_20.1 h → s_20.1 h 0 = g h 0 → lv_has ls 9 [(7, .int (nI t_20)), (5, .int s_20.2.2), (4, .int s_20.2.1), (6, .int (nI t_10)), (0, .ref (ad h)), (1, .int a1), (2, .int a2), (3, .int a3)] → W p l e R s m args below meth c H locs 0 0 Qm (F0 m 20 ls []) := by
          intro n
          induction n with
          | zero => intro t_20 s_20 ls H locs h1 h2; exact absurd h2 (by omega)
          | succ n ih_20 =>
            intro t_20 s_20 ls H locs ht_20 hn_20 es_20 hX hS hgI_20 hrI_20 hl
            refine lv_iload hx hb dX3_nextSeatFor_20 (lv_at hl 0 rfl) ?_
            refine lv_aload_n hx hb dX3_nextSeatFor_22 rfl (lv_at hl 4 rfl) ?_
            refine wx_geti (C := RX3) (T := TX3) (N := 15) (ci := 3) (j := 0) hx hb hts hi_X3 hown hK hX hh.l0 (sh_X3_0 hh) rfl (by decide) (hts (.fieldLink RX3 54 "SeenAgain$House" "rooms" "I") (by decide +kernel)) (fun _ h9 => h9) dX3_nextSeatFor_23 ?_
            refine lv_icmp_ge (tgt := 113) hx hb dX3_nextSeatFor_26 (by decide) (fun c_2 => ?_) (fun c_2 => ?_)
            · have et_20 : t_20 = (g h 0).toNatClampNeg := Nat.le_antisymm ht_20 (by rw [hrI_20] at c_2; have h9 := wx_dn (by have := wx_cl31 (g h 0); omega) c_2; omega)
              subst et_20
              refine lv_iinc (v := nI (t_10 + 1)) (lv' := [(6, .int (nI (t_10 + 1))), (7, .int (nI ((g h 0).toNatClampNeg))), (5, .int s_20.2.2), (4, .int s_20.2.1), (0, .ref (ad h)), (1, .int a1), (2, .int a2), (3, .int a3)]) hx hb dX3_nextSeatFor_113 hl (k := 3) rfl (wx_inc _) (by decide) rfl (fun ls hl => ?_)
              refine lv_goto (tgt := 10) hx hb dX3_nextSeatFor_116 (by decide) ?_
              have hF_3 : (b_X3_nextSeatFor_10 g h a1 a2 a3) t_10 s_10 = (s_20.1, s_20.2.1, s_20.2.2) := (by simp only [b_X3_nextSeatFor_10, ← es_20])
              exact ih_10 (t_10 + 1) (s_20.1, s_20.2.1, s_20.2.2) ls H locs hlt_10 (by omega) (by rw [rep_succ, ← es_10, hF_3]) hX hS hgI_20 hrI_20 (lv_sub hl [0, 2, 3, 4, 5, 6, 7] rfl)
            · have hlt_20 : t_20 < (g h 0).toNatClampNeg := by rw [hrI_20] at c_2; have h9 := wx_up (by have := wx_cl31 (g h 0); omega) c_2; omega
              have bt_20 : wx_b (nI (t_20)) 0 5 := wb_nI (n := 5) (by have h7 := wb_cl (n := 6) hgI_20.1 (by decide); rw [hrI_20] at h7; omega) (by decide)
              refine lv_aload_n hx hb dX3_nextSeatFor_29 rfl (lv_at hl 4 rfl) ?_
              refine lv_iload_n hx hb dX3_nextSeatFor_30 rfl (lv_at hl 5 rfl) ?_
              refine lv_iload hx hb dX3_nextSeatFor_31 (lv_at hl 0 rfl) ?_
              refine lv_iload hx hb dX3_nextSeatFor_33 (lv_at hl 3 rfl) ?_
              refine wx_callr (va_runV (As := [.int a1, .int (nI t_20), .int (nI t_10)]) (rest := []) ⟨hx, hb, hml, hown, hts⟩ (k_X3_holds l s_20.1 h a1 (nI t_20) (nI t_10) hh bt_20 bt_10) (cwV 3 hts gX3_nextSeatFor_X3_holds rfl rfl rfl (by decide +kernel) (by rw [hR]; exact ⟨Nat.le_of_ble_eq_true rfl, Nat.le_of_ble_eq_true rfl⟩)) ⟨wx_Pc.blind, wx_recv hK hX hh.l0 (sh_X3 hh) rfl, (wx_Pc.pre hK hX).2⟩ rfl rfl hl.1 rfl (lv_room (Nat.le_of_ble_eq_true rfl)) dX3_nextSeatFor_35 ⟨Nat.zero_le _, Nat.zero_le _⟩) ?_
              refine lv_if_ne (tgt := 107) hx hb dX3_nextSeatFor_38 (by decide) (fun c_4 => ?_) (fun c_4 => ?_)
              · refine lv_iinc (v := nI (t_20 + 1)) (lv' := [(7, .int (nI (t_20 + 1))), (5, .int s_20.2.2), (4, .int s_20.2.1), (6, .int (nI t_10)), (0, .ref (ad h)), (1, .int a1), (2, .int a2), (3, .int a3)]) hx hb dX3_nextSeatFor_107 hl (k := 0) rfl (wx_inc _) (by decide) rfl (fun ls hl => ?_)
                refine lv_goto (tgt := 20) hx hb dX3_nextSeatFor_110 (by decide) ?_
                have hF_5 : (b_X3_nextSeatFor_20 g h a1 a2 a3 t_10 s_10) t_20 s_20 = (s_20.1, s_20.2.1, s_20.2.2) := (by simp only [b_X3_nextSeatFor_20, if_neg c_4])
                exact ih_20 (t_20 + 1) (s_20.1, s_20.2.1, s_20.2.2) ls H locs hlt_20 (by omega) (by rw [rep_succ, ← es_20, hF_5]) hX hS hgI_20 hrI_20 (lv_sub hl [0, 1, 2, 3, 4, 5, 6, 7] rfl)
              · have b_6 : wx_b (r_X3_holds s_20.1 h a1 (nI t_20) (nI t_10)) 0 0 := by rw [c_4]; exact ⟨by decide, by decide⟩
                refine lv_aload_n hx hb dX3_nextSeatFor_41 rfl (lv_at hl 4 rfl) ?_
                refine lv_iload_n hx hb dX3_nextSeatFor_42 rfl (lv_at hl 5 rfl) ?_
                refine lv_iload hx hb dX3_nextSeatFor_43 (lv_at hl 0 rfl) ?_
                refine lv_iload hx hb dX3_nextSeatFor_45 (lv_at hl 3 rfl) ?_
                refine wx_callr (va_runV (As := [.int a1, .int (nI t_20), .int (nI t_10)]) (rest := []) ⟨hx, hb, hml, hown, hts⟩ (k_X3_canBuy l s_20.1 h a1 (nI t_20) (nI t_10) hh b1 bt_20 bt_10 hgI_20) (cwV 3 hts gX3_nextSeatFor_X3_canBuy rfl rfl rfl (by decide +kernel) (by rw [hR]; exact ⟨Nat.le_of_ble_eq_true rfl, Nat.le_of_ble_eq_true rfl⟩)) ⟨wx_Pc.blind, wx_recv hK hX hh.l0 (sh_X3 hh) rfl, (wx_Pc.pre hK hX).2⟩ rfl rfl hl.1 rfl (lv_room (Nat.le_of_ble_eq_true rfl)) dX3_nextSeatFor_47 ⟨Nat.zero_le _, Nat.zero_le _⟩) ?_
                refine lv_if_eq (tgt := 107) hx hb dX3_nextSeatFor_50 (by decide) (fun c_7 => ?_) (fun c_7 => ?_)
                · have b_8 : wx_b (r_X3_canBuy s_20.1 h a1 (nI t_20) (nI t_10)) 0 0 := by rw [c_7]; exact ⟨by decide, by decide⟩
                  refine lv_iinc (v := nI (t_20 + 1)) (lv' := [(7, .int (nI (t_20 + 1))), (5, .int s_20.2.2), (4, .int s_20.2.1), (6, .int (nI t_10)), (0, .ref (ad h)), (1, .int a1), (2, .int a2), (3, .int a3)]) hx hb dX3_nextSeatFor_107 hl (k := 0) rfl (wx_inc _) (by decide) rfl (fun ls hl => ?_)
                  refine lv_goto (tgt := 20) hx hb dX3_nextSeatFor_110 (by decide) ?_
                  have hF_9 : (b_X3_nextSeatFor_20 g h a1 a2 a3 t_10 s_10) t_20 s_20 = (s_20.1, s_20.2.1, s_20.2.2) := (by simp only [b_X3_nextSeatFor_20, if_pos c_4, if_pos c_7])
                  exact ih_20 (t_20 + 1) (s_20.1, s_20.2.1, s_20.2.2) ls H locs hlt_20 (by omega) (by rw [rep_succ, ← es_20, hF_9]) hX hS hgI_20 hrI_20 (lv_sub hl [0, 1, 2, 3, 4, 5, 6, 7] rfl)
                · refine lv_aload_n hx hb dX3_nextSeatFor_53 rfl (lv_at hl 4 rfl) ?_
                  refine lv_iload_n hx hb dX3_nextSeatFor_54 rfl (lv_at hl 5 rfl) ?_
                  refine lv_iload hx hb dX3_nextSeatFor_55 (lv_at hl 0 rfl) ?_
                  refine lv_iload hx hb dX3_nextSeatFor_57 (lv_at hl 3 rfl) ?_
                  refine lv_iconst (v := 0) hx hb dX3_nextSeatFor_59 (by decide) ?_
                  refine wx_callev (va_runV (As := [.int a1, .int (nI t_20), .int (nI t_10), .int 0]) (rest := []) ⟨hx, hb, hml, hown, hts⟩ (k_X3_takeSeat l s_20.1 h a1 (nI t_20) (nI t_10) 0 hh b1 bt_20 bt_10) (cwV 4 hts gX3_nextSeatFor_X3_takeSeat rfl rfl rfl (by decide +kernel) (by rw [hR]; exact ⟨Nat.le_of_ble_eq_true rfl, Nat.le_of_ble_eq_true rfl⟩)) ⟨wx_Pc.blind, wx_recv hK hX hh.l0 (sh_X3 hh) rfl, (wx_Pc.pre hK hX).2⟩ rfl rfl hl.1 rfl (lv_room (Nat.le_of_ble_eq_true rfl)) dX3_nextSeatFor_60 ⟨Nat.zero_le _, Nat.zero_le _⟩) hS (fun H locs hX hS => ?_)
                  obtain ⟨g_10, eg_10, hX⟩ := wx_nm hX
                  refine lv_aload_n hx hb dX3_nextSeatFor_63 rfl (lv_at hl 4 rfl) ?_
                  refine lv_iconst (v := 1) hx hb dX3_nextSeatFor_64 (by decide) ?_
                  refine lv_iload_n hx hb dX3_nextSeatFor_65 rfl (lv_at hl 5 rfl) ?_
                  refine lv_ishl hx hb dX3_nextSeatFor_66 ?_
                  refine lv_iload_n hx hb dX3_nextSeatFor_67 rfl (lv_at hl 6 rfl) ?_
                  refine lv_iload_n hx hb dX3_nextSeatFor_68 rfl (lv_at hl 7 rfl) ?_
                  refine wx_callr (va_runV (As := [.int (1 <<< (a1 &&& 31)), .int a2, .int a3]) (rest := []) ⟨hx, hb, hml, hown, hts⟩ (k_X3_suspectsBy l g_10 h (1 <<< (a1 &&& 31)) a2 a3 hh (by rw [eg_10]; exact hb_takeSeat hgI_20)) (cwV 3 hts gX3_nextSeatFor_X3_suspectsBy rfl rfl rfl (by decide +kernel) (by rw [hR]; exact ⟨Nat.le_of_ble_eq_true rfl, Nat.le_of_ble_eq_true rfl⟩)) ⟨wx_Pc.blind, wx_recv hK hX hh.l0 (sh_X3 hh) rfl, (wx_Pc.pre hK hX).2⟩ rfl rfl hl.1 rfl (lv_room (Nat.le_of_ble_eq_true rfl)) dX3_nextSeatFor_69 ⟨Nat.zero_le _, Nat.zero_le _⟩) ?_
                  refine wx_callr (va_runS (As := [.int (r_X3_suspectsBy g_10 h (1 <<< (a1 &&& 31)) a2 a3)]) (rest := []) ⟨hx, hb, hml, hown, hts⟩ (k_J6_bitCount_0f7a4 l g_10 (r_X3_suspectsBy g_10 h (1 <<< (a1 &&& 31)) a2 a3)) (va_cwS 1 hts gX3_nextSeatFor_J6_bitCount_0f7a4 rfl rfl rfl (by decide +kernel) (by rw [hR]; exact ⟨Nat.le_of_ble_eq_true rfl, Nat.le_of_ble_eq_true rfl⟩)) (wx_Pc.pre hK hX) rfl rfl hl.1 rfl (lv_room (Nat.le_of_ble_eq_true rfl)) dX3_nextSeatFor_72 ⟨Nat.zero_le _, Nat.zero_le _⟩) ?_
                  refine lv_topi (fun x_11 ex_11 => ?_)
                  refine lv_istore (lv' := [(8, .int x_11), (7, .int (nI t_20)), (5, .int s_20.2.2), (4, .int s_20.2.1), (6, .int (nI t_10)), (0, .ref (ad h)), (1, .int a1), (2, .int a2), (3, .int a3)]) hx hb dX3_nextSeatFor_75 hl (by decide) rfl (fun ls hl => ?_)
                  refine lv_aload_n hx hb dX3_nextSeatFor_77 rfl (lv_at hl 5 rfl) ?_
                  refine lv_iload_n hx hb dX3_nextSeatFor_78 rfl (lv_at hl 6 rfl) ?_
                  refine lv_iload hx hb dX3_nextSeatFor_79 (lv_at hl 1 rfl) ?_
                  refine lv_iload hx hb dX3_nextSeatFor_81 (lv_at hl 4 rfl) ?_
                  refine lv_iconst (v := 0) hx hb dX3_nextSeatFor_83 (by decide) ?_
                  refine wx_callev (va_runV (As := [.int a1, .int (nI t_20), .int (nI t_10), .int 0]) (rest := []) ⟨hx, hb, hml, hown, hts⟩ (k_X3_leaveSeat l g_10 h a1 (nI t_20) (nI t_10) 0 hh b1 bt_20 bt_10) (cwV 4 hts gX3_nextSeatFor_X3_leaveSeat rfl rfl rfl (by decide +kernel) (by rw [hR]; exact ⟨Nat.le_of_ble_eq_true rfl, Nat.le_of_ble_eq_true rfl⟩)) ⟨wx_Pc.blind, wx_recv hK hX hh.l0 (sh_X3 hh) rfl, (wx_Pc.pre hK hX).2⟩ rfl rfl hl.1 rfl (lv_room (Nat.le_of_ble_eq_true rfl)) dX3_nextSeatFor_84 ⟨Nat.zero_le _, Nat.zero_le _⟩) hS (fun H locs hX hS => ?_)
                  obtain ⟨g_12, eg_12, hX⟩ := wx_nm hX
                  refine lv_iload hx hb dX3_nextSeatFor_87 (lv_at hl 0 rfl) ?_
                  refine lv_iload hx hb dX3_nextSeatFor_89 (lv_at hl 2 rfl) ?_
                  refine lv_icmp_ge (tgt := 107) hx hb dX3_nextSeatFor_91 (by decide) (fun c_13 => ?_) (fun c_13 => ?_)
                  · refine lv_iinc (v := nI (t_20 + 1)) (lv' := [(7, .int (nI (t_20 + 1))), (8, .int x_11), (5, .int s_20.2.2), (4, .int s_20.2.1), (6, .int (nI t_10)), (0, .ref (ad h)), (1, .int a1), (2, .int a2), (3, .int a3)]) hx hb dX3_nextSeatFor_107 hl (k := 1) rfl (wx_inc _) (by decide) rfl (fun ls hl => ?_)
                    refine lv_goto (tgt := 20) hx hb dX3_nextSeatFor_110 (by decide) ?_
                    have hF_14 : (b_X3_nextSeatFor_20 g h a1 a2 a3 t_10 s_10) t_20 s_20 = (g_12, s_20.2.1, s_20.2.2) := (by subst eg_12 ex_11 eg_10; simp only [b_X3_nextSeatFor_20, if_pos c_4, if_neg c_7, if_pos c_13])
                    exact ih_20 (t_20 + 1) (g_12, s_20.2.1, s_20.2.2) ls H locs hlt_20 (by omega) (by rw [rep_succ, ← es_20, hF_14]) hX hS (by rw [eg_12]; exact hb_leaveSeat (by rw [eg_10]; exact hb_takeSeat hgI_20)) (show g_12 h 0 = g h 0 from by rw [eg_12, rm_leaveSeat]; exact (show g_10 h 0 = g h 0 from by rw [eg_10, rm_takeSeat]; exact hrI_20)) (lv_sub hl [0, 2, 3, 4, 5, 6, 7, 8] rfl)
                  · have b_15 : wx_b x_11 (-2147483648) 2147483646 := wb_lt (wb_nle c_13) (wb_any _) (wb_any _) (by decide) (by decide)
                    have b_16 : wx_b s_20.2.2 (-2147483647) 2147483647 := wb_gt (wb_nle c_13) (wb_any _) (wb_any _) (by decide) (by decide)
                    refine lv_iload hx hb dX3_nextSeatFor_94 (lv_at hl 0 rfl) ?_
                    refine lv_istore (lv' := [(5, .int x_11), (8, .int x_11), (7, .int (nI t_20)), (4, .int s_20.2.1), (6, .int (nI t_10)), (0, .ref (ad h)), (1, .int a1), (2, .int a2), (3, .int a3)]) hx hb dX3_nextSeatFor_96 hl (by decide) rfl (fun ls hl => ?_)
                    refine lv_iload hx hb dX3_nextSeatFor_98 (lv_at hl 2 rfl) ?_
                    refine lv_iload hx hb dX3_nextSeatFor_100 (lv_at hl 4 rfl) ?_
                    refine wx_callr (va_runSN (As := [.int (nI t_20), .int (nI t_10)]) (rest := []) ⟨hx, hb, hml, hown, hts⟩ (k_X11_seatNumber l g_12 (nI t_20) (nI t_10)) ⟨va_cnB 2 hts gX3_nextSeatFor_X11_seatNumber_n82 rfl rfl rfl hK.2.1.2 (hts (.initialized RX11) (by decide +kernel)) (by decide +kernel) (by rw [hR]; exact ⟨Nat.le_of_ble_eq_true rfl, Nat.le_of_ble_eq_true rfl⟩), hts (.static yX11_seatNumber) (by decide +kernel), trivial⟩ (wx_Pc.pre hK hX) rfl rfl hl.1 rfl (lv_room (Nat.le_of_ble_eq_true rfl)) dX3_nextSeatFor_102 ⟨Nat.zero_le _, Nat.zero_le _⟩) ?_
                    refine lv_topi (fun x_17 ex_17 => ?_)
                    have bx_17 : wx_b x_17 0 47 := by rw [ex_17]; exact (rg_seat (wb_w bt_20 (by decide) (by decide)) (wb_w bt_10 (by decide) (by decide)))
                    refine lv_istore (lv' := [(4, .int x_17), (5, .int x_11), (8, .int x_11), (7, .int (nI t_20)), (6, .int (nI t_10)), (0, .ref (ad h)), (1, .int a1), (2, .int a2), (3, .int a3)]) hx hb dX3_nextSeatFor_105 hl (by decide) rfl (fun ls hl => ?_)
                    refine lv_iinc (v := nI (t_20 + 1)) (lv' := [(7, .int (nI (t_20 + 1))), (4, .int x_17), (5, .int x_11), (8, .int x_11), (6, .int (nI t_10)), (0, .ref (ad h)), (1, .int a1), (2, .int a2), (3, .int a3)]) hx hb dX3_nextSeatFor_107 hl (k := 3) rfl (wx_inc _) (by decide) rfl (fun ls hl => ?_)
                    refine lv_goto (tgt := 20) hx hb dX3_nextSeatFor_110 (by decide) ?_
                    have hF_18 : (b_X3_nextSeatFor_20 g h a1 a2 a3 t_10 s_10) t_20 s_20 = (g_12, x_17, x_11) := (by subst ex_17 eg_12 ex_11 eg_10; simp only [b_X3_nextSeatFor_20, if_pos c_4, if_neg c_7, if_neg c_13])
                    exact ih_20 (t_20 + 1) (g_12, x_17, x_11) ls H locs hlt_20 (by omega) (by rw [rep_succ, ← es_20, hF_18]) hX hS (by rw [eg_12]; exact hb_leaveSeat (by rw [eg_10]; exact hb_takeSeat hgI_20)) (show g_12 h 0 = g h 0 from by rw [eg_12, rm_leaveSeat]; exact (show g_10 h 0 = g h 0 from by rw [eg_10, rm_takeSeat]; exact hrI_20)) (lv_sub hl [0, 2, 1, 4, 5, 6, 7, 8] rfl)
        exact lp_20 ((g h 0).toNatClampNeg + 1) 0 (s_10.1, s_10.2.1, s_10.2.2) ls H locs (Nat.zero_le _) (by omega) rfl hX hS hgI_10 hrI_10 (lv_sub hl [0, 2, 3, 1, 4, 5, 6, 7] rfl)
  exact lp_10 (8 + 1) 0 (g, (-1000000), 5) ls s.heap [] (Nat.zero_le _) (by omega) rfl hX hS hg rfl (lv_sub hl [0, 1, 2, 3, 4, 5, 6] rfl)

theorem tb_X8_begin {g : wx_M} {a1 : Int32} (h : wx_b (g 55 1) 0 16) : wx_b (e_X8_begin g a1 55 1) 0 16 := by
  simp only [e_X8_begin]
  split
  · exact h
  · rename_i c
    rw [up2_ss, up2_n (by decide)]
    have h1 := wb_lt (wb_nle c) h (show wx_b 16 16 16 from ⟨by decide, by decide⟩) (a1 := 0) (b1 := 15) (by decide) (by decide)
    exact wb_w (wb_add h1 (show wx_b 1 1 1 from ⟨by decide, by decide⟩) (by decide) (by decide)) (by decide) (by decide)
