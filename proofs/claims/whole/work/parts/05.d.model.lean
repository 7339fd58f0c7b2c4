def r_X12_fault (g : wx_M) : Int32 :=
  (g 57 10)
set_option maxHeartbeats 4000000 in
set_option maxRecDepth 100000 in
theorem k_X12_fault (l : Launch) {D : va_G} {cy : Nat → ClassId} {ad : Nat → Nat} {B0 : Nat} {f : wx_F} {P : va_W} (g : wx_M) : Met l yX12_fault wsX12_fault ({ frames := 0, cells := 0, slots := 0, locals := 0 } : Room) (wx_Pc D cy ad B0 f P g [.ref (ad 57)]) (QcRead (r_X12_fault g)) 0 0 (fun _ => False) := by
  refine wx_enterR (cc := cX12_fault) (maxL := 1) (ty := .int) (own := RX12) (lv := [(0, .ref (ad 57))]) (by decide) rfl rfl (Nat.le_of_ble_eq_true rfl) rfl ?_
  intro p e R s m args below meth c ls Qm hx hb hml hown hts hK hX hR hret hl
  have hi_X12 : ∀ w ∈ wsX120, w ∈ wsX12_fault := by decide +kernel
  refine lv_aload_n hx hb dX12_fault_0 rfl (lv_at hl 0 rfl) ?_
  refine wx_geti (C := RX12) (T := TX12) (N := 27) (ci := 11) (j := 10) hx hb hts hi_X12 hown hK hX (by decide) sh_X12_10 rfl (by decide) (hts (.fieldLink RX12 87 "SeenAgainModel" "faultIs" "I") (by decide +kernel)) (fun _ h9 => h9) dX12_fault_1 ?_
  exact hret _ _ _ dX12_fault_4 rfl (by simp only [r_X12_fault])
def r_X12_status (g : wx_M) : Int32 :=
  (g 57 3)
set_option maxHeartbeats 4000000 in
set_option maxRecDepth 100000 in
theorem k_X12_status (l : Launch) {D : va_G} {cy : Nat → ClassId} {ad : Nat → Nat} {B0 : Nat} {f : wx_F} {P : va_W} (g : wx_M) : Met l yX12_status wsX12_status ({ frames := 0, cells := 0, slots := 0, locals := 0 } : Room) (wx_Pc D cy ad B0 f P g [.ref (ad 57)]) (QcRead (r_X12_status g)) 0 0 (fun _ => False) := by
  refine wx_enterR (cc := cX12_status) (maxL := 1) (ty := .int) (own := RX12) (lv := [(0, .ref (ad 57))]) (by decide) rfl rfl (Nat.le_of_ble_eq_true rfl) rfl ?_
  intro p e R s m args below meth c ls Qm hx hb hml hown hts hK hX hR hret hl
  have hi_X12 : ∀ w ∈ wsX120, w ∈ wsX12_status := by decide +kernel
  refine lv_aload_n hx hb dX12_status_0 rfl (lv_at hl 0 rfl) ?_
  refine wx_geti (C := RX12) (T := TX12) (N := 27) (ci := 11) (j := 3) hx hb hts hi_X12 hown hK hX (by decide) sh_X12_3 rfl (by decide) (hts (.fieldLink RX12 47 "SeenAgainModel" "status" "I") (by decide +kernel)) (fun _ h9 => h9) dX12_status_1 ?_
  exact hret _ _ _ dX12_status_4 rfl (by simp only [r_X12_status])
def b_X12_count_54 (g : wx_M) (a1 : Int32) (t_54 : Nat) (s_54 : Int32) : Int32 :=
  if (r_X12_isNull g (nI t_54)) = 0 then
    let x_6 := (s_54 + 1)
    x_6
  else
    let x_8 := (s_54 + 0)
    x_8
def r_X12_count (g : wx_M) (a1 : Int32) : Int32 :=
  if a1 = 0 then
    let s_54 := rep 8 (b_X12_count_54 g a1) (0 : Int32)
    s_54
  else
    if a1 = 1 then
      (g 65 (0 : Int32).toNatClampNeg)
    else
      if a1 = 2 then
        (g 65 (148 : Int32).toNatClampNeg)
      else
        if a1 = 3 then
          (g 65 (3 : Int32).toNatClampNeg)
        else
          if a1 = 4 then
            (g 65 (4 : Int32).toNatClampNeg)
          else
            if a1 = 5 then
              (r_X12_soldOfAll g)
            else
              if a1 = 6 then
                (r_X12_drawnOfAll g)
              else
                if a1 = 7 then
                  (g 57 23)
                else
                  if a1 = 8 then
                    (g 57 4)
                  else
                    (-1000001)
set_option maxHeartbeats 4000000 in
set_option maxRecDepth 100000 in
theorem k_X12_count (l : Launch) {D : va_G} {cy : Nat → ClassId} {ad : Nat → Nat} {B0 : Nat} {f : wx_F} {P : va_W} (g : wx_M) (a1 : Int32) : Met l yX12_count wsX12_count ({ frames := 2, cells := 0, slots := 0, locals := 44 } : Room) (wx_Pc D cy ad B0 f P g [.ref (ad 57), .int a1]) (QcRead (r_X12_count g a1)) 0 0 (fun _ => False) := by
  refine wx_enterR (cc := cX12_count) (maxL := 4) (ty := .int) (own := RX12) (lv := [(0, .ref (ad 57)), (1, .int a1)]) (by decide) rfl rfl (Nat.le_of_ble_eq_true rfl) rfl ?_
  intro p e R s m args below meth c ls Qm hx hb hml hown hts hK hX hR hret hl
  have hi_X12 : ∀ w ∈ wsX120, w ∈ wsX12_count := by decide +kernel
  refine lv_iconst (v := 0) hx hb dX12_count_0 (by decide) ?_
  refine lv_istore_n (lv' := [(2, .int 0), (0, .ref (ad 57)), (1, .int a1)]) hx hb dX12_count_1 rfl hl (by decide) rfl (fun ls hl => ?_)
  refine lv_iload_n hx hb dX12_count_2 rfl (lv_at hl 2 rfl) ?_
  by_cases c_1 : a1 = 0
  · have b_2 : wx_b a1 0 0 := by rw [c_1]; exact ⟨by decide, by decide⟩
    refine lv_tableIn (tgt := 52) hx hb dX12_count_3 (by rw [c_1]; decide) (by rw [c_1]; decide) (by rw [c_1]; rfl) (by decide) ?_
    refine lv_iconst (v := 0) hx hb dX12_count_52 (by decide) ?_
    refine lv_istore_n (lv' := [(3, .int 0), (2, .int 0), (0, .ref (ad 57)), (1, .int a1)]) hx hb dX12_count_53 rfl hl (by decide) rfl (fun ls hl => ?_)
    have lp_54 : ∀ (n t_54 : Nat) (s_54 : Int32) (ls : Array Slot), t_54 ≤ 8 → 8 + 1 ≤ t_54 + n → s_54 = rep t_54 (b_X12_count_54 g a1) (0 : Int32) → lv_has ls 4 [(3, .int (nI t_54)), (2, .int s_54), (0, .ref (ad 57))] → W p l e R s m args below meth c s.heap [] 0 0 Qm (F0 m 54 ls []) := by
      intro n
      induction n with
      | zero => intro t_54 s_54 ls h1 h2; exact absurd h2 (by omega)
      | succ n ih_54 =>
        intro t_54 s_54 ls ht_54 hn_54 es_54 hl
        refine lv_iload_n hx hb dX12_count_54 rfl (lv_at hl 0 rfl) ?_
        refine lv_bipush (v := 8) hx hb dX12_count_55 (by decide) ?_
        refine lv_icmp_ge (tgt := 82) hx hb dX12_count_57 (by decide) (fun c_3 => ?_) (fun c_3 => ?_)
        · have et_54 : t_54 = 8 := Nat.le_antisymm ht_54 (by have h9 := wx_dn (by omega) c_3; have h8 : (8 : Int32).toNatClampNeg = 8 := (by decide); omega)
          subst et_54
          refine lv_iload_n hx hb dX12_count_82 rfl (lv_at hl 1 rfl) ?_
          exact hret _ _ _ dX12_count_83 rfl (by simp only [r_X12_count, if_pos c_1, ← es_54])
        · have hlt_54 : t_54 < 8 := by have h9 := wx_up (by omega) c_3; have h8 : (8 : Int32).toNatClampNeg = 8 := (by decide); omega
          have bt_54 : wx_b (nI (t_54)) 0 7 := wb_nI (n := 7) (by omega) (by decide)
          refine lv_iload_n hx hb dX12_count_60 rfl (lv_at hl 1 rfl) ?_
          refine lv_aload_n hx hb dX12_count_61 rfl (lv_at hl 2 rfl) ?_
          refine lv_iload_n hx hb dX12_count_62 rfl (lv_at hl 0 rfl) ?_
          refine wx_callr (va_runV (As := [.int (nI t_54)]) (rest := [.int s_54]) ⟨hx, hb, hml, hown, hts⟩ (k_X12_isNull l g (nI t_54) bt_54) (cwV 1 hts gX12_count_X12_isNull rfl rfl rfl (by decide +kernel) (by rw [hR]; exact ⟨Nat.le_of_ble_eq_true rfl, Nat.le_of_ble_eq_true rfl⟩)) ⟨wx_Pc.blind, wx_recv hK hX (by decide) sh_X12 rfl, (wx_Pc.pre hK hX).2⟩ rfl rfl hl.1 rfl (lv_room (Nat.le_of_ble_eq_true rfl)) dX12_count_63 ⟨Nat.zero_le _, Nat.zero_le _⟩) ?_
          refine lv_if_eq (tgt := 73) hx hb dX12_count_66 (by decide) (fun c_4 => ?_) (fun c_4 => ?_)
          · have b_5 : wx_b (r_X12_isNull g (nI t_54)) 0 0 := by rw [c_4]; exact ⟨by decide, by decide⟩
            refine lv_iconst (v := 1) hx hb dX12_count_73 (by decide) ?_
            refine lv_iadd hx hb dX12_count_74 ?_
            refine lv_topi (fun x_6 ex_6 => ?_)
            refine lv_istore_n (lv' := [(2, .int x_6), (3, .int (nI t_54)), (0, .ref (ad 57))]) hx hb dX12_count_75 rfl hl (by decide) rfl (fun ls hl => ?_)
            refine lv_iinc (v := nI (t_54 + 1)) (lv' := [(3, .int (nI (t_54 + 1))), (2, .int x_6), (0, .ref (ad 57))]) hx hb dX12_count_76 hl (k := 1) rfl (wx_inc _) (by decide) rfl (fun ls hl => ?_)
            refine lv_goto (tgt := 54) hx hb dX12_count_79 (by decide) ?_
            have hF_7 : (b_X12_count_54 g a1) t_54 s_54 = x_6 := (by subst ex_6; simp only [b_X12_count_54, if_pos c_4])
            exact ih_54 (t_54 + 1) x_6 ls hlt_54 (by omega) (by rw [rep_succ, ← es_54, hF_7]) (lv_sub hl [0, 1, 2] rfl)
          · refine lv_iconst (v := 0) hx hb dX12_count_69 (by decide) ?_
            refine lv_goto (tgt := 74) hx hb dX12_count_70 (by decide) ?_
            refine lv_iadd hx hb dX12_count_74 ?_
            refine lv_topi (fun x_8 ex_8 => ?_)
            refine lv_istore_n (lv' := [(2, .int x_8), (3, .int (nI t_54)), (0, .ref (ad 57))]) hx hb dX12_count_75 rfl hl (by decide) rfl (fun ls hl => ?_)
            refine lv_iinc (v := nI (t_54 + 1)) (lv' := [(3, .int (nI (t_54 + 1))), (2, .int x_8), (0, .ref (ad 57))]) hx hb dX12_count_76 hl (k := 1) rfl (wx_inc _) (by decide) rfl (fun ls hl => ?_)
            refine lv_goto (tgt := 54) hx hb dX12_count_79 (by decide) ?_
            have hF_9 : (b_X12_count_54 g a1) t_54 s_54 = x_8 := (by subst ex_8; simp only [b_X12_count_54, if_neg c_4])
            exact ih_54 (t_54 + 1) x_8 ls hlt_54 (by omega) (by rw [rep_succ, ← es_54, hF_9]) (lv_sub hl [0, 1, 2] rfl)
    exact lp_54 (8 + 1) 0 (0 : Int32) ls (Nat.zero_le _) (by omega) rfl (lv_sub hl [0, 1, 2] rfl)
  · by_cases c_10 : a1 = 1
    · have b_11 : wx_b a1 1 1 := by rw [c_10]; exact ⟨by decide, by decide⟩
      refine lv_tableIn (tgt := 84) hx hb dX12_count_3 (by rw [c_10]; decide) (by rw [c_10]; decide) (by rw [c_10]; rfl) (by decide) ?_
      refine lv_aload_n hx hb dX12_count_84 rfl (lv_at hl 1 rfl) ?_
      refine wx_getr (t := 65) (C := RX12) (T := TX12) (N := 27) (ci := 11) (j := 20) hx hb hts hi_X12 hown hK hX (by decide) sh_X12_20 rfl (by decide) (hts (.fieldLink RX12 31 "SeenAgainModel" "now" "[I") (by decide +kernel)) (fun _ h9 => h9) dX12_count_85 ?_
      refine lv_iconst (v := 0) hx hb dX12_count_88 (by decide) ?_
      refine wx_iald hx hb hK hX (by decide) sa_65 (wb_in (show wx_b 0 0 0 from ⟨by decide, by decide⟩) (by decide) (by decide)) dX12_count_89 ?_
      exact hret _ _ _ dX12_count_90 rfl (by simp only [r_X12_count, if_neg c_1, if_pos c_10])
    · by_cases c_12 : a1 = 2
      · have b_13 : wx_b a1 2 2 := by rw [c_12]; exact ⟨by decide, by decide⟩
        refine lv_tableIn (tgt := 91) hx hb dX12_count_3 (by rw [c_12]; decide) (by rw [c_12]; decide) (by rw [c_12]; rfl) (by decide) ?_
        refine lv_aload_n hx hb dX12_count_91 rfl (lv_at hl 1 rfl) ?_
        refine wx_getr (t := 65) (C := RX12) (T := TX12) (N := 27) (ci := 11) (j := 20) hx hb hts hi_X12 hown hK hX (by decide) sh_X12_20 rfl (by decide) (hts (.fieldLink RX12 31 "SeenAgainModel" "now" "[I") (by decide +kernel)) (fun _ h9 => h9) dX12_count_92 ?_
        refine lv_sipush (v := 148) hx hb dX12_count_95 (by decide) ?_
        refine wx_iald hx hb hK hX (by decide) sa_65 (wb_in (show wx_b 148 148 148 from ⟨by decide, by decide⟩) (by decide) (by decide)) dX12_count_98 ?_
        exact hret _ _ _ dX12_count_99 rfl (by simp only [r_X12_count, if_neg c_1, if_neg c_10, if_pos c_12])
      · by_cases c_14 : a1 = 3
        · have b_15 : wx_b a1 3 3 := by rw [c_14]; exact ⟨by decide, by decide⟩
          refine lv_tableIn (tgt := 100) hx hb dX12_count_3 (by rw [c_14]; decide) (by rw [c_14]; decide) (by rw [c_14]; rfl) (by decide) ?_
          refine lv_aload_n hx hb dX12_count_100 rfl (lv_at hl 1 rfl) ?_
          refine wx_getr (t := 65) (C := RX12) (T := TX12) (N := 27) (ci := 11) (j := 20) hx hb hts hi_X12 hown hK hX (by decide) sh_X12_20 rfl (by decide) (hts (.fieldLink RX12 31 "SeenAgainModel" "now" "[I") (by decide +kernel)) (fun _ h9 => h9) dX12_count_101 ?_
          refine lv_iconst (v := 3) hx hb dX12_count_104 (by decide) ?_
          refine wx_iald hx hb hK hX (by decide) sa_65 (wb_in (show wx_b 3 3 3 from ⟨by decide, by decide⟩) (by decide) (by decide)) dX12_count_105 ?_
          exact hret _ _ _ dX12_count_106 rfl (by simp only [r_X12_count, if_neg c_1, if_neg c_10, if_neg c_12, if_pos c_14])
        · by_cases c_16 : a1 = 4
          · have b_17 : wx_b a1 4 4 := by rw [c_16]; exact ⟨by decide, by decide⟩
            refine lv_tableIn (tgt := 107) hx hb dX12_count_3 (by rw [c_16]; decide) (by rw [c_16]; decide) (by rw [c_16]; rfl) (by decide) ?_
            refine lv_aload_n hx hb dX12_count_107 rfl (lv_at hl 1 rfl) ?_
            refine wx_getr (t := 65) (C := RX12) (T := TX12) (N := 27) (ci := 11) (j := 20) hx hb hts hi_X12 hown hK hX (by decide) sh_X12_20 rfl (by decide) (hts (.fieldLink RX12 31 "SeenAgainModel" "now" "[I") (by decide +kernel)) (fun _ h9 => h9) dX12_count_108 ?_
            refine lv_iconst (v := 4) hx hb dX12_count_111 (by decide) ?_
            refine wx_iald hx hb hK hX (by decide) sa_65 (wb_in (show wx_b 4 4 4 from ⟨by decide, by decide⟩) (by decide) (by decide)) dX12_count_112 ?_
            exact hret _ _ _ dX12_count_113 rfl (by simp only [r_X12_count, if_neg c_1, if_neg c_10, if_neg c_12, if_neg c_14, if_pos c_16])
          · by_cases c_18 : a1 = 5
            · have b_19 : wx_b a1 5 5 := by rw [c_18]; exact ⟨by decide, by decide⟩
              refine lv_tableIn (tgt := 114) hx hb dX12_count_3 (by rw [c_18]; decide) (by rw [c_18]; decide) (by rw [c_18]; rfl) (by decide) ?_
              refine lv_aload_n hx hb dX12_count_114 rfl (lv_at hl 1 rfl) ?_
              refine wx_callr (va_runV (As := []) (rest := []) ⟨hx, hb, hml, hown, hts⟩ (k_X12_soldOfAll l g) (cwV 0 hts gX12_count_X12_soldOfAll rfl rfl rfl (by decide +kernel) (by rw [hR]; exact ⟨Nat.le_of_ble_eq_true rfl, Nat.le_of_ble_eq_true rfl⟩)) ⟨wx_Pc.blind, wx_recv hK hX (by decide) sh_X12 rfl, (wx_Pc.pre hK hX).2⟩ rfl rfl hl.1 rfl (lv_room (Nat.le_of_ble_eq_true rfl)) dX12_count_115 ⟨Nat.zero_le _, Nat.zero_le _⟩) ?_
              exact hret _ _ _ dX12_count_118 rfl (by simp only [r_X12_count, if_neg c_1, if_neg c_10, if_neg c_12, if_neg c_14, if_neg c_16, if_pos c_18])
            · by_cases c_20 : a1 = 6
              · have b_21 : wx_b a1 6 6 := by rw [c_20]; exact ⟨by decide, by decide⟩
                refine lv_tableIn (tgt := 119) hx hb dX12_count_3 (by rw [c_20]; decide) (by rw [c_20]; decide) (by rw [c_20]; rfl) (by decide) ?_
                refine lv_aload_n hx hb dX12_count_119 rfl (lv_at hl 1 rfl) ?_
                refine wx_callr (va_runV (As := []) (rest := []) ⟨hx, hb, hml, hown, hts⟩ (k_X12_drawnOfAll l g) (cwV 0 hts gX12_count_X12_drawnOfAll rfl rfl rfl (by decide +kernel) (by rw [hR]; exact ⟨Nat.le_of_ble_eq_true rfl, Nat.le_of_ble_eq_true rfl⟩)) ⟨wx_Pc.blind, wx_recv hK hX (by decide) sh_X12 rfl, (wx_Pc.pre hK hX).2⟩ rfl rfl hl.1 rfl (lv_room (Nat.le_of_ble_eq_true rfl)) dX12_count_120 ⟨Nat.zero_le _, Nat.zero_le _⟩) ?_
                exact hret _ _ _ dX12_count_123 rfl (by simp only [r_X12_count, if_neg c_1, if_neg c_10, if_neg c_12, if_neg c_14, if_neg c_16, if_neg c_18, if_pos c_20])
              · by_cases c_22 : a1 = 7
                · have b_23 : wx_b a1 7 7 := by rw [c_22]; exact ⟨by decide, by decide⟩
                  refine lv_tableIn (tgt := 124) hx hb dX12_count_3 (by rw [c_22]; decide) (by rw [c_22]; decide) (by rw [c_22]; rfl) (by decide) ?_
                  refine lv_aload_n hx hb dX12_count_124 rfl (lv_at hl 1 rfl) ?_
                  refine wx_geti (C := RX12) (T := TX12) (N := 27) (ci := 11) (j := 23) hx hb hts hi_X12 hown hK hX (by decide) sh_X12_23 rfl (by decide) (hts (.fieldLink RX12 138 "SeenAgainModel" "acts" "I") (by decide +kernel)) (fun _ h9 => h9) dX12_count_125 ?_
                  exact hret _ _ _ dX12_count_128 rfl (by simp only [r_X12_count, if_neg c_1, if_neg c_10, if_neg c_12, if_neg c_14, if_neg c_16, if_neg c_18, if_neg c_20, if_pos c_22])
                · by_cases c_24 : a1 = 8
                  · have b_25 : wx_b a1 8 8 := by rw [c_24]; exact ⟨by decide, by decide⟩
                    refine lv_tableIn (tgt := 129) hx hb dX12_count_3 (by rw [c_24]; decide) (by rw [c_24]; decide) (by rw [c_24]; rfl) (by decide) ?_
                    refine lv_aload_n hx hb dX12_count_129 rfl (lv_at hl 1 rfl) ?_
                    refine wx_geti (C := RX12) (T := TX12) (N := 27) (ci := 11) (j := 4) hx hb hts hi_X12 hown hK hX (by decide) sh_X12_4 rfl (by decide) (hts (.fieldLink RX12 71 "SeenAgainModel" "bytes" "I") (by decide +kernel)) (fun _ h9 => h9) dX12_count_130 ?_
                    exact hret _ _ _ dX12_count_133 rfl (by simp only [r_X12_count, if_neg c_1, if_neg c_10, if_neg c_12, if_neg c_14, if_neg c_16, if_neg c_18, if_neg c_20, if_neg c_22, if_pos c_24])
                  · refine lv_tableOut (tgt := 134) hx hb dX12_count_3 (by have q0 := lv_neT (a := 0) c_1 (by decide); have q1 := lv_neT (a := 1) c_10 (by decide); have q2 := lv_neT (a := 2) c_12 (by decide); have q3 := lv_neT (a := 3) c_14 (by decide); have q4 := lv_neT (a := 4) c_16 (by decide); have q5 := lv_neT (a := 5) c_18 (by decide); have q6 := lv_neT (a := 6) c_20 (by decide); have q7 := lv_neT (a := 7) c_22 (by decide); have q8 := lv_neT (a := 8) c_24 (by decide); omega) (by decide) ?_
                    refine lv_ldc hx hb hown (hts (.constant RX12 60 (-1000001)) (by decide +kernel)) dX12_count_134 ?_
                    exact hret _ _ _ dX12_count_136 rfl (by simp only [r_X12_count, if_neg c_1, if_neg c_10, if_neg c_12, if_neg c_14, if_neg c_16, if_neg c_18, if_neg c_20, if_neg c_22, if_neg c_24])
def b_X12_haunted_16 (g : wx_M) (t_16 : Nat) (s_16 : Int32) : Int32 :=
  if (r_X12_bits g (g 65 (100 + (nI t_16)).toNatClampNeg)) ≤ (r_X12_bits g (g 65 (100 + s_16).toNatClampNeg)) then
    s_16
  else
    (nI t_16)
def r_X12_haunted (g : wx_M) : Int32 :=
  if (g 65 (0 : Int32).toNatClampNeg) = 0 then
    (-1000002)
  else
    let s_16 := rep 48 (b_X12_haunted_16 g) (0 : Int32)
    s_16
set_option maxHeartbeats 4000000 in
set_option maxRecDepth 100000 in
theorem k_X12_haunted (l : Launch) {D : va_G} {cy : Nat → ClassId} {ad : Nat → Nat} {B0 : Nat} {f : wx_F} {P : va_W} (g : wx_M) : Met l yX12_haunted wsX12_haunted ({ frames := 1, cells := 0, slots := 0, locals := 22 } : Room) (wx_Pc D cy ad B0 f P g [.ref (ad 57)]) (QcRead (r_X12_haunted g)) 0 0 (fun _ => False) := by
  refine wx_enterR (cc := cX12_haunted) (maxL := 3) (ty := .int) (own := RX12) (lv := [(0, .ref (ad 57))]) (by decide) rfl rfl (Nat.le_of_ble_eq_true rfl) rfl ?_
  intro p e R s m args below meth c ls Qm hx hb hml hown hts hK hX hR hret hl
  have hi_X12 : ∀ w ∈ wsX120, w ∈ wsX12_haunted := by decide +kernel
  refine lv_aload_n hx hb dX12_haunted_0 rfl (lv_at hl 0 rfl) ?_
  refine wx_getr (t := 65) (C := RX12) (T := TX12) (N := 27) (ci := 11) (j := 20) hx hb hts hi_X12 hown hK hX (by decide) sh_X12_20 rfl (by decide) (hts (.fieldLink RX12 31 "SeenAgainModel" "now" "[I") (by decide +kernel)) (fun _ h9 => h9) dX12_haunted_1 ?_
  refine lv_iconst (v := 0) hx hb dX12_haunted_4 (by decide) ?_
  refine wx_iald hx hb hK hX (by decide) sa_65 (wb_in (show wx_b 0 0 0 from ⟨by decide, by decide⟩) (by decide) (by decide)) dX12_haunted_5 ?_
  refine lv_if_ne (tgt := 12) hx hb dX12_haunted_6 (by decide) (fun c_1 => ?_) (fun c_1 => ?_)
  · refine lv_iconst (v := 0) hx hb dX12_haunted_12 (by decide) ?_
    refine lv_istore_n (lv' := [(1, .int 0), (0, .ref (ad 57))]) hx hb dX12_haunted_13 rfl hl (by decide) rfl (fun ls hl => ?_)
    refine lv_iconst (v := 0) hx hb dX12_haunted_14 (by decide) ?_
    refine lv_istore_n (lv' := [(2, .int 0), (1, .int 0), (0, .ref (ad 57))]) hx hb dX12_haunted_15 rfl hl (by decide) rfl (fun ls hl => ?_)
    have lp_16 : ∀ (n t_16 : Nat) (s_16 : Int32) (ls : Array Slot), t_16 ≤ 48 → 48 + 1 ≤ t_16 + n → s_16 = rep t_16 (b_X12_haunted_16 g) (0 : Int32) → wx_b s_16 0 47 → lv_has ls 3 [(2, .int (nI t_16)), (1, .int s_16), (0, .ref (ad 57))] → W p l e R s m args below meth c s.heap [] 0 0 Qm (F0 m 16 ls []) := by
      intro n
      induction n with
      | zero => intro t_16 s_16 ls h1 h2; exact absurd h2 (by omega)
      | succ n ih_16 =>
        intro t_16 s_16 ls ht_16 hn_16 es_16 hI1_16 hl
        refine lv_iload_n hx hb dX12_haunted_16 rfl (lv_at hl 0 rfl) ?_
        refine lv_bipush (v := 48) hx hb dX12_haunted_17 (by decide) ?_
        refine lv_icmp_ge (tgt := 61) hx hb dX12_haunted_19 (by decide) (fun c_2 => ?_) (fun c_2 => ?_)
        · have et_16 : t_16 = 48 := Nat.le_antisymm ht_16 (by have h9 := wx_dn (by omega) c_2; have h8 : (48 : Int32).toNatClampNeg = 48 := (by decide); omega)
          subst et_16
          refine lv_iload_n hx hb dX12_haunted_61 rfl (lv_at hl 1 rfl) ?_
          exact hret _ _ _ dX12_haunted_62 rfl (by simp only [r_X12_haunted, if_neg c_1, ← es_16])
        · have hlt_16 : t_16 < 48 := by have h9 := wx_up (by omega) c_2; have h8 : (48 : Int32).toNatClampNeg = 48 := (by decide); omega
          have bt_16 : wx_b (nI (t_16)) 0 47 := wb_nI (n := 47) (by omega) (by decide)
          refine lv_aload_n hx hb dX12_haunted_22 rfl (lv_at hl 2 rfl) ?_
          refine wx_getr (t := 65) (C := RX12) (T := TX12) (N := 27) (ci := 11) (j := 20) hx hb hts hi_X12 hown hK hX (by decide) sh_X12_20 rfl (by decide) (hts (.fieldLink RX12 31 "SeenAgainModel" "now" "[I") (by decide +kernel)) (fun _ h9 => h9) dX12_haunted_23 ?_
          refine lv_bipush (v := 100) hx hb dX12_haunted_26 (by decide) ?_
          refine lv_iload_n hx hb dX12_haunted_28 rfl (lv_at hl 0 rfl) ?_
          refine lv_iadd hx hb dX12_haunted_29 ?_
          refine wx_iald hx hb hK hX (by decide) sa_65 (wb_in (wb_add (show wx_b 100 100 100 from ⟨by decide, by decide⟩) bt_16 (by decide) (by decide)) (by decide) (by decide)) dX12_haunted_30 ?_
          refine wx_callr (va_runS (As := [.int (g 65 (100 + (nI t_16)).toNatClampNeg)]) (rest := []) ⟨hx, hb, hml, hown, hts⟩ (k_X12_bits l g (g 65 (100 + (nI t_16)).toNatClampNeg)) (va_cwS 1 hts gX12_haunted_X12_bits rfl rfl rfl (by decide +kernel) (by rw [hR]; exact ⟨Nat.le_of_ble_eq_true rfl, Nat.le_of_ble_eq_true rfl⟩)) (wx_Pc.pre hK hX) rfl rfl hl.1 rfl (lv_room (Nat.le_of_ble_eq_true rfl)) dX12_haunted_31 ⟨Nat.zero_le _, Nat.zero_le _⟩) ?_
          refine lv_aload_n hx hb dX12_haunted_34 rfl (lv_at hl 2 rfl) ?_
          refine wx_getr (t := 65) (C := RX12) (T := TX12) (N := 27) (ci := 11) (j := 20) hx hb hts hi_X12 hown hK hX (by decide) sh_X12_20 rfl (by decide) (hts (.fieldLink RX12 31 "SeenAgainModel" "now" "[I") (by decide +kernel)) (fun _ h9 => h9) dX12_haunted_35 ?_
          refine lv_bipush (v := 100) hx hb dX12_haunted_38 (by decide) ?_
          refine lv_iload_n hx hb dX12_haunted_40 rfl (lv_at hl 1 rfl) ?_
          refine lv_iadd hx hb dX12_haunted_41 ?_
          refine wx_iald hx hb hK hX (by decide) sa_65 (wb_in (wb_add (show wx_b 100 100 100 from ⟨by decide, by decide⟩) hI1_16 (by decide) (by decide)) (by decide) (by decide)) dX12_haunted_42 ?_
          refine wx_callr (va_runS (As := [.int (g 65 (100 + s_16).toNatClampNeg)]) (rest := [.int (r_X12_bits g (g 65 (100 + (nI t_16)).toNatClampNeg))]) ⟨hx, hb, hml, hown, hts⟩ (k_X12_bits l g (g 65 (100 + s_16).toNatClampNeg)) (va_cwS 1 hts gX12_haunted_X12_bits rfl rfl rfl (by decide +kernel) (by rw [hR]; exact ⟨Nat.le_of_ble_eq_true rfl, Nat.le_of_ble_eq_true rfl⟩)) (wx_Pc.pre hK hX) rfl rfl hl.1 rfl (lv_room (Nat.le_of_ble_eq_true rfl)) dX12_haunted_43 ⟨Nat.zero_le _, Nat.zero_le _⟩) ?_
          refine lv_icmp_le (tgt := 53) hx hb dX12_haunted_46 (by decide) (fun c_3 => ?_) (fun c_3 => ?_)
          · refine lv_iload_n hx hb dX12_haunted_53 rfl (lv_at hl 1 rfl) ?_
            refine lv_istore_n (lv' := [(1, .int s_16), (2, .int (nI t_16)), (0, .ref (ad 57))]) hx hb dX12_haunted_54 rfl hl (by decide) rfl (fun ls hl => ?_)
            refine lv_iinc (v := nI (t_16 + 1)) (lv' := [(2, .int (nI (t_16 + 1))), (1, .int s_16), (0, .ref (ad 57))]) hx hb dX12_haunted_55 hl (k := 1) rfl (wx_inc _) (by decide) rfl (fun ls hl => ?_)
            refine lv_goto (tgt := 16) hx hb dX12_haunted_58 (by decide) ?_
            have hF_4 : (b_X12_haunted_16 g) t_16 s_16 = s_16 := (by simp only [b_X12_haunted_16, if_pos c_3])
            exact ih_16 (t_16 + 1) s_16 ls hlt_16 (by omega) (by rw [rep_succ, ← es_16, hF_4]) (wb_w hI1_16 (by decide) (by decide)) (lv_sub hl [0, 1, 2] rfl)
          · have b_5 : wx_b (r_X12_bits g (g 65 (100 + s_16).toNatClampNeg)) (-2147483648) 2147483646 := wb_lt (wb_nle c_3) (wb_any _) (wb_any _) (by decide) (by decide)
            have b_6 : wx_b (r_X12_bits g (g 65 (100 + (nI t_16)).toNatClampNeg)) (-2147483647) 2147483647 := wb_gt (wb_nle c_3) (wb_any _) (wb_any _) (by decide) (by decide)
            refine lv_iload_n hx hb dX12_haunted_49 rfl (lv_at hl 0 rfl) ?_
            refine lv_goto (tgt := 54) hx hb dX12_haunted_50 (by decide) ?_
            refine lv_istore_n (lv' := [(1, .int (nI t_16)), (2, .int (nI t_16)), (0, .ref (ad 57))]) hx hb dX12_haunted_54 rfl hl (by decide) rfl (fun ls hl => ?_)
            refine lv_iinc (v := nI (t_16 + 1)) (lv' := [(2, .int (nI (t_16 + 1))), (1, .int (nI t_16)), (0, .ref (ad 57))]) hx hb dX12_haunted_55 hl (k := 1) rfl (wx_inc _) (by decide) rfl (fun ls hl => ?_)
            refine lv_goto (tgt := 16) hx hb dX12_haunted_58 (by decide) ?_
            have hF_7 : (b_X12_haunted_16 g) t_16 s_16 = (nI t_16) := (by simp only [b_X12_haunted_16, if_neg c_3])
            exact ih_16 (t_16 + 1) (nI t_16) ls hlt_16 (by omega) (by rw [rep_succ, ← es_16, hF_7]) (wb_w bt_16 (by decide) (by decide)) (lv_sub hl [0, 1, 2] rfl)
    exact lp_16 (48 + 1) 0 (0 : Int32) ls (Nat.zero_le _) (by omega) rfl (wb_w (show wx_b 0 0 0 from ⟨by decide, by decide⟩) (by decide) (by decide)) (lv_sub hl [0, 1, 2] rfl)
  · have b_8 : wx_b (g 65 (0 : Int32).toNatClampNeg) 0 0 := by rw [c_1]; exact ⟨by decide, by decide⟩
    refine lv_ldc hx hb hown (hts (.constant RX12 166 (-1000002)) (by decide +kernel)) dX12_haunted_9 ?_
    exact hret _ _ _ dX12_haunted_11 rfl (by simp only [r_X12_haunted, if_pos c_1])
def b_X12_account_71 (g : wx_M) (a1 : Int32) (a2 : Int32) (a3 : Int32) (a4 : Int32) (t_71 : Nat) (s_71 : Int32) : (Int32) ⊕ (wx_M × Int32) :=
  let x_19 := (g 60 (((40 * a3) + a4) + (nI t_71)).toNatClampNeg)
  if (r_X12_in x_19 (-1) ((g 65 (0 : Int32).toNatClampNeg) - 1)) = 0 then
    .inr ((g, (-1000001)))
  else
    if x_19 < 0 then
      let x_24 := (s_71 ||| 0)
      .inl x_24
    else
      if (r_X12_canBeAt g a1 a2 x_19 (nI t_71)) = 0 then
        let x_31 := (s_71 ||| (1 <<< ((nI t_71) &&& 31)))
        .inl x_31
      else
        let x_28 := (s_71 ||| 0)
        .inl x_28
def f_X12_account (g : wx_M) (a1 : Int32) (a2 : Int32) (a3 : Int32) (a4 : Int32) : wx_M × Int32 :=
  if (r_X12_isSet g a1) = 0 then
    (g, (-1000001))
  else
    if (r_X12_isMan g a2) = 0 then
      (g, (-1000001))
    else
      if (r_X12_isRow a3) = 0 then
        (g, (-1000001))
      else
        if (r_X12_isNull g a3) = 0 then
          if a4 < 0 then
            let z_12 := f_X12_finds g 2
            (z_12.1, z_12.2)
          else
            if a4 ≤ ((g 59 a3.toNatClampNeg) - 8) then
              (match repX 8 (b_X12_account_71 g a1 a2 a3 a4) (0 : Int32) with
              | .inl s_71 =>
                let z_18 := f_X12_did g s_71
                (z_18.1, z_18.2)
              | .inr r9 => r9)
            else
              let z_36 := f_X12_finds g 2
              (z_36.1, z_36.2)
        else
          let z_37 := f_X12_finds g 1
          (z_37.1, z_37.2)
set_option maxHeartbeats 4000000 in
set_option maxRecDepth 100000 in
theorem k_X12_account (l : Launch) {D : va_G} {cy : Nat → ClassId} {ad : Nat → Nat} {B0 : Nat} {f : wx_F} {P : va_W} (g : wx_M) (a1 : Int32) (a2 : Int32) (a3 : Int32) (a4 : Int32) (hm : wx_MB g) (hit : wx_IT g) : Met l yX12_account wsX12_account ({ frames := 4, cells := 0, slots := 0, locals := 94 } : Room) (wx_Pc D cy ad B0 f P g [.ref (ad 57), .int a1, .int a2, .int a3, .int a4]) (wx_Qe D cy ad B0 f P (f_X12_account g a1 a2 a3 a4).1 (some (.int (f_X12_account g a1 a2 a3 a4).2))) 0 0 (fun q => B0 ≤ q) := by
  refine wx_enterE (cc := cX12_account) (maxL := 8) (ty := .int) (own := RX12) (lv := [(0, .ref (ad 57)), (1, .int a1), (2, .int a2), (3, .int a3), (4, .int a4)]) (by decide) rfl rfl (Nat.le_of_ble_eq_true rfl) rfl ?_
  intro p e R s m args below meth c ls Qm hx hb hml hown hts hK hX hS hR hret hl
  have hi_X12 : ∀ w ∈ wsX120, w ∈ wsX12_account := by decide +kernel
  refine lv_aload_n hx hb dX12_account_0 rfl (lv_at hl 0 rfl) ?_
  refine lv_iload_n hx hb dX12_account_1 rfl (lv_at hl 1 rfl) ?_
  refine wx_callr (va_runV (As := [.int a1]) (rest := []) ⟨hx, hb, hml, hown, hts⟩ (k_X12_isSet l g a1) (cwV 1 hts gX12_account_X12_isSet rfl rfl rfl (by decide +kernel) (by rw [hR]; exact ⟨Nat.le_of_ble_eq_true rfl, Nat.le_of_ble_eq_true rfl⟩)) ⟨wx_Pc.blind, wx_recv hK hX (by decide) sh_X12 rfl, (wx_Pc.pre hK hX).2⟩ rfl rfl hl.1 rfl (lv_room (Nat.le_of_ble_eq_true rfl)) dX12_account_2 ⟨Nat.zero_le _, Nat.zero_le _⟩) ?_
  refine lv_if_eq (tgt := 23) hx hb dX12_account_5 (by decide) (fun c_1 => ?_) (fun c_1 => ?_)
  · have b_2 : wx_b (r_X12_isSet g a1) 0 0 := by rw [c_1]; exact ⟨by decide, by decide⟩
    refine lv_ldc hx hb hown (hts (.constant RX12 60 (-1000001)) (by decide +kernel)) dX12_account_23 ?_
    exact hret _ _ _ _ _ _ dX12_account_25 rfl hX hS (by simp only [f_X12_account, if_pos c_1])
  · refine lv_aload_n hx hb dX12_account_8 rfl (lv_at hl 0 rfl) ?_
    refine lv_iload_n hx hb dX12_account_9 rfl (lv_at hl 2 rfl) ?_
    refine wx_callr (va_runV (As := [.int a2]) (rest := []) ⟨hx, hb, hml, hown, hts⟩ (k_X12_isMan l g a2) (cwV 1 hts gX12_account_X12_isMan rfl rfl rfl (by decide +kernel) (by rw [hR]; exact ⟨Nat.le_of_ble_eq_true rfl, Nat.le_of_ble_eq_true rfl⟩)) ⟨wx_Pc.blind, wx_recv hK hX (by decide) sh_X12 rfl, (wx_Pc.pre hK hX).2⟩ rfl rfl hl.1 rfl (lv_room (Nat.le_of_ble_eq_true rfl)) dX12_account_10 ⟨Nat.zero_le _, Nat.zero_le _⟩) ?_
    refine lv_if_eq (tgt := 23) hx hb dX12_account_13 (by decide) (fun c_3 => ?_) (fun c_3 => ?_)
    · have b_4 : wx_b (r_X12_isMan g a2) 0 0 := by rw [c_3]; exact ⟨by decide, by decide⟩
      refine lv_ldc hx hb hown (hts (.constant RX12 60 (-1000001)) (by decide +kernel)) dX12_account_23 ?_
      exact hret _ _ _ _ _ _ dX12_account_25 rfl hX hS (by simp only [f_X12_account, if_neg c_1, if_pos c_3])
    · have b_5 : wx_b a2 0 3 := rf_X12_isMan hm c_3
      refine lv_iload_n hx hb dX12_account_16 rfl (lv_at hl 3 rfl) ?_
      refine wx_callr (va_runS (As := [.int a3]) (rest := []) ⟨hx, hb, hml, hown, hts⟩ (k_X12_isRow l g a3) (va_cwS 1 hts gX12_account_X12_isRow rfl rfl rfl (by decide +kernel) (by rw [hR]; exact ⟨Nat.le_of_ble_eq_true rfl, Nat.le_of_ble_eq_true rfl⟩)) (wx_Pc.pre hK hX) rfl rfl hl.1 rfl (lv_room (Nat.le_of_ble_eq_true rfl)) dX12_account_17 ⟨Nat.zero_le _, Nat.zero_le _⟩) ?_
      refine lv_if_ne (tgt := 26) hx hb dX12_account_20 (by decide) (fun c_6 => ?_) (fun c_6 => ?_)
      · have b_7 : wx_b a3 0 7 := rf_X12_isRow  c_6
        refine lv_aload_n hx hb dX12_account_26 rfl (lv_at hl 0 rfl) ?_
        refine lv_iload_n hx hb dX12_account_27 rfl (lv_at hl 3 rfl) ?_
        refine wx_callr (va_runV (As := [.int a3]) (rest := []) ⟨hx, hb, hml, hown, hts⟩ (k_X12_isNull l g a3 b_7) (cwV 1 hts gX12_account_X12_isNull rfl rfl rfl (by decide +kernel) (by rw [hR]; exact ⟨Nat.le_of_ble_eq_true rfl, Nat.le_of_ble_eq_true rfl⟩)) ⟨wx_Pc.blind, wx_recv hK hX (by decide) sh_X12 rfl, (wx_Pc.pre hK hX).2⟩ rfl rfl hl.1 rfl (lv_room (Nat.le_of_ble_eq_true rfl)) dX12_account_28 ⟨Nat.zero_le _, Nat.zero_le _⟩) ?_
        refine lv_if_eq (tgt := 40) hx hb dX12_account_31 (by decide) (fun c_8 => ?_) (fun c_8 => ?_)
        · have b_9 : wx_b (r_X12_isNull g a3) 0 0 := by rw [c_8]; exact ⟨by decide, by decide⟩
          refine lv_iload hx hb dX12_account_40 (lv_at hl 4 rfl) ?_
          refine lv_if_lt (tgt := 59) hx hb dX12_account_42 (by decide) (fun c_10 => ?_) (fun c_10 => ?_)
          · have b_11 : wx_b a4 (-2147483648) (-1) := wb_lt c_10 (wb_any _) (show wx_b 0 0 0 from ⟨by decide, by decide⟩) (by decide) (by decide)
            refine lv_aload_n hx hb dX12_account_59 rfl (lv_at hl 0 rfl) ?_
            refine lv_iconst (v := 2) hx hb dX12_account_60 (by decide) ?_
            refine wx_callei (va_runV (As := [.int 2]) (rest := []) ⟨hx, hb, hml, hown, hts⟩ (k_X12_finds l g 2) (cwV 1 hts gX12_account_X12_finds rfl rfl rfl (by decide +kernel) (by rw [hR]; exact ⟨Nat.le_of_ble_eq_true rfl, Nat.le_of_ble_eq_true rfl⟩)) ⟨wx_Pc.blind, wx_recv hK hX (by decide) sh_X12 rfl, (wx_Pc.pre hK hX).2⟩ rfl rfl hl.1 rfl (lv_room (Nat.le_of_ble_eq_true rfl)) dX12_account_61 ⟨Nat.zero_le _, Nat.zero_le _⟩) hS (fun H locs hX hS => ?_)
            obtain ⟨z_12, ez_12⟩ : ∃ z, z = f_X12_finds g 2 := ⟨_, rfl⟩
            rw [← ez_12] at hX; rw [← ez_12]
            exact hret _ _ _ _ _ _ dX12_account_64 rfl hX hS (by subst ez_12; simp only [f_X12_account, if_neg c_1, if_neg c_3, if_neg c_6, if_pos c_8, if_pos c_10])
          · have b_13 : wx_b a4 0 2147483647 := wb_ge (wb_nlt c_10) (wb_any _) (show wx_b 0 0 0 from ⟨by decide, by decide⟩) (by decide) (by decide)
            refine lv_iload hx hb dX12_account_45 (lv_at hl 4 rfl) ?_
            refine lv_aload_n hx hb dX12_account_47 rfl (lv_at hl 0 rfl) ?_
            refine wx_getr (t := 59) (C := RX12) (T := TX12) (N := 27) (ci := 11) (j := 1) hx hb hts hi_X12 hown hK hX (by decide) sh_X12_1 rfl (by decide) (hts (.fieldLink RX12 13 "SeenAgainModel" "items" "[I") (by decide +kernel)) (fun _ h9 => h9) dX12_account_48 ?_
            refine lv_iload_n hx hb dX12_account_51 rfl (lv_at hl 3 rfl) ?_
            refine wx_iald hx hb hK hX (by decide) sa_59 (wb_in b_7 (by decide) (by decide)) dX12_account_52 ?_
            refine lv_bipush (v := 8) hx hb dX12_account_53 (by decide) ?_
            refine lv_isub hx hb dX12_account_55 ?_
            refine lv_icmp_le (tgt := 65) hx hb dX12_account_56 (by decide) (fun c_14 => ?_) (fun c_14 => ?_)
            · have b_15 : wx_b a4 0 32 := wb_le c_14 b_13 (wb_sub (hit _ (wb_cl (n := 7) b_7 (by decide))) (show wx_b 8 8 8 from ⟨by decide, by decide⟩) (by decide) (by decide)) (by decide) (by decide)
              have b_16 : wx_b ((g 59 a3.toNatClampNeg) - 8) 0 32 := wb_ge c_14 (wb_sub (hit _ (wb_cl (n := 7) b_7 (by decide))) (show wx_b 8 8 8 from ⟨by decide, by decide⟩) (by decide) (by decide)) b_13 (by decide) (by decide)
              refine lv_iconst (v := 0) hx hb dX12_account_65 (by decide) ?_
              refine lv_istore (lv' := [(5, .int 0), (0, .ref (ad 57)), (1, .int a1), (2, .int a2), (3, .int a3), (4, .int a4)]) hx hb dX12_account_66 hl (by decide) rfl (fun ls hl => ?_)
              refine lv_iconst (v := 0) hx hb dX12_account_68 (by decide) ?_
              refine lv_istore (lv' := [(6, .int 0), (5, .int 0), (0, .ref (ad 57)), (1, .int a1), (2, .int a2), (3, .int a3), (4, .int a4)]) hx hb dX12_account_69 hl (by decide) rfl (fun ls hl => ?_)
              have lp_71 : ∀ (n t_71 : Nat) (s_71 : Int32) (ls : Array Slot), t_71 ≤ 8 → 8 + 1 ≤ t_71 + n → repX t_71 (b_X12_account_71 g a1 a2 a3 a4) (0 : Int32) = .inl s_71 → lv_has ls 8 [(6, .int (nI t_71)), (5, .int s_71), (0, .ref (ad 57)), (1, .int a1), (2, .int a2), (3, .int a3), (4, .int a4)] → W p l e R s m args below meth c s.heap [] 0 0 Qm (F0 m 71 ls []) := by
                intro n
                induction n with
                | zero => intro t_71 s_71 ls h1 h2; exact absurd h2 (by omega)
                | succ n ih_71 =>
                  intro t_71 s_71 ls ht_71 hn_71 es_71 hl
                  refine lv_iload hx hb dX12_account_71 (lv_at hl 0 rfl) ?_
                  refine lv_bipush (v := 8) hx hb dX12_account_73 (by decide) ?_
                  refine lv_icmp_ge (tgt := 152) hx hb dX12_account_75 (by decide) (fun c_17 => ?_) (fun c_17 => ?_)
                  · have et_71 : t_71 = 8 := Nat.le_antisymm ht_71 (by have h9 := wx_dn (by omega) c_17; have h8 : (8 : Int32).toNatClampNeg = 8 := (by decide); omega)
                    subst et_71
                    refine lv_aload_n hx hb dX12_account_152 rfl (lv_at hl 2 rfl) ?_
                    refine lv_iload hx hb dX12_account_153 (lv_at hl 1 rfl) ?_
                    refine wx_callei (va_runV (As := [.int s_71]) (rest := []) ⟨hx, hb, hml, hown, hts⟩ (k_X12_did l g s_71) (cwV 1 hts gX12_account_X12_did rfl rfl rfl (by decide +kernel) (by rw [hR]; exact ⟨Nat.le_of_ble_eq_true rfl, Nat.le_of_ble_eq_true rfl⟩)) ⟨wx_Pc.blind, wx_recv hK hX (by decide) sh_X12 rfl, (wx_Pc.pre hK hX).2⟩ rfl rfl hl.1 rfl (lv_room (Nat.le_of_ble_eq_true rfl)) dX12_account_155 ⟨Nat.zero_le _, Nat.zero_le _⟩) hS (fun H locs hX hS => ?_)
                    obtain ⟨z_18, ez_18⟩ : ∃ z, z = f_X12_did g s_71 := ⟨_, rfl⟩
                    rw [← ez_18] at hX; rw [← ez_18]
                    exact hret _ _ _ _ _ _ dX12_account_158 rfl hX hS (by subst ez_18; simp only [f_X12_account, if_neg c_1, if_neg c_3, if_neg c_6, if_pos c_8, if_neg c_10, if_pos c_14, es_71])
                  · have hlt_71 : t_71 < 8 := by have h9 := wx_up (by omega) c_17; have h8 : (8 : Int32).toNatClampNeg = 8 := (by decide); omega
                    have bt_71 : wx_b (nI (t_71)) 0 7 := wb_nI (n := 7) (by omega) (by decide)
                    refine lv_aload_n hx hb dX12_account_78 rfl (lv_at hl 2 rfl) ?_
                    refine wx_getr (t := 60) (C := RX12) (T := TX12) (N := 27) (ci := 11) (j := 2) hx hb hts hi_X12 hown hK hX (by decide) sh_X12_2 rfl (by decide) (hts (.fieldLink RX12 16 "SeenAgainModel" "cell" "[I") (by decide +kernel)) (fun _ h9 => h9) dX12_account_79 ?_
                    refine lv_bipush (v := 40) hx hb dX12_account_82 (by decide) ?_
                    refine lv_iload_n hx hb dX12_account_84 rfl (lv_at hl 5 rfl) ?_
                    refine lv_imul hx hb dX12_account_85 ?_
                    refine lv_iload hx hb dX12_account_86 (lv_at hl 6 rfl) ?_
                    refine lv_iadd hx hb dX12_account_88 ?_
                    refine lv_iload hx hb dX12_account_89 (lv_at hl 0 rfl) ?_
                    refine lv_iadd hx hb dX12_account_91 ?_
                    refine wx_iald hx hb hK hX (by decide) sa_60 (wb_in (wb_add (wb_add (wb_mul (show wx_b 40 40 40 from ⟨by decide, by decide⟩) b_7 (by decide) (by decide) (by decide)) b_15 (by decide) (by decide)) bt_71 (by decide) (by decide)) (by decide) (by decide)) dX12_account_92 ?_
                    refine lv_topi (fun x_19 ex_19 => ?_)
                    refine lv_istore (lv' := [(7, .int x_19), (6, .int (nI t_71)), (5, .int s_71), (0, .ref (ad 57)), (1, .int a1), (2, .int a2), (3, .int a3), (4, .int a4)]) hx hb dX12_account_93 hl (by decide) rfl (fun ls hl => ?_)
                    refine lv_iload hx hb dX12_account_95 (lv_at hl 0 rfl) ?_
                    refine lv_iconst (v := (-1)) hx hb dX12_account_97 (by decide) ?_
                    refine lv_aload_n hx hb dX12_account_98 rfl (lv_at hl 3 rfl) ?_
                    refine wx_getr (t := 65) (C := RX12) (T := TX12) (N := 27) (ci := 11) (j := 20) hx hb hts hi_X12 hown hK hX (by decide) sh_X12_20 rfl (by decide) (hts (.fieldLink RX12 31 "SeenAgainModel" "now" "[I") (by decide +kernel)) (fun _ h9 => h9) dX12_account_99 ?_
                    refine lv_iconst (v := 0) hx hb dX12_account_102 (by decide) ?_
                    refine wx_iald hx hb hK hX (by decide) sa_65 (wb_in (show wx_b 0 0 0 from ⟨by decide, by decide⟩) (by decide) (by decide)) dX12_account_103 ?_
                    refine lv_iconst (v := 1) hx hb dX12_account_104 (by decide) ?_
                    refine lv_isub hx hb dX12_account_105 ?_
                    refine wx_callr (va_runS (As := [.int x_19, .int (-1), .int ((g 65 (0 : Int32).toNatClampNeg) - 1)]) (rest := []) ⟨hx, hb, hml, hown, hts⟩ (k_X12_in l g x_19 (-1) ((g 65 (0 : Int32).toNatClampNeg) - 1)) (va_cwS 3 hts gX12_account_X12_in rfl rfl rfl (by decide +kernel) (by rw [hR]; exact ⟨Nat.le_of_ble_eq_true rfl, Nat.le_of_ble_eq_true rfl⟩)) (wx_Pc.pre hK hX) rfl rfl hl.1 rfl (lv_room (Nat.le_of_ble_eq_true rfl)) dX12_account_106 ⟨Nat.zero_le _, Nat.zero_le _⟩) ?_
                    refine lv_if_ne (tgt := 115) hx hb dX12_account_109 (by decide) (fun c_20 => ?_) (fun c_20 => ?_)
                    · have b_21 : wx_b x_19 (-1) 5 := rf_X12_in (show wx_b (-1) (-1) (-1) from ⟨by decide, by decide⟩) (wb_sub hm.1 (show wx_b 1 1 1 from ⟨by decide, by decide⟩) (by decide) (by decide)) c_20
                      refine lv_iload hx hb dX12_account_115 (lv_at hl 2 rfl) ?_
                      refine lv_iload hx hb dX12_account_117 (lv_at hl 0 rfl) ?_
                      refine lv_if_lt (tgt := 142) hx hb dX12_account_119 (by decide) (fun c_22 => ?_) (fun c_22 => ?_)
                      · have b_23 : wx_b x_19 (-1) (-1) := wb_lt c_22 b_21 (show wx_b 0 0 0 from ⟨by decide, by decide⟩) (by decide) (by decide)
                        refine lv_iconst (v := 0) hx hb dX12_account_142 (by decide) ?_
                        refine lv_ior hx hb dX12_account_143 ?_
                        refine lv_topi (fun x_24 ex_24 => ?_)
                        refine lv_istore (lv' := [(5, .int x_24), (7, .int x_19), (6, .int (nI t_71)), (0, .ref (ad 57)), (1, .int a1), (2, .int a2), (3, .int a3), (4, .int a4)]) hx hb dX12_account_144 hl (by decide) rfl (fun ls hl => ?_)
                        refine lv_iinc (v := nI (t_71 + 1)) (lv' := [(6, .int (nI (t_71 + 1))), (5, .int x_24), (7, .int x_19), (0, .ref (ad 57)), (1, .int a1), (2, .int a2), (3, .int a3), (4, .int a4)]) hx hb dX12_account_146 hl (k := 2) rfl (wx_inc _) (by decide) rfl (fun ls hl => ?_)
                        refine lv_goto (tgt := 71) hx hb dX12_account_149 (by decide) ?_
                        have hF_25 : (b_X12_account_71 g a1 a2 a3 a4) t_71 s_71 = .inl x_24 := (by subst ex_24 ex_19; simp only [b_X12_account_71, if_neg c_20, if_pos c_22])
                        exact ih_71 (t_71 + 1) x_24 ls hlt_71 (by omega) ((repX_go es_71).trans hF_25) (lv_sub hl [0, 1, 3, 4, 5, 6, 7] rfl)
                      · have b_26 : wx_b x_19 0 5 := wb_ge (wb_nlt c_22) b_21 (show wx_b 0 0 0 from ⟨by decide, by decide⟩) (by decide) (by decide)
                        refine lv_aload_n hx hb dX12_account_122 rfl (lv_at hl 3 rfl) ?_
                        refine lv_iload_n hx hb dX12_account_123 rfl (lv_at hl 4 rfl) ?_
                        refine lv_iload_n hx hb dX12_account_124 rfl (lv_at hl 5 rfl) ?_
                        refine lv_iload hx hb dX12_account_125 (lv_at hl 0 rfl) ?_
                        refine lv_iload hx hb dX12_account_127 (lv_at hl 1 rfl) ?_
                        refine wx_callr (va_runV (As := [.int a1, .int a2, .int x_19, .int (nI t_71)]) (rest := [.int s_71]) ⟨hx, hb, hml, hown, hts⟩ (k_X12_canBeAt l g a1 a2 x_19 (nI t_71) b_5 bt_71 hm) (cwV 4 hts gX12_account_X12_canBeAt rfl rfl rfl (by decide +kernel) (by rw [hR]; exact ⟨Nat.le_of_ble_eq_true rfl, Nat.le_of_ble_eq_true rfl⟩)) ⟨wx_Pc.blind, wx_recv hK hX (by decide) sh_X12 rfl, (wx_Pc.pre hK hX).2⟩ rfl rfl hl.1 rfl (lv_room (Nat.le_of_ble_eq_true rfl)) dX12_account_129 ⟨Nat.zero_le _, Nat.zero_le _⟩) ?_
                        refine lv_if_ne (tgt := 142) hx hb dX12_account_132 (by decide) (fun c_27 => ?_) (fun c_27 => ?_)
                        · refine lv_iconst (v := 0) hx hb dX12_account_142 (by decide) ?_
                          refine lv_ior hx hb dX12_account_143 ?_
                          refine lv_topi (fun x_28 ex_28 => ?_)
                          refine lv_istore (lv' := [(5, .int x_28), (7, .int x_19), (6, .int (nI t_71)), (0, .ref (ad 57)), (1, .int a1), (2, .int a2), (3, .int a3), (4, .int a4)]) hx hb dX12_account_144 hl (by decide) rfl (fun ls hl => ?_)
                          refine lv_iinc (v := nI (t_71 + 1)) (lv' := [(6, .int (nI (t_71 + 1))), (5, .int x_28), (7, .int x_19), (0, .ref (ad 57)), (1, .int a1), (2, .int a2), (3, .int a3), (4, .int a4)]) hx hb dX12_account_146 hl (k := 2) rfl (wx_inc _) (by decide) rfl (fun ls hl => ?_)
                          refine lv_goto (tgt := 71) hx hb dX12_account_149 (by decide) ?_
                          have hF_29 : (b_X12_account_71 g a1 a2 a3 a4) t_71 s_71 = .inl x_28 := (by subst ex_28 ex_19; simp only [b_X12_account_71, if_neg c_20, if_neg c_22, if_neg c_27])
                          exact ih_71 (t_71 + 1) x_28 ls hlt_71 (by omega) ((repX_go es_71).trans hF_29) (lv_sub hl [0, 1, 3, 4, 5, 6, 7] rfl)
                        · have b_30 : wx_b (r_X12_canBeAt g a1 a2 x_19 (nI t_71)) 0 0 := by rw [c_27]; exact ⟨by decide, by decide⟩
                          refine lv_iconst (v := 1) hx hb dX12_account_135 (by decide) ?_
                          refine lv_iload hx hb dX12_account_136 (lv_at hl 1 rfl) ?_
                          refine lv_ishl hx hb dX12_account_138 ?_
                          refine lv_goto (tgt := 143) hx hb dX12_account_139 (by decide) ?_
                          refine lv_ior hx hb dX12_account_143 ?_
                          refine lv_topi (fun x_31 ex_31 => ?_)
                          refine lv_istore (lv' := [(5, .int x_31), (7, .int x_19), (6, .int (nI t_71)), (0, .ref (ad 57)), (1, .int a1), (2, .int a2), (3, .int a3), (4, .int a4)]) hx hb dX12_account_144 hl (by decide) rfl (fun ls hl => ?_)
                          refine lv_iinc (v := nI (t_71 + 1)) (lv' := [(6, .int (nI (t_71 + 1))), (5, .int x_31), (7, .int x_19), (0, .ref (ad 57)), (1, .int a1), (2, .int a2), (3, .int a3), (4, .int a4)]) hx hb dX12_account_146 hl (k := 2) rfl (wx_inc _) (by decide) rfl (fun ls hl => ?_)
                          refine lv_goto (tgt := 71) hx hb dX12_account_149 (by decide) ?_
                          have hF_32 : (b_X12_account_71 g a1 a2 a3 a4) t_71 s_71 = .inl x_31 := (by subst ex_31 ex_19; simp only [b_X12_account_71, if_neg c_20, if_neg c_22, if_pos c_27])
                          exact ih_71 (t_71 + 1) x_31 ls hlt_71 (by omega) ((repX_go es_71).trans hF_32) (lv_sub hl [0, 1, 3, 4, 5, 6, 7] rfl)
                    · have b_33 : wx_b (r_X12_in x_19 (-1) ((g 65 (0 : Int32).toNatClampNeg) - 1)) 0 0 := by rw [c_20]; exact ⟨by decide, by decide⟩
                      refine lv_ldc hx hb hown (hts (.constant RX12 60 (-1000001)) (by decide +kernel)) dX12_account_112 ?_
                      have hF_34 : (b_X12_account_71 g a1 a2 a3 a4) t_71 s_71 = .inr ((g, (-1000001))) := (by subst ex_19; simp only [b_X12_account_71, if_pos c_20])
                      have hO_35 : repX 8 (b_X12_account_71 g a1 a2 a3 a4) (0 : Int32) = .inr ((g, (-1000001))) := repX_out es_71 hF_34 hlt_71
                      exact hret _ _ _ _ _ _ dX12_account_114 rfl hX hS (by simp only [f_X12_account, if_neg c_1, if_neg c_3, if_neg c_6, if_pos c_8, if_neg c_10, if_pos c_14, hO_35])
              exact lp_71 (8 + 1) 0 (0 : Int32) ls (Nat.zero_le _) (by omega) rfl (lv_sub hl [0, 1, 2, 3, 4, 5, 6] rfl)
            · refine lv_aload_n hx hb dX12_account_59 rfl (lv_at hl 0 rfl) ?_
              refine lv_iconst (v := 2) hx hb dX12_account_60 (by decide) ?_
              refine wx_callei (va_runV (As := [.int 2]) (rest := []) ⟨hx, hb, hml, hown, hts⟩ (k_X12_finds l g 2) (cwV 1 hts gX12_account_X12_finds rfl rfl rfl (by decide +kernel) (by rw [hR]; exact ⟨Nat.le_of_ble_eq_true rfl, Nat.le_of_ble_eq_true rfl⟩)) ⟨wx_Pc.blind, wx_recv hK hX (by decide) sh_X12 rfl, (wx_Pc.pre hK hX).2⟩ rfl rfl hl.1 rfl (lv_room (Nat.le_of_ble_eq_true rfl)) dX12_account_61 ⟨Nat.zero_le _, Nat.zero_le _⟩) hS (fun H locs hX hS => ?_)
              obtain ⟨z_36, ez_36⟩ : ∃ z, z = f_X12_finds g 2 := ⟨_, rfl⟩
              rw [← ez_36] at hX; rw [← ez_36]
              exact hret _ _ _ _ _ _ dX12_account_64 rfl hX hS (by subst ez_36; simp only [f_X12_account, if_neg c_1, if_neg c_3, if_neg c_6, if_pos c_8, if_neg c_10, if_neg c_14])
        · refine lv_aload_n hx hb dX12_account_34 rfl (lv_at hl 0 rfl) ?_
          refine lv_iconst (v := 1) hx hb dX12_account_35 (by decide) ?_
          refine wx_callei (va_runV (As := [.int 1]) (rest := []) ⟨hx, hb, hml, hown, hts⟩ (k_X12_finds l g 1) (cwV 1 hts gX12_account_X12_finds rfl rfl rfl (by decide +kernel) (by rw [hR]; exact ⟨Nat.le_of_ble_eq_true rfl, Nat.le_of_ble_eq_true rfl⟩)) ⟨wx_Pc.blind, wx_recv hK hX (by decide) sh_X12 rfl, (wx_Pc.pre hK hX).2⟩ rfl rfl hl.1 rfl (lv_room (Nat.le_of_ble_eq_true rfl)) dX12_account_36 ⟨Nat.zero_le _, Nat.zero_le _⟩) hS (fun H locs hX hS => ?_)
          obtain ⟨z_37, ez_37⟩ : ∃ z, z = f_X12_finds g 1 := ⟨_, rfl⟩
          rw [← ez_37] at hX; rw [← ez_37]
          exact hret _ _ _ _ _ _ dX12_account_39 rfl hX hS (by subst ez_37; simp only [f_X12_account, if_neg c_1, if_neg c_3, if_neg c_6, if_neg c_8])
      · have b_38 : wx_b (r_X12_isRow a3) 0 0 := by rw [c_6]; exact ⟨by decide, by decide⟩
        refine lv_ldc hx hb hown (hts (.constant RX12 60 (-1000001)) (by decide +kernel)) dX12_account_23 ?_
        exact hret _ _ _ _ _ _ dX12_account_25 rfl hX hS (by simp only [f_X12_account, if_neg c_1, if_neg c_3, if_pos c_6])
def b_X12_row_52 (g : wx_M) (a1 : Int32) (a2 : Int32) (a3 : Int32) (g_11 : wx_M) (g_12 : wx_M) (t_52 : Nat) (s_52 : wx_M) : wx_M :=
  let g_15 := up2 s_52 60 ((40 * a1) + (nI t_52)).toNatClampNeg 0
  g_15
def f_X12_row (g : wx_M) (a1 : Int32) (a2 : Int32) (a3 : Int32) : wx_M × Int32 :=
  if (r_X12_isRow a1) = 0 then
    (g, (-1000001))
  else
    if (r_X12_in a2 0 2) = 0 then
      (g, (-1000001))
    else
      if a3 ≤ 40 then
        if 0 ≤ a3 then
          let g_11 := up2 g 58 a1.toNatClampNeg a2
          let g_12 := up2 g_11 59 a1.toNatClampNeg a3
          let s_52 := rep a3.toNatClampNeg (b_X12_row_52 g a1 a2 a3 g_11 g_12) g_12
          let z_14 := f_X12_did s_52 a3
          (z_14.1, z_14.2)
        else
          let z_18 := f_X12_finds g 4
          (z_18.1, z_18.2)
      else
        (g, (-1000001))
set_option maxHeartbeats 4000000 in
set_option maxRecDepth 100000 in
theorem k_X12_row (l : Launch) {D : va_G} {cy : Nat → ClassId} {ad : Nat → Nat} {B0 : Nat} {f : wx_F} {P : va_W} (g : wx_M) (a1 : Int32) (a2 : Int32) (a3 : Int32) : Met l yX12_row wsX12_row ({ frames := 2, cells := 0, slots := 0, locals := 42 } : Room) (wx_Pc D cy ad B0 f P g [.ref (ad 57), .int a1, .int a2, .int a3]) (wx_Qe D cy ad B0 f P (f_X12_row g a1 a2 a3).1 (some (.int (f_X12_row g a1 a2 a3).2))) 0 0 (fun q => B0 ≤ q) := by
  refine wx_enterE (cc := cX12_row) (maxL := 5) (ty := .int) (own := RX12) (lv := [(0, .ref (ad 57)), (1, .int a1), (2, .int a2), (3, .int a3)]) (by decide) rfl rfl (Nat.le_of_ble_eq_true rfl) rfl ?_
  intro p e R s m args below meth c ls Qm hx hb hml hown hts hK hX hS hR hret hl
  have hi_X12 : ∀ w ∈ wsX120, w ∈ wsX12_row := by decide +kernel
  refine lv_iload_n hx hb dX12_row_0 rfl (lv_at hl 1 rfl) ?_
  refine wx_callr (va_runS (As := [.int a1]) (rest := []) ⟨hx, hb, hml, hown, hts⟩ (k_X12_isRow l g a1) (va_cwS 1 hts gX12_row_X12_isRow rfl rfl rfl (by decide +kernel) (by rw [hR]; exact ⟨Nat.le_of_ble_eq_true rfl, Nat.le_of_ble_eq_true rfl⟩)) (wx_Pc.pre hK hX) rfl rfl hl.1 rfl (lv_room (Nat.le_of_ble_eq_true rfl)) dX12_row_1 ⟨Nat.zero_le _, Nat.zero_le _⟩) ?_
  refine lv_if_eq (tgt := 22) hx hb dX12_row_4 (by decide) (fun c_1 => ?_) (fun c_1 => ?_)
  · have b_2 : wx_b (r_X12_isRow a1) 0 0 := by rw [c_1]; exact ⟨by decide, by decide⟩
    refine lv_ldc hx hb hown (hts (.constant RX12 60 (-1000001)) (by decide +kernel)) dX12_row_22 ?_
    exact hret _ _ _ _ _ _ dX12_row_24 rfl hX hS (by simp only [f_X12_row, if_pos c_1])
  · have b_3 : wx_b a1 0 7 := rf_X12_isRow  c_1
    refine lv_iload_n hx hb dX12_row_7 rfl (lv_at hl 2 rfl) ?_
    refine lv_iconst (v := 0) hx hb dX12_row_8 (by decide) ?_
    refine lv_iconst (v := 2) hx hb dX12_row_9 (by decide) ?_
    refine wx_callr (va_runS (As := [.int a2, .int 0, .int 2]) (rest := []) ⟨hx, hb, hml, hown, hts⟩ (k_X12_in l g a2 0 2) (va_cwS 3 hts gX12_row_X12_in rfl rfl rfl (by decide +kernel) (by rw [hR]; exact ⟨Nat.le_of_ble_eq_true rfl, Nat.le_of_ble_eq_true rfl⟩)) (wx_Pc.pre hK hX) rfl rfl hl.1 rfl (lv_room (Nat.le_of_ble_eq_true rfl)) dX12_row_10 ⟨Nat.zero_le _, Nat.zero_le _⟩) ?_
    refine lv_if_eq (tgt := 22) hx hb dX12_row_13 (by decide) (fun c_4 => ?_) (fun c_4 => ?_)
    · have b_5 : wx_b (r_X12_in a2 0 2) 0 0 := by rw [c_4]; exact ⟨by decide, by decide⟩
      refine lv_ldc hx hb hown (hts (.constant RX12 60 (-1000001)) (by decide +kernel)) dX12_row_22 ?_
      exact hret _ _ _ _ _ _ dX12_row_24 rfl hX hS (by simp only [f_X12_row, if_neg c_1, if_pos c_4])
    · have b_6 : wx_b a2 0 2 := rf_X12_in (show wx_b 0 0 0 from ⟨by decide, by decide⟩) (show wx_b 2 2 2 from ⟨by decide, by decide⟩) c_4
      refine lv_iload_n hx hb dX12_row_16 rfl (lv_at hl 3 rfl) ?_
      refine lv_bipush (v := 40) hx hb dX12_row_17 (by decide) ?_
      refine lv_icmp_le (tgt := 25) hx hb dX12_row_19 (by decide) (fun c_7 => ?_) (fun c_7 => ?_)
      · have b_8 : wx_b a3 (-2147483648) 40 := wb_le c_7 (wb_any _) (show wx_b 40 40 40 from ⟨by decide, by decide⟩) (by decide) (by decide)
        refine lv_iload_n hx hb dX12_row_25 rfl (lv_at hl 3 rfl) ?_
        refine lv_if_ge (tgt := 35) hx hb dX12_row_26 (by decide) (fun c_9 => ?_) (fun c_9 => ?_)
        · have b_10 : wx_b a3 0 40 := wb_ge c_9 b_8 (show wx_b 0 0 0 from ⟨by decide, by decide⟩) (by decide) (by decide)
          refine lv_aload_n hx hb dX12_row_35 rfl (lv_at hl 0 rfl) ?_
          refine wx_getr (t := 58) (C := RX12) (T := TX12) (N := 27) (ci := 11) (j := 0) hx hb hts hi_X12 hown hK hX (by decide) sh_X12_0 rfl (by decide) (hts (.fieldLink RX12 7 "SeenAgainModel" "lane" "[I") (by decide +kernel)) (fun _ h9 => h9) dX12_row_36 ?_
          refine lv_iload_n hx hb dX12_row_39 rfl (lv_at hl 1 rfl) ?_
          refine lv_iload_n hx hb dX12_row_40 rfl (lv_at hl 2 rfl) ?_
          refine wx_iast hx hb hK hX hS (by decide) sa_58 (wb_in b_3 (by decide) (by decide)) dX12_row_41 (fun H locs hX hS => ?_)
          obtain ⟨g_11, eg_11, hX⟩ := wx_nm hX
          refine lv_aload_n hx hb dX12_row_42 rfl (lv_at hl 0 rfl) ?_
          refine wx_getr (t := 59) (C := RX12) (T := TX12) (N := 27) (ci := 11) (j := 1) hx hb hts hi_X12 hown hK hX (by decide) sh_X12_1 rfl (by decide) (hts (.fieldLink RX12 13 "SeenAgainModel" "items" "[I") (by decide +kernel)) (fun _ h9 => h9) dX12_row_43 ?_
          refine lv_iload_n hx hb dX12_row_46 rfl (lv_at hl 1 rfl) ?_
          refine lv_iload_n hx hb dX12_row_47 rfl (lv_at hl 3 rfl) ?_
          refine wx_iast hx hb hK hX hS (by decide) sa_59 (wb_in b_3 (by decide) (by decide)) dX12_row_48 (fun H locs hX hS => ?_)
          obtain ⟨g_12, eg_12, hX⟩ := wx_nm hX
          refine lv_iconst (v := 0) hx hb dX12_row_49 (by decide) ?_
          refine lv_istore (lv' := [(4, .int 0), (0, .ref (ad 57)), (1, .int a1), (2, .int a2), (3, .int a3)]) hx hb dX12_row_50 hl (by decide) rfl (fun ls hl => ?_)
          have lp_52 : ∀ (n t_52 : Nat) (s_52 : wx_M) (ls : Array Slot) (H : Heap) (locs : List Loc), t_52 ≤ a3.toNatClampNeg → a3.toNatClampNeg + 1 ≤ t_52 + n → s_52 = rep t_52 (b_X12_row_52 g a1 a2 a3 g_11 g_12) g_12 → wx_X D cy ad B0 f P s_52 H → va_S (fun q => B0 ≤ q) s.heap H locs → lv_has ls 5 [(4, .int (nI t_52)), (0, .ref (ad 57)), (1, .int a1), (3, .int a3)] → W p l e R s m args below meth c H locs 0 0 Qm (F0 m 52 ls []) := by
            intro n
            induction n with
            | zero => intro t_52 s_52 ls H locs h1 h2; exact absurd h2 (by omega)
            | succ n ih_52 =>
              intro t_52 s_52 ls H locs ht_52 hn_52 es_52 hX hS hl
              refine lv_iload hx hb dX12_row_52 (lv_at hl 0 rfl) ?_
              refine lv_iload_n hx hb dX12_row_54 rfl (lv_at hl 3 rfl) ?_
              refine lv_icmp_ge (tgt := 77) hx hb dX12_row_55 (by decide) (fun c_13 => ?_) (fun c_13 => ?_)
              · have et_52 : t_52 = a3.toNatClampNeg := Nat.le_antisymm ht_52 (by have h9 := wx_dn (by have := wx_cl31 a3; omega) c_13; omega)
                subst et_52
                refine lv_aload_n hx hb dX12_row_77 rfl (lv_at hl 1 rfl) ?_
                refine lv_iload_n hx hb dX12_row_78 rfl (lv_at hl 3 rfl) ?_
                refine wx_callei (va_runV (As := [.int a3]) (rest := []) ⟨hx, hb, hml, hown, hts⟩ (k_X12_did l s_52 a3) (cwV 1 hts gX12_row_X12_did rfl rfl rfl (by decide +kernel) (by rw [hR]; exact ⟨Nat.le_of_ble_eq_true rfl, Nat.le_of_ble_eq_true rfl⟩)) ⟨wx_Pc.blind, wx_recv hK hX (by decide) sh_X12 rfl, (wx_Pc.pre hK hX).2⟩ rfl rfl hl.1 rfl (lv_room (Nat.le_of_ble_eq_true rfl)) dX12_row_79 ⟨Nat.zero_le _, Nat.zero_le _⟩) hS (fun H locs hX hS => ?_)
                obtain ⟨z_14, ez_14⟩ : ∃ z, z = f_X12_did s_52 a3 := ⟨_, rfl⟩
                rw [← ez_14] at hX; rw [← ez_14]
                exact hret _ _ _ _ _ _ dX12_row_82 rfl hX hS (by subst ez_14 eg_12 eg_11; simp only [f_X12_row, if_neg c_1, if_neg c_4, if_pos c_7, if_pos c_9, ← es_52])
              · have hlt_52 : t_52 < a3.toNatClampNeg := by have h9 := wx_up (by have := wx_cl31 a3; omega) c_13; omega
                have bt_52 : wx_b (nI (t_52)) 0 39 := wb_nI (n := 39) (by have := wb_cl (n := 40) b_10 (by decide); omega) (by decide)
                refine lv_aload_n hx hb dX12_row_58 rfl (lv_at hl 1 rfl) ?_
                refine wx_getr (t := 60) (C := RX12) (T := TX12) (N := 27) (ci := 11) (j := 2) hx hb hts hi_X12 hown hK hX (by decide) sh_X12_2 rfl (by decide) (hts (.fieldLink RX12 16 "SeenAgainModel" "cell" "[I") (by decide +kernel)) (fun _ h9 => h9) dX12_row_59 ?_
                refine lv_bipush (v := 40) hx hb dX12_row_62 (by decide) ?_
                refine lv_iload_n hx hb dX12_row_64 rfl (lv_at hl 2 rfl) ?_
                refine lv_imul hx hb dX12_row_65 ?_
                refine lv_iload hx hb dX12_row_66 (lv_at hl 0 rfl) ?_
                refine lv_iadd hx hb dX12_row_68 ?_
                refine lv_iconst (v := 0) hx hb dX12_row_69 (by decide) ?_
                refine wx_iast hx hb hK hX hS (by decide) sa_60 (wb_in (wb_add (wb_mul (show wx_b 40 40 40 from ⟨by decide, by decide⟩) b_3 (by decide) (by decide) (by decide)) bt_52 (by decide) (by decide)) (by decide) (by decide)) dX12_row_70 (fun H locs hX hS => ?_)
                obtain ⟨g_15, eg_15, hX⟩ := wx_nm hX
                refine lv_iinc (v := nI (t_52 + 1)) (lv' := [(4, .int (nI (t_52 + 1))), (0, .ref (ad 57)), (1, .int a1), (3, .int a3)]) hx hb dX12_row_71 hl (k := 0) rfl (wx_inc _) (by decide) rfl (fun ls hl => ?_)
                refine lv_goto (tgt := 52) hx hb dX12_row_74 (by decide) ?_
                have hF_16 : (b_X12_row_52 g a1 a2 a3 g_11 g_12) t_52 s_52 = g_15 := (by subst eg_15; simp only [b_X12_row_52])
                exact ih_52 (t_52 + 1) g_15 ls H locs hlt_52 (by omega) (by rw [rep_succ, ← es_52, hF_16]) hX hS (lv_sub hl [0, 1, 2, 3] rfl)
          exact lp_52 (a3.toNatClampNeg + 1) 0 g_12 ls H locs (Nat.zero_le _) (by omega) rfl hX hS (lv_sub hl [0, 1, 2, 4] rfl)
        · have b_17 : wx_b a3 (-2147483648) (-1) := wb_lt (wb_nle c_9) b_8 (show wx_b 0 0 0 from ⟨by decide, by decide⟩) (by decide) (by decide)
          refine lv_aload_n hx hb dX12_row_29 rfl (lv_at hl 0 rfl) ?_
          refine lv_iconst (v := 4) hx hb dX12_row_30 (by decide) ?_
          refine wx_callei (va_runV (As := [.int 4]) (rest := []) ⟨hx, hb, hml, hown, hts⟩ (k_X12_finds l g 4) (cwV 1 hts gX12_row_X12_finds rfl rfl rfl (by decide +kernel) (by rw [hR]; exact ⟨Nat.le_of_ble_eq_true rfl, Nat.le_of_ble_eq_true rfl⟩)) ⟨wx_Pc.blind, wx_recv hK hX (by decide) sh_X12 rfl, (wx_Pc.pre hK hX).2⟩ rfl rfl hl.1 rfl (lv_room (Nat.le_of_ble_eq_true rfl)) dX12_row_31 ⟨Nat.zero_le _, Nat.zero_le _⟩) hS (fun H locs hX hS => ?_)
          obtain ⟨z_18, ez_18⟩ : ∃ z, z = f_X12_finds g 4 := ⟨_, rfl⟩
          rw [← ez_18] at hX; rw [← ez_18]
          exact hret _ _ _ _ _ _ dX12_row_34 rfl hX hS (by subst ez_18; simp only [f_X12_row, if_neg c_1, if_neg c_4, if_pos c_7, if_neg c_9])
      · have b_19 : wx_b a3 41 2147483647 := wb_gt (wb_nle c_7) (wb_any _) (show wx_b 40 40 40 from ⟨by decide, by decide⟩) (by decide) (by decide)
        refine lv_ldc hx hb hown (hts (.constant RX12 60 (-1000001)) (by decide +kernel)) dX12_row_22 ?_
        exact hret _ _ _ _ _ _ dX12_row_24 rfl hX hS (by simp only [f_X12_row, if_neg c_1, if_neg c_4, if_neg c_7])
def f_X12_set (g : wx_M) (a1 : Int32) (a2 : Int32) (a3 : Int32) : wx_M × Int32 :=
  if (r_X12_isRow a1) = 0 then
    (g, (-1000001))
  else
    if (r_X12_isNull g a1) = 0 then
      if (r_X12_in a2 0 ((g 59 a1.toNatClampNeg) - 1)) = 0 then
        let z_20 := f_X12_finds g 2
        (z_20.1, z_20.2)
      else
        if (g 58 a1.toNatClampNeg) = 0 then
          let x_16 := a3.toInt8.toInt32
          let g_17 := up2 g 60 ((40 * a1) + a2).toNatClampNeg x_16
          let z_18 := f_X12_did g_17 (g_17 60 ((40 * a1) + a2).toNatClampNeg)
          (z_18.1, z_18.2)
        else
          if (g 58 a1.toNatClampNeg) = 1 then
            let x_12 := a3.toInt16.toInt32
            let g_13 := up2 g 60 ((40 * a1) + a2).toNatClampNeg x_12
            let z_14 := f_X12_did g_13 (g_13 60 ((40 * a1) + a2).toNatClampNeg)
            (z_14.1, z_14.2)
          else
            let g_9 := up2 g 60 ((40 * a1) + a2).toNatClampNeg a3
            let z_10 := f_X12_did g_9 (g_9 60 ((40 * a1) + a2).toNatClampNeg)
            (z_10.1, z_10.2)
    else
      let z_21 := f_X12_finds g 1
      (z_21.1, z_21.2)
set_option maxHeartbeats 4000000 in
set_option maxRecDepth 100000 in
theorem k_X12_set (l : Launch) {D : va_G} {cy : Nat → ClassId} {ad : Nat → Nat} {B0 : Nat} {f : wx_F} {P : va_W} (g : wx_M) (a1 : Int32) (a2 : Int32) (a3 : Int32) (hit : wx_IT g) : Met l yX12_set wsX12_set ({ frames := 2, cells := 0, slots := 0, locals := 42 } : Room) (wx_Pc D cy ad B0 f P g [.ref (ad 57), .int a1, .int a2, .int a3]) (wx_Qe D cy ad B0 f P (f_X12_set g a1 a2 a3).1 (some (.int (f_X12_set g a1 a2 a3).2))) 0 0 (fun q => B0 ≤ q) := by
  refine wx_enterE (cc := cX12_set) (maxL := 4) (ty := .int) (own := RX12) (lv := [(0, .ref (ad 57)), (1, .int a1), (2, .int a2), (3, .int a3)]) (by decide) rfl rfl (Nat.le_of_ble_eq_true rfl) rfl ?_
  intro p e R s m args below meth c ls Qm hx hb hml hown hts hK hX hS hR hret hl
  have hi_X12 : ∀ w ∈ wsX120, w ∈ wsX12_set := by decide +kernel
  refine lv_iload_n hx hb dX12_set_0 rfl (lv_at hl 1 rfl) ?_
  refine wx_callr (va_runS (As := [.int a1]) (rest := []) ⟨hx, hb, hml, hown, hts⟩ (k_X12_isRow l g a1) (va_cwS 1 hts gX12_set_X12_isRow rfl rfl rfl (by decide +kernel) (by rw [hR]; exact ⟨Nat.le_of_ble_eq_true rfl, Nat.le_of_ble_eq_true rfl⟩)) (wx_Pc.pre hK hX) rfl rfl hl.1 rfl (lv_room (Nat.le_of_ble_eq_true rfl)) dX12_set_1 ⟨Nat.zero_le _, Nat.zero_le _⟩) ?_
  refine lv_if_ne (tgt := 10) hx hb dX12_set_4 (by decide) (fun c_1 => ?_) (fun c_1 => ?_)
  · have b_2 : wx_b a1 0 7 := rf_X12_isRow  c_1
    refine lv_aload_n hx hb dX12_set_10 rfl (lv_at hl 0 rfl) ?_
    refine lv_iload_n hx hb dX12_set_11 rfl (lv_at hl 1 rfl) ?_
    refine wx_callr (va_runV (As := [.int a1]) (rest := []) ⟨hx, hb, hml, hown, hts⟩ (k_X12_isNull l g a1 b_2) (cwV 1 hts gX12_set_X12_isNull rfl rfl rfl (by decide +kernel) (by rw [hR]; exact ⟨Nat.le_of_ble_eq_true rfl, Nat.le_of_ble_eq_true rfl⟩)) ⟨wx_Pc.blind, wx_recv hK hX (by decide) sh_X12 rfl, (wx_Pc.pre hK hX).2⟩ rfl rfl hl.1 rfl (lv_room (Nat.le_of_ble_eq_true rfl)) dX12_set_12 ⟨Nat.zero_le _, Nat.zero_le _⟩) ?_
    refine lv_if_eq (tgt := 24) hx hb dX12_set_15 (by decide) (fun c_3 => ?_) (fun c_3 => ?_)
    · have b_4 : wx_b (r_X12_isNull g a1) 0 0 := by rw [c_3]; exact ⟨by decide, by decide⟩
      refine lv_iload_n hx hb dX12_set_24 rfl (lv_at hl 2 rfl) ?_
      refine lv_iconst (v := 0) hx hb dX12_set_25 (by decide) ?_
      refine lv_aload_n hx hb dX12_set_26 rfl (lv_at hl 0 rfl) ?_
      refine wx_getr (t := 59) (C := RX12) (T := TX12) (N := 27) (ci := 11) (j := 1) hx hb hts hi_X12 hown hK hX (by decide) sh_X12_1 rfl (by decide) (hts (.fieldLink RX12 13 "SeenAgainModel" "items" "[I") (by decide +kernel)) (fun _ h9 => h9) dX12_set_27 ?_
      refine lv_iload_n hx hb dX12_set_30 rfl (lv_at hl 1 rfl) ?_
      refine wx_iald hx hb hK hX (by decide) sa_59 (wb_in b_2 (by decide) (by decide)) dX12_set_31 ?_
      refine lv_iconst (v := 1) hx hb dX12_set_32 (by decide) ?_
      refine lv_isub hx hb dX12_set_33 ?_
      refine wx_callr (va_runS (As := [.int a2, .int 0, .int ((g 59 a1.toNatClampNeg) - 1)]) (rest := []) ⟨hx, hb, hml, hown, hts⟩ (k_X12_in l g a2 0 ((g 59 a1.toNatClampNeg) - 1)) (va_cwS 3 hts gX12_set_X12_in rfl rfl rfl (by decide +kernel) (by rw [hR]; exact ⟨Nat.le_of_ble_eq_true rfl, Nat.le_of_ble_eq_true rfl⟩)) (wx_Pc.pre hK hX) rfl rfl hl.1 rfl (lv_room (Nat.le_of_ble_eq_true rfl)) dX12_set_34 ⟨Nat.zero_le _, Nat.zero_le _⟩) ?_
      refine lv_if_ne (tgt := 46) hx hb dX12_set_37 (by decide) (fun c_5 => ?_) (fun c_5 => ?_)
      · have b_6 : wx_b a2 0 39 := rf_X12_in (show wx_b 0 0 0 from ⟨by decide, by decide⟩) (wb_sub (hit _ (wb_cl (n := 7) b_2 (by decide))) (show wx_b 1 1 1 from ⟨by decide, by decide⟩) (by decide) (by decide)) c_5
        refine lv_aload_n hx hb dX12_set_46 rfl (lv_at hl 0 rfl) ?_
        refine wx_getr (t := 60) (C := RX12) (T := TX12) (N := 27) (ci := 11) (j := 2) hx hb hts hi_X12 hown hK hX (by decide) sh_X12_2 rfl (by decide) (hts (.fieldLink RX12 16 "SeenAgainModel" "cell" "[I") (by decide +kernel)) (fun _ h9 => h9) dX12_set_47 ?_
        refine lv_bipush (v := 40) hx hb dX12_set_50 (by decide) ?_
        refine lv_iload_n hx hb dX12_set_52 rfl (lv_at hl 1 rfl) ?_
        refine lv_imul hx hb dX12_set_53 ?_
        refine lv_iload_n hx hb dX12_set_54 rfl (lv_at hl 2 rfl) ?_
        refine lv_iadd hx hb dX12_set_55 ?_
        refine lv_aload_n hx hb dX12_set_56 rfl (lv_at hl 0 rfl) ?_
        refine wx_getr (t := 58) (C := RX12) (T := TX12) (N := 27) (ci := 11) (j := 0) hx hb hts hi_X12 hown hK hX (by decide) sh_X12_0 rfl (by decide) (hts (.fieldLink RX12 7 "SeenAgainModel" "lane" "[I") (by decide +kernel)) (fun _ h9 => h9) dX12_set_57 ?_
        refine lv_iload_n hx hb dX12_set_60 rfl (lv_at hl 1 rfl) ?_
        refine wx_iald hx hb hK hX (by decide) sa_58 (wb_in b_2 (by decide) (by decide)) dX12_set_61 ?_
        refine lv_if_ne (tgt := 70) hx hb dX12_set_62 (by decide) (fun c_7 => ?_) (fun c_7 => ?_)
        · refine lv_aload_n hx hb dX12_set_70 rfl (lv_at hl 0 rfl) ?_
          refine wx_getr (t := 58) (C := RX12) (T := TX12) (N := 27) (ci := 11) (j := 0) hx hb hts hi_X12 hown hK hX (by decide) sh_X12_0 rfl (by decide) (hts (.fieldLink RX12 7 "SeenAgainModel" "lane" "[I") (by decide +kernel)) (fun _ h9 => h9) dX12_set_71 ?_
          refine lv_iload_n hx hb dX12_set_74 rfl (lv_at hl 1 rfl) ?_
          refine wx_iald hx hb hK hX (by decide) sa_58 (wb_in b_2 (by decide) (by decide)) dX12_set_75 ?_
          refine lv_iconst (v := 1) hx hb dX12_set_76 (by decide) ?_
          refine lv_icmp_ne (tgt := 85) hx hb dX12_set_77 (by decide) (fun c_8 => ?_) (fun c_8 => ?_)
          · refine lv_iload_n hx hb dX12_set_85 rfl (lv_at hl 3 rfl) ?_
            refine wx_iast hx hb hK hX hS (by decide) sa_60 (wb_in (wb_add (wb_mul (show wx_b 40 40 40 from ⟨by decide, by decide⟩) b_2 (by decide) (by decide) (by decide)) b_6 (by decide) (by decide)) (by decide) (by decide)) dX12_set_86 (fun H locs hX hS => ?_)
            obtain ⟨g_9, eg_9, hX⟩ := wx_nm hX
            refine lv_aload_n hx hb dX12_set_87 rfl (lv_at hl 0 rfl) ?_
            refine lv_aload_n hx hb dX12_set_88 rfl (lv_at hl 0 rfl) ?_
            refine wx_getr (t := 60) (C := RX12) (T := TX12) (N := 27) (ci := 11) (j := 2) hx hb hts hi_X12 hown hK hX (by decide) sh_X12_2 rfl (by decide) (hts (.fieldLink RX12 16 "SeenAgainModel" "cell" "[I") (by decide +kernel)) (fun _ h9 => h9) dX12_set_89 ?_
            refine lv_bipush (v := 40) hx hb dX12_set_92 (by decide) ?_
            refine lv_iload_n hx hb dX12_set_94 rfl (lv_at hl 1 rfl) ?_
            refine lv_imul hx hb dX12_set_95 ?_
            refine lv_iload_n hx hb dX12_set_96 rfl (lv_at hl 2 rfl) ?_
            refine lv_iadd hx hb dX12_set_97 ?_
            refine wx_iald hx hb hK hX (by decide) sa_60 (wb_in (wb_add (wb_mul (show wx_b 40 40 40 from ⟨by decide, by decide⟩) b_2 (by decide) (by decide) (by decide)) b_6 (by decide) (by decide)) (by decide) (by decide)) dX12_set_98 ?_
            refine wx_callei (va_runV (As := [.int (g_9 60 ((40 * a1) + a2).toNatClampNeg)]) (rest := []) ⟨hx, hb, hml, hown, hts⟩ (k_X12_did l g_9 (g_9 60 ((40 * a1) + a2).toNatClampNeg)) (cwV 1 hts gX12_set_X12_did rfl rfl rfl (by decide +kernel) (by rw [hR]; exact ⟨Nat.le_of_ble_eq_true rfl, Nat.le_of_ble_eq_true rfl⟩)) ⟨wx_Pc.blind, wx_recv hK hX (by decide) sh_X12 rfl, (wx_Pc.pre hK hX).2⟩ rfl rfl hl.1 rfl (lv_room (Nat.le_of_ble_eq_true rfl)) dX12_set_99 ⟨Nat.zero_le _, Nat.zero_le _⟩) hS (fun H locs hX hS => ?_)
            obtain ⟨z_10, ez_10⟩ : ∃ z, z = f_X12_did g_9 (g_9 60 ((40 * a1) + a2).toNatClampNeg) := ⟨_, rfl⟩
            rw [← ez_10] at hX; rw [← ez_10]
            exact hret _ _ _ _ _ _ dX12_set_102 rfl hX hS (by subst ez_10 eg_9; simp only [f_X12_set, if_neg c_1, if_pos c_3, if_neg c_5, if_neg c_7, if_neg c_8])
          · have b_11 : wx_b (g 58 a1.toNatClampNeg) 1 1 := by rw [c_8]; exact ⟨by decide, by decide⟩
            refine lv_iload_n hx hb dX12_set_80 rfl (lv_at hl 3 rfl) ?_
            refine lv_i2s hx hb dX12_set_81 rfl ?_
            refine lv_goto (tgt := 86) hx hb dX12_set_82 (by decide) ?_
            refine lv_topi (fun x_12 ex_12 => ?_)
            refine wx_iast hx hb hK hX hS (by decide) sa_60 (wb_in (wb_add (wb_mul (show wx_b 40 40 40 from ⟨by decide, by decide⟩) b_2 (by decide) (by decide) (by decide)) b_6 (by decide) (by decide)) (by decide) (by decide)) dX12_set_86 (fun H locs hX hS => ?_)
            obtain ⟨g_13, eg_13, hX⟩ := wx_nm hX
            refine lv_aload_n hx hb dX12_set_87 rfl (lv_at hl 0 rfl) ?_
            refine lv_aload_n hx hb dX12_set_88 rfl (lv_at hl 0 rfl) ?_
            refine wx_getr (t := 60) (C := RX12) (T := TX12) (N := 27) (ci := 11) (j := 2) hx hb hts hi_X12 hown hK hX (by decide) sh_X12_2 rfl (by decide) (hts (.fieldLink RX12 16 "SeenAgainModel" "cell" "[I") (by decide +kernel)) (fun _ h9 => h9) dX12_set_89 ?_
            refine lv_bipush (v := 40) hx hb dX12_set_92 (by decide) ?_
            refine lv_iload_n hx hb dX12_set_94 rfl (lv_at hl 1 rfl) ?_
            refine lv_imul hx hb dX12_set_95 ?_
            refine lv_iload_n hx hb dX12_set_96 rfl (lv_at hl 2 rfl) ?_
            refine lv_iadd hx hb dX12_set_97 ?_
            refine wx_iald hx hb hK hX (by decide) sa_60 (wb_in (wb_add (wb_mul (show wx_b 40 40 40 from ⟨by decide, by decide⟩) b_2 (by decide) (by decide) (by decide)) b_6 (by decide) (by decide)) (by decide) (by decide)) dX12_set_98 ?_
            refine wx_callei (va_runV (As := [.int (g_13 60 ((40 * a1) + a2).toNatClampNeg)]) (rest := []) ⟨hx, hb, hml, hown, hts⟩ (k_X12_did l g_13 (g_13 60 ((40 * a1) + a2).toNatClampNeg)) (cwV 1 hts gX12_set_X12_did rfl rfl rfl (by decide +kernel) (by rw [hR]; exact ⟨Nat.le_of_ble_eq_true rfl, Nat.le_of_ble_eq_true rfl⟩)) ⟨wx_Pc.blind, wx_recv hK hX (by decide) sh_X12 rfl, (wx_Pc.pre hK hX).2⟩ rfl rfl hl.1 rfl (lv_room (Nat.le_of_ble_eq_true rfl)) dX12_set_99 ⟨Nat.zero_le _, Nat.zero_le _⟩) hS (fun H locs hX hS => ?_)
            obtain ⟨z_14, ez_14⟩ : ∃ z, z = f_X12_did g_13 (g_13 60 ((40 * a1) + a2).toNatClampNeg) := ⟨_, rfl⟩
            rw [← ez_14] at hX; rw [← ez_14]
            exact hret _ _ _ _ _ _ dX12_set_102 rfl hX hS (by subst ez_14 eg_13 ex_12; simp only [f_X12_set, if_neg c_1, if_pos c_3, if_neg c_5, if_neg c_7, if_pos c_8])
        · have b_15 : wx_b (g 58 a1.toNatClampNeg) 0 0 := by rw [c_7]; exact ⟨by decide, by decide⟩
          refine lv_iload_n hx hb dX12_set_65 rfl (lv_at hl 3 rfl) ?_
          refine lv_i2b hx hb dX12_set_66 rfl ?_
          refine lv_goto (tgt := 86) hx hb dX12_set_67 (by decide) ?_
          refine lv_topi (fun x_16 ex_16 => ?_)
          refine wx_iast hx hb hK hX hS (by decide) sa_60 (wb_in (wb_add (wb_mul (show wx_b 40 40 40 from ⟨by decide, by decide⟩) b_2 (by decide) (by decide) (by decide)) b_6 (by decide) (by decide)) (by decide) (by decide)) dX12_set_86 (fun H locs hX hS => ?_)
          obtain ⟨g_17, eg_17, hX⟩ := wx_nm hX
          refine lv_aload_n hx hb dX12_set_87 rfl (lv_at hl 0 rfl) ?_
          refine lv_aload_n hx hb dX12_set_88 rfl (lv_at hl 0 rfl) ?_
          refine wx_getr (t := 60) (C := RX12) (T := TX12) (N := 27) (ci := 11) (j := 2) hx hb hts hi_X12 hown hK hX (by decide) sh_X12_2 rfl (by decide) (hts (.fieldLink RX12 16 "SeenAgainModel" "cell" "[I") (by decide +kernel)) (fun _ h9 => h9) dX12_set_89 ?_
          refine lv_bipush (v := 40) hx hb dX12_set_92 (by decide) ?_
          refine lv_iload_n hx hb dX12_set_94 rfl (lv_at hl 1 rfl) ?_
          refine lv_imul hx hb dX12_set_95 ?_
          refine lv_iload_n hx hb dX12_set_96 rfl (lv_at hl 2 rfl) ?_
          refine lv_iadd hx hb dX12_set_97 ?_
          refine wx_iald hx hb hK hX (by decide) sa_60 (wb_in (wb_add (wb_mul (show wx_b 40 40 40 from ⟨by decide, by decide⟩) b_2 (by decide) (by decide) (by decide)) b_6 (by decide) (by decide)) (by decide) (by decide)) dX12_set_98 ?_
          refine wx_callei (va_runV (As := [.int (g_17 60 ((40 * a1) + a2).toNatClampNeg)]) (rest := []) ⟨hx, hb, hml, hown, hts⟩ (k_X12_did l g_17 (g_17 60 ((40 * a1) + a2).toNatClampNeg)) (cwV 1 hts gX12_set_X12_did rfl rfl rfl (by decide +kernel) (by rw [hR]; exact ⟨Nat.le_of_ble_eq_true rfl, Nat.le_of_ble_eq_true rfl⟩)) ⟨wx_Pc.blind, wx_recv hK hX (by decide) sh_X12 rfl, (wx_Pc.pre hK hX).2⟩ rfl rfl hl.1 rfl (lv_room (Nat.le_of_ble_eq_true rfl)) dX12_set_99 ⟨Nat.zero_le _, Nat.zero_le _⟩) hS (fun H locs hX hS => ?_)
          obtain ⟨z_18, ez_18⟩ : ∃ z, z = f_X12_did g_17 (g_17 60 ((40 * a1) + a2).toNatClampNeg) := ⟨_, rfl⟩
          rw [← ez_18] at hX; rw [← ez_18]
          exact hret _ _ _ _ _ _ dX12_set_102 rfl hX hS (by subst ez_18 eg_17 ex_16; simp only [f_X12_set, if_neg c_1, if_pos c_3, if_neg c_5, if_pos c_7])
      · have b_19 : wx_b (r_X12_in a2 0 ((g 59 a1.toNatClampNeg) - 1)) 0 0 := by rw [c_5]; exact ⟨by decide, by decide⟩
        refine lv_aload_n hx hb dX12_set_40 rfl (lv_at hl 0 rfl) ?_
        refine lv_iconst (v := 2) hx hb dX12_set_41 (by decide) ?_
        refine wx_callei (va_runV (As := [.int 2]) (rest := []) ⟨hx, hb, hml, hown, hts⟩ (k_X12_finds l g 2) (cwV 1 hts gX12_set_X12_finds rfl rfl rfl (by decide +kernel) (by rw [hR]; exact ⟨Nat.le_of_ble_eq_true rfl, Nat.le_of_ble_eq_true rfl⟩)) ⟨wx_Pc.blind, wx_recv hK hX (by decide) sh_X12 rfl, (wx_Pc.pre hK hX).2⟩ rfl rfl hl.1 rfl (lv_room (Nat.le_of_ble_eq_true rfl)) dX12_set_42 ⟨Nat.zero_le _, Nat.zero_le _⟩) hS (fun H locs hX hS => ?_)
        obtain ⟨z_20, ez_20⟩ : ∃ z, z = f_X12_finds g 2 := ⟨_, rfl⟩
        rw [← ez_20] at hX; rw [← ez_20]
        exact hret _ _ _ _ _ _ dX12_set_45 rfl hX hS (by subst ez_20; simp only [f_X12_set, if_neg c_1, if_pos c_3, if_pos c_5])
    · refine lv_aload_n hx hb dX12_set_18 rfl (lv_at hl 0 rfl) ?_
      refine lv_iconst (v := 1) hx hb dX12_set_19 (by decide) ?_
      refine wx_callei (va_runV (As := [.int 1]) (rest := []) ⟨hx, hb, hml, hown, hts⟩ (k_X12_finds l g 1) (cwV 1 hts gX12_set_X12_finds rfl rfl rfl (by decide +kernel) (by rw [hR]; exact ⟨Nat.le_of_ble_eq_true rfl, Nat.le_of_ble_eq_true rfl⟩)) ⟨wx_Pc.blind, wx_recv hK hX (by decide) sh_X12 rfl, (wx_Pc.pre hK hX).2⟩ rfl rfl hl.1 rfl (lv_room (Nat.le_of_ble_eq_true rfl)) dX12_set_20 ⟨Nat.zero_le _, Nat.zero_le _⟩) hS (fun H locs hX hS => ?_)
      obtain ⟨z_21, ez_21⟩ : ∃ z, z = f_X12_finds g 1 := ⟨_, rfl⟩
      rw [← ez_21] at hX; rw [← ez_21]
      exact hret _ _ _ _ _ _ dX12_set_23 rfl hX hS (by subst ez_21; simp only [f_X12_set, if_neg c_1, if_neg c_3])
  · have b_22 : wx_b (r_X12_isRow a1) 0 0 := by rw [c_1]; exact ⟨by decide, by decide⟩
    refine lv_ldc hx hb hown (hts (.constant RX12 60 (-1000001)) (by decide +kernel)) dX12_set_7 ?_
    exact hret _ _ _ _ _ _ dX12_set_9 rfl hX hS (by simp only [f_X12_set, if_pos c_1])
def f_X12_drop (g : wx_M) (a1 : Int32) : wx_M × Int32 :=
  if (r_X12_isRow a1) = 0 then
    (g, (-1000001))
  else
    if (r_X12_isNull g a1) = 0 then
      let g_5 := up2 g 58 a1.toNatClampNeg (-1)
      let z_6 := f_X12_did g_5 (g_5 59 a1.toNatClampNeg)
      (z_6.1, z_6.2)
    else
      let z_7 := f_X12_finds g 1
      (z_7.1, z_7.2)
set_option maxHeartbeats 4000000 in
set_option maxRecDepth 100000 in
theorem k_X12_drop (l : Launch) {D : va_G} {cy : Nat → ClassId} {ad : Nat → Nat} {B0 : Nat} {f : wx_F} {P : va_W} (g : wx_M) (a1 : Int32) : Met l yX12_drop wsX12_drop ({ frames := 2, cells := 0, slots := 0, locals := 42 } : Room) (wx_Pc D cy ad B0 f P g [.ref (ad 57), .int a1]) (wx_Qe D cy ad B0 f P (f_X12_drop g a1).1 (some (.int (f_X12_drop g a1).2))) 0 0 (fun q => B0 ≤ q) := by
  refine wx_enterE (cc := cX12_drop) (maxL := 2) (ty := .int) (own := RX12) (lv := [(0, .ref (ad 57)), (1, .int a1)]) (by decide) rfl rfl (Nat.le_of_ble_eq_true rfl) rfl ?_
  intro p e R s m args below meth c ls Qm hx hb hml hown hts hK hX hS hR hret hl
  have hi_X12 : ∀ w ∈ wsX120, w ∈ wsX12_drop := by decide +kernel
  refine lv_iload_n hx hb dX12_drop_0 rfl (lv_at hl 1 rfl) ?_
  refine wx_callr (va_runS (As := [.int a1]) (rest := []) ⟨hx, hb, hml, hown, hts⟩ (k_X12_isRow l g a1) (va_cwS 1 hts gX12_drop_X12_isRow rfl rfl rfl (by decide +kernel) (by rw [hR]; exact ⟨Nat.le_of_ble_eq_true rfl, Nat.le_of_ble_eq_true rfl⟩)) (wx_Pc.pre hK hX) rfl rfl hl.1 rfl (lv_room (Nat.le_of_ble_eq_true rfl)) dX12_drop_1 ⟨Nat.zero_le _, Nat.zero_le _⟩) ?_
  refine lv_if_ne (tgt := 10) hx hb dX12_drop_4 (by decide) (fun c_1 => ?_) (fun c_1 => ?_)
  · have b_2 : wx_b a1 0 7 := rf_X12_isRow  c_1
    refine lv_aload_n hx hb dX12_drop_10 rfl (lv_at hl 0 rfl) ?_
    refine lv_iload_n hx hb dX12_drop_11 rfl (lv_at hl 1 rfl) ?_
    refine wx_callr (va_runV (As := [.int a1]) (rest := []) ⟨hx, hb, hml, hown, hts⟩ (k_X12_isNull l g a1 b_2) (cwV 1 hts gX12_drop_X12_isNull rfl rfl rfl (by decide +kernel) (by rw [hR]; exact ⟨Nat.le_of_ble_eq_true rfl, Nat.le_of_ble_eq_true rfl⟩)) ⟨wx_Pc.blind, wx_recv hK hX (by decide) sh_X12 rfl, (wx_Pc.pre hK hX).2⟩ rfl rfl hl.1 rfl (lv_room (Nat.le_of_ble_eq_true rfl)) dX12_drop_12 ⟨Nat.zero_le _, Nat.zero_le _⟩) ?_
    refine lv_if_eq (tgt := 24) hx hb dX12_drop_15 (by decide) (fun c_3 => ?_) (fun c_3 => ?_)
    · have b_4 : wx_b (r_X12_isNull g a1) 0 0 := by rw [c_3]; exact ⟨by decide, by decide⟩
      refine lv_aload_n hx hb dX12_drop_24 rfl (lv_at hl 0 rfl) ?_
      refine wx_getr (t := 58) (C := RX12) (T := TX12) (N := 27) (ci := 11) (j := 0) hx hb hts hi_X12 hown hK hX (by decide) sh_X12_0 rfl (by decide) (hts (.fieldLink RX12 7 "SeenAgainModel" "lane" "[I") (by decide +kernel)) (fun _ h9 => h9) dX12_drop_25 ?_
      refine lv_iload_n hx hb dX12_drop_28 rfl (lv_at hl 1 rfl) ?_
      refine lv_iconst (v := (-1)) hx hb dX12_drop_29 (by decide) ?_
      refine wx_iast hx hb hK hX hS (by decide) sa_58 (wb_in b_2 (by decide) (by decide)) dX12_drop_30 (fun H locs hX hS => ?_)
      obtain ⟨g_5, eg_5, hX⟩ := wx_nm hX
      refine lv_aload_n hx hb dX12_drop_31 rfl (lv_at hl 0 rfl) ?_
      refine lv_aload_n hx hb dX12_drop_32 rfl (lv_at hl 0 rfl) ?_
      refine wx_getr (t := 59) (C := RX12) (T := TX12) (N := 27) (ci := 11) (j := 1) hx hb hts hi_X12 hown hK hX (by decide) sh_X12_1 rfl (by decide) (hts (.fieldLink RX12 13 "SeenAgainModel" "items" "[I") (by decide +kernel)) (fun _ h9 => h9) dX12_drop_33 ?_
      refine lv_iload_n hx hb dX12_drop_36 rfl (lv_at hl 1 rfl) ?_
      refine wx_iald hx hb hK hX (by decide) sa_59 (wb_in b_2 (by decide) (by decide)) dX12_drop_37 ?_
      refine wx_callei (va_runV (As := [.int (g_5 59 a1.toNatClampNeg)]) (rest := []) ⟨hx, hb, hml, hown, hts⟩ (k_X12_did l g_5 (g_5 59 a1.toNatClampNeg)) (cwV 1 hts gX12_drop_X12_did rfl rfl rfl (by decide +kernel) (by rw [hR]; exact ⟨Nat.le_of_ble_eq_true rfl, Nat.le_of_ble_eq_true rfl⟩)) ⟨wx_Pc.blind, wx_recv hK hX (by decide) sh_X12 rfl, (wx_Pc.pre hK hX).2⟩ rfl rfl hl.1 rfl (lv_room (Nat.le_of_ble_eq_true rfl)) dX12_drop_38 ⟨Nat.zero_le _, Nat.zero_le _⟩) hS (fun H locs hX hS => ?_)
      obtain ⟨z_6, ez_6⟩ : ∃ z, z = f_X12_did g_5 (g_5 59 a1.toNatClampNeg) := ⟨_, rfl⟩
      rw [← ez_6] at hX; rw [← ez_6]
      exact hret _ _ _ _ _ _ dX12_drop_41 rfl hX hS (by subst ez_6 eg_5; simp only [f_X12_drop, if_neg c_1, if_pos c_3])
    · refine lv_aload_n hx hb dX12_drop_18 rfl (lv_at hl 0 rfl) ?_
      refine lv_iconst (v := 1) hx hb dX12_drop_19 (by decide) ?_
      refine wx_callei (va_runV (As := [.int 1]) (rest := []) ⟨hx, hb, hml, hown, hts⟩ (k_X12_finds l g 1) (cwV 1 hts gX12_drop_X12_finds rfl rfl rfl (by decide +kernel) (by rw [hR]; exact ⟨Nat.le_of_ble_eq_true rfl, Nat.le_of_ble_eq_true rfl⟩)) ⟨wx_Pc.blind, wx_recv hK hX (by decide) sh_X12 rfl, (wx_Pc.pre hK hX).2⟩ rfl rfl hl.1 rfl (lv_room (Nat.le_of_ble_eq_true rfl)) dX12_drop_20 ⟨Nat.zero_le _, Nat.zero_le _⟩) hS (fun H locs hX hS => ?_)
      obtain ⟨z_7, ez_7⟩ : ∃ z, z = f_X12_finds g 1 := ⟨_, rfl⟩
      rw [← ez_7] at hX; rw [← ez_7]
      exact hret _ _ _ _ _ _ dX12_drop_23 rfl hX hS (by subst ez_7; simp only [f_X12_drop, if_neg c_1, if_neg c_3])
  · have b_8 : wx_b (r_X12_isRow a1) 0 0 := by rw [c_1]; exact ⟨by decide, by decide⟩
    refine lv_ldc hx hb hown (hts (.constant RX12 60 (-1000001)) (by decide +kernel)) dX12_drop_7 ?_
    exact hret _ _ _ _ _ _ dX12_drop_9 rfl hX hS (by simp only [f_X12_drop, if_pos c_1])
def f_X12_feed (g : wx_M) (a1 : Int32) : wx_M × Int32 :=
  if (r_X12_in a1 0 255) = 0 then
    (g, (-1000001))
  else
    if (g 57 4) = 140 then
      (g, (-1000003))
    else
      let g_5 := up2 g 61 (g 57 4).toNatClampNeg a1
      let x_6 := ((g_5 57 4) + 1)
      let g_7 := up2 g_5 57 4 x_6
      let x_8 := (g_7 57 4)
      (g_7, x_8)
set_option maxHeartbeats 4000000 in
set_option maxRecDepth 100000 in
theorem k_X12_feed (l : Launch) {D : va_G} {cy : Nat → ClassId} {ad : Nat → Nat} {B0 : Nat} {f : wx_F} {P : va_W} (g : wx_M) (a1 : Int32) (hby : wx_b (g 57 4) 0 140) : Met l yX12_feed wsX12_feed ({ frames := 1, cells := 0, slots := 0, locals := 22 } : Room) (wx_Pc D cy ad B0 f P g [.ref (ad 57), .int a1]) (wx_Qe D cy ad B0 f P (f_X12_feed g a1).1 (some (.int (f_X12_feed g a1).2))) 0 0 (fun q => B0 ≤ q) := by
  refine wx_enterE (cc := cX12_feed) (maxL := 2) (ty := .int) (own := RX12) (lv := [(0, .ref (ad 57)), (1, .int a1)]) (by decide) rfl rfl (Nat.le_of_ble_eq_true rfl) rfl ?_
  intro p e R s m args below meth c ls Qm hx hb hml hown hts hK hX hS hR hret hl
  have hi_X12 : ∀ w ∈ wsX120, w ∈ wsX12_feed := by decide +kernel
  refine lv_iload_n hx hb dX12_feed_0 rfl (lv_at hl 1 rfl) ?_
  refine lv_iconst (v := 0) hx hb dX12_feed_1 (by decide) ?_
  refine lv_sipush (v := 255) hx hb dX12_feed_2 (by decide) ?_
  refine wx_callr (va_runS (As := [.int a1, .int 0, .int 255]) (rest := []) ⟨hx, hb, hml, hown, hts⟩ (k_X12_in l g a1 0 255) (va_cwS 3 hts gX12_feed_X12_in rfl rfl rfl (by decide +kernel) (by rw [hR]; exact ⟨Nat.le_of_ble_eq_true rfl, Nat.le_of_ble_eq_true rfl⟩)) (wx_Pc.pre hK hX) rfl rfl hl.1 rfl (lv_room (Nat.le_of_ble_eq_true rfl)) dX12_feed_5 ⟨Nat.zero_le _, Nat.zero_le _⟩) ?_
  refine lv_if_ne (tgt := 14) hx hb dX12_feed_8 (by decide) (fun c_1 => ?_) (fun c_1 => ?_)
  · have b_2 : wx_b a1 0 255 := rf_X12_in (show wx_b 0 0 0 from ⟨by decide, by decide⟩) (show wx_b 255 255 255 from ⟨by decide, by decide⟩) c_1
    refine lv_aload_n hx hb dX12_feed_14 rfl (lv_at hl 0 rfl) ?_
    refine wx_geti (C := RX12) (T := TX12) (N := 27) (ci := 11) (j := 4) hx hb hts hi_X12 hown hK hX (by decide) sh_X12_4 rfl (by decide) (hts (.fieldLink RX12 71 "SeenAgainModel" "bytes" "I") (by decide +kernel)) (fun _ h9 => h9) dX12_feed_15 ?_
    refine lv_sipush (v := 140) hx hb dX12_feed_18 (by decide) ?_
    refine lv_icmp_ne (tgt := 27) hx hb dX12_feed_21 (by decide) (fun c_3 => ?_) (fun c_3 => ?_)
    · have b_4 : wx_b (g 57 4) 0 139 := wb_neh c_3 hby (by decide)
      refine lv_aload_n hx hb dX12_feed_27 rfl (lv_at hl 0 rfl) ?_
      refine wx_getr (t := 61) (C := RX12) (T := TX12) (N := 27) (ci := 11) (j := 5) hx hb hts hi_X12 hown hK hX (by decide) sh_X12_5 rfl (by decide) (hts (.fieldLink RX12 19 "SeenAgainModel" "tape" "[I") (by decide +kernel)) (fun _ h9 => h9) dX12_feed_28 ?_
      refine lv_aload_n hx hb dX12_feed_31 rfl (lv_at hl 0 rfl) ?_
      refine wx_geti (C := RX12) (T := TX12) (N := 27) (ci := 11) (j := 4) hx hb hts hi_X12 hown hK hX (by decide) sh_X12_4 rfl (by decide) (hts (.fieldLink RX12 71 "SeenAgainModel" "bytes" "I") (by decide +kernel)) (fun _ h9 => h9) dX12_feed_32 ?_
      refine lv_iload_n hx hb dX12_feed_35 rfl (lv_at hl 1 rfl) ?_
      refine wx_iast hx hb hK hX hS (by decide) sa_61 (wb_in b_4 (by decide) (by decide)) dX12_feed_36 (fun H locs hX hS => ?_)
      obtain ⟨g_5, eg_5, hX⟩ := wx_nm hX
      refine lv_aload_n hx hb dX12_feed_37 rfl (lv_at hl 0 rfl) ?_
      refine lv_dup hx hb dX12_feed_38 rfl ?_
      refine wx_geti (C := RX12) (T := TX12) (N := 27) (ci := 11) (j := 4) hx hb hts hi_X12 hown hK hX (by decide) sh_X12_4 rfl (by decide) (hts (.fieldLink RX12 71 "SeenAgainModel" "bytes" "I") (by decide +kernel)) (fun _ h9 => h9) dX12_feed_39 ?_
      refine lv_iconst (v := 1) hx hb dX12_feed_42 (by decide) ?_
      refine lv_iadd hx hb dX12_feed_43 ?_
      refine lv_topi (fun x_6 ex_6 => ?_)
      have bx_6 : wx_b x_6 1 140 := by rw [ex_6]; exact (wb_add (show wx_b (g_5 57 4) 0 139 by rw [show (g_5 57 4) = (g 57 4) from (by rw [eg_5, up2_n (by decide)])]; exact b_4) (show wx_b 1 1 1 from ⟨by decide, by decide⟩) (by decide) (by decide))
      refine wx_puti (C := RX12) (T := TX12) (N := 27) (ci := 11) (j := 4) (ty := .int) hx hb hts hi_X12 tyX12 tyX12_ok nmX12 hown hK hX hS (by decide) sh_X12_4 rfl (by decide) (hts (.fieldLink RX12 71 "SeenAgainModel" "bytes" "I") (by decide +kernel)) (fun _ h9 => h9) rfl (by decide +kernel) rfl rfl dX12_feed_44 (fun H locs hX hS => ?_)
      obtain ⟨g_7, eg_7, hX⟩ := wx_nm hX
      refine lv_aload_n hx hb dX12_feed_47 rfl (lv_at hl 0 rfl) ?_
      refine wx_geti (C := RX12) (T := TX12) (N := 27) (ci := 11) (j := 4) hx hb hts hi_X12 hown hK hX (by decide) sh_X12_4 rfl (by decide) (hts (.fieldLink RX12 71 "SeenAgainModel" "bytes" "I") (by decide +kernel)) (fun _ h9 => h9) dX12_feed_48 ?_
      refine lv_topi (fun x_8 ex_8 => ?_)
      have bx_8 : wx_b x_8 1 140 := by rw [ex_8]; exact (show wx_b (g_7 57 4) 1 140 by rw [show (g_7 57 4) = x_6 from (by rw [eg_7, up2_ss])]; exact bx_6)
      exact hret _ _ _ _ _ _ dX12_feed_51 rfl hX hS (by subst ex_8 eg_7 ex_6 eg_5; simp only [f_X12_feed, if_neg c_1, if_neg c_3])
    · have b_9 : wx_b (g 57 4) 140 140 := by rw [c_3]; exact ⟨by decide, by decide⟩
      refine lv_ldc hx hb hown (hts (.constant RX12 74 (-1000003)) (by decide +kernel)) dX12_feed_24 ?_
      exact hret _ _ _ _ _ _ dX12_feed_26 rfl hX hS (by simp only [f_X12_feed, if_neg c_1, if_pos c_3])
  · have b_10 : wx_b (r_X12_in a1 0 255) 0 0 := by rw [c_1]; exact ⟨by decide, by decide⟩
    refine lv_ldc hx hb hown (hts (.constant RX12 60 (-1000001)) (by decide +kernel)) dX12_feed_11 ?_
    exact hret _ _ _ _ _ _ dX12_feed_13 rfl hX hS (by simp only [f_X12_feed, if_pos c_1])
def b_X12_note_12 (g : wx_M) (a1 : Int32) (a2 : Int32) (a3 : Int32) (a4 : Int32) (a5 : Int32) (t_12 : Nat) (s_12 : wx_M) : wx_M :=
  let x_21 := (s_12 68 ((nI t_12) + 5).toNatClampNeg)
  let g_22 := up2 s_12 68 (nI t_12).toNatClampNeg x_21
  g_22
def e_X12_note (g : wx_M) (a1 : Int32) (a2 : Int32) (a3 : Int32) (a4 : Int32) (a5 : Int32) : wx_M :=
  if (g 57 23) = 24 then
    let s_12 := rep 115 (b_X12_note_12 g a1 a2 a3 a4 a5) g
    let x_12 := ((s_12 57 23) - 1)
    let g_13 := up2 s_12 57 23 x_12
    let g_14 := up2 g_13 68 (5 * (g_13 57 23)).toNatClampNeg a1
    let g_15 := up2 g_14 68 ((5 * (g_14 57 23)) + 1).toNatClampNeg a2
    let g_16 := up2 g_15 68 ((5 * (g_15 57 23)) + 2).toNatClampNeg a3
    let g_17 := up2 g_16 68 ((5 * (g_16 57 23)) + 3).toNatClampNeg a4
    let g_18 := up2 g_17 68 ((5 * (g_17 57 23)) + 4).toNatClampNeg a5
    let x_19 := ((g_18 57 23) + 1)
    let g_20 := up2 g_18 57 23 x_19
    g_20
  else
    let g_3 := up2 g 68 (5 * (g 57 23)).toNatClampNeg a1
    let g_4 := up2 g_3 68 ((5 * (g_3 57 23)) + 1).toNatClampNeg a2
    let g_5 := up2 g_4 68 ((5 * (g_4 57 23)) + 2).toNatClampNeg a3
    let g_6 := up2 g_5 68 ((5 * (g_5 57 23)) + 3).toNatClampNeg a4
    let g_7 := up2 g_6 68 ((5 * (g_6 57 23)) + 4).toNatClampNeg a5
    let x_8 := ((g_7 57 23) + 1)
    let g_9 := up2 g_7 57 23 x_8
    g_9
set_option maxHeartbeats 4000000 in
set_option maxRecDepth 100000 in
theorem k_X12_note (l : Launch) {D : va_G} {cy : Nat → ClassId} {ad : Nat → Nat} {B0 : Nat} {f : wx_F} {P : va_W} (g : wx_M) (a1 : Int32) (a2 : Int32) (a3 : Int32) (a4 : Int32) (a5 : Int32) (hac : wx_b (g 57 23) 0 24) : Met l yX12_note wsX12_note ({ frames := 0, cells := 0, slots := 0, locals := 0 } : Room) (wx_Pc D cy ad B0 f P g [.ref (ad 57), .int a1, .int a2, .int a3, .int a4, .int a5]) (wx_Qe D cy ad B0 f P (e_X12_note g a1 a2 a3 a4 a5) none) 0 0 (fun q => B0 ≤ q) := by
  refine wx_enterV (cc := cX12_note) (maxL := 7) (own := RX12) (lv := [(0, .ref (ad 57)), (1, .int a1), (2, .int a2), (3, .int a3), (4, .int a4), (5, .int a5)]) (by decide) rfl rfl (Nat.le_of_ble_eq_true rfl) rfl ?_
  intro p e R s m args below meth c ls Qm hx hb hml hown hts hK hX hS hR hret hl
  have hi_X12 : ∀ w ∈ wsX120, w ∈ wsX12_note := by decide +kernel
  refine lv_aload_n hx hb dX12_note_0 rfl (lv_at hl 0 rfl) ?_
  refine wx_geti (C := RX12) (T := TX12) (N := 27) (ci := 11) (j := 23) hx hb hts hi_X12 hown hK hX (by decide) sh_X12_23 rfl (by decide) (hts (.fieldLink RX12 138 "SeenAgainModel" "acts" "I") (by decide +kernel)) (fun _ h9 => h9) dX12_note_1 ?_
  refine lv_bipush (v := 24) hx hb dX12_note_4 (by decide) ?_
  refine lv_icmp_ne (tgt := 51) hx hb dX12_note_6 (by decide) (fun c_1 => ?_) (fun c_1 => ?_)
  · have b_2 : wx_b (g 57 23) 0 23 := wb_neh c_1 hac (by decide)
    refine lv_aload_n hx hb dX12_note_51 rfl (lv_at hl 0 rfl) ?_
    refine wx_getr (t := 68) (C := RX12) (T := TX12) (N := 27) (ci := 11) (j := 24) hx hb hts hi_X12 hown hK hX (by decide) sh_X12_24 rfl (by decide) (hts (.fieldLink RX12 41 "SeenAgainModel" "act" "[I") (by decide +kernel)) (fun _ h9 => h9) dX12_note_52 ?_
    refine lv_iconst (v := 5) hx hb dX12_note_55 (by decide) ?_
    refine lv_aload_n hx hb dX12_note_56 rfl (lv_at hl 0 rfl) ?_
    refine wx_geti (C := RX12) (T := TX12) (N := 27) (ci := 11) (j := 23) hx hb hts hi_X12 hown hK hX (by decide) sh_X12_23 rfl (by decide) (hts (.fieldLink RX12 138 "SeenAgainModel" "acts" "I") (by decide +kernel)) (fun _ h9 => h9) dX12_note_57 ?_
    refine lv_imul hx hb dX12_note_60 ?_
    refine lv_iload_n hx hb dX12_note_61 rfl (lv_at hl 1 rfl) ?_
    refine wx_iast hx hb hK hX hS (by decide) sa_68 (wb_in (wb_mul (show wx_b 5 5 5 from ⟨by decide, by decide⟩) b_2 (by decide) (by decide) (by decide)) (by decide) (by decide)) dX12_note_62 (fun H locs hX hS => ?_)
    obtain ⟨g_3, eg_3, hX⟩ := wx_nm hX
    refine lv_aload_n hx hb dX12_note_63 rfl (lv_at hl 0 rfl) ?_
    refine wx_getr (t := 68) (C := RX12) (T := TX12) (N := 27) (ci := 11) (j := 24) hx hb hts hi_X12 hown hK hX (by decide) sh_X12_24 rfl (by decide) (hts (.fieldLink RX12 41 "SeenAgainModel" "act" "[I") (by decide +kernel)) (fun _ h9 => h9) dX12_note_64 ?_
    refine lv_iconst (v := 5) hx hb dX12_note_67 (by decide) ?_
    refine lv_aload_n hx hb dX12_note_68 rfl (lv_at hl 0 rfl) ?_
    refine wx_geti (C := RX12) (T := TX12) (N := 27) (ci := 11) (j := 23) hx hb hts hi_X12 hown hK hX (by decide) sh_X12_23 rfl (by decide) (hts (.fieldLink RX12 138 "SeenAgainModel" "acts" "I") (by decide +kernel)) (fun _ h9 => h9) dX12_note_69 ?_
    refine lv_imul hx hb dX12_note_72 ?_
    refine lv_iconst (v := 1) hx hb dX12_note_73 (by decide) ?_
    refine lv_iadd hx hb dX12_note_74 ?_
    refine lv_iload_n hx hb dX12_note_75 rfl (lv_at hl 2 rfl) ?_
    refine wx_iast hx hb hK hX hS (by decide) sa_68 (wb_in (wb_add (wb_mul (show wx_b 5 5 5 from ⟨by decide, by decide⟩) (show wx_b (g_3 57 23) 0 23 by rw [show (g_3 57 23) = (g 57 23) from (by rw [eg_3, up2_n (by decide)])]; exact b_2) (by decide) (by decide) (by decide)) (show wx_b 1 1 1 from ⟨by decide, by decide⟩) (by decide) (by decide)) (by decide) (by decide)) dX12_note_76 (fun H locs hX hS => ?_)
    obtain ⟨g_4, eg_4, hX⟩ := wx_nm hX
    refine lv_aload_n hx hb dX12_note_77 rfl (lv_at hl 0 rfl) ?_
    refine wx_getr (t := 68) (C := RX12) (T := TX12) (N := 27) (ci := 11) (j := 24) hx hb hts hi_X12 hown hK hX (by decide) sh_X12_24 rfl (by decide) (hts (.fieldLink RX12 41 "SeenAgainModel" "act" "[I") (by decide +kernel)) (fun _ h9 => h9) dX12_note_78 ?_
    refine lv_iconst (v := 5) hx hb dX12_note_81 (by decide) ?_
    refine lv_aload_n hx hb dX12_note_82 rfl (lv_at hl 0 rfl) ?_
    refine wx_geti (C := RX12) (T := TX12) (N := 27) (ci := 11) (j := 23) hx hb hts hi_X12 hown hK hX (by decide) sh_X12_23 rfl (by decide) (hts (.fieldLink RX12 138 "SeenAgainModel" "acts" "I") (by decide +kernel)) (fun _ h9 => h9) dX12_note_83 ?_
    refine lv_imul hx hb dX12_note_86 ?_
    refine lv_iconst (v := 2) hx hb dX12_note_87 (by decide) ?_
    refine lv_iadd hx hb dX12_note_88 ?_
    refine lv_iload_n hx hb dX12_note_89 rfl (lv_at hl 3 rfl) ?_
    refine wx_iast hx hb hK hX hS (by decide) sa_68 (wb_in (wb_add (wb_mul (show wx_b 5 5 5 from ⟨by decide, by decide⟩) (show wx_b (g_4 57 23) 0 23 by rw [show (g_4 57 23) = (g_3 57 23) from (by rw [eg_4, up2_n (by decide)])]; exact (show wx_b (g_3 57 23) 0 23 by rw [show (g_3 57 23) = (g 57 23) from (by rw [eg_3, up2_n (by decide)])]; exact b_2)) (by decide) (by decide) (by decide)) (show wx_b 2 2 2 from ⟨by decide, by decide⟩) (by decide) (by decide)) (by decide) (by decide)) dX12_note_90 (fun H locs hX hS => ?_)
    obtain ⟨g_5, eg_5, hX⟩ := wx_nm hX
    refine lv_aload_n hx hb dX12_note_91 rfl (lv_at hl 0 rfl) ?_
    refine wx_getr (t := 68) (C := RX12) (T := TX12) (N := 27) (ci := 11) (j := 24) hx hb hts hi_X12 hown hK hX (by decide) sh_X12_24 rfl (by decide) (hts (.fieldLink RX12 41 "SeenAgainModel" "act" "[I") (by decide +kernel)) (fun _ h9 => h9) dX12_note_92 ?_
    refine lv_iconst (v := 5) hx hb dX12_note_95 (by decide) ?_
    refine lv_aload_n hx hb dX12_note_96 rfl (lv_at hl 0 rfl) ?_
    refine wx_geti (C := RX12) (T := TX12) (N := 27) (ci := 11) (j := 23) hx hb hts hi_X12 hown hK hX (by decide) sh_X12_23 rfl (by decide) (hts (.fieldLink RX12 138 "SeenAgainModel" "acts" "I") (by decide +kernel)) (fun _ h9 => h9) dX12_note_97 ?_
    refine lv_imul hx hb dX12_note_100 ?_
    refine lv_iconst (v := 3) hx hb dX12_note_101 (by decide) ?_
    refine lv_iadd hx hb dX12_note_102 ?_
    refine lv_iload hx hb dX12_note_103 (lv_at hl 4 rfl) ?_
    refine wx_iast hx hb hK hX hS (by decide) sa_68 (wb_in (wb_add (wb_mul (show wx_b 5 5 5 from ⟨by decide, by decide⟩) (show wx_b (g_5 57 23) 0 23 by rw [show (g_5 57 23) = (g_4 57 23) from (by rw [eg_5, up2_n (by decide)])]; exact (show wx_b (g_4 57 23) 0 23 by rw [show (g_4 57 23) = (g_3 57 23) from (by rw [eg_4, up2_n (by decide)])]; exact (show wx_b (g_3 57 23) 0 23 by rw [show (g_3 57 23) = (g 57 23) from (by rw [eg_3, up2_n (by decide)])]; exact b_2))) (by decide) (by decide) (by decide)) (show wx_b 3 3 3 from ⟨by decide, by decide⟩) (by decide) (by decide)) (by decide) (by decide)) dX12_note_105 (fun H locs hX hS => ?_)
    obtain ⟨g_6, eg_6, hX⟩ := wx_nm hX
    refine lv_aload_n hx hb dX12_note_106 rfl (lv_at hl 0 rfl) ?_
    refine wx_getr (t := 68) (C := RX12) (T := TX12) (N := 27) (ci := 11) (j := 24) hx hb hts hi_X12 hown hK hX (by decide) sh_X12_24 rfl (by decide) (hts (.fieldLink RX12 41 "SeenAgainModel" "act" "[I") (by decide +kernel)) (fun _ h9 => h9) dX12_note_107 ?_
    refine lv_iconst (v := 5) hx hb dX12_note_110 (by decide) ?_
    refine lv_aload_n hx hb dX12_note_111 rfl (lv_at hl 0 rfl) ?_
    refine wx_geti (C := RX12) (T := TX12) (N := 27) (ci := 11) (j := 23) hx hb hts hi_X12 hown hK hX (by decide) sh_X12_23 rfl (by decide) (hts (.fieldLink RX12 138 "SeenAgainModel" "acts" "I") (by decide +kernel)) (fun _ h9 => h9) dX12_note_112 ?_
    refine lv_imul hx hb dX12_note_115 ?_
    refine lv_iconst (v := 4) hx hb dX12_note_116 (by decide) ?_
    refine lv_iadd hx hb dX12_note_117 ?_
    refine lv_iload hx hb dX12_note_118 (lv_at hl 5 rfl) ?_
    refine wx_iast hx hb hK hX hS (by decide) sa_68 (wb_in (wb_add (wb_mul (show wx_b 5 5 5 from ⟨by decide, by decide⟩) (show wx_b (g_6 57 23) 0 23 by rw [show (g_6 57 23) = (g_5 57 23) from (by rw [eg_6, up2_n (by decide)])]; exact (show wx_b (g_5 57 23) 0 23 by rw [show (g_5 57 23) = (g_4 57 23) from (by rw [eg_5, up2_n (by decide)])]; exact (show wx_b (g_4 57 23) 0 23 by rw [show (g_4 57 23) = (g_3 57 23) from (by rw [eg_4, up2_n (by decide)])]; exact (show wx_b (g_3 57 23) 0 23 by rw [show (g_3 57 23) = (g 57 23) from (by rw [eg_3, up2_n (by decide)])]; exact b_2)))) (by decide) (by decide) (by decide)) (show wx_b 4 4 4 from ⟨by decide, by decide⟩) (by decide) (by decide)) (by decide) (by decide)) dX12_note_120 (fun H locs hX hS => ?_)
    obtain ⟨g_7, eg_7, hX⟩ := wx_nm hX
    refine lv_aload_n hx hb dX12_note_121 rfl (lv_at hl 0 rfl) ?_
    refine lv_dup hx hb dX12_note_122 rfl ?_
    refine wx_geti (C := RX12) (T := TX12) (N := 27) (ci := 11) (j := 23) hx hb hts hi_X12 hown hK hX (by decide) sh_X12_23 rfl (by decide) (hts (.fieldLink RX12 138 "SeenAgainModel" "acts" "I") (by decide +kernel)) (fun _ h9 => h9) dX12_note_123 ?_
    refine lv_iconst (v := 1) hx hb dX12_note_126 (by decide) ?_
    refine lv_iadd hx hb dX12_note_127 ?_
    refine lv_topi (fun x_8 ex_8 => ?_)
    have bx_8 : wx_b x_8 1 24 := by rw [ex_8]; exact (wb_add (show wx_b (g_7 57 23) 0 23 by rw [show (g_7 57 23) = (g_6 57 23) from (by rw [eg_7, up2_n (by decide)])]; exact (show wx_b (g_6 57 23) 0 23 by rw [show (g_6 57 23) = (g_5 57 23) from (by rw [eg_6, up2_n (by decide)])]; exact (show wx_b (g_5 57 23) 0 23 by rw [show (g_5 57 23) = (g_4 57 23) from (by rw [eg_5, up2_n (by decide)])]; exact (show wx_b (g_4 57 23) 0 23 by rw [show (g_4 57 23) = (g_3 57 23) from (by rw [eg_4, up2_n (by decide)])]; exact (show wx_b (g_3 57 23) 0 23 by rw [show (g_3 57 23) = (g 57 23) from (by rw [eg_3, up2_n (by decide)])]; exact b_2))))) (show wx_b 1 1 1 from ⟨by decide, by decide⟩) (by decide) (by decide))
    refine wx_puti (C := RX12) (T := TX12) (N := 27) (ci := 11) (j := 23) (ty := .int) hx hb hts hi_X12 tyX12 tyX12_ok nmX12 hown hK hX hS (by decide) sh_X12_23 rfl (by decide) (hts (.fieldLink RX12 138 "SeenAgainModel" "acts" "I") (by decide +kernel)) (fun _ h9 => h9) rfl (by decide +kernel) rfl rfl dX12_note_128 (fun H locs hX hS => ?_)
    obtain ⟨g_9, eg_9, hX⟩ := wx_nm hX
    exact hret _ _ _ _ _ dX12_note_131 hX hS (by subst eg_9 ex_8 eg_7 eg_6 eg_5 eg_4 eg_3; simp only [e_X12_note, if_neg c_1])
  · have b_10 : wx_b (g 57 23) 24 24 := by rw [c_1]; exact ⟨by decide, by decide⟩
    refine lv_iconst (v := 0) hx hb dX12_note_9 (by decide) ?_
    refine lv_istore (lv' := [(6, .int 0), (0, .ref (ad 57)), (1, .int a1), (2, .int a2), (3, .int a3), (4, .int a4), (5, .int a5)]) hx hb dX12_note_10 hl (by decide) rfl (fun ls hl => ?_)
    have lp_12 : ∀ (n t_12 : Nat) (s_12 : wx_M) (ls : Array Slot) (H : Heap) (locs : List Loc), t_12 ≤ 115 → 115 + 1 ≤ t_12 + n → s_12 = rep t_12 (b_X12_note_12 g a1 a2 a3 a4 a5) g → wx_X D cy ad B0 f P s_12 H → va_S (fun q => B0 ≤ q) s.heap H locs → wx_b (s_12 57 23) 24 24 → lv_has ls 7 [(6, .int (nI t_12)), (0, .ref (ad 57)), (1, .int a1), (2, .int a2), (3, .int a3), (4, .int a4), (5, .int a5)] → W p l e R s m args below meth c H locs 0 0 Qm (F0 m 12 ls []) := by
      intro n
      induction n with
      | zero => intro t_12 s_12 ls H locs h1 h2; exact absurd h2 (by omega)
      | succ n ih_12 =>
        intro t_12 s_12 ls H locs ht_12 hn_12 es_12 hX hS hacI_12 hl
        refine lv_iload hx hb dX12_note_12 (lv_at hl 0 rfl) ?_
        refine lv_bipush (v := 115) hx hb dX12_note_14 (by decide) ?_
        refine lv_icmp_ge (tgt := 41) hx hb dX12_note_16 (by decide) (fun c_11 => ?_) (fun c_11 => ?_)
        · have et_12 : t_12 = 115 := Nat.le_antisymm ht_12 (by have h9 := wx_dn (by omega) c_11; have h8 : (115 : Int32).toNatClampNeg = 115 := (by decide); omega)
          subst et_12
          refine lv_aload_n hx hb dX12_note_41 rfl (lv_at hl 1 rfl) ?_
          refine lv_dup hx hb dX12_note_42 rfl ?_
          refine wx_geti (C := RX12) (T := TX12) (N := 27) (ci := 11) (j := 23) hx hb hts hi_X12 hown hK hX (by decide) sh_X12_23 rfl (by decide) (hts (.fieldLink RX12 138 "SeenAgainModel" "acts" "I") (by decide +kernel)) (fun _ h9 => h9) dX12_note_43 ?_
          refine lv_iconst (v := 1) hx hb dX12_note_46 (by decide) ?_
          refine lv_isub hx hb dX12_note_47 ?_
          refine lv_topi (fun x_12 ex_12 => ?_)
          have bx_12 : wx_b x_12 23 23 := by rw [ex_12]; exact (wb_sub hacI_12 (show wx_b 1 1 1 from ⟨by decide, by decide⟩) (by decide) (by decide))
          refine wx_puti (C := RX12) (T := TX12) (N := 27) (ci := 11) (j := 23) (ty := .int) hx hb hts hi_X12 tyX12 tyX12_ok nmX12 hown hK hX hS (by decide) sh_X12_23 rfl (by decide) (hts (.fieldLink RX12 138 "SeenAgainModel" "acts" "I") (by decide +kernel)) (fun _ h9 => h9) rfl (by decide +kernel) rfl rfl dX12_note_48 (fun H locs hX hS => ?_)
          obtain ⟨g_13, eg_13, hX⟩ := wx_nm hX
          refine lv_aload_n hx hb dX12_note_51 rfl (lv_at hl 1 rfl) ?_
          refine wx_getr (t := 68) (C := RX12) (T := TX12) (N := 27) (ci := 11) (j := 24) hx hb hts hi_X12 hown hK hX (by decide) sh_X12_24 rfl (by decide) (hts (.fieldLink RX12 41 "SeenAgainModel" "act" "[I") (by decide +kernel)) (fun _ h9 => h9) dX12_note_52 ?_
          refine lv_iconst (v := 5) hx hb dX12_note_55 (by decide) ?_
          refine lv_aload_n hx hb dX12_note_56 rfl (lv_at hl 1 rfl) ?_
          refine wx_geti (C := RX12) (T := TX12) (N := 27) (ci := 11) (j := 23) hx hb hts hi_X12 hown hK hX (by decide) sh_X12_23 rfl (by decide) (hts (.fieldLink RX12 138 "SeenAgainModel" "acts" "I") (by decide +kernel)) (fun _ h9 => h9) dX12_note_57 ?_
          refine lv_imul hx hb dX12_note_60 ?_
          refine lv_iload_n hx hb dX12_note_61 rfl (lv_at hl 2 rfl) ?_
          refine wx_iast hx hb hK hX hS (by decide) sa_68 (wb_in (wb_mul (show wx_b 5 5 5 from ⟨by decide, by decide⟩) (show wx_b (g_13 57 23) 23 23 by rw [show (g_13 57 23) = x_12 from (by rw [eg_13, up2_ss])]; exact bx_12) (by decide) (by decide) (by decide)) (by decide) (by decide)) dX12_note_62 (fun H locs hX hS => ?_)
          obtain ⟨g_14, eg_14, hX⟩ := wx_nm hX
          refine lv_aload_n hx hb dX12_note_63 rfl (lv_at hl 1 rfl) ?_
          refine wx_getr (t := 68) (C := RX12) (T := TX12) (N := 27) (ci := 11) (j := 24) hx hb hts hi_X12 hown hK hX (by decide) sh_X12_24 rfl (by decide) (hts (.fieldLink RX12 41 "SeenAgainModel" "act" "[I") (by decide +kernel)) (fun _ h9 => h9) dX12_note_64 ?_
          refine lv_iconst (v := 5) hx hb dX12_note_67 (by decide) ?_
          refine lv_aload_n hx hb dX12_note_68 rfl (lv_at hl 1 rfl) ?_
          refine wx_geti (C := RX12) (T := TX12) (N := 27) (ci := 11) (j := 23) hx hb hts hi_X12 hown hK hX (by decide) sh_X12_23 rfl (by decide) (hts (.fieldLink RX12 138 "SeenAgainModel" "acts" "I") (by decide +kernel)) (fun _ h9 => h9) dX12_note_69 ?_
          refine lv_imul hx hb dX12_note_72 ?_
          refine lv_iconst (v := 1) hx hb dX12_note_73 (by decide) ?_
          refine lv_iadd hx hb dX12_note_74 ?_
          refine lv_iload_n hx hb dX12_note_75 rfl (lv_at hl 3 rfl) ?_
          refine wx_iast hx hb hK hX hS (by decide) sa_68 (wb_in (wb_add (wb_mul (show wx_b 5 5 5 from ⟨by decide, by decide⟩) (show wx_b (g_14 57 23) 23 23 by rw [show (g_14 57 23) = (g_13 57 23) from (by rw [eg_14, up2_n (by decide)])]; exact (show wx_b (g_13 57 23) 23 23 by rw [show (g_13 57 23) = x_12 from (by rw [eg_13, up2_ss])]; exact bx_12)) (by decide) (by decide) (by decide)) (show wx_b 1 1 1 from ⟨by decide, by decide⟩) (by decide) (by decide)) (by decide) (by decide)) dX12_note_76 (fun H locs hX hS => ?_)
          obtain ⟨g_15, eg_15, hX⟩ := wx_nm hX
          refine lv_aload_n hx hb dX12_note_77 rfl (lv_at hl 1 rfl) ?_
          refine wx_getr (t := 68) (C := RX12) (T := TX12) (N := 27) (ci := 11) (j := 24) hx hb hts hi_X12 hown hK hX (by decide) sh_X12_24 rfl (by decide) (hts (.fieldLink RX12 41 "SeenAgainModel" "act" "[I") (by decide +kernel)) (fun _ h9 => h9) dX12_note_78 ?_
          refine lv_iconst (v := 5) hx hb dX12_note_81 (by decide) ?_
          refine lv_aload_n hx hb dX12_note_82 rfl (lv_at hl 1 rfl) ?_
          refine wx_geti (C := RX12) (T := TX12) (N := 27) (ci := 11) (j := 23) hx hb hts hi_X12 hown hK hX (by decide) sh_X12_23 rfl (by decide) (hts (.fieldLink RX12 138 "SeenAgainModel" "acts" "I") (by decide +kernel)) (fun _ h9 => h9) dX12_note_83 ?_
          refine lv_imul hx hb dX12_note_86 ?_
          refine lv_iconst (v := 2) hx hb dX12_note_87 (by decide) ?_
          refine lv_iadd hx hb dX12_note_88 ?_
          refine lv_iload_n hx hb dX12_note_89 rfl (lv_at hl 4 rfl) ?_
          refine wx_iast hx hb hK hX hS (by decide) sa_68 (wb_in (wb_add (wb_mul (show wx_b 5 5 5 from ⟨by decide, by decide⟩) (show wx_b (g_15 57 23) 23 23 by rw [show (g_15 57 23) = (g_14 57 23) from (by rw [eg_15, up2_n (by decide)])]; exact (show wx_b (g_14 57 23) 23 23 by rw [show (g_14 57 23) = (g_13 57 23) from (by rw [eg_14, up2_n (by decide)])]; exact (show wx_b (g_13 57 23) 23 23 by rw [show (g_13 57 23) = x_12 from (by rw [eg_13, up2_ss])]; exact bx_12))) (by decide) (by decide) (by decide)) (show wx_b 2 2 2 from ⟨by decide, by decide⟩) (by decide) (by decide)) (by decide) (by decide)) dX12_note_90 (fun H locs hX hS => ?_)
          obtain ⟨g_16, eg_16, hX⟩ := wx_nm hX
          refine lv_aload_n hx hb dX12_note_91 rfl (lv_at hl 1 rfl) ?_
          refine wx_getr (t := 68) (C := RX12) (T := TX12) (N := 27) (ci := 11) (j := 24) hx hb hts hi_X12 hown hK hX (by decide) sh_X12_24 rfl (by decide) (hts (.fieldLink RX12 41 "SeenAgainModel" "act" "[I") (by decide +kernel)) (fun _ h9 => h9) dX12_note_92 ?_
          refine lv_iconst (v := 5) hx hb dX12_note_95 (by decide) ?_
          refine lv_aload_n hx hb dX12_note_96 rfl (lv_at hl 1 rfl) ?_
          refine wx_geti (C := RX12) (T := TX12) (N := 27) (ci := 11) (j := 23) hx hb hts hi_X12 hown hK hX (by decide) sh_X12_23 rfl (by decide) (hts (.fieldLink RX12 138 "SeenAgainModel" "acts" "I") (by decide +kernel)) (fun _ h9 => h9) dX12_note_97 ?_
          refine lv_imul hx hb dX12_note_100 ?_
          refine lv_iconst (v := 3) hx hb dX12_note_101 (by decide) ?_
          refine lv_iadd hx hb dX12_note_102 ?_
          refine lv_iload hx hb dX12_note_103 (lv_at hl 5 rfl) ?_
          refine wx_iast hx hb hK hX hS (by decide) sa_68 (wb_in (wb_add (wb_mul (show wx_b 5 5 5 from ⟨by decide, by decide⟩) (show wx_b (g_16 57 23) 23 23 by rw [show (g_16 57 23) = (g_15 57 23) from (by rw [eg_16, up2_n (by decide)])]; exact (show wx_b (g_15 57 23) 23 23 by rw [show (g_15 57 23) = (g_14 57 23) from (by rw [eg_15, up2_n (by decide)])]; exact (show wx_b (g_14 57 23) 23 23 by rw [show (g_14 57 23) = (g_13 57 23) from (by rw [eg_14, up2_n (by decide)])]; exact (show wx_b (g_13 57 23) 23 23 by rw [show (g_13 57 23) = x_12 from (by rw [eg_13, up2_ss])]; exact bx_12)))) (by decide) (by decide) (by decide)) (show wx_b 3 3 3 from ⟨by decide, by decide⟩) (by decide) (by decide)) (by decide) (by decide)) dX12_note_105 (fun H locs hX hS => ?_)
          obtain ⟨g_17, eg_17, hX⟩ := wx_nm hX
          refine lv_aload_n hx hb dX12_note_106 rfl (lv_at hl 1 rfl) ?_
          refine wx_getr (t := 68) (C := RX12) (T := TX12) (N := 27) (ci := 11) (j := 24) hx hb hts hi_X12 hown hK hX (by decide) sh_X12_24 rfl (by decide) (hts (.fieldLink RX12 41 "SeenAgainModel" "act" "[I") (by decide +kernel)) (fun _ h9 => h9) dX12_note_107 ?_
          refine lv_iconst (v := 5) hx hb dX12_note_110 (by decide) ?_
          refine lv_aload_n hx hb dX12_note_111 rfl (lv_at hl 1 rfl) ?_
          refine wx_geti (C := RX12) (T := TX12) (N := 27) (ci := 11) (j := 23) hx hb hts hi_X12 hown hK hX (by decide) sh_X12_23 rfl (by decide) (hts (.fieldLink RX12 138 "SeenAgainModel" "acts" "I") (by decide +kernel)) (fun _ h9 => h9) dX12_note_112 ?_
          refine lv_imul hx hb dX12_note_115 ?_
          refine lv_iconst (v := 4) hx hb dX12_note_116 (by decide) ?_
          refine lv_iadd hx hb dX12_note_117 ?_
          refine lv_iload hx hb dX12_note_118 (lv_at hl 6 rfl) ?_
          refine wx_iast hx hb hK hX hS (by decide) sa_68 (wb_in (wb_add (wb_mul (show wx_b 5 5 5 from ⟨by decide, by decide⟩) (show wx_b (g_17 57 23) 23 23 by rw [show (g_17 57 23) = (g_16 57 23) from (by rw [eg_17, up2_n (by decide)])]; exact (show wx_b (g_16 57 23) 23 23 by rw [show (g_16 57 23) = (g_15 57 23) from (by rw [eg_16, up2_n (by decide)])]; exact (show wx_b (g_15 57 23) 23 23 by rw [show (g_15 57 23) = (g_14 57 23) from (by rw [eg_15, up2_n (by decide)])]; exact (show wx_b (g_14 57 23) 23 23 by rw [show (g_14 57 23) = (g_13 57 23) from (by rw [eg_14, up2_n (by decide)])]; exact (show wx_b (g_13 57 23) 23 23 by rw [show (g_13 57 23) = x_12 from (by rw [eg_13, up2_ss])]; exact bx_12))))) (by decide) (by decide) (by decide)) (show wx_b 4 4 4 from ⟨by decide, by decide⟩) (by decide) (by decide)) (by decide) (by decide)) dX12_note_120 (fun H locs hX hS => ?_)
          obtain ⟨g_18, eg_18, hX⟩ := wx_nm hX
          refine lv_aload_n hx hb dX12_note_121 rfl (lv_at hl 1 rfl) ?_
          refine lv_dup hx hb dX12_note_122 rfl ?_
          refine wx_geti (C := RX12) (T := TX12) (N := 27) (ci := 11) (j := 23) hx hb hts hi_X12 hown hK hX (by decide) sh_X12_23 rfl (by decide) (hts (.fieldLink RX12 138 "SeenAgainModel" "acts" "I") (by decide +kernel)) (fun _ h9 => h9) dX12_note_123 ?_
          refine lv_iconst (v := 1) hx hb dX12_note_126 (by decide) ?_
          refine lv_iadd hx hb dX12_note_127 ?_
          refine lv_topi (fun x_19 ex_19 => ?_)
          have bx_19 : wx_b x_19 24 24 := by rw [ex_19]; exact (wb_add (show wx_b (g_18 57 23) 23 23 by rw [show (g_18 57 23) = (g_17 57 23) from (by rw [eg_18, up2_n (by decide)])]; exact (show wx_b (g_17 57 23) 23 23 by rw [show (g_17 57 23) = (g_16 57 23) from (by rw [eg_17, up2_n (by decide)])]; exact (show wx_b (g_16 57 23) 23 23 by rw [show (g_16 57 23) = (g_15 57 23) from (by rw [eg_16, up2_n (by decide)])]; exact (show wx_b (g_15 57 23) 23 23 by rw [show (g_15 57 23) = (g_14 57 23) from (by rw [eg_15, up2_n (by decide)])]; exact (show wx_b (g_14 57 23) 23 23 by rw [show (g_14 57 23) = (g_13 57 23) from (by rw [eg_14, up2_n (by decide)])]; exact (show wx_b (g_13 57 23) 23 23 by rw [show (g_13 57 23) = x_12 from (by rw [eg_13, up2_ss])]; exact bx_12)))))) (show wx_b 1 1 1 from ⟨by decide, by decide⟩) (by decide) (by decide))
          refine wx_puti (C := RX12) (T := TX12) (N := 27) (ci := 11) (j := 23) (ty := .int) hx hb hts hi_X12 tyX12 tyX12_ok nmX12 hown hK hX hS (by decide) sh_X12_23 rfl (by decide) (hts (.fieldLink RX12 138 "SeenAgainModel" "acts" "I") (by decide +kernel)) (fun _ h9 => h9) rfl (by decide +kernel) rfl rfl dX12_note_128 (fun H locs hX hS => ?_)
          obtain ⟨g_20, eg_20, hX⟩ := wx_nm hX
          exact hret _ _ _ _ _ dX12_note_131 hX hS (by subst eg_20 ex_19 eg_18 eg_17 eg_16 eg_15 eg_14 eg_13 ex_12; simp only [e_X12_note, if_pos c_1, ← es_12])
        · have hlt_12 : t_12 < 115 := by have h9 := wx_up (by omega) c_11; have h8 : (115 : Int32).toNatClampNeg = 115 := (by decide); omega
          have bt_12 : wx_b (nI (t_12)) 0 114 := wb_nI (n := 114) (by omega) (by decide)
          refine lv_aload_n hx hb dX12_note_19 rfl (lv_at hl 1 rfl) ?_
          refine wx_getr (t := 68) (C := RX12) (T := TX12) (N := 27) (ci := 11) (j := 24) hx hb hts hi_X12 hown hK hX (by decide) sh_X12_24 rfl (by decide) (hts (.fieldLink RX12 41 "SeenAgainModel" "act" "[I") (by decide +kernel)) (fun _ h9 => h9) dX12_note_20 ?_
          refine lv_iload hx hb dX12_note_23 (lv_at hl 0 rfl) ?_
          refine lv_aload_n hx hb dX12_note_25 rfl (lv_at hl 1 rfl) ?_
          refine wx_getr (t := 68) (C := RX12) (T := TX12) (N := 27) (ci := 11) (j := 24) hx hb hts hi_X12 hown hK hX (by decide) sh_X12_24 rfl (by decide) (hts (.fieldLink RX12 41 "SeenAgainModel" "act" "[I") (by decide +kernel)) (fun _ h9 => h9) dX12_note_26 ?_
          refine lv_iload hx hb dX12_note_29 (lv_at hl 0 rfl) ?_
          refine lv_iconst (v := 5) hx hb dX12_note_31 (by decide) ?_
          refine lv_iadd hx hb dX12_note_32 ?_
          refine wx_iald hx hb hK hX (by decide) sa_68 (wb_in (wb_add bt_12 (show wx_b 5 5 5 from ⟨by decide, by decide⟩) (by decide) (by decide)) (by decide) (by decide)) dX12_note_33 ?_
          refine lv_topi (fun x_21 ex_21 => ?_)
          refine wx_iast hx hb hK hX hS (by decide) sa_68 (wb_in bt_12 (by decide) (by decide)) dX12_note_34 (fun H locs hX hS => ?_)
          obtain ⟨g_22, eg_22, hX⟩ := wx_nm hX
          refine lv_iinc (v := nI (t_12 + 1)) (lv' := [(6, .int (nI (t_12 + 1))), (0, .ref (ad 57)), (1, .int a1), (2, .int a2), (3, .int a3), (4, .int a4), (5, .int a5)]) hx hb dX12_note_35 hl (k := 0) rfl (wx_inc _) (by decide) rfl (fun ls hl => ?_)
          refine lv_goto (tgt := 12) hx hb dX12_note_38 (by decide) ?_
          have hF_23 : (b_X12_note_12 g a1 a2 a3 a4 a5) t_12 s_12 = g_22 := (by subst eg_22 ex_21; simp only [b_X12_note_12])
          exact ih_12 (t_12 + 1) g_22 ls H locs hlt_12 (by omega) (by rw [rep_succ, ← es_12, hF_23]) hX hS (wb_w (show wx_b (g_22 57 23) 24 24 by rw [show (g_22 57 23) = (s_12 57 23) from (by rw [eg_22, up2_n (by decide)])]; exact hacI_12) (by decide) (by decide)) (lv_sub hl [0, 1, 2, 3, 4, 5, 6] rfl)
    exact lp_12 (115 + 1) 0 g ls s.heap [] (Nat.zero_le _) (by omega) rfl hX hS (wb_w b_10 (by decide) (by decide)) (lv_sub hl [0, 1, 2, 3, 4, 5, 6] rfl)
def f_X12_buy (g : wx_M) (a1 : Int32) (a2 : Int32) (a3 : Int32) : wx_M × Int32 :=
  if (r_X12_isSeat g a1 a2 a3) = 0 then
    (g, (-1000001))
  else
    if (r_X12_has (r_X12_heldAt g a2 a3) a1) = 0 then
      let x_7 := (r_X12_priceOf g a1 a2 a3)
      if (r_X12_isLeft g a2 a3) = 0 then
        (g, (-1000003))
      else
        if (r_X12_soldOfAll g) = 24 then
          (g, (-1000003))
        else
          if x_7 ≤ (g 65 (47 + a1).toNatClampNeg) then
            let g_13 := e_X12_note g 0 a1 a2 a3 (g 65 (47 + a1).toNatClampNeg)
            let x_14 := ((g_13 65 (47 + a1).toNatClampNeg) - x_7)
            let g_15 := up2 g_13 65 (47 + a1).toNatClampNeg x_14
            let x_16 := ((g_15 65 ((100 + (6 * a3)) + a2).toNatClampNeg) ||| (1 <<< (a1 &&& 31)))
            let g_17 := up2 g_15 65 ((100 + (6 * a3)) + a2).toNatClampNeg x_16
            (g_17, x_7)
          else
            (g, (-1000003))
    else
      (g, (-1000002))
set_option maxHeartbeats 4000000 in
set_option maxRecDepth 100000 in
theorem k_X12_buy (l : Launch) {D : va_G} {cy : Nat → ClassId} {ad : Nat → Nat} {B0 : Nat} {f : wx_F} {P : va_W} (g : wx_M) (a1 : Int32) (a2 : Int32) (a3 : Int32) (hm : wx_MB g) (hac : wx_b (g 57 23) 0 24) : Met l yX12_buy wsX12_buy ({ frames := 3, cells := 0, slots := 0, locals := 66 } : Room) (wx_Pc D cy ad B0 f P g [.ref (ad 57), .int a1, .int a2, .int a3]) (wx_Qe D cy ad B0 f P (f_X12_buy g a1 a2 a3).1 (some (.int (f_X12_buy g a1 a2 a3).2))) 0 0 (fun q => B0 ≤ q) := by
  refine wx_enterE (cc := cX12_buy) (maxL := 5) (ty := .int) (own := RX12) (lv := [(0, .ref (ad 57)), (1, .int a1), (2, .int a2), (3, .int a3)]) (by decide) rfl rfl (Nat.le_of_ble_eq_true rfl) rfl ?_
  intro p e R s m args below meth c ls Qm hx hb hml hown hts hK hX hS hR hret hl
  have hi_X12 : ∀ w ∈ wsX120, w ∈ wsX12_buy := by decide +kernel
  refine lv_aload_n hx hb dX12_buy_0 rfl (lv_at hl 0 rfl) ?_
  refine lv_iload_n hx hb dX12_buy_1 rfl (lv_at hl 1 rfl) ?_
  refine lv_iload_n hx hb dX12_buy_2 rfl (lv_at hl 2 rfl) ?_
  refine lv_iload_n hx hb dX12_buy_3 rfl (lv_at hl 3 rfl) ?_
  refine wx_callr (va_runV (As := [.int a1, .int a2, .int a3]) (rest := []) ⟨hx, hb, hml, hown, hts⟩ (k_X12_isSeat l g a1 a2 a3) (cwV 3 hts gX12_buy_X12_isSeat rfl rfl rfl (by decide +kernel) (by rw [hR]; exact ⟨Nat.le_of_ble_eq_true rfl, Nat.le_of_ble_eq_true rfl⟩)) ⟨wx_Pc.blind, wx_recv hK hX (by decide) sh_X12 rfl, (wx_Pc.pre hK hX).2⟩ rfl rfl hl.1 rfl (lv_room (Nat.le_of_ble_eq_true rfl)) dX12_buy_4 ⟨Nat.zero_le _, Nat.zero_le _⟩) ?_
  refine lv_if_ne (tgt := 13) hx hb dX12_buy_7 (by decide) (fun c_1 => ?_) (fun c_1 => ?_)
  · have b_2 : wx_b a1 0 3 := rf_X12_isSeat1 hm c_1
    have b_3 : wx_b a2 0 5 := rf_X12_isSeat2 hm c_1
    have b_4 : wx_b a3 0 7 := rf_X12_isSeat3 hm c_1
    refine lv_aload_n hx hb dX12_buy_13 rfl (lv_at hl 0 rfl) ?_
    refine lv_iload_n hx hb dX12_buy_14 rfl (lv_at hl 2 rfl) ?_
    refine lv_iload_n hx hb dX12_buy_15 rfl (lv_at hl 3 rfl) ?_
    refine wx_callr (va_runV (As := [.int a2, .int a3]) (rest := []) ⟨hx, hb, hml, hown, hts⟩ (k_X12_heldAt l g a2 a3 b_3 b_4) (cwV 2 hts gX12_buy_X12_heldAt rfl rfl rfl (by decide +kernel) (by rw [hR]; exact ⟨Nat.le_of_ble_eq_true rfl, Nat.le_of_ble_eq_true rfl⟩)) ⟨wx_Pc.blind, wx_recv hK hX (by decide) sh_X12 rfl, (wx_Pc.pre hK hX).2⟩ rfl rfl hl.1 rfl (lv_room (Nat.le_of_ble_eq_true rfl)) dX12_buy_16 ⟨Nat.zero_le _, Nat.zero_le _⟩) ?_
    refine lv_iload_n hx hb dX12_buy_19 rfl (lv_at hl 1 rfl) ?_
    refine wx_callr (va_runS (As := [.int (r_X12_heldAt g a2 a3), .int a1]) (rest := []) ⟨hx, hb, hml, hown, hts⟩ (k_X12_has l g (r_X12_heldAt g a2 a3) a1) (va_cwS 2 hts gX12_buy_X12_has rfl rfl rfl (by decide +kernel) (by rw [hR]; exact ⟨Nat.le_of_ble_eq_true rfl, Nat.le_of_ble_eq_true rfl⟩)) (wx_Pc.pre hK hX) rfl rfl hl.1 rfl (lv_room (Nat.le_of_ble_eq_true rfl)) dX12_buy_20 ⟨Nat.zero_le _, Nat.zero_le _⟩) ?_
    refine lv_if_eq (tgt := 29) hx hb dX12_buy_23 (by decide) (fun c_5 => ?_) (fun c_5 => ?_)
    · have b_6 : wx_b (r_X12_has (r_X12_heldAt g a2 a3) a1) 0 0 := by rw [c_5]; exact ⟨by decide, by decide⟩
      refine lv_aload_n hx hb dX12_buy_29 rfl (lv_at hl 0 rfl) ?_
      refine lv_iload_n hx hb dX12_buy_30 rfl (lv_at hl 1 rfl) ?_
      refine lv_iload_n hx hb dX12_buy_31 rfl (lv_at hl 2 rfl) ?_
      refine lv_iload_n hx hb dX12_buy_32 rfl (lv_at hl 3 rfl) ?_
      refine wx_callr (va_runV (As := [.int a1, .int a2, .int a3]) (rest := []) ⟨hx, hb, hml, hown, hts⟩ (k_X12_priceOf l g a1 a2 a3 b_2 b_3 b_4 hm) (cwV 3 hts gX12_buy_X12_priceOf rfl rfl rfl (by decide +kernel) (by rw [hR]; exact ⟨Nat.le_of_ble_eq_true rfl, Nat.le_of_ble_eq_true rfl⟩)) ⟨wx_Pc.blind, wx_recv hK hX (by decide) sh_X12 rfl, (wx_Pc.pre hK hX).2⟩ rfl rfl hl.1 rfl (lv_room (Nat.le_of_ble_eq_true rfl)) dX12_buy_33 ⟨Nat.zero_le _, Nat.zero_le _⟩) ?_
      refine lv_topi (fun x_7 ex_7 => ?_)
      refine lv_istore (lv' := [(4, .int x_7), (0, .ref (ad 57)), (1, .int a1), (2, .int a2), (3, .int a3)]) hx hb dX12_buy_36 hl (by decide) rfl (fun ls hl => ?_)
      refine lv_aload_n hx hb dX12_buy_38 rfl (lv_at hl 1 rfl) ?_
      refine lv_iload_n hx hb dX12_buy_39 rfl (lv_at hl 3 rfl) ?_
      refine lv_iload_n hx hb dX12_buy_40 rfl (lv_at hl 4 rfl) ?_
      refine wx_callr (va_runV (As := [.int a2, .int a3]) (rest := []) ⟨hx, hb, hml, hown, hts⟩ (k_X12_isLeft l g a2 a3 b_3 b_4) (cwV 2 hts gX12_buy_X12_isLeft rfl rfl rfl (by decide +kernel) (by rw [hR]; exact ⟨Nat.le_of_ble_eq_true rfl, Nat.le_of_ble_eq_true rfl⟩)) ⟨wx_Pc.blind, wx_recv hK hX (by decide) sh_X12 rfl, (wx_Pc.pre hK hX).2⟩ rfl rfl hl.1 rfl (lv_room (Nat.le_of_ble_eq_true rfl)) dX12_buy_41 ⟨Nat.zero_le _, Nat.zero_le _⟩) ?_
      refine lv_if_eq (tgt := 70) hx hb dX12_buy_44 (by decide) (fun c_8 => ?_) (fun c_8 => ?_)
      · have b_9 : wx_b (r_X12_isLeft g a2 a3) 0 0 := by rw [c_8]; exact ⟨by decide, by decide⟩
        refine lv_ldc hx hb hown (hts (.constant RX12 74 (-1000003)) (by decide +kernel)) dX12_buy_70 ?_
        exact hret _ _ _ _ _ _ dX12_buy_72 rfl hX hS (by subst ex_7; simp only [f_X12_buy, if_neg c_1, if_pos c_5, if_pos c_8])
      · refine lv_aload_n hx hb dX12_buy_47 rfl (lv_at hl 1 rfl) ?_
        refine wx_callr (va_runV (As := []) (rest := []) ⟨hx, hb, hml, hown, hts⟩ (k_X12_soldOfAll l g) (cwV 0 hts gX12_buy_X12_soldOfAll rfl rfl rfl (by decide +kernel) (by rw [hR]; exact ⟨Nat.le_of_ble_eq_true rfl, Nat.le_of_ble_eq_true rfl⟩)) ⟨wx_Pc.blind, wx_recv hK hX (by decide) sh_X12 rfl, (wx_Pc.pre hK hX).2⟩ rfl rfl hl.1 rfl (lv_room (Nat.le_of_ble_eq_true rfl)) dX12_buy_48 ⟨Nat.zero_le _, Nat.zero_le _⟩) ?_
        refine lv_bipush (v := 24) hx hb dX12_buy_51 (by decide) ?_
        refine lv_icmp_eq (tgt := 70) hx hb dX12_buy_53 (by decide) (fun c_10 => ?_) (fun c_10 => ?_)
        · have b_11 : wx_b (r_X12_soldOfAll g) 24 24 := by rw [c_10]; exact ⟨by decide, by decide⟩
          refine lv_ldc hx hb hown (hts (.constant RX12 74 (-1000003)) (by decide +kernel)) dX12_buy_70 ?_
          exact hret _ _ _ _ _ _ dX12_buy_72 rfl hX hS (by subst ex_7; simp only [f_X12_buy, if_neg c_1, if_pos c_5, if_neg c_8, if_pos c_10])
        · refine lv_aload_n hx hb dX12_buy_56 rfl (lv_at hl 1 rfl) ?_
          refine wx_getr (t := 65) (C := RX12) (T := TX12) (N := 27) (ci := 11) (j := 20) hx hb hts hi_X12 hown hK hX (by decide) sh_X12_20 rfl (by decide) (hts (.fieldLink RX12 31 "SeenAgainModel" "now" "[I") (by decide +kernel)) (fun _ h9 => h9) dX12_buy_57 ?_
          refine lv_bipush (v := 47) hx hb dX12_buy_60 (by decide) ?_
          refine lv_iload_n hx hb dX12_buy_62 rfl (lv_at hl 2 rfl) ?_
          refine lv_iadd hx hb dX12_buy_63 ?_
          refine wx_iald hx hb hK hX (by decide) sa_65 (wb_in (wb_add (show wx_b 47 47 47 from ⟨by decide, by decide⟩) b_2 (by decide) (by decide)) (by decide) (by decide)) dX12_buy_64 ?_
          refine lv_iload hx hb dX12_buy_65 (lv_at hl 0 rfl) ?_
          refine lv_icmp_ge (tgt := 73) hx hb dX12_buy_67 (by decide) (fun c_12 => ?_) (fun c_12 => ?_)
          · refine lv_aload_n hx hb dX12_buy_73 rfl (lv_at hl 1 rfl) ?_
            refine lv_iconst (v := 0) hx hb dX12_buy_74 (by decide) ?_
            refine lv_iload_n hx hb dX12_buy_75 rfl (lv_at hl 2 rfl) ?_
            refine lv_iload_n hx hb dX12_buy_76 rfl (lv_at hl 3 rfl) ?_
            refine lv_iload_n hx hb dX12_buy_77 rfl (lv_at hl 4 rfl) ?_
            refine lv_aload_n hx hb dX12_buy_78 rfl (lv_at hl 1 rfl) ?_
            refine wx_getr (t := 65) (C := RX12) (T := TX12) (N := 27) (ci := 11) (j := 20) hx hb hts hi_X12 hown hK hX (by decide) sh_X12_20 rfl (by decide) (hts (.fieldLink RX12 31 "SeenAgainModel" "now" "[I") (by decide +kernel)) (fun _ h9 => h9) dX12_buy_79 ?_
            refine lv_bipush (v := 47) hx hb dX12_buy_82 (by decide) ?_
            refine lv_iload_n hx hb dX12_buy_84 rfl (lv_at hl 2 rfl) ?_
            refine lv_iadd hx hb dX12_buy_85 ?_
            refine wx_iald hx hb hK hX (by decide) sa_65 (wb_in (wb_add (show wx_b 47 47 47 from ⟨by decide, by decide⟩) b_2 (by decide) (by decide)) (by decide) (by decide)) dX12_buy_86 ?_
            refine wx_callev (va_runV (As := [.int 0, .int a1, .int a2, .int a3, .int (g 65 (47 + a1).toNatClampNeg)]) (rest := []) ⟨hx, hb, hml, hown, hts⟩ (k_X12_note l g 0 a1 a2 a3 (g 65 (47 + a1).toNatClampNeg) hac) (cwV 5 hts gX12_buy_X12_note rfl rfl rfl (by decide +kernel) (by rw [hR]; exact ⟨Nat.le_of_ble_eq_true rfl, Nat.le_of_ble_eq_true rfl⟩)) ⟨wx_Pc.blind, wx_recv hK hX (by decide) sh_X12 rfl, (wx_Pc.pre hK hX).2⟩ rfl rfl hl.1 rfl (lv_room (Nat.le_of_ble_eq_true rfl)) dX12_buy_87 ⟨Nat.zero_le _, Nat.zero_le _⟩) hS (fun H locs hX hS => ?_)
            obtain ⟨g_13, eg_13, hX⟩ := wx_nm hX
            refine lv_aload_n hx hb dX12_buy_90 rfl (lv_at hl 1 rfl) ?_
            refine wx_getr (t := 65) (C := RX12) (T := TX12) (N := 27) (ci := 11) (j := 20) hx hb hts hi_X12 hown hK hX (by decide) sh_X12_20 rfl (by decide) (hts (.fieldLink RX12 31 "SeenAgainModel" "now" "[I") (by decide +kernel)) (fun _ h9 => h9) dX12_buy_91 ?_
            refine lv_bipush (v := 47) hx hb dX12_buy_94 (by decide) ?_
            refine lv_iload_n hx hb dX12_buy_96 rfl (lv_at hl 2 rfl) ?_
            refine lv_iadd hx hb dX12_buy_97 ?_
            refine lv_dup2_11 hx hb dX12_buy_98 rfl rfl ?_
            refine wx_iald hx hb hK hX (by decide) sa_65 (wb_in (wb_add (show wx_b 47 47 47 from ⟨by decide, by decide⟩) b_2 (by decide) (by decide)) (by decide) (by decide)) dX12_buy_99 ?_
            refine lv_iload hx hb dX12_buy_100 (lv_at hl 0 rfl) ?_
            refine lv_isub hx hb dX12_buy_102 ?_
            refine lv_topi (fun x_14 ex_14 => ?_)
            refine wx_iast hx hb hK hX hS (by decide) sa_65 (wb_in (wb_add (show wx_b 47 47 47 from ⟨by decide, by decide⟩) b_2 (by decide) (by decide)) (by decide) (by decide)) dX12_buy_103 (fun H locs hX hS => ?_)
            obtain ⟨g_15, eg_15, hX⟩ := wx_nm hX
            refine lv_aload_n hx hb dX12_buy_104 rfl (lv_at hl 1 rfl) ?_
            refine wx_getr (t := 65) (C := RX12) (T := TX12) (N := 27) (ci := 11) (j := 20) hx hb hts hi_X12 hown hK hX (by decide) sh_X12_20 rfl (by decide) (hts (.fieldLink RX12 31 "SeenAgainModel" "now" "[I") (by decide +kernel)) (fun _ h9 => h9) dX12_buy_105 ?_
            refine lv_bipush (v := 100) hx hb dX12_buy_108 (by decide) ?_
            refine lv_bipush (v := 6) hx hb dX12_buy_110 (by decide) ?_
            refine lv_iload_n hx hb dX12_buy_112 rfl (lv_at hl 4 rfl) ?_
            refine lv_imul hx hb dX12_buy_113 ?_
            refine lv_iadd hx hb dX12_buy_114 ?_
            refine lv_iload_n hx hb dX12_buy_115 rfl (lv_at hl 3 rfl) ?_
            refine lv_iadd hx hb dX12_buy_116 ?_
            refine lv_aload_n hx hb dX12_buy_117 rfl (lv_at hl 1 rfl) ?_
            refine wx_getr (t := 65) (C := RX12) (T := TX12) (N := 27) (ci := 11) (j := 20) hx hb hts hi_X12 hown hK hX (by decide) sh_X12_20 rfl (by decide) (hts (.fieldLink RX12 31 "SeenAgainModel" "now" "[I") (by decide +kernel)) (fun _ h9 => h9) dX12_buy_118 ?_
            refine lv_bipush (v := 100) hx hb dX12_buy_121 (by decide) ?_
            refine lv_bipush (v := 6) hx hb dX12_buy_123 (by decide) ?_
            refine lv_iload_n hx hb dX12_buy_125 rfl (lv_at hl 4 rfl) ?_
            refine lv_imul hx hb dX12_buy_126 ?_
            refine lv_iadd hx hb dX12_buy_127 ?_
            refine lv_iload_n hx hb dX12_buy_128 rfl (lv_at hl 3 rfl) ?_
            refine lv_iadd hx hb dX12_buy_129 ?_
            refine wx_iald hx hb hK hX (by decide) sa_65 (wb_in (wb_add (wb_add (show wx_b 100 100 100 from ⟨by decide, by decide⟩) (wb_mul (show wx_b 6 6 6 from ⟨by decide, by decide⟩) b_4 (by decide) (by decide) (by decide)) (by decide) (by decide)) b_3 (by decide) (by decide)) (by decide) (by decide)) dX12_buy_130 ?_
            refine lv_iconst (v := 1) hx hb dX12_buy_131 (by decide) ?_
            refine lv_iload_n hx hb dX12_buy_132 rfl (lv_at hl 2 rfl) ?_
            refine lv_ishl hx hb dX12_buy_133 ?_
            refine lv_ior hx hb dX12_buy_134 ?_
            refine lv_topi (fun x_16 ex_16 => ?_)
            refine wx_iast hx hb hK hX hS (by decide) sa_65 (wb_in (wb_add (wb_add (show wx_b 100 100 100 from ⟨by decide, by decide⟩) (wb_mul (show wx_b 6 6 6 from ⟨by decide, by decide⟩) b_4 (by decide) (by decide) (by decide)) (by decide) (by decide)) b_3 (by decide) (by decide)) (by decide) (by decide)) dX12_buy_135 (fun H locs hX hS => ?_)
            obtain ⟨g_17, eg_17, hX⟩ := wx_nm hX
            refine lv_iload hx hb dX12_buy_136 (lv_at hl 0 rfl) ?_
            exact hret _ _ _ _ _ _ dX12_buy_138 rfl hX hS (by subst eg_17 ex_16 eg_15 ex_14 eg_13 ex_7; simp only [f_X12_buy, if_neg c_1, if_pos c_5, if_neg c_8, if_neg c_10, if_pos c_12])
          · have b_18 : wx_b (g 65 (47 + a1).toNatClampNeg) (-2147483648) 2147483646 := wb_lt (wb_nle c_12) (wb_any _) (wb_any _) (by decide) (by decide)
            have b_19 : wx_b x_7 (-2147483647) 2147483647 := wb_gt (wb_nle c_12) (wb_any _) (wb_any _) (by decide) (by decide)
            refine lv_ldc hx hb hown (hts (.constant RX12 74 (-1000003)) (by decide +kernel)) dX12_buy_70 ?_
            exact hret _ _ _ _ _ _ dX12_buy_72 rfl hX hS (by subst ex_7; simp only [f_X12_buy, if_neg c_1, if_pos c_5, if_neg c_8, if_neg c_10, if_neg c_12])
    · refine lv_ldc hx hb hown (hts (.constant RX12 166 (-1000002)) (by decide +kernel)) dX12_buy_26 ?_
      exact hret _ _ _ _ _ _ dX12_buy_28 rfl hX hS (by simp only [f_X12_buy, if_neg c_1, if_neg c_5])
  · have b_20 : wx_b (r_X12_isSeat g a1 a2 a3) 0 0 := by rw [c_1]; exact ⟨by decide, by decide⟩
    refine lv_ldc hx hb hown (hts (.constant RX12 60 (-1000001)) (by decide +kernel)) dX12_buy_10 ?_
    exact hret _ _ _ _ _ _ dX12_buy_12 rfl hX hS (by simp only [f_X12_buy, if_pos c_1])
def f_X12_back (g : wx_M) (a1 : Int32) (a2 : Int32) (a3 : Int32) : wx_M × Int32 :=
  if (r_X12_isSeat g a1 a2 a3) = 0 then
    (g, (-1000001))
  else
    if (r_X12_has (r_X12_heldAt g a2 a3) a1) = 0 then
      (g, (-1000002))
    else
      let g_6 := e_X12_note g 1 a1 a2 a3 (g 65 (47 + a1).toNatClampNeg)
      let x_7 := ((g_6 65 (47 + a1).toNatClampNeg) + ((g_6 65 (2 : Int32).toNatClampNeg) / 2))
      let g_8 := up2 g_6 65 (47 + a1).toNatClampNeg x_7
      let x_9 := ((g_8 65 ((100 + (6 * a3)) + a2).toNatClampNeg) &&& ((1 <<< (a1 &&& 31)) ^^^ (-1)))
      let g_10 := up2 g_8 65 ((100 + (6 * a3)) + a2).toNatClampNeg x_9
      let x_11 := (g_10 65 (47 + a1).toNatClampNeg)
      (g_10, x_11)
set_option maxHeartbeats 4000000 in
set_option maxRecDepth 100000 in
theorem k_X12_back (l : Launch) {D : va_G} {cy : Nat → ClassId} {ad : Nat → Nat} {B0 : Nat} {f : wx_F} {P : va_W} (g : wx_M) (a1 : Int32) (a2 : Int32) (a3 : Int32) (hm : wx_MB g) (hac : wx_b (g 57 23) 0 24) : Met l yX12_back wsX12_back ({ frames := 3, cells := 0, slots := 0, locals := 66 } : Room) (wx_Pc D cy ad B0 f P g [.ref (ad 57), .int a1, .int a2, .int a3]) (wx_Qe D cy ad B0 f P (f_X12_back g a1 a2 a3).1 (some (.int (f_X12_back g a1 a2 a3).2))) 0 0 (fun q => B0 ≤ q) := by
  refine wx_enterE (cc := cX12_back) (maxL := 4) (ty := .int) (own := RX12) (lv := [(0, .ref (ad 57)), (1, .int a1), (2, .int a2), (3, .int a3)]) (by decide) rfl rfl (Nat.le_of_ble_eq_true rfl) rfl ?_
  intro p e R s m args below meth c ls Qm hx hb hml hown hts hK hX hS hR hret hl
  have hi_X12 : ∀ w ∈ wsX120, w ∈ wsX12_back := by decide +kernel
  refine lv_aload_n hx hb dX12_back_0 rfl (lv_at hl 0 rfl) ?_
  refine lv_iload_n hx hb dX12_back_1 rfl (lv_at hl 1 rfl) ?_
  refine lv_iload_n hx hb dX12_back_2 rfl (lv_at hl 2 rfl) ?_
  refine lv_iload_n hx hb dX12_back_3 rfl (lv_at hl 3 rfl) ?_
  refine wx_callr (va_runV (As := [.int a1, .int a2, .int a3]) (rest := []) ⟨hx, hb, hml, hown, hts⟩ (k_X12_isSeat l g a1 a2 a3) (cwV 3 hts gX12_back_X12_isSeat rfl rfl rfl (by decide +kernel) (by rw [hR]; exact ⟨Nat.le_of_ble_eq_true rfl, Nat.le_of_ble_eq_true rfl⟩)) ⟨wx_Pc.blind, wx_recv hK hX (by decide) sh_X12 rfl, (wx_Pc.pre hK hX).2⟩ rfl rfl hl.1 rfl (lv_room (Nat.le_of_ble_eq_true rfl)) dX12_back_4 ⟨Nat.zero_le _, Nat.zero_le _⟩) ?_
  refine lv_if_ne (tgt := 13) hx hb dX12_back_7 (by decide) (fun c_1 => ?_) (fun c_1 => ?_)
  · have b_2 : wx_b a1 0 3 := rf_X12_isSeat1 hm c_1
    have b_3 : wx_b a2 0 5 := rf_X12_isSeat2 hm c_1
    have b_4 : wx_b a3 0 7 := rf_X12_isSeat3 hm c_1
    refine lv_aload_n hx hb dX12_back_13 rfl (lv_at hl 0 rfl) ?_
    refine lv_iload_n hx hb dX12_back_14 rfl (lv_at hl 2 rfl) ?_
    refine lv_iload_n hx hb dX12_back_15 rfl (lv_at hl 3 rfl) ?_
    refine wx_callr (va_runV (As := [.int a2, .int a3]) (rest := []) ⟨hx, hb, hml, hown, hts⟩ (k_X12_heldAt l g a2 a3 b_3 b_4) (cwV 2 hts gX12_back_X12_heldAt rfl rfl rfl (by decide +kernel) (by rw [hR]; exact ⟨Nat.le_of_ble_eq_true rfl, Nat.le_of_ble_eq_true rfl⟩)) ⟨wx_Pc.blind, wx_recv hK hX (by decide) sh_X12 rfl, (wx_Pc.pre hK hX).2⟩ rfl rfl hl.1 rfl (lv_room (Nat.le_of_ble_eq_true rfl)) dX12_back_16 ⟨Nat.zero_le _, Nat.zero_le _⟩) ?_
    refine lv_iload_n hx hb dX12_back_19 rfl (lv_at hl 1 rfl) ?_
    refine wx_callr (va_runS (As := [.int (r_X12_heldAt g a2 a3), .int a1]) (rest := []) ⟨hx, hb, hml, hown, hts⟩ (k_X12_has l g (r_X12_heldAt g a2 a3) a1) (va_cwS 2 hts gX12_back_X12_has rfl rfl rfl (by decide +kernel) (by rw [hR]; exact ⟨Nat.le_of_ble_eq_true rfl, Nat.le_of_ble_eq_true rfl⟩)) (wx_Pc.pre hK hX) rfl rfl hl.1 rfl (lv_room (Nat.le_of_ble_eq_true rfl)) dX12_back_20 ⟨Nat.zero_le _, Nat.zero_le _⟩) ?_
    refine lv_if_ne (tgt := 29) hx hb dX12_back_23 (by decide) (fun c_5 => ?_) (fun c_5 => ?_)
    · refine lv_aload_n hx hb dX12_back_29 rfl (lv_at hl 0 rfl) ?_
      refine lv_iconst (v := 1) hx hb dX12_back_30 (by decide) ?_
      refine lv_iload_n hx hb dX12_back_31 rfl (lv_at hl 1 rfl) ?_
      refine lv_iload_n hx hb dX12_back_32 rfl (lv_at hl 2 rfl) ?_
      refine lv_iload_n hx hb dX12_back_33 rfl (lv_at hl 3 rfl) ?_
      refine lv_aload_n hx hb dX12_back_34 rfl (lv_at hl 0 rfl) ?_
      refine wx_getr (t := 65) (C := RX12) (T := TX12) (N := 27) (ci := 11) (j := 20) hx hb hts hi_X12 hown hK hX (by decide) sh_X12_20 rfl (by decide) (hts (.fieldLink RX12 31 "SeenAgainModel" "now" "[I") (by decide +kernel)) (fun _ h9 => h9) dX12_back_35 ?_
      refine lv_bipush (v := 47) hx hb dX12_back_38 (by decide) ?_
      refine lv_iload_n hx hb dX12_back_40 rfl (lv_at hl 1 rfl) ?_
      refine lv_iadd hx hb dX12_back_41 ?_
      refine wx_iald hx hb hK hX (by decide) sa_65 (wb_in (wb_add (show wx_b 47 47 47 from ⟨by decide, by decide⟩) b_2 (by decide) (by decide)) (by decide) (by decide)) dX12_back_42 ?_
      refine wx_callev (va_runV (As := [.int 1, .int a1, .int a2, .int a3, .int (g 65 (47 + a1).toNatClampNeg)]) (rest := []) ⟨hx, hb, hml, hown, hts⟩ (k_X12_note l g 1 a1 a2 a3 (g 65 (47 + a1).toNatClampNeg) hac) (cwV 5 hts gX12_back_X12_note rfl rfl rfl (by decide +kernel) (by rw [hR]; exact ⟨Nat.le_of_ble_eq_true rfl, Nat.le_of_ble_eq_true rfl⟩)) ⟨wx_Pc.blind, wx_recv hK hX (by decide) sh_X12 rfl, (wx_Pc.pre hK hX).2⟩ rfl rfl hl.1 rfl (lv_room (Nat.le_of_ble_eq_true rfl)) dX12_back_43 ⟨Nat.zero_le _, Nat.zero_le _⟩) hS (fun H locs hX hS => ?_)
      obtain ⟨g_6, eg_6, hX⟩ := wx_nm hX
      refine lv_aload_n hx hb dX12_back_46 rfl (lv_at hl 0 rfl) ?_
      refine wx_getr (t := 65) (C := RX12) (T := TX12) (N := 27) (ci := 11) (j := 20) hx hb hts hi_X12 hown hK hX (by decide) sh_X12_20 rfl (by decide) (hts (.fieldLink RX12 31 "SeenAgainModel" "now" "[I") (by decide +kernel)) (fun _ h9 => h9) dX12_back_47 ?_
      refine lv_bipush (v := 47) hx hb dX12_back_50 (by decide) ?_
      refine lv_iload_n hx hb dX12_back_52 rfl (lv_at hl 1 rfl) ?_
      refine lv_iadd hx hb dX12_back_53 ?_
      refine lv_dup2_11 hx hb dX12_back_54 rfl rfl ?_
      refine wx_iald hx hb hK hX (by decide) sa_65 (wb_in (wb_add (show wx_b 47 47 47 from ⟨by decide, by decide⟩) b_2 (by decide) (by decide)) (by decide) (by decide)) dX12_back_55 ?_
      refine lv_aload_n hx hb dX12_back_56 rfl (lv_at hl 0 rfl) ?_
      refine wx_getr (t := 65) (C := RX12) (T := TX12) (N := 27) (ci := 11) (j := 20) hx hb hts hi_X12 hown hK hX (by decide) sh_X12_20 rfl (by decide) (hts (.fieldLink RX12 31 "SeenAgainModel" "now" "[I") (by decide +kernel)) (fun _ h9 => h9) dX12_back_57 ?_
      refine lv_iconst (v := 2) hx hb dX12_back_60 (by decide) ?_
      refine wx_iald hx hb hK hX (by decide) sa_65 (wb_in (show wx_b 2 2 2 from ⟨by decide, by decide⟩) (by decide) (by decide)) dX12_back_61 ?_
      refine lv_iconst (v := 2) hx hb dX12_back_62 (by decide) ?_
      refine lv_idiv hx hb dX12_back_63 (by decide) ?_
      refine lv_iadd hx hb dX12_back_64 ?_
      refine lv_topi (fun x_7 ex_7 => ?_)
      refine wx_iast hx hb hK hX hS (by decide) sa_65 (wb_in (wb_add (show wx_b 47 47 47 from ⟨by decide, by decide⟩) b_2 (by decide) (by decide)) (by decide) (by decide)) dX12_back_65 (fun H locs hX hS => ?_)
      obtain ⟨g_8, eg_8, hX⟩ := wx_nm hX
      refine lv_aload_n hx hb dX12_back_66 rfl (lv_at hl 0 rfl) ?_
      refine wx_getr (t := 65) (C := RX12) (T := TX12) (N := 27) (ci := 11) (j := 20) hx hb hts hi_X12 hown hK hX (by decide) sh_X12_20 rfl (by decide) (hts (.fieldLink RX12 31 "SeenAgainModel" "now" "[I") (by decide +kernel)) (fun _ h9 => h9) dX12_back_67 ?_
      refine lv_bipush (v := 100) hx hb dX12_back_70 (by decide) ?_
      refine lv_bipush (v := 6) hx hb dX12_back_72 (by decide) ?_
      refine lv_iload_n hx hb dX12_back_74 rfl (lv_at hl 3 rfl) ?_
      refine lv_imul hx hb dX12_back_75 ?_
      refine lv_iadd hx hb dX12_back_76 ?_
      refine lv_iload_n hx hb dX12_back_77 rfl (lv_at hl 2 rfl) ?_
      refine lv_iadd hx hb dX12_back_78 ?_
      refine lv_aload_n hx hb dX12_back_79 rfl (lv_at hl 0 rfl) ?_
      refine wx_getr (t := 65) (C := RX12) (T := TX12) (N := 27) (ci := 11) (j := 20) hx hb hts hi_X12 hown hK hX (by decide) sh_X12_20 rfl (by decide) (hts (.fieldLink RX12 31 "SeenAgainModel" "now" "[I") (by decide +kernel)) (fun _ h9 => h9) dX12_back_80 ?_
      refine lv_bipush (v := 100) hx hb dX12_back_83 (by decide) ?_
      refine lv_bipush (v := 6) hx hb dX12_back_85 (by decide) ?_
      refine lv_iload_n hx hb dX12_back_87 rfl (lv_at hl 3 rfl) ?_
      refine lv_imul hx hb dX12_back_88 ?_
      refine lv_iadd hx hb dX12_back_89 ?_
      refine lv_iload_n hx hb dX12_back_90 rfl (lv_at hl 2 rfl) ?_
      refine lv_iadd hx hb dX12_back_91 ?_
      refine wx_iald hx hb hK hX (by decide) sa_65 (wb_in (wb_add (wb_add (show wx_b 100 100 100 from ⟨by decide, by decide⟩) (wb_mul (show wx_b 6 6 6 from ⟨by decide, by decide⟩) b_4 (by decide) (by decide) (by decide)) (by decide) (by decide)) b_3 (by decide) (by decide)) (by decide) (by decide)) dX12_back_92 ?_
      refine lv_iconst (v := 1) hx hb dX12_back_93 (by decide) ?_
      refine lv_iload_n hx hb dX12_back_94 rfl (lv_at hl 1 rfl) ?_
      refine lv_ishl hx hb dX12_back_95 ?_
      refine lv_iconst (v := (-1)) hx hb dX12_back_96 (by decide) ?_
      refine lv_ixor hx hb dX12_back_97 ?_
      refine lv_iand hx hb dX12_back_98 ?_
      refine lv_topi (fun x_9 ex_9 => ?_)
      refine wx_iast hx hb hK hX hS (by decide) sa_65 (wb_in (wb_add (wb_add (show wx_b 100 100 100 from ⟨by decide, by decide⟩) (wb_mul (show wx_b 6 6 6 from ⟨by decide, by decide⟩) b_4 (by decide) (by decide) (by decide)) (by decide) (by decide)) b_3 (by decide) (by decide)) (by decide) (by decide)) dX12_back_99 (fun H locs hX hS => ?_)
      obtain ⟨g_10, eg_10, hX⟩ := wx_nm hX
      refine lv_aload_n hx hb dX12_back_100 rfl (lv_at hl 0 rfl) ?_
      refine wx_getr (t := 65) (C := RX12) (T := TX12) (N := 27) (ci := 11) (j := 20) hx hb hts hi_X12 hown hK hX (by decide) sh_X12_20 rfl (by decide) (hts (.fieldLink RX12 31 "SeenAgainModel" "now" "[I") (by decide +kernel)) (fun _ h9 => h9) dX12_back_101 ?_
      refine lv_bipush (v := 47) hx hb dX12_back_104 (by decide) ?_
      refine lv_iload_n hx hb dX12_back_106 rfl (lv_at hl 1 rfl) ?_
      refine lv_iadd hx hb dX12_back_107 ?_
      refine wx_iald hx hb hK hX (by decide) sa_65 (wb_in (wb_add (show wx_b 47 47 47 from ⟨by decide, by decide⟩) b_2 (by decide) (by decide)) (by decide) (by decide)) dX12_back_108 ?_
      refine lv_topi (fun x_11 ex_11 => ?_)
      exact hret _ _ _ _ _ _ dX12_back_109 rfl hX hS (by subst ex_11 eg_10 ex_9 eg_8 ex_7 eg_6; simp only [f_X12_back, if_neg c_1, if_neg c_5])
    · have b_12 : wx_b (r_X12_has (r_X12_heldAt g a2 a3) a1) 0 0 := by rw [c_5]; exact ⟨by decide, by decide⟩
      refine lv_ldc hx hb hown (hts (.constant RX12 166 (-1000002)) (by decide +kernel)) dX12_back_26 ?_
      exact hret _ _ _ _ _ _ dX12_back_28 rfl hX hS (by simp only [f_X12_back, if_neg c_1, if_pos c_5])
  · have b_13 : wx_b (r_X12_isSeat g a1 a2 a3) 0 0 := by rw [c_1]; exact ⟨by decide, by decide⟩
    refine lv_ldc hx hb hown (hts (.constant RX12 60 (-1000001)) (by decide +kernel)) dX12_back_10 ?_
    exact hret _ _ _ _ _ _ dX12_back_12 rfl hX hS (by simp only [f_X12_back, if_pos c_1])
def f_X12_curtain (g : wx_M) (a1 : Int32) (a2 : Int32) (a3 : Int32) : wx_M × Int32 :=
  if (r_X12_isRoom g a1) = 0 then
    (g, (-1000001))
  else
    if (r_X12_isRoom g a2) = 0 then
      (g, (-1000001))
    else
      if (r_X12_isMinute a3) = 0 then
        (g, (-1000001))
      else
        if (r_X12_has (g 65 (5 + a1).toNatClampNeg) a2) = 0 then
          (g, (-1000001))
        else
          if (r_X12_has (g 65 ((52 + (6 * a3)) + a1).toNatClampNeg) a2) = 0 then
            let g_13 := e_X12_note g 2 a1 a2 a3 0
            let g_14 := e_X12_draw g_13 a1 a2 a3
            let x_15 := (r_X12_drawnOfAll g_14)
            (g_14, x_15)
          else
            (g, (-1000002))
set_option maxHeartbeats 4000000 in
set_option maxRecDepth 100000 in
theorem k_X12_curtain (l : Launch) {D : va_G} {cy : Nat → ClassId} {ad : Nat → Nat} {B0 : Nat} {f : wx_F} {P : va_W} (g : wx_M) (a1 : Int32) (a2 : Int32) (a3 : Int32) (hm : wx_MB g) (hac : wx_b (g 57 23) 0 24) : Met l yX12_curtain wsX12_curtain ({ frames := 2, cells := 0, slots := 0, locals := 44 } : Room) (wx_Pc D cy ad B0 f P g [.ref (ad 57), .int a1, .int a2, .int a3]) (wx_Qe D cy ad B0 f P (f_X12_curtain g a1 a2 a3).1 (some (.int (f_X12_curtain g a1 a2 a3).2))) 0 0 (fun q => B0 ≤ q) := by
  refine wx_enterE (cc := cX12_curtain) (maxL := 4) (ty := .int) (own := RX12) (lv := [(0, .ref (ad 57)), (1, .int a1), (2, .int a2), (3, .int a3)]) (by decide) rfl rfl (Nat.le_of_ble_eq_true rfl) rfl ?_
  intro p e R s m args below meth c ls Qm hx hb hml hown hts hK hX hS hR hret hl
  have hi_X12 : ∀ w ∈ wsX120, w ∈ wsX12_curtain := by decide +kernel
  refine lv_aload_n hx hb dX12_curtain_0 rfl (lv_at hl 0 rfl) ?_
  refine lv_iload_n hx hb dX12_curtain_1 rfl (lv_at hl 1 rfl) ?_
  refine wx_callr (va_runV (As := [.int a1]) (rest := []) ⟨hx, hb, hml, hown, hts⟩ (k_X12_isRoom l g a1) (cwV 1 hts gX12_curtain_X12_isRoom rfl rfl rfl (by decide +kernel) (by rw [hR]; exact ⟨Nat.le_of_ble_eq_true rfl, Nat.le_of_ble_eq_true rfl⟩)) ⟨wx_Pc.blind, wx_recv hK hX (by decide) sh_X12 rfl, (wx_Pc.pre hK hX).2⟩ rfl rfl hl.1 rfl (lv_room (Nat.le_of_ble_eq_true rfl)) dX12_curtain_2 ⟨Nat.zero_le _, Nat.zero_le _⟩) ?_
  refine lv_if_eq (tgt := 38) hx hb dX12_curtain_5 (by decide) (fun c_1 => ?_) (fun c_1 => ?_)
  · have b_2 : wx_b (r_X12_isRoom g a1) 0 0 := by rw [c_1]; exact ⟨by decide, by decide⟩
    refine lv_ldc hx hb hown (hts (.constant RX12 60 (-1000001)) (by decide +kernel)) dX12_curtain_38 ?_
    exact hret _ _ _ _ _ _ dX12_curtain_40 rfl hX hS (by simp only [f_X12_curtain, if_pos c_1])
  · have b_3 : wx_b a1 0 5 := rf_X12_isRoom hm c_1
    refine lv_aload_n hx hb dX12_curtain_8 rfl (lv_at hl 0 rfl) ?_
    refine lv_iload_n hx hb dX12_curtain_9 rfl (lv_at hl 2 rfl) ?_
    refine wx_callr (va_runV (As := [.int a2]) (rest := []) ⟨hx, hb, hml, hown, hts⟩ (k_X12_isRoom l g a2) (cwV 1 hts gX12_curtain_X12_isRoom rfl rfl rfl (by decide +kernel) (by rw [hR]; exact ⟨Nat.le_of_ble_eq_true rfl, Nat.le_of_ble_eq_true rfl⟩)) ⟨wx_Pc.blind, wx_recv hK hX (by decide) sh_X12 rfl, (wx_Pc.pre hK hX).2⟩ rfl rfl hl.1 rfl (lv_room (Nat.le_of_ble_eq_true rfl)) dX12_curtain_10 ⟨Nat.zero_le _, Nat.zero_le _⟩) ?_
    refine lv_if_eq (tgt := 38) hx hb dX12_curtain_13 (by decide) (fun c_4 => ?_) (fun c_4 => ?_)
    · have b_5 : wx_b (r_X12_isRoom g a2) 0 0 := by rw [c_4]; exact ⟨by decide, by decide⟩
      refine lv_ldc hx hb hown (hts (.constant RX12 60 (-1000001)) (by decide +kernel)) dX12_curtain_38 ?_
      exact hret _ _ _ _ _ _ dX12_curtain_40 rfl hX hS (by simp only [f_X12_curtain, if_neg c_1, if_pos c_4])
    · have b_6 : wx_b a2 0 5 := rf_X12_isRoom hm c_4
      refine lv_iload_n hx hb dX12_curtain_16 rfl (lv_at hl 3 rfl) ?_
      refine wx_callr (va_runS (As := [.int a3]) (rest := []) ⟨hx, hb, hml, hown, hts⟩ (k_X12_isMinute l g a3) (va_cwS 1 hts gX12_curtain_X12_isMinute rfl rfl rfl (by decide +kernel) (by rw [hR]; exact ⟨Nat.le_of_ble_eq_true rfl, Nat.le_of_ble_eq_true rfl⟩)) (wx_Pc.pre hK hX) rfl rfl hl.1 rfl (lv_room (Nat.le_of_ble_eq_true rfl)) dX12_curtain_17 ⟨Nat.zero_le _, Nat.zero_le _⟩) ?_
      refine lv_if_eq (tgt := 38) hx hb dX12_curtain_20 (by decide) (fun c_7 => ?_) (fun c_7 => ?_)
      · have b_8 : wx_b (r_X12_isMinute a3) 0 0 := by rw [c_7]; exact ⟨by decide, by decide⟩
        refine lv_ldc hx hb hown (hts (.constant RX12 60 (-1000001)) (by decide +kernel)) dX12_curtain_38 ?_
        exact hret _ _ _ _ _ _ dX12_curtain_40 rfl hX hS (by simp only [f_X12_curtain, if_neg c_1, if_neg c_4, if_pos c_7])
      · have b_9 : wx_b a3 0 7 := rf_X12_isMinute  c_7
        refine lv_aload_n hx hb dX12_curtain_23 rfl (lv_at hl 0 rfl) ?_
        refine wx_getr (t := 65) (C := RX12) (T := TX12) (N := 27) (ci := 11) (j := 20) hx hb hts hi_X12 hown hK hX (by decide) sh_X12_20 rfl (by decide) (hts (.fieldLink RX12 31 "SeenAgainModel" "now" "[I") (by decide +kernel)) (fun _ h9 => h9) dX12_curtain_24 ?_
        refine lv_iconst (v := 5) hx hb dX12_curtain_27 (by decide) ?_
        refine lv_iload_n hx hb dX12_curtain_28 rfl (lv_at hl 1 rfl) ?_
        refine lv_iadd hx hb dX12_curtain_29 ?_
        refine wx_iald hx hb hK hX (by decide) sa_65 (wb_in (wb_add (show wx_b 5 5 5 from ⟨by decide, by decide⟩) b_3 (by decide) (by decide)) (by decide) (by decide)) dX12_curtain_30 ?_
        refine lv_iload_n hx hb dX12_curtain_31 rfl (lv_at hl 2 rfl) ?_
        refine wx_callr (va_runS (As := [.int (g 65 (5 + a1).toNatClampNeg), .int a2]) (rest := []) ⟨hx, hb, hml, hown, hts⟩ (k_X12_has l g (g 65 (5 + a1).toNatClampNeg) a2) (va_cwS 2 hts gX12_curtain_X12_has rfl rfl rfl (by decide +kernel) (by rw [hR]; exact ⟨Nat.le_of_ble_eq_true rfl, Nat.le_of_ble_eq_true rfl⟩)) (wx_Pc.pre hK hX) rfl rfl hl.1 rfl (lv_room (Nat.le_of_ble_eq_true rfl)) dX12_curtain_32 ⟨Nat.zero_le _, Nat.zero_le _⟩) ?_
        refine lv_if_ne (tgt := 41) hx hb dX12_curtain_35 (by decide) (fun c_10 => ?_) (fun c_10 => ?_)
        · refine lv_aload_n hx hb dX12_curtain_41 rfl (lv_at hl 0 rfl) ?_
          refine wx_getr (t := 65) (C := RX12) (T := TX12) (N := 27) (ci := 11) (j := 20) hx hb hts hi_X12 hown hK hX (by decide) sh_X12_20 rfl (by decide) (hts (.fieldLink RX12 31 "SeenAgainModel" "now" "[I") (by decide +kernel)) (fun _ h9 => h9) dX12_curtain_42 ?_
          refine lv_bipush (v := 52) hx hb dX12_curtain_45 (by decide) ?_
          refine lv_bipush (v := 6) hx hb dX12_curtain_47 (by decide) ?_
          refine lv_iload_n hx hb dX12_curtain_49 rfl (lv_at hl 3 rfl) ?_
          refine lv_imul hx hb dX12_curtain_50 ?_
          refine lv_iadd hx hb dX12_curtain_51 ?_
          refine lv_iload_n hx hb dX12_curtain_52 rfl (lv_at hl 1 rfl) ?_
          refine lv_iadd hx hb dX12_curtain_53 ?_
          refine wx_iald hx hb hK hX (by decide) sa_65 (wb_in (wb_add (wb_add (show wx_b 52 52 52 from ⟨by decide, by decide⟩) (wb_mul (show wx_b 6 6 6 from ⟨by decide, by decide⟩) b_9 (by decide) (by decide) (by decide)) (by decide) (by decide)) b_3 (by decide) (by decide)) (by decide) (by decide)) dX12_curtain_54 ?_
          refine lv_iload_n hx hb dX12_curtain_55 rfl (lv_at hl 2 rfl) ?_
          refine wx_callr (va_runS (As := [.int (g 65 ((52 + (6 * a3)) + a1).toNatClampNeg), .int a2]) (rest := []) ⟨hx, hb, hml, hown, hts⟩ (k_X12_has l g (g 65 ((52 + (6 * a3)) + a1).toNatClampNeg) a2) (va_cwS 2 hts gX12_curtain_X12_has rfl rfl rfl (by decide +kernel) (by rw [hR]; exact ⟨Nat.le_of_ble_eq_true rfl, Nat.le_of_ble_eq_true rfl⟩)) (wx_Pc.pre hK hX) rfl rfl hl.1 rfl (lv_room (Nat.le_of_ble_eq_true rfl)) dX12_curtain_56 ⟨Nat.zero_le _, Nat.zero_le _⟩) ?_
          refine lv_if_eq (tgt := 65) hx hb dX12_curtain_59 (by decide) (fun c_11 => ?_) (fun c_11 => ?_)
          · have b_12 : wx_b (r_X12_has (g 65 ((52 + (6 * a3)) + a1).toNatClampNeg) a2) 0 0 := by rw [c_11]; exact ⟨by decide, by decide⟩
            refine lv_aload_n hx hb dX12_curtain_65 rfl (lv_at hl 0 rfl) ?_
            refine lv_iconst (v := 2) hx hb dX12_curtain_66 (by decide) ?_
            refine lv_iload_n hx hb dX12_curtain_67 rfl (lv_at hl 1 rfl) ?_
            refine lv_iload_n hx hb dX12_curtain_68 rfl (lv_at hl 2 rfl) ?_
            refine lv_iload_n hx hb dX12_curtain_69 rfl (lv_at hl 3 rfl) ?_
            refine lv_iconst (v := 0) hx hb dX12_curtain_70 (by decide) ?_
            refine wx_callev (va_runV (As := [.int 2, .int a1, .int a2, .int a3, .int 0]) (rest := []) ⟨hx, hb, hml, hown, hts⟩ (k_X12_note l g 2 a1 a2 a3 0 hac) (cwV 5 hts gX12_curtain_X12_note rfl rfl rfl (by decide +kernel) (by rw [hR]; exact ⟨Nat.le_of_ble_eq_true rfl, Nat.le_of_ble_eq_true rfl⟩)) ⟨wx_Pc.blind, wx_recv hK hX (by decide) sh_X12 rfl, (wx_Pc.pre hK hX).2⟩ rfl rfl hl.1 rfl (lv_room (Nat.le_of_ble_eq_true rfl)) dX12_curtain_71 ⟨Nat.zero_le _, Nat.zero_le _⟩) hS (fun H locs hX hS => ?_)
            obtain ⟨g_13, eg_13, hX⟩ := wx_nm hX
            refine lv_aload_n hx hb dX12_curtain_74 rfl (lv_at hl 0 rfl) ?_
            refine lv_iload_n hx hb dX12_curtain_75 rfl (lv_at hl 1 rfl) ?_
            refine lv_iload_n hx hb dX12_curtain_76 rfl (lv_at hl 2 rfl) ?_
            refine lv_iload_n hx hb dX12_curtain_77 rfl (lv_at hl 3 rfl) ?_
            refine wx_callev (va_runV (As := [.int a1, .int a2, .int a3]) (rest := []) ⟨hx, hb, hml, hown, hts⟩ (k_X12_draw l g_13 a1 a2 a3 b_3 b_6 b_9) (cwV 3 hts gX12_curtain_X12_draw rfl rfl rfl (by decide +kernel) (by rw [hR]; exact ⟨Nat.le_of_ble_eq_true rfl, Nat.le_of_ble_eq_true rfl⟩)) ⟨wx_Pc.blind, wx_recv hK hX (by decide) sh_X12 rfl, (wx_Pc.pre hK hX).2⟩ rfl rfl hl.1 rfl (lv_room (Nat.le_of_ble_eq_true rfl)) dX12_curtain_78 ⟨Nat.zero_le _, Nat.zero_le _⟩) hS (fun H locs hX hS => ?_)
            obtain ⟨g_14, eg_14, hX⟩ := wx_nm hX
            refine lv_aload_n hx hb dX12_curtain_81 rfl (lv_at hl 0 rfl) ?_
            refine wx_callr (va_runV (As := []) (rest := []) ⟨hx, hb, hml, hown, hts⟩ (k_X12_drawnOfAll l g_14) (cwV 0 hts gX12_curtain_X12_drawnOfAll rfl rfl rfl (by decide +kernel) (by rw [hR]; exact ⟨Nat.le_of_ble_eq_true rfl, Nat.le_of_ble_eq_true rfl⟩)) ⟨wx_Pc.blind, wx_recv hK hX (by decide) sh_X12 rfl, (wx_Pc.pre hK hX).2⟩ rfl rfl hl.1 rfl (lv_room (Nat.le_of_ble_eq_true rfl)) dX12_curtain_82 ⟨Nat.zero_le _, Nat.zero_le _⟩) ?_
            refine lv_topi (fun x_15 ex_15 => ?_)
            exact hret _ _ _ _ _ _ dX12_curtain_85 rfl hX hS (by subst ex_15 eg_14 eg_13; simp only [f_X12_curtain, if_neg c_1, if_neg c_4, if_neg c_7, if_neg c_10, if_pos c_11])
          · refine lv_ldc hx hb hown (hts (.constant RX12 166 (-1000002)) (by decide +kernel)) dX12_curtain_62 ?_
            exact hret _ _ _ _ _ _ dX12_curtain_64 rfl hX hS (by simp only [f_X12_curtain, if_neg c_1, if_neg c_4, if_neg c_7, if_neg c_10, if_neg c_11])
        · have b_16 : wx_b (r_X12_has (g 65 (5 + a1).toNatClampNeg) a2) 0 0 := by rw [c_10]; exact ⟨by decide, by decide⟩
          refine lv_ldc hx hb hown (hts (.constant RX12 60 (-1000001)) (by decide +kernel)) dX12_curtain_38 ?_
          exact hret _ _ _ _ _ _ dX12_curtain_40 rfl hX hS (by simp only [f_X12_curtain, if_neg c_1, if_neg c_4, if_neg c_7, if_pos c_10])
def f_X12_write (g : wx_M) (a1 : Int32) : wx_M × Int32 :=
  if (g 65 (0 : Int32).toNatClampNeg) = 0 then
    (g, (-1000002))
  else
    if (r_X12_isMinute a1) = 0 then
      (g, (-1000001))
    else
      if (r_X12_has (g 65 (51 : Int32).toNatClampNeg) a1) = 0 then
        let g_7 := e_X12_note g 3 0 0 a1 0
        let x_8 := ((g_7 65 (51 : Int32).toNatClampNeg) ||| (1 <<< (a1 &&& 31)))
        let g_9 := up2 g_7 65 (51 : Int32).toNatClampNeg x_8
        let x_10 := (r_X12_bits g_9 (g_9 65 (51 : Int32).toNatClampNeg))
        (g_9, x_10)
      else
        (g, (-1000002))
set_option maxHeartbeats 4000000 in
set_option maxRecDepth 100000 in
theorem k_X12_write (l : Launch) {D : va_G} {cy : Nat → ClassId} {ad : Nat → Nat} {B0 : Nat} {f : wx_F} {P : va_W} (g : wx_M) (a1 : Int32) (hm : wx_MB g) (hac : wx_b (g 57 23) 0 24) : Met l yX12_write wsX12_write ({ frames := 2, cells := 0, slots := 0, locals := 42 } : Room) (wx_Pc D cy ad B0 f P g [.ref (ad 57), .int a1]) (wx_Qe D cy ad B0 f P (f_X12_write g a1).1 (some (.int (f_X12_write g a1).2))) 0 0 (fun q => B0 ≤ q) := by
  refine wx_enterE (cc := cX12_write) (maxL := 2) (ty := .int) (own := RX12) (lv := [(0, .ref (ad 57)), (1, .int a1)]) (by decide) rfl rfl (Nat.le_of_ble_eq_true rfl) rfl ?_
  intro p e R s m args below meth c ls Qm hx hb hml hown hts hK hX hS hR hret hl
  have hi_X12 : ∀ w ∈ wsX120, w ∈ wsX12_write := by decide +kernel
  refine lv_aload_n hx hb dX12_write_0 rfl (lv_at hl 0 rfl) ?_
  refine wx_getr (t := 65) (C := RX12) (T := TX12) (N := 27) (ci := 11) (j := 20) hx hb hts hi_X12 hown hK hX (by decide) sh_X12_20 rfl (by decide) (hts (.fieldLink RX12 31 "SeenAgainModel" "now" "[I") (by decide +kernel)) (fun _ h9 => h9) dX12_write_1 ?_
  refine lv_iconst (v := 0) hx hb dX12_write_4 (by decide) ?_
  refine wx_iald hx hb hK hX (by decide) sa_65 (wb_in (show wx_b 0 0 0 from ⟨by decide, by decide⟩) (by decide) (by decide)) dX12_write_5 ?_
  refine lv_if_ne (tgt := 12) hx hb dX12_write_6 (by decide) (fun c_1 => ?_) (fun c_1 => ?_)
  · have b_2 : wx_b (g 65 (0 : Int32).toNatClampNeg) 1 6 := wb_nel c_1 hm.1 (by decide)
    refine lv_iload_n hx hb dX12_write_12 rfl (lv_at hl 1 rfl) ?_
    refine wx_callr (va_runS (As := [.int a1]) (rest := []) ⟨hx, hb, hml, hown, hts⟩ (k_X12_isMinute l g a1) (va_cwS 1 hts gX12_write_X12_isMinute rfl rfl rfl (by decide +kernel) (by rw [hR]; exact ⟨Nat.le_of_ble_eq_true rfl, Nat.le_of_ble_eq_true rfl⟩)) (wx_Pc.pre hK hX) rfl rfl hl.1 rfl (lv_room (Nat.le_of_ble_eq_true rfl)) dX12_write_13 ⟨Nat.zero_le _, Nat.zero_le _⟩) ?_
    refine lv_if_ne (tgt := 22) hx hb dX12_write_16 (by decide) (fun c_3 => ?_) (fun c_3 => ?_)
    · have b_4 : wx_b a1 0 7 := rf_X12_isMinute  c_3
      refine lv_aload_n hx hb dX12_write_22 rfl (lv_at hl 0 rfl) ?_
      refine wx_getr (t := 65) (C := RX12) (T := TX12) (N := 27) (ci := 11) (j := 20) hx hb hts hi_X12 hown hK hX (by decide) sh_X12_20 rfl (by decide) (hts (.fieldLink RX12 31 "SeenAgainModel" "now" "[I") (by decide +kernel)) (fun _ h9 => h9) dX12_write_23 ?_
      refine lv_bipush (v := 51) hx hb dX12_write_26 (by decide) ?_
      refine wx_iald hx hb hK hX (by decide) sa_65 (wb_in (show wx_b 51 51 51 from ⟨by decide, by decide⟩) (by decide) (by decide)) dX12_write_28 ?_
      refine lv_iload_n hx hb dX12_write_29 rfl (lv_at hl 1 rfl) ?_
      refine wx_callr (va_runS (As := [.int (g 65 (51 : Int32).toNatClampNeg), .int a1]) (rest := []) ⟨hx, hb, hml, hown, hts⟩ (k_X12_has l g (g 65 (51 : Int32).toNatClampNeg) a1) (va_cwS 2 hts gX12_write_X12_has rfl rfl rfl (by decide +kernel) (by rw [hR]; exact ⟨Nat.le_of_ble_eq_true rfl, Nat.le_of_ble_eq_true rfl⟩)) (wx_Pc.pre hK hX) rfl rfl hl.1 rfl (lv_room (Nat.le_of_ble_eq_true rfl)) dX12_write_30 ⟨Nat.zero_le _, Nat.zero_le _⟩) ?_
      refine lv_if_eq (tgt := 39) hx hb dX12_write_33 (by decide) (fun c_5 => ?_) (fun c_5 => ?_)
      · have b_6 : wx_b (r_X12_has (g 65 (51 : Int32).toNatClampNeg) a1) 0 0 := by rw [c_5]; exact ⟨by decide, by decide⟩
        refine lv_aload_n hx hb dX12_write_39 rfl (lv_at hl 0 rfl) ?_
        refine lv_iconst (v := 3) hx hb dX12_write_40 (by decide) ?_
        refine lv_iconst (v := 0) hx hb dX12_write_41 (by decide) ?_
        refine lv_iconst (v := 0) hx hb dX12_write_42 (by decide) ?_
        refine lv_iload_n hx hb dX12_write_43 rfl (lv_at hl 1 rfl) ?_
        refine lv_iconst (v := 0) hx hb dX12_write_44 (by decide) ?_
        refine wx_callev (va_runV (As := [.int 3, .int 0, .int 0, .int a1, .int 0]) (rest := []) ⟨hx, hb, hml, hown, hts⟩ (k_X12_note l g 3 0 0 a1 0 hac) (cwV 5 hts gX12_write_X12_note rfl rfl rfl (by decide +kernel) (by rw [hR]; exact ⟨Nat.le_of_ble_eq_true rfl, Nat.le_of_ble_eq_true rfl⟩)) ⟨wx_Pc.blind, wx_recv hK hX (by decide) sh_X12 rfl, (wx_Pc.pre hK hX).2⟩ rfl rfl hl.1 rfl (lv_room (Nat.le_of_ble_eq_true rfl)) dX12_write_45 ⟨Nat.zero_le _, Nat.zero_le _⟩) hS (fun H locs hX hS => ?_)
        obtain ⟨g_7, eg_7, hX⟩ := wx_nm hX
        refine lv_aload_n hx hb dX12_write_48 rfl (lv_at hl 0 rfl) ?_
        refine wx_getr (t := 65) (C := RX12) (T := TX12) (N := 27) (ci := 11) (j := 20) hx hb hts hi_X12 hown hK hX (by decide) sh_X12_20 rfl (by decide) (hts (.fieldLink RX12 31 "SeenAgainModel" "now" "[I") (by decide +kernel)) (fun _ h9 => h9) dX12_write_49 ?_
        refine lv_bipush (v := 51) hx hb dX12_write_52 (by decide) ?_
        refine lv_aload_n hx hb dX12_write_54 rfl (lv_at hl 0 rfl) ?_
        refine wx_getr (t := 65) (C := RX12) (T := TX12) (N := 27) (ci := 11) (j := 20) hx hb hts hi_X12 hown hK hX (by decide) sh_X12_20 rfl (by decide) (hts (.fieldLink RX12 31 "SeenAgainModel" "now" "[I") (by decide +kernel)) (fun _ h9 => h9) dX12_write_55 ?_
        refine lv_bipush (v := 51) hx hb dX12_write_58 (by decide) ?_
        refine wx_iald hx hb hK hX (by decide) sa_65 (wb_in (show wx_b 51 51 51 from ⟨by decide, by decide⟩) (by decide) (by decide)) dX12_write_60 ?_
        refine lv_iconst (v := 1) hx hb dX12_write_61 (by decide) ?_
        refine lv_iload_n hx hb dX12_write_62 rfl (lv_at hl 1 rfl) ?_
        refine lv_ishl hx hb dX12_write_63 ?_
        refine lv_ior hx hb dX12_write_64 ?_
        refine lv_topi (fun x_8 ex_8 => ?_)
        refine wx_iast hx hb hK hX hS (by decide) sa_65 (wb_in (show wx_b 51 51 51 from ⟨by decide, by decide⟩) (by decide) (by decide)) dX12_write_65 (fun H locs hX hS => ?_)
        obtain ⟨g_9, eg_9, hX⟩ := wx_nm hX
        refine lv_aload_n hx hb dX12_write_66 rfl (lv_at hl 0 rfl) ?_
        refine wx_getr (t := 65) (C := RX12) (T := TX12) (N := 27) (ci := 11) (j := 20) hx hb hts hi_X12 hown hK hX (by decide) sh_X12_20 rfl (by decide) (hts (.fieldLink RX12 31 "SeenAgainModel" "now" "[I") (by decide +kernel)) (fun _ h9 => h9) dX12_write_67 ?_
        refine lv_bipush (v := 51) hx hb dX12_write_70 (by decide) ?_
        refine wx_iald hx hb hK hX (by decide) sa_65 (wb_in (show wx_b 51 51 51 from ⟨by decide, by decide⟩) (by decide) (by decide)) dX12_write_72 ?_
        refine wx_callr (va_runS (As := [.int (g_9 65 (51 : Int32).toNatClampNeg)]) (rest := []) ⟨hx, hb, hml, hown, hts⟩ (k_X12_bits l g_9 (g_9 65 (51 : Int32).toNatClampNeg)) (va_cwS 1 hts gX12_write_X12_bits rfl rfl rfl (by decide +kernel) (by rw [hR]; exact ⟨Nat.le_of_ble_eq_true rfl, Nat.le_of_ble_eq_true rfl⟩)) (wx_Pc.pre hK hX) rfl rfl hl.1 rfl (lv_room (Nat.le_of_ble_eq_true rfl)) dX12_write_73 ⟨Nat.zero_le _, Nat.zero_le _⟩) ?_
        refine lv_topi (fun x_10 ex_10 => ?_)
        exact hret _ _ _ _ _ _ dX12_write_76 rfl hX hS (by subst ex_10 eg_9 ex_8 eg_7; simp only [f_X12_write, if_neg c_1, if_neg c_3, if_pos c_5])
      · refine lv_ldc hx hb hown (hts (.constant RX12 166 (-1000002)) (by decide +kernel)) dX12_write_36 ?_
        exact hret _ _ _ _ _ _ dX12_write_38 rfl hX hS (by simp only [f_X12_write, if_neg c_1, if_neg c_3, if_neg c_5])
    · have b_11 : wx_b (r_X12_isMinute a1) 0 0 := by rw [c_3]; exact ⟨by decide, by decide⟩
      refine lv_ldc hx hb hown (hts (.constant RX12 60 (-1000001)) (by decide +kernel)) dX12_write_19 ?_
      exact hret _ _ _ _ _ _ dX12_write_21 rfl hX hS (by simp only [f_X12_write, if_neg c_1, if_pos c_3])
  · have b_12 : wx_b (g 65 (0 : Int32).toNatClampNeg) 0 0 := by rw [c_1]; exact ⟨by decide, by decide⟩
    refine lv_ldc hx hb hown (hts (.constant RX12 166 (-1000002)) (by decide +kernel)) dX12_write_9 ?_
    exact hret _ _ _ _ _ _ dX12_write_11 rfl hX hS (by simp only [f_X12_write, if_pos c_1])
