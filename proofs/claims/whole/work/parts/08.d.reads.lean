def b_X6_readVisitors_2 (g : wx_M) (ho : Nat) (t_2 : Nat) (s_2 : wx_M) : (wx_M) ⊕ (wx_M × Int32) :=
  if (r_X6_isSort (s_2 18 6)) = 0 then
    .inr ((s_2, 1))
  else
    if (nI t_2) = 4 then
      let z_28 := f_X6_faulty s_2 3
      .inr ((z_28.1, z_28.2))
    else
      let g_8 := up2 s_2 (ho + 6) (nI t_2).toNatClampNeg (r_X6_newVisitor (s_2 18 6))
      let g_9 := e_X6_step g_8
      let z_10 := f_X6_numberStands g_9 0 99
      if z_10.2 = 0 then
        .inr ((z_10.1, 0))
      else
        let x_13 := (z_10.1 18 7)
        let g_14 := up2 z_10.1 (ho + 5) (nI t_2).toNatClampNeg x_13
        let g_15 := e_X6_step g_14
        let z_16 := f_X6_take g_15 59
        if z_16.2 = 0 then
          .inr ((z_16.1, 0))
        else
          let x_18 := ((z_16.1 ho 5) + 1)
          let g_19 := up2 z_16.1 ho 5 x_18
          .inl g_19
def f_X6_readVisitors (g : wx_M) (ho : Nat) : wx_M × Int32 :=
  (match repX 5 (b_X6_readVisitors_2 g ho) g with
  | .inl s_2 =>
    (s_2, 1)
  | .inr r9 => r9)
set_option maxHeartbeats 4000000 in
set_option maxRecDepth 100000 in
theorem k_X6_readVisitors (l : Launch) {D : va_G} {cy : Nat → ClassId} {ad : Nat → Nat} {B0 : Nat} {f : wx_F} {P : va_W} (g : wx_M) (ho : Nat) (hho : wx_H ho) (hT : wx_TB g) (hro : wx_b (g ho 0) 0 6) : Met l yX6_readVisitors wsX6_readVisitors ({ frames := 5, cells := 4, slots := 4, locals := 96 } : Room) (wx_Pc D cy ad B0 f P g [.ref (ad 18), .ref (ad ho)]) (wx_Qx D cy ad B0 (f_X6_readVisitors g ho).1 (some (.int (f_X6_readVisitors g ho).2))) 4 4 (fun q => B0 ≤ q) := by
  refine wx_enterXIN (cc := cX6_readVisitors) (maxL := 3) (ty := .boolean) (own := RX6) (lv := [(0, .ref (ad 18)), (1, .ref (ad ho))]) (by decide) rfl rfl (Nat.le_of_ble_eq_true rfl) rfl ?_
  intro p e R s m args below meth c ls Qm hx hb hml hown hts hK hX hS hR hret hl
  have hi_X6 : ∀ w ∈ wsX60, w ∈ wsX6_readVisitors := by decide +kernel
  have hi_X3 : ∀ w ∈ wsX30, w ∈ wsX6_readVisitors := by decide +kernel
  refine lv_iconst (v := 0) hx hb dX6_readVisitors_0 (by decide) ?_
  refine lv_istore_n (lv' := [(2, .int 0), (0, .ref (ad 18)), (1, .ref (ad ho))]) hx hb dX6_readVisitors_1 rfl hl (by decide) rfl (fun ls hl => ?_)
  have lp_2 : ∀ (n t_2 : Nat) (s_2 : wx_M) (ls : Array Slot) (H : Heap) (locs : List Loc) (f : wx_F) (P : va_W), t_2 ≤ 5 → 5 + 1 ≤ t_2 + n → repX t_2 (b_X6_readVisitors_2 g ho) g = .inl s_2 → wx_X D cy ad B0 f P s_2 H → va_S (fun q => B0 ≤ q) s.heap H locs → wx_TB s_2 → wx_b (s_2 ho 0) 0 6 → t_2 ≤ 4 → lv_has ls 3 [(2, .int (nI t_2)), (0, .ref (ad 18)), (1, .ref (ad ho))] → W p l e R s m args below meth c H locs t_2 t_2 Qm (F0 m 2 ls []) := by
    intro n
    induction n with
    | zero => intro t_2 s_2 ls H locs f P h1 h2; exact absurd h2 (by omega)
    | succ n ih_2 =>
      intro t_2 s_2 ls H locs f P ht_2 hn_2 es_2 hX hS hTI_2 hRI_2 h4_2 hl
      refine lv_iload_n hx hb dX6_readVisitors_2 rfl (lv_at hl 0 rfl) ?_
      refine lv_iconst (v := 4) hx hb dX6_readVisitors_3 (by decide) ?_
      refine lv_icmp_gt (tgt := 99) hx hb dX6_readVisitors_4 (by decide) (fun c_1 => ?_) (fun c_1 => ?_)
      · have et_2 : t_2 = 5 := Nat.le_antisymm ht_2 (by have h9 := wx_dn1 (by omega) (by decide) c_1; have h8 : (4 : Int32).toNatClampNeg = 4 := (by decide); omega)
        subst et_2
        refine lv_iconst (v := 1) hx hb dX6_readVisitors_99 (by decide) ?_
        exact hret _ _ _ _ _ _ _ _ _ _ (by omega) (by omega) dX6_readVisitors_100 rfl hX hS (by simp only [f_X6_readVisitors, es_2])
      · have hlt_2 : t_2 < 5 := by have h9 := wx_up1 (by omega) c_1; have h8 : (4 : Int32).toNatClampNeg = 4 := (by decide); omega
        have bt_2 : wx_b (nI (t_2)) 0 4 := wb_nI (n := 4) (by omega) (by decide)
        refine lv_aload_n hx hb dX6_readVisitors_7 rfl (lv_at hl 1 rfl) ?_
        refine wx_geti (C := RX6) (T := TX6) (N := 8) (ci := 6) (j := 6) hx hb hts hi_X6 hown hK hX (by decide) sh_X6_6 rfl (by decide) (hts (.fieldLink RX6 60 "SeenAgain$Tape" "token" "I") (by decide +kernel)) (fun _ h9 => h9) dX6_readVisitors_8 ?_
        refine wx_callr (va_runS (As := [.int (s_2 18 6)]) (rest := []) ⟨hx, hb, hml, hown, hts⟩ (k_X6_isSort l s_2 (s_2 18 6)) (va_cwS 1 hts gX6_readVisitors_X6_isSort rfl rfl rfl (by decide +kernel) (by rw [hR]; exact ⟨Nat.le_of_ble_eq_true rfl, Nat.le_of_ble_eq_true rfl⟩)) (wx_Pc.pre hK hX) rfl rfl hl.1 rfl (lv_room (Nat.le_of_ble_eq_true rfl)) dX6_readVisitors_11 (by rw [hR]; exact ⟨by show _ ≤ (4 : Nat); omega, by show _ ≤ (4 : Nat); omega⟩)) ?_
        refine lv_if_eq (tgt := 99) hx hb dX6_readVisitors_14 (by decide) (fun c_2 => ?_) (fun c_2 => ?_)
        · have b_3 : wx_b (r_X6_isSort (s_2 18 6)) 0 0 := by rw [c_2]; exact ⟨by decide, by decide⟩
          refine lv_iconst (v := 1) hx hb dX6_readVisitors_99 (by decide) ?_
          have hF_4 : (b_X6_readVisitors_2 g ho) t_2 s_2 = .inr ((s_2, 1)) := (by simp only [b_X6_readVisitors_2, if_pos c_2])
          have hO_5 : repX 5 (b_X6_readVisitors_2 g ho) g = .inr ((s_2, 1)) := repX_out es_2 hF_4 hlt_2
          exact hret _ _ _ _ _ _ _ _ _ _ (by omega) (by omega) dX6_readVisitors_100 rfl hX hS (by simp only [f_X6_readVisitors, hO_5])
        · refine lv_iload_n hx hb dX6_readVisitors_17 rfl (lv_at hl 0 rfl) ?_
          refine lv_iconst (v := 4) hx hb dX6_readVisitors_18 (by decide) ?_
          refine lv_icmp_ne (tgt := 28) hx hb dX6_readVisitors_19 (by decide) (fun c_6 => ?_) (fun c_6 => ?_)
          · have b_7 : wx_b (nI t_2) 0 3 := wb_neh c_6 bt_2 (by decide)
            refine lv_aload_n hx hb dX6_readVisitors_28 rfl (lv_at hl 2 rfl) ?_
            refine wx_getr (t := ho + 6) (C := RX3) (T := TX3) (N := 15) (ci := 3) (j := 14) hx hb hts hi_X3 hown hK hX hho.l0 (sh_X3_14 hho) rfl (by decide) (hts (.fieldLink RX6 79 "SeenAgain$House" "guests" "[LSeenAgain$Visitor;") (by decide +kernel)) (fun _ h9 => h9) dX6_readVisitors_29 ?_
            refine lv_iload_n hx hb dX6_readVisitors_32 rfl (lv_at hl 0 rfl) ?_
            refine lv_aload_n hx hb dX6_readVisitors_33 rfl (lv_at hl 1 rfl) ?_
            refine wx_geti (C := RX6) (T := TX6) (N := 8) (ci := 6) (j := 6) hx hb hts hi_X6 hown hK hX (by decide) sh_X6_6 rfl (by decide) (hts (.fieldLink RX6 60 "SeenAgain$Tape" "token" "I") (by decide +kernel)) (fun _ h9 => h9) dX6_readVisitors_34 ?_
            refine lv_iload_n hx hb dX6_readVisitors_37 rfl (lv_at hl 0 rfl) ?_
            have h3_2 : t_2 ≤ 3 := by have h9 := wb_cl (n := 3) b_7 (by decide); rw [nI_clamp (by omega)] at h9; exact h9
            refine wx_callnv (va_runS (As := [.int (s_2 18 6), .int (nI t_2)]) (rest := [.int (nI t_2), .ref (ad (ho + 6))]) ⟨hx, hb, hml, hown, hts⟩ (k_X6_newVisitor l s_2 (s_2 18 6) (nI t_2)) (va_cwS 2 hts gX6_readVisitors_X6_newVisitor rfl rfl rfl (by decide +kernel) (by rw [hR]; exact ⟨Nat.le_of_ble_eq_true rfl, Nat.le_of_ble_eq_true rfl⟩)) (wx_Pc.pre hK hX) rfl rfl hl.1 rfl (lv_room (Nat.le_of_ble_eq_true rfl)) dX6_readVisitors_38 (by rw [hR]; exact ⟨by show _ ≤ (4 : Nat); omega, by show _ ≤ (4 : Nat); omega⟩)) hS (fun q ci pi P H locs hp hv hX hS => ?_)
            refine wx_gast hx hb hK hX hS (h := ho) hho.l6 hho (wb_in b_7 (by decide) (by decide)) hp hv dX6_readVisitors_41 (fun f H locs hX hS => ?_)
            obtain ⟨g_8, eg_8, hX⟩ := wx_nm hX
            refine lv_aload_n hx hb dX6_readVisitors_42 rfl (lv_at hl 1 rfl) ?_
            refine wx_callev (va_runV (As := []) (rest := []) ⟨hx, hb, hml, hown, hts⟩ (k_X6_step l g_8 (by rw [eg_8]; exact tT_n (by rcases hho with rfl | rfl | rfl | rfl <;> decide) hTI_2)) (cwV 0 hts gX6_readVisitors_X6_step rfl rfl rfl (by decide +kernel) (by rw [hR]; exact ⟨Nat.le_of_ble_eq_true rfl, Nat.le_of_ble_eq_true rfl⟩)) ⟨wx_Pc.blind, wx_recv hK hX (by decide) sh_X6 rfl, (wx_Pc.pre hK hX).2⟩ rfl rfl hl.1 rfl (lv_room (Nat.le_of_ble_eq_true rfl)) dX6_readVisitors_43 (by rw [hR]; exact ⟨by show _ ≤ (4 : Nat); omega, by show _ ≤ (4 : Nat); omega⟩)) hS (fun H locs hX hS => ?_)
            obtain ⟨g_9, eg_9, hX⟩ := wx_nm hX
            refine lv_aload_n hx hb dX6_readVisitors_46 rfl (lv_at hl 1 rfl) ?_
            refine lv_iconst (v := 0) hx hb dX6_readVisitors_47 (by decide) ?_
            refine lv_bipush (v := 99) hx hb dX6_readVisitors_48 (by decide) ?_
            refine wx_callei (va_runV (As := [.int 0, .int 99]) (rest := []) ⟨hx, hb, hml, hown, hts⟩ (k_X6_numberStands l g_9 0 99 (by rw [eg_9]; exact tT_X6_step (by rw [eg_8]; exact tT_n (by rcases hho with rfl | rfl | rfl | rfl <;> decide) hTI_2))) (cwV 2 hts gX6_readVisitors_X6_numberStands rfl rfl rfl (by decide +kernel) (by rw [hR]; exact ⟨Nat.le_of_ble_eq_true rfl, Nat.le_of_ble_eq_true rfl⟩)) ⟨wx_Pc.blind, wx_recv hK hX (by decide) sh_X6 rfl, (wx_Pc.pre hK hX).2⟩ rfl rfl hl.1 rfl (lv_room (Nat.le_of_ble_eq_true rfl)) dX6_readVisitors_50 (by rw [hR]; exact ⟨by show _ ≤ (4 : Nat); omega, by show _ ≤ (4 : Nat); omega⟩)) hS (fun H locs hX hS => ?_)
            obtain ⟨z_10, ez_10⟩ : ∃ z, z = f_X6_numberStands g_9 0 99 := ⟨_, rfl⟩
            rw [← ez_10] at hX; rw [← ez_10]
            refine lv_if_ne (tgt := 58) hx hb dX6_readVisitors_53 (by decide) (fun c_11 => ?_) (fun c_11 => ?_)
            · have b_12 : wx_b (z_10.1 18 7) 0 99 := by rw [ez_10]; exact ns_b (show wx_b 0 0 0 from ⟨by decide, by decide⟩) (show wx_b 99 99 99 from ⟨by decide, by decide⟩) (by rw [← ez_10]; exact c_11)
              refine lv_aload_n hx hb dX6_readVisitors_58 rfl (lv_at hl 2 rfl) ?_
              refine wx_getr (t := ho + 5) (C := RX3) (T := TX3) (N := 15) (ci := 3) (j := 13) hx hb hts hi_X3 hown hK hX hho.l0 (sh_X3_13 hho) rfl (by decide) (hts (.fieldLink RX6 87 "SeenAgain$House" "purses" "[I") (by decide +kernel)) (fun _ h9 => h9) dX6_readVisitors_59 ?_
              refine lv_iload_n hx hb dX6_readVisitors_62 rfl (lv_at hl 0 rfl) ?_
              refine lv_aload_n hx hb dX6_readVisitors_63 rfl (lv_at hl 1 rfl) ?_
              refine wx_geti (C := RX6) (T := TX6) (N := 8) (ci := 6) (j := 7) hx hb hts hi_X6 hown hK hX (by decide) sh_X6_7 rfl (by decide) (hts (.fieldLink RX6 48 "SeenAgain$Tape" "number" "I") (by decide +kernel)) (fun _ h9 => h9) dX6_readVisitors_64 ?_
              refine lv_topi (fun x_13 ex_13 => ?_)
              have bx_13 : wx_b x_13 0 99 := by rw [ex_13]; exact b_12
              refine wx_iast hx hb hK hX hS hho.l5 (sa_X3_5 hho) (wb_in b_7 (by decide) (by decide)) dX6_readVisitors_67 (fun H locs hX hS => ?_)
              obtain ⟨g_14, eg_14, hX⟩ := wx_nm hX
              refine lv_aload_n hx hb dX6_readVisitors_68 rfl (lv_at hl 1 rfl) ?_
              refine wx_callev (va_runV (As := []) (rest := []) ⟨hx, hb, hml, hown, hts⟩ (k_X6_step l g_14 (by rw [eg_14]; exact tT_n (by rcases hho with rfl | rfl | rfl | rfl <;> decide) (by rw [ez_10]; exact tT_X6_numberStands (by rw [eg_9]; exact tT_X6_step (by rw [eg_8]; exact tT_n (by rcases hho with rfl | rfl | rfl | rfl <;> decide) hTI_2))))) (cwV 0 hts gX6_readVisitors_X6_step rfl rfl rfl (by decide +kernel) (by rw [hR]; exact ⟨Nat.le_of_ble_eq_true rfl, Nat.le_of_ble_eq_true rfl⟩)) ⟨wx_Pc.blind, wx_recv hK hX (by decide) sh_X6 rfl, (wx_Pc.pre hK hX).2⟩ rfl rfl hl.1 rfl (lv_room (Nat.le_of_ble_eq_true rfl)) dX6_readVisitors_69 (by rw [hR]; exact ⟨by show _ ≤ (4 : Nat); omega, by show _ ≤ (4 : Nat); omega⟩)) hS (fun H locs hX hS => ?_)
              obtain ⟨g_15, eg_15, hX⟩ := wx_nm hX
              refine lv_aload_n hx hb dX6_readVisitors_72 rfl (lv_at hl 1 rfl) ?_
              refine lv_bipush (v := 59) hx hb dX6_readVisitors_73 (by decide) ?_
              refine wx_callei (va_runV (As := [.int 59]) (rest := []) ⟨hx, hb, hml, hown, hts⟩ (k_X6_take l g_15 59 (by rw [eg_15]; exact tT_X6_step (by rw [eg_14]; exact tT_n (by rcases hho with rfl | rfl | rfl | rfl <;> decide) (by rw [ez_10]; exact tT_X6_numberStands (by rw [eg_9]; exact tT_X6_step (by rw [eg_8]; exact tT_n (by rcases hho with rfl | rfl | rfl | rfl <;> decide) hTI_2)))))) (cwV 1 hts gX6_readVisitors_X6_take rfl rfl rfl (by decide +kernel) (by rw [hR]; exact ⟨Nat.le_of_ble_eq_true rfl, Nat.le_of_ble_eq_true rfl⟩)) ⟨wx_Pc.blind, wx_recv hK hX (by decide) sh_X6 rfl, (wx_Pc.pre hK hX).2⟩ rfl rfl hl.1 rfl (lv_room (Nat.le_of_ble_eq_true rfl)) dX6_readVisitors_75 (by rw [hR]; exact ⟨by show _ ≤ (4 : Nat); omega, by show _ ≤ (4 : Nat); omega⟩)) hS (fun H locs hX hS => ?_)
              obtain ⟨z_16, ez_16⟩ : ∃ z, z = f_X6_take g_15 59 := ⟨_, rfl⟩
              rw [← ez_16] at hX; rw [← ez_16]
              refine lv_if_ne (tgt := 83) hx hb dX6_readVisitors_78 (by decide) (fun c_17 => ?_) (fun c_17 => ?_)
              · refine lv_aload_n hx hb dX6_readVisitors_83 rfl (lv_at hl 2 rfl) ?_
                refine lv_dup hx hb dX6_readVisitors_84 rfl ?_
                refine wx_geti (C := RX3) (T := TX3) (N := 15) (ci := 3) (j := 5) hx hb hts hi_X3 hown hK hX hho.l0 (sh_X3_5 hho) rfl (by decide) (hts (.fieldLink RX6 90 "SeenAgain$House" "visitors" "I") (by decide +kernel)) (fun _ h9 => h9) dX6_readVisitors_85 ?_
                refine lv_iconst (v := 1) hx hb dX6_readVisitors_88 (by decide) ?_
                refine lv_iadd hx hb dX6_readVisitors_89 ?_
                refine lv_topi (fun x_18 ex_18 => ?_)
                refine wx_puti (C := RX3) (T := TX3) (N := 15) (ci := 3) (j := 5) (ty := .int) hx hb hts hi_X3 tyX3 tyX3_ok nmX3 hown hK hX hS hho.l0 (sh_X3_5 hho) rfl (by decide) (hts (.fieldLink RX6 90 "SeenAgain$House" "visitors" "I") (by decide +kernel)) (fun _ h9 => h9) rfl (by decide +kernel) rfl rfl dX6_readVisitors_90 (fun H locs hX hS => ?_)
                obtain ⟨g_19, eg_19, hX⟩ := wx_nm hX
                refine lv_iinc (v := nI (t_2 + 1)) (lv' := [(2, .int (nI (t_2 + 1))), (0, .ref (ad 18)), (1, .ref (ad ho))]) hx hb dX6_readVisitors_93 hl (k := 0) rfl (wx_inc _) (by decide) rfl (fun ls hl => ?_)
                refine lv_goto (tgt := 2) hx hb dX6_readVisitors_96 (by decide) ?_
                have hF_20 : (b_X6_readVisitors_2 g ho) t_2 s_2 = .inl g_19 := (by subst eg_19 ex_18 ez_16 eg_15 eg_14 ex_13 ez_10 eg_9 eg_8; simp only [b_X6_readVisitors_2, if_neg c_2, if_neg c_6, if_neg c_11, if_neg c_17])
                exact ih_2 (t_2 + 1) g_19 ls H locs f P hlt_2 (by omega) ((repX_go es_2).trans hF_20) hX hS (by rw [eg_19]; exact tT_n (by rcases hho with rfl | rfl | rfl | rfl <;> decide) (by rw [ez_16]; exact tT_X6_take (by rw [eg_15]; exact tT_X6_step (by rw [eg_14]; exact tT_n (by rcases hho with rfl | rfl | rfl | rfl <;> decide) (by rw [ez_10]; exact tT_X6_numberStands (by rw [eg_9]; exact tT_X6_step (by rw [eg_8]; exact tT_n (by rcases hho with rfl | rfl | rfl | rfl <;> decide) hTI_2))))))) (wb_w (show wx_b (g_19 ho 0) 0 6 by rw [show (g_19 ho 0) = (z_16.1 ho 0) from (by rw [eg_19, up2_sn (by decide)])]; exact (show wx_b (z_16.1 ho 0) 0 6 by rw [show (z_16.1 ho 0) = (g_15 ho 0) from (by rw [ez_16, fr_X6_take (by rcases hho with rfl | rfl | rfl | rfl <;> decide)])]; exact (show wx_b (g_15 ho 0) 0 6 by rw [show (g_15 ho 0) = (g_14 ho 0) from (by rw [eg_15, fr_X6_step (by rcases hho with rfl | rfl | rfl | rfl <;> decide)])]; exact (show wx_b (g_14 ho 0) 0 6 by rw [show (g_14 ho 0) = (z_10.1 ho 0) from (by rw [eg_14, up2_n (by omega)])]; exact (show wx_b (z_10.1 ho 0) 0 6 by rw [show (z_10.1 ho 0) = (g_9 ho 0) from (by rw [ez_10, fr_X6_numberStands (by rcases hho with rfl | rfl | rfl | rfl <;> decide)])]; exact (show wx_b (g_9 ho 0) 0 6 by rw [show (g_9 ho 0) = (g_8 ho 0) from (by rw [eg_9, fr_X6_step (by rcases hho with rfl | rfl | rfl | rfl <;> decide)])]; exact (show wx_b (g_8 ho 0) 0 6 by rw [show (g_8 ho 0) = (s_2 ho 0) from (by rw [eg_8, up2_n (by omega)])]; exact hRI_2))))))) (by decide) (by decide)) (by have h9 := wb_cl (n := 3) b_7 (by decide); rw [nI_clamp (by omega)] at h9; omega) (lv_sub hl [0, 1, 2] rfl)
              · have b_21 : wx_b z_16.2 0 0 := by rw [c_17]; exact ⟨by decide, by decide⟩
                refine lv_iconst (v := 0) hx hb dX6_readVisitors_81 (by decide) ?_
                have hF_22 : (b_X6_readVisitors_2 g ho) t_2 s_2 = .inr ((z_16.1, 0)) := (by subst ez_16 eg_15 eg_14 ex_13 ez_10 eg_9 eg_8; simp only [b_X6_readVisitors_2, if_neg c_2, if_neg c_6, if_neg c_11, if_pos c_17])
                have hO_23 : repX 5 (b_X6_readVisitors_2 g ho) g = .inr ((z_16.1, 0)) := repX_out es_2 hF_22 hlt_2
                exact hret _ _ _ _ _ _ _ _ _ _ (by omega) (by omega) dX6_readVisitors_82 rfl hX hS (by simp only [f_X6_readVisitors, hO_23])
            · have b_24 : wx_b z_10.2 0 0 := by rw [c_11]; exact ⟨by decide, by decide⟩
              refine lv_iconst (v := 0) hx hb dX6_readVisitors_56 (by decide) ?_
              have hF_25 : (b_X6_readVisitors_2 g ho) t_2 s_2 = .inr ((z_10.1, 0)) := (by subst ez_10 eg_9 eg_8; simp only [b_X6_readVisitors_2, if_neg c_2, if_neg c_6, if_pos c_11])
              have hO_26 : repX 5 (b_X6_readVisitors_2 g ho) g = .inr ((z_10.1, 0)) := repX_out es_2 hF_25 hlt_2
              exact hret _ _ _ _ _ _ _ _ _ _ (by omega) (by omega) dX6_readVisitors_57 rfl hX hS (by simp only [f_X6_readVisitors, hO_26])
          · have b_27 : wx_b (nI t_2) 4 4 := by rw [c_6]; exact ⟨by decide, by decide⟩
            refine lv_aload_n hx hb dX6_readVisitors_22 rfl (lv_at hl 1 rfl) ?_
            refine lv_iconst (v := 3) hx hb dX6_readVisitors_23 (by decide) ?_
            refine wx_callei (va_runV (As := [.int 3]) (rest := []) ⟨hx, hb, hml, hown, hts⟩ (k_X6_faulty l s_2 3 hTI_2) (cwV 1 hts gX6_readVisitors_X6_faulty rfl rfl rfl (by decide +kernel) (by rw [hR]; exact ⟨Nat.le_of_ble_eq_true rfl, Nat.le_of_ble_eq_true rfl⟩)) ⟨wx_Pc.blind, wx_recv hK hX (by decide) sh_X6 rfl, (wx_Pc.pre hK hX).2⟩ rfl rfl hl.1 rfl (lv_room (Nat.le_of_ble_eq_true rfl)) dX6_readVisitors_24 (by rw [hR]; exact ⟨by show _ ≤ (4 : Nat); omega, by show _ ≤ (4 : Nat); omega⟩)) hS (fun H locs hX hS => ?_)
            obtain ⟨z_28, ez_28⟩ : ∃ z, z = f_X6_faulty s_2 3 := ⟨_, rfl⟩
            rw [← ez_28] at hX; rw [← ez_28]
            have hF_29 : (b_X6_readVisitors_2 g ho) t_2 s_2 = .inr ((z_28.1, z_28.2)) := (by subst ez_28; simp only [b_X6_readVisitors_2, if_neg c_2, if_pos c_6])
            have hO_30 : repX 5 (b_X6_readVisitors_2 g ho) g = .inr ((z_28.1, z_28.2)) := repX_out es_2 hF_29 hlt_2
            exact hret _ _ _ _ _ _ _ _ _ _ (by omega) (by omega) dX6_readVisitors_27 (by rw [ez_28]; exact nb_f_X6_faulty _ _) hX hS (by simp only [f_X6_readVisitors, hO_30])
  exact lp_2 (5 + 1) 0 g ls s.heap [] f P (Nat.zero_le _) (by omega) rfl hX hS hT hro (Nat.zero_le _) (lv_sub hl [0, 1, 2] rfl)
set_option maxHeartbeats 4000000 in
theorem np_X6_readVisitors {g : wx_M} {ho : Nat} (hho : wx_H ho) (hT : wx_TB g) (hro : wx_b (g ho 0) 0 6) : narrow .boolean (.int (f_X6_readVisitors g ho).2) = .int (f_X6_readVisitors g ho).2 := by
  have lp_2 := repX_inv2 (f := (b_X6_readVisitors_2 g ho)) (s0 := g) (fun (t_2 : Nat) (s_2 : wx_M) => (wx_TB s_2) ∧ (wx_b (s_2 ho 0) 0 6) ∧ (t_2 ≤ 4)) (fun r => narrow .boolean (.int (r).2) = .int (r).2) 5 ⟨hT, hro, (Nat.zero_le _)⟩ (by
    intro t_2 s_2 hlt_2 hI9
    obtain ⟨hTI_2, hRI_2, h4_2⟩ := hI9
    have bt_2 : wx_b (nI (t_2)) 0 4 := wb_nI (n := 4) (by omega) (by decide)
    by_cases c_2 : (r_X6_isSort (s_2 18 6)) = 0
    · have b_3 : wx_b (r_X6_isSort (s_2 18 6)) 0 0 := by rw [c_2]; exact ⟨by decide, by decide⟩
      rw [show (b_X6_readVisitors_2 g ho) t_2 s_2 = .inr ((s_2, 1)) from (by simp only [b_X6_readVisitors_2, if_pos c_2])]
      exact (Or.inr ⟨_, rfl, (show narrow .boolean (.int 1) = .int 1 from rfl)⟩)
    · by_cases c_4 : (nI t_2) = 4
      · have b_5 : wx_b (nI t_2) 4 4 := by rw [c_4]; exact ⟨by decide, by decide⟩
        obtain ⟨z_6, ez_6⟩ : ∃ z, z = f_X6_faulty s_2 3 := ⟨_, rfl⟩
        rw [show (b_X6_readVisitors_2 g ho) t_2 s_2 = .inr ((z_6.1, z_6.2)) from (by subst ez_6; simp only [b_X6_readVisitors_2, if_neg c_2, if_pos c_4])]
        exact (Or.inr ⟨_, rfl, (by rw [ez_6]; exact nb_f_X6_faulty _ _)⟩)
      · have b_7 : wx_b (nI t_2) 0 3 := wb_neh c_4 bt_2 (by decide)
        have h3_2 : t_2 ≤ 3 := by have h9 := wb_cl (n := 3) b_7 (by decide); rw [nI_clamp (by omega)] at h9; exact h9
        obtain ⟨g_8, eg_8⟩ : ∃ z : wx_M, z = up2 s_2 (ho + 6) (nI t_2).toNatClampNeg (r_X6_newVisitor (s_2 18 6)) := ⟨_, rfl⟩
        obtain ⟨g_9, eg_9⟩ : ∃ z : wx_M, z = e_X6_step g_8 := ⟨_, rfl⟩
        obtain ⟨z_10, ez_10⟩ : ∃ z, z = f_X6_numberStands g_9 0 99 := ⟨_, rfl⟩
        by_cases c_11 : z_10.2 = 0
        · have b_12 : wx_b z_10.2 0 0 := by rw [c_11]; exact ⟨by decide, by decide⟩
          rw [show (b_X6_readVisitors_2 g ho) t_2 s_2 = .inr ((z_10.1, 0)) from (by subst ez_10 eg_9 eg_8; simp only [b_X6_readVisitors_2, if_neg c_2, if_neg c_4, if_pos c_11])]
          exact (Or.inr ⟨_, rfl, (show narrow .boolean (.int 0) = .int 0 from rfl)⟩)
        · have b_13 : wx_b (z_10.1 18 7) 0 99 := by rw [ez_10]; exact ns_b (show wx_b 0 0 0 from ⟨by decide, by decide⟩) (show wx_b 99 99 99 from ⟨by decide, by decide⟩) (by rw [← ez_10]; exact c_11)
          obtain ⟨x_14, ex_14⟩ : ∃ z : Int32, z = (z_10.1 18 7) := ⟨_, rfl⟩
          have bx_14 : wx_b x_14 0 99 := by rw [ex_14]; exact b_13
          obtain ⟨g_15, eg_15⟩ : ∃ z : wx_M, z = up2 z_10.1 (ho + 5) (nI t_2).toNatClampNeg x_14 := ⟨_, rfl⟩
          obtain ⟨g_16, eg_16⟩ : ∃ z : wx_M, z = e_X6_step g_15 := ⟨_, rfl⟩
          obtain ⟨z_17, ez_17⟩ : ∃ z, z = f_X6_take g_16 59 := ⟨_, rfl⟩
          by_cases c_18 : z_17.2 = 0
          · have b_19 : wx_b z_17.2 0 0 := by rw [c_18]; exact ⟨by decide, by decide⟩
            rw [show (b_X6_readVisitors_2 g ho) t_2 s_2 = .inr ((z_17.1, 0)) from (by subst ez_17 eg_16 eg_15 ex_14 ez_10 eg_9 eg_8; simp only [b_X6_readVisitors_2, if_neg c_2, if_neg c_4, if_neg c_11, if_pos c_18])]
            exact (Or.inr ⟨_, rfl, (show narrow .boolean (.int 0) = .int 0 from rfl)⟩)
          · obtain ⟨x_20, ex_20⟩ : ∃ z : Int32, z = ((z_17.1 ho 5) + 1) := ⟨_, rfl⟩
            obtain ⟨g_21, eg_21⟩ : ∃ z : wx_M, z = up2 z_17.1 ho 5 x_20 := ⟨_, rfl⟩
            rw [show (b_X6_readVisitors_2 g ho) t_2 s_2 = .inl g_21 from (by subst eg_21 ex_20 ez_17 eg_16 eg_15 ex_14 ez_10 eg_9 eg_8; simp only [b_X6_readVisitors_2, if_neg c_2, if_neg c_4, if_neg c_11, if_neg c_18])]
            exact (Or.inl ⟨_, rfl, ⟨(by rw [eg_21]; exact tT_n (by rcases hho with rfl | rfl | rfl | rfl <;> decide) (by rw [ez_17]; exact tT_X6_take (by rw [eg_16]; exact tT_X6_step (by rw [eg_15]; exact tT_n (by rcases hho with rfl | rfl | rfl | rfl <;> decide) (by rw [ez_10]; exact tT_X6_numberStands (by rw [eg_9]; exact tT_X6_step (by rw [eg_8]; exact tT_n (by rcases hho with rfl | rfl | rfl | rfl <;> decide) hTI_2))))))), (wb_w (show wx_b (g_21 ho 0) 0 6 by rw [show (g_21 ho 0) = (z_17.1 ho 0) from (by rw [eg_21, up2_sn (by decide)])]; exact (show wx_b (z_17.1 ho 0) 0 6 by rw [show (z_17.1 ho 0) = (g_16 ho 0) from (by rw [ez_17, fr_X6_take (by rcases hho with rfl | rfl | rfl | rfl <;> decide)])]; exact (show wx_b (g_16 ho 0) 0 6 by rw [show (g_16 ho 0) = (g_15 ho 0) from (by rw [eg_16, fr_X6_step (by rcases hho with rfl | rfl | rfl | rfl <;> decide)])]; exact (show wx_b (g_15 ho 0) 0 6 by rw [show (g_15 ho 0) = (z_10.1 ho 0) from (by rw [eg_15, up2_n (by omega)])]; exact (show wx_b (z_10.1 ho 0) 0 6 by rw [show (z_10.1 ho 0) = (g_9 ho 0) from (by rw [ez_10, fr_X6_numberStands (by rcases hho with rfl | rfl | rfl | rfl <;> decide)])]; exact (show wx_b (g_9 ho 0) 0 6 by rw [show (g_9 ho 0) = (g_8 ho 0) from (by rw [eg_9, fr_X6_step (by rcases hho with rfl | rfl | rfl | rfl <;> decide)])]; exact (show wx_b (g_8 ho 0) 0 6 by rw [show (g_8 ho 0) = (s_2 ho 0) from (by rw [eg_8, up2_n (by omega)])]; exact hRI_2))))))) (by decide) (by decide)), (by have h9 := wb_cl (n := 3) b_7 (by decide); rw [nI_clamp (by omega)] at h9; omega)⟩⟩))
  cases hc_2 : repX 5 (b_X6_readVisitors_2 g ho) g with
  | inr r_2 =>
    rw [show f_X6_readVisitors g ho = r_2 from (by simp only [f_X6_readVisitors, hc_2])]
    exact lp_2.2 _ hc_2
  | inl s_2 =>
    have h9 := lp_2.1 _ hc_2
    obtain ⟨hTI_2, hRI_2, h4_2⟩ := h9
    rw [show f_X6_readVisitors g ho = (s_2, 1) from (by simp only [f_X6_readVisitors, hc_2])]
    exact (show narrow .boolean (.int 1) = .int 1 from rfl)

set_option maxHeartbeats 4000000 in
theorem tT_X6_readVisitors {g : wx_M} {ho : Nat} (hho : wx_H ho) (hT : wx_TB g) (hro : wx_b (g ho 0) 0 6) : wx_TB (f_X6_readVisitors g ho).1 := by
  have lp_2 := repX_inv2 (f := (b_X6_readVisitors_2 g ho)) (s0 := g) (fun (t_2 : Nat) (s_2 : wx_M) => (wx_TB s_2) ∧ (wx_b (s_2 ho 0) 0 6) ∧ (t_2 ≤ 4)) (fun r => wx_TB (r).1) 5 ⟨hT, hro, (Nat.zero_le _)⟩ (by
    intro t_2 s_2 hlt_2 hI9
    obtain ⟨hTI_2, hRI_2, h4_2⟩ := hI9
    have bt_2 : wx_b (nI (t_2)) 0 4 := wb_nI (n := 4) (by omega) (by decide)
    by_cases c_2 : (r_X6_isSort (s_2 18 6)) = 0
    · have b_3 : wx_b (r_X6_isSort (s_2 18 6)) 0 0 := by rw [c_2]; exact ⟨by decide, by decide⟩
      rw [show (b_X6_readVisitors_2 g ho) t_2 s_2 = .inr ((s_2, 1)) from (by simp only [b_X6_readVisitors_2, if_pos c_2])]
      exact (Or.inr ⟨_, rfl, hTI_2⟩)
    · by_cases c_4 : (nI t_2) = 4
      · have b_5 : wx_b (nI t_2) 4 4 := by rw [c_4]; exact ⟨by decide, by decide⟩
        obtain ⟨z_6, ez_6⟩ : ∃ z, z = f_X6_faulty s_2 3 := ⟨_, rfl⟩
        rw [show (b_X6_readVisitors_2 g ho) t_2 s_2 = .inr ((z_6.1, z_6.2)) from (by subst ez_6; simp only [b_X6_readVisitors_2, if_neg c_2, if_pos c_4])]
        exact (Or.inr ⟨_, rfl, (by rw [ez_6]; exact tT_X6_faulty hTI_2)⟩)
      · have b_7 : wx_b (nI t_2) 0 3 := wb_neh c_4 bt_2 (by decide)
        have h3_2 : t_2 ≤ 3 := by have h9 := wb_cl (n := 3) b_7 (by decide); rw [nI_clamp (by omega)] at h9; exact h9
        obtain ⟨g_8, eg_8⟩ : ∃ z : wx_M, z = up2 s_2 (ho + 6) (nI t_2).toNatClampNeg (r_X6_newVisitor (s_2 18 6)) := ⟨_, rfl⟩
        obtain ⟨g_9, eg_9⟩ : ∃ z : wx_M, z = e_X6_step g_8 := ⟨_, rfl⟩
        obtain ⟨z_10, ez_10⟩ : ∃ z, z = f_X6_numberStands g_9 0 99 := ⟨_, rfl⟩
        by_cases c_11 : z_10.2 = 0
        · have b_12 : wx_b z_10.2 0 0 := by rw [c_11]; exact ⟨by decide, by decide⟩
          rw [show (b_X6_readVisitors_2 g ho) t_2 s_2 = .inr ((z_10.1, 0)) from (by subst ez_10 eg_9 eg_8; simp only [b_X6_readVisitors_2, if_neg c_2, if_neg c_4, if_pos c_11])]
          exact (Or.inr ⟨_, rfl, (by rw [ez_10]; exact tT_X6_numberStands (by rw [eg_9]; exact tT_X6_step (by rw [eg_8]; exact tT_n (by rcases hho with rfl | rfl | rfl | rfl <;> decide) hTI_2)))⟩)
        · have b_13 : wx_b (z_10.1 18 7) 0 99 := by rw [ez_10]; exact ns_b (show wx_b 0 0 0 from ⟨by decide, by decide⟩) (show wx_b 99 99 99 from ⟨by decide, by decide⟩) (by rw [← ez_10]; exact c_11)
          obtain ⟨x_14, ex_14⟩ : ∃ z : Int32, z = (z_10.1 18 7) := ⟨_, rfl⟩
          have bx_14 : wx_b x_14 0 99 := by rw [ex_14]; exact b_13
          obtain ⟨g_15, eg_15⟩ : ∃ z : wx_M, z = up2 z_10.1 (ho + 5) (nI t_2).toNatClampNeg x_14 := ⟨_, rfl⟩
          obtain ⟨g_16, eg_16⟩ : ∃ z : wx_M, z = e_X6_step g_15 := ⟨_, rfl⟩
          obtain ⟨z_17, ez_17⟩ : ∃ z, z = f_X6_take g_16 59 := ⟨_, rfl⟩
          by_cases c_18 : z_17.2 = 0
          · have b_19 : wx_b z_17.2 0 0 := by rw [c_18]; exact ⟨by decide, by decide⟩
            rw [show (b_X6_readVisitors_2 g ho) t_2 s_2 = .inr ((z_17.1, 0)) from (by subst ez_17 eg_16 eg_15 ex_14 ez_10 eg_9 eg_8; simp only [b_X6_readVisitors_2, if_neg c_2, if_neg c_4, if_neg c_11, if_pos c_18])]
            exact (Or.inr ⟨_, rfl, (by rw [ez_17]; exact tT_X6_take (by rw [eg_16]; exact tT_X6_step (by rw [eg_15]; exact tT_n (by rcases hho with rfl | rfl | rfl | rfl <;> decide) (by rw [ez_10]; exact tT_X6_numberStands (by rw [eg_9]; exact tT_X6_step (by rw [eg_8]; exact tT_n (by rcases hho with rfl | rfl | rfl | rfl <;> decide) hTI_2))))))⟩)
          · obtain ⟨x_20, ex_20⟩ : ∃ z : Int32, z = ((z_17.1 ho 5) + 1) := ⟨_, rfl⟩
            obtain ⟨g_21, eg_21⟩ : ∃ z : wx_M, z = up2 z_17.1 ho 5 x_20 := ⟨_, rfl⟩
            rw [show (b_X6_readVisitors_2 g ho) t_2 s_2 = .inl g_21 from (by subst eg_21 ex_20 ez_17 eg_16 eg_15 ex_14 ez_10 eg_9 eg_8; simp only [b_X6_readVisitors_2, if_neg c_2, if_neg c_4, if_neg c_11, if_neg c_18])]
            exact (Or.inl ⟨_, rfl, ⟨(by rw [eg_21]; exact tT_n (by rcases hho with rfl | rfl | rfl | rfl <;> decide) (by rw [ez_17]; exact tT_X6_take (by rw [eg_16]; exact tT_X6_step (by rw [eg_15]; exact tT_n (by rcases hho with rfl | rfl | rfl | rfl <;> decide) (by rw [ez_10]; exact tT_X6_numberStands (by rw [eg_9]; exact tT_X6_step (by rw [eg_8]; exact tT_n (by rcases hho with rfl | rfl | rfl | rfl <;> decide) hTI_2))))))), (wb_w (show wx_b (g_21 ho 0) 0 6 by rw [show (g_21 ho 0) = (z_17.1 ho 0) from (by rw [eg_21, up2_sn (by decide)])]; exact (show wx_b (z_17.1 ho 0) 0 6 by rw [show (z_17.1 ho 0) = (g_16 ho 0) from (by rw [ez_17, fr_X6_take (by rcases hho with rfl | rfl | rfl | rfl <;> decide)])]; exact (show wx_b (g_16 ho 0) 0 6 by rw [show (g_16 ho 0) = (g_15 ho 0) from (by rw [eg_16, fr_X6_step (by rcases hho with rfl | rfl | rfl | rfl <;> decide)])]; exact (show wx_b (g_15 ho 0) 0 6 by rw [show (g_15 ho 0) = (z_10.1 ho 0) from (by rw [eg_15, up2_n (by omega)])]; exact (show wx_b (z_10.1 ho 0) 0 6 by rw [show (z_10.1 ho 0) = (g_9 ho 0) from (by rw [ez_10, fr_X6_numberStands (by rcases hho with rfl | rfl | rfl | rfl <;> decide)])]; exact (show wx_b (g_9 ho 0) 0 6 by rw [show (g_9 ho 0) = (g_8 ho 0) from (by rw [eg_9, fr_X6_step (by rcases hho with rfl | rfl | rfl | rfl <;> decide)])]; exact (show wx_b (g_8 ho 0) 0 6 by rw [show (g_8 ho 0) = (s_2 ho 0) from (by rw [eg_8, up2_n (by omega)])]; exact hRI_2))))))) (by decide) (by decide)), (by have h9 := wb_cl (n := 3) b_7 (by decide); rw [nI_clamp (by omega)] at h9; omega)⟩⟩))
  cases hc_2 : repX 5 (b_X6_readVisitors_2 g ho) g with
  | inr r_2 =>
    rw [show f_X6_readVisitors g ho = r_2 from (by simp only [f_X6_readVisitors, hc_2])]
    exact lp_2.2 _ hc_2
  | inl s_2 =>
    have h9 := lp_2.1 _ hc_2
    obtain ⟨hTI_2, hRI_2, h4_2⟩ := h9
    rw [show f_X6_readVisitors g ho = (s_2, 1) from (by simp only [f_X6_readVisitors, hc_2])]
    exact hTI_2

set_option maxHeartbeats 4000000 in
theorem ro_X6_readVisitors {g : wx_M} {ho : Nat} (hho : wx_H ho) (hT : wx_TB g) (hro : wx_b (g ho 0) 0 6) : wx_b ((f_X6_readVisitors g ho).1 ho 0) 0 6 := by
  have lp_2 := repX_inv2 (f := (b_X6_readVisitors_2 g ho)) (s0 := g) (fun (t_2 : Nat) (s_2 : wx_M) => (wx_TB s_2) ∧ (wx_b (s_2 ho 0) 0 6) ∧ (t_2 ≤ 4)) (fun r => wx_b ((r).1 ho 0) 0 6) 5 ⟨hT, hro, (Nat.zero_le _)⟩ (by
    intro t_2 s_2 hlt_2 hI9
    obtain ⟨hTI_2, hRI_2, h4_2⟩ := hI9
    have bt_2 : wx_b (nI (t_2)) 0 4 := wb_nI (n := 4) (by omega) (by decide)
    by_cases c_2 : (r_X6_isSort (s_2 18 6)) = 0
    · have b_3 : wx_b (r_X6_isSort (s_2 18 6)) 0 0 := by rw [c_2]; exact ⟨by decide, by decide⟩
      rw [show (b_X6_readVisitors_2 g ho) t_2 s_2 = .inr ((s_2, 1)) from (by simp only [b_X6_readVisitors_2, if_pos c_2])]
      exact (Or.inr ⟨_, rfl, (wb_w hRI_2 (by decide) (by decide))⟩)
    · by_cases c_4 : (nI t_2) = 4
      · have b_5 : wx_b (nI t_2) 4 4 := by rw [c_4]; exact ⟨by decide, by decide⟩
        obtain ⟨z_6, ez_6⟩ : ∃ z, z = f_X6_faulty s_2 3 := ⟨_, rfl⟩
        rw [show (b_X6_readVisitors_2 g ho) t_2 s_2 = .inr ((z_6.1, z_6.2)) from (by subst ez_6; simp only [b_X6_readVisitors_2, if_neg c_2, if_pos c_4])]
        exact (Or.inr ⟨_, rfl, (wb_w (show wx_b (z_6.1 ho 0) 0 6 by rw [show (z_6.1 ho 0) = (s_2 ho 0) from (by rw [ez_6, fr_X6_faulty (by rcases hho with rfl | rfl | rfl | rfl <;> decide)])]; exact hRI_2) (by decide) (by decide))⟩)
      · have b_7 : wx_b (nI t_2) 0 3 := wb_neh c_4 bt_2 (by decide)
        have h3_2 : t_2 ≤ 3 := by have h9 := wb_cl (n := 3) b_7 (by decide); rw [nI_clamp (by omega)] at h9; exact h9
        obtain ⟨g_8, eg_8⟩ : ∃ z : wx_M, z = up2 s_2 (ho + 6) (nI t_2).toNatClampNeg (r_X6_newVisitor (s_2 18 6)) := ⟨_, rfl⟩
        obtain ⟨g_9, eg_9⟩ : ∃ z : wx_M, z = e_X6_step g_8 := ⟨_, rfl⟩
        obtain ⟨z_10, ez_10⟩ : ∃ z, z = f_X6_numberStands g_9 0 99 := ⟨_, rfl⟩
        by_cases c_11 : z_10.2 = 0
        · have b_12 : wx_b z_10.2 0 0 := by rw [c_11]; exact ⟨by decide, by decide⟩
          rw [show (b_X6_readVisitors_2 g ho) t_2 s_2 = .inr ((z_10.1, 0)) from (by subst ez_10 eg_9 eg_8; simp only [b_X6_readVisitors_2, if_neg c_2, if_neg c_4, if_pos c_11])]
          exact (Or.inr ⟨_, rfl, (wb_w (show wx_b (z_10.1 ho 0) 0 6 by rw [show (z_10.1 ho 0) = (g_9 ho 0) from (by rw [ez_10, fr_X6_numberStands (by rcases hho with rfl | rfl | rfl | rfl <;> decide)])]; exact (show wx_b (g_9 ho 0) 0 6 by rw [show (g_9 ho 0) = (g_8 ho 0) from (by rw [eg_9, fr_X6_step (by rcases hho with rfl | rfl | rfl | rfl <;> decide)])]; exact (show wx_b (g_8 ho 0) 0 6 by rw [show (g_8 ho 0) = (s_2 ho 0) from (by rw [eg_8, up2_n (by omega)])]; exact hRI_2))) (by decide) (by decide))⟩)
        · have b_13 : wx_b (z_10.1 18 7) 0 99 := by rw [ez_10]; exact ns_b (show wx_b 0 0 0 from ⟨by decide, by decide⟩) (show wx_b 99 99 99 from ⟨by decide, by decide⟩) (by rw [← ez_10]; exact c_11)
          obtain ⟨x_14, ex_14⟩ : ∃ z : Int32, z = (z_10.1 18 7) := ⟨_, rfl⟩
          have bx_14 : wx_b x_14 0 99 := by rw [ex_14]; exact b_13
          obtain ⟨g_15, eg_15⟩ : ∃ z : wx_M, z = up2 z_10.1 (ho + 5) (nI t_2).toNatClampNeg x_14 := ⟨_, rfl⟩
          obtain ⟨g_16, eg_16⟩ : ∃ z : wx_M, z = e_X6_step g_15 := ⟨_, rfl⟩
          obtain ⟨z_17, ez_17⟩ : ∃ z, z = f_X6_take g_16 59 := ⟨_, rfl⟩
          by_cases c_18 : z_17.2 = 0
          · have b_19 : wx_b z_17.2 0 0 := by rw [c_18]; exact ⟨by decide, by decide⟩
            rw [show (b_X6_readVisitors_2 g ho) t_2 s_2 = .inr ((z_17.1, 0)) from (by subst ez_17 eg_16 eg_15 ex_14 ez_10 eg_9 eg_8; simp only [b_X6_readVisitors_2, if_neg c_2, if_neg c_4, if_neg c_11, if_pos c_18])]
            exact (Or.inr ⟨_, rfl, (wb_w (show wx_b (z_17.1 ho 0) 0 6 by rw [show (z_17.1 ho 0) = (g_16 ho 0) from (by rw [ez_17, fr_X6_take (by rcases hho with rfl | rfl | rfl | rfl <;> decide)])]; exact (show wx_b (g_16 ho 0) 0 6 by rw [show (g_16 ho 0) = (g_15 ho 0) from (by rw [eg_16, fr_X6_step (by rcases hho with rfl | rfl | rfl | rfl <;> decide)])]; exact (show wx_b (g_15 ho 0) 0 6 by rw [show (g_15 ho 0) = (z_10.1 ho 0) from (by rw [eg_15, up2_n (by omega)])]; exact (show wx_b (z_10.1 ho 0) 0 6 by rw [show (z_10.1 ho 0) = (g_9 ho 0) from (by rw [ez_10, fr_X6_numberStands (by rcases hho with rfl | rfl | rfl | rfl <;> decide)])]; exact (show wx_b (g_9 ho 0) 0 6 by rw [show (g_9 ho 0) = (g_8 ho 0) from (by rw [eg_9, fr_X6_step (by rcases hho with rfl | rfl | rfl | rfl <;> decide)])]; exact (show wx_b (g_8 ho 0) 0 6 by rw [show (g_8 ho 0) = (s_2 ho 0) from (by rw [eg_8, up2_n (by omega)])]; exact hRI_2)))))) (by decide) (by decide))⟩)
          · obtain ⟨x_20, ex_20⟩ : ∃ z : Int32, z = ((z_17.1 ho 5) + 1) := ⟨_, rfl⟩
            obtain ⟨g_21, eg_21⟩ : ∃ z : wx_M, z = up2 z_17.1 ho 5 x_20 := ⟨_, rfl⟩
            rw [show (b_X6_readVisitors_2 g ho) t_2 s_2 = .inl g_21 from (by subst eg_21 ex_20 ez_17 eg_16 eg_15 ex_14 ez_10 eg_9 eg_8; simp only [b_X6_readVisitors_2, if_neg c_2, if_neg c_4, if_neg c_11, if_neg c_18])]
            exact (Or.inl ⟨_, rfl, ⟨(by rw [eg_21]; exact tT_n (by rcases hho with rfl | rfl | rfl | rfl <;> decide) (by rw [ez_17]; exact tT_X6_take (by rw [eg_16]; exact tT_X6_step (by rw [eg_15]; exact tT_n (by rcases hho with rfl | rfl | rfl | rfl <;> decide) (by rw [ez_10]; exact tT_X6_numberStands (by rw [eg_9]; exact tT_X6_step (by rw [eg_8]; exact tT_n (by rcases hho with rfl | rfl | rfl | rfl <;> decide) hTI_2))))))), (wb_w (show wx_b (g_21 ho 0) 0 6 by rw [show (g_21 ho 0) = (z_17.1 ho 0) from (by rw [eg_21, up2_sn (by decide)])]; exact (show wx_b (z_17.1 ho 0) 0 6 by rw [show (z_17.1 ho 0) = (g_16 ho 0) from (by rw [ez_17, fr_X6_take (by rcases hho with rfl | rfl | rfl | rfl <;> decide)])]; exact (show wx_b (g_16 ho 0) 0 6 by rw [show (g_16 ho 0) = (g_15 ho 0) from (by rw [eg_16, fr_X6_step (by rcases hho with rfl | rfl | rfl | rfl <;> decide)])]; exact (show wx_b (g_15 ho 0) 0 6 by rw [show (g_15 ho 0) = (z_10.1 ho 0) from (by rw [eg_15, up2_n (by omega)])]; exact (show wx_b (z_10.1 ho 0) 0 6 by rw [show (z_10.1 ho 0) = (g_9 ho 0) from (by rw [ez_10, fr_X6_numberStands (by rcases hho with rfl | rfl | rfl | rfl <;> decide)])]; exact (show wx_b (g_9 ho 0) 0 6 by rw [show (g_9 ho 0) = (g_8 ho 0) from (by rw [eg_9, fr_X6_step (by rcases hho with rfl | rfl | rfl | rfl <;> decide)])]; exact (show wx_b (g_8 ho 0) 0 6 by rw [show (g_8 ho 0) = (s_2 ho 0) from (by rw [eg_8, up2_n (by omega)])]; exact hRI_2))))))) (by decide) (by decide)), (by have h9 := wb_cl (n := 3) b_7 (by decide); rw [nI_clamp (by omega)] at h9; omega)⟩⟩))
  cases hc_2 : repX 5 (b_X6_readVisitors_2 g ho) g with
  | inr r_2 =>
    rw [show f_X6_readVisitors g ho = r_2 from (by simp only [f_X6_readVisitors, hc_2])]
    exact lp_2.2 _ hc_2
  | inl s_2 =>
    have h9 := lp_2.1 _ hc_2
    obtain ⟨hTI_2, hRI_2, h4_2⟩ := h9
    rw [show f_X6_readVisitors g ho = (s_2, 1) from (by simp only [f_X6_readVisitors, hc_2])]
    exact (wb_w hRI_2 (by decide) (by decide))

set_option maxHeartbeats 4000000 in
theorem fr_X6_readVisitors {g : wx_M} {ho : Nat} {k : Nat} (hho : wx_H ho) (hT : wx_TB g) (hro : wx_b (g ho 0) 0 6) (hk18 : k ≠ 18) (hkh : k < ho ∨ ho + 6 < k) : (f_X6_readVisitors g ho).1 k = g k := by
  have lp_2 := repX_inv2 (f := (b_X6_readVisitors_2 g ho)) (s0 := g) (fun (t_2 : Nat) (s_2 : wx_M) => (wx_TB s_2) ∧ (wx_b (s_2 ho 0) 0 6) ∧ (t_2 ≤ 4) ∧ (s_2 k = g k)) (fun r => (r).1 k = g k) 5 ⟨hT, hro, (Nat.zero_le _), rfl⟩ (by
    intro t_2 s_2 hlt_2 hI9
    obtain ⟨hTI_2, hRI_2, h4_2, hfk_2⟩ := hI9
    have bt_2 : wx_b (nI (t_2)) 0 4 := wb_nI (n := 4) (by omega) (by decide)
    by_cases c_2 : (r_X6_isSort (s_2 18 6)) = 0
    · have b_3 : wx_b (r_X6_isSort (s_2 18 6)) 0 0 := by rw [c_2]; exact ⟨by decide, by decide⟩
      rw [show (b_X6_readVisitors_2 g ho) t_2 s_2 = .inr ((s_2, 1)) from (by simp only [b_X6_readVisitors_2, if_pos c_2])]
      exact (Or.inr ⟨_, rfl, hfk_2⟩)
    · by_cases c_4 : (nI t_2) = 4
      · have b_5 : wx_b (nI t_2) 4 4 := by rw [c_4]; exact ⟨by decide, by decide⟩
        obtain ⟨z_6, ez_6⟩ : ∃ z, z = f_X6_faulty s_2 3 := ⟨_, rfl⟩
        rw [show (b_X6_readVisitors_2 g ho) t_2 s_2 = .inr ((z_6.1, z_6.2)) from (by subst ez_6; simp only [b_X6_readVisitors_2, if_neg c_2, if_pos c_4])]
        exact (Or.inr ⟨_, rfl, ((show z_6.1 k = s_2 k from by rw [ez_6]; exact fr_X6_faulty hk18).trans hfk_2)⟩)
      · have b_7 : wx_b (nI t_2) 0 3 := wb_neh c_4 bt_2 (by decide)
        have h3_2 : t_2 ≤ 3 := by have h9 := wb_cl (n := 3) b_7 (by decide); rw [nI_clamp (by omega)] at h9; exact h9
        obtain ⟨g_8, eg_8⟩ : ∃ z : wx_M, z = up2 s_2 (ho + 6) (nI t_2).toNatClampNeg (r_X6_newVisitor (s_2 18 6)) := ⟨_, rfl⟩
        obtain ⟨g_9, eg_9⟩ : ∃ z : wx_M, z = e_X6_step g_8 := ⟨_, rfl⟩
        obtain ⟨z_10, ez_10⟩ : ∃ z, z = f_X6_numberStands g_9 0 99 := ⟨_, rfl⟩
        by_cases c_11 : z_10.2 = 0
        · have b_12 : wx_b z_10.2 0 0 := by rw [c_11]; exact ⟨by decide, by decide⟩
          rw [show (b_X6_readVisitors_2 g ho) t_2 s_2 = .inr ((z_10.1, 0)) from (by subst ez_10 eg_9 eg_8; simp only [b_X6_readVisitors_2, if_neg c_2, if_neg c_4, if_pos c_11])]
          exact (Or.inr ⟨_, rfl, ((show z_10.1 k = g_9 k from by rw [ez_10]; exact fr_X6_numberStands hk18).trans ((show g_9 k = g_8 k from by rw [eg_9]; exact fr_X6_step hk18).trans ((show g_8 k = s_2 k from by rw [eg_8]; exact up2_n (by omega)).trans hfk_2)))⟩)
        · have b_13 : wx_b (z_10.1 18 7) 0 99 := by rw [ez_10]; exact ns_b (show wx_b 0 0 0 from ⟨by decide, by decide⟩) (show wx_b 99 99 99 from ⟨by decide, by decide⟩) (by rw [← ez_10]; exact c_11)
          obtain ⟨x_14, ex_14⟩ : ∃ z : Int32, z = (z_10.1 18 7) := ⟨_, rfl⟩
          have bx_14 : wx_b x_14 0 99 := by rw [ex_14]; exact b_13
          obtain ⟨g_15, eg_15⟩ : ∃ z : wx_M, z = up2 z_10.1 (ho + 5) (nI t_2).toNatClampNeg x_14 := ⟨_, rfl⟩
          obtain ⟨g_16, eg_16⟩ : ∃ z : wx_M, z = e_X6_step g_15 := ⟨_, rfl⟩
          obtain ⟨z_17, ez_17⟩ : ∃ z, z = f_X6_take g_16 59 := ⟨_, rfl⟩
          by_cases c_18 : z_17.2 = 0
          · have b_19 : wx_b z_17.2 0 0 := by rw [c_18]; exact ⟨by decide, by decide⟩
            rw [show (b_X6_readVisitors_2 g ho) t_2 s_2 = .inr ((z_17.1, 0)) from (by subst ez_17 eg_16 eg_15 ex_14 ez_10 eg_9 eg_8; simp only [b_X6_readVisitors_2, if_neg c_2, if_neg c_4, if_neg c_11, if_pos c_18])]
            exact (Or.inr ⟨_, rfl, ((show z_17.1 k = g_16 k from by rw [ez_17]; exact fr_X6_take hk18).trans ((show g_16 k = g_15 k from by rw [eg_16]; exact fr_X6_step hk18).trans ((show g_15 k = z_10.1 k from by rw [eg_15]; exact up2_n (by omega)).trans ((show z_10.1 k = g_9 k from by rw [ez_10]; exact fr_X6_numberStands hk18).trans ((show g_9 k = g_8 k from by rw [eg_9]; exact fr_X6_step hk18).trans ((show g_8 k = s_2 k from by rw [eg_8]; exact up2_n (by omega)).trans hfk_2))))))⟩)
          · obtain ⟨x_20, ex_20⟩ : ∃ z : Int32, z = ((z_17.1 ho 5) + 1) := ⟨_, rfl⟩
            obtain ⟨g_21, eg_21⟩ : ∃ z : wx_M, z = up2 z_17.1 ho 5 x_20 := ⟨_, rfl⟩
            rw [show (b_X6_readVisitors_2 g ho) t_2 s_2 = .inl g_21 from (by subst eg_21 ex_20 ez_17 eg_16 eg_15 ex_14 ez_10 eg_9 eg_8; simp only [b_X6_readVisitors_2, if_neg c_2, if_neg c_4, if_neg c_11, if_neg c_18])]
            exact (Or.inl ⟨_, rfl, ⟨(by rw [eg_21]; exact tT_n (by rcases hho with rfl | rfl | rfl | rfl <;> decide) (by rw [ez_17]; exact tT_X6_take (by rw [eg_16]; exact tT_X6_step (by rw [eg_15]; exact tT_n (by rcases hho with rfl | rfl | rfl | rfl <;> decide) (by rw [ez_10]; exact tT_X6_numberStands (by rw [eg_9]; exact tT_X6_step (by rw [eg_8]; exact tT_n (by rcases hho with rfl | rfl | rfl | rfl <;> decide) hTI_2))))))), (wb_w (show wx_b (g_21 ho 0) 0 6 by rw [show (g_21 ho 0) = (z_17.1 ho 0) from (by rw [eg_21, up2_sn (by decide)])]; exact (show wx_b (z_17.1 ho 0) 0 6 by rw [show (z_17.1 ho 0) = (g_16 ho 0) from (by rw [ez_17, fr_X6_take (by rcases hho with rfl | rfl | rfl | rfl <;> decide)])]; exact (show wx_b (g_16 ho 0) 0 6 by rw [show (g_16 ho 0) = (g_15 ho 0) from (by rw [eg_16, fr_X6_step (by rcases hho with rfl | rfl | rfl | rfl <;> decide)])]; exact (show wx_b (g_15 ho 0) 0 6 by rw [show (g_15 ho 0) = (z_10.1 ho 0) from (by rw [eg_15, up2_n (by omega)])]; exact (show wx_b (z_10.1 ho 0) 0 6 by rw [show (z_10.1 ho 0) = (g_9 ho 0) from (by rw [ez_10, fr_X6_numberStands (by rcases hho with rfl | rfl | rfl | rfl <;> decide)])]; exact (show wx_b (g_9 ho 0) 0 6 by rw [show (g_9 ho 0) = (g_8 ho 0) from (by rw [eg_9, fr_X6_step (by rcases hho with rfl | rfl | rfl | rfl <;> decide)])]; exact (show wx_b (g_8 ho 0) 0 6 by rw [show (g_8 ho 0) = (s_2 ho 0) from (by rw [eg_8, up2_n (by omega)])]; exact hRI_2))))))) (by decide) (by decide)), (by have h9 := wb_cl (n := 3) b_7 (by decide); rw [nI_clamp (by omega)] at h9; omega), ((show g_21 k = z_17.1 k from by rw [eg_21]; exact up2_n (by omega)).trans ((show z_17.1 k = g_16 k from by rw [ez_17]; exact fr_X6_take hk18).trans ((show g_16 k = g_15 k from by rw [eg_16]; exact fr_X6_step hk18).trans ((show g_15 k = z_10.1 k from by rw [eg_15]; exact up2_n (by omega)).trans ((show z_10.1 k = g_9 k from by rw [ez_10]; exact fr_X6_numberStands hk18).trans ((show g_9 k = g_8 k from by rw [eg_9]; exact fr_X6_step hk18).trans ((show g_8 k = s_2 k from by rw [eg_8]; exact up2_n (by omega)).trans hfk_2)))))))⟩⟩))
  cases hc_2 : repX 5 (b_X6_readVisitors_2 g ho) g with
  | inr r_2 =>
    rw [show f_X6_readVisitors g ho = r_2 from (by simp only [f_X6_readVisitors, hc_2])]
    exact lp_2.2 _ hc_2
  | inl s_2 =>
    have h9 := lp_2.1 _ hc_2
    obtain ⟨hTI_2, hRI_2, h4_2, hfk_2⟩ := h9
    rw [show f_X6_readVisitors g ho = (s_2, 1) from (by simp only [f_X6_readVisitors, hc_2])]
    exact hfk_2

def f_X6_readInto (g : wx_M) (ho : Nat) : wx_M × Int32 :=
  let g_1 := e_X3_forgetTold g ho
  let g_2 := up2 g_1 18 5 0
  let g_3 := e_X6_step g_2
  let z_4 := f_X6_readLaw g_3 ho
  if z_4.2 = 0 then
    (z_4.1, 0)
  else
    let z_8 := f_X6_readWalls z_4.1 ho
    if z_8.2 = 0 then
      (z_8.1, 0)
    else
      let z_12 := f_X6_readPeople z_8.1 ho
      if z_12.2 = 0 then
        (z_12.1, 0)
      else
        let z_16 := f_X6_readVisitors z_12.1 ho
        if z_16.2 = 0 then
          (z_16.1, 0)
        else
          let z_20 := f_X6_take z_16.1 (-1)
          if z_20.2 = 0 then
            (z_20.1, 0)
          else
            (z_20.1, 1)
set_option maxHeartbeats 4000000 in
set_option maxRecDepth 100000 in
theorem k_X6_readInto (l : Launch) {D : va_G} {cy : Nat → ClassId} {ad : Nat → Nat} {B0 : Nat} {f : wx_F} {P : va_W} (g : wx_M) (ho : Nat) (hho : wx_H ho) (hT : wx_TB g) (hro : wx_b (g ho 0) 0 6) : Met l yX6_readInto wsX6_readInto ({ frames := 6, cells := 4, slots := 4, locals := 118 } : Room) (wx_Pc D cy ad B0 f P g [.ref (ad 18), .ref (ad ho)]) (wx_Qx D cy ad B0 (f_X6_readInto g ho).1 (some (.int (f_X6_readInto g ho).2))) 4 4 (fun q => B0 ≤ q) := by
  refine wx_enterXIN (cc := cX6_readInto) (maxL := 2) (ty := .boolean) (own := RX6) (lv := [(0, .ref (ad 18)), (1, .ref (ad ho))]) (by decide) rfl rfl (Nat.le_of_ble_eq_true rfl) rfl ?_
  intro p e R s m args below meth c ls Qm hx hb hml hown hts hK hX hS hR hret hl
  have hi_X6 : ∀ w ∈ wsX60, w ∈ wsX6_readInto := by decide +kernel
  refine lv_aload_n hx hb dX6_readInto_0 rfl (lv_at hl 1 rfl) ?_
  refine wx_callev (va_runV (As := []) (rest := []) ⟨hx, hb, hml, hown, hts⟩ (k_X3_forgetTold l g ho hho) (cwV 0 hts gX6_readInto_X3_forgetTold rfl rfl rfl (by decide +kernel) (by rw [hR]; exact ⟨Nat.le_of_ble_eq_true rfl, Nat.le_of_ble_eq_true rfl⟩)) ⟨wx_Pc.blind, wx_recv hK hX hho.l0 (sh_X3 hho) rfl, (wx_Pc.pre hK hX).2⟩ rfl rfl hl.1 rfl (lv_room (Nat.le_of_ble_eq_true rfl)) dX6_readInto_1 (by rw [hR]; exact ⟨by show _ ≤ (4 : Nat); omega, by show _ ≤ (4 : Nat); omega⟩)) hS (fun H locs hX hS => ?_)
  obtain ⟨g_1, eg_1, hX⟩ := wx_nm hX
  refine lv_aload_n hx hb dX6_readInto_4 rfl (lv_at hl 0 rfl) ?_
  refine lv_iconst (v := 0) hx hb dX6_readInto_5 (by decide) ?_
  refine wx_puti (C := RX6) (T := TX6) (N := 8) (ci := 6) (j := 5) (ty := .int) hx hb hts hi_X6 tyX6 tyX6_ok nmX6 hown hK hX hS (by decide) sh_X6_5 rfl (by decide) (hts (.fieldLink RX6 20 "SeenAgain$Tape" "behind" "I") (by decide +kernel)) (fun _ h9 => h9) rfl (by decide +kernel) rfl rfl dX6_readInto_6 (fun H locs hX hS => ?_)
  obtain ⟨g_2, eg_2, hX⟩ := wx_nm hX
  refine lv_aload_n hx hb dX6_readInto_9 rfl (lv_at hl 0 rfl) ?_
  refine wx_callev (va_runV (As := []) (rest := []) ⟨hx, hb, hml, hown, hts⟩ (k_X6_step l g_2 (by rw [eg_2]; exact tT_5 (wb_w (show wx_b 0 0 0 from ⟨by decide, by decide⟩) (by decide) (by decide)) (by rw [eg_1]; exact tT_forgetTold hho hT))) (cwV 0 hts gX6_readInto_X6_step rfl rfl rfl (by decide +kernel) (by rw [hR]; exact ⟨Nat.le_of_ble_eq_true rfl, Nat.le_of_ble_eq_true rfl⟩)) ⟨wx_Pc.blind, wx_recv hK hX (by decide) sh_X6 rfl, (wx_Pc.pre hK hX).2⟩ rfl rfl hl.1 rfl (lv_room (Nat.le_of_ble_eq_true rfl)) dX6_readInto_10 (by rw [hR]; exact ⟨by show _ ≤ (4 : Nat); omega, by show _ ≤ (4 : Nat); omega⟩)) hS (fun H locs hX hS => ?_)
  obtain ⟨g_3, eg_3, hX⟩ := wx_nm hX
  refine lv_aload_n hx hb dX6_readInto_13 rfl (lv_at hl 0 rfl) ?_
  refine lv_aload_n hx hb dX6_readInto_14 rfl (lv_at hl 1 rfl) ?_
  refine wx_callei (va_runV (As := [.ref (ad ho)]) (rest := []) ⟨hx, hb, hml, hown, hts⟩ (k_X6_readLaw l g_3 ho hho (by rw [eg_3]; exact tT_X6_step (by rw [eg_2]; exact tT_5 (wb_w (show wx_b 0 0 0 from ⟨by decide, by decide⟩) (by decide) (by decide)) (by rw [eg_1]; exact tT_forgetTold hho hT))) (wb_w (show wx_b (g_3 ho 0) 0 6 by rw [show (g_3 ho 0) = (g_2 ho 0) from (by rw [eg_3, fr_X6_step (by rcases hho with rfl | rfl | rfl | rfl <;> decide)])]; exact (show wx_b (g_2 ho 0) 0 6 by rw [show (g_2 ho 0) = (g_1 ho 0) from (by rw [eg_2, up2_n (by rcases hho with rfl | rfl | rfl | rfl <;> decide)])]; exact (show wx_b (g_1 ho 0) 0 6 by rw [show (g_1 ho 0) = (g ho 0) from (by rw [eg_1, fr_forgetTold_0])]; exact hro))) (by decide) (by decide))) (cwV 1 hts gX6_readInto_X6_readLaw rfl rfl rfl (by decide +kernel) (by rw [hR]; exact ⟨Nat.le_of_ble_eq_true rfl, Nat.le_of_ble_eq_true rfl⟩)) ⟨wx_Pc.blind, wx_recv hK hX (by decide) sh_X6 rfl, (wx_Pc.pre hK hX).2⟩ rfl rfl hl.1 rfl (lv_room (Nat.le_of_ble_eq_true rfl)) dX6_readInto_15 (by rw [hR]; exact ⟨by show _ ≤ (4 : Nat); omega, by show _ ≤ (4 : Nat); omega⟩)) hS (fun H locs hX hS => ?_)
  obtain ⟨z_4, ez_4⟩ : ∃ z, z = f_X6_readLaw g_3 ho := ⟨_, rfl⟩
  rw [← ez_4] at hX; rw [← ez_4]
  have br_5 : wx_b (z_4.1 ho 0) 0 6 := by rw [ez_4]; exact ro_X6_readLaw hho (by rw [eg_3]; exact tT_X6_step (by rw [eg_2]; exact tT_5 (wb_w (show wx_b 0 0 0 from ⟨by decide, by decide⟩) (by decide) (by decide)) (by rw [eg_1]; exact tT_forgetTold hho hT))) (show wx_b (g_3 ho 0) 0 6 by rw [show (g_3 ho 0) = (g_2 ho 0) from (by rw [eg_3, fr_X6_step (by rcases hho with rfl | rfl | rfl | rfl <;> decide)])]; exact (show wx_b (g_2 ho 0) 0 6 by rw [show (g_2 ho 0) = (g_1 ho 0) from (by rw [eg_2, up2_n (by rcases hho with rfl | rfl | rfl | rfl <;> decide)])]; exact (show wx_b (g_1 ho 0) 0 6 by rw [show (g_1 ho 0) = (g ho 0) from (by rw [eg_1, fr_forgetTold_0])]; exact hro)))
  refine lv_if_eq (tgt := 57) hx hb dX6_readInto_18 (by decide) (fun c_6 => ?_) (fun c_6 => ?_)
  · have b_7 : wx_b z_4.2 0 0 := by rw [c_6]; exact ⟨by decide, by decide⟩
    refine lv_iconst (v := 0) hx hb dX6_readInto_57 (by decide) ?_
    exact hret _ _ _ _ _ _ _ _ _ _ (by omega) (by omega) dX6_readInto_58 rfl hX hS (by subst ez_4 eg_3 eg_2 eg_1; simp only [f_X6_readInto, if_pos c_6])
  · refine lv_aload_n hx hb dX6_readInto_21 rfl (lv_at hl 0 rfl) ?_
    refine lv_aload_n hx hb dX6_readInto_22 rfl (lv_at hl 1 rfl) ?_
    refine wx_callei (va_runV (As := [.ref (ad ho)]) (rest := []) ⟨hx, hb, hml, hown, hts⟩ (k_X6_readWalls l z_4.1 ho hho (by rw [ez_4]; exact tT_X6_readLaw hho (by rw [eg_3]; exact tT_X6_step (by rw [eg_2]; exact tT_5 (wb_w (show wx_b 0 0 0 from ⟨by decide, by decide⟩) (by decide) (by decide)) (by rw [eg_1]; exact tT_forgetTold hho hT))) (show wx_b (g_3 ho 0) 0 6 by rw [show (g_3 ho 0) = (g_2 ho 0) from (by rw [eg_3, fr_X6_step (by rcases hho with rfl | rfl | rfl | rfl <;> decide)])]; exact (show wx_b (g_2 ho 0) 0 6 by rw [show (g_2 ho 0) = (g_1 ho 0) from (by rw [eg_2, up2_n (by rcases hho with rfl | rfl | rfl | rfl <;> decide)])]; exact (show wx_b (g_1 ho 0) 0 6 by rw [show (g_1 ho 0) = (g ho 0) from (by rw [eg_1, fr_forgetTold_0])]; exact hro)))) (wb_w br_5 (by decide) (by decide))) (cwV 1 hts gX6_readInto_X6_readWalls rfl rfl rfl (by decide +kernel) (by rw [hR]; exact ⟨Nat.le_of_ble_eq_true rfl, Nat.le_of_ble_eq_true rfl⟩)) ⟨wx_Pc.blind, wx_recv hK hX (by decide) sh_X6 rfl, (wx_Pc.pre hK hX).2⟩ rfl rfl hl.1 rfl (lv_room (Nat.le_of_ble_eq_true rfl)) dX6_readInto_23 (by rw [hR]; exact ⟨by show _ ≤ (4 : Nat); omega, by show _ ≤ (4 : Nat); omega⟩)) hS (fun H locs hX hS => ?_)
    obtain ⟨z_8, ez_8⟩ : ∃ z, z = f_X6_readWalls z_4.1 ho := ⟨_, rfl⟩
    rw [← ez_8] at hX; rw [← ez_8]
    have br_9 : wx_b (z_8.1 ho 0) 0 6 := by rw [ez_8]; exact ro_X6_readWalls hho (by rw [ez_4]; exact tT_X6_readLaw hho (by rw [eg_3]; exact tT_X6_step (by rw [eg_2]; exact tT_5 (wb_w (show wx_b 0 0 0 from ⟨by decide, by decide⟩) (by decide) (by decide)) (by rw [eg_1]; exact tT_forgetTold hho hT))) (show wx_b (g_3 ho 0) 0 6 by rw [show (g_3 ho 0) = (g_2 ho 0) from (by rw [eg_3, fr_X6_step (by rcases hho with rfl | rfl | rfl | rfl <;> decide)])]; exact (show wx_b (g_2 ho 0) 0 6 by rw [show (g_2 ho 0) = (g_1 ho 0) from (by rw [eg_2, up2_n (by rcases hho with rfl | rfl | rfl | rfl <;> decide)])]; exact (show wx_b (g_1 ho 0) 0 6 by rw [show (g_1 ho 0) = (g ho 0) from (by rw [eg_1, fr_forgetTold_0])]; exact hro)))) br_5
    refine lv_if_eq (tgt := 57) hx hb dX6_readInto_26 (by decide) (fun c_10 => ?_) (fun c_10 => ?_)
    · have b_11 : wx_b z_8.2 0 0 := by rw [c_10]; exact ⟨by decide, by decide⟩
      refine lv_iconst (v := 0) hx hb dX6_readInto_57 (by decide) ?_
      exact hret _ _ _ _ _ _ _ _ _ _ (by omega) (by omega) dX6_readInto_58 rfl hX hS (by subst ez_8 ez_4 eg_3 eg_2 eg_1; simp only [f_X6_readInto, if_neg c_6, if_pos c_10])
    · refine lv_aload_n hx hb dX6_readInto_29 rfl (lv_at hl 0 rfl) ?_
      refine lv_aload_n hx hb dX6_readInto_30 rfl (lv_at hl 1 rfl) ?_
      refine wx_callei (va_runV (As := [.ref (ad ho)]) (rest := []) ⟨hx, hb, hml, hown, hts⟩ (k_X6_readPeople l z_8.1 ho hho (by rw [ez_8]; exact tT_X6_readWalls hho (by rw [ez_4]; exact tT_X6_readLaw hho (by rw [eg_3]; exact tT_X6_step (by rw [eg_2]; exact tT_5 (wb_w (show wx_b 0 0 0 from ⟨by decide, by decide⟩) (by decide) (by decide)) (by rw [eg_1]; exact tT_forgetTold hho hT))) (show wx_b (g_3 ho 0) 0 6 by rw [show (g_3 ho 0) = (g_2 ho 0) from (by rw [eg_3, fr_X6_step (by rcases hho with rfl | rfl | rfl | rfl <;> decide)])]; exact (show wx_b (g_2 ho 0) 0 6 by rw [show (g_2 ho 0) = (g_1 ho 0) from (by rw [eg_2, up2_n (by rcases hho with rfl | rfl | rfl | rfl <;> decide)])]; exact (show wx_b (g_1 ho 0) 0 6 by rw [show (g_1 ho 0) = (g ho 0) from (by rw [eg_1, fr_forgetTold_0])]; exact hro)))) br_5) (wb_w br_9 (by decide) (by decide))) (cwV 1 hts gX6_readInto_X6_readPeople rfl rfl rfl (by decide +kernel) (by rw [hR]; exact ⟨Nat.le_of_ble_eq_true rfl, Nat.le_of_ble_eq_true rfl⟩)) ⟨wx_Pc.blind, wx_recv hK hX (by decide) sh_X6 rfl, (wx_Pc.pre hK hX).2⟩ rfl rfl hl.1 rfl (lv_room (Nat.le_of_ble_eq_true rfl)) dX6_readInto_31 (by rw [hR]; exact ⟨by show _ ≤ (4 : Nat); omega, by show _ ≤ (4 : Nat); omega⟩)) hS (fun H locs hX hS => ?_)
      obtain ⟨z_12, ez_12⟩ : ∃ z, z = f_X6_readPeople z_8.1 ho := ⟨_, rfl⟩
      rw [← ez_12] at hX; rw [← ez_12]
      have br_13 : wx_b (z_12.1 ho 0) 0 6 := by rw [ez_12]; exact ro_X6_readPeople hho (by rw [ez_8]; exact tT_X6_readWalls hho (by rw [ez_4]; exact tT_X6_readLaw hho (by rw [eg_3]; exact tT_X6_step (by rw [eg_2]; exact tT_5 (wb_w (show wx_b 0 0 0 from ⟨by decide, by decide⟩) (by decide) (by decide)) (by rw [eg_1]; exact tT_forgetTold hho hT))) (show wx_b (g_3 ho 0) 0 6 by rw [show (g_3 ho 0) = (g_2 ho 0) from (by rw [eg_3, fr_X6_step (by rcases hho with rfl | rfl | rfl | rfl <;> decide)])]; exact (show wx_b (g_2 ho 0) 0 6 by rw [show (g_2 ho 0) = (g_1 ho 0) from (by rw [eg_2, up2_n (by rcases hho with rfl | rfl | rfl | rfl <;> decide)])]; exact (show wx_b (g_1 ho 0) 0 6 by rw [show (g_1 ho 0) = (g ho 0) from (by rw [eg_1, fr_forgetTold_0])]; exact hro)))) br_5) br_9
      refine lv_if_eq (tgt := 57) hx hb dX6_readInto_34 (by decide) (fun c_14 => ?_) (fun c_14 => ?_)
      · have b_15 : wx_b z_12.2 0 0 := by rw [c_14]; exact ⟨by decide, by decide⟩
        refine lv_iconst (v := 0) hx hb dX6_readInto_57 (by decide) ?_
        exact hret _ _ _ _ _ _ _ _ _ _ (by omega) (by omega) dX6_readInto_58 rfl hX hS (by subst ez_12 ez_8 ez_4 eg_3 eg_2 eg_1; simp only [f_X6_readInto, if_neg c_6, if_neg c_10, if_pos c_14])
      · refine lv_aload_n hx hb dX6_readInto_37 rfl (lv_at hl 0 rfl) ?_
        refine lv_aload_n hx hb dX6_readInto_38 rfl (lv_at hl 1 rfl) ?_
        refine wx_callxiN (va_runV (As := [.ref (ad ho)]) (rest := []) ⟨hx, hb, hml, hown, hts⟩ (k_X6_readVisitors l z_12.1 ho hho (by rw [ez_12]; exact tT_X6_readPeople hho (by rw [ez_8]; exact tT_X6_readWalls hho (by rw [ez_4]; exact tT_X6_readLaw hho (by rw [eg_3]; exact tT_X6_step (by rw [eg_2]; exact tT_5 (wb_w (show wx_b 0 0 0 from ⟨by decide, by decide⟩) (by decide) (by decide)) (by rw [eg_1]; exact tT_forgetTold hho hT))) (show wx_b (g_3 ho 0) 0 6 by rw [show (g_3 ho 0) = (g_2 ho 0) from (by rw [eg_3, fr_X6_step (by rcases hho with rfl | rfl | rfl | rfl <;> decide)])]; exact (show wx_b (g_2 ho 0) 0 6 by rw [show (g_2 ho 0) = (g_1 ho 0) from (by rw [eg_2, up2_n (by rcases hho with rfl | rfl | rfl | rfl <;> decide)])]; exact (show wx_b (g_1 ho 0) 0 6 by rw [show (g_1 ho 0) = (g ho 0) from (by rw [eg_1, fr_forgetTold_0])]; exact hro)))) br_5) br_9) (wb_w br_13 (by decide) (by decide))) (cwV 1 hts gX6_readInto_X6_readVisitors rfl rfl rfl (by decide +kernel) (by rw [hR]; exact ⟨Nat.le_of_ble_eq_true rfl, Nat.le_of_ble_eq_true rfl⟩)) ⟨wx_Pc.blind, wx_recv hK hX (by decide) sh_X6 rfl, (wx_Pc.pre hK hX).2⟩ rfl rfl hl.1 rfl (lv_room (Nat.le_of_ble_eq_true rfl)) dX6_readInto_39 (by rw [hR]; exact ⟨by show _ ≤ (4 : Nat); omega, by show _ ≤ (4 : Nat); omega⟩)) hS (fun f P H locs hX hS => ?_)
        obtain ⟨z_16, ez_16⟩ : ∃ z, z = f_X6_readVisitors z_12.1 ho := ⟨_, rfl⟩
        rw [← ez_16] at hX; rw [← ez_16]
        have br_17 : wx_b (z_16.1 ho 0) 0 6 := by rw [ez_16]; exact ro_X6_readVisitors hho (by rw [ez_12]; exact tT_X6_readPeople hho (by rw [ez_8]; exact tT_X6_readWalls hho (by rw [ez_4]; exact tT_X6_readLaw hho (by rw [eg_3]; exact tT_X6_step (by rw [eg_2]; exact tT_5 (wb_w (show wx_b 0 0 0 from ⟨by decide, by decide⟩) (by decide) (by decide)) (by rw [eg_1]; exact tT_forgetTold hho hT))) (show wx_b (g_3 ho 0) 0 6 by rw [show (g_3 ho 0) = (g_2 ho 0) from (by rw [eg_3, fr_X6_step (by rcases hho with rfl | rfl | rfl | rfl <;> decide)])]; exact (show wx_b (g_2 ho 0) 0 6 by rw [show (g_2 ho 0) = (g_1 ho 0) from (by rw [eg_2, up2_n (by rcases hho with rfl | rfl | rfl | rfl <;> decide)])]; exact (show wx_b (g_1 ho 0) 0 6 by rw [show (g_1 ho 0) = (g ho 0) from (by rw [eg_1, fr_forgetTold_0])]; exact hro)))) br_5) br_9) br_13
        refine lv_if_eq (tgt := 57) hx hb dX6_readInto_42 (by decide) (fun c_18 => ?_) (fun c_18 => ?_)
        · have b_19 : wx_b z_16.2 0 0 := by rw [c_18]; exact ⟨by decide, by decide⟩
          refine lv_iconst (v := 0) hx hb dX6_readInto_57 (by decide) ?_
          exact hret _ _ _ _ _ _ _ _ _ _ (by omega) (by omega) dX6_readInto_58 rfl hX hS (by subst ez_16 ez_12 ez_8 ez_4 eg_3 eg_2 eg_1; simp only [f_X6_readInto, if_neg c_6, if_neg c_10, if_neg c_14, if_pos c_18])
        · refine lv_aload_n hx hb dX6_readInto_45 rfl (lv_at hl 0 rfl) ?_
          refine lv_iconst (v := (-1)) hx hb dX6_readInto_46 (by decide) ?_
          refine wx_callei (va_runV (As := [.int (-1)]) (rest := []) ⟨hx, hb, hml, hown, hts⟩ (k_X6_take l z_16.1 (-1) (by rw [ez_16]; exact tT_X6_readVisitors hho (by rw [ez_12]; exact tT_X6_readPeople hho (by rw [ez_8]; exact tT_X6_readWalls hho (by rw [ez_4]; exact tT_X6_readLaw hho (by rw [eg_3]; exact tT_X6_step (by rw [eg_2]; exact tT_5 (wb_w (show wx_b 0 0 0 from ⟨by decide, by decide⟩) (by decide) (by decide)) (by rw [eg_1]; exact tT_forgetTold hho hT))) (show wx_b (g_3 ho 0) 0 6 by rw [show (g_3 ho 0) = (g_2 ho 0) from (by rw [eg_3, fr_X6_step (by rcases hho with rfl | rfl | rfl | rfl <;> decide)])]; exact (show wx_b (g_2 ho 0) 0 6 by rw [show (g_2 ho 0) = (g_1 ho 0) from (by rw [eg_2, up2_n (by rcases hho with rfl | rfl | rfl | rfl <;> decide)])]; exact (show wx_b (g_1 ho 0) 0 6 by rw [show (g_1 ho 0) = (g ho 0) from (by rw [eg_1, fr_forgetTold_0])]; exact hro)))) br_5) br_9) br_13)) (cwV 1 hts gX6_readInto_X6_take rfl rfl rfl (by decide +kernel) (by rw [hR]; exact ⟨Nat.le_of_ble_eq_true rfl, Nat.le_of_ble_eq_true rfl⟩)) ⟨wx_Pc.blind, wx_recv hK hX (by decide) sh_X6 rfl, (wx_Pc.pre hK hX).2⟩ rfl rfl hl.1 rfl (lv_room (Nat.le_of_ble_eq_true rfl)) dX6_readInto_47 (by rw [hR]; exact ⟨by show _ ≤ (4 : Nat); omega, by show _ ≤ (4 : Nat); omega⟩)) hS (fun H locs hX hS => ?_)
          obtain ⟨z_20, ez_20⟩ : ∃ z, z = f_X6_take z_16.1 (-1) := ⟨_, rfl⟩
          rw [← ez_20] at hX; rw [← ez_20]
          refine lv_if_eq (tgt := 57) hx hb dX6_readInto_50 (by decide) (fun c_21 => ?_) (fun c_21 => ?_)
          · have b_22 : wx_b z_20.2 0 0 := by rw [c_21]; exact ⟨by decide, by decide⟩
            refine lv_iconst (v := 0) hx hb dX6_readInto_57 (by decide) ?_
            exact hret _ _ _ _ _ _ _ _ _ _ (by omega) (by omega) dX6_readInto_58 rfl hX hS (by subst ez_20 ez_16 ez_12 ez_8 ez_4 eg_3 eg_2 eg_1; simp only [f_X6_readInto, if_neg c_6, if_neg c_10, if_neg c_14, if_neg c_18, if_pos c_21])
          · refine lv_iconst (v := 1) hx hb dX6_readInto_53 (by decide) ?_
            refine lv_goto (tgt := 58) hx hb dX6_readInto_54 (by decide) ?_
            exact hret _ _ _ _ _ _ _ _ _ _ (by omega) (by omega) dX6_readInto_58 rfl hX hS (by subst ez_20 ez_16 ez_12 ez_8 ez_4 eg_3 eg_2 eg_1; simp only [f_X6_readInto, if_neg c_6, if_neg c_10, if_neg c_14, if_neg c_18, if_neg c_21])
set_option maxHeartbeats 4000000 in
theorem np_X6_readInto {g : wx_M} {ho : Nat} (hho : wx_H ho) (hT : wx_TB g) (hro : wx_b (g ho 0) 0 6) : narrow .boolean (.int (f_X6_readInto g ho).2) = .int (f_X6_readInto g ho).2 := by
  obtain ⟨g_1, eg_1⟩ : ∃ z : wx_M, z = e_X3_forgetTold g ho := ⟨_, rfl⟩
  obtain ⟨g_2, eg_2⟩ : ∃ z : wx_M, z = up2 g_1 18 5 0 := ⟨_, rfl⟩
  obtain ⟨g_3, eg_3⟩ : ∃ z : wx_M, z = e_X6_step g_2 := ⟨_, rfl⟩
  obtain ⟨z_4, ez_4⟩ : ∃ z, z = f_X6_readLaw g_3 ho := ⟨_, rfl⟩
  have br_5 : wx_b (z_4.1 ho 0) 0 6 := by rw [ez_4]; exact ro_X6_readLaw hho (by rw [eg_3]; exact tT_X6_step (by rw [eg_2]; exact tT_5 (wb_w (show wx_b 0 0 0 from ⟨by decide, by decide⟩) (by decide) (by decide)) (by rw [eg_1]; exact tT_forgetTold hho hT))) (show wx_b (g_3 ho 0) 0 6 by rw [show (g_3 ho 0) = (g_2 ho 0) from (by rw [eg_3, fr_X6_step (by rcases hho with rfl | rfl | rfl | rfl <;> decide)])]; exact (show wx_b (g_2 ho 0) 0 6 by rw [show (g_2 ho 0) = (g_1 ho 0) from (by rw [eg_2, up2_n (by rcases hho with rfl | rfl | rfl | rfl <;> decide)])]; exact (show wx_b (g_1 ho 0) 0 6 by rw [show (g_1 ho 0) = (g ho 0) from (by rw [eg_1, fr_forgetTold_0])]; exact hro)))
  by_cases c_6 : z_4.2 = 0
  · have b_7 : wx_b z_4.2 0 0 := by rw [c_6]; exact ⟨by decide, by decide⟩
    rw [show f_X6_readInto g ho = (z_4.1, 0) from (by subst ez_4 eg_3 eg_2 eg_1; simp only [f_X6_readInto, if_pos c_6])]
    exact (show narrow .boolean (.int 0) = .int 0 from rfl)
  · obtain ⟨z_8, ez_8⟩ : ∃ z, z = f_X6_readWalls z_4.1 ho := ⟨_, rfl⟩
    have br_9 : wx_b (z_8.1 ho 0) 0 6 := by rw [ez_8]; exact ro_X6_readWalls hho (by rw [ez_4]; exact tT_X6_readLaw hho (by rw [eg_3]; exact tT_X6_step (by rw [eg_2]; exact tT_5 (wb_w (show wx_b 0 0 0 from ⟨by decide, by decide⟩) (by decide) (by decide)) (by rw [eg_1]; exact tT_forgetTold hho hT))) (show wx_b (g_3 ho 0) 0 6 by rw [show (g_3 ho 0) = (g_2 ho 0) from (by rw [eg_3, fr_X6_step (by rcases hho with rfl | rfl | rfl | rfl <;> decide)])]; exact (show wx_b (g_2 ho 0) 0 6 by rw [show (g_2 ho 0) = (g_1 ho 0) from (by rw [eg_2, up2_n (by rcases hho with rfl | rfl | rfl | rfl <;> decide)])]; exact (show wx_b (g_1 ho 0) 0 6 by rw [show (g_1 ho 0) = (g ho 0) from (by rw [eg_1, fr_forgetTold_0])]; exact hro)))) br_5
    by_cases c_10 : z_8.2 = 0
    · have b_11 : wx_b z_8.2 0 0 := by rw [c_10]; exact ⟨by decide, by decide⟩
      rw [show f_X6_readInto g ho = (z_8.1, 0) from (by subst ez_8 ez_4 eg_3 eg_2 eg_1; simp only [f_X6_readInto, if_neg c_6, if_pos c_10])]
      exact (show narrow .boolean (.int 0) = .int 0 from rfl)
    · obtain ⟨z_12, ez_12⟩ : ∃ z, z = f_X6_readPeople z_8.1 ho := ⟨_, rfl⟩
      have br_13 : wx_b (z_12.1 ho 0) 0 6 := by rw [ez_12]; exact ro_X6_readPeople hho (by rw [ez_8]; exact tT_X6_readWalls hho (by rw [ez_4]; exact tT_X6_readLaw hho (by rw [eg_3]; exact tT_X6_step (by rw [eg_2]; exact tT_5 (wb_w (show wx_b 0 0 0 from ⟨by decide, by decide⟩) (by decide) (by decide)) (by rw [eg_1]; exact tT_forgetTold hho hT))) (show wx_b (g_3 ho 0) 0 6 by rw [show (g_3 ho 0) = (g_2 ho 0) from (by rw [eg_3, fr_X6_step (by rcases hho with rfl | rfl | rfl | rfl <;> decide)])]; exact (show wx_b (g_2 ho 0) 0 6 by rw [show (g_2 ho 0) = (g_1 ho 0) from (by rw [eg_2, up2_n (by rcases hho with rfl | rfl | rfl | rfl <;> decide)])]; exact (show wx_b (g_1 ho 0) 0 6 by rw [show (g_1 ho 0) = (g ho 0) from (by rw [eg_1, fr_forgetTold_0])]; exact hro)))) br_5) br_9
      by_cases c_14 : z_12.2 = 0
      · have b_15 : wx_b z_12.2 0 0 := by rw [c_14]; exact ⟨by decide, by decide⟩
        rw [show f_X6_readInto g ho = (z_12.1, 0) from (by subst ez_12 ez_8 ez_4 eg_3 eg_2 eg_1; simp only [f_X6_readInto, if_neg c_6, if_neg c_10, if_pos c_14])]
        exact (show narrow .boolean (.int 0) = .int 0 from rfl)
      · obtain ⟨z_16, ez_16⟩ : ∃ z, z = f_X6_readVisitors z_12.1 ho := ⟨_, rfl⟩
        have br_17 : wx_b (z_16.1 ho 0) 0 6 := by rw [ez_16]; exact ro_X6_readVisitors hho (by rw [ez_12]; exact tT_X6_readPeople hho (by rw [ez_8]; exact tT_X6_readWalls hho (by rw [ez_4]; exact tT_X6_readLaw hho (by rw [eg_3]; exact tT_X6_step (by rw [eg_2]; exact tT_5 (wb_w (show wx_b 0 0 0 from ⟨by decide, by decide⟩) (by decide) (by decide)) (by rw [eg_1]; exact tT_forgetTold hho hT))) (show wx_b (g_3 ho 0) 0 6 by rw [show (g_3 ho 0) = (g_2 ho 0) from (by rw [eg_3, fr_X6_step (by rcases hho with rfl | rfl | rfl | rfl <;> decide)])]; exact (show wx_b (g_2 ho 0) 0 6 by rw [show (g_2 ho 0) = (g_1 ho 0) from (by rw [eg_2, up2_n (by rcases hho with rfl | rfl | rfl | rfl <;> decide)])]; exact (show wx_b (g_1 ho 0) 0 6 by rw [show (g_1 ho 0) = (g ho 0) from (by rw [eg_1, fr_forgetTold_0])]; exact hro)))) br_5) br_9) br_13
        by_cases c_18 : z_16.2 = 0
        · have b_19 : wx_b z_16.2 0 0 := by rw [c_18]; exact ⟨by decide, by decide⟩
          rw [show f_X6_readInto g ho = (z_16.1, 0) from (by subst ez_16 ez_12 ez_8 ez_4 eg_3 eg_2 eg_1; simp only [f_X6_readInto, if_neg c_6, if_neg c_10, if_neg c_14, if_pos c_18])]
          exact (show narrow .boolean (.int 0) = .int 0 from rfl)
        · obtain ⟨z_20, ez_20⟩ : ∃ z, z = f_X6_take z_16.1 (-1) := ⟨_, rfl⟩
          by_cases c_21 : z_20.2 = 0
          · have b_22 : wx_b z_20.2 0 0 := by rw [c_21]; exact ⟨by decide, by decide⟩
            rw [show f_X6_readInto g ho = (z_20.1, 0) from (by subst ez_20 ez_16 ez_12 ez_8 ez_4 eg_3 eg_2 eg_1; simp only [f_X6_readInto, if_neg c_6, if_neg c_10, if_neg c_14, if_neg c_18, if_pos c_21])]
            exact (show narrow .boolean (.int 0) = .int 0 from rfl)
          · rw [show f_X6_readInto g ho = (z_20.1, 1) from (by subst ez_20 ez_16 ez_12 ez_8 ez_4 eg_3 eg_2 eg_1; simp only [f_X6_readInto, if_neg c_6, if_neg c_10, if_neg c_14, if_neg c_18, if_neg c_21])]
            exact (show narrow .boolean (.int 1) = .int 1 from rfl)

set_option maxHeartbeats 4000000 in
theorem tT_X6_readInto {g : wx_M} {ho : Nat} (hho : wx_H ho) (hT : wx_TB g) (hro : wx_b (g ho 0) 0 6) : wx_TB (f_X6_readInto g ho).1 := by
  obtain ⟨g_1, eg_1⟩ : ∃ z : wx_M, z = e_X3_forgetTold g ho := ⟨_, rfl⟩
  obtain ⟨g_2, eg_2⟩ : ∃ z : wx_M, z = up2 g_1 18 5 0 := ⟨_, rfl⟩
  obtain ⟨g_3, eg_3⟩ : ∃ z : wx_M, z = e_X6_step g_2 := ⟨_, rfl⟩
  obtain ⟨z_4, ez_4⟩ : ∃ z, z = f_X6_readLaw g_3 ho := ⟨_, rfl⟩
  have br_5 : wx_b (z_4.1 ho 0) 0 6 := by rw [ez_4]; exact ro_X6_readLaw hho (by rw [eg_3]; exact tT_X6_step (by rw [eg_2]; exact tT_5 (wb_w (show wx_b 0 0 0 from ⟨by decide, by decide⟩) (by decide) (by decide)) (by rw [eg_1]; exact tT_forgetTold hho hT))) (show wx_b (g_3 ho 0) 0 6 by rw [show (g_3 ho 0) = (g_2 ho 0) from (by rw [eg_3, fr_X6_step (by rcases hho with rfl | rfl | rfl | rfl <;> decide)])]; exact (show wx_b (g_2 ho 0) 0 6 by rw [show (g_2 ho 0) = (g_1 ho 0) from (by rw [eg_2, up2_n (by rcases hho with rfl | rfl | rfl | rfl <;> decide)])]; exact (show wx_b (g_1 ho 0) 0 6 by rw [show (g_1 ho 0) = (g ho 0) from (by rw [eg_1, fr_forgetTold_0])]; exact hro)))
  by_cases c_6 : z_4.2 = 0
  · have b_7 : wx_b z_4.2 0 0 := by rw [c_6]; exact ⟨by decide, by decide⟩
    rw [show f_X6_readInto g ho = (z_4.1, 0) from (by subst ez_4 eg_3 eg_2 eg_1; simp only [f_X6_readInto, if_pos c_6])]
    exact (by rw [ez_4]; exact tT_X6_readLaw hho (by rw [eg_3]; exact tT_X6_step (by rw [eg_2]; exact tT_5 (wb_w (show wx_b 0 0 0 from ⟨by decide, by decide⟩) (by decide) (by decide)) (by rw [eg_1]; exact tT_forgetTold hho hT))) (show wx_b (g_3 ho 0) 0 6 by rw [show (g_3 ho 0) = (g_2 ho 0) from (by rw [eg_3, fr_X6_step (by rcases hho with rfl | rfl | rfl | rfl <;> decide)])]; exact (show wx_b (g_2 ho 0) 0 6 by rw [show (g_2 ho 0) = (g_1 ho 0) from (by rw [eg_2, up2_n (by rcases hho with rfl | rfl | rfl | rfl <;> decide)])]; exact (show wx_b (g_1 ho 0) 0 6 by rw [show (g_1 ho 0) = (g ho 0) from (by rw [eg_1, fr_forgetTold_0])]; exact hro))))
  · obtain ⟨z_8, ez_8⟩ : ∃ z, z = f_X6_readWalls z_4.1 ho := ⟨_, rfl⟩
    have br_9 : wx_b (z_8.1 ho 0) 0 6 := by rw [ez_8]; exact ro_X6_readWalls hho (by rw [ez_4]; exact tT_X6_readLaw hho (by rw [eg_3]; exact tT_X6_step (by rw [eg_2]; exact tT_5 (wb_w (show wx_b 0 0 0 from ⟨by decide, by decide⟩) (by decide) (by decide)) (by rw [eg_1]; exact tT_forgetTold hho hT))) (show wx_b (g_3 ho 0) 0 6 by rw [show (g_3 ho 0) = (g_2 ho 0) from (by rw [eg_3, fr_X6_step (by rcases hho with rfl | rfl | rfl | rfl <;> decide)])]; exact (show wx_b (g_2 ho 0) 0 6 by rw [show (g_2 ho 0) = (g_1 ho 0) from (by rw [eg_2, up2_n (by rcases hho with rfl | rfl | rfl | rfl <;> decide)])]; exact (show wx_b (g_1 ho 0) 0 6 by rw [show (g_1 ho 0) = (g ho 0) from (by rw [eg_1, fr_forgetTold_0])]; exact hro)))) br_5
    by_cases c_10 : z_8.2 = 0
    · have b_11 : wx_b z_8.2 0 0 := by rw [c_10]; exact ⟨by decide, by decide⟩
      rw [show f_X6_readInto g ho = (z_8.1, 0) from (by subst ez_8 ez_4 eg_3 eg_2 eg_1; simp only [f_X6_readInto, if_neg c_6, if_pos c_10])]
      exact (by rw [ez_8]; exact tT_X6_readWalls hho (by rw [ez_4]; exact tT_X6_readLaw hho (by rw [eg_3]; exact tT_X6_step (by rw [eg_2]; exact tT_5 (wb_w (show wx_b 0 0 0 from ⟨by decide, by decide⟩) (by decide) (by decide)) (by rw [eg_1]; exact tT_forgetTold hho hT))) (show wx_b (g_3 ho 0) 0 6 by rw [show (g_3 ho 0) = (g_2 ho 0) from (by rw [eg_3, fr_X6_step (by rcases hho with rfl | rfl | rfl | rfl <;> decide)])]; exact (show wx_b (g_2 ho 0) 0 6 by rw [show (g_2 ho 0) = (g_1 ho 0) from (by rw [eg_2, up2_n (by rcases hho with rfl | rfl | rfl | rfl <;> decide)])]; exact (show wx_b (g_1 ho 0) 0 6 by rw [show (g_1 ho 0) = (g ho 0) from (by rw [eg_1, fr_forgetTold_0])]; exact hro)))) br_5)
    · obtain ⟨z_12, ez_12⟩ : ∃ z, z = f_X6_readPeople z_8.1 ho := ⟨_, rfl⟩
      have br_13 : wx_b (z_12.1 ho 0) 0 6 := by rw [ez_12]; exact ro_X6_readPeople hho (by rw [ez_8]; exact tT_X6_readWalls hho (by rw [ez_4]; exact tT_X6_readLaw hho (by rw [eg_3]; exact tT_X6_step (by rw [eg_2]; exact tT_5 (wb_w (show wx_b 0 0 0 from ⟨by decide, by decide⟩) (by decide) (by decide)) (by rw [eg_1]; exact tT_forgetTold hho hT))) (show wx_b (g_3 ho 0) 0 6 by rw [show (g_3 ho 0) = (g_2 ho 0) from (by rw [eg_3, fr_X6_step (by rcases hho with rfl | rfl | rfl | rfl <;> decide)])]; exact (show wx_b (g_2 ho 0) 0 6 by rw [show (g_2 ho 0) = (g_1 ho 0) from (by rw [eg_2, up2_n (by rcases hho with rfl | rfl | rfl | rfl <;> decide)])]; exact (show wx_b (g_1 ho 0) 0 6 by rw [show (g_1 ho 0) = (g ho 0) from (by rw [eg_1, fr_forgetTold_0])]; exact hro)))) br_5) br_9
      by_cases c_14 : z_12.2 = 0
      · have b_15 : wx_b z_12.2 0 0 := by rw [c_14]; exact ⟨by decide, by decide⟩
        rw [show f_X6_readInto g ho = (z_12.1, 0) from (by subst ez_12 ez_8 ez_4 eg_3 eg_2 eg_1; simp only [f_X6_readInto, if_neg c_6, if_neg c_10, if_pos c_14])]
        exact (by rw [ez_12]; exact tT_X6_readPeople hho (by rw [ez_8]; exact tT_X6_readWalls hho (by rw [ez_4]; exact tT_X6_readLaw hho (by rw [eg_3]; exact tT_X6_step (by rw [eg_2]; exact tT_5 (wb_w (show wx_b 0 0 0 from ⟨by decide, by decide⟩) (by decide) (by decide)) (by rw [eg_1]; exact tT_forgetTold hho hT))) (show wx_b (g_3 ho 0) 0 6 by rw [show (g_3 ho 0) = (g_2 ho 0) from (by rw [eg_3, fr_X6_step (by rcases hho with rfl | rfl | rfl | rfl <;> decide)])]; exact (show wx_b (g_2 ho 0) 0 6 by rw [show (g_2 ho 0) = (g_1 ho 0) from (by rw [eg_2, up2_n (by rcases hho with rfl | rfl | rfl | rfl <;> decide)])]; exact (show wx_b (g_1 ho 0) 0 6 by rw [show (g_1 ho 0) = (g ho 0) from (by rw [eg_1, fr_forgetTold_0])]; exact hro)))) br_5) br_9)
      · obtain ⟨z_16, ez_16⟩ : ∃ z, z = f_X6_readVisitors z_12.1 ho := ⟨_, rfl⟩
        have br_17 : wx_b (z_16.1 ho 0) 0 6 := by rw [ez_16]; exact ro_X6_readVisitors hho (by rw [ez_12]; exact tT_X6_readPeople hho (by rw [ez_8]; exact tT_X6_readWalls hho (by rw [ez_4]; exact tT_X6_readLaw hho (by rw [eg_3]; exact tT_X6_step (by rw [eg_2]; exact tT_5 (wb_w (show wx_b 0 0 0 from ⟨by decide, by decide⟩) (by decide) (by decide)) (by rw [eg_1]; exact tT_forgetTold hho hT))) (show wx_b (g_3 ho 0) 0 6 by rw [show (g_3 ho 0) = (g_2 ho 0) from (by rw [eg_3, fr_X6_step (by rcases hho with rfl | rfl | rfl | rfl <;> decide)])]; exact (show wx_b (g_2 ho 0) 0 6 by rw [show (g_2 ho 0) = (g_1 ho 0) from (by rw [eg_2, up2_n (by rcases hho with rfl | rfl | rfl | rfl <;> decide)])]; exact (show wx_b (g_1 ho 0) 0 6 by rw [show (g_1 ho 0) = (g ho 0) from (by rw [eg_1, fr_forgetTold_0])]; exact hro)))) br_5) br_9) br_13
        by_cases c_18 : z_16.2 = 0
        · have b_19 : wx_b z_16.2 0 0 := by rw [c_18]; exact ⟨by decide, by decide⟩
          rw [show f_X6_readInto g ho = (z_16.1, 0) from (by subst ez_16 ez_12 ez_8 ez_4 eg_3 eg_2 eg_1; simp only [f_X6_readInto, if_neg c_6, if_neg c_10, if_neg c_14, if_pos c_18])]
          exact (by rw [ez_16]; exact tT_X6_readVisitors hho (by rw [ez_12]; exact tT_X6_readPeople hho (by rw [ez_8]; exact tT_X6_readWalls hho (by rw [ez_4]; exact tT_X6_readLaw hho (by rw [eg_3]; exact tT_X6_step (by rw [eg_2]; exact tT_5 (wb_w (show wx_b 0 0 0 from ⟨by decide, by decide⟩) (by decide) (by decide)) (by rw [eg_1]; exact tT_forgetTold hho hT))) (show wx_b (g_3 ho 0) 0 6 by rw [show (g_3 ho 0) = (g_2 ho 0) from (by rw [eg_3, fr_X6_step (by rcases hho with rfl | rfl | rfl | rfl <;> decide)])]; exact (show wx_b (g_2 ho 0) 0 6 by rw [show (g_2 ho 0) = (g_1 ho 0) from (by rw [eg_2, up2_n (by rcases hho with rfl | rfl | rfl | rfl <;> decide)])]; exact (show wx_b (g_1 ho 0) 0 6 by rw [show (g_1 ho 0) = (g ho 0) from (by rw [eg_1, fr_forgetTold_0])]; exact hro)))) br_5) br_9) br_13)
        · obtain ⟨z_20, ez_20⟩ : ∃ z, z = f_X6_take z_16.1 (-1) := ⟨_, rfl⟩
          by_cases c_21 : z_20.2 = 0
          · have b_22 : wx_b z_20.2 0 0 := by rw [c_21]; exact ⟨by decide, by decide⟩
            rw [show f_X6_readInto g ho = (z_20.1, 0) from (by subst ez_20 ez_16 ez_12 ez_8 ez_4 eg_3 eg_2 eg_1; simp only [f_X6_readInto, if_neg c_6, if_neg c_10, if_neg c_14, if_neg c_18, if_pos c_21])]
            exact (by rw [ez_20]; exact tT_X6_take (by rw [ez_16]; exact tT_X6_readVisitors hho (by rw [ez_12]; exact tT_X6_readPeople hho (by rw [ez_8]; exact tT_X6_readWalls hho (by rw [ez_4]; exact tT_X6_readLaw hho (by rw [eg_3]; exact tT_X6_step (by rw [eg_2]; exact tT_5 (wb_w (show wx_b 0 0 0 from ⟨by decide, by decide⟩) (by decide) (by decide)) (by rw [eg_1]; exact tT_forgetTold hho hT))) (show wx_b (g_3 ho 0) 0 6 by rw [show (g_3 ho 0) = (g_2 ho 0) from (by rw [eg_3, fr_X6_step (by rcases hho with rfl | rfl | rfl | rfl <;> decide)])]; exact (show wx_b (g_2 ho 0) 0 6 by rw [show (g_2 ho 0) = (g_1 ho 0) from (by rw [eg_2, up2_n (by rcases hho with rfl | rfl | rfl | rfl <;> decide)])]; exact (show wx_b (g_1 ho 0) 0 6 by rw [show (g_1 ho 0) = (g ho 0) from (by rw [eg_1, fr_forgetTold_0])]; exact hro)))) br_5) br_9) br_13))
          · rw [show f_X6_readInto g ho = (z_20.1, 1) from (by subst ez_20 ez_16 ez_12 ez_8 ez_4 eg_3 eg_2 eg_1; simp only [f_X6_readInto, if_neg c_6, if_neg c_10, if_neg c_14, if_neg c_18, if_neg c_21])]
            exact (by rw [ez_20]; exact tT_X6_take (by rw [ez_16]; exact tT_X6_readVisitors hho (by rw [ez_12]; exact tT_X6_readPeople hho (by rw [ez_8]; exact tT_X6_readWalls hho (by rw [ez_4]; exact tT_X6_readLaw hho (by rw [eg_3]; exact tT_X6_step (by rw [eg_2]; exact tT_5 (wb_w (show wx_b 0 0 0 from ⟨by decide, by decide⟩) (by decide) (by decide)) (by rw [eg_1]; exact tT_forgetTold hho hT))) (show wx_b (g_3 ho 0) 0 6 by rw [show (g_3 ho 0) = (g_2 ho 0) from (by rw [eg_3, fr_X6_step (by rcases hho with rfl | rfl | rfl | rfl <;> decide)])]; exact (show wx_b (g_2 ho 0) 0 6 by rw [show (g_2 ho 0) = (g_1 ho 0) from (by rw [eg_2, up2_n (by rcases hho with rfl | rfl | rfl | rfl <;> decide)])]; exact (show wx_b (g_1 ho 0) 0 6 by rw [show (g_1 ho 0) = (g ho 0) from (by rw [eg_1, fr_forgetTold_0])]; exact hro)))) br_5) br_9) br_13))

set_option maxHeartbeats 4000000 in
theorem ro_X6_readInto {g : wx_M} {ho : Nat} (hho : wx_H ho) (hT : wx_TB g) (hro : wx_b (g ho 0) 0 6) : wx_b ((f_X6_readInto g ho).1 ho 0) 0 6 := by
  obtain ⟨g_1, eg_1⟩ : ∃ z : wx_M, z = e_X3_forgetTold g ho := ⟨_, rfl⟩
  obtain ⟨g_2, eg_2⟩ : ∃ z : wx_M, z = up2 g_1 18 5 0 := ⟨_, rfl⟩
  obtain ⟨g_3, eg_3⟩ : ∃ z : wx_M, z = e_X6_step g_2 := ⟨_, rfl⟩
  obtain ⟨z_4, ez_4⟩ : ∃ z, z = f_X6_readLaw g_3 ho := ⟨_, rfl⟩
  have br_5 : wx_b (z_4.1 ho 0) 0 6 := by rw [ez_4]; exact ro_X6_readLaw hho (by rw [eg_3]; exact tT_X6_step (by rw [eg_2]; exact tT_5 (wb_w (show wx_b 0 0 0 from ⟨by decide, by decide⟩) (by decide) (by decide)) (by rw [eg_1]; exact tT_forgetTold hho hT))) (show wx_b (g_3 ho 0) 0 6 by rw [show (g_3 ho 0) = (g_2 ho 0) from (by rw [eg_3, fr_X6_step (by rcases hho with rfl | rfl | rfl | rfl <;> decide)])]; exact (show wx_b (g_2 ho 0) 0 6 by rw [show (g_2 ho 0) = (g_1 ho 0) from (by rw [eg_2, up2_n (by rcases hho with rfl | rfl | rfl | rfl <;> decide)])]; exact (show wx_b (g_1 ho 0) 0 6 by rw [show (g_1 ho 0) = (g ho 0) from (by rw [eg_1, fr_forgetTold_0])]; exact hro)))
  by_cases c_6 : z_4.2 = 0
  · have b_7 : wx_b z_4.2 0 0 := by rw [c_6]; exact ⟨by decide, by decide⟩
    rw [show f_X6_readInto g ho = (z_4.1, 0) from (by subst ez_4 eg_3 eg_2 eg_1; simp only [f_X6_readInto, if_pos c_6])]
    exact (wb_w br_5 (by decide) (by decide))
  · obtain ⟨z_8, ez_8⟩ : ∃ z, z = f_X6_readWalls z_4.1 ho := ⟨_, rfl⟩
    have br_9 : wx_b (z_8.1 ho 0) 0 6 := by rw [ez_8]; exact ro_X6_readWalls hho (by rw [ez_4]; exact tT_X6_readLaw hho (by rw [eg_3]; exact tT_X6_step (by rw [eg_2]; exact tT_5 (wb_w (show wx_b 0 0 0 from ⟨by decide, by decide⟩) (by decide) (by decide)) (by rw [eg_1]; exact tT_forgetTold hho hT))) (show wx_b (g_3 ho 0) 0 6 by rw [show (g_3 ho 0) = (g_2 ho 0) from (by rw [eg_3, fr_X6_step (by rcases hho with rfl | rfl | rfl | rfl <;> decide)])]; exact (show wx_b (g_2 ho 0) 0 6 by rw [show (g_2 ho 0) = (g_1 ho 0) from (by rw [eg_2, up2_n (by rcases hho with rfl | rfl | rfl | rfl <;> decide)])]; exact (show wx_b (g_1 ho 0) 0 6 by rw [show (g_1 ho 0) = (g ho 0) from (by rw [eg_1, fr_forgetTold_0])]; exact hro)))) br_5
    by_cases c_10 : z_8.2 = 0
    · have b_11 : wx_b z_8.2 0 0 := by rw [c_10]; exact ⟨by decide, by decide⟩
      rw [show f_X6_readInto g ho = (z_8.1, 0) from (by subst ez_8 ez_4 eg_3 eg_2 eg_1; simp only [f_X6_readInto, if_neg c_6, if_pos c_10])]
      exact (wb_w br_9 (by decide) (by decide))
    · obtain ⟨z_12, ez_12⟩ : ∃ z, z = f_X6_readPeople z_8.1 ho := ⟨_, rfl⟩
      have br_13 : wx_b (z_12.1 ho 0) 0 6 := by rw [ez_12]; exact ro_X6_readPeople hho (by rw [ez_8]; exact tT_X6_readWalls hho (by rw [ez_4]; exact tT_X6_readLaw hho (by rw [eg_3]; exact tT_X6_step (by rw [eg_2]; exact tT_5 (wb_w (show wx_b 0 0 0 from ⟨by decide, by decide⟩) (by decide) (by decide)) (by rw [eg_1]; exact tT_forgetTold hho hT))) (show wx_b (g_3 ho 0) 0 6 by rw [show (g_3 ho 0) = (g_2 ho 0) from (by rw [eg_3, fr_X6_step (by rcases hho with rfl | rfl | rfl | rfl <;> decide)])]; exact (show wx_b (g_2 ho 0) 0 6 by rw [show (g_2 ho 0) = (g_1 ho 0) from (by rw [eg_2, up2_n (by rcases hho with rfl | rfl | rfl | rfl <;> decide)])]; exact (show wx_b (g_1 ho 0) 0 6 by rw [show (g_1 ho 0) = (g ho 0) from (by rw [eg_1, fr_forgetTold_0])]; exact hro)))) br_5) br_9
      by_cases c_14 : z_12.2 = 0
      · have b_15 : wx_b z_12.2 0 0 := by rw [c_14]; exact ⟨by decide, by decide⟩
        rw [show f_X6_readInto g ho = (z_12.1, 0) from (by subst ez_12 ez_8 ez_4 eg_3 eg_2 eg_1; simp only [f_X6_readInto, if_neg c_6, if_neg c_10, if_pos c_14])]
        exact (wb_w br_13 (by decide) (by decide))
      · obtain ⟨z_16, ez_16⟩ : ∃ z, z = f_X6_readVisitors z_12.1 ho := ⟨_, rfl⟩
        have br_17 : wx_b (z_16.1 ho 0) 0 6 := by rw [ez_16]; exact ro_X6_readVisitors hho (by rw [ez_12]; exact tT_X6_readPeople hho (by rw [ez_8]; exact tT_X6_readWalls hho (by rw [ez_4]; exact tT_X6_readLaw hho (by rw [eg_3]; exact tT_X6_step (by rw [eg_2]; exact tT_5 (wb_w (show wx_b 0 0 0 from ⟨by decide, by decide⟩) (by decide) (by decide)) (by rw [eg_1]; exact tT_forgetTold hho hT))) (show wx_b (g_3 ho 0) 0 6 by rw [show (g_3 ho 0) = (g_2 ho 0) from (by rw [eg_3, fr_X6_step (by rcases hho with rfl | rfl | rfl | rfl <;> decide)])]; exact (show wx_b (g_2 ho 0) 0 6 by rw [show (g_2 ho 0) = (g_1 ho 0) from (by rw [eg_2, up2_n (by rcases hho with rfl | rfl | rfl | rfl <;> decide)])]; exact (show wx_b (g_1 ho 0) 0 6 by rw [show (g_1 ho 0) = (g ho 0) from (by rw [eg_1, fr_forgetTold_0])]; exact hro)))) br_5) br_9) br_13
        by_cases c_18 : z_16.2 = 0
        · have b_19 : wx_b z_16.2 0 0 := by rw [c_18]; exact ⟨by decide, by decide⟩
          rw [show f_X6_readInto g ho = (z_16.1, 0) from (by subst ez_16 ez_12 ez_8 ez_4 eg_3 eg_2 eg_1; simp only [f_X6_readInto, if_neg c_6, if_neg c_10, if_neg c_14, if_pos c_18])]
          exact (wb_w br_17 (by decide) (by decide))
        · obtain ⟨z_20, ez_20⟩ : ∃ z, z = f_X6_take z_16.1 (-1) := ⟨_, rfl⟩
          by_cases c_21 : z_20.2 = 0
          · have b_22 : wx_b z_20.2 0 0 := by rw [c_21]; exact ⟨by decide, by decide⟩
            rw [show f_X6_readInto g ho = (z_20.1, 0) from (by subst ez_20 ez_16 ez_12 ez_8 ez_4 eg_3 eg_2 eg_1; simp only [f_X6_readInto, if_neg c_6, if_neg c_10, if_neg c_14, if_neg c_18, if_pos c_21])]
            exact (wb_w (show wx_b (z_20.1 ho 0) 0 6 by rw [show (z_20.1 ho 0) = (z_16.1 ho 0) from (by rw [ez_20, fr_X6_take (by rcases hho with rfl | rfl | rfl | rfl <;> decide)])]; exact br_17) (by decide) (by decide))
          · rw [show f_X6_readInto g ho = (z_20.1, 1) from (by subst ez_20 ez_16 ez_12 ez_8 ez_4 eg_3 eg_2 eg_1; simp only [f_X6_readInto, if_neg c_6, if_neg c_10, if_neg c_14, if_neg c_18, if_neg c_21])]
            exact (wb_w (show wx_b (z_20.1 ho 0) 0 6 by rw [show (z_20.1 ho 0) = (z_16.1 ho 0) from (by rw [ez_20, fr_X6_take (by rcases hho with rfl | rfl | rfl | rfl <;> decide)])]; exact br_17) (by decide) (by decide))

set_option maxHeartbeats 4000000 in
theorem fr_X6_readInto {g : wx_M} {ho : Nat} {k : Nat} (hho : wx_H ho) (hT : wx_TB g) (hro : wx_b (g ho 0) 0 6) (hk18 : k ≠ 18) (hkh : k < ho ∨ ho + 6 < k) : (f_X6_readInto g ho).1 k = g k := by
  obtain ⟨g_1, eg_1⟩ : ∃ z : wx_M, z = e_X3_forgetTold g ho := ⟨_, rfl⟩
  obtain ⟨g_2, eg_2⟩ : ∃ z : wx_M, z = up2 g_1 18 5 0 := ⟨_, rfl⟩
  obtain ⟨g_3, eg_3⟩ : ∃ z : wx_M, z = e_X6_step g_2 := ⟨_, rfl⟩
  obtain ⟨z_4, ez_4⟩ : ∃ z, z = f_X6_readLaw g_3 ho := ⟨_, rfl⟩
  have br_5 : wx_b (z_4.1 ho 0) 0 6 := by rw [ez_4]; exact ro_X6_readLaw hho (by rw [eg_3]; exact tT_X6_step (by rw [eg_2]; exact tT_5 (wb_w (show wx_b 0 0 0 from ⟨by decide, by decide⟩) (by decide) (by decide)) (by rw [eg_1]; exact tT_forgetTold hho hT))) (show wx_b (g_3 ho 0) 0 6 by rw [show (g_3 ho 0) = (g_2 ho 0) from (by rw [eg_3, fr_X6_step (by rcases hho with rfl | rfl | rfl | rfl <;> decide)])]; exact (show wx_b (g_2 ho 0) 0 6 by rw [show (g_2 ho 0) = (g_1 ho 0) from (by rw [eg_2, up2_n (by rcases hho with rfl | rfl | rfl | rfl <;> decide)])]; exact (show wx_b (g_1 ho 0) 0 6 by rw [show (g_1 ho 0) = (g ho 0) from (by rw [eg_1, fr_forgetTold_0])]; exact hro)))
  by_cases c_6 : z_4.2 = 0
  · have b_7 : wx_b z_4.2 0 0 := by rw [c_6]; exact ⟨by decide, by decide⟩
    rw [show f_X6_readInto g ho = (z_4.1, 0) from (by subst ez_4 eg_3 eg_2 eg_1; simp only [f_X6_readInto, if_pos c_6])]
    exact ((show z_4.1 k = g_3 k from by rw [ez_4]; exact fr_X6_readLaw hho (by rw [eg_3]; exact tT_X6_step (by rw [eg_2]; exact tT_5 (wb_w (show wx_b 0 0 0 from ⟨by decide, by decide⟩) (by decide) (by decide)) (by rw [eg_1]; exact tT_forgetTold hho hT))) (show wx_b (g_3 ho 0) 0 6 by rw [show (g_3 ho 0) = (g_2 ho 0) from (by rw [eg_3, fr_X6_step (by rcases hho with rfl | rfl | rfl | rfl <;> decide)])]; exact (show wx_b (g_2 ho 0) 0 6 by rw [show (g_2 ho 0) = (g_1 ho 0) from (by rw [eg_2, up2_n (by rcases hho with rfl | rfl | rfl | rfl <;> decide)])]; exact (show wx_b (g_1 ho 0) 0 6 by rw [show (g_1 ho 0) = (g ho 0) from (by rw [eg_1, fr_forgetTold_0])]; exact hro))) hk18 hkh).trans ((show g_3 k = g_2 k from by rw [eg_3]; exact fr_X6_step hk18).trans ((show g_2 k = g_1 k from by rw [eg_2]; exact up2_n hk18).trans ((show g_1 k = g k from by rw [eg_1]; exact fr_forgetTold (by omega) (by omega)).trans rfl))))
  · obtain ⟨z_8, ez_8⟩ : ∃ z, z = f_X6_readWalls z_4.1 ho := ⟨_, rfl⟩
    have br_9 : wx_b (z_8.1 ho 0) 0 6 := by rw [ez_8]; exact ro_X6_readWalls hho (by rw [ez_4]; exact tT_X6_readLaw hho (by rw [eg_3]; exact tT_X6_step (by rw [eg_2]; exact tT_5 (wb_w (show wx_b 0 0 0 from ⟨by decide, by decide⟩) (by decide) (by decide)) (by rw [eg_1]; exact tT_forgetTold hho hT))) (show wx_b (g_3 ho 0) 0 6 by rw [show (g_3 ho 0) = (g_2 ho 0) from (by rw [eg_3, fr_X6_step (by rcases hho with rfl | rfl | rfl | rfl <;> decide)])]; exact (show wx_b (g_2 ho 0) 0 6 by rw [show (g_2 ho 0) = (g_1 ho 0) from (by rw [eg_2, up2_n (by rcases hho with rfl | rfl | rfl | rfl <;> decide)])]; exact (show wx_b (g_1 ho 0) 0 6 by rw [show (g_1 ho 0) = (g ho 0) from (by rw [eg_1, fr_forgetTold_0])]; exact hro)))) br_5
    by_cases c_10 : z_8.2 = 0
    · have b_11 : wx_b z_8.2 0 0 := by rw [c_10]; exact ⟨by decide, by decide⟩
      rw [show f_X6_readInto g ho = (z_8.1, 0) from (by subst ez_8 ez_4 eg_3 eg_2 eg_1; simp only [f_X6_readInto, if_neg c_6, if_pos c_10])]
      exact ((show z_8.1 k = z_4.1 k from by rw [ez_8]; exact fr_X6_readWalls hho (by rw [ez_4]; exact tT_X6_readLaw hho (by rw [eg_3]; exact tT_X6_step (by rw [eg_2]; exact tT_5 (wb_w (show wx_b 0 0 0 from ⟨by decide, by decide⟩) (by decide) (by decide)) (by rw [eg_1]; exact tT_forgetTold hho hT))) (show wx_b (g_3 ho 0) 0 6 by rw [show (g_3 ho 0) = (g_2 ho 0) from (by rw [eg_3, fr_X6_step (by rcases hho with rfl | rfl | rfl | rfl <;> decide)])]; exact (show wx_b (g_2 ho 0) 0 6 by rw [show (g_2 ho 0) = (g_1 ho 0) from (by rw [eg_2, up2_n (by rcases hho with rfl | rfl | rfl | rfl <;> decide)])]; exact (show wx_b (g_1 ho 0) 0 6 by rw [show (g_1 ho 0) = (g ho 0) from (by rw [eg_1, fr_forgetTold_0])]; exact hro)))) br_5 hk18 hkh).trans ((show z_4.1 k = g_3 k from by rw [ez_4]; exact fr_X6_readLaw hho (by rw [eg_3]; exact tT_X6_step (by rw [eg_2]; exact tT_5 (wb_w (show wx_b 0 0 0 from ⟨by decide, by decide⟩) (by decide) (by decide)) (by rw [eg_1]; exact tT_forgetTold hho hT))) (show wx_b (g_3 ho 0) 0 6 by rw [show (g_3 ho 0) = (g_2 ho 0) from (by rw [eg_3, fr_X6_step (by rcases hho with rfl | rfl | rfl | rfl <;> decide)])]; exact (show wx_b (g_2 ho 0) 0 6 by rw [show (g_2 ho 0) = (g_1 ho 0) from (by rw [eg_2, up2_n (by rcases hho with rfl | rfl | rfl | rfl <;> decide)])]; exact (show wx_b (g_1 ho 0) 0 6 by rw [show (g_1 ho 0) = (g ho 0) from (by rw [eg_1, fr_forgetTold_0])]; exact hro))) hk18 hkh).trans ((show g_3 k = g_2 k from by rw [eg_3]; exact fr_X6_step hk18).trans ((show g_2 k = g_1 k from by rw [eg_2]; exact up2_n hk18).trans ((show g_1 k = g k from by rw [eg_1]; exact fr_forgetTold (by omega) (by omega)).trans rfl)))))
    · obtain ⟨z_12, ez_12⟩ : ∃ z, z = f_X6_readPeople z_8.1 ho := ⟨_, rfl⟩
      have br_13 : wx_b (z_12.1 ho 0) 0 6 := by rw [ez_12]; exact ro_X6_readPeople hho (by rw [ez_8]; exact tT_X6_readWalls hho (by rw [ez_4]; exact tT_X6_readLaw hho (by rw [eg_3]; exact tT_X6_step (by rw [eg_2]; exact tT_5 (wb_w (show wx_b 0 0 0 from ⟨by decide, by decide⟩) (by decide) (by decide)) (by rw [eg_1]; exact tT_forgetTold hho hT))) (show wx_b (g_3 ho 0) 0 6 by rw [show (g_3 ho 0) = (g_2 ho 0) from (by rw [eg_3, fr_X6_step (by rcases hho with rfl | rfl | rfl | rfl <;> decide)])]; exact (show wx_b (g_2 ho 0) 0 6 by rw [show (g_2 ho 0) = (g_1 ho 0) from (by rw [eg_2, up2_n (by rcases hho with rfl | rfl | rfl | rfl <;> decide)])]; exact (show wx_b (g_1 ho 0) 0 6 by rw [show (g_1 ho 0) = (g ho 0) from (by rw [eg_1, fr_forgetTold_0])]; exact hro)))) br_5) br_9
      by_cases c_14 : z_12.2 = 0
      · have b_15 : wx_b z_12.2 0 0 := by rw [c_14]; exact ⟨by decide, by decide⟩
        rw [show f_X6_readInto g ho = (z_12.1, 0) from (by subst ez_12 ez_8 ez_4 eg_3 eg_2 eg_1; simp only [f_X6_readInto, if_neg c_6, if_neg c_10, if_pos c_14])]
        exact ((show z_12.1 k = z_8.1 k from by rw [ez_12]; exact fr_X6_readPeople hho (by rw [ez_8]; exact tT_X6_readWalls hho (by rw [ez_4]; exact tT_X6_readLaw hho (by rw [eg_3]; exact tT_X6_step (by rw [eg_2]; exact tT_5 (wb_w (show wx_b 0 0 0 from ⟨by decide, by decide⟩) (by decide) (by decide)) (by rw [eg_1]; exact tT_forgetTold hho hT))) (show wx_b (g_3 ho 0) 0 6 by rw [show (g_3 ho 0) = (g_2 ho 0) from (by rw [eg_3, fr_X6_step (by rcases hho with rfl | rfl | rfl | rfl <;> decide)])]; exact (show wx_b (g_2 ho 0) 0 6 by rw [show (g_2 ho 0) = (g_1 ho 0) from (by rw [eg_2, up2_n (by rcases hho with rfl | rfl | rfl | rfl <;> decide)])]; exact (show wx_b (g_1 ho 0) 0 6 by rw [show (g_1 ho 0) = (g ho 0) from (by rw [eg_1, fr_forgetTold_0])]; exact hro)))) br_5) br_9 hk18 hkh).trans ((show z_8.1 k = z_4.1 k from by rw [ez_8]; exact fr_X6_readWalls hho (by rw [ez_4]; exact tT_X6_readLaw hho (by rw [eg_3]; exact tT_X6_step (by rw [eg_2]; exact tT_5 (wb_w (show wx_b 0 0 0 from ⟨by decide, by decide⟩) (by decide) (by decide)) (by rw [eg_1]; exact tT_forgetTold hho hT))) (show wx_b (g_3 ho 0) 0 6 by rw [show (g_3 ho 0) = (g_2 ho 0) from (by rw [eg_3, fr_X6_step (by rcases hho with rfl | rfl | rfl | rfl <;> decide)])]; exact (show wx_b (g_2 ho 0) 0 6 by rw [show (g_2 ho 0) = (g_1 ho 0) from (by rw [eg_2, up2_n (by rcases hho with rfl | rfl | rfl | rfl <;> decide)])]; exact (show wx_b (g_1 ho 0) 0 6 by rw [show (g_1 ho 0) = (g ho 0) from (by rw [eg_1, fr_forgetTold_0])]; exact hro)))) br_5 hk18 hkh).trans ((show z_4.1 k = g_3 k from by rw [ez_4]; exact fr_X6_readLaw hho (by rw [eg_3]; exact tT_X6_step (by rw [eg_2]; exact tT_5 (wb_w (show wx_b 0 0 0 from ⟨by decide, by decide⟩) (by decide) (by decide)) (by rw [eg_1]; exact tT_forgetTold hho hT))) (show wx_b (g_3 ho 0) 0 6 by rw [show (g_3 ho 0) = (g_2 ho 0) from (by rw [eg_3, fr_X6_step (by rcases hho with rfl | rfl | rfl | rfl <;> decide)])]; exact (show wx_b (g_2 ho 0) 0 6 by rw [show (g_2 ho 0) = (g_1 ho 0) from (by rw [eg_2, up2_n (by rcases hho with rfl | rfl | rfl | rfl <;> decide)])]; exact (show wx_b (g_1 ho 0) 0 6 by rw [show (g_1 ho 0) = (g ho 0) from (by rw [eg_1, fr_forgetTold_0])]; exact hro))) hk18 hkh).trans ((show g_3 k = g_2 k from by rw [eg_3]; exact fr_X6_step hk18).trans ((show g_2 k = g_1 k from by rw [eg_2]; exact up2_n hk18).trans ((show g_1 k = g k from by rw [eg_1]; exact fr_forgetTold (by omega) (by omega)).trans rfl))))))
      · obtain ⟨z_16, ez_16⟩ : ∃ z, z = f_X6_readVisitors z_12.1 ho := ⟨_, rfl⟩
        have br_17 : wx_b (z_16.1 ho 0) 0 6 := by rw [ez_16]; exact ro_X6_readVisitors hho (by rw [ez_12]; exact tT_X6_readPeople hho (by rw [ez_8]; exact tT_X6_readWalls hho (by rw [ez_4]; exact tT_X6_readLaw hho (by rw [eg_3]; exact tT_X6_step (by rw [eg_2]; exact tT_5 (wb_w (show wx_b 0 0 0 from ⟨by decide, by decide⟩) (by decide) (by decide)) (by rw [eg_1]; exact tT_forgetTold hho hT))) (show wx_b (g_3 ho 0) 0 6 by rw [show (g_3 ho 0) = (g_2 ho 0) from (by rw [eg_3, fr_X6_step (by rcases hho with rfl | rfl | rfl | rfl <;> decide)])]; exact (show wx_b (g_2 ho 0) 0 6 by rw [show (g_2 ho 0) = (g_1 ho 0) from (by rw [eg_2, up2_n (by rcases hho with rfl | rfl | rfl | rfl <;> decide)])]; exact (show wx_b (g_1 ho 0) 0 6 by rw [show (g_1 ho 0) = (g ho 0) from (by rw [eg_1, fr_forgetTold_0])]; exact hro)))) br_5) br_9) br_13
        by_cases c_18 : z_16.2 = 0
        · have b_19 : wx_b z_16.2 0 0 := by rw [c_18]; exact ⟨by decide, by decide⟩
          rw [show f_X6_readInto g ho = (z_16.1, 0) from (by subst ez_16 ez_12 ez_8 ez_4 eg_3 eg_2 eg_1; simp only [f_X6_readInto, if_neg c_6, if_neg c_10, if_neg c_14, if_pos c_18])]
          exact ((show z_16.1 k = z_12.1 k from by rw [ez_16]; exact fr_X6_readVisitors hho (by rw [ez_12]; exact tT_X6_readPeople hho (by rw [ez_8]; exact tT_X6_readWalls hho (by rw [ez_4]; exact tT_X6_readLaw hho (by rw [eg_3]; exact tT_X6_step (by rw [eg_2]; exact tT_5 (wb_w (show wx_b 0 0 0 from ⟨by decide, by decide⟩) (by decide) (by decide)) (by rw [eg_1]; exact tT_forgetTold hho hT))) (show wx_b (g_3 ho 0) 0 6 by rw [show (g_3 ho 0) = (g_2 ho 0) from (by rw [eg_3, fr_X6_step (by rcases hho with rfl | rfl | rfl | rfl <;> decide)])]; exact (show wx_b (g_2 ho 0) 0 6 by rw [show (g_2 ho 0) = (g_1 ho 0) from (by rw [eg_2, up2_n (by rcases hho with rfl | rfl | rfl | rfl <;> decide)])]; exact (show wx_b (g_1 ho 0) 0 6 by rw [show (g_1 ho 0) = (g ho 0) from (by rw [eg_1, fr_forgetTold_0])]; exact hro)))) br_5) br_9) br_13 hk18 hkh).trans ((show z_12.1 k = z_8.1 k from by rw [ez_12]; exact fr_X6_readPeople hho (by rw [ez_8]; exact tT_X6_readWalls hho (by rw [ez_4]; exact tT_X6_readLaw hho (by rw [eg_3]; exact tT_X6_step (by rw [eg_2]; exact tT_5 (wb_w (show wx_b 0 0 0 from ⟨by decide, by decide⟩) (by decide) (by decide)) (by rw [eg_1]; exact tT_forgetTold hho hT))) (show wx_b (g_3 ho 0) 0 6 by rw [show (g_3 ho 0) = (g_2 ho 0) from (by rw [eg_3, fr_X6_step (by rcases hho with rfl | rfl | rfl | rfl <;> decide)])]; exact (show wx_b (g_2 ho 0) 0 6 by rw [show (g_2 ho 0) = (g_1 ho 0) from (by rw [eg_2, up2_n (by rcases hho with rfl | rfl | rfl | rfl <;> decide)])]; exact (show wx_b (g_1 ho 0) 0 6 by rw [show (g_1 ho 0) = (g ho 0) from (by rw [eg_1, fr_forgetTold_0])]; exact hro)))) br_5) br_9 hk18 hkh).trans ((show z_8.1 k = z_4.1 k from by rw [ez_8]; exact fr_X6_readWalls hho (by rw [ez_4]; exact tT_X6_readLaw hho (by rw [eg_3]; exact tT_X6_step (by rw [eg_2]; exact tT_5 (wb_w (show wx_b 0 0 0 from ⟨by decide, by decide⟩) (by decide) (by decide)) (by rw [eg_1]; exact tT_forgetTold hho hT))) (show wx_b (g_3 ho 0) 0 6 by rw [show (g_3 ho 0) = (g_2 ho 0) from (by rw [eg_3, fr_X6_step (by rcases hho with rfl | rfl | rfl | rfl <;> decide)])]; exact (show wx_b (g_2 ho 0) 0 6 by rw [show (g_2 ho 0) = (g_1 ho 0) from (by rw [eg_2, up2_n (by rcases hho with rfl | rfl | rfl | rfl <;> decide)])]; exact (show wx_b (g_1 ho 0) 0 6 by rw [show (g_1 ho 0) = (g ho 0) from (by rw [eg_1, fr_forgetTold_0])]; exact hro)))) br_5 hk18 hkh).trans ((show z_4.1 k = g_3 k from by rw [ez_4]; exact fr_X6_readLaw hho (by rw [eg_3]; exact tT_X6_step (by rw [eg_2]; exact tT_5 (wb_w (show wx_b 0 0 0 from ⟨by decide, by decide⟩) (by decide) (by decide)) (by rw [eg_1]; exact tT_forgetTold hho hT))) (show wx_b (g_3 ho 0) 0 6 by rw [show (g_3 ho 0) = (g_2 ho 0) from (by rw [eg_3, fr_X6_step (by rcases hho with rfl | rfl | rfl | rfl <;> decide)])]; exact (show wx_b (g_2 ho 0) 0 6 by rw [show (g_2 ho 0) = (g_1 ho 0) from (by rw [eg_2, up2_n (by rcases hho with rfl | rfl | rfl | rfl <;> decide)])]; exact (show wx_b (g_1 ho 0) 0 6 by rw [show (g_1 ho 0) = (g ho 0) from (by rw [eg_1, fr_forgetTold_0])]; exact hro))) hk18 hkh).trans ((show g_3 k = g_2 k from by rw [eg_3]; exact fr_X6_step hk18).trans ((show g_2 k = g_1 k from by rw [eg_2]; exact up2_n hk18).trans ((show g_1 k = g k from by rw [eg_1]; exact fr_forgetTold (by omega) (by omega)).trans rfl)))))))
        · obtain ⟨z_20, ez_20⟩ : ∃ z, z = f_X6_take z_16.1 (-1) := ⟨_, rfl⟩
          by_cases c_21 : z_20.2 = 0
          · have b_22 : wx_b z_20.2 0 0 := by rw [c_21]; exact ⟨by decide, by decide⟩
            rw [show f_X6_readInto g ho = (z_20.1, 0) from (by subst ez_20 ez_16 ez_12 ez_8 ez_4 eg_3 eg_2 eg_1; simp only [f_X6_readInto, if_neg c_6, if_neg c_10, if_neg c_14, if_neg c_18, if_pos c_21])]
            exact ((show z_20.1 k = z_16.1 k from by rw [ez_20]; exact fr_X6_take hk18).trans ((show z_16.1 k = z_12.1 k from by rw [ez_16]; exact fr_X6_readVisitors hho (by rw [ez_12]; exact tT_X6_readPeople hho (by rw [ez_8]; exact tT_X6_readWalls hho (by rw [ez_4]; exact tT_X6_readLaw hho (by rw [eg_3]; exact tT_X6_step (by rw [eg_2]; exact tT_5 (wb_w (show wx_b 0 0 0 from ⟨by decide, by decide⟩) (by decide) (by decide)) (by rw [eg_1]; exact tT_forgetTold hho hT))) (show wx_b (g_3 ho 0) 0 6 by rw [show (g_3 ho 0) = (g_2 ho 0) from (by rw [eg_3, fr_X6_step (by rcases hho with rfl | rfl | rfl | rfl <;> decide)])]; exact (show wx_b (g_2 ho 0) 0 6 by rw [show (g_2 ho 0) = (g_1 ho 0) from (by rw [eg_2, up2_n (by rcases hho with rfl | rfl | rfl | rfl <;> decide)])]; exact (show wx_b (g_1 ho 0) 0 6 by rw [show (g_1 ho 0) = (g ho 0) from (by rw [eg_1, fr_forgetTold_0])]; exact hro)))) br_5) br_9) br_13 hk18 hkh).trans ((show z_12.1 k = z_8.1 k from by rw [ez_12]; exact fr_X6_readPeople hho (by rw [ez_8]; exact tT_X6_readWalls hho (by rw [ez_4]; exact tT_X6_readLaw hho (by rw [eg_3]; exact tT_X6_step (by rw [eg_2]; exact tT_5 (wb_w (show wx_b 0 0 0 from ⟨by decide, by decide⟩) (by decide) (by decide)) (by rw [eg_1]; exact tT_forgetTold hho hT))) (show wx_b (g_3 ho 0) 0 6 by rw [show (g_3 ho 0) = (g_2 ho 0) from (by rw [eg_3, fr_X6_step (by rcases hho with rfl | rfl | rfl | rfl <;> decide)])]; exact (show wx_b (g_2 ho 0) 0 6 by rw [show (g_2 ho 0) = (g_1 ho 0) from (by rw [eg_2, up2_n (by rcases hho with rfl | rfl | rfl | rfl <;> decide)])]; exact (show wx_b (g_1 ho 0) 0 6 by rw [show (g_1 ho 0) = (g ho 0) from (by rw [eg_1, fr_forgetTold_0])]; exact hro)))) br_5) br_9 hk18 hkh).trans ((show z_8.1 k = z_4.1 k from by rw [ez_8]; exact fr_X6_readWalls hho (by rw [ez_4]; exact tT_X6_readLaw hho (by rw [eg_3]; exact tT_X6_step (by rw [eg_2]; exact tT_5 (wb_w (show wx_b 0 0 0 from ⟨by decide, by decide⟩) (by decide) (by decide)) (by rw [eg_1]; exact tT_forgetTold hho hT))) (show wx_b (g_3 ho 0) 0 6 by rw [show (g_3 ho 0) = (g_2 ho 0) from (by rw [eg_3, fr_X6_step (by rcases hho with rfl | rfl | rfl | rfl <;> decide)])]; exact (show wx_b (g_2 ho 0) 0 6 by rw [show (g_2 ho 0) = (g_1 ho 0) from (by rw [eg_2, up2_n (by rcases hho with rfl | rfl | rfl | rfl <;> decide)])]; exact (show wx_b (g_1 ho 0) 0 6 by rw [show (g_1 ho 0) = (g ho 0) from (by rw [eg_1, fr_forgetTold_0])]; exact hro)))) br_5 hk18 hkh).trans ((show z_4.1 k = g_3 k from by rw [ez_4]; exact fr_X6_readLaw hho (by rw [eg_3]; exact tT_X6_step (by rw [eg_2]; exact tT_5 (wb_w (show wx_b 0 0 0 from ⟨by decide, by decide⟩) (by decide) (by decide)) (by rw [eg_1]; exact tT_forgetTold hho hT))) (show wx_b (g_3 ho 0) 0 6 by rw [show (g_3 ho 0) = (g_2 ho 0) from (by rw [eg_3, fr_X6_step (by rcases hho with rfl | rfl | rfl | rfl <;> decide)])]; exact (show wx_b (g_2 ho 0) 0 6 by rw [show (g_2 ho 0) = (g_1 ho 0) from (by rw [eg_2, up2_n (by rcases hho with rfl | rfl | rfl | rfl <;> decide)])]; exact (show wx_b (g_1 ho 0) 0 6 by rw [show (g_1 ho 0) = (g ho 0) from (by rw [eg_1, fr_forgetTold_0])]; exact hro))) hk18 hkh).trans ((show g_3 k = g_2 k from by rw [eg_3]; exact fr_X6_step hk18).trans ((show g_2 k = g_1 k from by rw [eg_2]; exact up2_n hk18).trans ((show g_1 k = g k from by rw [eg_1]; exact fr_forgetTold (by omega) (by omega)).trans rfl))))))))
          · rw [show f_X6_readInto g ho = (z_20.1, 1) from (by subst ez_20 ez_16 ez_12 ez_8 ez_4 eg_3 eg_2 eg_1; simp only [f_X6_readInto, if_neg c_6, if_neg c_10, if_neg c_14, if_neg c_18, if_neg c_21])]
            exact ((show z_20.1 k = z_16.1 k from by rw [ez_20]; exact fr_X6_take hk18).trans ((show z_16.1 k = z_12.1 k from by rw [ez_16]; exact fr_X6_readVisitors hho (by rw [ez_12]; exact tT_X6_readPeople hho (by rw [ez_8]; exact tT_X6_readWalls hho (by rw [ez_4]; exact tT_X6_readLaw hho (by rw [eg_3]; exact tT_X6_step (by rw [eg_2]; exact tT_5 (wb_w (show wx_b 0 0 0 from ⟨by decide, by decide⟩) (by decide) (by decide)) (by rw [eg_1]; exact tT_forgetTold hho hT))) (show wx_b (g_3 ho 0) 0 6 by rw [show (g_3 ho 0) = (g_2 ho 0) from (by rw [eg_3, fr_X6_step (by rcases hho with rfl | rfl | rfl | rfl <;> decide)])]; exact (show wx_b (g_2 ho 0) 0 6 by rw [show (g_2 ho 0) = (g_1 ho 0) from (by rw [eg_2, up2_n (by rcases hho with rfl | rfl | rfl | rfl <;> decide)])]; exact (show wx_b (g_1 ho 0) 0 6 by rw [show (g_1 ho 0) = (g ho 0) from (by rw [eg_1, fr_forgetTold_0])]; exact hro)))) br_5) br_9) br_13 hk18 hkh).trans ((show z_12.1 k = z_8.1 k from by rw [ez_12]; exact fr_X6_readPeople hho (by rw [ez_8]; exact tT_X6_readWalls hho (by rw [ez_4]; exact tT_X6_readLaw hho (by rw [eg_3]; exact tT_X6_step (by rw [eg_2]; exact tT_5 (wb_w (show wx_b 0 0 0 from ⟨by decide, by decide⟩) (by decide) (by decide)) (by rw [eg_1]; exact tT_forgetTold hho hT))) (show wx_b (g_3 ho 0) 0 6 by rw [show (g_3 ho 0) = (g_2 ho 0) from (by rw [eg_3, fr_X6_step (by rcases hho with rfl | rfl | rfl | rfl <;> decide)])]; exact (show wx_b (g_2 ho 0) 0 6 by rw [show (g_2 ho 0) = (g_1 ho 0) from (by rw [eg_2, up2_n (by rcases hho with rfl | rfl | rfl | rfl <;> decide)])]; exact (show wx_b (g_1 ho 0) 0 6 by rw [show (g_1 ho 0) = (g ho 0) from (by rw [eg_1, fr_forgetTold_0])]; exact hro)))) br_5) br_9 hk18 hkh).trans ((show z_8.1 k = z_4.1 k from by rw [ez_8]; exact fr_X6_readWalls hho (by rw [ez_4]; exact tT_X6_readLaw hho (by rw [eg_3]; exact tT_X6_step (by rw [eg_2]; exact tT_5 (wb_w (show wx_b 0 0 0 from ⟨by decide, by decide⟩) (by decide) (by decide)) (by rw [eg_1]; exact tT_forgetTold hho hT))) (show wx_b (g_3 ho 0) 0 6 by rw [show (g_3 ho 0) = (g_2 ho 0) from (by rw [eg_3, fr_X6_step (by rcases hho with rfl | rfl | rfl | rfl <;> decide)])]; exact (show wx_b (g_2 ho 0) 0 6 by rw [show (g_2 ho 0) = (g_1 ho 0) from (by rw [eg_2, up2_n (by rcases hho with rfl | rfl | rfl | rfl <;> decide)])]; exact (show wx_b (g_1 ho 0) 0 6 by rw [show (g_1 ho 0) = (g ho 0) from (by rw [eg_1, fr_forgetTold_0])]; exact hro)))) br_5 hk18 hkh).trans ((show z_4.1 k = g_3 k from by rw [ez_4]; exact fr_X6_readLaw hho (by rw [eg_3]; exact tT_X6_step (by rw [eg_2]; exact tT_5 (wb_w (show wx_b 0 0 0 from ⟨by decide, by decide⟩) (by decide) (by decide)) (by rw [eg_1]; exact tT_forgetTold hho hT))) (show wx_b (g_3 ho 0) 0 6 by rw [show (g_3 ho 0) = (g_2 ho 0) from (by rw [eg_3, fr_X6_step (by rcases hho with rfl | rfl | rfl | rfl <;> decide)])]; exact (show wx_b (g_2 ho 0) 0 6 by rw [show (g_2 ho 0) = (g_1 ho 0) from (by rw [eg_2, up2_n (by rcases hho with rfl | rfl | rfl | rfl <;> decide)])]; exact (show wx_b (g_1 ho 0) 0 6 by rw [show (g_1 ho 0) = (g ho 0) from (by rw [eg_1, fr_forgetTold_0])]; exact hro))) hk18 hkh).trans ((show g_3 k = g_2 k from by rw [eg_3]; exact fr_X6_step hk18).trans ((show g_2 k = g_1 k from by rw [eg_2]; exact up2_n hk18).trans ((show g_1 k = g k from by rw [eg_1]; exact fr_forgetTold (by omega) (by omega)).trans rfl))))))))

def f_X11_house (g : wx_M) : wx_M × Int32 :=
  let z_1 := f_X6_readInto g 27
  let g_3 := up2 z_1.1 18 1 0
  if z_1.2 = 0 then
    let x_9 := ((-1000100) - (g_3 18 3))
    (g_3, x_9)
  else
    let g_5 := e_X3_becomes g_3 20 27
    let g_6 := e_X0_forgetAll g_5
    let x_7 := (g_6 20 0)
    (g_6, x_7)
set_option maxHeartbeats 4000000 in
set_option maxRecDepth 100000 in
theorem k_X11_house (l : Launch) {D : va_G} {cy : Nat → ClassId} {ad : Nat → Nat} {B0 : Nat} {f : wx_F} {P : va_W} (g : wx_M) (hT : wx_TB g) (hro : wx_b (g 27 0) 0 6) : Met l yX11_house wsX11_house ({ frames := 7, cells := 4, slots := 4, locals := 139 } : Room) (wx_Pc D cy ad B0 f P g [.ref (ad 0)]) (wx_Qx D cy ad B0 (f_X11_house g).1 (some (.int (f_X11_house g).2))) 4 4 (fun q => B0 ≤ q) := by
  refine wx_enterXIN (cc := cX11_house) (maxL := 2) (ty := .int) (own := RX11) (lv := [(0, .ref (ad 0))]) (by decide) rfl rfl (Nat.le_of_ble_eq_true rfl) rfl ?_
  intro p e R s m args below meth c ls Qm hx hb hml hown hts hK hX hS hR hret hl
  have hi_X11 : ∀ w ∈ wsX110, w ∈ wsX11_house := by decide +kernel
  have hi_X6 : ∀ w ∈ wsX60, w ∈ wsX11_house := by decide +kernel
  have hi_X3 : ∀ w ∈ wsX30, w ∈ wsX11_house := by decide +kernel
  refine lv_aload_n hx hb dX11_house_0 rfl (lv_at hl 0 rfl) ?_
  refine wx_getr (t := 18) (C := RX11) (T := TX11) (N := 8) (ci := 10) (j := 1) hx hb hts hi_X11 hown hK hX (by decide) sh_X11_1 rfl (by decide) (hts (.fieldLink RX11 18 "SeenAgain" "tape" "LSeenAgain$Tape;") (by decide +kernel)) (fun _ h9 => h9) dX11_house_1 ?_
  refine lv_aload_n hx hb dX11_house_4 rfl (lv_at hl 0 rfl) ?_
  refine wx_getr (t := 27) (C := RX11) (T := TX11) (N := 8) (ci := 10) (j := 3) hx hb hts hi_X11 hown hK hX (by decide) sh_X11_3 rfl (by decide) (hts (.fieldLink RX11 29 "SeenAgain" "draft" "LSeenAgain$House;") (by decide +kernel)) (fun _ h9 => h9) dX11_house_5 ?_
  refine wx_callxiN (va_runV (As := [.ref (ad 27)]) (rest := []) ⟨hx, hb, hml, hown, hts⟩ (k_X6_readInto l g 27 (show wx_H 27 from Or.inr (Or.inl rfl)) hT hro) (cwV 1 hts gX11_house_X6_readInto rfl rfl rfl (by decide +kernel) (by rw [hR]; exact ⟨Nat.le_of_ble_eq_true rfl, Nat.le_of_ble_eq_true rfl⟩)) ⟨wx_Pc.blind, wx_recv hK hX (by decide) sh_X6 rfl, (wx_Pc.pre hK hX).2⟩ rfl rfl hl.1 rfl (lv_room (Nat.le_of_ble_eq_true rfl)) dX11_house_8 (by rw [hR]; exact ⟨by show _ ≤ (4 : Nat); omega, by show _ ≤ (4 : Nat); omega⟩)) hS (fun f P H locs hX hS => ?_)
  obtain ⟨z_1, ez_1⟩ : ∃ z, z = f_X6_readInto g 27 := ⟨_, rfl⟩
  rw [← ez_1] at hX; rw [← ez_1]
  have br_2 : wx_b (z_1.1 27 0) 0 6 := by rw [ez_1]; exact ro_X6_readInto (show wx_H 27 from Or.inr (Or.inl rfl)) hT hro
  refine lv_istore_n (lv' := [(1, .int z_1.2), (0, .ref (ad 0))]) hx hb dX11_house_11 rfl hl (by decide) rfl (fun ls hl => ?_)
  refine lv_aload_n hx hb dX11_house_12 rfl (lv_at hl 1 rfl) ?_
  refine wx_getr (t := 18) (C := RX11) (T := TX11) (N := 8) (ci := 10) (j := 1) hx hb hts hi_X11 hown hK hX (by decide) sh_X11_1 rfl (by decide) (hts (.fieldLink RX11 18 "SeenAgain" "tape" "LSeenAgain$Tape;") (by decide +kernel)) (fun _ h9 => h9) dX11_house_13 ?_
  refine lv_iconst (v := 0) hx hb dX11_house_16 (by decide) ?_
  refine wx_puti (C := RX6) (T := TX6) (N := 8) (ci := 6) (j := 1) (ty := .int) hx hb hts hi_X6 tyX6 tyX6_ok nmX6 hown hK hX hS (by decide) sh_X6_1 rfl (by decide) (hts (.fieldLink RX11 95 "SeenAgain$Tape" "length" "I") (by decide +kernel)) (fun _ h9 => h9) rfl (by decide +kernel) rfl rfl dX11_house_17 (fun H locs hX hS => ?_)
  obtain ⟨g_3, eg_3, hX⟩ := wx_nm hX
  refine lv_iload_n hx hb dX11_house_20 rfl (lv_at hl 0 rfl) ?_
  refine lv_if_ne (tgt := 35) hx hb dX11_house_21 (by decide) (fun c_4 => ?_) (fun c_4 => ?_)
  · refine lv_aload_n hx hb dX11_house_35 rfl (lv_at hl 1 rfl) ?_
    refine wx_getr (t := 20) (C := RX11) (T := TX11) (N := 8) (ci := 10) (j := 2) hx hb hts hi_X11 hown hK hX (by decide) sh_X11_2 rfl (by decide) (hts (.fieldLink RX11 25 "SeenAgain" "house" "LSeenAgain$House;") (by decide +kernel)) (fun _ h9 => h9) dX11_house_36 ?_
    refine lv_aload_n hx hb dX11_house_39 rfl (lv_at hl 1 rfl) ?_
    refine wx_getr (t := 27) (C := RX11) (T := TX11) (N := 8) (ci := 10) (j := 3) hx hb hts hi_X11 hown hK hX (by decide) sh_X11_3 rfl (by decide) (hts (.fieldLink RX11 29 "SeenAgain" "draft" "LSeenAgain$House;") (by decide +kernel)) (fun _ h9 => h9) dX11_house_40 ?_
    refine wx_callxv (va_runV (As := [.ref (ad 27)]) (rest := []) ⟨hx, hb, hml, hown, hts⟩ (k_X3_becomes l g_3 20 27 (show wx_H 20 from Or.inl rfl) (show wx_H 27 from Or.inr (Or.inl rfl))) (cwV 1 hts gX11_house_X3_becomes rfl rfl rfl (by decide +kernel) (by rw [hR]; exact ⟨Nat.le_of_ble_eq_true rfl, Nat.le_of_ble_eq_true rfl⟩)) ⟨wx_Pc.blind, wx_recv hK hX (by decide) (sh_X3 (show wx_H 20 from Or.inl rfl)) rfl, (wx_Pc.pre hK hX).2⟩ rfl rfl hl.1 rfl (lv_room (Nat.le_of_ble_eq_true rfl)) dX11_house_43 (by rw [hR]; exact ⟨by show _ ≤ (4 : Nat); omega, by show _ ≤ (4 : Nat); omega⟩)) hS (fun f P H locs hX hS => ?_)
    obtain ⟨g_5, eg_5, hX⟩ := wx_nm hX
    refine lv_aload_n hx hb dX11_house_46 rfl (lv_at hl 1 rfl) ?_
    refine wx_getr (t := 49) (C := RX11) (T := TX11) (N := 8) (ci := 10) (j := 5) hx hb hts hi_X11 hown hK hX (by decide) sh_X11_5 rfl (by decide) (hts (.fieldLink RX11 39 "SeenAgain" "acts" "LSeenAgain$Acts;") (by decide +kernel)) (fun _ h9 => h9) dX11_house_47 ?_
    refine wx_callev (va_runV (As := []) (rest := []) ⟨hx, hb, hml, hown, hts⟩ (k_X0_forgetAll l g_5) (cwV 0 hts gX11_house_X0_forgetAll rfl rfl rfl (by decide +kernel) (by rw [hR]; exact ⟨Nat.le_of_ble_eq_true rfl, Nat.le_of_ble_eq_true rfl⟩)) ⟨wx_Pc.blind, wx_recv hK hX (by decide) sh_X0 rfl, (wx_Pc.pre hK hX).2⟩ rfl rfl hl.1 rfl (lv_room (Nat.le_of_ble_eq_true rfl)) dX11_house_50 (by rw [hR]; exact ⟨by show _ ≤ (4 : Nat); omega, by show _ ≤ (4 : Nat); omega⟩)) hS (fun H locs hX hS => ?_)
    obtain ⟨g_6, eg_6, hX⟩ := wx_nm hX
    refine lv_aload_n hx hb dX11_house_53 rfl (lv_at hl 1 rfl) ?_
    refine wx_getr (t := 20) (C := RX11) (T := TX11) (N := 8) (ci := 10) (j := 2) hx hb hts hi_X11 hown hK hX (by decide) sh_X11_2 rfl (by decide) (hts (.fieldLink RX11 25 "SeenAgain" "house" "LSeenAgain$House;") (by decide +kernel)) (fun _ h9 => h9) dX11_house_54 ?_
    refine wx_geti (C := RX3) (T := TX3) (N := 15) (ci := 3) (j := 0) hx hb hts hi_X3 hown hK hX (by decide) (sh_X3_0 (show wx_H 20 from Or.inl rfl)) rfl (by decide) (hts (.fieldLink RX11 117 "SeenAgain$House" "rooms" "I") (by decide +kernel)) (fun _ h9 => h9) dX11_house_57 ?_
    refine lv_topi (fun x_7 ex_7 => ?_)
    exact hret _ _ _ _ _ _ _ _ _ _ (by omega) (by omega) dX11_house_60 rfl hX hS (by subst ex_7 eg_6 eg_5 eg_3 ez_1; simp only [f_X11_house, if_neg c_4])
  · have b_8 : wx_b z_1.2 0 0 := by rw [c_4]; exact ⟨by decide, by decide⟩
    refine lv_ldc hx hb hown (hts (.constant RX11 106 (-1000100)) (by decide +kernel)) dX11_house_24 ?_
    refine lv_aload_n hx hb dX11_house_26 rfl (lv_at hl 1 rfl) ?_
    refine wx_getr (t := 18) (C := RX11) (T := TX11) (N := 8) (ci := 10) (j := 1) hx hb hts hi_X11 hown hK hX (by decide) sh_X11_1 rfl (by decide) (hts (.fieldLink RX11 18 "SeenAgain" "tape" "LSeenAgain$Tape;") (by decide +kernel)) (fun _ h9 => h9) dX11_house_27 ?_
    refine wx_geti (C := RX6) (T := TX6) (N := 8) (ci := 6) (j := 3) hx hb hts hi_X6 hown hK hX (by decide) sh_X6_3 rfl (by decide) (hts (.fieldLink RX11 107 "SeenAgain$Tape" "faultPlace" "I") (by decide +kernel)) (fun _ h9 => h9) dX11_house_30 ?_
    refine lv_isub hx hb dX11_house_33 ?_
    refine lv_topi (fun x_9 ex_9 => ?_)
    exact hret _ _ _ _ _ _ _ _ _ _ (by omega) (by omega) dX11_house_34 rfl hX hS (by subst ex_9 eg_3 ez_1; simp only [f_X11_house, if_pos c_4])
