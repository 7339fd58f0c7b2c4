/-! the reading once more: what it wants of the place in the tape, weaker -/
set_option maxHeartbeats 4000000 in
set_option maxRecDepth 100000 in
theorem k2_X12_isRead (l : Launch) {D : va_G} {cy : Nat → ClassId} {ad : Nat → Nat} {B0 : Nat} {f : wx_F} {P : va_W} (g : wx_M) (hpr : wx_PQ g) : Met l yX12_isRead wsX12_isRead ({ frames := 4, cells := 0, slots := 0, locals := 86 } : Room) (wx_Pc D cy ad B0 f P g [.ref (ad 57)]) (wx_Qe D cy ad B0 f P (f_X12_isRead g).1 (some (.int (f_X12_isRead g).2))) 0 0 (fun q => B0 ≤ q) := by
  refine wx_enterE (cc := cX12_isRead) (maxL := 3) (ty := .boolean) (own := RX12) (lv := [(0, .ref (ad 57))]) (by decide) rfl rfl (Nat.le_of_ble_eq_true rfl) rfl ?_
  intro p e R s m args below meth c ls Qm hx hb hml hown hts hK hX hS hR hret hl
  have hi_X12 : ∀ w ∈ wsX120, w ∈ wsX12_isRead := by decide +kernel
  refine lv_aload_n hx hb dX12_isRead_0 rfl (lv_at hl 0 rfl) ?_
  refine lv_iconst (v := 0) hx hb dX12_isRead_1 (by decide) ?_
  refine wx_puti (C := RX12) (T := TX12) (N := 27) (ci := 11) (j := 6) (ty := .int) hx hb hts hi_X12 tyX12 tyX12_ok nmX12 hown hK hX hS (by decide) sh_X12_6 rfl (by decide) (hts (.fieldLink RX12 75 "SeenAgainModel" "position" "I") (by decide +kernel)) (fun _ h9 => h9) rfl (by decide +kernel) rfl rfl dX12_isRead_2 (fun H locs hX hS => ?_)
  obtain ⟨g_1, eg_1, hX⟩ := wx_nm hX
  refine lv_aload_n hx hb dX12_isRead_5 rfl (lv_at hl 0 rfl) ?_
  refine lv_iconst (v := 0) hx hb dX12_isRead_6 (by decide) ?_
  refine wx_puti (C := RX12) (T := TX12) (N := 27) (ci := 11) (j := 14) (ty := .int) hx hb hts hi_X12 tyX12 tyX12_ok nmX12 hown hK hX hS (by decide) sh_X12_14 rfl (by decide) (hts (.fieldLink RX12 112 "SeenAgainModel" "readWalls" "I") (by decide +kernel)) (fun _ h9 => h9) rfl (by decide +kernel) rfl rfl dX12_isRead_7 (fun H locs hX hS => ?_)
  obtain ⟨g_2, eg_2, hX⟩ := wx_nm hX
  refine lv_aload_n hx hb dX12_isRead_10 rfl (lv_at hl 0 rfl) ?_
  refine lv_iconst (v := 0) hx hb dX12_isRead_11 (by decide) ?_
  refine wx_puti (C := RX12) (T := TX12) (N := 27) (ci := 11) (j := 16) (ty := .int) hx hb hts hi_X12 tyX12 tyX12_ok nmX12 hown hK hX hS (by decide) sh_X12_16 rfl (by decide) (hts (.fieldLink RX12 115 "SeenAgainModel" "readPeople" "I") (by decide +kernel)) (fun _ h9 => h9) rfl (by decide +kernel) rfl rfl dX12_isRead_12 (fun H locs hX hS => ?_)
  obtain ⟨g_3, eg_3, hX⟩ := wx_nm hX
  refine lv_aload_n hx hb dX12_isRead_15 rfl (lv_at hl 0 rfl) ?_
  refine lv_iconst (v := 0) hx hb dX12_isRead_16 (by decide) ?_
  refine wx_puti (C := RX12) (T := TX12) (N := 27) (ci := 11) (j := 18) (ty := .int) hx hb hts hi_X12 tyX12 tyX12_ok nmX12 hown hK hX hS (by decide) sh_X12_18 rfl (by decide) (hts (.fieldLink RX12 118 "SeenAgainModel" "readVisitors" "I") (by decide +kernel)) (fun _ h9 => h9) rfl (by decide +kernel) rfl rfl dX12_isRead_17 (fun H locs hX hS => ?_)
  obtain ⟨g_4, eg_4, hX⟩ := wx_nm hX
  refine lv_aload_n hx hb dX12_isRead_20 rfl (lv_at hl 0 rfl) ?_
  refine wx_callei (va_runV (As := []) (rest := []) ⟨hx, hb, hml, hown, hts⟩ (k_X12_isLaw l g_4 (by rw [eg_4]; exact pr_18 (wb_w (show wx_b 0 0 0 from ⟨by decide, by decide⟩) (by decide) (by decide)) (by rw [eg_3]; exact pr_16 (wb_w (show wx_b 0 0 0 from ⟨by decide, by decide⟩) (by decide) (by decide)) (by rw [eg_2]; exact pr_14 (wb_w (show wx_b 0 0 0 from ⟨by decide, by decide⟩) (by decide) (by decide)) (by rw [eg_1]; exact pq_p0 hpr))))) (cwV 0 hts gX12_isRead_X12_isLaw rfl rfl rfl (by decide +kernel) (by rw [hR]; exact ⟨Nat.le_of_ble_eq_true rfl, Nat.le_of_ble_eq_true rfl⟩)) ⟨wx_Pc.blind, wx_recv hK hX (by decide) sh_X12 rfl, (wx_Pc.pre hK hX).2⟩ rfl rfl hl.1 rfl (lv_room (Nat.le_of_ble_eq_true rfl)) dX12_isRead_21 ⟨Nat.zero_le _, Nat.zero_le _⟩) hS (fun H locs hX hS => ?_)
  obtain ⟨z_5, ez_5⟩ : ∃ z, z = f_X12_isLaw g_4 := ⟨_, rfl⟩
  rw [← ez_5] at hX; rw [← ez_5]
  refine lv_istore_n (lv' := [(1, .int z_5.2), (0, .ref (ad 57))]) hx hb dX12_isRead_24 rfl hl (by decide) rfl (fun ls hl => ?_)
  have lp_25 : ∀ (n t_25 : Nat) (s_25 : wx_M × Int32) (ls : Array Slot) (H : Heap) (locs : List Loc), t_25 < 142 → 142 ≤ t_25 + n → repX t_25 (b_X12_isRead_25 g g_1 g_2 g_3 g_4 z_5) (z_5.1, z_5.2) = .inl s_25 → wx_X D cy ad B0 f P s_25.1 H → va_S (fun q => B0 ≤ q) s.heap H locs → (t_25 ≤ (s_25.1 57 6).toNatClampNeg ∧ wx_PR s_25.1) → lv_has ls 3 [(1, .int s_25.2), (0, .ref (ad 57))] → W p l e R s m args below meth c H locs 0 0 Qm (F0 m 25 ls []) := by
    intro n
    induction n with
    | zero => intro t_25 s_25 ls H locs h1 h2; exact absurd h2 (by omega)
    | succ n ih_25 =>
      intro t_25 s_25 ls H locs hlt_25 hn_25 es_25 hX hS hW_25 hl
      refine lv_iload_n hx hb dX12_isRead_25 rfl (lv_at hl 0 rfl) ?_
      refine lv_if_eq (tgt := 187) hx hb dX12_isRead_26 (by decide) (fun c_6 => ?_) (fun c_6 => ?_)
      · have b_7 : wx_b s_25.2 0 0 := by rw [c_6]; exact ⟨by decide, by decide⟩
        refine lv_iconst (v := 0) hx hb dX12_isRead_187 (by decide) ?_
        have hF_8 : (b_X12_isRead_25 g g_1 g_2 g_3 g_4 z_5) t_25 s_25 = .inr ((s_25.1, 0)) := (by simp only [b_X12_isRead_25, if_pos c_6])
        have hO_9 : repX 142 (b_X12_isRead_25 g g_1 g_2 g_3 g_4 z_5) (z_5.1, z_5.2) = .inr ((s_25.1, 0)) := repX_out es_25 hF_8 hlt_25
        exact hret _ _ _ _ _ _ dX12_isRead_188 rfl hX hS (by subst ez_5 eg_4 eg_3 eg_2 eg_1; show (match (_ : (wx_M × Int32) ⊕ (wx_M × Int32)) with | .inl _ => _ | .inr r9 => r9) = _; rw [hO_9])
      · refine lv_aload_n hx hb dX12_isRead_29 rfl (lv_at hl 1 rfl) ?_
        refine wx_callev (va_runV (As := []) (rest := []) ⟨hx, hb, hml, hown, hts⟩ (k_X12_nextToken l s_25.1 hW_25.2) (cwV 0 hts gX12_isRead_X12_nextToken rfl rfl rfl (by decide +kernel) (by rw [hR]; exact ⟨Nat.le_of_ble_eq_true rfl, Nat.le_of_ble_eq_true rfl⟩)) ⟨wx_Pc.blind, wx_recv hK hX (by decide) sh_X12 rfl, (wx_Pc.pre hK hX).2⟩ rfl rfl hl.1 rfl (lv_room (Nat.le_of_ble_eq_true rfl)) dX12_isRead_30 ⟨Nat.zero_le _, Nat.zero_le _⟩) hS (fun H locs hX hS => ?_)
        obtain ⟨g_10, eg_10, hX⟩ := wx_nm hX
        refine lv_aload_n hx hb dX12_isRead_33 rfl (lv_at hl 1 rfl) ?_
        refine wx_geti (C := RX12) (T := TX12) (N := 27) (ci := 11) (j := 8) hx hb hts hi_X12 hown hK hX (by decide) sh_X12_8 rfl (by decide) (hts (.fieldLink RX12 84 "SeenAgainModel" "token" "I") (by decide +kernel)) (fun _ h9 => h9) dX12_isRead_34 ?_
        refine lv_bipush (v := 116) hx hb dX12_isRead_37 (by decide) ?_
        refine lv_icmp_ne (tgt := 46) hx hb dX12_isRead_39 (by decide) (fun c_11 => ?_) (fun c_11 => ?_)
        · refine lv_aload_n hx hb dX12_isRead_46 rfl (lv_at hl 1 rfl) ?_
          refine wx_geti (C := RX12) (T := TX12) (N := 27) (ci := 11) (j := 8) hx hb hts hi_X12 hown hK hX (by decide) sh_X12_8 rfl (by decide) (hts (.fieldLink RX12 84 "SeenAgainModel" "token" "I") (by decide +kernel)) (fun _ h9 => h9) dX12_isRead_47 ?_
          refine lv_bipush (v := 108) hx hb dX12_isRead_50 (by decide) ?_
          refine lv_icmp_ne (tgt := 59) hx hb dX12_isRead_52 (by decide) (fun c_12 => ?_) (fun c_12 => ?_)
          · refine lv_aload_n hx hb dX12_isRead_59 rfl (lv_at hl 1 rfl) ?_
            refine wx_geti (C := RX12) (T := TX12) (N := 27) (ci := 11) (j := 8) hx hb hts hi_X12 hown hK hX (by decide) sh_X12_8 rfl (by decide) (hts (.fieldLink RX12 84 "SeenAgainModel" "token" "I") (by decide +kernel)) (fun _ h9 => h9) dX12_isRead_60 ?_
            refine lv_bipush (v := 100) hx hb dX12_isRead_63 (by decide) ?_
            refine lv_icmp_ne (tgt := 72) hx hb dX12_isRead_65 (by decide) (fun c_13 => ?_) (fun c_13 => ?_)
            · refine lv_aload_n hx hb dX12_isRead_72 rfl (lv_at hl 1 rfl) ?_
              refine wx_geti (C := RX12) (T := TX12) (N := 27) (ci := 11) (j := 8) hx hb hts hi_X12 hown hK hX (by decide) sh_X12_8 rfl (by decide) (hts (.fieldLink RX12 84 "SeenAgainModel" "token" "I") (by decide +kernel)) (fun _ h9 => h9) dX12_isRead_73 ?_
              refine lv_bipush (v := 119) hx hb dX12_isRead_76 (by decide) ?_
              refine lv_icmp_ne (tgt := 85) hx hb dX12_isRead_78 (by decide) (fun c_14 => ?_) (fun c_14 => ?_)
              · refine lv_aload_n hx hb dX12_isRead_85 rfl (lv_at hl 1 rfl) ?_
                refine wx_geti (C := RX12) (T := TX12) (N := 27) (ci := 11) (j := 8) hx hb hts hi_X12 hown hK hX (by decide) sh_X12_8 rfl (by decide) (hts (.fieldLink RX12 84 "SeenAgainModel" "token" "I") (by decide +kernel)) (fun _ h9 => h9) dX12_isRead_86 ?_
                refine lv_bipush (v := 97) hx hb dX12_isRead_89 (by decide) ?_
                refine lv_icmp_ne (tgt := 98) hx hb dX12_isRead_91 (by decide) (fun c_15 => ?_) (fun c_15 => ?_)
                · refine lv_iconst (v := 0) hx hb dX12_isRead_98 (by decide) ?_
                  refine lv_istore_n (lv' := [(2, .int 0), (1, .int s_25.2), (0, .ref (ad 57))]) hx hb dX12_isRead_99 rfl hl (by decide) rfl (fun ls hl => ?_)
                  refine lv_aload_n hx hb dX12_isRead_100 rfl (lv_at hl 2 rfl) ?_
                  refine wx_geti (C := RX12) (T := TX12) (N := 27) (ci := 11) (j := 8) hx hb hts hi_X12 hown hK hX (by decide) sh_X12_8 rfl (by decide) (hts (.fieldLink RX12 84 "SeenAgainModel" "token" "I") (by decide +kernel)) (fun _ h9 => h9) dX12_isRead_101 ?_
                  refine lv_bipush (v := (-2)) hx hb dX12_isRead_104 (by decide) ?_
                  refine lv_icmp_ne (tgt := 111) hx hb dX12_isRead_106 (by decide) (fun c_16 => ?_) (fun c_16 => ?_)
                  · refine lv_aload_n hx hb dX12_isRead_111 rfl (lv_at hl 2 rfl) ?_
                    refine wx_geti (C := RX12) (T := TX12) (N := 27) (ci := 11) (j := 8) hx hb hts hi_X12 hown hK hX (by decide) sh_X12_8 rfl (by decide) (hts (.fieldLink RX12 84 "SeenAgainModel" "token" "I") (by decide +kernel)) (fun _ h9 => h9) dX12_isRead_112 ?_
                    refine lv_bipush (v := 103) hx hb dX12_isRead_115 (by decide) ?_
                    refine lv_icmp_ne (tgt := 142) hx hb dX12_isRead_117 (by decide) (fun c_17 => ?_) (fun c_17 => ?_)
                    · refine lv_aload_n hx hb dX12_isRead_142 rfl (lv_at hl 2 rfl) ?_
                      refine wx_geti (C := RX12) (T := TX12) (N := 27) (ci := 11) (j := 8) hx hb hts hi_X12 hown hK hX (by decide) sh_X12_8 rfl (by decide) (hts (.fieldLink RX12 84 "SeenAgainModel" "token" "I") (by decide +kernel)) (fun _ h9 => h9) dX12_isRead_143 ?_
                      refine lv_bipush (v := 114) hx hb dX12_isRead_146 (by decide) ?_
                      refine lv_icmp_ne (tgt := 166) hx hb dX12_isRead_148 (by decide) (fun c_18 => ?_) (fun c_18 => ?_)
                      · refine lv_iload_n hx hb dX12_isRead_166 rfl (lv_at hl 0 rfl) ?_
                        refine lv_if_le (tgt := 178) hx hb dX12_isRead_167 (by decide) (fun _ => ?_) (fun c9 => absurd c9 (by decide))
                        refine lv_aload_n hx hb dX12_isRead_178 rfl (lv_at hl 2 rfl) ?_
                        refine lv_iconst (v := 1) hx hb dX12_isRead_179 (by decide) ?_
                        refine wx_callei (va_runV (As := [.int 1]) (rest := []) ⟨hx, hb, hml, hown, hts⟩ (k_X12_fails l g_10 1 (by rw [eg_10]; exact pr_X12_nextToken hW_25.2)) (cwV 1 hts gX12_isRead_X12_fails rfl rfl rfl (by decide +kernel) (by rw [hR]; exact ⟨Nat.le_of_ble_eq_true rfl, Nat.le_of_ble_eq_true rfl⟩)) ⟨wx_Pc.blind, wx_recv hK hX (by decide) sh_X12 rfl, (wx_Pc.pre hK hX).2⟩ rfl rfl hl.1 rfl (lv_room (Nat.le_of_ble_eq_true rfl)) dX12_isRead_180 ⟨Nat.zero_le _, Nat.zero_le _⟩) hS (fun H locs hX hS => ?_)
                        obtain ⟨z_19, ez_19⟩ : ∃ z, z = f_X12_fails g_10 1 := ⟨_, rfl⟩
                        rw [← ez_19] at hX; rw [← ez_19]
                        refine lv_istore_n (lv' := [(1, .int z_19.2), (2, .int 0), (0, .ref (ad 57))]) hx hb dX12_isRead_183 rfl hl (by decide) rfl (fun ls hl => ?_)
                        refine lv_goto (tgt := 25) hx hb dX12_isRead_184 (by decide) ?_
                        have hF_20 : (b_X12_isRead_25 g g_1 g_2 g_3 g_4 z_5) t_25 s_25 = .inl (z_19.1, z_19.2) := (by subst ez_19 eg_10; simp only [b_X12_isRead_25, if_neg c_6, if_neg c_11, if_neg c_12, if_neg c_13, if_neg c_14, if_neg c_15, if_neg c_16, if_neg c_17, if_neg c_18])
                        have hst_25 : t_25 + 1 < 142 := (by have h9 : t_25 + 1 ≤ (z_19.1 57 6).toNatClampNeg := (Nat.le_trans (by have h9 := ps_X12_nextToken hW_25.2 (by rw [← eg_10]; exact c_16); rw [← eg_10] at h9; have h7 := hW_25.1; omega) (Nat.le_trans (Nat.le_refl _) (show (g_10 57 6).toNatClampNeg ≤ (z_19.1 57 6).toNatClampNeg from by rw [ez_19]; exact pg_X12_fails (by rw [eg_10]; exact pr_X12_nextToken hW_25.2)))); have h8 := wb_cl (n := 140) (show wx_PR z_19.1 from (by rw [ez_19]; exact pr_X12_fails (by rw [eg_10]; exact pr_X12_nextToken hW_25.2))).1.2.1 (by decide); omega)
                        exact ih_25 (t_25 + 1) (z_19.1, z_19.2) ls H locs hst_25 (by omega) ((repX_go es_25).trans hF_20) hX hS ⟨(Nat.le_trans (by have h9 := ps_X12_nextToken hW_25.2 (by rw [← eg_10]; exact c_16); rw [← eg_10] at h9; have h7 := hW_25.1; omega) (Nat.le_trans (Nat.le_refl _) (show (g_10 57 6).toNatClampNeg ≤ (z_19.1 57 6).toNatClampNeg from by rw [ez_19]; exact pg_X12_fails (by rw [eg_10]; exact pr_X12_nextToken hW_25.2)))), (by rw [ez_19]; exact pr_X12_fails (by rw [eg_10]; exact pr_X12_nextToken hW_25.2))⟩ (lv_sub hl [0, 2] rfl)
                      · have b_21 : wx_b (g_10 57 8) 114 114 := by rw [c_18]; exact ⟨by decide, by decide⟩
                        refine lv_aload_n hx hb dX12_isRead_151 rfl (lv_at hl 2 rfl) ?_
                        refine wx_geti (C := RX12) (T := TX12) (N := 27) (ci := 11) (j := 18) hx hb hts hi_X12 hown hK hX (by decide) sh_X12_18 rfl (by decide) (hts (.fieldLink RX12 118 "SeenAgainModel" "readVisitors" "I") (by decide +kernel)) (fun _ h9 => h9) dX12_isRead_152 ?_
                        refine lv_if_ne (tgt := 166) hx hb dX12_isRead_155 (by decide) (fun c_22 => ?_) (fun c_22 => ?_)
                        · have b_23 : wx_b (g_10 57 18) 1 4 := wb_nel c_22 (show wx_b (g_10 57 18) 0 4 by rw [show (g_10 57 18) = (s_25.1 57 18) from (by rw [eg_10, fj_X12_nextToken (by decide) (by decide) (by decide) (by decide) (by decide)])]; exact (show wx_PR s_25.1 from hW_25.2).2.2.2.2.1) (by decide)
                          refine lv_iload_n hx hb dX12_isRead_166 rfl (lv_at hl 0 rfl) ?_
                          refine lv_if_le (tgt := 178) hx hb dX12_isRead_167 (by decide) (fun _ => ?_) (fun c9 => absurd c9 (by decide))
                          refine lv_aload_n hx hb dX12_isRead_178 rfl (lv_at hl 2 rfl) ?_
                          refine lv_iconst (v := 1) hx hb dX12_isRead_179 (by decide) ?_
                          refine wx_callei (va_runV (As := [.int 1]) (rest := []) ⟨hx, hb, hml, hown, hts⟩ (k_X12_fails l g_10 1 (by rw [eg_10]; exact pr_X12_nextToken hW_25.2)) (cwV 1 hts gX12_isRead_X12_fails rfl rfl rfl (by decide +kernel) (by rw [hR]; exact ⟨Nat.le_of_ble_eq_true rfl, Nat.le_of_ble_eq_true rfl⟩)) ⟨wx_Pc.blind, wx_recv hK hX (by decide) sh_X12 rfl, (wx_Pc.pre hK hX).2⟩ rfl rfl hl.1 rfl (lv_room (Nat.le_of_ble_eq_true rfl)) dX12_isRead_180 ⟨Nat.zero_le _, Nat.zero_le _⟩) hS (fun H locs hX hS => ?_)
                          obtain ⟨z_24, ez_24⟩ : ∃ z, z = f_X12_fails g_10 1 := ⟨_, rfl⟩
                          rw [← ez_24] at hX; rw [← ez_24]
                          refine lv_istore_n (lv' := [(1, .int z_24.2), (2, .int 0), (0, .ref (ad 57))]) hx hb dX12_isRead_183 rfl hl (by decide) rfl (fun ls hl => ?_)
                          refine lv_goto (tgt := 25) hx hb dX12_isRead_184 (by decide) ?_
                          have hF_25 : (b_X12_isRead_25 g g_1 g_2 g_3 g_4 z_5) t_25 s_25 = .inl (z_24.1, z_24.2) := (by subst ez_24 eg_10; simp only [b_X12_isRead_25, if_neg c_6, if_neg c_11, if_neg c_12, if_neg c_13, if_neg c_14, if_neg c_15, if_neg c_16, if_neg c_17, if_pos c_18, if_neg c_22])
                          have hst_25 : t_25 + 1 < 142 := (by have h9 : t_25 + 1 ≤ (z_24.1 57 6).toNatClampNeg := (Nat.le_trans (by have h9 := ps_X12_nextToken hW_25.2 (by rw [← eg_10]; exact c_16); rw [← eg_10] at h9; have h7 := hW_25.1; omega) (Nat.le_trans (Nat.le_refl _) (show (g_10 57 6).toNatClampNeg ≤ (z_24.1 57 6).toNatClampNeg from by rw [ez_24]; exact pg_X12_fails (by rw [eg_10]; exact pr_X12_nextToken hW_25.2)))); have h8 := wb_cl (n := 140) (show wx_PR z_24.1 from (by rw [ez_24]; exact pr_X12_fails (by rw [eg_10]; exact pr_X12_nextToken hW_25.2))).1.2.1 (by decide); omega)
                          exact ih_25 (t_25 + 1) (z_24.1, z_24.2) ls H locs hst_25 (by omega) ((repX_go es_25).trans hF_25) hX hS ⟨(Nat.le_trans (by have h9 := ps_X12_nextToken hW_25.2 (by rw [← eg_10]; exact c_16); rw [← eg_10] at h9; have h7 := hW_25.1; omega) (Nat.le_trans (Nat.le_refl _) (show (g_10 57 6).toNatClampNeg ≤ (z_24.1 57 6).toNatClampNeg from by rw [ez_24]; exact pg_X12_fails (by rw [eg_10]; exact pr_X12_nextToken hW_25.2)))), (by rw [ez_24]; exact pr_X12_fails (by rw [eg_10]; exact pr_X12_nextToken hW_25.2))⟩ (lv_sub hl [0, 2] rfl)
                        · have b_26 : wx_b (g_10 57 18) 0 0 := by rw [c_22]; exact ⟨by decide, by decide⟩
                          refine lv_aload_n hx hb dX12_isRead_158 rfl (lv_at hl 2 rfl) ?_
                          refine wx_callei (va_runV (As := []) (rest := []) ⟨hx, hb, hml, hown, hts⟩ (k_X12_isPerson l g_10 (by rw [eg_10]; exact pr_X12_nextToken hW_25.2)) (cwV 0 hts gX12_isRead_X12_isPerson rfl rfl rfl (by decide +kernel) (by rw [hR]; exact ⟨Nat.le_of_ble_eq_true rfl, Nat.le_of_ble_eq_true rfl⟩)) ⟨wx_Pc.blind, wx_recv hK hX (by decide) sh_X12 rfl, (wx_Pc.pre hK hX).2⟩ rfl rfl hl.1 rfl (lv_room (Nat.le_of_ble_eq_true rfl)) dX12_isRead_159 ⟨Nat.zero_le _, Nat.zero_le _⟩) hS (fun H locs hX hS => ?_)
                          obtain ⟨z_27, ez_27⟩ : ∃ z, z = f_X12_isPerson g_10 := ⟨_, rfl⟩
                          rw [← ez_27] at hX; rw [← ez_27]
                          refine lv_istore_n (lv' := [(1, .int z_27.2), (2, .int 0), (0, .ref (ad 57))]) hx hb dX12_isRead_162 rfl hl (by decide) rfl (fun ls hl => ?_)
                          refine lv_goto (tgt := 184) hx hb dX12_isRead_163 (by decide) ?_
                          refine lv_goto (tgt := 25) hx hb dX12_isRead_184 (by decide) ?_
                          have hF_28 : (b_X12_isRead_25 g g_1 g_2 g_3 g_4 z_5) t_25 s_25 = .inl (z_27.1, z_27.2) := (by subst ez_27 eg_10; simp only [b_X12_isRead_25, if_neg c_6, if_neg c_11, if_neg c_12, if_neg c_13, if_neg c_14, if_neg c_15, if_neg c_16, if_neg c_17, if_pos c_18, if_pos c_22])
                          have hst_25 : t_25 + 1 < 142 := (by have h9 : t_25 + 1 ≤ (z_27.1 57 6).toNatClampNeg := (Nat.le_trans (by have h9 := ps_X12_nextToken hW_25.2 (by rw [← eg_10]; exact c_16); rw [← eg_10] at h9; have h7 := hW_25.1; omega) (Nat.le_trans (Nat.le_refl _) (show (g_10 57 6).toNatClampNeg ≤ (z_27.1 57 6).toNatClampNeg from by rw [ez_27]; exact pg_X12_isPerson (by rw [eg_10]; exact pr_X12_nextToken hW_25.2)))); have h8 := wb_cl (n := 140) (show wx_PR z_27.1 from (by rw [ez_27]; exact pr_X12_isPerson (by rw [eg_10]; exact pr_X12_nextToken hW_25.2))).1.2.1 (by decide); omega)
                          exact ih_25 (t_25 + 1) (z_27.1, z_27.2) ls H locs hst_25 (by omega) ((repX_go es_25).trans hF_28) hX hS ⟨(Nat.le_trans (by have h9 := ps_X12_nextToken hW_25.2 (by rw [← eg_10]; exact c_16); rw [← eg_10] at h9; have h7 := hW_25.1; omega) (Nat.le_trans (Nat.le_refl _) (show (g_10 57 6).toNatClampNeg ≤ (z_27.1 57 6).toNatClampNeg from by rw [ez_27]; exact pg_X12_isPerson (by rw [eg_10]; exact pr_X12_nextToken hW_25.2)))), (by rw [ez_27]; exact pr_X12_isPerson (by rw [eg_10]; exact pr_X12_nextToken hW_25.2))⟩ (lv_sub hl [0, 2] rfl)
                    · have b_29 : wx_b (g_10 57 8) 103 103 := by rw [c_17]; exact ⟨by decide, by decide⟩
                      refine lv_aload_n hx hb dX12_isRead_120 rfl (lv_at hl 2 rfl) ?_
                      refine wx_geti (C := RX12) (T := TX12) (N := 27) (ci := 11) (j := 16) hx hb hts hi_X12 hown hK hX (by decide) sh_X12_16 rfl (by decide) (hts (.fieldLink RX12 115 "SeenAgainModel" "readPeople" "I") (by decide +kernel)) (fun _ h9 => h9) dX12_isRead_121 ?_
                      refine lv_if_ne (tgt := 142) hx hb dX12_isRead_124 (by decide) (fun c_30 => ?_) (fun c_30 => ?_)
                      · have b_31 : wx_b (g_10 57 16) 1 4 := wb_nel c_30 (show wx_b (g_10 57 16) 0 4 by rw [show (g_10 57 16) = (s_25.1 57 16) from (by rw [eg_10, fj_X12_nextToken (by decide) (by decide) (by decide) (by decide) (by decide)])]; exact (show wx_PR s_25.1 from hW_25.2).2.2.2.1) (by decide)
                        refine lv_aload_n hx hb dX12_isRead_142 rfl (lv_at hl 2 rfl) ?_
                        refine wx_geti (C := RX12) (T := TX12) (N := 27) (ci := 11) (j := 8) hx hb hts hi_X12 hown hK hX (by decide) sh_X12_8 rfl (by decide) (hts (.fieldLink RX12 84 "SeenAgainModel" "token" "I") (by decide +kernel)) (fun _ h9 => h9) dX12_isRead_143 ?_
                        refine lv_bipush (v := 114) hx hb dX12_isRead_146 (by decide) ?_
                        refine lv_icmp_ne (tgt := 166) hx hb dX12_isRead_148 (by decide) (fun _ => ?_) (fun c9 => absurd c9 (wb_neq b_29 (show wx_b 114 114 114 from ⟨by decide, by decide⟩) (by decide)))
                        refine lv_iload_n hx hb dX12_isRead_166 rfl (lv_at hl 0 rfl) ?_
                        refine lv_if_le (tgt := 178) hx hb dX12_isRead_167 (by decide) (fun _ => ?_) (fun c9 => absurd c9 (by decide))
                        refine lv_aload_n hx hb dX12_isRead_178 rfl (lv_at hl 2 rfl) ?_
                        refine lv_iconst (v := 1) hx hb dX12_isRead_179 (by decide) ?_
                        refine wx_callei (va_runV (As := [.int 1]) (rest := []) ⟨hx, hb, hml, hown, hts⟩ (k_X12_fails l g_10 1 (by rw [eg_10]; exact pr_X12_nextToken hW_25.2)) (cwV 1 hts gX12_isRead_X12_fails rfl rfl rfl (by decide +kernel) (by rw [hR]; exact ⟨Nat.le_of_ble_eq_true rfl, Nat.le_of_ble_eq_true rfl⟩)) ⟨wx_Pc.blind, wx_recv hK hX (by decide) sh_X12 rfl, (wx_Pc.pre hK hX).2⟩ rfl rfl hl.1 rfl (lv_room (Nat.le_of_ble_eq_true rfl)) dX12_isRead_180 ⟨Nat.zero_le _, Nat.zero_le _⟩) hS (fun H locs hX hS => ?_)
                        obtain ⟨z_32, ez_32⟩ : ∃ z, z = f_X12_fails g_10 1 := ⟨_, rfl⟩
                        rw [← ez_32] at hX; rw [← ez_32]
                        refine lv_istore_n (lv' := [(1, .int z_32.2), (2, .int 0), (0, .ref (ad 57))]) hx hb dX12_isRead_183 rfl hl (by decide) rfl (fun ls hl => ?_)
                        refine lv_goto (tgt := 25) hx hb dX12_isRead_184 (by decide) ?_
                        have hF_33 : (b_X12_isRead_25 g g_1 g_2 g_3 g_4 z_5) t_25 s_25 = .inl (z_32.1, z_32.2) := (by subst ez_32 eg_10; simp only [b_X12_isRead_25, if_neg c_6, if_neg c_11, if_neg c_12, if_neg c_13, if_neg c_14, if_neg c_15, if_neg c_16, if_pos c_17, if_neg c_30])
                        have hst_25 : t_25 + 1 < 142 := (by have h9 : t_25 + 1 ≤ (z_32.1 57 6).toNatClampNeg := (Nat.le_trans (by have h9 := ps_X12_nextToken hW_25.2 (by rw [← eg_10]; exact c_16); rw [← eg_10] at h9; have h7 := hW_25.1; omega) (Nat.le_trans (Nat.le_refl _) (show (g_10 57 6).toNatClampNeg ≤ (z_32.1 57 6).toNatClampNeg from by rw [ez_32]; exact pg_X12_fails (by rw [eg_10]; exact pr_X12_nextToken hW_25.2)))); have h8 := wb_cl (n := 140) (show wx_PR z_32.1 from (by rw [ez_32]; exact pr_X12_fails (by rw [eg_10]; exact pr_X12_nextToken hW_25.2))).1.2.1 (by decide); omega)
                        exact ih_25 (t_25 + 1) (z_32.1, z_32.2) ls H locs hst_25 (by omega) ((repX_go es_25).trans hF_33) hX hS ⟨(Nat.le_trans (by have h9 := ps_X12_nextToken hW_25.2 (by rw [← eg_10]; exact c_16); rw [← eg_10] at h9; have h7 := hW_25.1; omega) (Nat.le_trans (Nat.le_refl _) (show (g_10 57 6).toNatClampNeg ≤ (z_32.1 57 6).toNatClampNeg from by rw [ez_32]; exact pg_X12_fails (by rw [eg_10]; exact pr_X12_nextToken hW_25.2)))), (by rw [ez_32]; exact pr_X12_fails (by rw [eg_10]; exact pr_X12_nextToken hW_25.2))⟩ (lv_sub hl [0, 2] rfl)
                      · have b_34 : wx_b (g_10 57 16) 0 0 := by rw [c_30]; exact ⟨by decide, by decide⟩
                        refine lv_aload_n hx hb dX12_isRead_127 rfl (lv_at hl 2 rfl) ?_
                        refine wx_geti (C := RX12) (T := TX12) (N := 27) (ci := 11) (j := 18) hx hb hts hi_X12 hown hK hX (by decide) sh_X12_18 rfl (by decide) (hts (.fieldLink RX12 118 "SeenAgainModel" "readVisitors" "I") (by decide +kernel)) (fun _ h9 => h9) dX12_isRead_128 ?_
                        refine lv_if_ne (tgt := 142) hx hb dX12_isRead_131 (by decide) (fun c_35 => ?_) (fun c_35 => ?_)
                        · have b_36 : wx_b (g_10 57 18) 1 4 := wb_nel c_35 (show wx_b (g_10 57 18) 0 4 by rw [show (g_10 57 18) = (s_25.1 57 18) from (by rw [eg_10, fj_X12_nextToken (by decide) (by decide) (by decide) (by decide) (by decide)])]; exact (show wx_PR s_25.1 from hW_25.2).2.2.2.2.1) (by decide)
                          refine lv_aload_n hx hb dX12_isRead_142 rfl (lv_at hl 2 rfl) ?_
                          refine wx_geti (C := RX12) (T := TX12) (N := 27) (ci := 11) (j := 8) hx hb hts hi_X12 hown hK hX (by decide) sh_X12_8 rfl (by decide) (hts (.fieldLink RX12 84 "SeenAgainModel" "token" "I") (by decide +kernel)) (fun _ h9 => h9) dX12_isRead_143 ?_
                          refine lv_bipush (v := 114) hx hb dX12_isRead_146 (by decide) ?_
                          refine lv_icmp_ne (tgt := 166) hx hb dX12_isRead_148 (by decide) (fun _ => ?_) (fun c9 => absurd c9 (wb_neq b_29 (show wx_b 114 114 114 from ⟨by decide, by decide⟩) (by decide)))
                          refine lv_iload_n hx hb dX12_isRead_166 rfl (lv_at hl 0 rfl) ?_
                          refine lv_if_le (tgt := 178) hx hb dX12_isRead_167 (by decide) (fun _ => ?_) (fun c9 => absurd c9 (by decide))
                          refine lv_aload_n hx hb dX12_isRead_178 rfl (lv_at hl 2 rfl) ?_
                          refine lv_iconst (v := 1) hx hb dX12_isRead_179 (by decide) ?_
                          refine wx_callei (va_runV (As := [.int 1]) (rest := []) ⟨hx, hb, hml, hown, hts⟩ (k_X12_fails l g_10 1 (by rw [eg_10]; exact pr_X12_nextToken hW_25.2)) (cwV 1 hts gX12_isRead_X12_fails rfl rfl rfl (by decide +kernel) (by rw [hR]; exact ⟨Nat.le_of_ble_eq_true rfl, Nat.le_of_ble_eq_true rfl⟩)) ⟨wx_Pc.blind, wx_recv hK hX (by decide) sh_X12 rfl, (wx_Pc.pre hK hX).2⟩ rfl rfl hl.1 rfl (lv_room (Nat.le_of_ble_eq_true rfl)) dX12_isRead_180 ⟨Nat.zero_le _, Nat.zero_le _⟩) hS (fun H locs hX hS => ?_)
                          obtain ⟨z_37, ez_37⟩ : ∃ z, z = f_X12_fails g_10 1 := ⟨_, rfl⟩
                          rw [← ez_37] at hX; rw [← ez_37]
                          refine lv_istore_n (lv' := [(1, .int z_37.2), (2, .int 0), (0, .ref (ad 57))]) hx hb dX12_isRead_183 rfl hl (by decide) rfl (fun ls hl => ?_)
                          refine lv_goto (tgt := 25) hx hb dX12_isRead_184 (by decide) ?_
                          have hF_38 : (b_X12_isRead_25 g g_1 g_2 g_3 g_4 z_5) t_25 s_25 = .inl (z_37.1, z_37.2) := (by subst ez_37 eg_10; simp only [b_X12_isRead_25, if_neg c_6, if_neg c_11, if_neg c_12, if_neg c_13, if_neg c_14, if_neg c_15, if_neg c_16, if_pos c_17, if_pos c_30, if_neg c_35])
                          have hst_25 : t_25 + 1 < 142 := (by have h9 : t_25 + 1 ≤ (z_37.1 57 6).toNatClampNeg := (Nat.le_trans (by have h9 := ps_X12_nextToken hW_25.2 (by rw [← eg_10]; exact c_16); rw [← eg_10] at h9; have h7 := hW_25.1; omega) (Nat.le_trans (Nat.le_refl _) (show (g_10 57 6).toNatClampNeg ≤ (z_37.1 57 6).toNatClampNeg from by rw [ez_37]; exact pg_X12_fails (by rw [eg_10]; exact pr_X12_nextToken hW_25.2)))); have h8 := wb_cl (n := 140) (show wx_PR z_37.1 from (by rw [ez_37]; exact pr_X12_fails (by rw [eg_10]; exact pr_X12_nextToken hW_25.2))).1.2.1 (by decide); omega)
                          exact ih_25 (t_25 + 1) (z_37.1, z_37.2) ls H locs hst_25 (by omega) ((repX_go es_25).trans hF_38) hX hS ⟨(Nat.le_trans (by have h9 := ps_X12_nextToken hW_25.2 (by rw [← eg_10]; exact c_16); rw [← eg_10] at h9; have h7 := hW_25.1; omega) (Nat.le_trans (Nat.le_refl _) (show (g_10 57 6).toNatClampNeg ≤ (z_37.1 57 6).toNatClampNeg from by rw [ez_37]; exact pg_X12_fails (by rw [eg_10]; exact pr_X12_nextToken hW_25.2)))), (by rw [ez_37]; exact pr_X12_fails (by rw [eg_10]; exact pr_X12_nextToken hW_25.2))⟩ (lv_sub hl [0, 2] rfl)
                        · have b_39 : wx_b (g_10 57 18) 0 0 := by rw [c_35]; exact ⟨by decide, by decide⟩
                          refine lv_aload_n hx hb dX12_isRead_134 rfl (lv_at hl 2 rfl) ?_
                          refine wx_callei (va_runV (As := []) (rest := []) ⟨hx, hb, hml, hown, hts⟩ (k_X12_isWall l g_10 (by rw [eg_10]; exact pr_X12_nextToken hW_25.2)) (cwV 0 hts gX12_isRead_X12_isWall rfl rfl rfl (by decide +kernel) (by rw [hR]; exact ⟨Nat.le_of_ble_eq_true rfl, Nat.le_of_ble_eq_true rfl⟩)) ⟨wx_Pc.blind, wx_recv hK hX (by decide) sh_X12 rfl, (wx_Pc.pre hK hX).2⟩ rfl rfl hl.1 rfl (lv_room (Nat.le_of_ble_eq_true rfl)) dX12_isRead_135 ⟨Nat.zero_le _, Nat.zero_le _⟩) hS (fun H locs hX hS => ?_)
                          obtain ⟨z_40, ez_40⟩ : ∃ z, z = f_X12_isWall g_10 := ⟨_, rfl⟩
                          rw [← ez_40] at hX; rw [← ez_40]
                          refine lv_istore_n (lv' := [(1, .int z_40.2), (2, .int 0), (0, .ref (ad 57))]) hx hb dX12_isRead_138 rfl hl (by decide) rfl (fun ls hl => ?_)
                          refine lv_goto (tgt := 184) hx hb dX12_isRead_139 (by decide) ?_
                          refine lv_goto (tgt := 25) hx hb dX12_isRead_184 (by decide) ?_
                          have hF_41 : (b_X12_isRead_25 g g_1 g_2 g_3 g_4 z_5) t_25 s_25 = .inl (z_40.1, z_40.2) := (by subst ez_40 eg_10; simp only [b_X12_isRead_25, if_neg c_6, if_neg c_11, if_neg c_12, if_neg c_13, if_neg c_14, if_neg c_15, if_neg c_16, if_pos c_17, if_pos c_30, if_pos c_35])
                          have hst_25 : t_25 + 1 < 142 := (by have h9 : t_25 + 1 ≤ (z_40.1 57 6).toNatClampNeg := (Nat.le_trans (by have h9 := ps_X12_nextToken hW_25.2 (by rw [← eg_10]; exact c_16); rw [← eg_10] at h9; have h7 := hW_25.1; omega) (Nat.le_trans (Nat.le_refl _) (show (g_10 57 6).toNatClampNeg ≤ (z_40.1 57 6).toNatClampNeg from by rw [ez_40]; exact pg_X12_isWall (by rw [eg_10]; exact pr_X12_nextToken hW_25.2)))); have h8 := wb_cl (n := 140) (show wx_PR z_40.1 from (by rw [ez_40]; exact pr_X12_isWall (by rw [eg_10]; exact pr_X12_nextToken hW_25.2))).1.2.1 (by decide); omega)
                          exact ih_25 (t_25 + 1) (z_40.1, z_40.2) ls H locs hst_25 (by omega) ((repX_go es_25).trans hF_41) hX hS ⟨(Nat.le_trans (by have h9 := ps_X12_nextToken hW_25.2 (by rw [← eg_10]; exact c_16); rw [← eg_10] at h9; have h7 := hW_25.1; omega) (Nat.le_trans (Nat.le_refl _) (show (g_10 57 6).toNatClampNeg ≤ (z_40.1 57 6).toNatClampNeg from by rw [ez_40]; exact pg_X12_isWall (by rw [eg_10]; exact pr_X12_nextToken hW_25.2)))), (by rw [ez_40]; exact pr_X12_isWall (by rw [eg_10]; exact pr_X12_nextToken hW_25.2))⟩ (lv_sub hl [0, 2] rfl)
                  · have b_42 : wx_b (g_10 57 8) (-2) (-2) := by rw [c_16]; exact ⟨by decide, by decide⟩
                    refine lv_iconst (v := 1) hx hb dX12_isRead_109 (by decide) ?_
                    have hF_43 : (b_X12_isRead_25 g g_1 g_2 g_3 g_4 z_5) t_25 s_25 = .inr ((g_10, 1)) := (by subst eg_10; simp only [b_X12_isRead_25, if_neg c_6, if_neg c_11, if_neg c_12, if_neg c_13, if_neg c_14, if_neg c_15, if_pos c_16])
                    have hO_44 : repX 142 (b_X12_isRead_25 g g_1 g_2 g_3 g_4 z_5) (z_5.1, z_5.2) = .inr ((g_10, 1)) := repX_out es_25 hF_43 hlt_25
                    exact hret _ _ _ _ _ _ dX12_isRead_110 rfl hX hS (by subst ez_5 eg_4 eg_3 eg_2 eg_1; show (match (_ : (wx_M × Int32) ⊕ (wx_M × Int32)) with | .inl _ => _ | .inr r9 => r9) = _; rw [hO_44])
                · have b_45 : wx_b (g_10 57 8) 97 97 := by rw [c_15]; exact ⟨by decide, by decide⟩
                  refine lv_iconst (v := 5) hx hb dX12_isRead_94 (by decide) ?_
                  refine lv_goto (tgt := 99) hx hb dX12_isRead_95 (by decide) ?_
                  refine lv_istore_n (lv' := [(2, .int 5), (1, .int s_25.2), (0, .ref (ad 57))]) hx hb dX12_isRead_99 rfl hl (by decide) rfl (fun ls hl => ?_)
                  refine lv_aload_n hx hb dX12_isRead_100 rfl (lv_at hl 2 rfl) ?_
                  refine wx_geti (C := RX12) (T := TX12) (N := 27) (ci := 11) (j := 8) hx hb hts hi_X12 hown hK hX (by decide) sh_X12_8 rfl (by decide) (hts (.fieldLink RX12 84 "SeenAgainModel" "token" "I") (by decide +kernel)) (fun _ h9 => h9) dX12_isRead_101 ?_
                  refine lv_bipush (v := (-2)) hx hb dX12_isRead_104 (by decide) ?_
                  refine lv_icmp_ne (tgt := 111) hx hb dX12_isRead_106 (by decide) (fun _ => ?_) (fun c9 => absurd c9 (wb_neq b_45 (show wx_b (-2) (-2) (-2) from ⟨by decide, by decide⟩) (by decide)))
                  refine lv_aload_n hx hb dX12_isRead_111 rfl (lv_at hl 2 rfl) ?_
                  refine wx_geti (C := RX12) (T := TX12) (N := 27) (ci := 11) (j := 8) hx hb hts hi_X12 hown hK hX (by decide) sh_X12_8 rfl (by decide) (hts (.fieldLink RX12 84 "SeenAgainModel" "token" "I") (by decide +kernel)) (fun _ h9 => h9) dX12_isRead_112 ?_
                  refine lv_bipush (v := 103) hx hb dX12_isRead_115 (by decide) ?_
                  refine lv_icmp_ne (tgt := 142) hx hb dX12_isRead_117 (by decide) (fun _ => ?_) (fun c9 => absurd c9 (wb_neq b_45 (show wx_b 103 103 103 from ⟨by decide, by decide⟩) (by decide)))
                  refine lv_aload_n hx hb dX12_isRead_142 rfl (lv_at hl 2 rfl) ?_
                  refine wx_geti (C := RX12) (T := TX12) (N := 27) (ci := 11) (j := 8) hx hb hts hi_X12 hown hK hX (by decide) sh_X12_8 rfl (by decide) (hts (.fieldLink RX12 84 "SeenAgainModel" "token" "I") (by decide +kernel)) (fun _ h9 => h9) dX12_isRead_143 ?_
                  refine lv_bipush (v := 114) hx hb dX12_isRead_146 (by decide) ?_
                  refine lv_icmp_ne (tgt := 166) hx hb dX12_isRead_148 (by decide) (fun _ => ?_) (fun c9 => absurd c9 (wb_neq b_45 (show wx_b 114 114 114 from ⟨by decide, by decide⟩) (by decide)))
                  refine lv_iload_n hx hb dX12_isRead_166 rfl (lv_at hl 0 rfl) ?_
                  refine lv_if_le (tgt := 178) hx hb dX12_isRead_167 (by decide) (fun c9 => absurd c9 (by decide)) (fun _ => ?_)
                  refine lv_aload_n hx hb dX12_isRead_170 rfl (lv_at hl 2 rfl) ?_
                  refine lv_iload_n hx hb dX12_isRead_171 rfl (lv_at hl 0 rfl) ?_
                  refine wx_callei (va_runV (As := [.int 5]) (rest := []) ⟨hx, hb, hml, hown, hts⟩ (k_X12_isVisitor l g_10 5 (by rw [eg_10]; exact pr_X12_nextToken hW_25.2)) (cwV 1 hts gX12_isRead_X12_isVisitor rfl rfl rfl (by decide +kernel) (by rw [hR]; exact ⟨Nat.le_of_ble_eq_true rfl, Nat.le_of_ble_eq_true rfl⟩)) ⟨wx_Pc.blind, wx_recv hK hX (by decide) sh_X12 rfl, (wx_Pc.pre hK hX).2⟩ rfl rfl hl.1 rfl (lv_room (Nat.le_of_ble_eq_true rfl)) dX12_isRead_172 ⟨Nat.zero_le _, Nat.zero_le _⟩) hS (fun H locs hX hS => ?_)
                  obtain ⟨z_46, ez_46⟩ : ∃ z, z = f_X12_isVisitor g_10 5 := ⟨_, rfl⟩
                  rw [← ez_46] at hX; rw [← ez_46]
                  refine lv_goto (tgt := 183) hx hb dX12_isRead_175 (by decide) ?_
                  refine lv_istore_n (lv' := [(1, .int z_46.2), (2, .int 5), (0, .ref (ad 57))]) hx hb dX12_isRead_183 rfl hl (by decide) rfl (fun ls hl => ?_)
                  refine lv_goto (tgt := 25) hx hb dX12_isRead_184 (by decide) ?_
                  have hF_47 : (b_X12_isRead_25 g g_1 g_2 g_3 g_4 z_5) t_25 s_25 = .inl (z_46.1, z_46.2) := (by subst ez_46 eg_10; simp only [b_X12_isRead_25, if_neg c_6, if_neg c_11, if_neg c_12, if_neg c_13, if_neg c_14, if_pos c_15])
                  have hst_25 : t_25 + 1 < 142 := (by have h9 : t_25 + 1 ≤ (z_46.1 57 6).toNatClampNeg := (Nat.le_trans (by have h9 := ps_X12_nextToken hW_25.2 (by rw [← eg_10]; exact (wb_neq b_45 (show wx_b (-2) (-2) (-2) from ⟨by decide, by decide⟩) (by decide))); rw [← eg_10] at h9; have h7 := hW_25.1; omega) (Nat.le_trans (Nat.le_refl _) (show (g_10 57 6).toNatClampNeg ≤ (z_46.1 57 6).toNatClampNeg from by rw [ez_46]; exact pg_X12_isVisitor (by rw [eg_10]; exact pr_X12_nextToken hW_25.2)))); have h8 := wb_cl (n := 140) (show wx_PR z_46.1 from (by rw [ez_46]; exact pr_X12_isVisitor (by rw [eg_10]; exact pr_X12_nextToken hW_25.2))).1.2.1 (by decide); omega)
                  exact ih_25 (t_25 + 1) (z_46.1, z_46.2) ls H locs hst_25 (by omega) ((repX_go es_25).trans hF_47) hX hS ⟨(Nat.le_trans (by have h9 := ps_X12_nextToken hW_25.2 (by rw [← eg_10]; exact (wb_neq b_45 (show wx_b (-2) (-2) (-2) from ⟨by decide, by decide⟩) (by decide))); rw [← eg_10] at h9; have h7 := hW_25.1; omega) (Nat.le_trans (Nat.le_refl _) (show (g_10 57 6).toNatClampNeg ≤ (z_46.1 57 6).toNatClampNeg from by rw [ez_46]; exact pg_X12_isVisitor (by rw [eg_10]; exact pr_X12_nextToken hW_25.2)))), (by rw [ez_46]; exact pr_X12_isVisitor (by rw [eg_10]; exact pr_X12_nextToken hW_25.2))⟩ (lv_sub hl [0, 2] rfl)
              · have b_48 : wx_b (g_10 57 8) 119 119 := by rw [c_14]; exact ⟨by decide, by decide⟩
                refine lv_iconst (v := 4) hx hb dX12_isRead_81 (by decide) ?_
                refine lv_goto (tgt := 99) hx hb dX12_isRead_82 (by decide) ?_
                refine lv_istore_n (lv' := [(2, .int 4), (1, .int s_25.2), (0, .ref (ad 57))]) hx hb dX12_isRead_99 rfl hl (by decide) rfl (fun ls hl => ?_)
                refine lv_aload_n hx hb dX12_isRead_100 rfl (lv_at hl 2 rfl) ?_
                refine wx_geti (C := RX12) (T := TX12) (N := 27) (ci := 11) (j := 8) hx hb hts hi_X12 hown hK hX (by decide) sh_X12_8 rfl (by decide) (hts (.fieldLink RX12 84 "SeenAgainModel" "token" "I") (by decide +kernel)) (fun _ h9 => h9) dX12_isRead_101 ?_
                refine lv_bipush (v := (-2)) hx hb dX12_isRead_104 (by decide) ?_
                refine lv_icmp_ne (tgt := 111) hx hb dX12_isRead_106 (by decide) (fun _ => ?_) (fun c9 => absurd c9 (wb_neq b_48 (show wx_b (-2) (-2) (-2) from ⟨by decide, by decide⟩) (by decide)))
                refine lv_aload_n hx hb dX12_isRead_111 rfl (lv_at hl 2 rfl) ?_
                refine wx_geti (C := RX12) (T := TX12) (N := 27) (ci := 11) (j := 8) hx hb hts hi_X12 hown hK hX (by decide) sh_X12_8 rfl (by decide) (hts (.fieldLink RX12 84 "SeenAgainModel" "token" "I") (by decide +kernel)) (fun _ h9 => h9) dX12_isRead_112 ?_
                refine lv_bipush (v := 103) hx hb dX12_isRead_115 (by decide) ?_
                refine lv_icmp_ne (tgt := 142) hx hb dX12_isRead_117 (by decide) (fun _ => ?_) (fun c9 => absurd c9 (wb_neq b_48 (show wx_b 103 103 103 from ⟨by decide, by decide⟩) (by decide)))
                refine lv_aload_n hx hb dX12_isRead_142 rfl (lv_at hl 2 rfl) ?_
                refine wx_geti (C := RX12) (T := TX12) (N := 27) (ci := 11) (j := 8) hx hb hts hi_X12 hown hK hX (by decide) sh_X12_8 rfl (by decide) (hts (.fieldLink RX12 84 "SeenAgainModel" "token" "I") (by decide +kernel)) (fun _ h9 => h9) dX12_isRead_143 ?_
                refine lv_bipush (v := 114) hx hb dX12_isRead_146 (by decide) ?_
                refine lv_icmp_ne (tgt := 166) hx hb dX12_isRead_148 (by decide) (fun _ => ?_) (fun c9 => absurd c9 (wb_neq b_48 (show wx_b 114 114 114 from ⟨by decide, by decide⟩) (by decide)))
                refine lv_iload_n hx hb dX12_isRead_166 rfl (lv_at hl 0 rfl) ?_
                refine lv_if_le (tgt := 178) hx hb dX12_isRead_167 (by decide) (fun c9 => absurd c9 (by decide)) (fun _ => ?_)
                refine lv_aload_n hx hb dX12_isRead_170 rfl (lv_at hl 2 rfl) ?_
                refine lv_iload_n hx hb dX12_isRead_171 rfl (lv_at hl 0 rfl) ?_
                refine wx_callei (va_runV (As := [.int 4]) (rest := []) ⟨hx, hb, hml, hown, hts⟩ (k_X12_isVisitor l g_10 4 (by rw [eg_10]; exact pr_X12_nextToken hW_25.2)) (cwV 1 hts gX12_isRead_X12_isVisitor rfl rfl rfl (by decide +kernel) (by rw [hR]; exact ⟨Nat.le_of_ble_eq_true rfl, Nat.le_of_ble_eq_true rfl⟩)) ⟨wx_Pc.blind, wx_recv hK hX (by decide) sh_X12 rfl, (wx_Pc.pre hK hX).2⟩ rfl rfl hl.1 rfl (lv_room (Nat.le_of_ble_eq_true rfl)) dX12_isRead_172 ⟨Nat.zero_le _, Nat.zero_le _⟩) hS (fun H locs hX hS => ?_)
                obtain ⟨z_49, ez_49⟩ : ∃ z, z = f_X12_isVisitor g_10 4 := ⟨_, rfl⟩
                rw [← ez_49] at hX; rw [← ez_49]
                refine lv_goto (tgt := 183) hx hb dX12_isRead_175 (by decide) ?_
                refine lv_istore_n (lv' := [(1, .int z_49.2), (2, .int 4), (0, .ref (ad 57))]) hx hb dX12_isRead_183 rfl hl (by decide) rfl (fun ls hl => ?_)
                refine lv_goto (tgt := 25) hx hb dX12_isRead_184 (by decide) ?_
                have hF_50 : (b_X12_isRead_25 g g_1 g_2 g_3 g_4 z_5) t_25 s_25 = .inl (z_49.1, z_49.2) := (by subst ez_49 eg_10; simp only [b_X12_isRead_25, if_neg c_6, if_neg c_11, if_neg c_12, if_neg c_13, if_pos c_14])
                have hst_25 : t_25 + 1 < 142 := (by have h9 : t_25 + 1 ≤ (z_49.1 57 6).toNatClampNeg := (Nat.le_trans (by have h9 := ps_X12_nextToken hW_25.2 (by rw [← eg_10]; exact (wb_neq b_48 (show wx_b (-2) (-2) (-2) from ⟨by decide, by decide⟩) (by decide))); rw [← eg_10] at h9; have h7 := hW_25.1; omega) (Nat.le_trans (Nat.le_refl _) (show (g_10 57 6).toNatClampNeg ≤ (z_49.1 57 6).toNatClampNeg from by rw [ez_49]; exact pg_X12_isVisitor (by rw [eg_10]; exact pr_X12_nextToken hW_25.2)))); have h8 := wb_cl (n := 140) (show wx_PR z_49.1 from (by rw [ez_49]; exact pr_X12_isVisitor (by rw [eg_10]; exact pr_X12_nextToken hW_25.2))).1.2.1 (by decide); omega)
                exact ih_25 (t_25 + 1) (z_49.1, z_49.2) ls H locs hst_25 (by omega) ((repX_go es_25).trans hF_50) hX hS ⟨(Nat.le_trans (by have h9 := ps_X12_nextToken hW_25.2 (by rw [← eg_10]; exact (wb_neq b_48 (show wx_b (-2) (-2) (-2) from ⟨by decide, by decide⟩) (by decide))); rw [← eg_10] at h9; have h7 := hW_25.1; omega) (Nat.le_trans (Nat.le_refl _) (show (g_10 57 6).toNatClampNeg ≤ (z_49.1 57 6).toNatClampNeg from by rw [ez_49]; exact pg_X12_isVisitor (by rw [eg_10]; exact pr_X12_nextToken hW_25.2)))), (by rw [ez_49]; exact pr_X12_isVisitor (by rw [eg_10]; exact pr_X12_nextToken hW_25.2))⟩ (lv_sub hl [0, 2] rfl)
            · have b_51 : wx_b (g_10 57 8) 100 100 := by rw [c_13]; exact ⟨by decide, by decide⟩
              refine lv_iconst (v := 3) hx hb dX12_isRead_68 (by decide) ?_
              refine lv_goto (tgt := 99) hx hb dX12_isRead_69 (by decide) ?_
              refine lv_istore_n (lv' := [(2, .int 3), (1, .int s_25.2), (0, .ref (ad 57))]) hx hb dX12_isRead_99 rfl hl (by decide) rfl (fun ls hl => ?_)
              refine lv_aload_n hx hb dX12_isRead_100 rfl (lv_at hl 2 rfl) ?_
              refine wx_geti (C := RX12) (T := TX12) (N := 27) (ci := 11) (j := 8) hx hb hts hi_X12 hown hK hX (by decide) sh_X12_8 rfl (by decide) (hts (.fieldLink RX12 84 "SeenAgainModel" "token" "I") (by decide +kernel)) (fun _ h9 => h9) dX12_isRead_101 ?_
              refine lv_bipush (v := (-2)) hx hb dX12_isRead_104 (by decide) ?_
              refine lv_icmp_ne (tgt := 111) hx hb dX12_isRead_106 (by decide) (fun _ => ?_) (fun c9 => absurd c9 (wb_neq b_51 (show wx_b (-2) (-2) (-2) from ⟨by decide, by decide⟩) (by decide)))
              refine lv_aload_n hx hb dX12_isRead_111 rfl (lv_at hl 2 rfl) ?_
              refine wx_geti (C := RX12) (T := TX12) (N := 27) (ci := 11) (j := 8) hx hb hts hi_X12 hown hK hX (by decide) sh_X12_8 rfl (by decide) (hts (.fieldLink RX12 84 "SeenAgainModel" "token" "I") (by decide +kernel)) (fun _ h9 => h9) dX12_isRead_112 ?_
              refine lv_bipush (v := 103) hx hb dX12_isRead_115 (by decide) ?_
              refine lv_icmp_ne (tgt := 142) hx hb dX12_isRead_117 (by decide) (fun _ => ?_) (fun c9 => absurd c9 (wb_neq b_51 (show wx_b 103 103 103 from ⟨by decide, by decide⟩) (by decide)))
              refine lv_aload_n hx hb dX12_isRead_142 rfl (lv_at hl 2 rfl) ?_
              refine wx_geti (C := RX12) (T := TX12) (N := 27) (ci := 11) (j := 8) hx hb hts hi_X12 hown hK hX (by decide) sh_X12_8 rfl (by decide) (hts (.fieldLink RX12 84 "SeenAgainModel" "token" "I") (by decide +kernel)) (fun _ h9 => h9) dX12_isRead_143 ?_
              refine lv_bipush (v := 114) hx hb dX12_isRead_146 (by decide) ?_
              refine lv_icmp_ne (tgt := 166) hx hb dX12_isRead_148 (by decide) (fun _ => ?_) (fun c9 => absurd c9 (wb_neq b_51 (show wx_b 114 114 114 from ⟨by decide, by decide⟩) (by decide)))
              refine lv_iload_n hx hb dX12_isRead_166 rfl (lv_at hl 0 rfl) ?_
              refine lv_if_le (tgt := 178) hx hb dX12_isRead_167 (by decide) (fun c9 => absurd c9 (by decide)) (fun _ => ?_)
              refine lv_aload_n hx hb dX12_isRead_170 rfl (lv_at hl 2 rfl) ?_
              refine lv_iload_n hx hb dX12_isRead_171 rfl (lv_at hl 0 rfl) ?_
              refine wx_callei (va_runV (As := [.int 3]) (rest := []) ⟨hx, hb, hml, hown, hts⟩ (k_X12_isVisitor l g_10 3 (by rw [eg_10]; exact pr_X12_nextToken hW_25.2)) (cwV 1 hts gX12_isRead_X12_isVisitor rfl rfl rfl (by decide +kernel) (by rw [hR]; exact ⟨Nat.le_of_ble_eq_true rfl, Nat.le_of_ble_eq_true rfl⟩)) ⟨wx_Pc.blind, wx_recv hK hX (by decide) sh_X12 rfl, (wx_Pc.pre hK hX).2⟩ rfl rfl hl.1 rfl (lv_room (Nat.le_of_ble_eq_true rfl)) dX12_isRead_172 ⟨Nat.zero_le _, Nat.zero_le _⟩) hS (fun H locs hX hS => ?_)
              obtain ⟨z_52, ez_52⟩ : ∃ z, z = f_X12_isVisitor g_10 3 := ⟨_, rfl⟩
              rw [← ez_52] at hX; rw [← ez_52]
              refine lv_goto (tgt := 183) hx hb dX12_isRead_175 (by decide) ?_
              refine lv_istore_n (lv' := [(1, .int z_52.2), (2, .int 3), (0, .ref (ad 57))]) hx hb dX12_isRead_183 rfl hl (by decide) rfl (fun ls hl => ?_)
              refine lv_goto (tgt := 25) hx hb dX12_isRead_184 (by decide) ?_
              have hF_53 : (b_X12_isRead_25 g g_1 g_2 g_3 g_4 z_5) t_25 s_25 = .inl (z_52.1, z_52.2) := (by subst ez_52 eg_10; simp only [b_X12_isRead_25, if_neg c_6, if_neg c_11, if_neg c_12, if_pos c_13])
              have hst_25 : t_25 + 1 < 142 := (by have h9 : t_25 + 1 ≤ (z_52.1 57 6).toNatClampNeg := (Nat.le_trans (by have h9 := ps_X12_nextToken hW_25.2 (by rw [← eg_10]; exact (wb_neq b_51 (show wx_b (-2) (-2) (-2) from ⟨by decide, by decide⟩) (by decide))); rw [← eg_10] at h9; have h7 := hW_25.1; omega) (Nat.le_trans (Nat.le_refl _) (show (g_10 57 6).toNatClampNeg ≤ (z_52.1 57 6).toNatClampNeg from by rw [ez_52]; exact pg_X12_isVisitor (by rw [eg_10]; exact pr_X12_nextToken hW_25.2)))); have h8 := wb_cl (n := 140) (show wx_PR z_52.1 from (by rw [ez_52]; exact pr_X12_isVisitor (by rw [eg_10]; exact pr_X12_nextToken hW_25.2))).1.2.1 (by decide); omega)
              exact ih_25 (t_25 + 1) (z_52.1, z_52.2) ls H locs hst_25 (by omega) ((repX_go es_25).trans hF_53) hX hS ⟨(Nat.le_trans (by have h9 := ps_X12_nextToken hW_25.2 (by rw [← eg_10]; exact (wb_neq b_51 (show wx_b (-2) (-2) (-2) from ⟨by decide, by decide⟩) (by decide))); rw [← eg_10] at h9; have h7 := hW_25.1; omega) (Nat.le_trans (Nat.le_refl _) (show (g_10 57 6).toNatClampNeg ≤ (z_52.1 57 6).toNatClampNeg from by rw [ez_52]; exact pg_X12_isVisitor (by rw [eg_10]; exact pr_X12_nextToken hW_25.2)))), (by rw [ez_52]; exact pr_X12_isVisitor (by rw [eg_10]; exact pr_X12_nextToken hW_25.2))⟩ (lv_sub hl [0, 2] rfl)
          · have b_54 : wx_b (g_10 57 8) 108 108 := by rw [c_12]; exact ⟨by decide, by decide⟩
            refine lv_iconst (v := 2) hx hb dX12_isRead_55 (by decide) ?_
            refine lv_goto (tgt := 99) hx hb dX12_isRead_56 (by decide) ?_
            refine lv_istore_n (lv' := [(2, .int 2), (1, .int s_25.2), (0, .ref (ad 57))]) hx hb dX12_isRead_99 rfl hl (by decide) rfl (fun ls hl => ?_)
            refine lv_aload_n hx hb dX12_isRead_100 rfl (lv_at hl 2 rfl) ?_
            refine wx_geti (C := RX12) (T := TX12) (N := 27) (ci := 11) (j := 8) hx hb hts hi_X12 hown hK hX (by decide) sh_X12_8 rfl (by decide) (hts (.fieldLink RX12 84 "SeenAgainModel" "token" "I") (by decide +kernel)) (fun _ h9 => h9) dX12_isRead_101 ?_
            refine lv_bipush (v := (-2)) hx hb dX12_isRead_104 (by decide) ?_
            refine lv_icmp_ne (tgt := 111) hx hb dX12_isRead_106 (by decide) (fun _ => ?_) (fun c9 => absurd c9 (wb_neq b_54 (show wx_b (-2) (-2) (-2) from ⟨by decide, by decide⟩) (by decide)))
            refine lv_aload_n hx hb dX12_isRead_111 rfl (lv_at hl 2 rfl) ?_
            refine wx_geti (C := RX12) (T := TX12) (N := 27) (ci := 11) (j := 8) hx hb hts hi_X12 hown hK hX (by decide) sh_X12_8 rfl (by decide) (hts (.fieldLink RX12 84 "SeenAgainModel" "token" "I") (by decide +kernel)) (fun _ h9 => h9) dX12_isRead_112 ?_
            refine lv_bipush (v := 103) hx hb dX12_isRead_115 (by decide) ?_
            refine lv_icmp_ne (tgt := 142) hx hb dX12_isRead_117 (by decide) (fun _ => ?_) (fun c9 => absurd c9 (wb_neq b_54 (show wx_b 103 103 103 from ⟨by decide, by decide⟩) (by decide)))
            refine lv_aload_n hx hb dX12_isRead_142 rfl (lv_at hl 2 rfl) ?_
            refine wx_geti (C := RX12) (T := TX12) (N := 27) (ci := 11) (j := 8) hx hb hts hi_X12 hown hK hX (by decide) sh_X12_8 rfl (by decide) (hts (.fieldLink RX12 84 "SeenAgainModel" "token" "I") (by decide +kernel)) (fun _ h9 => h9) dX12_isRead_143 ?_
            refine lv_bipush (v := 114) hx hb dX12_isRead_146 (by decide) ?_
            refine lv_icmp_ne (tgt := 166) hx hb dX12_isRead_148 (by decide) (fun _ => ?_) (fun c9 => absurd c9 (wb_neq b_54 (show wx_b 114 114 114 from ⟨by decide, by decide⟩) (by decide)))
            refine lv_iload_n hx hb dX12_isRead_166 rfl (lv_at hl 0 rfl) ?_
            refine lv_if_le (tgt := 178) hx hb dX12_isRead_167 (by decide) (fun c9 => absurd c9 (by decide)) (fun _ => ?_)
            refine lv_aload_n hx hb dX12_isRead_170 rfl (lv_at hl 2 rfl) ?_
            refine lv_iload_n hx hb dX12_isRead_171 rfl (lv_at hl 0 rfl) ?_
            refine wx_callei (va_runV (As := [.int 2]) (rest := []) ⟨hx, hb, hml, hown, hts⟩ (k_X12_isVisitor l g_10 2 (by rw [eg_10]; exact pr_X12_nextToken hW_25.2)) (cwV 1 hts gX12_isRead_X12_isVisitor rfl rfl rfl (by decide +kernel) (by rw [hR]; exact ⟨Nat.le_of_ble_eq_true rfl, Nat.le_of_ble_eq_true rfl⟩)) ⟨wx_Pc.blind, wx_recv hK hX (by decide) sh_X12 rfl, (wx_Pc.pre hK hX).2⟩ rfl rfl hl.1 rfl (lv_room (Nat.le_of_ble_eq_true rfl)) dX12_isRead_172 ⟨Nat.zero_le _, Nat.zero_le _⟩) hS (fun H locs hX hS => ?_)
            obtain ⟨z_55, ez_55⟩ : ∃ z, z = f_X12_isVisitor g_10 2 := ⟨_, rfl⟩
            rw [← ez_55] at hX; rw [← ez_55]
            refine lv_goto (tgt := 183) hx hb dX12_isRead_175 (by decide) ?_
            refine lv_istore_n (lv' := [(1, .int z_55.2), (2, .int 2), (0, .ref (ad 57))]) hx hb dX12_isRead_183 rfl hl (by decide) rfl (fun ls hl => ?_)
            refine lv_goto (tgt := 25) hx hb dX12_isRead_184 (by decide) ?_
            have hF_56 : (b_X12_isRead_25 g g_1 g_2 g_3 g_4 z_5) t_25 s_25 = .inl (z_55.1, z_55.2) := (by subst ez_55 eg_10; simp only [b_X12_isRead_25, if_neg c_6, if_neg c_11, if_pos c_12])
            have hst_25 : t_25 + 1 < 142 := (by have h9 : t_25 + 1 ≤ (z_55.1 57 6).toNatClampNeg := (Nat.le_trans (by have h9 := ps_X12_nextToken hW_25.2 (by rw [← eg_10]; exact (wb_neq b_54 (show wx_b (-2) (-2) (-2) from ⟨by decide, by decide⟩) (by decide))); rw [← eg_10] at h9; have h7 := hW_25.1; omega) (Nat.le_trans (Nat.le_refl _) (show (g_10 57 6).toNatClampNeg ≤ (z_55.1 57 6).toNatClampNeg from by rw [ez_55]; exact pg_X12_isVisitor (by rw [eg_10]; exact pr_X12_nextToken hW_25.2)))); have h8 := wb_cl (n := 140) (show wx_PR z_55.1 from (by rw [ez_55]; exact pr_X12_isVisitor (by rw [eg_10]; exact pr_X12_nextToken hW_25.2))).1.2.1 (by decide); omega)
            exact ih_25 (t_25 + 1) (z_55.1, z_55.2) ls H locs hst_25 (by omega) ((repX_go es_25).trans hF_56) hX hS ⟨(Nat.le_trans (by have h9 := ps_X12_nextToken hW_25.2 (by rw [← eg_10]; exact (wb_neq b_54 (show wx_b (-2) (-2) (-2) from ⟨by decide, by decide⟩) (by decide))); rw [← eg_10] at h9; have h7 := hW_25.1; omega) (Nat.le_trans (Nat.le_refl _) (show (g_10 57 6).toNatClampNeg ≤ (z_55.1 57 6).toNatClampNeg from by rw [ez_55]; exact pg_X12_isVisitor (by rw [eg_10]; exact pr_X12_nextToken hW_25.2)))), (by rw [ez_55]; exact pr_X12_isVisitor (by rw [eg_10]; exact pr_X12_nextToken hW_25.2))⟩ (lv_sub hl [0, 2] rfl)
        · have b_57 : wx_b (g_10 57 8) 116 116 := by rw [c_11]; exact ⟨by decide, by decide⟩
          refine lv_iconst (v := 1) hx hb dX12_isRead_42 (by decide) ?_
          refine lv_goto (tgt := 99) hx hb dX12_isRead_43 (by decide) ?_
          refine lv_istore_n (lv' := [(2, .int 1), (1, .int s_25.2), (0, .ref (ad 57))]) hx hb dX12_isRead_99 rfl hl (by decide) rfl (fun ls hl => ?_)
          refine lv_aload_n hx hb dX12_isRead_100 rfl (lv_at hl 2 rfl) ?_
          refine wx_geti (C := RX12) (T := TX12) (N := 27) (ci := 11) (j := 8) hx hb hts hi_X12 hown hK hX (by decide) sh_X12_8 rfl (by decide) (hts (.fieldLink RX12 84 "SeenAgainModel" "token" "I") (by decide +kernel)) (fun _ h9 => h9) dX12_isRead_101 ?_
          refine lv_bipush (v := (-2)) hx hb dX12_isRead_104 (by decide) ?_
          refine lv_icmp_ne (tgt := 111) hx hb dX12_isRead_106 (by decide) (fun _ => ?_) (fun c9 => absurd c9 (wb_neq b_57 (show wx_b (-2) (-2) (-2) from ⟨by decide, by decide⟩) (by decide)))
          refine lv_aload_n hx hb dX12_isRead_111 rfl (lv_at hl 2 rfl) ?_
          refine wx_geti (C := RX12) (T := TX12) (N := 27) (ci := 11) (j := 8) hx hb hts hi_X12 hown hK hX (by decide) sh_X12_8 rfl (by decide) (hts (.fieldLink RX12 84 "SeenAgainModel" "token" "I") (by decide +kernel)) (fun _ h9 => h9) dX12_isRead_112 ?_
          refine lv_bipush (v := 103) hx hb dX12_isRead_115 (by decide) ?_
          refine lv_icmp_ne (tgt := 142) hx hb dX12_isRead_117 (by decide) (fun _ => ?_) (fun c9 => absurd c9 (wb_neq b_57 (show wx_b 103 103 103 from ⟨by decide, by decide⟩) (by decide)))
          refine lv_aload_n hx hb dX12_isRead_142 rfl (lv_at hl 2 rfl) ?_
          refine wx_geti (C := RX12) (T := TX12) (N := 27) (ci := 11) (j := 8) hx hb hts hi_X12 hown hK hX (by decide) sh_X12_8 rfl (by decide) (hts (.fieldLink RX12 84 "SeenAgainModel" "token" "I") (by decide +kernel)) (fun _ h9 => h9) dX12_isRead_143 ?_
          refine lv_bipush (v := 114) hx hb dX12_isRead_146 (by decide) ?_
          refine lv_icmp_ne (tgt := 166) hx hb dX12_isRead_148 (by decide) (fun _ => ?_) (fun c9 => absurd c9 (wb_neq b_57 (show wx_b 114 114 114 from ⟨by decide, by decide⟩) (by decide)))
          refine lv_iload_n hx hb dX12_isRead_166 rfl (lv_at hl 0 rfl) ?_
          refine lv_if_le (tgt := 178) hx hb dX12_isRead_167 (by decide) (fun c9 => absurd c9 (by decide)) (fun _ => ?_)
          refine lv_aload_n hx hb dX12_isRead_170 rfl (lv_at hl 2 rfl) ?_
          refine lv_iload_n hx hb dX12_isRead_171 rfl (lv_at hl 0 rfl) ?_
          refine wx_callei (va_runV (As := [.int 1]) (rest := []) ⟨hx, hb, hml, hown, hts⟩ (k_X12_isVisitor l g_10 1 (by rw [eg_10]; exact pr_X12_nextToken hW_25.2)) (cwV 1 hts gX12_isRead_X12_isVisitor rfl rfl rfl (by decide +kernel) (by rw [hR]; exact ⟨Nat.le_of_ble_eq_true rfl, Nat.le_of_ble_eq_true rfl⟩)) ⟨wx_Pc.blind, wx_recv hK hX (by decide) sh_X12 rfl, (wx_Pc.pre hK hX).2⟩ rfl rfl hl.1 rfl (lv_room (Nat.le_of_ble_eq_true rfl)) dX12_isRead_172 ⟨Nat.zero_le _, Nat.zero_le _⟩) hS (fun H locs hX hS => ?_)
          obtain ⟨z_58, ez_58⟩ : ∃ z, z = f_X12_isVisitor g_10 1 := ⟨_, rfl⟩
          rw [← ez_58] at hX; rw [← ez_58]
          refine lv_goto (tgt := 183) hx hb dX12_isRead_175 (by decide) ?_
          refine lv_istore_n (lv' := [(1, .int z_58.2), (2, .int 1), (0, .ref (ad 57))]) hx hb dX12_isRead_183 rfl hl (by decide) rfl (fun ls hl => ?_)
          refine lv_goto (tgt := 25) hx hb dX12_isRead_184 (by decide) ?_
          have hF_59 : (b_X12_isRead_25 g g_1 g_2 g_3 g_4 z_5) t_25 s_25 = .inl (z_58.1, z_58.2) := (by subst ez_58 eg_10; simp only [b_X12_isRead_25, if_neg c_6, if_pos c_11])
          have hst_25 : t_25 + 1 < 142 := (by have h9 : t_25 + 1 ≤ (z_58.1 57 6).toNatClampNeg := (Nat.le_trans (by have h9 := ps_X12_nextToken hW_25.2 (by rw [← eg_10]; exact (wb_neq b_57 (show wx_b (-2) (-2) (-2) from ⟨by decide, by decide⟩) (by decide))); rw [← eg_10] at h9; have h7 := hW_25.1; omega) (Nat.le_trans (Nat.le_refl _) (show (g_10 57 6).toNatClampNeg ≤ (z_58.1 57 6).toNatClampNeg from by rw [ez_58]; exact pg_X12_isVisitor (by rw [eg_10]; exact pr_X12_nextToken hW_25.2)))); have h8 := wb_cl (n := 140) (show wx_PR z_58.1 from (by rw [ez_58]; exact pr_X12_isVisitor (by rw [eg_10]; exact pr_X12_nextToken hW_25.2))).1.2.1 (by decide); omega)
          exact ih_25 (t_25 + 1) (z_58.1, z_58.2) ls H locs hst_25 (by omega) ((repX_go es_25).trans hF_59) hX hS ⟨(Nat.le_trans (by have h9 := ps_X12_nextToken hW_25.2 (by rw [← eg_10]; exact (wb_neq b_57 (show wx_b (-2) (-2) (-2) from ⟨by decide, by decide⟩) (by decide))); rw [← eg_10] at h9; have h7 := hW_25.1; omega) (Nat.le_trans (Nat.le_refl _) (show (g_10 57 6).toNatClampNeg ≤ (z_58.1 57 6).toNatClampNeg from by rw [ez_58]; exact pg_X12_isVisitor (by rw [eg_10]; exact pr_X12_nextToken hW_25.2)))), (by rw [ez_58]; exact pr_X12_isVisitor (by rw [eg_10]; exact pr_X12_nextToken hW_25.2))⟩ (lv_sub hl [0, 2] rfl)
  exact lp_25 142 0 (z_5.1, z_5.2) ls H locs (by decide) (by omega) rfl hX hS ⟨Nat.zero_le _, (by rw [ez_5]; exact pr_X12_isLaw (by rw [eg_4]; exact pr_18 (wb_w (show wx_b 0 0 0 from ⟨by decide, by decide⟩) (by decide) (by decide)) (by rw [eg_3]; exact pr_16 (wb_w (show wx_b 0 0 0 from ⟨by decide, by decide⟩) (by decide) (by decide)) (by rw [eg_2]; exact pr_14 (wb_w (show wx_b 0 0 0 from ⟨by decide, by decide⟩) (by decide) (by decide)) (by rw [eg_1]; exact pq_p0 hpr)))))⟩ (lv_sub hl [0, 1] rfl)
set_option maxRecDepth 100000 in
set_option maxHeartbeats 4000000 in
theorem np2_X12_isRead {g : wx_M} (hpr : wx_PQ g) : narrow .boolean (.int (f_X12_isRead g).2) = .int (f_X12_isRead g).2 := by
  obtain ⟨g_1, eg_1⟩ : ∃ z : wx_M, z = up2 g 57 6 0 := ⟨_, rfl⟩
  obtain ⟨g_2, eg_2⟩ : ∃ z : wx_M, z = up2 g_1 57 14 0 := ⟨_, rfl⟩
  obtain ⟨g_3, eg_3⟩ : ∃ z : wx_M, z = up2 g_2 57 16 0 := ⟨_, rfl⟩
  obtain ⟨g_4, eg_4⟩ : ∃ z : wx_M, z = up2 g_3 57 18 0 := ⟨_, rfl⟩
  obtain ⟨z_5, ez_5⟩ : ∃ z, z = f_X12_isLaw g_4 := ⟨_, rfl⟩
  have lp_25 := repX_inv2 (f := (b_X12_isRead_25 g g_1 g_2 g_3 g_4 z_5)) (s0 := (z_5.1, z_5.2)) (fun (t_25 : Nat) (s_25 : wx_M × Int32) => (t_25 ≤ (s_25.1 57 6).toNatClampNeg ∧ wx_PR s_25.1)) (fun r => narrow .boolean (.int (r).2) = .int (r).2) 142 ⟨Nat.zero_le _, (by rw [ez_5]; exact pr_X12_isLaw (by rw [eg_4]; exact pr_18 (wb_w (show wx_b 0 0 0 from ⟨by decide, by decide⟩) (by decide) (by decide)) (by rw [eg_3]; exact pr_16 (wb_w (show wx_b 0 0 0 from ⟨by decide, by decide⟩) (by decide) (by decide)) (by rw [eg_2]; exact pr_14 (wb_w (show wx_b 0 0 0 from ⟨by decide, by decide⟩) (by decide) (by decide)) (by rw [eg_1]; exact pq_p0 hpr)))))⟩ (by
    intro t_25 s_25 hlt_25 hI9
    have hW_25 := hI9
    by_cases c_6 : s_25.2 = 0
    · have b_7 : wx_b s_25.2 0 0 := by rw [c_6]; exact ⟨by decide, by decide⟩
      rw [show (b_X12_isRead_25 g g_1 g_2 g_3 g_4 z_5) t_25 s_25 = .inr ((s_25.1, 0)) from (by simp only [b_X12_isRead_25, if_pos c_6])]
      exact (Or.inr ⟨_, rfl, (show narrow .boolean (.int 0) = .int 0 from rfl)⟩)
    · obtain ⟨g_8, eg_8⟩ : ∃ z : wx_M, z = e_X12_nextToken s_25.1 := ⟨_, rfl⟩
      by_cases c_9 : (g_8 57 8) = 116
      · have b_10 : wx_b (g_8 57 8) 116 116 := by rw [c_9]; exact ⟨by decide, by decide⟩
        obtain ⟨z_11, ez_11⟩ : ∃ z, z = f_X12_isVisitor g_8 1 := ⟨_, rfl⟩
        rw [show (b_X12_isRead_25 g g_1 g_2 g_3 g_4 z_5) t_25 s_25 = .inl (z_11.1, z_11.2) from (by subst ez_11 eg_8; simp only [b_X12_isRead_25, if_neg c_6, if_pos c_9])]
        exact (Or.inl ⟨_, rfl, ⟨(Nat.le_trans (by have h9 := ps_X12_nextToken hW_25.2 (by rw [← eg_8]; exact (wb_neq b_10 (show wx_b (-2) (-2) (-2) from ⟨by decide, by decide⟩) (by decide))); rw [← eg_8] at h9; have h7 := hW_25.1; omega) (Nat.le_trans (Nat.le_refl _) (show (g_8 57 6).toNatClampNeg ≤ (z_11.1 57 6).toNatClampNeg from by rw [ez_11]; exact pg_X12_isVisitor (by rw [eg_8]; exact pr_X12_nextToken hW_25.2)))), (by rw [ez_11]; exact pr_X12_isVisitor (by rw [eg_8]; exact pr_X12_nextToken hW_25.2))⟩⟩)
      · by_cases c_12 : (g_8 57 8) = 108
        · have b_13 : wx_b (g_8 57 8) 108 108 := by rw [c_12]; exact ⟨by decide, by decide⟩
          obtain ⟨z_14, ez_14⟩ : ∃ z, z = f_X12_isVisitor g_8 2 := ⟨_, rfl⟩
          rw [show (b_X12_isRead_25 g g_1 g_2 g_3 g_4 z_5) t_25 s_25 = .inl (z_14.1, z_14.2) from (by subst ez_14 eg_8; simp only [b_X12_isRead_25, if_neg c_6, if_neg c_9, if_pos c_12])]
          exact (Or.inl ⟨_, rfl, ⟨(Nat.le_trans (by have h9 := ps_X12_nextToken hW_25.2 (by rw [← eg_8]; exact (wb_neq b_13 (show wx_b (-2) (-2) (-2) from ⟨by decide, by decide⟩) (by decide))); rw [← eg_8] at h9; have h7 := hW_25.1; omega) (Nat.le_trans (Nat.le_refl _) (show (g_8 57 6).toNatClampNeg ≤ (z_14.1 57 6).toNatClampNeg from by rw [ez_14]; exact pg_X12_isVisitor (by rw [eg_8]; exact pr_X12_nextToken hW_25.2)))), (by rw [ez_14]; exact pr_X12_isVisitor (by rw [eg_8]; exact pr_X12_nextToken hW_25.2))⟩⟩)
        · by_cases c_15 : (g_8 57 8) = 100
          · have b_16 : wx_b (g_8 57 8) 100 100 := by rw [c_15]; exact ⟨by decide, by decide⟩
            obtain ⟨z_17, ez_17⟩ : ∃ z, z = f_X12_isVisitor g_8 3 := ⟨_, rfl⟩
            rw [show (b_X12_isRead_25 g g_1 g_2 g_3 g_4 z_5) t_25 s_25 = .inl (z_17.1, z_17.2) from (by subst ez_17 eg_8; simp only [b_X12_isRead_25, if_neg c_6, if_neg c_9, if_neg c_12, if_pos c_15])]
            exact (Or.inl ⟨_, rfl, ⟨(Nat.le_trans (by have h9 := ps_X12_nextToken hW_25.2 (by rw [← eg_8]; exact (wb_neq b_16 (show wx_b (-2) (-2) (-2) from ⟨by decide, by decide⟩) (by decide))); rw [← eg_8] at h9; have h7 := hW_25.1; omega) (Nat.le_trans (Nat.le_refl _) (show (g_8 57 6).toNatClampNeg ≤ (z_17.1 57 6).toNatClampNeg from by rw [ez_17]; exact pg_X12_isVisitor (by rw [eg_8]; exact pr_X12_nextToken hW_25.2)))), (by rw [ez_17]; exact pr_X12_isVisitor (by rw [eg_8]; exact pr_X12_nextToken hW_25.2))⟩⟩)
          · by_cases c_18 : (g_8 57 8) = 119
            · have b_19 : wx_b (g_8 57 8) 119 119 := by rw [c_18]; exact ⟨by decide, by decide⟩
              obtain ⟨z_20, ez_20⟩ : ∃ z, z = f_X12_isVisitor g_8 4 := ⟨_, rfl⟩
              rw [show (b_X12_isRead_25 g g_1 g_2 g_3 g_4 z_5) t_25 s_25 = .inl (z_20.1, z_20.2) from (by subst ez_20 eg_8; simp only [b_X12_isRead_25, if_neg c_6, if_neg c_9, if_neg c_12, if_neg c_15, if_pos c_18])]
              exact (Or.inl ⟨_, rfl, ⟨(Nat.le_trans (by have h9 := ps_X12_nextToken hW_25.2 (by rw [← eg_8]; exact (wb_neq b_19 (show wx_b (-2) (-2) (-2) from ⟨by decide, by decide⟩) (by decide))); rw [← eg_8] at h9; have h7 := hW_25.1; omega) (Nat.le_trans (Nat.le_refl _) (show (g_8 57 6).toNatClampNeg ≤ (z_20.1 57 6).toNatClampNeg from by rw [ez_20]; exact pg_X12_isVisitor (by rw [eg_8]; exact pr_X12_nextToken hW_25.2)))), (by rw [ez_20]; exact pr_X12_isVisitor (by rw [eg_8]; exact pr_X12_nextToken hW_25.2))⟩⟩)
            · by_cases c_21 : (g_8 57 8) = 97
              · have b_22 : wx_b (g_8 57 8) 97 97 := by rw [c_21]; exact ⟨by decide, by decide⟩
                obtain ⟨z_23, ez_23⟩ : ∃ z, z = f_X12_isVisitor g_8 5 := ⟨_, rfl⟩
                rw [show (b_X12_isRead_25 g g_1 g_2 g_3 g_4 z_5) t_25 s_25 = .inl (z_23.1, z_23.2) from (by subst ez_23 eg_8; simp only [b_X12_isRead_25, if_neg c_6, if_neg c_9, if_neg c_12, if_neg c_15, if_neg c_18, if_pos c_21])]
                exact (Or.inl ⟨_, rfl, ⟨(Nat.le_trans (by have h9 := ps_X12_nextToken hW_25.2 (by rw [← eg_8]; exact (wb_neq b_22 (show wx_b (-2) (-2) (-2) from ⟨by decide, by decide⟩) (by decide))); rw [← eg_8] at h9; have h7 := hW_25.1; omega) (Nat.le_trans (Nat.le_refl _) (show (g_8 57 6).toNatClampNeg ≤ (z_23.1 57 6).toNatClampNeg from by rw [ez_23]; exact pg_X12_isVisitor (by rw [eg_8]; exact pr_X12_nextToken hW_25.2)))), (by rw [ez_23]; exact pr_X12_isVisitor (by rw [eg_8]; exact pr_X12_nextToken hW_25.2))⟩⟩)
              · by_cases c_24 : (g_8 57 8) = (-2)
                · have b_25 : wx_b (g_8 57 8) (-2) (-2) := by rw [c_24]; exact ⟨by decide, by decide⟩
                  rw [show (b_X12_isRead_25 g g_1 g_2 g_3 g_4 z_5) t_25 s_25 = .inr ((g_8, 1)) from (by subst eg_8; simp only [b_X12_isRead_25, if_neg c_6, if_neg c_9, if_neg c_12, if_neg c_15, if_neg c_18, if_neg c_21, if_pos c_24])]
                  exact (Or.inr ⟨_, rfl, (show narrow .boolean (.int 1) = .int 1 from rfl)⟩)
                · by_cases c_26 : (g_8 57 8) = 103
                  · have b_27 : wx_b (g_8 57 8) 103 103 := by rw [c_26]; exact ⟨by decide, by decide⟩
                    by_cases c_28 : (g_8 57 16) = 0
                    · have b_29 : wx_b (g_8 57 16) 0 0 := by rw [c_28]; exact ⟨by decide, by decide⟩
                      by_cases c_30 : (g_8 57 18) = 0
                      · have b_31 : wx_b (g_8 57 18) 0 0 := by rw [c_30]; exact ⟨by decide, by decide⟩
                        obtain ⟨z_32, ez_32⟩ : ∃ z, z = f_X12_isWall g_8 := ⟨_, rfl⟩
                        rw [show (b_X12_isRead_25 g g_1 g_2 g_3 g_4 z_5) t_25 s_25 = .inl (z_32.1, z_32.2) from (by subst ez_32 eg_8; simp only [b_X12_isRead_25, if_neg c_6, if_neg c_9, if_neg c_12, if_neg c_15, if_neg c_18, if_neg c_21, if_neg c_24, if_pos c_26, if_pos c_28, if_pos c_30])]
                        exact (Or.inl ⟨_, rfl, ⟨(Nat.le_trans (by have h9 := ps_X12_nextToken hW_25.2 (by rw [← eg_8]; exact c_24); rw [← eg_8] at h9; have h7 := hW_25.1; omega) (Nat.le_trans (Nat.le_refl _) (show (g_8 57 6).toNatClampNeg ≤ (z_32.1 57 6).toNatClampNeg from by rw [ez_32]; exact pg_X12_isWall (by rw [eg_8]; exact pr_X12_nextToken hW_25.2)))), (by rw [ez_32]; exact pr_X12_isWall (by rw [eg_8]; exact pr_X12_nextToken hW_25.2))⟩⟩)
                      · have b_33 : wx_b (g_8 57 18) 1 4 := wb_nel c_30 (show wx_b (g_8 57 18) 0 4 by rw [show (g_8 57 18) = (s_25.1 57 18) from (by rw [eg_8, fj_X12_nextToken (by decide) (by decide) (by decide) (by decide) (by decide)])]; exact (show wx_PR s_25.1 from hW_25.2).2.2.2.2.1) (by decide)
                        obtain ⟨z_34, ez_34⟩ : ∃ z, z = f_X12_fails g_8 1 := ⟨_, rfl⟩
                        rw [show (b_X12_isRead_25 g g_1 g_2 g_3 g_4 z_5) t_25 s_25 = .inl (z_34.1, z_34.2) from (by subst ez_34 eg_8; simp only [b_X12_isRead_25, if_neg c_6, if_neg c_9, if_neg c_12, if_neg c_15, if_neg c_18, if_neg c_21, if_neg c_24, if_pos c_26, if_pos c_28, if_neg c_30])]
                        exact (Or.inl ⟨_, rfl, ⟨(Nat.le_trans (by have h9 := ps_X12_nextToken hW_25.2 (by rw [← eg_8]; exact c_24); rw [← eg_8] at h9; have h7 := hW_25.1; omega) (Nat.le_trans (Nat.le_refl _) (show (g_8 57 6).toNatClampNeg ≤ (z_34.1 57 6).toNatClampNeg from by rw [ez_34]; exact pg_X12_fails (by rw [eg_8]; exact pr_X12_nextToken hW_25.2)))), (by rw [ez_34]; exact pr_X12_fails (by rw [eg_8]; exact pr_X12_nextToken hW_25.2))⟩⟩)
                    · have b_35 : wx_b (g_8 57 16) 1 4 := wb_nel c_28 (show wx_b (g_8 57 16) 0 4 by rw [show (g_8 57 16) = (s_25.1 57 16) from (by rw [eg_8, fj_X12_nextToken (by decide) (by decide) (by decide) (by decide) (by decide)])]; exact (show wx_PR s_25.1 from hW_25.2).2.2.2.1) (by decide)
                      obtain ⟨z_36, ez_36⟩ : ∃ z, z = f_X12_fails g_8 1 := ⟨_, rfl⟩
                      rw [show (b_X12_isRead_25 g g_1 g_2 g_3 g_4 z_5) t_25 s_25 = .inl (z_36.1, z_36.2) from (by subst ez_36 eg_8; simp only [b_X12_isRead_25, if_neg c_6, if_neg c_9, if_neg c_12, if_neg c_15, if_neg c_18, if_neg c_21, if_neg c_24, if_pos c_26, if_neg c_28])]
                      exact (Or.inl ⟨_, rfl, ⟨(Nat.le_trans (by have h9 := ps_X12_nextToken hW_25.2 (by rw [← eg_8]; exact c_24); rw [← eg_8] at h9; have h7 := hW_25.1; omega) (Nat.le_trans (Nat.le_refl _) (show (g_8 57 6).toNatClampNeg ≤ (z_36.1 57 6).toNatClampNeg from by rw [ez_36]; exact pg_X12_fails (by rw [eg_8]; exact pr_X12_nextToken hW_25.2)))), (by rw [ez_36]; exact pr_X12_fails (by rw [eg_8]; exact pr_X12_nextToken hW_25.2))⟩⟩)
                  · by_cases c_37 : (g_8 57 8) = 114
                    · have b_38 : wx_b (g_8 57 8) 114 114 := by rw [c_37]; exact ⟨by decide, by decide⟩
                      by_cases c_39 : (g_8 57 18) = 0
                      · have b_40 : wx_b (g_8 57 18) 0 0 := by rw [c_39]; exact ⟨by decide, by decide⟩
                        obtain ⟨z_41, ez_41⟩ : ∃ z, z = f_X12_isPerson g_8 := ⟨_, rfl⟩
                        rw [show (b_X12_isRead_25 g g_1 g_2 g_3 g_4 z_5) t_25 s_25 = .inl (z_41.1, z_41.2) from (by subst ez_41 eg_8; simp only [b_X12_isRead_25, if_neg c_6, if_neg c_9, if_neg c_12, if_neg c_15, if_neg c_18, if_neg c_21, if_neg c_24, if_neg c_26, if_pos c_37, if_pos c_39])]
                        exact (Or.inl ⟨_, rfl, ⟨(Nat.le_trans (by have h9 := ps_X12_nextToken hW_25.2 (by rw [← eg_8]; exact c_24); rw [← eg_8] at h9; have h7 := hW_25.1; omega) (Nat.le_trans (Nat.le_refl _) (show (g_8 57 6).toNatClampNeg ≤ (z_41.1 57 6).toNatClampNeg from by rw [ez_41]; exact pg_X12_isPerson (by rw [eg_8]; exact pr_X12_nextToken hW_25.2)))), (by rw [ez_41]; exact pr_X12_isPerson (by rw [eg_8]; exact pr_X12_nextToken hW_25.2))⟩⟩)
                      · have b_42 : wx_b (g_8 57 18) 1 4 := wb_nel c_39 (show wx_b (g_8 57 18) 0 4 by rw [show (g_8 57 18) = (s_25.1 57 18) from (by rw [eg_8, fj_X12_nextToken (by decide) (by decide) (by decide) (by decide) (by decide)])]; exact (show wx_PR s_25.1 from hW_25.2).2.2.2.2.1) (by decide)
                        obtain ⟨z_43, ez_43⟩ : ∃ z, z = f_X12_fails g_8 1 := ⟨_, rfl⟩
                        rw [show (b_X12_isRead_25 g g_1 g_2 g_3 g_4 z_5) t_25 s_25 = .inl (z_43.1, z_43.2) from (by subst ez_43 eg_8; simp only [b_X12_isRead_25, if_neg c_6, if_neg c_9, if_neg c_12, if_neg c_15, if_neg c_18, if_neg c_21, if_neg c_24, if_neg c_26, if_pos c_37, if_neg c_39])]
                        exact (Or.inl ⟨_, rfl, ⟨(Nat.le_trans (by have h9 := ps_X12_nextToken hW_25.2 (by rw [← eg_8]; exact c_24); rw [← eg_8] at h9; have h7 := hW_25.1; omega) (Nat.le_trans (Nat.le_refl _) (show (g_8 57 6).toNatClampNeg ≤ (z_43.1 57 6).toNatClampNeg from by rw [ez_43]; exact pg_X12_fails (by rw [eg_8]; exact pr_X12_nextToken hW_25.2)))), (by rw [ez_43]; exact pr_X12_fails (by rw [eg_8]; exact pr_X12_nextToken hW_25.2))⟩⟩)
                    · obtain ⟨z_44, ez_44⟩ : ∃ z, z = f_X12_fails g_8 1 := ⟨_, rfl⟩
                      rw [show (b_X12_isRead_25 g g_1 g_2 g_3 g_4 z_5) t_25 s_25 = .inl (z_44.1, z_44.2) from (by subst ez_44 eg_8; simp only [b_X12_isRead_25, if_neg c_6, if_neg c_9, if_neg c_12, if_neg c_15, if_neg c_18, if_neg c_21, if_neg c_24, if_neg c_26, if_neg c_37])]
                      exact (Or.inl ⟨_, rfl, ⟨(Nat.le_trans (by have h9 := ps_X12_nextToken hW_25.2 (by rw [← eg_8]; exact c_24); rw [← eg_8] at h9; have h7 := hW_25.1; omega) (Nat.le_trans (Nat.le_refl _) (show (g_8 57 6).toNatClampNeg ≤ (z_44.1 57 6).toNatClampNeg from by rw [ez_44]; exact pg_X12_fails (by rw [eg_8]; exact pr_X12_nextToken hW_25.2)))), (by rw [ez_44]; exact pr_X12_fails (by rw [eg_8]; exact pr_X12_nextToken hW_25.2))⟩⟩))
  cases hc_25 : repX 142 (b_X12_isRead_25 g g_1 g_2 g_3 g_4 z_5) (z_5.1, z_5.2) with
  | inr r_25 =>
    rw [show f_X12_isRead g = r_25 from (by subst ez_5 eg_4 eg_3 eg_2 eg_1; show (match (_ : (wx_M × Int32) ⊕ (wx_M × Int32)) with | .inl _ => _ | .inr r9 => r9) = _; rw [hc_25])]
    exact lp_25.2 _ hc_25
  | inl s_25 =>
    have h9 := lp_25.1 _ hc_25
    have hW_25 := h9
    exact absurd hW_25.1 (by have h9 := wb_cl (n := 140) hW_25.2.1.2.1 (by decide); omega)

set_option maxRecDepth 100000 in
set_option maxHeartbeats 4000000 in
theorem pr2_X12_isRead {g : wx_M} (hpr : wx_PQ g) : wx_PR (f_X12_isRead g).1 := by
  obtain ⟨g_1, eg_1⟩ : ∃ z : wx_M, z = up2 g 57 6 0 := ⟨_, rfl⟩
  obtain ⟨g_2, eg_2⟩ : ∃ z : wx_M, z = up2 g_1 57 14 0 := ⟨_, rfl⟩
  obtain ⟨g_3, eg_3⟩ : ∃ z : wx_M, z = up2 g_2 57 16 0 := ⟨_, rfl⟩
  obtain ⟨g_4, eg_4⟩ : ∃ z : wx_M, z = up2 g_3 57 18 0 := ⟨_, rfl⟩
  obtain ⟨z_5, ez_5⟩ : ∃ z, z = f_X12_isLaw g_4 := ⟨_, rfl⟩
  have lp_25 := repX_inv2 (f := (b_X12_isRead_25 g g_1 g_2 g_3 g_4 z_5)) (s0 := (z_5.1, z_5.2)) (fun (t_25 : Nat) (s_25 : wx_M × Int32) => (t_25 ≤ (s_25.1 57 6).toNatClampNeg ∧ wx_PR s_25.1)) (fun r => wx_PR (r).1) 142 ⟨Nat.zero_le _, (by rw [ez_5]; exact pr_X12_isLaw (by rw [eg_4]; exact pr_18 (wb_w (show wx_b 0 0 0 from ⟨by decide, by decide⟩) (by decide) (by decide)) (by rw [eg_3]; exact pr_16 (wb_w (show wx_b 0 0 0 from ⟨by decide, by decide⟩) (by decide) (by decide)) (by rw [eg_2]; exact pr_14 (wb_w (show wx_b 0 0 0 from ⟨by decide, by decide⟩) (by decide) (by decide)) (by rw [eg_1]; exact pq_p0 hpr)))))⟩ (by
    intro t_25 s_25 hlt_25 hI9
    have hW_25 := hI9
    by_cases c_6 : s_25.2 = 0
    · have b_7 : wx_b s_25.2 0 0 := by rw [c_6]; exact ⟨by decide, by decide⟩
      rw [show (b_X12_isRead_25 g g_1 g_2 g_3 g_4 z_5) t_25 s_25 = .inr ((s_25.1, 0)) from (by simp only [b_X12_isRead_25, if_pos c_6])]
      exact (Or.inr ⟨_, rfl, hW_25.2⟩)
    · obtain ⟨g_8, eg_8⟩ : ∃ z : wx_M, z = e_X12_nextToken s_25.1 := ⟨_, rfl⟩
      by_cases c_9 : (g_8 57 8) = 116
      · have b_10 : wx_b (g_8 57 8) 116 116 := by rw [c_9]; exact ⟨by decide, by decide⟩
        obtain ⟨z_11, ez_11⟩ : ∃ z, z = f_X12_isVisitor g_8 1 := ⟨_, rfl⟩
        rw [show (b_X12_isRead_25 g g_1 g_2 g_3 g_4 z_5) t_25 s_25 = .inl (z_11.1, z_11.2) from (by subst ez_11 eg_8; simp only [b_X12_isRead_25, if_neg c_6, if_pos c_9])]
        exact (Or.inl ⟨_, rfl, ⟨(Nat.le_trans (by have h9 := ps_X12_nextToken hW_25.2 (by rw [← eg_8]; exact (wb_neq b_10 (show wx_b (-2) (-2) (-2) from ⟨by decide, by decide⟩) (by decide))); rw [← eg_8] at h9; have h7 := hW_25.1; omega) (Nat.le_trans (Nat.le_refl _) (show (g_8 57 6).toNatClampNeg ≤ (z_11.1 57 6).toNatClampNeg from by rw [ez_11]; exact pg_X12_isVisitor (by rw [eg_8]; exact pr_X12_nextToken hW_25.2)))), (by rw [ez_11]; exact pr_X12_isVisitor (by rw [eg_8]; exact pr_X12_nextToken hW_25.2))⟩⟩)
      · by_cases c_12 : (g_8 57 8) = 108
        · have b_13 : wx_b (g_8 57 8) 108 108 := by rw [c_12]; exact ⟨by decide, by decide⟩
          obtain ⟨z_14, ez_14⟩ : ∃ z, z = f_X12_isVisitor g_8 2 := ⟨_, rfl⟩
          rw [show (b_X12_isRead_25 g g_1 g_2 g_3 g_4 z_5) t_25 s_25 = .inl (z_14.1, z_14.2) from (by subst ez_14 eg_8; simp only [b_X12_isRead_25, if_neg c_6, if_neg c_9, if_pos c_12])]
          exact (Or.inl ⟨_, rfl, ⟨(Nat.le_trans (by have h9 := ps_X12_nextToken hW_25.2 (by rw [← eg_8]; exact (wb_neq b_13 (show wx_b (-2) (-2) (-2) from ⟨by decide, by decide⟩) (by decide))); rw [← eg_8] at h9; have h7 := hW_25.1; omega) (Nat.le_trans (Nat.le_refl _) (show (g_8 57 6).toNatClampNeg ≤ (z_14.1 57 6).toNatClampNeg from by rw [ez_14]; exact pg_X12_isVisitor (by rw [eg_8]; exact pr_X12_nextToken hW_25.2)))), (by rw [ez_14]; exact pr_X12_isVisitor (by rw [eg_8]; exact pr_X12_nextToken hW_25.2))⟩⟩)
        · by_cases c_15 : (g_8 57 8) = 100
          · have b_16 : wx_b (g_8 57 8) 100 100 := by rw [c_15]; exact ⟨by decide, by decide⟩
            obtain ⟨z_17, ez_17⟩ : ∃ z, z = f_X12_isVisitor g_8 3 := ⟨_, rfl⟩
            rw [show (b_X12_isRead_25 g g_1 g_2 g_3 g_4 z_5) t_25 s_25 = .inl (z_17.1, z_17.2) from (by subst ez_17 eg_8; simp only [b_X12_isRead_25, if_neg c_6, if_neg c_9, if_neg c_12, if_pos c_15])]
            exact (Or.inl ⟨_, rfl, ⟨(Nat.le_trans (by have h9 := ps_X12_nextToken hW_25.2 (by rw [← eg_8]; exact (wb_neq b_16 (show wx_b (-2) (-2) (-2) from ⟨by decide, by decide⟩) (by decide))); rw [← eg_8] at h9; have h7 := hW_25.1; omega) (Nat.le_trans (Nat.le_refl _) (show (g_8 57 6).toNatClampNeg ≤ (z_17.1 57 6).toNatClampNeg from by rw [ez_17]; exact pg_X12_isVisitor (by rw [eg_8]; exact pr_X12_nextToken hW_25.2)))), (by rw [ez_17]; exact pr_X12_isVisitor (by rw [eg_8]; exact pr_X12_nextToken hW_25.2))⟩⟩)
          · by_cases c_18 : (g_8 57 8) = 119
            · have b_19 : wx_b (g_8 57 8) 119 119 := by rw [c_18]; exact ⟨by decide, by decide⟩
              obtain ⟨z_20, ez_20⟩ : ∃ z, z = f_X12_isVisitor g_8 4 := ⟨_, rfl⟩
              rw [show (b_X12_isRead_25 g g_1 g_2 g_3 g_4 z_5) t_25 s_25 = .inl (z_20.1, z_20.2) from (by subst ez_20 eg_8; simp only [b_X12_isRead_25, if_neg c_6, if_neg c_9, if_neg c_12, if_neg c_15, if_pos c_18])]
              exact (Or.inl ⟨_, rfl, ⟨(Nat.le_trans (by have h9 := ps_X12_nextToken hW_25.2 (by rw [← eg_8]; exact (wb_neq b_19 (show wx_b (-2) (-2) (-2) from ⟨by decide, by decide⟩) (by decide))); rw [← eg_8] at h9; have h7 := hW_25.1; omega) (Nat.le_trans (Nat.le_refl _) (show (g_8 57 6).toNatClampNeg ≤ (z_20.1 57 6).toNatClampNeg from by rw [ez_20]; exact pg_X12_isVisitor (by rw [eg_8]; exact pr_X12_nextToken hW_25.2)))), (by rw [ez_20]; exact pr_X12_isVisitor (by rw [eg_8]; exact pr_X12_nextToken hW_25.2))⟩⟩)
            · by_cases c_21 : (g_8 57 8) = 97
              · have b_22 : wx_b (g_8 57 8) 97 97 := by rw [c_21]; exact ⟨by decide, by decide⟩
                obtain ⟨z_23, ez_23⟩ : ∃ z, z = f_X12_isVisitor g_8 5 := ⟨_, rfl⟩
                rw [show (b_X12_isRead_25 g g_1 g_2 g_3 g_4 z_5) t_25 s_25 = .inl (z_23.1, z_23.2) from (by subst ez_23 eg_8; simp only [b_X12_isRead_25, if_neg c_6, if_neg c_9, if_neg c_12, if_neg c_15, if_neg c_18, if_pos c_21])]
                exact (Or.inl ⟨_, rfl, ⟨(Nat.le_trans (by have h9 := ps_X12_nextToken hW_25.2 (by rw [← eg_8]; exact (wb_neq b_22 (show wx_b (-2) (-2) (-2) from ⟨by decide, by decide⟩) (by decide))); rw [← eg_8] at h9; have h7 := hW_25.1; omega) (Nat.le_trans (Nat.le_refl _) (show (g_8 57 6).toNatClampNeg ≤ (z_23.1 57 6).toNatClampNeg from by rw [ez_23]; exact pg_X12_isVisitor (by rw [eg_8]; exact pr_X12_nextToken hW_25.2)))), (by rw [ez_23]; exact pr_X12_isVisitor (by rw [eg_8]; exact pr_X12_nextToken hW_25.2))⟩⟩)
              · by_cases c_24 : (g_8 57 8) = (-2)
                · have b_25 : wx_b (g_8 57 8) (-2) (-2) := by rw [c_24]; exact ⟨by decide, by decide⟩
                  rw [show (b_X12_isRead_25 g g_1 g_2 g_3 g_4 z_5) t_25 s_25 = .inr ((g_8, 1)) from (by subst eg_8; simp only [b_X12_isRead_25, if_neg c_6, if_neg c_9, if_neg c_12, if_neg c_15, if_neg c_18, if_neg c_21, if_pos c_24])]
                  exact (Or.inr ⟨_, rfl, (by rw [eg_8]; exact pr_X12_nextToken hW_25.2)⟩)
                · by_cases c_26 : (g_8 57 8) = 103
                  · have b_27 : wx_b (g_8 57 8) 103 103 := by rw [c_26]; exact ⟨by decide, by decide⟩
                    by_cases c_28 : (g_8 57 16) = 0
                    · have b_29 : wx_b (g_8 57 16) 0 0 := by rw [c_28]; exact ⟨by decide, by decide⟩
                      by_cases c_30 : (g_8 57 18) = 0
                      · have b_31 : wx_b (g_8 57 18) 0 0 := by rw [c_30]; exact ⟨by decide, by decide⟩
                        obtain ⟨z_32, ez_32⟩ : ∃ z, z = f_X12_isWall g_8 := ⟨_, rfl⟩
                        rw [show (b_X12_isRead_25 g g_1 g_2 g_3 g_4 z_5) t_25 s_25 = .inl (z_32.1, z_32.2) from (by subst ez_32 eg_8; simp only [b_X12_isRead_25, if_neg c_6, if_neg c_9, if_neg c_12, if_neg c_15, if_neg c_18, if_neg c_21, if_neg c_24, if_pos c_26, if_pos c_28, if_pos c_30])]
                        exact (Or.inl ⟨_, rfl, ⟨(Nat.le_trans (by have h9 := ps_X12_nextToken hW_25.2 (by rw [← eg_8]; exact c_24); rw [← eg_8] at h9; have h7 := hW_25.1; omega) (Nat.le_trans (Nat.le_refl _) (show (g_8 57 6).toNatClampNeg ≤ (z_32.1 57 6).toNatClampNeg from by rw [ez_32]; exact pg_X12_isWall (by rw [eg_8]; exact pr_X12_nextToken hW_25.2)))), (by rw [ez_32]; exact pr_X12_isWall (by rw [eg_8]; exact pr_X12_nextToken hW_25.2))⟩⟩)
                      · have b_33 : wx_b (g_8 57 18) 1 4 := wb_nel c_30 (show wx_b (g_8 57 18) 0 4 by rw [show (g_8 57 18) = (s_25.1 57 18) from (by rw [eg_8, fj_X12_nextToken (by decide) (by decide) (by decide) (by decide) (by decide)])]; exact (show wx_PR s_25.1 from hW_25.2).2.2.2.2.1) (by decide)
                        obtain ⟨z_34, ez_34⟩ : ∃ z, z = f_X12_fails g_8 1 := ⟨_, rfl⟩
                        rw [show (b_X12_isRead_25 g g_1 g_2 g_3 g_4 z_5) t_25 s_25 = .inl (z_34.1, z_34.2) from (by subst ez_34 eg_8; simp only [b_X12_isRead_25, if_neg c_6, if_neg c_9, if_neg c_12, if_neg c_15, if_neg c_18, if_neg c_21, if_neg c_24, if_pos c_26, if_pos c_28, if_neg c_30])]
                        exact (Or.inl ⟨_, rfl, ⟨(Nat.le_trans (by have h9 := ps_X12_nextToken hW_25.2 (by rw [← eg_8]; exact c_24); rw [← eg_8] at h9; have h7 := hW_25.1; omega) (Nat.le_trans (Nat.le_refl _) (show (g_8 57 6).toNatClampNeg ≤ (z_34.1 57 6).toNatClampNeg from by rw [ez_34]; exact pg_X12_fails (by rw [eg_8]; exact pr_X12_nextToken hW_25.2)))), (by rw [ez_34]; exact pr_X12_fails (by rw [eg_8]; exact pr_X12_nextToken hW_25.2))⟩⟩)
                    · have b_35 : wx_b (g_8 57 16) 1 4 := wb_nel c_28 (show wx_b (g_8 57 16) 0 4 by rw [show (g_8 57 16) = (s_25.1 57 16) from (by rw [eg_8, fj_X12_nextToken (by decide) (by decide) (by decide) (by decide) (by decide)])]; exact (show wx_PR s_25.1 from hW_25.2).2.2.2.1) (by decide)
                      obtain ⟨z_36, ez_36⟩ : ∃ z, z = f_X12_fails g_8 1 := ⟨_, rfl⟩
                      rw [show (b_X12_isRead_25 g g_1 g_2 g_3 g_4 z_5) t_25 s_25 = .inl (z_36.1, z_36.2) from (by subst ez_36 eg_8; simp only [b_X12_isRead_25, if_neg c_6, if_neg c_9, if_neg c_12, if_neg c_15, if_neg c_18, if_neg c_21, if_neg c_24, if_pos c_26, if_neg c_28])]
                      exact (Or.inl ⟨_, rfl, ⟨(Nat.le_trans (by have h9 := ps_X12_nextToken hW_25.2 (by rw [← eg_8]; exact c_24); rw [← eg_8] at h9; have h7 := hW_25.1; omega) (Nat.le_trans (Nat.le_refl _) (show (g_8 57 6).toNatClampNeg ≤ (z_36.1 57 6).toNatClampNeg from by rw [ez_36]; exact pg_X12_fails (by rw [eg_8]; exact pr_X12_nextToken hW_25.2)))), (by rw [ez_36]; exact pr_X12_fails (by rw [eg_8]; exact pr_X12_nextToken hW_25.2))⟩⟩)
                  · by_cases c_37 : (g_8 57 8) = 114
                    · have b_38 : wx_b (g_8 57 8) 114 114 := by rw [c_37]; exact ⟨by decide, by decide⟩
                      by_cases c_39 : (g_8 57 18) = 0
                      · have b_40 : wx_b (g_8 57 18) 0 0 := by rw [c_39]; exact ⟨by decide, by decide⟩
                        obtain ⟨z_41, ez_41⟩ : ∃ z, z = f_X12_isPerson g_8 := ⟨_, rfl⟩
                        rw [show (b_X12_isRead_25 g g_1 g_2 g_3 g_4 z_5) t_25 s_25 = .inl (z_41.1, z_41.2) from (by subst ez_41 eg_8; simp only [b_X12_isRead_25, if_neg c_6, if_neg c_9, if_neg c_12, if_neg c_15, if_neg c_18, if_neg c_21, if_neg c_24, if_neg c_26, if_pos c_37, if_pos c_39])]
                        exact (Or.inl ⟨_, rfl, ⟨(Nat.le_trans (by have h9 := ps_X12_nextToken hW_25.2 (by rw [← eg_8]; exact c_24); rw [← eg_8] at h9; have h7 := hW_25.1; omega) (Nat.le_trans (Nat.le_refl _) (show (g_8 57 6).toNatClampNeg ≤ (z_41.1 57 6).toNatClampNeg from by rw [ez_41]; exact pg_X12_isPerson (by rw [eg_8]; exact pr_X12_nextToken hW_25.2)))), (by rw [ez_41]; exact pr_X12_isPerson (by rw [eg_8]; exact pr_X12_nextToken hW_25.2))⟩⟩)
                      · have b_42 : wx_b (g_8 57 18) 1 4 := wb_nel c_39 (show wx_b (g_8 57 18) 0 4 by rw [show (g_8 57 18) = (s_25.1 57 18) from (by rw [eg_8, fj_X12_nextToken (by decide) (by decide) (by decide) (by decide) (by decide)])]; exact (show wx_PR s_25.1 from hW_25.2).2.2.2.2.1) (by decide)
                        obtain ⟨z_43, ez_43⟩ : ∃ z, z = f_X12_fails g_8 1 := ⟨_, rfl⟩
                        rw [show (b_X12_isRead_25 g g_1 g_2 g_3 g_4 z_5) t_25 s_25 = .inl (z_43.1, z_43.2) from (by subst ez_43 eg_8; simp only [b_X12_isRead_25, if_neg c_6, if_neg c_9, if_neg c_12, if_neg c_15, if_neg c_18, if_neg c_21, if_neg c_24, if_neg c_26, if_pos c_37, if_neg c_39])]
                        exact (Or.inl ⟨_, rfl, ⟨(Nat.le_trans (by have h9 := ps_X12_nextToken hW_25.2 (by rw [← eg_8]; exact c_24); rw [← eg_8] at h9; have h7 := hW_25.1; omega) (Nat.le_trans (Nat.le_refl _) (show (g_8 57 6).toNatClampNeg ≤ (z_43.1 57 6).toNatClampNeg from by rw [ez_43]; exact pg_X12_fails (by rw [eg_8]; exact pr_X12_nextToken hW_25.2)))), (by rw [ez_43]; exact pr_X12_fails (by rw [eg_8]; exact pr_X12_nextToken hW_25.2))⟩⟩)
                    · obtain ⟨z_44, ez_44⟩ : ∃ z, z = f_X12_fails g_8 1 := ⟨_, rfl⟩
                      rw [show (b_X12_isRead_25 g g_1 g_2 g_3 g_4 z_5) t_25 s_25 = .inl (z_44.1, z_44.2) from (by subst ez_44 eg_8; simp only [b_X12_isRead_25, if_neg c_6, if_neg c_9, if_neg c_12, if_neg c_15, if_neg c_18, if_neg c_21, if_neg c_24, if_neg c_26, if_neg c_37])]
                      exact (Or.inl ⟨_, rfl, ⟨(Nat.le_trans (by have h9 := ps_X12_nextToken hW_25.2 (by rw [← eg_8]; exact c_24); rw [← eg_8] at h9; have h7 := hW_25.1; omega) (Nat.le_trans (Nat.le_refl _) (show (g_8 57 6).toNatClampNeg ≤ (z_44.1 57 6).toNatClampNeg from by rw [ez_44]; exact pg_X12_fails (by rw [eg_8]; exact pr_X12_nextToken hW_25.2)))), (by rw [ez_44]; exact pr_X12_fails (by rw [eg_8]; exact pr_X12_nextToken hW_25.2))⟩⟩))
  cases hc_25 : repX 142 (b_X12_isRead_25 g g_1 g_2 g_3 g_4 z_5) (z_5.1, z_5.2) with
  | inr r_25 =>
    rw [show f_X12_isRead g = r_25 from (by subst ez_5 eg_4 eg_3 eg_2 eg_1; show (match (_ : (wx_M × Int32) ⊕ (wx_M × Int32)) with | .inl _ => _ | .inr r9 => r9) = _; rw [hc_25])]
    exact lp_25.2 _ hc_25
  | inl s_25 =>
    have h9 := lp_25.1 _ hc_25
    have hW_25 := h9
    exact absurd hW_25.1 (by have h9 := wb_cl (n := 140) hW_25.2.1.2.1 (by decide); omega)

set_option maxHeartbeats 4000000 in
set_option maxRecDepth 100000 in
theorem k2_X12_house (l : Launch) {D : va_G} {cy : Nat → ClassId} {ad : Nat → Nat} {B0 : Nat} {f : wx_F} {P : va_W} (g : wx_M) (hpr : wx_PQ g) : Met l yX12_house wsX12_house ({ frames := 5, cells := 0, slots := 0, locals := 108 } : Room) (wx_Pc D cy ad B0 f P g [.ref (ad 57)]) (wx_Qe D cy ad B0 f P (f_X12_house g).1 (some (.int (f_X12_house g).2))) 0 0 (fun q => B0 ≤ q) := by
  refine wx_enterE (cc := cX12_house) (maxL := 5) (ty := .int) (own := RX12) (lv := [(0, .ref (ad 57))]) (by decide) rfl rfl (Nat.le_of_ble_eq_true rfl) rfl ?_
  intro p e R s m args below meth c ls Qm hx hb hml hown hts hK hX hS hR hret hl
  have hi_X12 : ∀ w ∈ wsX120, w ∈ wsX12_house := by decide +kernel
  refine lv_aload_n hx hb dX12_house_0 rfl (lv_at hl 0 rfl) ?_
  refine wx_callei (va_runV (As := []) (rest := []) ⟨hx, hb, hml, hown, hts⟩ (k2_X12_isRead l g hpr) (cwV 0 hts gX12_house_X12_isRead rfl rfl rfl (by decide +kernel) (by rw [hR]; exact ⟨Nat.le_of_ble_eq_true rfl, Nat.le_of_ble_eq_true rfl⟩)) ⟨wx_Pc.blind, wx_recv hK hX (by decide) sh_X12 rfl, (wx_Pc.pre hK hX).2⟩ rfl rfl hl.1 rfl (lv_room (Nat.le_of_ble_eq_true rfl)) dX12_house_1 ⟨Nat.zero_le _, Nat.zero_le _⟩) hS (fun H locs hX hS => ?_)
  obtain ⟨z_1, ez_1⟩ : ∃ z, z = f_X12_isRead g := ⟨_, rfl⟩
  rw [← ez_1] at hX; rw [← ez_1]
  refine lv_istore_n (lv' := [(1, .int z_1.2), (0, .ref (ad 57))]) hx hb dX12_house_4 rfl hl (by decide) rfl (fun ls hl => ?_)
  refine lv_aload_n hx hb dX12_house_5 rfl (lv_at hl 1 rfl) ?_
  refine lv_iconst (v := 0) hx hb dX12_house_6 (by decide) ?_
  refine wx_puti (C := RX12) (T := TX12) (N := 27) (ci := 11) (j := 4) (ty := .int) hx hb hts hi_X12 tyX12 tyX12_ok nmX12 hown hK hX hS (by decide) sh_X12_4 rfl (by decide) (hts (.fieldLink RX12 71 "SeenAgainModel" "bytes" "I") (by decide +kernel)) (fun _ h9 => h9) rfl (by decide +kernel) rfl rfl dX12_house_7 (fun H locs hX hS => ?_)
  obtain ⟨g_2, eg_2, hX⟩ := wx_nm hX
  refine lv_iload_n hx hb dX12_house_10 rfl (lv_at hl 0 rfl) ?_
  refine lv_if_ne (tgt := 22) hx hb dX12_house_11 (by decide) (fun c_3 => ?_) (fun c_3 => ?_)
  · refine lv_iconst (v := 0) hx hb dX12_house_22 (by decide) ?_
    refine lv_istore_n (lv' := [(2, .int 0), (1, .int z_1.2), (0, .ref (ad 57))]) hx hb dX12_house_23 rfl hl (by decide) rfl (fun ls hl => ?_)
    have lp_24 : ∀ (n t_24 : Nat) (s_24 : wx_M) (ls : Array Slot) (H : Heap) (locs : List Loc), t_24 ≤ 149 → 149 + 1 ≤ t_24 + n → s_24 = rep t_24 (b_X12_house_24 g z_1 g_2) g_2 → wx_X D cy ad B0 f P s_24 H → va_S (fun q => B0 ≤ q) s.heap H locs → (∀ k, k ≠ 65 → s_24 k = g_2 k) → lv_has ls 5 [(2, .int (nI t_24)), (0, .ref (ad 57))] → W p l e R s m args below meth c H locs 0 0 Qm (F0 m 24 ls []) := by
      intro n
      induction n with
      | zero => intro t_24 s_24 ls H locs h1 h2; exact absurd h2 (by omega)
      | succ n ih_24 =>
        intro t_24 s_24 ls H locs ht_24 hn_24 es_24 hX hS hF_24 hl
        refine lv_iload_n hx hb dX12_house_24 rfl (lv_at hl 0 rfl) ?_
        refine lv_sipush (v := 149) hx hb dX12_house_25 (by decide) ?_
        refine lv_icmp_ge (tgt := 44) hx hb dX12_house_28 (by decide) (fun c_4 => ?_) (fun c_4 => ?_)
        · have et_24 : t_24 = 149 := Nat.le_antisymm ht_24 (by have h9 := wx_dn (by omega) c_4; have h8 : (149 : Int32).toNatClampNeg = 149 := (by decide); omega)
          subst et_24
          refine lv_aload_n hx hb dX12_house_44 rfl (lv_at hl 1 rfl) ?_
          refine wx_getr (t := 65) (C := RX12) (T := TX12) (N := 27) (ci := 11) (j := 20) hx hb hts hi_X12 hown hK hX (by decide) sh_X12_20 rfl (by decide) (hts (.fieldLink RX12 31 "SeenAgainModel" "now" "[I") (by decide +kernel)) (fun _ h9 => h9) dX12_house_45 ?_
          refine lv_iconst (v := 0) hx hb dX12_house_48 (by decide) ?_
          refine lv_aload_n hx hb dX12_house_49 rfl (lv_at hl 1 rfl) ?_
          refine wx_geti (C := RX12) (T := TX12) (N := 27) (ci := 11) (j := 11) hx hb hts hi_X12 hown hK hX (by decide) sh_X12_11 rfl (by decide) (hts (.fieldLink RX12 100 "SeenAgainModel" "readRooms" "I") (by decide +kernel)) (fun _ h9 => h9) dX12_house_50 ?_
          refine lv_topi (fun x_5 ex_5 => ?_)
          have bx_5 : wx_b x_5 0 6 := by rw [ex_5]; exact (show wx_b (s_24 57 11) 0 6 by rw [show (s_24 57 11) = (g_2 57 11) from (by rw [hF_24 57 (by decide)])]; exact (show wx_b (g_2 57 11) 0 6 by rw [show (g_2 57 11) = (z_1.1 57 11) from (by rw [eg_2, up2_sn (by decide)])]; exact (show wx_PR z_1.1 from (by rw [ez_1]; exact pr2_X12_isRead hpr)).2.1))
          refine wx_iast hx hb hK hX hS (by decide) sa_65 (wb_in (show wx_b 0 0 0 from ⟨by decide, by decide⟩) (by decide) (by decide)) dX12_house_53 (fun H locs hX hS => ?_)
          obtain ⟨g_6, eg_6, hX⟩ := wx_nm hX
          refine lv_aload_n hx hb dX12_house_54 rfl (lv_at hl 1 rfl) ?_
          refine wx_getr (t := 65) (C := RX12) (T := TX12) (N := 27) (ci := 11) (j := 20) hx hb hts hi_X12 hown hK hX (by decide) sh_X12_20 rfl (by decide) (hts (.fieldLink RX12 31 "SeenAgainModel" "now" "[I") (by decide +kernel)) (fun _ h9 => h9) dX12_house_55 ?_
          refine lv_iconst (v := 1) hx hb dX12_house_58 (by decide) ?_
          refine lv_aload_n hx hb dX12_house_59 rfl (lv_at hl 1 rfl) ?_
          refine wx_geti (C := RX12) (T := TX12) (N := 27) (ci := 11) (j := 12) hx hb hts hi_X12 hown hK hX (by decide) sh_X12_12 rfl (by decide) (hts (.fieldLink RX12 106 "SeenAgainModel" "readSeats" "I") (by decide +kernel)) (fun _ h9 => h9) dX12_house_60 ?_
          refine lv_topi (fun x_7 ex_7 => ?_)
          refine wx_iast hx hb hK hX hS (by decide) sa_65 (wb_in (show wx_b 1 1 1 from ⟨by decide, by decide⟩) (by decide) (by decide)) dX12_house_63 (fun H locs hX hS => ?_)
          obtain ⟨g_8, eg_8, hX⟩ := wx_nm hX
          refine lv_aload_n hx hb dX12_house_64 rfl (lv_at hl 1 rfl) ?_
          refine wx_getr (t := 65) (C := RX12) (T := TX12) (N := 27) (ci := 11) (j := 20) hx hb hts hi_X12 hown hK hX (by decide) sh_X12_20 rfl (by decide) (hts (.fieldLink RX12 31 "SeenAgainModel" "now" "[I") (by decide +kernel)) (fun _ h9 => h9) dX12_house_65 ?_
          refine lv_iconst (v := 2) hx hb dX12_house_68 (by decide) ?_
          refine lv_aload_n hx hb dX12_house_69 rfl (lv_at hl 1 rfl) ?_
          refine wx_geti (C := RX12) (T := TX12) (N := 27) (ci := 11) (j := 13) hx hb hts hi_X12 hown hK hX (by decide) sh_X12_13 rfl (by decide) (hts (.fieldLink RX12 109 "SeenAgainModel" "readFee" "I") (by decide +kernel)) (fun _ h9 => h9) dX12_house_70 ?_
          refine lv_topi (fun x_9 ex_9 => ?_)
          refine wx_iast hx hb hK hX hS (by decide) sa_65 (wb_in (show wx_b 2 2 2 from ⟨by decide, by decide⟩) (by decide) (by decide)) dX12_house_73 (fun H locs hX hS => ?_)
          obtain ⟨g_10, eg_10, hX⟩ := wx_nm hX
          refine lv_aload_n hx hb dX12_house_74 rfl (lv_at hl 1 rfl) ?_
          refine wx_getr (t := 65) (C := RX12) (T := TX12) (N := 27) (ci := 11) (j := 20) hx hb hts hi_X12 hown hK hX (by decide) sh_X12_20 rfl (by decide) (hts (.fieldLink RX12 31 "SeenAgainModel" "now" "[I") (by decide +kernel)) (fun _ h9 => h9) dX12_house_75 ?_
          refine lv_iconst (v := 3) hx hb dX12_house_78 (by decide) ?_
          refine lv_aload_n hx hb dX12_house_79 rfl (lv_at hl 1 rfl) ?_
          refine wx_geti (C := RX12) (T := TX12) (N := 27) (ci := 11) (j := 16) hx hb hts hi_X12 hown hK hX (by decide) sh_X12_16 rfl (by decide) (hts (.fieldLink RX12 115 "SeenAgainModel" "readPeople" "I") (by decide +kernel)) (fun _ h9 => h9) dX12_house_80 ?_
          refine lv_topi (fun x_11 ex_11 => ?_)
          have bx_11 : wx_b x_11 0 4 := by rw [ex_11]; exact (show wx_b (g_10 57 16) 0 4 by rw [show (g_10 57 16) = (g_8 57 16) from (by rw [eg_10, up2_n (by decide)])]; exact (show wx_b (g_8 57 16) 0 4 by rw [show (g_8 57 16) = (g_6 57 16) from (by rw [eg_8, up2_n (by decide)])]; exact (show wx_b (g_6 57 16) 0 4 by rw [show (g_6 57 16) = (s_24 57 16) from (by rw [eg_6, up2_n (by decide)])]; exact (show wx_b (s_24 57 16) 0 4 by rw [show (s_24 57 16) = (g_2 57 16) from (by rw [hF_24 57 (by decide)])]; exact (show wx_b (g_2 57 16) 0 4 by rw [show (g_2 57 16) = (z_1.1 57 16) from (by rw [eg_2, up2_sn (by decide)])]; exact (show wx_PR z_1.1 from (by rw [ez_1]; exact pr2_X12_isRead hpr)).2.2.2.1)))))
          refine wx_iast hx hb hK hX hS (by decide) sa_65 (wb_in (show wx_b 3 3 3 from ⟨by decide, by decide⟩) (by decide) (by decide)) dX12_house_83 (fun H locs hX hS => ?_)
          obtain ⟨g_12, eg_12, hX⟩ := wx_nm hX
          refine lv_aload_n hx hb dX12_house_84 rfl (lv_at hl 1 rfl) ?_
          refine wx_getr (t := 65) (C := RX12) (T := TX12) (N := 27) (ci := 11) (j := 20) hx hb hts hi_X12 hown hK hX (by decide) sh_X12_20 rfl (by decide) (hts (.fieldLink RX12 31 "SeenAgainModel" "now" "[I") (by decide +kernel)) (fun _ h9 => h9) dX12_house_85 ?_
          refine lv_iconst (v := 4) hx hb dX12_house_88 (by decide) ?_
          refine lv_aload_n hx hb dX12_house_89 rfl (lv_at hl 1 rfl) ?_
          refine wx_geti (C := RX12) (T := TX12) (N := 27) (ci := 11) (j := 18) hx hb hts hi_X12 hown hK hX (by decide) sh_X12_18 rfl (by decide) (hts (.fieldLink RX12 118 "SeenAgainModel" "readVisitors" "I") (by decide +kernel)) (fun _ h9 => h9) dX12_house_90 ?_
          refine lv_topi (fun x_13 ex_13 => ?_)
          have bx_13 : wx_b x_13 0 4 := by rw [ex_13]; exact (show wx_b (g_12 57 18) 0 4 by rw [show (g_12 57 18) = (g_10 57 18) from (by rw [eg_12, up2_n (by decide)])]; exact (show wx_b (g_10 57 18) 0 4 by rw [show (g_10 57 18) = (g_8 57 18) from (by rw [eg_10, up2_n (by decide)])]; exact (show wx_b (g_8 57 18) 0 4 by rw [show (g_8 57 18) = (g_6 57 18) from (by rw [eg_8, up2_n (by decide)])]; exact (show wx_b (g_6 57 18) 0 4 by rw [show (g_6 57 18) = (s_24 57 18) from (by rw [eg_6, up2_n (by decide)])]; exact (show wx_b (s_24 57 18) 0 4 by rw [show (s_24 57 18) = (g_2 57 18) from (by rw [hF_24 57 (by decide)])]; exact (show wx_b (g_2 57 18) 0 4 by rw [show (g_2 57 18) = (z_1.1 57 18) from (by rw [eg_2, up2_sn (by decide)])]; exact (show wx_PR z_1.1 from (by rw [ez_1]; exact pr2_X12_isRead hpr)).2.2.2.2.1))))))
          refine wx_iast hx hb hK hX hS (by decide) sa_65 (wb_in (show wx_b 4 4 4 from ⟨by decide, by decide⟩) (by decide) (by decide)) dX12_house_93 (fun H locs hX hS => ?_)
          obtain ⟨g_14, eg_14, hX⟩ := wx_nm hX
          refine lv_aload_n hx hb dX12_house_94 rfl (lv_at hl 1 rfl) ?_
          refine wx_getr (t := 65) (C := RX12) (T := TX12) (N := 27) (ci := 11) (j := 20) hx hb hts hi_X12 hown hK hX (by decide) sh_X12_20 rfl (by decide) (hts (.fieldLink RX12 31 "SeenAgainModel" "now" "[I") (by decide +kernel)) (fun _ h9 => h9) dX12_house_95 ?_
          refine lv_sipush (v := 148) hx hb dX12_house_98 (by decide) ?_
          refine lv_aload_n hx hb dX12_house_101 rfl (lv_at hl 1 rfl) ?_
          refine wx_geti (C := RX12) (T := TX12) (N := 27) (ci := 11) (j := 14) hx hb hts hi_X12 hown hK hX (by decide) sh_X12_14 rfl (by decide) (hts (.fieldLink RX12 112 "SeenAgainModel" "readWalls" "I") (by decide +kernel)) (fun _ h9 => h9) dX12_house_102 ?_
          refine lv_topi (fun x_15 ex_15 => ?_)
          have bx_15 : wx_b x_15 0 9 := by rw [ex_15]; exact (show wx_b (g_14 57 14) 0 9 by rw [show (g_14 57 14) = (g_12 57 14) from (by rw [eg_14, up2_n (by decide)])]; exact (show wx_b (g_12 57 14) 0 9 by rw [show (g_12 57 14) = (g_10 57 14) from (by rw [eg_12, up2_n (by decide)])]; exact (show wx_b (g_10 57 14) 0 9 by rw [show (g_10 57 14) = (g_8 57 14) from (by rw [eg_10, up2_n (by decide)])]; exact (show wx_b (g_8 57 14) 0 9 by rw [show (g_8 57 14) = (g_6 57 14) from (by rw [eg_8, up2_n (by decide)])]; exact (show wx_b (g_6 57 14) 0 9 by rw [show (g_6 57 14) = (s_24 57 14) from (by rw [eg_6, up2_n (by decide)])]; exact (show wx_b (s_24 57 14) 0 9 by rw [show (s_24 57 14) = (g_2 57 14) from (by rw [hF_24 57 (by decide)])]; exact (show wx_b (g_2 57 14) 0 9 by rw [show (g_2 57 14) = (z_1.1 57 14) from (by rw [eg_2, up2_sn (by decide)])]; exact (show wx_PR z_1.1 from (by rw [ez_1]; exact pr2_X12_isRead hpr)).2.2.1)))))))
          refine wx_iast hx hb hK hX hS (by decide) sa_65 (wb_in (show wx_b 148 148 148 from ⟨by decide, by decide⟩) (by decide) (by decide)) dX12_house_105 (fun H locs hX hS => ?_)
          obtain ⟨g_16, eg_16, hX⟩ := wx_nm hX
          refine lv_iconst (v := 0) hx hb dX12_house_106 (by decide) ?_
          refine lv_istore_n (lv' := [(2, .int 0), (0, .ref (ad 57))]) hx hb dX12_house_107 rfl hl (by decide) rfl (fun ls hl => ?_)
          have lp_108 : ∀ (n t_108 : Nat) (s_108 : wx_M) (ls : Array Slot) (H : Heap) (locs : List Loc), t_108 ≤ (g_16 57 14).toNatClampNeg → (g_16 57 14).toNatClampNeg + 1 ≤ t_108 + n → s_108 = rep t_108 (b_X12_house_108 g z_1 g_2 s_24 x_5 g_6 x_7 g_8 x_9 g_10 x_11 g_12 x_13 g_14 x_15 g_16) g_16 → wx_X D cy ad B0 f P s_108 H → va_S (fun q => B0 ≤ q) s.heap H locs → (∀ k, k ≠ 65 → s_108 k = g_16 k) → lv_has ls 5 [(2, .int (nI t_108)), (0, .ref (ad 57))] → W p l e R s m args below meth c H locs 0 0 Qm (F0 m 108 ls []) := by
            intro n
            induction n with
            | zero => intro t_108 s_108 ls H locs h1 h2; exact absurd h2 (by omega)
            | succ n ih_108 =>
              intro t_108 s_108 ls H locs ht_108 hn_108 es_108 hX hS hF_108 hl
              refine lv_iload_n hx hb dX12_house_108 rfl (lv_at hl 0 rfl) ?_
              refine lv_aload_n hx hb dX12_house_109 rfl (lv_at hl 1 rfl) ?_
              refine wx_geti (C := RX12) (T := TX12) (N := 27) (ci := 11) (j := 14) hx hb hts hi_X12 hown hK hX (by decide) sh_X12_14 rfl (by decide) (hts (.fieldLink RX12 112 "SeenAgainModel" "readWalls" "I") (by decide +kernel)) (fun _ h9 => h9) dX12_house_110 ?_
              refine lv_icmp_ge (tgt := 186) hx hb dX12_house_113 (by decide) (fun c_17 => ?_) (fun c_17 => ?_)
              · have et_108 : t_108 = (g_16 57 14).toNatClampNeg := Nat.le_antisymm ht_108 (by rw [hF_108 57 (by decide)] at c_17; have h9 := wx_dn (by have := wx_cl31 (g_16 57 14); omega) c_17; omega)
                subst et_108
                refine lv_iconst (v := 0) hx hb dX12_house_186 (by decide) ?_
                refine lv_istore_n (lv' := [(2, .int 0), (0, .ref (ad 57))]) hx hb dX12_house_187 rfl hl (by decide) rfl (fun ls hl => ?_)
                have lp_188 : ∀ (n t_188 : Nat) (s_188 : wx_M) (ls : Array Slot) (H : Heap) (locs : List Loc), t_188 ≤ (8 * (s_108 57 16)).toNatClampNeg → (8 * (s_108 57 16)).toNatClampNeg + 1 ≤ t_188 + n → s_188 = rep t_188 (b_X12_house_188 g z_1 g_2 s_24 x_5 g_6 x_7 g_8 x_9 g_10 x_11 g_12 x_13 g_14 x_15 g_16 s_108) s_108 → wx_X D cy ad B0 f P s_188 H → va_S (fun q => B0 ≤ q) s.heap H locs → (∀ k, k ≠ 65 → s_188 k = s_108 k) → lv_has ls 5 [(2, .int (nI t_188)), (0, .ref (ad 57))] → W p l e R s m args below meth c H locs 0 0 Qm (F0 m 188 ls []) := by
                  intro n
                  induction n with
                  | zero => intro t_188 s_188 ls H locs h1 h2; exact absurd h2 (by omega)
                  | succ n ih_188 =>
                    intro t_188 s_188 ls H locs ht_188 hn_188 es_188 hX hS hF_188 hl
                    refine lv_iload_n hx hb dX12_house_188 rfl (lv_at hl 0 rfl) ?_
                    refine lv_bipush (v := 8) hx hb dX12_house_189 (by decide) ?_
                    refine lv_aload_n hx hb dX12_house_191 rfl (lv_at hl 1 rfl) ?_
                    refine wx_geti (C := RX12) (T := TX12) (N := 27) (ci := 11) (j := 16) hx hb hts hi_X12 hown hK hX (by decide) sh_X12_16 rfl (by decide) (hts (.fieldLink RX12 115 "SeenAgainModel" "readPeople" "I") (by decide +kernel)) (fun _ h9 => h9) dX12_house_192 ?_
                    refine lv_imul hx hb dX12_house_195 ?_
                    refine lv_icmp_ge (tgt := 220) hx hb dX12_house_196 (by decide) (fun c_18 => ?_) (fun c_18 => ?_)
                    · have et_188 : t_188 = (8 * (s_108 57 16)).toNatClampNeg := Nat.le_antisymm ht_188 (by rw [hF_188 57 (by decide)] at c_18; have h9 := wx_dn (by have := wx_cl31 (8 * (s_108 57 16)); omega) c_18; omega)
                      subst et_188
                      refine lv_iconst (v := 0) hx hb dX12_house_220 (by decide) ?_
                      refine lv_istore_n (lv' := [(2, .int 0), (0, .ref (ad 57))]) hx hb dX12_house_221 rfl hl (by decide) rfl (fun ls hl => ?_)
                      have lp_222 : ∀ (n t_222 : Nat) (s_222 : wx_M) (ls : Array Slot) (H : Heap) (locs : List Loc), t_222 ≤ (s_188 57 18).toNatClampNeg → (s_188 57 18).toNatClampNeg + 1 ≤ t_222 + n → s_222 = rep t_222 (b_X12_house_222 g z_1 g_2 s_24 x_5 g_6 x_7 g_8 x_9 g_10 x_11 g_12 x_13 g_14 x_15 g_16 s_108 s_188) s_188 → wx_X D cy ad B0 f P s_222 H → va_S (fun q => B0 ≤ q) s.heap H locs → (∀ k, k ≠ 65 → s_222 k = s_188 k) → lv_has ls 5 [(2, .int (nI t_222)), (0, .ref (ad 57))] → W p l e R s m args below meth c H locs 0 0 Qm (F0 m 222 ls []) := by
                        intro n
                        induction n with
                        | zero => intro t_222 s_222 ls H locs h1 h2; exact absurd h2 (by omega)
                        | succ n ih_222 =>
                          intro t_222 s_222 ls H locs ht_222 hn_222 es_222 hX hS hF_222 hl
                          refine lv_iload_n hx hb dX12_house_222 rfl (lv_at hl 0 rfl) ?_
                          refine lv_aload_n hx hb dX12_house_223 rfl (lv_at hl 1 rfl) ?_
                          refine wx_geti (C := RX12) (T := TX12) (N := 27) (ci := 11) (j := 18) hx hb hts hi_X12 hown hK hX (by decide) sh_X12_18 rfl (by decide) (hts (.fieldLink RX12 118 "SeenAgainModel" "readVisitors" "I") (by decide +kernel)) (fun _ h9 => h9) dX12_house_224 ?_
                          refine lv_icmp_ge (tgt := 272) hx hb dX12_house_227 (by decide) (fun c_19 => ?_) (fun c_19 => ?_)
                          · have et_222 : t_222 = (s_188 57 18).toNatClampNeg := Nat.le_antisymm ht_222 (by rw [hF_222 57 (by decide)] at c_19; have h9 := wx_dn (by have := wx_cl31 (s_188 57 18); omega) c_19; omega)
                            subst et_222
                            refine lv_aload_n hx hb dX12_house_272 rfl (lv_at hl 1 rfl) ?_
                            refine lv_iconst (v := 0) hx hb dX12_house_273 (by decide) ?_
                            refine wx_puti (C := RX12) (T := TX12) (N := 27) (ci := 11) (j := 23) (ty := .int) hx hb hts hi_X12 tyX12 tyX12_ok nmX12 hown hK hX hS (by decide) sh_X12_23 rfl (by decide) (hts (.fieldLink RX12 138 "SeenAgainModel" "acts" "I") (by decide +kernel)) (fun _ h9 => h9) rfl (by decide +kernel) rfl rfl dX12_house_274 (fun H locs hX hS => ?_)
                            obtain ⟨g_20, eg_20, hX⟩ := wx_nm hX
                            refine lv_aload_n hx hb dX12_house_277 rfl (lv_at hl 1 rfl) ?_
                            refine wx_geti (C := RX12) (T := TX12) (N := 27) (ci := 11) (j := 11) hx hb hts hi_X12 hown hK hX (by decide) sh_X12_11 rfl (by decide) (hts (.fieldLink RX12 100 "SeenAgainModel" "readRooms" "I") (by decide +kernel)) (fun _ h9 => h9) dX12_house_278 ?_
                            refine lv_topi (fun x_21 ex_21 => ?_)
                            have bx_21 : wx_b x_21 0 6 := by rw [ex_21]; exact (show wx_b (g_20 57 11) 0 6 by rw [show (g_20 57 11) = (s_222 57 11) from (by rw [eg_20, up2_sn (by decide)])]; exact (show wx_b (s_222 57 11) 0 6 by rw [show (s_222 57 11) = (s_188 57 11) from (by rw [hF_222 57 (by decide)])]; exact (show wx_b (s_188 57 11) 0 6 by rw [show (s_188 57 11) = (s_108 57 11) from (by rw [hF_188 57 (by decide)])]; exact (show wx_b (s_108 57 11) 0 6 by rw [show (s_108 57 11) = (g_16 57 11) from (by rw [hF_108 57 (by decide)])]; exact (show wx_b (g_16 57 11) 0 6 by rw [show (g_16 57 11) = (g_14 57 11) from (by rw [eg_16, up2_n (by decide)])]; exact (show wx_b (g_14 57 11) 0 6 by rw [show (g_14 57 11) = (g_12 57 11) from (by rw [eg_14, up2_n (by decide)])]; exact (show wx_b (g_12 57 11) 0 6 by rw [show (g_12 57 11) = (g_10 57 11) from (by rw [eg_12, up2_n (by decide)])]; exact (show wx_b (g_10 57 11) 0 6 by rw [show (g_10 57 11) = (g_8 57 11) from (by rw [eg_10, up2_n (by decide)])]; exact (show wx_b (g_8 57 11) 0 6 by rw [show (g_8 57 11) = (g_6 57 11) from (by rw [eg_8, up2_n (by decide)])]; exact (show wx_b (g_6 57 11) 0 6 by rw [show (g_6 57 11) = (s_24 57 11) from (by rw [eg_6, up2_n (by decide)])]; exact (show wx_b (s_24 57 11) 0 6 by rw [show (s_24 57 11) = (g_2 57 11) from (by rw [hF_24 57 (by decide)])]; exact (show wx_b (g_2 57 11) 0 6 by rw [show (g_2 57 11) = (z_1.1 57 11) from (by rw [eg_2, up2_sn (by decide)])]; exact (show wx_PR z_1.1 from (by rw [ez_1]; exact pr2_X12_isRead hpr)).2.1))))))))))))
                            exact hret _ _ _ _ _ _ dX12_house_281 rfl hX hS (by subst ex_21 eg_20 eg_16 ex_15 eg_14 ex_13 eg_12 ex_11 eg_10 ex_9 eg_8 ex_7 eg_6 ex_5 eg_2 ez_1; simp only [f_X12_house, if_neg c_3, ← es_24, ← es_108, ← es_188, ← es_222])
                          · have hlt_222 : t_222 < (s_188 57 18).toNatClampNeg := by rw [hF_222 57 (by decide)] at c_19; have h9 := wx_up (by have := wx_cl31 (s_188 57 18); omega) c_19; omega
                            have bt_222 : wx_b (nI (t_222)) 0 3 := wb_nI (n := 3) (by have h7 := wb_cl (n := 4) (show wx_b (s_188 57 18) 0 4 by rw [show (s_188 57 18) = (s_108 57 18) from (by rw [hF_188 57 (by decide)])]; exact (show wx_b (s_108 57 18) 0 4 by rw [show (s_108 57 18) = (g_16 57 18) from (by rw [hF_108 57 (by decide)])]; exact (show wx_b (g_16 57 18) 0 4 by rw [show (g_16 57 18) = (g_14 57 18) from (by rw [eg_16, up2_n (by decide)])]; exact (show wx_b (g_14 57 18) 0 4 by rw [show (g_14 57 18) = (g_12 57 18) from (by rw [eg_14, up2_n (by decide)])]; exact (show wx_b (g_12 57 18) 0 4 by rw [show (g_12 57 18) = (g_10 57 18) from (by rw [eg_12, up2_n (by decide)])]; exact (show wx_b (g_10 57 18) 0 4 by rw [show (g_10 57 18) = (g_8 57 18) from (by rw [eg_10, up2_n (by decide)])]; exact (show wx_b (g_8 57 18) 0 4 by rw [show (g_8 57 18) = (g_6 57 18) from (by rw [eg_8, up2_n (by decide)])]; exact (show wx_b (g_6 57 18) 0 4 by rw [show (g_6 57 18) = (s_24 57 18) from (by rw [eg_6, up2_n (by decide)])]; exact (show wx_b (s_24 57 18) 0 4 by rw [show (s_24 57 18) = (g_2 57 18) from (by rw [hF_24 57 (by decide)])]; exact (show wx_b (g_2 57 18) 0 4 by rw [show (g_2 57 18) = (z_1.1 57 18) from (by rw [eg_2, up2_sn (by decide)])]; exact (show wx_PR z_1.1 from (by rw [ez_1]; exact pr2_X12_isRead hpr)).2.2.2.2.1)))))))))) (by decide); omega) (by decide)
                            refine lv_aload_n hx hb dX12_house_230 rfl (lv_at hl 1 rfl) ?_
                            refine wx_getr (t := 65) (C := RX12) (T := TX12) (N := 27) (ci := 11) (j := 20) hx hb hts hi_X12 hown hK hX (by decide) sh_X12_20 rfl (by decide) (hts (.fieldLink RX12 31 "SeenAgainModel" "now" "[I") (by decide +kernel)) (fun _ h9 => h9) dX12_house_231 ?_
                            refine lv_bipush (v := 43) hx hb dX12_house_234 (by decide) ?_
                            refine lv_iload_n hx hb dX12_house_236 rfl (lv_at hl 0 rfl) ?_
                            refine lv_iadd hx hb dX12_house_237 ?_
                            refine lv_aload_n hx hb dX12_house_238 rfl (lv_at hl 1 rfl) ?_
                            refine wx_getr (t := 64) (C := RX12) (T := TX12) (N := 27) (ci := 11) (j := 19) hx hb hts hi_X12 hown hK hX (by decide) sh_X12_19 rfl (by decide) (hts (.fieldLink RX12 28 "SeenAgainModel" "readVisitor" "[I") (by decide +kernel)) (fun _ h9 => h9) dX12_house_239 ?_
                            refine lv_iconst (v := 2) hx hb dX12_house_242 (by decide) ?_
                            refine lv_iload_n hx hb dX12_house_243 rfl (lv_at hl 0 rfl) ?_
                            refine lv_imul hx hb dX12_house_244 ?_
                            refine wx_iald hx hb hK hX (by decide) sa_64 (wb_in (wb_mul (show wx_b 2 2 2 from ⟨by decide, by decide⟩) bt_222 (by decide) (by decide) (by decide)) (by decide) (by decide)) dX12_house_245 ?_
                            refine lv_topi (fun x_22 ex_22 => ?_)
                            refine wx_iast hx hb hK hX hS (by decide) sa_65 (wb_in (wb_add (show wx_b 43 43 43 from ⟨by decide, by decide⟩) bt_222 (by decide) (by decide)) (by decide) (by decide)) dX12_house_246 (fun H locs hX hS => ?_)
                            obtain ⟨g_23, eg_23, hX⟩ := wx_nm hX
                            refine lv_aload_n hx hb dX12_house_247 rfl (lv_at hl 1 rfl) ?_
                            refine wx_getr (t := 65) (C := RX12) (T := TX12) (N := 27) (ci := 11) (j := 20) hx hb hts hi_X12 hown hK hX (by decide) sh_X12_20 rfl (by decide) (hts (.fieldLink RX12 31 "SeenAgainModel" "now" "[I") (by decide +kernel)) (fun _ h9 => h9) dX12_house_248 ?_
                            refine lv_bipush (v := 47) hx hb dX12_house_251 (by decide) ?_
                            refine lv_iload_n hx hb dX12_house_253 rfl (lv_at hl 0 rfl) ?_
                            refine lv_iadd hx hb dX12_house_254 ?_
                            refine lv_aload_n hx hb dX12_house_255 rfl (lv_at hl 1 rfl) ?_
                            refine wx_getr (t := 64) (C := RX12) (T := TX12) (N := 27) (ci := 11) (j := 19) hx hb hts hi_X12 hown hK hX (by decide) sh_X12_19 rfl (by decide) (hts (.fieldLink RX12 28 "SeenAgainModel" "readVisitor" "[I") (by decide +kernel)) (fun _ h9 => h9) dX12_house_256 ?_
                            refine lv_iconst (v := 2) hx hb dX12_house_259 (by decide) ?_
                            refine lv_iload_n hx hb dX12_house_260 rfl (lv_at hl 0 rfl) ?_
                            refine lv_imul hx hb dX12_house_261 ?_
                            refine lv_iconst (v := 1) hx hb dX12_house_262 (by decide) ?_
                            refine lv_iadd hx hb dX12_house_263 ?_
                            refine wx_iald hx hb hK hX (by decide) sa_64 (wb_in (wb_add (wb_mul (show wx_b 2 2 2 from ⟨by decide, by decide⟩) bt_222 (by decide) (by decide) (by decide)) (show wx_b 1 1 1 from ⟨by decide, by decide⟩) (by decide) (by decide)) (by decide) (by decide)) dX12_house_264 ?_
                            refine lv_topi (fun x_24 ex_24 => ?_)
                            refine wx_iast hx hb hK hX hS (by decide) sa_65 (wb_in (wb_add (show wx_b 47 47 47 from ⟨by decide, by decide⟩) bt_222 (by decide) (by decide)) (by decide) (by decide)) dX12_house_265 (fun H locs hX hS => ?_)
                            obtain ⟨g_25, eg_25, hX⟩ := wx_nm hX
                            refine lv_iinc (v := nI (t_222 + 1)) (lv' := [(2, .int (nI (t_222 + 1))), (0, .ref (ad 57))]) hx hb dX12_house_266 hl (k := 0) rfl (wx_inc _) (by decide) rfl (fun ls hl => ?_)
                            refine lv_goto (tgt := 222) hx hb dX12_house_269 (by decide) ?_
                            have hF_26 : (b_X12_house_222 g z_1 g_2 s_24 x_5 g_6 x_7 g_8 x_9 g_10 x_11 g_12 x_13 g_14 x_15 g_16 s_108 s_188) t_222 s_222 = g_25 := (by subst eg_25 ex_24 eg_23 ex_22; simp only [b_X12_house_222])
                            exact ih_222 (t_222 + 1) g_25 ls H locs hlt_222 (by omega) (by rw [rep_succ, ← es_222, hF_26]) hX hS (fun k hk => ((show g_25 k = g_23 k from by rw [eg_25]; exact up2_n hk).trans (((show g_23 k = s_222 k from by rw [eg_23]; exact up2_n hk).trans (hF_222 k hk))))) (lv_sub hl [0, 1] rfl)
                      exact lp_222 ((s_188 57 18).toNatClampNeg + 1) 0 s_188 ls H locs (Nat.zero_le _) (by omega) rfl hX hS (fun _ _ => rfl) (lv_sub hl [0, 1] rfl)
                    · have hlt_188 : t_188 < (8 * (s_108 57 16)).toNatClampNeg := by rw [hF_188 57 (by decide)] at c_18; have h9 := wx_up (by have := wx_cl31 (8 * (s_108 57 16)); omega) c_18; omega
                      have bt_188 : wx_b (nI (t_188)) 0 31 := wb_nI (n := 31) (by have h7 := wb_cl (n := 32) (wb_mul (show wx_b 8 8 8 from ⟨by decide, by decide⟩) (show wx_b (s_108 57 16) 0 4 by rw [show (s_108 57 16) = (g_16 57 16) from (by rw [hF_108 57 (by decide)])]; exact (show wx_b (g_16 57 16) 0 4 by rw [show (g_16 57 16) = (g_14 57 16) from (by rw [eg_16, up2_n (by decide)])]; exact (show wx_b (g_14 57 16) 0 4 by rw [show (g_14 57 16) = (g_12 57 16) from (by rw [eg_14, up2_n (by decide)])]; exact (show wx_b (g_12 57 16) 0 4 by rw [show (g_12 57 16) = (g_10 57 16) from (by rw [eg_12, up2_n (by decide)])]; exact (show wx_b (g_10 57 16) 0 4 by rw [show (g_10 57 16) = (g_8 57 16) from (by rw [eg_10, up2_n (by decide)])]; exact (show wx_b (g_8 57 16) 0 4 by rw [show (g_8 57 16) = (g_6 57 16) from (by rw [eg_8, up2_n (by decide)])]; exact (show wx_b (g_6 57 16) 0 4 by rw [show (g_6 57 16) = (s_24 57 16) from (by rw [eg_6, up2_n (by decide)])]; exact (show wx_b (s_24 57 16) 0 4 by rw [show (s_24 57 16) = (g_2 57 16) from (by rw [hF_24 57 (by decide)])]; exact (show wx_b (g_2 57 16) 0 4 by rw [show (g_2 57 16) = (z_1.1 57 16) from (by rw [eg_2, up2_sn (by decide)])]; exact (show wx_PR z_1.1 from (by rw [ez_1]; exact pr2_X12_isRead hpr)).2.2.2.1))))))))) (by decide) (by decide) (by decide)) (by decide); omega) (by decide)
                      refine lv_aload_n hx hb dX12_house_199 rfl (lv_at hl 1 rfl) ?_
                      refine wx_getr (t := 65) (C := RX12) (T := TX12) (N := 27) (ci := 11) (j := 20) hx hb hts hi_X12 hown hK hX (by decide) sh_X12_20 rfl (by decide) (hts (.fieldLink RX12 31 "SeenAgainModel" "now" "[I") (by decide +kernel)) (fun _ h9 => h9) dX12_house_200 ?_
                      refine lv_bipush (v := 11) hx hb dX12_house_203 (by decide) ?_
                      refine lv_iload_n hx hb dX12_house_205 rfl (lv_at hl 0 rfl) ?_
                      refine lv_iadd hx hb dX12_house_206 ?_
                      refine lv_aload_n hx hb dX12_house_207 rfl (lv_at hl 1 rfl) ?_
                      refine wx_getr (t := 63) (C := RX12) (T := TX12) (N := 27) (ci := 11) (j := 17) hx hb hts hi_X12 hown hK hX (by decide) sh_X12_17 rfl (by decide) (hts (.fieldLink RX12 25 "SeenAgainModel" "readPerson" "[I") (by decide +kernel)) (fun _ h9 => h9) dX12_house_208 ?_
                      refine lv_iload_n hx hb dX12_house_211 rfl (lv_at hl 0 rfl) ?_
                      refine wx_iald hx hb hK hX (by decide) sa_63 (wb_in bt_188 (by decide) (by decide)) dX12_house_212 ?_
                      refine lv_topi (fun x_27 ex_27 => ?_)
                      refine wx_iast hx hb hK hX hS (by decide) sa_65 (wb_in (wb_add (show wx_b 11 11 11 from ⟨by decide, by decide⟩) bt_188 (by decide) (by decide)) (by decide) (by decide)) dX12_house_213 (fun H locs hX hS => ?_)
                      obtain ⟨g_28, eg_28, hX⟩ := wx_nm hX
                      refine lv_iinc (v := nI (t_188 + 1)) (lv' := [(2, .int (nI (t_188 + 1))), (0, .ref (ad 57))]) hx hb dX12_house_214 hl (k := 0) rfl (wx_inc _) (by decide) rfl (fun ls hl => ?_)
                      refine lv_goto (tgt := 188) hx hb dX12_house_217 (by decide) ?_
                      have hF_29 : (b_X12_house_188 g z_1 g_2 s_24 x_5 g_6 x_7 g_8 x_9 g_10 x_11 g_12 x_13 g_14 x_15 g_16 s_108) t_188 s_188 = g_28 := (by subst eg_28 ex_27; simp only [b_X12_house_188])
                      exact ih_188 (t_188 + 1) g_28 ls H locs hlt_188 (by omega) (by rw [rep_succ, ← es_188, hF_29]) hX hS (fun k hk => ((show g_28 k = s_188 k from by rw [eg_28]; exact up2_n hk).trans (hF_188 k hk))) (lv_sub hl [0, 1] rfl)
                exact lp_188 ((8 * (s_108 57 16)).toNatClampNeg + 1) 0 s_108 ls H locs (Nat.zero_le _) (by omega) rfl hX hS (fun _ _ => rfl) (lv_sub hl [0, 1] rfl)
              · have hlt_108 : t_108 < (g_16 57 14).toNatClampNeg := by rw [hF_108 57 (by decide)] at c_17; have h9 := wx_up (by have := wx_cl31 (g_16 57 14); omega) c_17; omega
                have bt_108 : wx_b (nI (t_108)) 0 8 := wb_nI (n := 8) (by have h7 := wb_cl (n := 9) (show wx_b (g_16 57 14) 0 9 by rw [show (g_16 57 14) = (g_14 57 14) from (by rw [eg_16, up2_n (by decide)])]; exact (show wx_b (g_14 57 14) 0 9 by rw [show (g_14 57 14) = (g_12 57 14) from (by rw [eg_14, up2_n (by decide)])]; exact (show wx_b (g_12 57 14) 0 9 by rw [show (g_12 57 14) = (g_10 57 14) from (by rw [eg_12, up2_n (by decide)])]; exact (show wx_b (g_10 57 14) 0 9 by rw [show (g_10 57 14) = (g_8 57 14) from (by rw [eg_10, up2_n (by decide)])]; exact (show wx_b (g_8 57 14) 0 9 by rw [show (g_8 57 14) = (g_6 57 14) from (by rw [eg_8, up2_n (by decide)])]; exact (show wx_b (g_6 57 14) 0 9 by rw [show (g_6 57 14) = (s_24 57 14) from (by rw [eg_6, up2_n (by decide)])]; exact (show wx_b (s_24 57 14) 0 9 by rw [show (s_24 57 14) = (g_2 57 14) from (by rw [hF_24 57 (by decide)])]; exact (show wx_b (g_2 57 14) 0 9 by rw [show (g_2 57 14) = (z_1.1 57 14) from (by rw [eg_2, up2_sn (by decide)])]; exact (show wx_PR z_1.1 from (by rw [ez_1]; exact pr2_X12_isRead hpr)).2.2.1)))))))) (by decide); omega) (by decide)
                refine lv_aload_n hx hb dX12_house_116 rfl (lv_at hl 1 rfl) ?_
                refine wx_getr (t := 62) (C := RX12) (T := TX12) (N := 27) (ci := 11) (j := 15) hx hb hts hi_X12 hown hK hX (by decide) sh_X12_15 rfl (by decide) (hts (.fieldLink RX12 22 "SeenAgainModel" "readWall" "[I") (by decide +kernel)) (fun _ h9 => h9) dX12_house_117 ?_
                refine lv_iconst (v := 2) hx hb dX12_house_120 (by decide) ?_
                refine lv_iload_n hx hb dX12_house_121 rfl (lv_at hl 0 rfl) ?_
                refine lv_imul hx hb dX12_house_122 ?_
                refine wx_iald hx hb hK hX (by decide) sa_62 (wb_in (wb_mul (show wx_b 2 2 2 from ⟨by decide, by decide⟩) bt_108 (by decide) (by decide) (by decide)) (by decide) (by decide)) dX12_house_123 ?_
                refine lv_topi (fun x_30 ex_30 => ?_)
                have bx_30 : wx_b x_30 0 5 := by rw [ex_30]; exact (show wx_b (s_108 62 (2 * (nI t_108)).toNatClampNeg) 0 5 by rw [show (s_108 62 (2 * (nI t_108)).toNatClampNeg) = (g_16 62 (2 * (nI t_108)).toNatClampNeg) from (by rw [hF_108 62 (by decide)])]; exact (show wx_b (g_16 62 (2 * (nI t_108)).toNatClampNeg) 0 5 by rw [show (g_16 62 (2 * (nI t_108)).toNatClampNeg) = (g_14 62 (2 * (nI t_108)).toNatClampNeg) from (by rw [eg_16, up2_n (by decide)])]; exact (show wx_b (g_14 62 (2 * (nI t_108)).toNatClampNeg) 0 5 by rw [show (g_14 62 (2 * (nI t_108)).toNatClampNeg) = (g_12 62 (2 * (nI t_108)).toNatClampNeg) from (by rw [eg_14, up2_n (by decide)])]; exact (show wx_b (g_12 62 (2 * (nI t_108)).toNatClampNeg) 0 5 by rw [show (g_12 62 (2 * (nI t_108)).toNatClampNeg) = (g_10 62 (2 * (nI t_108)).toNatClampNeg) from (by rw [eg_12, up2_n (by decide)])]; exact (show wx_b (g_10 62 (2 * (nI t_108)).toNatClampNeg) 0 5 by rw [show (g_10 62 (2 * (nI t_108)).toNatClampNeg) = (g_8 62 (2 * (nI t_108)).toNatClampNeg) from (by rw [eg_10, up2_n (by decide)])]; exact (show wx_b (g_8 62 (2 * (nI t_108)).toNatClampNeg) 0 5 by rw [show (g_8 62 (2 * (nI t_108)).toNatClampNeg) = (g_6 62 (2 * (nI t_108)).toNatClampNeg) from (by rw [eg_8, up2_n (by decide)])]; exact (show wx_b (g_6 62 (2 * (nI t_108)).toNatClampNeg) 0 5 by rw [show (g_6 62 (2 * (nI t_108)).toNatClampNeg) = (s_24 62 (2 * (nI t_108)).toNatClampNeg) from (by rw [eg_6, up2_n (by decide)])]; exact (show wx_b (s_24 62 (2 * (nI t_108)).toNatClampNeg) 0 5 by rw [show (s_24 62 (2 * (nI t_108)).toNatClampNeg) = (g_2 62 (2 * (nI t_108)).toNatClampNeg) from (by rw [hF_24 62 (by decide)])]; exact (show wx_b (g_2 62 (2 * (nI t_108)).toNatClampNeg) 0 5 by rw [show (g_2 62 (2 * (nI t_108)).toNatClampNeg) = (z_1.1 62 (2 * (nI t_108)).toNatClampNeg) from (by rw [eg_2, up2_n (by decide)])]; exact ((show wx_PR z_1.1 from (by rw [ez_1]; exact pr2_X12_isRead hpr)).2.2.2.2.2 _ (Nat.lt_succ_of_le (wb_cl (n := 17) (wb_mul (show wx_b 2 2 2 from ⟨by decide, by decide⟩) bt_108 (by decide) (by decide) (by decide)) (by decide)))))))))))))
                refine lv_istore_n (lv' := [(3, .int x_30), (2, .int (nI t_108)), (0, .ref (ad 57))]) hx hb dX12_house_124 rfl hl (by decide) rfl (fun ls hl => ?_)
                refine lv_aload_n hx hb dX12_house_125 rfl (lv_at hl 2 rfl) ?_
                refine wx_getr (t := 62) (C := RX12) (T := TX12) (N := 27) (ci := 11) (j := 15) hx hb hts hi_X12 hown hK hX (by decide) sh_X12_15 rfl (by decide) (hts (.fieldLink RX12 22 "SeenAgainModel" "readWall" "[I") (by decide +kernel)) (fun _ h9 => h9) dX12_house_126 ?_
                refine lv_iconst (v := 2) hx hb dX12_house_129 (by decide) ?_
                refine lv_iload_n hx hb dX12_house_130 rfl (lv_at hl 1 rfl) ?_
                refine lv_imul hx hb dX12_house_131 ?_
                refine lv_iconst (v := 1) hx hb dX12_house_132 (by decide) ?_
                refine lv_iadd hx hb dX12_house_133 ?_
                refine wx_iald hx hb hK hX (by decide) sa_62 (wb_in (wb_add (wb_mul (show wx_b 2 2 2 from ⟨by decide, by decide⟩) bt_108 (by decide) (by decide) (by decide)) (show wx_b 1 1 1 from ⟨by decide, by decide⟩) (by decide) (by decide)) (by decide) (by decide)) dX12_house_134 ?_
                refine lv_topi (fun x_31 ex_31 => ?_)
                have bx_31 : wx_b x_31 0 5 := by rw [ex_31]; exact (show wx_b (s_108 62 ((2 * (nI t_108)) + 1).toNatClampNeg) 0 5 by rw [show (s_108 62 ((2 * (nI t_108)) + 1).toNatClampNeg) = (g_16 62 ((2 * (nI t_108)) + 1).toNatClampNeg) from (by rw [hF_108 62 (by decide)])]; exact (show wx_b (g_16 62 ((2 * (nI t_108)) + 1).toNatClampNeg) 0 5 by rw [show (g_16 62 ((2 * (nI t_108)) + 1).toNatClampNeg) = (g_14 62 ((2 * (nI t_108)) + 1).toNatClampNeg) from (by rw [eg_16, up2_n (by decide)])]; exact (show wx_b (g_14 62 ((2 * (nI t_108)) + 1).toNatClampNeg) 0 5 by rw [show (g_14 62 ((2 * (nI t_108)) + 1).toNatClampNeg) = (g_12 62 ((2 * (nI t_108)) + 1).toNatClampNeg) from (by rw [eg_14, up2_n (by decide)])]; exact (show wx_b (g_12 62 ((2 * (nI t_108)) + 1).toNatClampNeg) 0 5 by rw [show (g_12 62 ((2 * (nI t_108)) + 1).toNatClampNeg) = (g_10 62 ((2 * (nI t_108)) + 1).toNatClampNeg) from (by rw [eg_12, up2_n (by decide)])]; exact (show wx_b (g_10 62 ((2 * (nI t_108)) + 1).toNatClampNeg) 0 5 by rw [show (g_10 62 ((2 * (nI t_108)) + 1).toNatClampNeg) = (g_8 62 ((2 * (nI t_108)) + 1).toNatClampNeg) from (by rw [eg_10, up2_n (by decide)])]; exact (show wx_b (g_8 62 ((2 * (nI t_108)) + 1).toNatClampNeg) 0 5 by rw [show (g_8 62 ((2 * (nI t_108)) + 1).toNatClampNeg) = (g_6 62 ((2 * (nI t_108)) + 1).toNatClampNeg) from (by rw [eg_8, up2_n (by decide)])]; exact (show wx_b (g_6 62 ((2 * (nI t_108)) + 1).toNatClampNeg) 0 5 by rw [show (g_6 62 ((2 * (nI t_108)) + 1).toNatClampNeg) = (s_24 62 ((2 * (nI t_108)) + 1).toNatClampNeg) from (by rw [eg_6, up2_n (by decide)])]; exact (show wx_b (s_24 62 ((2 * (nI t_108)) + 1).toNatClampNeg) 0 5 by rw [show (s_24 62 ((2 * (nI t_108)) + 1).toNatClampNeg) = (g_2 62 ((2 * (nI t_108)) + 1).toNatClampNeg) from (by rw [hF_24 62 (by decide)])]; exact (show wx_b (g_2 62 ((2 * (nI t_108)) + 1).toNatClampNeg) 0 5 by rw [show (g_2 62 ((2 * (nI t_108)) + 1).toNatClampNeg) = (z_1.1 62 ((2 * (nI t_108)) + 1).toNatClampNeg) from (by rw [eg_2, up2_n (by decide)])]; exact ((show wx_PR z_1.1 from (by rw [ez_1]; exact pr2_X12_isRead hpr)).2.2.2.2.2 _ (Nat.lt_succ_of_le (wb_cl (n := 17) (wb_add (wb_mul (show wx_b 2 2 2 from ⟨by decide, by decide⟩) bt_108 (by decide) (by decide) (by decide)) (show wx_b 1 1 1 from ⟨by decide, by decide⟩) (by decide) (by decide)) (by decide)))))))))))))
                refine lv_istore (lv' := [(4, .int x_31), (3, .int x_30), (2, .int (nI t_108)), (0, .ref (ad 57))]) hx hb dX12_house_135 hl (by decide) rfl (fun ls hl => ?_)
                refine lv_aload_n hx hb dX12_house_137 rfl (lv_at hl 3 rfl) ?_
                refine wx_getr (t := 65) (C := RX12) (T := TX12) (N := 27) (ci := 11) (j := 20) hx hb hts hi_X12 hown hK hX (by decide) sh_X12_20 rfl (by decide) (hts (.fieldLink RX12 31 "SeenAgainModel" "now" "[I") (by decide +kernel)) (fun _ h9 => h9) dX12_house_138 ?_
                refine lv_iconst (v := 5) hx hb dX12_house_141 (by decide) ?_
                refine lv_iload_n hx hb dX12_house_142 rfl (lv_at hl 1 rfl) ?_
                refine lv_iadd hx hb dX12_house_143 ?_
                refine lv_aload_n hx hb dX12_house_144 rfl (lv_at hl 3 rfl) ?_
                refine wx_getr (t := 65) (C := RX12) (T := TX12) (N := 27) (ci := 11) (j := 20) hx hb hts hi_X12 hown hK hX (by decide) sh_X12_20 rfl (by decide) (hts (.fieldLink RX12 31 "SeenAgainModel" "now" "[I") (by decide +kernel)) (fun _ h9 => h9) dX12_house_145 ?_
                refine lv_iconst (v := 5) hx hb dX12_house_148 (by decide) ?_
                refine lv_iload_n hx hb dX12_house_149 rfl (lv_at hl 1 rfl) ?_
                refine lv_iadd hx hb dX12_house_150 ?_
                refine wx_iald hx hb hK hX (by decide) sa_65 (wb_in (wb_add (show wx_b 5 5 5 from ⟨by decide, by decide⟩) bx_30 (by decide) (by decide)) (by decide) (by decide)) dX12_house_151 ?_
                refine lv_iconst (v := 1) hx hb dX12_house_152 (by decide) ?_
                refine lv_iload hx hb dX12_house_153 (lv_at hl 0 rfl) ?_
                refine lv_ishl hx hb dX12_house_155 ?_
                refine lv_ior hx hb dX12_house_156 ?_
                refine lv_topi (fun x_32 ex_32 => ?_)
                refine wx_iast hx hb hK hX hS (by decide) sa_65 (wb_in (wb_add (show wx_b 5 5 5 from ⟨by decide, by decide⟩) bx_30 (by decide) (by decide)) (by decide) (by decide)) dX12_house_157 (fun H locs hX hS => ?_)
                obtain ⟨g_33, eg_33, hX⟩ := wx_nm hX
                refine lv_aload_n hx hb dX12_house_158 rfl (lv_at hl 3 rfl) ?_
                refine wx_getr (t := 65) (C := RX12) (T := TX12) (N := 27) (ci := 11) (j := 20) hx hb hts hi_X12 hown hK hX (by decide) sh_X12_20 rfl (by decide) (hts (.fieldLink RX12 31 "SeenAgainModel" "now" "[I") (by decide +kernel)) (fun _ h9 => h9) dX12_house_159 ?_
                refine lv_iconst (v := 5) hx hb dX12_house_162 (by decide) ?_
                refine lv_iload hx hb dX12_house_163 (lv_at hl 0 rfl) ?_
                refine lv_iadd hx hb dX12_house_165 ?_
                refine lv_aload_n hx hb dX12_house_166 rfl (lv_at hl 3 rfl) ?_
                refine wx_getr (t := 65) (C := RX12) (T := TX12) (N := 27) (ci := 11) (j := 20) hx hb hts hi_X12 hown hK hX (by decide) sh_X12_20 rfl (by decide) (hts (.fieldLink RX12 31 "SeenAgainModel" "now" "[I") (by decide +kernel)) (fun _ h9 => h9) dX12_house_167 ?_
                refine lv_iconst (v := 5) hx hb dX12_house_170 (by decide) ?_
                refine lv_iload hx hb dX12_house_171 (lv_at hl 0 rfl) ?_
                refine lv_iadd hx hb dX12_house_173 ?_
                refine wx_iald hx hb hK hX (by decide) sa_65 (wb_in (wb_add (show wx_b 5 5 5 from ⟨by decide, by decide⟩) bx_31 (by decide) (by decide)) (by decide) (by decide)) dX12_house_174 ?_
                refine lv_iconst (v := 1) hx hb dX12_house_175 (by decide) ?_
                refine lv_iload_n hx hb dX12_house_176 rfl (lv_at hl 1 rfl) ?_
                refine lv_ishl hx hb dX12_house_177 ?_
                refine lv_ior hx hb dX12_house_178 ?_
                refine lv_topi (fun x_34 ex_34 => ?_)
                refine wx_iast hx hb hK hX hS (by decide) sa_65 (wb_in (wb_add (show wx_b 5 5 5 from ⟨by decide, by decide⟩) bx_31 (by decide) (by decide)) (by decide) (by decide)) dX12_house_179 (fun H locs hX hS => ?_)
                obtain ⟨g_35, eg_35, hX⟩ := wx_nm hX
                refine lv_iinc (v := nI (t_108 + 1)) (lv' := [(2, .int (nI (t_108 + 1))), (4, .int x_31), (3, .int x_30), (0, .ref (ad 57))]) hx hb dX12_house_180 hl (k := 2) rfl (wx_inc _) (by decide) rfl (fun ls hl => ?_)
                refine lv_goto (tgt := 108) hx hb dX12_house_183 (by decide) ?_
                have hF_36 : (b_X12_house_108 g z_1 g_2 s_24 x_5 g_6 x_7 g_8 x_9 g_10 x_11 g_12 x_13 g_14 x_15 g_16) t_108 s_108 = g_35 := (by subst eg_35 ex_34 eg_33 ex_32 ex_31 ex_30; simp only [b_X12_house_108])
                exact ih_108 (t_108 + 1) g_35 ls H locs hlt_108 (by omega) (by rw [rep_succ, ← es_108, hF_36]) hX hS (fun k hk => ((show g_35 k = g_33 k from by rw [eg_35]; exact up2_n hk).trans (((show g_33 k = s_108 k from by rw [eg_33]; exact up2_n hk).trans (hF_108 k hk))))) (lv_sub hl [0, 3] rfl)
          exact lp_108 ((g_16 57 14).toNatClampNeg + 1) 0 g_16 ls H locs (Nat.zero_le _) (by omega) rfl hX hS (fun _ _ => rfl) (lv_sub hl [0, 1] rfl)
        · have hlt_24 : t_24 < 149 := by have h9 := wx_up (by omega) c_4; have h8 : (149 : Int32).toNatClampNeg = 149 := (by decide); omega
          have bt_24 : wx_b (nI (t_24)) 0 148 := wb_nI (n := 148) (by omega) (by decide)
          refine lv_aload_n hx hb dX12_house_31 rfl (lv_at hl 1 rfl) ?_
          refine wx_getr (t := 65) (C := RX12) (T := TX12) (N := 27) (ci := 11) (j := 20) hx hb hts hi_X12 hown hK hX (by decide) sh_X12_20 rfl (by decide) (hts (.fieldLink RX12 31 "SeenAgainModel" "now" "[I") (by decide +kernel)) (fun _ h9 => h9) dX12_house_32 ?_
          refine lv_iload_n hx hb dX12_house_35 rfl (lv_at hl 0 rfl) ?_
          refine lv_iconst (v := 0) hx hb dX12_house_36 (by decide) ?_
          refine wx_iast hx hb hK hX hS (by decide) sa_65 (wb_in bt_24 (by decide) (by decide)) dX12_house_37 (fun H locs hX hS => ?_)
          obtain ⟨g_37, eg_37, hX⟩ := wx_nm hX
          refine lv_iinc (v := nI (t_24 + 1)) (lv' := [(2, .int (nI (t_24 + 1))), (0, .ref (ad 57))]) hx hb dX12_house_38 hl (k := 0) rfl (wx_inc _) (by decide) rfl (fun ls hl => ?_)
          refine lv_goto (tgt := 24) hx hb dX12_house_41 (by decide) ?_
          have hF_38 : (b_X12_house_24 g z_1 g_2) t_24 s_24 = g_37 := (by subst eg_37; simp only [b_X12_house_24])
          exact ih_24 (t_24 + 1) g_37 ls H locs hlt_24 (by omega) (by rw [rep_succ, ← es_24, hF_38]) hX hS (fun k hk => ((show g_37 k = s_24 k from by rw [eg_37]; exact up2_n hk).trans (hF_24 k hk))) (lv_sub hl [0, 1] rfl)
    exact lp_24 (149 + 1) 0 g_2 ls H locs (Nat.zero_le _) (by omega) rfl hX hS (fun _ _ => rfl) (lv_sub hl [0, 2] rfl)
  · have b_39 : wx_b z_1.2 0 0 := by rw [c_3]; exact ⟨by decide, by decide⟩
    refine lv_ldc hx hb hown (hts (.constant RX12 137 (-1000100)) (by decide +kernel)) dX12_house_14 ?_
    refine lv_aload_n hx hb dX12_house_16 rfl (lv_at hl 1 rfl) ?_
    refine wx_geti (C := RX12) (T := TX12) (N := 27) (ci := 11) (j := 7) hx hb hts hi_X12 hown hK hX (by decide) sh_X12_7 rfl (by decide) (hts (.fieldLink RX12 78 "SeenAgainModel" "tokenAt" "I") (by decide +kernel)) (fun _ h9 => h9) dX12_house_17 ?_
    refine lv_isub hx hb dX12_house_20 ?_
    refine lv_topi (fun x_40 ex_40 => ?_)
    exact hret _ _ _ _ _ _ dX12_house_21 rfl hX hS (by subst ex_40 eg_2 ez_1; simp only [f_X12_house, if_pos c_3])
