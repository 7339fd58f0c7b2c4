def f_X11_found (g : wx_M) (a1 : Int32) : wx_M × Int32 :=
  let g_1 := up2 g 0 7 a1
  let x_2 := ((-1000010) - a1)
  (g_1, x_2)
set_option maxHeartbeats 4000000 in
set_option maxRecDepth 100000 in
theorem k_X11_found (l : Launch) {D : va_G} {cy : Nat → ClassId} {ad : Nat → Nat} {B0 : Nat} {f : wx_F} {P : va_W} (g : wx_M) (a1 : Int32) : Met l yX11_found wsX11_found ({ frames := 0, cells := 0, slots := 0, locals := 0 } : Room) (wx_Pc D cy ad B0 f P g [.ref (ad 0), .int a1]) (wx_Qe D cy ad B0 f P (f_X11_found g a1).1 (some (.int (f_X11_found g a1).2))) 0 0 (fun q => B0 ≤ q) := by
  refine wx_enterE (cc := cX11_found) (maxL := 2) (ty := .int) (own := RX11) (lv := [(0, .ref (ad 0)), (1, .int a1)]) (by decide) rfl rfl (Nat.le_of_ble_eq_true rfl) rfl ?_
  intro p e R s m args below meth c ls Qm hx hb hml hown hts hK hX hS hR hret hl
  have hi_X11 : ∀ w ∈ wsX110, w ∈ wsX11_found := by decide +kernel
  refine lv_aload_n hx hb dX11_found_0 rfl (lv_at hl 0 rfl) ?_
  refine lv_iload_n hx hb dX11_found_1 rfl (lv_at hl 1 rfl) ?_
  refine wx_puti (C := RX11) (T := TX11) (N := 8) (ci := 10) (j := 7) (ty := .int) hx hb hts hi_X11 tyX11 tyX11_ok nmX11 hown hK hX hS (by decide) sh_X11_7 rfl (by decide) (hts (.fieldLink RX11 312 "SeenAgain" "finding" "I") (by decide +kernel)) (fun _ h9 => h9) rfl (by decide +kernel) rfl rfl dX11_found_2 (fun H locs hX hS => ?_)
  obtain ⟨g_1, eg_1, hX⟩ := wx_nm hX
  refine lv_ldcw hx hb hown (hts (.constant RX11 315 (-1000010)) (by decide +kernel)) dX11_found_5 ?_
  refine lv_iload_n hx hb dX11_found_8 rfl (lv_at hl 1 rfl) ?_
  refine lv_isub hx hb dX11_found_9 ?_
  refine lv_topi (fun x_2 ex_2 => ?_)
  exact hret _ _ _ _ _ _ dX11_found_10 rfl hX hS (by subst ex_2 eg_1; simp only [f_X11_found])
def f_X11_answered (g : wx_M) (a1 : Int32) : wx_M × Int32 :=
  let g_1 := up2 g 0 7 0
  (g_1, a1)
set_option maxHeartbeats 4000000 in
set_option maxRecDepth 100000 in
theorem k_X11_answered (l : Launch) {D : va_G} {cy : Nat → ClassId} {ad : Nat → Nat} {B0 : Nat} {f : wx_F} {P : va_W} (g : wx_M) (a1 : Int32) : Met l yX11_answered wsX11_answered ({ frames := 0, cells := 0, slots := 0, locals := 0 } : Room) (wx_Pc D cy ad B0 f P g [.ref (ad 0), .int a1]) (wx_Qe D cy ad B0 f P (f_X11_answered g a1).1 (some (.int (f_X11_answered g a1).2))) 0 0 (fun q => B0 ≤ q) := by
  refine wx_enterE (cc := cX11_answered) (maxL := 2) (ty := .int) (own := RX11) (lv := [(0, .ref (ad 0)), (1, .int a1)]) (by decide) rfl rfl (Nat.le_of_ble_eq_true rfl) rfl ?_
  intro p e R s m args below meth c ls Qm hx hb hml hown hts hK hX hS hR hret hl
  have hi_X11 : ∀ w ∈ wsX110, w ∈ wsX11_answered := by decide +kernel
  refine lv_aload_n hx hb dX11_answered_0 rfl (lv_at hl 0 rfl) ?_
  refine lv_iconst (v := 0) hx hb dX11_answered_1 (by decide) ?_
  refine wx_puti (C := RX11) (T := TX11) (N := 8) (ci := 10) (j := 7) (ty := .int) hx hb hts hi_X11 tyX11 tyX11_ok nmX11 hown hK hX hS (by decide) sh_X11_7 rfl (by decide) (hts (.fieldLink RX11 312 "SeenAgain" "finding" "I") (by decide +kernel)) (fun _ h9 => h9) rfl (by decide +kernel) rfl rfl dX11_answered_2 (fun H locs hX hS => ?_)
  obtain ⟨g_1, eg_1, hX⟩ := wx_nm hX
  refine lv_iload_n hx hb dX11_answered_5 rfl (lv_at hl 1 rfl) ?_
  exact hret _ _ _ _ _ _ dX11_answered_6 rfl hX hS (by subst eg_1; simp only [f_X11_answered])
def b_X11_standingRows_4 (g : wx_M) (t_4 : Nat) (s_4 : Int32) : Int32 :=
  let k_2 := 2 + (nI t_4).toNatClampNeg
  if (g k_2 3) = 0 then
    let x_6 := (s_4 + 1)
    x_6
  else
    s_4
def r_X11_standingRows (g : wx_M) : Int32 :=
  let s_4 := rep 8 (b_X11_standingRows_4 g) (0 : Int32)
  s_4
set_option maxHeartbeats 4000000 in
set_option maxRecDepth 100000 in
theorem k_X11_standingRows (l : Launch) {D : va_G} {cy : Nat → ClassId} {ad : Nat → Nat} {B0 : Nat} {f : wx_F} {P : va_W} (g : wx_M) : Met l yX11_standingRows wsX11_standingRows ({ frames := 0, cells := 0, slots := 0, locals := 0 } : Room) (wx_Pc D cy ad B0 f P g [.ref (ad 0)]) (QcRead (r_X11_standingRows g)) 0 0 (fun _ => False) := by
  refine wx_enterR (cc := cX11_standingRows) (maxL := 3) (ty := .int) (own := RX11) (lv := [(0, .ref (ad 0))]) (by decide) rfl rfl (Nat.le_of_ble_eq_true rfl) rfl ?_
  intro p e R s m args below meth c ls Qm hx hb hml hown hts hK hX hR hret hl
  have hi_X11 : ∀ w ∈ wsX110, w ∈ wsX11_standingRows := by decide +kernel
  have hi_X5 : ∀ w ∈ wsX50, w ∈ wsX11_standingRows := by decide +kernel
  refine lv_iconst (v := 0) hx hb dX11_standingRows_0 (by decide) ?_
  refine lv_istore_n (lv' := [(1, .int 0), (0, .ref (ad 0))]) hx hb dX11_standingRows_1 rfl hl (by decide) rfl (fun ls hl => ?_)
  refine lv_iconst (v := 0) hx hb dX11_standingRows_2 (by decide) ?_
  refine lv_istore_n (lv' := [(2, .int 0), (1, .int 0), (0, .ref (ad 0))]) hx hb dX11_standingRows_3 rfl hl (by decide) rfl (fun ls hl => ?_)
  have lp_4 : ∀ (n t_4 : Nat) (s_4 : Int32) (ls : Array Slot), t_4 ≤ 8 → 8 + 1 ≤ t_4 + n → s_4 = rep t_4 (b_X11_standingRows_4 g) (0 : Int32) → lv_has ls 3 [(2, .int (nI t_4)), (1, .int s_4), (0, .ref (ad 0))] → W p l e R s m args below meth c s.heap [] 0 0 Qm (F0 m 4 ls []) := by
    intro n
    induction n with
    | zero => intro t_4 s_4 ls h1 h2; exact absurd h2 (by omega)
    | succ n ih_4 =>
      intro t_4 s_4 ls ht_4 hn_4 es_4 hl
      refine lv_iload_n hx hb dX11_standingRows_4 rfl (lv_at hl 0 rfl) ?_
      refine lv_bipush (v := 8) hx hb dX11_standingRows_5 (by decide) ?_
      refine lv_icmp_ge (tgt := 31) hx hb dX11_standingRows_7 (by decide) (fun c_1 => ?_) (fun c_1 => ?_)
      · have et_4 : t_4 = 8 := Nat.le_antisymm ht_4 (by have h9 := wx_dn (by omega) c_1; have h8 : (8 : Int32).toNatClampNeg = 8 := (by decide); omega)
        subst et_4
        refine lv_iload_n hx hb dX11_standingRows_31 rfl (lv_at hl 1 rfl) ?_
        exact hret _ _ _ dX11_standingRows_32 rfl (by simp only [r_X11_standingRows, ← es_4])
      · have hlt_4 : t_4 < 8 := by have h9 := wx_up (by omega) c_1; have h8 : (8 : Int32).toNatClampNeg = 8 := (by decide); omega
        have bt_4 : wx_b (nI (t_4)) 0 7 := wb_nI (n := 7) (by omega) (by decide)
        refine lv_aload_n hx hb dX11_standingRows_10 rfl (lv_at hl 2 rfl) ?_
        refine wx_getr (t := 1) (C := RX11) (T := TX11) (N := 8) (ci := 10) (j := 0) hx hb hts hi_X11 hown hK hX (by decide) sh_X11_0 rfl (by decide) (hts (.fieldLink RX11 11 "SeenAgain" "rows" "[LSeenAgain$Row;") (by decide +kernel)) (fun _ h9 => h9) dX11_standingRows_11 ?_
        refine lv_iload_n hx hb dX11_standingRows_14 rfl (lv_at hl 0 rfl) ?_
        refine wx_qald (C := "SeenAgain$Row") hx hb hK hX (by decide) sq_1 rfl (wb_in bt_4 (by decide) (by decide)) dX11_standingRows_15 ?_
        obtain ⟨k_2, ek_2⟩ : ∃ z : Nat, z = 2 + (nI t_4).toNatClampNeg := ⟨_, rfl⟩
        have hkk_2 : wx_Rk k_2 := ⟨by omega, by have := wb_cl (n := 7) bt_4 (by decide); omega⟩
        rw [← ek_2]
        refine wx_geti (C := RX5) (T := TX5) (N := 4) (ci := 5) (j := 3) hx hb hts hi_X5 hown hK hX (by have := (show wx_Rk k_2 from hkk_2).2; omega) (sh_X5_3 (show wx_Rk k_2 from hkk_2)) rfl (by decide) (hts (.fieldLink RX11 67 "SeenAgain$Row" "missing" "Z") (by decide +kernel)) (fun _ h9 => h9) dX11_standingRows_16 ?_
        refine lv_if_ne (tgt := 25) hx hb dX11_standingRows_19 (by decide) (fun c_3 => ?_) (fun c_3 => ?_)
        · refine lv_iinc (v := nI (t_4 + 1)) (lv' := [(2, .int (nI (t_4 + 1))), (1, .int s_4), (0, .ref (ad 0))]) hx hb dX11_standingRows_25 hl (k := 0) rfl (wx_inc _) (by decide) rfl (fun ls hl => ?_)
          refine lv_goto (tgt := 4) hx hb dX11_standingRows_28 (by decide) ?_
          have hF_4 : (b_X11_standingRows_4 g) t_4 s_4 = s_4 := (by subst ek_2; simp only [b_X11_standingRows_4, if_neg c_3])
          exact ih_4 (t_4 + 1) s_4 ls hlt_4 (by omega) (by rw [rep_succ, ← es_4, hF_4]) (lv_sub hl [0, 1, 2] rfl)
        · have b_5 : wx_b (g k_2 3) 0 0 := by rw [c_3]; exact ⟨by decide, by decide⟩
          obtain ⟨x_6, ex_6⟩ : ∃ y : Int32, y = (s_4 + 1) := ⟨_, rfl⟩
          refine lv_iinc (v := x_6) (lv' := [(1, .int x_6), (2, .int (nI t_4)), (0, .ref (ad 0))]) hx hb dX11_standingRows_22 hl (k := 1) rfl (by rw [ex_6]; rfl) (by decide) rfl (fun ls hl => ?_)
          refine lv_iinc (v := nI (t_4 + 1)) (lv' := [(2, .int (nI (t_4 + 1))), (1, .int x_6), (0, .ref (ad 0))]) hx hb dX11_standingRows_25 hl (k := 1) rfl (wx_inc _) (by decide) rfl (fun ls hl => ?_)
          refine lv_goto (tgt := 4) hx hb dX11_standingRows_28 (by decide) ?_
          have hF_7 : (b_X11_standingRows_4 g) t_4 s_4 = x_6 := (by subst ex_6 ek_2; simp only [b_X11_standingRows_4, if_pos c_3])
          exact ih_4 (t_4 + 1) x_6 ls hlt_4 (by omega) (by rw [rep_succ, ← es_4, hF_7]) (lv_sub hl [0, 1, 2] rfl)
  exact lp_4 (8 + 1) 0 (0 : Int32) ls (Nat.zero_le _) (by omega) rfl (lv_sub hl [0, 1, 2] rfl)
def r_X11_fault (g : wx_M) : Int32 :=
  (g 18 2)
set_option maxHeartbeats 4000000 in
set_option maxRecDepth 100000 in
theorem k_X11_fault (l : Launch) {D : va_G} {cy : Nat → ClassId} {ad : Nat → Nat} {B0 : Nat} {f : wx_F} {P : va_W} (g : wx_M) : Met l yX11_fault wsX11_fault ({ frames := 0, cells := 0, slots := 0, locals := 0 } : Room) (wx_Pc D cy ad B0 f P g [.ref (ad 0)]) (QcRead (r_X11_fault g)) 0 0 (fun _ => False) := by
  refine wx_enterR (cc := cX11_fault) (maxL := 1) (ty := .int) (own := RX11) (lv := [(0, .ref (ad 0))]) (by decide) rfl rfl (Nat.le_of_ble_eq_true rfl) rfl ?_
  intro p e R s m args below meth c ls Qm hx hb hml hown hts hK hX hR hret hl
  have hi_X11 : ∀ w ∈ wsX110, w ∈ wsX11_fault := by decide +kernel
  have hi_X6 : ∀ w ∈ wsX60, w ∈ wsX11_fault := by decide +kernel
  refine lv_aload_n hx hb dX11_fault_0 rfl (lv_at hl 0 rfl) ?_
  refine wx_getr (t := 18) (C := RX11) (T := TX11) (N := 8) (ci := 10) (j := 1) hx hb hts hi_X11 hown hK hX (by decide) sh_X11_1 rfl (by decide) (hts (.fieldLink RX11 18 "SeenAgain" "tape" "LSeenAgain$Tape;") (by decide +kernel)) (fun _ h9 => h9) dX11_fault_1 ?_
  refine wx_geti (C := RX6) (T := TX6) (N := 8) (ci := 6) (j := 2) hx hb hts hi_X6 hown hK hX (by decide) sh_X6_2 rfl (by decide) (hts (.fieldLink RX11 120 "SeenAgain$Tape" "fault" "I") (by decide +kernel)) (fun _ h9 => h9) dX11_fault_4 ?_
  exact hret _ _ _ dX11_fault_7 rfl (by simp only [r_X11_fault])
def r_X11_status (g : wx_M) : Int32 :=
  (g 0 7)
set_option maxHeartbeats 4000000 in
set_option maxRecDepth 100000 in
theorem k_X11_status (l : Launch) {D : va_G} {cy : Nat → ClassId} {ad : Nat → Nat} {B0 : Nat} {f : wx_F} {P : va_W} (g : wx_M) : Met l yX11_status wsX11_status ({ frames := 0, cells := 0, slots := 0, locals := 0 } : Room) (wx_Pc D cy ad B0 f P g [.ref (ad 0)]) (QcRead (r_X11_status g)) 0 0 (fun _ => False) := by
  refine wx_enterR (cc := cX11_status) (maxL := 1) (ty := .int) (own := RX11) (lv := [(0, .ref (ad 0))]) (by decide) rfl rfl (Nat.le_of_ble_eq_true rfl) rfl ?_
  intro p e R s m args below meth c ls Qm hx hb hml hown hts hK hX hR hret hl
  have hi_X11 : ∀ w ∈ wsX110, w ∈ wsX11_status := by decide +kernel
  refine lv_aload_n hx hb dX11_status_0 rfl (lv_at hl 0 rfl) ?_
  refine wx_geti (C := RX11) (T := TX11) (N := 8) (ci := 10) (j := 7) hx hb hts hi_X11 hown hK hX (by decide) sh_X11_7 rfl (by decide) (hts (.fieldLink RX11 312 "SeenAgain" "finding" "I") (by decide +kernel)) (fun _ h9 => h9) dX11_status_1 ?_
  exact hret _ _ _ dX11_status_4 rfl (by simp only [r_X11_status])
def f_X11_row (g : wx_M) (a1 : Int32) (a2 : Int32) (a3 : Int32) : wx_M × Int32 :=
  if (r_X11_isRow a1) = 0 then
    (g, (-1000001))
  else
    if a2 < 0 then
      (g, (-1000001))
    else
      if 2 < a2 then
        (g, (-1000001))
      else
        if a3 ≤ 40 then
          if 0 ≤ a3 then
            let k_14 := 2 + a1.toNatClampNeg
            let g_15 := e_X5_begin g k_14 a2 a3
            let z_16 := f_X11_answered g_15 a3
            (z_16.1, z_16.2)
          else
            let z_18 := f_X11_found g 4
            (z_18.1, z_18.2)
        else
          (g, (-1000001))
set_option maxHeartbeats 4000000 in
set_option maxRecDepth 100000 in
theorem k_X11_row (l : Launch) {D : va_G} {cy : Nat → ClassId} {ad : Nat → Nat} {B0 : Nat} {f : wx_F} {P : va_W} (g : wx_M) (a1 : Int32) (a2 : Int32) (a3 : Int32) : Met l yX11_row wsX11_row ({ frames := 2, cells := 0, slots := 0, locals := 45 } : Room) (wx_Pc D cy ad B0 f P g [.ref (ad 0), .int a1, .int a2, .int a3]) (wx_Qe D cy ad B0 f P (f_X11_row g a1 a2 a3).1 (some (.int (f_X11_row g a1 a2 a3).2))) 0 0 (fun q => B0 ≤ q) := by
  refine wx_enterE (cc := cX11_row) (maxL := 4) (ty := .int) (own := RX11) (lv := [(0, .ref (ad 0)), (1, .int a1), (2, .int a2), (3, .int a3)]) (by decide) rfl rfl (Nat.le_of_ble_eq_true rfl) rfl ?_
  intro p e R s m args below meth c ls Qm hx hb hml hown hts hK hX hS hR hret hl
  have hi_X11 : ∀ w ∈ wsX110, w ∈ wsX11_row := by decide +kernel
  refine lv_iload_n hx hb dX11_row_0 rfl (lv_at hl 1 rfl) ?_
  refine wx_callr (va_runS (As := [.int a1]) (rest := []) ⟨hx, hb, hml, hown, hts⟩ (k_X11_isRow l g a1) (va_cwS 1 hts gX11_row_X11_isRow rfl rfl rfl (by decide +kernel) (by rw [hR]; exact ⟨Nat.le_of_ble_eq_true rfl, Nat.le_of_ble_eq_true rfl⟩)) (wx_Pc.pre hK hX) rfl rfl hl.1 rfl (lv_room (Nat.le_of_ble_eq_true rfl)) dX11_row_1 ⟨Nat.zero_le _, Nat.zero_le _⟩) ?_
  refine lv_if_eq (tgt := 22) hx hb dX11_row_4 (by decide) (fun c_1 => ?_) (fun c_1 => ?_)
  · have b_2 : wx_b (r_X11_isRow a1) 0 0 := by rw [c_1]; exact ⟨by decide, by decide⟩
    refine lv_ldc hx hb hown (hts (.constant RX11 55 (-1000001)) (by decide +kernel)) dX11_row_22 ?_
    exact hret _ _ _ _ _ _ dX11_row_24 rfl hX hS (by simp only [f_X11_row, if_pos c_1])
  · have b_3 : wx_b a1 0 7 := rf_X11_isRow  c_1
    refine lv_iload_n hx hb dX11_row_7 rfl (lv_at hl 2 rfl) ?_
    refine lv_if_lt (tgt := 22) hx hb dX11_row_8 (by decide) (fun c_4 => ?_) (fun c_4 => ?_)
    · have b_5 : wx_b a2 (-2147483648) (-1) := wb_lt c_4 (wb_any _) (show wx_b 0 0 0 from ⟨by decide, by decide⟩) (by decide) (by decide)
      refine lv_ldc hx hb hown (hts (.constant RX11 55 (-1000001)) (by decide +kernel)) dX11_row_22 ?_
      exact hret _ _ _ _ _ _ dX11_row_24 rfl hX hS (by simp only [f_X11_row, if_neg c_1, if_pos c_4])
    · have b_6 : wx_b a2 0 2147483647 := wb_ge (wb_nlt c_4) (wb_any _) (show wx_b 0 0 0 from ⟨by decide, by decide⟩) (by decide) (by decide)
      refine lv_iload_n hx hb dX11_row_11 rfl (lv_at hl 2 rfl) ?_
      refine lv_iconst (v := 2) hx hb dX11_row_12 (by decide) ?_
      refine lv_icmp_gt (tgt := 22) hx hb dX11_row_13 (by decide) (fun c_7 => ?_) (fun c_7 => ?_)
      · have b_8 : wx_b a2 3 2147483647 := wb_gt c_7 b_6 (show wx_b 2 2 2 from ⟨by decide, by decide⟩) (by decide) (by decide)
        refine lv_ldc hx hb hown (hts (.constant RX11 55 (-1000001)) (by decide +kernel)) dX11_row_22 ?_
        exact hret _ _ _ _ _ _ dX11_row_24 rfl hX hS (by simp only [f_X11_row, if_neg c_1, if_neg c_4, if_pos c_7])
      · have b_9 : wx_b a2 0 2 := wb_le (wb_nlt c_7) b_6 (show wx_b 2 2 2 from ⟨by decide, by decide⟩) (by decide) (by decide)
        refine lv_iload_n hx hb dX11_row_16 rfl (lv_at hl 3 rfl) ?_
        refine lv_bipush (v := 40) hx hb dX11_row_17 (by decide) ?_
        refine lv_icmp_le (tgt := 25) hx hb dX11_row_19 (by decide) (fun c_10 => ?_) (fun c_10 => ?_)
        · have b_11 : wx_b a3 (-2147483648) 40 := wb_le c_10 (wb_any _) (show wx_b 40 40 40 from ⟨by decide, by decide⟩) (by decide) (by decide)
          refine lv_iload_n hx hb dX11_row_25 rfl (lv_at hl 3 rfl) ?_
          refine lv_if_ge (tgt := 35) hx hb dX11_row_26 (by decide) (fun c_12 => ?_) (fun c_12 => ?_)
          · have b_13 : wx_b a3 0 40 := wb_ge c_12 b_11 (show wx_b 0 0 0 from ⟨by decide, by decide⟩) (by decide) (by decide)
            refine lv_aload_n hx hb dX11_row_35 rfl (lv_at hl 0 rfl) ?_
            refine wx_getr (t := 1) (C := RX11) (T := TX11) (N := 8) (ci := 10) (j := 0) hx hb hts hi_X11 hown hK hX (by decide) sh_X11_0 rfl (by decide) (hts (.fieldLink RX11 11 "SeenAgain" "rows" "[LSeenAgain$Row;") (by decide +kernel)) (fun _ h9 => h9) dX11_row_36 ?_
            refine lv_iload_n hx hb dX11_row_39 rfl (lv_at hl 1 rfl) ?_
            refine wx_qald (C := "SeenAgain$Row") hx hb hK hX (by decide) sq_1 rfl (wb_in b_3 (by decide) (by decide)) dX11_row_40 ?_
            obtain ⟨k_14, ek_14⟩ : ∃ z : Nat, z = 2 + a1.toNatClampNeg := ⟨_, rfl⟩
            have hkk_14 : wx_Rk k_14 := ⟨by omega, by have := wb_cl (n := 7) b_3 (by decide); omega⟩
            rw [← ek_14]
            refine lv_iload_n hx hb dX11_row_41 rfl (lv_at hl 2 rfl) ?_
            refine lv_iload_n hx hb dX11_row_42 rfl (lv_at hl 3 rfl) ?_
            refine wx_callev (va_runV (As := [.int a2, .int a3]) (rest := []) ⟨hx, hb, hml, hown, hts⟩ (k_X5_begin l g k_14 a2 a3 (show wx_Rk k_14 from hkk_14)) (cwV 2 hts gX11_row_X5_begin rfl rfl rfl (by decide +kernel) (by rw [hR]; exact ⟨Nat.le_of_ble_eq_true rfl, Nat.le_of_ble_eq_true rfl⟩)) ⟨wx_Pc.blind, wx_recv hK hX (by have := (show wx_Rk k_14 from hkk_14).2; omega) (sh_X5 (show wx_Rk k_14 from hkk_14)) rfl, (wx_Pc.pre hK hX).2⟩ rfl rfl hl.1 rfl (lv_room (Nat.le_of_ble_eq_true rfl)) dX11_row_43 ⟨Nat.zero_le _, Nat.zero_le _⟩) hS (fun H locs hX hS => ?_)
            obtain ⟨g_15, eg_15, hX⟩ := wx_nm hX
            refine lv_aload_n hx hb dX11_row_46 rfl (lv_at hl 0 rfl) ?_
            refine lv_iload_n hx hb dX11_row_47 rfl (lv_at hl 3 rfl) ?_
            refine wx_callei (va_runV (As := [.int a3]) (rest := []) ⟨hx, hb, hml, hown, hts⟩ (k_X11_answered l g_15 a3) (cwV 1 hts gX11_row_X11_answered rfl rfl rfl (by decide +kernel) (by rw [hR]; exact ⟨Nat.le_of_ble_eq_true rfl, Nat.le_of_ble_eq_true rfl⟩)) ⟨wx_Pc.blind, wx_recv hK hX (by decide) sh_X11 rfl, (wx_Pc.pre hK hX).2⟩ rfl rfl hl.1 rfl (lv_room (Nat.le_of_ble_eq_true rfl)) dX11_row_48 ⟨Nat.zero_le _, Nat.zero_le _⟩) hS (fun H locs hX hS => ?_)
            obtain ⟨z_16, ez_16⟩ : ∃ z, z = f_X11_answered g_15 a3 := ⟨_, rfl⟩
            rw [← ez_16] at hX; rw [← ez_16]
            exact hret _ _ _ _ _ _ dX11_row_51 rfl hX hS (by subst ez_16 eg_15 ek_14; simp only [f_X11_row, if_neg c_1, if_neg c_4, if_neg c_7, if_pos c_10, if_pos c_12])
          · have b_17 : wx_b a3 (-2147483648) (-1) := wb_lt (wb_nle c_12) b_11 (show wx_b 0 0 0 from ⟨by decide, by decide⟩) (by decide) (by decide)
            refine lv_aload_n hx hb dX11_row_29 rfl (lv_at hl 0 rfl) ?_
            refine lv_iconst (v := 4) hx hb dX11_row_30 (by decide) ?_
            refine wx_callei (va_runV (As := [.int 4]) (rest := []) ⟨hx, hb, hml, hown, hts⟩ (k_X11_found l g 4) (cwV 1 hts gX11_row_X11_found rfl rfl rfl (by decide +kernel) (by rw [hR]; exact ⟨Nat.le_of_ble_eq_true rfl, Nat.le_of_ble_eq_true rfl⟩)) ⟨wx_Pc.blind, wx_recv hK hX (by decide) sh_X11 rfl, (wx_Pc.pre hK hX).2⟩ rfl rfl hl.1 rfl (lv_room (Nat.le_of_ble_eq_true rfl)) dX11_row_31 ⟨Nat.zero_le _, Nat.zero_le _⟩) hS (fun H locs hX hS => ?_)
            obtain ⟨z_18, ez_18⟩ : ∃ z, z = f_X11_found g 4 := ⟨_, rfl⟩
            rw [← ez_18] at hX; rw [← ez_18]
            exact hret _ _ _ _ _ _ dX11_row_34 rfl hX hS (by subst ez_18; simp only [f_X11_row, if_neg c_1, if_neg c_4, if_neg c_7, if_pos c_10, if_neg c_12])
        · have b_19 : wx_b a3 41 2147483647 := wb_gt (wb_nle c_10) (wb_any _) (show wx_b 40 40 40 from ⟨by decide, by decide⟩) (by decide) (by decide)
          refine lv_ldc hx hb hown (hts (.constant RX11 55 (-1000001)) (by decide +kernel)) dX11_row_22 ?_
          exact hret _ _ _ _ _ _ dX11_row_24 rfl hX hS (by simp only [f_X11_row, if_neg c_1, if_neg c_4, if_neg c_7, if_neg c_10])
def f_X11_set (g : wx_M) (a1 : Int32) (a2 : Int32) (a3 : Int32) : wx_M × Int32 :=
  if (r_X11_isRow a1) = 0 then
    (g, (-1000001))
  else
    let k_3 := 2 + a1.toNatClampNeg
    if (g k_3 3) = 0 then
      if (r_X5_hasItems g k_3 a2 1) = 0 then
        let z_12 := f_X11_found g 2
        (z_12.1, z_12.2)
      else
        let x_8 := (r_X5_cutToLane g k_3 a3)
        let g_9 := up2 g (k_3 + 8) a2.toNatClampNeg x_8
        let z_10 := f_X11_answered g_9 (g_9 (k_3 + 8) a2.toNatClampNeg)
        (z_10.1, z_10.2)
    else
      let z_13 := f_X11_found g 1
      (z_13.1, z_13.2)
set_option maxHeartbeats 4000000 in
set_option maxRecDepth 100000 in
theorem k_X11_set (l : Launch) {D : va_G} {cy : Nat → ClassId} {ad : Nat → Nat} {B0 : Nat} {f : wx_F} {P : va_W} (g : wx_M) (a1 : Int32) (a2 : Int32) (a3 : Int32) (hsz : wx_SZ g) : Met l yX11_set wsX11_set ({ frames := 1, cells := 0, slots := 0, locals := 22 } : Room) (wx_Pc D cy ad B0 f P g [.ref (ad 0), .int a1, .int a2, .int a3]) (wx_Qe D cy ad B0 f P (f_X11_set g a1 a2 a3).1 (some (.int (f_X11_set g a1 a2 a3).2))) 0 0 (fun q => B0 ≤ q) := by
  refine wx_enterE (cc := cX11_set) (maxL := 5) (ty := .int) (own := RX11) (lv := [(0, .ref (ad 0)), (1, .int a1), (2, .int a2), (3, .int a3)]) (by decide) rfl rfl (Nat.le_of_ble_eq_true rfl) rfl ?_
  intro p e R s m args below meth c ls Qm hx hb hml hown hts hK hX hS hR hret hl
  have hi_X11 : ∀ w ∈ wsX110, w ∈ wsX11_set := by decide +kernel
  have hi_X5 : ∀ w ∈ wsX50, w ∈ wsX11_set := by decide +kernel
  refine lv_iload_n hx hb dX11_set_0 rfl (lv_at hl 1 rfl) ?_
  refine wx_callr (va_runS (As := [.int a1]) (rest := []) ⟨hx, hb, hml, hown, hts⟩ (k_X11_isRow l g a1) (va_cwS 1 hts gX11_set_X11_isRow rfl rfl rfl (by decide +kernel) (by rw [hR]; exact ⟨Nat.le_of_ble_eq_true rfl, Nat.le_of_ble_eq_true rfl⟩)) (wx_Pc.pre hK hX) rfl rfl hl.1 rfl (lv_room (Nat.le_of_ble_eq_true rfl)) dX11_set_1 ⟨Nat.zero_le _, Nat.zero_le _⟩) ?_
  refine lv_if_ne (tgt := 10) hx hb dX11_set_4 (by decide) (fun c_1 => ?_) (fun c_1 => ?_)
  · have b_2 : wx_b a1 0 7 := rf_X11_isRow  c_1
    refine lv_aload_n hx hb dX11_set_10 rfl (lv_at hl 0 rfl) ?_
    refine wx_getr (t := 1) (C := RX11) (T := TX11) (N := 8) (ci := 10) (j := 0) hx hb hts hi_X11 hown hK hX (by decide) sh_X11_0 rfl (by decide) (hts (.fieldLink RX11 11 "SeenAgain" "rows" "[LSeenAgain$Row;") (by decide +kernel)) (fun _ h9 => h9) dX11_set_11 ?_
    refine lv_iload_n hx hb dX11_set_14 rfl (lv_at hl 1 rfl) ?_
    refine wx_qald (C := "SeenAgain$Row") hx hb hK hX (by decide) sq_1 rfl (wb_in b_2 (by decide) (by decide)) dX11_set_15 ?_
    obtain ⟨k_3, ek_3⟩ : ∃ z : Nat, z = 2 + a1.toNatClampNeg := ⟨_, rfl⟩
    have hkk_3 : wx_Rk k_3 := ⟨by omega, by have := wb_cl (n := 7) b_2 (by decide); omega⟩
    rw [← ek_3]
    refine lv_astore (lv' := [(4, .ref (ad k_3)), (0, .ref (ad 0)), (1, .int a1), (2, .int a2), (3, .int a3)]) hx hb dX11_set_16 hl (by decide) rfl (fun ls hl => ?_)
    refine lv_aload hx hb dX11_set_18 (lv_at hl 0 rfl) ?_
    refine wx_geti (C := RX5) (T := TX5) (N := 4) (ci := 5) (j := 3) hx hb hts hi_X5 hown hK hX (by have := (show wx_Rk k_3 from hkk_3).2; omega) (sh_X5_3 (show wx_Rk k_3 from hkk_3)) rfl (by decide) (hts (.fieldLink RX11 67 "SeenAgain$Row" "missing" "Z") (by decide +kernel)) (fun _ h9 => h9) dX11_set_20 ?_
    refine lv_if_eq (tgt := 32) hx hb dX11_set_23 (by decide) (fun c_4 => ?_) (fun c_4 => ?_)
    · have b_5 : wx_b (g k_3 3) 0 0 := by rw [c_4]; exact ⟨by decide, by decide⟩
      refine lv_aload hx hb dX11_set_32 (lv_at hl 0 rfl) ?_
      refine lv_iload_n hx hb dX11_set_34 rfl (lv_at hl 3 rfl) ?_
      refine lv_iconst (v := 1) hx hb dX11_set_35 (by decide) ?_
      refine wx_callr (va_runV (As := [.int a2, .int 1]) (rest := []) ⟨hx, hb, hml, hown, hts⟩ (k_X5_hasItems l g k_3 a2 1 (show wx_Rk k_3 from hkk_3)) (cwV 2 hts gX11_set_X5_hasItems rfl rfl rfl (by decide +kernel) (by rw [hR]; exact ⟨Nat.le_of_ble_eq_true rfl, Nat.le_of_ble_eq_true rfl⟩)) ⟨wx_Pc.blind, wx_recv hK hX (by have := (show wx_Rk k_3 from hkk_3).2; omega) (sh_X5 (show wx_Rk k_3 from hkk_3)) rfl, (wx_Pc.pre hK hX).2⟩ rfl rfl hl.1 rfl (lv_room (Nat.le_of_ble_eq_true rfl)) dX11_set_36 ⟨Nat.zero_le _, Nat.zero_le _⟩) ?_
      refine lv_if_ne (tgt := 48) hx hb dX11_set_39 (by decide) (fun c_6 => ?_) (fun c_6 => ?_)
      · have b_7 : wx_b a2 0 39 := rf_X5_hasItems (hsz _ (show wx_Rk k_3 from hkk_3)) (show wx_b 1 1 1 from ⟨by decide, by decide⟩) (by decide) c_6
        refine lv_aload hx hb dX11_set_48 (lv_at hl 0 rfl) ?_
        refine wx_getr (t := k_3 + 8) (C := RX5) (T := TX5) (N := 4) (ci := 5) (j := 0) hx hb hts hi_X5 hown hK hX (by have := (show wx_Rk k_3 from hkk_3).2; omega) (sh_X5_0 (show wx_Rk k_3 from hkk_3)) rfl (by decide) (hts (.fieldLink RX11 75 "SeenAgain$Row" "items" "[I") (by decide +kernel)) (fun _ h9 => h9) dX11_set_50 ?_
        refine lv_iload_n hx hb dX11_set_53 rfl (lv_at hl 3 rfl) ?_
        refine lv_aload hx hb dX11_set_54 (lv_at hl 0 rfl) ?_
        refine lv_iload_n hx hb dX11_set_56 rfl (lv_at hl 4 rfl) ?_
        refine wx_callr (va_runV (As := [.int a3]) (rest := [.int a2, .ref (ad (k_3 + 8))]) ⟨hx, hb, hml, hown, hts⟩ (k_X5_cutToLane l g k_3 a3 (show wx_Rk k_3 from hkk_3)) (cwV 1 hts gX11_set_X5_cutToLane rfl rfl rfl (by decide +kernel) (by rw [hR]; exact ⟨Nat.le_of_ble_eq_true rfl, Nat.le_of_ble_eq_true rfl⟩)) ⟨wx_Pc.blind, wx_recv hK hX (by have := (show wx_Rk k_3 from hkk_3).2; omega) (sh_X5 (show wx_Rk k_3 from hkk_3)) rfl, (wx_Pc.pre hK hX).2⟩ rfl rfl hl.1 rfl (lv_room (Nat.le_of_ble_eq_true rfl)) dX11_set_57 ⟨Nat.zero_le _, Nat.zero_le _⟩) ?_
        refine lv_topi (fun x_8 ex_8 => ?_)
        refine wx_iast hx hb hK hX hS (by have := (show wx_Rk k_3 from hkk_3).2; omega) (sa_X5 (show wx_Rk k_3 from hkk_3)) (wb_in b_7 (by decide) (by decide)) dX11_set_60 (fun H locs hX hS => ?_)
        obtain ⟨g_9, eg_9, hX⟩ := wx_nm hX
        refine lv_aload_n hx hb dX11_set_61 rfl (lv_at hl 1 rfl) ?_
        refine lv_aload hx hb dX11_set_62 (lv_at hl 0 rfl) ?_
        refine wx_getr (t := k_3 + 8) (C := RX5) (T := TX5) (N := 4) (ci := 5) (j := 0) hx hb hts hi_X5 hown hK hX (by have := (show wx_Rk k_3 from hkk_3).2; omega) (sh_X5_0 (show wx_Rk k_3 from hkk_3)) rfl (by decide) (hts (.fieldLink RX11 75 "SeenAgain$Row" "items" "[I") (by decide +kernel)) (fun _ h9 => h9) dX11_set_64 ?_
        refine lv_iload_n hx hb dX11_set_67 rfl (lv_at hl 3 rfl) ?_
        refine wx_iald hx hb hK hX (by have := (show wx_Rk k_3 from hkk_3).2; omega) (sa_X5 (show wx_Rk k_3 from hkk_3)) (wb_in b_7 (by decide) (by decide)) dX11_set_68 ?_
        refine wx_callei (va_runV (As := [.int (g_9 (k_3 + 8) a2.toNatClampNeg)]) (rest := []) ⟨hx, hb, hml, hown, hts⟩ (k_X11_answered l g_9 (g_9 (k_3 + 8) a2.toNatClampNeg)) (cwV 1 hts gX11_set_X11_answered rfl rfl rfl (by decide +kernel) (by rw [hR]; exact ⟨Nat.le_of_ble_eq_true rfl, Nat.le_of_ble_eq_true rfl⟩)) ⟨wx_Pc.blind, wx_recv hK hX (by decide) sh_X11 rfl, (wx_Pc.pre hK hX).2⟩ rfl rfl hl.1 rfl (lv_room (Nat.le_of_ble_eq_true rfl)) dX11_set_69 ⟨Nat.zero_le _, Nat.zero_le _⟩) hS (fun H locs hX hS => ?_)
        obtain ⟨z_10, ez_10⟩ : ∃ z, z = f_X11_answered g_9 (g_9 (k_3 + 8) a2.toNatClampNeg) := ⟨_, rfl⟩
        rw [← ez_10] at hX; rw [← ez_10]
        exact hret _ _ _ _ _ _ dX11_set_72 rfl hX hS (by subst ez_10 eg_9 ex_8 ek_3; simp only [f_X11_set, if_neg c_1, if_pos c_4, if_neg c_6])
      · have b_11 : wx_b (r_X5_hasItems g k_3 a2 1) 0 0 := by rw [c_6]; exact ⟨by decide, by decide⟩
        refine lv_aload_n hx hb dX11_set_42 rfl (lv_at hl 1 rfl) ?_
        refine lv_iconst (v := 2) hx hb dX11_set_43 (by decide) ?_
        refine wx_callei (va_runV (As := [.int 2]) (rest := []) ⟨hx, hb, hml, hown, hts⟩ (k_X11_found l g 2) (cwV 1 hts gX11_set_X11_found rfl rfl rfl (by decide +kernel) (by rw [hR]; exact ⟨Nat.le_of_ble_eq_true rfl, Nat.le_of_ble_eq_true rfl⟩)) ⟨wx_Pc.blind, wx_recv hK hX (by decide) sh_X11 rfl, (wx_Pc.pre hK hX).2⟩ rfl rfl hl.1 rfl (lv_room (Nat.le_of_ble_eq_true rfl)) dX11_set_44 ⟨Nat.zero_le _, Nat.zero_le _⟩) hS (fun H locs hX hS => ?_)
        obtain ⟨z_12, ez_12⟩ : ∃ z, z = f_X11_found g 2 := ⟨_, rfl⟩
        rw [← ez_12] at hX; rw [← ez_12]
        exact hret _ _ _ _ _ _ dX11_set_47 rfl hX hS (by subst ez_12 ek_3; simp only [f_X11_set, if_neg c_1, if_pos c_4, if_pos c_6])
    · refine lv_aload_n hx hb dX11_set_26 rfl (lv_at hl 1 rfl) ?_
      refine lv_iconst (v := 1) hx hb dX11_set_27 (by decide) ?_
      refine wx_callei (va_runV (As := [.int 1]) (rest := []) ⟨hx, hb, hml, hown, hts⟩ (k_X11_found l g 1) (cwV 1 hts gX11_set_X11_found rfl rfl rfl (by decide +kernel) (by rw [hR]; exact ⟨Nat.le_of_ble_eq_true rfl, Nat.le_of_ble_eq_true rfl⟩)) ⟨wx_Pc.blind, wx_recv hK hX (by decide) sh_X11 rfl, (wx_Pc.pre hK hX).2⟩ rfl rfl hl.1 rfl (lv_room (Nat.le_of_ble_eq_true rfl)) dX11_set_28 ⟨Nat.zero_le _, Nat.zero_le _⟩) hS (fun H locs hX hS => ?_)
      obtain ⟨z_13, ez_13⟩ : ∃ z, z = f_X11_found g 1 := ⟨_, rfl⟩
      rw [← ez_13] at hX; rw [← ez_13]
      exact hret _ _ _ _ _ _ dX11_set_31 rfl hX hS (by subst ez_13 ek_3; simp only [f_X11_set, if_neg c_1, if_neg c_4])
  · have b_14 : wx_b (r_X11_isRow a1) 0 0 := by rw [c_1]; exact ⟨by decide, by decide⟩
    refine lv_ldc hx hb hown (hts (.constant RX11 55 (-1000001)) (by decide +kernel)) dX11_set_7 ?_
    exact hret _ _ _ _ _ _ dX11_set_9 rfl hX hS (by simp only [f_X11_set, if_pos c_1])
def f_X11_drop (g : wx_M) (a1 : Int32) : wx_M × Int32 :=
  if (r_X11_isRow a1) = 0 then
    (g, (-1000001))
  else
    let k_3 := 2 + a1.toNatClampNeg
    if (g k_3 3) = 0 then
      let g_6 := up2 g k_3 3 1
      let z_7 := f_X11_answered g_6 (g_6 k_3 2)
      (z_7.1, z_7.2)
    else
      let z_8 := f_X11_found g 1
      (z_8.1, z_8.2)
set_option maxHeartbeats 4000000 in
set_option maxRecDepth 100000 in
theorem k_X11_drop (l : Launch) {D : va_G} {cy : Nat → ClassId} {ad : Nat → Nat} {B0 : Nat} {f : wx_F} {P : va_W} (g : wx_M) (a1 : Int32) : Met l yX11_drop wsX11_drop ({ frames := 1, cells := 0, slots := 0, locals := 21 } : Room) (wx_Pc D cy ad B0 f P g [.ref (ad 0), .int a1]) (wx_Qe D cy ad B0 f P (f_X11_drop g a1).1 (some (.int (f_X11_drop g a1).2))) 0 0 (fun q => B0 ≤ q) := by
  refine wx_enterE (cc := cX11_drop) (maxL := 3) (ty := .int) (own := RX11) (lv := [(0, .ref (ad 0)), (1, .int a1)]) (by decide) rfl rfl (Nat.le_of_ble_eq_true rfl) rfl ?_
  intro p e R s m args below meth c ls Qm hx hb hml hown hts hK hX hS hR hret hl
  have hi_X11 : ∀ w ∈ wsX110, w ∈ wsX11_drop := by decide +kernel
  have hi_X5 : ∀ w ∈ wsX50, w ∈ wsX11_drop := by decide +kernel
  refine lv_iload_n hx hb dX11_drop_0 rfl (lv_at hl 1 rfl) ?_
  refine wx_callr (va_runS (As := [.int a1]) (rest := []) ⟨hx, hb, hml, hown, hts⟩ (k_X11_isRow l g a1) (va_cwS 1 hts gX11_drop_X11_isRow rfl rfl rfl (by decide +kernel) (by rw [hR]; exact ⟨Nat.le_of_ble_eq_true rfl, Nat.le_of_ble_eq_true rfl⟩)) (wx_Pc.pre hK hX) rfl rfl hl.1 rfl (lv_room (Nat.le_of_ble_eq_true rfl)) dX11_drop_1 ⟨Nat.zero_le _, Nat.zero_le _⟩) ?_
  refine lv_if_ne (tgt := 10) hx hb dX11_drop_4 (by decide) (fun c_1 => ?_) (fun c_1 => ?_)
  · have b_2 : wx_b a1 0 7 := rf_X11_isRow  c_1
    refine lv_aload_n hx hb dX11_drop_10 rfl (lv_at hl 0 rfl) ?_
    refine wx_getr (t := 1) (C := RX11) (T := TX11) (N := 8) (ci := 10) (j := 0) hx hb hts hi_X11 hown hK hX (by decide) sh_X11_0 rfl (by decide) (hts (.fieldLink RX11 11 "SeenAgain" "rows" "[LSeenAgain$Row;") (by decide +kernel)) (fun _ h9 => h9) dX11_drop_11 ?_
    refine lv_iload_n hx hb dX11_drop_14 rfl (lv_at hl 1 rfl) ?_
    refine wx_qald (C := "SeenAgain$Row") hx hb hK hX (by decide) sq_1 rfl (wb_in b_2 (by decide) (by decide)) dX11_drop_15 ?_
    obtain ⟨k_3, ek_3⟩ : ∃ z : Nat, z = 2 + a1.toNatClampNeg := ⟨_, rfl⟩
    have hkk_3 : wx_Rk k_3 := ⟨by omega, by have := wb_cl (n := 7) b_2 (by decide); omega⟩
    rw [← ek_3]
    refine lv_astore_n (lv' := [(2, .ref (ad k_3)), (0, .ref (ad 0)), (1, .int a1)]) hx hb dX11_drop_16 rfl hl (by decide) rfl (fun ls hl => ?_)
    refine lv_aload_n hx hb dX11_drop_17 rfl (lv_at hl 0 rfl) ?_
    refine wx_geti (C := RX5) (T := TX5) (N := 4) (ci := 5) (j := 3) hx hb hts hi_X5 hown hK hX (by have := (show wx_Rk k_3 from hkk_3).2; omega) (sh_X5_3 (show wx_Rk k_3 from hkk_3)) rfl (by decide) (hts (.fieldLink RX11 67 "SeenAgain$Row" "missing" "Z") (by decide +kernel)) (fun _ h9 => h9) dX11_drop_18 ?_
    refine lv_if_eq (tgt := 30) hx hb dX11_drop_21 (by decide) (fun c_4 => ?_) (fun c_4 => ?_)
    · have b_5 : wx_b (g k_3 3) 0 0 := by rw [c_4]; exact ⟨by decide, by decide⟩
      refine lv_aload_n hx hb dX11_drop_30 rfl (lv_at hl 0 rfl) ?_
      refine lv_iconst (v := 1) hx hb dX11_drop_31 (by decide) ?_
      refine wx_puti (C := RX5) (T := TX5) (N := 4) (ci := 5) (j := 3) (ty := .boolean) hx hb hts hi_X5 tyX5 tyX5_ok nmX5 hown hK hX hS (by have := (show wx_Rk k_3 from hkk_3).2; omega) (sh_X5_3 (show wx_Rk k_3 from hkk_3)) rfl (by decide) (hts (.fieldLink RX11 67 "SeenAgain$Row" "missing" "Z") (by decide +kernel)) (fun _ h9 => h9) rfl (by decide +kernel) rfl rfl dX11_drop_32 (fun H locs hX hS => ?_)
      obtain ⟨g_6, eg_6, hX⟩ := wx_nm hX
      refine lv_aload_n hx hb dX11_drop_35 rfl (lv_at hl 1 rfl) ?_
      refine lv_aload_n hx hb dX11_drop_36 rfl (lv_at hl 0 rfl) ?_
      refine wx_geti (C := RX5) (T := TX5) (N := 4) (ci := 5) (j := 2) hx hb hts hi_X5 hown hK hX (by have := (show wx_Rk k_3 from hkk_3).2; omega) (sh_X5_2 (show wx_Rk k_3 from hkk_3)) rfl (by decide) (hts (.fieldLink RX11 92 "SeenAgain$Row" "size" "I") (by decide +kernel)) (fun _ h9 => h9) dX11_drop_37 ?_
      refine wx_callei (va_runV (As := [.int (g_6 k_3 2)]) (rest := []) ⟨hx, hb, hml, hown, hts⟩ (k_X11_answered l g_6 (g_6 k_3 2)) (cwV 1 hts gX11_drop_X11_answered rfl rfl rfl (by decide +kernel) (by rw [hR]; exact ⟨Nat.le_of_ble_eq_true rfl, Nat.le_of_ble_eq_true rfl⟩)) ⟨wx_Pc.blind, wx_recv hK hX (by decide) sh_X11 rfl, (wx_Pc.pre hK hX).2⟩ rfl rfl hl.1 rfl (lv_room (Nat.le_of_ble_eq_true rfl)) dX11_drop_40 ⟨Nat.zero_le _, Nat.zero_le _⟩) hS (fun H locs hX hS => ?_)
      obtain ⟨z_7, ez_7⟩ : ∃ z, z = f_X11_answered g_6 (g_6 k_3 2) := ⟨_, rfl⟩
      rw [← ez_7] at hX; rw [← ez_7]
      exact hret _ _ _ _ _ _ dX11_drop_43 rfl hX hS (by subst ez_7 eg_6 ek_3; simp only [f_X11_drop, if_neg c_1, if_pos c_4])
    · refine lv_aload_n hx hb dX11_drop_24 rfl (lv_at hl 1 rfl) ?_
      refine lv_iconst (v := 1) hx hb dX11_drop_25 (by decide) ?_
      refine wx_callei (va_runV (As := [.int 1]) (rest := []) ⟨hx, hb, hml, hown, hts⟩ (k_X11_found l g 1) (cwV 1 hts gX11_drop_X11_found rfl rfl rfl (by decide +kernel) (by rw [hR]; exact ⟨Nat.le_of_ble_eq_true rfl, Nat.le_of_ble_eq_true rfl⟩)) ⟨wx_Pc.blind, wx_recv hK hX (by decide) sh_X11 rfl, (wx_Pc.pre hK hX).2⟩ rfl rfl hl.1 rfl (lv_room (Nat.le_of_ble_eq_true rfl)) dX11_drop_26 ⟨Nat.zero_le _, Nat.zero_le _⟩) hS (fun H locs hX hS => ?_)
      obtain ⟨z_8, ez_8⟩ : ∃ z, z = f_X11_found g 1 := ⟨_, rfl⟩
      rw [← ez_8] at hX; rw [← ez_8]
      exact hret _ _ _ _ _ _ dX11_drop_29 rfl hX hS (by subst ez_8 ek_3; simp only [f_X11_drop, if_neg c_1, if_neg c_4])
  · have b_9 : wx_b (r_X11_isRow a1) 0 0 := by rw [c_1]; exact ⟨by decide, by decide⟩
    refine lv_ldc hx hb hown (hts (.constant RX11 55 (-1000001)) (by decide +kernel)) dX11_drop_7 ?_
    exact hret _ _ _ _ _ _ dX11_drop_9 rfl hX hS (by simp only [f_X11_drop, if_pos c_1])
def f_X11_feed (g : wx_M) (a1 : Int32) : wx_M × Int32 :=
  if a1 < 0 then
    (g, (-1000001))
  else
    if a1 ≤ 255 then
      if (g 18 1) < 140 then
        let g_8 := up2 g 19 (g 18 1).toNatClampNeg a1
        let x_9 := ((g_8 18 1) + 1)
        let g_10 := up2 g_8 18 1 x_9
        let x_11 := (g_10 18 1)
        (g_10, x_11)
      else
        (g, (-1000003))
    else
      (g, (-1000001))
set_option maxHeartbeats 4000000 in
set_option maxRecDepth 100000 in
theorem k_X11_feed (l : Launch) {D : va_G} {cy : Nat → ClassId} {ad : Nat → Nat} {B0 : Nat} {f : wx_F} {P : va_W} (g : wx_M) (a1 : Int32) (htl : wx_b (g 18 1) 0 140) : Met l yX11_feed wsX11_feed ({ frames := 0, cells := 0, slots := 0, locals := 0 } : Room) (wx_Pc D cy ad B0 f P g [.ref (ad 0), .int a1]) (wx_Qe D cy ad B0 f P (f_X11_feed g a1).1 (some (.int (f_X11_feed g a1).2))) 0 0 (fun q => B0 ≤ q) := by
  refine wx_enterE (cc := cX11_feed) (maxL := 2) (ty := .int) (own := RX11) (lv := [(0, .ref (ad 0)), (1, .int a1)]) (by decide) rfl rfl (Nat.le_of_ble_eq_true rfl) rfl ?_
  intro p e R s m args below meth c ls Qm hx hb hml hown hts hK hX hS hR hret hl
  have hi_X11 : ∀ w ∈ wsX110, w ∈ wsX11_feed := by decide +kernel
  have hi_X6 : ∀ w ∈ wsX60, w ∈ wsX11_feed := by decide +kernel
  refine lv_iload_n hx hb dX11_feed_0 rfl (lv_at hl 1 rfl) ?_
  refine lv_if_lt (tgt := 11) hx hb dX11_feed_1 (by decide) (fun c_1 => ?_) (fun c_1 => ?_)
  · have b_2 : wx_b a1 (-2147483648) (-1) := wb_lt c_1 (wb_any _) (show wx_b 0 0 0 from ⟨by decide, by decide⟩) (by decide) (by decide)
    refine lv_ldc hx hb hown (hts (.constant RX11 55 (-1000001)) (by decide +kernel)) dX11_feed_11 ?_
    exact hret _ _ _ _ _ _ dX11_feed_13 rfl hX hS (by simp only [f_X11_feed, if_pos c_1])
  · have b_3 : wx_b a1 0 2147483647 := wb_ge (wb_nlt c_1) (wb_any _) (show wx_b 0 0 0 from ⟨by decide, by decide⟩) (by decide) (by decide)
    refine lv_iload_n hx hb dX11_feed_4 rfl (lv_at hl 1 rfl) ?_
    refine lv_sipush (v := 255) hx hb dX11_feed_5 (by decide) ?_
    refine lv_icmp_le (tgt := 14) hx hb dX11_feed_8 (by decide) (fun c_4 => ?_) (fun c_4 => ?_)
    · have b_5 : wx_b a1 0 255 := wb_le c_4 b_3 (show wx_b 255 255 255 from ⟨by decide, by decide⟩) (by decide) (by decide)
      refine lv_aload_n hx hb dX11_feed_14 rfl (lv_at hl 0 rfl) ?_
      refine wx_getr (t := 18) (C := RX11) (T := TX11) (N := 8) (ci := 10) (j := 1) hx hb hts hi_X11 hown hK hX (by decide) sh_X11_1 rfl (by decide) (hts (.fieldLink RX11 18 "SeenAgain" "tape" "LSeenAgain$Tape;") (by decide +kernel)) (fun _ h9 => h9) dX11_feed_15 ?_
      refine wx_geti (C := RX6) (T := TX6) (N := 8) (ci := 6) (j := 1) hx hb hts hi_X6 hown hK hX (by decide) sh_X6_1 rfl (by decide) (hts (.fieldLink RX11 95 "SeenAgain$Tape" "length" "I") (by decide +kernel)) (fun _ h9 => h9) dX11_feed_18 ?_
      refine lv_sipush (v := 140) hx hb dX11_feed_21 (by decide) ?_
      refine lv_icmp_lt (tgt := 30) hx hb dX11_feed_24 (by decide) (fun c_6 => ?_) (fun c_6 => ?_)
      · have b_7 : wx_b (g 18 1) 0 139 := wb_lt c_6 htl (show wx_b 140 140 140 from ⟨by decide, by decide⟩) (by decide) (by decide)
        refine lv_aload_n hx hb dX11_feed_30 rfl (lv_at hl 0 rfl) ?_
        refine wx_getr (t := 18) (C := RX11) (T := TX11) (N := 8) (ci := 10) (j := 1) hx hb hts hi_X11 hown hK hX (by decide) sh_X11_1 rfl (by decide) (hts (.fieldLink RX11 18 "SeenAgain" "tape" "LSeenAgain$Tape;") (by decide +kernel)) (fun _ h9 => h9) dX11_feed_31 ?_
        refine wx_getr (t := 19) (C := RX6) (T := TX6) (N := 8) (ci := 6) (j := 0) hx hb hts hi_X6 hown hK hX (by decide) sh_X6_0 rfl (by decide) (hts (.fieldLink RX11 99 "SeenAgain$Tape" "letters" "[I") (by decide +kernel)) (fun _ h9 => h9) dX11_feed_34 ?_
        refine lv_aload_n hx hb dX11_feed_37 rfl (lv_at hl 0 rfl) ?_
        refine wx_getr (t := 18) (C := RX11) (T := TX11) (N := 8) (ci := 10) (j := 1) hx hb hts hi_X11 hown hK hX (by decide) sh_X11_1 rfl (by decide) (hts (.fieldLink RX11 18 "SeenAgain" "tape" "LSeenAgain$Tape;") (by decide +kernel)) (fun _ h9 => h9) dX11_feed_38 ?_
        refine wx_geti (C := RX6) (T := TX6) (N := 8) (ci := 6) (j := 1) hx hb hts hi_X6 hown hK hX (by decide) sh_X6_1 rfl (by decide) (hts (.fieldLink RX11 95 "SeenAgain$Tape" "length" "I") (by decide +kernel)) (fun _ h9 => h9) dX11_feed_41 ?_
        refine lv_iload_n hx hb dX11_feed_44 rfl (lv_at hl 1 rfl) ?_
        refine wx_iast hx hb hK hX hS (by decide) sa_19 (wb_in b_7 (by decide) (by decide)) dX11_feed_45 (fun H locs hX hS => ?_)
        obtain ⟨g_8, eg_8, hX⟩ := wx_nm hX
        refine lv_aload_n hx hb dX11_feed_46 rfl (lv_at hl 0 rfl) ?_
        refine wx_getr (t := 18) (C := RX11) (T := TX11) (N := 8) (ci := 10) (j := 1) hx hb hts hi_X11 hown hK hX (by decide) sh_X11_1 rfl (by decide) (hts (.fieldLink RX11 18 "SeenAgain" "tape" "LSeenAgain$Tape;") (by decide +kernel)) (fun _ h9 => h9) dX11_feed_47 ?_
        refine lv_dup hx hb dX11_feed_50 rfl ?_
        refine wx_geti (C := RX6) (T := TX6) (N := 8) (ci := 6) (j := 1) hx hb hts hi_X6 hown hK hX (by decide) sh_X6_1 rfl (by decide) (hts (.fieldLink RX11 95 "SeenAgain$Tape" "length" "I") (by decide +kernel)) (fun _ h9 => h9) dX11_feed_51 ?_
        refine lv_iconst (v := 1) hx hb dX11_feed_54 (by decide) ?_
        refine lv_iadd hx hb dX11_feed_55 ?_
        refine lv_topi (fun x_9 ex_9 => ?_)
        have bx_9 : wx_b x_9 1 140 := by rw [ex_9]; exact (wb_add (show wx_b (g_8 18 1) 0 139 by rw [show (g_8 18 1) = (g 18 1) from (by rw [eg_8, up2_n (by decide)])]; exact b_7) (show wx_b 1 1 1 from ⟨by decide, by decide⟩) (by decide) (by decide))
        refine wx_puti (C := RX6) (T := TX6) (N := 8) (ci := 6) (j := 1) (ty := .int) hx hb hts hi_X6 tyX6 tyX6_ok nmX6 hown hK hX hS (by decide) sh_X6_1 rfl (by decide) (hts (.fieldLink RX11 95 "SeenAgain$Tape" "length" "I") (by decide +kernel)) (fun _ h9 => h9) rfl (by decide +kernel) rfl rfl dX11_feed_56 (fun H locs hX hS => ?_)
        obtain ⟨g_10, eg_10, hX⟩ := wx_nm hX
        refine lv_aload_n hx hb dX11_feed_59 rfl (lv_at hl 0 rfl) ?_
        refine wx_getr (t := 18) (C := RX11) (T := TX11) (N := 8) (ci := 10) (j := 1) hx hb hts hi_X11 hown hK hX (by decide) sh_X11_1 rfl (by decide) (hts (.fieldLink RX11 18 "SeenAgain" "tape" "LSeenAgain$Tape;") (by decide +kernel)) (fun _ h9 => h9) dX11_feed_60 ?_
        refine wx_geti (C := RX6) (T := TX6) (N := 8) (ci := 6) (j := 1) hx hb hts hi_X6 hown hK hX (by decide) sh_X6_1 rfl (by decide) (hts (.fieldLink RX11 95 "SeenAgain$Tape" "length" "I") (by decide +kernel)) (fun _ h9 => h9) dX11_feed_63 ?_
        refine lv_topi (fun x_11 ex_11 => ?_)
        have bx_11 : wx_b x_11 1 140 := by rw [ex_11]; exact (show wx_b (g_10 18 1) 1 140 by rw [show (g_10 18 1) = x_9 from (by rw [eg_10, up2_ss])]; exact bx_9)
        exact hret _ _ _ _ _ _ dX11_feed_66 rfl hX hS (by subst ex_11 eg_10 ex_9 eg_8; simp only [f_X11_feed, if_neg c_1, if_pos c_4, if_pos c_6])
      · have b_12 : wx_b (g 18 1) 140 140 := wb_ge (wb_nlt c_6) htl (show wx_b 140 140 140 from ⟨by decide, by decide⟩) (by decide) (by decide)
        refine lv_ldc hx hb hown (hts (.constant RX11 98 (-1000003)) (by decide +kernel)) dX11_feed_27 ?_
        exact hret _ _ _ _ _ _ dX11_feed_29 rfl hX hS (by simp only [f_X11_feed, if_neg c_1, if_pos c_4, if_neg c_6])
    · have b_13 : wx_b a1 256 2147483647 := wb_gt (wb_nle c_4) b_3 (show wx_b 255 255 255 from ⟨by decide, by decide⟩) (by decide) (by decide)
      refine lv_ldc hx hb hown (hts (.constant RX11 55 (-1000001)) (by decide +kernel)) dX11_feed_11 ?_
      exact hret _ _ _ _ _ _ dX11_feed_13 rfl hX hS (by simp only [f_X11_feed, if_neg c_1, if_neg c_4])
def f_X11_buy (g : wx_M) (a1 : Int32) (a2 : Int32) (a3 : Int32) : wx_M × Int32 :=
  if (r_X3_isVisitor g 20 a1) = 0 then
    (g, (-1000001))
  else
    if (r_X3_isRoom g 20 a2) = 0 then
      (g, (-1000001))
    else
      if (r_X11_isMinute a3) = 0 then
        (g, (-1000001))
      else
        if (r_X3_holds g 20 a1 a2 a3) = 0 then
          if (r_X3_canBuy g 20 a1 a2 a3) = 0 then
            (g, (-1000003))
          else
            let x_12 := (r_X3_priceFor g 20 a1 a2 a3)
            let g_13 := e_X3_takeSeat g 20 a1 a2 a3 x_12
            let g_14 := e_X0_keep g_13 0 a1 a2 a3 x_12
            (g_14, x_12)
        else
          (g, (-1000002))
set_option maxHeartbeats 4000000 in
set_option maxRecDepth 100000 in
theorem k_X11_buy (l : Launch) {D : va_G} {cy : Nat → ClassId} {ad : Nat → Nat} {B0 : Nat} {f : wx_F} {P : va_W} (g : wx_M) (a1 : Int32) (a2 : Int32) (a3 : Int32) (hg : wx_HB g 20) (hn : wx_b (g 49 5) 0 23) : Met l yX11_buy wsX11_buy ({ frames := 5, cells := 0, slots := 0, locals := 122 } : Room) (wx_Pc D cy ad B0 f P g [.ref (ad 0), .int a1, .int a2, .int a3]) (wx_Qe D cy ad B0 f P (f_X11_buy g a1 a2 a3).1 (some (.int (f_X11_buy g a1 a2 a3).2))) 0 0 (fun q => B0 ≤ q) := by
  refine wx_enterE (cc := cX11_buy) (maxL := 5) (ty := .int) (own := RX11) (lv := [(0, .ref (ad 0)), (1, .int a1), (2, .int a2), (3, .int a3)]) (by decide) rfl rfl (Nat.le_of_ble_eq_true rfl) rfl ?_
  intro p e R s m args below meth c ls Qm hx hb hml hown hts hK hX hS hR hret hl
  have hi_X11 : ∀ w ∈ wsX110, w ∈ wsX11_buy := by decide +kernel
  refine lv_aload_n hx hb dX11_buy_0 rfl (lv_at hl 0 rfl) ?_
  refine wx_getr (t := 20) (C := RX11) (T := TX11) (N := 8) (ci := 10) (j := 2) hx hb hts hi_X11 hown hK hX (by decide) sh_X11_2 rfl (by decide) (hts (.fieldLink RX11 25 "SeenAgain" "house" "LSeenAgain$House;") (by decide +kernel)) (fun _ h9 => h9) dX11_buy_1 ?_
  refine lv_iload_n hx hb dX11_buy_4 rfl (lv_at hl 1 rfl) ?_
  refine wx_callr (va_runV (As := [.int a1]) (rest := []) ⟨hx, hb, hml, hown, hts⟩ (k_X3_isVisitor l g 20 a1 (show wx_H 20 from Or.inl rfl)) (cwV 1 hts gX11_buy_X3_isVisitor rfl rfl rfl (by decide +kernel) (by rw [hR]; exact ⟨Nat.le_of_ble_eq_true rfl, Nat.le_of_ble_eq_true rfl⟩)) ⟨wx_Pc.blind, wx_recv hK hX (by decide) (sh_X3 (show wx_H 20 from Or.inl rfl)) rfl, (wx_Pc.pre hK hX).2⟩ rfl rfl hl.1 rfl (lv_room (Nat.le_of_ble_eq_true rfl)) dX11_buy_5 ⟨Nat.zero_le _, Nat.zero_le _⟩) ?_
  refine lv_if_eq (tgt := 29) hx hb dX11_buy_8 (by decide) (fun c_1 => ?_) (fun c_1 => ?_)
  · have b_2 : wx_b (r_X3_isVisitor g 20 a1) 0 0 := by rw [c_1]; exact ⟨by decide, by decide⟩
    refine lv_ldc hx hb hown (hts (.constant RX11 55 (-1000001)) (by decide +kernel)) dX11_buy_29 ?_
    exact hret _ _ _ _ _ _ dX11_buy_31 rfl hX hS (by simp only [f_X11_buy, if_pos c_1])
  · have b_3 : wx_b a1 0 3 := rf_X3_isVisitor hg c_1
    refine lv_aload_n hx hb dX11_buy_11 rfl (lv_at hl 0 rfl) ?_
    refine wx_getr (t := 20) (C := RX11) (T := TX11) (N := 8) (ci := 10) (j := 2) hx hb hts hi_X11 hown hK hX (by decide) sh_X11_2 rfl (by decide) (hts (.fieldLink RX11 25 "SeenAgain" "house" "LSeenAgain$House;") (by decide +kernel)) (fun _ h9 => h9) dX11_buy_12 ?_
    refine lv_iload_n hx hb dX11_buy_15 rfl (lv_at hl 2 rfl) ?_
    refine wx_callr (va_runV (As := [.int a2]) (rest := []) ⟨hx, hb, hml, hown, hts⟩ (k_X3_isRoom l g 20 a2 (show wx_H 20 from Or.inl rfl)) (cwV 1 hts gX11_buy_X3_isRoom rfl rfl rfl (by decide +kernel) (by rw [hR]; exact ⟨Nat.le_of_ble_eq_true rfl, Nat.le_of_ble_eq_true rfl⟩)) ⟨wx_Pc.blind, wx_recv hK hX (by decide) (sh_X3 (show wx_H 20 from Or.inl rfl)) rfl, (wx_Pc.pre hK hX).2⟩ rfl rfl hl.1 rfl (lv_room (Nat.le_of_ble_eq_true rfl)) dX11_buy_16 ⟨Nat.zero_le _, Nat.zero_le _⟩) ?_
    refine lv_if_eq (tgt := 29) hx hb dX11_buy_19 (by decide) (fun c_4 => ?_) (fun c_4 => ?_)
    · have b_5 : wx_b (r_X3_isRoom g 20 a2) 0 0 := by rw [c_4]; exact ⟨by decide, by decide⟩
      refine lv_ldc hx hb hown (hts (.constant RX11 55 (-1000001)) (by decide +kernel)) dX11_buy_29 ?_
      exact hret _ _ _ _ _ _ dX11_buy_31 rfl hX hS (by simp only [f_X11_buy, if_neg c_1, if_pos c_4])
    · have b_6 : wx_b a2 0 5 := rf_X3_isRoom hg c_4
      refine lv_iload_n hx hb dX11_buy_22 rfl (lv_at hl 3 rfl) ?_
      refine wx_callr (va_runS (As := [.int a3]) (rest := []) ⟨hx, hb, hml, hown, hts⟩ (k_X11_isMinute l g a3) (va_cwS 1 hts gX11_buy_X11_isMinute rfl rfl rfl (by decide +kernel) (by rw [hR]; exact ⟨Nat.le_of_ble_eq_true rfl, Nat.le_of_ble_eq_true rfl⟩)) (wx_Pc.pre hK hX) rfl rfl hl.1 rfl (lv_room (Nat.le_of_ble_eq_true rfl)) dX11_buy_23 ⟨Nat.zero_le _, Nat.zero_le _⟩) ?_
      refine lv_if_ne (tgt := 32) hx hb dX11_buy_26 (by decide) (fun c_7 => ?_) (fun c_7 => ?_)
      · have b_8 : wx_b a3 0 7 := rf_X11_isMinute  c_7
        refine lv_aload_n hx hb dX11_buy_32 rfl (lv_at hl 0 rfl) ?_
        refine wx_getr (t := 20) (C := RX11) (T := TX11) (N := 8) (ci := 10) (j := 2) hx hb hts hi_X11 hown hK hX (by decide) sh_X11_2 rfl (by decide) (hts (.fieldLink RX11 25 "SeenAgain" "house" "LSeenAgain$House;") (by decide +kernel)) (fun _ h9 => h9) dX11_buy_33 ?_
        refine lv_iload_n hx hb dX11_buy_36 rfl (lv_at hl 1 rfl) ?_
        refine lv_iload_n hx hb dX11_buy_37 rfl (lv_at hl 2 rfl) ?_
        refine lv_iload_n hx hb dX11_buy_38 rfl (lv_at hl 3 rfl) ?_
        refine wx_callr (va_runV (As := [.int a1, .int a2, .int a3]) (rest := []) ⟨hx, hb, hml, hown, hts⟩ (k_X3_holds l g 20 a1 a2 a3 (show wx_H 20 from Or.inl rfl) b_6 b_8) (cwV 3 hts gX11_buy_X3_holds rfl rfl rfl (by decide +kernel) (by rw [hR]; exact ⟨Nat.le_of_ble_eq_true rfl, Nat.le_of_ble_eq_true rfl⟩)) ⟨wx_Pc.blind, wx_recv hK hX (by decide) (sh_X3 (show wx_H 20 from Or.inl rfl)) rfl, (wx_Pc.pre hK hX).2⟩ rfl rfl hl.1 rfl (lv_room (Nat.le_of_ble_eq_true rfl)) dX11_buy_39 ⟨Nat.zero_le _, Nat.zero_le _⟩) ?_
        refine lv_if_eq (tgt := 48) hx hb dX11_buy_42 (by decide) (fun c_9 => ?_) (fun c_9 => ?_)
        · have b_10 : wx_b (r_X3_holds g 20 a1 a2 a3) 0 0 := by rw [c_9]; exact ⟨by decide, by decide⟩
          refine lv_aload_n hx hb dX11_buy_48 rfl (lv_at hl 0 rfl) ?_
          refine wx_getr (t := 20) (C := RX11) (T := TX11) (N := 8) (ci := 10) (j := 2) hx hb hts hi_X11 hown hK hX (by decide) sh_X11_2 rfl (by decide) (hts (.fieldLink RX11 25 "SeenAgain" "house" "LSeenAgain$House;") (by decide +kernel)) (fun _ h9 => h9) dX11_buy_49 ?_
          refine lv_iload_n hx hb dX11_buy_52 rfl (lv_at hl 1 rfl) ?_
          refine lv_iload_n hx hb dX11_buy_53 rfl (lv_at hl 2 rfl) ?_
          refine lv_iload_n hx hb dX11_buy_54 rfl (lv_at hl 3 rfl) ?_
          refine wx_callr (va_runV (As := [.int a1, .int a2, .int a3]) (rest := []) ⟨hx, hb, hml, hown, hts⟩ (k_X3_canBuy l g 20 a1 a2 a3 (show wx_H 20 from Or.inl rfl) b_3 b_6 b_8 hg) (cwV 3 hts gX11_buy_X3_canBuy rfl rfl rfl (by decide +kernel) (by rw [hR]; exact ⟨Nat.le_of_ble_eq_true rfl, Nat.le_of_ble_eq_true rfl⟩)) ⟨wx_Pc.blind, wx_recv hK hX (by decide) (sh_X3 (show wx_H 20 from Or.inl rfl)) rfl, (wx_Pc.pre hK hX).2⟩ rfl rfl hl.1 rfl (lv_room (Nat.le_of_ble_eq_true rfl)) dX11_buy_55 ⟨Nat.zero_le _, Nat.zero_le _⟩) ?_
          refine lv_if_ne (tgt := 64) hx hb dX11_buy_58 (by decide) (fun c_11 => ?_) (fun c_11 => ?_)
          · refine lv_aload_n hx hb dX11_buy_64 rfl (lv_at hl 0 rfl) ?_
            refine wx_getr (t := 20) (C := RX11) (T := TX11) (N := 8) (ci := 10) (j := 2) hx hb hts hi_X11 hown hK hX (by decide) sh_X11_2 rfl (by decide) (hts (.fieldLink RX11 25 "SeenAgain" "house" "LSeenAgain$House;") (by decide +kernel)) (fun _ h9 => h9) dX11_buy_65 ?_
            refine lv_iload_n hx hb dX11_buy_68 rfl (lv_at hl 1 rfl) ?_
            refine lv_iload_n hx hb dX11_buy_69 rfl (lv_at hl 2 rfl) ?_
            refine lv_iload_n hx hb dX11_buy_70 rfl (lv_at hl 3 rfl) ?_
            refine wx_callr (va_runV (As := [.int a1, .int a2, .int a3]) (rest := []) ⟨hx, hb, hml, hown, hts⟩ (k_X3_priceFor l g 20 a1 a2 a3 (show wx_H 20 from Or.inl rfl) b_3 b_6 b_8 hg) (cwV 3 hts gX11_buy_X3_priceFor rfl rfl rfl (by decide +kernel) (by rw [hR]; exact ⟨Nat.le_of_ble_eq_true rfl, Nat.le_of_ble_eq_true rfl⟩)) ⟨wx_Pc.blind, wx_recv hK hX (by decide) (sh_X3 (show wx_H 20 from Or.inl rfl)) rfl, (wx_Pc.pre hK hX).2⟩ rfl rfl hl.1 rfl (lv_room (Nat.le_of_ble_eq_true rfl)) dX11_buy_71 ⟨Nat.zero_le _, Nat.zero_le _⟩) ?_
            refine lv_topi (fun x_12 ex_12 => ?_)
            refine lv_istore (lv' := [(4, .int x_12), (0, .ref (ad 0)), (1, .int a1), (2, .int a2), (3, .int a3)]) hx hb dX11_buy_74 hl (by decide) rfl (fun ls hl => ?_)
            refine lv_aload_n hx hb dX11_buy_76 rfl (lv_at hl 1 rfl) ?_
            refine wx_getr (t := 20) (C := RX11) (T := TX11) (N := 8) (ci := 10) (j := 2) hx hb hts hi_X11 hown hK hX (by decide) sh_X11_2 rfl (by decide) (hts (.fieldLink RX11 25 "SeenAgain" "house" "LSeenAgain$House;") (by decide +kernel)) (fun _ h9 => h9) dX11_buy_77 ?_
            refine lv_iload_n hx hb dX11_buy_80 rfl (lv_at hl 2 rfl) ?_
            refine lv_iload_n hx hb dX11_buy_81 rfl (lv_at hl 3 rfl) ?_
            refine lv_iload_n hx hb dX11_buy_82 rfl (lv_at hl 4 rfl) ?_
            refine lv_iload hx hb dX11_buy_83 (lv_at hl 0 rfl) ?_
            refine wx_callev (va_runV (As := [.int a1, .int a2, .int a3, .int x_12]) (rest := []) ⟨hx, hb, hml, hown, hts⟩ (k_X3_takeSeat l g 20 a1 a2 a3 x_12 (show wx_H 20 from Or.inl rfl) b_3 b_6 b_8) (cwV 4 hts gX11_buy_X3_takeSeat rfl rfl rfl (by decide +kernel) (by rw [hR]; exact ⟨Nat.le_of_ble_eq_true rfl, Nat.le_of_ble_eq_true rfl⟩)) ⟨wx_Pc.blind, wx_recv hK hX (by decide) (sh_X3 (show wx_H 20 from Or.inl rfl)) rfl, (wx_Pc.pre hK hX).2⟩ rfl rfl hl.1 rfl (lv_room (Nat.le_of_ble_eq_true rfl)) dX11_buy_85 ⟨Nat.zero_le _, Nat.zero_le _⟩) hS (fun H locs hX hS => ?_)
            obtain ⟨g_13, eg_13, hX⟩ := wx_nm hX
            refine lv_aload_n hx hb dX11_buy_88 rfl (lv_at hl 1 rfl) ?_
            refine wx_getr (t := 49) (C := RX11) (T := TX11) (N := 8) (ci := 10) (j := 5) hx hb hts hi_X11 hown hK hX (by decide) sh_X11_5 rfl (by decide) (hts (.fieldLink RX11 39 "SeenAgain" "acts" "LSeenAgain$Acts;") (by decide +kernel)) (fun _ h9 => h9) dX11_buy_89 ?_
            refine lv_iconst (v := 0) hx hb dX11_buy_92 (by decide) ?_
            refine lv_iload_n hx hb dX11_buy_93 rfl (lv_at hl 2 rfl) ?_
            refine lv_iload_n hx hb dX11_buy_94 rfl (lv_at hl 3 rfl) ?_
            refine lv_iload_n hx hb dX11_buy_95 rfl (lv_at hl 4 rfl) ?_
            refine lv_iload hx hb dX11_buy_96 (lv_at hl 0 rfl) ?_
            refine wx_callev (va_runV (As := [.int 0, .int a1, .int a2, .int a3, .int x_12]) (rest := []) ⟨hx, hb, hml, hown, hts⟩ (k_X0_keep l g_13 0 a1 a2 a3 x_12 (wb_w (show wx_b (g_13 49 5) 0 23 by rw [show (g_13 49 5) = (g 49 5) from (by rw [eg_13, fr_takeSeat (by decide) (by decide) (by decide)])]; exact hn) (by decide) (by decide))) (cwV 5 hts gX11_buy_X0_keep rfl rfl rfl (by decide +kernel) (by rw [hR]; exact ⟨Nat.le_of_ble_eq_true rfl, Nat.le_of_ble_eq_true rfl⟩)) ⟨wx_Pc.blind, wx_recv hK hX (by decide) sh_X0 rfl, (wx_Pc.pre hK hX).2⟩ rfl rfl hl.1 rfl (lv_room (Nat.le_of_ble_eq_true rfl)) dX11_buy_98 ⟨Nat.zero_le _, Nat.zero_le _⟩) hS (fun H locs hX hS => ?_)
            obtain ⟨g_14, eg_14, hX⟩ := wx_nm hX
            refine lv_iload hx hb dX11_buy_101 (lv_at hl 0 rfl) ?_
            exact hret _ _ _ _ _ _ dX11_buy_103 rfl hX hS (by subst eg_14 eg_13 ex_12; simp only [f_X11_buy, if_neg c_1, if_neg c_4, if_neg c_7, if_pos c_9, if_neg c_11])
          · have b_15 : wx_b (r_X3_canBuy g 20 a1 a2 a3) 0 0 := by rw [c_11]; exact ⟨by decide, by decide⟩
            refine lv_ldc hx hb hown (hts (.constant RX11 98 (-1000003)) (by decide +kernel)) dX11_buy_61 ?_
            exact hret _ _ _ _ _ _ dX11_buy_63 rfl hX hS (by simp only [f_X11_buy, if_neg c_1, if_neg c_4, if_neg c_7, if_pos c_9, if_pos c_11])
        · refine lv_ldc hx hb hown (hts (.constant RX11 126 (-1000002)) (by decide +kernel)) dX11_buy_45 ?_
          exact hret _ _ _ _ _ _ dX11_buy_47 rfl hX hS (by simp only [f_X11_buy, if_neg c_1, if_neg c_4, if_neg c_7, if_neg c_9])
      · have b_16 : wx_b (r_X11_isMinute a3) 0 0 := by rw [c_7]; exact ⟨by decide, by decide⟩
        refine lv_ldc hx hb hown (hts (.constant RX11 55 (-1000001)) (by decide +kernel)) dX11_buy_29 ?_
        exact hret _ _ _ _ _ _ dX11_buy_31 rfl hX hS (by simp only [f_X11_buy, if_neg c_1, if_neg c_4, if_pos c_7])
def f_X11_back (g : wx_M) (a1 : Int32) (a2 : Int32) (a3 : Int32) : wx_M × Int32 :=
  if (r_X3_isVisitor g 20 a1) = 0 then
    (g, (-1000001))
  else
    if (r_X3_isRoom g 20 a2) = 0 then
      (g, (-1000001))
    else
      if (r_X11_isMinute a3) = 0 then
        (g, (-1000001))
      else
        if (r_X3_holds g 20 a1 a2 a3) = 0 then
          (g, (-1000002))
        else
          let x_10 := ((g 20 2) / 2)
          let g_11 := e_X3_leaveSeat g 20 a1 a2 a3 x_10
          let g_12 := e_X0_keep g_11 1 a1 a2 a3 x_10
          let x_13 := (g_12 25 a1.toNatClampNeg)
          (g_12, x_13)
set_option maxHeartbeats 4000000 in
set_option maxRecDepth 100000 in
theorem k_X11_back (l : Launch) {D : va_G} {cy : Nat → ClassId} {ad : Nat → Nat} {B0 : Nat} {f : wx_F} {P : va_W} (g : wx_M) (a1 : Int32) (a2 : Int32) (a3 : Int32) (hg : wx_HB g 20) (hn : wx_b (g 49 5) 0 23) : Met l yX11_back wsX11_back ({ frames := 2, cells := 0, slots := 0, locals := 54 } : Room) (wx_Pc D cy ad B0 f P g [.ref (ad 0), .int a1, .int a2, .int a3]) (wx_Qe D cy ad B0 f P (f_X11_back g a1 a2 a3).1 (some (.int (f_X11_back g a1 a2 a3).2))) 0 0 (fun q => B0 ≤ q) := by
  refine wx_enterE (cc := cX11_back) (maxL := 5) (ty := .int) (own := RX11) (lv := [(0, .ref (ad 0)), (1, .int a1), (2, .int a2), (3, .int a3)]) (by decide) rfl rfl (Nat.le_of_ble_eq_true rfl) rfl ?_
  intro p e R s m args below meth c ls Qm hx hb hml hown hts hK hX hS hR hret hl
  have hi_X11 : ∀ w ∈ wsX110, w ∈ wsX11_back := by decide +kernel
  have hi_X3 : ∀ w ∈ wsX30, w ∈ wsX11_back := by decide +kernel
  refine lv_aload_n hx hb dX11_back_0 rfl (lv_at hl 0 rfl) ?_
  refine wx_getr (t := 20) (C := RX11) (T := TX11) (N := 8) (ci := 10) (j := 2) hx hb hts hi_X11 hown hK hX (by decide) sh_X11_2 rfl (by decide) (hts (.fieldLink RX11 25 "SeenAgain" "house" "LSeenAgain$House;") (by decide +kernel)) (fun _ h9 => h9) dX11_back_1 ?_
  refine lv_iload_n hx hb dX11_back_4 rfl (lv_at hl 1 rfl) ?_
  refine wx_callr (va_runV (As := [.int a1]) (rest := []) ⟨hx, hb, hml, hown, hts⟩ (k_X3_isVisitor l g 20 a1 (show wx_H 20 from Or.inl rfl)) (cwV 1 hts gX11_back_X3_isVisitor rfl rfl rfl (by decide +kernel) (by rw [hR]; exact ⟨Nat.le_of_ble_eq_true rfl, Nat.le_of_ble_eq_true rfl⟩)) ⟨wx_Pc.blind, wx_recv hK hX (by decide) (sh_X3 (show wx_H 20 from Or.inl rfl)) rfl, (wx_Pc.pre hK hX).2⟩ rfl rfl hl.1 rfl (lv_room (Nat.le_of_ble_eq_true rfl)) dX11_back_5 ⟨Nat.zero_le _, Nat.zero_le _⟩) ?_
  refine lv_if_eq (tgt := 29) hx hb dX11_back_8 (by decide) (fun c_1 => ?_) (fun c_1 => ?_)
  · have b_2 : wx_b (r_X3_isVisitor g 20 a1) 0 0 := by rw [c_1]; exact ⟨by decide, by decide⟩
    refine lv_ldc hx hb hown (hts (.constant RX11 55 (-1000001)) (by decide +kernel)) dX11_back_29 ?_
    exact hret _ _ _ _ _ _ dX11_back_31 rfl hX hS (by simp only [f_X11_back, if_pos c_1])
  · have b_3 : wx_b a1 0 3 := rf_X3_isVisitor hg c_1
    refine lv_aload_n hx hb dX11_back_11 rfl (lv_at hl 0 rfl) ?_
    refine wx_getr (t := 20) (C := RX11) (T := TX11) (N := 8) (ci := 10) (j := 2) hx hb hts hi_X11 hown hK hX (by decide) sh_X11_2 rfl (by decide) (hts (.fieldLink RX11 25 "SeenAgain" "house" "LSeenAgain$House;") (by decide +kernel)) (fun _ h9 => h9) dX11_back_12 ?_
    refine lv_iload_n hx hb dX11_back_15 rfl (lv_at hl 2 rfl) ?_
    refine wx_callr (va_runV (As := [.int a2]) (rest := []) ⟨hx, hb, hml, hown, hts⟩ (k_X3_isRoom l g 20 a2 (show wx_H 20 from Or.inl rfl)) (cwV 1 hts gX11_back_X3_isRoom rfl rfl rfl (by decide +kernel) (by rw [hR]; exact ⟨Nat.le_of_ble_eq_true rfl, Nat.le_of_ble_eq_true rfl⟩)) ⟨wx_Pc.blind, wx_recv hK hX (by decide) (sh_X3 (show wx_H 20 from Or.inl rfl)) rfl, (wx_Pc.pre hK hX).2⟩ rfl rfl hl.1 rfl (lv_room (Nat.le_of_ble_eq_true rfl)) dX11_back_16 ⟨Nat.zero_le _, Nat.zero_le _⟩) ?_
    refine lv_if_eq (tgt := 29) hx hb dX11_back_19 (by decide) (fun c_4 => ?_) (fun c_4 => ?_)
    · have b_5 : wx_b (r_X3_isRoom g 20 a2) 0 0 := by rw [c_4]; exact ⟨by decide, by decide⟩
      refine lv_ldc hx hb hown (hts (.constant RX11 55 (-1000001)) (by decide +kernel)) dX11_back_29 ?_
      exact hret _ _ _ _ _ _ dX11_back_31 rfl hX hS (by simp only [f_X11_back, if_neg c_1, if_pos c_4])
    · have b_6 : wx_b a2 0 5 := rf_X3_isRoom hg c_4
      refine lv_iload_n hx hb dX11_back_22 rfl (lv_at hl 3 rfl) ?_
      refine wx_callr (va_runS (As := [.int a3]) (rest := []) ⟨hx, hb, hml, hown, hts⟩ (k_X11_isMinute l g a3) (va_cwS 1 hts gX11_back_X11_isMinute rfl rfl rfl (by decide +kernel) (by rw [hR]; exact ⟨Nat.le_of_ble_eq_true rfl, Nat.le_of_ble_eq_true rfl⟩)) (wx_Pc.pre hK hX) rfl rfl hl.1 rfl (lv_room (Nat.le_of_ble_eq_true rfl)) dX11_back_23 ⟨Nat.zero_le _, Nat.zero_le _⟩) ?_
      refine lv_if_ne (tgt := 32) hx hb dX11_back_26 (by decide) (fun c_7 => ?_) (fun c_7 => ?_)
      · have b_8 : wx_b a3 0 7 := rf_X11_isMinute  c_7
        refine lv_aload_n hx hb dX11_back_32 rfl (lv_at hl 0 rfl) ?_
        refine wx_getr (t := 20) (C := RX11) (T := TX11) (N := 8) (ci := 10) (j := 2) hx hb hts hi_X11 hown hK hX (by decide) sh_X11_2 rfl (by decide) (hts (.fieldLink RX11 25 "SeenAgain" "house" "LSeenAgain$House;") (by decide +kernel)) (fun _ h9 => h9) dX11_back_33 ?_
        refine lv_iload_n hx hb dX11_back_36 rfl (lv_at hl 1 rfl) ?_
        refine lv_iload_n hx hb dX11_back_37 rfl (lv_at hl 2 rfl) ?_
        refine lv_iload_n hx hb dX11_back_38 rfl (lv_at hl 3 rfl) ?_
        refine wx_callr (va_runV (As := [.int a1, .int a2, .int a3]) (rest := []) ⟨hx, hb, hml, hown, hts⟩ (k_X3_holds l g 20 a1 a2 a3 (show wx_H 20 from Or.inl rfl) b_6 b_8) (cwV 3 hts gX11_back_X3_holds rfl rfl rfl (by decide +kernel) (by rw [hR]; exact ⟨Nat.le_of_ble_eq_true rfl, Nat.le_of_ble_eq_true rfl⟩)) ⟨wx_Pc.blind, wx_recv hK hX (by decide) (sh_X3 (show wx_H 20 from Or.inl rfl)) rfl, (wx_Pc.pre hK hX).2⟩ rfl rfl hl.1 rfl (lv_room (Nat.le_of_ble_eq_true rfl)) dX11_back_39 ⟨Nat.zero_le _, Nat.zero_le _⟩) ?_
        refine lv_if_ne (tgt := 48) hx hb dX11_back_42 (by decide) (fun c_9 => ?_) (fun c_9 => ?_)
        · refine lv_aload_n hx hb dX11_back_48 rfl (lv_at hl 0 rfl) ?_
          refine wx_getr (t := 20) (C := RX11) (T := TX11) (N := 8) (ci := 10) (j := 2) hx hb hts hi_X11 hown hK hX (by decide) sh_X11_2 rfl (by decide) (hts (.fieldLink RX11 25 "SeenAgain" "house" "LSeenAgain$House;") (by decide +kernel)) (fun _ h9 => h9) dX11_back_49 ?_
          refine wx_geti (C := RX3) (T := TX3) (N := 15) (ci := 3) (j := 2) hx hb hts hi_X3 hown hK hX (by decide) (sh_X3_2 (show wx_H 20 from Or.inl rfl)) rfl (by decide) (hts (.fieldLink RX11 158 "SeenAgain$House" "fee" "I") (by decide +kernel)) (fun _ h9 => h9) dX11_back_52 ?_
          refine lv_iconst (v := 2) hx hb dX11_back_55 (by decide) ?_
          refine lv_idiv hx hb dX11_back_56 (by decide) ?_
          refine lv_topi (fun x_10 ex_10 => ?_)
          refine lv_istore (lv' := [(4, .int x_10), (0, .ref (ad 0)), (1, .int a1), (2, .int a2), (3, .int a3)]) hx hb dX11_back_57 hl (by decide) rfl (fun ls hl => ?_)
          refine lv_aload_n hx hb dX11_back_59 rfl (lv_at hl 1 rfl) ?_
          refine wx_getr (t := 20) (C := RX11) (T := TX11) (N := 8) (ci := 10) (j := 2) hx hb hts hi_X11 hown hK hX (by decide) sh_X11_2 rfl (by decide) (hts (.fieldLink RX11 25 "SeenAgain" "house" "LSeenAgain$House;") (by decide +kernel)) (fun _ h9 => h9) dX11_back_60 ?_
          refine lv_iload_n hx hb dX11_back_63 rfl (lv_at hl 2 rfl) ?_
          refine lv_iload_n hx hb dX11_back_64 rfl (lv_at hl 3 rfl) ?_
          refine lv_iload_n hx hb dX11_back_65 rfl (lv_at hl 4 rfl) ?_
          refine lv_iload hx hb dX11_back_66 (lv_at hl 0 rfl) ?_
          refine wx_callev (va_runV (As := [.int a1, .int a2, .int a3, .int x_10]) (rest := []) ⟨hx, hb, hml, hown, hts⟩ (k_X3_leaveSeat l g 20 a1 a2 a3 x_10 (show wx_H 20 from Or.inl rfl) b_3 b_6 b_8) (cwV 4 hts gX11_back_X3_leaveSeat rfl rfl rfl (by decide +kernel) (by rw [hR]; exact ⟨Nat.le_of_ble_eq_true rfl, Nat.le_of_ble_eq_true rfl⟩)) ⟨wx_Pc.blind, wx_recv hK hX (by decide) (sh_X3 (show wx_H 20 from Or.inl rfl)) rfl, (wx_Pc.pre hK hX).2⟩ rfl rfl hl.1 rfl (lv_room (Nat.le_of_ble_eq_true rfl)) dX11_back_68 ⟨Nat.zero_le _, Nat.zero_le _⟩) hS (fun H locs hX hS => ?_)
          obtain ⟨g_11, eg_11, hX⟩ := wx_nm hX
          refine lv_aload_n hx hb dX11_back_71 rfl (lv_at hl 1 rfl) ?_
          refine wx_getr (t := 49) (C := RX11) (T := TX11) (N := 8) (ci := 10) (j := 5) hx hb hts hi_X11 hown hK hX (by decide) sh_X11_5 rfl (by decide) (hts (.fieldLink RX11 39 "SeenAgain" "acts" "LSeenAgain$Acts;") (by decide +kernel)) (fun _ h9 => h9) dX11_back_72 ?_
          refine lv_iconst (v := 1) hx hb dX11_back_75 (by decide) ?_
          refine lv_iload_n hx hb dX11_back_76 rfl (lv_at hl 2 rfl) ?_
          refine lv_iload_n hx hb dX11_back_77 rfl (lv_at hl 3 rfl) ?_
          refine lv_iload_n hx hb dX11_back_78 rfl (lv_at hl 4 rfl) ?_
          refine lv_iload hx hb dX11_back_79 (lv_at hl 0 rfl) ?_
          refine wx_callev (va_runV (As := [.int 1, .int a1, .int a2, .int a3, .int x_10]) (rest := []) ⟨hx, hb, hml, hown, hts⟩ (k_X0_keep l g_11 1 a1 a2 a3 x_10 (wb_w (show wx_b (g_11 49 5) 0 23 by rw [show (g_11 49 5) = (g 49 5) from (by rw [eg_11, fr_leaveSeat (by decide) (by decide) (by decide)])]; exact hn) (by decide) (by decide))) (cwV 5 hts gX11_back_X0_keep rfl rfl rfl (by decide +kernel) (by rw [hR]; exact ⟨Nat.le_of_ble_eq_true rfl, Nat.le_of_ble_eq_true rfl⟩)) ⟨wx_Pc.blind, wx_recv hK hX (by decide) sh_X0 rfl, (wx_Pc.pre hK hX).2⟩ rfl rfl hl.1 rfl (lv_room (Nat.le_of_ble_eq_true rfl)) dX11_back_81 ⟨Nat.zero_le _, Nat.zero_le _⟩) hS (fun H locs hX hS => ?_)
          obtain ⟨g_12, eg_12, hX⟩ := wx_nm hX
          refine lv_aload_n hx hb dX11_back_84 rfl (lv_at hl 1 rfl) ?_
          refine wx_getr (t := 20) (C := RX11) (T := TX11) (N := 8) (ci := 10) (j := 2) hx hb hts hi_X11 hown hK hX (by decide) sh_X11_2 rfl (by decide) (hts (.fieldLink RX11 25 "SeenAgain" "house" "LSeenAgain$House;") (by decide +kernel)) (fun _ h9 => h9) dX11_back_85 ?_
          refine wx_getr (t := 25) (C := RX3) (T := TX3) (N := 15) (ci := 3) (j := 13) hx hb hts hi_X3 hown hK hX (by decide) (sh_X3_13 (show wx_H 20 from Or.inl rfl)) rfl (by decide) (hts (.fieldLink RX11 164 "SeenAgain$House" "purses" "[I") (by decide +kernel)) (fun _ h9 => h9) dX11_back_88 ?_
          refine lv_iload_n hx hb dX11_back_91 rfl (lv_at hl 2 rfl) ?_
          refine wx_iald hx hb hK hX (by decide) (sa_X3_5 (show wx_H 20 from Or.inl rfl)) (wb_in b_3 (by decide) (by decide)) dX11_back_92 ?_
          refine lv_topi (fun x_13 ex_13 => ?_)
          exact hret _ _ _ _ _ _ dX11_back_93 rfl hX hS (by subst ex_13 eg_12 eg_11 ex_10; simp only [f_X11_back, if_neg c_1, if_neg c_4, if_neg c_7, if_neg c_9])
        · have b_14 : wx_b (r_X3_holds g 20 a1 a2 a3) 0 0 := by rw [c_9]; exact ⟨by decide, by decide⟩
          refine lv_ldc hx hb hown (hts (.constant RX11 126 (-1000002)) (by decide +kernel)) dX11_back_45 ?_
          exact hret _ _ _ _ _ _ dX11_back_47 rfl hX hS (by simp only [f_X11_back, if_neg c_1, if_neg c_4, if_neg c_7, if_pos c_9])
      · have b_15 : wx_b (r_X11_isMinute a3) 0 0 := by rw [c_7]; exact ⟨by decide, by decide⟩
        refine lv_ldc hx hb hown (hts (.constant RX11 55 (-1000001)) (by decide +kernel)) dX11_back_29 ?_
        exact hret _ _ _ _ _ _ dX11_back_31 rfl hX hS (by simp only [f_X11_back, if_neg c_1, if_neg c_4, if_pos c_7])
def f_X11_curtain (g : wx_M) (a1 : Int32) (a2 : Int32) (a3 : Int32) : wx_M × Int32 :=
  if (r_X3_isRoom g 20 a1) = 0 then
    (g, (-1000001))
  else
    if (r_X3_isRoom g 20 a2) = 0 then
      (g, (-1000001))
    else
      if (r_X11_isMinute a3) = 0 then
        (g, (-1000001))
      else
        if (r_X3_hasWindow g 20 a1 a2) = 0 then
          (g, (-1000001))
        else
          if (r_X3_isDrawn g 20 a1 a2 a3) = 0 then
            let g_13 := e_X3_drawCurtain g 20 a1 a2 a3
            let g_14 := e_X0_keep g_13 2 a1 a2 a3 0
            let x_15 := (g_14 20 7)
            (g_14, x_15)
          else
            (g, (-1000002))
set_option maxHeartbeats 4000000 in
set_option maxRecDepth 100000 in
theorem k_X11_curtain (l : Launch) {D : va_G} {cy : Nat → ClassId} {ad : Nat → Nat} {B0 : Nat} {f : wx_F} {P : va_W} (g : wx_M) (a1 : Int32) (a2 : Int32) (a3 : Int32) (hg : wx_HB g 20) (hn : wx_b (g 49 5) 0 23) : Met l yX11_curtain wsX11_curtain ({ frames := 2, cells := 0, slots := 0, locals := 54 } : Room) (wx_Pc D cy ad B0 f P g [.ref (ad 0), .int a1, .int a2, .int a3]) (wx_Qe D cy ad B0 f P (f_X11_curtain g a1 a2 a3).1 (some (.int (f_X11_curtain g a1 a2 a3).2))) 0 0 (fun q => B0 ≤ q) := by
  refine wx_enterE (cc := cX11_curtain) (maxL := 4) (ty := .int) (own := RX11) (lv := [(0, .ref (ad 0)), (1, .int a1), (2, .int a2), (3, .int a3)]) (by decide) rfl rfl (Nat.le_of_ble_eq_true rfl) rfl ?_
  intro p e R s m args below meth c ls Qm hx hb hml hown hts hK hX hS hR hret hl
  have hi_X11 : ∀ w ∈ wsX110, w ∈ wsX11_curtain := by decide +kernel
  have hi_X3 : ∀ w ∈ wsX30, w ∈ wsX11_curtain := by decide +kernel
  refine lv_aload_n hx hb dX11_curtain_0 rfl (lv_at hl 0 rfl) ?_
  refine wx_getr (t := 20) (C := RX11) (T := TX11) (N := 8) (ci := 10) (j := 2) hx hb hts hi_X11 hown hK hX (by decide) sh_X11_2 rfl (by decide) (hts (.fieldLink RX11 25 "SeenAgain" "house" "LSeenAgain$House;") (by decide +kernel)) (fun _ h9 => h9) dX11_curtain_1 ?_
  refine lv_iload_n hx hb dX11_curtain_4 rfl (lv_at hl 1 rfl) ?_
  refine wx_callr (va_runV (As := [.int a1]) (rest := []) ⟨hx, hb, hml, hown, hts⟩ (k_X3_isRoom l g 20 a1 (show wx_H 20 from Or.inl rfl)) (cwV 1 hts gX11_curtain_X3_isRoom rfl rfl rfl (by decide +kernel) (by rw [hR]; exact ⟨Nat.le_of_ble_eq_true rfl, Nat.le_of_ble_eq_true rfl⟩)) ⟨wx_Pc.blind, wx_recv hK hX (by decide) (sh_X3 (show wx_H 20 from Or.inl rfl)) rfl, (wx_Pc.pre hK hX).2⟩ rfl rfl hl.1 rfl (lv_room (Nat.le_of_ble_eq_true rfl)) dX11_curtain_5 ⟨Nat.zero_le _, Nat.zero_le _⟩) ?_
  refine lv_if_eq (tgt := 41) hx hb dX11_curtain_8 (by decide) (fun c_1 => ?_) (fun c_1 => ?_)
  · have b_2 : wx_b (r_X3_isRoom g 20 a1) 0 0 := by rw [c_1]; exact ⟨by decide, by decide⟩
    refine lv_ldc hx hb hown (hts (.constant RX11 55 (-1000001)) (by decide +kernel)) dX11_curtain_41 ?_
    exact hret _ _ _ _ _ _ dX11_curtain_43 rfl hX hS (by simp only [f_X11_curtain, if_pos c_1])
  · have b_3 : wx_b a1 0 5 := rf_X3_isRoom hg c_1
    refine lv_aload_n hx hb dX11_curtain_11 rfl (lv_at hl 0 rfl) ?_
    refine wx_getr (t := 20) (C := RX11) (T := TX11) (N := 8) (ci := 10) (j := 2) hx hb hts hi_X11 hown hK hX (by decide) sh_X11_2 rfl (by decide) (hts (.fieldLink RX11 25 "SeenAgain" "house" "LSeenAgain$House;") (by decide +kernel)) (fun _ h9 => h9) dX11_curtain_12 ?_
    refine lv_iload_n hx hb dX11_curtain_15 rfl (lv_at hl 2 rfl) ?_
    refine wx_callr (va_runV (As := [.int a2]) (rest := []) ⟨hx, hb, hml, hown, hts⟩ (k_X3_isRoom l g 20 a2 (show wx_H 20 from Or.inl rfl)) (cwV 1 hts gX11_curtain_X3_isRoom rfl rfl rfl (by decide +kernel) (by rw [hR]; exact ⟨Nat.le_of_ble_eq_true rfl, Nat.le_of_ble_eq_true rfl⟩)) ⟨wx_Pc.blind, wx_recv hK hX (by decide) (sh_X3 (show wx_H 20 from Or.inl rfl)) rfl, (wx_Pc.pre hK hX).2⟩ rfl rfl hl.1 rfl (lv_room (Nat.le_of_ble_eq_true rfl)) dX11_curtain_16 ⟨Nat.zero_le _, Nat.zero_le _⟩) ?_
    refine lv_if_eq (tgt := 41) hx hb dX11_curtain_19 (by decide) (fun c_4 => ?_) (fun c_4 => ?_)
    · have b_5 : wx_b (r_X3_isRoom g 20 a2) 0 0 := by rw [c_4]; exact ⟨by decide, by decide⟩
      refine lv_ldc hx hb hown (hts (.constant RX11 55 (-1000001)) (by decide +kernel)) dX11_curtain_41 ?_
      exact hret _ _ _ _ _ _ dX11_curtain_43 rfl hX hS (by simp only [f_X11_curtain, if_neg c_1, if_pos c_4])
    · have b_6 : wx_b a2 0 5 := rf_X3_isRoom hg c_4
      refine lv_iload_n hx hb dX11_curtain_22 rfl (lv_at hl 3 rfl) ?_
      refine wx_callr (va_runS (As := [.int a3]) (rest := []) ⟨hx, hb, hml, hown, hts⟩ (k_X11_isMinute l g a3) (va_cwS 1 hts gX11_curtain_X11_isMinute rfl rfl rfl (by decide +kernel) (by rw [hR]; exact ⟨Nat.le_of_ble_eq_true rfl, Nat.le_of_ble_eq_true rfl⟩)) (wx_Pc.pre hK hX) rfl rfl hl.1 rfl (lv_room (Nat.le_of_ble_eq_true rfl)) dX11_curtain_23 ⟨Nat.zero_le _, Nat.zero_le _⟩) ?_
      refine lv_if_eq (tgt := 41) hx hb dX11_curtain_26 (by decide) (fun c_7 => ?_) (fun c_7 => ?_)
      · have b_8 : wx_b (r_X11_isMinute a3) 0 0 := by rw [c_7]; exact ⟨by decide, by decide⟩
        refine lv_ldc hx hb hown (hts (.constant RX11 55 (-1000001)) (by decide +kernel)) dX11_curtain_41 ?_
        exact hret _ _ _ _ _ _ dX11_curtain_43 rfl hX hS (by simp only [f_X11_curtain, if_neg c_1, if_neg c_4, if_pos c_7])
      · have b_9 : wx_b a3 0 7 := rf_X11_isMinute  c_7
        refine lv_aload_n hx hb dX11_curtain_29 rfl (lv_at hl 0 rfl) ?_
        refine wx_getr (t := 20) (C := RX11) (T := TX11) (N := 8) (ci := 10) (j := 2) hx hb hts hi_X11 hown hK hX (by decide) sh_X11_2 rfl (by decide) (hts (.fieldLink RX11 25 "SeenAgain" "house" "LSeenAgain$House;") (by decide +kernel)) (fun _ h9 => h9) dX11_curtain_30 ?_
        refine lv_iload_n hx hb dX11_curtain_33 rfl (lv_at hl 1 rfl) ?_
        refine lv_iload_n hx hb dX11_curtain_34 rfl (lv_at hl 2 rfl) ?_
        refine wx_callr (va_runV (As := [.int a1, .int a2]) (rest := []) ⟨hx, hb, hml, hown, hts⟩ (k_X3_hasWindow l g 20 a1 a2 (show wx_H 20 from Or.inl rfl) b_3) (cwV 2 hts gX11_curtain_X3_hasWindow rfl rfl rfl (by decide +kernel) (by rw [hR]; exact ⟨Nat.le_of_ble_eq_true rfl, Nat.le_of_ble_eq_true rfl⟩)) ⟨wx_Pc.blind, wx_recv hK hX (by decide) (sh_X3 (show wx_H 20 from Or.inl rfl)) rfl, (wx_Pc.pre hK hX).2⟩ rfl rfl hl.1 rfl (lv_room (Nat.le_of_ble_eq_true rfl)) dX11_curtain_35 ⟨Nat.zero_le _, Nat.zero_le _⟩) ?_
        refine lv_if_ne (tgt := 44) hx hb dX11_curtain_38 (by decide) (fun c_10 => ?_) (fun c_10 => ?_)
        · refine lv_aload_n hx hb dX11_curtain_44 rfl (lv_at hl 0 rfl) ?_
          refine wx_getr (t := 20) (C := RX11) (T := TX11) (N := 8) (ci := 10) (j := 2) hx hb hts hi_X11 hown hK hX (by decide) sh_X11_2 rfl (by decide) (hts (.fieldLink RX11 25 "SeenAgain" "house" "LSeenAgain$House;") (by decide +kernel)) (fun _ h9 => h9) dX11_curtain_45 ?_
          refine lv_iload_n hx hb dX11_curtain_48 rfl (lv_at hl 1 rfl) ?_
          refine lv_iload_n hx hb dX11_curtain_49 rfl (lv_at hl 2 rfl) ?_
          refine lv_iload_n hx hb dX11_curtain_50 rfl (lv_at hl 3 rfl) ?_
          refine wx_callr (va_runV (As := [.int a1, .int a2, .int a3]) (rest := []) ⟨hx, hb, hml, hown, hts⟩ (k_X3_isDrawn l g 20 a1 a2 a3 (show wx_H 20 from Or.inl rfl) b_3 b_9) (cwV 3 hts gX11_curtain_X3_isDrawn rfl rfl rfl (by decide +kernel) (by rw [hR]; exact ⟨Nat.le_of_ble_eq_true rfl, Nat.le_of_ble_eq_true rfl⟩)) ⟨wx_Pc.blind, wx_recv hK hX (by decide) (sh_X3 (show wx_H 20 from Or.inl rfl)) rfl, (wx_Pc.pre hK hX).2⟩ rfl rfl hl.1 rfl (lv_room (Nat.le_of_ble_eq_true rfl)) dX11_curtain_51 ⟨Nat.zero_le _, Nat.zero_le _⟩) ?_
          refine lv_if_eq (tgt := 60) hx hb dX11_curtain_54 (by decide) (fun c_11 => ?_) (fun c_11 => ?_)
          · have b_12 : wx_b (r_X3_isDrawn g 20 a1 a2 a3) 0 0 := by rw [c_11]; exact ⟨by decide, by decide⟩
            refine lv_aload_n hx hb dX11_curtain_60 rfl (lv_at hl 0 rfl) ?_
            refine wx_getr (t := 20) (C := RX11) (T := TX11) (N := 8) (ci := 10) (j := 2) hx hb hts hi_X11 hown hK hX (by decide) sh_X11_2 rfl (by decide) (hts (.fieldLink RX11 25 "SeenAgain" "house" "LSeenAgain$House;") (by decide +kernel)) (fun _ h9 => h9) dX11_curtain_61 ?_
            refine lv_iload_n hx hb dX11_curtain_64 rfl (lv_at hl 1 rfl) ?_
            refine lv_iload_n hx hb dX11_curtain_65 rfl (lv_at hl 2 rfl) ?_
            refine lv_iload_n hx hb dX11_curtain_66 rfl (lv_at hl 3 rfl) ?_
            refine wx_callev (va_runV (As := [.int a1, .int a2, .int a3]) (rest := []) ⟨hx, hb, hml, hown, hts⟩ (k_X3_drawCurtain l g 20 a1 a2 a3 (show wx_H 20 from Or.inl rfl) b_3 b_6 b_9) (cwV 3 hts gX11_curtain_X3_drawCurtain rfl rfl rfl (by decide +kernel) (by rw [hR]; exact ⟨Nat.le_of_ble_eq_true rfl, Nat.le_of_ble_eq_true rfl⟩)) ⟨wx_Pc.blind, wx_recv hK hX (by decide) (sh_X3 (show wx_H 20 from Or.inl rfl)) rfl, (wx_Pc.pre hK hX).2⟩ rfl rfl hl.1 rfl (lv_room (Nat.le_of_ble_eq_true rfl)) dX11_curtain_67 ⟨Nat.zero_le _, Nat.zero_le _⟩) hS (fun H locs hX hS => ?_)
            obtain ⟨g_13, eg_13, hX⟩ := wx_nm hX
            refine lv_aload_n hx hb dX11_curtain_70 rfl (lv_at hl 0 rfl) ?_
            refine wx_getr (t := 49) (C := RX11) (T := TX11) (N := 8) (ci := 10) (j := 5) hx hb hts hi_X11 hown hK hX (by decide) sh_X11_5 rfl (by decide) (hts (.fieldLink RX11 39 "SeenAgain" "acts" "LSeenAgain$Acts;") (by decide +kernel)) (fun _ h9 => h9) dX11_curtain_71 ?_
            refine lv_iconst (v := 2) hx hb dX11_curtain_74 (by decide) ?_
            refine lv_iload_n hx hb dX11_curtain_75 rfl (lv_at hl 1 rfl) ?_
            refine lv_iload_n hx hb dX11_curtain_76 rfl (lv_at hl 2 rfl) ?_
            refine lv_iload_n hx hb dX11_curtain_77 rfl (lv_at hl 3 rfl) ?_
            refine lv_iconst (v := 0) hx hb dX11_curtain_78 (by decide) ?_
            refine wx_callev (va_runV (As := [.int 2, .int a1, .int a2, .int a3, .int 0]) (rest := []) ⟨hx, hb, hml, hown, hts⟩ (k_X0_keep l g_13 2 a1 a2 a3 0 (wb_w (show wx_b (g_13 49 5) 0 23 by rw [show (g_13 49 5) = (g 49 5) from (by rw [eg_13, fr_drawCurtain (by decide) (by decide)])]; exact hn) (by decide) (by decide))) (cwV 5 hts gX11_curtain_X0_keep rfl rfl rfl (by decide +kernel) (by rw [hR]; exact ⟨Nat.le_of_ble_eq_true rfl, Nat.le_of_ble_eq_true rfl⟩)) ⟨wx_Pc.blind, wx_recv hK hX (by decide) sh_X0 rfl, (wx_Pc.pre hK hX).2⟩ rfl rfl hl.1 rfl (lv_room (Nat.le_of_ble_eq_true rfl)) dX11_curtain_79 ⟨Nat.zero_le _, Nat.zero_le _⟩) hS (fun H locs hX hS => ?_)
            obtain ⟨g_14, eg_14, hX⟩ := wx_nm hX
            refine lv_aload_n hx hb dX11_curtain_82 rfl (lv_at hl 0 rfl) ?_
            refine wx_getr (t := 20) (C := RX11) (T := TX11) (N := 8) (ci := 10) (j := 2) hx hb hts hi_X11 hown hK hX (by decide) sh_X11_2 rfl (by decide) (hts (.fieldLink RX11 25 "SeenAgain" "house" "LSeenAgain$House;") (by decide +kernel)) (fun _ h9 => h9) dX11_curtain_83 ?_
            refine wx_geti (C := RX3) (T := TX3) (N := 15) (ci := 3) (j := 7) hx hb hts hi_X3 hown hK hX (by decide) (sh_X3_7 (show wx_H 20 from Or.inl rfl)) rfl (by decide) (hts (.fieldLink RX11 177 "SeenAgain$House" "curtains" "I") (by decide +kernel)) (fun _ h9 => h9) dX11_curtain_86 ?_
            refine lv_topi (fun x_15 ex_15 => ?_)
            exact hret _ _ _ _ _ _ dX11_curtain_89 rfl hX hS (by subst ex_15 eg_14 eg_13; simp only [f_X11_curtain, if_neg c_1, if_neg c_4, if_neg c_7, if_neg c_10, if_pos c_11])
          · refine lv_ldc hx hb hown (hts (.constant RX11 126 (-1000002)) (by decide +kernel)) dX11_curtain_57 ?_
            exact hret _ _ _ _ _ _ dX11_curtain_59 rfl hX hS (by simp only [f_X11_curtain, if_neg c_1, if_neg c_4, if_neg c_7, if_neg c_10, if_neg c_11])
        · have b_16 : wx_b (r_X3_hasWindow g 20 a1 a2) 0 0 := by rw [c_10]; exact ⟨by decide, by decide⟩
          refine lv_ldc hx hb hown (hts (.constant RX11 55 (-1000001)) (by decide +kernel)) dX11_curtain_41 ?_
          exact hret _ _ _ _ _ _ dX11_curtain_43 rfl hX hS (by simp only [f_X11_curtain, if_neg c_1, if_neg c_4, if_neg c_7, if_pos c_10])
def f_X11_write (g : wx_M) (a1 : Int32) : wx_M × Int32 :=
  if (r_X3_stands g 20) = 0 then
    (g, (-1000002))
  else
    if (r_X11_isMinute a1) = 0 then
      (g, (-1000001))
    else
      if (r_X11_has (g 20 8) a1) = 0 then
        let x_6 := ((g 20 8) ||| (1 <<< (a1 &&& 31)))
        let g_7 := up2 g 20 8 x_6
        let g_8 := e_X0_keep g_7 3 0 0 a1 0
        let x_9 := (r_J6_bitCount_0f7a4 (g_8 20 8))
        (g_8, x_9)
      else
        (g, (-1000002))
set_option maxHeartbeats 4000000 in
set_option maxRecDepth 100000 in
theorem k_X11_write (l : Launch) {D : va_G} {cy : Nat → ClassId} {ad : Nat → Nat} {B0 : Nat} {f : wx_F} {P : va_W} (g : wx_M) (a1 : Int32) (hg : wx_HB g 20) (hn : wx_b (g 49 5) 0 23) : Met l yX11_write wsX11_write ({ frames := 2, cells := 0, slots := 0, locals := 54 } : Room) (wx_Pc D cy ad B0 f P g [.ref (ad 0), .int a1]) (wx_Qe D cy ad B0 f P (f_X11_write g a1).1 (some (.int (f_X11_write g a1).2))) 0 0 (fun q => B0 ≤ q) := by
  refine wx_enterE (cc := cX11_write) (maxL := 2) (ty := .int) (own := RX11) (lv := [(0, .ref (ad 0)), (1, .int a1)]) (by decide) rfl rfl (Nat.le_of_ble_eq_true rfl) rfl ?_
  intro p e R s m args below meth c ls Qm hx hb hml hown hts hK hX hS hR hret hl
  have hi_X11 : ∀ w ∈ wsX110, w ∈ wsX11_write := by decide +kernel
  have hi_X3 : ∀ w ∈ wsX30, w ∈ wsX11_write := by decide +kernel
  refine lv_aload_n hx hb dX11_write_0 rfl (lv_at hl 0 rfl) ?_
  refine wx_getr (t := 20) (C := RX11) (T := TX11) (N := 8) (ci := 10) (j := 2) hx hb hts hi_X11 hown hK hX (by decide) sh_X11_2 rfl (by decide) (hts (.fieldLink RX11 25 "SeenAgain" "house" "LSeenAgain$House;") (by decide +kernel)) (fun _ h9 => h9) dX11_write_1 ?_
  refine wx_callr (va_runV (As := []) (rest := []) ⟨hx, hb, hml, hown, hts⟩ (k_X3_stands l g 20 (show wx_H 20 from Or.inl rfl)) (cwV 0 hts gX11_write_X3_stands rfl rfl rfl (by decide +kernel) (by rw [hR]; exact ⟨Nat.le_of_ble_eq_true rfl, Nat.le_of_ble_eq_true rfl⟩)) ⟨wx_Pc.blind, wx_recv hK hX (by decide) (sh_X3 (show wx_H 20 from Or.inl rfl)) rfl, (wx_Pc.pre hK hX).2⟩ rfl rfl hl.1 rfl (lv_room (Nat.le_of_ble_eq_true rfl)) dX11_write_4 ⟨Nat.zero_le _, Nat.zero_le _⟩) ?_
  refine lv_if_ne (tgt := 13) hx hb dX11_write_7 (by decide) (fun c_1 => ?_) (fun c_1 => ?_)
  · refine lv_iload_n hx hb dX11_write_13 rfl (lv_at hl 1 rfl) ?_
    refine wx_callr (va_runS (As := [.int a1]) (rest := []) ⟨hx, hb, hml, hown, hts⟩ (k_X11_isMinute l g a1) (va_cwS 1 hts gX11_write_X11_isMinute rfl rfl rfl (by decide +kernel) (by rw [hR]; exact ⟨Nat.le_of_ble_eq_true rfl, Nat.le_of_ble_eq_true rfl⟩)) (wx_Pc.pre hK hX) rfl rfl hl.1 rfl (lv_room (Nat.le_of_ble_eq_true rfl)) dX11_write_14 ⟨Nat.zero_le _, Nat.zero_le _⟩) ?_
    refine lv_if_ne (tgt := 23) hx hb dX11_write_17 (by decide) (fun c_2 => ?_) (fun c_2 => ?_)
    · have b_3 : wx_b a1 0 7 := rf_X11_isMinute  c_2
      refine lv_aload_n hx hb dX11_write_23 rfl (lv_at hl 0 rfl) ?_
      refine wx_getr (t := 20) (C := RX11) (T := TX11) (N := 8) (ci := 10) (j := 2) hx hb hts hi_X11 hown hK hX (by decide) sh_X11_2 rfl (by decide) (hts (.fieldLink RX11 25 "SeenAgain" "house" "LSeenAgain$House;") (by decide +kernel)) (fun _ h9 => h9) dX11_write_24 ?_
      refine wx_geti (C := RX3) (T := TX3) (N := 15) (ci := 3) (j := 8) hx hb hts hi_X3 hown hK hX (by decide) (sh_X3_8 (show wx_H 20 from Or.inl rfl)) rfl (by decide) (hts (.fieldLink RX11 184 "SeenAgain$House" "written" "I") (by decide +kernel)) (fun _ h9 => h9) dX11_write_27 ?_
      refine lv_iload_n hx hb dX11_write_30 rfl (lv_at hl 1 rfl) ?_
      refine wx_callr (va_runS (As := [.int (g 20 8), .int a1]) (rest := []) ⟨hx, hb, hml, hown, hts⟩ (k_X11_has l g (g 20 8) a1) (va_cwS 2 hts gX11_write_X11_has rfl rfl rfl (by decide +kernel) (by rw [hR]; exact ⟨Nat.le_of_ble_eq_true rfl, Nat.le_of_ble_eq_true rfl⟩)) (wx_Pc.pre hK hX) rfl rfl hl.1 rfl (lv_room (Nat.le_of_ble_eq_true rfl)) dX11_write_31 ⟨Nat.zero_le _, Nat.zero_le _⟩) ?_
      refine lv_if_eq (tgt := 40) hx hb dX11_write_34 (by decide) (fun c_4 => ?_) (fun c_4 => ?_)
      · have b_5 : wx_b (r_X11_has (g 20 8) a1) 0 0 := by rw [c_4]; exact ⟨by decide, by decide⟩
        refine lv_aload_n hx hb dX11_write_40 rfl (lv_at hl 0 rfl) ?_
        refine wx_getr (t := 20) (C := RX11) (T := TX11) (N := 8) (ci := 10) (j := 2) hx hb hts hi_X11 hown hK hX (by decide) sh_X11_2 rfl (by decide) (hts (.fieldLink RX11 25 "SeenAgain" "house" "LSeenAgain$House;") (by decide +kernel)) (fun _ h9 => h9) dX11_write_41 ?_
        refine lv_dup hx hb dX11_write_44 rfl ?_
        refine wx_geti (C := RX3) (T := TX3) (N := 15) (ci := 3) (j := 8) hx hb hts hi_X3 hown hK hX (by decide) (sh_X3_8 (show wx_H 20 from Or.inl rfl)) rfl (by decide) (hts (.fieldLink RX11 184 "SeenAgain$House" "written" "I") (by decide +kernel)) (fun _ h9 => h9) dX11_write_45 ?_
        refine lv_iconst (v := 1) hx hb dX11_write_48 (by decide) ?_
        refine lv_iload_n hx hb dX11_write_49 rfl (lv_at hl 1 rfl) ?_
        refine lv_ishl hx hb dX11_write_50 ?_
        refine lv_ior hx hb dX11_write_51 ?_
        refine lv_topi (fun x_6 ex_6 => ?_)
        refine wx_puti (C := RX3) (T := TX3) (N := 15) (ci := 3) (j := 8) (ty := .int) hx hb hts hi_X3 tyX3 tyX3_ok nmX3 hown hK hX hS (by decide) (sh_X3_8 (show wx_H 20 from Or.inl rfl)) rfl (by decide) (hts (.fieldLink RX11 184 "SeenAgain$House" "written" "I") (by decide +kernel)) (fun _ h9 => h9) rfl (by decide +kernel) rfl rfl dX11_write_52 (fun H locs hX hS => ?_)
        obtain ⟨g_7, eg_7, hX⟩ := wx_nm hX
        refine lv_aload_n hx hb dX11_write_55 rfl (lv_at hl 0 rfl) ?_
        refine wx_getr (t := 49) (C := RX11) (T := TX11) (N := 8) (ci := 10) (j := 5) hx hb hts hi_X11 hown hK hX (by decide) sh_X11_5 rfl (by decide) (hts (.fieldLink RX11 39 "SeenAgain" "acts" "LSeenAgain$Acts;") (by decide +kernel)) (fun _ h9 => h9) dX11_write_56 ?_
        refine lv_iconst (v := 3) hx hb dX11_write_59 (by decide) ?_
        refine lv_iconst (v := 0) hx hb dX11_write_60 (by decide) ?_
        refine lv_iconst (v := 0) hx hb dX11_write_61 (by decide) ?_
        refine lv_iload_n hx hb dX11_write_62 rfl (lv_at hl 1 rfl) ?_
        refine lv_iconst (v := 0) hx hb dX11_write_63 (by decide) ?_
        refine wx_callev (va_runV (As := [.int 3, .int 0, .int 0, .int a1, .int 0]) (rest := []) ⟨hx, hb, hml, hown, hts⟩ (k_X0_keep l g_7 3 0 0 a1 0 (wb_w (show wx_b (g_7 49 5) 0 23 by rw [show (g_7 49 5) = (g 49 5) from (by rw [eg_7, up2_n (by decide)])]; exact hn) (by decide) (by decide))) (cwV 5 hts gX11_write_X0_keep rfl rfl rfl (by decide +kernel) (by rw [hR]; exact ⟨Nat.le_of_ble_eq_true rfl, Nat.le_of_ble_eq_true rfl⟩)) ⟨wx_Pc.blind, wx_recv hK hX (by decide) sh_X0 rfl, (wx_Pc.pre hK hX).2⟩ rfl rfl hl.1 rfl (lv_room (Nat.le_of_ble_eq_true rfl)) dX11_write_64 ⟨Nat.zero_le _, Nat.zero_le _⟩) hS (fun H locs hX hS => ?_)
        obtain ⟨g_8, eg_8, hX⟩ := wx_nm hX
        refine lv_aload_n hx hb dX11_write_67 rfl (lv_at hl 0 rfl) ?_
        refine wx_getr (t := 20) (C := RX11) (T := TX11) (N := 8) (ci := 10) (j := 2) hx hb hts hi_X11 hown hK hX (by decide) sh_X11_2 rfl (by decide) (hts (.fieldLink RX11 25 "SeenAgain" "house" "LSeenAgain$House;") (by decide +kernel)) (fun _ h9 => h9) dX11_write_68 ?_
        refine wx_geti (C := RX3) (T := TX3) (N := 15) (ci := 3) (j := 8) hx hb hts hi_X3 hown hK hX (by decide) (sh_X3_8 (show wx_H 20 from Or.inl rfl)) rfl (by decide) (hts (.fieldLink RX11 184 "SeenAgain$House" "written" "I") (by decide +kernel)) (fun _ h9 => h9) dX11_write_71 ?_
        refine wx_callr (va_runS (As := [.int (g_8 20 8)]) (rest := []) ⟨hx, hb, hml, hown, hts⟩ (k_J6_bitCount_0f7a4 l g_8 (g_8 20 8)) (va_cwS 1 hts gX11_write_J6_bitCount_0f7a4 rfl rfl rfl (by decide +kernel) (by rw [hR]; exact ⟨Nat.le_of_ble_eq_true rfl, Nat.le_of_ble_eq_true rfl⟩)) (wx_Pc.pre hK hX) rfl rfl hl.1 rfl (lv_room (Nat.le_of_ble_eq_true rfl)) dX11_write_74 ⟨Nat.zero_le _, Nat.zero_le _⟩) ?_
        refine lv_topi (fun x_9 ex_9 => ?_)
        exact hret _ _ _ _ _ _ dX11_write_77 rfl hX hS (by subst ex_9 eg_8 eg_7 ex_6; simp only [f_X11_write, if_neg c_1, if_neg c_2, if_pos c_4])
      · refine lv_ldc hx hb hown (hts (.constant RX11 126 (-1000002)) (by decide +kernel)) dX11_write_37 ?_
        exact hret _ _ _ _ _ _ dX11_write_39 rfl hX hS (by simp only [f_X11_write, if_neg c_1, if_neg c_2, if_neg c_4])
    · have b_10 : wx_b (r_X11_isMinute a1) 0 0 := by rw [c_2]; exact ⟨by decide, by decide⟩
      refine lv_ldc hx hb hown (hts (.constant RX11 55 (-1000001)) (by decide +kernel)) dX11_write_20 ?_
      exact hret _ _ _ _ _ _ dX11_write_22 rfl hX hS (by simp only [f_X11_write, if_neg c_1, if_pos c_2])
  · have b_11 : wx_b (r_X3_stands g 20) 0 0 := by rw [c_1]; exact ⟨by decide, by decide⟩
    refine lv_ldc hx hb hown (hts (.constant RX11 126 (-1000002)) (by decide +kernel)) dX11_write_10 ?_
    exact hret _ _ _ _ _ _ dX11_write_12 rfl hX hS (by simp only [f_X11_write, if_pos c_1])
