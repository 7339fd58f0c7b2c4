def b_X3_costOf_6 (g : wx_M) (h : Nat) (a1 : Int32) (a2 : Int32) (a3 : Int32) (t_6 : Nat) (s_6 : Int32) : (Int32) ⊕ (Int32) :=
  if (r_X11_has a2 (nI t_6)) = 0 then
    .inl s_6
  else
    if (r_X3_holds g h a1 (nI t_6) a3) = 0 then
      if (r_X3_isLeft g h (nI t_6) a3) = 0 then
        .inr ((-1000000))
      else
        let x_9 := (s_6 + (r_X3_priceFor g h a1 (nI t_6) a3))
        .inl x_9
    else
      .inl s_6
def r_X3_costOf (g : wx_M) (h : Nat) (a1 : Int32) (a2 : Int32) (a3 : Int32) : Int32 :=
  (match repX (g h 0).toNatClampNeg (b_X3_costOf_6 g h a1 a2 a3) (0 : Int32) with
  | .inl s_6 =>
    s_6
  | .inr r9 => r9)
set_option maxHeartbeats 4000000 in
set_option maxRecDepth 100000 in
theorem k_X3_costOf (l : Launch) {D : va_G} {cy : Nat → ClassId} {ad : Nat → Nat} {B0 : Nat} {f : wx_F} {P : va_W} (g : wx_M) (h : Nat) (a1 : Int32) (a2 : Int32) (a3 : Int32) (hh : wx_H h) (b1 : wx_b a1 0 3) (b3 : wx_b a3 0 7) (hg : wx_HB g h) : Met l yX3_costOf wsX3_costOf ({ frames := 4, cells := 0, slots := 0, locals := 99 } : Room) (wx_Pc D cy ad B0 f P g [.ref (ad h), .int a1, .int a2, .int a3]) (QcRead (r_X3_costOf g h a1 a2 a3)) 0 0 (fun _ => False) := by
  refine wx_enterR (cc := cX3_costOf) (maxL := 6) (ty := .int) (own := RX3) (lv := [(0, .ref (ad h)), (1, .int a1), (2, .int a2), (3, .int a3)]) (by decide) rfl rfl (Nat.le_of_ble_eq_true rfl) rfl ?_
  intro p e R s m args below meth c ls Qm hx hb hml hown hts hK hX hR hret hl
  have hi_X3 : ∀ w ∈ wsX30, w ∈ wsX3_costOf := by decide +kernel
  refine lv_iconst (v := 0) hx hb dX3_costOf_0 (by decide) ?_
  refine lv_istore (lv' := [(4, .int 0), (0, .ref (ad h)), (1, .int a1), (2, .int a2), (3, .int a3)]) hx hb dX3_costOf_1 hl (by decide) rfl (fun ls hl => ?_)
  refine lv_iconst (v := 0) hx hb dX3_costOf_3 (by decide) ?_
  refine lv_istore (lv' := [(5, .int 0), (4, .int 0), (0, .ref (ad h)), (1, .int a1), (2, .int a2), (3, .int a3)]) hx hb dX3_costOf_4 hl (by decide) rfl (fun ls hl => ?_)
  have lp_6 : ∀ (n t_6 : Nat) (s_6 : Int32) (ls : Array Slot), t_6 ≤ (g h 0).toNatClampNeg → (g h 0).toNatClampNeg + 1 ≤ t_6 + n → repX t_6 (b_X3_costOf_6 g h a1 a2 a3) (0 : Int32) = .inl s_6 → lv_has ls 6 [(5, .int (nI t_6)), (4, .int s_6), (0, .ref (ad h)), (1, .int a1), (2, .int a2), (3, .int a3)] → W p l e R s m args below meth c s.heap [] 0 0 Qm (F0 m 6 ls []) := by
    intro n
    induction n with
    | zero => intro t_6 s_6 ls h1 h2; exact absurd h2 (by omega)
    | succ n ih_6 =>
      intro t_6 s_6 ls ht_6 hn_6 es_6 hl
      refine lv_iload hx hb dX3_costOf_6 (lv_at hl 0 rfl) ?_
      refine lv_aload_n hx hb dX3_costOf_8 rfl (lv_at hl 2 rfl) ?_
      refine wx_geti (C := RX3) (T := TX3) (N := 15) (ci := 3) (j := 0) hx hb hts hi_X3 hown hK hX hh.l0 (sh_X3_0 hh) rfl (by decide) (hts (.fieldLink RX3 54 "SeenAgain$House" "rooms" "I") (by decide +kernel)) (fun _ h9 => h9) dX3_costOf_9 ?_
      refine lv_icmp_ge (tgt := 67) hx hb dX3_costOf_12 (by decide) (fun c_1 => ?_) (fun c_1 => ?_)
      · have et_6 : t_6 = (g h 0).toNatClampNeg := Nat.le_antisymm ht_6 (by have h9 := wx_dn (by have := wx_cl31 (g h 0); omega) c_1; omega)
        subst et_6
        refine lv_iload hx hb dX3_costOf_67 (lv_at hl 1 rfl) ?_
        exact hret _ _ _ dX3_costOf_69 rfl (by simp only [r_X3_costOf, es_6])
      · have hlt_6 : t_6 < (g h 0).toNatClampNeg := by have h9 := wx_up (by have := wx_cl31 (g h 0); omega) c_1; omega
        have bt_6 : wx_b (nI (t_6)) 0 5 := wb_nI (n := 5) (by have := wb_cl (n := 6) hg.1 (by decide); omega) (by decide)
        refine lv_iload_n hx hb dX3_costOf_15 rfl (lv_at hl 4 rfl) ?_
        refine lv_iload hx hb dX3_costOf_16 (lv_at hl 0 rfl) ?_
        refine wx_callr (va_runSN (As := [.int a2, .int (nI t_6)]) (rest := []) ⟨hx, hb, hml, hown, hts⟩ (k_X11_has l g a2 (nI t_6)) ⟨va_cnB 2 hts gX3_costOf_X11_has_n78 rfl rfl rfl hK.2.1.1 (hts (.initialized RX11) (by decide +kernel)) (by decide +kernel) (by rw [hR]; exact ⟨Nat.le_of_ble_eq_true rfl, Nat.le_of_ble_eq_true rfl⟩), hts (.static yX11_has) (by decide +kernel), trivial⟩ (wx_Pc.pre hK hX) rfl rfl hl.1 rfl (lv_room (Nat.le_of_ble_eq_true rfl)) dX3_costOf_18 ⟨Nat.zero_le _, Nat.zero_le _⟩) ?_
        refine lv_if_eq (tgt := 61) hx hb dX3_costOf_21 (by decide) (fun c_2 => ?_) (fun c_2 => ?_)
        · have b_3 : wx_b (r_X11_has a2 (nI t_6)) 0 0 := by rw [c_2]; exact ⟨by decide, by decide⟩
          refine lv_iinc (v := nI (t_6 + 1)) (lv' := [(5, .int (nI (t_6 + 1))), (4, .int s_6), (0, .ref (ad h)), (1, .int a1), (2, .int a2), (3, .int a3)]) hx hb dX3_costOf_61 hl (k := 0) rfl (wx_inc _) (by decide) rfl (fun ls hl => ?_)
          refine lv_goto (tgt := 6) hx hb dX3_costOf_64 (by decide) ?_
          have hF_4 : (b_X3_costOf_6 g h a1 a2 a3) t_6 s_6 = .inl s_6 := (by simp only [b_X3_costOf_6, if_pos c_2])
          exact ih_6 (t_6 + 1) s_6 ls hlt_6 (by omega) ((repX_go es_6).trans hF_4) (lv_sub hl [0, 1, 2, 3, 4, 5] rfl)
        · refine lv_aload_n hx hb dX3_costOf_24 rfl (lv_at hl 2 rfl) ?_
          refine lv_iload_n hx hb dX3_costOf_25 rfl (lv_at hl 3 rfl) ?_
          refine lv_iload hx hb dX3_costOf_26 (lv_at hl 0 rfl) ?_
          refine lv_iload_n hx hb dX3_costOf_28 rfl (lv_at hl 5 rfl) ?_
          refine wx_callr (va_runV (As := [.int a1, .int (nI t_6), .int a3]) (rest := []) ⟨hx, hb, hml, hown, hts⟩ (k_X3_holds l g h a1 (nI t_6) a3 hh bt_6 b3) (cwV 3 hts gX3_costOf_X3_holds rfl rfl rfl (by decide +kernel) (by rw [hR]; exact ⟨Nat.le_of_ble_eq_true rfl, Nat.le_of_ble_eq_true rfl⟩)) ⟨wx_Pc.blind, wx_recv hK hX hh.l0 (sh_X3 hh) rfl, (wx_Pc.pre hK hX).2⟩ rfl rfl hl.1 rfl (lv_room (Nat.le_of_ble_eq_true rfl)) dX3_costOf_29 ⟨Nat.zero_le _, Nat.zero_le _⟩) ?_
          refine lv_if_ne (tgt := 61) hx hb dX3_costOf_32 (by decide) (fun c_5 => ?_) (fun c_5 => ?_)
          · refine lv_iinc (v := nI (t_6 + 1)) (lv' := [(5, .int (nI (t_6 + 1))), (4, .int s_6), (0, .ref (ad h)), (1, .int a1), (2, .int a2), (3, .int a3)]) hx hb dX3_costOf_61 hl (k := 0) rfl (wx_inc _) (by decide) rfl (fun ls hl => ?_)
            refine lv_goto (tgt := 6) hx hb dX3_costOf_64 (by decide) ?_
            have hF_6 : (b_X3_costOf_6 g h a1 a2 a3) t_6 s_6 = .inl s_6 := (by simp only [b_X3_costOf_6, if_neg c_2, if_neg c_5])
            exact ih_6 (t_6 + 1) s_6 ls hlt_6 (by omega) ((repX_go es_6).trans hF_6) (lv_sub hl [0, 1, 2, 3, 4, 5] rfl)
          · have b_7 : wx_b (r_X3_holds g h a1 (nI t_6) a3) 0 0 := by rw [c_5]; exact ⟨by decide, by decide⟩
            refine lv_aload_n hx hb dX3_costOf_35 rfl (lv_at hl 2 rfl) ?_
            refine lv_iload hx hb dX3_costOf_36 (lv_at hl 0 rfl) ?_
            refine lv_iload_n hx hb dX3_costOf_38 rfl (lv_at hl 5 rfl) ?_
            refine wx_callr (va_runV (As := [.int (nI t_6), .int a3]) (rest := []) ⟨hx, hb, hml, hown, hts⟩ (k_X3_isLeft l g h (nI t_6) a3 hh bt_6 b3) (cwV 2 hts gX3_costOf_X3_isLeft rfl rfl rfl (by decide +kernel) (by rw [hR]; exact ⟨Nat.le_of_ble_eq_true rfl, Nat.le_of_ble_eq_true rfl⟩)) ⟨wx_Pc.blind, wx_recv hK hX hh.l0 (sh_X3 hh) rfl, (wx_Pc.pre hK hX).2⟩ rfl rfl hl.1 rfl (lv_room (Nat.le_of_ble_eq_true rfl)) dX3_costOf_39 ⟨Nat.zero_le _, Nat.zero_le _⟩) ?_
            refine lv_if_ne (tgt := 48) hx hb dX3_costOf_42 (by decide) (fun c_8 => ?_) (fun c_8 => ?_)
            · refine lv_iload hx hb dX3_costOf_48 (lv_at hl 1 rfl) ?_
              refine lv_aload_n hx hb dX3_costOf_50 rfl (lv_at hl 2 rfl) ?_
              refine lv_iload_n hx hb dX3_costOf_51 rfl (lv_at hl 3 rfl) ?_
              refine lv_iload hx hb dX3_costOf_52 (lv_at hl 0 rfl) ?_
              refine lv_iload_n hx hb dX3_costOf_54 rfl (lv_at hl 5 rfl) ?_
              refine wx_callr (va_runV (As := [.int a1, .int (nI t_6), .int a3]) (rest := [.int s_6]) ⟨hx, hb, hml, hown, hts⟩ (k_X3_priceFor l g h a1 (nI t_6) a3 hh b1 bt_6 b3 hg) (cwV 3 hts gX3_costOf_X3_priceFor rfl rfl rfl (by decide +kernel) (by rw [hR]; exact ⟨Nat.le_of_ble_eq_true rfl, Nat.le_of_ble_eq_true rfl⟩)) ⟨wx_Pc.blind, wx_recv hK hX hh.l0 (sh_X3 hh) rfl, (wx_Pc.pre hK hX).2⟩ rfl rfl hl.1 rfl (lv_room (Nat.le_of_ble_eq_true rfl)) dX3_costOf_55 ⟨Nat.zero_le _, Nat.zero_le _⟩) ?_
              refine lv_iadd hx hb dX3_costOf_58 ?_
              refine lv_topi (fun x_9 ex_9 => ?_)
              refine lv_istore (lv' := [(4, .int x_9), (5, .int (nI t_6)), (0, .ref (ad h)), (1, .int a1), (2, .int a2), (3, .int a3)]) hx hb dX3_costOf_59 hl (by decide) rfl (fun ls hl => ?_)
              refine lv_iinc (v := nI (t_6 + 1)) (lv' := [(5, .int (nI (t_6 + 1))), (4, .int x_9), (0, .ref (ad h)), (1, .int a1), (2, .int a2), (3, .int a3)]) hx hb dX3_costOf_61 hl (k := 1) rfl (wx_inc _) (by decide) rfl (fun ls hl => ?_)
              refine lv_goto (tgt := 6) hx hb dX3_costOf_64 (by decide) ?_
              have hF_10 : (b_X3_costOf_6 g h a1 a2 a3) t_6 s_6 = .inl x_9 := (by subst ex_9; simp only [b_X3_costOf_6, if_neg c_2, if_pos c_5, if_neg c_8])
              exact ih_6 (t_6 + 1) x_9 ls hlt_6 (by omega) ((repX_go es_6).trans hF_10) (lv_sub hl [0, 1, 2, 3, 4, 5] rfl)
            · have b_11 : wx_b (r_X3_isLeft g h (nI t_6) a3) 0 0 := by rw [c_8]; exact ⟨by decide, by decide⟩
              refine lv_ldc hx hb hown (hts (.constant RX3 111 (-1000000)) (by decide +kernel)) dX3_costOf_45 ?_
              have hF_12 : (b_X3_costOf_6 g h a1 a2 a3) t_6 s_6 = .inr ((-1000000)) := (by simp only [b_X3_costOf_6, if_neg c_2, if_pos c_5, if_pos c_8])
              have hO_13 : repX (g h 0).toNatClampNeg (b_X3_costOf_6 g h a1 a2 a3) (0 : Int32) = .inr ((-1000000)) := repX_out es_6 hF_12 hlt_6
              exact hret _ _ _ dX3_costOf_47 rfl (by simp only [r_X3_costOf, hO_13])
  exact lp_6 ((g h 0).toNatClampNeg + 1) 0 (0 : Int32) ls (Nat.zero_le _) (by omega) rfl (lv_sub hl [0, 1, 2, 3, 4, 5] rfl)
def b_X3_cheapestSettling_9 (g : wx_M) (h : Nat) (a1 : Int32) (a2 : Int32) (t_9 : Nat) (s_9 : Int32 × Int32) : Int32 × Int32 :=
  let x_2 := (r_X3_costOf g h a1 (nI t_9) a2)
  if x_2 = (-1000000) then
    (s_9.1, s_9.2)
  else
    if s_9.1 = (-1000000) then
      if (r_X3_settles g h (nI t_9) a2) = 0 then
        (s_9.1, s_9.2)
      else
        ((nI t_9), x_2)
    else
      if s_9.2 ≤ x_2 then
        (s_9.1, s_9.2)
      else
        if (r_X3_settles g h (nI t_9) a2) = 0 then
          (s_9.1, s_9.2)
        else
          ((nI t_9), x_2)
def r_X3_cheapestSettling (g : wx_M) (h : Nat) (a1 : Int32) (a2 : Int32) : Int32 :=
  let s_9 := rep (1 <<< ((g h 0) &&& 31)).toNatClampNeg (b_X3_cheapestSettling_9 g h a1 a2) ((-1000000), 0)
  s_9.1
set_option maxHeartbeats 4000000 in
set_option maxRecDepth 100000 in
theorem k_X3_cheapestSettling (l : Launch) {D : va_G} {cy : Nat → ClassId} {ad : Nat → Nat} {B0 : Nat} {f : wx_F} {P : va_W} (g : wx_M) (h : Nat) (a1 : Int32) (a2 : Int32) (hh : wx_H h) (b1 : wx_b a1 0 3) (b2 : wx_b a2 0 7) (hg : wx_HB g h) : Met l yX3_cheapestSettling wsX3_cheapestSettling ({ frames := 5, cells := 0, slots := 0, locals := 124 } : Room) (wx_Pc D cy ad B0 f P g [.ref (ad h), .int a1, .int a2]) (QcRead (r_X3_cheapestSettling g h a1 a2)) 0 0 (fun _ => False) := by
  refine wx_enterR (cc := cX3_cheapestSettling) (maxL := 7) (ty := .int) (own := RX3) (lv := [(0, .ref (ad h)), (1, .int a1), (2, .int a2)]) (by decide) rfl rfl (Nat.le_of_ble_eq_true rfl) rfl ?_
  intro p e R s m args below meth c ls Qm hx hb hml hown hts hK hX hR hret hl
  have hi_X3 : ∀ w ∈ wsX30, w ∈ wsX3_cheapestSettling := by decide +kernel
  refine lv_ldc hx hb hown (hts (.constant RX3 111 (-1000000)) (by decide +kernel)) dX3_cheapestSettling_0 ?_
  refine lv_istore_n (lv' := [(3, .int (-1000000)), (0, .ref (ad h)), (1, .int a1), (2, .int a2)]) hx hb dX3_cheapestSettling_2 rfl hl (by decide) rfl (fun ls hl => ?_)
  refine lv_iconst (v := 0) hx hb dX3_cheapestSettling_3 (by decide) ?_
  refine lv_istore (lv' := [(4, .int 0), (3, .int (-1000000)), (0, .ref (ad h)), (1, .int a1), (2, .int a2)]) hx hb dX3_cheapestSettling_4 hl (by decide) rfl (fun ls hl => ?_)
  refine lv_iconst (v := 0) hx hb dX3_cheapestSettling_6 (by decide) ?_
  refine lv_istore (lv' := [(5, .int 0), (4, .int 0), (3, .int (-1000000)), (0, .ref (ad h)), (1, .int a1), (2, .int a2)]) hx hb dX3_cheapestSettling_7 hl (by decide) rfl (fun ls hl => ?_)
  have lp_9 : ∀ (n t_9 : Nat) (s_9 : Int32 × Int32) (ls : Array Slot), t_9 ≤ (1 <<< ((g h 0) &&& 31)).toNatClampNeg → (1 <<< ((g h 0) &&& 31)).toNatClampNeg + 1 ≤ t_9 + n → s_9 = rep t_9 (b_X3_cheapestSettling_9 g h a1 a2) ((-1000000), 0) → lv_has ls 7 [(5, .int (nI t_9)), (4, .int s_9.2), (3, .int s_9.1), (0, .ref (ad h)), (1, .int a1), (2, .int a2)] → W p l e R s m args below meth c s.heap [] 0 0 Qm (F0 m 9 ls []) := by
    intro n
    induction n with
    | zero => intro t_9 s_9 ls h1 h2; exact absurd h2 (by omega)
    | succ n ih_9 =>
      intro t_9 s_9 ls ht_9 hn_9 es_9 hl
      refine lv_iload hx hb dX3_cheapestSettling_9 (lv_at hl 0 rfl) ?_
      refine lv_iconst (v := 1) hx hb dX3_cheapestSettling_11 (by decide) ?_
      refine lv_aload_n hx hb dX3_cheapestSettling_12 rfl (lv_at hl 3 rfl) ?_
      refine wx_geti (C := RX3) (T := TX3) (N := 15) (ci := 3) (j := 0) hx hb hts hi_X3 hown hK hX hh.l0 (sh_X3_0 hh) rfl (by decide) (hts (.fieldLink RX3 54 "SeenAgain$House" "rooms" "I") (by decide +kernel)) (fun _ h9 => h9) dX3_cheapestSettling_13 ?_
      refine lv_ishl hx hb dX3_cheapestSettling_16 ?_
      refine lv_icmp_ge (tgt := 73) hx hb dX3_cheapestSettling_17 (by decide) (fun c_1 => ?_) (fun c_1 => ?_)
      · have et_9 : t_9 = (1 <<< ((g h 0) &&& 31)).toNatClampNeg := Nat.le_antisymm ht_9 (by have h9 := wx_dn (by have := wx_cl31 (1 <<< ((g h 0) &&& 31)); omega) c_1; omega)
        subst et_9
        refine lv_iload_n hx hb dX3_cheapestSettling_73 rfl (lv_at hl 2 rfl) ?_
        exact hret _ _ _ dX3_cheapestSettling_74 rfl (by simp only [r_X3_cheapestSettling, ← es_9])
      · have hlt_9 : t_9 < (1 <<< ((g h 0) &&& 31)).toNatClampNeg := by have h9 := wx_up (by have := wx_cl31 (1 <<< ((g h 0) &&& 31)); omega) c_1; omega
        have bt_9 : wx_b (nI (t_9)) 0 2147483646 := wb_nI (n := 2147483646) (by have := wx_cl31 (1 <<< ((g h 0) &&& 31)); omega) (by decide)
        refine lv_aload_n hx hb dX3_cheapestSettling_20 rfl (lv_at hl 3 rfl) ?_
        refine lv_iload_n hx hb dX3_cheapestSettling_21 rfl (lv_at hl 4 rfl) ?_
        refine lv_iload hx hb dX3_cheapestSettling_22 (lv_at hl 0 rfl) ?_
        refine lv_iload_n hx hb dX3_cheapestSettling_24 rfl (lv_at hl 5 rfl) ?_
        refine wx_callr (va_runV (As := [.int a1, .int (nI t_9), .int a2]) (rest := []) ⟨hx, hb, hml, hown, hts⟩ (k_X3_costOf l g h a1 (nI t_9) a2 hh b1 b2 hg) (cwV 3 hts gX3_cheapestSettling_X3_costOf rfl rfl rfl (by decide +kernel) (by rw [hR]; exact ⟨Nat.le_of_ble_eq_true rfl, Nat.le_of_ble_eq_true rfl⟩)) ⟨wx_Pc.blind, wx_recv hK hX hh.l0 (sh_X3 hh) rfl, (wx_Pc.pre hK hX).2⟩ rfl rfl hl.1 rfl (lv_room (Nat.le_of_ble_eq_true rfl)) dX3_cheapestSettling_25 ⟨Nat.zero_le _, Nat.zero_le _⟩) ?_
        refine lv_topi (fun x_2 ex_2 => ?_)
        refine lv_istore (lv' := [(6, .int x_2), (5, .int (nI t_9)), (4, .int s_9.2), (3, .int s_9.1), (0, .ref (ad h)), (1, .int a1), (2, .int a2)]) hx hb dX3_cheapestSettling_28 hl (by decide) rfl (fun ls hl => ?_)
        refine lv_iload hx hb dX3_cheapestSettling_30 (lv_at hl 0 rfl) ?_
        refine lv_ldc hx hb hown (hts (.constant RX3 111 (-1000000)) (by decide +kernel)) dX3_cheapestSettling_32 ?_
        refine lv_icmp_eq (tgt := 67) hx hb dX3_cheapestSettling_34 (by decide) (fun c_3 => ?_) (fun c_3 => ?_)
        · have b_4 : wx_b x_2 (-1000000) (-1000000) := by rw [c_3]; exact ⟨by decide, by decide⟩
          refine lv_iinc (v := nI (t_9 + 1)) (lv' := [(5, .int (nI (t_9 + 1))), (6, .int x_2), (4, .int s_9.2), (3, .int s_9.1), (0, .ref (ad h)), (1, .int a1), (2, .int a2)]) hx hb dX3_cheapestSettling_67 hl (k := 1) rfl (wx_inc _) (by decide) rfl (fun ls hl => ?_)
          refine lv_goto (tgt := 9) hx hb dX3_cheapestSettling_70 (by decide) ?_
          have hF_5 : (b_X3_cheapestSettling_9 g h a1 a2) t_9 s_9 = (s_9.1, s_9.2) := (by subst ex_2; simp only [b_X3_cheapestSettling_9, if_pos c_3])
          exact ih_9 (t_9 + 1) (s_9.1, s_9.2) ls hlt_9 (by omega) (by rw [rep_succ, ← es_9, hF_5]) (lv_sub hl [0, 2, 3, 4, 5, 6] rfl)
        · refine lv_iload_n hx hb dX3_cheapestSettling_37 rfl (lv_at hl 3 rfl) ?_
          refine lv_ldc hx hb hown (hts (.constant RX3 111 (-1000000)) (by decide +kernel)) dX3_cheapestSettling_38 ?_
          refine lv_icmp_eq (tgt := 50) hx hb dX3_cheapestSettling_40 (by decide) (fun c_6 => ?_) (fun c_6 => ?_)
          · have b_7 : wx_b s_9.1 (-1000000) (-1000000) := by rw [c_6]; exact ⟨by decide, by decide⟩
            refine lv_aload_n hx hb dX3_cheapestSettling_50 rfl (lv_at hl 4 rfl) ?_
            refine lv_iload hx hb dX3_cheapestSettling_51 (lv_at hl 1 rfl) ?_
            refine lv_iload_n hx hb dX3_cheapestSettling_53 rfl (lv_at hl 6 rfl) ?_
            refine wx_callr (va_runV (As := [.int (nI t_9), .int a2]) (rest := []) ⟨hx, hb, hml, hown, hts⟩ (k_X3_settles l g h (nI t_9) a2 hh b2 hg) (cwV 2 hts gX3_cheapestSettling_X3_settles rfl rfl rfl (by decide +kernel) (by rw [hR]; exact ⟨Nat.le_of_ble_eq_true rfl, Nat.le_of_ble_eq_true rfl⟩)) ⟨wx_Pc.blind, wx_recv hK hX hh.l0 (sh_X3 hh) rfl, (wx_Pc.pre hK hX).2⟩ rfl rfl hl.1 rfl (lv_room (Nat.le_of_ble_eq_true rfl)) dX3_cheapestSettling_54 ⟨Nat.zero_le _, Nat.zero_le _⟩) ?_
            refine lv_if_eq (tgt := 67) hx hb dX3_cheapestSettling_57 (by decide) (fun c_8 => ?_) (fun c_8 => ?_)
            · have b_9 : wx_b (r_X3_settles g h (nI t_9) a2) 0 0 := by rw [c_8]; exact ⟨by decide, by decide⟩
              refine lv_iinc (v := nI (t_9 + 1)) (lv' := [(5, .int (nI (t_9 + 1))), (6, .int x_2), (4, .int s_9.2), (3, .int s_9.1), (0, .ref (ad h)), (1, .int a1), (2, .int a2)]) hx hb dX3_cheapestSettling_67 hl (k := 1) rfl (wx_inc _) (by decide) rfl (fun ls hl => ?_)
              refine lv_goto (tgt := 9) hx hb dX3_cheapestSettling_70 (by decide) ?_
              have hF_10 : (b_X3_cheapestSettling_9 g h a1 a2) t_9 s_9 = (s_9.1, s_9.2) := (by subst ex_2; simp only [b_X3_cheapestSettling_9, if_neg c_3, if_pos c_6, if_pos c_8])
              exact ih_9 (t_9 + 1) (s_9.1, s_9.2) ls hlt_9 (by omega) (by rw [rep_succ, ← es_9, hF_10]) (lv_sub hl [0, 2, 3, 4, 5, 6] rfl)
            · refine lv_iload hx hb dX3_cheapestSettling_60 (lv_at hl 0 rfl) ?_
              refine lv_istore (lv' := [(4, .int x_2), (6, .int x_2), (5, .int (nI t_9)), (3, .int s_9.1), (0, .ref (ad h)), (1, .int a1), (2, .int a2)]) hx hb dX3_cheapestSettling_62 hl (by decide) rfl (fun ls hl => ?_)
              refine lv_iload hx hb dX3_cheapestSettling_64 (lv_at hl 2 rfl) ?_
              refine lv_istore_n (lv' := [(3, .int (nI t_9)), (4, .int x_2), (6, .int x_2), (5, .int (nI t_9)), (0, .ref (ad h)), (1, .int a1), (2, .int a2)]) hx hb dX3_cheapestSettling_66 rfl hl (by decide) rfl (fun ls hl => ?_)
              refine lv_iinc (v := nI (t_9 + 1)) (lv' := [(5, .int (nI (t_9 + 1))), (3, .int (nI t_9)), (4, .int x_2), (6, .int x_2), (0, .ref (ad h)), (1, .int a1), (2, .int a2)]) hx hb dX3_cheapestSettling_67 hl (k := 3) rfl (wx_inc _) (by decide) rfl (fun ls hl => ?_)
              refine lv_goto (tgt := 9) hx hb dX3_cheapestSettling_70 (by decide) ?_
              have hF_11 : (b_X3_cheapestSettling_9 g h a1 a2) t_9 s_9 = ((nI t_9), x_2) := (by subst ex_2; simp only [b_X3_cheapestSettling_9, if_neg c_3, if_pos c_6, if_neg c_8])
              exact ih_9 (t_9 + 1) ((nI t_9), x_2) ls hlt_9 (by omega) (by rw [rep_succ, ← es_9, hF_11]) (lv_sub hl [0, 2, 1, 4, 5, 6] rfl)
          · refine lv_iload hx hb dX3_cheapestSettling_43 (lv_at hl 0 rfl) ?_
            refine lv_iload hx hb dX3_cheapestSettling_45 (lv_at hl 2 rfl) ?_
            refine lv_icmp_ge (tgt := 67) hx hb dX3_cheapestSettling_47 (by decide) (fun c_12 => ?_) (fun c_12 => ?_)
            · refine lv_iinc (v := nI (t_9 + 1)) (lv' := [(5, .int (nI (t_9 + 1))), (6, .int x_2), (4, .int s_9.2), (3, .int s_9.1), (0, .ref (ad h)), (1, .int a1), (2, .int a2)]) hx hb dX3_cheapestSettling_67 hl (k := 1) rfl (wx_inc _) (by decide) rfl (fun ls hl => ?_)
              refine lv_goto (tgt := 9) hx hb dX3_cheapestSettling_70 (by decide) ?_
              have hF_13 : (b_X3_cheapestSettling_9 g h a1 a2) t_9 s_9 = (s_9.1, s_9.2) := (by subst ex_2; simp only [b_X3_cheapestSettling_9, if_neg c_3, if_neg c_6, if_pos c_12])
              exact ih_9 (t_9 + 1) (s_9.1, s_9.2) ls hlt_9 (by omega) (by rw [rep_succ, ← es_9, hF_13]) (lv_sub hl [0, 2, 3, 4, 5, 6] rfl)
            · have b_14 : wx_b x_2 (-2147483648) 2147483646 := wb_lt (wb_nle c_12) (wb_any _) (wb_any _) (by decide) (by decide)
              have b_15 : wx_b s_9.2 (-2147483647) 2147483647 := wb_gt (wb_nle c_12) (wb_any _) (wb_any _) (by decide) (by decide)
              refine lv_aload_n hx hb dX3_cheapestSettling_50 rfl (lv_at hl 4 rfl) ?_
              refine lv_iload hx hb dX3_cheapestSettling_51 (lv_at hl 1 rfl) ?_
              refine lv_iload_n hx hb dX3_cheapestSettling_53 rfl (lv_at hl 6 rfl) ?_
              refine wx_callr (va_runV (As := [.int (nI t_9), .int a2]) (rest := []) ⟨hx, hb, hml, hown, hts⟩ (k_X3_settles l g h (nI t_9) a2 hh b2 hg) (cwV 2 hts gX3_cheapestSettling_X3_settles rfl rfl rfl (by decide +kernel) (by rw [hR]; exact ⟨Nat.le_of_ble_eq_true rfl, Nat.le_of_ble_eq_true rfl⟩)) ⟨wx_Pc.blind, wx_recv hK hX hh.l0 (sh_X3 hh) rfl, (wx_Pc.pre hK hX).2⟩ rfl rfl hl.1 rfl (lv_room (Nat.le_of_ble_eq_true rfl)) dX3_cheapestSettling_54 ⟨Nat.zero_le _, Nat.zero_le _⟩) ?_
              refine lv_if_eq (tgt := 67) hx hb dX3_cheapestSettling_57 (by decide) (fun c_16 => ?_) (fun c_16 => ?_)
              · have b_17 : wx_b (r_X3_settles g h (nI t_9) a2) 0 0 := by rw [c_16]; exact ⟨by decide, by decide⟩
                refine lv_iinc (v := nI (t_9 + 1)) (lv' := [(5, .int (nI (t_9 + 1))), (6, .int x_2), (4, .int s_9.2), (3, .int s_9.1), (0, .ref (ad h)), (1, .int a1), (2, .int a2)]) hx hb dX3_cheapestSettling_67 hl (k := 1) rfl (wx_inc _) (by decide) rfl (fun ls hl => ?_)
                refine lv_goto (tgt := 9) hx hb dX3_cheapestSettling_70 (by decide) ?_
                have hF_18 : (b_X3_cheapestSettling_9 g h a1 a2) t_9 s_9 = (s_9.1, s_9.2) := (by subst ex_2; simp only [b_X3_cheapestSettling_9, if_neg c_3, if_neg c_6, if_neg c_12, if_pos c_16])
                exact ih_9 (t_9 + 1) (s_9.1, s_9.2) ls hlt_9 (by omega) (by rw [rep_succ, ← es_9, hF_18]) (lv_sub hl [0, 2, 3, 4, 5, 6] rfl)
              · refine lv_iload hx hb dX3_cheapestSettling_60 (lv_at hl 0 rfl) ?_
                refine lv_istore (lv' := [(4, .int x_2), (6, .int x_2), (5, .int (nI t_9)), (3, .int s_9.1), (0, .ref (ad h)), (1, .int a1), (2, .int a2)]) hx hb dX3_cheapestSettling_62 hl (by decide) rfl (fun ls hl => ?_)
                refine lv_iload hx hb dX3_cheapestSettling_64 (lv_at hl 2 rfl) ?_
                refine lv_istore_n (lv' := [(3, .int (nI t_9)), (4, .int x_2), (6, .int x_2), (5, .int (nI t_9)), (0, .ref (ad h)), (1, .int a1), (2, .int a2)]) hx hb dX3_cheapestSettling_66 rfl hl (by decide) rfl (fun ls hl => ?_)
                refine lv_iinc (v := nI (t_9 + 1)) (lv' := [(5, .int (nI (t_9 + 1))), (3, .int (nI t_9)), (4, .int x_2), (6, .int x_2), (0, .ref (ad h)), (1, .int a1), (2, .int a2)]) hx hb dX3_cheapestSettling_67 hl (k := 3) rfl (wx_inc _) (by decide) rfl (fun ls hl => ?_)
                refine lv_goto (tgt := 9) hx hb dX3_cheapestSettling_70 (by decide) ?_
                have hF_19 : (b_X3_cheapestSettling_9 g h a1 a2) t_9 s_9 = ((nI t_9), x_2) := (by subst ex_2; simp only [b_X3_cheapestSettling_9, if_neg c_3, if_neg c_6, if_neg c_12, if_neg c_16])
                exact ih_9 (t_9 + 1) ((nI t_9), x_2) ls hlt_9 (by omega) (by rw [rep_succ, ← es_9, hF_19]) (lv_sub hl [0, 2, 1, 4, 5, 6] rfl)
  exact lp_9 ((1 <<< ((g h 0) &&& 31)).toNatClampNeg + 1) 0 ((-1000000), 0) ls (Nat.zero_le _) (by omega) rfl (lv_sub hl [0, 1, 2, 3, 4, 5] rfl)
def b_X3_costToSee_23 (g : wx_M) (h : Nat) (a1 : Int32) (a2 : Int32) (a3 : Int32) (t_23 : Nat) (s_23 : Int32) : Int32 :=
  let x_4 := (r_X11_has (r_X3_viewOf g h (nI t_23) a3) (r_X3_roomOf g h a2 a3))
  if x_4 = 0 then
    s_23
  else
    if (r_X3_isLeft g h (nI t_23) a3) = 0 then
      s_23
    else
      let x_11 := (r_X3_priceFor g h a1 (nI t_23) a3)
      if s_23 = (-1000000) then
        x_11
      else
        let x_13 := (if x_11 < s_23 then x_11 else s_23)
        x_13
def r_X3_costToSee (g : wx_M) (h : Nat) (a1 : Int32) (a2 : Int32) (a3 : Int32) : Int32 :=
  if (r_X3_seenBy g h (1 <<< (a1 &&& 31)) a2 a3) = (-1000000) then
    let s_23 := rep (g h 0).toNatClampNeg (b_X3_costToSee_23 g h a1 a2 a3) ((-1000000) : Int32)
    s_23
  else
    0
set_option maxHeartbeats 4000000 in
set_option maxRecDepth 100000 in
theorem k_X3_costToSee (l : Launch) {D : va_G} {cy : Nat → ClassId} {ad : Nat → Nat} {B0 : Nat} {f : wx_F} {P : va_W} (g : wx_M) (h : Nat) (a1 : Int32) (a2 : Int32) (a3 : Int32) (hh : wx_H h) (b1 : wx_b a1 0 3) (b2 : wx_b a2 0 3) (b3 : wx_b a3 0 7) (hg : wx_HB g h) : Met l yX3_costToSee wsX3_costToSee ({ frames := 4, cells := 0, slots := 0, locals := 99 } : Room) (wx_Pc D cy ad B0 f P g [.ref (ad h), .int a1, .int a2, .int a3]) (QcRead (r_X3_costToSee g h a1 a2 a3)) 0 0 (fun _ => False) := by
  refine wx_enterR (cc := cX3_costToSee) (maxL := 8) (ty := .int) (own := RX3) (lv := [(0, .ref (ad h)), (1, .int a1), (2, .int a2), (3, .int a3)]) (by decide) rfl rfl (Nat.le_of_ble_eq_true rfl) rfl ?_
  intro p e R s m args below meth c ls Qm hx hb hml hown hts hK hX hR hret hl
  have hi_X3 : ∀ w ∈ wsX30, w ∈ wsX3_costToSee := by decide +kernel
  refine lv_aload_n hx hb dX3_costToSee_0 rfl (lv_at hl 0 rfl) ?_
  refine lv_iconst (v := 1) hx hb dX3_costToSee_1 (by decide) ?_
  refine lv_iload_n hx hb dX3_costToSee_2 rfl (lv_at hl 1 rfl) ?_
  refine lv_ishl hx hb dX3_costToSee_3 ?_
  refine lv_iload_n hx hb dX3_costToSee_4 rfl (lv_at hl 2 rfl) ?_
  refine lv_iload_n hx hb dX3_costToSee_5 rfl (lv_at hl 3 rfl) ?_
  refine wx_callr (va_runV (As := [.int (1 <<< (a1 &&& 31)), .int a2, .int a3]) (rest := []) ⟨hx, hb, hml, hown, hts⟩ (k_X3_seenBy l g h (1 <<< (a1 &&& 31)) a2 a3 hh b2 b3 hg) (cwV 3 hts gX3_costToSee_X3_seenBy rfl rfl rfl (by decide +kernel) (by rw [hR]; exact ⟨Nat.le_of_ble_eq_true rfl, Nat.le_of_ble_eq_true rfl⟩)) ⟨wx_Pc.blind, wx_recv hK hX hh.l0 (sh_X3 hh) rfl, (wx_Pc.pre hK hX).2⟩ rfl rfl hl.1 rfl (lv_room (Nat.le_of_ble_eq_true rfl)) dX3_costToSee_6 ⟨Nat.zero_le _, Nat.zero_le _⟩) ?_
  refine lv_ldc hx hb hown (hts (.constant RX3 111 (-1000000)) (by decide +kernel)) dX3_costToSee_9 ?_
  refine lv_icmp_eq (tgt := 16) hx hb dX3_costToSee_11 (by decide) (fun c_1 => ?_) (fun c_1 => ?_)
  · have b_2 : wx_b (r_X3_seenBy g h (1 <<< (a1 &&& 31)) a2 a3) (-1000000) (-1000000) := by rw [c_1]; exact ⟨by decide, by decide⟩
    refine lv_ldc hx hb hown (hts (.constant RX3 111 (-1000000)) (by decide +kernel)) dX3_costToSee_16 ?_
    refine lv_istore (lv' := [(4, .int (-1000000)), (0, .ref (ad h)), (1, .int a1), (2, .int a2), (3, .int a3)]) hx hb dX3_costToSee_18 hl (by decide) rfl (fun ls hl => ?_)
    refine lv_iconst (v := 0) hx hb dX3_costToSee_20 (by decide) ?_
    refine lv_istore (lv' := [(5, .int 0), (4, .int (-1000000)), (0, .ref (ad h)), (1, .int a1), (2, .int a2), (3, .int a3)]) hx hb dX3_costToSee_21 hl (by decide) rfl (fun ls hl => ?_)
    have lp_23 : ∀ (n t_23 : Nat) (s_23 : Int32) (ls : Array Slot), t_23 ≤ (g h 0).toNatClampNeg → (g h 0).toNatClampNeg + 1 ≤ t_23 + n → s_23 = rep t_23 (b_X3_costToSee_23 g h a1 a2 a3) ((-1000000) : Int32) → lv_has ls 8 [(5, .int (nI t_23)), (4, .int s_23), (0, .ref (ad h)), (1, .int a1), (2, .int a2), (3, .int a3)] → W p l e R s m args below meth c s.heap [] 0 0 Qm (F0 m 23 ls []) := by
      intro n
      induction n with
      | zero => intro t_23 s_23 ls h1 h2; exact absurd h2 (by omega)
      | succ n ih_23 =>
        intro t_23 s_23 ls ht_23 hn_23 es_23 hl
        refine lv_iload hx hb dX3_costToSee_23 (lv_at hl 0 rfl) ?_
        refine lv_aload_n hx hb dX3_costToSee_25 rfl (lv_at hl 2 rfl) ?_
        refine wx_geti (C := RX3) (T := TX3) (N := 15) (ci := 3) (j := 0) hx hb hts hi_X3 hown hK hX hh.l0 (sh_X3_0 hh) rfl (by decide) (hts (.fieldLink RX3 54 "SeenAgain$House" "rooms" "I") (by decide +kernel)) (fun _ h9 => h9) dX3_costToSee_26 ?_
        refine lv_icmp_ge (tgt := 102) hx hb dX3_costToSee_29 (by decide) (fun c_3 => ?_) (fun c_3 => ?_)
        · have et_23 : t_23 = (g h 0).toNatClampNeg := Nat.le_antisymm ht_23 (by have h9 := wx_dn (by have := wx_cl31 (g h 0); omega) c_3; omega)
          subst et_23
          refine lv_iload hx hb dX3_costToSee_102 (lv_at hl 1 rfl) ?_
          exact hret _ _ _ dX3_costToSee_104 rfl (by simp only [r_X3_costToSee, if_pos c_1, ← es_23])
        · have hlt_23 : t_23 < (g h 0).toNatClampNeg := by have h9 := wx_up (by have := wx_cl31 (g h 0); omega) c_3; omega
          have bt_23 : wx_b (nI (t_23)) 0 5 := wb_nI (n := 5) (by have := wb_cl (n := 6) hg.1 (by decide); omega) (by decide)
          refine lv_aload_n hx hb dX3_costToSee_32 rfl (lv_at hl 2 rfl) ?_
          refine lv_iload hx hb dX3_costToSee_33 (lv_at hl 0 rfl) ?_
          refine lv_iload_n hx hb dX3_costToSee_35 rfl (lv_at hl 5 rfl) ?_
          refine wx_callr (va_runV (As := [.int (nI t_23), .int a3]) (rest := []) ⟨hx, hb, hml, hown, hts⟩ (k_X3_viewOf l g h (nI t_23) a3 hh bt_23 b3) (cwV 2 hts gX3_costToSee_X3_viewOf rfl rfl rfl (by decide +kernel) (by rw [hR]; exact ⟨Nat.le_of_ble_eq_true rfl, Nat.le_of_ble_eq_true rfl⟩)) ⟨wx_Pc.blind, wx_recv hK hX hh.l0 (sh_X3 hh) rfl, (wx_Pc.pre hK hX).2⟩ rfl rfl hl.1 rfl (lv_room (Nat.le_of_ble_eq_true rfl)) dX3_costToSee_36 ⟨Nat.zero_le _, Nat.zero_le _⟩) ?_
          refine lv_aload_n hx hb dX3_costToSee_39 rfl (lv_at hl 2 rfl) ?_
          refine lv_iload_n hx hb dX3_costToSee_40 rfl (lv_at hl 4 rfl) ?_
          refine lv_iload_n hx hb dX3_costToSee_41 rfl (lv_at hl 5 rfl) ?_
          refine wx_callr (va_runV (As := [.int a2, .int a3]) (rest := [.int (r_X3_viewOf g h (nI t_23) a3)]) ⟨hx, hb, hml, hown, hts⟩ (k_X3_roomOf l g h a2 a3 hh b2 b3) (cwV 2 hts gX3_costToSee_X3_roomOf rfl rfl rfl (by decide +kernel) (by rw [hR]; exact ⟨Nat.le_of_ble_eq_true rfl, Nat.le_of_ble_eq_true rfl⟩)) ⟨wx_Pc.blind, wx_recv hK hX hh.l0 (sh_X3 hh) rfl, (wx_Pc.pre hK hX).2⟩ rfl rfl hl.1 rfl (lv_room (Nat.le_of_ble_eq_true rfl)) dX3_costToSee_42 ⟨Nat.zero_le _, Nat.zero_le _⟩) ?_
          refine wx_callr (va_runSN (As := [.int (r_X3_viewOf g h (nI t_23) a3), .int (r_X3_roomOf g h a2 a3)]) (rest := []) ⟨hx, hb, hml, hown, hts⟩ (k_X11_has l g (r_X3_viewOf g h (nI t_23) a3) (r_X3_roomOf g h a2 a3)) ⟨va_cnB 2 hts gX3_costToSee_X11_has_n78 rfl rfl rfl hK.2.1.1 (hts (.initialized RX11) (by decide +kernel)) (by decide +kernel) (by rw [hR]; exact ⟨Nat.le_of_ble_eq_true rfl, Nat.le_of_ble_eq_true rfl⟩), hts (.static yX11_has) (by decide +kernel), trivial⟩ (wx_Pc.pre hK hX) rfl rfl hl.1 rfl (lv_room (Nat.le_of_ble_eq_true rfl)) dX3_costToSee_45 ⟨Nat.zero_le _, Nat.zero_le _⟩) ?_
          refine lv_topi (fun x_4 ex_4 => ?_)
          refine lv_istore (lv' := [(6, .int x_4), (5, .int (nI t_23)), (4, .int s_23), (0, .ref (ad h)), (1, .int a1), (2, .int a2), (3, .int a3)]) hx hb dX3_costToSee_48 hl (by decide) rfl (fun ls hl => ?_)
          refine lv_iload hx hb dX3_costToSee_50 (lv_at hl 0 rfl) ?_
          refine lv_if_eq (tgt := 96) hx hb dX3_costToSee_52 (by decide) (fun c_5 => ?_) (fun c_5 => ?_)
          · have b_6 : wx_b x_4 0 0 := by rw [c_5]; exact ⟨by decide, by decide⟩
            refine lv_iinc (v := nI (t_23 + 1)) (lv' := [(5, .int (nI (t_23 + 1))), (6, .int x_4), (4, .int s_23), (0, .ref (ad h)), (1, .int a1), (2, .int a2), (3, .int a3)]) hx hb dX3_costToSee_96 hl (k := 1) rfl (wx_inc _) (by decide) rfl (fun ls hl => ?_)
            refine lv_goto (tgt := 23) hx hb dX3_costToSee_99 (by decide) ?_
            have hF_7 : (b_X3_costToSee_23 g h a1 a2 a3) t_23 s_23 = s_23 := (by subst ex_4; simp only [b_X3_costToSee_23, if_pos c_5])
            exact ih_23 (t_23 + 1) s_23 ls hlt_23 (by omega) (by rw [rep_succ, ← es_23, hF_7]) (lv_sub hl [0, 2, 3, 4, 5, 6] rfl)
          · refine lv_aload_n hx hb dX3_costToSee_55 rfl (lv_at hl 3 rfl) ?_
            refine lv_iload hx hb dX3_costToSee_56 (lv_at hl 1 rfl) ?_
            refine lv_iload_n hx hb dX3_costToSee_58 rfl (lv_at hl 6 rfl) ?_
            refine wx_callr (va_runV (As := [.int (nI t_23), .int a3]) (rest := []) ⟨hx, hb, hml, hown, hts⟩ (k_X3_isLeft l g h (nI t_23) a3 hh bt_23 b3) (cwV 2 hts gX3_costToSee_X3_isLeft rfl rfl rfl (by decide +kernel) (by rw [hR]; exact ⟨Nat.le_of_ble_eq_true rfl, Nat.le_of_ble_eq_true rfl⟩)) ⟨wx_Pc.blind, wx_recv hK hX hh.l0 (sh_X3 hh) rfl, (wx_Pc.pre hK hX).2⟩ rfl rfl hl.1 rfl (lv_room (Nat.le_of_ble_eq_true rfl)) dX3_costToSee_59 ⟨Nat.zero_le _, Nat.zero_le _⟩) ?_
            refine lv_if_eq (tgt := 96) hx hb dX3_costToSee_62 (by decide) (fun c_8 => ?_) (fun c_8 => ?_)
            · have b_9 : wx_b (r_X3_isLeft g h (nI t_23) a3) 0 0 := by rw [c_8]; exact ⟨by decide, by decide⟩
              refine lv_iinc (v := nI (t_23 + 1)) (lv' := [(5, .int (nI (t_23 + 1))), (6, .int x_4), (4, .int s_23), (0, .ref (ad h)), (1, .int a1), (2, .int a2), (3, .int a3)]) hx hb dX3_costToSee_96 hl (k := 1) rfl (wx_inc _) (by decide) rfl (fun ls hl => ?_)
              refine lv_goto (tgt := 23) hx hb dX3_costToSee_99 (by decide) ?_
              have hF_10 : (b_X3_costToSee_23 g h a1 a2 a3) t_23 s_23 = s_23 := (by subst ex_4; simp only [b_X3_costToSee_23, if_neg c_5, if_pos c_8])
              exact ih_23 (t_23 + 1) s_23 ls hlt_23 (by omega) (by rw [rep_succ, ← es_23, hF_10]) (lv_sub hl [0, 2, 3, 4, 5, 6] rfl)
            · refine lv_aload_n hx hb dX3_costToSee_65 rfl (lv_at hl 3 rfl) ?_
              refine lv_iload_n hx hb dX3_costToSee_66 rfl (lv_at hl 4 rfl) ?_
              refine lv_iload hx hb dX3_costToSee_67 (lv_at hl 1 rfl) ?_
              refine lv_iload_n hx hb dX3_costToSee_69 rfl (lv_at hl 6 rfl) ?_
              refine wx_callr (va_runV (As := [.int a1, .int (nI t_23), .int a3]) (rest := []) ⟨hx, hb, hml, hown, hts⟩ (k_X3_priceFor l g h a1 (nI t_23) a3 hh b1 bt_23 b3 hg) (cwV 3 hts gX3_costToSee_X3_priceFor rfl rfl rfl (by decide +kernel) (by rw [hR]; exact ⟨Nat.le_of_ble_eq_true rfl, Nat.le_of_ble_eq_true rfl⟩)) ⟨wx_Pc.blind, wx_recv hK hX hh.l0 (sh_X3 hh) rfl, (wx_Pc.pre hK hX).2⟩ rfl rfl hl.1 rfl (lv_room (Nat.le_of_ble_eq_true rfl)) dX3_costToSee_70 ⟨Nat.zero_le _, Nat.zero_le _⟩) ?_
              refine lv_topi (fun x_11 ex_11 => ?_)
              refine lv_istore (lv' := [(7, .int x_11), (6, .int x_4), (5, .int (nI t_23)), (4, .int s_23), (0, .ref (ad h)), (1, .int a1), (2, .int a2), (3, .int a3)]) hx hb dX3_costToSee_73 hl (by decide) rfl (fun ls hl => ?_)
              refine lv_iload hx hb dX3_costToSee_75 (lv_at hl 3 rfl) ?_
              refine lv_ldc hx hb hown (hts (.constant RX3 111 (-1000000)) (by decide +kernel)) dX3_costToSee_77 ?_
              refine lv_icmp_ne (tgt := 87) hx hb dX3_costToSee_79 (by decide) (fun c_12 => ?_) (fun c_12 => ?_)
              · refine lv_iload hx hb dX3_costToSee_87 (lv_at hl 3 rfl) ?_
                refine lv_iload hx hb dX3_costToSee_89 (lv_at hl 0 rfl) ?_
                refine va_mmin hx hb (hml.trans hl.1.symm) hown (hts (.methodLink RX3 160 Lib.Math.min.name) (by decide +kernel)) (hts (.static Lib.Math.min.name) (by decide +kernel)) (hts (.initialized "java/lang/Math") (by decide +kernel)) (hts (.code Lib.Math.min.name Lib.Math.min.code 2 (some .int)) (by decide +kernel)) (by rw [hR]; exact Nat.le_of_ble_eq_true rfl) (by rw [hR]; exact Nat.le_of_ble_eq_true rfl) (Nat.zero_le _) (Nat.zero_le _) dX3_costToSee_91 ?_
                refine lv_topi (fun x_13 ex_13 => ?_)
                refine lv_istore (lv' := [(4, .int x_13), (7, .int x_11), (6, .int x_4), (5, .int (nI t_23)), (0, .ref (ad h)), (1, .int a1), (2, .int a2), (3, .int a3)]) hx hb dX3_costToSee_94 hl (by decide) rfl (fun ls hl => ?_)
                refine lv_iinc (v := nI (t_23 + 1)) (lv' := [(5, .int (nI (t_23 + 1))), (4, .int x_13), (7, .int x_11), (6, .int x_4), (0, .ref (ad h)), (1, .int a1), (2, .int a2), (3, .int a3)]) hx hb dX3_costToSee_96 hl (k := 3) rfl (wx_inc _) (by decide) rfl (fun ls hl => ?_)
                refine lv_goto (tgt := 23) hx hb dX3_costToSee_99 (by decide) ?_
                have hF_14 : (b_X3_costToSee_23 g h a1 a2 a3) t_23 s_23 = x_13 := (by subst ex_13 ex_11 ex_4; simp only [b_X3_costToSee_23, if_neg c_5, if_neg c_8, if_neg c_12])
                exact ih_23 (t_23 + 1) x_13 ls hlt_23 (by omega) (by rw [rep_succ, ← es_23, hF_14]) (lv_sub hl [0, 1, 4, 5, 6, 7] rfl)
              · have b_15 : wx_b s_23 (-1000000) (-1000000) := by rw [c_12]; exact ⟨by decide, by decide⟩
                refine lv_iload hx hb dX3_costToSee_82 (lv_at hl 0 rfl) ?_
                refine lv_goto (tgt := 94) hx hb dX3_costToSee_84 (by decide) ?_
                refine lv_istore (lv' := [(4, .int x_11), (7, .int x_11), (6, .int x_4), (5, .int (nI t_23)), (0, .ref (ad h)), (1, .int a1), (2, .int a2), (3, .int a3)]) hx hb dX3_costToSee_94 hl (by decide) rfl (fun ls hl => ?_)
                refine lv_iinc (v := nI (t_23 + 1)) (lv' := [(5, .int (nI (t_23 + 1))), (4, .int x_11), (7, .int x_11), (6, .int x_4), (0, .ref (ad h)), (1, .int a1), (2, .int a2), (3, .int a3)]) hx hb dX3_costToSee_96 hl (k := 3) rfl (wx_inc _) (by decide) rfl (fun ls hl => ?_)
                refine lv_goto (tgt := 23) hx hb dX3_costToSee_99 (by decide) ?_
                have hF_16 : (b_X3_costToSee_23 g h a1 a2 a3) t_23 s_23 = x_11 := (by subst ex_11 ex_4; simp only [b_X3_costToSee_23, if_neg c_5, if_neg c_8, if_pos c_12])
                exact ih_23 (t_23 + 1) x_11 ls hlt_23 (by omega) (by rw [rep_succ, ← es_23, hF_16]) (lv_sub hl [0, 1, 4, 5, 6, 7] rfl)
    exact lp_23 ((g h 0).toNatClampNeg + 1) 0 ((-1000000) : Int32) ls (Nat.zero_le _) (by omega) rfl (lv_sub hl [0, 1, 2, 3, 4, 5] rfl)
  · refine lv_iconst (v := 0) hx hb dX3_costToSee_14 (by decide) ?_
    exact hret _ _ _ dX3_costToSee_15 rfl (by simp only [r_X3_costToSee, if_neg c_1])
def b_X3_followedFrom_11 (g : wx_M) (h : Nat) (a1 : Int32) (a2 : Int32) (a3 : Int32) (x_1 : Int32) (t_11 : Nat) (s_11 : Int32) : (Int32) ⊕ (Int32) :=
  let x_3 := (r_X3_costToSee g h a1 a2 (nI (a3.toNatClampNeg + t_11)))
  if x_3 = (-1000000) then
    .inr (((nI (a3.toNatClampNeg + t_11)) - a3))
  else
    if x_3 ≤ s_11 then
      let x_9 := (s_11 - x_3)
      .inl x_9
    else
      .inr (((nI (a3.toNatClampNeg + t_11)) - a3))
def r_X3_followedFrom (g : wx_M) (h : Nat) (a1 : Int32) (a2 : Int32) (a3 : Int32) : Int32 :=
  let x_1 := (g (h + 5) a1.toNatClampNeg)
  (match repX (8 - a3.toNatClampNeg) (b_X3_followedFrom_11 g h a1 a2 a3 x_1) x_1 with
  | .inl s_11 =>
    (8 - a3)
  | .inr r9 => r9)
set_option maxHeartbeats 4000000 in
set_option maxRecDepth 100000 in
theorem k_X3_followedFrom (l : Launch) {D : va_G} {cy : Nat → ClassId} {ad : Nat → Nat} {B0 : Nat} {f : wx_F} {P : va_W} (g : wx_M) (h : Nat) (a1 : Int32) (a2 : Int32) (a3 : Int32) (hh : wx_H h) (b1 : wx_b a1 0 3) (b2 : wx_b a2 0 3) (b3 : wx_b a3 0 7) (hg : wx_HB g h) : Met l yX3_followedFrom wsX3_followedFrom ({ frames := 5, cells := 0, slots := 0, locals := 126 } : Room) (wx_Pc D cy ad B0 f P g [.ref (ad h), .int a1, .int a2, .int a3]) (QcRead (r_X3_followedFrom g h a1 a2 a3)) 0 0 (fun _ => False) := by
  refine wx_enterR (cc := cX3_followedFrom) (maxL := 7) (ty := .int) (own := RX3) (lv := [(0, .ref (ad h)), (1, .int a1), (2, .int a2), (3, .int a3)]) (by decide) rfl rfl (Nat.le_of_ble_eq_true rfl) rfl ?_
  intro p e R s m args below meth c ls Qm hx hb hml hown hts hK hX hR hret hl
  have hi_X3 : ∀ w ∈ wsX30, w ∈ wsX3_followedFrom := by decide +kernel
  refine lv_aload_n hx hb dX3_followedFrom_0 rfl (lv_at hl 0 rfl) ?_
  refine wx_getr (t := h + 5) (C := RX3) (T := TX3) (N := 15) (ci := 3) (j := 13) hx hb hts hi_X3 hown hK hX hh.l0 (sh_X3_13 hh) rfl (by decide) (hts (.fieldLink RX3 24 "SeenAgain$House" "purses" "[I") (by decide +kernel)) (fun _ h9 => h9) dX3_followedFrom_1 ?_
  refine lv_iload_n hx hb dX3_followedFrom_4 rfl (lv_at hl 1 rfl) ?_
  refine wx_iald hx hb hK hX hh.l5 (sa_X3_5 hh) (wb_in b1 (by decide) (by decide)) dX3_followedFrom_5 ?_
  refine lv_topi (fun x_1 ex_1 => ?_)
  refine lv_istore (lv' := [(4, .int x_1), (0, .ref (ad h)), (1, .int a1), (2, .int a2), (3, .int a3)]) hx hb dX3_followedFrom_6 hl (by decide) rfl (fun ls hl => ?_)
  refine lv_iload_n hx hb dX3_followedFrom_8 rfl (lv_at hl 4 rfl) ?_
  refine lv_istore (lv' := [(5, .int a3), (4, .int x_1), (0, .ref (ad h)), (1, .int a1), (2, .int a2), (3, .int a3)]) hx hb dX3_followedFrom_9 hl (by decide) rfl (fun ls hl => ?_)
  have hst_11 : nI a3.toNatClampNeg = a3 := wx_nIcl b3 (by decide)
  have hsb_11 : a3.toNatClampNeg ≤ 7 := wb_cl b3 (by decide)
  have lp_11 : ∀ (n t_11 : Nat) (s_11 : Int32) (ls : Array Slot), t_11 ≤ (8 - a3.toNatClampNeg) → (8 - a3.toNatClampNeg) + 1 ≤ t_11 + n → repX t_11 (b_X3_followedFrom_11 g h a1 a2 a3 x_1) x_1 = .inl s_11 → lv_has ls 7 [(5, .int (nI (a3.toNatClampNeg + t_11))), (4, .int s_11), (0, .ref (ad h)), (1, .int a1), (2, .int a2), (3, .int a3)] → W p l e R s m args below meth c s.heap [] 0 0 Qm (F0 m 11 ls []) := by
    intro n
    induction n with
    | zero => intro t_11 s_11 ls h1 h2; exact absurd h2 (by omega)
    | succ n ih_11 =>
      intro t_11 s_11 ls ht_11 hn_11 es_11 hl
      refine lv_iload hx hb dX3_followedFrom_11 (lv_at hl 0 rfl) ?_
      refine lv_bipush (v := 8) hx hb dX3_followedFrom_13 (by decide) ?_
      refine lv_icmp_ge (tgt := 60) hx hb dX3_followedFrom_15 (by decide) (fun c_2 => ?_) (fun c_2 => ?_)
      · have et_11 : t_11 = (8 - a3.toNatClampNeg) := Nat.le_antisymm ht_11 (by have h9 := wx_dn (by omega) c_2; have h8 : (8 : Int32).toNatClampNeg = 8 := (by decide); omega)
        subst et_11
        refine lv_bipush (v := 8) hx hb dX3_followedFrom_60 (by decide) ?_
        refine lv_iload_n hx hb dX3_followedFrom_62 rfl (lv_at hl 5 rfl) ?_
        refine lv_isub hx hb dX3_followedFrom_63 ?_
        exact hret _ _ _ dX3_followedFrom_64 rfl (by subst ex_1; simp only [r_X3_followedFrom, es_11])
      · have hlt_11 : t_11 < (8 - a3.toNatClampNeg) := by have h9 := wx_up (by omega) c_2; have h8 : (8 : Int32).toNatClampNeg = 8 := (by decide); omega
        have bt_11 : wx_b (nI (a3.toNatClampNeg + t_11)) 0 7 := wb_nI (n := 7) (by omega) (by decide)
        refine lv_aload_n hx hb dX3_followedFrom_18 rfl (lv_at hl 2 rfl) ?_
        refine lv_iload_n hx hb dX3_followedFrom_19 rfl (lv_at hl 3 rfl) ?_
        refine lv_iload_n hx hb dX3_followedFrom_20 rfl (lv_at hl 4 rfl) ?_
        refine lv_iload hx hb dX3_followedFrom_21 (lv_at hl 0 rfl) ?_
        refine wx_callr (va_runV (As := [.int a1, .int a2, .int (nI (a3.toNatClampNeg + t_11))]) (rest := []) ⟨hx, hb, hml, hown, hts⟩ (k_X3_costToSee l g h a1 a2 (nI (a3.toNatClampNeg + t_11)) hh b1 b2 bt_11 hg) (cwV 3 hts gX3_followedFrom_X3_costToSee rfl rfl rfl (by decide +kernel) (by rw [hR]; exact ⟨Nat.le_of_ble_eq_true rfl, Nat.le_of_ble_eq_true rfl⟩)) ⟨wx_Pc.blind, wx_recv hK hX hh.l0 (sh_X3 hh) rfl, (wx_Pc.pre hK hX).2⟩ rfl rfl hl.1 rfl (lv_room (Nat.le_of_ble_eq_true rfl)) dX3_followedFrom_23 ⟨Nat.zero_le _, Nat.zero_le _⟩) ?_
        refine lv_topi (fun x_3 ex_3 => ?_)
        refine lv_istore (lv' := [(6, .int x_3), (5, .int (nI (a3.toNatClampNeg + t_11))), (4, .int s_11), (0, .ref (ad h)), (1, .int a1), (2, .int a2), (3, .int a3)]) hx hb dX3_followedFrom_26 hl (by decide) rfl (fun ls hl => ?_)
        refine lv_iload hx hb dX3_followedFrom_28 (lv_at hl 0 rfl) ?_
        refine lv_ldc hx hb hown (hts (.constant RX3 111 (-1000000)) (by decide +kernel)) dX3_followedFrom_30 ?_
        refine lv_icmp_eq (tgt := 42) hx hb dX3_followedFrom_32 (by decide) (fun c_4 => ?_) (fun c_4 => ?_)
        · have b_5 : wx_b x_3 (-1000000) (-1000000) := by rw [c_4]; exact ⟨by decide, by decide⟩
          refine lv_iload hx hb dX3_followedFrom_42 (lv_at hl 1 rfl) ?_
          refine lv_iload_n hx hb dX3_followedFrom_44 rfl (lv_at hl 6 rfl) ?_
          refine lv_isub hx hb dX3_followedFrom_45 ?_
          have hF_6 : (b_X3_followedFrom_11 g h a1 a2 a3 x_1) t_11 s_11 = .inr (((nI (a3.toNatClampNeg + t_11)) - a3)) := (by subst ex_3; simp only [b_X3_followedFrom_11, if_pos c_4])
          have hO_7 : repX (8 - a3.toNatClampNeg) (b_X3_followedFrom_11 g h a1 a2 a3 x_1) x_1 = .inr (((nI (a3.toNatClampNeg + t_11)) - a3)) := repX_out es_11 hF_6 hlt_11
          exact hret _ _ _ dX3_followedFrom_46 rfl (by subst ex_1; simp only [r_X3_followedFrom, hO_7])
        · refine lv_iload hx hb dX3_followedFrom_35 (lv_at hl 0 rfl) ?_
          refine lv_iload hx hb dX3_followedFrom_37 (lv_at hl 2 rfl) ?_
          refine lv_icmp_le (tgt := 47) hx hb dX3_followedFrom_39 (by decide) (fun c_8 => ?_) (fun c_8 => ?_)
          · refine lv_iload hx hb dX3_followedFrom_47 (lv_at hl 2 rfl) ?_
            refine lv_iload hx hb dX3_followedFrom_49 (lv_at hl 0 rfl) ?_
            refine lv_isub hx hb dX3_followedFrom_51 ?_
            refine lv_topi (fun x_9 ex_9 => ?_)
            refine lv_istore (lv' := [(4, .int x_9), (6, .int x_3), (5, .int (nI (a3.toNatClampNeg + t_11))), (0, .ref (ad h)), (1, .int a1), (2, .int a2), (3, .int a3)]) hx hb dX3_followedFrom_52 hl (by decide) rfl (fun ls hl => ?_)
            refine lv_iinc (v := nI ((a3.toNatClampNeg + t_11) + 1)) (lv' := [(5, .int (nI ((a3.toNatClampNeg + t_11) + 1))), (4, .int x_9), (6, .int x_3), (0, .ref (ad h)), (1, .int a1), (2, .int a2), (3, .int a3)]) hx hb dX3_followedFrom_54 hl (k := 2) rfl (wx_inc _) (by decide) rfl (fun ls hl => ?_)
            refine lv_goto (tgt := 11) hx hb dX3_followedFrom_57 (by decide) ?_
            have hF_10 : (b_X3_followedFrom_11 g h a1 a2 a3 x_1) t_11 s_11 = .inl x_9 := (by subst ex_9 ex_3; simp only [b_X3_followedFrom_11, if_neg c_4, if_pos c_8])
            exact ih_11 (t_11 + 1) x_9 ls hlt_11 (by omega) ((repX_go es_11).trans hF_10) (lv_sub hl [0, 1, 3, 4, 5, 6] rfl)
          · have b_11 : wx_b s_11 (-2147483648) 2147483646 := wb_lt (wb_nle c_8) (wb_any _) (wb_any _) (by decide) (by decide)
            have b_12 : wx_b x_3 (-2147483647) 2147483647 := wb_gt (wb_nle c_8) (wb_any _) (wb_any _) (by decide) (by decide)
            refine lv_iload hx hb dX3_followedFrom_42 (lv_at hl 1 rfl) ?_
            refine lv_iload_n hx hb dX3_followedFrom_44 rfl (lv_at hl 6 rfl) ?_
            refine lv_isub hx hb dX3_followedFrom_45 ?_
            have hF_13 : (b_X3_followedFrom_11 g h a1 a2 a3 x_1) t_11 s_11 = .inr (((nI (a3.toNatClampNeg + t_11)) - a3)) := (by subst ex_3; simp only [b_X3_followedFrom_11, if_neg c_4, if_neg c_8])
            have hO_14 : repX (8 - a3.toNatClampNeg) (b_X3_followedFrom_11 g h a1 a2 a3 x_1) x_1 = .inr (((nI (a3.toNatClampNeg + t_11)) - a3)) := repX_out es_11 hF_13 hlt_11
            exact hret _ _ _ dX3_followedFrom_46 rfl (by subst ex_1; simp only [r_X3_followedFrom, hO_14])
  have hl : lv_has ls 7 [(5, .int (nI (a3.toNatClampNeg + 0))), (4, .int x_1), (0, .ref (ad h)), (1, .int a1), (2, .int a2), (3, .int a3)] := by rw [Nat.add_zero, hst_11]; exact lv_sub hl [0, 1, 2, 3, 4, 5] rfl
  exact lp_11 ((8 - a3.toNatClampNeg) + 1) 0 x_1 ls (Nat.zero_le _) (by omega) rfl hl

theorem wb_neh {x y : Int32} {a b : Int} (h : ¬ x = y) (hx : wx_b x a b) (hy : y.toInt = b) : wx_b x a (b - 1) := by
  have : x.toInt ≠ b := fun e => h (Int32.toInt_inj.mp (e.trans hy.symm))
  unfold wx_b at *
  omega
theorem wb_nel {x y : Int32} {a b : Int} (h : ¬ x = y) (hx : wx_b x a b) (hy : y.toInt = a) : wx_b x (a + 1) b := by
  have : x.toInt ≠ a := fun e => h (Int32.toInt_inj.mp (e.trans hy.symm))
  unfold wx_b at *
  omega
