def b_X3_suspectsBy_16 (g : wx_M) (h : Nat) (a1 : Int32) (a2 : Int32) (a3 : Int32) (t_6 : Nat) (s_6 : Int32) (t_16 : Nat) (s_16 : Int32) : Int32 :=
  if (r_X11_has a3 (nI t_6)) = 0 then
    s_16
  else
    if (r_X3_canBeIn g h a1 (nI t_16) a2 (nI t_6)) = 0 then
      s_16
    else
      let x_10 := (s_16 ||| (1 <<< ((nI t_16) &&& 31)))
      x_10
def b_X3_suspectsBy_6 (g : wx_M) (h : Nat) (a1 : Int32) (a2 : Int32) (a3 : Int32) (t_6 : Nat) (s_6 : Int32) : Int32 :=
  let s_16 := rep (g h 4).toNatClampNeg (b_X3_suspectsBy_16 g h a1 a2 a3 t_6 s_6) s_6
  s_16
def r_X3_suspectsBy (g : wx_M) (h : Nat) (a1 : Int32) (a2 : Int32) (a3 : Int32) : Int32 :=
  let s_6 := rep 8 (b_X3_suspectsBy_6 g h a1 a2 a3) (0 : Int32)
  s_6
set_option maxHeartbeats 4000000 in
set_option maxRecDepth 100000 in
theorem k_X3_suspectsBy (l : Launch) {D : va_G} {cy : Nat → ClassId} {ad : Nat → Nat} {B0 : Nat} {f : wx_F} {P : va_W} (g : wx_M) (h : Nat) (a1 : Int32) (a2 : Int32) (a3 : Int32) (hh : wx_H h) (hg : wx_HB g h) : Met l yX3_suspectsBy wsX3_suspectsBy ({ frames := 4, cells := 0, slots := 0, locals := 93 } : Room) (wx_Pc D cy ad B0 f P g [.ref (ad h), .int a1, .int a2, .int a3]) (QcRead (r_X3_suspectsBy g h a1 a2 a3)) 0 0 (fun _ => False) := by
  refine wx_enterR (cc := cX3_suspectsBy) (maxL := 7) (ty := .int) (own := RX3) (lv := [(0, .ref (ad h)), (1, .int a1), (2, .int a2), (3, .int a3)]) (by decide) rfl rfl (Nat.le_of_ble_eq_true rfl) rfl ?_
  intro p e R s m args below meth c ls Qm hx hb hml hown hts hK hX hR hret hl
  have hi_X3 : ∀ w ∈ wsX30, w ∈ wsX3_suspectsBy := by decide +kernel
  refine lv_iconst (v := 0) hx hb dX3_suspectsBy_0 (by decide) ?_
  refine lv_istore (lv' := [(4, .int 0), (0, .ref (ad h)), (1, .int a1), (2, .int a2), (3, .int a3)]) hx hb dX3_suspectsBy_1 hl (by decide) rfl (fun ls hl => ?_)
  refine lv_iconst (v := 0) hx hb dX3_suspectsBy_3 (by decide) ?_
  refine lv_istore (lv' := [(5, .int 0), (4, .int 0), (0, .ref (ad h)), (1, .int a1), (2, .int a2), (3, .int a3)]) hx hb dX3_suspectsBy_4 hl (by decide) rfl (fun ls hl => ?_)
  have lp_6 : ∀ (n t_6 : Nat) (s_6 : Int32) (ls : Array Slot), t_6 ≤ 8 → 8 + 1 ≤ t_6 + n → s_6 = rep t_6 (b_X3_suspectsBy_6 g h a1 a2 a3) (0 : Int32) → lv_has ls 7 [(5, .int (nI t_6)), (4, .int s_6), (0, .ref (ad h)), (1, .int a1), (2, .int a2), (3, .int a3)] → W p l e R s m args below meth c s.heap [] 0 0 Qm (F0 m 6 ls []) := by
    intro n
    induction n with
    | zero => intro t_6 s_6 ls h1 h2; exact absurd h2 (by omega)
    | succ n ih_6 =>
      intro t_6 s_6 ls ht_6 hn_6 es_6 hl
      refine lv_iload hx hb dX3_suspectsBy_6 (lv_at hl 0 rfl) ?_
      refine lv_bipush (v := 8) hx hb dX3_suspectsBy_8 (by decide) ?_
      refine lv_icmp_ge (tgt := 68) hx hb dX3_suspectsBy_10 (by decide) (fun c_1 => ?_) (fun c_1 => ?_)
      · have et_6 : t_6 = 8 := Nat.le_antisymm ht_6 (by have h9 := wx_dn (by omega) c_1; have h8 : (8 : Int32).toNatClampNeg = 8 := (by decide); omega)
        subst et_6
        refine lv_iload hx hb dX3_suspectsBy_68 (lv_at hl 1 rfl) ?_
        exact hret _ _ _ dX3_suspectsBy_70 rfl (by simp only [r_X3_suspectsBy, ← es_6])
      · have hlt_6 : t_6 < 8 := by have h9 := wx_up (by omega) c_1; have h8 : (8 : Int32).toNatClampNeg = 8 := (by decide); omega
        have bt_6 : wx_b (nI (t_6)) 0 7 := wb_nI (n := 7) (by omega) (by decide)
        refine lv_iconst (v := 0) hx hb dX3_suspectsBy_13 (by decide) ?_
        refine lv_istore (lv' := [(6, .int 0), (5, .int (nI t_6)), (4, .int s_6), (0, .ref (ad h)), (1, .int a1), (2, .int a2), (3, .int a3)]) hx hb dX3_suspectsBy_14 hl (by decide) rfl (fun ls hl => ?_)
        have lp_16 : ∀ (n t_16 : Nat) (s_16 : Int32) (ls : Array Slot), t_16 ≤ (g h 4).toNatClampNeg → (g h 4).toNatClampNeg + 1 ≤ t_16 + n → s_16 = rep t_16 (b_X3_suspectsBy_16 g h a1 a2 a3 t_6 s_6) s_6 → lv_has ls 7 [(6, .int (nI t_16)), (4, .int s_16), (5, .int (nI t_6)), (0, .ref (ad h)), (1, .int a1), (2, .int a2), (3, .int a3)] → W p l e R s m args below meth c s.heap [] 0 0 Qm (F0 m 16 ls []) := by
          intro n
          induction n with
          | zero => intro t_16 s_16 ls h1 h2; exact absurd h2 (by omega)
          | succ n ih_16 =>
            intro t_16 s_16 ls ht_16 hn_16 es_16 hl
            refine lv_iload hx hb dX3_suspectsBy_16 (lv_at hl 0 rfl) ?_
            refine lv_aload_n hx hb dX3_suspectsBy_18 rfl (lv_at hl 3 rfl) ?_
            refine wx_geti (C := RX3) (T := TX3) (N := 15) (ci := 3) (j := 4) hx hb hts hi_X3 hown hK hX hh.l0 (sh_X3_4 hh) rfl (by decide) (hts (.fieldLink RX3 42 "SeenAgain$House" "people" "I") (by decide +kernel)) (fun _ h9 => h9) dX3_suspectsBy_19 ?_
            refine lv_icmp_ge (tgt := 62) hx hb dX3_suspectsBy_22 (by decide) (fun c_2 => ?_) (fun c_2 => ?_)
            · have et_16 : t_16 = (g h 4).toNatClampNeg := Nat.le_antisymm ht_16 (by have h9 := wx_dn (by have := wx_cl31 (g h 4); omega) c_2; omega)
              subst et_16
              refine lv_iinc (v := nI (t_6 + 1)) (lv' := [(5, .int (nI (t_6 + 1))), (6, .int (nI ((g h 4).toNatClampNeg))), (4, .int s_16), (0, .ref (ad h)), (1, .int a1), (2, .int a2), (3, .int a3)]) hx hb dX3_suspectsBy_62 hl (k := 2) rfl (wx_inc _) (by decide) rfl (fun ls hl => ?_)
              refine lv_goto (tgt := 6) hx hb dX3_suspectsBy_65 (by decide) ?_
              have hF_3 : (b_X3_suspectsBy_6 g h a1 a2 a3) t_6 s_6 = s_16 := (by simp only [b_X3_suspectsBy_6, ← es_16])
              exact ih_6 (t_6 + 1) s_16 ls hlt_6 (by omega) (by rw [rep_succ, ← es_6, hF_3]) (lv_sub hl [0, 2, 3, 4, 5, 6] rfl)
            · have hlt_16 : t_16 < (g h 4).toNatClampNeg := by have h9 := wx_up (by have := wx_cl31 (g h 4); omega) c_2; omega
              have bt_16 : wx_b (nI (t_16)) 0 3 := wb_nI (n := 3) (by have := wb_cl (n := 4) hg.2.1 (by decide); omega) (by decide)
              refine lv_iload_n hx hb dX3_suspectsBy_25 rfl (lv_at hl 6 rfl) ?_
              refine lv_iload hx hb dX3_suspectsBy_26 (lv_at hl 2 rfl) ?_
              refine wx_callr (va_runSN (As := [.int a3, .int (nI t_6)]) (rest := []) ⟨hx, hb, hml, hown, hts⟩ (k_X11_has l g a3 (nI t_6)) ⟨va_cnB 2 hts gX3_suspectsBy_X11_has_n78 rfl rfl rfl hK.2.1.1 (hts (.initialized RX11) (by decide +kernel)) (by decide +kernel) (by rw [hR]; exact ⟨Nat.le_of_ble_eq_true rfl, Nat.le_of_ble_eq_true rfl⟩), hts (.static yX11_has) (by decide +kernel), trivial⟩ (wx_Pc.pre hK hX) rfl rfl hl.1 rfl (lv_room (Nat.le_of_ble_eq_true rfl)) dX3_suspectsBy_28 ⟨Nat.zero_le _, Nat.zero_le _⟩) ?_
              refine lv_if_eq (tgt := 56) hx hb dX3_suspectsBy_31 (by decide) (fun c_4 => ?_) (fun c_4 => ?_)
              · have b_5 : wx_b (r_X11_has a3 (nI t_6)) 0 0 := by rw [c_4]; exact ⟨by decide, by decide⟩
                refine lv_iinc (v := nI (t_16 + 1)) (lv' := [(6, .int (nI (t_16 + 1))), (4, .int s_16), (5, .int (nI t_6)), (0, .ref (ad h)), (1, .int a1), (2, .int a2), (3, .int a3)]) hx hb dX3_suspectsBy_56 hl (k := 0) rfl (wx_inc _) (by decide) rfl (fun ls hl => ?_)
                refine lv_goto (tgt := 16) hx hb dX3_suspectsBy_59 (by decide) ?_
                have hF_6 : (b_X3_suspectsBy_16 g h a1 a2 a3 t_6 s_6) t_16 s_16 = s_16 := (by simp only [b_X3_suspectsBy_16, if_pos c_4])
                exact ih_16 (t_16 + 1) s_16 ls hlt_16 (by omega) (by rw [rep_succ, ← es_16, hF_6]) (lv_sub hl [0, 1, 2, 3, 4, 5, 6] rfl)
              · refine lv_aload_n hx hb dX3_suspectsBy_34 rfl (lv_at hl 3 rfl) ?_
                refine lv_iload_n hx hb dX3_suspectsBy_35 rfl (lv_at hl 4 rfl) ?_
                refine lv_iload hx hb dX3_suspectsBy_36 (lv_at hl 0 rfl) ?_
                refine lv_iload_n hx hb dX3_suspectsBy_38 rfl (lv_at hl 5 rfl) ?_
                refine lv_iload hx hb dX3_suspectsBy_39 (lv_at hl 2 rfl) ?_
                refine wx_callr (va_runV (As := [.int a1, .int (nI t_16), .int a2, .int (nI t_6)]) (rest := []) ⟨hx, hb, hml, hown, hts⟩ (k_X3_canBeIn l g h a1 (nI t_16) a2 (nI t_6) hh bt_16 bt_6 hg) (cwV 4 hts gX3_suspectsBy_X3_canBeIn rfl rfl rfl (by decide +kernel) (by rw [hR]; exact ⟨Nat.le_of_ble_eq_true rfl, Nat.le_of_ble_eq_true rfl⟩)) ⟨wx_Pc.blind, wx_recv hK hX hh.l0 (sh_X3 hh) rfl, (wx_Pc.pre hK hX).2⟩ rfl rfl hl.1 rfl (lv_room (Nat.le_of_ble_eq_true rfl)) dX3_suspectsBy_41 ⟨Nat.zero_le _, Nat.zero_le _⟩) ?_
                refine lv_if_eq (tgt := 56) hx hb dX3_suspectsBy_44 (by decide) (fun c_7 => ?_) (fun c_7 => ?_)
                · have b_8 : wx_b (r_X3_canBeIn g h a1 (nI t_16) a2 (nI t_6)) 0 0 := by rw [c_7]; exact ⟨by decide, by decide⟩
                  refine lv_iinc (v := nI (t_16 + 1)) (lv' := [(6, .int (nI (t_16 + 1))), (4, .int s_16), (5, .int (nI t_6)), (0, .ref (ad h)), (1, .int a1), (2, .int a2), (3, .int a3)]) hx hb dX3_suspectsBy_56 hl (k := 0) rfl (wx_inc _) (by decide) rfl (fun ls hl => ?_)
                  refine lv_goto (tgt := 16) hx hb dX3_suspectsBy_59 (by decide) ?_
                  have hF_9 : (b_X3_suspectsBy_16 g h a1 a2 a3 t_6 s_6) t_16 s_16 = s_16 := (by simp only [b_X3_suspectsBy_16, if_neg c_4, if_pos c_7])
                  exact ih_16 (t_16 + 1) s_16 ls hlt_16 (by omega) (by rw [rep_succ, ← es_16, hF_9]) (lv_sub hl [0, 1, 2, 3, 4, 5, 6] rfl)
                · refine lv_iload hx hb dX3_suspectsBy_47 (lv_at hl 1 rfl) ?_
                  refine lv_iconst (v := 1) hx hb dX3_suspectsBy_49 (by decide) ?_
                  refine lv_iload hx hb dX3_suspectsBy_50 (lv_at hl 0 rfl) ?_
                  refine lv_ishl hx hb dX3_suspectsBy_52 ?_
                  refine lv_ior hx hb dX3_suspectsBy_53 ?_
                  refine lv_topi (fun x_10 ex_10 => ?_)
                  refine lv_istore (lv' := [(4, .int x_10), (6, .int (nI t_16)), (5, .int (nI t_6)), (0, .ref (ad h)), (1, .int a1), (2, .int a2), (3, .int a3)]) hx hb dX3_suspectsBy_54 hl (by decide) rfl (fun ls hl => ?_)
                  refine lv_iinc (v := nI (t_16 + 1)) (lv' := [(6, .int (nI (t_16 + 1))), (4, .int x_10), (5, .int (nI t_6)), (0, .ref (ad h)), (1, .int a1), (2, .int a2), (3, .int a3)]) hx hb dX3_suspectsBy_56 hl (k := 1) rfl (wx_inc _) (by decide) rfl (fun ls hl => ?_)
                  refine lv_goto (tgt := 16) hx hb dX3_suspectsBy_59 (by decide) ?_
                  have hF_11 : (b_X3_suspectsBy_16 g h a1 a2 a3 t_6 s_6) t_16 s_16 = x_10 := (by subst ex_10; simp only [b_X3_suspectsBy_16, if_neg c_4, if_neg c_7])
                  exact ih_16 (t_16 + 1) x_10 ls hlt_16 (by omega) (by rw [rep_succ, ← es_16, hF_11]) (lv_sub hl [0, 1, 2, 3, 4, 5, 6] rfl)
        exact lp_16 ((g h 4).toNatClampNeg + 1) 0 s_6 ls (Nat.zero_le _) (by omega) rfl (lv_sub hl [0, 2, 1, 3, 4, 5, 6] rfl)
  exact lp_6 (8 + 1) 0 (0 : Int32) ls (Nat.zero_le _) (by omega) rfl (lv_sub hl [0, 1, 2, 3, 4, 5] rfl)
def b_X3_crowdOf_15 (g : wx_M) (h : Nat) (a1 : Int32) (a2 : Int32) (x_1 : Int32) (t_15 : Nat) (s_15 : Int32) : Int32 :=
  if (r_X11_has x_1 (nI t_15)) = 0 then
    s_15
  else
    let x_6 := (s_15 ||| (g (h + 3) (r_X11_seatNumber (nI t_15) a2).toNatClampNeg))
    x_6
def r_X3_crowdOf (g : wx_M) (h : Nat) (a1 : Int32) (a2 : Int32) : Int32 :=
  let x_1 := (r_X3_lookedBy g h (1 <<< (a1 &&& 31)) a2)
  let s_15 := rep (g h 0).toNatClampNeg (b_X3_crowdOf_15 g h a1 a2 x_1) (0 : Int32)
  (s_15 &&& ((1 <<< (a1 &&& 31)) ^^^ (-1)))
set_option maxHeartbeats 4000000 in
set_option maxRecDepth 100000 in
theorem k_X3_crowdOf (l : Launch) {D : va_G} {cy : Nat → ClassId} {ad : Nat → Nat} {B0 : Nat} {f : wx_F} {P : va_W} (g : wx_M) (h : Nat) (a1 : Int32) (a2 : Int32) (hh : wx_H h) (b2 : wx_b a2 0 7) (hg : wx_HB g h) : Met l yX3_crowdOf wsX3_crowdOf ({ frames := 3, cells := 0, slots := 0, locals := 67 } : Room) (wx_Pc D cy ad B0 f P g [.ref (ad h), .int a1, .int a2]) (QcRead (r_X3_crowdOf g h a1 a2)) 0 0 (fun _ => False) := by
  refine wx_enterR (cc := cX3_crowdOf) (maxL := 6) (ty := .int) (own := RX3) (lv := [(0, .ref (ad h)), (1, .int a1), (2, .int a2)]) (by decide) rfl rfl (Nat.le_of_ble_eq_true rfl) rfl ?_
  intro p e R s m args below meth c ls Qm hx hb hml hown hts hK hX hR hret hl
  have hi_X3 : ∀ w ∈ wsX30, w ∈ wsX3_crowdOf := by decide +kernel
  refine lv_aload_n hx hb dX3_crowdOf_0 rfl (lv_at hl 0 rfl) ?_
  refine lv_iconst (v := 1) hx hb dX3_crowdOf_1 (by decide) ?_
  refine lv_iload_n hx hb dX3_crowdOf_2 rfl (lv_at hl 1 rfl) ?_
  refine lv_ishl hx hb dX3_crowdOf_3 ?_
  refine lv_iload_n hx hb dX3_crowdOf_4 rfl (lv_at hl 2 rfl) ?_
  refine wx_callr (va_runV (As := [.int (1 <<< (a1 &&& 31)), .int a2]) (rest := []) ⟨hx, hb, hml, hown, hts⟩ (k_X3_lookedBy l g h (1 <<< (a1 &&& 31)) a2 hh b2 hg) (cwV 2 hts gX3_crowdOf_X3_lookedBy rfl rfl rfl (by decide +kernel) (by rw [hR]; exact ⟨Nat.le_of_ble_eq_true rfl, Nat.le_of_ble_eq_true rfl⟩)) ⟨wx_Pc.blind, wx_recv hK hX hh.l0 (sh_X3 hh) rfl, (wx_Pc.pre hK hX).2⟩ rfl rfl hl.1 rfl (lv_room (Nat.le_of_ble_eq_true rfl)) dX3_crowdOf_5 ⟨Nat.zero_le _, Nat.zero_le _⟩) ?_
  refine lv_topi (fun x_1 ex_1 => ?_)
  refine lv_istore_n (lv' := [(3, .int x_1), (0, .ref (ad h)), (1, .int a1), (2, .int a2)]) hx hb dX3_crowdOf_8 rfl hl (by decide) rfl (fun ls hl => ?_)
  refine lv_iconst (v := 0) hx hb dX3_crowdOf_9 (by decide) ?_
  refine lv_istore (lv' := [(4, .int 0), (3, .int x_1), (0, .ref (ad h)), (1, .int a1), (2, .int a2)]) hx hb dX3_crowdOf_10 hl (by decide) rfl (fun ls hl => ?_)
  refine lv_iconst (v := 0) hx hb dX3_crowdOf_12 (by decide) ?_
  refine lv_istore (lv' := [(5, .int 0), (4, .int 0), (3, .int x_1), (0, .ref (ad h)), (1, .int a1), (2, .int a2)]) hx hb dX3_crowdOf_13 hl (by decide) rfl (fun ls hl => ?_)
  have lp_15 : ∀ (n t_15 : Nat) (s_15 : Int32) (ls : Array Slot), t_15 ≤ (g h 0).toNatClampNeg → (g h 0).toNatClampNeg + 1 ≤ t_15 + n → s_15 = rep t_15 (b_X3_crowdOf_15 g h a1 a2 x_1) (0 : Int32) → lv_has ls 6 [(5, .int (nI t_15)), (4, .int s_15), (3, .int x_1), (0, .ref (ad h)), (1, .int a1), (2, .int a2)] → W p l e R s m args below meth c s.heap [] 0 0 Qm (F0 m 15 ls []) := by
    intro n
    induction n with
    | zero => intro t_15 s_15 ls h1 h2; exact absurd h2 (by omega)
    | succ n ih_15 =>
      intro t_15 s_15 ls ht_15 hn_15 es_15 hl
      refine lv_iload hx hb dX3_crowdOf_15 (lv_at hl 0 rfl) ?_
      refine lv_aload_n hx hb dX3_crowdOf_17 rfl (lv_at hl 3 rfl) ?_
      refine wx_geti (C := RX3) (T := TX3) (N := 15) (ci := 3) (j := 0) hx hb hts hi_X3 hown hK hX hh.l0 (sh_X3_0 hh) rfl (by decide) (hts (.fieldLink RX3 54 "SeenAgain$House" "rooms" "I") (by decide +kernel)) (fun _ h9 => h9) dX3_crowdOf_18 ?_
      refine lv_icmp_ge (tgt := 55) hx hb dX3_crowdOf_21 (by decide) (fun c_2 => ?_) (fun c_2 => ?_)
      · have et_15 : t_15 = (g h 0).toNatClampNeg := Nat.le_antisymm ht_15 (by have h9 := wx_dn (by have := wx_cl31 (g h 0); omega) c_2; omega)
        subst et_15
        refine lv_iload hx hb dX3_crowdOf_55 (lv_at hl 1 rfl) ?_
        refine lv_iconst (v := 1) hx hb dX3_crowdOf_57 (by decide) ?_
        refine lv_iload_n hx hb dX3_crowdOf_58 rfl (lv_at hl 4 rfl) ?_
        refine lv_ishl hx hb dX3_crowdOf_59 ?_
        refine lv_iconst (v := (-1)) hx hb dX3_crowdOf_60 (by decide) ?_
        refine lv_ixor hx hb dX3_crowdOf_61 ?_
        refine lv_iand hx hb dX3_crowdOf_62 ?_
        exact hret _ _ _ dX3_crowdOf_63 rfl (by subst ex_1; simp only [r_X3_crowdOf, ← es_15])
      · have hlt_15 : t_15 < (g h 0).toNatClampNeg := by have h9 := wx_up (by have := wx_cl31 (g h 0); omega) c_2; omega
        have bt_15 : wx_b (nI (t_15)) 0 5 := wb_nI (n := 5) (by have := wb_cl (n := 6) hg.1 (by decide); omega) (by decide)
        refine lv_iload_n hx hb dX3_crowdOf_24 rfl (lv_at hl 2 rfl) ?_
        refine lv_iload hx hb dX3_crowdOf_25 (lv_at hl 0 rfl) ?_
        refine wx_callr (va_runSN (As := [.int x_1, .int (nI t_15)]) (rest := []) ⟨hx, hb, hml, hown, hts⟩ (k_X11_has l g x_1 (nI t_15)) ⟨va_cnB 2 hts gX3_crowdOf_X11_has_n78 rfl rfl rfl hK.2.1.1 (hts (.initialized RX11) (by decide +kernel)) (by decide +kernel) (by rw [hR]; exact ⟨Nat.le_of_ble_eq_true rfl, Nat.le_of_ble_eq_true rfl⟩), hts (.static yX11_has) (by decide +kernel), trivial⟩ (wx_Pc.pre hK hX) rfl rfl hl.1 rfl (lv_room (Nat.le_of_ble_eq_true rfl)) dX3_crowdOf_27 ⟨Nat.zero_le _, Nat.zero_le _⟩) ?_
        refine lv_if_eq (tgt := 49) hx hb dX3_crowdOf_30 (by decide) (fun c_3 => ?_) (fun c_3 => ?_)
        · have b_4 : wx_b (r_X11_has x_1 (nI t_15)) 0 0 := by rw [c_3]; exact ⟨by decide, by decide⟩
          refine lv_iinc (v := nI (t_15 + 1)) (lv' := [(5, .int (nI (t_15 + 1))), (4, .int s_15), (3, .int x_1), (0, .ref (ad h)), (1, .int a1), (2, .int a2)]) hx hb dX3_crowdOf_49 hl (k := 0) rfl (wx_inc _) (by decide) rfl (fun ls hl => ?_)
          refine lv_goto (tgt := 15) hx hb dX3_crowdOf_52 (by decide) ?_
          have hF_5 : (b_X3_crowdOf_15 g h a1 a2 x_1) t_15 s_15 = s_15 := (by simp only [b_X3_crowdOf_15, if_pos c_3])
          exact ih_15 (t_15 + 1) s_15 ls hlt_15 (by omega) (by rw [rep_succ, ← es_15, hF_5]) (lv_sub hl [0, 1, 2, 3, 4, 5] rfl)
        · refine lv_iload hx hb dX3_crowdOf_33 (lv_at hl 1 rfl) ?_
          refine lv_aload_n hx hb dX3_crowdOf_35 rfl (lv_at hl 3 rfl) ?_
          refine wx_getr (t := h + 3) (C := RX3) (T := TX3) (N := 15) (ci := 3) (j := 11) hx hb hts hi_X3 hown hK hX hh.l0 (sh_X3_11 hh) rfl (by decide) (hts (.fieldLink RX3 18 "SeenAgain$House" "holders" "[I") (by decide +kernel)) (fun _ h9 => h9) dX3_crowdOf_36 ?_
          refine lv_iload hx hb dX3_crowdOf_39 (lv_at hl 0 rfl) ?_
          refine lv_iload_n hx hb dX3_crowdOf_41 rfl (lv_at hl 5 rfl) ?_
          refine wx_callr (va_runSN (As := [.int (nI t_15), .int a2]) (rest := [.ref (ad (h + 3)), .int s_15]) ⟨hx, hb, hml, hown, hts⟩ (k_X11_seatNumber l g (nI t_15) a2) ⟨va_cnB 2 hts gX3_crowdOf_X11_seatNumber_n82 rfl rfl rfl hK.2.1.2 (hts (.initialized RX11) (by decide +kernel)) (by decide +kernel) (by rw [hR]; exact ⟨Nat.le_of_ble_eq_true rfl, Nat.le_of_ble_eq_true rfl⟩), hts (.static yX11_seatNumber) (by decide +kernel), trivial⟩ (wx_Pc.pre hK hX) rfl rfl hl.1 rfl (lv_room (Nat.le_of_ble_eq_true rfl)) dX3_crowdOf_42 ⟨Nat.zero_le _, Nat.zero_le _⟩) ?_
          refine wx_iald hx hb hK hX hh.l3 (sa_X3_3 hh) (wb_in (rg_seat (wb_w bt_15 (by decide) (by decide)) (wb_w b2 (by decide) (by decide))) (by decide) (by decide)) dX3_crowdOf_45 ?_
          refine lv_ior hx hb dX3_crowdOf_46 ?_
          refine lv_topi (fun x_6 ex_6 => ?_)
          refine lv_istore (lv' := [(4, .int x_6), (5, .int (nI t_15)), (3, .int x_1), (0, .ref (ad h)), (1, .int a1), (2, .int a2)]) hx hb dX3_crowdOf_47 hl (by decide) rfl (fun ls hl => ?_)
          refine lv_iinc (v := nI (t_15 + 1)) (lv' := [(5, .int (nI (t_15 + 1))), (4, .int x_6), (3, .int x_1), (0, .ref (ad h)), (1, .int a1), (2, .int a2)]) hx hb dX3_crowdOf_49 hl (k := 1) rfl (wx_inc _) (by decide) rfl (fun ls hl => ?_)
          refine lv_goto (tgt := 15) hx hb dX3_crowdOf_52 (by decide) ?_
          have hF_7 : (b_X3_crowdOf_15 g h a1 a2 x_1) t_15 s_15 = x_6 := (by subst ex_6; simp only [b_X3_crowdOf_15, if_neg c_3])
          exact ih_15 (t_15 + 1) x_6 ls hlt_15 (by omega) (by rw [rep_succ, ← es_15, hF_7]) (lv_sub hl [0, 1, 2, 3, 4, 5] rfl)
  exact lp_15 ((g h 0).toNatClampNeg + 1) 0 (0 : Int32) ls (Nat.zero_le _) (by omega) rfl (lv_sub hl [0, 1, 2, 3, 4, 5] rfl)
def b_X3_settles_5 (g : wx_M) (h : Nat) (a1 : Int32) (a2 : Int32) (t_5 : Nat) (s_5 : Int32) : Int32 :=
  if (r_X11_has a1 (nI t_5)) = 0 then
    s_5
  else
    let x_8 := (s_5 ||| (r_X3_viewOf g h (nI t_5) a2))
    x_8
def r_X3_settles (g : wx_M) (h : Nat) (a1 : Int32) (a2 : Int32) : Int32 :=
  let s_5 := rep (g h 0).toNatClampNeg (b_X3_settles_5 g h a1 a2) (0 : Int32)
  if (r_J6_bitCount_0f7a4 s_5) < ((g h 0) - 1) then
    0
  else
    1
set_option maxHeartbeats 4000000 in
set_option maxRecDepth 100000 in
theorem k_X3_settles (l : Launch) {D : va_G} {cy : Nat → ClassId} {ad : Nat → Nat} {B0 : Nat} {f : wx_F} {P : va_W} (g : wx_M) (h : Nat) (a1 : Int32) (a2 : Int32) (hh : wx_H h) (b2 : wx_b a2 0 7) (hg : wx_HB g h) : Met l yX3_settles wsX3_settles ({ frames := 2, cells := 0, slots := 0, locals := 43 } : Room) (wx_Pc D cy ad B0 f P g [.ref (ad h), .int a1, .int a2]) (QcRead (r_X3_settles g h a1 a2)) 0 0 (fun _ => False) := by
  refine wx_enterR (cc := cX3_settles) (maxL := 5) (ty := .boolean) (own := RX3) (lv := [(0, .ref (ad h)), (1, .int a1), (2, .int a2)]) (by decide) rfl rfl (Nat.le_of_ble_eq_true rfl) rfl ?_
  intro p e R s m args below meth c ls Qm hx hb hml hown hts hK hX hR hret hl
  have hi_X3 : ∀ w ∈ wsX30, w ∈ wsX3_settles := by decide +kernel
  refine lv_iconst (v := 0) hx hb dX3_settles_0 (by decide) ?_
  refine lv_istore_n (lv' := [(3, .int 0), (0, .ref (ad h)), (1, .int a1), (2, .int a2)]) hx hb dX3_settles_1 rfl hl (by decide) rfl (fun ls hl => ?_)
  refine lv_iconst (v := 0) hx hb dX3_settles_2 (by decide) ?_
  refine lv_istore (lv' := [(4, .int 0), (3, .int 0), (0, .ref (ad h)), (1, .int a1), (2, .int a2)]) hx hb dX3_settles_3 hl (by decide) rfl (fun ls hl => ?_)
  have lp_5 : ∀ (n t_5 : Nat) (s_5 : Int32) (ls : Array Slot), t_5 ≤ (g h 0).toNatClampNeg → (g h 0).toNatClampNeg + 1 ≤ t_5 + n → s_5 = rep t_5 (b_X3_settles_5 g h a1 a2) (0 : Int32) → lv_has ls 5 [(4, .int (nI t_5)), (3, .int s_5), (0, .ref (ad h)), (1, .int a1), (2, .int a2)] → W p l e R s m args below meth c s.heap [] 0 0 Qm (F0 m 5 ls []) := by
    intro n
    induction n with
    | zero => intro t_5 s_5 ls h1 h2; exact absurd h2 (by omega)
    | succ n ih_5 =>
      intro t_5 s_5 ls ht_5 hn_5 es_5 hl
      refine lv_iload hx hb dX3_settles_5 (lv_at hl 0 rfl) ?_
      refine lv_aload_n hx hb dX3_settles_7 rfl (lv_at hl 2 rfl) ?_
      refine wx_geti (C := RX3) (T := TX3) (N := 15) (ci := 3) (j := 0) hx hb hts hi_X3 hown hK hX hh.l0 (sh_X3_0 hh) rfl (by decide) (hts (.fieldLink RX3 54 "SeenAgain$House" "rooms" "I") (by decide +kernel)) (fun _ h9 => h9) dX3_settles_8 ?_
      refine lv_icmp_ge (tgt := 39) hx hb dX3_settles_11 (by decide) (fun c_1 => ?_) (fun c_1 => ?_)
      · have et_5 : t_5 = (g h 0).toNatClampNeg := Nat.le_antisymm ht_5 (by have h9 := wx_dn (by have := wx_cl31 (g h 0); omega) c_1; omega)
        subst et_5
        refine lv_iload_n hx hb dX3_settles_39 rfl (lv_at hl 1 rfl) ?_
        refine wx_callr (va_runS (As := [.int s_5]) (rest := []) ⟨hx, hb, hml, hown, hts⟩ (k_J6_bitCount_0f7a4 l g s_5) (va_cwS 1 hts gX3_settles_J6_bitCount_0f7a4 rfl rfl rfl (by decide +kernel) (by rw [hR]; exact ⟨Nat.le_of_ble_eq_true rfl, Nat.le_of_ble_eq_true rfl⟩)) (wx_Pc.pre hK hX) rfl rfl hl.1 rfl (lv_room (Nat.le_of_ble_eq_true rfl)) dX3_settles_40 ⟨Nat.zero_le _, Nat.zero_le _⟩) ?_
        refine lv_aload_n hx hb dX3_settles_43 rfl (lv_at hl 2 rfl) ?_
        refine wx_geti (C := RX3) (T := TX3) (N := 15) (ci := 3) (j := 0) hx hb hts hi_X3 hown hK hX hh.l0 (sh_X3_0 hh) rfl (by decide) (hts (.fieldLink RX3 54 "SeenAgain$House" "rooms" "I") (by decide +kernel)) (fun _ h9 => h9) dX3_settles_44 ?_
        refine lv_iconst (v := 1) hx hb dX3_settles_47 (by decide) ?_
        refine lv_isub hx hb dX3_settles_48 ?_
        refine lv_icmp_lt (tgt := 56) hx hb dX3_settles_49 (by decide) (fun c_2 => ?_) (fun c_2 => ?_)
        · have b_3 : wx_b (r_J6_bitCount_0f7a4 s_5) (-2147483648) 4 := wb_lt c_2 (wb_any _) (wb_sub hg.1 (show wx_b 1 1 1 from ⟨by decide, by decide⟩) (by decide) (by decide)) (by decide) (by decide)
          refine lv_iconst (v := 0) hx hb dX3_settles_56 (by decide) ?_
          exact hret _ _ _ dX3_settles_57 rfl (by simp only [r_X3_settles, if_pos c_2, ← es_5])
        · have b_4 : wx_b (r_J6_bitCount_0f7a4 s_5) (-1) 2147483647 := wb_ge (wb_nlt c_2) (wb_any _) (wb_sub hg.1 (show wx_b 1 1 1 from ⟨by decide, by decide⟩) (by decide) (by decide)) (by decide) (by decide)
          refine lv_iconst (v := 1) hx hb dX3_settles_52 (by decide) ?_
          refine lv_goto (tgt := 57) hx hb dX3_settles_53 (by decide) ?_
          exact hret _ _ _ dX3_settles_57 rfl (by simp only [r_X3_settles, if_neg c_2, ← es_5])
      · have hlt_5 : t_5 < (g h 0).toNatClampNeg := by have h9 := wx_up (by have := wx_cl31 (g h 0); omega) c_1; omega
        have bt_5 : wx_b (nI (t_5)) 0 5 := wb_nI (n := 5) (by have := wb_cl (n := 6) hg.1 (by decide); omega) (by decide)
        refine lv_iload_n hx hb dX3_settles_14 rfl (lv_at hl 3 rfl) ?_
        refine lv_iload hx hb dX3_settles_15 (lv_at hl 0 rfl) ?_
        refine wx_callr (va_runSN (As := [.int a1, .int (nI t_5)]) (rest := []) ⟨hx, hb, hml, hown, hts⟩ (k_X11_has l g a1 (nI t_5)) ⟨va_cnB 2 hts gX3_settles_X11_has_n78 rfl rfl rfl hK.2.1.1 (hts (.initialized RX11) (by decide +kernel)) (by decide +kernel) (by rw [hR]; exact ⟨Nat.le_of_ble_eq_true rfl, Nat.le_of_ble_eq_true rfl⟩), hts (.static yX11_has) (by decide +kernel), trivial⟩ (wx_Pc.pre hK hX) rfl rfl hl.1 rfl (lv_room (Nat.le_of_ble_eq_true rfl)) dX3_settles_17 ⟨Nat.zero_le _, Nat.zero_le _⟩) ?_
        refine lv_if_eq (tgt := 33) hx hb dX3_settles_20 (by decide) (fun c_5 => ?_) (fun c_5 => ?_)
        · have b_6 : wx_b (r_X11_has a1 (nI t_5)) 0 0 := by rw [c_5]; exact ⟨by decide, by decide⟩
          refine lv_iinc (v := nI (t_5 + 1)) (lv' := [(4, .int (nI (t_5 + 1))), (3, .int s_5), (0, .ref (ad h)), (1, .int a1), (2, .int a2)]) hx hb dX3_settles_33 hl (k := 0) rfl (wx_inc _) (by decide) rfl (fun ls hl => ?_)
          refine lv_goto (tgt := 5) hx hb dX3_settles_36 (by decide) ?_
          have hF_7 : (b_X3_settles_5 g h a1 a2) t_5 s_5 = s_5 := (by simp only [b_X3_settles_5, if_pos c_5])
          exact ih_5 (t_5 + 1) s_5 ls hlt_5 (by omega) (by rw [rep_succ, ← es_5, hF_7]) (lv_sub hl [0, 1, 2, 3, 4] rfl)
        · refine lv_iload_n hx hb dX3_settles_23 rfl (lv_at hl 1 rfl) ?_
          refine lv_aload_n hx hb dX3_settles_24 rfl (lv_at hl 2 rfl) ?_
          refine lv_iload hx hb dX3_settles_25 (lv_at hl 0 rfl) ?_
          refine lv_iload_n hx hb dX3_settles_27 rfl (lv_at hl 4 rfl) ?_
          refine wx_callr (va_runV (As := [.int (nI t_5), .int a2]) (rest := [.int s_5]) ⟨hx, hb, hml, hown, hts⟩ (k_X3_viewOf l g h (nI t_5) a2 hh bt_5 b2) (cwV 2 hts gX3_settles_X3_viewOf rfl rfl rfl (by decide +kernel) (by rw [hR]; exact ⟨Nat.le_of_ble_eq_true rfl, Nat.le_of_ble_eq_true rfl⟩)) ⟨wx_Pc.blind, wx_recv hK hX hh.l0 (sh_X3 hh) rfl, (wx_Pc.pre hK hX).2⟩ rfl rfl hl.1 rfl (lv_room (Nat.le_of_ble_eq_true rfl)) dX3_settles_28 ⟨Nat.zero_le _, Nat.zero_le _⟩) ?_
          refine lv_ior hx hb dX3_settles_31 ?_
          refine lv_topi (fun x_8 ex_8 => ?_)
          refine lv_istore_n (lv' := [(3, .int x_8), (4, .int (nI t_5)), (0, .ref (ad h)), (1, .int a1), (2, .int a2)]) hx hb dX3_settles_32 rfl hl (by decide) rfl (fun ls hl => ?_)
          refine lv_iinc (v := nI (t_5 + 1)) (lv' := [(4, .int (nI (t_5 + 1))), (3, .int x_8), (0, .ref (ad h)), (1, .int a1), (2, .int a2)]) hx hb dX3_settles_33 hl (k := 1) rfl (wx_inc _) (by decide) rfl (fun ls hl => ?_)
          refine lv_goto (tgt := 5) hx hb dX3_settles_36 (by decide) ?_
          have hF_9 : (b_X3_settles_5 g h a1 a2) t_5 s_5 = x_8 := (by subst ex_8; simp only [b_X3_settles_5, if_neg c_5])
          exact ih_5 (t_5 + 1) x_8 ls hlt_5 (by omega) (by rw [rep_succ, ← es_5, hF_9]) (lv_sub hl [0, 1, 2, 3, 4] rfl)
  exact lp_5 ((g h 0).toNatClampNeg + 1) 0 (0 : Int32) ls (Nat.zero_le _) (by omega) rfl (lv_sub hl [0, 1, 2, 3, 4] rfl)
theorem nb_r_X3_settles (g : wx_M) (h : Nat) (a1 : Int32) (a2 : Int32) : narrow .boolean (.int (r_X3_settles g h a1 a2)) = .int (r_X3_settles g h a1 a2) := by
  simp only [r_X3_settles]
  (repeat' split) <;> first | rfl | exact nb_r_X11_has _ _
def b_X3_fewestSettling_9 (g : wx_M) (h : Nat) (a1 : Int32) (t_9 : Nat) (s_9 : Int32 × Int32) : Int32 × Int32 :=
  if s_9.2 ≤ (r_J6_bitCount_0f7a4 (nI t_9)) then
    (s_9.1, s_9.2)
  else
    if (r_X3_settles g h (nI t_9) a1) = 0 then
      (s_9.1, s_9.2)
    else
      let x_9 := (r_J6_bitCount_0f7a4 (nI t_9))
      ((nI t_9), x_9)
def r_X3_fewestSettling (g : wx_M) (h : Nat) (a1 : Int32) : Int32 :=
  let s_9 := rep (1 <<< ((g h 0) &&& 31)).toNatClampNeg (b_X3_fewestSettling_9 g h a1) ((-1000000), 7)
  s_9.1
set_option maxHeartbeats 4000000 in
set_option maxRecDepth 100000 in
theorem k_X3_fewestSettling (l : Launch) {D : va_G} {cy : Nat → ClassId} {ad : Nat → Nat} {B0 : Nat} {f : wx_F} {P : va_W} (g : wx_M) (h : Nat) (a1 : Int32) (hh : wx_H h) (b1 : wx_b a1 0 7) (hg : wx_HB g h) : Met l yX3_fewestSettling wsX3_fewestSettling ({ frames := 3, cells := 0, slots := 0, locals := 67 } : Room) (wx_Pc D cy ad B0 f P g [.ref (ad h), .int a1]) (QcRead (r_X3_fewestSettling g h a1)) 0 0 (fun _ => False) := by
  refine wx_enterR (cc := cX3_fewestSettling) (maxL := 5) (ty := .int) (own := RX3) (lv := [(0, .ref (ad h)), (1, .int a1)]) (by decide) rfl rfl (Nat.le_of_ble_eq_true rfl) rfl ?_
  intro p e R s m args below meth c ls Qm hx hb hml hown hts hK hX hR hret hl
  have hi_X3 : ∀ w ∈ wsX30, w ∈ wsX3_fewestSettling := by decide +kernel
  refine lv_ldc hx hb hown (hts (.constant RX3 111 (-1000000)) (by decide +kernel)) dX3_fewestSettling_0 ?_
  refine lv_istore_n (lv' := [(2, .int (-1000000)), (0, .ref (ad h)), (1, .int a1)]) hx hb dX3_fewestSettling_2 rfl hl (by decide) rfl (fun ls hl => ?_)
  refine lv_bipush (v := 7) hx hb dX3_fewestSettling_3 (by decide) ?_
  refine lv_istore_n (lv' := [(3, .int 7), (2, .int (-1000000)), (0, .ref (ad h)), (1, .int a1)]) hx hb dX3_fewestSettling_5 rfl hl (by decide) rfl (fun ls hl => ?_)
  refine lv_iconst (v := 0) hx hb dX3_fewestSettling_6 (by decide) ?_
  refine lv_istore (lv' := [(4, .int 0), (3, .int 7), (2, .int (-1000000)), (0, .ref (ad h)), (1, .int a1)]) hx hb dX3_fewestSettling_7 hl (by decide) rfl (fun ls hl => ?_)
  have lp_9 : ∀ (n t_9 : Nat) (s_9 : Int32 × Int32) (ls : Array Slot), t_9 ≤ (1 <<< ((g h 0) &&& 31)).toNatClampNeg → (1 <<< ((g h 0) &&& 31)).toNatClampNeg + 1 ≤ t_9 + n → s_9 = rep t_9 (b_X3_fewestSettling_9 g h a1) ((-1000000), 7) → lv_has ls 5 [(4, .int (nI t_9)), (3, .int s_9.2), (2, .int s_9.1), (0, .ref (ad h)), (1, .int a1)] → W p l e R s m args below meth c s.heap [] 0 0 Qm (F0 m 9 ls []) := by
    intro n
    induction n with
    | zero => intro t_9 s_9 ls h1 h2; exact absurd h2 (by omega)
    | succ n ih_9 =>
      intro t_9 s_9 ls ht_9 hn_9 es_9 hl
      refine lv_iload hx hb dX3_fewestSettling_9 (lv_at hl 0 rfl) ?_
      refine lv_iconst (v := 1) hx hb dX3_fewestSettling_11 (by decide) ?_
      refine lv_aload_n hx hb dX3_fewestSettling_12 rfl (lv_at hl 3 rfl) ?_
      refine wx_geti (C := RX3) (T := TX3) (N := 15) (ci := 3) (j := 0) hx hb hts hi_X3 hown hK hX hh.l0 (sh_X3_0 hh) rfl (by decide) (hts (.fieldLink RX3 54 "SeenAgain$House" "rooms" "I") (by decide +kernel)) (fun _ h9 => h9) dX3_fewestSettling_13 ?_
      refine lv_ishl hx hb dX3_fewestSettling_16 ?_
      refine lv_icmp_ge (tgt := 54) hx hb dX3_fewestSettling_17 (by decide) (fun c_1 => ?_) (fun c_1 => ?_)
      · have et_9 : t_9 = (1 <<< ((g h 0) &&& 31)).toNatClampNeg := Nat.le_antisymm ht_9 (by have h9 := wx_dn (by have := wx_cl31 (1 <<< ((g h 0) &&& 31)); omega) c_1; omega)
        subst et_9
        refine lv_iload_n hx hb dX3_fewestSettling_54 rfl (lv_at hl 2 rfl) ?_
        exact hret _ _ _ dX3_fewestSettling_55 rfl (by simp only [r_X3_fewestSettling, ← es_9])
      · have hlt_9 : t_9 < (1 <<< ((g h 0) &&& 31)).toNatClampNeg := by have h9 := wx_up (by have := wx_cl31 (1 <<< ((g h 0) &&& 31)); omega) c_1; omega
        have bt_9 : wx_b (nI (t_9)) 0 2147483646 := wb_nI (n := 2147483646) (by have := wx_cl31 (1 <<< ((g h 0) &&& 31)); omega) (by decide)
        refine lv_iload hx hb dX3_fewestSettling_20 (lv_at hl 0 rfl) ?_
        refine wx_callr (va_runS (As := [.int (nI t_9)]) (rest := []) ⟨hx, hb, hml, hown, hts⟩ (k_J6_bitCount_0f7a4 l g (nI t_9)) (va_cwS 1 hts gX3_fewestSettling_J6_bitCount_0f7a4 rfl rfl rfl (by decide +kernel) (by rw [hR]; exact ⟨Nat.le_of_ble_eq_true rfl, Nat.le_of_ble_eq_true rfl⟩)) (wx_Pc.pre hK hX) rfl rfl hl.1 rfl (lv_room (Nat.le_of_ble_eq_true rfl)) dX3_fewestSettling_22 ⟨Nat.zero_le _, Nat.zero_le _⟩) ?_
        refine lv_iload_n hx hb dX3_fewestSettling_25 rfl (lv_at hl 1 rfl) ?_
        refine lv_icmp_ge (tgt := 48) hx hb dX3_fewestSettling_26 (by decide) (fun c_2 => ?_) (fun c_2 => ?_)
        · refine lv_iinc (v := nI (t_9 + 1)) (lv' := [(4, .int (nI (t_9 + 1))), (3, .int s_9.2), (2, .int s_9.1), (0, .ref (ad h)), (1, .int a1)]) hx hb dX3_fewestSettling_48 hl (k := 0) rfl (wx_inc _) (by decide) rfl (fun ls hl => ?_)
          refine lv_goto (tgt := 9) hx hb dX3_fewestSettling_51 (by decide) ?_
          have hF_3 : (b_X3_fewestSettling_9 g h a1) t_9 s_9 = (s_9.1, s_9.2) := (by simp only [b_X3_fewestSettling_9, if_pos c_2])
          exact ih_9 (t_9 + 1) (s_9.1, s_9.2) ls hlt_9 (by omega) (by rw [rep_succ, ← es_9, hF_3]) (lv_sub hl [0, 1, 2, 3, 4] rfl)
        · have b_4 : wx_b (r_J6_bitCount_0f7a4 (nI t_9)) (-2147483648) 2147483646 := wb_lt (wb_nle c_2) (wb_any _) (wb_any _) (by decide) (by decide)
          have b_5 : wx_b s_9.2 (-2147483647) 2147483647 := wb_gt (wb_nle c_2) (wb_any _) (wb_any _) (by decide) (by decide)
          refine lv_aload_n hx hb dX3_fewestSettling_29 rfl (lv_at hl 3 rfl) ?_
          refine lv_iload hx hb dX3_fewestSettling_30 (lv_at hl 0 rfl) ?_
          refine lv_iload_n hx hb dX3_fewestSettling_32 rfl (lv_at hl 4 rfl) ?_
          refine wx_callr (va_runV (As := [.int (nI t_9), .int a1]) (rest := []) ⟨hx, hb, hml, hown, hts⟩ (k_X3_settles l g h (nI t_9) a1 hh b1 hg) (cwV 2 hts gX3_fewestSettling_X3_settles rfl rfl rfl (by decide +kernel) (by rw [hR]; exact ⟨Nat.le_of_ble_eq_true rfl, Nat.le_of_ble_eq_true rfl⟩)) ⟨wx_Pc.blind, wx_recv hK hX hh.l0 (sh_X3 hh) rfl, (wx_Pc.pre hK hX).2⟩ rfl rfl hl.1 rfl (lv_room (Nat.le_of_ble_eq_true rfl)) dX3_fewestSettling_33 ⟨Nat.zero_le _, Nat.zero_le _⟩) ?_
          refine lv_if_eq (tgt := 48) hx hb dX3_fewestSettling_36 (by decide) (fun c_6 => ?_) (fun c_6 => ?_)
          · have b_7 : wx_b (r_X3_settles g h (nI t_9) a1) 0 0 := by rw [c_6]; exact ⟨by decide, by decide⟩
            refine lv_iinc (v := nI (t_9 + 1)) (lv' := [(4, .int (nI (t_9 + 1))), (3, .int s_9.2), (2, .int s_9.1), (0, .ref (ad h)), (1, .int a1)]) hx hb dX3_fewestSettling_48 hl (k := 0) rfl (wx_inc _) (by decide) rfl (fun ls hl => ?_)
            refine lv_goto (tgt := 9) hx hb dX3_fewestSettling_51 (by decide) ?_
            have hF_8 : (b_X3_fewestSettling_9 g h a1) t_9 s_9 = (s_9.1, s_9.2) := (by simp only [b_X3_fewestSettling_9, if_neg c_2, if_pos c_6])
            exact ih_9 (t_9 + 1) (s_9.1, s_9.2) ls hlt_9 (by omega) (by rw [rep_succ, ← es_9, hF_8]) (lv_sub hl [0, 1, 2, 3, 4] rfl)
          · refine lv_iload hx hb dX3_fewestSettling_39 (lv_at hl 0 rfl) ?_
            refine wx_callr (va_runS (As := [.int (nI t_9)]) (rest := []) ⟨hx, hb, hml, hown, hts⟩ (k_J6_bitCount_0f7a4 l g (nI t_9)) (va_cwS 1 hts gX3_fewestSettling_J6_bitCount_0f7a4 rfl rfl rfl (by decide +kernel) (by rw [hR]; exact ⟨Nat.le_of_ble_eq_true rfl, Nat.le_of_ble_eq_true rfl⟩)) (wx_Pc.pre hK hX) rfl rfl hl.1 rfl (lv_room (Nat.le_of_ble_eq_true rfl)) dX3_fewestSettling_41 ⟨Nat.zero_le _, Nat.zero_le _⟩) ?_
            refine lv_topi (fun x_9 ex_9 => ?_)
            have bx_9 : wx_b x_9 (-2147483648) 2147483646 := by rw [ex_9]; exact (wb_w b_4 (by decide) (by decide))
            refine lv_istore_n (lv' := [(3, .int x_9), (4, .int (nI t_9)), (2, .int s_9.1), (0, .ref (ad h)), (1, .int a1)]) hx hb dX3_fewestSettling_44 rfl hl (by decide) rfl (fun ls hl => ?_)
            refine lv_iload hx hb dX3_fewestSettling_45 (lv_at hl 1 rfl) ?_
            refine lv_istore_n (lv' := [(2, .int (nI t_9)), (3, .int x_9), (4, .int (nI t_9)), (0, .ref (ad h)), (1, .int a1)]) hx hb dX3_fewestSettling_47 rfl hl (by decide) rfl (fun ls hl => ?_)
            refine lv_iinc (v := nI (t_9 + 1)) (lv' := [(4, .int (nI (t_9 + 1))), (2, .int (nI t_9)), (3, .int x_9), (0, .ref (ad h)), (1, .int a1)]) hx hb dX3_fewestSettling_48 hl (k := 2) rfl (wx_inc _) (by decide) rfl (fun ls hl => ?_)
            refine lv_goto (tgt := 9) hx hb dX3_fewestSettling_51 (by decide) ?_
            have hF_10 : (b_X3_fewestSettling_9 g h a1) t_9 s_9 = ((nI t_9), x_9) := (by subst ex_9; simp only [b_X3_fewestSettling_9, if_neg c_2, if_neg c_6])
            exact ih_9 (t_9 + 1) ((nI t_9), x_9) ls hlt_9 (by omega) (by rw [rep_succ, ← es_9, hF_10]) (lv_sub hl [0, 2, 1, 3, 4] rfl)
  exact lp_9 ((1 <<< ((g h 0) &&& 31)).toNatClampNeg + 1) 0 ((-1000000), 7) ls (Nat.zero_le _) (by omega) rfl (lv_sub hl [0, 1, 2, 3, 4] rfl)
def b_X3_soldOutAt_13 (g : wx_M) (h : Nat) (a1 : Int32) (t_4 : Nat) (s_4 : Int32) (t_13 : Nat) (s_13 : Int32) : (Int32) ⊕ ((Int32) ⊕ (Int32)) :=
  if (r_X3_isLeft g h (nI t_13) (nI t_4)) = 0 then
    if s_13 = a1 then
      .inr (.inr ((r_X11_seatNumber (nI t_13) (nI t_4))))
    else
      let x_10 := (s_13 + 1)
      .inl x_10
  else
    .inl s_13
def b_X3_soldOutAt_4 (g : wx_M) (h : Nat) (a1 : Int32) (t_4 : Nat) (s_4 : Int32) : (Int32) ⊕ (Int32) :=
  (match repX (g h 0).toNatClampNeg (b_X3_soldOutAt_13 g h a1 t_4 s_4) s_4 with
  | .inl s_13 =>
    .inl s_13
  | .inr r9 => r9)
def r_X3_soldOutAt (g : wx_M) (h : Nat) (a1 : Int32) : Int32 :=
  (match repX 8 (b_X3_soldOutAt_4 g h a1) (0 : Int32) with
  | .inl s_4 =>
    if a1 = (-1) then
      s_4
    else
      (-1000000)
  | .inr r9 => r9)
set_option maxHeartbeats 4000000 in
set_option maxRecDepth 100000 in
theorem k_X3_soldOutAt (l : Launch) {D : va_G} {cy : Nat → ClassId} {ad : Nat → Nat} {B0 : Nat} {f : wx_F} {P : va_W} (g : wx_M) (h : Nat) (a1 : Int32) (hh : wx_H h) (hg : wx_HB g h) : Met l yX3_soldOutAt wsX3_soldOutAt ({ frames := 3, cells := 0, slots := 0, locals := 65 } : Room) (wx_Pc D cy ad B0 f P g [.ref (ad h), .int a1]) (QcRead (r_X3_soldOutAt g h a1)) 0 0 (fun _ => False) := by
  refine wx_enterR (cc := cX3_soldOutAt) (maxL := 5) (ty := .int) (own := RX3) (lv := [(0, .ref (ad h)), (1, .int a1)]) (by decide) rfl rfl (Nat.le_of_ble_eq_true rfl) rfl ?_
  intro p e R s m args below meth c ls Qm hx hb hml hown hts hK hX hR hret hl
  have hi_X3 : ∀ w ∈ wsX30, w ∈ wsX3_soldOutAt := by decide +kernel
  refine lv_iconst (v := 0) hx hb dX3_soldOutAt_0 (by decide) ?_
  refine lv_istore_n (lv' := [(2, .int 0), (0, .ref (ad h)), (1, .int a1)]) hx hb dX3_soldOutAt_1 rfl hl (by decide) rfl (fun ls hl => ?_)
  refine lv_iconst (v := 0) hx hb dX3_soldOutAt_2 (by decide) ?_
  refine lv_istore_n (lv' := [(3, .int 0), (2, .int 0), (0, .ref (ad h)), (1, .int a1)]) hx hb dX3_soldOutAt_3 rfl hl (by decide) rfl (fun ls hl => ?_)
  have lp_4 : ∀ (n t_4 : Nat) (s_4 : Int32) (ls : Array Slot), t_4 ≤ 8 → 8 + 1 ≤ t_4 + n → repX t_4 (b_X3_soldOutAt_4 g h a1) (0 : Int32) = .inl s_4 → lv_has ls 5 [(3, .int (nI t_4)), (2, .int s_4), (0, .ref (ad h)), (1, .int a1)] → W p l e R s m args below meth c s.heap [] 0 0 Qm (F0 m 4 ls []) := by
    intro n
    induction n with
    | zero => intro t_4 s_4 ls h1 h2; exact absurd h2 (by omega)
    | succ n ih_4 =>
      intro t_4 s_4 ls ht_4 hn_4 es_4 hl
      refine lv_iload_n hx hb dX3_soldOutAt_4 rfl (lv_at hl 0 rfl) ?_
      refine lv_bipush (v := 8) hx hb dX3_soldOutAt_5 (by decide) ?_
      refine lv_icmp_ge (tgt := 59) hx hb dX3_soldOutAt_7 (by decide) (fun c_1 => ?_) (fun c_1 => ?_)
      · have et_4 : t_4 = 8 := Nat.le_antisymm ht_4 (by have h9 := wx_dn (by omega) c_1; have h8 : (8 : Int32).toNatClampNeg = 8 := (by decide); omega)
        subst et_4
        refine lv_iload_n hx hb dX3_soldOutAt_59 rfl (lv_at hl 3 rfl) ?_
        refine lv_iconst (v := (-1)) hx hb dX3_soldOutAt_60 (by decide) ?_
        refine lv_icmp_ne (tgt := 68) hx hb dX3_soldOutAt_61 (by decide) (fun c_2 => ?_) (fun c_2 => ?_)
        · refine lv_ldc hx hb hown (hts (.constant RX3 111 (-1000000)) (by decide +kernel)) dX3_soldOutAt_68 ?_
          exact hret _ _ _ dX3_soldOutAt_70 rfl (by simp only [r_X3_soldOutAt, if_neg c_2, es_4])
        · have b_3 : wx_b a1 (-1) (-1) := by rw [c_2]; exact ⟨by decide, by decide⟩
          refine lv_iload_n hx hb dX3_soldOutAt_64 rfl (lv_at hl 1 rfl) ?_
          refine lv_goto (tgt := 70) hx hb dX3_soldOutAt_65 (by decide) ?_
          exact hret _ _ _ dX3_soldOutAt_70 rfl (by simp only [r_X3_soldOutAt, if_pos c_2, es_4])
      · have hlt_4 : t_4 < 8 := by have h9 := wx_up (by omega) c_1; have h8 : (8 : Int32).toNatClampNeg = 8 := (by decide); omega
        have bt_4 : wx_b (nI (t_4)) 0 7 := wb_nI (n := 7) (by omega) (by decide)
        refine lv_iconst (v := 0) hx hb dX3_soldOutAt_10 (by decide) ?_
        refine lv_istore (lv' := [(4, .int 0), (3, .int (nI t_4)), (2, .int s_4), (0, .ref (ad h)), (1, .int a1)]) hx hb dX3_soldOutAt_11 hl (by decide) rfl (fun ls hl => ?_)
        have lp_13 : ∀ (n t_13 : Nat) (s_13 : Int32) (ls : Array Slot), t_13 ≤ (g h 0).toNatClampNeg → (g h 0).toNatClampNeg + 1 ≤ t_13 + n → repX t_13 (b_X3_soldOutAt_13 g h a1 t_4 s_4) s_4 = .inl s_13 → lv_has ls 5 [(4, .int (nI t_13)), (2, .int s_13), (3, .int (nI t_4)), (0, .ref (ad h)), (1, .int a1)] → W p l e R s m args below meth c s.heap [] 0 0 Qm (F0 m 13 ls []) := by
          intro n
          induction n with
          | zero => intro t_13 s_13 ls h1 h2; exact absurd h2 (by omega)
          | succ n ih_13 =>
            intro t_13 s_13 ls ht_13 hn_13 es_13 hl
            refine lv_iload hx hb dX3_soldOutAt_13 (lv_at hl 0 rfl) ?_
            refine lv_aload_n hx hb dX3_soldOutAt_15 rfl (lv_at hl 3 rfl) ?_
            refine wx_geti (C := RX3) (T := TX3) (N := 15) (ci := 3) (j := 0) hx hb hts hi_X3 hown hK hX hh.l0 (sh_X3_0 hh) rfl (by decide) (hts (.fieldLink RX3 54 "SeenAgain$House" "rooms" "I") (by decide +kernel)) (fun _ h9 => h9) dX3_soldOutAt_16 ?_
            refine lv_icmp_ge (tgt := 53) hx hb dX3_soldOutAt_19 (by decide) (fun c_4 => ?_) (fun c_4 => ?_)
            · have et_13 : t_13 = (g h 0).toNatClampNeg := Nat.le_antisymm ht_13 (by have h9 := wx_dn (by have := wx_cl31 (g h 0); omega) c_4; omega)
              subst et_13
              refine lv_iinc (v := nI (t_4 + 1)) (lv' := [(3, .int (nI (t_4 + 1))), (4, .int (nI ((g h 0).toNatClampNeg))), (2, .int s_13), (0, .ref (ad h)), (1, .int a1)]) hx hb dX3_soldOutAt_53 hl (k := 2) rfl (wx_inc _) (by decide) rfl (fun ls hl => ?_)
              refine lv_goto (tgt := 4) hx hb dX3_soldOutAt_56 (by decide) ?_
              have hF_5 : (b_X3_soldOutAt_4 g h a1) t_4 s_4 = .inl s_13 := (by simp only [b_X3_soldOutAt_4, es_13])
              exact ih_4 (t_4 + 1) s_13 ls hlt_4 (by omega) ((repX_go es_4).trans hF_5) (lv_sub hl [0, 2, 3, 4] rfl)
            · have hlt_13 : t_13 < (g h 0).toNatClampNeg := by have h9 := wx_up (by have := wx_cl31 (g h 0); omega) c_4; omega
              have bt_13 : wx_b (nI (t_13)) 0 5 := wb_nI (n := 5) (by have := wb_cl (n := 6) hg.1 (by decide); omega) (by decide)
              refine lv_aload_n hx hb dX3_soldOutAt_22 rfl (lv_at hl 3 rfl) ?_
              refine lv_iload hx hb dX3_soldOutAt_23 (lv_at hl 0 rfl) ?_
              refine lv_iload_n hx hb dX3_soldOutAt_25 rfl (lv_at hl 2 rfl) ?_
              refine wx_callr (va_runV (As := [.int (nI t_13), .int (nI t_4)]) (rest := []) ⟨hx, hb, hml, hown, hts⟩ (k_X3_isLeft l g h (nI t_13) (nI t_4) hh bt_13 bt_4) (cwV 2 hts gX3_soldOutAt_X3_isLeft rfl rfl rfl (by decide +kernel) (by rw [hR]; exact ⟨Nat.le_of_ble_eq_true rfl, Nat.le_of_ble_eq_true rfl⟩)) ⟨wx_Pc.blind, wx_recv hK hX hh.l0 (sh_X3 hh) rfl, (wx_Pc.pre hK hX).2⟩ rfl rfl hl.1 rfl (lv_room (Nat.le_of_ble_eq_true rfl)) dX3_soldOutAt_26 ⟨Nat.zero_le _, Nat.zero_le _⟩) ?_
              refine lv_if_ne (tgt := 47) hx hb dX3_soldOutAt_29 (by decide) (fun c_6 => ?_) (fun c_6 => ?_)
              · refine lv_iinc (v := nI (t_13 + 1)) (lv' := [(4, .int (nI (t_13 + 1))), (2, .int s_13), (3, .int (nI t_4)), (0, .ref (ad h)), (1, .int a1)]) hx hb dX3_soldOutAt_47 hl (k := 0) rfl (wx_inc _) (by decide) rfl (fun ls hl => ?_)
                refine lv_goto (tgt := 13) hx hb dX3_soldOutAt_50 (by decide) ?_
                have hF_7 : (b_X3_soldOutAt_13 g h a1 t_4 s_4) t_13 s_13 = .inl s_13 := (by simp only [b_X3_soldOutAt_13, if_neg c_6])
                exact ih_13 (t_13 + 1) s_13 ls hlt_13 (by omega) ((repX_go es_13).trans hF_7) (lv_sub hl [0, 1, 2, 3, 4] rfl)
              · have b_8 : wx_b (r_X3_isLeft g h (nI t_13) (nI t_4)) 0 0 := by rw [c_6]; exact ⟨by decide, by decide⟩
                refine lv_iload_n hx hb dX3_soldOutAt_32 rfl (lv_at hl 1 rfl) ?_
                refine lv_iload_n hx hb dX3_soldOutAt_33 rfl (lv_at hl 4 rfl) ?_
                refine lv_icmp_ne (tgt := 44) hx hb dX3_soldOutAt_34 (by decide) (fun c_9 => ?_) (fun c_9 => ?_)
                · obtain ⟨x_10, ex_10⟩ : ∃ y : Int32, y = (s_13 + 1) := ⟨_, rfl⟩
                  refine lv_iinc (v := x_10) (lv' := [(2, .int x_10), (4, .int (nI t_13)), (3, .int (nI t_4)), (0, .ref (ad h)), (1, .int a1)]) hx hb dX3_soldOutAt_44 hl (k := 1) rfl (by rw [ex_10]; rfl) (by decide) rfl (fun ls hl => ?_)
                  refine lv_iinc (v := nI (t_13 + 1)) (lv' := [(4, .int (nI (t_13 + 1))), (2, .int x_10), (3, .int (nI t_4)), (0, .ref (ad h)), (1, .int a1)]) hx hb dX3_soldOutAt_47 hl (k := 1) rfl (wx_inc _) (by decide) rfl (fun ls hl => ?_)
                  refine lv_goto (tgt := 13) hx hb dX3_soldOutAt_50 (by decide) ?_
                  have hF_11 : (b_X3_soldOutAt_13 g h a1 t_4 s_4) t_13 s_13 = .inl x_10 := (by subst ex_10; simp only [b_X3_soldOutAt_13, if_pos c_6, if_neg c_9])
                  exact ih_13 (t_13 + 1) x_10 ls hlt_13 (by omega) ((repX_go es_13).trans hF_11) (lv_sub hl [0, 1, 2, 3, 4] rfl)
                · refine lv_iload hx hb dX3_soldOutAt_37 (lv_at hl 0 rfl) ?_
                  refine lv_iload_n hx hb dX3_soldOutAt_39 rfl (lv_at hl 2 rfl) ?_
                  refine wx_callr (va_runSN (As := [.int (nI t_13), .int (nI t_4)]) (rest := []) ⟨hx, hb, hml, hown, hts⟩ (k_X11_seatNumber l g (nI t_13) (nI t_4)) ⟨va_cnB 2 hts gX3_soldOutAt_X11_seatNumber_n82 rfl rfl rfl hK.2.1.2 (hts (.initialized RX11) (by decide +kernel)) (by decide +kernel) (by rw [hR]; exact ⟨Nat.le_of_ble_eq_true rfl, Nat.le_of_ble_eq_true rfl⟩), hts (.static yX11_seatNumber) (by decide +kernel), trivial⟩ (wx_Pc.pre hK hX) rfl rfl hl.1 rfl (lv_room (Nat.le_of_ble_eq_true rfl)) dX3_soldOutAt_40 ⟨Nat.zero_le _, Nat.zero_le _⟩) ?_
                  have hF_12 : (b_X3_soldOutAt_13 g h a1 t_4 s_4) t_13 s_13 = .inr (.inr ((r_X11_seatNumber (nI t_13) (nI t_4)))) := (by simp only [b_X3_soldOutAt_13, if_pos c_6, if_pos c_9])
                  have hO_13 : repX (g h 0).toNatClampNeg (b_X3_soldOutAt_13 g h a1 t_4 s_4) s_4 = .inr (.inr ((r_X11_seatNumber (nI t_13) (nI t_4)))) := repX_out es_13 hF_12 hlt_13
                  have hF_14 : (b_X3_soldOutAt_4 g h a1) t_4 s_4 = .inr ((r_X11_seatNumber (nI t_13) (nI t_4))) := (by simp only [b_X3_soldOutAt_4, hO_13])
                  have hO_15 : repX 8 (b_X3_soldOutAt_4 g h a1) (0 : Int32) = .inr ((r_X11_seatNumber (nI t_13) (nI t_4))) := repX_out es_4 hF_14 hlt_4
                  exact hret _ _ _ dX3_soldOutAt_43 rfl (by simp only [r_X3_soldOutAt, hO_15])
        exact lp_13 ((g h 0).toNatClampNeg + 1) 0 s_4 ls (Nat.zero_le _) (by omega) rfl (lv_sub hl [0, 2, 1, 3, 4] rfl)
  exact lp_4 (8 + 1) 0 (0 : Int32) ls (Nat.zero_le _) (by omega) rfl (lv_sub hl [0, 1, 2, 3] rfl)
def b_X3_mostHeld_15 (g : wx_M) (h : Nat) (t_6 : Nat) (s_6 : Int32 × Int32) (t_15 : Nat) (s_15 : Int32 × Int32) : Int32 × Int32 :=
  if (r_X3_heldOf g h (nI t_15) (nI t_6)) ≤ s_15.1 then
    (s_15.1, s_15.2)
  else
    let x_8 := (r_X3_heldOf g h (nI t_15) (nI t_6))
    let x_9 := (r_X11_seatNumber (nI t_15) (nI t_6))
    (x_8, x_9)
def b_X3_mostHeld_6 (g : wx_M) (h : Nat) (t_6 : Nat) (s_6 : Int32 × Int32) : Int32 × Int32 :=
  let s_15 := rep (g h 0).toNatClampNeg (b_X3_mostHeld_15 g h t_6 s_6) (s_6.1, s_6.2)
  (s_15.1, s_15.2)
def r_X3_mostHeld (g : wx_M) (h : Nat) : Int32 :=
  let s_6 := rep 8 (b_X3_mostHeld_6 g h) (0, 0)
  s_6.2
set_option maxHeartbeats 4000000 in
set_option maxRecDepth 100000 in
theorem k_X3_mostHeld (l : Launch) {D : va_G} {cy : Nat → ClassId} {ad : Nat → Nat} {B0 : Nat} {f : wx_F} {P : va_W} (g : wx_M) (h : Nat) (hh : wx_H h) (hg : wx_HB g h) : Met l yX3_mostHeld wsX3_mostHeld ({ frames := 2, cells := 0, slots := 0, locals := 43 } : Room) (wx_Pc D cy ad B0 f P g [.ref (ad h)]) (QcRead (r_X3_mostHeld g h)) 0 0 (fun _ => False) := by
  refine wx_enterR (cc := cX3_mostHeld) (maxL := 5) (ty := .int) (own := RX3) (lv := [(0, .ref (ad h))]) (by decide) rfl rfl (Nat.le_of_ble_eq_true rfl) rfl ?_
  intro p e R s m args below meth c ls Qm hx hb hml hown hts hK hX hR hret hl
  have hi_X3 : ∀ w ∈ wsX30, w ∈ wsX3_mostHeld := by decide +kernel
  refine lv_iconst (v := 0) hx hb dX3_mostHeld_0 (by decide) ?_
  refine lv_istore_n (lv' := [(1, .int 0), (0, .ref (ad h))]) hx hb dX3_mostHeld_1 rfl hl (by decide) rfl (fun ls hl => ?_)
  refine lv_iconst (v := 0) hx hb dX3_mostHeld_2 (by decide) ?_
  refine lv_istore_n (lv' := [(2, .int 0), (1, .int 0), (0, .ref (ad h))]) hx hb dX3_mostHeld_3 rfl hl (by decide) rfl (fun ls hl => ?_)
  refine lv_iconst (v := 0) hx hb dX3_mostHeld_4 (by decide) ?_
  refine lv_istore_n (lv' := [(3, .int 0), (2, .int 0), (1, .int 0), (0, .ref (ad h))]) hx hb dX3_mostHeld_5 rfl hl (by decide) rfl (fun ls hl => ?_)
  have lp_6 : ∀ (n t_6 : Nat) (s_6 : Int32 × Int32) (ls : Array Slot), t_6 ≤ 8 → 8 + 1 ≤ t_6 + n → s_6 = rep t_6 (b_X3_mostHeld_6 g h) (0, 0) → lv_has ls 5 [(3, .int (nI t_6)), (2, .int s_6.2), (1, .int s_6.1), (0, .ref (ad h))] → W p l e R s m args below meth c s.heap [] 0 0 Qm (F0 m 6 ls []) := by
    intro n
    induction n with
    | zero => intro t_6 s_6 ls h1 h2; exact absurd h2 (by omega)
    | succ n ih_6 =>
      intro t_6 s_6 ls ht_6 hn_6 es_6 hl
      refine lv_iload_n hx hb dX3_mostHeld_6 rfl (lv_at hl 0 rfl) ?_
      refine lv_bipush (v := 8) hx hb dX3_mostHeld_7 (by decide) ?_
      refine lv_icmp_ge (tgt := 62) hx hb dX3_mostHeld_9 (by decide) (fun c_1 => ?_) (fun c_1 => ?_)
      · have et_6 : t_6 = 8 := Nat.le_antisymm ht_6 (by have h9 := wx_dn (by omega) c_1; have h8 : (8 : Int32).toNatClampNeg = 8 := (by decide); omega)
        subst et_6
        refine lv_iload_n hx hb dX3_mostHeld_62 rfl (lv_at hl 1 rfl) ?_
        exact hret _ _ _ dX3_mostHeld_63 rfl (by simp only [r_X3_mostHeld, ← es_6])
      · have hlt_6 : t_6 < 8 := by have h9 := wx_up (by omega) c_1; have h8 : (8 : Int32).toNatClampNeg = 8 := (by decide); omega
        have bt_6 : wx_b (nI (t_6)) 0 7 := wb_nI (n := 7) (by omega) (by decide)
        refine lv_iconst (v := 0) hx hb dX3_mostHeld_12 (by decide) ?_
        refine lv_istore (lv' := [(4, .int 0), (3, .int (nI t_6)), (2, .int s_6.2), (1, .int s_6.1), (0, .ref (ad h))]) hx hb dX3_mostHeld_13 hl (by decide) rfl (fun ls hl => ?_)
        have lp_15 : ∀ (n t_15 : Nat) (s_15 : Int32 × Int32) (ls : Array Slot), t_15 ≤ (g h 0).toNatClampNeg → (g h 0).toNatClampNeg + 1 ≤ t_15 + n → s_15 = rep t_15 (b_X3_mostHeld_15 g h t_6 s_6) (s_6.1, s_6.2) → lv_has ls 5 [(4, .int (nI t_15)), (2, .int s_15.2), (1, .int s_15.1), (3, .int (nI t_6)), (0, .ref (ad h))] → W p l e R s m args below meth c s.heap [] 0 0 Qm (F0 m 15 ls []) := by
          intro n
          induction n with
          | zero => intro t_15 s_15 ls h1 h2; exact absurd h2 (by omega)
          | succ n ih_15 =>
            intro t_15 s_15 ls ht_15 hn_15 es_15 hl
            refine lv_iload hx hb dX3_mostHeld_15 (lv_at hl 0 rfl) ?_
            refine lv_aload_n hx hb dX3_mostHeld_17 rfl (lv_at hl 4 rfl) ?_
            refine wx_geti (C := RX3) (T := TX3) (N := 15) (ci := 3) (j := 0) hx hb hts hi_X3 hown hK hX hh.l0 (sh_X3_0 hh) rfl (by decide) (hts (.fieldLink RX3 54 "SeenAgain$House" "rooms" "I") (by decide +kernel)) (fun _ h9 => h9) dX3_mostHeld_18 ?_
            refine lv_icmp_ge (tgt := 56) hx hb dX3_mostHeld_21 (by decide) (fun c_2 => ?_) (fun c_2 => ?_)
            · have et_15 : t_15 = (g h 0).toNatClampNeg := Nat.le_antisymm ht_15 (by have h9 := wx_dn (by have := wx_cl31 (g h 0); omega) c_2; omega)
              subst et_15
              refine lv_iinc (v := nI (t_6 + 1)) (lv' := [(3, .int (nI (t_6 + 1))), (4, .int (nI ((g h 0).toNatClampNeg))), (2, .int s_15.2), (1, .int s_15.1), (0, .ref (ad h))]) hx hb dX3_mostHeld_56 hl (k := 3) rfl (wx_inc _) (by decide) rfl (fun ls hl => ?_)
              refine lv_goto (tgt := 6) hx hb dX3_mostHeld_59 (by decide) ?_
              have hF_3 : (b_X3_mostHeld_6 g h) t_6 s_6 = (s_15.1, s_15.2) := (by simp only [b_X3_mostHeld_6, ← es_15])
              exact ih_6 (t_6 + 1) (s_15.1, s_15.2) ls hlt_6 (by omega) (by rw [rep_succ, ← es_6, hF_3]) (lv_sub hl [0, 2, 3, 4] rfl)
            · have hlt_15 : t_15 < (g h 0).toNatClampNeg := by have h9 := wx_up (by have := wx_cl31 (g h 0); omega) c_2; omega
              have bt_15 : wx_b (nI (t_15)) 0 5 := wb_nI (n := 5) (by have := wb_cl (n := 6) hg.1 (by decide); omega) (by decide)
              refine lv_aload_n hx hb dX3_mostHeld_24 rfl (lv_at hl 4 rfl) ?_
              refine lv_iload hx hb dX3_mostHeld_25 (lv_at hl 0 rfl) ?_
              refine lv_iload_n hx hb dX3_mostHeld_27 rfl (lv_at hl 3 rfl) ?_
              refine wx_callr (va_runV (As := [.int (nI t_15), .int (nI t_6)]) (rest := []) ⟨hx, hb, hml, hown, hts⟩ (k_X3_heldOf l g h (nI t_15) (nI t_6) hh bt_15 bt_6) (cwV 2 hts gX3_mostHeld_X3_heldOf rfl rfl rfl (by decide +kernel) (by rw [hR]; exact ⟨Nat.le_of_ble_eq_true rfl, Nat.le_of_ble_eq_true rfl⟩)) ⟨wx_Pc.blind, wx_recv hK hX hh.l0 (sh_X3 hh) rfl, (wx_Pc.pre hK hX).2⟩ rfl rfl hl.1 rfl (lv_room (Nat.le_of_ble_eq_true rfl)) dX3_mostHeld_28 ⟨Nat.zero_le _, Nat.zero_le _⟩) ?_
              refine lv_iload_n hx hb dX3_mostHeld_31 rfl (lv_at hl 2 rfl) ?_
              refine lv_icmp_le (tgt := 50) hx hb dX3_mostHeld_32 (by decide) (fun c_4 => ?_) (fun c_4 => ?_)
              · refine lv_iinc (v := nI (t_15 + 1)) (lv' := [(4, .int (nI (t_15 + 1))), (2, .int s_15.2), (1, .int s_15.1), (3, .int (nI t_6)), (0, .ref (ad h))]) hx hb dX3_mostHeld_50 hl (k := 0) rfl (wx_inc _) (by decide) rfl (fun ls hl => ?_)
                refine lv_goto (tgt := 15) hx hb dX3_mostHeld_53 (by decide) ?_
                have hF_5 : (b_X3_mostHeld_15 g h t_6 s_6) t_15 s_15 = (s_15.1, s_15.2) := (by simp only [b_X3_mostHeld_15, if_pos c_4])
                exact ih_15 (t_15 + 1) (s_15.1, s_15.2) ls hlt_15 (by omega) (by rw [rep_succ, ← es_15, hF_5]) (lv_sub hl [0, 1, 2, 3, 4] rfl)
              · have b_6 : wx_b s_15.1 (-2147483648) 2147483646 := wb_lt (wb_nle c_4) (wb_any _) (wb_any _) (by decide) (by decide)
                have b_7 : wx_b (r_X3_heldOf g h (nI t_15) (nI t_6)) (-2147483647) 2147483647 := wb_gt (wb_nle c_4) (wb_any _) (wb_any _) (by decide) (by decide)
                refine lv_aload_n hx hb dX3_mostHeld_35 rfl (lv_at hl 4 rfl) ?_
                refine lv_iload hx hb dX3_mostHeld_36 (lv_at hl 0 rfl) ?_
                refine lv_iload_n hx hb dX3_mostHeld_38 rfl (lv_at hl 3 rfl) ?_
                refine wx_callr (va_runV (As := [.int (nI t_15), .int (nI t_6)]) (rest := []) ⟨hx, hb, hml, hown, hts⟩ (k_X3_heldOf l g h (nI t_15) (nI t_6) hh bt_15 bt_6) (cwV 2 hts gX3_mostHeld_X3_heldOf rfl rfl rfl (by decide +kernel) (by rw [hR]; exact ⟨Nat.le_of_ble_eq_true rfl, Nat.le_of_ble_eq_true rfl⟩)) ⟨wx_Pc.blind, wx_recv hK hX hh.l0 (sh_X3 hh) rfl, (wx_Pc.pre hK hX).2⟩ rfl rfl hl.1 rfl (lv_room (Nat.le_of_ble_eq_true rfl)) dX3_mostHeld_39 ⟨Nat.zero_le _, Nat.zero_le _⟩) ?_
                refine lv_topi (fun x_8 ex_8 => ?_)
                have bx_8 : wx_b x_8 (-2147483647) 2147483647 := by rw [ex_8]; exact (wb_w b_7 (by decide) (by decide))
                refine lv_istore_n (lv' := [(1, .int x_8), (4, .int (nI t_15)), (2, .int s_15.2), (3, .int (nI t_6)), (0, .ref (ad h))]) hx hb dX3_mostHeld_42 rfl hl (by decide) rfl (fun ls hl => ?_)
                refine lv_iload hx hb dX3_mostHeld_43 (lv_at hl 1 rfl) ?_
                refine lv_iload_n hx hb dX3_mostHeld_45 rfl (lv_at hl 3 rfl) ?_
                refine wx_callr (va_runSN (As := [.int (nI t_15), .int (nI t_6)]) (rest := []) ⟨hx, hb, hml, hown, hts⟩ (k_X11_seatNumber l g (nI t_15) (nI t_6)) ⟨va_cnB 2 hts gX3_mostHeld_X11_seatNumber_n82 rfl rfl rfl hK.2.1.2 (hts (.initialized RX11) (by decide +kernel)) (by decide +kernel) (by rw [hR]; exact ⟨Nat.le_of_ble_eq_true rfl, Nat.le_of_ble_eq_true rfl⟩), hts (.static yX11_seatNumber) (by decide +kernel), trivial⟩ (wx_Pc.pre hK hX) rfl rfl hl.1 rfl (lv_room (Nat.le_of_ble_eq_true rfl)) dX3_mostHeld_46 ⟨Nat.zero_le _, Nat.zero_le _⟩) ?_
                refine lv_topi (fun x_9 ex_9 => ?_)
                have bx_9 : wx_b x_9 0 47 := by rw [ex_9]; exact (rg_seat (wb_w bt_15 (by decide) (by decide)) (wb_w bt_6 (by decide) (by decide)))
                refine lv_istore_n (lv' := [(2, .int x_9), (1, .int x_8), (4, .int (nI t_15)), (3, .int (nI t_6)), (0, .ref (ad h))]) hx hb dX3_mostHeld_49 rfl hl (by decide) rfl (fun ls hl => ?_)
                refine lv_iinc (v := nI (t_15 + 1)) (lv' := [(4, .int (nI (t_15 + 1))), (2, .int x_9), (1, .int x_8), (3, .int (nI t_6)), (0, .ref (ad h))]) hx hb dX3_mostHeld_50 hl (k := 2) rfl (wx_inc _) (by decide) rfl (fun ls hl => ?_)
                refine lv_goto (tgt := 15) hx hb dX3_mostHeld_53 (by decide) ?_
                have hF_10 : (b_X3_mostHeld_15 g h t_6 s_6) t_15 s_15 = (x_8, x_9) := (by subst ex_9 ex_8; simp only [b_X3_mostHeld_15, if_neg c_4])
                exact ih_15 (t_15 + 1) (x_8, x_9) ls hlt_15 (by omega) (by rw [rep_succ, ← es_15, hF_10]) (lv_sub hl [0, 1, 2, 3, 4] rfl)
        exact lp_15 ((g h 0).toNatClampNeg + 1) 0 (s_6.1, s_6.2) ls (Nat.zero_le _) (by omega) rfl (lv_sub hl [0, 2, 3, 1, 4] rfl)
  exact lp_6 (8 + 1) 0 (0, 0) ls (Nat.zero_le _) (by omega) rfl (lv_sub hl [0, 1, 2, 3] rfl)
def b_X3_seatsOf_14 (g : wx_M) (h : Nat) (a1 : Int32) (t_14 : Nat) (s_14 : Int32) : Int32 :=
  let x_2 := (g (h + 3) (nI t_14).toNatClampNeg)
  let x_3 := (s_14 + ((x_2 >>> (a1 &&& 31)) &&& 1))
  x_3
def r_X3_seatsOf (g : wx_M) (h : Nat) (a1 : Int32) : Int32 :=
  let s_14 := rep 48 (b_X3_seatsOf_14 g h a1) (0 : Int32)
  s_14
set_option maxHeartbeats 4000000 in
set_option maxRecDepth 100000 in
theorem k_X3_seatsOf (l : Launch) {D : va_G} {cy : Nat → ClassId} {ad : Nat → Nat} {B0 : Nat} {f : wx_F} {P : va_W} (g : wx_M) (h : Nat) (a1 : Int32) (hh : wx_H h) : Met l yX3_seatsOf wsX3_seatsOf ({ frames := 0, cells := 0, slots := 0, locals := 0 } : Room) (wx_Pc D cy ad B0 f P g [.ref (ad h), .int a1]) (QcRead (r_X3_seatsOf g h a1)) 0 0 (fun _ => False) := by
  refine wx_enterR (cc := cX3_seatsOf) (maxL := 7) (ty := .int) (own := RX3) (lv := [(0, .ref (ad h)), (1, .int a1)]) (by decide) rfl rfl (Nat.le_of_ble_eq_true rfl) rfl ?_
  intro p e R s m args below meth c ls Qm hx hb hml hown hts hK hX hR hret hl
  have hi_X3 : ∀ w ∈ wsX30, w ∈ wsX3_seatsOf := by decide +kernel
  refine lv_iconst (v := 0) hx hb dX3_seatsOf_0 (by decide) ?_
  refine lv_istore_n (lv' := [(2, .int 0), (0, .ref (ad h)), (1, .int a1)]) hx hb dX3_seatsOf_1 rfl hl (by decide) rfl (fun ls hl => ?_)
  refine lv_aload_n hx hb dX3_seatsOf_2 rfl (lv_at hl 1 rfl) ?_
  refine wx_getr (t := h + 3) (C := RX3) (T := TX3) (N := 15) (ci := 3) (j := 11) hx hb hts hi_X3 hown hK hX hh.l0 (sh_X3_11 hh) rfl (by decide) (hts (.fieldLink RX3 18 "SeenAgain$House" "holders" "[I") (by decide +kernel)) (fun _ h9 => h9) dX3_seatsOf_3 ?_
  refine lv_astore_n (lv' := [(3, .ref (ad (h + 3))), (2, .int 0), (0, .ref (ad h)), (1, .int a1)]) hx hb dX3_seatsOf_6 rfl hl (by decide) rfl (fun ls hl => ?_)
  refine lv_aload_n hx hb dX3_seatsOf_7 rfl (lv_at hl 0 rfl) ?_
  refine wx_alen (v := 48) hx hb hK hX hh.l3 (sa_X3_3 hh) rfl dX3_seatsOf_8 ?_
  refine lv_istore (lv' := [(4, .int 48), (3, .ref (ad (h + 3))), (2, .int 0), (0, .ref (ad h)), (1, .int a1)]) hx hb dX3_seatsOf_9 hl (by decide) rfl (fun ls hl => ?_)
  refine lv_iconst (v := 0) hx hb dX3_seatsOf_11 (by decide) ?_
  refine lv_istore (lv' := [(5, .int 0), (4, .int 48), (3, .ref (ad (h + 3))), (2, .int 0), (0, .ref (ad h)), (1, .int a1)]) hx hb dX3_seatsOf_12 hl (by decide) rfl (fun ls hl => ?_)
  have lp_14 : ∀ (n t_14 : Nat) (s_14 : Int32) (ls : Array Slot), t_14 ≤ 48 → 48 + 1 ≤ t_14 + n → s_14 = rep t_14 (b_X3_seatsOf_14 g h a1) (0 : Int32) → lv_has ls 7 [(5, .int (nI t_14)), (2, .int s_14), (4, .int 48), (3, .ref (ad (h + 3))), (1, .int a1)] → W p l e R s m args below meth c s.heap [] 0 0 Qm (F0 m 14 ls []) := by
    intro n
    induction n with
    | zero => intro t_14 s_14 ls h1 h2; exact absurd h2 (by omega)
    | succ n ih_14 =>
      intro t_14 s_14 ls ht_14 hn_14 es_14 hl
      refine lv_iload hx hb dX3_seatsOf_14 (lv_at hl 0 rfl) ?_
      refine lv_iload hx hb dX3_seatsOf_16 (lv_at hl 2 rfl) ?_
      refine lv_icmp_ge (tgt := 42) hx hb dX3_seatsOf_18 (by decide) (fun c_1 => ?_) (fun c_1 => ?_)
      · have et_14 : t_14 = 48 := Nat.le_antisymm ht_14 (by have h9 := wx_dn (by omega) c_1; have h8 : (48 : Int32).toNatClampNeg = 48 := (by decide); omega)
        subst et_14
        refine lv_iload_n hx hb dX3_seatsOf_42 rfl (lv_at hl 1 rfl) ?_
        exact hret _ _ _ dX3_seatsOf_43 rfl (by simp only [r_X3_seatsOf, ← es_14])
      · have hlt_14 : t_14 < 48 := by have h9 := wx_up (by omega) c_1; have h8 : (48 : Int32).toNatClampNeg = 48 := (by decide); omega
        have bt_14 : wx_b (nI (t_14)) 0 47 := wb_nI (n := 47) (by omega) (by decide)
        refine lv_aload_n hx hb dX3_seatsOf_21 rfl (lv_at hl 3 rfl) ?_
        refine lv_iload hx hb dX3_seatsOf_22 (lv_at hl 0 rfl) ?_
        refine wx_iald hx hb hK hX hh.l3 (sa_X3_3 hh) (wb_in bt_14 (by decide) (by decide)) dX3_seatsOf_24 ?_
        refine lv_topi (fun x_2 ex_2 => ?_)
        refine lv_istore (lv' := [(6, .int x_2), (5, .int (nI t_14)), (2, .int s_14), (4, .int 48), (3, .ref (ad (h + 3))), (1, .int a1)]) hx hb dX3_seatsOf_25 hl (by decide) rfl (fun ls hl => ?_)
        refine lv_iload_n hx hb dX3_seatsOf_27 rfl (lv_at hl 2 rfl) ?_
        refine lv_iload hx hb dX3_seatsOf_28 (lv_at hl 0 rfl) ?_
        refine lv_iload_n hx hb dX3_seatsOf_30 rfl (lv_at hl 5 rfl) ?_
        refine lv_ishr hx hb dX3_seatsOf_31 ?_
        refine lv_iconst (v := 1) hx hb dX3_seatsOf_32 (by decide) ?_
        refine lv_iand hx hb dX3_seatsOf_33 ?_
        refine lv_iadd hx hb dX3_seatsOf_34 ?_
        refine lv_topi (fun x_3 ex_3 => ?_)
        refine lv_istore_n (lv' := [(2, .int x_3), (6, .int x_2), (5, .int (nI t_14)), (4, .int 48), (3, .ref (ad (h + 3))), (1, .int a1)]) hx hb dX3_seatsOf_35 rfl hl (by decide) rfl (fun ls hl => ?_)
        refine lv_iinc (v := nI (t_14 + 1)) (lv' := [(5, .int (nI (t_14 + 1))), (2, .int x_3), (6, .int x_2), (4, .int 48), (3, .ref (ad (h + 3))), (1, .int a1)]) hx hb dX3_seatsOf_36 hl (k := 2) rfl (wx_inc _) (by decide) rfl (fun ls hl => ?_)
        refine lv_goto (tgt := 14) hx hb dX3_seatsOf_39 (by decide) ?_
        have hF_4 : (b_X3_seatsOf_14 g h a1) t_14 s_14 = x_3 := (by subst ex_3 ex_2; simp only [b_X3_seatsOf_14])
        exact ih_14 (t_14 + 1) x_3 ls hlt_14 (by omega) (by rw [rep_succ, ← es_14, hF_4]) (lv_sub hl [0, 1, 3, 4, 5] rfl)
  exact lp_14 (48 + 1) 0 (0 : Int32) ls (Nat.zero_le _) (by omega) rfl (lv_sub hl [0, 3, 1, 2, 5] rfl)
