def r_X12_in (a1 : Int32) (a2 : Int32) (a3 : Int32) : Int32 :=
  if a1 < a2 then
    0
  else
    if a3 < a1 then
      0
    else
      1
set_option maxHeartbeats 4000000 in
set_option maxRecDepth 100000 in
theorem k_X12_in (l : Launch) {D : va_G} {cy : Nat → ClassId} {ad : Nat → Nat} {B0 : Nat} {f : wx_F} {P : va_W} (g : wx_M) (a1 : Int32) (a2 : Int32) (a3 : Int32) : Met l yX12_in wsX12_in ({ frames := 0, cells := 0, slots := 0, locals := 0 } : Room) (wx_Pc D cy ad B0 f P g [.int a1, .int a2, .int a3]) (QcRead (r_X12_in a1 a2 a3)) 0 0 (fun _ => False) := by
  refine wx_enterR (cc := cX12_in) (maxL := 3) (ty := .boolean) (own := RX12) (lv := [(0, .int a1), (1, .int a2), (2, .int a3)]) (by decide) rfl rfl (Nat.le_of_ble_eq_true rfl) rfl ?_
  intro p e R s m args below meth c ls Qm hx hb hml hown hts hK hX hR hret hl
  refine lv_iload_n hx hb dX12_in_0 rfl (lv_at hl 0 rfl) ?_
  refine lv_iload_n hx hb dX12_in_1 rfl (lv_at hl 1 rfl) ?_
  refine lv_icmp_lt (tgt := 14) hx hb dX12_in_2 (by decide) (fun c_1 => ?_) (fun c_1 => ?_)
  · have b_2 : wx_b a1 (-2147483648) 2147483646 := wb_lt c_1 (wb_any _) (wb_any _) (by decide) (by decide)
    have b_3 : wx_b a2 (-2147483647) 2147483647 := wb_gt c_1 (wb_any _) (wb_any _) (by decide) (by decide)
    refine lv_iconst (v := 0) hx hb dX12_in_14 (by decide) ?_
    exact hret _ _ _ dX12_in_15 rfl (by simp only [r_X12_in, if_pos c_1])
  · refine lv_iload_n hx hb dX12_in_5 rfl (lv_at hl 0 rfl) ?_
    refine lv_iload_n hx hb dX12_in_6 rfl (lv_at hl 2 rfl) ?_
    refine lv_icmp_gt (tgt := 14) hx hb dX12_in_7 (by decide) (fun c_4 => ?_) (fun c_4 => ?_)
    · have b_5 : wx_b a3 (-2147483648) 2147483646 := wb_lt c_4 (wb_any _) (wb_any _) (by decide) (by decide)
      have b_6 : wx_b a1 (-2147483647) 2147483647 := wb_gt c_4 (wb_any _) (wb_any _) (by decide) (by decide)
      refine lv_iconst (v := 0) hx hb dX12_in_14 (by decide) ?_
      exact hret _ _ _ dX12_in_15 rfl (by simp only [r_X12_in, if_neg c_1, if_pos c_4])
    · refine lv_iconst (v := 1) hx hb dX12_in_10 (by decide) ?_
      refine lv_goto (tgt := 15) hx hb dX12_in_11 (by decide) ?_
      exact hret _ _ _ dX12_in_15 rfl (by simp only [r_X12_in, if_neg c_1, if_neg c_4])
theorem nb_r_X12_in (a1 : Int32) (a2 : Int32) (a3 : Int32) : narrow .boolean (.int (r_X12_in a1 a2 a3)) = .int (r_X12_in a1 a2 a3) := by
  unfold r_X12_in
  (repeat' split) <;> rfl
def r_X12_has (a1 : Int32) (a2 : Int32) : Int32 :=
  if ((a1 >>> (a2 &&& 31)) &&& 1) = 1 then
    1
  else
    0
set_option maxHeartbeats 4000000 in
set_option maxRecDepth 100000 in
theorem k_X12_has (l : Launch) {D : va_G} {cy : Nat → ClassId} {ad : Nat → Nat} {B0 : Nat} {f : wx_F} {P : va_W} (g : wx_M) (a1 : Int32) (a2 : Int32) : Met l yX12_has wsX12_has ({ frames := 0, cells := 0, slots := 0, locals := 0 } : Room) (wx_Pc D cy ad B0 f P g [.int a1, .int a2]) (QcRead (r_X12_has a1 a2)) 0 0 (fun _ => False) := by
  refine wx_enterR (cc := cX12_has) (maxL := 2) (ty := .boolean) (own := RX12) (lv := [(0, .int a1), (1, .int a2)]) (by decide) rfl rfl (Nat.le_of_ble_eq_true rfl) rfl ?_
  intro p e R s m args below meth c ls Qm hx hb hml hown hts hK hX hR hret hl
  refine lv_iload_n hx hb dX12_has_0 rfl (lv_at hl 0 rfl) ?_
  refine lv_iload_n hx hb dX12_has_1 rfl (lv_at hl 1 rfl) ?_
  refine lv_ishr hx hb dX12_has_2 ?_
  refine lv_iconst (v := 1) hx hb dX12_has_3 (by decide) ?_
  refine lv_iand hx hb dX12_has_4 ?_
  refine lv_iconst (v := 1) hx hb dX12_has_5 (by decide) ?_
  refine lv_icmp_ne (tgt := 13) hx hb dX12_has_6 (by decide) (fun c_1 => ?_) (fun c_1 => ?_)
  · refine lv_iconst (v := 0) hx hb dX12_has_13 (by decide) ?_
    exact hret _ _ _ dX12_has_14 rfl (by simp only [r_X12_has, if_neg c_1])
  · have b_2 : wx_b ((a1 >>> (a2 &&& 31)) &&& 1) 1 1 := by rw [c_1]; exact ⟨by decide, by decide⟩
    refine lv_iconst (v := 1) hx hb dX12_has_9 (by decide) ?_
    refine lv_goto (tgt := 14) hx hb dX12_has_10 (by decide) ?_
    exact hret _ _ _ dX12_has_14 rfl (by simp only [r_X12_has, if_pos c_1])
theorem nb_r_X12_has (a1 : Int32) (a2 : Int32) : narrow .boolean (.int (r_X12_has a1 a2)) = .int (r_X12_has a1 a2) := by
  unfold r_X12_has
  (repeat' split) <;> rfl
def b_X12_bits_4 (g : wx_M) (a1 : Int32) (t_4 : Nat) (s_4 : Int32) : Int32 :=
  let x_2 := (s_4 + ((a1 >>> ((nI t_4) &&& 31)) &&& 1))
  x_2
def r_X12_bits (g : wx_M) (a1 : Int32) : Int32 :=
  let s_4 := rep 8 (b_X12_bits_4 g a1) (0 : Int32)
  s_4
set_option maxHeartbeats 4000000 in
set_option maxRecDepth 100000 in
theorem k_X12_bits (l : Launch) {D : va_G} {cy : Nat → ClassId} {ad : Nat → Nat} {B0 : Nat} {f : wx_F} {P : va_W} (g : wx_M) (a1 : Int32) : Met l yX12_bits wsX12_bits ({ frames := 0, cells := 0, slots := 0, locals := 0 } : Room) (wx_Pc D cy ad B0 f P g [.int a1]) (QcRead (r_X12_bits g a1)) 0 0 (fun _ => False) := by
  refine wx_enterR (cc := cX12_bits) (maxL := 3) (ty := .int) (own := RX12) (lv := [(0, .int a1)]) (by decide) rfl rfl (Nat.le_of_ble_eq_true rfl) rfl ?_
  intro p e R s m args below meth c ls Qm hx hb hml hown hts hK hX hR hret hl
  refine lv_iconst (v := 0) hx hb dX12_bits_0 (by decide) ?_
  refine lv_istore_n (lv' := [(1, .int 0), (0, .int a1)]) hx hb dX12_bits_1 rfl hl (by decide) rfl (fun ls hl => ?_)
  refine lv_iconst (v := 0) hx hb dX12_bits_2 (by decide) ?_
  refine lv_istore_n (lv' := [(2, .int 0), (1, .int 0), (0, .int a1)]) hx hb dX12_bits_3 rfl hl (by decide) rfl (fun ls hl => ?_)
  have lp_4 : ∀ (n t_4 : Nat) (s_4 : Int32) (ls : Array Slot), t_4 ≤ 8 → 8 + 1 ≤ t_4 + n → s_4 = rep t_4 (b_X12_bits_4 g a1) (0 : Int32) → lv_has ls 3 [(2, .int (nI t_4)), (1, .int s_4), (0, .int a1)] → W p l e R s m args below meth c s.heap [] 0 0 Qm (F0 m 4 ls []) := by
    intro n
    induction n with
    | zero => intro t_4 s_4 ls h1 h2; exact absurd h2 (by omega)
    | succ n ih_4 =>
      intro t_4 s_4 ls ht_4 hn_4 es_4 hl
      refine lv_iload_n hx hb dX12_bits_4 rfl (lv_at hl 0 rfl) ?_
      refine lv_bipush (v := 8) hx hb dX12_bits_5 (by decide) ?_
      refine lv_icmp_ge (tgt := 24) hx hb dX12_bits_7 (by decide) (fun c_1 => ?_) (fun c_1 => ?_)
      · have et_4 : t_4 = 8 := Nat.le_antisymm ht_4 (by have h9 := wx_dn (by omega) c_1; have h8 : (8 : Int32).toNatClampNeg = 8 := (by decide); omega)
        subst et_4
        refine lv_iload_n hx hb dX12_bits_24 rfl (lv_at hl 1 rfl) ?_
        exact hret _ _ _ dX12_bits_25 rfl (by simp only [r_X12_bits, ← es_4])
      · have hlt_4 : t_4 < 8 := by have h9 := wx_up (by omega) c_1; have h8 : (8 : Int32).toNatClampNeg = 8 := (by decide); omega
        have bt_4 : wx_b (nI (t_4)) 0 7 := wb_nI (n := 7) (by omega) (by decide)
        refine lv_iload_n hx hb dX12_bits_10 rfl (lv_at hl 1 rfl) ?_
        refine lv_iload_n hx hb dX12_bits_11 rfl (lv_at hl 2 rfl) ?_
        refine lv_iload_n hx hb dX12_bits_12 rfl (lv_at hl 0 rfl) ?_
        refine lv_ishr hx hb dX12_bits_13 ?_
        refine lv_iconst (v := 1) hx hb dX12_bits_14 (by decide) ?_
        refine lv_iand hx hb dX12_bits_15 ?_
        refine lv_iadd hx hb dX12_bits_16 ?_
        refine lv_topi (fun x_2 ex_2 => ?_)
        refine lv_istore_n (lv' := [(1, .int x_2), (2, .int (nI t_4)), (0, .int a1)]) hx hb dX12_bits_17 rfl hl (by decide) rfl (fun ls hl => ?_)
        refine lv_iinc (v := nI (t_4 + 1)) (lv' := [(2, .int (nI (t_4 + 1))), (1, .int x_2), (0, .int a1)]) hx hb dX12_bits_18 hl (k := 1) rfl (wx_inc _) (by decide) rfl (fun ls hl => ?_)
        refine lv_goto (tgt := 4) hx hb dX12_bits_21 (by decide) ?_
        have hF_3 : (b_X12_bits_4 g a1) t_4 s_4 = x_2 := (by subst ex_2; simp only [b_X12_bits_4])
        exact ih_4 (t_4 + 1) x_2 ls hlt_4 (by omega) (by rw [rep_succ, ← es_4, hF_3]) (lv_sub hl [0, 1, 2] rfl)
  exact lp_4 (8 + 1) 0 (0 : Int32) ls (Nat.zero_le _) (by omega) rfl (lv_sub hl [0, 1, 2] rfl)
def r_X12_isRow (a1 : Int32) : Int32 :=
  (r_X12_in a1 0 7)
set_option maxHeartbeats 4000000 in
set_option maxRecDepth 100000 in
theorem k_X12_isRow (l : Launch) {D : va_G} {cy : Nat → ClassId} {ad : Nat → Nat} {B0 : Nat} {f : wx_F} {P : va_W} (g : wx_M) (a1 : Int32) : Met l yX12_isRow wsX12_isRow ({ frames := 1, cells := 0, slots := 0, locals := 22 } : Room) (wx_Pc D cy ad B0 f P g [.int a1]) (QcRead (r_X12_isRow a1)) 0 0 (fun _ => False) := by
  refine wx_enterR (cc := cX12_isRow) (maxL := 1) (ty := .boolean) (own := RX12) (lv := [(0, .int a1)]) (by decide) rfl rfl (Nat.le_of_ble_eq_true rfl) rfl ?_
  intro p e R s m args below meth c ls Qm hx hb hml hown hts hK hX hR hret hl
  refine lv_iload_n hx hb dX12_isRow_0 rfl (lv_at hl 0 rfl) ?_
  refine lv_iconst (v := 0) hx hb dX12_isRow_1 (by decide) ?_
  refine lv_bipush (v := 7) hx hb dX12_isRow_2 (by decide) ?_
  refine wx_callr (va_runS (As := [.int a1, .int 0, .int 7]) (rest := []) ⟨hx, hb, hml, hown, hts⟩ (k_X12_in l g a1 0 7) (va_cwS 3 hts gX12_isRow_X12_in rfl rfl rfl (by decide +kernel) (by rw [hR]; exact ⟨Nat.le_of_ble_eq_true rfl, Nat.le_of_ble_eq_true rfl⟩)) (wx_Pc.pre hK hX) rfl rfl hl.1 rfl (lv_room (Nat.le_of_ble_eq_true rfl)) dX12_isRow_4 ⟨Nat.zero_le _, Nat.zero_le _⟩) ?_
  exact hret _ _ _ dX12_isRow_7 (nb_r_X12_in _ _ _) (by simp only [r_X12_isRow])
theorem nb_r_X12_isRow (a1 : Int32) : narrow .boolean (.int (r_X12_isRow a1)) = .int (r_X12_isRow a1) := by
  unfold r_X12_isRow
  (first | rfl | exact nb_r_X12_in _ _ _)
def r_X12_isMinute (a1 : Int32) : Int32 :=
  (r_X12_in a1 0 7)
set_option maxHeartbeats 4000000 in
set_option maxRecDepth 100000 in
theorem k_X12_isMinute (l : Launch) {D : va_G} {cy : Nat → ClassId} {ad : Nat → Nat} {B0 : Nat} {f : wx_F} {P : va_W} (g : wx_M) (a1 : Int32) : Met l yX12_isMinute wsX12_isMinute ({ frames := 1, cells := 0, slots := 0, locals := 22 } : Room) (wx_Pc D cy ad B0 f P g [.int a1]) (QcRead (r_X12_isMinute a1)) 0 0 (fun _ => False) := by
  refine wx_enterR (cc := cX12_isMinute) (maxL := 1) (ty := .boolean) (own := RX12) (lv := [(0, .int a1)]) (by decide) rfl rfl (Nat.le_of_ble_eq_true rfl) rfl ?_
  intro p e R s m args below meth c ls Qm hx hb hml hown hts hK hX hR hret hl
  refine lv_iload_n hx hb dX12_isMinute_0 rfl (lv_at hl 0 rfl) ?_
  refine lv_iconst (v := 0) hx hb dX12_isMinute_1 (by decide) ?_
  refine lv_bipush (v := 7) hx hb dX12_isMinute_2 (by decide) ?_
  refine wx_callr (va_runS (As := [.int a1, .int 0, .int 7]) (rest := []) ⟨hx, hb, hml, hown, hts⟩ (k_X12_in l g a1 0 7) (va_cwS 3 hts gX12_isMinute_X12_in rfl rfl rfl (by decide +kernel) (by rw [hR]; exact ⟨Nat.le_of_ble_eq_true rfl, Nat.le_of_ble_eq_true rfl⟩)) (wx_Pc.pre hK hX) rfl rfl hl.1 rfl (lv_room (Nat.le_of_ble_eq_true rfl)) dX12_isMinute_4 ⟨Nat.zero_le _, Nat.zero_le _⟩) ?_
  exact hret _ _ _ dX12_isMinute_7 (nb_r_X12_in _ _ _) (by simp only [r_X12_isMinute])
theorem nb_r_X12_isMinute (a1 : Int32) : narrow .boolean (.int (r_X12_isMinute a1)) = .int (r_X12_isMinute a1) := by
  unfold r_X12_isMinute
  (first | rfl | exact nb_r_X12_in _ _ _)
theorem rf_X12_in {v a b : Int32} {la ha lb hb : Int} (h1 : wx_b a la ha) (h2 : wx_b b lb hb) (c : ¬ r_X12_in v a b = 0) : wx_b v la hb := by
  simp only [r_X12_in] at c
  split at c
  · exact absurd rfl c
  · rename_i c1
    split at c
    · exact absurd rfl c
    · rename_i c2
      exact ⟨Int.le_trans h1.1 (Int32.le_iff_toInt_le.mp (Int32.not_lt.mp c1)), Int.le_trans (Int32.le_iff_toInt_le.mp (Int32.not_lt.mp c2)) h2.2⟩
theorem rf_X12_isRow {v : Int32} (c : ¬ r_X12_isRow v = 0) : wx_b v 0 7 := rf_X12_in (la := 0) (ha := 0) (lb := 7) (hb := 7) ⟨by decide, by decide⟩ ⟨by decide, by decide⟩ c
theorem rf_X12_isMinute {v : Int32} (c : ¬ r_X12_isMinute v = 0) : wx_b v 0 7 := rf_X12_in (la := 0) (ha := 0) (lb := 7) (hb := 7) ⟨by decide, by decide⟩ ⟨by decide, by decide⟩ c

def f_X12_finds (g : wx_M) (a1 : Int32) : wx_M × Int32 :=
  let g_1 := up2 g 57 3 a1
  let x_2 := ((-1000010) - a1)
  (g_1, x_2)
set_option maxHeartbeats 4000000 in
set_option maxRecDepth 100000 in
theorem k_X12_finds (l : Launch) {D : va_G} {cy : Nat → ClassId} {ad : Nat → Nat} {B0 : Nat} {f : wx_F} {P : va_W} (g : wx_M) (a1 : Int32) : Met l yX12_finds wsX12_finds ({ frames := 0, cells := 0, slots := 0, locals := 0 } : Room) (wx_Pc D cy ad B0 f P g [.ref (ad 57), .int a1]) (wx_Qe D cy ad B0 f P (f_X12_finds g a1).1 (some (.int (f_X12_finds g a1).2))) 0 0 (fun q => B0 ≤ q) := by
  refine wx_enterE (cc := cX12_finds) (maxL := 2) (ty := .int) (own := RX12) (lv := [(0, .ref (ad 57)), (1, .int a1)]) (by decide) rfl rfl (Nat.le_of_ble_eq_true rfl) rfl ?_
  intro p e R s m args below meth c ls Qm hx hb hml hown hts hK hX hS hR hret hl
  have hi_X12 : ∀ w ∈ wsX120, w ∈ wsX12_finds := by decide +kernel
  refine lv_aload_n hx hb dX12_finds_0 rfl (lv_at hl 0 rfl) ?_
  refine lv_iload_n hx hb dX12_finds_1 rfl (lv_at hl 1 rfl) ?_
  refine wx_puti (C := RX12) (T := TX12) (N := 27) (ci := 11) (j := 3) (ty := .int) hx hb hts hi_X12 tyX12 tyX12_ok nmX12 hown hK hX hS (by decide) sh_X12_3 rfl (by decide) (hts (.fieldLink RX12 47 "SeenAgainModel" "status" "I") (by decide +kernel)) (fun _ h9 => h9) rfl (by decide +kernel) rfl rfl dX12_finds_2 (fun H locs hX hS => ?_)
  obtain ⟨g_1, eg_1, hX⟩ := wx_nm hX
  refine lv_ldc hx hb hown (hts (.constant RX12 51 (-1000010)) (by decide +kernel)) dX12_finds_5 ?_
  refine lv_iload_n hx hb dX12_finds_7 rfl (lv_at hl 1 rfl) ?_
  refine lv_isub hx hb dX12_finds_8 ?_
  refine lv_topi (fun x_2 ex_2 => ?_)
  exact hret _ _ _ _ _ _ dX12_finds_9 rfl hX hS (by subst ex_2 eg_1; simp only [f_X12_finds])
def f_X12_did (g : wx_M) (a1 : Int32) : wx_M × Int32 :=
  let g_1 := up2 g 57 3 0
  (g_1, a1)
set_option maxHeartbeats 4000000 in
set_option maxRecDepth 100000 in
theorem k_X12_did (l : Launch) {D : va_G} {cy : Nat → ClassId} {ad : Nat → Nat} {B0 : Nat} {f : wx_F} {P : va_W} (g : wx_M) (a1 : Int32) : Met l yX12_did wsX12_did ({ frames := 0, cells := 0, slots := 0, locals := 0 } : Room) (wx_Pc D cy ad B0 f P g [.ref (ad 57), .int a1]) (wx_Qe D cy ad B0 f P (f_X12_did g a1).1 (some (.int (f_X12_did g a1).2))) 0 0 (fun q => B0 ≤ q) := by
  refine wx_enterE (cc := cX12_did) (maxL := 2) (ty := .int) (own := RX12) (lv := [(0, .ref (ad 57)), (1, .int a1)]) (by decide) rfl rfl (Nat.le_of_ble_eq_true rfl) rfl ?_
  intro p e R s m args below meth c ls Qm hx hb hml hown hts hK hX hS hR hret hl
  have hi_X12 : ∀ w ∈ wsX120, w ∈ wsX12_did := by decide +kernel
  refine lv_aload_n hx hb dX12_did_0 rfl (lv_at hl 0 rfl) ?_
  refine lv_iconst (v := 0) hx hb dX12_did_1 (by decide) ?_
  refine wx_puti (C := RX12) (T := TX12) (N := 27) (ci := 11) (j := 3) (ty := .int) hx hb hts hi_X12 tyX12 tyX12_ok nmX12 hown hK hX hS (by decide) sh_X12_3 rfl (by decide) (hts (.fieldLink RX12 47 "SeenAgainModel" "status" "I") (by decide +kernel)) (fun _ h9 => h9) rfl (by decide +kernel) rfl rfl dX12_did_2 (fun H locs hX hS => ?_)
  obtain ⟨g_1, eg_1, hX⟩ := wx_nm hX
  refine lv_iload_n hx hb dX12_did_5 rfl (lv_at hl 1 rfl) ?_
  exact hret _ _ _ _ _ _ dX12_did_6 rfl hX hS (by subst eg_1; simp only [f_X12_did])
def r_X12_isNull (g : wx_M) (a1 : Int32) : Int32 :=
  if 0 ≤ (g 58 a1.toNatClampNeg) then
    0
  else
    1
set_option maxHeartbeats 4000000 in
set_option maxRecDepth 100000 in
theorem k_X12_isNull (l : Launch) {D : va_G} {cy : Nat → ClassId} {ad : Nat → Nat} {B0 : Nat} {f : wx_F} {P : va_W} (g : wx_M) (a1 : Int32) (b1 : wx_b a1 0 7) : Met l yX12_isNull wsX12_isNull ({ frames := 0, cells := 0, slots := 0, locals := 0 } : Room) (wx_Pc D cy ad B0 f P g [.ref (ad 57), .int a1]) (QcRead (r_X12_isNull g a1)) 0 0 (fun _ => False) := by
  refine wx_enterR (cc := cX12_isNull) (maxL := 2) (ty := .boolean) (own := RX12) (lv := [(0, .ref (ad 57)), (1, .int a1)]) (by decide) rfl rfl (Nat.le_of_ble_eq_true rfl) rfl ?_
  intro p e R s m args below meth c ls Qm hx hb hml hown hts hK hX hR hret hl
  have hi_X12 : ∀ w ∈ wsX120, w ∈ wsX12_isNull := by decide +kernel
  refine lv_aload_n hx hb dX12_isNull_0 rfl (lv_at hl 0 rfl) ?_
  refine wx_getr (t := 58) (C := RX12) (T := TX12) (N := 27) (ci := 11) (j := 0) hx hb hts hi_X12 hown hK hX (by decide) sh_X12_0 rfl (by decide) (hts (.fieldLink RX12 7 "SeenAgainModel" "lane" "[I") (by decide +kernel)) (fun _ h9 => h9) dX12_isNull_1 ?_
  refine lv_iload_n hx hb dX12_isNull_4 rfl (lv_at hl 1 rfl) ?_
  refine wx_iald hx hb hK hX (by decide) sa_58 (wb_in b1 (by decide) (by decide)) dX12_isNull_5 ?_
  refine lv_if_ge (tgt := 13) hx hb dX12_isNull_6 (by decide) (fun c_1 => ?_) (fun c_1 => ?_)
  · have b_2 : wx_b (g 58 a1.toNatClampNeg) 0 2147483647 := wb_ge c_1 (wb_any _) (show wx_b 0 0 0 from ⟨by decide, by decide⟩) (by decide) (by decide)
    refine lv_iconst (v := 0) hx hb dX12_isNull_13 (by decide) ?_
    exact hret _ _ _ dX12_isNull_14 rfl (by simp only [r_X12_isNull, if_pos c_1])
  · have b_3 : wx_b (g 58 a1.toNatClampNeg) (-2147483648) (-1) := wb_lt (wb_nle c_1) (wb_any _) (show wx_b 0 0 0 from ⟨by decide, by decide⟩) (by decide) (by decide)
    refine lv_iconst (v := 1) hx hb dX12_isNull_9 (by decide) ?_
    refine lv_goto (tgt := 14) hx hb dX12_isNull_10 (by decide) ?_
    exact hret _ _ _ dX12_isNull_14 rfl (by simp only [r_X12_isNull, if_neg c_1])
theorem nb_r_X12_isNull (g : wx_M) (a1 : Int32) : narrow .boolean (.int (r_X12_isNull g a1)) = .int (r_X12_isNull g a1) := by
  unfold r_X12_isNull
  (repeat' split) <;> rfl
def r_X12_isRoom (g : wx_M) (a1 : Int32) : Int32 :=
  (r_X12_in a1 0 ((g 65 (0 : Int32).toNatClampNeg) - 1))
set_option maxHeartbeats 4000000 in
set_option maxRecDepth 100000 in
theorem k_X12_isRoom (l : Launch) {D : va_G} {cy : Nat → ClassId} {ad : Nat → Nat} {B0 : Nat} {f : wx_F} {P : va_W} (g : wx_M) (a1 : Int32) : Met l yX12_isRoom wsX12_isRoom ({ frames := 1, cells := 0, slots := 0, locals := 22 } : Room) (wx_Pc D cy ad B0 f P g [.ref (ad 57), .int a1]) (QcRead (r_X12_isRoom g a1)) 0 0 (fun _ => False) := by
  refine wx_enterR (cc := cX12_isRoom) (maxL := 2) (ty := .boolean) (own := RX12) (lv := [(0, .ref (ad 57)), (1, .int a1)]) (by decide) rfl rfl (Nat.le_of_ble_eq_true rfl) rfl ?_
  intro p e R s m args below meth c ls Qm hx hb hml hown hts hK hX hR hret hl
  have hi_X12 : ∀ w ∈ wsX120, w ∈ wsX12_isRoom := by decide +kernel
  refine lv_iload_n hx hb dX12_isRoom_0 rfl (lv_at hl 1 rfl) ?_
  refine lv_iconst (v := 0) hx hb dX12_isRoom_1 (by decide) ?_
  refine lv_aload_n hx hb dX12_isRoom_2 rfl (lv_at hl 0 rfl) ?_
  refine wx_getr (t := 65) (C := RX12) (T := TX12) (N := 27) (ci := 11) (j := 20) hx hb hts hi_X12 hown hK hX (by decide) sh_X12_20 rfl (by decide) (hts (.fieldLink RX12 31 "SeenAgainModel" "now" "[I") (by decide +kernel)) (fun _ h9 => h9) dX12_isRoom_3 ?_
  refine lv_iconst (v := 0) hx hb dX12_isRoom_6 (by decide) ?_
  refine wx_iald hx hb hK hX (by decide) sa_65 (wb_in (show wx_b 0 0 0 from ⟨by decide, by decide⟩) (by decide) (by decide)) dX12_isRoom_7 ?_
  refine lv_iconst (v := 1) hx hb dX12_isRoom_8 (by decide) ?_
  refine lv_isub hx hb dX12_isRoom_9 ?_
  refine wx_callr (va_runS (As := [.int a1, .int 0, .int ((g 65 (0 : Int32).toNatClampNeg) - 1)]) (rest := []) ⟨hx, hb, hml, hown, hts⟩ (k_X12_in l g a1 0 ((g 65 (0 : Int32).toNatClampNeg) - 1)) (va_cwS 3 hts gX12_isRoom_X12_in rfl rfl rfl (by decide +kernel) (by rw [hR]; exact ⟨Nat.le_of_ble_eq_true rfl, Nat.le_of_ble_eq_true rfl⟩)) (wx_Pc.pre hK hX) rfl rfl hl.1 rfl (lv_room (Nat.le_of_ble_eq_true rfl)) dX12_isRoom_10 ⟨Nat.zero_le _, Nat.zero_le _⟩) ?_
  exact hret _ _ _ dX12_isRoom_13 (nb_r_X12_in _ _ _) (by simp only [r_X12_isRoom])
theorem nb_r_X12_isRoom (g : wx_M) (a1 : Int32) : narrow .boolean (.int (r_X12_isRoom g a1)) = .int (r_X12_isRoom g a1) := by
  unfold r_X12_isRoom
  (first | rfl | exact nb_r_X12_in _ _ _)
def r_X12_isMan (g : wx_M) (a1 : Int32) : Int32 :=
  (r_X12_in a1 0 ((g 65 (3 : Int32).toNatClampNeg) - 1))
set_option maxHeartbeats 4000000 in
set_option maxRecDepth 100000 in
theorem k_X12_isMan (l : Launch) {D : va_G} {cy : Nat → ClassId} {ad : Nat → Nat} {B0 : Nat} {f : wx_F} {P : va_W} (g : wx_M) (a1 : Int32) : Met l yX12_isMan wsX12_isMan ({ frames := 1, cells := 0, slots := 0, locals := 22 } : Room) (wx_Pc D cy ad B0 f P g [.ref (ad 57), .int a1]) (QcRead (r_X12_isMan g a1)) 0 0 (fun _ => False) := by
  refine wx_enterR (cc := cX12_isMan) (maxL := 2) (ty := .boolean) (own := RX12) (lv := [(0, .ref (ad 57)), (1, .int a1)]) (by decide) rfl rfl (Nat.le_of_ble_eq_true rfl) rfl ?_
  intro p e R s m args below meth c ls Qm hx hb hml hown hts hK hX hR hret hl
  have hi_X12 : ∀ w ∈ wsX120, w ∈ wsX12_isMan := by decide +kernel
  refine lv_iload_n hx hb dX12_isMan_0 rfl (lv_at hl 1 rfl) ?_
  refine lv_iconst (v := 0) hx hb dX12_isMan_1 (by decide) ?_
  refine lv_aload_n hx hb dX12_isMan_2 rfl (lv_at hl 0 rfl) ?_
  refine wx_getr (t := 65) (C := RX12) (T := TX12) (N := 27) (ci := 11) (j := 20) hx hb hts hi_X12 hown hK hX (by decide) sh_X12_20 rfl (by decide) (hts (.fieldLink RX12 31 "SeenAgainModel" "now" "[I") (by decide +kernel)) (fun _ h9 => h9) dX12_isMan_3 ?_
  refine lv_iconst (v := 3) hx hb dX12_isMan_6 (by decide) ?_
  refine wx_iald hx hb hK hX (by decide) sa_65 (wb_in (show wx_b 3 3 3 from ⟨by decide, by decide⟩) (by decide) (by decide)) dX12_isMan_7 ?_
  refine lv_iconst (v := 1) hx hb dX12_isMan_8 (by decide) ?_
  refine lv_isub hx hb dX12_isMan_9 ?_
  refine wx_callr (va_runS (As := [.int a1, .int 0, .int ((g 65 (3 : Int32).toNatClampNeg) - 1)]) (rest := []) ⟨hx, hb, hml, hown, hts⟩ (k_X12_in l g a1 0 ((g 65 (3 : Int32).toNatClampNeg) - 1)) (va_cwS 3 hts gX12_isMan_X12_in rfl rfl rfl (by decide +kernel) (by rw [hR]; exact ⟨Nat.le_of_ble_eq_true rfl, Nat.le_of_ble_eq_true rfl⟩)) (wx_Pc.pre hK hX) rfl rfl hl.1 rfl (lv_room (Nat.le_of_ble_eq_true rfl)) dX12_isMan_10 ⟨Nat.zero_le _, Nat.zero_le _⟩) ?_
  exact hret _ _ _ dX12_isMan_13 (nb_r_X12_in _ _ _) (by simp only [r_X12_isMan])
theorem nb_r_X12_isMan (g : wx_M) (a1 : Int32) : narrow .boolean (.int (r_X12_isMan g a1)) = .int (r_X12_isMan g a1) := by
  unfold r_X12_isMan
  (first | rfl | exact nb_r_X12_in _ _ _)
def r_X12_isGuest (g : wx_M) (a1 : Int32) : Int32 :=
  (r_X12_in a1 0 ((g 65 (4 : Int32).toNatClampNeg) - 1))
set_option maxHeartbeats 4000000 in
set_option maxRecDepth 100000 in
theorem k_X12_isGuest (l : Launch) {D : va_G} {cy : Nat → ClassId} {ad : Nat → Nat} {B0 : Nat} {f : wx_F} {P : va_W} (g : wx_M) (a1 : Int32) : Met l yX12_isGuest wsX12_isGuest ({ frames := 1, cells := 0, slots := 0, locals := 22 } : Room) (wx_Pc D cy ad B0 f P g [.ref (ad 57), .int a1]) (QcRead (r_X12_isGuest g a1)) 0 0 (fun _ => False) := by
  refine wx_enterR (cc := cX12_isGuest) (maxL := 2) (ty := .boolean) (own := RX12) (lv := [(0, .ref (ad 57)), (1, .int a1)]) (by decide) rfl rfl (Nat.le_of_ble_eq_true rfl) rfl ?_
  intro p e R s m args below meth c ls Qm hx hb hml hown hts hK hX hR hret hl
  have hi_X12 : ∀ w ∈ wsX120, w ∈ wsX12_isGuest := by decide +kernel
  refine lv_iload_n hx hb dX12_isGuest_0 rfl (lv_at hl 1 rfl) ?_
  refine lv_iconst (v := 0) hx hb dX12_isGuest_1 (by decide) ?_
  refine lv_aload_n hx hb dX12_isGuest_2 rfl (lv_at hl 0 rfl) ?_
  refine wx_getr (t := 65) (C := RX12) (T := TX12) (N := 27) (ci := 11) (j := 20) hx hb hts hi_X12 hown hK hX (by decide) sh_X12_20 rfl (by decide) (hts (.fieldLink RX12 31 "SeenAgainModel" "now" "[I") (by decide +kernel)) (fun _ h9 => h9) dX12_isGuest_3 ?_
  refine lv_iconst (v := 4) hx hb dX12_isGuest_6 (by decide) ?_
  refine wx_iald hx hb hK hX (by decide) sa_65 (wb_in (show wx_b 4 4 4 from ⟨by decide, by decide⟩) (by decide) (by decide)) dX12_isGuest_7 ?_
  refine lv_iconst (v := 1) hx hb dX12_isGuest_8 (by decide) ?_
  refine lv_isub hx hb dX12_isGuest_9 ?_
  refine wx_callr (va_runS (As := [.int a1, .int 0, .int ((g 65 (4 : Int32).toNatClampNeg) - 1)]) (rest := []) ⟨hx, hb, hml, hown, hts⟩ (k_X12_in l g a1 0 ((g 65 (4 : Int32).toNatClampNeg) - 1)) (va_cwS 3 hts gX12_isGuest_X12_in rfl rfl rfl (by decide +kernel) (by rw [hR]; exact ⟨Nat.le_of_ble_eq_true rfl, Nat.le_of_ble_eq_true rfl⟩)) (wx_Pc.pre hK hX) rfl rfl hl.1 rfl (lv_room (Nat.le_of_ble_eq_true rfl)) dX12_isGuest_10 ⟨Nat.zero_le _, Nat.zero_le _⟩) ?_
  exact hret _ _ _ dX12_isGuest_13 (nb_r_X12_in _ _ _) (by simp only [r_X12_isGuest])
theorem nb_r_X12_isGuest (g : wx_M) (a1 : Int32) : narrow .boolean (.int (r_X12_isGuest g a1)) = .int (r_X12_isGuest g a1) := by
  unfold r_X12_isGuest
  (first | rfl | exact nb_r_X12_in _ _ _)
def r_X12_isSet (g : wx_M) (a1 : Int32) : Int32 :=
  (r_X12_in a1 0 ((1 <<< ((g 65 (4 : Int32).toNatClampNeg) &&& 31)) - 1))
set_option maxHeartbeats 4000000 in
set_option maxRecDepth 100000 in
theorem k_X12_isSet (l : Launch) {D : va_G} {cy : Nat → ClassId} {ad : Nat → Nat} {B0 : Nat} {f : wx_F} {P : va_W} (g : wx_M) (a1 : Int32) : Met l yX12_isSet wsX12_isSet ({ frames := 1, cells := 0, slots := 0, locals := 22 } : Room) (wx_Pc D cy ad B0 f P g [.ref (ad 57), .int a1]) (QcRead (r_X12_isSet g a1)) 0 0 (fun _ => False) := by
  refine wx_enterR (cc := cX12_isSet) (maxL := 2) (ty := .boolean) (own := RX12) (lv := [(0, .ref (ad 57)), (1, .int a1)]) (by decide) rfl rfl (Nat.le_of_ble_eq_true rfl) rfl ?_
  intro p e R s m args below meth c ls Qm hx hb hml hown hts hK hX hR hret hl
  have hi_X12 : ∀ w ∈ wsX120, w ∈ wsX12_isSet := by decide +kernel
  refine lv_iload_n hx hb dX12_isSet_0 rfl (lv_at hl 1 rfl) ?_
  refine lv_iconst (v := 0) hx hb dX12_isSet_1 (by decide) ?_
  refine lv_iconst (v := 1) hx hb dX12_isSet_2 (by decide) ?_
  refine lv_aload_n hx hb dX12_isSet_3 rfl (lv_at hl 0 rfl) ?_
  refine wx_getr (t := 65) (C := RX12) (T := TX12) (N := 27) (ci := 11) (j := 20) hx hb hts hi_X12 hown hK hX (by decide) sh_X12_20 rfl (by decide) (hts (.fieldLink RX12 31 "SeenAgainModel" "now" "[I") (by decide +kernel)) (fun _ h9 => h9) dX12_isSet_4 ?_
  refine lv_iconst (v := 4) hx hb dX12_isSet_7 (by decide) ?_
  refine wx_iald hx hb hK hX (by decide) sa_65 (wb_in (show wx_b 4 4 4 from ⟨by decide, by decide⟩) (by decide) (by decide)) dX12_isSet_8 ?_
  refine lv_ishl hx hb dX12_isSet_9 ?_
  refine lv_iconst (v := 1) hx hb dX12_isSet_10 (by decide) ?_
  refine lv_isub hx hb dX12_isSet_11 ?_
  refine wx_callr (va_runS (As := [.int a1, .int 0, .int ((1 <<< ((g 65 (4 : Int32).toNatClampNeg) &&& 31)) - 1)]) (rest := []) ⟨hx, hb, hml, hown, hts⟩ (k_X12_in l g a1 0 ((1 <<< ((g 65 (4 : Int32).toNatClampNeg) &&& 31)) - 1)) (va_cwS 3 hts gX12_isSet_X12_in rfl rfl rfl (by decide +kernel) (by rw [hR]; exact ⟨Nat.le_of_ble_eq_true rfl, Nat.le_of_ble_eq_true rfl⟩)) (wx_Pc.pre hK hX) rfl rfl hl.1 rfl (lv_room (Nat.le_of_ble_eq_true rfl)) dX12_isSet_12 ⟨Nat.zero_le _, Nat.zero_le _⟩) ?_
  exact hret _ _ _ dX12_isSet_15 (nb_r_X12_in _ _ _) (by simp only [r_X12_isSet])
theorem nb_r_X12_isSet (g : wx_M) (a1 : Int32) : narrow .boolean (.int (r_X12_isSet g a1)) = .int (r_X12_isSet g a1) := by
  unfold r_X12_isSet
  (first | rfl | exact nb_r_X12_in _ _ _)
def r_X12_isSeat (g : wx_M) (a1 : Int32) (a2 : Int32) (a3 : Int32) : Int32 :=
  if (r_X12_isGuest g a1) = 0 then
    0
  else
    if (r_X12_isRoom g a2) = 0 then
      0
    else
      if (r_X12_isMinute a3) = 0 then
        0
      else
        1
set_option maxHeartbeats 4000000 in
set_option maxRecDepth 100000 in
theorem k_X12_isSeat (l : Launch) {D : va_G} {cy : Nat → ClassId} {ad : Nat → Nat} {B0 : Nat} {f : wx_F} {P : va_W} (g : wx_M) (a1 : Int32) (a2 : Int32) (a3 : Int32) : Met l yX12_isSeat wsX12_isSeat ({ frames := 2, cells := 0, slots := 0, locals := 43 } : Room) (wx_Pc D cy ad B0 f P g [.ref (ad 57), .int a1, .int a2, .int a3]) (QcRead (r_X12_isSeat g a1 a2 a3)) 0 0 (fun _ => False) := by
  refine wx_enterR (cc := cX12_isSeat) (maxL := 4) (ty := .boolean) (own := RX12) (lv := [(0, .ref (ad 57)), (1, .int a1), (2, .int a2), (3, .int a3)]) (by decide) rfl rfl (Nat.le_of_ble_eq_true rfl) rfl ?_
  intro p e R s m args below meth c ls Qm hx hb hml hown hts hK hX hR hret hl
  refine lv_aload_n hx hb dX12_isSeat_0 rfl (lv_at hl 0 rfl) ?_
  refine lv_iload_n hx hb dX12_isSeat_1 rfl (lv_at hl 1 rfl) ?_
  refine wx_callr (va_runV (As := [.int a1]) (rest := []) ⟨hx, hb, hml, hown, hts⟩ (k_X12_isGuest l g a1) (cwV 1 hts gX12_isSeat_X12_isGuest rfl rfl rfl (by decide +kernel) (by rw [hR]; exact ⟨Nat.le_of_ble_eq_true rfl, Nat.le_of_ble_eq_true rfl⟩)) ⟨wx_Pc.blind, wx_recv hK hX (by decide) sh_X12 rfl, (wx_Pc.pre hK hX).2⟩ rfl rfl hl.1 rfl (lv_room (Nat.le_of_ble_eq_true rfl)) dX12_isSeat_2 ⟨Nat.zero_le _, Nat.zero_le _⟩) ?_
  refine lv_if_eq (tgt := 27) hx hb dX12_isSeat_5 (by decide) (fun c_1 => ?_) (fun c_1 => ?_)
  · have b_2 : wx_b (r_X12_isGuest g a1) 0 0 := by rw [c_1]; exact ⟨by decide, by decide⟩
    refine lv_iconst (v := 0) hx hb dX12_isSeat_27 (by decide) ?_
    exact hret _ _ _ dX12_isSeat_28 rfl (by simp only [r_X12_isSeat, if_pos c_1])
  · refine lv_aload_n hx hb dX12_isSeat_8 rfl (lv_at hl 0 rfl) ?_
    refine lv_iload_n hx hb dX12_isSeat_9 rfl (lv_at hl 2 rfl) ?_
    refine wx_callr (va_runV (As := [.int a2]) (rest := []) ⟨hx, hb, hml, hown, hts⟩ (k_X12_isRoom l g a2) (cwV 1 hts gX12_isSeat_X12_isRoom rfl rfl rfl (by decide +kernel) (by rw [hR]; exact ⟨Nat.le_of_ble_eq_true rfl, Nat.le_of_ble_eq_true rfl⟩)) ⟨wx_Pc.blind, wx_recv hK hX (by decide) sh_X12 rfl, (wx_Pc.pre hK hX).2⟩ rfl rfl hl.1 rfl (lv_room (Nat.le_of_ble_eq_true rfl)) dX12_isSeat_10 ⟨Nat.zero_le _, Nat.zero_le _⟩) ?_
    refine lv_if_eq (tgt := 27) hx hb dX12_isSeat_13 (by decide) (fun c_3 => ?_) (fun c_3 => ?_)
    · have b_4 : wx_b (r_X12_isRoom g a2) 0 0 := by rw [c_3]; exact ⟨by decide, by decide⟩
      refine lv_iconst (v := 0) hx hb dX12_isSeat_27 (by decide) ?_
      exact hret _ _ _ dX12_isSeat_28 rfl (by simp only [r_X12_isSeat, if_neg c_1, if_pos c_3])
    · refine lv_iload_n hx hb dX12_isSeat_16 rfl (lv_at hl 3 rfl) ?_
      refine wx_callr (va_runS (As := [.int a3]) (rest := []) ⟨hx, hb, hml, hown, hts⟩ (k_X12_isMinute l g a3) (va_cwS 1 hts gX12_isSeat_X12_isMinute rfl rfl rfl (by decide +kernel) (by rw [hR]; exact ⟨Nat.le_of_ble_eq_true rfl, Nat.le_of_ble_eq_true rfl⟩)) (wx_Pc.pre hK hX) rfl rfl hl.1 rfl (lv_room (Nat.le_of_ble_eq_true rfl)) dX12_isSeat_17 ⟨Nat.zero_le _, Nat.zero_le _⟩) ?_
      refine lv_if_eq (tgt := 27) hx hb dX12_isSeat_20 (by decide) (fun c_5 => ?_) (fun c_5 => ?_)
      · have b_6 : wx_b (r_X12_isMinute a3) 0 0 := by rw [c_5]; exact ⟨by decide, by decide⟩
        refine lv_iconst (v := 0) hx hb dX12_isSeat_27 (by decide) ?_
        exact hret _ _ _ dX12_isSeat_28 rfl (by simp only [r_X12_isSeat, if_neg c_1, if_neg c_3, if_pos c_5])
      · have b_7 : wx_b a3 0 7 := rf_X12_isMinute  c_5
        refine lv_iconst (v := 1) hx hb dX12_isSeat_23 (by decide) ?_
        refine lv_goto (tgt := 28) hx hb dX12_isSeat_24 (by decide) ?_
        exact hret _ _ _ dX12_isSeat_28 rfl (by simp only [r_X12_isSeat, if_neg c_1, if_neg c_3, if_neg c_5])
theorem nb_r_X12_isSeat (g : wx_M) (a1 : Int32) (a2 : Int32) (a3 : Int32) : narrow .boolean (.int (r_X12_isSeat g a1 a2 a3)) = .int (r_X12_isSeat g a1 a2 a3) := by
  unfold r_X12_isSeat
  (repeat' split) <;> first | rfl | exact nb_r_X12_isGuest _ _ | exact nb_r_X12_isMinute _ | exact nb_r_X12_isRoom _ _
def r_X12_viewOf (g : wx_M) (a1 : Int32) (a2 : Int32) : Int32 :=
  ((1 <<< (a1 &&& 31)) ||| ((g 65 (5 + a1).toNatClampNeg) &&& ((g 65 ((52 + (6 * a2)) + a1).toNatClampNeg) ^^^ (-1))))
set_option maxHeartbeats 4000000 in
set_option maxRecDepth 100000 in
theorem k_X12_viewOf (l : Launch) {D : va_G} {cy : Nat → ClassId} {ad : Nat → Nat} {B0 : Nat} {f : wx_F} {P : va_W} (g : wx_M) (a1 : Int32) (a2 : Int32) (b1 : wx_b a1 0 5) (b2 : wx_b a2 0 7) : Met l yX12_viewOf wsX12_viewOf ({ frames := 0, cells := 0, slots := 0, locals := 0 } : Room) (wx_Pc D cy ad B0 f P g [.ref (ad 57), .int a1, .int a2]) (QcRead (r_X12_viewOf g a1 a2)) 0 0 (fun _ => False) := by
  refine wx_enterR (cc := cX12_viewOf) (maxL := 3) (ty := .int) (own := RX12) (lv := [(0, .ref (ad 57)), (1, .int a1), (2, .int a2)]) (by decide) rfl rfl (Nat.le_of_ble_eq_true rfl) rfl ?_
  intro p e R s m args below meth c ls Qm hx hb hml hown hts hK hX hR hret hl
  have hi_X12 : ∀ w ∈ wsX120, w ∈ wsX12_viewOf := by decide +kernel
  refine lv_iconst (v := 1) hx hb dX12_viewOf_0 (by decide) ?_
  refine lv_iload_n hx hb dX12_viewOf_1 rfl (lv_at hl 1 rfl) ?_
  refine lv_ishl hx hb dX12_viewOf_2 ?_
  refine lv_aload_n hx hb dX12_viewOf_3 rfl (lv_at hl 0 rfl) ?_
  refine wx_getr (t := 65) (C := RX12) (T := TX12) (N := 27) (ci := 11) (j := 20) hx hb hts hi_X12 hown hK hX (by decide) sh_X12_20 rfl (by decide) (hts (.fieldLink RX12 31 "SeenAgainModel" "now" "[I") (by decide +kernel)) (fun _ h9 => h9) dX12_viewOf_4 ?_
  refine lv_iconst (v := 5) hx hb dX12_viewOf_7 (by decide) ?_
  refine lv_iload_n hx hb dX12_viewOf_8 rfl (lv_at hl 1 rfl) ?_
  refine lv_iadd hx hb dX12_viewOf_9 ?_
  refine wx_iald hx hb hK hX (by decide) sa_65 (wb_in (wb_add (show wx_b 5 5 5 from ⟨by decide, by decide⟩) b1 (by decide) (by decide)) (by decide) (by decide)) dX12_viewOf_10 ?_
  refine lv_aload_n hx hb dX12_viewOf_11 rfl (lv_at hl 0 rfl) ?_
  refine wx_getr (t := 65) (C := RX12) (T := TX12) (N := 27) (ci := 11) (j := 20) hx hb hts hi_X12 hown hK hX (by decide) sh_X12_20 rfl (by decide) (hts (.fieldLink RX12 31 "SeenAgainModel" "now" "[I") (by decide +kernel)) (fun _ h9 => h9) dX12_viewOf_12 ?_
  refine lv_bipush (v := 52) hx hb dX12_viewOf_15 (by decide) ?_
  refine lv_bipush (v := 6) hx hb dX12_viewOf_17 (by decide) ?_
  refine lv_iload_n hx hb dX12_viewOf_19 rfl (lv_at hl 2 rfl) ?_
  refine lv_imul hx hb dX12_viewOf_20 ?_
  refine lv_iadd hx hb dX12_viewOf_21 ?_
  refine lv_iload_n hx hb dX12_viewOf_22 rfl (lv_at hl 1 rfl) ?_
  refine lv_iadd hx hb dX12_viewOf_23 ?_
  refine wx_iald hx hb hK hX (by decide) sa_65 (wb_in (wb_add (wb_add (show wx_b 52 52 52 from ⟨by decide, by decide⟩) (wb_mul (show wx_b 6 6 6 from ⟨by decide, by decide⟩) b2 (by decide) (by decide) (by decide)) (by decide) (by decide)) b1 (by decide) (by decide)) (by decide) (by decide)) dX12_viewOf_24 ?_
  refine lv_iconst (v := (-1)) hx hb dX12_viewOf_25 (by decide) ?_
  refine lv_ixor hx hb dX12_viewOf_26 ?_
  refine lv_iand hx hb dX12_viewOf_27 ?_
  refine lv_ior hx hb dX12_viewOf_28 ?_
  exact hret _ _ _ dX12_viewOf_29 rfl (by simp only [r_X12_viewOf])
def r_X12_heldAt (g : wx_M) (a1 : Int32) (a2 : Int32) : Int32 :=
  (g 65 ((100 + (6 * a2)) + a1).toNatClampNeg)
set_option maxHeartbeats 4000000 in
set_option maxRecDepth 100000 in
theorem k_X12_heldAt (l : Launch) {D : va_G} {cy : Nat → ClassId} {ad : Nat → Nat} {B0 : Nat} {f : wx_F} {P : va_W} (g : wx_M) (a1 : Int32) (a2 : Int32) (b1 : wx_b a1 0 5) (b2 : wx_b a2 0 7) : Met l yX12_heldAt wsX12_heldAt ({ frames := 0, cells := 0, slots := 0, locals := 0 } : Room) (wx_Pc D cy ad B0 f P g [.ref (ad 57), .int a1, .int a2]) (QcRead (r_X12_heldAt g a1 a2)) 0 0 (fun _ => False) := by
  refine wx_enterR (cc := cX12_heldAt) (maxL := 3) (ty := .int) (own := RX12) (lv := [(0, .ref (ad 57)), (1, .int a1), (2, .int a2)]) (by decide) rfl rfl (Nat.le_of_ble_eq_true rfl) rfl ?_
  intro p e R s m args below meth c ls Qm hx hb hml hown hts hK hX hR hret hl
  have hi_X12 : ∀ w ∈ wsX120, w ∈ wsX12_heldAt := by decide +kernel
  refine lv_aload_n hx hb dX12_heldAt_0 rfl (lv_at hl 0 rfl) ?_
  refine wx_getr (t := 65) (C := RX12) (T := TX12) (N := 27) (ci := 11) (j := 20) hx hb hts hi_X12 hown hK hX (by decide) sh_X12_20 rfl (by decide) (hts (.fieldLink RX12 31 "SeenAgainModel" "now" "[I") (by decide +kernel)) (fun _ h9 => h9) dX12_heldAt_1 ?_
  refine lv_bipush (v := 100) hx hb dX12_heldAt_4 (by decide) ?_
  refine lv_bipush (v := 6) hx hb dX12_heldAt_6 (by decide) ?_
  refine lv_iload_n hx hb dX12_heldAt_8 rfl (lv_at hl 2 rfl) ?_
  refine lv_imul hx hb dX12_heldAt_9 ?_
  refine lv_iadd hx hb dX12_heldAt_10 ?_
  refine lv_iload_n hx hb dX12_heldAt_11 rfl (lv_at hl 1 rfl) ?_
  refine lv_iadd hx hb dX12_heldAt_12 ?_
  refine wx_iald hx hb hK hX (by decide) sa_65 (wb_in (wb_add (wb_add (show wx_b 100 100 100 from ⟨by decide, by decide⟩) (wb_mul (show wx_b 6 6 6 from ⟨by decide, by decide⟩) b2 (by decide) (by decide) (by decide)) (by decide) (by decide)) b1 (by decide) (by decide)) (by decide) (by decide)) dX12_heldAt_13 ?_
  exact hret _ _ _ dX12_heldAt_14 rfl (by simp only [r_X12_heldAt])
def b_X12_soldOfAll_4 (g : wx_M) (t_4 : Nat) (s_4 : Int32) : Int32 :=
  let x_2 := (s_4 + (r_X12_bits g (g 65 (100 + (nI t_4)).toNatClampNeg)))
  x_2
def r_X12_soldOfAll (g : wx_M) : Int32 :=
  let s_4 := rep 48 (b_X12_soldOfAll_4 g) (0 : Int32)
  s_4
set_option maxHeartbeats 4000000 in
set_option maxRecDepth 100000 in
theorem k_X12_soldOfAll (l : Launch) {D : va_G} {cy : Nat → ClassId} {ad : Nat → Nat} {B0 : Nat} {f : wx_F} {P : va_W} (g : wx_M) : Met l yX12_soldOfAll wsX12_soldOfAll ({ frames := 1, cells := 0, slots := 0, locals := 22 } : Room) (wx_Pc D cy ad B0 f P g [.ref (ad 57)]) (QcRead (r_X12_soldOfAll g)) 0 0 (fun _ => False) := by
  refine wx_enterR (cc := cX12_soldOfAll) (maxL := 3) (ty := .int) (own := RX12) (lv := [(0, .ref (ad 57))]) (by decide) rfl rfl (Nat.le_of_ble_eq_true rfl) rfl ?_
  intro p e R s m args below meth c ls Qm hx hb hml hown hts hK hX hR hret hl
  have hi_X12 : ∀ w ∈ wsX120, w ∈ wsX12_soldOfAll := by decide +kernel
  refine lv_iconst (v := 0) hx hb dX12_soldOfAll_0 (by decide) ?_
  refine lv_istore_n (lv' := [(1, .int 0), (0, .ref (ad 57))]) hx hb dX12_soldOfAll_1 rfl hl (by decide) rfl (fun ls hl => ?_)
  refine lv_iconst (v := 0) hx hb dX12_soldOfAll_2 (by decide) ?_
  refine lv_istore_n (lv' := [(2, .int 0), (1, .int 0), (0, .ref (ad 57))]) hx hb dX12_soldOfAll_3 rfl hl (by decide) rfl (fun ls hl => ?_)
  have lp_4 : ∀ (n t_4 : Nat) (s_4 : Int32) (ls : Array Slot), t_4 ≤ 48 → 48 + 1 ≤ t_4 + n → s_4 = rep t_4 (b_X12_soldOfAll_4 g) (0 : Int32) → lv_has ls 3 [(2, .int (nI t_4)), (1, .int s_4), (0, .ref (ad 57))] → W p l e R s m args below meth c s.heap [] 0 0 Qm (F0 m 4 ls []) := by
    intro n
    induction n with
    | zero => intro t_4 s_4 ls h1 h2; exact absurd h2 (by omega)
    | succ n ih_4 =>
      intro t_4 s_4 ls ht_4 hn_4 es_4 hl
      refine lv_iload_n hx hb dX12_soldOfAll_4 rfl (lv_at hl 0 rfl) ?_
      refine lv_bipush (v := 48) hx hb dX12_soldOfAll_5 (by decide) ?_
      refine lv_icmp_ge (tgt := 31) hx hb dX12_soldOfAll_7 (by decide) (fun c_1 => ?_) (fun c_1 => ?_)
      · have et_4 : t_4 = 48 := Nat.le_antisymm ht_4 (by have h9 := wx_dn (by omega) c_1; have h8 : (48 : Int32).toNatClampNeg = 48 := (by decide); omega)
        subst et_4
        refine lv_iload_n hx hb dX12_soldOfAll_31 rfl (lv_at hl 1 rfl) ?_
        exact hret _ _ _ dX12_soldOfAll_32 rfl (by simp only [r_X12_soldOfAll, ← es_4])
      · have hlt_4 : t_4 < 48 := by have h9 := wx_up (by omega) c_1; have h8 : (48 : Int32).toNatClampNeg = 48 := (by decide); omega
        have bt_4 : wx_b (nI (t_4)) 0 47 := wb_nI (n := 47) (by omega) (by decide)
        refine lv_iload_n hx hb dX12_soldOfAll_10 rfl (lv_at hl 1 rfl) ?_
        refine lv_aload_n hx hb dX12_soldOfAll_11 rfl (lv_at hl 2 rfl) ?_
        refine wx_getr (t := 65) (C := RX12) (T := TX12) (N := 27) (ci := 11) (j := 20) hx hb hts hi_X12 hown hK hX (by decide) sh_X12_20 rfl (by decide) (hts (.fieldLink RX12 31 "SeenAgainModel" "now" "[I") (by decide +kernel)) (fun _ h9 => h9) dX12_soldOfAll_12 ?_
        refine lv_bipush (v := 100) hx hb dX12_soldOfAll_15 (by decide) ?_
        refine lv_iload_n hx hb dX12_soldOfAll_17 rfl (lv_at hl 0 rfl) ?_
        refine lv_iadd hx hb dX12_soldOfAll_18 ?_
        refine wx_iald hx hb hK hX (by decide) sa_65 (wb_in (wb_add (show wx_b 100 100 100 from ⟨by decide, by decide⟩) bt_4 (by decide) (by decide)) (by decide) (by decide)) dX12_soldOfAll_19 ?_
        refine wx_callr (va_runS (As := [.int (g 65 (100 + (nI t_4)).toNatClampNeg)]) (rest := [.int s_4]) ⟨hx, hb, hml, hown, hts⟩ (k_X12_bits l g (g 65 (100 + (nI t_4)).toNatClampNeg)) (va_cwS 1 hts gX12_soldOfAll_X12_bits rfl rfl rfl (by decide +kernel) (by rw [hR]; exact ⟨Nat.le_of_ble_eq_true rfl, Nat.le_of_ble_eq_true rfl⟩)) (wx_Pc.pre hK hX) rfl rfl hl.1 rfl (lv_room (Nat.le_of_ble_eq_true rfl)) dX12_soldOfAll_20 ⟨Nat.zero_le _, Nat.zero_le _⟩) ?_
        refine lv_iadd hx hb dX12_soldOfAll_23 ?_
        refine lv_topi (fun x_2 ex_2 => ?_)
        refine lv_istore_n (lv' := [(1, .int x_2), (2, .int (nI t_4)), (0, .ref (ad 57))]) hx hb dX12_soldOfAll_24 rfl hl (by decide) rfl (fun ls hl => ?_)
        refine lv_iinc (v := nI (t_4 + 1)) (lv' := [(2, .int (nI (t_4 + 1))), (1, .int x_2), (0, .ref (ad 57))]) hx hb dX12_soldOfAll_25 hl (k := 1) rfl (wx_inc _) (by decide) rfl (fun ls hl => ?_)
        refine lv_goto (tgt := 4) hx hb dX12_soldOfAll_28 (by decide) ?_
        have hF_3 : (b_X12_soldOfAll_4 g) t_4 s_4 = x_2 := (by subst ex_2; simp only [b_X12_soldOfAll_4])
        exact ih_4 (t_4 + 1) x_2 ls hlt_4 (by omega) (by rw [rep_succ, ← es_4, hF_3]) (lv_sub hl [0, 1, 2] rfl)
  exact lp_4 (48 + 1) 0 (0 : Int32) ls (Nat.zero_le _) (by omega) rfl (lv_sub hl [0, 1, 2] rfl)
def r_X12_isLeft (g : wx_M) (a1 : Int32) (a2 : Int32) : Int32 :=
  if (g 65 (1 : Int32).toNatClampNeg) ≤ (r_X12_bits g (r_X12_heldAt g a1 a2)) then
    0
  else
    1
set_option maxHeartbeats 4000000 in
set_option maxRecDepth 100000 in
theorem k_X12_isLeft (l : Launch) {D : va_G} {cy : Nat → ClassId} {ad : Nat → Nat} {B0 : Nat} {f : wx_F} {P : va_W} (g : wx_M) (a1 : Int32) (a2 : Int32) (b1 : wx_b a1 0 5) (b2 : wx_b a2 0 7) : Met l yX12_isLeft wsX12_isLeft ({ frames := 1, cells := 0, slots := 0, locals := 22 } : Room) (wx_Pc D cy ad B0 f P g [.ref (ad 57), .int a1, .int a2]) (QcRead (r_X12_isLeft g a1 a2)) 0 0 (fun _ => False) := by
  refine wx_enterR (cc := cX12_isLeft) (maxL := 3) (ty := .boolean) (own := RX12) (lv := [(0, .ref (ad 57)), (1, .int a1), (2, .int a2)]) (by decide) rfl rfl (Nat.le_of_ble_eq_true rfl) rfl ?_
  intro p e R s m args below meth c ls Qm hx hb hml hown hts hK hX hR hret hl
  have hi_X12 : ∀ w ∈ wsX120, w ∈ wsX12_isLeft := by decide +kernel
  refine lv_aload_n hx hb dX12_isLeft_0 rfl (lv_at hl 0 rfl) ?_
  refine lv_iload_n hx hb dX12_isLeft_1 rfl (lv_at hl 1 rfl) ?_
  refine lv_iload_n hx hb dX12_isLeft_2 rfl (lv_at hl 2 rfl) ?_
  refine wx_callr (va_runV (As := [.int a1, .int a2]) (rest := []) ⟨hx, hb, hml, hown, hts⟩ (k_X12_heldAt l g a1 a2 b1 b2) (cwV 2 hts gX12_isLeft_X12_heldAt rfl rfl rfl (by decide +kernel) (by rw [hR]; exact ⟨Nat.le_of_ble_eq_true rfl, Nat.le_of_ble_eq_true rfl⟩)) ⟨wx_Pc.blind, wx_recv hK hX (by decide) sh_X12 rfl, (wx_Pc.pre hK hX).2⟩ rfl rfl hl.1 rfl (lv_room (Nat.le_of_ble_eq_true rfl)) dX12_isLeft_3 ⟨Nat.zero_le _, Nat.zero_le _⟩) ?_
  refine wx_callr (va_runS (As := [.int (r_X12_heldAt g a1 a2)]) (rest := []) ⟨hx, hb, hml, hown, hts⟩ (k_X12_bits l g (r_X12_heldAt g a1 a2)) (va_cwS 1 hts gX12_isLeft_X12_bits rfl rfl rfl (by decide +kernel) (by rw [hR]; exact ⟨Nat.le_of_ble_eq_true rfl, Nat.le_of_ble_eq_true rfl⟩)) (wx_Pc.pre hK hX) rfl rfl hl.1 rfl (lv_room (Nat.le_of_ble_eq_true rfl)) dX12_isLeft_6 ⟨Nat.zero_le _, Nat.zero_le _⟩) ?_
  refine lv_aload_n hx hb dX12_isLeft_9 rfl (lv_at hl 0 rfl) ?_
  refine wx_getr (t := 65) (C := RX12) (T := TX12) (N := 27) (ci := 11) (j := 20) hx hb hts hi_X12 hown hK hX (by decide) sh_X12_20 rfl (by decide) (hts (.fieldLink RX12 31 "SeenAgainModel" "now" "[I") (by decide +kernel)) (fun _ h9 => h9) dX12_isLeft_10 ?_
  refine lv_iconst (v := 1) hx hb dX12_isLeft_13 (by decide) ?_
  refine wx_iald hx hb hK hX (by decide) sa_65 (wb_in (show wx_b 1 1 1 from ⟨by decide, by decide⟩) (by decide) (by decide)) dX12_isLeft_14 ?_
  refine lv_icmp_ge (tgt := 22) hx hb dX12_isLeft_15 (by decide) (fun c_1 => ?_) (fun c_1 => ?_)
  · refine lv_iconst (v := 0) hx hb dX12_isLeft_22 (by decide) ?_
    exact hret _ _ _ dX12_isLeft_23 rfl (by simp only [r_X12_isLeft, if_pos c_1])
  · have b_2 : wx_b (r_X12_bits g (r_X12_heldAt g a1 a2)) (-2147483648) 2147483646 := wb_lt (wb_nle c_1) (wb_any _) (wb_any _) (by decide) (by decide)
    have b_3 : wx_b (g 65 (1 : Int32).toNatClampNeg) (-2147483647) 2147483647 := wb_gt (wb_nle c_1) (wb_any _) (wb_any _) (by decide) (by decide)
    refine lv_iconst (v := 1) hx hb dX12_isLeft_18 (by decide) ?_
    refine lv_goto (tgt := 23) hx hb dX12_isLeft_19 (by decide) ?_
    exact hret _ _ _ dX12_isLeft_23 rfl (by simp only [r_X12_isLeft, if_neg c_1])
theorem nb_r_X12_isLeft (g : wx_M) (a1 : Int32) (a2 : Int32) : narrow .boolean (.int (r_X12_isLeft g a1 a2)) = .int (r_X12_isLeft g a1 a2) := by
  unfold r_X12_isLeft
  (repeat' split) <;> rfl
def r_X12_was (g : wx_M) (a1 : Int32) (a2 : Int32) : Int32 :=
  (g 65 ((11 + (8 * a1)) + a2).toNatClampNeg)
set_option maxHeartbeats 4000000 in
set_option maxRecDepth 100000 in
theorem k_X12_was (l : Launch) {D : va_G} {cy : Nat → ClassId} {ad : Nat → Nat} {B0 : Nat} {f : wx_F} {P : va_W} (g : wx_M) (a1 : Int32) (a2 : Int32) (b1 : wx_b a1 0 3) (b2 : wx_b a2 0 7) : Met l yX12_was wsX12_was ({ frames := 0, cells := 0, slots := 0, locals := 0 } : Room) (wx_Pc D cy ad B0 f P g [.ref (ad 57), .int a1, .int a2]) (QcRead (r_X12_was g a1 a2)) 0 0 (fun _ => False) := by
  refine wx_enterR (cc := cX12_was) (maxL := 3) (ty := .int) (own := RX12) (lv := [(0, .ref (ad 57)), (1, .int a1), (2, .int a2)]) (by decide) rfl rfl (Nat.le_of_ble_eq_true rfl) rfl ?_
  intro p e R s m args below meth c ls Qm hx hb hml hown hts hK hX hR hret hl
  have hi_X12 : ∀ w ∈ wsX120, w ∈ wsX12_was := by decide +kernel
  refine lv_aload_n hx hb dX12_was_0 rfl (lv_at hl 0 rfl) ?_
  refine wx_getr (t := 65) (C := RX12) (T := TX12) (N := 27) (ci := 11) (j := 20) hx hb hts hi_X12 hown hK hX (by decide) sh_X12_20 rfl (by decide) (hts (.fieldLink RX12 31 "SeenAgainModel" "now" "[I") (by decide +kernel)) (fun _ h9 => h9) dX12_was_1 ?_
  refine lv_bipush (v := 11) hx hb dX12_was_4 (by decide) ?_
  refine lv_bipush (v := 8) hx hb dX12_was_6 (by decide) ?_
  refine lv_iload_n hx hb dX12_was_8 rfl (lv_at hl 1 rfl) ?_
  refine lv_imul hx hb dX12_was_9 ?_
  refine lv_iadd hx hb dX12_was_10 ?_
  refine lv_iload_n hx hb dX12_was_11 rfl (lv_at hl 2 rfl) ?_
  refine lv_iadd hx hb dX12_was_12 ?_
  refine wx_iald hx hb hK hX (by decide) sa_65 (wb_in (wb_add (wb_add (show wx_b 11 11 11 from ⟨by decide, by decide⟩) (wb_mul (show wx_b 8 8 8 from ⟨by decide, by decide⟩) b1 (by decide) (by decide) (by decide)) (by decide) (by decide)) b2 (by decide) (by decide)) (by decide) (by decide)) dX12_was_13 ?_
  exact hret _ _ _ dX12_was_14 rfl (by simp only [r_X12_was])
def b_X12_drawnOfAll_4 (g : wx_M) (t_4 : Nat) (s_4 : Int32) : Int32 :=
  let x_2 := (s_4 + (r_X12_bits g (g 65 (52 + (nI t_4)).toNatClampNeg)))
  x_2
def r_X12_drawnOfAll (g : wx_M) : Int32 :=
  let s_4 := rep 48 (b_X12_drawnOfAll_4 g) (0 : Int32)
  (s_4 / 2)
set_option maxHeartbeats 4000000 in
set_option maxRecDepth 100000 in
theorem k_X12_drawnOfAll (l : Launch) {D : va_G} {cy : Nat → ClassId} {ad : Nat → Nat} {B0 : Nat} {f : wx_F} {P : va_W} (g : wx_M) : Met l yX12_drawnOfAll wsX12_drawnOfAll ({ frames := 1, cells := 0, slots := 0, locals := 22 } : Room) (wx_Pc D cy ad B0 f P g [.ref (ad 57)]) (QcRead (r_X12_drawnOfAll g)) 0 0 (fun _ => False) := by
  refine wx_enterR (cc := cX12_drawnOfAll) (maxL := 3) (ty := .int) (own := RX12) (lv := [(0, .ref (ad 57))]) (by decide) rfl rfl (Nat.le_of_ble_eq_true rfl) rfl ?_
  intro p e R s m args below meth c ls Qm hx hb hml hown hts hK hX hR hret hl
  have hi_X12 : ∀ w ∈ wsX120, w ∈ wsX12_drawnOfAll := by decide +kernel
  refine lv_iconst (v := 0) hx hb dX12_drawnOfAll_0 (by decide) ?_
  refine lv_istore_n (lv' := [(1, .int 0), (0, .ref (ad 57))]) hx hb dX12_drawnOfAll_1 rfl hl (by decide) rfl (fun ls hl => ?_)
  refine lv_iconst (v := 0) hx hb dX12_drawnOfAll_2 (by decide) ?_
  refine lv_istore_n (lv' := [(2, .int 0), (1, .int 0), (0, .ref (ad 57))]) hx hb dX12_drawnOfAll_3 rfl hl (by decide) rfl (fun ls hl => ?_)
  have lp_4 : ∀ (n t_4 : Nat) (s_4 : Int32) (ls : Array Slot), t_4 ≤ 48 → 48 + 1 ≤ t_4 + n → s_4 = rep t_4 (b_X12_drawnOfAll_4 g) (0 : Int32) → lv_has ls 3 [(2, .int (nI t_4)), (1, .int s_4), (0, .ref (ad 57))] → W p l e R s m args below meth c s.heap [] 0 0 Qm (F0 m 4 ls []) := by
    intro n
    induction n with
    | zero => intro t_4 s_4 ls h1 h2; exact absurd h2 (by omega)
    | succ n ih_4 =>
      intro t_4 s_4 ls ht_4 hn_4 es_4 hl
      refine lv_iload_n hx hb dX12_drawnOfAll_4 rfl (lv_at hl 0 rfl) ?_
      refine lv_bipush (v := 48) hx hb dX12_drawnOfAll_5 (by decide) ?_
      refine lv_icmp_ge (tgt := 31) hx hb dX12_drawnOfAll_7 (by decide) (fun c_1 => ?_) (fun c_1 => ?_)
      · have et_4 : t_4 = 48 := Nat.le_antisymm ht_4 (by have h9 := wx_dn (by omega) c_1; have h8 : (48 : Int32).toNatClampNeg = 48 := (by decide); omega)
        subst et_4
        refine lv_iload_n hx hb dX12_drawnOfAll_31 rfl (lv_at hl 1 rfl) ?_
        refine lv_iconst (v := 2) hx hb dX12_drawnOfAll_32 (by decide) ?_
        refine lv_idiv hx hb dX12_drawnOfAll_33 (by decide) ?_
        exact hret _ _ _ dX12_drawnOfAll_34 rfl (by simp only [r_X12_drawnOfAll, ← es_4])
      · have hlt_4 : t_4 < 48 := by have h9 := wx_up (by omega) c_1; have h8 : (48 : Int32).toNatClampNeg = 48 := (by decide); omega
        have bt_4 : wx_b (nI (t_4)) 0 47 := wb_nI (n := 47) (by omega) (by decide)
        refine lv_iload_n hx hb dX12_drawnOfAll_10 rfl (lv_at hl 1 rfl) ?_
        refine lv_aload_n hx hb dX12_drawnOfAll_11 rfl (lv_at hl 2 rfl) ?_
        refine wx_getr (t := 65) (C := RX12) (T := TX12) (N := 27) (ci := 11) (j := 20) hx hb hts hi_X12 hown hK hX (by decide) sh_X12_20 rfl (by decide) (hts (.fieldLink RX12 31 "SeenAgainModel" "now" "[I") (by decide +kernel)) (fun _ h9 => h9) dX12_drawnOfAll_12 ?_
        refine lv_bipush (v := 52) hx hb dX12_drawnOfAll_15 (by decide) ?_
        refine lv_iload_n hx hb dX12_drawnOfAll_17 rfl (lv_at hl 0 rfl) ?_
        refine lv_iadd hx hb dX12_drawnOfAll_18 ?_
        refine wx_iald hx hb hK hX (by decide) sa_65 (wb_in (wb_add (show wx_b 52 52 52 from ⟨by decide, by decide⟩) bt_4 (by decide) (by decide)) (by decide) (by decide)) dX12_drawnOfAll_19 ?_
        refine wx_callr (va_runS (As := [.int (g 65 (52 + (nI t_4)).toNatClampNeg)]) (rest := [.int s_4]) ⟨hx, hb, hml, hown, hts⟩ (k_X12_bits l g (g 65 (52 + (nI t_4)).toNatClampNeg)) (va_cwS 1 hts gX12_drawnOfAll_X12_bits rfl rfl rfl (by decide +kernel) (by rw [hR]; exact ⟨Nat.le_of_ble_eq_true rfl, Nat.le_of_ble_eq_true rfl⟩)) (wx_Pc.pre hK hX) rfl rfl hl.1 rfl (lv_room (Nat.le_of_ble_eq_true rfl)) dX12_drawnOfAll_20 ⟨Nat.zero_le _, Nat.zero_le _⟩) ?_
        refine lv_iadd hx hb dX12_drawnOfAll_23 ?_
        refine lv_topi (fun x_2 ex_2 => ?_)
        refine lv_istore_n (lv' := [(1, .int x_2), (2, .int (nI t_4)), (0, .ref (ad 57))]) hx hb dX12_drawnOfAll_24 rfl hl (by decide) rfl (fun ls hl => ?_)
        refine lv_iinc (v := nI (t_4 + 1)) (lv' := [(2, .int (nI (t_4 + 1))), (1, .int x_2), (0, .ref (ad 57))]) hx hb dX12_drawnOfAll_25 hl (k := 1) rfl (wx_inc _) (by decide) rfl (fun ls hl => ?_)
        refine lv_goto (tgt := 4) hx hb dX12_drawnOfAll_28 (by decide) ?_
        have hF_3 : (b_X12_drawnOfAll_4 g) t_4 s_4 = x_2 := (by subst ex_2; simp only [b_X12_drawnOfAll_4])
        exact ih_4 (t_4 + 1) x_2 ls hlt_4 (by omega) (by rw [rep_succ, ← es_4, hF_3]) (lv_sub hl [0, 1, 2] rfl)
  exact lp_4 (48 + 1) 0 (0 : Int32) ls (Nat.zero_le _) (by omega) rfl (lv_sub hl [0, 1, 2] rfl)
def b_X12_heldBy_4 (g : wx_M) (a1 : Int32) (t_4 : Nat) (s_4 : Int32) : Int32 :=
  let x_2 := (s_4 + (((g 65 (100 + (nI t_4)).toNatClampNeg) >>> (a1 &&& 31)) &&& 1))
  x_2
def r_X12_heldBy (g : wx_M) (a1 : Int32) : Int32 :=
  let s_4 := rep 48 (b_X12_heldBy_4 g a1) (0 : Int32)
  s_4
set_option maxHeartbeats 4000000 in
set_option maxRecDepth 100000 in
theorem k_X12_heldBy (l : Launch) {D : va_G} {cy : Nat → ClassId} {ad : Nat → Nat} {B0 : Nat} {f : wx_F} {P : va_W} (g : wx_M) (a1 : Int32) : Met l yX12_heldBy wsX12_heldBy ({ frames := 0, cells := 0, slots := 0, locals := 0 } : Room) (wx_Pc D cy ad B0 f P g [.ref (ad 57), .int a1]) (QcRead (r_X12_heldBy g a1)) 0 0 (fun _ => False) := by
  refine wx_enterR (cc := cX12_heldBy) (maxL := 4) (ty := .int) (own := RX12) (lv := [(0, .ref (ad 57)), (1, .int a1)]) (by decide) rfl rfl (Nat.le_of_ble_eq_true rfl) rfl ?_
  intro p e R s m args below meth c ls Qm hx hb hml hown hts hK hX hR hret hl
  have hi_X12 : ∀ w ∈ wsX120, w ∈ wsX12_heldBy := by decide +kernel
  refine lv_iconst (v := 0) hx hb dX12_heldBy_0 (by decide) ?_
  refine lv_istore_n (lv' := [(2, .int 0), (0, .ref (ad 57)), (1, .int a1)]) hx hb dX12_heldBy_1 rfl hl (by decide) rfl (fun ls hl => ?_)
  refine lv_iconst (v := 0) hx hb dX12_heldBy_2 (by decide) ?_
  refine lv_istore_n (lv' := [(3, .int 0), (2, .int 0), (0, .ref (ad 57)), (1, .int a1)]) hx hb dX12_heldBy_3 rfl hl (by decide) rfl (fun ls hl => ?_)
  have lp_4 : ∀ (n t_4 : Nat) (s_4 : Int32) (ls : Array Slot), t_4 ≤ 48 → 48 + 1 ≤ t_4 + n → s_4 = rep t_4 (b_X12_heldBy_4 g a1) (0 : Int32) → lv_has ls 4 [(3, .int (nI t_4)), (2, .int s_4), (0, .ref (ad 57)), (1, .int a1)] → W p l e R s m args below meth c s.heap [] 0 0 Qm (F0 m 4 ls []) := by
    intro n
    induction n with
    | zero => intro t_4 s_4 ls h1 h2; exact absurd h2 (by omega)
    | succ n ih_4 =>
      intro t_4 s_4 ls ht_4 hn_4 es_4 hl
      refine lv_iload_n hx hb dX12_heldBy_4 rfl (lv_at hl 0 rfl) ?_
      refine lv_bipush (v := 48) hx hb dX12_heldBy_5 (by decide) ?_
      refine lv_icmp_ge (tgt := 32) hx hb dX12_heldBy_7 (by decide) (fun c_1 => ?_) (fun c_1 => ?_)
      · have et_4 : t_4 = 48 := Nat.le_antisymm ht_4 (by have h9 := wx_dn (by omega) c_1; have h8 : (48 : Int32).toNatClampNeg = 48 := (by decide); omega)
        subst et_4
        refine lv_iload_n hx hb dX12_heldBy_32 rfl (lv_at hl 1 rfl) ?_
        exact hret _ _ _ dX12_heldBy_33 rfl (by simp only [r_X12_heldBy, ← es_4])
      · have hlt_4 : t_4 < 48 := by have h9 := wx_up (by omega) c_1; have h8 : (48 : Int32).toNatClampNeg = 48 := (by decide); omega
        have bt_4 : wx_b (nI (t_4)) 0 47 := wb_nI (n := 47) (by omega) (by decide)
        refine lv_iload_n hx hb dX12_heldBy_10 rfl (lv_at hl 1 rfl) ?_
        refine lv_aload_n hx hb dX12_heldBy_11 rfl (lv_at hl 2 rfl) ?_
        refine wx_getr (t := 65) (C := RX12) (T := TX12) (N := 27) (ci := 11) (j := 20) hx hb hts hi_X12 hown hK hX (by decide) sh_X12_20 rfl (by decide) (hts (.fieldLink RX12 31 "SeenAgainModel" "now" "[I") (by decide +kernel)) (fun _ h9 => h9) dX12_heldBy_12 ?_
        refine lv_bipush (v := 100) hx hb dX12_heldBy_15 (by decide) ?_
        refine lv_iload_n hx hb dX12_heldBy_17 rfl (lv_at hl 0 rfl) ?_
        refine lv_iadd hx hb dX12_heldBy_18 ?_
        refine wx_iald hx hb hK hX (by decide) sa_65 (wb_in (wb_add (show wx_b 100 100 100 from ⟨by decide, by decide⟩) bt_4 (by decide) (by decide)) (by decide) (by decide)) dX12_heldBy_19 ?_
        refine lv_iload_n hx hb dX12_heldBy_20 rfl (lv_at hl 3 rfl) ?_
        refine lv_ishr hx hb dX12_heldBy_21 ?_
        refine lv_iconst (v := 1) hx hb dX12_heldBy_22 (by decide) ?_
        refine lv_iand hx hb dX12_heldBy_23 ?_
        refine lv_iadd hx hb dX12_heldBy_24 ?_
        refine lv_topi (fun x_2 ex_2 => ?_)
        refine lv_istore_n (lv' := [(2, .int x_2), (3, .int (nI t_4)), (0, .ref (ad 57)), (1, .int a1)]) hx hb dX12_heldBy_25 rfl hl (by decide) rfl (fun ls hl => ?_)
        refine lv_iinc (v := nI (t_4 + 1)) (lv' := [(3, .int (nI (t_4 + 1))), (2, .int x_2), (0, .ref (ad 57)), (1, .int a1)]) hx hb dX12_heldBy_26 hl (k := 1) rfl (wx_inc _) (by decide) rfl (fun ls hl => ?_)
        refine lv_goto (tgt := 4) hx hb dX12_heldBy_29 (by decide) ?_
        have hF_3 : (b_X12_heldBy_4 g a1) t_4 s_4 = x_2 := (by subst ex_2; simp only [b_X12_heldBy_4])
        exact ih_4 (t_4 + 1) x_2 ls hlt_4 (by omega) (by rw [rep_succ, ← es_4, hF_3]) (lv_sub hl [0, 1, 2, 3] rfl)
  exact lp_4 (48 + 1) 0 (0 : Int32) ls (Nat.zero_le _) (by omega) rfl (lv_sub hl [0, 1, 2, 3] rfl)
def e_X12_draw (g : wx_M) (a1 : Int32) (a2 : Int32) (a3 : Int32) : wx_M :=
  let x_1 := ((g 65 ((52 + (6 * a3)) + a1).toNatClampNeg) ^^^ (1 <<< (a2 &&& 31)))
  let g_2 := up2 g 65 ((52 + (6 * a3)) + a1).toNatClampNeg x_1
  let x_3 := ((g_2 65 ((52 + (6 * a3)) + a2).toNatClampNeg) ^^^ (1 <<< (a1 &&& 31)))
  let g_4 := up2 g_2 65 ((52 + (6 * a3)) + a2).toNatClampNeg x_3
  g_4
set_option maxHeartbeats 4000000 in
set_option maxRecDepth 100000 in
theorem k_X12_draw (l : Launch) {D : va_G} {cy : Nat → ClassId} {ad : Nat → Nat} {B0 : Nat} {f : wx_F} {P : va_W} (g : wx_M) (a1 : Int32) (a2 : Int32) (a3 : Int32) (b1 : wx_b a1 0 5) (b2 : wx_b a2 0 5) (b3 : wx_b a3 0 7) : Met l yX12_draw wsX12_draw ({ frames := 0, cells := 0, slots := 0, locals := 0 } : Room) (wx_Pc D cy ad B0 f P g [.ref (ad 57), .int a1, .int a2, .int a3]) (wx_Qe D cy ad B0 f P (e_X12_draw g a1 a2 a3) none) 0 0 (fun q => B0 ≤ q) := by
  refine wx_enterV (cc := cX12_draw) (maxL := 4) (own := RX12) (lv := [(0, .ref (ad 57)), (1, .int a1), (2, .int a2), (3, .int a3)]) (by decide) rfl rfl (Nat.le_of_ble_eq_true rfl) rfl ?_
  intro p e R s m args below meth c ls Qm hx hb hml hown hts hK hX hS hR hret hl
  have hi_X12 : ∀ w ∈ wsX120, w ∈ wsX12_draw := by decide +kernel
  refine lv_aload_n hx hb dX12_draw_0 rfl (lv_at hl 0 rfl) ?_
  refine wx_getr (t := 65) (C := RX12) (T := TX12) (N := 27) (ci := 11) (j := 20) hx hb hts hi_X12 hown hK hX (by decide) sh_X12_20 rfl (by decide) (hts (.fieldLink RX12 31 "SeenAgainModel" "now" "[I") (by decide +kernel)) (fun _ h9 => h9) dX12_draw_1 ?_
  refine lv_bipush (v := 52) hx hb dX12_draw_4 (by decide) ?_
  refine lv_bipush (v := 6) hx hb dX12_draw_6 (by decide) ?_
  refine lv_iload_n hx hb dX12_draw_8 rfl (lv_at hl 3 rfl) ?_
  refine lv_imul hx hb dX12_draw_9 ?_
  refine lv_iadd hx hb dX12_draw_10 ?_
  refine lv_iload_n hx hb dX12_draw_11 rfl (lv_at hl 1 rfl) ?_
  refine lv_iadd hx hb dX12_draw_12 ?_
  refine lv_aload_n hx hb dX12_draw_13 rfl (lv_at hl 0 rfl) ?_
  refine wx_getr (t := 65) (C := RX12) (T := TX12) (N := 27) (ci := 11) (j := 20) hx hb hts hi_X12 hown hK hX (by decide) sh_X12_20 rfl (by decide) (hts (.fieldLink RX12 31 "SeenAgainModel" "now" "[I") (by decide +kernel)) (fun _ h9 => h9) dX12_draw_14 ?_
  refine lv_bipush (v := 52) hx hb dX12_draw_17 (by decide) ?_
  refine lv_bipush (v := 6) hx hb dX12_draw_19 (by decide) ?_
  refine lv_iload_n hx hb dX12_draw_21 rfl (lv_at hl 3 rfl) ?_
  refine lv_imul hx hb dX12_draw_22 ?_
  refine lv_iadd hx hb dX12_draw_23 ?_
  refine lv_iload_n hx hb dX12_draw_24 rfl (lv_at hl 1 rfl) ?_
  refine lv_iadd hx hb dX12_draw_25 ?_
  refine wx_iald hx hb hK hX (by decide) sa_65 (wb_in (wb_add (wb_add (show wx_b 52 52 52 from ⟨by decide, by decide⟩) (wb_mul (show wx_b 6 6 6 from ⟨by decide, by decide⟩) b3 (by decide) (by decide) (by decide)) (by decide) (by decide)) b1 (by decide) (by decide)) (by decide) (by decide)) dX12_draw_26 ?_
  refine lv_iconst (v := 1) hx hb dX12_draw_27 (by decide) ?_
  refine lv_iload_n hx hb dX12_draw_28 rfl (lv_at hl 2 rfl) ?_
  refine lv_ishl hx hb dX12_draw_29 ?_
  refine lv_ixor hx hb dX12_draw_30 ?_
  refine lv_topi (fun x_1 ex_1 => ?_)
  refine wx_iast hx hb hK hX hS (by decide) sa_65 (wb_in (wb_add (wb_add (show wx_b 52 52 52 from ⟨by decide, by decide⟩) (wb_mul (show wx_b 6 6 6 from ⟨by decide, by decide⟩) b3 (by decide) (by decide) (by decide)) (by decide) (by decide)) b1 (by decide) (by decide)) (by decide) (by decide)) dX12_draw_31 (fun H locs hX hS => ?_)
  obtain ⟨g_2, eg_2, hX⟩ := wx_nm hX
  refine lv_aload_n hx hb dX12_draw_32 rfl (lv_at hl 0 rfl) ?_
  refine wx_getr (t := 65) (C := RX12) (T := TX12) (N := 27) (ci := 11) (j := 20) hx hb hts hi_X12 hown hK hX (by decide) sh_X12_20 rfl (by decide) (hts (.fieldLink RX12 31 "SeenAgainModel" "now" "[I") (by decide +kernel)) (fun _ h9 => h9) dX12_draw_33 ?_
  refine lv_bipush (v := 52) hx hb dX12_draw_36 (by decide) ?_
  refine lv_bipush (v := 6) hx hb dX12_draw_38 (by decide) ?_
  refine lv_iload_n hx hb dX12_draw_40 rfl (lv_at hl 3 rfl) ?_
  refine lv_imul hx hb dX12_draw_41 ?_
  refine lv_iadd hx hb dX12_draw_42 ?_
  refine lv_iload_n hx hb dX12_draw_43 rfl (lv_at hl 2 rfl) ?_
  refine lv_iadd hx hb dX12_draw_44 ?_
  refine lv_aload_n hx hb dX12_draw_45 rfl (lv_at hl 0 rfl) ?_
  refine wx_getr (t := 65) (C := RX12) (T := TX12) (N := 27) (ci := 11) (j := 20) hx hb hts hi_X12 hown hK hX (by decide) sh_X12_20 rfl (by decide) (hts (.fieldLink RX12 31 "SeenAgainModel" "now" "[I") (by decide +kernel)) (fun _ h9 => h9) dX12_draw_46 ?_
  refine lv_bipush (v := 52) hx hb dX12_draw_49 (by decide) ?_
  refine lv_bipush (v := 6) hx hb dX12_draw_51 (by decide) ?_
  refine lv_iload_n hx hb dX12_draw_53 rfl (lv_at hl 3 rfl) ?_
  refine lv_imul hx hb dX12_draw_54 ?_
  refine lv_iadd hx hb dX12_draw_55 ?_
  refine lv_iload_n hx hb dX12_draw_56 rfl (lv_at hl 2 rfl) ?_
  refine lv_iadd hx hb dX12_draw_57 ?_
  refine wx_iald hx hb hK hX (by decide) sa_65 (wb_in (wb_add (wb_add (show wx_b 52 52 52 from ⟨by decide, by decide⟩) (wb_mul (show wx_b 6 6 6 from ⟨by decide, by decide⟩) b3 (by decide) (by decide) (by decide)) (by decide) (by decide)) b2 (by decide) (by decide)) (by decide) (by decide)) dX12_draw_58 ?_
  refine lv_iconst (v := 1) hx hb dX12_draw_59 (by decide) ?_
  refine lv_iload_n hx hb dX12_draw_60 rfl (lv_at hl 1 rfl) ?_
  refine lv_ishl hx hb dX12_draw_61 ?_
  refine lv_ixor hx hb dX12_draw_62 ?_
  refine lv_topi (fun x_3 ex_3 => ?_)
  refine wx_iast hx hb hK hX hS (by decide) sa_65 (wb_in (wb_add (wb_add (show wx_b 52 52 52 from ⟨by decide, by decide⟩) (wb_mul (show wx_b 6 6 6 from ⟨by decide, by decide⟩) b3 (by decide) (by decide) (by decide)) (by decide) (by decide)) b2 (by decide) (by decide)) (by decide) (by decide)) dX12_draw_63 (fun H locs hX hS => ?_)
  obtain ⟨g_4, eg_4, hX⟩ := wx_nm hX
  exact hret _ _ _ _ _ dX12_draw_64 hX hS (by subst eg_4 ex_3 eg_2 ex_1; simp only [e_X12_draw])

theorem rf_X12_isRoom {g : wx_M} {v : Int32} (hm : wx_MB g) (c : ¬ r_X12_isRoom g v = 0) : wx_b v 0 5 := rf_X12_in (la := 0) (ha := 0) ⟨by decide, by decide⟩ (wb_sub hm.1 (show wx_b 1 1 1 from ⟨by decide, by decide⟩) (by decide) (by decide)) c
theorem rf_X12_isMan {g : wx_M} {v : Int32} (hm : wx_MB g) (c : ¬ r_X12_isMan g v = 0) : wx_b v 0 3 := rf_X12_in (la := 0) (ha := 0) ⟨by decide, by decide⟩ (wb_sub hm.2.1 (show wx_b 1 1 1 from ⟨by decide, by decide⟩) (by decide) (by decide)) c
theorem rf_X12_isGuest {g : wx_M} {v : Int32} (hm : wx_MB g) (c : ¬ r_X12_isGuest g v = 0) : wx_b v 0 3 := rf_X12_in (la := 0) (ha := 0) ⟨by decide, by decide⟩ (wb_sub hm.2.2 (show wx_b 1 1 1 from ⟨by decide, by decide⟩) (by decide) (by decide)) c
theorem rf_X12_isSeat {g : wx_M} {v r m : Int32} (c : ¬ r_X12_isSeat g v r m = 0) : (¬ r_X12_isGuest g v = 0) ∧ (¬ r_X12_isRoom g r = 0) ∧ (¬ r_X12_isMinute m = 0) := by
  simp only [r_X12_isSeat] at c
  split at c
  · exact absurd rfl c
  · rename_i c1
    split at c
    · exact absurd rfl c
    · rename_i c2
      split at c
      · exact absurd rfl c
      · rename_i c3
        exact ⟨c1, c2, c3⟩
theorem rf_X12_isSeat1 {g : wx_M} {v r m : Int32} (hm : wx_MB g) (c : ¬ r_X12_isSeat g v r m = 0) : wx_b v 0 3 := rf_X12_isGuest hm (rf_X12_isSeat c).1
theorem rf_X12_isSeat2 {g : wx_M} {v r m : Int32} (hm : wx_MB g) (c : ¬ r_X12_isSeat g v r m = 0) : wx_b r 0 5 := rf_X12_isRoom hm (rf_X12_isSeat c).2.1
theorem rf_X12_isSeat3 {g : wx_M} {v r m : Int32} (hm : wx_MB g) (c : ¬ r_X12_isSeat g v r m = 0) : wx_b m 0 7 := rf_X12_isMinute (rf_X12_isSeat c).2.2
theorem rf_X3_isRoom {g : wx_M} {h : Nat} {v : Int32} (hg : wx_HB g h) (c : ¬ r_X3_isRoom g h v = 0) : wx_b v 0 5 := by
  simp only [r_X3_isRoom] at c
  split at c
  · exact absurd rfl c
  · rename_i c1
    split at c
    · exact absurd rfl c
    · rename_i c2
      exact wb_lt (wb_nle c2) (wb_ge (wb_nlt c1) (wb_any _) (show wx_b 0 0 0 from ⟨by decide, by decide⟩) (a1 := 0) (b1 := 2147483647) (by decide) (by decide)) hg.1 (by decide) (by decide)
theorem rf_X3_isPerson {g : wx_M} {h : Nat} {v : Int32} (hg : wx_HB g h) (c : ¬ r_X3_isPerson g h v = 0) : wx_b v 0 3 := by
  simp only [r_X3_isPerson] at c
  split at c
  · exact absurd rfl c
  · rename_i c1
    split at c
    · exact absurd rfl c
    · rename_i c2
      exact wb_lt (wb_nle c2) (wb_ge (wb_nlt c1) (wb_any _) (show wx_b 0 0 0 from ⟨by decide, by decide⟩) (a1 := 0) (b1 := 2147483647) (by decide) (by decide)) hg.2.1 (by decide) (by decide)
theorem rf_X3_isVisitor {g : wx_M} {h : Nat} {v : Int32} (hg : wx_HB g h) (c : ¬ r_X3_isVisitor g h v = 0) : wx_b v 0 3 := by
  simp only [r_X3_isVisitor] at c
  split at c
  · exact absurd rfl c
  · rename_i c1
    split at c
    · exact absurd rfl c
    · rename_i c2
      exact wb_lt (wb_nle c2) (wb_ge (wb_nlt c1) (wb_any _) (show wx_b 0 0 0 from ⟨by decide, by decide⟩) (a1 := 0) (b1 := 2147483647) (by decide) (by decide)) hg.2.2 (by decide) (by decide)
theorem rf_X11_isRow {v : Int32} (c : ¬ r_X11_isRow v = 0) : wx_b v 0 7 := by
  simp only [r_X11_isRow] at c
  split at c
  · exact absurd rfl c
  · rename_i c1
    split at c
    · exact absurd rfl c
    · rename_i c2
      exact wb_lt (wb_nle c2) (wb_ge (wb_nlt c1) (wb_any _) (show wx_b 0 0 0 from ⟨by decide, by decide⟩) (a1 := 0) (b1 := 2147483647) (by decide) (by decide)) (show wx_b 8 8 8 from ⟨by decide, by decide⟩) (by decide) (by decide)
theorem rf_X11_isMinute {v : Int32} (c : ¬ r_X11_isMinute v = 0) : wx_b v 0 7 := rf_X11_isRow c
theorem rf_X11_isMinuteSet {v : Int32} (c : ¬ r_X11_isMinuteSet v = 0) : wx_b v 0 255 := by
  simp only [r_X11_isMinuteSet] at c
  split at c
  · exact absurd rfl c
  · rename_i c1
    split at c
    · exact absurd rfl c
    · rename_i c2
      exact wb_le (wb_nlt c2) (wb_ge (wb_nlt c1) (wb_any _) (show wx_b 0 0 0 from ⟨by decide, by decide⟩) (a1 := 0) (b1 := 2147483647) (by decide) (by decide)) (show wx_b 255 255 255 from ⟨by decide, by decide⟩) (by decide) (by decide)
