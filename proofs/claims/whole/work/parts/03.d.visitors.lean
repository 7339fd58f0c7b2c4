def r_X9_priceFrom (a1 : Int32) : Int32 :=
  a1
set_option maxHeartbeats 4000000 in
set_option maxRecDepth 100000 in
theorem k_X9_priceFrom (l : Launch) {D : va_G} {cy : Nat → ClassId} {ad : Nat → Nat} {B0 : Nat} {f : wx_F} {P : va_W} {q : Nat} {pi : Nat} {ci : Nat} (g : wx_M) (kd : Int32) (n : Int32) (a1 : Int32) (a2 : Int32) (hp : P[pi]? = some (q, (Sum.inr (ci, [Value.int n]) : va_E))) (hv : wx_v kd ci) : Met l yX9_priceFrom wsX9_priceFrom ({ frames := 0, cells := 0, slots := 0, locals := 0 } : Room) (wx_Pc D cy ad B0 f P g [.ref q, .int a1, .int a2]) (QcRead (r_X9_priceFrom a1)) 0 0 (fun _ => False) := by
  refine wx_enterR (cc := cX9_priceFrom) (maxL := 3) (ty := .int) (own := RX9) (lv := [(0, .ref q), (1, .int a1), (2, .int a2)]) (by decide) rfl rfl (Nat.le_of_ble_eq_true rfl) rfl ?_
  intro p e R s m args below meth c ls Qm hx hb hml hown hts hK hX hR hret hl
  refine lv_iload_n hx hb dX9_priceFrom_0 rfl (lv_at hl 1 rfl) ?_
  exact hret _ _ _ dX9_priceFrom_1 rfl (by simp only [r_X9_priceFrom])
def r_X4_priceFrom (a1 : Int32) : Int32 :=
  (a1 + 1)
set_option maxHeartbeats 4000000 in
set_option maxRecDepth 100000 in
theorem k_X4_priceFrom (l : Launch) {D : va_G} {cy : Nat → ClassId} {ad : Nat → Nat} {B0 : Nat} {f : wx_F} {P : va_W} {q : Nat} {pi : Nat} {ci : Nat} (g : wx_M) (kd : Int32) (n : Int32) (a1 : Int32) (a2 : Int32) (hp : P[pi]? = some (q, (Sum.inr (ci, [Value.int n]) : va_E))) (hv : wx_v kd ci) : Met l yX4_priceFrom wsX4_priceFrom ({ frames := 0, cells := 0, slots := 0, locals := 0 } : Room) (wx_Pc D cy ad B0 f P g [.ref q, .int a1, .int a2]) (QcRead (r_X4_priceFrom a1)) 0 0 (fun _ => False) := by
  refine wx_enterR (cc := cX4_priceFrom) (maxL := 3) (ty := .int) (own := RX4) (lv := [(0, .ref q), (1, .int a1), (2, .int a2)]) (by decide) rfl rfl (Nat.le_of_ble_eq_true rfl) rfl ?_
  intro p e R s m args below meth c ls Qm hx hb hml hown hts hK hX hR hret hl
  refine lv_iload_n hx hb dX4_priceFrom_0 rfl (lv_at hl 1 rfl) ?_
  refine lv_iconst (v := 1) hx hb dX4_priceFrom_1 (by decide) ?_
  refine lv_iadd hx hb dX4_priceFrom_2 ?_
  exact hret _ _ _ dX4_priceFrom_3 rfl (by simp only [r_X4_priceFrom])
def r_X1_priceFrom (a1 : Int32) : Int32 :=
  (a1 / 2)
set_option maxHeartbeats 4000000 in
set_option maxRecDepth 100000 in
theorem k_X1_priceFrom (l : Launch) {D : va_G} {cy : Nat → ClassId} {ad : Nat → Nat} {B0 : Nat} {f : wx_F} {P : va_W} {q : Nat} {pi : Nat} {ci : Nat} (g : wx_M) (kd : Int32) (n : Int32) (a1 : Int32) (a2 : Int32) (hp : P[pi]? = some (q, (Sum.inr (ci, [Value.int n]) : va_E))) (hv : wx_v kd ci) : Met l yX1_priceFrom wsX1_priceFrom ({ frames := 0, cells := 0, slots := 0, locals := 0 } : Room) (wx_Pc D cy ad B0 f P g [.ref q, .int a1, .int a2]) (QcRead (r_X1_priceFrom a1)) 0 0 (fun _ => False) := by
  refine wx_enterR (cc := cX1_priceFrom) (maxL := 3) (ty := .int) (own := RX1) (lv := [(0, .ref q), (1, .int a1), (2, .int a2)]) (by decide) rfl rfl (Nat.le_of_ble_eq_true rfl) rfl ?_
  intro p e R s m args below meth c ls Qm hx hb hml hown hts hK hX hR hret hl
  refine lv_iload_n hx hb dX1_priceFrom_0 rfl (lv_at hl 1 rfl) ?_
  refine lv_iconst (v := 2) hx hb dX1_priceFrom_1 (by decide) ?_
  refine lv_idiv hx hb dX1_priceFrom_2 (by decide) ?_
  exact hret _ _ _ dX1_priceFrom_3 rfl (by simp only [r_X1_priceFrom])
def r_X10_priceFrom (a1 : Int32) : Int32 :=
  (if 0 < (a1 - 1) then (a1 - 1) else 0)
set_option maxHeartbeats 4000000 in
set_option maxRecDepth 100000 in
theorem k_X10_priceFrom (l : Launch) {D : va_G} {cy : Nat → ClassId} {ad : Nat → Nat} {B0 : Nat} {f : wx_F} {P : va_W} {q : Nat} {pi : Nat} {ci : Nat} (g : wx_M) (kd : Int32) (n : Int32) (a1 : Int32) (a2 : Int32) (hp : P[pi]? = some (q, (Sum.inr (ci, [Value.int n]) : va_E))) (hv : wx_v kd ci) : Met l yX10_priceFrom wsX10_priceFrom ({ frames := 1, cells := 0, slots := 0, locals := 29 } : Room) (wx_Pc D cy ad B0 f P g [.ref q, .int a1, .int a2]) (QcRead (r_X10_priceFrom a1)) 0 0 (fun _ => False) := by
  refine wx_enterR (cc := cX10_priceFrom) (maxL := 3) (ty := .int) (own := RX10) (lv := [(0, .ref q), (1, .int a1), (2, .int a2)]) (by decide) rfl rfl (Nat.le_of_ble_eq_true rfl) rfl ?_
  intro p e R s m args below meth c ls Qm hx hb hml hown hts hK hX hR hret hl
  refine lv_iconst (v := 0) hx hb dX10_priceFrom_0 (by decide) ?_
  refine lv_iload_n hx hb dX10_priceFrom_1 rfl (lv_at hl 1 rfl) ?_
  refine lv_iconst (v := 1) hx hb dX10_priceFrom_2 (by decide) ?_
  refine lv_isub hx hb dX10_priceFrom_3 ?_
  refine va_mmax hx hb (hml.trans hl.1.symm) hown (hts (.methodLink RX10 9 Lib.Math.max.name) (by decide +kernel)) (hts (.static Lib.Math.max.name) (by decide +kernel)) (hts (.initialized "java/lang/Math") (by decide +kernel)) (hts (.code Lib.Math.max.name Lib.Math.max.code 2 (some .int)) (by decide +kernel)) (by rw [hR]; exact Nat.le_of_ble_eq_true rfl) (by rw [hR]; exact Nat.le_of_ble_eq_true rfl) (Nat.zero_le _) (Nat.zero_le _) dX10_priceFrom_4 ?_
  exact hret _ _ _ dX10_priceFrom_7 rfl (by simp only [r_X10_priceFrom])
def r_X2_priceFrom (a1 : Int32) (a2 : Int32) : Int32 :=
  if a2 = 0 then
    (r_X10_priceFrom a1)
  else
    0
set_option maxHeartbeats 4000000 in
set_option maxRecDepth 100000 in
theorem k_X2_priceFrom (l : Launch) {D : va_G} {cy : Nat → ClassId} {ad : Nat → Nat} {B0 : Nat} {f : wx_F} {P : va_W} {q : Nat} {pi : Nat} {ci : Nat} (g : wx_M) (kd : Int32) (n : Int32) (a1 : Int32) (a2 : Int32) (hp : P[pi]? = some (q, (Sum.inr (ci, [Value.int n]) : va_E))) (hv : wx_v kd ci) : Met l yX2_priceFrom wsX2_priceFrom ({ frames := 2, cells := 0, slots := 0, locals := 51 } : Room) (wx_Pc D cy ad B0 f P g [.ref q, .int a1, .int a2]) (QcRead (r_X2_priceFrom a1 a2)) 0 0 (fun _ => False) := by
  refine wx_enterR (cc := cX2_priceFrom) (maxL := 3) (ty := .int) (own := RX2) (lv := [(0, .ref q), (1, .int a1), (2, .int a2)]) (by decide) rfl rfl (Nat.le_of_ble_eq_true rfl) rfl ?_
  intro p e R s m args below meth c ls Qm hx hb hml hown hts hK hX hR hret hl
  refine lv_iload_n hx hb dX2_priceFrom_0 rfl (lv_at hl 2 rfl) ?_
  refine lv_if_eq (tgt := 8) hx hb dX2_priceFrom_1 (by decide) (fun c_1 => ?_) (fun c_1 => ?_)
  · have b_2 : wx_b a2 0 0 := by rw [c_1]; exact ⟨by decide, by decide⟩
    refine lv_aload_n hx hb dX2_priceFrom_8 rfl (lv_at hl 0 rfl) ?_
    refine lv_iload_n hx hb dX2_priceFrom_9 rfl (lv_at hl 1 rfl) ?_
    refine lv_iload_n hx hb dX2_priceFrom_10 rfl (lv_at hl 2 rfl) ?_
    obtain ⟨Cq, Tq, Nq, hcq⟩ := wx_v.cl hv
    refine wx_callr (va_runSU (As := [.int a1, .int a2]) (rest := []) (hK.1.1 _ _ hcq).2 ⟨hx, hb, hml, hown, hts⟩ (k_X10_priceFrom l g kd n a1 a2 hp hv) (va_cwSU 2 hts gX2_priceFrom_X10_priceFrom_s9 rfl rfl rfl (by decide +kernel) (by rw [hR]; exact ⟨Nat.le_of_ble_eq_true rfl, Nat.le_of_ble_eq_true rfl⟩)) ⟨wx_Pc.blind, wx_recvP hK hX hp hcq, (wx_Pc.pre hK hX).2⟩ rfl rfl hl.1 rfl (lv_room (Nat.le_of_ble_eq_true rfl)) dX2_priceFrom_11 ⟨Nat.zero_le _, Nat.zero_le _⟩) ?_
    exact hret _ _ _ dX2_priceFrom_14 rfl (by simp only [r_X2_priceFrom, if_pos c_1])
  · refine lv_iconst (v := 0) hx hb dX2_priceFrom_4 (by decide) ?_
    refine lv_goto (tgt := 14) hx hb dX2_priceFrom_5 (by decide) ?_
    exact hret _ _ _ dX2_priceFrom_14 rfl (by simp only [r_X2_priceFrom, if_neg c_1])
def r_X9_tells (a1 : Int32) : Int32 :=
  a1
set_option maxHeartbeats 4000000 in
set_option maxRecDepth 100000 in
theorem k_X9_tells (l : Launch) {D : va_G} {cy : Nat → ClassId} {ad : Nat → Nat} {B0 : Nat} {f : wx_F} {P : va_W} {q : Nat} {pi : Nat} {ci : Nat} (g : wx_M) (kd : Int32) (n : Int32) (a1 : Int32) (a2 : Int32) (hp : P[pi]? = some (q, (Sum.inr (ci, [Value.int n]) : va_E))) (hv : wx_v kd ci) : Met l yX9_tells wsX9_tells ({ frames := 0, cells := 0, slots := 0, locals := 0 } : Room) (wx_Pc D cy ad B0 f P g [.ref q, .int a1, .int a2]) (QcRead (r_X9_tells a1)) 0 0 (fun _ => False) := by
  refine wx_enterR (cc := cX9_tells) (maxL := 3) (ty := .int) (own := RX9) (lv := [(0, .ref q), (1, .int a1), (2, .int a2)]) (by decide) rfl rfl (Nat.le_of_ble_eq_true rfl) rfl ?_
  intro p e R s m args below meth c ls Qm hx hb hml hown hts hK hX hR hret hl
  refine lv_iload_n hx hb dX9_tells_0 rfl (lv_at hl 1 rfl) ?_
  exact hret _ _ _ dX9_tells_1 rfl (by simp only [r_X9_tells])
def r_X4_tells (a1 : Int32) (a2 : Int32) : Int32 :=
  if a2 ≤ (a1 + 1) then
    0
  else
    (a1 + 1)
set_option maxHeartbeats 4000000 in
set_option maxRecDepth 100000 in
theorem k_X4_tells (l : Launch) {D : va_G} {cy : Nat → ClassId} {ad : Nat → Nat} {B0 : Nat} {f : wx_F} {P : va_W} {q : Nat} {pi : Nat} {ci : Nat} (g : wx_M) (kd : Int32) (n : Int32) (a1 : Int32) (a2 : Int32) (hp : P[pi]? = some (q, (Sum.inr (ci, [Value.int n]) : va_E))) (hv : wx_v kd ci) : Met l yX4_tells wsX4_tells ({ frames := 0, cells := 0, slots := 0, locals := 0 } : Room) (wx_Pc D cy ad B0 f P g [.ref q, .int a1, .int a2]) (QcRead (r_X4_tells a1 a2)) 0 0 (fun _ => False) := by
  refine wx_enterR (cc := cX4_tells) (maxL := 3) (ty := .int) (own := RX4) (lv := [(0, .ref q), (1, .int a1), (2, .int a2)]) (by decide) rfl rfl (Nat.le_of_ble_eq_true rfl) rfl ?_
  intro p e R s m args below meth c ls Qm hx hb hml hown hts hK hX hR hret hl
  refine lv_iload_n hx hb dX4_tells_0 rfl (lv_at hl 1 rfl) ?_
  refine lv_iconst (v := 1) hx hb dX4_tells_1 (by decide) ?_
  refine lv_iadd hx hb dX4_tells_2 ?_
  refine lv_iload_n hx hb dX4_tells_3 rfl (lv_at hl 2 rfl) ?_
  refine lv_icmp_ge (tgt := 13) hx hb dX4_tells_4 (by decide) (fun c_1 => ?_) (fun c_1 => ?_)
  · refine lv_iconst (v := 0) hx hb dX4_tells_13 (by decide) ?_
    exact hret _ _ _ dX4_tells_14 rfl (by simp only [r_X4_tells, if_pos c_1])
  · have b_2 : wx_b (a1 + 1) (-2147483648) 2147483646 := wb_lt (wb_nle c_1) (wb_any _) (wb_any _) (by decide) (by decide)
    have b_3 : wx_b a2 (-2147483647) 2147483647 := wb_gt (wb_nle c_1) (wb_any _) (wb_any _) (by decide) (by decide)
    refine lv_iload_n hx hb dX4_tells_7 rfl (lv_at hl 1 rfl) ?_
    refine lv_iconst (v := 1) hx hb dX4_tells_8 (by decide) ?_
    refine lv_iadd hx hb dX4_tells_9 ?_
    refine lv_goto (tgt := 14) hx hb dX4_tells_10 (by decide) ?_
    exact hret _ _ _ dX4_tells_14 rfl (by simp only [r_X4_tells, if_neg c_1])
def r_X7_kindNumber  : Int32 :=
  1
set_option maxHeartbeats 4000000 in
set_option maxRecDepth 100000 in
theorem k_X7_kindNumber (l : Launch) {D : va_G} {cy : Nat → ClassId} {ad : Nat → Nat} {B0 : Nat} {f : wx_F} {P : va_W} {q : Nat} {pi : Nat} {ci : Nat} (g : wx_M) (kd : Int32) (n : Int32) (hp : P[pi]? = some (q, (Sum.inr (ci, [Value.int n]) : va_E))) (hv : wx_v kd ci) : Met l yX7_kindNumber wsX7_kindNumber ({ frames := 0, cells := 0, slots := 0, locals := 0 } : Room) (wx_Pc D cy ad B0 f P g [.ref q]) (QcRead (r_X7_kindNumber)) 0 0 (fun _ => False) := by
  refine wx_enterR (cc := cX7_kindNumber) (maxL := 1) (ty := .int) (own := RX7) (lv := [(0, .ref q)]) (by decide) rfl rfl (Nat.le_of_ble_eq_true rfl) rfl ?_
  intro p e R s m args below meth c ls Qm hx hb hml hown hts hK hX hR hret hl
  refine lv_iconst (v := 1) hx hb dX7_kindNumber_0 (by decide) ?_
  exact hret _ _ _ dX7_kindNumber_1 rfl (by simp only [r_X7_kindNumber])
def r_X4_kindNumber  : Int32 :=
  2
set_option maxHeartbeats 4000000 in
set_option maxRecDepth 100000 in
theorem k_X4_kindNumber (l : Launch) {D : va_G} {cy : Nat → ClassId} {ad : Nat → Nat} {B0 : Nat} {f : wx_F} {P : va_W} {q : Nat} {pi : Nat} {ci : Nat} (g : wx_M) (kd : Int32) (n : Int32) (hp : P[pi]? = some (q, (Sum.inr (ci, [Value.int n]) : va_E))) (hv : wx_v kd ci) : Met l yX4_kindNumber wsX4_kindNumber ({ frames := 0, cells := 0, slots := 0, locals := 0 } : Room) (wx_Pc D cy ad B0 f P g [.ref q]) (QcRead (r_X4_kindNumber)) 0 0 (fun _ => False) := by
  refine wx_enterR (cc := cX4_kindNumber) (maxL := 1) (ty := .int) (own := RX4) (lv := [(0, .ref q)]) (by decide) rfl rfl (Nat.le_of_ble_eq_true rfl) rfl ?_
  intro p e R s m args below meth c ls Qm hx hb hml hown hts hK hX hR hret hl
  refine lv_iconst (v := 2) hx hb dX4_kindNumber_0 (by decide) ?_
  exact hret _ _ _ dX4_kindNumber_1 rfl (by simp only [r_X4_kindNumber])
def r_X1_kindNumber  : Int32 :=
  3
set_option maxHeartbeats 4000000 in
set_option maxRecDepth 100000 in
theorem k_X1_kindNumber (l : Launch) {D : va_G} {cy : Nat → ClassId} {ad : Nat → Nat} {B0 : Nat} {f : wx_F} {P : va_W} {q : Nat} {pi : Nat} {ci : Nat} (g : wx_M) (kd : Int32) (n : Int32) (hp : P[pi]? = some (q, (Sum.inr (ci, [Value.int n]) : va_E))) (hv : wx_v kd ci) : Met l yX1_kindNumber wsX1_kindNumber ({ frames := 0, cells := 0, slots := 0, locals := 0 } : Room) (wx_Pc D cy ad B0 f P g [.ref q]) (QcRead (r_X1_kindNumber)) 0 0 (fun _ => False) := by
  refine wx_enterR (cc := cX1_kindNumber) (maxL := 1) (ty := .int) (own := RX1) (lv := [(0, .ref q)]) (by decide) rfl rfl (Nat.le_of_ble_eq_true rfl) rfl ?_
  intro p e R s m args below meth c ls Qm hx hb hml hown hts hK hX hR hret hl
  refine lv_iconst (v := 3) hx hb dX1_kindNumber_0 (by decide) ?_
  exact hret _ _ _ dX1_kindNumber_1 rfl (by simp only [r_X1_kindNumber])
def r_X10_kindNumber  : Int32 :=
  4
set_option maxHeartbeats 4000000 in
set_option maxRecDepth 100000 in
theorem k_X10_kindNumber (l : Launch) {D : va_G} {cy : Nat → ClassId} {ad : Nat → Nat} {B0 : Nat} {f : wx_F} {P : va_W} {q : Nat} {pi : Nat} {ci : Nat} (g : wx_M) (kd : Int32) (n : Int32) (hp : P[pi]? = some (q, (Sum.inr (ci, [Value.int n]) : va_E))) (hv : wx_v kd ci) : Met l yX10_kindNumber wsX10_kindNumber ({ frames := 0, cells := 0, slots := 0, locals := 0 } : Room) (wx_Pc D cy ad B0 f P g [.ref q]) (QcRead (r_X10_kindNumber)) 0 0 (fun _ => False) := by
  refine wx_enterR (cc := cX10_kindNumber) (maxL := 1) (ty := .int) (own := RX10) (lv := [(0, .ref q)]) (by decide) rfl rfl (Nat.le_of_ble_eq_true rfl) rfl ?_
  intro p e R s m args below meth c ls Qm hx hb hml hown hts hK hX hR hret hl
  refine lv_iconst (v := 4) hx hb dX10_kindNumber_0 (by decide) ?_
  exact hret _ _ _ dX10_kindNumber_1 rfl (by simp only [r_X10_kindNumber])
def r_X2_kindNumber  : Int32 :=
  5
set_option maxHeartbeats 4000000 in
set_option maxRecDepth 100000 in
theorem k_X2_kindNumber (l : Launch) {D : va_G} {cy : Nat → ClassId} {ad : Nat → Nat} {B0 : Nat} {f : wx_F} {P : va_W} {q : Nat} {pi : Nat} {ci : Nat} (g : wx_M) (kd : Int32) (n : Int32) (hp : P[pi]? = some (q, (Sum.inr (ci, [Value.int n]) : va_E))) (hv : wx_v kd ci) : Met l yX2_kindNumber wsX2_kindNumber ({ frames := 0, cells := 0, slots := 0, locals := 0 } : Room) (wx_Pc D cy ad B0 f P g [.ref q]) (QcRead (r_X2_kindNumber)) 0 0 (fun _ => False) := by
  refine wx_enterR (cc := cX2_kindNumber) (maxL := 1) (ty := .int) (own := RX2) (lv := [(0, .ref q)]) (by decide) rfl rfl (Nat.le_of_ble_eq_true rfl) rfl ?_
  intro p e R s m args below meth c ls Qm hx hb hml hown hts hK hX hR hret hl
  refine lv_iconst (v := 5) hx hb dX2_kindNumber_0 (by decide) ?_
  exact hret _ _ _ dX2_kindNumber_1 rfl (by simp only [r_X2_kindNumber])
def r_X3_priceFor (g : wx_M) (h : Nat) (a1 : Int32) (a2 : Int32) (a3 : Int32) : Int32 :=
  if (r_X11_has (g h 8) a3) = 0 then
    let x_3 := (if 0 < (((g h 2) + (r_X3_heldOf g h a2 a3)) - 0) then (((g h 2) + (r_X3_heldOf g h a2 a3)) - 0) else 0)
    if (g h 4) ≤ 0 then
      if (g (h + 6) a1.toNatClampNeg) = 1 then
        (r_X9_priceFrom x_3)
      else
        if (g (h + 6) a1.toNatClampNeg) = 2 then
          (r_X4_priceFrom x_3)
        else
          if (g (h + 6) a1.toNatClampNeg) = 3 then
            (r_X1_priceFrom x_3)
          else
            if (g (h + 6) a1.toNatClampNeg) = 4 then
              (r_X10_priceFrom x_3)
            else
              (r_X2_priceFrom x_3 0)
    else
      if (g (h + 4) a3.toNatClampNeg) = a2 then
        if (g (h + 6) a1.toNatClampNeg) = 1 then
          (r_X9_priceFrom x_3)
        else
          if (g (h + 6) a1.toNatClampNeg) = 2 then
            (r_X4_priceFrom x_3)
          else
            if (g (h + 6) a1.toNatClampNeg) = 3 then
              (r_X1_priceFrom x_3)
            else
              if (g (h + 6) a1.toNatClampNeg) = 4 then
                (r_X10_priceFrom x_3)
              else
                (r_X2_priceFrom x_3 1)
      else
        if (g (h + 6) a1.toNatClampNeg) = 1 then
          (r_X9_priceFrom x_3)
        else
          if (g (h + 6) a1.toNatClampNeg) = 2 then
            (r_X4_priceFrom x_3)
          else
            if (g (h + 6) a1.toNatClampNeg) = 3 then
              (r_X1_priceFrom x_3)
            else
              if (g (h + 6) a1.toNatClampNeg) = 4 then
                (r_X10_priceFrom x_3)
              else
                (r_X2_priceFrom x_3 0)
  else
    let x_56 := (if 0 < (((g h 2) + (r_X3_heldOf g h a2 a3)) - 2) then (((g h 2) + (r_X3_heldOf g h a2 a3)) - 2) else 0)
    if (g h 4) ≤ 0 then
      if (g (h + 6) a1.toNatClampNeg) = 1 then
        (r_X9_priceFrom x_56)
      else
        if (g (h + 6) a1.toNatClampNeg) = 2 then
          (r_X4_priceFrom x_56)
        else
          if (g (h + 6) a1.toNatClampNeg) = 3 then
            (r_X1_priceFrom x_56)
          else
            if (g (h + 6) a1.toNatClampNeg) = 4 then
              (r_X10_priceFrom x_56)
            else
              (r_X2_priceFrom x_56 0)
    else
      if (g (h + 4) a3.toNatClampNeg) = a2 then
        if (g (h + 6) a1.toNatClampNeg) = 1 then
          (r_X9_priceFrom x_56)
        else
          if (g (h + 6) a1.toNatClampNeg) = 2 then
            (r_X4_priceFrom x_56)
          else
            if (g (h + 6) a1.toNatClampNeg) = 3 then
              (r_X1_priceFrom x_56)
            else
              if (g (h + 6) a1.toNatClampNeg) = 4 then
                (r_X10_priceFrom x_56)
              else
                (r_X2_priceFrom x_56 1)
      else
        if (g (h + 6) a1.toNatClampNeg) = 1 then
          (r_X9_priceFrom x_56)
        else
          if (g (h + 6) a1.toNatClampNeg) = 2 then
            (r_X4_priceFrom x_56)
          else
            if (g (h + 6) a1.toNatClampNeg) = 3 then
              (r_X1_priceFrom x_56)
            else
              if (g (h + 6) a1.toNatClampNeg) = 4 then
                (r_X10_priceFrom x_56)
              else
                (r_X2_priceFrom x_56 0)
set_option maxHeartbeats 4000000 in
set_option maxRecDepth 100000 in
theorem k_X3_priceFor (l : Launch) {D : va_G} {cy : Nat → ClassId} {ad : Nat → Nat} {B0 : Nat} {f : wx_F} {P : va_W} (g : wx_M) (h : Nat) (a1 : Int32) (a2 : Int32) (a3 : Int32) (hh : wx_H h) (b1 : wx_b a1 0 3) (b2 : wx_b a2 0 5) (b3 : wx_b a3 0 7) (hg : wx_HB g h) : Met l yX3_priceFor wsX3_priceFor ({ frames := 3, cells := 0, slots := 0, locals := 73 } : Room) (wx_Pc D cy ad B0 f P g [.ref (ad h), .int a1, .int a2, .int a3]) (QcRead (r_X3_priceFor g h a1 a2 a3)) 0 0 (fun _ => False) := by
  refine wx_enterR (cc := cX3_priceFor) (maxL := 7) (ty := .int) (own := RX3) (lv := [(0, .ref (ad h)), (1, .int a1), (2, .int a2), (3, .int a3)]) (by decide) rfl rfl (Nat.le_of_ble_eq_true rfl) rfl ?_
  intro p e R s m args below meth c ls Qm hx hb hml hown hts hK hX hR hret hl
  have hi_X3 : ∀ w ∈ wsX30, w ∈ wsX3_priceFor := by decide +kernel
  refine lv_aload_n hx hb dX3_priceFor_0 rfl (lv_at hl 0 rfl) ?_
  refine wx_geti (C := RX3) (T := TX3) (N := 15) (ci := 3) (j := 8) hx hb hts hi_X3 hown hK hX hh.l0 (sh_X3_8 hh) rfl (by decide) (hts (.fieldLink RX3 69 "SeenAgain$House" "written" "I") (by decide +kernel)) (fun _ h9 => h9) dX3_priceFor_1 ?_
  refine lv_iload_n hx hb dX3_priceFor_4 rfl (lv_at hl 3 rfl) ?_
  refine wx_callr (va_runSN (As := [.int (g h 8), .int a3]) (rest := []) ⟨hx, hb, hml, hown, hts⟩ (k_X11_has l g (g h 8) a3) ⟨va_cnB 2 hts gX3_priceFor_X11_has_n78 rfl rfl rfl hK.2.1.1 (hts (.initialized RX11) (by decide +kernel)) (by decide +kernel) (by rw [hR]; exact ⟨Nat.le_of_ble_eq_true rfl, Nat.le_of_ble_eq_true rfl⟩), hts (.static yX11_has) (by decide +kernel), trivial⟩ (wx_Pc.pre hK hX) rfl rfl hl.1 rfl (lv_room (Nat.le_of_ble_eq_true rfl)) dX3_priceFor_5 ⟨Nat.zero_le _, Nat.zero_le _⟩) ?_
  refine lv_if_eq (tgt := 15) hx hb dX3_priceFor_8 (by decide) (fun c_1 => ?_) (fun c_1 => ?_)
  · have b_2 : wx_b (r_X11_has (g h 8) a3) 0 0 := by rw [c_1]; exact ⟨by decide, by decide⟩
    refine lv_iconst (v := 0) hx hb dX3_priceFor_15 (by decide) ?_
    refine lv_istore (lv' := [(4, .int 0), (0, .ref (ad h)), (1, .int a1), (2, .int a2), (3, .int a3)]) hx hb dX3_priceFor_16 hl (by decide) rfl (fun ls hl => ?_)
    refine lv_iconst (v := 0) hx hb dX3_priceFor_18 (by decide) ?_
    refine lv_aload_n hx hb dX3_priceFor_19 rfl (lv_at hl 1 rfl) ?_
    refine wx_geti (C := RX3) (T := TX3) (N := 15) (ci := 3) (j := 2) hx hb hts hi_X3 hown hK hX hh.l0 (sh_X3_2 hh) rfl (by decide) (hts (.fieldLink RX3 60 "SeenAgain$House" "fee" "I") (by decide +kernel)) (fun _ h9 => h9) dX3_priceFor_20 ?_
    refine lv_aload_n hx hb dX3_priceFor_23 rfl (lv_at hl 1 rfl) ?_
    refine lv_iload_n hx hb dX3_priceFor_24 rfl (lv_at hl 3 rfl) ?_
    refine lv_iload_n hx hb dX3_priceFor_25 rfl (lv_at hl 4 rfl) ?_
    refine wx_callr (va_runV (As := [.int a2, .int a3]) (rest := [.int (g h 2), .int 0]) ⟨hx, hb, hml, hown, hts⟩ (k_X3_heldOf l g h a2 a3 hh b2 b3) (cwV 2 hts gX3_priceFor_X3_heldOf rfl rfl rfl (by decide +kernel) (by rw [hR]; exact ⟨Nat.le_of_ble_eq_true rfl, Nat.le_of_ble_eq_true rfl⟩)) ⟨wx_Pc.blind, wx_recv hK hX hh.l0 (sh_X3 hh) rfl, (wx_Pc.pre hK hX).2⟩ rfl rfl hl.1 rfl (lv_room (Nat.le_of_ble_eq_true rfl)) dX3_priceFor_26 ⟨Nat.zero_le _, Nat.zero_le _⟩) ?_
    refine lv_iadd hx hb dX3_priceFor_29 ?_
    refine lv_iload hx hb dX3_priceFor_30 (lv_at hl 0 rfl) ?_
    refine lv_isub hx hb dX3_priceFor_32 ?_
    refine va_mmax hx hb (hml.trans hl.1.symm) hown (hts (.methodLink RX3 95 Lib.Math.max.name) (by decide +kernel)) (hts (.static Lib.Math.max.name) (by decide +kernel)) (hts (.initialized "java/lang/Math") (by decide +kernel)) (hts (.code Lib.Math.max.name Lib.Math.max.code 2 (some .int)) (by decide +kernel)) (by rw [hR]; exact Nat.le_of_ble_eq_true rfl) (by rw [hR]; exact Nat.le_of_ble_eq_true rfl) (Nat.zero_le _) (Nat.zero_le _) dX3_priceFor_33 ?_
    refine lv_topi (fun x_3 ex_3 => ?_)
    refine lv_istore (lv' := [(5, .int x_3), (4, .int 0), (0, .ref (ad h)), (1, .int a1), (2, .int a2), (3, .int a3)]) hx hb dX3_priceFor_36 hl (by decide) rfl (fun ls hl => ?_)
    refine lv_aload_n hx hb dX3_priceFor_38 rfl (lv_at hl 2 rfl) ?_
    refine wx_geti (C := RX3) (T := TX3) (N := 15) (ci := 3) (j := 4) hx hb hts hi_X3 hown hK hX hh.l0 (sh_X3_4 hh) rfl (by decide) (hts (.fieldLink RX3 42 "SeenAgain$House" "people" "I") (by decide +kernel)) (fun _ h9 => h9) dX3_priceFor_39 ?_
    refine lv_if_le (tgt := 59) hx hb dX3_priceFor_42 (by decide) (fun c_4 => ?_) (fun c_4 => ?_)
    · have b_5 : wx_b (g h 4) 0 0 := wb_le c_4 hg.2.1 (show wx_b 0 0 0 from ⟨by decide, by decide⟩) (by decide) (by decide)
      refine lv_iconst (v := 0) hx hb dX3_priceFor_59 (by decide) ?_
      refine lv_istore (lv' := [(6, .int 0), (5, .int x_3), (4, .int 0), (0, .ref (ad h)), (1, .int a1), (2, .int a2), (3, .int a3)]) hx hb dX3_priceFor_60 hl (by decide) rfl (fun ls hl => ?_)
      refine lv_aload_n hx hb dX3_priceFor_62 rfl (lv_at hl 3 rfl) ?_
      refine wx_getr (t := h + 6) (C := RX3) (T := TX3) (N := 15) (ci := 3) (j := 14) hx hb hts hi_X3 hown hK hX hh.l0 (sh_X3_14 hh) rfl (by decide) (hts (.fieldLink RX3 29 "SeenAgain$House" "guests" "[LSeenAgain$Visitor;") (by decide +kernel)) (fun _ h9 => h9) dX3_priceFor_63 ?_
      refine lv_iload_n hx hb dX3_priceFor_66 rfl (lv_at hl 4 rfl) ?_
      refine wx_gald hx hb hK hX (h := h) hh.l6 hh (wb_in b1 (by decide) (by decide)) dX3_priceFor_67 (fun q_6 ci_q_6 pi_q_6 hp_q_6 hv_q_6 => ?_)
      refine lv_iload hx hb dX3_priceFor_68 (lv_at hl 1 rfl) ?_
      refine lv_iload hx hb dX3_priceFor_70 (lv_at hl 0 rfl) ?_
      have hk_7 := hv_q_6
      rcases hk_7 with ⟨hkd, rfl⟩ | ⟨hkd, rfl⟩ | ⟨hkd, rfl⟩ | ⟨hkd, rfl⟩ | ⟨hkd, rfl⟩
      · have c_8 : (g (h + 6) a1.toNatClampNeg) = 1 := hkd
        refine wx_callr (va_runU (As := [.int x_3, .int 0]) (rest := []) ⟨hx, hb, hml, hown, hts⟩ (k_X9_priceFrom l g (g (h + 6) a1.toNatClampNeg) a1 x_3 0 hp_q_6 hv_q_6) (va_cwU 2 hts gX3_priceFor_X9_priceFrom_u100X7 rfl rfl rfl rfl (by decide +kernel) (by rw [hR]; exact ⟨Nat.le_of_ble_eq_true rfl, Nat.le_of_ble_eq_true rfl⟩)) ⟨wx_Pc.blind, wx_recvP hK hX hp_q_6 (show vwCl[7]? = some (RX7, TX7, 1) from rfl), (wx_Pc.pre hK hX).2⟩ rfl rfl hl.1 rfl (lv_room (Nat.le_of_ble_eq_true rfl)) dX3_priceFor_72 ⟨Nat.zero_le _, Nat.zero_le _⟩) ?_
        exact hret _ _ _ dX3_priceFor_75 rfl (by subst ex_3; simp only [r_X3_priceFor, if_pos c_1, if_pos c_4, if_pos c_8])
      · have c_9 : ¬ (g (h + 6) a1.toNatClampNeg) = 1 := by rw [hkd]; decide
        have c_10 : (g (h + 6) a1.toNatClampNeg) = 2 := hkd
        refine wx_callr (va_runU (As := [.int x_3, .int 0]) (rest := []) ⟨hx, hb, hml, hown, hts⟩ (k_X4_priceFrom l g (g (h + 6) a1.toNatClampNeg) a1 x_3 0 hp_q_6 hv_q_6) (va_cwO 2 hts gX3_priceFor_X4_priceFrom_u100X4 rfl rfl rfl (show Cond.code yX9_priceFrom cX9_priceFrom 3 (some .int) ∈ wsX3_priceFor by decide +kernel) (by decide +kernel) (by rw [hR]; exact ⟨Nat.le_of_ble_eq_true rfl, Nat.le_of_ble_eq_true rfl⟩)) ⟨wx_Pc.blind, wx_recvP hK hX hp_q_6 (show vwCl[4]? = some (RX4, TX4, 1) from rfl), (wx_Pc.pre hK hX).2⟩ rfl rfl hl.1 rfl (lv_room (Nat.le_of_ble_eq_true rfl)) dX3_priceFor_72 ⟨Nat.zero_le _, Nat.zero_le _⟩) ?_
        exact hret _ _ _ dX3_priceFor_75 rfl (by subst ex_3; simp only [r_X3_priceFor, if_pos c_1, if_pos c_4, if_neg c_9, if_pos c_10])
      · have c_11 : ¬ (g (h + 6) a1.toNatClampNeg) = 1 := by rw [hkd]; decide
        have c_12 : ¬ (g (h + 6) a1.toNatClampNeg) = 2 := by rw [hkd]; decide
        have c_13 : (g (h + 6) a1.toNatClampNeg) = 3 := hkd
        refine wx_callr (va_runU (As := [.int x_3, .int 0]) (rest := []) ⟨hx, hb, hml, hown, hts⟩ (k_X1_priceFrom l g (g (h + 6) a1.toNatClampNeg) a1 x_3 0 hp_q_6 hv_q_6) (va_cwO 2 hts gX3_priceFor_X1_priceFrom_u100X1 rfl rfl rfl (show Cond.code yX9_priceFrom cX9_priceFrom 3 (some .int) ∈ wsX3_priceFor by decide +kernel) (by decide +kernel) (by rw [hR]; exact ⟨Nat.le_of_ble_eq_true rfl, Nat.le_of_ble_eq_true rfl⟩)) ⟨wx_Pc.blind, wx_recvP hK hX hp_q_6 (show vwCl[1]? = some (RX1, TX1, 1) from rfl), (wx_Pc.pre hK hX).2⟩ rfl rfl hl.1 rfl (lv_room (Nat.le_of_ble_eq_true rfl)) dX3_priceFor_72 ⟨Nat.zero_le _, Nat.zero_le _⟩) ?_
        exact hret _ _ _ dX3_priceFor_75 rfl (by subst ex_3; simp only [r_X3_priceFor, if_pos c_1, if_pos c_4, if_neg c_11, if_neg c_12, if_pos c_13])
      · have c_14 : ¬ (g (h + 6) a1.toNatClampNeg) = 1 := by rw [hkd]; decide
        have c_15 : ¬ (g (h + 6) a1.toNatClampNeg) = 2 := by rw [hkd]; decide
        have c_16 : ¬ (g (h + 6) a1.toNatClampNeg) = 3 := by rw [hkd]; decide
        have c_17 : (g (h + 6) a1.toNatClampNeg) = 4 := hkd
        refine wx_callr (va_runU (As := [.int x_3, .int 0]) (rest := []) ⟨hx, hb, hml, hown, hts⟩ (k_X10_priceFrom l g (g (h + 6) a1.toNatClampNeg) a1 x_3 0 hp_q_6 hv_q_6) (va_cwO 2 hts gX3_priceFor_X10_priceFrom_u100X10 rfl rfl rfl (show Cond.code yX9_priceFrom cX9_priceFrom 3 (some .int) ∈ wsX3_priceFor by decide +kernel) (by decide +kernel) (by rw [hR]; exact ⟨Nat.le_of_ble_eq_true rfl, Nat.le_of_ble_eq_true rfl⟩)) ⟨wx_Pc.blind, wx_recvP hK hX hp_q_6 (show vwCl[9]? = some (RX10, TX10, 1) from rfl), (wx_Pc.pre hK hX).2⟩ rfl rfl hl.1 rfl (lv_room (Nat.le_of_ble_eq_true rfl)) dX3_priceFor_72 ⟨Nat.zero_le _, Nat.zero_le _⟩) ?_
        exact hret _ _ _ dX3_priceFor_75 rfl (by subst ex_3; simp only [r_X3_priceFor, if_pos c_1, if_pos c_4, if_neg c_14, if_neg c_15, if_neg c_16, if_pos c_17])
      · have c_18 : ¬ (g (h + 6) a1.toNatClampNeg) = 1 := by rw [hkd]; decide
        have c_19 : ¬ (g (h + 6) a1.toNatClampNeg) = 2 := by rw [hkd]; decide
        have c_20 : ¬ (g (h + 6) a1.toNatClampNeg) = 3 := by rw [hkd]; decide
        have c_21 : ¬ (g (h + 6) a1.toNatClampNeg) = 4 := by rw [hkd]; decide
        refine wx_callr (va_runU (As := [.int x_3, .int 0]) (rest := []) ⟨hx, hb, hml, hown, hts⟩ (k_X2_priceFrom l g (g (h + 6) a1.toNatClampNeg) a1 x_3 0 hp_q_6 hv_q_6) (va_cwO 2 hts gX3_priceFor_X2_priceFrom_u100X2 rfl rfl rfl (show Cond.code yX9_priceFrom cX9_priceFrom 3 (some .int) ∈ wsX3_priceFor by decide +kernel) (by decide +kernel) (by rw [hR]; exact ⟨Nat.le_of_ble_eq_true rfl, Nat.le_of_ble_eq_true rfl⟩)) ⟨wx_Pc.blind, wx_recvP hK hX hp_q_6 (show vwCl[2]? = some (RX2, TX2, 1) from rfl), (wx_Pc.pre hK hX).2⟩ rfl rfl hl.1 rfl (lv_room (Nat.le_of_ble_eq_true rfl)) dX3_priceFor_72 ⟨Nat.zero_le _, Nat.zero_le _⟩) ?_
        exact hret _ _ _ dX3_priceFor_75 rfl (by subst ex_3; simp only [r_X3_priceFor, if_pos c_1, if_pos c_4, if_neg c_18, if_neg c_19, if_neg c_20, if_neg c_21])
    · have b_22 : wx_b (g h 4) 1 4 := wb_gt (wb_nle c_4) hg.2.1 (show wx_b 0 0 0 from ⟨by decide, by decide⟩) (by decide) (by decide)
      refine lv_aload_n hx hb dX3_priceFor_45 rfl (lv_at hl 2 rfl) ?_
      refine wx_getr (t := h + 4) (C := RX3) (T := TX3) (N := 15) (ci := 3) (j := 12) hx hb hts hi_X3 hown hK hX hh.l0 (sh_X3_12 hh) rfl (by decide) (hts (.fieldLink RX3 21 "SeenAgain$House" "stays" "[I") (by decide +kernel)) (fun _ h9 => h9) dX3_priceFor_46 ?_
      refine lv_iload_n hx hb dX3_priceFor_49 rfl (lv_at hl 5 rfl) ?_
      refine wx_iald hx hb hK hX hh.l4 (sa_X3_4 hh) (wb_in b3 (by decide) (by decide)) dX3_priceFor_50 ?_
      refine lv_iload_n hx hb dX3_priceFor_51 rfl (lv_at hl 4 rfl) ?_
      refine lv_icmp_ne (tgt := 59) hx hb dX3_priceFor_52 (by decide) (fun c_23 => ?_) (fun c_23 => ?_)
      · refine lv_iconst (v := 0) hx hb dX3_priceFor_59 (by decide) ?_
        refine lv_istore (lv' := [(6, .int 0), (5, .int x_3), (4, .int 0), (0, .ref (ad h)), (1, .int a1), (2, .int a2), (3, .int a3)]) hx hb dX3_priceFor_60 hl (by decide) rfl (fun ls hl => ?_)
        refine lv_aload_n hx hb dX3_priceFor_62 rfl (lv_at hl 3 rfl) ?_
        refine wx_getr (t := h + 6) (C := RX3) (T := TX3) (N := 15) (ci := 3) (j := 14) hx hb hts hi_X3 hown hK hX hh.l0 (sh_X3_14 hh) rfl (by decide) (hts (.fieldLink RX3 29 "SeenAgain$House" "guests" "[LSeenAgain$Visitor;") (by decide +kernel)) (fun _ h9 => h9) dX3_priceFor_63 ?_
        refine lv_iload_n hx hb dX3_priceFor_66 rfl (lv_at hl 4 rfl) ?_
        refine wx_gald hx hb hK hX (h := h) hh.l6 hh (wb_in b1 (by decide) (by decide)) dX3_priceFor_67 (fun q_24 ci_q_24 pi_q_24 hp_q_24 hv_q_24 => ?_)
        refine lv_iload hx hb dX3_priceFor_68 (lv_at hl 1 rfl) ?_
        refine lv_iload hx hb dX3_priceFor_70 (lv_at hl 0 rfl) ?_
        have hk_25 := hv_q_24
        rcases hk_25 with ⟨hkd, rfl⟩ | ⟨hkd, rfl⟩ | ⟨hkd, rfl⟩ | ⟨hkd, rfl⟩ | ⟨hkd, rfl⟩
        · have c_26 : (g (h + 6) a1.toNatClampNeg) = 1 := hkd
          refine wx_callr (va_runU (As := [.int x_3, .int 0]) (rest := []) ⟨hx, hb, hml, hown, hts⟩ (k_X9_priceFrom l g (g (h + 6) a1.toNatClampNeg) a1 x_3 0 hp_q_24 hv_q_24) (va_cwU 2 hts gX3_priceFor_X9_priceFrom_u100X7 rfl rfl rfl rfl (by decide +kernel) (by rw [hR]; exact ⟨Nat.le_of_ble_eq_true rfl, Nat.le_of_ble_eq_true rfl⟩)) ⟨wx_Pc.blind, wx_recvP hK hX hp_q_24 (show vwCl[7]? = some (RX7, TX7, 1) from rfl), (wx_Pc.pre hK hX).2⟩ rfl rfl hl.1 rfl (lv_room (Nat.le_of_ble_eq_true rfl)) dX3_priceFor_72 ⟨Nat.zero_le _, Nat.zero_le _⟩) ?_
          exact hret _ _ _ dX3_priceFor_75 rfl (by subst ex_3; simp only [r_X3_priceFor, if_pos c_1, if_neg c_4, if_neg c_23, if_pos c_26])
        · have c_27 : ¬ (g (h + 6) a1.toNatClampNeg) = 1 := by rw [hkd]; decide
          have c_28 : (g (h + 6) a1.toNatClampNeg) = 2 := hkd
          refine wx_callr (va_runU (As := [.int x_3, .int 0]) (rest := []) ⟨hx, hb, hml, hown, hts⟩ (k_X4_priceFrom l g (g (h + 6) a1.toNatClampNeg) a1 x_3 0 hp_q_24 hv_q_24) (va_cwO 2 hts gX3_priceFor_X4_priceFrom_u100X4 rfl rfl rfl (show Cond.code yX9_priceFrom cX9_priceFrom 3 (some .int) ∈ wsX3_priceFor by decide +kernel) (by decide +kernel) (by rw [hR]; exact ⟨Nat.le_of_ble_eq_true rfl, Nat.le_of_ble_eq_true rfl⟩)) ⟨wx_Pc.blind, wx_recvP hK hX hp_q_24 (show vwCl[4]? = some (RX4, TX4, 1) from rfl), (wx_Pc.pre hK hX).2⟩ rfl rfl hl.1 rfl (lv_room (Nat.le_of_ble_eq_true rfl)) dX3_priceFor_72 ⟨Nat.zero_le _, Nat.zero_le _⟩) ?_
          exact hret _ _ _ dX3_priceFor_75 rfl (by subst ex_3; simp only [r_X3_priceFor, if_pos c_1, if_neg c_4, if_neg c_23, if_neg c_27, if_pos c_28])
        · have c_29 : ¬ (g (h + 6) a1.toNatClampNeg) = 1 := by rw [hkd]; decide
          have c_30 : ¬ (g (h + 6) a1.toNatClampNeg) = 2 := by rw [hkd]; decide
          have c_31 : (g (h + 6) a1.toNatClampNeg) = 3 := hkd
          refine wx_callr (va_runU (As := [.int x_3, .int 0]) (rest := []) ⟨hx, hb, hml, hown, hts⟩ (k_X1_priceFrom l g (g (h + 6) a1.toNatClampNeg) a1 x_3 0 hp_q_24 hv_q_24) (va_cwO 2 hts gX3_priceFor_X1_priceFrom_u100X1 rfl rfl rfl (show Cond.code yX9_priceFrom cX9_priceFrom 3 (some .int) ∈ wsX3_priceFor by decide +kernel) (by decide +kernel) (by rw [hR]; exact ⟨Nat.le_of_ble_eq_true rfl, Nat.le_of_ble_eq_true rfl⟩)) ⟨wx_Pc.blind, wx_recvP hK hX hp_q_24 (show vwCl[1]? = some (RX1, TX1, 1) from rfl), (wx_Pc.pre hK hX).2⟩ rfl rfl hl.1 rfl (lv_room (Nat.le_of_ble_eq_true rfl)) dX3_priceFor_72 ⟨Nat.zero_le _, Nat.zero_le _⟩) ?_
          exact hret _ _ _ dX3_priceFor_75 rfl (by subst ex_3; simp only [r_X3_priceFor, if_pos c_1, if_neg c_4, if_neg c_23, if_neg c_29, if_neg c_30, if_pos c_31])
        · have c_32 : ¬ (g (h + 6) a1.toNatClampNeg) = 1 := by rw [hkd]; decide
          have c_33 : ¬ (g (h + 6) a1.toNatClampNeg) = 2 := by rw [hkd]; decide
          have c_34 : ¬ (g (h + 6) a1.toNatClampNeg) = 3 := by rw [hkd]; decide
          have c_35 : (g (h + 6) a1.toNatClampNeg) = 4 := hkd
          refine wx_callr (va_runU (As := [.int x_3, .int 0]) (rest := []) ⟨hx, hb, hml, hown, hts⟩ (k_X10_priceFrom l g (g (h + 6) a1.toNatClampNeg) a1 x_3 0 hp_q_24 hv_q_24) (va_cwO 2 hts gX3_priceFor_X10_priceFrom_u100X10 rfl rfl rfl (show Cond.code yX9_priceFrom cX9_priceFrom 3 (some .int) ∈ wsX3_priceFor by decide +kernel) (by decide +kernel) (by rw [hR]; exact ⟨Nat.le_of_ble_eq_true rfl, Nat.le_of_ble_eq_true rfl⟩)) ⟨wx_Pc.blind, wx_recvP hK hX hp_q_24 (show vwCl[9]? = some (RX10, TX10, 1) from rfl), (wx_Pc.pre hK hX).2⟩ rfl rfl hl.1 rfl (lv_room (Nat.le_of_ble_eq_true rfl)) dX3_priceFor_72 ⟨Nat.zero_le _, Nat.zero_le _⟩) ?_
          exact hret _ _ _ dX3_priceFor_75 rfl (by subst ex_3; simp only [r_X3_priceFor, if_pos c_1, if_neg c_4, if_neg c_23, if_neg c_32, if_neg c_33, if_neg c_34, if_pos c_35])
        · have c_36 : ¬ (g (h + 6) a1.toNatClampNeg) = 1 := by rw [hkd]; decide
          have c_37 : ¬ (g (h + 6) a1.toNatClampNeg) = 2 := by rw [hkd]; decide
          have c_38 : ¬ (g (h + 6) a1.toNatClampNeg) = 3 := by rw [hkd]; decide
          have c_39 : ¬ (g (h + 6) a1.toNatClampNeg) = 4 := by rw [hkd]; decide
          refine wx_callr (va_runU (As := [.int x_3, .int 0]) (rest := []) ⟨hx, hb, hml, hown, hts⟩ (k_X2_priceFrom l g (g (h + 6) a1.toNatClampNeg) a1 x_3 0 hp_q_24 hv_q_24) (va_cwO 2 hts gX3_priceFor_X2_priceFrom_u100X2 rfl rfl rfl (show Cond.code yX9_priceFrom cX9_priceFrom 3 (some .int) ∈ wsX3_priceFor by decide +kernel) (by decide +kernel) (by rw [hR]; exact ⟨Nat.le_of_ble_eq_true rfl, Nat.le_of_ble_eq_true rfl⟩)) ⟨wx_Pc.blind, wx_recvP hK hX hp_q_24 (show vwCl[2]? = some (RX2, TX2, 1) from rfl), (wx_Pc.pre hK hX).2⟩ rfl rfl hl.1 rfl (lv_room (Nat.le_of_ble_eq_true rfl)) dX3_priceFor_72 ⟨Nat.zero_le _, Nat.zero_le _⟩) ?_
          exact hret _ _ _ dX3_priceFor_75 rfl (by subst ex_3; simp only [r_X3_priceFor, if_pos c_1, if_neg c_4, if_neg c_23, if_neg c_36, if_neg c_37, if_neg c_38, if_neg c_39])
      · refine lv_iconst (v := 1) hx hb dX3_priceFor_55 (by decide) ?_
        refine lv_goto (tgt := 60) hx hb dX3_priceFor_56 (by decide) ?_
        refine lv_istore (lv' := [(6, .int 1), (5, .int x_3), (4, .int 0), (0, .ref (ad h)), (1, .int a1), (2, .int a2), (3, .int a3)]) hx hb dX3_priceFor_60 hl (by decide) rfl (fun ls hl => ?_)
        refine lv_aload_n hx hb dX3_priceFor_62 rfl (lv_at hl 3 rfl) ?_
        refine wx_getr (t := h + 6) (C := RX3) (T := TX3) (N := 15) (ci := 3) (j := 14) hx hb hts hi_X3 hown hK hX hh.l0 (sh_X3_14 hh) rfl (by decide) (hts (.fieldLink RX3 29 "SeenAgain$House" "guests" "[LSeenAgain$Visitor;") (by decide +kernel)) (fun _ h9 => h9) dX3_priceFor_63 ?_
        refine lv_iload_n hx hb dX3_priceFor_66 rfl (lv_at hl 4 rfl) ?_
        refine wx_gald hx hb hK hX (h := h) hh.l6 hh (wb_in b1 (by decide) (by decide)) dX3_priceFor_67 (fun q_40 ci_q_40 pi_q_40 hp_q_40 hv_q_40 => ?_)
        refine lv_iload hx hb dX3_priceFor_68 (lv_at hl 1 rfl) ?_
        refine lv_iload hx hb dX3_priceFor_70 (lv_at hl 0 rfl) ?_
        have hk_41 := hv_q_40
        rcases hk_41 with ⟨hkd, rfl⟩ | ⟨hkd, rfl⟩ | ⟨hkd, rfl⟩ | ⟨hkd, rfl⟩ | ⟨hkd, rfl⟩
        · have c_42 : (g (h + 6) a1.toNatClampNeg) = 1 := hkd
          refine wx_callr (va_runU (As := [.int x_3, .int 1]) (rest := []) ⟨hx, hb, hml, hown, hts⟩ (k_X9_priceFrom l g (g (h + 6) a1.toNatClampNeg) a1 x_3 1 hp_q_40 hv_q_40) (va_cwU 2 hts gX3_priceFor_X9_priceFrom_u100X7 rfl rfl rfl rfl (by decide +kernel) (by rw [hR]; exact ⟨Nat.le_of_ble_eq_true rfl, Nat.le_of_ble_eq_true rfl⟩)) ⟨wx_Pc.blind, wx_recvP hK hX hp_q_40 (show vwCl[7]? = some (RX7, TX7, 1) from rfl), (wx_Pc.pre hK hX).2⟩ rfl rfl hl.1 rfl (lv_room (Nat.le_of_ble_eq_true rfl)) dX3_priceFor_72 ⟨Nat.zero_le _, Nat.zero_le _⟩) ?_
          exact hret _ _ _ dX3_priceFor_75 rfl (by subst ex_3; simp only [r_X3_priceFor, if_pos c_1, if_neg c_4, if_pos c_23, if_pos c_42])
        · have c_43 : ¬ (g (h + 6) a1.toNatClampNeg) = 1 := by rw [hkd]; decide
          have c_44 : (g (h + 6) a1.toNatClampNeg) = 2 := hkd
          refine wx_callr (va_runU (As := [.int x_3, .int 1]) (rest := []) ⟨hx, hb, hml, hown, hts⟩ (k_X4_priceFrom l g (g (h + 6) a1.toNatClampNeg) a1 x_3 1 hp_q_40 hv_q_40) (va_cwO 2 hts gX3_priceFor_X4_priceFrom_u100X4 rfl rfl rfl (show Cond.code yX9_priceFrom cX9_priceFrom 3 (some .int) ∈ wsX3_priceFor by decide +kernel) (by decide +kernel) (by rw [hR]; exact ⟨Nat.le_of_ble_eq_true rfl, Nat.le_of_ble_eq_true rfl⟩)) ⟨wx_Pc.blind, wx_recvP hK hX hp_q_40 (show vwCl[4]? = some (RX4, TX4, 1) from rfl), (wx_Pc.pre hK hX).2⟩ rfl rfl hl.1 rfl (lv_room (Nat.le_of_ble_eq_true rfl)) dX3_priceFor_72 ⟨Nat.zero_le _, Nat.zero_le _⟩) ?_
          exact hret _ _ _ dX3_priceFor_75 rfl (by subst ex_3; simp only [r_X3_priceFor, if_pos c_1, if_neg c_4, if_pos c_23, if_neg c_43, if_pos c_44])
        · have c_45 : ¬ (g (h + 6) a1.toNatClampNeg) = 1 := by rw [hkd]; decide
          have c_46 : ¬ (g (h + 6) a1.toNatClampNeg) = 2 := by rw [hkd]; decide
          have c_47 : (g (h + 6) a1.toNatClampNeg) = 3 := hkd
          refine wx_callr (va_runU (As := [.int x_3, .int 1]) (rest := []) ⟨hx, hb, hml, hown, hts⟩ (k_X1_priceFrom l g (g (h + 6) a1.toNatClampNeg) a1 x_3 1 hp_q_40 hv_q_40) (va_cwO 2 hts gX3_priceFor_X1_priceFrom_u100X1 rfl rfl rfl (show Cond.code yX9_priceFrom cX9_priceFrom 3 (some .int) ∈ wsX3_priceFor by decide +kernel) (by decide +kernel) (by rw [hR]; exact ⟨Nat.le_of_ble_eq_true rfl, Nat.le_of_ble_eq_true rfl⟩)) ⟨wx_Pc.blind, wx_recvP hK hX hp_q_40 (show vwCl[1]? = some (RX1, TX1, 1) from rfl), (wx_Pc.pre hK hX).2⟩ rfl rfl hl.1 rfl (lv_room (Nat.le_of_ble_eq_true rfl)) dX3_priceFor_72 ⟨Nat.zero_le _, Nat.zero_le _⟩) ?_
          exact hret _ _ _ dX3_priceFor_75 rfl (by subst ex_3; simp only [r_X3_priceFor, if_pos c_1, if_neg c_4, if_pos c_23, if_neg c_45, if_neg c_46, if_pos c_47])
        · have c_48 : ¬ (g (h + 6) a1.toNatClampNeg) = 1 := by rw [hkd]; decide
          have c_49 : ¬ (g (h + 6) a1.toNatClampNeg) = 2 := by rw [hkd]; decide
          have c_50 : ¬ (g (h + 6) a1.toNatClampNeg) = 3 := by rw [hkd]; decide
          have c_51 : (g (h + 6) a1.toNatClampNeg) = 4 := hkd
          refine wx_callr (va_runU (As := [.int x_3, .int 1]) (rest := []) ⟨hx, hb, hml, hown, hts⟩ (k_X10_priceFrom l g (g (h + 6) a1.toNatClampNeg) a1 x_3 1 hp_q_40 hv_q_40) (va_cwO 2 hts gX3_priceFor_X10_priceFrom_u100X10 rfl rfl rfl (show Cond.code yX9_priceFrom cX9_priceFrom 3 (some .int) ∈ wsX3_priceFor by decide +kernel) (by decide +kernel) (by rw [hR]; exact ⟨Nat.le_of_ble_eq_true rfl, Nat.le_of_ble_eq_true rfl⟩)) ⟨wx_Pc.blind, wx_recvP hK hX hp_q_40 (show vwCl[9]? = some (RX10, TX10, 1) from rfl), (wx_Pc.pre hK hX).2⟩ rfl rfl hl.1 rfl (lv_room (Nat.le_of_ble_eq_true rfl)) dX3_priceFor_72 ⟨Nat.zero_le _, Nat.zero_le _⟩) ?_
          exact hret _ _ _ dX3_priceFor_75 rfl (by subst ex_3; simp only [r_X3_priceFor, if_pos c_1, if_neg c_4, if_pos c_23, if_neg c_48, if_neg c_49, if_neg c_50, if_pos c_51])
        · have c_52 : ¬ (g (h + 6) a1.toNatClampNeg) = 1 := by rw [hkd]; decide
          have c_53 : ¬ (g (h + 6) a1.toNatClampNeg) = 2 := by rw [hkd]; decide
          have c_54 : ¬ (g (h + 6) a1.toNatClampNeg) = 3 := by rw [hkd]; decide
          have c_55 : ¬ (g (h + 6) a1.toNatClampNeg) = 4 := by rw [hkd]; decide
          refine wx_callr (va_runU (As := [.int x_3, .int 1]) (rest := []) ⟨hx, hb, hml, hown, hts⟩ (k_X2_priceFrom l g (g (h + 6) a1.toNatClampNeg) a1 x_3 1 hp_q_40 hv_q_40) (va_cwO 2 hts gX3_priceFor_X2_priceFrom_u100X2 rfl rfl rfl (show Cond.code yX9_priceFrom cX9_priceFrom 3 (some .int) ∈ wsX3_priceFor by decide +kernel) (by decide +kernel) (by rw [hR]; exact ⟨Nat.le_of_ble_eq_true rfl, Nat.le_of_ble_eq_true rfl⟩)) ⟨wx_Pc.blind, wx_recvP hK hX hp_q_40 (show vwCl[2]? = some (RX2, TX2, 1) from rfl), (wx_Pc.pre hK hX).2⟩ rfl rfl hl.1 rfl (lv_room (Nat.le_of_ble_eq_true rfl)) dX3_priceFor_72 ⟨Nat.zero_le _, Nat.zero_le _⟩) ?_
          exact hret _ _ _ dX3_priceFor_75 rfl (by subst ex_3; simp only [r_X3_priceFor, if_pos c_1, if_neg c_4, if_pos c_23, if_neg c_52, if_neg c_53, if_neg c_54, if_neg c_55])
  · refine lv_iconst (v := 2) hx hb dX3_priceFor_11 (by decide) ?_
    refine lv_goto (tgt := 16) hx hb dX3_priceFor_12 (by decide) ?_
    refine lv_istore (lv' := [(4, .int 2), (0, .ref (ad h)), (1, .int a1), (2, .int a2), (3, .int a3)]) hx hb dX3_priceFor_16 hl (by decide) rfl (fun ls hl => ?_)
    refine lv_iconst (v := 0) hx hb dX3_priceFor_18 (by decide) ?_
    refine lv_aload_n hx hb dX3_priceFor_19 rfl (lv_at hl 1 rfl) ?_
    refine wx_geti (C := RX3) (T := TX3) (N := 15) (ci := 3) (j := 2) hx hb hts hi_X3 hown hK hX hh.l0 (sh_X3_2 hh) rfl (by decide) (hts (.fieldLink RX3 60 "SeenAgain$House" "fee" "I") (by decide +kernel)) (fun _ h9 => h9) dX3_priceFor_20 ?_
    refine lv_aload_n hx hb dX3_priceFor_23 rfl (lv_at hl 1 rfl) ?_
    refine lv_iload_n hx hb dX3_priceFor_24 rfl (lv_at hl 3 rfl) ?_
    refine lv_iload_n hx hb dX3_priceFor_25 rfl (lv_at hl 4 rfl) ?_
    refine wx_callr (va_runV (As := [.int a2, .int a3]) (rest := [.int (g h 2), .int 0]) ⟨hx, hb, hml, hown, hts⟩ (k_X3_heldOf l g h a2 a3 hh b2 b3) (cwV 2 hts gX3_priceFor_X3_heldOf rfl rfl rfl (by decide +kernel) (by rw [hR]; exact ⟨Nat.le_of_ble_eq_true rfl, Nat.le_of_ble_eq_true rfl⟩)) ⟨wx_Pc.blind, wx_recv hK hX hh.l0 (sh_X3 hh) rfl, (wx_Pc.pre hK hX).2⟩ rfl rfl hl.1 rfl (lv_room (Nat.le_of_ble_eq_true rfl)) dX3_priceFor_26 ⟨Nat.zero_le _, Nat.zero_le _⟩) ?_
    refine lv_iadd hx hb dX3_priceFor_29 ?_
    refine lv_iload hx hb dX3_priceFor_30 (lv_at hl 0 rfl) ?_
    refine lv_isub hx hb dX3_priceFor_32 ?_
    refine va_mmax hx hb (hml.trans hl.1.symm) hown (hts (.methodLink RX3 95 Lib.Math.max.name) (by decide +kernel)) (hts (.static Lib.Math.max.name) (by decide +kernel)) (hts (.initialized "java/lang/Math") (by decide +kernel)) (hts (.code Lib.Math.max.name Lib.Math.max.code 2 (some .int)) (by decide +kernel)) (by rw [hR]; exact Nat.le_of_ble_eq_true rfl) (by rw [hR]; exact Nat.le_of_ble_eq_true rfl) (Nat.zero_le _) (Nat.zero_le _) dX3_priceFor_33 ?_
    refine lv_topi (fun x_56 ex_56 => ?_)
    refine lv_istore (lv' := [(5, .int x_56), (4, .int 2), (0, .ref (ad h)), (1, .int a1), (2, .int a2), (3, .int a3)]) hx hb dX3_priceFor_36 hl (by decide) rfl (fun ls hl => ?_)
    refine lv_aload_n hx hb dX3_priceFor_38 rfl (lv_at hl 2 rfl) ?_
    refine wx_geti (C := RX3) (T := TX3) (N := 15) (ci := 3) (j := 4) hx hb hts hi_X3 hown hK hX hh.l0 (sh_X3_4 hh) rfl (by decide) (hts (.fieldLink RX3 42 "SeenAgain$House" "people" "I") (by decide +kernel)) (fun _ h9 => h9) dX3_priceFor_39 ?_
    refine lv_if_le (tgt := 59) hx hb dX3_priceFor_42 (by decide) (fun c_57 => ?_) (fun c_57 => ?_)
    · have b_58 : wx_b (g h 4) 0 0 := wb_le c_57 hg.2.1 (show wx_b 0 0 0 from ⟨by decide, by decide⟩) (by decide) (by decide)
      refine lv_iconst (v := 0) hx hb dX3_priceFor_59 (by decide) ?_
      refine lv_istore (lv' := [(6, .int 0), (5, .int x_56), (4, .int 2), (0, .ref (ad h)), (1, .int a1), (2, .int a2), (3, .int a3)]) hx hb dX3_priceFor_60 hl (by decide) rfl (fun ls hl => ?_)
      refine lv_aload_n hx hb dX3_priceFor_62 rfl (lv_at hl 3 rfl) ?_
      refine wx_getr (t := h + 6) (C := RX3) (T := TX3) (N := 15) (ci := 3) (j := 14) hx hb hts hi_X3 hown hK hX hh.l0 (sh_X3_14 hh) rfl (by decide) (hts (.fieldLink RX3 29 "SeenAgain$House" "guests" "[LSeenAgain$Visitor;") (by decide +kernel)) (fun _ h9 => h9) dX3_priceFor_63 ?_
      refine lv_iload_n hx hb dX3_priceFor_66 rfl (lv_at hl 4 rfl) ?_
      refine wx_gald hx hb hK hX (h := h) hh.l6 hh (wb_in b1 (by decide) (by decide)) dX3_priceFor_67 (fun q_59 ci_q_59 pi_q_59 hp_q_59 hv_q_59 => ?_)
      refine lv_iload hx hb dX3_priceFor_68 (lv_at hl 1 rfl) ?_
      refine lv_iload hx hb dX3_priceFor_70 (lv_at hl 0 rfl) ?_
      have hk_60 := hv_q_59
      rcases hk_60 with ⟨hkd, rfl⟩ | ⟨hkd, rfl⟩ | ⟨hkd, rfl⟩ | ⟨hkd, rfl⟩ | ⟨hkd, rfl⟩
      · have c_61 : (g (h + 6) a1.toNatClampNeg) = 1 := hkd
        refine wx_callr (va_runU (As := [.int x_56, .int 0]) (rest := []) ⟨hx, hb, hml, hown, hts⟩ (k_X9_priceFrom l g (g (h + 6) a1.toNatClampNeg) a1 x_56 0 hp_q_59 hv_q_59) (va_cwU 2 hts gX3_priceFor_X9_priceFrom_u100X7 rfl rfl rfl rfl (by decide +kernel) (by rw [hR]; exact ⟨Nat.le_of_ble_eq_true rfl, Nat.le_of_ble_eq_true rfl⟩)) ⟨wx_Pc.blind, wx_recvP hK hX hp_q_59 (show vwCl[7]? = some (RX7, TX7, 1) from rfl), (wx_Pc.pre hK hX).2⟩ rfl rfl hl.1 rfl (lv_room (Nat.le_of_ble_eq_true rfl)) dX3_priceFor_72 ⟨Nat.zero_le _, Nat.zero_le _⟩) ?_
        exact hret _ _ _ dX3_priceFor_75 rfl (by subst ex_56; simp only [r_X3_priceFor, if_neg c_1, if_pos c_57, if_pos c_61])
      · have c_62 : ¬ (g (h + 6) a1.toNatClampNeg) = 1 := by rw [hkd]; decide
        have c_63 : (g (h + 6) a1.toNatClampNeg) = 2 := hkd
        refine wx_callr (va_runU (As := [.int x_56, .int 0]) (rest := []) ⟨hx, hb, hml, hown, hts⟩ (k_X4_priceFrom l g (g (h + 6) a1.toNatClampNeg) a1 x_56 0 hp_q_59 hv_q_59) (va_cwO 2 hts gX3_priceFor_X4_priceFrom_u100X4 rfl rfl rfl (show Cond.code yX9_priceFrom cX9_priceFrom 3 (some .int) ∈ wsX3_priceFor by decide +kernel) (by decide +kernel) (by rw [hR]; exact ⟨Nat.le_of_ble_eq_true rfl, Nat.le_of_ble_eq_true rfl⟩)) ⟨wx_Pc.blind, wx_recvP hK hX hp_q_59 (show vwCl[4]? = some (RX4, TX4, 1) from rfl), (wx_Pc.pre hK hX).2⟩ rfl rfl hl.1 rfl (lv_room (Nat.le_of_ble_eq_true rfl)) dX3_priceFor_72 ⟨Nat.zero_le _, Nat.zero_le _⟩) ?_
        exact hret _ _ _ dX3_priceFor_75 rfl (by subst ex_56; simp only [r_X3_priceFor, if_neg c_1, if_pos c_57, if_neg c_62, if_pos c_63])
      · have c_64 : ¬ (g (h + 6) a1.toNatClampNeg) = 1 := by rw [hkd]; decide
        have c_65 : ¬ (g (h + 6) a1.toNatClampNeg) = 2 := by rw [hkd]; decide
        have c_66 : (g (h + 6) a1.toNatClampNeg) = 3 := hkd
        refine wx_callr (va_runU (As := [.int x_56, .int 0]) (rest := []) ⟨hx, hb, hml, hown, hts⟩ (k_X1_priceFrom l g (g (h + 6) a1.toNatClampNeg) a1 x_56 0 hp_q_59 hv_q_59) (va_cwO 2 hts gX3_priceFor_X1_priceFrom_u100X1 rfl rfl rfl (show Cond.code yX9_priceFrom cX9_priceFrom 3 (some .int) ∈ wsX3_priceFor by decide +kernel) (by decide +kernel) (by rw [hR]; exact ⟨Nat.le_of_ble_eq_true rfl, Nat.le_of_ble_eq_true rfl⟩)) ⟨wx_Pc.blind, wx_recvP hK hX hp_q_59 (show vwCl[1]? = some (RX1, TX1, 1) from rfl), (wx_Pc.pre hK hX).2⟩ rfl rfl hl.1 rfl (lv_room (Nat.le_of_ble_eq_true rfl)) dX3_priceFor_72 ⟨Nat.zero_le _, Nat.zero_le _⟩) ?_
        exact hret _ _ _ dX3_priceFor_75 rfl (by subst ex_56; simp only [r_X3_priceFor, if_neg c_1, if_pos c_57, if_neg c_64, if_neg c_65, if_pos c_66])
      · have c_67 : ¬ (g (h + 6) a1.toNatClampNeg) = 1 := by rw [hkd]; decide
        have c_68 : ¬ (g (h + 6) a1.toNatClampNeg) = 2 := by rw [hkd]; decide
        have c_69 : ¬ (g (h + 6) a1.toNatClampNeg) = 3 := by rw [hkd]; decide
        have c_70 : (g (h + 6) a1.toNatClampNeg) = 4 := hkd
        refine wx_callr (va_runU (As := [.int x_56, .int 0]) (rest := []) ⟨hx, hb, hml, hown, hts⟩ (k_X10_priceFrom l g (g (h + 6) a1.toNatClampNeg) a1 x_56 0 hp_q_59 hv_q_59) (va_cwO 2 hts gX3_priceFor_X10_priceFrom_u100X10 rfl rfl rfl (show Cond.code yX9_priceFrom cX9_priceFrom 3 (some .int) ∈ wsX3_priceFor by decide +kernel) (by decide +kernel) (by rw [hR]; exact ⟨Nat.le_of_ble_eq_true rfl, Nat.le_of_ble_eq_true rfl⟩)) ⟨wx_Pc.blind, wx_recvP hK hX hp_q_59 (show vwCl[9]? = some (RX10, TX10, 1) from rfl), (wx_Pc.pre hK hX).2⟩ rfl rfl hl.1 rfl (lv_room (Nat.le_of_ble_eq_true rfl)) dX3_priceFor_72 ⟨Nat.zero_le _, Nat.zero_le _⟩) ?_
        exact hret _ _ _ dX3_priceFor_75 rfl (by subst ex_56; simp only [r_X3_priceFor, if_neg c_1, if_pos c_57, if_neg c_67, if_neg c_68, if_neg c_69, if_pos c_70])
      · have c_71 : ¬ (g (h + 6) a1.toNatClampNeg) = 1 := by rw [hkd]; decide
        have c_72 : ¬ (g (h + 6) a1.toNatClampNeg) = 2 := by rw [hkd]; decide
        have c_73 : ¬ (g (h + 6) a1.toNatClampNeg) = 3 := by rw [hkd]; decide
        have c_74 : ¬ (g (h + 6) a1.toNatClampNeg) = 4 := by rw [hkd]; decide
        refine wx_callr (va_runU (As := [.int x_56, .int 0]) (rest := []) ⟨hx, hb, hml, hown, hts⟩ (k_X2_priceFrom l g (g (h + 6) a1.toNatClampNeg) a1 x_56 0 hp_q_59 hv_q_59) (va_cwO 2 hts gX3_priceFor_X2_priceFrom_u100X2 rfl rfl rfl (show Cond.code yX9_priceFrom cX9_priceFrom 3 (some .int) ∈ wsX3_priceFor by decide +kernel) (by decide +kernel) (by rw [hR]; exact ⟨Nat.le_of_ble_eq_true rfl, Nat.le_of_ble_eq_true rfl⟩)) ⟨wx_Pc.blind, wx_recvP hK hX hp_q_59 (show vwCl[2]? = some (RX2, TX2, 1) from rfl), (wx_Pc.pre hK hX).2⟩ rfl rfl hl.1 rfl (lv_room (Nat.le_of_ble_eq_true rfl)) dX3_priceFor_72 ⟨Nat.zero_le _, Nat.zero_le _⟩) ?_
        exact hret _ _ _ dX3_priceFor_75 rfl (by subst ex_56; simp only [r_X3_priceFor, if_neg c_1, if_pos c_57, if_neg c_71, if_neg c_72, if_neg c_73, if_neg c_74])
    · have b_75 : wx_b (g h 4) 1 4 := wb_gt (wb_nle c_57) hg.2.1 (show wx_b 0 0 0 from ⟨by decide, by decide⟩) (by decide) (by decide)
      refine lv_aload_n hx hb dX3_priceFor_45 rfl (lv_at hl 2 rfl) ?_
      refine wx_getr (t := h + 4) (C := RX3) (T := TX3) (N := 15) (ci := 3) (j := 12) hx hb hts hi_X3 hown hK hX hh.l0 (sh_X3_12 hh) rfl (by decide) (hts (.fieldLink RX3 21 "SeenAgain$House" "stays" "[I") (by decide +kernel)) (fun _ h9 => h9) dX3_priceFor_46 ?_
      refine lv_iload_n hx hb dX3_priceFor_49 rfl (lv_at hl 5 rfl) ?_
      refine wx_iald hx hb hK hX hh.l4 (sa_X3_4 hh) (wb_in b3 (by decide) (by decide)) dX3_priceFor_50 ?_
      refine lv_iload_n hx hb dX3_priceFor_51 rfl (lv_at hl 4 rfl) ?_
      refine lv_icmp_ne (tgt := 59) hx hb dX3_priceFor_52 (by decide) (fun c_76 => ?_) (fun c_76 => ?_)
      · refine lv_iconst (v := 0) hx hb dX3_priceFor_59 (by decide) ?_
        refine lv_istore (lv' := [(6, .int 0), (5, .int x_56), (4, .int 2), (0, .ref (ad h)), (1, .int a1), (2, .int a2), (3, .int a3)]) hx hb dX3_priceFor_60 hl (by decide) rfl (fun ls hl => ?_)
        refine lv_aload_n hx hb dX3_priceFor_62 rfl (lv_at hl 3 rfl) ?_
        refine wx_getr (t := h + 6) (C := RX3) (T := TX3) (N := 15) (ci := 3) (j := 14) hx hb hts hi_X3 hown hK hX hh.l0 (sh_X3_14 hh) rfl (by decide) (hts (.fieldLink RX3 29 "SeenAgain$House" "guests" "[LSeenAgain$Visitor;") (by decide +kernel)) (fun _ h9 => h9) dX3_priceFor_63 ?_
        refine lv_iload_n hx hb dX3_priceFor_66 rfl (lv_at hl 4 rfl) ?_
        refine wx_gald hx hb hK hX (h := h) hh.l6 hh (wb_in b1 (by decide) (by decide)) dX3_priceFor_67 (fun q_77 ci_q_77 pi_q_77 hp_q_77 hv_q_77 => ?_)
        refine lv_iload hx hb dX3_priceFor_68 (lv_at hl 1 rfl) ?_
        refine lv_iload hx hb dX3_priceFor_70 (lv_at hl 0 rfl) ?_
        have hk_78 := hv_q_77
        rcases hk_78 with ⟨hkd, rfl⟩ | ⟨hkd, rfl⟩ | ⟨hkd, rfl⟩ | ⟨hkd, rfl⟩ | ⟨hkd, rfl⟩
        · have c_79 : (g (h + 6) a1.toNatClampNeg) = 1 := hkd
          refine wx_callr (va_runU (As := [.int x_56, .int 0]) (rest := []) ⟨hx, hb, hml, hown, hts⟩ (k_X9_priceFrom l g (g (h + 6) a1.toNatClampNeg) a1 x_56 0 hp_q_77 hv_q_77) (va_cwU 2 hts gX3_priceFor_X9_priceFrom_u100X7 rfl rfl rfl rfl (by decide +kernel) (by rw [hR]; exact ⟨Nat.le_of_ble_eq_true rfl, Nat.le_of_ble_eq_true rfl⟩)) ⟨wx_Pc.blind, wx_recvP hK hX hp_q_77 (show vwCl[7]? = some (RX7, TX7, 1) from rfl), (wx_Pc.pre hK hX).2⟩ rfl rfl hl.1 rfl (lv_room (Nat.le_of_ble_eq_true rfl)) dX3_priceFor_72 ⟨Nat.zero_le _, Nat.zero_le _⟩) ?_
          exact hret _ _ _ dX3_priceFor_75 rfl (by subst ex_56; simp only [r_X3_priceFor, if_neg c_1, if_neg c_57, if_neg c_76, if_pos c_79])
        · have c_80 : ¬ (g (h + 6) a1.toNatClampNeg) = 1 := by rw [hkd]; decide
          have c_81 : (g (h + 6) a1.toNatClampNeg) = 2 := hkd
          refine wx_callr (va_runU (As := [.int x_56, .int 0]) (rest := []) ⟨hx, hb, hml, hown, hts⟩ (k_X4_priceFrom l g (g (h + 6) a1.toNatClampNeg) a1 x_56 0 hp_q_77 hv_q_77) (va_cwO 2 hts gX3_priceFor_X4_priceFrom_u100X4 rfl rfl rfl (show Cond.code yX9_priceFrom cX9_priceFrom 3 (some .int) ∈ wsX3_priceFor by decide +kernel) (by decide +kernel) (by rw [hR]; exact ⟨Nat.le_of_ble_eq_true rfl, Nat.le_of_ble_eq_true rfl⟩)) ⟨wx_Pc.blind, wx_recvP hK hX hp_q_77 (show vwCl[4]? = some (RX4, TX4, 1) from rfl), (wx_Pc.pre hK hX).2⟩ rfl rfl hl.1 rfl (lv_room (Nat.le_of_ble_eq_true rfl)) dX3_priceFor_72 ⟨Nat.zero_le _, Nat.zero_le _⟩) ?_
          exact hret _ _ _ dX3_priceFor_75 rfl (by subst ex_56; simp only [r_X3_priceFor, if_neg c_1, if_neg c_57, if_neg c_76, if_neg c_80, if_pos c_81])
        · have c_82 : ¬ (g (h + 6) a1.toNatClampNeg) = 1 := by rw [hkd]; decide
          have c_83 : ¬ (g (h + 6) a1.toNatClampNeg) = 2 := by rw [hkd]; decide
          have c_84 : (g (h + 6) a1.toNatClampNeg) = 3 := hkd
          refine wx_callr (va_runU (As := [.int x_56, .int 0]) (rest := []) ⟨hx, hb, hml, hown, hts⟩ (k_X1_priceFrom l g (g (h + 6) a1.toNatClampNeg) a1 x_56 0 hp_q_77 hv_q_77) (va_cwO 2 hts gX3_priceFor_X1_priceFrom_u100X1 rfl rfl rfl (show Cond.code yX9_priceFrom cX9_priceFrom 3 (some .int) ∈ wsX3_priceFor by decide +kernel) (by decide +kernel) (by rw [hR]; exact ⟨Nat.le_of_ble_eq_true rfl, Nat.le_of_ble_eq_true rfl⟩)) ⟨wx_Pc.blind, wx_recvP hK hX hp_q_77 (show vwCl[1]? = some (RX1, TX1, 1) from rfl), (wx_Pc.pre hK hX).2⟩ rfl rfl hl.1 rfl (lv_room (Nat.le_of_ble_eq_true rfl)) dX3_priceFor_72 ⟨Nat.zero_le _, Nat.zero_le _⟩) ?_
          exact hret _ _ _ dX3_priceFor_75 rfl (by subst ex_56; simp only [r_X3_priceFor, if_neg c_1, if_neg c_57, if_neg c_76, if_neg c_82, if_neg c_83, if_pos c_84])
        · have c_85 : ¬ (g (h + 6) a1.toNatClampNeg) = 1 := by rw [hkd]; decide
          have c_86 : ¬ (g (h + 6) a1.toNatClampNeg) = 2 := by rw [hkd]; decide
          have c_87 : ¬ (g (h + 6) a1.toNatClampNeg) = 3 := by rw [hkd]; decide
          have c_88 : (g (h + 6) a1.toNatClampNeg) = 4 := hkd
          refine wx_callr (va_runU (As := [.int x_56, .int 0]) (rest := []) ⟨hx, hb, hml, hown, hts⟩ (k_X10_priceFrom l g (g (h + 6) a1.toNatClampNeg) a1 x_56 0 hp_q_77 hv_q_77) (va_cwO 2 hts gX3_priceFor_X10_priceFrom_u100X10 rfl rfl rfl (show Cond.code yX9_priceFrom cX9_priceFrom 3 (some .int) ∈ wsX3_priceFor by decide +kernel) (by decide +kernel) (by rw [hR]; exact ⟨Nat.le_of_ble_eq_true rfl, Nat.le_of_ble_eq_true rfl⟩)) ⟨wx_Pc.blind, wx_recvP hK hX hp_q_77 (show vwCl[9]? = some (RX10, TX10, 1) from rfl), (wx_Pc.pre hK hX).2⟩ rfl rfl hl.1 rfl (lv_room (Nat.le_of_ble_eq_true rfl)) dX3_priceFor_72 ⟨Nat.zero_le _, Nat.zero_le _⟩) ?_
          exact hret _ _ _ dX3_priceFor_75 rfl (by subst ex_56; simp only [r_X3_priceFor, if_neg c_1, if_neg c_57, if_neg c_76, if_neg c_85, if_neg c_86, if_neg c_87, if_pos c_88])
        · have c_89 : ¬ (g (h + 6) a1.toNatClampNeg) = 1 := by rw [hkd]; decide
          have c_90 : ¬ (g (h + 6) a1.toNatClampNeg) = 2 := by rw [hkd]; decide
          have c_91 : ¬ (g (h + 6) a1.toNatClampNeg) = 3 := by rw [hkd]; decide
          have c_92 : ¬ (g (h + 6) a1.toNatClampNeg) = 4 := by rw [hkd]; decide
          refine wx_callr (va_runU (As := [.int x_56, .int 0]) (rest := []) ⟨hx, hb, hml, hown, hts⟩ (k_X2_priceFrom l g (g (h + 6) a1.toNatClampNeg) a1 x_56 0 hp_q_77 hv_q_77) (va_cwO 2 hts gX3_priceFor_X2_priceFrom_u100X2 rfl rfl rfl (show Cond.code yX9_priceFrom cX9_priceFrom 3 (some .int) ∈ wsX3_priceFor by decide +kernel) (by decide +kernel) (by rw [hR]; exact ⟨Nat.le_of_ble_eq_true rfl, Nat.le_of_ble_eq_true rfl⟩)) ⟨wx_Pc.blind, wx_recvP hK hX hp_q_77 (show vwCl[2]? = some (RX2, TX2, 1) from rfl), (wx_Pc.pre hK hX).2⟩ rfl rfl hl.1 rfl (lv_room (Nat.le_of_ble_eq_true rfl)) dX3_priceFor_72 ⟨Nat.zero_le _, Nat.zero_le _⟩) ?_
          exact hret _ _ _ dX3_priceFor_75 rfl (by subst ex_56; simp only [r_X3_priceFor, if_neg c_1, if_neg c_57, if_neg c_76, if_neg c_89, if_neg c_90, if_neg c_91, if_neg c_92])
      · refine lv_iconst (v := 1) hx hb dX3_priceFor_55 (by decide) ?_
        refine lv_goto (tgt := 60) hx hb dX3_priceFor_56 (by decide) ?_
        refine lv_istore (lv' := [(6, .int 1), (5, .int x_56), (4, .int 2), (0, .ref (ad h)), (1, .int a1), (2, .int a2), (3, .int a3)]) hx hb dX3_priceFor_60 hl (by decide) rfl (fun ls hl => ?_)
        refine lv_aload_n hx hb dX3_priceFor_62 rfl (lv_at hl 3 rfl) ?_
        refine wx_getr (t := h + 6) (C := RX3) (T := TX3) (N := 15) (ci := 3) (j := 14) hx hb hts hi_X3 hown hK hX hh.l0 (sh_X3_14 hh) rfl (by decide) (hts (.fieldLink RX3 29 "SeenAgain$House" "guests" "[LSeenAgain$Visitor;") (by decide +kernel)) (fun _ h9 => h9) dX3_priceFor_63 ?_
        refine lv_iload_n hx hb dX3_priceFor_66 rfl (lv_at hl 4 rfl) ?_
        refine wx_gald hx hb hK hX (h := h) hh.l6 hh (wb_in b1 (by decide) (by decide)) dX3_priceFor_67 (fun q_93 ci_q_93 pi_q_93 hp_q_93 hv_q_93 => ?_)
        refine lv_iload hx hb dX3_priceFor_68 (lv_at hl 1 rfl) ?_
        refine lv_iload hx hb dX3_priceFor_70 (lv_at hl 0 rfl) ?_
        have hk_94 := hv_q_93
        rcases hk_94 with ⟨hkd, rfl⟩ | ⟨hkd, rfl⟩ | ⟨hkd, rfl⟩ | ⟨hkd, rfl⟩ | ⟨hkd, rfl⟩
        · have c_95 : (g (h + 6) a1.toNatClampNeg) = 1 := hkd
          refine wx_callr (va_runU (As := [.int x_56, .int 1]) (rest := []) ⟨hx, hb, hml, hown, hts⟩ (k_X9_priceFrom l g (g (h + 6) a1.toNatClampNeg) a1 x_56 1 hp_q_93 hv_q_93) (va_cwU 2 hts gX3_priceFor_X9_priceFrom_u100X7 rfl rfl rfl rfl (by decide +kernel) (by rw [hR]; exact ⟨Nat.le_of_ble_eq_true rfl, Nat.le_of_ble_eq_true rfl⟩)) ⟨wx_Pc.blind, wx_recvP hK hX hp_q_93 (show vwCl[7]? = some (RX7, TX7, 1) from rfl), (wx_Pc.pre hK hX).2⟩ rfl rfl hl.1 rfl (lv_room (Nat.le_of_ble_eq_true rfl)) dX3_priceFor_72 ⟨Nat.zero_le _, Nat.zero_le _⟩) ?_
          exact hret _ _ _ dX3_priceFor_75 rfl (by subst ex_56; simp only [r_X3_priceFor, if_neg c_1, if_neg c_57, if_pos c_76, if_pos c_95])
        · have c_96 : ¬ (g (h + 6) a1.toNatClampNeg) = 1 := by rw [hkd]; decide
          have c_97 : (g (h + 6) a1.toNatClampNeg) = 2 := hkd
          refine wx_callr (va_runU (As := [.int x_56, .int 1]) (rest := []) ⟨hx, hb, hml, hown, hts⟩ (k_X4_priceFrom l g (g (h + 6) a1.toNatClampNeg) a1 x_56 1 hp_q_93 hv_q_93) (va_cwO 2 hts gX3_priceFor_X4_priceFrom_u100X4 rfl rfl rfl (show Cond.code yX9_priceFrom cX9_priceFrom 3 (some .int) ∈ wsX3_priceFor by decide +kernel) (by decide +kernel) (by rw [hR]; exact ⟨Nat.le_of_ble_eq_true rfl, Nat.le_of_ble_eq_true rfl⟩)) ⟨wx_Pc.blind, wx_recvP hK hX hp_q_93 (show vwCl[4]? = some (RX4, TX4, 1) from rfl), (wx_Pc.pre hK hX).2⟩ rfl rfl hl.1 rfl (lv_room (Nat.le_of_ble_eq_true rfl)) dX3_priceFor_72 ⟨Nat.zero_le _, Nat.zero_le _⟩) ?_
          exact hret _ _ _ dX3_priceFor_75 rfl (by subst ex_56; simp only [r_X3_priceFor, if_neg c_1, if_neg c_57, if_pos c_76, if_neg c_96, if_pos c_97])
        · have c_98 : ¬ (g (h + 6) a1.toNatClampNeg) = 1 := by rw [hkd]; decide
          have c_99 : ¬ (g (h + 6) a1.toNatClampNeg) = 2 := by rw [hkd]; decide
          have c_100 : (g (h + 6) a1.toNatClampNeg) = 3 := hkd
          refine wx_callr (va_runU (As := [.int x_56, .int 1]) (rest := []) ⟨hx, hb, hml, hown, hts⟩ (k_X1_priceFrom l g (g (h + 6) a1.toNatClampNeg) a1 x_56 1 hp_q_93 hv_q_93) (va_cwO 2 hts gX3_priceFor_X1_priceFrom_u100X1 rfl rfl rfl (show Cond.code yX9_priceFrom cX9_priceFrom 3 (some .int) ∈ wsX3_priceFor by decide +kernel) (by decide +kernel) (by rw [hR]; exact ⟨Nat.le_of_ble_eq_true rfl, Nat.le_of_ble_eq_true rfl⟩)) ⟨wx_Pc.blind, wx_recvP hK hX hp_q_93 (show vwCl[1]? = some (RX1, TX1, 1) from rfl), (wx_Pc.pre hK hX).2⟩ rfl rfl hl.1 rfl (lv_room (Nat.le_of_ble_eq_true rfl)) dX3_priceFor_72 ⟨Nat.zero_le _, Nat.zero_le _⟩) ?_
          exact hret _ _ _ dX3_priceFor_75 rfl (by subst ex_56; simp only [r_X3_priceFor, if_neg c_1, if_neg c_57, if_pos c_76, if_neg c_98, if_neg c_99, if_pos c_100])
        · have c_101 : ¬ (g (h + 6) a1.toNatClampNeg) = 1 := by rw [hkd]; decide
          have c_102 : ¬ (g (h + 6) a1.toNatClampNeg) = 2 := by rw [hkd]; decide
          have c_103 : ¬ (g (h + 6) a1.toNatClampNeg) = 3 := by rw [hkd]; decide
          have c_104 : (g (h + 6) a1.toNatClampNeg) = 4 := hkd
          refine wx_callr (va_runU (As := [.int x_56, .int 1]) (rest := []) ⟨hx, hb, hml, hown, hts⟩ (k_X10_priceFrom l g (g (h + 6) a1.toNatClampNeg) a1 x_56 1 hp_q_93 hv_q_93) (va_cwO 2 hts gX3_priceFor_X10_priceFrom_u100X10 rfl rfl rfl (show Cond.code yX9_priceFrom cX9_priceFrom 3 (some .int) ∈ wsX3_priceFor by decide +kernel) (by decide +kernel) (by rw [hR]; exact ⟨Nat.le_of_ble_eq_true rfl, Nat.le_of_ble_eq_true rfl⟩)) ⟨wx_Pc.blind, wx_recvP hK hX hp_q_93 (show vwCl[9]? = some (RX10, TX10, 1) from rfl), (wx_Pc.pre hK hX).2⟩ rfl rfl hl.1 rfl (lv_room (Nat.le_of_ble_eq_true rfl)) dX3_priceFor_72 ⟨Nat.zero_le _, Nat.zero_le _⟩) ?_
          exact hret _ _ _ dX3_priceFor_75 rfl (by subst ex_56; simp only [r_X3_priceFor, if_neg c_1, if_neg c_57, if_pos c_76, if_neg c_101, if_neg c_102, if_neg c_103, if_pos c_104])
        · have c_105 : ¬ (g (h + 6) a1.toNatClampNeg) = 1 := by rw [hkd]; decide
          have c_106 : ¬ (g (h + 6) a1.toNatClampNeg) = 2 := by rw [hkd]; decide
          have c_107 : ¬ (g (h + 6) a1.toNatClampNeg) = 3 := by rw [hkd]; decide
          have c_108 : ¬ (g (h + 6) a1.toNatClampNeg) = 4 := by rw [hkd]; decide
          refine wx_callr (va_runU (As := [.int x_56, .int 1]) (rest := []) ⟨hx, hb, hml, hown, hts⟩ (k_X2_priceFrom l g (g (h + 6) a1.toNatClampNeg) a1 x_56 1 hp_q_93 hv_q_93) (va_cwO 2 hts gX3_priceFor_X2_priceFrom_u100X2 rfl rfl rfl (show Cond.code yX9_priceFrom cX9_priceFrom 3 (some .int) ∈ wsX3_priceFor by decide +kernel) (by decide +kernel) (by rw [hR]; exact ⟨Nat.le_of_ble_eq_true rfl, Nat.le_of_ble_eq_true rfl⟩)) ⟨wx_Pc.blind, wx_recvP hK hX hp_q_93 (show vwCl[2]? = some (RX2, TX2, 1) from rfl), (wx_Pc.pre hK hX).2⟩ rfl rfl hl.1 rfl (lv_room (Nat.le_of_ble_eq_true rfl)) dX3_priceFor_72 ⟨Nat.zero_le _, Nat.zero_le _⟩) ?_
          exact hret _ _ _ dX3_priceFor_75 rfl (by subst ex_56; simp only [r_X3_priceFor, if_neg c_1, if_neg c_57, if_pos c_76, if_neg c_105, if_neg c_106, if_neg c_107, if_neg c_108])
def r_X3_canBuy (g : wx_M) (h : Nat) (a1 : Int32) (a2 : Int32) (a3 : Int32) : Int32 :=
  if (r_X3_isLeft g h a2 a3) = 0 then
    0
  else
    if 24 ≤ (g h 6) then
      0
    else
      if (g (h + 5) a1.toNatClampNeg) < (r_X3_priceFor g h a1 a2 a3) then
        0
      else
        1
set_option maxHeartbeats 4000000 in
set_option maxRecDepth 100000 in
theorem k_X3_canBuy (l : Launch) {D : va_G} {cy : Nat → ClassId} {ad : Nat → Nat} {B0 : Nat} {f : wx_F} {P : va_W} (g : wx_M) (h : Nat) (a1 : Int32) (a2 : Int32) (a3 : Int32) (hh : wx_H h) (b1 : wx_b a1 0 3) (b2 : wx_b a2 0 5) (b3 : wx_b a3 0 7) (hg : wx_HB g h) : Met l yX3_canBuy wsX3_canBuy ({ frames := 4, cells := 0, slots := 0, locals := 99 } : Room) (wx_Pc D cy ad B0 f P g [.ref (ad h), .int a1, .int a2, .int a3]) (QcRead (r_X3_canBuy g h a1 a2 a3)) 0 0 (fun _ => False) := by
  refine wx_enterR (cc := cX3_canBuy) (maxL := 4) (ty := .boolean) (own := RX3) (lv := [(0, .ref (ad h)), (1, .int a1), (2, .int a2), (3, .int a3)]) (by decide) rfl rfl (Nat.le_of_ble_eq_true rfl) rfl ?_
  intro p e R s m args below meth c ls Qm hx hb hml hown hts hK hX hR hret hl
  have hi_X3 : ∀ w ∈ wsX30, w ∈ wsX3_canBuy := by decide +kernel
  refine lv_aload_n hx hb dX3_canBuy_0 rfl (lv_at hl 0 rfl) ?_
  refine lv_iload_n hx hb dX3_canBuy_1 rfl (lv_at hl 2 rfl) ?_
  refine lv_iload_n hx hb dX3_canBuy_2 rfl (lv_at hl 3 rfl) ?_
  refine wx_callr (va_runV (As := [.int a2, .int a3]) (rest := []) ⟨hx, hb, hml, hown, hts⟩ (k_X3_isLeft l g h a2 a3 hh b2 b3) (cwV 2 hts gX3_canBuy_X3_isLeft rfl rfl rfl (by decide +kernel) (by rw [hR]; exact ⟨Nat.le_of_ble_eq_true rfl, Nat.le_of_ble_eq_true rfl⟩)) ⟨wx_Pc.blind, wx_recv hK hX hh.l0 (sh_X3 hh) rfl, (wx_Pc.pre hK hX).2⟩ rfl rfl hl.1 rfl (lv_room (Nat.le_of_ble_eq_true rfl)) dX3_canBuy_3 ⟨Nat.zero_le _, Nat.zero_le _⟩) ?_
  refine lv_if_eq (tgt := 38) hx hb dX3_canBuy_6 (by decide) (fun c_1 => ?_) (fun c_1 => ?_)
  · have b_2 : wx_b (r_X3_isLeft g h a2 a3) 0 0 := by rw [c_1]; exact ⟨by decide, by decide⟩
    refine lv_iconst (v := 0) hx hb dX3_canBuy_38 (by decide) ?_
    exact hret _ _ _ dX3_canBuy_39 rfl (by simp only [r_X3_canBuy, if_pos c_1])
  · refine lv_aload_n hx hb dX3_canBuy_9 rfl (lv_at hl 0 rfl) ?_
    refine wx_geti (C := RX3) (T := TX3) (N := 15) (ci := 3) (j := 6) hx hb hts hi_X3 hown hK hX hh.l0 (sh_X3_6 hh) rfl (by decide) (hts (.fieldLink RX3 63 "SeenAgain$House" "held" "I") (by decide +kernel)) (fun _ h9 => h9) dX3_canBuy_10 ?_
    refine lv_bipush (v := 24) hx hb dX3_canBuy_13 (by decide) ?_
    refine lv_icmp_ge (tgt := 38) hx hb dX3_canBuy_15 (by decide) (fun c_3 => ?_) (fun c_3 => ?_)
    · have b_4 : wx_b (g h 6) 24 2147483647 := wb_ge c_3 (wb_any _) (show wx_b 24 24 24 from ⟨by decide, by decide⟩) (by decide) (by decide)
      refine lv_iconst (v := 0) hx hb dX3_canBuy_38 (by decide) ?_
      exact hret _ _ _ dX3_canBuy_39 rfl (by simp only [r_X3_canBuy, if_neg c_1, if_pos c_3])
    · have b_5 : wx_b (g h 6) (-2147483648) 23 := wb_lt (wb_nle c_3) (wb_any _) (show wx_b 24 24 24 from ⟨by decide, by decide⟩) (by decide) (by decide)
      refine lv_aload_n hx hb dX3_canBuy_18 rfl (lv_at hl 0 rfl) ?_
      refine lv_iload_n hx hb dX3_canBuy_19 rfl (lv_at hl 1 rfl) ?_
      refine lv_iload_n hx hb dX3_canBuy_20 rfl (lv_at hl 2 rfl) ?_
      refine lv_iload_n hx hb dX3_canBuy_21 rfl (lv_at hl 3 rfl) ?_
      refine wx_callr (va_runV (As := [.int a1, .int a2, .int a3]) (rest := []) ⟨hx, hb, hml, hown, hts⟩ (k_X3_priceFor l g h a1 a2 a3 hh b1 b2 b3 hg) (cwV 3 hts gX3_canBuy_X3_priceFor rfl rfl rfl (by decide +kernel) (by rw [hR]; exact ⟨Nat.le_of_ble_eq_true rfl, Nat.le_of_ble_eq_true rfl⟩)) ⟨wx_Pc.blind, wx_recv hK hX hh.l0 (sh_X3 hh) rfl, (wx_Pc.pre hK hX).2⟩ rfl rfl hl.1 rfl (lv_room (Nat.le_of_ble_eq_true rfl)) dX3_canBuy_22 ⟨Nat.zero_le _, Nat.zero_le _⟩) ?_
      refine lv_aload_n hx hb dX3_canBuy_25 rfl (lv_at hl 0 rfl) ?_
      refine wx_getr (t := h + 5) (C := RX3) (T := TX3) (N := 15) (ci := 3) (j := 13) hx hb hts hi_X3 hown hK hX hh.l0 (sh_X3_13 hh) rfl (by decide) (hts (.fieldLink RX3 24 "SeenAgain$House" "purses" "[I") (by decide +kernel)) (fun _ h9 => h9) dX3_canBuy_26 ?_
      refine lv_iload_n hx hb dX3_canBuy_29 rfl (lv_at hl 1 rfl) ?_
      refine wx_iald hx hb hK hX hh.l5 (sa_X3_5 hh) (wb_in b1 (by decide) (by decide)) dX3_canBuy_30 ?_
      refine lv_icmp_gt (tgt := 38) hx hb dX3_canBuy_31 (by decide) (fun c_6 => ?_) (fun c_6 => ?_)
      · have b_7 : wx_b (g (h + 5) a1.toNatClampNeg) (-2147483648) 2147483646 := wb_lt c_6 (wb_any _) (wb_any _) (by decide) (by decide)
        have b_8 : wx_b (r_X3_priceFor g h a1 a2 a3) (-2147483647) 2147483647 := wb_gt c_6 (wb_any _) (wb_any _) (by decide) (by decide)
        refine lv_iconst (v := 0) hx hb dX3_canBuy_38 (by decide) ?_
        exact hret _ _ _ dX3_canBuy_39 rfl (by simp only [r_X3_canBuy, if_neg c_1, if_neg c_3, if_pos c_6])
      · refine lv_iconst (v := 1) hx hb dX3_canBuy_34 (by decide) ?_
        refine lv_goto (tgt := 39) hx hb dX3_canBuy_35 (by decide) ?_
        exact hret _ _ _ dX3_canBuy_39 rfl (by simp only [r_X3_canBuy, if_neg c_1, if_neg c_3, if_neg c_6])
theorem nb_r_X3_canBuy (g : wx_M) (h : Nat) (a1 : Int32) (a2 : Int32) (a3 : Int32) : narrow .boolean (.int (r_X3_canBuy g h a1 a2 a3)) = .int (r_X3_canBuy g h a1 a2 a3) := by
  unfold r_X3_canBuy
  (repeat' split) <;> first | rfl | exact nb_r_X3_isLeft _ _ _ _
def r_X3_toldBy (g : wx_M) (h : Nat) (a1 : Int32) (a2 : Int32) (a3 : Int32) : Int32 :=
  let x_1 := (r_X3_seenBy g h (1 <<< (a1 &&& 31)) a2 a3)
  if x_1 = (-1000000) then
    (-1000000)
  else
    if (g (h + 6) a1.toNatClampNeg) = 1 then
      (r_X9_tells x_1)
    else
      if (g (h + 6) a1.toNatClampNeg) = 2 then
        (r_X4_tells x_1 (g h 0))
      else
        if (g (h + 6) a1.toNatClampNeg) = 3 then
          (r_X9_tells x_1)
        else
          if (g (h + 6) a1.toNatClampNeg) = 4 then
            (r_X9_tells x_1)
          else
            (r_X9_tells x_1)
set_option maxHeartbeats 4000000 in
set_option maxRecDepth 100000 in
theorem k_X3_toldBy (l : Launch) {D : va_G} {cy : Nat → ClassId} {ad : Nat → Nat} {B0 : Nat} {f : wx_F} {P : va_W} (g : wx_M) (h : Nat) (a1 : Int32) (a2 : Int32) (a3 : Int32) (hh : wx_H h) (b1 : wx_b a1 0 3) (b2 : wx_b a2 0 3) (b3 : wx_b a3 0 7) (hg : wx_HB g h) : Met l yX3_toldBy wsX3_toldBy ({ frames := 4, cells := 0, slots := 0, locals := 91 } : Room) (wx_Pc D cy ad B0 f P g [.ref (ad h), .int a1, .int a2, .int a3]) (QcRead (r_X3_toldBy g h a1 a2 a3)) 0 0 (fun _ => False) := by
  refine wx_enterR (cc := cX3_toldBy) (maxL := 5) (ty := .int) (own := RX3) (lv := [(0, .ref (ad h)), (1, .int a1), (2, .int a2), (3, .int a3)]) (by decide) rfl rfl (Nat.le_of_ble_eq_true rfl) rfl ?_
  intro p e R s m args below meth c ls Qm hx hb hml hown hts hK hX hR hret hl
  have hi_X3 : ∀ w ∈ wsX30, w ∈ wsX3_toldBy := by decide +kernel
  refine lv_aload_n hx hb dX3_toldBy_0 rfl (lv_at hl 0 rfl) ?_
  refine lv_iconst (v := 1) hx hb dX3_toldBy_1 (by decide) ?_
  refine lv_iload_n hx hb dX3_toldBy_2 rfl (lv_at hl 1 rfl) ?_
  refine lv_ishl hx hb dX3_toldBy_3 ?_
  refine lv_iload_n hx hb dX3_toldBy_4 rfl (lv_at hl 2 rfl) ?_
  refine lv_iload_n hx hb dX3_toldBy_5 rfl (lv_at hl 3 rfl) ?_
  refine wx_callr (va_runV (As := [.int (1 <<< (a1 &&& 31)), .int a2, .int a3]) (rest := []) ⟨hx, hb, hml, hown, hts⟩ (k_X3_seenBy l g h (1 <<< (a1 &&& 31)) a2 a3 hh b2 b3 hg) (cwV 3 hts gX3_toldBy_X3_seenBy rfl rfl rfl (by decide +kernel) (by rw [hR]; exact ⟨Nat.le_of_ble_eq_true rfl, Nat.le_of_ble_eq_true rfl⟩)) ⟨wx_Pc.blind, wx_recv hK hX hh.l0 (sh_X3 hh) rfl, (wx_Pc.pre hK hX).2⟩ rfl rfl hl.1 rfl (lv_room (Nat.le_of_ble_eq_true rfl)) dX3_toldBy_6 ⟨Nat.zero_le _, Nat.zero_le _⟩) ?_
  refine lv_topi (fun x_1 ex_1 => ?_)
  refine lv_istore (lv' := [(4, .int x_1), (0, .ref (ad h)), (1, .int a1), (2, .int a2), (3, .int a3)]) hx hb dX3_toldBy_9 hl (by decide) rfl (fun ls hl => ?_)
  refine lv_iload hx hb dX3_toldBy_11 (lv_at hl 0 rfl) ?_
  refine lv_ldc hx hb hown (hts (.constant RX3 111 (-1000000)) (by decide +kernel)) dX3_toldBy_13 ?_
  refine lv_icmp_ne (tgt := 23) hx hb dX3_toldBy_15 (by decide) (fun c_2 => ?_) (fun c_2 => ?_)
  · refine lv_aload_n hx hb dX3_toldBy_23 rfl (lv_at hl 1 rfl) ?_
    refine wx_getr (t := h + 6) (C := RX3) (T := TX3) (N := 15) (ci := 3) (j := 14) hx hb hts hi_X3 hown hK hX hh.l0 (sh_X3_14 hh) rfl (by decide) (hts (.fieldLink RX3 29 "SeenAgain$House" "guests" "[LSeenAgain$Visitor;") (by decide +kernel)) (fun _ h9 => h9) dX3_toldBy_24 ?_
    refine lv_iload_n hx hb dX3_toldBy_27 rfl (lv_at hl 2 rfl) ?_
    refine wx_gald hx hb hK hX (h := h) hh.l6 hh (wb_in b1 (by decide) (by decide)) dX3_toldBy_28 (fun q_3 ci_q_3 pi_q_3 hp_q_3 hv_q_3 => ?_)
    refine lv_iload hx hb dX3_toldBy_29 (lv_at hl 0 rfl) ?_
    refine lv_aload_n hx hb dX3_toldBy_31 rfl (lv_at hl 1 rfl) ?_
    refine wx_geti (C := RX3) (T := TX3) (N := 15) (ci := 3) (j := 0) hx hb hts hi_X3 hown hK hX hh.l0 (sh_X3_0 hh) rfl (by decide) (hts (.fieldLink RX3 54 "SeenAgain$House" "rooms" "I") (by decide +kernel)) (fun _ h9 => h9) dX3_toldBy_32 ?_
    have hk_4 := hv_q_3
    rcases hk_4 with ⟨hkd, rfl⟩ | ⟨hkd, rfl⟩ | ⟨hkd, rfl⟩ | ⟨hkd, rfl⟩ | ⟨hkd, rfl⟩
    · have c_5 : (g (h + 6) a1.toNatClampNeg) = 1 := hkd
      refine wx_callr (va_runU (As := [.int x_1, .int (g h 0)]) (rest := []) ⟨hx, hb, hml, hown, hts⟩ (k_X9_tells l g (g (h + 6) a1.toNatClampNeg) a1 x_1 (g h 0) hp_q_3 hv_q_3) (va_cwU 2 hts gX3_toldBy_X9_tells_u128X7 rfl rfl rfl rfl (by decide +kernel) (by rw [hR]; exact ⟨Nat.le_of_ble_eq_true rfl, Nat.le_of_ble_eq_true rfl⟩)) ⟨wx_Pc.blind, wx_recvP hK hX hp_q_3 (show vwCl[7]? = some (RX7, TX7, 1) from rfl), (wx_Pc.pre hK hX).2⟩ rfl rfl hl.1 rfl (lv_room (Nat.le_of_ble_eq_true rfl)) dX3_toldBy_35 ⟨Nat.zero_le _, Nat.zero_le _⟩) ?_
      exact hret _ _ _ dX3_toldBy_38 rfl (by subst ex_1; simp only [r_X3_toldBy, if_neg c_2, if_pos c_5])
    · have c_6 : ¬ (g (h + 6) a1.toNatClampNeg) = 1 := by rw [hkd]; decide
      have c_7 : (g (h + 6) a1.toNatClampNeg) = 2 := hkd
      refine wx_callr (va_runU (As := [.int x_1, .int (g h 0)]) (rest := []) ⟨hx, hb, hml, hown, hts⟩ (k_X4_tells l g (g (h + 6) a1.toNatClampNeg) a1 x_1 (g h 0) hp_q_3 hv_q_3) (va_cwO 2 hts gX3_toldBy_X4_tells_u128X4 rfl rfl rfl (show Cond.code yX9_tells cX9_tells 3 (some .int) ∈ wsX3_toldBy by decide +kernel) (by decide +kernel) (by rw [hR]; exact ⟨Nat.le_of_ble_eq_true rfl, Nat.le_of_ble_eq_true rfl⟩)) ⟨wx_Pc.blind, wx_recvP hK hX hp_q_3 (show vwCl[4]? = some (RX4, TX4, 1) from rfl), (wx_Pc.pre hK hX).2⟩ rfl rfl hl.1 rfl (lv_room (Nat.le_of_ble_eq_true rfl)) dX3_toldBy_35 ⟨Nat.zero_le _, Nat.zero_le _⟩) ?_
      exact hret _ _ _ dX3_toldBy_38 rfl (by subst ex_1; simp only [r_X3_toldBy, if_neg c_2, if_neg c_6, if_pos c_7])
    · have c_8 : ¬ (g (h + 6) a1.toNatClampNeg) = 1 := by rw [hkd]; decide
      have c_9 : ¬ (g (h + 6) a1.toNatClampNeg) = 2 := by rw [hkd]; decide
      have c_10 : (g (h + 6) a1.toNatClampNeg) = 3 := hkd
      refine wx_callr (va_runU (As := [.int x_1, .int (g h 0)]) (rest := []) ⟨hx, hb, hml, hown, hts⟩ (k_X9_tells l g (g (h + 6) a1.toNatClampNeg) a1 x_1 (g h 0) hp_q_3 hv_q_3) (va_cwU 2 hts gX3_toldBy_X9_tells_u128X1 rfl rfl rfl rfl (by decide +kernel) (by rw [hR]; exact ⟨Nat.le_of_ble_eq_true rfl, Nat.le_of_ble_eq_true rfl⟩)) ⟨wx_Pc.blind, wx_recvP hK hX hp_q_3 (show vwCl[1]? = some (RX1, TX1, 1) from rfl), (wx_Pc.pre hK hX).2⟩ rfl rfl hl.1 rfl (lv_room (Nat.le_of_ble_eq_true rfl)) dX3_toldBy_35 ⟨Nat.zero_le _, Nat.zero_le _⟩) ?_
      exact hret _ _ _ dX3_toldBy_38 rfl (by subst ex_1; simp only [r_X3_toldBy, if_neg c_2, if_neg c_8, if_neg c_9, if_pos c_10])
    · have c_11 : ¬ (g (h + 6) a1.toNatClampNeg) = 1 := by rw [hkd]; decide
      have c_12 : ¬ (g (h + 6) a1.toNatClampNeg) = 2 := by rw [hkd]; decide
      have c_13 : ¬ (g (h + 6) a1.toNatClampNeg) = 3 := by rw [hkd]; decide
      have c_14 : (g (h + 6) a1.toNatClampNeg) = 4 := hkd
      refine wx_callr (va_runU (As := [.int x_1, .int (g h 0)]) (rest := []) ⟨hx, hb, hml, hown, hts⟩ (k_X9_tells l g (g (h + 6) a1.toNatClampNeg) a1 x_1 (g h 0) hp_q_3 hv_q_3) (va_cwU 2 hts gX3_toldBy_X9_tells_u128X10 rfl rfl rfl rfl (by decide +kernel) (by rw [hR]; exact ⟨Nat.le_of_ble_eq_true rfl, Nat.le_of_ble_eq_true rfl⟩)) ⟨wx_Pc.blind, wx_recvP hK hX hp_q_3 (show vwCl[9]? = some (RX10, TX10, 1) from rfl), (wx_Pc.pre hK hX).2⟩ rfl rfl hl.1 rfl (lv_room (Nat.le_of_ble_eq_true rfl)) dX3_toldBy_35 ⟨Nat.zero_le _, Nat.zero_le _⟩) ?_
      exact hret _ _ _ dX3_toldBy_38 rfl (by subst ex_1; simp only [r_X3_toldBy, if_neg c_2, if_neg c_11, if_neg c_12, if_neg c_13, if_pos c_14])
    · have c_15 : ¬ (g (h + 6) a1.toNatClampNeg) = 1 := by rw [hkd]; decide
      have c_16 : ¬ (g (h + 6) a1.toNatClampNeg) = 2 := by rw [hkd]; decide
      have c_17 : ¬ (g (h + 6) a1.toNatClampNeg) = 3 := by rw [hkd]; decide
      have c_18 : ¬ (g (h + 6) a1.toNatClampNeg) = 4 := by rw [hkd]; decide
      refine wx_callr (va_runU (As := [.int x_1, .int (g h 0)]) (rest := []) ⟨hx, hb, hml, hown, hts⟩ (k_X9_tells l g (g (h + 6) a1.toNatClampNeg) a1 x_1 (g h 0) hp_q_3 hv_q_3) (va_cwU 2 hts gX3_toldBy_X9_tells_u128X2 rfl rfl rfl rfl (by decide +kernel) (by rw [hR]; exact ⟨Nat.le_of_ble_eq_true rfl, Nat.le_of_ble_eq_true rfl⟩)) ⟨wx_Pc.blind, wx_recvP hK hX hp_q_3 (show vwCl[2]? = some (RX2, TX2, 1) from rfl), (wx_Pc.pre hK hX).2⟩ rfl rfl hl.1 rfl (lv_room (Nat.le_of_ble_eq_true rfl)) dX3_toldBy_35 ⟨Nat.zero_le _, Nat.zero_le _⟩) ?_
      exact hret _ _ _ dX3_toldBy_38 rfl (by subst ex_1; simp only [r_X3_toldBy, if_neg c_2, if_neg c_15, if_neg c_16, if_neg c_17, if_neg c_18])
  · have b_19 : wx_b x_1 (-1000000) (-1000000) := by rw [c_2]; exact ⟨by decide, by decide⟩
    refine lv_ldc hx hb hown (hts (.constant RX3 111 (-1000000)) (by decide +kernel)) dX3_toldBy_18 ?_
    refine lv_goto (tgt := 38) hx hb dX3_toldBy_20 (by decide) ?_
    exact hret _ _ _ dX3_toldBy_38 rfl (by subst ex_1; simp only [r_X3_toldBy, if_pos c_2])
def b_X3_mostTold_24 (g : wx_M) (h : Nat) (a1 : Int32) (a2 : Int32) (t_9 : Nat) (s_9 : Int32 × Int32) (t_24 : Nat) (s_24 : Int32) : Int32 :=
  if (r_X3_toldBy g h (nI t_24) a1 a2) = (nI t_9) then
    let x_10 := (s_24 + 1)
    x_10
  else
    s_24
def b_X3_mostTold_9 (g : wx_M) (h : Nat) (a1 : Int32) (a2 : Int32) (t_9 : Nat) (s_9 : Int32 × Int32) : Int32 × Int32 :=
  let s_24 := rep (g h 5).toNatClampNeg (b_X3_mostTold_24 g h a1 a2 t_9 s_9) (0 : Int32)
  if s_24 ≤ s_9.1 then
    (s_9.1, s_9.2)
  else
    (s_24, (nI t_9))
def r_X3_mostTold (g : wx_M) (h : Nat) (a1 : Int32) (a2 : Int32) : Int32 :=
  let s_9 := rep (g h 0).toNatClampNeg (b_X3_mostTold_9 g h a1 a2) (0, (-1000000))
  s_9.2
set_option maxHeartbeats 4000000 in
set_option maxRecDepth 100000 in
theorem k_X3_mostTold (l : Launch) {D : va_G} {cy : Nat → ClassId} {ad : Nat → Nat} {B0 : Nat} {f : wx_F} {P : va_W} (g : wx_M) (h : Nat) (a1 : Int32) (a2 : Int32) (hh : wx_H h) (b1 : wx_b a1 0 3) (b2 : wx_b a2 0 7) (hg : wx_HB g h) : Met l yX3_mostTold wsX3_mostTold ({ frames := 5, cells := 0, slots := 0, locals := 115 } : Room) (wx_Pc D cy ad B0 f P g [.ref (ad h), .int a1, .int a2]) (QcRead (r_X3_mostTold g h a1 a2)) 0 0 (fun _ => False) := by
  refine wx_enterR (cc := cX3_mostTold) (maxL := 8) (ty := .int) (own := RX3) (lv := [(0, .ref (ad h)), (1, .int a1), (2, .int a2)]) (by decide) rfl rfl (Nat.le_of_ble_eq_true rfl) rfl ?_
  intro p e R s m args below meth c ls Qm hx hb hml hown hts hK hX hR hret hl
  have hi_X3 : ∀ w ∈ wsX30, w ∈ wsX3_mostTold := by decide +kernel
  refine lv_iconst (v := 0) hx hb dX3_mostTold_0 (by decide) ?_
  refine lv_istore_n (lv' := [(3, .int 0), (0, .ref (ad h)), (1, .int a1), (2, .int a2)]) hx hb dX3_mostTold_1 rfl hl (by decide) rfl (fun ls hl => ?_)
  refine lv_ldc hx hb hown (hts (.constant RX3 111 (-1000000)) (by decide +kernel)) dX3_mostTold_2 ?_
  refine lv_istore (lv' := [(4, .int (-1000000)), (3, .int 0), (0, .ref (ad h)), (1, .int a1), (2, .int a2)]) hx hb dX3_mostTold_4 hl (by decide) rfl (fun ls hl => ?_)
  refine lv_iconst (v := 0) hx hb dX3_mostTold_6 (by decide) ?_
  refine lv_istore (lv' := [(5, .int 0), (4, .int (-1000000)), (3, .int 0), (0, .ref (ad h)), (1, .int a1), (2, .int a2)]) hx hb dX3_mostTold_7 hl (by decide) rfl (fun ls hl => ?_)
  have lp_9 : ∀ (n t_9 : Nat) (s_9 : Int32 × Int32) (ls : Array Slot), t_9 ≤ (g h 0).toNatClampNeg → (g h 0).toNatClampNeg + 1 ≤ t_9 + n → s_9 = rep t_9 (b_X3_mostTold_9 g h a1 a2) (0, (-1000000)) → lv_has ls 8 [(5, .int (nI t_9)), (4, .int s_9.2), (3, .int s_9.1), (0, .ref (ad h)), (1, .int a1), (2, .int a2)] → W p l e R s m args below meth c s.heap [] 0 0 Qm (F0 m 9 ls []) := by
    intro n
    induction n with
    | zero => intro t_9 s_9 ls h1 h2; exact absurd h2 (by omega)
    | succ n ih_9 =>
      intro t_9 s_9 ls ht_9 hn_9 es_9 hl
      refine lv_iload hx hb dX3_mostTold_9 (lv_at hl 0 rfl) ?_
      refine lv_aload_n hx hb dX3_mostTold_11 rfl (lv_at hl 3 rfl) ?_
      refine wx_geti (C := RX3) (T := TX3) (N := 15) (ci := 3) (j := 0) hx hb hts hi_X3 hown hK hX hh.l0 (sh_X3_0 hh) rfl (by decide) (hts (.fieldLink RX3 54 "SeenAgain$House" "rooms" "I") (by decide +kernel)) (fun _ h9 => h9) dX3_mostTold_12 ?_
      refine lv_icmp_ge (tgt := 74) hx hb dX3_mostTold_15 (by decide) (fun c_1 => ?_) (fun c_1 => ?_)
      · have et_9 : t_9 = (g h 0).toNatClampNeg := Nat.le_antisymm ht_9 (by have h9 := wx_dn (by have := wx_cl31 (g h 0); omega) c_1; omega)
        subst et_9
        refine lv_iload hx hb dX3_mostTold_74 (lv_at hl 1 rfl) ?_
        exact hret _ _ _ dX3_mostTold_76 rfl (by simp only [r_X3_mostTold, ← es_9])
      · have hlt_9 : t_9 < (g h 0).toNatClampNeg := by have h9 := wx_up (by have := wx_cl31 (g h 0); omega) c_1; omega
        have bt_9 : wx_b (nI (t_9)) 0 5 := wb_nI (n := 5) (by have := wb_cl (n := 6) hg.1 (by decide); omega) (by decide)
        refine lv_iconst (v := 0) hx hb dX3_mostTold_18 (by decide) ?_
        refine lv_istore (lv' := [(6, .int 0), (5, .int (nI t_9)), (4, .int s_9.2), (3, .int s_9.1), (0, .ref (ad h)), (1, .int a1), (2, .int a2)]) hx hb dX3_mostTold_19 hl (by decide) rfl (fun ls hl => ?_)
        refine lv_iconst (v := 0) hx hb dX3_mostTold_21 (by decide) ?_
        refine lv_istore (lv' := [(7, .int 0), (6, .int 0), (5, .int (nI t_9)), (4, .int s_9.2), (3, .int s_9.1), (0, .ref (ad h)), (1, .int a1), (2, .int a2)]) hx hb dX3_mostTold_22 hl (by decide) rfl (fun ls hl => ?_)
        have lp_24 : ∀ (n t_24 : Nat) (s_24 : Int32) (ls : Array Slot), t_24 ≤ (g h 5).toNatClampNeg → (g h 5).toNatClampNeg + 1 ≤ t_24 + n → s_24 = rep t_24 (b_X3_mostTold_24 g h a1 a2 t_9 s_9) (0 : Int32) → lv_has ls 8 [(7, .int (nI t_24)), (6, .int s_24), (5, .int (nI t_9)), (4, .int s_9.2), (3, .int s_9.1), (0, .ref (ad h)), (1, .int a1), (2, .int a2)] → W p l e R s m args below meth c s.heap [] 0 0 Qm (F0 m 24 ls []) := by
          intro n
          induction n with
          | zero => intro t_24 s_24 ls h1 h2; exact absurd h2 (by omega)
          | succ n ih_24 =>
            intro t_24 s_24 ls ht_24 hn_24 es_24 hl
            refine lv_iload hx hb dX3_mostTold_24 (lv_at hl 0 rfl) ?_
            refine lv_aload_n hx hb dX3_mostTold_26 rfl (lv_at hl 5 rfl) ?_
            refine wx_geti (C := RX3) (T := TX3) (N := 15) (ci := 3) (j := 5) hx hb hts hi_X3 hown hK hX hh.l0 (sh_X3_5 hh) rfl (by decide) (hts (.fieldLink RX3 45 "SeenAgain$House" "visitors" "I") (by decide +kernel)) (fun _ h9 => h9) dX3_mostTold_27 ?_
            refine lv_icmp_ge (tgt := 55) hx hb dX3_mostTold_30 (by decide) (fun c_2 => ?_) (fun c_2 => ?_)
            · have et_24 : t_24 = (g h 5).toNatClampNeg := Nat.le_antisymm ht_24 (by have h9 := wx_dn (by have := wx_cl31 (g h 5); omega) c_2; omega)
              subst et_24
              refine lv_iload hx hb dX3_mostTold_55 (lv_at hl 1 rfl) ?_
              refine lv_iload_n hx hb dX3_mostTold_57 rfl (lv_at hl 4 rfl) ?_
              refine lv_icmp_le (tgt := 68) hx hb dX3_mostTold_58 (by decide) (fun c_3 => ?_) (fun c_3 => ?_)
              · refine lv_iinc (v := nI (t_9 + 1)) (lv' := [(5, .int (nI (t_9 + 1))), (7, .int (nI ((g h 5).toNatClampNeg))), (6, .int s_24), (4, .int s_9.2), (3, .int s_9.1), (0, .ref (ad h)), (1, .int a1), (2, .int a2)]) hx hb dX3_mostTold_68 hl (k := 2) rfl (wx_inc _) (by decide) rfl (fun ls hl => ?_)
                refine lv_goto (tgt := 9) hx hb dX3_mostTold_71 (by decide) ?_
                have hF_4 : (b_X3_mostTold_9 g h a1 a2) t_9 s_9 = (s_9.1, s_9.2) := (by simp only [b_X3_mostTold_9, if_pos c_3, ← es_24])
                exact ih_9 (t_9 + 1) (s_9.1, s_9.2) ls hlt_9 (by omega) (by rw [rep_succ, ← es_9, hF_4]) (lv_sub hl [0, 3, 4, 5, 6, 7] rfl)
              · have b_5 : wx_b s_9.1 (-2147483648) 2147483646 := wb_lt (wb_nle c_3) (wb_any _) (wb_any _) (by decide) (by decide)
                have b_6 : wx_b s_24 (-2147483647) 2147483647 := wb_gt (wb_nle c_3) (wb_any _) (wb_any _) (by decide) (by decide)
                refine lv_iload hx hb dX3_mostTold_61 (lv_at hl 1 rfl) ?_
                refine lv_istore_n (lv' := [(3, .int s_24), (7, .int (nI ((g h 5).toNatClampNeg))), (6, .int s_24), (5, .int (nI t_9)), (4, .int s_9.2), (0, .ref (ad h)), (1, .int a1), (2, .int a2)]) hx hb dX3_mostTold_63 rfl hl (by decide) rfl (fun ls hl => ?_)
                refine lv_iload hx hb dX3_mostTold_64 (lv_at hl 3 rfl) ?_
                refine lv_istore (lv' := [(4, .int (nI t_9)), (3, .int s_24), (7, .int (nI ((g h 5).toNatClampNeg))), (6, .int s_24), (5, .int (nI t_9)), (0, .ref (ad h)), (1, .int a1), (2, .int a2)]) hx hb dX3_mostTold_66 hl (by decide) rfl (fun ls hl => ?_)
                refine lv_iinc (v := nI (t_9 + 1)) (lv' := [(5, .int (nI (t_9 + 1))), (4, .int (nI t_9)), (3, .int s_24), (7, .int (nI ((g h 5).toNatClampNeg))), (6, .int s_24), (0, .ref (ad h)), (1, .int a1), (2, .int a2)]) hx hb dX3_mostTold_68 hl (k := 4) rfl (wx_inc _) (by decide) rfl (fun ls hl => ?_)
                refine lv_goto (tgt := 9) hx hb dX3_mostTold_71 (by decide) ?_
                have hF_7 : (b_X3_mostTold_9 g h a1 a2) t_9 s_9 = (s_24, (nI t_9)) := (by simp only [b_X3_mostTold_9, if_neg c_3, ← es_24])
                exact ih_9 (t_9 + 1) (s_24, (nI t_9)) ls hlt_9 (by omega) (by rw [rep_succ, ← es_9, hF_7]) (lv_sub hl [0, 1, 2, 5, 6, 7] rfl)
            · have hlt_24 : t_24 < (g h 5).toNatClampNeg := by have h9 := wx_up (by have := wx_cl31 (g h 5); omega) c_2; omega
              have bt_24 : wx_b (nI (t_24)) 0 3 := wb_nI (n := 3) (by have := wb_cl (n := 4) hg.2.2 (by decide); omega) (by decide)
              refine lv_aload_n hx hb dX3_mostTold_33 rfl (lv_at hl 5 rfl) ?_
              refine lv_iload hx hb dX3_mostTold_34 (lv_at hl 0 rfl) ?_
              refine lv_iload_n hx hb dX3_mostTold_36 rfl (lv_at hl 6 rfl) ?_
              refine lv_iload_n hx hb dX3_mostTold_37 rfl (lv_at hl 7 rfl) ?_
              refine wx_callr (va_runV (As := [.int (nI t_24), .int a1, .int a2]) (rest := []) ⟨hx, hb, hml, hown, hts⟩ (k_X3_toldBy l g h (nI t_24) a1 a2 hh bt_24 b1 b2 hg) (cwV 3 hts gX3_mostTold_X3_toldBy rfl rfl rfl (by decide +kernel) (by rw [hR]; exact ⟨Nat.le_of_ble_eq_true rfl, Nat.le_of_ble_eq_true rfl⟩)) ⟨wx_Pc.blind, wx_recv hK hX hh.l0 (sh_X3 hh) rfl, (wx_Pc.pre hK hX).2⟩ rfl rfl hl.1 rfl (lv_room (Nat.le_of_ble_eq_true rfl)) dX3_mostTold_38 ⟨Nat.zero_le _, Nat.zero_le _⟩) ?_
              refine lv_iload hx hb dX3_mostTold_41 (lv_at hl 2 rfl) ?_
              refine lv_icmp_ne (tgt := 49) hx hb dX3_mostTold_43 (by decide) (fun c_8 => ?_) (fun c_8 => ?_)
              · refine lv_iinc (v := nI (t_24 + 1)) (lv' := [(7, .int (nI (t_24 + 1))), (6, .int s_24), (5, .int (nI t_9)), (4, .int s_9.2), (3, .int s_9.1), (0, .ref (ad h)), (1, .int a1), (2, .int a2)]) hx hb dX3_mostTold_49 hl (k := 0) rfl (wx_inc _) (by decide) rfl (fun ls hl => ?_)
                refine lv_goto (tgt := 24) hx hb dX3_mostTold_52 (by decide) ?_
                have hF_9 : (b_X3_mostTold_24 g h a1 a2 t_9 s_9) t_24 s_24 = s_24 := (by simp only [b_X3_mostTold_24, if_neg c_8])
                exact ih_24 (t_24 + 1) s_24 ls hlt_24 (by omega) (by rw [rep_succ, ← es_24, hF_9]) (lv_sub hl [0, 1, 2, 3, 4, 5, 6, 7] rfl)
              · obtain ⟨x_10, ex_10⟩ : ∃ y : Int32, y = (s_24 + 1) := ⟨_, rfl⟩
                refine lv_iinc (v := x_10) (lv' := [(6, .int x_10), (7, .int (nI t_24)), (5, .int (nI t_9)), (4, .int s_9.2), (3, .int s_9.1), (0, .ref (ad h)), (1, .int a1), (2, .int a2)]) hx hb dX3_mostTold_46 hl (k := 1) rfl (by rw [ex_10]; rfl) (by decide) rfl (fun ls hl => ?_)
                refine lv_iinc (v := nI (t_24 + 1)) (lv' := [(7, .int (nI (t_24 + 1))), (6, .int x_10), (5, .int (nI t_9)), (4, .int s_9.2), (3, .int s_9.1), (0, .ref (ad h)), (1, .int a1), (2, .int a2)]) hx hb dX3_mostTold_49 hl (k := 1) rfl (wx_inc _) (by decide) rfl (fun ls hl => ?_)
                refine lv_goto (tgt := 24) hx hb dX3_mostTold_52 (by decide) ?_
                have hF_11 : (b_X3_mostTold_24 g h a1 a2 t_9 s_9) t_24 s_24 = x_10 := (by subst ex_10; simp only [b_X3_mostTold_24, if_pos c_8])
                exact ih_24 (t_24 + 1) x_10 ls hlt_24 (by omega) (by rw [rep_succ, ← es_24, hF_11]) (lv_sub hl [0, 1, 2, 3, 4, 5, 6, 7] rfl)
        exact lp_24 ((g h 5).toNatClampNeg + 1) 0 (0 : Int32) ls (Nat.zero_le _) (by omega) rfl (lv_sub hl [0, 1, 2, 3, 4, 5, 6, 7] rfl)
  exact lp_9 ((g h 0).toNatClampNeg + 1) 0 (0, (-1000000)) ls (Nat.zero_le _) (by omega) rfl (lv_sub hl [0, 1, 2, 3, 4, 5] rfl)
