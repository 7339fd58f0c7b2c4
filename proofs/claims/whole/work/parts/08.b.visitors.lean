set_option maxHeartbeats 4000000 in
set_option maxRecDepth 100000 in
theorem k_X9_init (l : Launch) {D : va_G} {cy : Nat → ClassId} {B0 : Nat} {w0 : va_W} {a ci : Nat} {kd v n : Int32} (hv : wx_v kd ci) : Met l yX9_init wsX9_init ({ frames := 1, cells := 0, slots := 0, locals := 12 } : Room) (wi_Pc D cy B0 False (w0 ++ [(a, .inr (ci, [.int v]))]) [.ref a, .int n]) (wi_Q D B0 (fun w => w = w0 ++ [(a, .inr (ci, [.int n]))])) 0 0 (fun q => B0 ≤ q) := by
  refine wi_enter (cc := cX9_init) (maxL := 2) (own := RX9) (lv := [(0, .ref a), (1, .int n)]) (by decide) rfl rfl rfl (Nat.le_of_ble_eq_true rfl) rfl ?_
  intro p e R s m args below meth c ls Qm hx hb hml hown hnm hts hK hN hX hB hS hR hret hl
  refine lv_aload_n hx hb dX9_init_0 rfl (lv_at hl 0 rfl) ?_
  refine W.objInit hx hb hown (hts (.methodLink RX9 1 objectInit) (by decide +kernel)) (hts (.instanceMethod objectInit) (by decide +kernel)) (hts (.code objectInit ⟨#[0xb1]⟩ 1 none) (by decide +kernel)) rfl (by rw [hml]; exact hl.1) rfl dX9_init_1 (by rw [hR]; exact Nat.le_of_ble_eq_true rfl) (by rw [hR]; exact Nat.le_of_ble_eq_true rfl) ?_
  refine W.eq (g2 := F0 m 4 ls []) rfl ?_
  refine lv_aload_n hx hb dX9_init_4 rfl (lv_at hl 0 rfl) ?_
  refine lv_iload_n hx hb dX9_init_5 rfl (lv_at hl 1 rfl) ?_
  rcases hv with ⟨-, rfl⟩ | ⟨-, rfl⟩ | ⟨-, rfl⟩ | ⟨-, rfl⟩ | ⟨-, rfl⟩
  · exact wi_putF (C := RX7) (T := TX7) (N := 1) (ci := 7) (ty := .int) hx hb hts (by decide +kernel) tyX7 tyX7_ok nmX7 hown hK hX hS 0 rfl rfl 0 (by decide) (hts (.fieldLink RX9 7 "SeenAgain$Visitor" "number" "I") (by decide +kernel)) (fun _ h9 => h9) rfl hnm rfl (by decide +kernel) rfl rfl (Nat.le_of_ble_eq_true rfl) dX9_init_6 (fun H locs hX hS => hret _ _ _ _ _ dX9_init_9 rfl hX hS)
  · exact wi_putF (C := RX4) (T := TX4) (N := 1) (ci := 4) (ty := .int) hx hb hts (by decide +kernel) tyX4 tyX4_ok nmX4 hown hK hX hS 0 rfl rfl 0 (by decide) (hts (.fieldLink RX9 7 "SeenAgain$Visitor" "number" "I") (by decide +kernel)) (fun _ h9 => h9) rfl hnm rfl (by decide +kernel) rfl rfl (Nat.le_of_ble_eq_true rfl) dX9_init_6 (fun H locs hX hS => hret _ _ _ _ _ dX9_init_9 rfl hX hS)
  · exact wi_putF (C := RX1) (T := TX1) (N := 1) (ci := 1) (ty := .int) hx hb hts (by decide +kernel) tyX1 tyX1_ok nmX1 hown hK hX hS 0 rfl rfl 0 (by decide) (hts (.fieldLink RX9 7 "SeenAgain$Visitor" "number" "I") (by decide +kernel)) (fun _ h9 => h9) rfl hnm rfl (by decide +kernel) rfl rfl (Nat.le_of_ble_eq_true rfl) dX9_init_6 (fun H locs hX hS => hret _ _ _ _ _ dX9_init_9 rfl hX hS)
  · exact wi_putF (C := RX10) (T := TX10) (N := 1) (ci := 9) (ty := .int) hx hb hts (by decide +kernel) tyX10 tyX10_ok nmX10 hown hK hX hS 0 rfl rfl 0 (by decide) (hts (.fieldLink RX9 7 "SeenAgain$Visitor" "number" "I") (by decide +kernel)) (fun _ h9 => h9) rfl hnm rfl (by decide +kernel) rfl rfl (Nat.le_of_ble_eq_true rfl) dX9_init_6 (fun H locs hX hS => hret _ _ _ _ _ dX9_init_9 rfl hX hS)
  · exact wi_putF (C := RX2) (T := TX2) (N := 1) (ci := 2) (ty := .int) hx hb hts (by decide +kernel) tyX2 tyX2_ok nmX2 hown hK hX hS 0 rfl rfl 0 (by decide) (hts (.fieldLink RX9 7 "SeenAgain$Visitor" "number" "I") (by decide +kernel)) (fun _ h9 => h9) rfl hnm rfl (by decide +kernel) rfl rfl (Nat.le_of_ble_eq_true rfl) dX9_init_6 (fun H locs hX hS => hret _ _ _ _ _ dX9_init_9 rfl hX hS)

set_option maxHeartbeats 4000000 in
set_option maxRecDepth 100000 in
theorem k_X7_init (l : Launch) {D : va_G} {cy : Nat → ClassId} {B0 : Nat} {w0 : va_W} {a ci : Nat} {kd v n : Int32} (hv : wx_v kd ci) : Met l yX7_init wsX7_init ({ frames := 2, cells := 0, slots := 0, locals := 33 } : Room) (wi_Pc D cy B0 False (w0 ++ [(a, .inr (ci, [.int v]))]) [.ref a, .int n]) (wi_Q D B0 (fun w => w = w0 ++ [(a, .inr (ci, [.int n]))])) 0 0 (fun q => B0 ≤ q) := by
  refine wi_enter (cc := cX7_init) (maxL := 2) (own := RX7) (lv := [(0, .ref a), (1, .int n)]) (by decide) rfl rfl rfl (Nat.le_of_ble_eq_true rfl) rfl ?_
  intro p e R s m args below meth c ls Qm hx hb hml hown hnm hts hK hN hX hB hS hR hret hl
  refine lv_aload_n hx hb dX7_init_0 rfl (lv_at hl 0 rfl) ?_
  refine lv_iload_n hx hb dX7_init_1 rfl (lv_at hl 1 rfl) ?_
  refine wi_call (va_runI (As := [.int n]) (rest := []) ⟨hx, hb, hml, hown, hts⟩ (k_X9_init l hv) (cwI 1 hts gX7_init_X9_init rfl rfl rfl (hts (.initialized RX9) (by decide +kernel)) (hts (.methodLink RX7 1 yX9_init) (by decide +kernel)) (hts (.instanceMethod yX9_init) (by decide +kernel)) rfl (by decide +kernel) (by rw [hR]; exact ⟨Nat.le_of_ble_eq_true rfl, Nat.le_of_ble_eq_true rfl⟩)) (wi_Pc.pre hK hN hX hB) rfl rfl hl.1 rfl (lv_room (Nat.le_of_ble_eq_true rfl)) dX7_init_2 ⟨Nat.zero_le _, Nat.zero_le _⟩) hS (fun w H locs hw hX hS => ?_)
  subst hw
  exact hret _ _ _ _ _ dX7_init_5 rfl hX hS

set_option maxHeartbeats 4000000 in
set_option maxRecDepth 100000 in
theorem k_X10_init (l : Launch) {D : va_G} {cy : Nat → ClassId} {B0 : Nat} {w0 : va_W} {a ci : Nat} {kd v n : Int32} (hv : wx_v kd ci) : Met l yX10_init wsX10_init ({ frames := 2, cells := 0, slots := 0, locals := 33 } : Room) (wi_Pc D cy B0 False (w0 ++ [(a, .inr (ci, [.int v]))]) [.ref a, .int n]) (wi_Q D B0 (fun w => w = w0 ++ [(a, .inr (ci, [.int n]))])) 0 0 (fun q => B0 ≤ q) := by
  refine wi_enter (cc := cX10_init) (maxL := 2) (own := RX10) (lv := [(0, .ref a), (1, .int n)]) (by decide) rfl rfl rfl (Nat.le_of_ble_eq_true rfl) rfl ?_
  intro p e R s m args below meth c ls Qm hx hb hml hown hnm hts hK hN hX hB hS hR hret hl
  refine lv_aload_n hx hb dX10_init_0 rfl (lv_at hl 0 rfl) ?_
  refine lv_iload_n hx hb dX10_init_1 rfl (lv_at hl 1 rfl) ?_
  refine wi_call (va_runI (As := [.int n]) (rest := []) ⟨hx, hb, hml, hown, hts⟩ (k_X9_init l hv) (cwI 1 hts gX10_init_X9_init rfl rfl rfl (hts (.initialized RX9) (by decide +kernel)) (hts (.methodLink RX10 1 yX9_init) (by decide +kernel)) (hts (.instanceMethod yX9_init) (by decide +kernel)) rfl (by decide +kernel) (by rw [hR]; exact ⟨Nat.le_of_ble_eq_true rfl, Nat.le_of_ble_eq_true rfl⟩)) (wi_Pc.pre hK hN hX hB) rfl rfl hl.1 rfl (lv_room (Nat.le_of_ble_eq_true rfl)) dX10_init_2 ⟨Nat.zero_le _, Nat.zero_le _⟩) hS (fun w H locs hw hX hS => ?_)
  subst hw
  exact hret _ _ _ _ _ dX10_init_5 rfl hX hS

set_option maxHeartbeats 4000000 in
set_option maxRecDepth 100000 in
theorem k_X1_init (l : Launch) {D : va_G} {cy : Nat → ClassId} {B0 : Nat} {w0 : va_W} {a ci : Nat} {kd v n : Int32} (hv : wx_v kd ci) : Met l yX1_init wsX1_init ({ frames := 3, cells := 0, slots := 0, locals := 54 } : Room) (wi_Pc D cy B0 False (w0 ++ [(a, .inr (ci, [.int v]))]) [.ref a, .int n]) (wi_Q D B0 (fun w => w = w0 ++ [(a, .inr (ci, [.int n]))])) 0 0 (fun q => B0 ≤ q) := by
  refine wi_enter (cc := cX1_init) (maxL := 2) (own := RX1) (lv := [(0, .ref a), (1, .int n)]) (by decide) rfl rfl rfl (Nat.le_of_ble_eq_true rfl) rfl ?_
  intro p e R s m args below meth c ls Qm hx hb hml hown hnm hts hK hN hX hB hS hR hret hl
  refine lv_aload_n hx hb dX1_init_0 rfl (lv_at hl 0 rfl) ?_
  refine lv_iload_n hx hb dX1_init_1 rfl (lv_at hl 1 rfl) ?_
  refine wi_call (va_runI (As := [.int n]) (rest := []) ⟨hx, hb, hml, hown, hts⟩ (k_X7_init l hv) (cwI 1 hts gX1_init_X7_init rfl rfl rfl (hts (.initialized RX7) (by decide +kernel)) (hts (.methodLink RX1 1 yX7_init) (by decide +kernel)) (hts (.instanceMethod yX7_init) (by decide +kernel)) rfl (by decide +kernel) (by rw [hR]; exact ⟨Nat.le_of_ble_eq_true rfl, Nat.le_of_ble_eq_true rfl⟩)) (wi_Pc.pre hK hN hX hB) rfl rfl hl.1 rfl (lv_room (Nat.le_of_ble_eq_true rfl)) dX1_init_2 ⟨Nat.zero_le _, Nat.zero_le _⟩) hS (fun w H locs hw hX hS => ?_)
  subst hw
  exact hret _ _ _ _ _ dX1_init_5 rfl hX hS

set_option maxHeartbeats 4000000 in
set_option maxRecDepth 100000 in
theorem k_X4_init (l : Launch) {D : va_G} {cy : Nat → ClassId} {B0 : Nat} {w0 : va_W} {a ci : Nat} {kd v n : Int32} (hv : wx_v kd ci) : Met l yX4_init wsX4_init ({ frames := 3, cells := 0, slots := 0, locals := 54 } : Room) (wi_Pc D cy B0 False (w0 ++ [(a, .inr (ci, [.int v]))]) [.ref a, .int n]) (wi_Q D B0 (fun w => w = w0 ++ [(a, .inr (ci, [.int n]))])) 0 0 (fun q => B0 ≤ q) := by
  refine wi_enter (cc := cX4_init) (maxL := 2) (own := RX4) (lv := [(0, .ref a), (1, .int n)]) (by decide) rfl rfl rfl (Nat.le_of_ble_eq_true rfl) rfl ?_
  intro p e R s m args below meth c ls Qm hx hb hml hown hnm hts hK hN hX hB hS hR hret hl
  refine lv_aload_n hx hb dX4_init_0 rfl (lv_at hl 0 rfl) ?_
  refine lv_iload_n hx hb dX4_init_1 rfl (lv_at hl 1 rfl) ?_
  refine wi_call (va_runI (As := [.int n]) (rest := []) ⟨hx, hb, hml, hown, hts⟩ (k_X7_init l hv) (cwI 1 hts gX4_init_X7_init rfl rfl rfl (hts (.initialized RX7) (by decide +kernel)) (hts (.methodLink RX4 1 yX7_init) (by decide +kernel)) (hts (.instanceMethod yX7_init) (by decide +kernel)) rfl (by decide +kernel) (by rw [hR]; exact ⟨Nat.le_of_ble_eq_true rfl, Nat.le_of_ble_eq_true rfl⟩)) (wi_Pc.pre hK hN hX hB) rfl rfl hl.1 rfl (lv_room (Nat.le_of_ble_eq_true rfl)) dX4_init_2 ⟨Nat.zero_le _, Nat.zero_le _⟩) hS (fun w H locs hw hX hS => ?_)
  subst hw
  exact hret _ _ _ _ _ dX4_init_5 rfl hX hS

set_option maxHeartbeats 4000000 in
set_option maxRecDepth 100000 in
theorem k_X2_init (l : Launch) {D : va_G} {cy : Nat → ClassId} {B0 : Nat} {w0 : va_W} {a ci : Nat} {kd v n : Int32} (hv : wx_v kd ci) : Met l yX2_init wsX2_init ({ frames := 3, cells := 0, slots := 0, locals := 54 } : Room) (wi_Pc D cy B0 False (w0 ++ [(a, .inr (ci, [.int v]))]) [.ref a, .int n]) (wi_Q D B0 (fun w => w = w0 ++ [(a, .inr (ci, [.int n]))])) 0 0 (fun q => B0 ≤ q) := by
  refine wi_enter (cc := cX2_init) (maxL := 2) (own := RX2) (lv := [(0, .ref a), (1, .int n)]) (by decide) rfl rfl rfl (Nat.le_of_ble_eq_true rfl) rfl ?_
  intro p e R s m args below meth c ls Qm hx hb hml hown hnm hts hK hN hX hB hS hR hret hl
  refine lv_aload_n hx hb dX2_init_0 rfl (lv_at hl 0 rfl) ?_
  refine lv_iload_n hx hb dX2_init_1 rfl (lv_at hl 1 rfl) ?_
  refine wi_call (va_runI (As := [.int n]) (rest := []) ⟨hx, hb, hml, hown, hts⟩ (k_X10_init l hv) (cwI 1 hts gX2_init_X10_init rfl rfl rfl (hts (.initialized RX10) (by decide +kernel)) (hts (.methodLink RX2 1 yX10_init) (by decide +kernel)) (hts (.instanceMethod yX10_init) (by decide +kernel)) rfl (by decide +kernel) (by rw [hR]; exact ⟨Nat.le_of_ble_eq_true rfl, Nat.le_of_ble_eq_true rfl⟩)) (wi_Pc.pre hK hN hX hB) rfl rfl hl.1 rfl (lv_room (Nat.le_of_ble_eq_true rfl)) dX2_init_2 ⟨Nat.zero_le _, Nat.zero_le _⟩) hS (fun w H locs hw hX hS => ?_)
  subst hw
  exact hret _ _ _ _ _ dX2_init_5 rfl hX hS

def r_X6_newVisitor (a1 : Int32) : Int32 := if a1 = 97 then 5 else if a1 = 100 then 3 else if a1 = 108 then 2 else if a1 = 119 then 4 else 1
def wx_Qn (D : va_G) (cy : Nat → ClassId) (ad : Nat → Nat) (B0 : Nat) (f : wx_F) (P : va_W) (g : wx_M) (kd n : Int32) : Array Value → State → Outcome → State → Prop := fun _ st o t => (∃ q ci, o = .returned (some (.ref q)) ∧ wx_v kd ci ∧ wx_X D cy ad B0 f (P ++ [(q, .inr (ci, [.int n]))]) g t.heap) ∧ va_F (fun q => B0 ≤ q) st t
theorem wx_callnv {p : Program} {l : Launch} {e : Env} {R : Room} {s : State} {m : MethodId} {args : Array Value} {below : List Frame} {meth : Method} {c : Code} {H : Heap} {locs : List Loc} {cells slots : Nat} {Q : State → Prop} {pc : Nat} {ls : Array Slot} {rest st0 : List Value} {H0 : Heap} {a : Array Value} {mc ms : Nat} {D : va_G} {cy : Nat → ClassId} {ad : Nat → Nat} {B0 : Nat} {f : wx_F} {P : va_W} {g : wx_M} {kd n : Int32}
    (hr : va_Run p l e R s m args below meth c H locs cells slots mc ms (F0 m pc ls st0) rest (wx_Qn D cy ad B0 f P g kd n a) (fun q => B0 ≤ q)) (hS : va_S (fun q => B0 ≤ q) H0 H locs)
    (kk : ∀ (q ci pi : Nat) (P1 : va_W) (H1 : Heap) (locs1 : List Loc), P1[pi]? = some (q, (Sum.inr (ci, [Value.int n]) : va_E)) → wx_v kd ci → wx_X D cy ad B0 f P1 g H1 → va_S (fun q => B0 ≤ q) H0 H1 locs1 → W p l e R s m args below meth c H1 locs1 (cells + mc) (slots + ms) Q (F0 m (pc + 3) ls (.ref q :: rest))) : W p l e R s m args below meth c H locs cells slots Q (F0 m pc ls st0) := by
  intro T hT X
  obtain ⟨v, st₀, t, T', L, h0, X', hL, e1, e2, ⟨⟨q, ci, hv, hvv, hx⟩, hz, hk⟩, st⟩ := hr T hT X
  cases hv
  rw [h0] at hz hk
  obtain ⟨t2, a1, b1⟩ := kk q ci P.length (P ++ [(q, .inr (ci, [.int n]))]) T'.heap (locs ++ L) (by simp) hvv (by rw [e1]; exact hx)
    ⟨Nat.le_trans hS.1 (by rw [e1]; exact hz), fun q h1 h2 => by rw [e1, hk q (Nat.lt_of_lt_of_le h1 hS.1) h2]; exact hS.2.1 q h1 h2, fun q hq => by
      rcases List.mem_append.mp hq with h | h
      · exact hS.2.2 q h
      · exact hL q h⟩ T' rfl X'
  exact ⟨t2, st t2 a1, b1⟩
theorem wx_X.size {D : va_G} {cy : Nat → ClassId} {ad : Nat → Nat} {B0 : Nat} {f : wx_F} {P : va_W} {g : wx_M} {H : Heap} (h : wx_X D cy ad B0 f P g H) : B0 ≤ H.size := by
  have h1 := wx_L_at (cy := cy) (ad := ad) (f := f) (g := g) P (k := 0) (by decide)
  exact Nat.le_trans (h.2.1.2 _ _ h1) (Nat.le_of_lt (h.1 _ _ h1).lt)
set_option maxHeartbeats 4000000 in
set_option maxRecDepth 100000 in
theorem k_X6_newVisitor (l : Launch) {D : va_G} {cy : Nat → ClassId} {ad : Nat → Nat} {B0 : Nat} {f : wx_F} {P : va_W} (g : wx_M) (a1 : Int32) (a2 : Int32) : Met l yX6_newVisitor wsX6_newVisitor ({ frames := 4, cells := 1, slots := 1, locals := 75 } : Room) (wx_Pc D cy ad B0 f P g [.int a1, .int a2]) (wx_Qn D cy ad B0 f P g (r_X6_newVisitor a1) a2) 1 1 (fun q => B0 ≤ q) := by
  refine Met.ofW (cc := cX6_newVisitor) (maxL := 2) (ret := some (.object "SeenAgain$Visitor")) (by decide) rfl ?_
  intro p e s m args below meth c s₁ B hml hv
  obtain ⟨rfl, hX, hK⟩ := hv
  have hown : s.vm.findClass RX6 = some m.cls := findClass_of_methodNamed B.named
  have hl := lv_entry ([.int a1, .int a2]) (n := 2) (Nat.le_of_ble_eq_true rfl)
  rw [lg_entry_eq]
  generalize (lg_sl ([.int a1, .int a2]) ++ List.replicate (2 - (lg_sl ([.int a1, .int a2])).length) Slot.unset).toArray = ls at hl ⊢
  have hl : lv_has ls 2 [(0, .int a1), (1, .int a2)] := hl
  have hlocks : meth.locks = false := B.notSynchronized
  have hx := B.exec
  have hb := B.bytes
  have hts := atoms_spec (ws := wsX6_newVisitor) B.pre
  have hS : va_S (fun q => B0 ≤ q) s.heap s.heap [] := va_S.rf
  have hB := hX.size
  have hX9 : wi_X D B0 ((wx_L cy ad f g ++ P) ++ []) s.heap := ⟨by rw [List.append_nil]; exact hX.1, by rw [List.append_nil]; exact hX.2.1⟩
  have fin : ∀ (q ci : Nat) (H : Heap), r_X6_newVisitor a1 = r_X6_newVisitor a1 → wx_v (r_X6_newVisitor a1) ci → wi_X D B0 ((wx_L cy ad f g ++ P) ++ [(q, .inr (ci, [.int a2]))]) H → wx_X D cy ad B0 f (P ++ [(q, .inr (ci, [.int a2]))]) g H := by
    intro q ci H _ hvv hX1
    rw [wi_X, List.append_assoc] at hX1
    refine ⟨hX1.1, hX1.2, fun b hb i hi => ?_⟩
    obtain ⟨pi, c2, h1, h2⟩ := hX.2.2 b hb i hi
    exact ⟨pi, c2, by rw [List.getElem?_append_left (List.getElem?_eq_some_iff.mp h1).1]; exact h1, h2⟩
  refine lv_iload_n hx hb dX6_newVisitor_0 rfl (lv_at hl 0 rfl) ?_
  by_cases c97 : a1 = 97
  · refine lv_lookup (tgt := 44) (off := 43) hx hb dX6_newVisitor_1 (by decide) (by rw [c97]; rfl) (by decide) ?_
    have hkd : r_X6_newVisitor a1 = 5 := by simp [r_X6_newVisitor, c97]
    have hvv : wx_v (r_X6_newVisitor a1) 2 := Or.inr (Or.inr (Or.inr (Or.inr ⟨hkd, rfl⟩)))
    refine wi_new (ci := 2) (fs := [.int 0]) (C := RX2) (T := TX2) (N := 1) hx hb hts (by decide +kernel) tyX2 tyX2_ok hown (hts (.classLink RX6 93 RX2) (by decide +kernel)) (hts (.instantiable RX2 1) (by decide +kernel)) (hts (.initialized RX2) (by decide +kernel)) hK hX9 hS hB rfl (fun j hj => by rcases (show j = 0 by omega) with rfl <;> rfl) (Nat.le_of_ble_eq_true rfl) (Nat.le_of_ble_eq_true rfl) dX6_newVisitor_44 (fun q H hX1 hS => ?_)
    refine lv_dup hx hb dX6_newVisitor_47 rfl ?_
    refine lv_iload_n hx hb dX6_newVisitor_48 rfl (lv_at hl 1 rfl) ?_
    refine wi_call (va_runI (As := [.int a2]) (rest := [.ref q]) ⟨hx, hb, hml, hown, hts⟩ (k_X2_init (w0 := wx_L cy ad f g ++ P) (a := q) (v := 0) (n := a2) l hvv) (cwI 1 hts gX6_newVisitor_X2_init rfl rfl rfl (hts (.initialized RX2) (by decide +kernel)) (hts (.methodLink RX6 95 yX2_init) (by decide +kernel)) (hts (.instanceMethod yX2_init) (by decide +kernel)) rfl (by decide +kernel) ⟨Nat.le_of_ble_eq_true rfl, Nat.le_of_ble_eq_true rfl⟩) (wi_Pc.pre hK (fun h => h.elim) hX1 (Nat.le_trans hB hS.1)) rfl rfl hl.1 rfl (lv_room (Nat.le_of_ble_eq_true rfl)) dX6_newVisitor_49 ⟨Nat.le_of_ble_eq_true rfl, Nat.le_of_ble_eq_true rfl⟩) hS (fun w H locs hw hX hS => ?_)
    subst hw
    exact W.aret hx hb B.returns (Or.inl ⟨_, rfl⟩) (Or.inr ⟨_, rfl⟩) (fun t ht _ => ⟨⟨q, 2, rfl, hvv, by rw [ht]; exact fin q _ _ rfl hvv hX⟩, hS.F ht⟩) hS.2.2 dX6_newVisitor_52 hlocks
  by_cases c100 : a1 = 100
  · refine lv_lookup (tgt := 53) (off := 52) hx hb dX6_newVisitor_1 (by decide) (by rw [c100]; rfl) (by decide) ?_
    have hkd : r_X6_newVisitor a1 = 3 := by simp [r_X6_newVisitor, c100]
    have hvv : wx_v (r_X6_newVisitor a1) 1 := Or.inr (Or.inr (Or.inl ⟨hkd, rfl⟩))
    refine wi_new (ci := 1) (fs := [.int 0]) (C := RX1) (T := TX1) (N := 1) hx hb hts (by decide +kernel) tyX1 tyX1_ok hown (hts (.classLink RX6 98 RX1) (by decide +kernel)) (hts (.instantiable RX1 1) (by decide +kernel)) (hts (.initialized RX1) (by decide +kernel)) hK hX9 hS hB rfl (fun j hj => by rcases (show j = 0 by omega) with rfl <;> rfl) (Nat.le_of_ble_eq_true rfl) (Nat.le_of_ble_eq_true rfl) dX6_newVisitor_53 (fun q H hX1 hS => ?_)
    refine lv_dup hx hb dX6_newVisitor_56 rfl ?_
    refine lv_iload_n hx hb dX6_newVisitor_57 rfl (lv_at hl 1 rfl) ?_
    refine wi_call (va_runI (As := [.int a2]) (rest := [.ref q]) ⟨hx, hb, hml, hown, hts⟩ (k_X1_init (w0 := wx_L cy ad f g ++ P) (a := q) (v := 0) (n := a2) l hvv) (cwI 1 hts gX6_newVisitor_X1_init rfl rfl rfl (hts (.initialized RX1) (by decide +kernel)) (hts (.methodLink RX6 100 yX1_init) (by decide +kernel)) (hts (.instanceMethod yX1_init) (by decide +kernel)) rfl (by decide +kernel) ⟨Nat.le_of_ble_eq_true rfl, Nat.le_of_ble_eq_true rfl⟩) (wi_Pc.pre hK (fun h => h.elim) hX1 (Nat.le_trans hB hS.1)) rfl rfl hl.1 rfl (lv_room (Nat.le_of_ble_eq_true rfl)) dX6_newVisitor_58 ⟨Nat.le_of_ble_eq_true rfl, Nat.le_of_ble_eq_true rfl⟩) hS (fun w H locs hw hX hS => ?_)
    subst hw
    exact W.aret hx hb B.returns (Or.inl ⟨_, rfl⟩) (Or.inr ⟨_, rfl⟩) (fun t ht _ => ⟨⟨q, 1, rfl, hvv, by rw [ht]; exact fin q _ _ rfl hvv hX⟩, hS.F ht⟩) hS.2.2 dX6_newVisitor_61 hlocks
  by_cases c108 : a1 = 108
  · refine lv_lookup (tgt := 62) (off := 61) hx hb dX6_newVisitor_1 (by decide) (by rw [c108]; rfl) (by decide) ?_
    have hkd : r_X6_newVisitor a1 = 2 := by simp [r_X6_newVisitor, c108]
    have hvv : wx_v (r_X6_newVisitor a1) 4 := Or.inr (Or.inl ⟨hkd, rfl⟩)
    refine wi_new (ci := 4) (fs := [.int 0]) (C := RX4) (T := TX4) (N := 1) hx hb hts (by decide +kernel) tyX4 tyX4_ok hown (hts (.classLink RX6 101 RX4) (by decide +kernel)) (hts (.instantiable RX4 1) (by decide +kernel)) (hts (.initialized RX4) (by decide +kernel)) hK hX9 hS hB rfl (fun j hj => by rcases (show j = 0 by omega) with rfl <;> rfl) (Nat.le_of_ble_eq_true rfl) (Nat.le_of_ble_eq_true rfl) dX6_newVisitor_62 (fun q H hX1 hS => ?_)
    refine lv_dup hx hb dX6_newVisitor_65 rfl ?_
    refine lv_iload_n hx hb dX6_newVisitor_66 rfl (lv_at hl 1 rfl) ?_
    refine wi_call (va_runI (As := [.int a2]) (rest := [.ref q]) ⟨hx, hb, hml, hown, hts⟩ (k_X4_init (w0 := wx_L cy ad f g ++ P) (a := q) (v := 0) (n := a2) l hvv) (cwI 1 hts gX6_newVisitor_X4_init rfl rfl rfl (hts (.initialized RX4) (by decide +kernel)) (hts (.methodLink RX6 103 yX4_init) (by decide +kernel)) (hts (.instanceMethod yX4_init) (by decide +kernel)) rfl (by decide +kernel) ⟨Nat.le_of_ble_eq_true rfl, Nat.le_of_ble_eq_true rfl⟩) (wi_Pc.pre hK (fun h => h.elim) hX1 (Nat.le_trans hB hS.1)) rfl rfl hl.1 rfl (lv_room (Nat.le_of_ble_eq_true rfl)) dX6_newVisitor_67 ⟨Nat.le_of_ble_eq_true rfl, Nat.le_of_ble_eq_true rfl⟩) hS (fun w H locs hw hX hS => ?_)
    subst hw
    exact W.aret hx hb B.returns (Or.inl ⟨_, rfl⟩) (Or.inr ⟨_, rfl⟩) (fun t ht _ => ⟨⟨q, 4, rfl, hvv, by rw [ht]; exact fin q _ _ rfl hvv hX⟩, hS.F ht⟩) hS.2.2 dX6_newVisitor_70 hlocks
  by_cases c119 : a1 = 119
  · refine lv_lookup (tgt := 71) (off := 70) hx hb dX6_newVisitor_1 (by decide) (by rw [c119]; rfl) (by decide) ?_
    have hkd : r_X6_newVisitor a1 = 4 := by simp [r_X6_newVisitor, c119]
    have hvv : wx_v (r_X6_newVisitor a1) 9 := Or.inr (Or.inr (Or.inr (Or.inl ⟨hkd, rfl⟩)))
    refine wi_new (ci := 9) (fs := [.int 0]) (C := RX10) (T := TX10) (N := 1) hx hb hts (by decide +kernel) tyX10 tyX10_ok hown (hts (.classLink RX6 104 RX10) (by decide +kernel)) (hts (.instantiable RX10 1) (by decide +kernel)) (hts (.initialized RX10) (by decide +kernel)) hK hX9 hS hB rfl (fun j hj => by rcases (show j = 0 by omega) with rfl <;> rfl) (Nat.le_of_ble_eq_true rfl) (Nat.le_of_ble_eq_true rfl) dX6_newVisitor_71 (fun q H hX1 hS => ?_)
    refine lv_dup hx hb dX6_newVisitor_74 rfl ?_
    refine lv_iload_n hx hb dX6_newVisitor_75 rfl (lv_at hl 1 rfl) ?_
    refine wi_call (va_runI (As := [.int a2]) (rest := [.ref q]) ⟨hx, hb, hml, hown, hts⟩ (k_X10_init (w0 := wx_L cy ad f g ++ P) (a := q) (v := 0) (n := a2) l hvv) (cwI 1 hts gX6_newVisitor_X10_init rfl rfl rfl (hts (.initialized RX10) (by decide +kernel)) (hts (.methodLink RX6 106 yX10_init) (by decide +kernel)) (hts (.instanceMethod yX10_init) (by decide +kernel)) rfl (by decide +kernel) ⟨Nat.le_of_ble_eq_true rfl, Nat.le_of_ble_eq_true rfl⟩) (wi_Pc.pre hK (fun h => h.elim) hX1 (Nat.le_trans hB hS.1)) rfl rfl hl.1 rfl (lv_room (Nat.le_of_ble_eq_true rfl)) dX6_newVisitor_76 ⟨Nat.le_of_ble_eq_true rfl, Nat.le_of_ble_eq_true rfl⟩) hS (fun w H locs hw hX hS => ?_)
    subst hw
    exact W.aret hx hb B.returns (Or.inl ⟨_, rfl⟩) (Or.inr ⟨_, rfl⟩) (fun t ht _ => ⟨⟨q, 9, rfl, hvv, by rw [ht]; exact fin q _ _ rfl hvv hX⟩, hS.F ht⟩) hS.2.2 dX6_newVisitor_79 hlocks
  refine lv_lookup (tgt := 80) (off := 79) hx hb dX6_newVisitor_1 (by decide) (by show Op.lookupswitch.offset [(97, 43), (100, 52), (108, 61), (119, 70)] 79 _ = _; rw [lv_osw c97 (by decide), lv_osw c100 (by decide), lv_osw c108 (by decide), lv_osw c119 (by decide)]; rfl) (by decide) ?_
  have hkd : r_X6_newVisitor a1 = 1 := by simp only [r_X6_newVisitor, if_neg c97, if_neg c100, if_neg c108, if_neg c119]
  have hvv : wx_v (r_X6_newVisitor a1) 7 := Or.inl ⟨hkd, rfl⟩
  refine wi_new (ci := 7) (fs := [.int 0]) (C := RX7) (T := TX7) (N := 1) hx hb hts (by decide +kernel) tyX7 tyX7_ok hown (hts (.classLink RX6 107 RX7) (by decide +kernel)) (hts (.instantiable RX7 1) (by decide +kernel)) (hts (.initialized RX7) (by decide +kernel)) hK hX9 hS hB rfl (fun j hj => by rcases (show j = 0 by omega) with rfl <;> rfl) (Nat.le_of_ble_eq_true rfl) (Nat.le_of_ble_eq_true rfl) dX6_newVisitor_80 (fun q H hX1 hS => ?_)
  refine lv_dup hx hb dX6_newVisitor_83 rfl ?_
  refine lv_iload_n hx hb dX6_newVisitor_84 rfl (lv_at hl 1 rfl) ?_
  refine wi_call (va_runI (As := [.int a2]) (rest := [.ref q]) ⟨hx, hb, hml, hown, hts⟩ (k_X7_init (w0 := wx_L cy ad f g ++ P) (a := q) (v := 0) (n := a2) l hvv) (cwI 1 hts gX6_newVisitor_X7_init rfl rfl rfl (hts (.initialized RX7) (by decide +kernel)) (hts (.methodLink RX6 109 yX7_init) (by decide +kernel)) (hts (.instanceMethod yX7_init) (by decide +kernel)) rfl (by decide +kernel) ⟨Nat.le_of_ble_eq_true rfl, Nat.le_of_ble_eq_true rfl⟩) (wi_Pc.pre hK (fun h => h.elim) hX1 (Nat.le_trans hB hS.1)) rfl rfl hl.1 rfl (lv_room (Nat.le_of_ble_eq_true rfl)) dX6_newVisitor_85 ⟨Nat.le_of_ble_eq_true rfl, Nat.le_of_ble_eq_true rfl⟩) hS (fun w H locs hw hX hS => ?_)
  subst hw
  exact W.aret hx hb B.returns (Or.inl ⟨_, rfl⟩) (Or.inr ⟨_, rfl⟩) (fun t ht _ => ⟨⟨q, 7, rfl, hvv, by rw [ht]; exact fin q _ _ rfl hvv hX⟩, hS.F ht⟩) hS.2.2 dX6_newVisitor_88 hlocks
