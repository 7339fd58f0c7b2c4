/-- from the entry, for every script of at most 384 ints, the law comes to its end with true -/
theorem lw_nil {D : va_G} {B0 : Nat} {H : Heap} : wi_X D B0 ([] ++ []) H := ⟨fun k q h => (by cases (show (none : Option (Nat × va_E)) = some q from h)), ⟨fun i j p q h => (by cases (show (none : Option (Nat × va_E)) = some p from h)), fun k q h => (by cases (show (none : Option (Nat × va_E)) = some q from h))⟩⟩
theorem lw_u11 : ∀ w ∈ u_ws RX11 TX11 8, w ∈ wsL_law := by decide +kernel
theorem lw_u12 : ∀ w ∈ u_ws RX12 TX12 27, w ∈ wsL_law := by decide +kernel
set_option maxHeartbeats 400000 in
theorem lw_s4 {p : Program} {e : Env} {s : State} {m : MethodId} {below : List Frame} {meth : Method} {c : Code} (l : Launch) {b L : Nat} {xs : Nat → Int32} (hL : L ≤ 384) (C0 : lw_At p s m meth c b L xs) {D : va_G} {cy : Nat → ClassId} (hK : wx_K D cy s) {H : Heap} {locs : List Loc} {ls : Array Slot} {q1 ar ai : Nat} {qt qh th qd td qa qb q : Nat → Nat} {r im ti : Nat → Nat → Nat} (hX : wi_X D s.heap.size (wi_top cy [] q1 qt qh th qd td qa qb r im ti ar ai ++ wi_model cy q) H) (hS : va_S (fun q => s.heap.size ≤ q) s.heap H locs) (hl : lv_has ls 4 [(1, .ref q1), (0, .ref b)]) : W p l e room_1 s m #[Value.ref b] below meth c H locs 86 2453 (lw_Z below #[Value.ref b] s) (F0 m 15 ls [.ref (q 0)]) := by
  have C := C0
  obtain ⟨hx, hb, hr, hml, hown0, hts, hXs, hbl, hlk, -⟩ := C0
  have hown : s.vm.findClass RL = some m.cls := hown0
  have htsL : ∀ w ∈ wsL_law, w.before #[Value.ref b] s = true := fun w h => hts w (wsL_law_in w h)
  have hB : s.heap.size ≤ s.heap.size := Nat.le_refl _
  refine lv_astore_n (lv' := [(2, .ref (q 0)), (1, .ref q1), (0, .ref b)]) hx hb dL_law_15 rfl hl (by decide) rfl (fun ls hl => ?_)
  refine lv_iconst (v := 0) hx hb dL_law_16 (by decide) ?_
  refine lv_istore_n (lv' := [(3, .int 0), (2, .ref (q 0)), (1, .ref q1), (0, .ref b)]) hx hb dL_law_17 rfl hl (by decide) rfl (fun ls hl => ?_)
  have hX1 := lw_first hX
  have e0 : q1 = lw_ad q1 ar ai qt qh th qd td qa qb q r im ti 0 := rfl
  have e57 : q 0 = lw_ad q1 ar ai qt qh th qd td qa qb q r im ti 57 := rfl
  have hl1 : lv_has ls 4 [(3, .int (nI (6 * 0))), (2, .ref (lw_ad q1 ar ai qt qh th qd td qa qb q r im ti 57)), (1, .ref (lw_ad q1 ar ai qt qh th qd td qa qb q r im ti 0)), (0, .ref b)] := by
    rw [← e0, ← e57]
    exact hl
  have h9 := lw_loop (p := p) (e := e) (below := below) l C hL hK 65 0 rfl (Nat.zero_le _) _ _ _ _ locs ls hX1 lw_rel hS hl1
  exact h9
set_option maxHeartbeats 400000 in
theorem lw_s3 {p : Program} {e : Env} {s : State} {m : MethodId} {below : List Frame} {meth : Method} {c : Code} (l : Launch) {b L : Nat} {xs : Nat → Int32} (hL : L ≤ 384) (C0 : lw_At p s m meth c b L xs) {D : va_G} {cy : Nat → ClassId} (hK : wx_K D cy s) (hN : wi_Nw s) {H : Heap} {locs : List Loc} {ls : Array Slot} {q1 q2 ar ai : Nat} {qt qh th qd td qa qb : Nat → Nat} {r im ti : Nat → Nat → Nat} (hX : wi_X D s.heap.size (wi_top cy [] q1 qt qh th qd td qa qb r im ti ar ai ++ [(q2, .inr (11, [.null, .null, .null, .int 0, .int 0, .null, .int 0, .int 0, .int 0, .int 0, .int 0, .int 0, .int 0, .int 0, .int 0, .null, .int 0, .null, .int 0, .null, .null, .null, .null, .int 0, .null, .int 0, .null]))]) H) (hS : va_S (fun q => s.heap.size ≤ q) s.heap H locs) (hl : lv_has ls 4 [(1, .ref q1), (0, .ref b)]) : W p l e room_1 s m #[Value.ref b] below meth c H locs 74 1334 (lw_Z below #[Value.ref b] s) (F0 m 11 ls [.ref q2]) := by
  have C := C0
  obtain ⟨hx, hb, hr, hml, hown0, hts, hXs, hbl, hlk, -⟩ := C0
  have hown : s.vm.findClass RL = some m.cls := hown0
  have htsL : ∀ w ∈ wsL_law, w.before #[Value.ref b] s = true := fun w h => hts w (wsL_law_in w h)
  have hB : s.heap.size ≤ s.heap.size := Nat.le_refl _
  obtain ⟨W0, eW0⟩ : ∃ W0, W0 = wi_top cy [] q1 qt qh th qd td qa qb r im ti ar ai := ⟨_, rfl⟩
  rw [← eW0] at hX
  refine lv_dup hx hb dL_law_11 rfl ?_
  refine wi_call (va_runI (As := []) (rest := [.ref q2]) ⟨hx, hb, hml, hown, htsL⟩ (k_X12_init (w0 := W0) (a := q2) l) (cwI 0 htsL gL_law_X12_init rfl rfl rfl (htsL (.initialized RX12) (by decide +kernel)) (htsL (.methodLink RL 12 yX12_init) (by decide +kernel)) (htsL (.instanceMethod yX12_init) (by decide +kernel)) rfl (by decide +kernel) ⟨Nat.le_of_ble_eq_true rfl, Nat.le_of_ble_eq_true rfl⟩) (wi_Pc.pre hK (fun _ => hN) hX (Nat.le_trans hB hS.1)) rfl rfl hl.1 rfl (lv_room (Nat.le_of_ble_eq_true rfl)) dL_law_12 ⟨Nat.le_of_ble_eq_true rfl, Nat.le_of_ble_eq_true rfl⟩) hS (fun w H locs hw hX hS => ?_)
  obtain ⟨q, hq, hw⟩ := hw
  rw [hw, eW0] at hX
  have h9 := lw_s4 (p := p) (e := e) (below := below) (q := q) (q1 := q1) (ar := ar) (ai := ai) (qt := qt) (qh := qh) (th := th) (qd := qd) (td := td) (qa := qa) (qb := qb) (r := r) (im := im) (ti := ti) l hL C hK hX hS hl
  rw [hq] at h9
  exact W.widen (k := 86) (n := 2453) (Nat.le_of_ble_eq_true rfl) (Nat.le_of_ble_eq_true rfl) h9
set_option maxHeartbeats 400000 in
theorem lw_s2 {p : Program} {e : Env} {s : State} {m : MethodId} {below : List Frame} {meth : Method} {c : Code} (l : Launch) {b L : Nat} {xs : Nat → Int32} (hL : L ≤ 384) (C0 : lw_At p s m meth c b L xs) {D : va_G} {cy : Nat → ClassId} (hK : wx_K D cy s) (hN : wi_Nw s) {H : Heap} {locs : List Loc} {ls : Array Slot} {q1 ar ai : Nat} {qt qh th qd td qa qb : Nat → Nat} {r im ti : Nat → Nat → Nat} (hX : wi_X D s.heap.size (wi_top cy [] q1 qt qh th qd td qa qb r im ti ar ai) H) (hS : va_S (fun q => s.heap.size ≤ q) s.heap H locs) (hl : lv_has ls 4 [(0, .ref b)]) : W p l e room_1 s m #[Value.ref b] below meth c H locs 73 1307 (lw_Z below #[Value.ref b] s) (F0 m 7 ls [.ref q1]) := by
  have C := C0
  obtain ⟨hx, hb, hr, hml, hown0, hts, hXs, hbl, hlk, -⟩ := C0
  have hown : s.vm.findClass RL = some m.cls := hown0
  have htsL : ∀ w ∈ wsL_law, w.before #[Value.ref b] s = true := fun w h => hts w (wsL_law_in w h)
  have hB : s.heap.size ≤ s.heap.size := Nat.le_refl _
  refine lv_astore_n (lv' := [(1, .ref q1), (0, .ref b)]) hx hb dL_law_7 rfl hl (by decide) rfl (fun ls hl => ?_)
  obtain ⟨W0, eW0⟩ : ∃ W0, W0 = wi_top cy [] q1 qt qh th qd td qa qb r im ti ar ai := ⟨_, rfl⟩
  rw [← eW0] at hX
  have hX : wi_X D s.heap.size (W0 ++ []) H := by rw [List.append_nil]; exact hX
  refine wi_new (w0 := W0) (lst := []) (ci := 11) (fs := [.null, .null, .null, .int 0, .int 0, .null, .int 0, .int 0, .int 0, .int 0, .int 0, .int 0, .int 0, .int 0, .int 0, .null, .int 0, .null, .int 0, .null, .null, .null, .null, .int 0, .null, .int 0, .null]) (C := RX12) (T := TX12) (N := 27) hx hb htsL lw_u12 tyX12 tyX12_ok hown (htsL (.classLink RL 10 RX12) (by decide +kernel)) (htsL (.instantiable RX12 27) (by decide +kernel)) (htsL (.initialized RX12) (by decide +kernel)) hK hX hS hB rfl (fun j hj => by rcases (show j = 0 ∨ j = 1 ∨ j = 2 ∨ j = 3 ∨ j = 4 ∨ j = 5 ∨ j = 6 ∨ j = 7 ∨ j = 8 ∨ j = 9 ∨ j = 10 ∨ j = 11 ∨ j = 12 ∨ j = 13 ∨ j = 14 ∨ j = 15 ∨ j = 16 ∨ j = 17 ∨ j = 18 ∨ j = 19 ∨ j = 20 ∨ j = 21 ∨ j = 22 ∨ j = 23 ∨ j = 24 ∨ j = 25 ∨ j = 26 by omega) with rfl | rfl | rfl | rfl | rfl | rfl | rfl | rfl | rfl | rfl | rfl | rfl | rfl | rfl | rfl | rfl | rfl | rfl | rfl | rfl | rfl | rfl | rfl | rfl | rfl | rfl | rfl <;> rfl) (Nat.le_of_ble_eq_true rfl) (Nat.le_of_ble_eq_true rfl) dL_law_8 (fun q2 H hX hS => ?_)
  have hX : wi_X D s.heap.size (W0 ++ [(q2, .inr (11, [.null, .null, .null, .int 0, .int 0, .null, .int 0, .int 0, .int 0, .int 0, .int 0, .int 0, .int 0, .int 0, .int 0, .null, .int 0, .null, .int 0, .null, .null, .null, .null, .int 0, .null, .int 0, .null]))]) H := hX
  rw [eW0] at hX
  refine W.widen (k := 74) (n := 1334) (Nat.le_of_ble_eq_true rfl) (Nat.le_of_ble_eq_true rfl) ?_
  exact lw_s3 l hL C hK hN hX hS hl
set_option maxHeartbeats 400000 in
theorem lw_s1 {p : Program} {e : Env} {s : State} {m : MethodId} {below : List Frame} {meth : Method} {c : Code} (l : Launch) {b L : Nat} {xs : Nat → Int32} (hL : L ≤ 384) (C0 : lw_At p s m meth c b L xs) {ls : Array Slot} (hl : lv_has ls 4 [(0, .ref b)]) : W p l e room_1 s m #[Value.ref b] below meth c s.heap [] 0 0 (lw_Z below #[Value.ref b] s) (F0 m 0 ls []) := by
  obtain ⟨D, cy, hK, hN⟩ := lw_KN C0
  have C := C0
  obtain ⟨hx, hb, hr, hml, hown0, hts, hXs, hbl, hlk, -⟩ := C0
  have hown : s.vm.findClass RL = some m.cls := hown0
  have htsL : ∀ w ∈ wsL_law, w.before #[Value.ref b] s = true := fun w h => hts w (wsL_law_in w h)
  have hB : s.heap.size ≤ s.heap.size := Nat.le_refl _
  have hS : va_S (fun q => s.heap.size ≤ q) s.heap s.heap [] := va_S.rf
  refine wi_new (w0 := []) (lst := []) (ci := 10) (fs := [.null, .null, .null, .null, .null, .null, .null, .int 0]) (C := RX11) (T := TX11) (N := 8) hx hb htsL lw_u11 tyX11 tyX11_ok hown (htsL (.classLink RL 7 RX11) (by decide +kernel)) (htsL (.instantiable RX11 8) (by decide +kernel)) (htsL (.initialized RX11) (by decide +kernel)) hK lw_nil hS hB rfl (fun j hj => by rcases (show j = 0 ∨ j = 1 ∨ j = 2 ∨ j = 3 ∨ j = 4 ∨ j = 5 ∨ j = 6 ∨ j = 7 by omega) with rfl | rfl | rfl | rfl | rfl | rfl | rfl | rfl <;> rfl) (Nat.le_of_ble_eq_true rfl) (Nat.le_of_ble_eq_true rfl) dL_law_0 (fun q1 H hX hS => ?_)
  have hX : wi_X D s.heap.size ([] ++ [(q1, .inr (10, [.null, .null, .null, .null, .null, .null, .null, .int 0]))]) H := hX
  refine W.widen (k := 1) (n := 8) (Nat.le_of_ble_eq_true rfl) (Nat.le_of_ble_eq_true rfl) ?_
  refine lv_dup hx hb dL_law_3 rfl ?_
  refine wi_call (va_runI (As := []) (rest := [.ref q1]) ⟨hx, hb, hml, hown, htsL⟩ (k_X11_init (w0 := []) (a := q1) l) (cwI 0 htsL gL_law_X11_init rfl rfl rfl (htsL (.initialized RX11) (by decide +kernel)) (htsL (.methodLink RL 9 yX11_init) (by decide +kernel)) (htsL (.instanceMethod yX11_init) (by decide +kernel)) rfl (by decide +kernel) ⟨Nat.le_of_ble_eq_true rfl, Nat.le_of_ble_eq_true rfl⟩) (wi_Pc.pre hK (fun _ => hN) hX (Nat.le_trans hB hS.1)) rfl rfl hl.1 rfl (lv_room (Nat.le_of_ble_eq_true rfl)) dL_law_4 ⟨Nat.le_of_ble_eq_true rfl, Nat.le_of_ble_eq_true rfl⟩) hS (fun w H locs hw hX hS => ?_)
  obtain ⟨qt, qh, th, qd, td, qa, qb, r, im, ti, ar, ai, hw⟩ := hw
  subst hw
  refine W.widen (k := 73) (n := 1307) (Nat.le_of_ble_eq_true rfl) (Nat.le_of_ble_eq_true rfl) ?_
  exact lw_s2 l hL C hK hN hX hS hl
theorem whole_start {p : Program} {e : Env} {s : State} {m : MethodId} {below : List Frame} {meth : Method} {c : Code} (l : Launch) (hflags : l.flags = flags0) {b L : Nat} {xs : Nat → Int32} (hL : L ≤ 384) (C0 : lw_At p s m meth c b L xs) : W p l e room_1 s m #[Value.ref b] below meth c s.heap [] 0 0 (lw_Z below #[Value.ref b] s) (entryFrame m ([Value.ref b] : List Value).toArray 4) := by
  have hl0 := lv_entry [Value.ref b] (n := 4) (Nat.le_of_ble_eq_true rfl)
  rw [lg_entry_eq]
  exact lw_s1 l hL C0 hl0
