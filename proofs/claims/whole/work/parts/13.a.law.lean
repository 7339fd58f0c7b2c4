/-! the law's loop -/
def lc_of : Array Int := #[171, 214, 257, 320, 343, 366, 379, 392, 405, 448, 491, 534, 557, 590, 633, 676, 709, 752, 785, 838, 881, 904, 947, 990, 1033, 1066, 1109, 1142, 1195, 1228, 1251, 1264, 1287, 1310, 1333, 1366, 1399, 1422, 1445]
def lc_tp (n : Nat) : Prop := ∃ (off : Int) (tgt : Nat), lc_of[n]? = some off ∧ ((33 : Nat) : Int) + off = (tgt : Int) ∧ lc_Ok tgt
theorem lc_tab : ∀ n, n < 39 → lc_tp n :=
  le_ls (n := 38) (P := lc_tp) (le_ls (n := 37) (P := lc_tp) (le_ls (n := 36) (P := lc_tp) (le_ls (n := 35) (P := lc_tp) (le_ls (n := 34) (P := lc_tp) (le_ls (n := 33) (P := lc_tp) (le_ls (n := 32) (P := lc_tp) (le_ls (n := 31) (P := lc_tp) (le_ls (n := 30) (P := lc_tp) (le_ls (n := 29) (P := lc_tp) (le_ls (n := 28) (P := lc_tp) (le_ls (n := 27) (P := lc_tp) (le_ls (n := 26) (P := lc_tp) (le_ls (n := 25) (P := lc_tp) (le_ls (n := 24) (P := lc_tp) (le_ls (n := 23) (P := lc_tp) (le_ls (n := 22) (P := lc_tp) (le_ls (n := 21) (P := lc_tp) (le_ls (n := 20) (P := lc_tp) (le_ls (n := 19) (P := lc_tp) (le_ls (n := 18) (P := lc_tp) (le_ls (n := 17) (P := lc_tp) (le_ls (n := 16) (P := lc_tp) (le_ls (n := 15) (P := lc_tp) (le_ls (n := 14) (P := lc_tp) (le_ls (n := 13) (P := lc_tp) (le_ls (n := 12) (P := lc_tp) (le_ls (n := 11) (P := lc_tp) (le_ls (n := 10) (P := lc_tp) (le_ls (n := 9) (P := lc_tp) (le_ls (n := 8) (P := lc_tp) (le_ls (n := 7) (P := lc_tp) (le_ls (n := 6) (P := lc_tp) (le_ls (n := 5) (P := lc_tp) (le_ls (n := 4) (P := lc_tp) (le_ls (n := 3) (P := lc_tp) (le_ls (n := 2) (P := lc_tp) (le_ls (n := 1) (P := lc_tp) (le_ls (n := 0) (P := lc_tp) (le_l0) ⟨171, 204, rfl, by decide, lc_0⟩) ⟨214, 247, rfl, by decide, lc_1⟩) ⟨257, 290, rfl, by decide, lc_2⟩) ⟨320, 353, rfl, by decide, lc_3⟩) ⟨343, 376, rfl, by decide, lc_4⟩) ⟨366, 399, rfl, by decide, lc_5⟩) ⟨379, 412, rfl, by decide, lc_6⟩) ⟨392, 425, rfl, by decide, lc_7⟩) ⟨405, 438, rfl, by decide, lc_8⟩) ⟨448, 481, rfl, by decide, lc_9⟩) ⟨491, 524, rfl, by decide, lc_10⟩) ⟨534, 567, rfl, by decide, lc_11⟩) ⟨557, 590, rfl, by decide, lc_12⟩) ⟨590, 623, rfl, by decide, lc_13⟩) ⟨633, 666, rfl, by decide, lc_14⟩) ⟨676, 709, rfl, by decide, lc_15⟩) ⟨709, 742, rfl, by decide, lc_16⟩) ⟨752, 785, rfl, by decide, lc_17⟩) ⟨785, 818, rfl, by decide, lc_18⟩) ⟨838, 871, rfl, by decide, lc_19⟩) ⟨881, 914, rfl, by decide, lc_20⟩) ⟨904, 937, rfl, by decide, lc_21⟩) ⟨947, 980, rfl, by decide, lc_22⟩) ⟨990, 1023, rfl, by decide, lc_23⟩) ⟨1033, 1066, rfl, by decide, lc_24⟩) ⟨1066, 1099, rfl, by decide, lc_25⟩) ⟨1109, 1142, rfl, by decide, lc_26⟩) ⟨1142, 1175, rfl, by decide, lc_27⟩) ⟨1195, 1228, rfl, by decide, lc_28⟩) ⟨1228, 1261, rfl, by decide, lc_29⟩) ⟨1251, 1284, rfl, by decide, lc_30⟩) ⟨1264, 1297, rfl, by decide, lc_31⟩) ⟨1287, 1320, rfl, by decide, lc_32⟩) ⟨1310, 1343, rfl, by decide, lc_33⟩) ⟨1333, 1366, rfl, by decide, lc_34⟩) ⟨1366, 1399, rfl, by decide, lc_35⟩) ⟨1399, 1432, rfl, by decide, lc_36⟩) ⟨1422, 1455, rfl, by decide, lc_37⟩) ⟨1445, 1478, rfl, by decide, lc_38⟩
theorem lc_inc (t : Nat) (ht : t ≤ 64) : nI (6 * t) + Int32.ofInt 6 = nI (6 * (t + 1)) := by
  rw [show Int32.ofInt 6 = nI 6 from rfl, nI_add]
  rfl
theorem lc_head {t L : Nat} (hL : L ≤ 384) (ht : t ≤ 64) (h : ¬ (Int32.ofNat L - 6 < nI (6 * t))) : 6 * t + 6 ≤ L := by
  have h1 := Int32.le_iff_toInt_le.mp (Int32.not_lt.mp h)
  have h6 : (6 : Int32).toInt = 6 := by decide
  have hL1 : (Int32.ofNat L).toInt = L := nI_toInt (by omega)
  have e := fb_subI (x := Int32.ofNat L) (y := 6) (by rw [hL1, h6]; omega) (by rw [hL1, h6]; omega)
  rw [e, hL1, h6, nI_toInt (by omega)] at h1
  omega
theorem lc_and (x : Int32) : ¬ (x &&& 63).toInt < 0 := by
  have h : (x.toBitVec &&& (63 : Int32).toBitVec).toNat ≤ 63 := by
    rw [BitVec.toNat_and]
    exact Nat.and_le_right
  have e : (x &&& 63).toInt = (x.toBitVec &&& (63 : Int32).toBitVec).toInt := by
    rw [← Int32.toInt_toBitVec, Int32.toBitVec_and]
  rw [e, BitVec.toInt_eq_toNat_of_lt (by omega)]
  omega
set_option maxHeartbeats 4000000 in
theorem lw_loop {p : Program} {e : Env} {s : State} {m : MethodId} {below : List Frame} {meth : Method} {c : Code} (l : Launch) {b L : Nat} {xs : Nat → Int32} {D : va_G} {cy : Nat → ClassId} {ad : Nat → Nat} (C0 : lw_At p s m meth c b L xs) (hL : L ≤ 384) (hK : wx_K D cy s) : ∀ (n t : Nat), n + t = 65 → 6 * t ≤ L → ∀ (f : wx_F) (P : va_W) (g : wx_M) (H : Heap) (locs : List Loc) (ls : Array Slot), wx_X D cy ad s.heap.size f P g H → m_Rel (100 + 10 * t) g → va_S (fun q => s.heap.size ≤ q) s.heap H locs → lv_has ls 4 [(3, .int (nI (6 * t))), (2, .ref (ad 57)), (1, .ref (ad 0)), (0, .ref b)] → W p l e room_1 s m #[Value.ref b] below meth c H locs (86 + 4 * t) (2453 + 4 * t) (lw_Z below #[Value.ref b] s) (F0 m 18 ls []) := by
  intro n
  induction n with
  | zero => intro t h1 h2; omega
  | succ n ih =>
    intro t h1 h2 f P g H locs ls hX R hS hl
    have C := C0
    obtain ⟨hx, hb, hr, hml, hown0, hts, hXs, hbl, hlk, -⟩ := C0
    have hown : s.vm.findClass RL = some m.cls := hown0
    have hbA : ¬ s.heap.size ≤ b := Nat.not_le.mpr hbl
    refine lv_iload_n hx hb dL_law_18 rfl (lv_at hl 0 rfl) ?_
    refine lv_aload_n hx hb dL_law_19 rfl (lv_at hl 3 rfl) ?_
    refine va_slen hx hb hXs hbl hbA hS dL_law_20 ?_
    refine lv_bipush (v := 6) hx hb dL_law_21 (by decide) ?_
    refine lv_isub hx hb dL_law_23 ?_
    refine lv_icmp_gt (tgt := 1497) hx hb dL_law_24 (by decide) (fun _ => ?_) (fun c9 => ?_)
    · refine lv_iconst (v := 1) hx hb dL_law_1497 (by decide) ?_
      refine va_forget hS.2.2 ?_
      exact W.widen (k := 600000) (n := 7302250) (by omega) (by omega) (lw_ret hx hb hr hlk dL_law_1498)
    · have hi : 6 * t + 6 ≤ L := lc_head hL (by omega) c9
      have hback : ∀ (f1 : wx_F) (P1 : va_W) (g1 : wx_M) (H1 : Heap) (locs1 : List Loc), wx_X D cy ad s.heap.size f1 P1 g1 H1 → m_Rel (100 + 10 * t + 10) g1 → va_S (fun q => s.heap.size ≤ q) s.heap H1 locs1 → W p l e room_1 s m #[Value.ref b] below meth c H1 locs1 (86 + 4 * t + 4) (2453 + 4 * t + 4) (lw_Z below #[Value.ref b] s) (F0 m 1491 ls []) := by
        intro f1 P1 g1 H1 locs1 hX1 R1 hS1
        refine lv_iinc (v := nI (6 * (t + 1))) (lv' := [(3, .int (nI (6 * (t + 1)))), (2, .ref (ad 57)), (1, .ref (ad 0)), (0, .ref b)]) hx hb dL_law_1491 hl (k := 0) rfl (lc_inc t (by omega)) (by decide) rfl (fun ls1 hl1 => ?_)
        refine lv_goto (tgt := 18) hx hb dL_law_1494 (by decide) ?_
        have h3 := ih (t + 1) (by omega) (by omega) f1 P1 g1 H1 locs1 ls1 hX1 (by rw [show 100 + 10 * (t + 1) = 100 + 10 * t + 10 by omega]; exact R1) hS1 hl1
        rw [show 86 + 4 * (t + 1) = 86 + 4 * t + 4 by omega, show 2453 + 4 * (t + 1) = 2453 + 4 * t + 4 by omega] at h3
        exact h3
      refine lv_aload_n hx hb dL_law_27 rfl (lv_at hl 3 rfl) ?_
      refine lv_iload_n hx hb dL_law_28 rfl (lv_at hl 0 rfl) ?_
      refine va_sld hx hb hXs hbl hbA hS (wb_in (wb_nI (n := 6 * t) (Nat.le_refl _) (by omega)) (by omega) (by omega)) dL_law_29 ?_
      refine lv_bipush (v := 63) hx hb dL_law_30 (by decide) ?_
      refine lv_iand hx hb dL_law_32 ?_
      obtain ⟨x, ex⟩ : ∃ x, x = xs (nI (6 * t)).toNatClampNeg &&& 63 := ⟨_, rfl⟩
      rw [← ex]
      by_cases h38 : 38 < x.toInt
      · refine lv_tableOut (tgt := 1491) hx hb dL_law_33 (Or.inr h38) (by decide) ?_
        exact W.widen (k := 86 + 4 * t + 4) (n := 2453 + 4 * t + 4) (by omega) (by omega) (hback f P g H locs hX (R.mono (by omega)) hS)
      · have h0 : ¬ x.toInt < 0 := by rw [ex]; exact lc_and _
        obtain ⟨off, tgt, ho, ht, hok⟩ := lc_tab (x.toInt - 0).toNat (by omega)
        refine lv_tableIn (tgt := tgt) (off := off) hx hb dL_law_33 h0 h38 ho ht ?_
        exact hok p l e s m below meth c b L xs D cy ad f P g H locs (86 + 4 * t) (2453 + 4 * t) (6 * t) (100 + 10 * t) ls C hL hK hX hS R (by omega) (by omega) hi (by omega) (by omega) hl hback
