/-! THE MATH 23: people, walls, the whole text -/
section M23
variable {L : Nat → Int32} {len w m i : Nat} {X Y : wx_M}
theorem ppl_eq (g X : wx_M) {j : Nat} (hj : j < 4) (ht : X 18 6 = 114) : b_X6_readPeople_2 g 27 j X = KC g X (e_X6_step X) j 0 (e_X6_step X) := by
  have hne : ¬ nI j = 4 := fun q => by have := (nI_eq (a := j) (b := 4) (by omega) (by omega)).mp q; omega
  have ef : (fun r => b_X6_readPeople_33 g 27 j X (e_X6_step X) (0 + r)) = b_X6_readPeople_33 g 27 j X (e_X6_step X) := by
    funext r
    rw [Nat.zero_add]
  simp only [b_X6_readPeople_2]
  rw [if_pos ht, if_neg hne]
  unfold KC
  rw [ef, Nat.sub_zero]
  cases repX 8 (b_X6_readPeople_33 g 27 j X (e_X6_step X)) (e_X6_step X) <;> rfl
theorem per_eq (g Y : wx_M) {j : Nat} (hj : j < 4) (h : Y 57 16 = nI j) : f_X12_isPerson Y = KS g 0 Y := by
  have hne : ¬ nI j = 4 := fun q => by have := (nI_eq (a := j) (b := 4) (by omega) (by omega)).mp q; omega
  have ef : (fun r => b_X12_isPerson_16 g (0 + r)) = b_X12_isPerson_16 Y := by
    funext r s
    rw [Nat.zero_add]
    rfl
  simp only [f_X12_isPerson]
  rw [h, if_neg hne]
  unfold KS
  rw [ef, Nat.sub_zero]
  cases repX 8 (b_X12_isPerson_16 Y) Y <;> rfl
theorem KC_0i {g X X0 X1 : wx_M} {j : Nat} (h : b_X6_readPeople_33 g 27 j X X0 0 X0 = .inl X1) : KC g X X0 j 0 X0 = KC g X X0 j 1 X1 := by
  have ef : (fun r => b_X6_readPeople_33 g 27 j X X0 (0 + (1 + r))) = (fun r => b_X6_readPeople_33 g 27 j X X0 (1 + r)) := by
    funext r
    rw [Nat.zero_add]
  have h0 : b_X6_readPeople_33 g 27 j X X0 (0 + 0) X0 = .inl X1 := h
  unfold KC
  rw [show 8 - 0 = 7 + 1 from rfl, repX_first, h0]
  dsimp only
  rw [ef]
theorem KC_0r {g X X0 : wx_M} {j : Nat} {r : wx_M ⊕ (wx_M × Int32)} (h : b_X6_readPeople_33 g 27 j X X0 0 X0 = .inr r) : KC g X X0 j 0 X0 = r := by
  have h0 : b_X6_readPeople_33 g 27 j X X0 (0 + 0) X0 = .inr r := h
  unfold KC
  rw [show 8 - 0 = 7 + 1 from rfl, repX_first, h0]
theorem ph_ppl (hlen : len ≤ 140) (hb : ∀ i, i < len → wx_b (L i) 0 255) (g : wx_M) : ∀ (d j : Nat) (X Y : wx_M), j + d = 4 → sm L len X Y → dR X Y w j 0 → (j = 0 → ¬ X 18 6 = 103) →
    ∃ X1 Y1 b n m' v, tV g (cP g X j) = (X1, b) ∧ n ≤ d + 8 ∧ rn n (Y, 1) = .inr (Y1, b) ∧ xfr X X1 ∧ yfr Y Y1 ∧ ((b = 1 ∧ dR X1 Y1 w m' v ∧ X1 18 2 = Y1 57 10) ∨ (b = 0 ∧ flt X1 Y1)) := by
  intro d
  induction d with
  | zero =>
    intro j X Y hid S D hq
    have hj : j = 4 := by omega
    subst hj
    have ht := S.2.2.2.2.2.2.2.1
    by_cases c : X 18 6 = 114
    · have e1 : b_X6_readPeople_2 g 27 4 X = .inr ((f_X6_faulty X 3).1, 0) := by
        simp only [b_X6_readPeople_2]
        rw [if_pos c, if_pos (show nI 4 = 4 from rfl)]
        rfl
      have h18 : e_X12_nextToken Y 57 18 = 0 := by
        rw [(qY_next Y).2 18 (by decide) (by decide) (by decide) (by decide) (by decide), D.2.2.2.1.2.1]
        rfl
      have e3 : f_X12_isPerson (e_X12_nextToken Y) = ((f_X12_fails (e_X12_nextToken Y) 3).1, 0) := by
        simp only [f_X12_isPerson]
        rw [(qY_next Y).2 16 (by decide) (by decide) (by decide) (by decide) (by decide), D.2.2.1.2.1, if_pos (show nI 4 = 4 from rfl)]
        rfl
      rw [cP_inr (by omega) e1, tV_0]
      refine ⟨(f_X6_faulty X 3).1, (f_X12_fails (e_X12_nextToken Y) 3).1, 0, 2, 0, 0, rfl, by omega, ?_, (qX_faulty X 3).x, (qY_fails Y 3).y, Or.inr ⟨rfl, md_flt S 3⟩⟩
      rw [rn_inl (FR_person ht c h18), e3, rn_inr (FR_0 _)]
    · have e1 : b_X6_readPeople_2 g 27 4 X = .inr (X, 1) := by
        simp only [b_X6_readPeople_2]
        rw [if_neg c]
      rw [cP_inr (by omega) e1, tV_1]
      obtain ⟨X1, Y1, b, n, v, a1, a2, a3, a4, a5, a6⟩ := ph_vis hlen hb g g 4 0 X Y rfl S D (fun _ => ⟨c, fun q => absurd q (by decide)⟩)
      exact ⟨X1, Y1, b, n, 4, v, a1, by omega, a3, a4, a5, a6⟩
  | succ d ih =>
    intro j X Y hid S D hq
    have n1 : ¬ (1 : Int32) = 0 := by decide
    have ht := S.2.2.2.2.2.2.2.1
    by_cases c : X 18 6 = 114
    · have hj : j < 4 := by omega
      have h18 : e_X12_nextToken Y 57 18 = 0 := by
        rw [(qY_next Y).2 18 (by decide) (by decide) (by decide) (by decide) (by decide), D.2.2.2.1.2.1]
        rfl
      have h16 : e_X12_nextToken Y 57 16 = nI j := by
        rw [(qY_next Y).2 16 (by decide) (by decide) (by decide) (by decide) (by decide), D.2.2.1.2.1]
      have S0 : sm L len (e_X6_step X) (e_X12_nextToken Y) := md_step hlen hb S rfl rfl rfl rfl rfl rfl rfl rfl
      have D0 : dR (e_X6_step X) (e_X12_nextToken Y) w j 0 := D.q (qX_step X) (qY_next Y)
      have eF : FR (Y, 1) = .inl (KS g 0 (e_X12_nextToken Y)) := by rw [FR_person ht c h18, per_eq g _ hj h16]
      have eC := ppl_eq g X hj c
      have xq := (qX_step X).x
      have yq := (qY_next Y).y
      generalize e_X12_nextToken Y = Y0 at S0 D0 eF yq
      generalize e_X6_step X = X0 at S0 D0 eC xq
      have hro : X0 27 0 = Y0 57 11 := D0.1.1
      have main : ∃ X1 Y1, xfr X X1 ∧ yfr Y Y1 ∧ ((KC g X X0 j 0 X0 = .inl X1 ∧ KS g 0 Y0 = (Y1, 1) ∧ sm L len X1 Y1 ∧ dR X1 Y1 w (j + 1) 0) ∨ (KC g X X0 j 0 X0 = .inr (X1, 0) ∧ KS g 0 Y0 = (Y1, 0) ∧ flt X1 Y1)) := by
        obtain ⟨XF, Y2, n, x2, y2, ⟨e2, d2, M2, k1, k2, k3, k4⟩ | ⟨e2, d2, F2⟩⟩ := sim_num S0 0 (Y0 57 11 - 1)
        · obtain ⟨r, hr, er⟩ := room_n (b := 0) D0.1.2.2.2.1 k3 k4
          have y16 : Y2 57 16 = nI j := by rw [y2.2 16 (by decide) (by decide) (by decide) (by decide) (by decide)]; exact D0.2.2.1.2.1
          have e3 : b_X6_readPeople_33 g 27 j X X0 0 X0 = .inl (e_X6_step (up2 X0 31 (8 * j + 0) n)) := by
            simp only [b_X6_readPeople_33]
            rw [if_pos (by decide), hro, e2]
            simp only [if_neg n1, k1]
            rw [ix8 (by omega) (by omega)]
          rw [KC_0i e3, KS_num1 (by omega) d2, y16, ix8 (by omega) (by omega), k2]
          have S2 : sm L len (e_X6_step (up2 X0 31 (8 * j + 0) n)) (up2 Y2 63 (8 * j + 0) n) := md_step hlen hb M2 (by rw [up2_n (by decide)]) (by rw [up2_n (by decide)]) (by rw [up2_n (by decide)]) (by rw [up2_n (by decide)]) (by rw [up2_n (by decide)]) (by rw [up2_n (by decide)]) (by rw [up2_n (by decide)]) (by rw [up2_n (by decide)])
          have D2 : dO (e_X6_step (up2 X0 31 (8 * j + 0) n)) (up2 Y2 63 (8 * j + 0) n) w j := D0.o.q (by rw [fr_X6_step (by decide), up2_n (by decide)]) (by rw [fr_X6_step (by decide), up2_n (by decide)]) (fun j hj => by rw [up2_n (by decide), y2.2 j (by omega) (by omega) (by omega) (by omega) (by omega)]) (by rw [up2_n (by decide), y2.1 62 (by decide)])
          have M3 : dM (e_X6_step (up2 X0 31 (8 * j + 0) n)) (up2 Y2 63 (8 * j + 0) n) (8 * j + 0 + 1) := by
            refine dM_more (X := X0) (Y := Y0) (x := n) (r := r) D0.2.2.2.2.2.1 er hr ?_ ?_ ?_
            · rw [fr_X6_step (by decide), up2_s]; rfl
            · rw [up2_s, y2.1 63 (by decide)]; rfl
            · rw [up2_n (by decide), y2.2 11 (by decide) (by decide) (by decide) (by decide) (by decide)]
          obtain ⟨X5, Y5, x5, y5, hz⟩ := sim_per hlen hb g X X0 g hj 7 1 _ _ rfl (by omega) S2 D2 M3
          refine ⟨X5, Y5, ?_, ?_, hz⟩
          · refine (xq.trans ?_).trans x5
            exact ⟨fun k h1 h2 => by rw [fr_X6_step h1, up2_n (by omega)], fun j hj => by rw [fr_X6_step (by decide), up2_n (by decide)], by rw [fr_X6_step (by decide), up2_n (by decide)], by rw [fr_X6_step (by decide), up2_n (by decide)]⟩
          · exact ((yq.trans y2.y).trans ⟨fun k h1 h2 h3 h4 => up2_n h3, fun j hj => by rw [up2_n (by decide)]⟩).trans y5
        · have e3 : b_X6_readPeople_33 g 27 j X X0 0 X0 = .inr (.inr (XF, 0)) := by
            simp only [b_X6_readPeople_33]
            rw [if_pos (by decide), hro, e2]
            simp only [if_true]
          rw [KC_0r e3, KS_num0 (by omega) d2]
          exact ⟨XF, Y2, xq.trans x2.x, yq.trans y2.y, Or.inr ⟨rfl, rfl, F2⟩⟩
      obtain ⟨X1, Y1, x1, y1, ⟨e1, d1, S1, D1⟩ | ⟨e1, d1, F1⟩⟩ := main
      · obtain ⟨X2, Y2, b, n, m', v, a1, a2, a3, a4, a5, a6⟩ := ih (j + 1) X1 Y1 (by omega) S1 D1 (fun q => by omega)
        refine ⟨X2, Y2, b, n + 1, m', v, ?_, by omega, ?_, x1.trans a4, y1.trans a5, a6⟩
        · rw [cP_inl (by omega) (eC.trans e1)]; exact a1
        · rw [rn_inl eF, d1]; exact a3
      · refine ⟨X1, Y1, 0, 2, 0, 0, ?_, by omega, ?_, x1, y1, Or.inr ⟨rfl, F1⟩⟩
        · rw [cP_inr (by omega) (eC.trans e1), tV_0]
        · rw [rn_inl eF, d1, rn_inr (FR_0 _)]
    · have e1 : b_X6_readPeople_2 g 27 j X = .inr (X, 1) := by
        simp only [b_X6_readPeople_2]
        rw [if_neg c]
      rw [cP_inr (by omega) e1, tV_1]
      obtain ⟨X1, Y1, b, n, v, a1, a2, a3, a4, a5, a6⟩ := ph_vis hlen hb g g 4 0 X Y rfl S D (fun _ => ⟨c, hq⟩)
      exact ⟨X1, Y1, b, n, j, v, a1, by omega, a3, a4, a5, a6⟩
theorem wall_eq (X : wx_M) {a b : Nat} (ha : a < 6) (hb : b < 6) (hab : a ≠ b) : e_X3_addWall X 27 (nI a) (nI b) = up2 (up2 (up2 X 28 a (X 28 a ||| (1 <<< (nI b &&& 31)))) 28 b (upd (X 28) a (X 28 a ||| (1 <<< (nI b &&& 31))) b ||| (1 <<< (nI a &&& 31)))) 27 3 (X 27 3 + 1) := by
  simp only [e_X3_addWall]
  rw [ix (show a < 1000 by omega), ix (show b < 1000 by omega), up2_s, up2_n (show (27 : Nat) ≠ 28 by decide), up2_n (show (27 : Nat) ≠ 28 by decide)]
theorem dW_more {X Y X1 Y1 : wx_M} {w a b : Nat} (H : dW X Y w) (ha : a < (Y 57 11).toNatClampNeg) (hb : b < (Y 57 11).toNatClampNeg) (h6 : (Y 57 11).toNatClampNeg ≤ 6) (hab : a ≠ b) (e28 : X1 28 = upd (upd (X 28) a (X 28 a ||| (1 <<< (nI b &&& 31)))) b (upd (X 28) a (X 28 a ||| (1 <<< (nI b &&& 31))) b ||| (1 <<< (nI a &&& 31)))) (e62 : Y1 62 = upd (upd (Y 62) (2 * w) (nI a)) (2 * w + 1) (nI b)) (e11 : Y1 57 11 = Y 57 11) : dW X1 Y1 (w + 1) := by
  obtain ⟨h1, h2⟩ := H
  have r0 : Y1 62 (2 * w) = nI a := by rw [e62, upd_ne (by omega), upd_eq]
  have r1 : Y1 62 (2 * w + 1) = nI b := by rw [e62, upd_eq]
  have rc : wnd (Y1 62) w = wnd (Y 62) w := wnd_congr (fun t ht => by rw [e62, upd_ne (by omega), upd_ne (by omega)])
  refine ⟨fun x hx => ?_, fun t ht => ?_⟩
  · have ew : wnd (Y1 62) (w + 1) = upd (upd (wnd (Y 62) w) a (wnd (Y 62) w a ||| (1 <<< (nI b &&& 31)))) b (upd (wnd (Y 62) w) a (wnd (Y 62) w a ||| (1 <<< (nI b &&& 31))) b ||| (1 <<< (nI a &&& 31))) := by
      simp only [wnd]
      rw [r0, r1, rc, ix (show a < 1000 by omega), ix (show b < 1000 by omega)]
    rw [ew, e28]
    by_cases c : x = b
    · rw [c, upd_eq, upd_eq, upd_ne (Ne.symm hab), upd_ne (Ne.symm hab), h1 b (by omega)]
    · rw [upd_ne c, upd_ne c]
      by_cases c2 : x = a
      · rw [c2, upd_eq, upd_eq, h1 a (by omega)]
      · rw [upd_ne c2, upd_ne c2, h1 x hx]
  · rw [e11]
    by_cases c : t = w
    · subst c
      exact ⟨a, b, ha, hb, hab, r0, r1⟩
    · obtain ⟨i, j, q1, q2, q3, q4, q5⟩ := h2 t (by omega)
      exact ⟨i, j, q1, q2, q3, by rw [e62, upd_ne (by omega), upd_ne (by omega)]; exact q4, by rw [e62, upd_ne (by omega), upd_ne (by omega)]; exact q5⟩
theorem sim_wal (hlen : len ≤ 140) (hb : ∀ i, i < len → wx_b (L i) 0 255) (S : sm L len X Y) (D : dR X Y i 0 0) (hi : i < 9) (hc : X 18 6 = 103) (g : wx_M) :
    ∃ X1 Y1, xfr X X1 ∧ yfr Y Y1 ∧ ((b_X6_readWalls_2 g 27 i X = .inl X1 ∧ f_X12_isWall (e_X12_nextToken Y) = (Y1, 1) ∧ sm L len X1 Y1 ∧ dR X1 Y1 (i + 1) 0 0) ∨ (b_X6_readWalls_2 g 27 i X = .inr (X1, 0) ∧ f_X12_isWall (e_X12_nextToken Y) = (Y1, 0) ∧ flt X1 Y1)) := by
  have n1 : ¬ (1 : Int32) = 0 := by decide
  have D0 := D.q (qX_step X) (qY_next Y)
  have xq := (qX_step X).x
  have yq := (qY_next Y).y
  have hne : ¬ nI i = 9 := fun q => by have := (nI_eq (a := i) (b := 9) (by omega) (by omega)).mp q; omega
  obtain ⟨i20, i21⟩ := ix2_all ⟨i, by omega⟩
  have S0 : sm L len (e_X6_step X) (e_X12_nextToken Y) := md_step hlen hb S rfl rfl rfl rfl rfl rfl rfl rfl
  simp only [b_X6_readWalls_2]
  rw [if_pos hc, if_neg hne]
  generalize e_X12_nextToken Y = Y0 at S0 D0 yq ⊢
  generalize e_X6_step X = X0 at S0 D0 xq ⊢
  obtain ⟨⟨l1, l2, l3, l4, l5, l6⟩, ⟨w1, w2, w3⟩, ⟨p1, p2, p3⟩, ⟨v1, v2, v3⟩, dw, dm, dv⟩ := D0
  simp only [f_X12_isWall]
  rw [w2, if_neg hne, l1]
  have h6 : (Y0 57 11).toNatClampNeg ≤ 6 := wb_cl (n := 6) l4 (by decide)
  obtain ⟨XF, Y1, n, x1, y1, ⟨e1, d1, M1, k1, k2, k3, k4⟩ | ⟨e1, d1, F1⟩⟩ := sim_num S0 0 (Y0 57 11 - 1)
  · obtain ⟨a, ha, ea⟩ := room_n (b := 0) l4 k3 k4
    have y14 : Y1 57 14 = nI i := by rw [y1.2 14 (by decide) (by decide) (by decide) (by decide) (by decide), w2]
    rw [e1, d1]
    simp only [if_neg n1, k1, k2, y14, i20]
    have S1 : sm L len (e_X6_step X0) (up2 Y1 62 (2 * i) n) := md_step hlen hb M1 rfl rfl rfl rfl (by rw [up2_n (by decide)]) (by rw [up2_n (by decide)]) (by rw [up2_n (by decide)]) (by rw [up2_n (by decide)])
    have a1 : ∀ k, k ≠ 18 → e_X6_step X0 k = X0 k := fun k hk => fr_X6_step hk
    have b1 : ∀ k, k ≠ 57 → k ≠ 62 → up2 Y1 62 (2 * i) n k = Y0 k := fun k h1 h2 => by rw [up2_n h2, y1.1 k h1]
    have b2 : up2 Y1 62 (2 * i) n 62 = upd (Y0 62) (2 * i) n := by rw [up2_s, y1.1 62 (by decide)]
    have b3 : ∀ j, j ≠ 6 → j ≠ 7 → j ≠ 8 → j ≠ 9 → j ≠ 10 → up2 Y1 62 (2 * i) n 57 j = Y0 57 j := fun j h6 h7 h8 h9 h10 => by rw [up2_n (by decide), y1.2 j h6 h7 h8 h9 h10]
    generalize e_X6_step X0 = X1 at S1 a1 ⊢
    generalize up2 Y1 62 (2 * i) n = Y1' at S1 b1 b2 b3 ⊢
    obtain ⟨X2, Y2, x2, y2, ⟨e2, d2, S2, -⟩ | ⟨e2, d2, F2, -⟩⟩ := sim_sign hlen hb S1 tk44
    · rw [e2, d2]
      have r2 : X2 27 0 = Y0 57 11 := by rw [x2 27 (by decide), a1 27 (by decide), l1]
      have t2 : Y2 57 11 = Y0 57 11 := by rw [y2.2 11 (by decide) (by decide) (by decide) (by decide) (by decide), b3 11 (by decide) (by decide) (by decide) (by decide) (by decide)]
      simp only [if_neg n1, r2, t2]
      obtain ⟨XF3, Y3, o, x3, y3, ⟨e3, d3, M3, k5, k6, k7, k8⟩ | ⟨e3, d3, F3⟩⟩ := sim_num S2 0 (Y0 57 11 - 1)
      · obtain ⟨b, hbb, eb⟩ := room_n (b := 0) l4 k7 k8
        have z14 : Y3 57 14 = nI i := by rw [y3.2 14 (by decide) (by decide) (by decide) (by decide) (by decide), y2.2 14 (by decide) (by decide) (by decide) (by decide) (by decide), b3 14 (by decide) (by decide) (by decide) (by decide) (by decide), w2]
        have z62 : Y3 62 (2 * i) = n := by rw [y3.1 62 (by decide), y2.1 62 (by decide), b2, upd_eq]
        rw [e3, d3]
        simp only [if_neg n1, k5, k6, z14, i20, i21, z62]
        have xf2 : xfr X X2 := (xq.trans (qX.x (X1 := X1) a1)).trans x2.x
        have yf1 : yfr Y0 Y1' := ⟨fun k h1 h2 h3 h4 => b1 k h1 h2, fun j hj => b3 j (by omega) (by omega) (by omega) (by omega) (by omega)⟩
        have yf3 : yfr Y Y3 := ((yq.trans yf1).trans y2.y).trans y3.y
        by_cases co : o = n
        · simp only [if_pos co]
          refine ⟨(f_X6_faulty X2 2).1, (f_X12_fails Y3 2).1, xf2.trans (qX_faulty X2 2).x, yf3.trans ?_, Or.inr ⟨rfl, rfl, md_flt M3 2⟩⟩
          exact ⟨fun k h1 h2 h3 h4 => fr_X12_fails h1, fun j hj => fj_X12_fails (by omega) (by omega) (by omega) (by omega) (by omega)⟩
        · simp only [if_neg co]
          have hab : a ≠ b := fun q => co (by rw [ea, eb, q])
          have S3 : sm L len (e_X6_step X2) (up2 (up2 Y3 62 (2 * i + 1) o) 57 14 (up2 Y3 62 (2 * i + 1) o 57 14 + 1)) := md_step hlen hb M3 rfl rfl rfl rfl (by rw [up2_sn (by decide), up2_n (by decide)]) (by rw [up2_sn (by decide), up2_n (by decide)]) (by rw [up2_sn (by decide), up2_n (by decide)]) (by rw [up2_n (by decide), up2_n (by decide)])
          have a3 : ∀ k, k ≠ 18 → e_X6_step X2 k = X0 k := fun k hk => by rw [fr_X6_step hk, x2 k hk, a1 k hk]
          have c1 : ∀ k, k ≠ 57 → k ≠ 62 → up2 (up2 Y3 62 (2 * i + 1) o) 57 14 (up2 Y3 62 (2 * i + 1) o 57 14 + 1) k = Y0 k := fun k h1 h2 => by rw [up2_n h1, up2_n h2, y3.1 k h1, y2.1 k h1, b1 k h1 h2]
          have c2 : up2 (up2 Y3 62 (2 * i + 1) o) 57 14 (up2 Y3 62 (2 * i + 1) o 57 14 + 1) 62 = upd (upd (Y0 62) (2 * i) n) (2 * i + 1) o := by rw [up2_n (by decide), up2_s, y3.1 62 (by decide), y2.1 62 (by decide), b2]
          have c3 : ∀ j, j ≠ 6 → j ≠ 7 → j ≠ 8 → j ≠ 9 → j ≠ 10 → j ≠ 14 → up2 (up2 Y3 62 (2 * i + 1) o) 57 14 (up2 Y3 62 (2 * i + 1) o 57 14 + 1) 57 j = Y0 57 j := fun j h6 h7 h8 h9 h10 h14 => by rw [up2_sn h14, up2_n (by decide), y3.2 j h6 h7 h8 h9 h10, y2.2 j h6 h7 h8 h9 h10, b3 j h6 h7 h8 h9 h10]
          have c4 : up2 (up2 Y3 62 (2 * i + 1) o) 57 14 (up2 Y3 62 (2 * i + 1) o 57 14 + 1) 57 14 = nI (i + 1) := by rw [up2_ss, up2_n (by decide), z14, nI_1]
          have e14 : up2 Y3 62 (2 * i + 1) o 57 14 + 1 = nI i + 1 := by rw [up2_n (by decide), z14]
          rw [e14] at S3 c1 c2 c3 c4
          have e14' : up2 Y3 62 (2 * i + 1) o 57 14 = nI i := by rw [up2_n (by decide), z14]
          simp only [e14']
          generalize e_X6_step X2 = X3 at S3 a3 ⊢
          generalize up2 (up2 Y3 62 (2 * i + 1) o) 57 14 (nI i + 1) = Y3' at S3 c1 c2 c3 c4 ⊢
          have xf3 : xfr X X3 := xq.trans (qX.x (X1 := X3) a3)
          have yf4 : yfr Y Y3' := yq.trans ⟨fun k h1 h2 h3 h4 => c1 k h1 h2, fun j hj => c3 j (by omega) (by omega) (by omega) (by omega) (by omega) (by omega)⟩
          obtain ⟨X4, Y4, x4, y4, ⟨e4, d4, S4, -⟩ | ⟨e4, d4, F4, -⟩⟩ := sim_sign hlen hb S3 tk59
          · rw [e4, d4]
            simp only [if_neg n1]
            have ew := wall_eq X4 (a := a) (b := b) (by omega) (by omega) hab
            rw [← ea, ← eb] at ew
            have wf : ∀ k, k ≠ 27 → k ≠ 28 → e_X3_addWall X4 27 n o k = X4 k := fun k h1 h2 => fr_addWall h1 h2
            have w28 : e_X3_addWall X4 27 n o 28 = upd (upd (X4 28) a (X4 28 a ||| (1 <<< (nI b &&& 31)))) b (upd (X4 28) a (X4 28 a ||| (1 <<< (nI b &&& 31))) b ||| (1 <<< (nI a &&& 31))) := by
              rw [ew, up2_n (by decide), up2_s, up2_s, ea, eb]
            have w27 : e_X3_addWall X4 27 n o 27 = upd (X4 27) 3 (X4 27 3 + 1) := by
              rw [ew, up2_s, up2_n (by decide), up2_n (by decide)]
            generalize e_X3_addWall X4 27 n o = X5 at wf w28 w27 ⊢
            have x427 : X4 27 = X0 27 := by rw [x4 27 (by decide), a3 27 (by decide)]
            have x428 : X4 28 = X0 28 := by rw [x4 28 (by decide), a3 28 (by decide)]
            have cx : ∀ k, k ≠ 18 → k ≠ 27 → k ≠ 28 → X5 k = X0 k := fun k h1 h2 h3 => by rw [wf k h2 h3, x4 k h1, a3 k h1]
            have cy : ∀ k, k ≠ 57 → k ≠ 62 → Y4 k = Y0 k := fun k h1 h2 => by rw [y4.1 k h1, c1 k h1 h2]
            have cj : ∀ j, 11 ≤ j → j ≠ 14 → Y4 57 j = Y0 57 j := fun j h1 h2 => by rw [y4.2 j (by omega) (by omega) (by omega) (by omega) (by omega), c3 j (by omega) (by omega) (by omega) (by omega) (by omega) h2]
            have c14 : Y4 57 14 = nI (i + 1) := by rw [y4.2 14 (by decide) (by decide) (by decide) (by decide) (by decide), c4]
            have c62 : Y4 62 = upd (upd (Y0 62) (2 * i) n) (2 * i + 1) o := by rw [y4.1 62 (by decide), c2]
            have d27 : ∀ j, j ≠ 3 → X5 27 j = X0 27 j := fun j hj => by rw [w27, upd_ne hj, x427]
            refine ⟨X5, Y4, ?_, yf4.trans y4.y, Or.inl ⟨rfl, rfl, ?_, ?_⟩⟩
            · refine (xf3.trans x4.x).trans ⟨fun k h1 h2 => wf k (by omega) (by omega), fun j hj => by rw [w27, upd_ne (by omega)], wf 29 (by decide) (by decide), wf 30 (by decide) (by decide)⟩
            · obtain ⟨q1, q2, q3, q4, q5, q6, q7, q8, q9⟩ := S4
              exact ⟨by rw [wf 18 (by decide) (by decide)]; exact q1, by rw [wf 19 (by decide) (by decide)]; exact q2, q3, q4, by rw [wf 18 (by decide) (by decide)]; exact q5, by rw [wf 18 (by decide) (by decide)]; exact q6, by rw [wf 18 (by decide) (by decide)]; exact q7, by rw [wf 18 (by decide) (by decide)]; exact q8, by rw [wf 18 (by decide) (by decide)]; exact q9⟩
            · refine ⟨?_, ⟨?_, c14, by omega⟩, ?_, ?_, ?_, ?_, ?_⟩
              · rw [d27 0 (by decide), d27 1 (by decide), d27 2 (by decide), cj 11 (by decide) (by decide), cj 12 (by decide) (by decide), cj 13 (by decide) (by decide)]
                exact ⟨l1, l2, l3, l4, l5, l6⟩
              · rw [w27, upd_eq, x427, w1, nI_1]
              · rw [d27 4 (by decide), cj 16 (by decide) (by decide)]
                exact ⟨p1, p2, p3⟩
              · rw [d27 5 (by decide), cj 18 (by decide) (by decide)]
                exact ⟨v1, v2, v3⟩
              · exact dW_more dw ha hbb h6 hab (by rw [w28, x428]) (by rw [c62, ea, eb]) (cj 11 (by decide) (by decide))
              · intro k hk
                omega
              · intro k hk
                omega
          · rw [e4, d4]
            simp only [if_true]
            exact ⟨X4, Y4, xf3.trans x4.x, yf4.trans y4.y, Or.inr ⟨rfl, rfl, F4⟩⟩
      · rw [e3, d3]
        simp only [if_true]
        exact ⟨XF3, Y3, ((xq.trans (qX.x (X1 := X1) a1)).trans x2.x).trans x3.x, ((yq.trans ⟨fun k h1 h2 h3 h4 => b1 k h1 h2, fun j hj => b3 j (by omega) (by omega) (by omega) (by omega) (by omega)⟩).trans y2.y).trans y3.y, Or.inr ⟨rfl, rfl, F3⟩⟩
    · rw [e2, d2]
      simp only [if_true]
      exact ⟨X2, Y2, (xq.trans (qX.x (X1 := X1) a1)).trans x2.x, (yq.trans ⟨fun k h1 h2 h3 h4 => b1 k h1 h2, fun j hj => b3 j (by omega) (by omega) (by omega) (by omega) (by omega)⟩).trans y2.y, Or.inr ⟨rfl, rfl, F2⟩⟩
  · rw [e1, d1]
    simp only [if_true]
    exact ⟨XF, Y1, xq.trans x1.x, yq.trans y1.y, Or.inr ⟨rfl, rfl, F1⟩⟩
theorem ph_wal (hlen : len ≤ 140) (hb : ∀ i, i < len → wx_b (L i) 0 255) (g : wx_M) : ∀ (d i : Nat) (X Y : wx_M), i + d = 9 → sm L len X Y → dR X Y i 0 0 →
    ∃ X1 Y1 b n w' m' v, tP g (cW g X i) = (X1, b) ∧ n ≤ d + 14 ∧ rn n (Y, 1) = .inr (Y1, b) ∧ xfr X X1 ∧ yfr Y Y1 ∧ ((b = 1 ∧ dR X1 Y1 w' m' v ∧ X1 18 2 = Y1 57 10) ∨ (b = 0 ∧ flt X1 Y1)) := by
  intro d
  induction d with
  | zero =>
    intro i X Y hid S D
    have hi : i = 9 := by omega
    subst hi
    have ht := S.2.2.2.2.2.2.2.1
    by_cases c : X 18 6 = 103
    · have e1 : b_X6_readWalls_2 g 27 9 X = .inr ((f_X6_faulty X 3).1, 0) := by
        simp only [b_X6_readWalls_2]
        rw [if_pos c, if_pos (show nI 9 = 9 from rfl)]
        rfl
      have h18 : e_X12_nextToken Y 57 18 = 0 := by
        rw [(qY_next Y).2 18 (by decide) (by decide) (by decide) (by decide) (by decide), D.2.2.2.1.2.1]
        rfl
      have h16 : e_X12_nextToken Y 57 16 = 0 := by
        rw [(qY_next Y).2 16 (by decide) (by decide) (by decide) (by decide) (by decide), D.2.2.1.2.1]
        rfl
      have e3 : f_X12_isWall (e_X12_nextToken Y) = ((f_X12_fails (e_X12_nextToken Y) 3).1, 0) := by
        simp only [f_X12_isWall]
        rw [(qY_next Y).2 14 (by decide) (by decide) (by decide) (by decide) (by decide), D.2.1.2.1, if_pos (show nI 9 = 9 from rfl)]
        rfl
      rw [cW_inr (by omega) e1, tP_0]
      refine ⟨(f_X6_faulty X 3).1, (f_X12_fails (e_X12_nextToken Y) 3).1, 0, 2, 0, 0, 0, rfl, by omega, ?_, (qX_faulty X 3).x, (qY_fails Y 3).y, Or.inr ⟨rfl, md_flt S 3⟩⟩
      rw [rn_inl (FR_wall ht c h16 h18), e3, rn_inr (FR_0 _)]
    · have e1 : b_X6_readWalls_2 g 27 9 X = .inr (X, 1) := by
        simp only [b_X6_readWalls_2]
        rw [if_neg c]
      rw [cW_inr (by omega) e1, tP_1]
      obtain ⟨X1, Y1, b, n, m', v, a1, a2, a3, a4, a5, a6⟩ := ph_ppl hlen hb g 4 0 X Y rfl S D (fun _ => c)
      exact ⟨X1, Y1, b, n, 9, m', v, a1, by omega, a3, a4, a5, a6⟩
  | succ d ih =>
    intro i X Y hid S D
    have ht := S.2.2.2.2.2.2.2.1
    by_cases c : X 18 6 = 103
    · have h18 : e_X12_nextToken Y 57 18 = 0 := by
        rw [(qY_next Y).2 18 (by decide) (by decide) (by decide) (by decide) (by decide), D.2.2.2.1.2.1]
        rfl
      have h16 : e_X12_nextToken Y 57 16 = 0 := by
        rw [(qY_next Y).2 16 (by decide) (by decide) (by decide) (by decide) (by decide), D.2.2.1.2.1]
        rfl
      obtain ⟨X1, Y1, x1, y1, ⟨e1, d1, S1, D1⟩ | ⟨e1, d1, F1⟩⟩ := sim_wal hlen hb S D (by omega) c g
      · obtain ⟨X2, Y2, b, n, w', m', v, a1, a2, a3, a4, a5, a6⟩ := ih (i + 1) X1 Y1 (by omega) S1 D1
        refine ⟨X2, Y2, b, n + 1, w', m', v, ?_, by omega, ?_, x1.trans a4, y1.trans a5, a6⟩
        · rw [cW_inl (by omega) e1]; exact a1
        · rw [rn_inl (FR_wall ht c h16 h18), d1]; exact a3
      · refine ⟨X1, Y1, 0, 2, 0, 0, 0, ?_, by omega, ?_, x1, y1, Or.inr ⟨rfl, F1⟩⟩
        · rw [cW_inr (by omega) e1, tP_0]
        · rw [rn_inl (FR_wall ht c h16 h18), d1, rn_inr (FR_0 _)]
    · have e1 : b_X6_readWalls_2 g 27 i X = .inr (X, 1) := by
        simp only [b_X6_readWalls_2]
        rw [if_neg c]
      rw [cW_inr (by omega) e1, tP_1]
      obtain ⟨X1, Y1, b, n, m', v, a1, a2, a3, a4, a5, a6⟩ := ph_ppl hlen hb g 4 0 X Y rfl S D (fun _ => c)
      exact ⟨X1, Y1, b, n, i, m', v, a1, by omega, a3, a4, a5, a6⟩
end M23
