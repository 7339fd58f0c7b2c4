/-! THE MATH 14: the latest act is undone -/
theorem up2_R (g : wx_M) (k j : Nat) (v : Int32) : up2 g k j v = upR g k (upd (g k) j v) := by
  funext a
  by_cases c : a = k
  · subst c
    rw [up2_s, upR_s]
  · rw [up2_n c, upR_n c]
theorem upR_up2 (g : wx_M) (k j : Nat) (r : Nat → Int32) (v : Int32) : up2 (upR g k r) k j v = upR g k (upd r j v) := by
  funext a
  by_cases c : a = k
  · subst c
    rw [up2_s, upR_s, upR_s]
  · rw [up2_n c, upR_n c, upR_n c]
theorem u49_65 (g : wx_M) (a b : Int32) : up2 (up2 g 49 5 a) 49 6 b 49 5 = a := by rw [up2_sn (by decide), up2_ss]
theorem u49_6 (g : wx_M) (a : Int32) : up2 g 49 5 a 49 6 = g 49 6 := up2_sn (by decide)
theorem undo11 {g : wx_M} {nx j : Nat} (hx : g 49 5 = nI nx) (hnx : nx < 24) (hk : g 49 6 = nI (j + 1)) (hj : j < 24) (ho : Nat) {p : Nat} (hp : p = (nx + 23) % 24) {G : wx_M} (eG : up2 (up2 g 49 5 (nI p)) 49 6 (nI j) = G) :
    e_X0_undoLatest g ho = (if G 50 p = 0 then e_X3_leaveSeat G ho (G 51 p) (G 52 p) (G 53 p) (G 54 p) else if G 50 p = 1 then e_X3_takeSeat G ho (G 51 p) (G 52 p) (G 53 p) (G 54 p) else if G 50 p = 2 then e_X3_openCurtain G ho (G 51 p) (G 52 p) (G 53 p) else up2 G ho 8 ((G ho 8) &&& ((1 <<< (G 53 p &&& 31)) ^^^ (-1)))) := by
  simp only [e_X0_undoLatest, u49_65, u49_6, hx, hk, nI_pred]
  by_cases c : nx = 0
  · subst c
    have ep : p = 23 := by omega
    subst ep
    rw [if_pos nI_0, show (23 : Int32) = nI 23 from rfl]
    simp only [eG, ix (show 23 < 1000 by decide)]
  · have ep : p = nx - 1 := by omega
    rw [if_neg (nI_ne0 (by omega) (by omega)), show nI nx - 1 = nI p by rw [ep, show (1 : Int32) = nI 1 from rfl]; exact pk_sub (by omega)]
    simp only [eG, ix (show p < 1000 by omega)]
theorem undo12 {g1 : wx_M} {j : Nat} {s : Nat → Int32} (hj : j < 24) (h57 : g1 57 23 = nI (j + 1)) (h68 : ∀ i, i < 5 → g1 68 (5 * j + i) = s i) : f_X12_undo g1 = (upR (up2 g1 57 23 (nI j)) 65 (m_back s (g1 65)), nI j) := by
  obtain ⟨i0, i1, i2, i3, i4⟩ := m_i5_all ⟨j, by omega⟩
  have a0 : g1 68 (5 * j) = s 0 := h68 0 (by decide)
  have a1 := h68 1 (by decide)
  have a2 := h68 2 (by decide)
  have a3 := h68 3 (by decide)
  have a4 := h68 4 (by decide)
  have u68 : up2 g1 57 23 (nI j) 68 = g1 68 := up2_n (by decide)
  have u65 : up2 g1 57 23 (nI j) 65 = g1 65 := up2_n (by decide)
  have u23 : up2 g1 57 23 (nI j) 57 23 = nI j := up2_ss _ _ _ _
  simp only [f_X12_undo, e_X12_draw]
  rw [h57, if_neg (nI_ne0 (by omega) (by omega)), nI_pred]
  simp only [u68, u65, u23, i0, i1, i2, i3, i4, a0, a1, a2, a3, a4]
  unfold m_back
  by_cases c : 2 ≤ s 0
  · rw [if_pos c, if_pos c]
    by_cases c2 : s 0 = 2
    · rw [if_pos c2, if_pos c2, up2_R (up2 g1 57 23 (nI j)) 65, u65, upR_up2, upR_s, upR_n (by decide), u23]
    · rw [if_neg c2, if_neg c2, up2_R _ 65, u65, upR_n (by decide), u23, ix_51]
  · rw [if_neg c, if_neg c, up2_R (up2 g1 57 23 (nI j)) 65, u65, upR_up2, upR_s, upR_n (by decide), u23]
theorem wri_and {x : Int32} (h : wx_b x 0 255) {m : Nat} (hm : m < 8) : wx_b (x &&& (bt m ^^^ (-1))) 0 255 := (bt8_ h hm).2.2
theorem t_undo {g : wx_M} {K : Nat} (H : m_Rel K g) : m_T K g (f_X11_undo g) (fun q => f_X12_undo q) := by
  have R := H.hou.R
  have B := H.hou.B
  obtain ⟨⟨S, nx, n, L, U⟩, AI, AM⟩ := id H.act
  have hnx := L.lnx
  have hn := L.ln
  have hv4 := B.v4
  have hr6 := B.r6
  cases n with
  | zero => exact T_same H (-1000002) (by simp only [f_X11_undo]; rw [L.ek, if_pos nI_0]) (by simp only [f_X12_undo]; rw [L.ea, if_pos nI_0])
  | succ j =>
    obtain ⟨ok, U'⟩ := U
    obtain ⟨p, hp⟩ : ∃ p, p = (nx + 23) % 24 := ⟨_, rfl⟩
    obtain ⟨G, eG⟩ : ∃ G, up2 (up2 g 49 5 (nI p)) 49 6 (nI j) = G := ⟨_, rfl⟩
    have Gf : ∀ k, k ≠ 49 → G k = g k := fun k hk => by rw [← eG, up2_n hk, up2_n hk]
    have G5 : G 49 5 = nI p := by rw [← eG, u49_65]
    have G6 : G 49 6 = nI j := by rw [← eG, up2_ss]
    have epl : m_pl nx (j + 1) j = p := by unfold m_pl; omega
    have s0 : G 50 p = S j 0 := by rw [Gf 50 (by decide), ← epl]; exact L.ec j (by omega) 0 (by decide)
    have s1 : G 51 p = S j 1 := by rw [Gf 51 (by decide), ← epl]; exact L.ec j (by omega) 1 (by decide)
    have s2 : G 52 p = S j 2 := by rw [Gf 52 (by decide), ← epl]; exact L.ec j (by omega) 2 (by decide)
    have s3 : G 53 p = S j 3 := by rw [Gf 53 (by decide), ← epl]; exact L.ec j (by omega) 3 (by decide)
    have s5 : G 54 p = S j 5 := by rw [Gf 54 (by decide), ← epl]; exact L.ed j (by omega)
    have e1 := undo11 L.enx hnx L.ek (by omega) 20 hp eG
    rw [s0, s1, s2, s3, s5] at e1
    have GH : m_Hou G 20 (g 65) K := H.hou.congr (fun k h1 h2 => Gf k (by omega))
    have main : (∀ k, (k < 20 ∨ 26 < k) → e_X0_undoLatest g 20 k = G k) ∧ m_Hou (e_X0_undoLatest g 20) 20 (m_back (S j) (g 65)) (K + 10) := by
      rcases ok with ⟨v, r, m, hv, hr, hm, q1, q2, q3, hb, q⟩ | ⟨a, b, m, ha, hb, hab, hm, q0, q1, q2, q3, q4⟩ | ⟨m, hm, q0, q1, q2, q3⟩
      · rcases q with ⟨q0, q4, q5⟩ | ⟨q0, q4, q5, q6⟩
        · rw [q0, if_pos rfl, q1, q2, q3] at e1
          have eb := back_seat (s := S j) (f := g 65) (show v < 4 by omega) (show r < 6 by omega) hm (Or.inl q0) q1 q2 q3
          rw [e1, eb]
          refine ⟨fun k hk => ?_, ?_⟩
          · rw [leave_eq G 20 (by omega) (by omega) (by omega), up2_n (by omega), up2_n (by omega), up2_n (by omega)]
          · exact (hou_leave GH (by omega) hv hr hm q4 (S j 5) (by rw [upd_ne (by omega), upd_eq]; exact q5) (by rw [upd_ne (by omega), upd_eq]; exact wb_w hb (by decide) (by omega)) (upd_eq _ _ _) (fun i h1 h2 => by rw [upd_ne h2, upd_ne h1])).1
        · rw [q0, if_neg (show ¬ (1 : Int32) = 0 by decide), if_pos rfl, q1, q2, q3] at e1
          have eb := back_seat (s := S j) (f := g 65) (show v < 4 by omega) (show r < 6 by omega) hm (Or.inr q0) q1 q2 q3
          rw [e1, eb]
          refine ⟨fun k hk => ?_, ?_⟩
          · rw [take_eq G 20 (by omega) (by omega) (by omega), up2_n (by omega), up2_n (by omega), up2_n (by omega)]
          · exact hou_take GH (by omega) hv hr hm q4 q6 (S j 5) (by rw [upd_ne (by omega), upd_eq]; exact q5) (by rw [upd_ne (by omega), upd_eq]; exact wb_w hb (by decide) (by omega)) (upd_eq _ _ _) (fun i h1 h2 => by rw [upd_ne h2, upd_ne h1])
      · rw [q0, if_neg (show ¬ (2 : Int32) = 0 by decide), if_neg (show ¬ (2 : Int32) = 1 by decide), if_pos rfl, q1, q2, q3] at e1
        have eb := back_cur (s := S j) (f := g 65) (show a < 6 by omega) (show b < 6 by omega) hm hab q0 q1 q2 q3
        rw [e1, eb]
        refine ⟨fun k hk => ?_, ?_⟩
        · rw [open_eq G 20 (show a < 6 by omega) (show b < 6 by omega) hm hab, up2_n (by omega), up2_n (by omega), up2_n (by omega)]
        · exact hou_open GH (by omega) (by omega) (by omega) hm hab q4 (by rw [upd_ne (by omega), upd_eq]) (upd_eq _ _ _) (fun i h1 h2 => by rw [upd_ne h2, upd_ne h1])
      · rw [q0, if_neg (show ¬ (3 : Int32) = 0 by decide), if_neg (show ¬ (3 : Int32) = 1 by decide), if_neg (show ¬ (3 : Int32) = 2 by decide), q3] at e1
        have eb := back_wri (s := S j) (f := g 65) q0 q3
        rw [e1, eb]
        refine ⟨fun k hk => up2_n (by omega), ?_⟩
        have e8 : G 20 8 = g 65 51 := by rw [Gf 20 (by decide)]; exact R.wr
        rw [e8]
        exact hou_wri GH (by omega) _ (wri_and B.wr hm) (upd_eq _ _ _) (fun i h1 => upd_ne h1)
    obtain ⟨m1, m2⟩ := main
    obtain ⟨C, eC⟩ : ∃ C, e_X0_undoLatest g 20 = C := ⟨_, rfl⟩
    rw [eC] at m1 m2
    have C6 : C 49 6 = nI j := by rw [m1 49 (by decide), G6]
    have e11 : f_X11_undo g = (C, nI j) := by
      simp only [f_X11_undo]
      rw [L.ek, if_neg (nI_ne0 (by omega) (by omega)), eC, C6]
    rw [e11]
    have Cf : ∀ k, (k < 20 ∨ 26 < k) → k ≠ 49 → C k = g k := fun k h1 h2 => by rw [m1 k h1, Gf k h2]
    have C65 : C 65 = g 65 := Cf 65 (by decide) (by decide)
    have e12 : f_X12_undo C = (upR (up2 C 57 23 (nI j)) 65 (m_back (S j) (g 65)), nI j) := by
      rw [undo12 (g1 := C) (j := j) (s := S j) (by omega) (by rw [Cf 57 (by decide) (by decide)]; exact L.ea) (fun i hi => by rw [Cf 68 (by decide) (by decide)]; exact L.em j (by omega) i hi), C65]
    refine ⟨fun k hk => Cf k (by omega) (by omega), ?_, ?_⟩
    · show (f_X12_undo C).2 = nI j
      rw [e12]
    · show m_Rel (K + 10) (f_X12_undo C).1
      rw [e12]
      dsimp only
      have wf : ∀ k, k ≠ 57 → k ≠ 65 → upR (up2 C 57 23 (nI j)) 65 (m_back (S j) (g 65)) k = C k := fun k h1 h2 => by rw [upR_n h2, up2_n h1]
      have w65 : upR (up2 C 57 23 (nI j)) 65 (m_back (S j) (g 65)) 65 = m_back (S j) (g 65) := upR_s _ _ _
      have w57 : upR (up2 C 57 23 (nI j)) 65 (m_back (S j) (g 65)) 57 = upd (C 57) 23 (nI j) := by rw [upR_n (by decide), up2_s]
      generalize upR (up2 C 57 23 (nI j)) 65 (m_back (S j) (g 65)) = W at wf w65 w57 ⊢
      refine rel_act H (by omega) (fun k h1 h2 h3 h4 h5 => ?_) (fun i hi => ?_) ?_ ?_
      · rw [wf k h3 h4, Cf k (by omega) (by omega)]
      · rw [w57, upd_ne hi, Cf 57 (by decide) (by decide)]
      · rw [w65]
        exact m2.congr (fun k h1 h2 => wf k (by omega) (by omega))
      · refine ⟨⟨S, p, j, ⟨?_, by omega, ?_, ?_, by omega, ?_, ?_, ?_⟩, ?_⟩, ?_, ?_⟩
        · rw [wf 49 (by decide) (by decide), m1 49 (by decide), G5]
        · rw [wf 49 (by decide) (by decide), C6]
        · rw [w57, upd_eq]
        · intro q hq i hi
          rw [wf 68 (by decide) (by decide), Cf 68 (by decide) (by decide)]
          exact L.em q (by omega) i hi
        · intro q hq i hi
          rw [wf (50 + i) (by omega) (by omega), Cf (50 + i) (by omega) (by omega), show m_pl p j q = m_pl nx (j + 1) q by unfold m_pl; omega]
          exact L.ec q (by omega) i hi
        · intro q hq
          rw [wf 54 (by omega) (by omega), Cf 54 (by omega) (by omega), show m_pl p j q = m_pl nx (j + 1) q by unfold m_pl; omega]
          exact L.ed q (by omega)
        · rw [w65]
          exact U'.mono (by omega)
        · exact ai_congr (fun k h1 h2 => by rw [wf k (by omega) (by omega), Cf k (by omega) (by omega)]) AI
        · exact am_congr (by rw [wf 68 (by decide) (by decide), Cf 68 (by decide) (by decide)]) AM
