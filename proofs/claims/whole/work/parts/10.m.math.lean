/-! THE MATH 13: buy, back, curtain, write, undo -/
section M13
variable {g T W : wx_M} {K K' : Nat}
theorem act_rel (H : m_Rel K g) (hK : K ≤ K') (tf : ∀ k, (k < 20 ∨ 26 < k) → T k = g k) (w a b m p c : Int32) (ba : wx_b a 0 5) (bb : wx_b b 0 5) (bm : wx_b m 0 7) (bw : (w = 0 ∨ w = 1) → wx_b a 0 3) (bw2 : w < 2 → wx_b a 0 3)
    (eW : ∀ k, k ≠ 65 → W k = e_X12_note (e_X0_keep T w a b m c) w a b m p k) (hh : m_Hou T 20 (W 65) K') (hok : m_ok K' (m_act w a b m p c) (W 65)) (hb : m_back (m_act w a b m p c) (W 65) = g 65) : m_Rel K' W := by
  obtain ⟨⟨S, nx, n, L, U⟩, AI, AM⟩ := id H.act
  have hnx := L.lnx
  have hn := L.ln
  have x1 : T 49 5 = nI nx := by rw [tf 49 (by decide)]; exact L.enx
  have x2 : T 49 6 = nI n := by rw [tf 49 (by decide)]; exact L.ek
  have kf : ∀ {k : Nat}, (k < 49 ∨ 54 < k) → e_X0_keep T w a b m c k = T k := fun hk => keep_far x1 hnx x2 hn hk
  have x3 : e_X0_keep T w a b m c 57 23 = nI n := by rw [kf (by omega), tf 57 (by decide)]; exact L.ea
  have nf : ∀ {k : Nat}, k ≠ 57 → k ≠ 68 → e_X12_note (e_X0_keep T w a b m c) w a b m p k = e_X0_keep T w a b m c k := fun h1 h2 => note_far x3 hn h1 h2
  refine rel_act H hK (fun k h1 h2 h3 h4 h5 => ?_) (fun j hj => ?_) ?_ ?_
  · rw [eW k h4, nf h3 h5, kf (by omega), tf k (by omega)]
  · rw [eW 57 (by decide), note_57 x3 hn hj, kf (by omega), tf 57 (by decide)]
  · exact hh.congr (fun k h1 h2 => by rw [eW k (by omega), nf (by omega) (by omega), kf (by omega)])
  · exact m_act_add (g1 := T) hK H.act (fun k h1 h2 => tf k (by omega)) (tf 68 (by decide)) (by rw [tf 57 (by decide)]) ba bb bm bw bw2 (fun k h1 h2 => eW k (by omega)) (eW 68 (by decide)) (by rw [eW 57 (by decide)]) hok hb
theorem keep_rel (H : m_Rel K g) (tf : ∀ k, (k < 20 ∨ 26 < k) → T k = g k) (w a b m c : Int32) : (∀ k, (k < 20 ∨ 26 < k) → (k < 49 ∨ 54 < k) → e_X0_keep T w a b m c k = g k) ∧ (∀ k, 20 ≤ k → k ≤ 26 → e_X0_keep T w a b m c k = T k) ∧ (∀ p k, k ≠ 57 → k ≠ 68 → e_X12_note (e_X0_keep T w a b m c) w a b m p k = e_X0_keep T w a b m c k) := by
  obtain ⟨⟨S, nx, n, L, U⟩, AI, AM⟩ := id H.act
  have hnx := L.lnx
  have hn := L.ln
  have x1 : T 49 5 = nI nx := by rw [tf 49 (by decide)]; exact L.enx
  have x2 : T 49 6 = nI n := by rw [tf 49 (by decide)]; exact L.ek
  have kf : ∀ {k : Nat}, (k < 49 ∨ 54 < k) → e_X0_keep T w a b m c k = T k := fun hk => keep_far x1 hnx x2 hn hk
  have x3 : e_X0_keep T w a b m c 57 23 = nI n := by rw [kf (by omega), tf 57 (by decide)]; exact L.ea
  exact ⟨fun k h1 h2 => by rw [kf h2, tf k h1], fun k h1 h2 => kf (by omega), fun p k h1 h2 => note_far x3 hn h1 h2⟩
theorem r_seat1 {a b c : Int32} (c1 : ¬ r_X12_isGuest g a = 0) (c2 : ¬ r_X12_isRoom g b = 0) (c3 : ¬ r_X12_isMinute c = 0) : ¬ r_X12_isSeat g a b c = 0 := by
  unfold r_X12_isSeat
  rw [if_neg c1, if_neg c2, if_neg c3]
  decide
theorem q_canBuy (H : m_Rel K g) {v r m : Nat} (hv : v < (g 65 4).toNatClampNeg) (hr : r < 6) (hm : m < 8) : r_X3_canBuy g 20 (nI v) (nI r) (nI m) = (if r_X12_isLeft g (nI r) (nI m) = 0 then 0 else if m_sold (g 65) = 24 then 0 else if r_X12_priceOf g (nI v) (nI r) (nI m) ≤ g 65 (47 + v) then 1 else 0) := by
  have hv4 := H.hou.B.v4
  have hle := H.hou.S.le
  simp only [r_X3_canBuy]
  rw [q_isLeft H.hou.R H.hou.B hr hm, H.hou.S.sold, ix (show v < 1000 by omega), H.hou.R.pur v hv, q_price H.hou.R H.hou.B hv hr hm]
  by_cases c1 : r_X12_isLeft g (nI r) (nI m) = 0
  · rw [if_pos c1, if_pos c1]
  · rw [if_neg c1, if_neg c1]
    have e : (24 ≤ nI (m_sold (g 65))) ↔ (m_sold (g 65) = 24) := by
      rw [show (24 : Int32) = nI 24 from rfl, nI_leI (by omega) (by omega)]
      omega
    rw [m_ififf e]
    by_cases c2 : m_sold (g 65) = 24
    · rw [if_pos c2, if_pos c2]
    · rw [if_neg c2, if_neg c2]
      by_cases c3 : g 65 (47 + v) < r_X12_priceOf g (nI v) (nI r) (nI m)
      · rw [if_pos c3, if_neg (Int32.not_le.mpr c3)]
      · rw [if_neg c3, if_pos (Int32.not_lt.mp c3)]
theorem sold24 {g' : wx_M} (h : m_sold (g' 65) ≤ 24) : (r_X12_soldOfAll g' = 24) ↔ (m_sold (g' 65) = 24) := by
  rw [m_soldOf, show (24 : Int32) = nI 24 from rfl, nI_eq (by omega) (by omega)]
theorem t_buy (H : m_Rel K g) (a b c : Int32) : m_T K g (f_X11_buy g a b c) (fun q => f_X12_buy q a b c) := by
  have R := H.hou.R
  have B := H.hou.B
  by_cases c1 : r_X12_isGuest g a = 0
  · exact T_same H (-1000001) (by simp only [f_X11_buy]; rw [e_guest R B, if_pos c1]) (by simp only [f_X12_buy, r_X12_isSeat]; rw [if_pos c1, if_pos rfl])
  by_cases c2 : r_X12_isRoom g b = 0
  · exact T_same H (-1000001) (by simp only [f_X11_buy]; rw [e_guest R B, if_neg c1, e_room R B, if_pos c2]) (by simp only [f_X12_buy, r_X12_isSeat]; rw [if_neg c1, if_pos c2, if_pos rfl])
  by_cases c3 : r_X12_isMinute c = 0
  · exact T_same H (-1000001) (by simp only [f_X11_buy]; rw [e_guest R B, if_neg c1, e_room R B, if_neg c2, e_min, if_pos c3]) (by simp only [f_X12_buy, r_X12_isSeat]; rw [if_neg c1, if_neg c2, if_pos c3, if_pos rfl])
  have cs := r_seat1 c1 c2 c3
  obtain ⟨v, hv, rfl⟩ := o_guest B c1
  obtain ⟨r, hr, rfl⟩ := o_room B c2
  obtain ⟨m, hm, rfl⟩ := o_min c3
  have hv4 := B.v4
  have hr6 := B.r6
  have hr2 : r < 6 := by omega
  by_cases c4 : r_X12_has (g 65 (100 + (6 * m + r))) (nI v) = 0
  · by_cases c5 : r_X12_isLeft g (nI r) (nI m) = 0
    · exact T_same H (-1000003) (by simp only [f_X11_buy]; rw [e_guest R B, if_neg c1, e_room R B, if_neg c2, e_min, if_neg c3, q_holds R hr2 hm, q_at hr2 hm, if_pos c4, q_canBuy H hv hr2 hm, if_pos c5, if_pos rfl]) (by simp only [f_X12_buy]; rw [if_neg cs, q_at hr2 hm, if_pos c4, if_pos c5])
    by_cases c6 : m_sold (g 65) = 24
    · exact T_same H (-1000003) (by simp only [f_X11_buy]; rw [e_guest R B, if_neg c1, e_room R B, if_neg c2, e_min, if_neg c3, q_holds R hr2 hm, q_at hr2 hm, if_pos c4, q_canBuy H hv hr2 hm, if_neg c5, if_pos c6, if_pos rfl]) (by simp only [f_X12_buy]; rw [if_neg cs, q_at hr2 hm, if_pos c4, if_neg c5, if_pos ((sold24 H.hou.S.le).mpr c6)])
    have ev : (47 + nI v).toNatClampNeg = 47 + v := ix_a47 (show v < 1000 by omega)
    by_cases c7 : r_X12_priceOf g (nI v) (nI r) (nI m) ≤ g 65 (47 + v)
    · obtain ⟨x, ex⟩ : ∃ x, r_X12_priceOf g (nI v) (nI r) (nI m) = x := ⟨_, rfl⟩
      rw [ex] at c7
      have ex11 : r_X3_priceFor g 20 (nI v) (nI r) (nI m) = x := by rw [q_price R B hv hr2 hm, ex]
      have hp0 : wx_b (g 65 (47 + v)) 0 K := B.pur v hv
      have hx0 : wx_b x 0 199 := by rw [← ex]; exact q_priceb B hv hr2 hm
      have tf : ∀ k, (k < 20 ∨ 26 < k) → e_X3_takeSeat g 20 (nI v) (nI r) (nI m) x k = g k := fun k hk => by
        rw [take_eq g 20 (by omega) (by omega) (by omega), up2_n (by omega), up2_n (by omega), up2_n (by omega)]
      obtain ⟨q1, q2, q3⟩ := keep_rel H tf 0 (nI v) (nI r) (nI m) x
      have e11 : f_X11_buy g (nI v) (nI r) (nI m) = (e_X0_keep (e_X3_takeSeat g 20 (nI v) (nI r) (nI m) x) 0 (nI v) (nI r) (nI m) x, x) := by
        simp only [f_X11_buy]
        rw [e_guest R B, if_neg c1, e_room R B, if_neg c2, e_min, if_neg c3, q_holds R hr2 hm, q_at hr2 hm, if_pos c4, q_canBuy H hv hr2 hm, if_neg c5, if_neg c6, ex, if_pos c7, if_neg (show ¬ (1 : Int32) = 0 by decide), ex11]
      rw [e11]
      obtain ⟨G, eG⟩ : ∃ G, e_X0_keep (e_X3_takeSeat g 20 (nI v) (nI r) (nI m) x) 0 (nI v) (nI r) (nI m) x = G := ⟨_, rfl⟩
      have G65 : G 65 = g 65 := by rw [← eG]; exact q1 65 (by decide) (by decide)
      have R1 : m_HR g 20 (G 65) := by rw [G65]; exact R
      have B1 : m_NB (G 65) K := by rw [G65]; exact B
      have N65 : ∀ p, e_X12_note G 0 (nI v) (nI r) (nI m) p 65 = g 65 := fun p => by rw [← eG, q3 p 65 (by decide) (by decide)]; exact q1 65 (by decide) (by decide)
      have e12 : f_X12_buy G (nI v) (nI r) (nI m) = (up2 (up2 (e_X12_note G 0 (nI v) (nI r) (nI m) (g 65 (47 + v))) 65 (47 + v) (g 65 (47 + v) - x)) 65 (100 + (6 * m + r)) (g 65 (100 + (6 * m + r)) ||| bt v), x) := by
        simp only [f_X12_buy]
        have c1' : ¬ r_X12_isGuest G (nI v) = 0 := by rw [← e_guest R1 B1, e_guest R B]; exact c1
        have c2' : ¬ r_X12_isRoom G (nI r) = 0 := by rw [← e_room R1 B1, e_room R B]; exact c2
        have c5' : ¬ r_X12_isLeft G (nI r) (nI m) = 0 := by rw [← q_isLeft R1 B1 hr2 hm, q_isLeft R B hr2 hm]; exact c5
        have c6' : ¬ r_X12_soldOfAll G = 24 := by rw [sold24 (by rw [G65]; exact H.hou.S.le), G65]; exact c6
        have ep : r_X12_priceOf G (nI v) (nI r) (nI m) = x := by rw [← q_price R1 B1 (by rw [G65]; exact hv) hr2 hm]; exact ex11
        rw [if_neg (r_seat1 c1' c2' c3), q_at hr2 hm, G65, if_pos c4, if_neg c5', if_neg c6', ep, ev, if_pos c7, ix_s100 (show r < 1000 by omega) (show m < 1000 by omega)]
        simp only [N65]
        rw [up2_sn (show 100 + (6 * m + r) ≠ 47 + v by omega), N65]
      rw [eG]
      refine ⟨fun k hk => ?_, ?_, ?_⟩
      · show G k = g k
        rw [← eG]; exact q1 k (by omega) (by omega)
      · show (f_X12_buy G (nI v) (nI r) (nI m)).2 = x
        rw [e12]
      · show m_Rel (K + 10) (f_X12_buy G (nI v) (nI r) (nI m)).1
        rw [e12]
        dsimp only
        have hbt := bt_ (B.hld (6 * m + r) (by omega)) (show v < 4 by omega)
        have w47 : up2 (up2 (e_X12_note G 0 (nI v) (nI r) (nI m) (g 65 (47 + v))) 65 (47 + v) (g 65 (47 + v) - x)) 65 (100 + (6 * m + r)) (g 65 (100 + (6 * m + r)) ||| bt v) 65 (47 + v) = g 65 (47 + v) - x := by rw [up2_sn (by omega), up2_ss]
        have w100 : up2 (up2 (e_X12_note G 0 (nI v) (nI r) (nI m) (g 65 (47 + v))) 65 (47 + v) (g 65 (47 + v) - x)) 65 (100 + (6 * m + r)) (g 65 (100 + (6 * m + r)) ||| bt v) 65 (100 + (6 * m + r)) = g 65 (100 + (6 * m + r)) ||| bt v := by rw [up2_ss]
        have wo : ∀ j, j ≠ 47 + v → j ≠ 100 + (6 * m + r) → up2 (up2 (e_X12_note G 0 (nI v) (nI r) (nI m) (g 65 (47 + v))) 65 (47 + v) (g 65 (47 + v) - x)) 65 (100 + (6 * m + r)) (g 65 (100 + (6 * m + r)) ||| bt v) 65 j = g 65 j := fun j h1 h2 => by rw [up2_sn h2, up2_sn h1, N65]
        have hsub := fb_subI (x := g 65 (47 + v)) (y := x) (by have := hp0.1; have := hx0.2; omega) (by have := fb_rng (g 65 (47 + v)); have := hx0.1; omega)
        have c7' := Int32.le_iff_toInt_le.mp c7
        have hbp : wx_b (g 65 (47 + v) - x) 0 (K + 10 : Nat) := ⟨by omega, by have := hp0.2; have := hx0.1; omega⟩
        generalize hW : up2 (up2 (e_X12_note G 0 (nI v) (nI r) (nI m) (g 65 (47 + v))) 65 (47 + v) (g 65 (47 + v) - x)) 65 (100 + (6 * m + r)) (g 65 (100 + (6 * m + r)) ||| bt v) = W at w47 w100 wo ⊢
        refine act_rel (T := e_X3_takeSeat g 20 (nI v) (nI r) (nI m) x) H (by omega) tf 0 (nI v) (nI r) (nI m) (g 65 (47 + v)) x (wb_nI (n := 5) (by omega) (by decide)) (wb_nI (n := 5) (by omega) (by decide)) (wb_nI (n := 7) (by omega) (by decide)) (fun _ => wb_nI (n := 3) (by omega) (by decide)) (fun _ => wb_nI (n := 3) (by omega) (by decide)) (fun k hk => ?_) ?_ ?_ ?_
        · rw [← hW, up2_n hk, up2_n hk, eG]
        · exact hou_take H.hou (by omega) hv hr hm c4 (by have := H.hou.S.le; omega) x w47 (by rw [w47]; exact hbp) (by rw [w100]; exact (hbt.1 c4).1) wo
        · refine Or.inl ⟨v, r, m, by rw [wo 4 (by omega) (by omega)]; exact hv, by rw [wo 0 (by omega) (by omega)]; exact hr, hm, rfl, rfl, rfl, wb_w hp0 (by decide) (by omega), Or.inl ⟨rfl, ?_, ?_⟩⟩
          · rw [w100]; exact (hbt.1 c4).2.2.2
          · rw [w47]
            exact (Int32.sub_add_cancel _ _).symm
        · rw [back_seat (show v < 4 by omega) hr2 hm (Or.inl rfl) rfl rfl rfl]
          funext j
          by_cases d1 : j = 100 + (6 * m + r)
          · rw [d1, upd_eq, w100, (hbt.1 c4).1]
            exact hbt.2.2.1
          · rw [upd_ne d1]
            by_cases d2 : j = 47 + v
            · rw [d2, upd_eq]; rfl
            · rw [upd_ne d2]; exact wo j d2 d1
    · exact T_same H (-1000003) (by simp only [f_X11_buy]; rw [e_guest R B, if_neg c1, e_room R B, if_neg c2, e_min, if_neg c3, q_holds R hr2 hm, q_at hr2 hm, if_pos c4, q_canBuy H hv hr2 hm, if_neg c5, if_neg c6, if_neg c7, if_pos rfl]) (by simp only [f_X12_buy]; rw [if_neg cs, q_at hr2 hm, if_pos c4, if_neg c5, if_neg (fun q => c6 ((sold24 H.hou.S.le).mp q)), ev, if_neg c7])
  · exact T_same H (-1000002) (by simp only [f_X11_buy]; rw [e_guest R B, if_neg c1, e_room R B, if_neg c2, e_min, if_neg c3, q_holds R hr2 hm, q_at hr2 hm, if_neg c4]) (by simp only [f_X12_buy]; rw [if_neg cs, q_at hr2 hm, if_neg c4])
theorem m_half_all : ∀ i : Fin 21, 0 ≤ (nI i.val / 2).toInt ∧ (nI i.val / 2).toInt ≤ 10 := by decide +kernel
theorem t_back (H : m_Rel K g) (hK9 : K ≤ 9000) (a b c : Int32) : m_T K g (f_X11_back g a b c) (fun q => f_X12_back q a b c) := by
  have R := H.hou.R
  have B := H.hou.B
  by_cases c1 : r_X12_isGuest g a = 0
  · exact T_same H (-1000001) (by simp only [f_X11_back]; rw [e_guest R B, if_pos c1]) (by simp only [f_X12_back, r_X12_isSeat]; rw [if_pos c1, if_pos rfl])
  by_cases c2 : r_X12_isRoom g b = 0
  · exact T_same H (-1000001) (by simp only [f_X11_back]; rw [e_guest R B, if_neg c1, e_room R B, if_pos c2]) (by simp only [f_X12_back, r_X12_isSeat]; rw [if_neg c1, if_pos c2, if_pos rfl])
  by_cases c3 : r_X12_isMinute c = 0
  · exact T_same H (-1000001) (by simp only [f_X11_back]; rw [e_guest R B, if_neg c1, e_room R B, if_neg c2, e_min, if_pos c3]) (by simp only [f_X12_back, r_X12_isSeat]; rw [if_neg c1, if_neg c2, if_pos c3, if_pos rfl])
  have cs := r_seat1 c1 c2 c3
  obtain ⟨v, hv, rfl⟩ := o_guest B c1
  obtain ⟨r, hr, rfl⟩ := o_room B c2
  obtain ⟨m, hm, rfl⟩ := o_min c3
  have hv4 := B.v4
  have hr6 := B.r6
  have hr2 : r < 6 := by omega
  by_cases c4 : r_X12_has (g 65 (100 + (6 * m + r))) (nI v) = 0
  · exact T_same H (-1000002) (by simp only [f_X11_back]; rw [e_guest R B, if_neg c1, e_room R B, if_neg c2, e_min, if_neg c3, q_holds R hr2 hm, q_at hr2 hm, if_pos c4]) (by simp only [f_X12_back]; rw [if_neg cs, q_at hr2 hm, if_pos c4])
  have ev : (47 + nI v).toNatClampNeg = 47 + v := ix_a47 (show v < 1000 by omega)
  obtain ⟨x, ex⟩ : ∃ x, g 65 2 / 2 = x := ⟨_, rfl⟩
  have hp0 : wx_b (g 65 (47 + v)) 0 K := B.pur v hv
  have hx0 : wx_b x 0 10 := by
    obtain ⟨i, hi, ei⟩ := m_ex (n := 20) B.fee
    rw [← ex, ei]
    exact m_half_all ⟨i, by omega⟩
  have tf : ∀ k, (k < 20 ∨ 26 < k) → e_X3_leaveSeat g 20 (nI v) (nI r) (nI m) x k = g k := fun k hk => by
    rw [leave_eq g 20 (by omega) (by omega) (by omega), up2_n (by omega), up2_n (by omega), up2_n (by omega)]
  obtain ⟨q1, q2, q3⟩ := keep_rel H tf 1 (nI v) (nI r) (nI m) x
  have e11 : f_X11_back g (nI v) (nI r) (nI m) = (e_X0_keep (e_X3_leaveSeat g 20 (nI v) (nI r) (nI m) x) 1 (nI v) (nI r) (nI m) x, g 65 (47 + v) + x) := by
    simp only [f_X11_back]
    rw [e_guest R B, if_neg c1, e_room R B, if_neg c2, e_min, if_neg c3, q_holds R hr2 hm, q_at hr2 hm, if_neg c4, R.fee, ex, q2 25 (by decide) (by decide), ix (show v < 1000 by omega), leave_eq g 20 (by omega) (by omega) (by omega), up2_ss, R.pur v hv]
  rw [e11]
  obtain ⟨G, eG⟩ : ∃ G, e_X0_keep (e_X3_leaveSeat g 20 (nI v) (nI r) (nI m) x) 1 (nI v) (nI r) (nI m) x = G := ⟨_, rfl⟩
  have G65 : G 65 = g 65 := by rw [← eG]; exact q1 65 (by decide) (by decide)
  have R1 : m_HR g 20 (G 65) := by rw [G65]; exact R
  have B1 : m_NB (G 65) K := by rw [G65]; exact B
  have N65 : ∀ p, e_X12_note G 1 (nI v) (nI r) (nI m) p 65 = g 65 := fun p => by rw [← eG, q3 p 65 (by decide) (by decide)]; exact q1 65 (by decide) (by decide)
  have e12 : f_X12_back G (nI v) (nI r) (nI m) = (up2 (up2 (e_X12_note G 1 (nI v) (nI r) (nI m) (g 65 (47 + v))) 65 (47 + v) (g 65 (47 + v) + x)) 65 (100 + (6 * m + r)) (g 65 (100 + (6 * m + r)) &&& (bt v ^^^ (-1))), g 65 (47 + v) + x) := by
    simp only [f_X12_back]
    have c1' : ¬ r_X12_isGuest G (nI v) = 0 := by rw [← e_guest R1 B1, e_guest R B]; exact c1
    have c2' : ¬ r_X12_isRoom G (nI r) = 0 := by rw [← e_room R1 B1, e_room R B]; exact c2
    rw [if_neg (r_seat1 c1' c2' c3), q_at hr2 hm, G65, if_neg c4, ev, ix_s100 (show r < 1000 by omega) (show m < 1000 by omega), ix_2]
    simp only [N65, ex]
    rw [up2_sn (show 47 + v ≠ 100 + (6 * m + r) by omega), up2_ss, up2_sn (show 100 + (6 * m + r) ≠ 47 + v by omega), N65]
  rw [eG]
  refine ⟨fun k hk => ?_, ?_, ?_⟩
  · show G k = g k
    rw [← eG]; exact q1 k (by omega) (by omega)
  · show (f_X12_back G (nI v) (nI r) (nI m)).2 = g 65 (47 + v) + x
    rw [e12]
  · show m_Rel (K + 10) (f_X12_back G (nI v) (nI r) (nI m)).1
    rw [e12]
    dsimp only
    have hbt := bt_ (B.hld (6 * m + r) (by omega)) (show v < 4 by omega)
    have hq := hbt.2.1 c4
    have w47 : up2 (up2 (e_X12_note G 1 (nI v) (nI r) (nI m) (g 65 (47 + v))) 65 (47 + v) (g 65 (47 + v) + x)) 65 (100 + (6 * m + r)) (g 65 (100 + (6 * m + r)) &&& (bt v ^^^ (-1))) 65 (47 + v) = g 65 (47 + v) + x := by rw [up2_sn (by omega), up2_ss]
    have w100 : up2 (up2 (e_X12_note G 1 (nI v) (nI r) (nI m) (g 65 (47 + v))) 65 (47 + v) (g 65 (47 + v) + x)) 65 (100 + (6 * m + r)) (g 65 (100 + (6 * m + r)) &&& (bt v ^^^ (-1))) 65 (100 + (6 * m + r)) = g 65 (100 + (6 * m + r)) &&& (bt v ^^^ (-1)) := by rw [up2_ss]
    have wo : ∀ j, j ≠ 47 + v → j ≠ 100 + (6 * m + r) → up2 (up2 (e_X12_note G 1 (nI v) (nI r) (nI m) (g 65 (47 + v))) 65 (47 + v) (g 65 (47 + v) + x)) 65 (100 + (6 * m + r)) (g 65 (100 + (6 * m + r)) &&& (bt v ^^^ (-1))) 65 j = g 65 j := fun j h1 h2 => by rw [up2_sn h2, up2_sn h1, N65]
    have hadd := fb_addI (x := g 65 (47 + v)) (y := x) (by have := hp0.1; have := hx0.1; omega) (by have := hp0.2; have := hx0.2; omega)
    have hbp : wx_b (g 65 (47 + v) + x) 0 (K + 10 : Nat) := ⟨by have := hp0.1; have := hx0.1; omega, by have := hp0.2; have := hx0.2; omega⟩
    generalize hW : up2 (up2 (e_X12_note G 1 (nI v) (nI r) (nI m) (g 65 (47 + v))) 65 (47 + v) (g 65 (47 + v) + x)) 65 (100 + (6 * m + r)) (g 65 (100 + (6 * m + r)) &&& (bt v ^^^ (-1))) = W at w47 w100 wo ⊢
    have hl := hou_leave (n' := W 65) H.hou (show K ≤ K + 10 by omega) hv hr hm c4 x w47 (by rw [w47]; exact hbp) (by rw [w100]; exact hq.1) wo
    refine act_rel (T := e_X3_leaveSeat g 20 (nI v) (nI r) (nI m) x) H (by omega) tf 1 (nI v) (nI r) (nI m) (g 65 (47 + v)) x (wb_nI (n := 5) (by omega) (by decide)) (wb_nI (n := 5) (by omega) (by decide)) (wb_nI (n := 7) (by omega) (by decide)) (fun _ => wb_nI (n := 3) (by omega) (by decide)) (fun _ => wb_nI (n := 3) (by omega) (by decide)) (fun k hk => ?_) hl.1 ?_ ?_
    · rw [← hW, up2_n hk, up2_n hk, eG]
    · refine Or.inl ⟨v, r, m, by rw [wo 4 (by omega) (by omega)]; exact hv, by rw [wo 0 (by omega) (by omega)]; exact hr, hm, rfl, rfl, rfl, wb_w hp0 (by decide) (by omega), Or.inr ⟨rfl, ?_, ?_, hl.2⟩⟩
      · rw [w100]; exact hq.2.2.2
      · rw [w47]
        exact (Int32.add_sub_cancel _ _).symm
    · rw [back_seat (show v < 4 by omega) hr2 hm (Or.inr rfl) rfl rfl rfl]
      funext j
      by_cases d1 : j = 100 + (6 * m + r)
      · rw [d1, upd_eq, w100, hq.1]
        exact hbt.2.2.1
      · rw [upd_ne d1]
        by_cases d2 : j = 47 + v
        · rw [d2, upd_eq]; rfl
        · rw [upd_ne d2]; exact wo j d2 d1
theorem t_curtain (H : m_Rel K g) (a b c : Int32) : m_T K g (f_X11_curtain g a b c) (fun q => f_X12_curtain q a b c) := by
  have R := H.hou.R
  have B := H.hou.B
  by_cases c1 : r_X12_isRoom g a = 0
  · exact T_same H (-1000001) (by simp only [f_X11_curtain]; rw [e_room R B, if_pos c1]) (by simp only [f_X12_curtain]; rw [if_pos c1])
  by_cases c2 : r_X12_isRoom g b = 0
  · exact T_same H (-1000001) (by simp only [f_X11_curtain]; rw [e_room R B, if_neg c1, e_room R B, if_pos c2]) (by simp only [f_X12_curtain]; rw [if_neg c1, if_pos c2])
  by_cases c3 : r_X12_isMinute c = 0
  · exact T_same H (-1000001) (by simp only [f_X11_curtain]; rw [e_room R B, if_neg c1, e_room R B, if_neg c2, e_min, if_pos c3]) (by simp only [f_X12_curtain]; rw [if_neg c1, if_neg c2, if_pos c3])
  obtain ⟨i, hi, rfl⟩ := o_room B c1
  obtain ⟨j, hj, rfl⟩ := o_room B c2
  obtain ⟨m, hm, rfl⟩ := o_min c3
  have hr6 := B.r6
  have hi2 : i < 6 := by omega
  have hj2 : j < 6 := by omega
  have ew : r_X3_hasWindow g 20 (nI i) (nI j) = r_X12_has (g 65 (5 + i)) (nI j) := by
    unfold r_X3_hasWindow
    rw [m_has, ix (show i < 1000 by omega), R.win i hi2]
  have ed : r_X3_isDrawn g 20 (nI i) (nI j) (nI m) = r_X12_has (g 65 (52 + (6 * m + i))) (nI j) := by
    unfold r_X3_isDrawn
    rw [m_has, ix_s (show i < 1000 by omega) (show m < 1000 by omega), R.drn _ (by omega)]
  have e5 : (5 + nI i).toNatClampNeg = 5 + i := ix_a5 (show i < 1000 by omega)
  have esi := ix_s52 (r := i) (m := m) (by omega) (by omega)
  have esj := ix_s52 (r := j) (m := m) (by omega) (by omega)
  by_cases c4 : r_X12_has (g 65 (5 + i)) (nI j) = 0
  · exact T_same H (-1000001) (by simp only [f_X11_curtain]; rw [e_room R B, if_neg c1, e_room R B, if_neg c2, e_min, if_neg c3, ew, if_pos c4]) (by simp only [f_X12_curtain]; rw [if_neg c1, if_neg c2, if_neg c3, e5, if_pos c4])
  by_cases c5 : r_X12_has (g 65 (52 + (6 * m + i))) (nI j) = 0
  · have hij : i ≠ j := fun q => c4 (by rw [← q]; exact B.irr i hi2)
    have tf : ∀ k, (k < 20 ∨ 26 < k) → e_X3_drawCurtain g 20 (nI i) (nI j) (nI m) k = g k := fun k hk => by
      rw [draw_eq g 20 hi2 hj2 hm hij, up2_n (by omega), up2_n (by omega), up2_n (by omega)]
    obtain ⟨q1, q2, q3⟩ := keep_rel H tf 2 (nI i) (nI j) (nI m) 0
    obtain ⟨cc, k1, k2⟩ := H.hou.S.cur
    have e11 : f_X11_curtain g (nI i) (nI j) (nI m) = (e_X0_keep (e_X3_drawCurtain g 20 (nI i) (nI j) (nI m)) 2 (nI i) (nI j) (nI m) 0, nI (cc + 1)) := by
      simp only [f_X11_curtain]
      rw [e_room R B, if_neg c1, e_room R B, if_neg c2, e_min, if_neg c3, ew, if_neg c4, ed, if_pos c5, q2 20 (by decide) (by decide), draw_eq g 20 hi2 hj2 hm hij, up2_ss, k1, nI_1]
    rw [e11]
    obtain ⟨G, eG⟩ : ∃ G, e_X0_keep (e_X3_drawCurtain g 20 (nI i) (nI j) (nI m)) 2 (nI i) (nI j) (nI m) 0 = G := ⟨_, rfl⟩
    have G65 : G 65 = g 65 := by rw [← eG]; exact q1 65 (by decide) (by decide)
    have R1 : m_HR g 20 (G 65) := by rw [G65]; exact R
    have B1 : m_NB (G 65) K := by rw [G65]; exact B
    have N65 : ∀ p, e_X12_note G 2 (nI i) (nI j) (nI m) p 65 = g 65 := fun p => by rw [← eG, q3 p 65 (by decide) (by decide)]; exact q1 65 (by decide) (by decide)
    obtain ⟨W, hW⟩ : ∃ W, up2 (up2 (e_X12_note G 2 (nI i) (nI j) (nI m) 0) 65 (52 + (6 * m + i)) (g 65 (52 + (6 * m + i)) ^^^ bt j)) 65 (52 + (6 * m + j)) (g 65 (52 + (6 * m + j)) ^^^ bt i) = W := ⟨_, rfl⟩
    have e12 : f_X12_curtain G (nI i) (nI j) (nI m) = (W, r_X12_drawnOfAll W) := by
      simp only [f_X12_curtain, e_X12_draw]
      have c1' : ¬ r_X12_isRoom G (nI i) = 0 := by rw [← e_room R1 B1, e_room R B]; exact c1
      have c2' : ¬ r_X12_isRoom G (nI j) = 0 := by rw [← e_room R1 B1, e_room R B]; exact c2
      rw [if_neg c1', if_neg c2', if_neg c3, e5, esi, esj, G65, if_neg c4, if_pos c5]
      simp only [N65]
      rw [up2_sn (show 52 + (6 * m + j) ≠ 52 + (6 * m + i) by omega), N65, hW]
    have wi : W 65 (52 + (6 * m + i)) = g 65 (52 + (6 * m + i)) ^^^ bt j := by rw [← hW, up2_sn (by omega), up2_ss]
    have wj : W 65 (52 + (6 * m + j)) = g 65 (52 + (6 * m + j)) ^^^ bt i := by rw [← hW, up2_ss]
    have wo : ∀ k, k ≠ 52 + (6 * m + i) → k ≠ 52 + (6 * m + j) → W 65 k = g 65 k := fun k h1 h2 => by rw [← hW, up2_sn h2, up2_sn h1, N65]
    have bi := bt6_ (B.drn (6 * m + i) (by omega)) hj2
    have bj := bt6_ (B.drn (6 * m + j) (by omega)) hi2
    have c6 : r_X12_has (g 65 (52 + (6 * m + j))) (nI i) = 0 := by rw [← B.sym m i j hm hi2 hj2]; exact c5
    have hh := hou_draw (n' := W 65) H.hou (show K ≤ K + 10 by omega) hi2 hj2 hm hij c5 wi wj wo
    rw [eG]
    refine ⟨fun k hk => ?_, ?_, ?_⟩
    · show G k = g k
      rw [← eG]; exact q1 k (by omega) (by omega)
    · show (f_X12_curtain G (nI i) (nI j) (nI m)).2 = nI (cc + 1)
      rw [e12]
      have h3 := drw_two hi2 hj2 hm hij wo
      rw [wi, wj, (bi.1 c5).2.1, (bj.1 c6).2.1] at h3
      exact m_drwOf (by omega)
    · show m_Rel (K + 10) (f_X12_curtain G (nI i) (nI j) (nI m)).1
      rw [e12]
      dsimp only
      refine act_rel (T := e_X3_drawCurtain g 20 (nI i) (nI j) (nI m)) H (by omega) tf 2 (nI i) (nI j) (nI m) 0 0 (wb_nI (n := 5) (by omega) (by decide)) (wb_nI (n := 5) (by omega) (by decide)) (wb_nI (n := 7) (by omega) (by decide)) (fun q => by rcases q with q | q <;> exact absurd q (by decide)) (fun q => absurd q (by decide)) (fun k hk => ?_) hh ?_ ?_
      · show W k = _
        rw [← hW, up2_n hk, up2_n hk, eG]
      · refine Or.inr (Or.inl ⟨i, j, m, ?_, ?_, hij, hm, rfl, rfl, rfl, rfl, ?_⟩)
        · show i < (W 65 0).toNatClampNeg
          rw [wo 0 (by omega) (by omega)]; exact hi
        · show j < (W 65 0).toNatClampNeg
          rw [wo 0 (by omega) (by omega)]; exact hj
        · show ¬ r_X12_has (W 65 (52 + (6 * m + i))) (nI j) = 0
          rw [wi]; exact (bi.1 c5).2.2
      · show m_back _ (W 65) = _
        rw [back_cur hi2 hj2 hm hij rfl rfl rfl rfl]
        funext k
        by_cases d1 : k = 52 + (6 * m + j)
        · rw [d1, upd_eq, wj]
          exact bj.2.2.1
        · rw [upd_ne d1]
          by_cases d2 : k = 52 + (6 * m + i)
          · rw [d2, upd_eq, wi]
            exact bi.2.2.1
          · rw [upd_ne d2]; exact wo k d2 d1
  · exact T_same H (-1000002) (by simp only [f_X11_curtain]; rw [e_room R B, if_neg c1, e_room R B, if_neg c2, e_min, if_neg c3, ew, if_neg c4, ed, if_neg c5]) (by simp only [f_X12_curtain]; rw [if_neg c1, if_neg c2, if_neg c3, e5, if_neg c4, esi, if_neg c5])
theorem t_write (H : m_Rel K g) (a : Int32) : m_T K g (f_X11_write g a) (fun q => f_X12_write q a) := by
  have R := H.hou.R
  have B := H.hou.B
  by_cases c0 : g 65 (0 : Int32).toNatClampNeg = 0
  · exact T_same H (-1000002) (by simp only [f_X11_write]; rw [if_pos ((e_stands R B).mpr c0)]) (by simp only [f_X12_write]; rw [if_pos c0])
  have c0' : ¬ r_X3_stands g 20 = 0 := fun q => c0 ((e_stands R B).mp q)
  by_cases c1 : r_X12_isMinute a = 0
  · exact T_same H (-1000001) (by simp only [f_X11_write]; rw [if_neg c0', e_min, if_pos c1]) (by simp only [f_X12_write]; rw [if_neg c0, if_pos c1])
  obtain ⟨m, hm, rfl⟩ := o_min c1
  by_cases c2 : r_X12_has (g 65 51) (nI m) = 0
  · have hbt := bt8_ B.wr hm
    have tf : ∀ k, (k < 20 ∨ 26 < k) → up2 g 20 8 (g 65 51 ||| bt m) k = g k := fun k hk => up2_n (by omega)
    obtain ⟨q1, q2, q3⟩ := keep_rel H tf 3 0 0 (nI m) 0
    have e11 : f_X11_write g (nI m) = (e_X0_keep (up2 g 20 8 (g 65 51 ||| bt m)) 3 0 0 (nI m) 0, r_X12_bits g (g 65 51 ||| bt m)) := by
      simp only [f_X11_write]
      rw [if_neg c0', e_min, if_neg c1, R.wr, m_has, if_pos c2, q2 20 (by decide) (by decide), up2_ss, m_popb g hbt.2.1]
    rw [e11]
    obtain ⟨G, eG⟩ : ∃ G, e_X0_keep (up2 g 20 8 (g 65 51 ||| bt m)) 3 0 0 (nI m) 0 = G := ⟨_, rfl⟩
    have G65 : G 65 = g 65 := by rw [← eG]; exact q1 65 (by decide) (by decide)
    have N65 : ∀ p, e_X12_note G 3 0 0 (nI m) p 65 = g 65 := fun p => by rw [← eG, q3 p 65 (by decide) (by decide)]; exact q1 65 (by decide) (by decide)
    obtain ⟨W, hW⟩ : ∃ W, up2 (e_X12_note G 3 0 0 (nI m) 0) 65 51 (g 65 51 ||| bt m) = W := ⟨_, rfl⟩
    have e12 : f_X12_write G (nI m) = (W, r_X12_bits W (g 65 51 ||| bt m)) := by
      simp only [f_X12_write]
      rw [G65, if_neg c0, if_neg c1, ix_51, if_pos c2, N65, hW]
      have : W 65 51 = g 65 51 ||| bt m := by rw [← hW, up2_ss]
      rw [this]
    have w51 : W 65 51 = g 65 51 ||| bt m := by rw [← hW, up2_ss]
    have wo : ∀ k, k ≠ 51 → W 65 k = g 65 k := fun k h1 => by rw [← hW, up2_sn h1, N65]
    rw [eG]
    refine ⟨fun k hk => ?_, ?_, ?_⟩
    · show G k = g k
      rw [← eG]; exact q1 k (by omega) (by omega)
    · show (f_X12_write G (nI m)).2 = r_X12_bits g (g 65 51 ||| bt m)
      rw [e12, m_bits, m_bits]
    · show m_Rel (K + 10) (f_X12_write G (nI m)).1
      rw [e12]
      dsimp only
      refine act_rel (T := up2 g 20 8 (g 65 51 ||| bt m)) H (by omega) tf 3 0 0 (nI m) 0 0 ⟨by decide, by decide⟩ ⟨by decide, by decide⟩ (wb_nI (n := 7) (by omega) (by decide)) (fun q => by rcases q with q | q <;> exact absurd q (by decide)) (fun q => absurd q (by decide)) (fun k hk => ?_) ?_ ?_ ?_
      · show W k = _
        rw [← hW, up2_n hk, eG]
      · exact hou_wri H.hou (by omega) _ hbt.2.1 w51 wo
      · exact Or.inr (Or.inr ⟨m, hm, rfl, rfl, rfl, rfl⟩)
      · show m_back _ (W 65) = _
        rw [back_wri (m := m) rfl rfl]
        funext k
        by_cases d1 : k = 51
        · rw [d1, upd_eq, w51]
          exact hbt.1 c2
        · rw [upd_ne d1]; exact wo k d1
  · exact T_same H (-1000002) (by simp only [f_X11_write]; rw [if_neg c0', e_min, if_neg c1, R.wr, m_has, if_neg c2]) (by simp only [f_X12_write]; rw [if_neg c0, if_neg c1, ix_51, if_neg c2])
end M13
