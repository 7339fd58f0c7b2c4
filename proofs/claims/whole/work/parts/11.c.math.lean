/-! THE MATH 25: house() -/
theorem rel_house {g W : wx_M} {K : Nat} (H : m_Rel K g) (eo : ∀ k, k ≠ 18 → ¬ (20 ≤ k ∧ k ≤ 33) → k ≠ 49 → ¬ (57 ≤ k ∧ k ≠ 58 ∧ k ≠ 59 ∧ k ≠ 60 ∧ k ≠ 61 ∧ k ≠ 66 ∧ k ≠ 67 ∧ k ≠ 68 ∧ k ≠ 69) → W k = g k) (e57 : ∀ j, j = 3 ∨ j = 25 → W 57 j = g 57 j) (a1 : W 18 1 = 0) (a2 : W 57 4 = 0) (a3 : W 18 2 = W 57 10) (a4 : wx_TB W) (a5 : wx_PQ W) (a6 : m_Hou W 20 (W 65) (K + 10)) (a7 : m_Draft W) (a8 : m_Act (K + 10) W) : m_Rel (K + 10) W := by
  have ek : ∀ k, (k < 18 ∨ k = 19 ∨ (33 < k ∧ k < 49) ∨ (49 < k ∧ k < 57) ∨ k = 58 ∨ k = 59 ∨ k = 60 ∨ k = 61 ∨ k = 66 ∨ k = 67 ∨ k = 68 ∨ k = 69) → W k = g k := fun k hk => eo k (by omega) (by omega) (by omega) (by omega)
  refine ⟨?_, ?_, ?_, a3, a4, a5, a6, a7, ?_, a8, ?_⟩
  · exact H.rows.congr (fun k hk => ek k (by omega))
  · rw [ek 0 (by omega), e57 3 (by omega)]; exact H.fin
  · refine ⟨by rw [a1, a2], ?_⟩
    rw [a2]
    intro i hi
    rw [ix_0] at hi
    omega
  · exact H.img.congr (by omega) (fun k hk => ek k (by omega))
  · exact H.trc.congr (by rw [ek 55 (by omega)]) (e57 25 (by omega)) (ek 56 (by omega)) (ek 69 (by omega))
theorem t_house {g : wx_M} {K : Nat} (H : m_Rel K g) (hK : 99 ≤ K) : m_T K g (f_X11_house g) (fun q => f_X12_house q) := by
  have hro : wx_b (g 27 0) 0 6 := H.dra.2.2.2.1
  have hTB : wx_TB (f_X6_readInto g 27).1 := tT_X6_readInto (Or.inr (Or.inl rfl)) H.tb hro
  have hRO : wx_b ((f_X6_readInto g 27).1 27 0) 0 6 := ro_X6_readInto (Or.inr (Or.inl rfl)) H.tb hro
  obtain ⟨X1, -, b, -, -, -, e11, -, xf, -, -⟩ := read_all (C := g) H (fun _ _ => rfl)
  rw [e11] at hTB hRO
  have n1 : ¬ (1 : Int32) = 0 := by decide
  have d6 := H.dra.1
  have d7 := H.dra.2.1
  have d8 := H.dra.2.2.1
  have d9 := H.dra.2.2.2.2
  have x6 : X1 27 6 = 0 := by rw [xf.2.1 6 (by decide), d6]
  have x7 : X1 27 7 = 0 := by rw [xf.2.1 7 (by decide), d7]
  have x8 : X1 27 8 = 0 := by rw [xf.2.1 8 (by decide), d8]
  have x9 : ∀ k, k < 48 → X1 29 k = 0 ∧ X1 30 k = 0 := fun k hk => by rw [xf.2.2.1, xf.2.2.2]; exact d9 k hk
  have tb0 : wx_TB (up2 X1 18 1 0) := by
    unfold wx_TB at hTB ⊢
    rw [up2_ss, up2_sn (by decide), up2_sn (by decide)]
    exact ⟨⟨by decide, by decide⟩, hTB.2⟩
  by_cases hb : b = 0
  · subst hb
    have eC : f_X11_house g = (up2 X1 18 1 0, (-1000100) - X1 18 3) := by
      simp only [f_X11_house]
      rw [e11]
      simp only [if_true]
      rw [up2_sn (by decide)]
    rw [eC]
    have Cf : ∀ k, k ≠ 18 → (k < 27 ∨ 33 < k) → up2 X1 18 1 0 k = g k := fun k h1 h2 => by rw [up2_n h1, xf.1 k h1 h2]
    have C18 : up2 X1 18 1 0 18 = upd (X1 18) 1 0 := up2_s _ _ _ _
    have CX : ∀ k, k ≠ 18 → up2 X1 18 1 0 k = X1 k := fun k h1 => up2_n h1
    generalize up2 X1 18 1 0 = C at Cf C18 CX tb0 ⊢
    obtain ⟨X2, Y1, b2, w, m, v, f11, f12, xf2, yf, hz⟩ := read_all (C := C) H (fun k hk => Cf k (by omega) (by omega))
    rw [e11] at f11
    cases f11
    rcases hz with ⟨h1, -⟩ | ⟨-, F1, F2⟩
    · exact absurd h1 (by decide)
    have hpq : wx_PQ C := pr_congr (fun j hj => by rw [Cf 57 (by decide) (by decide)]) (Cf 62 (by decide) (by decide)) H.pr
    have hPR := pr2_X12_isRead hpq
    rw [f12] at hPR
    have e12 : f_X12_house C = (up2 Y1 57 4 0, (-1000100) - Y1 57 7) := by
      simp only [f_X12_house]
      rw [f12]
      simp only [if_true]
      rw [up2_sn (by decide)]
    refine ⟨fun k hk => Cf k (by omega) (by omega), ?_, ?_⟩
    · show (f_X12_house C).2 = _
      rw [e12, F2]
    · show m_Rel (K + 10) (f_X12_house C).1
      rw [e12]
      dsimp only
      have Wf : ∀ k, k ≠ 57 → k ≠ 62 → k ≠ 63 → k ≠ 64 → up2 Y1 57 4 0 k = C k := fun k h1 h2 h3 h4 => by rw [up2_n h1, yf.1 k h1 h2 h3 h4]
      have W57 : ∀ j, (j < 6 ∨ 18 < j) → j ≠ 4 → up2 Y1 57 4 0 57 j = g 57 j := fun j h1 h2 => by rw [up2_sn h2, yf.2 j h1, Cf 57 (by decide) (by decide)]
      have W4 : up2 Y1 57 4 0 57 4 = 0 := up2_ss _ _ _ _
      have W10 : up2 Y1 57 4 0 57 10 = Y1 57 10 := up2_sn (by decide)
      have WQ : wx_PQ (up2 Y1 57 4 0) := by
        have h2 := hPR.2
        unfold wx_PQ
        unfold wx_RS at h2 ⊢
        rw [up2_ss, up2_sn (by decide), up2_sn (by decide), up2_sn (by decide), up2_sn (by decide), up2_n (by decide)]
        exact ⟨⟨by decide, by decide⟩, h2⟩
      generalize up2 Y1 57 4 0 = W at Wf W57 W4 W10 WQ ⊢
      have W18 : W 18 = upd (X1 18) 1 0 := by rw [Wf 18 (by decide) (by decide) (by decide) (by decide), C18]
      have ek : ∀ k, k ≠ 18 → (k < 27 ∨ 33 < k) → k ≠ 57 → k ≠ 62 → k ≠ 63 → k ≠ 64 → W k = g k := fun k h1 h2 h3 h4 h5 h6 => by rw [Wf k h3 h4 h5 h6, Cf k h1 h2]
      refine rel_house H (fun k h1 h2 h3 h4 => ?_) (fun j hj => W57 j (by omega) (by omega)) ?_ W4 ?_ ?_ WQ ?_ ?_ ?_
      · exact ek k h1 (by omega) (by omega) (by omega) (by omega) (by omega)
      · rw [W18, upd_eq]
      · rw [W18, upd_ne (by decide), W10]; exact F1
      · exact tb_congr (by rw [Wf 18 (by decide) (by decide) (by decide) (by decide)]; exact ⟨rfl, rfl, rfl⟩) tb0
      · rw [ek 65 (by decide) (by decide) (by decide) (by decide) (by decide) (by decide)]
        exact (H.hou.congr (fun k h1 h2 => ek k (by omega) (by omega) (by omega) (by omega) (by omega) (by omega))).mono (by omega)
      · have w27 : ∀ k, 27 ≤ k → k ≤ 33 → W k = X1 k := fun k h1 h2 => by rw [Wf k (by omega) (by omega) (by omega) (by omega), CX k (by omega)]
        refine ⟨?_, ?_, ?_, ?_, fun k hk => ?_⟩
        · rw [w27 27 (by decide) (by decide)]; exact x6
        · rw [w27 27 (by decide) (by decide)]; exact x7
        · rw [w27 27 (by decide) (by decide)]; exact x8
        · rw [w27 27 (by decide) (by decide)]; exact hRO
        · rw [w27 29 (by decide) (by decide), w27 30 (by decide) (by decide)]; exact x9 k hk
      · exact H.act.congr (by omega) (fun k h1 h2 => ek k (by omega) (by omega) (by omega) (by omega) (by omega) (by omega)) (ek 68 (by decide) (by decide) (by decide) (by decide) (by decide) (by decide)) (W57 23 (by omega) (by omega)) (ek 65 (by decide) (by decide) (by decide) (by decide) (by decide) (by decide))
  · obtain ⟨D0, eD0⟩ : ∃ D0, e_X3_becomes (up2 X1 18 1 0) 20 27 = D0 := ⟨_, rfl⟩
    obtain ⟨C, eC0⟩ : ∃ C, up2 D0 49 6 0 = C := ⟨_, rfl⟩
    obtain ⟨a0, -, -, -, -, -, -, a7⟩ := bec_at (up2 X1 18 1 0) (h := 20) (ho := 27) (Or.inl (by decide))
    rw [eD0] at a0 a7
    have Cf : ∀ k, k ≠ 18 → ¬ (20 ≤ k ∧ k ≤ 33) → k ≠ 49 → C k = g k := fun k h1 h2 h3 => by rw [← eC0, up2_n h3, a7 k (by omega), up2_n h1, xf.1 k h1 (by omega)]
    have CX : ∀ k, 27 ≤ k → k ≤ 33 → C k = X1 k := fun k h1 h2 => by rw [← eC0, up2_n (by omega), a7 k (by omega), up2_n (by omega)]
    have C18 : C 18 = upd (X1 18) 1 0 := by rw [← eC0, up2_n (by decide), a7 18 (by decide), up2_s]
    have C49 : C 49 = upd (g 49) 6 0 := by rw [← eC0, up2_s, a7 49 (by decide), up2_n (by decide), xf.1 49 (by decide) (by decide)]
    have C20 : ∀ k, 20 ≤ k → k ≤ 26 → C k = D0 k := fun k h1 h2 => by rw [← eC0, up2_n (by omega)]
    have C200 : C 20 0 = X1 27 0 := by rw [C20 20 (by decide) (by decide), a0 0 (by decide), up2_n (by decide)]
    have eC : f_X11_house g = (C, X1 27 0) := by
      simp only [f_X11_house, e_X0_forgetAll]
      rw [e11]
      simp only [if_neg hb]
      rw [eD0, eC0, C200]
    rw [eC]
    obtain ⟨X2, Y1, b2, w, m, v, f11, f12, xf2, yf, hz⟩ := read_all (C := C) H (fun k hk => Cf k (by omega) (by omega) (by omega))
    rw [e11] at f11
    cases f11
    rcases hz with ⟨h1, D, F1⟩ | ⟨h1, -⟩
    · subst h1
      have hpq : wx_PQ C := pr_congr (fun j hj => by rw [Cf 57 (by decide) (by decide) (by decide)]) (Cf 62 (by decide) (by decide) (by decide)) H.pr
      have hPR := pr2_X12_isRead hpq
      rw [f12] at hPR
      have hh := hou_new (K := K) hK D x6 x7 x8 x9
      obtain ⟨⟨l1, l2, l3, l4, l5, l6⟩, ⟨w1, w2, w3⟩, ⟨p1, p2, p3⟩, ⟨v1, v2, v3⟩, ⟨dw, dw2⟩, dm, dv⟩ := D
      have r6 : (Y1 57 11).toNatClampNeg ≤ 6 := wb_cl (n := 6) l4 (by decide)
      have e12 := house12 (m := m) (v := v) (w := w) f12 p3 v3 w3 w2 p2 v2 (fun t ht => by
        obtain ⟨i, j, q1, q2, q3, q4, q5⟩ := dw2 t ht
        exact ⟨i, j, by omega, by omega, q3, q4, q5⟩)
      refine ⟨fun k hk => Cf k (by omega) (by omega) (by omega), ?_, ?_⟩
      · show (f_X12_house C).2 = _
        rw [e12, l1]
      · show m_Rel (K + 10) (f_X12_house C).1
        rw [e12]
        dsimp only
        have Wf : ∀ k, k ≠ 57 → k ≠ 62 → k ≠ 63 → k ≠ 64 → k ≠ 65 → up2 (upR (up2 Y1 57 4 0) 65 (hz4 Y1 w (8 * m) v)) 57 23 0 k = C k := fun k h1 h2 h3 h4 h5 => by rw [up2_n h1, upR_n h5, up2_n h1, yf.1 k h1 h2 h3 h4]
        have W57 : ∀ j, (j < 6 ∨ 18 < j) → j ≠ 4 → j ≠ 23 → up2 (upR (up2 Y1 57 4 0) 65 (hz4 Y1 w (8 * m) v)) 57 23 0 57 j = g 57 j := fun j h1 h2 h3 => by rw [up2_sn h3, upR_n (by decide), up2_sn h2, yf.2 j h1, Cf 57 (by decide) (by decide) (by decide)]
        have W4 : up2 (upR (up2 Y1 57 4 0) 65 (hz4 Y1 w (8 * m) v)) 57 23 0 57 4 = 0 := by rw [up2_sn (by decide), upR_n (by decide), up2_ss]
        have W23 : up2 (upR (up2 Y1 57 4 0) 65 (hz4 Y1 w (8 * m) v)) 57 23 0 57 23 = 0 := up2_ss _ _ _ _
        have W10 : up2 (upR (up2 Y1 57 4 0) 65 (hz4 Y1 w (8 * m) v)) 57 23 0 57 10 = Y1 57 10 := by rw [up2_sn (by decide), upR_n (by decide), up2_sn (by decide)]
        have W65 : up2 (upR (up2 Y1 57 4 0) 65 (hz4 Y1 w (8 * m) v)) 57 23 0 65 = hz4 Y1 w (8 * m) v := by rw [up2_n (by decide), upR_s]
        have WQ : wx_PQ (up2 (upR (up2 Y1 57 4 0) 65 (hz4 Y1 w (8 * m) v)) 57 23 0) := by
          have h2 := hPR.2
          unfold wx_PQ
          unfold wx_RS at h2 ⊢
          rw [W4, up2_sn (by decide), up2_sn (by decide), up2_sn (by decide), up2_sn (by decide), up2_n (by decide), upR_n (by decide), upR_n (by decide), up2_sn (by decide), up2_sn (by decide), up2_sn (by decide), up2_sn (by decide), up2_n (by decide)]
          exact ⟨⟨by decide, by decide⟩, h2⟩
        generalize up2 (upR (up2 Y1 57 4 0) 65 (hz4 Y1 w (8 * m) v)) 57 23 0 = W at Wf W57 W4 W23 W10 W65 WQ ⊢
        have W18 : W 18 = upd (X1 18) 1 0 := by rw [Wf 18 (by decide) (by decide) (by decide) (by decide) (by decide), C18]
        refine rel_house H (fun k h1 h2 h3 h4 => ?_) (fun j hj => W57 j (by omega) (by omega) (by omega)) ?_ W4 ?_ ?_ WQ ?_ ?_ ?_
        · rw [Wf k (by omega) (by omega) (by omega) (by omega) (by omega), Cf k h1 h2 h3]
        · rw [W18, upd_eq]
        · rw [W18, upd_ne (by decide), W10]; exact F1
        · refine tb_congr ?_ tb0
          rw [W18, up2_s]
          exact ⟨rfl, rfl, rfl⟩
        · rw [W65]
          have h3 : m_Hou (up2 X1 18 1 0) 27 (hz4 Y1 w (8 * m) v) K := hh.congr (fun k h1 h2 => up2_n (by omega))
          have h4 := bec_hou (h := 20) (ho := 27) (Or.inl (by decide)) h3
          rw [eD0] at h4
          exact (h4.congr (fun k h1 h2 => by rw [Wf k (by omega) (by omega) (by omega) (by omega) (by omega), C20 k (by omega) (by omega)])).mono (by omega)
        · have w27 : ∀ k, 27 ≤ k → k ≤ 33 → W k = X1 k := fun k h1 h2 => by rw [Wf k (by omega) (by omega) (by omega) (by omega) (by omega), CX k h1 h2]
          refine ⟨?_, ?_, ?_, ?_, fun k hk => ?_⟩
          · rw [w27 27 (by decide) (by decide)]; exact x6
          · rw [w27 27 (by decide) (by decide)]; exact x7
          · rw [w27 27 (by decide) (by decide)]; exact x8
          · rw [w27 27 (by decide) (by decide)]; exact hRO
          · rw [w27 29 (by decide) (by decide), w27 30 (by decide) (by decide)]; exact x9 k hk
        · obtain ⟨⟨S, nx, n, L, U⟩, AI, AM⟩ := H.act
          have wk : ∀ k, 50 ≤ k → k ≤ 54 → W k = g k := fun k h1 h2 => by rw [Wf k (by omega) (by omega) (by omega) (by omega) (by omega), Cf k (by omega) (by omega) (by omega)]
          have w49 : W 49 = upd (g 49) 6 0 := by rw [Wf 49 (by decide) (by decide) (by decide) (by decide) (by decide), C49]
          refine ⟨⟨S, nx, 0, ⟨?_, L.lnx, ?_, ?_, by omega, ?_, ?_, ?_⟩, trivial⟩, ?_, ?_⟩
          · rw [w49, upd_ne (by decide)]; exact L.enx
          · rw [w49, upd_eq]; exact nI_0.symm
          · rw [W23]; exact nI_0.symm
          · intro j hj; omega
          · intro j hj; omega
          · intro j hj; omega
          · exact ai_congr (fun k h1 h2 => wk k h1 (by omega)) AI
          · exact am_congr (by rw [Wf 68 (by decide) (by decide) (by decide) (by decide) (by decide), Cf 68 (by decide) (by decide) (by decide)]) AM
    · exact absurd h1 hb
