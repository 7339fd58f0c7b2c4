/-! THE MATH 17: asks -/
def tr_P (g Z C D : wx_M) : Prop := (C 55 1 = D 57 25 ∧ wx_b (D 57 25) 0 16 ∧ ∀ i, i < (D 57 25).toNatClampNeg → C 56 i = D 69 i) ∧ (∀ k, k ≠ 55 → k ≠ 56 → C k = g k) ∧ (∀ k, k ≠ 57 → k ≠ 69 → D k = Z k) ∧ (∀ j, j ≠ 25 → D 57 j = Z 57 j)
theorem tr_step {g Z C D : wx_M} (h : tr_P g Z C D) (a : Int32) : tr_P g Z (e_X8_begin C a) (e_X12_leave D a) := by
  obtain ⟨⟨h1, h2, h3⟩, h4, h5, h6⟩ := h
  obtain ⟨n, hn, en⟩ := m_ex (n := 16) h2
  rw [en] at h1 h3
  rw [ix (show n < 1000 by omega)] at h3
  simp only [e_X8_begin, e_X12_leave]
  rw [h1, en]
  by_cases c : n = 16
  · subst c
    rw [if_pos (by decide), if_pos (by decide)]
    exact ⟨⟨by rw [h1, en], h2, by rw [en]; exact h3⟩, h4, h5, h6⟩
  · have c2 : ¬ (16 : Int32) ≤ nI n := fun q => by
      have := (nI_leI (a := 16) (by omega) (by omega)).mp q
      omega
    rw [if_neg c2, if_neg c2, up2_n (show (55 : Nat) ≠ 56 by decide), up2_n (show (57 : Nat) ≠ 69 by decide), h1, en, nI_1, ix (show n < 1000 by omega)]
    refine ⟨⟨?_, ?_, ?_⟩, ?_, ?_, ?_⟩
    · rw [up2_ss, up2_ss]
    · rw [up2_ss]; exact wb_nI (n := 16) (by omega) (by decide)
    · rw [up2_ss, ix (show n + 1 < 1000 by omega)]
      intro i hi
      rw [up2_n (show (56 : Nat) ≠ 55 by decide), up2_n (show (69 : Nat) ≠ 57 by decide)]
      by_cases ci : i = n
      · rw [ci, up2_ss, up2_ss]
      · rw [up2_sn ci, up2_sn ci]
        exact h3 i (by omega)
    · intro k k1 k2
      rw [up2_n k1, up2_n k2]; exact h4 k k1 k2
    · intro k k1 k2
      rw [up2_n k1, up2_n k2]; exact h5 k k1 k2
    · intro j hj
      rw [up2_sn hj, up2_n (by decide)]; exact h6 j hj
section M17
variable {g Z C D : wx_M} {K v : Nat}
theorem tr_pur (H : m_Rel K g) (p : tr_P g Z C D) (hZ : Z 65 = g 65) (hv : v < (g 65 4).toNatClampNeg) : C 25 v = D 65 (47 + v) := by
  rw [p.2.1 25 (by decide) (by decide), p.2.2.1 65 (by decide) (by decide), hZ]
  exact H.hou.R.pur v hv
theorem tr_seats (H : m_Rel K g) (p : tr_P g Z C D) (hZ : Z 65 = g 65) (x : Int32) : r_X3_seatsOf C 20 x = r_X12_heldBy D x := by
  refine q_seatsOf (g := C) (g' := D) (h := 20) ?_ x
  rw [p.2.2.1 65 (by decide) (by decide), hZ]
  exact H.hou.R.congr (fun k h1 h2 => p.2.1 k (by omega) (by omega))
/-- what the reference has of a visitor's sort -/
theorem tr_fin (H : m_Rel K g) {W : wx_M} {x : Int32} {F : wx_M → wx_M × Int32} (p : tr_P g (up2 C 57 25 0) C W) (e : F C = (W, x)) : m_T K g (C, x) F := by
  have hC : ∀ k, k ≠ 55 → k ≠ 56 → C k = g k := p.2.1
  have hW : ∀ k, k ≠ 57 → k ≠ 69 → W k = C k := fun k h1 h2 => by rw [p.2.2.1 k h1 h2, up2_n h1]
  have hW57 : ∀ j, j ≠ 25 → W 57 j = g 57 j := fun j hj => by rw [p.2.2.2 j hj, up2_sn hj, hC 57 (by decide) (by decide)]
  have ek : ∀ k, k ≠ 55 → k ≠ 56 → k ≠ 57 → k ≠ 69 → W k = g k := fun k h1 h2 h3 h4 => by rw [hW k h3 h4, hC k h1 h2]
  refine ⟨fun k hk => hC k (by omega) (by omega), by rw [e], ?_⟩
  rw [e]
  show m_Rel (K + 10) W
  refine ⟨?_, ?_, ?_, ?_, ?_, ?_, ?_, ?_, ?_, ?_, ?_⟩
  · exact H.rows.congr (fun k hk => ek k (by omega) (by omega) (by omega) (by omega))
  · rw [ek 0 (by decide) (by decide) (by decide) (by decide), hW57 3 (by decide)]; exact H.fin
  · exact H.tape.congr (by rw [ek 18 (by decide) (by decide) (by decide) (by decide)]) (hW57 4 (by decide)) (ek 19 (by decide) (by decide) (by decide) (by decide)) (ek 61 (by decide) (by decide) (by decide) (by decide))
  · rw [ek 18 (by decide) (by decide) (by decide) (by decide), hW57 10 (by decide)]; exact H.flt
  · exact tb_congr (by rw [ek 18 (by decide) (by decide) (by decide) (by decide)]; exact ⟨rfl, rfl, rfl⟩) H.tb
  · exact pr_congr (fun j hj => hW57 j (by omega)) (ek 62 (by decide) (by decide) (by decide) (by decide)) H.pr
  · rw [ek 65 (by decide) (by decide) (by decide) (by decide)]
    exact (H.hou.congr (fun k h1 h2 => ek k (by omega) (by omega) (by omega) (by omega))).mono (by omega)
  · exact H.dra.congr (fun k h1 h2 => ek k (by omega) (by omega) (by omega) (by omega))
  · exact H.img.congr (by omega) (fun k hk => ek k (by omega) (by omega) (by omega) (by omega))
  · exact H.act.congr (by omega) (fun k h1 h2 => ek k (by omega) (by omega) (by omega) (by omega)) (ek 68 (by decide) (by decide) (by decide) (by decide)) (hW57 23 (by decide)) (ek 65 (by decide) (by decide) (by decide) (by decide))
  · unfold m_Trc
    rw [hW 55 (by decide) (by decide), hW 56 (by decide) (by decide)]
    exact p.1
theorem tr_0 (hC : ∀ k, k ≠ 55 → k ≠ 56 → C k = g k) : tr_P g (up2 C 57 25 0) (up2 g 55 1 0) (up2 C 57 25 0) := by
  refine ⟨⟨?_, ?_, ?_⟩, ?_, fun _ _ _ => rfl, fun _ _ => rfl⟩
  · rw [up2_ss, up2_ss]
  · rw [up2_ss]; exact ⟨by decide, by decide⟩
  · rw [up2_ss]
    intro i hi
    exact absurd hi (by rw [ix_0]; omega)
  · intro k h1 h2
    exact up2_n h1
theorem begin_far (C : wx_M) (a : Int32) (k : Nat) (h1 : k ≠ 55) (h2 : k ≠ 56) : e_X8_begin C a k = C k := by
  simp only [e_X8_begin]
  split
  · rfl
  · rw [up2_n h1, up2_n h2]
theorem t_ask (H : m_Rel K g) (a b : Int32) : m_T K g (f_X11_ask g a b) (fun q => f_X12_ask q a b) := by
  have R := H.hou.R
  have B := H.hou.B
  by_cases c1 : r_X12_isGuest g a = 0
  · exact T_same H (-1000001) (by simp only [f_X11_ask]; rw [e_guest R B, if_pos c1]) (by simp only [f_X12_ask]; rw [if_pos c1])
  by_cases c2 : r_X12_in b 0 1 = 0
  · have d2 := in_iff.mp c2
    refine T_same H (-1000001) ?_ (by simp only [f_X12_ask]; rw [if_neg c1, if_pos c2])
    simp only [f_X11_ask]
    rw [e_guest R B, if_neg c1]
    by_cases d3 : b < 0
    · rw [if_pos d3]
    · rw [if_neg d3]
      have d4 := Int32.le_iff_toInt_le.mp (Int32.not_lt.mp d3)
      rw [if_neg (fun h => by
        have := Int32.le_iff_toInt_le.mp h
        omega)]
  obtain ⟨v, hv, rfl⟩ := o_guest B c1
  have hv4 := B.v4
  have ev : (nI v).toNatClampNeg = v := ix (show v < 1000 by omega)
  obtain ⟨kd, ek⟩ : ∃ kd, kd = g 65 (43 + v) := ⟨_, rfl⟩
  have es : g 26 v = kd := by rw [ek]; exact R.srt v hv
  have hkd : kd = 1 ∨ kd = 2 ∨ kd = 3 ∨ kd = 4 ∨ kd = 5 := by
    obtain ⟨s1, s2⟩ := B.srt v hv
    rw [← ek] at s1 s2
    obtain ⟨x, hx, ex⟩ := m_ex (n := 5) (a := kd) ⟨by omega, s2⟩
    rw [ex, nI_toInt (by omega)] at s1
    rcases (show x = 1 ∨ x = 2 ∨ x = 3 ∨ x = 4 ∨ x = 5 by omega) with rfl | rfl | rfl | rfl | rfl <;> rw [ex] <;> decide
  have d1 : ¬ b < 0 := fun h => c2 (in_iff.mpr (Or.inl (Int32.lt_iff_toInt_lt.mp h)))
  have d2 : b ≤ 1 := Int32.not_lt.mp (fun h => c2 (in_iff.mpr (Or.inr (Int32.lt_iff_toInt_lt.mp h))))
  -- what the reference starts with
  have fr : ∀ C : wx_M, (∀ k, k ≠ 55 → k ≠ 56 → C k = g k) → ¬ r_X12_isGuest C (nI v) = 0 := fun C hC => by
    rw [← e_guest (g := g) (g' := C) (h := 20) (K := K) (by rw [hC 65 (by decide) (by decide)]; exact R) (by rw [hC 65 (by decide) (by decide)]; exact B), e_guest R B]; exact c1
  have lf : ∀ (D : wx_M) (x : Int32), e_X12_leave D x 65 = D 65 := fun D x => by
    simp only [e_X12_leave]
    split
    · rfl
    · rw [up2_n (by decide), up2_n (by decide)]
  have e43 : (43 + nI v).toNatClampNeg = 43 + v := ix_a43 (show v < 1000 by omega)
  have e47 : (47 + nI v).toNatClampNeg = 47 + v := ix_a47 (show v < 1000 by omega)
  have g26 : (up2 g 55 1 0) 26 v = kd := by rw [up2_n (by decide)]; exact es
  by_cases cb : b = 0
  · rcases hkd with e | e | e | e | e
    · -- tourist, size
      have s1 := fun C hC => tr_step (tr_step (tr_0 (g := g) (C := C) hC) 11) 10
      have s2 := fun C hC => tr_step (tr_step (s1 C hC) 21) 20
      have e11 : f_X11_ask g (nI v) b = (e_X8_begin (e_X8_begin (e_X8_begin (e_X8_begin (up2 g 55 1 0) 11) 10) 21) 20, e_X8_begin (e_X8_begin (up2 g 55 1 0) 11) 10 25 v + (nI v + r_X3_seatsOf (e_X8_begin (e_X8_begin (e_X8_begin (e_X8_begin (up2 g 55 1 0) 11) 10) 21) 20) 20 (nI v))) := by
        simp only [f_X11_ask]
        rw [e_guest R B, if_neg c1, if_neg d1, if_pos d2, if_pos cb, ev, g26, e]
        simp only [if_true, f_X7_size, f_X9_size, f_X7_mark, f_X9_mark, ev]
      rw [e11]
      obtain ⟨C, eC⟩ : ∃ C, e_X8_begin (e_X8_begin (e_X8_begin (e_X8_begin (up2 g 55 1 0) 11) 10) 21) 20 = C := ⟨_, rfl⟩
      have hC : ∀ k, k ≠ 55 → k ≠ 56 → C k = g k := fun k h1 h2 => by rw [← eC, begin_far _ _ k h1 h2, begin_far _ _ k h1 h2, begin_far _ _ k h1 h2, begin_far _ _ k h1 h2, up2_n h1]
      have hZ : (up2 C 57 25 0) 65 = g 65 := by rw [up2_n (by decide), hC 65 (by decide) (by decide)]
      have p := s2 C hC
      have a1 := tr_pur H (s1 C hC) hZ hv
      have a2 := tr_seats H p hZ (nI v)
      rw [lf, lf, hZ] at a1
      rw [a1, a2]
      rw [eC] at p ⊢
      refine tr_fin H p ?_
      simp only [f_X12_ask]
      rw [if_neg (fr C hC), if_neg c2, if_pos cb]
      simp only [f_X12_sizeOf, f_X12_tourMark, e43, e47, lf, hZ, ← ek, e]
      rfl
    · -- liar, size
      have s1 := fun C hC => tr_step (tr_step (tr_step (tr_0 (g := g) (C := C) hC) 12) 11) 10
      have s2 := fun C hC => tr_step (tr_step (tr_step (s1 C hC) 24) 21) 20
      have e11 : f_X11_ask g (nI v) b = (e_X8_begin (e_X8_begin (e_X8_begin (e_X8_begin (e_X8_begin (e_X8_begin (up2 g 55 1 0) 12) 11) 10) 24) 21) 20, -(e_X8_begin (e_X8_begin (e_X8_begin (up2 g 55 1 0) 12) 11) 10 25 v + 2 * (nI v + r_X3_seatsOf (e_X8_begin (e_X8_begin (e_X8_begin (e_X8_begin (e_X8_begin (e_X8_begin (up2 g 55 1 0) 12) 11) 10) 24) 21) 20) 20 (nI v)))) := by
        simp only [f_X11_ask]
        rw [e_guest R B, if_neg c1, if_neg d1, if_pos d2, if_pos cb, ev, g26, e]
        rw [if_neg (show ¬ (2 : Int32) = 1 by decide), if_pos rfl]
        simp only [f_X4_size, f_X7_size, f_X9_size, f_X4_mark, f_X7_mark, f_X9_mark, ev]
        rw [if_neg (show ¬ (2 : Int32) = 1 by decide), if_pos trivial]
      rw [e11]
      obtain ⟨C, eC⟩ : ∃ C, e_X8_begin (e_X8_begin (e_X8_begin (e_X8_begin (e_X8_begin (e_X8_begin (up2 g 55 1 0) 12) 11) 10) 24) 21) 20 = C := ⟨_, rfl⟩
      have hC : ∀ k, k ≠ 55 → k ≠ 56 → C k = g k := fun k h1 h2 => by rw [← eC, begin_far _ _ k h1 h2, begin_far _ _ k h1 h2, begin_far _ _ k h1 h2, begin_far _ _ k h1 h2, begin_far _ _ k h1 h2, begin_far _ _ k h1 h2, up2_n h1]
      have hZ : (up2 C 57 25 0) 65 = g 65 := by rw [up2_n (by decide), hC 65 (by decide) (by decide)]
      have p := s2 C hC
      have a1 := tr_pur H (s1 C hC) hZ hv
      have a2 := tr_seats H p hZ (nI v)
      rw [lf, lf, lf, hZ] at a1
      rw [a1, a2]
      rw [eC] at p ⊢
      refine tr_fin H p ?_
      simp only [f_X12_ask]
      rw [if_neg (fr C hC), if_neg c2, if_pos cb]
      simp only [f_X12_sizeOf, f_X12_tourMark, e43, e47, lf, hZ, ← ek, e]
      rfl
    · -- detective, size
      have s1 := fun C hC => tr_step (tr_step (tr_0 (g := g) (C := C) hC) 11) 10
      have s2 := fun C hC => tr_step (tr_step (tr_step (s1 C hC) 22) 21) 20
      have e11 : f_X11_ask g (nI v) b = (e_X8_begin (e_X8_begin (e_X8_begin (e_X8_begin (e_X8_begin (up2 g 55 1 0) 11) 10) 22) 21) 20, e_X8_begin (e_X8_begin (up2 g 55 1 0) 11) 10 25 v + (nI v + r_X3_seatsOf (e_X8_begin (e_X8_begin (e_X8_begin (e_X8_begin (e_X8_begin (up2 g 55 1 0) 11) 10) 22) 21) 20) 20 (nI v) - 1000)) := by
        simp only [f_X11_ask]
        rw [e_guest R B, if_neg c1, if_neg d1, if_pos d2, if_pos cb, ev, g26, e]
        rw [if_neg (show ¬ (3 : Int32) = 1 by decide), if_neg (show ¬ (3 : Int32) = 2 by decide), if_pos rfl]
        simp only [f_X7_size, f_X9_size, f_X1_mark, f_X7_mark, f_X9_mark, ev]
        rw [if_neg (show ¬ (3 : Int32) = 1 by decide), if_neg (show ¬ (3 : Int32) = 2 by decide)]
      rw [e11]
      obtain ⟨C, eC⟩ : ∃ C, e_X8_begin (e_X8_begin (e_X8_begin (e_X8_begin (e_X8_begin (up2 g 55 1 0) 11) 10) 22) 21) 20 = C := ⟨_, rfl⟩
      have hC : ∀ k, k ≠ 55 → k ≠ 56 → C k = g k := fun k h1 h2 => by rw [← eC, begin_far _ _ k h1 h2, begin_far _ _ k h1 h2, begin_far _ _ k h1 h2, begin_far _ _ k h1 h2, begin_far _ _ k h1 h2, up2_n h1]
      have hZ : (up2 C 57 25 0) 65 = g 65 := by rw [up2_n (by decide), hC 65 (by decide) (by decide)]
      have p := s2 C hC
      have a1 := tr_pur H (s1 C hC) hZ hv
      have a2 := tr_seats H p hZ (nI v)
      rw [lf, lf, hZ] at a1
      rw [a1, a2]
      rw [eC] at p ⊢
      refine tr_fin H p ?_
      simp only [f_X12_ask]
      rw [if_neg (fr C hC), if_neg c2, if_pos cb]
      simp only [f_X12_sizeOf, f_X12_tourMark, e43, e47, lf, hZ, ← ek, e]
      rfl
    · -- writer, size
      have s1 := fun C hC => tr_step (tr_step (tr_0 (g := g) (C := C) hC) 13) 10
      have e11 : f_X11_ask g (nI v) b = (e_X8_begin (e_X8_begin (up2 g 55 1 0) 13) 10, e_X8_begin (e_X8_begin (up2 g 55 1 0) 13) 10 25 v - 100) := by
        simp only [f_X11_ask]
        rw [e_guest R B, if_neg c1, if_neg d1, if_pos d2, if_pos cb, ev, g26, e]
        rw [if_neg (show ¬ (4 : Int32) = 1 by decide), if_neg (show ¬ (4 : Int32) = 2 by decide), if_neg (show ¬ (4 : Int32) = 3 by decide), if_pos rfl]
        simp only [f_X10_size, f_X9_size, ev]
      rw [e11]
      obtain ⟨C, eC⟩ : ∃ C, e_X8_begin (e_X8_begin (up2 g 55 1 0) 13) 10 = C := ⟨_, rfl⟩
      have hC : ∀ k, k ≠ 55 → k ≠ 56 → C k = g k := fun k h1 h2 => by rw [← eC, begin_far _ _ k h1 h2, begin_far _ _ k h1 h2, up2_n h1]
      have hZ : (up2 C 57 25 0) 65 = g 65 := by rw [up2_n (by decide), hC 65 (by decide) (by decide)]
      have p := s1 C hC
      have a1 := tr_pur H (s1 C hC) hZ hv
      rw [lf, lf, hZ] at a1
      rw [a1]
      rw [eC] at p ⊢
      refine tr_fin H p ?_
      simp only [f_X12_ask]
      rw [if_neg (fr C hC), if_neg c2, if_pos cb]
      simp only [f_X12_sizeOf, e43, e47, hZ, ← ek, e]
      rfl
    · -- heir, size
      have s1 := fun C hC => tr_step (tr_step (tr_step (tr_0 (g := g) (C := C) hC) 14) 13) 10
      have e11 : f_X11_ask g (nI v) b = (e_X8_begin (e_X8_begin (e_X8_begin (up2 g 55 1 0) 14) 13) 10, 2 * (e_X8_begin (e_X8_begin (e_X8_begin (up2 g 55 1 0) 14) 13) 10 25 v - 100)) := by
        simp only [f_X11_ask]
        rw [e_guest R B, if_neg c1, if_neg d1, if_pos d2, if_pos cb, ev, g26, e]
        rw [if_neg (show ¬ (5 : Int32) = 1 by decide), if_neg (show ¬ (5 : Int32) = 2 by decide), if_neg (show ¬ (5 : Int32) = 3 by decide), if_neg (show ¬ (5 : Int32) = 4 by decide)]
        simp only [f_X2_size, f_X10_size, f_X9_size, ev]
      rw [e11]
      obtain ⟨C, eC⟩ : ∃ C, e_X8_begin (e_X8_begin (e_X8_begin (up2 g 55 1 0) 14) 13) 10 = C := ⟨_, rfl⟩
      have hC : ∀ k, k ≠ 55 → k ≠ 56 → C k = g k := fun k h1 h2 => by rw [← eC, begin_far _ _ k h1 h2, begin_far _ _ k h1 h2, begin_far _ _ k h1 h2, up2_n h1]
      have hZ : (up2 C 57 25 0) 65 = g 65 := by rw [up2_n (by decide), hC 65 (by decide) (by decide)]
      have p := s1 C hC
      have a1 := tr_pur H (s1 C hC) hZ hv
      rw [lf, lf, lf, hZ] at a1
      rw [a1]
      rw [eC] at p ⊢
      refine tr_fin H p ?_
      simp only [f_X12_ask]
      rw [if_neg (fr C hC), if_neg c2, if_pos cb]
      simp only [f_X12_sizeOf, e43, e47, hZ, ← ek, e]
      rfl
  · rcases hkd with e | e | e | e | e
    · -- tourist, mark
      have s1 := fun C hC => tr_step (tr_step (tr_0 (g := g) (C := C) hC) 21) 20
      have e11 : f_X11_ask g (nI v) b = (e_X8_begin (e_X8_begin (up2 g 55 1 0) 21) 20, nI v + r_X3_seatsOf (e_X8_begin (e_X8_begin (up2 g 55 1 0) 21) 20) 20 (nI v)) := by
        simp only [f_X11_ask]
        rw [e_guest R B, if_neg c1, if_neg d1, if_pos d2, if_neg cb, ev, g26, e]
        simp only [if_true, f_X7_mark, f_X9_mark]
      rw [e11]
      obtain ⟨C, eC⟩ : ∃ C, e_X8_begin (e_X8_begin (up2 g 55 1 0) 21) 20 = C := ⟨_, rfl⟩
      have hC : ∀ k, k ≠ 55 → k ≠ 56 → C k = g k := fun k h1 h2 => by rw [← eC, begin_far _ _ k h1 h2, begin_far _ _ k h1 h2, up2_n h1]
      have hZ : (up2 C 57 25 0) 65 = g 65 := by rw [up2_n (by decide), hC 65 (by decide) (by decide)]
      have p := s1 C hC
      have a2 := tr_seats H p hZ (nI v)
      rw [a2]
      rw [eC] at p ⊢
      refine tr_fin H p ?_
      simp only [f_X12_ask]
      rw [if_neg (fr C hC), if_neg c2, if_neg cb]
      simp only [f_X12_tourMark, e43, lf, hZ, ← ek, e]
      rfl
    · -- liar, mark
      have s1 := fun C hC => tr_step (tr_step (tr_step (tr_0 (g := g) (C := C) hC) 24) 21) 20
      have e11 : f_X11_ask g (nI v) b = (e_X8_begin (e_X8_begin (e_X8_begin (up2 g 55 1 0) 24) 21) 20, 2 * (nI v + r_X3_seatsOf (e_X8_begin (e_X8_begin (e_X8_begin (up2 g 55 1 0) 24) 21) 20) 20 (nI v))) := by
        simp only [f_X11_ask]
        rw [e_guest R B, if_neg c1, if_neg d1, if_pos d2, if_neg cb, ev, g26, e]
        rw [if_neg (show ¬ (2 : Int32) = 1 by decide), if_pos rfl]
        simp only [f_X4_mark, f_X7_mark, f_X9_mark]
      rw [e11]
      obtain ⟨C, eC⟩ : ∃ C, e_X8_begin (e_X8_begin (e_X8_begin (up2 g 55 1 0) 24) 21) 20 = C := ⟨_, rfl⟩
      have hC : ∀ k, k ≠ 55 → k ≠ 56 → C k = g k := fun k h1 h2 => by rw [← eC, begin_far _ _ k h1 h2, begin_far _ _ k h1 h2, begin_far _ _ k h1 h2, up2_n h1]
      have hZ : (up2 C 57 25 0) 65 = g 65 := by rw [up2_n (by decide), hC 65 (by decide) (by decide)]
      have p := s1 C hC
      have a2 := tr_seats H p hZ (nI v)
      rw [a2]
      rw [eC] at p ⊢
      refine tr_fin H p ?_
      simp only [f_X12_ask]
      rw [if_neg (fr C hC), if_neg c2, if_neg cb]
      simp only [f_X12_tourMark, e43, lf, hZ, ← ek, e]
      rfl
    · -- detective, mark
      have s1 := fun C hC => tr_step (tr_step (tr_step (tr_0 (g := g) (C := C) hC) 22) 21) 20
      have e11 : f_X11_ask g (nI v) b = (e_X8_begin (e_X8_begin (e_X8_begin (up2 g 55 1 0) 22) 21) 20, nI v + r_X3_seatsOf (e_X8_begin (e_X8_begin (e_X8_begin (up2 g 55 1 0) 22) 21) 20) 20 (nI v) - 1000) := by
        simp only [f_X11_ask]
        rw [e_guest R B, if_neg c1, if_neg d1, if_pos d2, if_neg cb, ev, g26, e]
        rw [if_neg (show ¬ (3 : Int32) = 1 by decide), if_neg (show ¬ (3 : Int32) = 2 by decide), if_pos rfl]
        simp only [f_X1_mark, f_X7_mark, f_X9_mark]
      rw [e11]
      obtain ⟨C, eC⟩ : ∃ C, e_X8_begin (e_X8_begin (e_X8_begin (up2 g 55 1 0) 22) 21) 20 = C := ⟨_, rfl⟩
      have hC : ∀ k, k ≠ 55 → k ≠ 56 → C k = g k := fun k h1 h2 => by rw [← eC, begin_far _ _ k h1 h2, begin_far _ _ k h1 h2, begin_far _ _ k h1 h2, up2_n h1]
      have hZ : (up2 C 57 25 0) 65 = g 65 := by rw [up2_n (by decide), hC 65 (by decide) (by decide)]
      have p := s1 C hC
      have a2 := tr_seats H p hZ (nI v)
      rw [a2]
      rw [eC] at p ⊢
      refine tr_fin H p ?_
      simp only [f_X12_ask]
      rw [if_neg (fr C hC), if_neg c2, if_neg cb]
      simp only [f_X12_tourMark, e43, lf, hZ, ← ek, e]
      rfl
    · -- writer, mark
      have s1 := fun C hC => tr_step (tr_step (tr_step (tr_step (tr_0 (g := g) (C := C) hC) 23) 20) 13) 10
      have e11 : f_X11_ask g (nI v) b = (e_X8_begin (e_X8_begin (e_X8_begin (e_X8_begin (up2 g 55 1 0) 23) 20) 13) 10, nI v - (e_X8_begin (e_X8_begin (e_X8_begin (e_X8_begin (up2 g 55 1 0) 23) 20) 13) 10 25 v - 100)) := by
        simp only [f_X11_ask]
        rw [e_guest R B, if_neg c1, if_neg d1, if_pos d2, if_neg cb, ev, g26, e]
        rw [if_neg (show ¬ (4 : Int32) = 1 by decide), if_neg (show ¬ (4 : Int32) = 2 by decide), if_neg (show ¬ (4 : Int32) = 3 by decide), if_pos rfl]
        simp only [f_X10_mark, f_X10_size, f_X9_size, f_X9_mark, ev, if_true]
      rw [e11]
      obtain ⟨C, eC⟩ : ∃ C, e_X8_begin (e_X8_begin (e_X8_begin (e_X8_begin (up2 g 55 1 0) 23) 20) 13) 10 = C := ⟨_, rfl⟩
      have hC : ∀ k, k ≠ 55 → k ≠ 56 → C k = g k := fun k h1 h2 => by rw [← eC, begin_far _ _ k h1 h2, begin_far _ _ k h1 h2, begin_far _ _ k h1 h2, begin_far _ _ k h1 h2, up2_n h1]
      have hZ : (up2 C 57 25 0) 65 = g 65 := by rw [up2_n (by decide), hC 65 (by decide) (by decide)]
      have p := s1 C hC
      have a1 := tr_pur H (s1 C hC) hZ hv
      rw [lf, lf, lf, lf, hZ] at a1
      rw [a1]
      rw [eC] at p ⊢
      refine tr_fin H p ?_
      simp only [f_X12_ask]
      rw [if_neg (fr C hC), if_neg c2, if_neg cb]
      simp only [f_X12_sizeOf, e43, e47, lf, hZ, ← ek, e]
      rfl
    · -- heir, mark
      have s1 := fun C hC => tr_step (tr_step (tr_step (tr_step (tr_step (tr_0 (g := g) (C := C) hC) 23) 20) 14) 13) 10
      have e11 : f_X11_ask g (nI v) b = (e_X8_begin (e_X8_begin (e_X8_begin (e_X8_begin (e_X8_begin (up2 g 55 1 0) 23) 20) 14) 13) 10, nI v - 2 * (e_X8_begin (e_X8_begin (e_X8_begin (e_X8_begin (e_X8_begin (up2 g 55 1 0) 23) 20) 14) 13) 10 25 v - 100)) := by
        simp only [f_X11_ask]
        rw [e_guest R B, if_neg c1, if_neg d1, if_pos d2, if_neg cb, ev, g26, e]
        rw [if_neg (show ¬ (5 : Int32) = 1 by decide), if_neg (show ¬ (5 : Int32) = 2 by decide), if_neg (show ¬ (5 : Int32) = 3 by decide), if_neg (show ¬ (5 : Int32) = 4 by decide)]
        simp only [f_X10_mark, f_X2_size, f_X10_size, f_X9_size, f_X9_mark, ev]
        rw [if_neg (show ¬ (5 : Int32) = 4 by decide)]
      rw [e11]
      obtain ⟨C, eC⟩ : ∃ C, e_X8_begin (e_X8_begin (e_X8_begin (e_X8_begin (e_X8_begin (up2 g 55 1 0) 23) 20) 14) 13) 10 = C := ⟨_, rfl⟩
      have hC : ∀ k, k ≠ 55 → k ≠ 56 → C k = g k := fun k h1 h2 => by rw [← eC, begin_far _ _ k h1 h2, begin_far _ _ k h1 h2, begin_far _ _ k h1 h2, begin_far _ _ k h1 h2, begin_far _ _ k h1 h2, up2_n h1]
      have hZ : (up2 C 57 25 0) 65 = g 65 := by rw [up2_n (by decide), hC 65 (by decide) (by decide)]
      have p := s1 C hC
      have a1 := tr_pur H (s1 C hC) hZ hv
      rw [lf, lf, lf, lf, lf, hZ] at a1
      rw [a1]
      rw [eC] at p ⊢
      refine tr_fin H p ?_
      simp only [f_X12_ask]
      rw [if_neg (fr C hC), if_neg c2, if_neg cb]
      simp only [f_X12_sizeOf, e43, e47, lf, hZ, ← ek, e]
      rfl
end M17
