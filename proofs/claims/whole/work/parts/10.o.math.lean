/-! THE MATH 15: rows -/
theorem fill_eq (g : wx_M) (ka an : Nat) (han : an < 1000) (v : Int32) : e_J7_fill_53178 g ka an v = upR g ka (fun i => if i < an then v else g ka i) := by
  simp only [e_J7_fill_53178]
  rw [ix han]
  have key : ∀ t, t ≤ an → rep t (b_J7_fill_53178_5 g ka an v) g = upR g ka (fun i => if i < t then v else g ka i) := by
    intro t
    induction t with
    | zero =>
      intro _
      rw [rep_zero]
      funext k
      by_cases hk : k = ka
      · subst hk
        rw [upR_s]
        funext j
        rw [if_neg (by omega)]
      · rw [upR_n hk]
    | succ t ih =>
      intro ht
      rw [rep_succ, ih (by omega)]
      simp only [b_J7_fill_53178_5]
      rw [ix (show t < 1000 by omega), upR_up2]
      congr 1
      funext j
      by_cases hj : j = t
      · subst hj
        rw [upd_eq, if_pos (by omega)]
      · rw [upd_ne hj]
        by_cases c : j < t
        · rw [if_pos c, if_pos (by omega)]
        · rw [if_neg c, if_neg (by omega)]
  exact key an (Nat.le_refl _)
theorem rel_row {g W : wx_M} {K : Nat} (H : m_Rel K g) (eo : ∀ k, k ≠ 0 → ¬ (2 ≤ k ∧ k < 18) → k ≠ 57 → k ≠ 58 → k ≠ 59 → k ≠ 60 → W k = g k) (e57 : ∀ j, j ≠ 3 → W 57 j = g 57 j) (ef : W 0 7 = W 57 3) (hr : m_Rows W) : m_Rel (K + 10) W := by
  have ek : ∀ k, (18 ≤ k ∧ k < 57) ∨ 60 < k → W k = g k := fun k hk => eo k (by omega) (by omega) (by omega) (by omega) (by omega) (by omega)
  refine ⟨hr, ef, ?_, ?_, ?_, ?_, ?_, ?_, ?_, ?_, ?_⟩
  · exact H.tape.congr (by rw [ek 18 (by omega)]) (e57 4 (by decide)) (ek 19 (by omega)) (ek 61 (by omega))
  · rw [ek 18 (by omega), e57 10 (by decide)]; exact H.flt
  · exact tb_congr (by rw [ek 18 (by omega)]; exact ⟨rfl, rfl, rfl⟩) H.tb
  · exact pr_congr (fun j hj => e57 j (by omega)) (ek 62 (by omega)) H.pr
  · rw [ek 65 (by omega)]; exact (H.hou.congr (fun k h1 h2 => ek k (by omega))).mono (by omega)
  · exact H.dra.congr (fun k h1 h2 => ek k (by omega))
  · exact H.img.congr (by omega) (fun k hk => ek k (by omega))
  · exact H.act.congr (by omega) (fun k h1 h2 => ek k (by omega)) (ek 68 (by omega)) (e57 23 (by decide)) (ek 65 (by omega))
  · exact H.trc.congr (by rw [ek 55 (by omega)]) (e57 25 (by decide)) (ek 56 (by omega)) (ek 69 (by omega))
theorem rows_one {g W : wx_M} (H : m_Rows g) {r : Nat} (h1 : ∀ r', r' < 8 → r' ≠ r → W (2 + r') = g (2 + r') ∧ W (10 + r') = g (10 + r') ∧ W 58 r' = g 58 r' ∧ W 59 r' = g 59 r' ∧ ∀ i, i < 40 → W 60 (40 * r' + i) = g 60 (40 * r' + i)) (h : m_Row1 W r) : m_Rows W := fun r' hr' => by
  by_cases c : r' = r
  · rw [c]; exact h
  · obtain ⟨a1, a2, a3, a4, a5⟩ := h1 r' hr' c
    obtain ⟨b1, b2, b3, b4⟩ := H r' hr'
    have h40 := wb_cl (n := 40) b3 (by decide)
    unfold m_Row1
    rw [a1, a2, a3, a4]
    refine ⟨b1, b2, b3, fun i hi => ?_⟩
    rw [a5 i (by omega)]
    exact b4 i hi
section M15
variable {g : wx_M} {K : Nat}
theorem T_found (H : m_Rel K g) (n : Int32) {z : wx_M × Int32} {F : wx_M → wx_M × Int32} (e1 : z = f_X11_found g n) (e2 : ∀ q : wx_M, (∀ k, k ≠ 0 → q k = g k) → F q = f_X12_finds q n) : m_T K g z F := by
  rw [e1]
  have e3 := e2 (f_X11_found g n).1 (fun k hk => up2_n hk)
  refine ⟨fun k hk => up2_n (by omega), ?_, ?_⟩
  · rw [e3]; rfl
  · rw [e3]
    show m_Rel (K + 10) (up2 (up2 g 0 7 n) 57 3 n)
    refine rel_row H (fun k h1 h2 h3 h4 h5 h6 => ?_) (fun j hj => ?_) ?_ ?_
    · rw [up2_n h3, up2_n h1]
    · rw [up2_sn hj, up2_n (by decide)]
    · rw [up2_ss, up2_n (by decide), up2_ss]
    · exact H.rows.congr (fun k hk => by rw [up2_n (by omega), up2_n (by omega)])
theorem null_iff (H : m_Rel K g) {q : wx_M} (e : q 58 = g 58) {r : Nat} (hr : r < 8) : (r_X12_isNull q (nI r) = 0) ↔ (g (2 + r) 3 = 0) := by
  unfold r_X12_isNull
  rw [ix (show r < 1000 by omega), e]
  rcases (H.rows r hr).1 with ⟨q1, q2, q3⟩ | ⟨q1, q2⟩
  · have : (0 : Int32) ≤ g 58 r := by
      rw [q2]
      exact Int32.le_iff_toInt_le.mpr q3.1
    rw [if_pos this]
    exact ⟨fun _ => q1, fun _ => rfl⟩
  · rw [q2, q1]
    exact ⟨fun q => absurd q (by decide), fun q => absurd q (by decide)⟩
theorem items_iff {k : Nat} (hs : wx_b (g k 2) 0 40) (i n : Int32) : (r_X5_hasItems g k i n = 0) ↔ (i.toInt < 0 ∨ n.toInt < 0 ∨ (g k 2).toInt < i.toInt + n.toInt) := by
  obtain ⟨s1, s2⟩ := hs
  have e0 : (0 : Int32).toInt = 0 := rfl
  have hi := fb_rng i
  unfold r_X5_hasItems
  by_cases c1 : i < 0
  · rw [if_pos c1]
    have := Int32.lt_iff_toInt_lt.mp c1
    exact ⟨fun _ => Or.inl (by omega), fun _ => rfl⟩
  · rw [if_neg c1]
    have d1 := Int32.le_iff_toInt_le.mp (Int32.not_lt.mp c1)
    by_cases c2 : n < 0
    · rw [if_pos c2]
      have := Int32.lt_iff_toInt_lt.mp c2
      exact ⟨fun _ => Or.inr (Or.inl (by omega)), fun _ => rfl⟩
    · rw [if_neg c2]
      have d2 := Int32.le_iff_toInt_le.mp (Int32.not_lt.mp c2)
      have hsub := fb_subI (x := g k 2) (y := i) (by omega) (by omega)
      by_cases c3 : g k 2 < i
      · rw [if_pos c3]
        have := Int32.lt_iff_toInt_lt.mp c3
        exact ⟨fun _ => Or.inr (Or.inr (by omega)), fun _ => rfl⟩
      · rw [if_neg c3]
        by_cases c4 : g k 2 - i < n
        · rw [if_pos c4]
          have := Int32.lt_iff_toInt_lt.mp c4
          exact ⟨fun _ => Or.inr (Or.inr (by omega)), fun _ => rfl⟩
        · rw [if_neg c4]
          have := Int32.le_iff_toInt_le.mp (Int32.not_lt.mp c4)
          exact ⟨fun q => absurd q (by decide), fun q => by omega⟩
theorem in_iff {a x y : Int32} : (r_X12_in a x y = 0) ↔ (a.toInt < x.toInt ∨ y.toInt < a.toInt) := by
  unfold r_X12_in
  by_cases c1 : a < x
  · rw [if_pos c1]
    exact ⟨fun _ => Or.inl (Int32.lt_iff_toInt_lt.mp c1), fun _ => rfl⟩
  · rw [if_neg c1]
    have d1 := Int32.le_iff_toInt_le.mp (Int32.not_lt.mp c1)
    by_cases c2 : y < a
    · rw [if_pos c2]
      exact ⟨fun _ => Or.inr (Int32.lt_iff_toInt_lt.mp c2), fun _ => rfl⟩
    · rw [if_neg c2]
      have d2 := Int32.le_iff_toInt_le.mp (Int32.not_lt.mp c2)
      exact ⟨fun q => absurd q (by decide), fun q => by omega⟩
theorem ix_40 {r i : Nat} (hr : r < 100) (hi : i < 1000) : ((40 * nI r) + nI i).toNatClampNeg = 40 * r + i := by
  rw [show (40 : Int32) = nI 40 from rfl, pk_mul, nI_add]; exact nI_clamp (by omega)
theorem ix_40t {r i t : Nat} (hr : r < 100) (hi : i < 1000) (ht : t < 1000) : (((40 * nI r) + nI i) + nI t).toNatClampNeg = 40 * r + i + t := by
  rw [show (40 : Int32) = nI 40 from rfl, pk_mul, nI_add, nI_add]; exact nI_clamp (by omega)
theorem row12_loop (q : wx_M) (a b c : Int32) (g1 s0 : wx_M) {r : Nat} (ha : a = nI r) (hr : r < 8) : ∀ t, t ≤ 40 → rep t (b_X12_row_52 q a b c g1 s0) s0 = upR s0 60 (fun i => if 40 * r ≤ i ∧ i < 40 * r + t then 0 else s0 60 i) := by
  intro t
  induction t with
  | zero =>
    intro _
    rw [rep_zero]
    funext k
    by_cases hk : k = 60
    · subst hk
      rw [upR_s]
      funext j
      rw [if_neg (by omega)]
    · rw [upR_n hk]
  | succ t ih =>
    intro ht
    rw [rep_succ, ih (by omega)]
    simp only [b_X12_row_52]
    rw [ha, ix_40 (by omega) (by omega), upR_up2]
    congr 1
    funext j
    by_cases hj : j = 40 * r + t
    · subst hj
      rw [upd_eq, if_pos (by omega)]
    · rw [upd_ne hj]
      by_cases c : 40 * r ≤ j ∧ j < 40 * r + t
      · rw [if_pos c, if_pos (by omega)]
      · rw [if_neg c, if_neg (by omega)]
theorem begin_eq (g : wx_M) {r : Nat} (hr : r < 8) (l n : Int32) : e_X5_begin g (2 + r) l n = up2 (up2 (up2 (upR g (10 + r) (fun i => if i < 40 then 0 else g (10 + r) i)) (2 + r) 1 l) (2 + r) 2 n) (2 + r) 3 0 := by
  simp only [e_X5_begin]
  rw [fill_eq _ _ _ (by decide), show 2 + r + 8 = 10 + r by omega]
theorem t_row (H : m_Rel K g) (a b c : Int32) : m_T K g (f_X11_row g a b c) (fun q => f_X12_row q a b c) := by
  by_cases c1 : r_X12_isRow a = 0
  · exact T_same H (-1000001) (by simp only [f_X11_row]; rw [e_row, if_pos c1]) (by simp only [f_X12_row]; rw [if_pos c1])
  obtain ⟨r, hr, rfl⟩ := o_row c1
  by_cases c2 : b < 0
  · have d2 : r_X12_in b 0 2 = 0 := in_iff.mpr (Or.inl (Int32.lt_iff_toInt_lt.mp c2))
    exact T_same H (-1000001) (by simp only [f_X11_row]; rw [e_row, if_neg c1, if_pos c2]) (by simp only [f_X12_row]; rw [if_neg c1, if_pos d2])
  by_cases c3 : 2 < b
  · have d2 : r_X12_in b 0 2 = 0 := in_iff.mpr (Or.inr (Int32.lt_iff_toInt_lt.mp c3))
    exact T_same H (-1000001) (by simp only [f_X11_row]; rw [e_row, if_neg c1, if_neg c2, if_pos c3]) (by simp only [f_X12_row]; rw [if_neg c1, if_pos d2])
  have d2 : ¬ r_X12_in b 0 2 = 0 := fun q => by
    rcases in_iff.mp q with h | h
    · exact c2 (Int32.lt_iff_toInt_lt.mpr h)
    · exact c3 (Int32.lt_iff_toInt_lt.mpr h)
  by_cases c4 : c ≤ 40
  · by_cases c5 : 0 ≤ c
    · have hb : wx_b b 0 2 := ⟨Int32.le_iff_toInt_le.mp (Int32.not_lt.mp c2), Int32.le_iff_toInt_le.mp (Int32.not_lt.mp c3)⟩
      have hc : wx_b c 0 40 := ⟨Int32.le_iff_toInt_le.mp c5, Int32.le_iff_toInt_le.mp c4⟩
      have hcl := wb_cl (n := 40) hc (by decide)
      obtain ⟨C, eC⟩ : ∃ C, up2 (e_X5_begin g (2 + r) b c) 0 7 0 = C := ⟨_, rfl⟩
      have e11 : f_X11_row g (nI r) b c = (C, c) := by
        simp only [f_X11_row, f_X11_answered]
        rw [e_row, if_neg c1, if_neg c2, if_neg c3, if_pos c4, if_pos c5, ix (show r < 1000 by omega), eC]
      rw [e11]
      have Cf : ∀ k, k ≠ 0 → k ≠ 2 + r → k ≠ 10 + r → C k = g k := fun k h1 h2 h3 => by
        rw [← eC, up2_n h1, begin_eq g hr, up2_n h2, up2_n h2, up2_n h2, upR_n h3]
      have C10 : ∀ i, i < 40 → C (10 + r) i = 0 := fun i hi => by
        rw [← eC, up2_n (by omega), begin_eq g hr, up2_n (by omega), up2_n (by omega), up2_n (by omega), upR_s, if_pos hi]
      have C2 : C (2 + r) 1 = b ∧ C (2 + r) 2 = c ∧ C (2 + r) 3 = 0 := by
        rw [← eC, up2_n (by omega), begin_eq g hr]
        refine ⟨?_, ?_, ?_⟩
        · rw [up2_sn (by decide), up2_sn (by decide), up2_ss]
        · rw [up2_sn (by decide), up2_ss]
        · rw [up2_ss]
      have C07 : C 0 7 = 0 := by rw [← eC, up2_ss]
      obtain ⟨W, eW⟩ : ∃ W, up2 (upR (up2 (up2 C 58 r b) 59 r c) 60 (fun i => if 40 * r ≤ i ∧ i < 40 * r + c.toNatClampNeg then 0 else C 60 i)) 57 3 0 = W := ⟨_, rfl⟩
      have e12 : f_X12_row C (nI r) b c = (W, c) := by
        simp only [f_X12_row, f_X12_did]
        rw [if_neg c1, if_neg d2, if_pos c4, if_pos c5, ix (show r < 1000 by omega), row12_loop _ _ _ _ _ _ rfl hr _ hcl]
        have : (up2 (up2 C 58 r b) 59 r c) 60 = C 60 := by rw [up2_n (by decide), up2_n (by decide)]
        rw [this, eW]
      refine ⟨fun k hk => Cf k (by omega) (by omega) (by omega), ?_, ?_⟩
      · show (f_X12_row C (nI r) b c).2 = c
        rw [e12]
      · show m_Rel (K + 10) (f_X12_row C (nI r) b c).1
        rw [e12]
        dsimp only
        have Wf : ∀ k, k ≠ 57 → k ≠ 58 → k ≠ 59 → k ≠ 60 → W k = C k := fun k h1 h2 h3 h4 => by rw [← eW, up2_n h1, upR_n h4, up2_n h3, up2_n h2]
        have W57 : W 57 = upd (C 57) 3 0 := by rw [← eW, up2_s, upR_n (by decide), up2_n (by decide), up2_n (by decide)]
        have W58 : W 58 = upd (C 58) r b := by rw [← eW, up2_n (by decide), upR_n (by decide), up2_n (by decide), up2_s]
        have W59 : W 59 = upd (C 59) r c := by rw [← eW, up2_n (by decide), upR_n (by decide), up2_s, up2_n (by decide)]
        have W60 : ∀ i, W 60 i = (if 40 * r ≤ i ∧ i < 40 * r + c.toNatClampNeg then 0 else C 60 i) := fun i => by rw [← eW, up2_n (by decide), upR_s]
        refine rel_row H (fun k h1 h2 h3 h4 h5 h6 => ?_) (fun j hj => ?_) ?_ ?_
        · rw [Wf k h3 h4 h5 h6, Cf k h1 (by omega) (by omega)]
        · rw [W57, upd_ne hj, Cf 57 (by decide) (by omega) (by omega)]
        · rw [W57, upd_eq, Wf 0 (by decide) (by decide) (by decide) (by decide), C07]
        · refine rows_one H.rows (r := r) (fun r' hr' hne => ⟨?_, ?_, ?_, ?_, fun i hi => ?_⟩) ?_
          · rw [Wf _ (by omega) (by omega) (by omega) (by omega), Cf _ (by omega) (by omega) (by omega)]
          · rw [Wf _ (by omega) (by omega) (by omega) (by omega), Cf _ (by omega) (by omega) (by omega)]
          · rw [W58, upd_ne hne, Cf _ (by omega) (by omega) (by omega)]
          · rw [W59, upd_ne hne, Cf _ (by omega) (by omega) (by omega)]
          · rw [W60, if_neg (by omega), Cf _ (by omega) (by omega) (by omega)]
          · have hW : W (2 + r) = C (2 + r) := Wf _ (by omega) (by omega) (by omega) (by omega)
            have hW2 : W (10 + r) = C (10 + r) := Wf _ (by omega) (by omega) (by omega) (by omega)
            unfold m_Row1
            rw [hW, hW2, C2.1, C2.2.1, C2.2.2, W58, W59, upd_eq, upd_eq]
            refine ⟨Or.inl ⟨rfl, rfl, hb⟩, rfl, hc, fun i hi => ?_⟩
            rw [C10 i (by omega), W60, if_pos (by omega)]
    · exact T_found H 4 (by simp only [f_X11_row]; rw [e_row, if_neg c1, if_neg c2, if_neg c3, if_pos c4, if_neg c5]) (fun q hq => by simp only [f_X12_row]; rw [if_neg c1, if_neg d2, if_pos c4, if_neg c5])
  · exact T_same H (-1000001) (by simp only [f_X11_row]; rw [e_row, if_neg c1, if_neg c2, if_neg c3, if_neg c4]) (by simp only [f_X12_row]; rw [if_neg c1, if_neg d2, if_neg c4])
/-- one item, or a run of them, of one row becomes another -/
theorem t_items (H : m_Rel K g) {r : Nat} (hr : r < 8) (x : Int32) (rc rm : Nat → Int32) (hi : ∀ i, i < (g (2 + r) 2).toNatClampNeg → rc i = rm (40 * r + i)) (ho : ∀ r', r' < 8 → r' ≠ r → ∀ i, i < 40 → rm (40 * r' + i) = g 60 (40 * r' + i)) {F : wx_M → wx_M × Int32} (e2 : F (up2 (upR g (10 + r) rc) 0 7 0) = (up2 (upR (up2 (upR g (10 + r) rc) 0 7 0) 60 rm) 57 3 0, x)) : m_T K g (up2 (upR g (10 + r) rc) 0 7 0, x) F := by
  refine ⟨fun k hk => ?_, ?_, ?_⟩
  · show up2 (upR g (10 + r) rc) 0 7 0 k = g k
    rw [up2_n (by omega), upR_n (by omega)]
  · rw [e2]
  · rw [e2]
    show m_Rel (K + 10) (up2 (upR (up2 (upR g (10 + r) rc) 0 7 0) 60 rm) 57 3 0)
    have Wf : ∀ k, k ≠ 57 → k ≠ 60 → k ≠ 0 → k ≠ 10 + r → up2 (upR (up2 (upR g (10 + r) rc) 0 7 0) 60 rm) 57 3 0 k = g k := fun k h1 h2 h3 h4 => by rw [up2_n h1, upR_n h2, up2_n h3, upR_n h4]
    refine rel_row H (fun k h1 h2 h3 h4 h5 h6 => ?_) (fun j hj => ?_) ?_ ?_
    · exact Wf k h3 h6 h1 (by omega)
    · rw [up2_sn hj, upR_n (by decide), up2_n (by decide), upR_n (by omega)]
    · rw [up2_ss, up2_n (by decide), upR_n (by decide), up2_ss]
    · refine rows_one H.rows (r := r) (fun r' hr' hne => ⟨?_, ?_, ?_, ?_, fun i hi => ?_⟩) ?_
      · exact Wf _ (by omega) (by omega) (by omega) (by omega)
      · exact Wf _ (by omega) (by omega) (by omega) (by omega)
      · rw [Wf _ (by omega) (by omega) (by omega) (by omega)]
      · rw [Wf _ (by omega) (by omega) (by omega) (by omega)]
      · rw [up2_n (by decide), upR_s]; exact ho r' hr' hne i hi
      · obtain ⟨b1, b2, b3, b4⟩ := H.rows r hr
        unfold m_Row1
        rw [Wf (2 + r) (by omega) (by omega) (by omega) (by omega), Wf 58 (by omega) (by omega) (by omega) (by omega), Wf 59 (by omega) (by omega) (by omega) (by omega)]
        refine ⟨b1, b2, b3, fun i h => ?_⟩
        rw [up2_n (by omega), upR_n (by omega), up2_n (by omega), upR_s, up2_n (by omega), upR_s]
        exact hi i h
theorem lane_eq (H : m_Rel K g) {r : Nat} (hr : r < 8) (hn : g (2 + r) 3 = 0) : g 58 r = g (2 + r) 1 := by
  rcases (H.rows r hr).1 with ⟨q1, q2, q3⟩ | ⟨q1, q2⟩
  · exact q2
  · rw [hn] at q1
    exact absurd q1 (by decide)
theorem tt_set (H : m_Rel K g) (a b c : Int32) : m_T K g (f_X11_set g a b c) (fun q => f_X12_set q a b c) := by
  by_cases c1 : r_X12_isRow a = 0
  · exact T_same H (-1000001) (by simp only [f_X11_set]; rw [e_row, if_pos c1]) (by simp only [f_X12_set]; rw [if_pos c1])
  obtain ⟨r, hr, rfl⟩ := o_row c1
  have er : (nI r).toNatClampNeg = r := ix (show r < 1000 by omega)
  obtain ⟨b1, b2, b3, b4⟩ := H.rows r hr
  by_cases c2 : g (2 + r) 3 = 0
  · have e1 : (1 : Int32).toInt = 1 := by decide
    have e0 : (0 : Int32).toInt = 0 := rfl
    have hs1 := fb_subI (x := g (2 + r) 2) (y := 1) (by have := b3.1; omega) (by have := b3.2; omega)
    have hlane := lane_eq H hr c2
    by_cases c3 : r_X5_hasItems g (2 + r) b 1 = 0
    · have d3 := (items_iff b3 b 1).mp c3
      exact T_found H 2 (by simp only [f_X11_set]; rw [e_row, if_neg c1, er, if_pos c2, if_pos c3]) (fun q hq => by
        have d4 : r_X12_in b 0 (q 59 r - 1) = 0 := in_iff.mpr (by rw [hq 59 (by decide), b2, hs1]; omega)
        simp only [f_X12_set]
        rw [if_neg c1, if_pos ((null_iff H (hq 58 (by decide)) hr).mpr c2), er, if_pos d4])
    · have d3 : ¬ (b.toInt < 0 ∨ (1 : Int32).toInt < 0 ∨ (g (2 + r) 2).toInt < b.toInt + (1 : Int32).toInt) := fun q => c3 ((items_iff b3 b 1).mpr q)
      obtain ⟨i, hi, rfl⟩ := m_ex (n := 39) (a := b) ⟨by omega, by have := b3.2; omega⟩
      have hi2 : i < (g (2 + r) 2).toNatClampNeg := by
        rw [nI_toInt (by omega)] at d3
        show i < (g (2 + r) 2).toInt.toNat
        omega
      have ei : (nI i).toNatClampNeg = i := ix (show i < 1000 by omega)
      obtain ⟨x, ex⟩ : ∃ x, r_X5_cutToLane g (2 + r) c = x := ⟨_, rfl⟩
      have e11 : f_X11_set g (nI r) (nI i) c = (up2 (upR g (10 + r) (upd (g (10 + r)) i x)) 0 7 0, x) := by
        simp only [f_X11_set, f_X11_answered]
        rw [e_row, if_neg c1, er, if_pos c2, if_neg c3, ei, ex, show 2 + r + 8 = 10 + r by omega, up2_ss, up2_R g (10 + r)]
      rw [e11]
      refine t_items H hr x (upd (g (10 + r)) i x) (upd (g 60) (40 * r + i) x) (fun j hj => ?_) (fun r' h1 h2 j hj => ?_) ?_
      · by_cases d : j = i
        · rw [d, upd_eq, upd_eq]
        · rw [upd_ne d, upd_ne (by omega)]
          exact b4 j hj
      · exact upd_ne (by omega)
      · generalize hq : up2 (upR g (10 + r) (upd (g (10 + r)) i x)) 0 7 0 = q
        have qf : ∀ k, 57 ≤ k → q k = g k := fun k hk => by rw [← hq, up2_n (by omega), upR_n (by omega)]
        have d4 : ¬ r_X12_in (nI i) 0 (q 59 r - 1) = 0 := fun h => by
          have := in_iff.mp h
          rw [qf 59 (by decide), b2, hs1] at this
          omega
        have ecut : x = (if g 58 r = 0 then c.toInt8.toInt32 else if g 58 r = 1 then c.toInt16.toInt32 else c) := by
          rw [← ex, hlane]
          rfl
        simp only [f_X12_set, f_X12_did]
        rw [if_neg c1, if_pos ((null_iff H (qf 58 (by decide)) hr).mpr c2), er, if_neg d4, qf 58 (by decide), ix_40 (by omega) (by omega)]
        by_cases l0 : g 58 r = 0
        · rw [if_pos l0] at ecut
          rw [if_pos l0, ← ecut, up2_ss, up2_R q 60, qf 60 (by decide)]
        · rw [if_neg l0] at ecut
          by_cases l1 : g 58 r = 1
          · rw [if_pos l1] at ecut
            rw [if_neg l0, if_pos l1, ← ecut, up2_ss, up2_R q 60, qf 60 (by decide)]
          · rw [if_neg l1] at ecut
            rw [if_neg l0, if_neg l1, ← ecut, up2_ss, up2_R q 60, qf 60 (by decide)]
  · exact T_found H 1 (by simp only [f_X11_set]; rw [e_row, if_neg c1, er, if_neg c2]) (fun q hq => by
      simp only [f_X12_set]
      rw [if_neg c1, if_neg (fun h => c2 ((null_iff H (hq 58 (by decide)) hr).mp h))])
theorem t_drop (H : m_Rel K g) (a : Int32) : m_T K g (f_X11_drop g a) (fun q => f_X12_drop q a) := by
  by_cases c1 : r_X12_isRow a = 0
  · exact T_same H (-1000001) (by simp only [f_X11_drop]; rw [e_row, if_pos c1]) (by simp only [f_X12_drop]; rw [if_pos c1])
  obtain ⟨r, hr, rfl⟩ := o_row c1
  have er : (nI r).toNatClampNeg = r := ix (show r < 1000 by omega)
  obtain ⟨b1, b2, b3, b4⟩ := H.rows r hr
  by_cases c2 : g (2 + r) 3 = 0
  · obtain ⟨C, eC⟩ : ∃ C, up2 (up2 g (2 + r) 3 1) 0 7 0 = C := ⟨_, rfl⟩
    have e11 : f_X11_drop g (nI r) = (C, g (2 + r) 2) := by
      simp only [f_X11_drop, f_X11_answered]
      rw [e_row, if_neg c1, er, if_pos c2, eC, up2_sn (by decide)]
    rw [e11]
    have Cf : ∀ k, k ≠ 0 → k ≠ 2 + r → C k = g k := fun k h1 h2 => by rw [← eC, up2_n h1, up2_n h2]
    obtain ⟨W, eW⟩ : ∃ W, up2 (up2 C 58 r (-1)) 57 3 0 = W := ⟨_, rfl⟩
    have e12 : f_X12_drop C (nI r) = (W, g (2 + r) 2) := by
      simp only [f_X12_drop, f_X12_did]
      rw [if_neg c1, if_pos ((null_iff H (Cf 58 (by decide) (by omega)) hr).mpr c2), er, eW, up2_n (by decide), Cf 59 (by decide) (by omega), b2]
    refine ⟨fun k hk => Cf k (by omega) (by omega), ?_, ?_⟩
    · show (f_X12_drop C (nI r)).2 = _
      rw [e12]
    · show m_Rel (K + 10) (f_X12_drop C (nI r)).1
      rw [e12]
      dsimp only
      have Wf : ∀ k, k ≠ 57 → k ≠ 58 → W k = C k := fun k h1 h2 => by rw [← eW, up2_n h1, up2_n h2]
      have W57 : W 57 = upd (C 57) 3 0 := by rw [← eW, up2_s, up2_n (by decide)]
      have W58 : W 58 = upd (C 58) r (-1) := by rw [← eW, up2_n (by decide), up2_s]
      refine rel_row H (fun k h1 h2 h3 h4 h5 h6 => ?_) (fun j hj => ?_) ?_ ?_
      · rw [Wf k h3 h4, Cf k h1 (by omega)]
      · rw [W57, upd_ne hj, Cf 57 (by decide) (by omega)]
      · rw [W57, upd_eq, Wf 0 (by decide) (by decide), ← eC, up2_ss]
      · refine rows_one H.rows (r := r) (fun r' hr' hne => ⟨?_, ?_, ?_, ?_, fun i hi => ?_⟩) ?_
        · rw [Wf _ (by omega) (by omega), Cf _ (by omega) (by omega)]
        · rw [Wf _ (by omega) (by omega), Cf _ (by omega) (by omega)]
        · rw [W58, upd_ne hne, Cf _ (by omega) (by omega)]
        · rw [Wf _ (by omega) (by omega), Cf _ (by omega) (by omega)]
        · rw [Wf _ (by omega) (by omega), Cf _ (by omega) (by omega)]
        · have C2 : ∀ j, j ≠ 3 → C (2 + r) j = g (2 + r) j := fun j hj => by rw [← eC, up2_n (by omega), up2_sn hj]
          have C3 : C (2 + r) 3 = 1 := by rw [← eC, up2_n (by omega), up2_ss]
          unfold m_Row1
          rw [Wf (2 + r) (by omega) (by omega), Wf 59 (by omega) (by omega), Wf (10 + r) (by omega) (by omega), Wf 60 (by omega) (by omega), W58, upd_eq, C3, C2 2 (by decide), Cf 59 (by omega) (by omega), Cf (10 + r) (by omega) (by omega), Cf 60 (by omega) (by omega)]
          exact ⟨Or.inr ⟨rfl, rfl⟩, b2, b3, b4⟩
  · exact T_found H 1 (by simp only [f_X11_drop]; rw [e_row, if_neg c1, er, if_neg c2]) (fun q hq => by
      simp only [f_X12_drop]
      rw [if_neg c1, if_neg (fun h => c2 ((null_iff H (hq 58 (by decide)) hr).mp h))])
end M15
