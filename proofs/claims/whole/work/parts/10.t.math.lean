/-! THE MATH 20: signs, numbers, the law of a house -/
def qX (X X1 : wx_M) : Prop := ∀ k, k ≠ 18 → X1 k = X k
def qY (Y Y1 : wx_M) : Prop := (∀ k, k ≠ 57 → Y1 k = Y k) ∧ ∀ j, j ≠ 6 → j ≠ 7 → j ≠ 8 → j ≠ 9 → j ≠ 10 → Y1 57 j = Y 57 j
section M20
variable {L : Nat → Int32} {len : Nat} {X Y X2 Y2 : wx_M}
theorem md_step (hlen : len ≤ 140) (hb : ∀ i, i < len → wx_b (L i) 0 255) (M : md L len X Y) (e1 : X2 18 1 = X 18 1) (e2 : X2 18 2 = X 18 2) (e5 : X2 18 5 = X 18 5) (e19 : X2 19 = X 19) (d4 : Y2 57 4 = Y 57 4) (d6 : Y2 57 6 = Y 57 6) (d10 : Y2 57 10 = Y 57 10) (d61 : Y2 61 = Y 61) : sm L len (e_X6_step X2) Y2 := by
  obtain ⟨m1, m2, m3, m4, m5, m6, ⟨p, hp, m7, m8⟩, m9, m10⟩ := M
  exact sm_base hlen hb hp (by rw [e1, m1]) (by rw [e19]; exact m2) (by rw [d4, m3]) (by rw [d61]; exact m4) (by rw [e2, d10, m5]) (by rw [e5, m7]) (by rw [d6, m8])
theorem md_flt (M : md L len X Y) (n : Int32) : flt (f_X6_faulty X n).1 (f_X12_fails Y n).1 := by
  obtain ⟨m1, m2, m3, m4, m5, m6, m7, m8, m9⟩ := M
  simp only [f_X6_faulty, f_X12_fails]
  refine ⟨?_, ?_⟩
  · rw [up2_sn (by decide), up2_ss, up2_ss]
  · rw [up2_ss, up2_sn (by decide), up2_sn (by decide), m6]
theorem qX_faulty (X : wx_M) (n : Int32) : qX X (f_X6_faulty X n).1 := fun k hk => fr_X6_faulty hk
theorem qY_next (Y : wx_M) : qY Y (e_X12_nextToken Y) := ⟨fun k hk => fr_X12_nextToken hk, fun j h6 h7 h8 h9 h10 => fj_X12_nextToken h6 h7 h8 h9 h10⟩
theorem qY_fails (Y : wx_M) (n : Int32) : qY Y (f_X12_fails (e_X12_nextToken Y) n).1 := ⟨fun k hk => by rw [fr_X12_fails hk, fr_X12_nextToken hk], fun j h6 h7 h8 h9 h10 => by rw [fj_X12_fails h6 h7 h8 h9 h10, fj_X12_nextToken h6 h7 h8 h9 h10]⟩
theorem sim_sign (hlen : len ≤ 140) (hb : ∀ i, i < len → wx_b (L i) 0 255) (S : sm L len X Y) {w : Int32} (hw : ∀ c d, tkb c d → (c = w ↔ d = w)) :
    ∃ X1 Y1, qX X X1 ∧ qY Y Y1 ∧ ((f_X6_take X w = (X1, 1) ∧ f_X12_isSign Y w = (Y1, 1) ∧ sm L len X1 Y1 ∧ X 18 6 = w ∧ X1 = e_X6_step X ∧ Y1 = e_X12_nextToken Y) ∨ (f_X6_take X w = (X1, 0) ∧ f_X12_isSign Y w = (Y1, 0) ∧ flt X1 Y1 ∧ ¬ X 18 6 = w)) := by
  have ht := hw _ _ S.2.2.2.2.2.2.2.1
  by_cases c : X 18 6 = w
  · refine ⟨e_X6_step X, e_X12_nextToken Y, fun k hk => fr_X6_step hk, qY_next Y, Or.inl ⟨?_, ?_, ?_, c, rfl, rfl⟩⟩
    · simp only [f_X6_take]
      rw [if_pos c]
    · simp only [f_X12_isSign]
      rw [if_pos (ht.mp c)]
    · exact md_step hlen hb S rfl rfl rfl rfl rfl rfl rfl rfl
  · refine ⟨(f_X6_faulty X 1).1, (f_X12_fails (e_X12_nextToken Y) 1).1, qX_faulty X 1, qY_fails Y 1, Or.inr ⟨?_, ?_, md_flt S 1, c⟩⟩
    · simp only [f_X6_take]
      rw [if_neg c]
      rfl
    · simp only [f_X12_isSign]
      rw [if_neg (fun q => c (ht.mpr q))]
      simp only [f_X12_fails, if_true]
theorem sim_num (S : sm L len X Y) (a b : Int32) :
    ∃ X1 Y1 n, qX X X1 ∧ qY Y Y1 ∧ ((f_X6_numberStands X a b = (X, 1) ∧ f_X12_isNext Y a b = (Y1, 1) ∧ md L len X Y1 ∧ X 18 7 = n ∧ Y1 57 9 = n ∧ a.toInt ≤ n.toInt ∧ n.toInt ≤ b.toInt) ∨ (f_X6_numberStands X a b = (X1, 0) ∧ f_X12_isNext Y a b = (Y1, 0) ∧ flt X1 Y1)) := by
  have ht := S.2.2.2.2.2.2.2.1.2.2.2.2.2.2.2.2.2.2.2
  have hn := S.2.2.2.2.2.2.2.2
  by_cases c : X 18 6 = -3
  · have e9 := hn c
    by_cases c2 : X 18 7 < a
    · have d2 : r_X12_in (e_X12_nextToken Y 57 9) a b = 0 := in_iff.mpr (Or.inl (by rw [← e9]; exact Int32.lt_iff_toInt_lt.mp c2))
      refine ⟨(f_X6_faulty X 2).1, (f_X12_fails (e_X12_nextToken Y) 2).1, 0, qX_faulty X 2, qY_fails Y 2, Or.inr ⟨?_, ?_, md_flt S 2⟩⟩
      · simp only [f_X6_numberStands]
        rw [if_pos c, if_pos c2]
        rfl
      · simp only [f_X12_isNext]
        rw [if_pos (ht.mp c), if_pos d2]
        simp only [f_X12_fails, if_true]
    · by_cases c3 : X 18 7 ≤ b
      · have e1 := Int32.le_iff_toInt_le.mp (Int32.not_lt.mp c2)
        have e2 := Int32.le_iff_toInt_le.mp c3
        have d2 : ¬ r_X12_in (e_X12_nextToken Y 57 9) a b = 0 := fun q => by
          have := in_iff.mp q
          rw [← e9] at this
          omega
        refine ⟨X, e_X12_nextToken Y, X 18 7, fun _ _ => rfl, qY_next Y, Or.inl ⟨?_, ?_, S, rfl, e9.symm, e1, e2⟩⟩
        · simp only [f_X6_numberStands]
          rw [if_pos c, if_neg c2, if_pos c3]
        · simp only [f_X12_isNext]
          rw [if_pos (ht.mp c), if_neg d2]
      · have d2 : r_X12_in (e_X12_nextToken Y 57 9) a b = 0 := in_iff.mpr (Or.inr (by rw [← e9]; exact Int32.lt_iff_toInt_lt.mp (Int32.not_le.mp c3)))
        refine ⟨(f_X6_faulty X 2).1, (f_X12_fails (e_X12_nextToken Y) 2).1, 0, qX_faulty X 2, qY_fails Y 2, Or.inr ⟨?_, ?_, md_flt S 2⟩⟩
        · simp only [f_X6_numberStands]
          rw [if_pos c, if_neg c2, if_neg c3]
          rfl
        · simp only [f_X12_isNext]
          rw [if_pos (ht.mp c), if_pos d2]
          simp only [f_X12_fails, if_true]
  · refine ⟨(f_X6_faulty X 1).1, (f_X12_fails (e_X12_nextToken Y) 1).1, 0, qX_faulty X 1, qY_fails Y 1, Or.inr ⟨?_, ?_, md_flt S 1⟩⟩
    · simp only [f_X6_numberStands]
      rw [if_neg c]
      rfl
    · simp only [f_X12_isNext]
      rw [if_neg (fun q => c (ht.mpr q))]
      rfl
theorem tk104 (c d : Int32) (h : tkb c d) : c = 104 ↔ d = 104 := h.1
theorem tk44 (c d : Int32) (h : tkb c d) : c = 44 ↔ d = 44 := h.2.1
theorem tk59 (c d : Int32) (h : tkb c d) : c = 59 ↔ d = 59 := h.2.2.1
theorem tk103 {c d : Int32} (h : tkb c d) : c = 103 ↔ d = 103 := h.2.2.2.1
theorem tk114 {c d : Int32} (h : tkb c d) : c = 114 ↔ d = 114 := h.2.2.2.2.1
theorem tk97 {c d : Int32} (h : tkb c d) : c = 97 ↔ d = 97 := h.2.2.2.2.2.1
theorem tk100 {c d : Int32} (h : tkb c d) : c = 100 ↔ d = 100 := h.2.2.2.2.2.2.1
theorem tk108 {c d : Int32} (h : tkb c d) : c = 108 ↔ d = 108 := h.2.2.2.2.2.2.2.1
theorem tk116 {c d : Int32} (h : tkb c d) : c = 116 ↔ d = 116 := h.2.2.2.2.2.2.2.2.1
theorem tk119 {c d : Int32} (h : tkb c d) : c = 119 ↔ d = 119 := h.2.2.2.2.2.2.2.2.2.1
theorem tkE {c d : Int32} (h : tkb c d) : c = -1 ↔ d = -2 := h.2.2.2.2.2.2.2.2.2.2.1
theorem isLaw_eq (Y : wx_M) : f_X12_isLaw Y = (if (f_X12_isSign Y 104).2 = 0 then ((f_X12_isSign Y 104).1, 0) else
    (let z_4 := f_X12_isNext (f_X12_isSign Y 104).1 2 6
    if z_4.2 = 0 then
      (z_4.1, 0)
    else
      let z_9 := f_X12_isSign (up2 z_4.1 57 11 (z_4.1 57 9)) 44
      if z_9.2 = 0 then
        (z_9.1, 0)
      else
        let z_12 := f_X12_isNext z_9.1 1 5
        if z_12.2 = 0 then
          (z_12.1, 0)
        else
          let z_17 := f_X12_isSign (up2 z_12.1 57 12 (z_12.1 57 9)) 44
          if z_17.2 = 0 then
            (z_17.1, 0)
          else
            let z_20 := f_X12_isNext z_17.1 0 20
            if z_20.2 = 0 then
              (z_20.1, 0)
            else
              let z_25 := f_X12_isSign (up2 z_20.1 57 13 (z_20.1 57 9)) 59
              (z_25.1, z_25.2))) := by
  by_cases c : (e_X12_nextToken Y) 57 8 = 104
  · have e : f_X12_isSign Y 104 = (e_X12_nextToken Y, 1) := by
      simp only [f_X12_isSign]
      rw [if_pos c]
    simp only [f_X12_isLaw]
    rw [if_pos c, e, if_neg (show ¬ (1 : Int32) = 0 by decide)]
  · have e : f_X12_isSign Y 104 = ((f_X12_fails (e_X12_nextToken Y) 1).1, 0) := by
      simp only [f_X12_isSign]
      rw [if_neg c]
      simp only [f_X12_fails, if_true]
    simp only [f_X12_isLaw]
    rw [if_neg c, e, if_pos rfl]
    rfl
theorem sim_law (hlen : len ≤ 140) (hb : ∀ i, i < len → wx_b (L i) 0 255) (S : sm L len X Y) :
    ∃ X1 Y1, (f_X6_readLaw X 27 = (X1, 1) ∧ f_X12_isLaw Y = (Y1, 1) ∧ sm L len X1 Y1 ∧ (∀ k, k ≠ 18 → k ≠ 27 → X1 k = X k) ∧ (∀ j, 3 ≤ j → X1 27 j = X 27 j) ∧ (∀ k, k ≠ 57 → Y1 k = Y k) ∧ (∀ j, 14 ≤ j → Y1 57 j = Y 57 j) ∧ X1 27 0 = Y1 57 11 ∧ X1 27 1 = Y1 57 12 ∧ X1 27 2 = Y1 57 13 ∧ wx_b (Y1 57 11) 2 6 ∧ wx_b (Y1 57 12) 1 5 ∧ wx_b (Y1 57 13) 0 20) ∨ (f_X6_readLaw X 27 = (X1, 0) ∧ f_X12_isLaw Y = (Y1, 0) ∧ flt X1 Y1 ∧ (∀ k, k ≠ 18 → k ≠ 27 → X1 k = X k) ∧ (∀ j, 3 ≤ j → X1 27 j = X 27 j) ∧ (∀ k, k ≠ 57 → Y1 k = Y k) ∧ (∀ j, 14 ≤ j → Y1 57 j = Y 57 j)) := by
  rw [isLaw_eq]
  simp only [f_X6_readLaw]
  have n1 : ¬ (1 : Int32) = 0 := by decide
  obtain ⟨X1, Y1, x1, y1, ⟨e1, d1, S1, -⟩ | ⟨e1, d1, F1, -⟩⟩ := sim_sign hlen hb S tk104
  · rw [e1, d1]
    simp only [if_neg n1]
    obtain ⟨XF, Y2, n, x2, y2, ⟨e2, d2, M2, k1, k2, k3, k4⟩ | ⟨e2, d2, F2⟩⟩ := sim_num S1 2 6
    · rw [e2, d2]
      simp only [if_neg n1, k1, k2]
      have S2 : sm L len (e_X6_step (up2 X1 27 0 n)) (up2 Y2 57 11 n) := md_step hlen hb M2 (by rw [up2_n (by decide)]) (by rw [up2_n (by decide)]) (by rw [up2_n (by decide)]) (by rw [up2_n (by decide)]) (by rw [up2_sn (by decide)]) (by rw [up2_sn (by decide)]) (by rw [up2_sn (by decide)]) (by rw [up2_n (by decide)])
      have s2x : ∀ k, k ≠ 18 → k ≠ 27 → e_X6_step (up2 X1 27 0 n) k = X k := fun k h1 h2 => by rw [fr_X6_step h1, up2_n h2, x1 k h1]
      have s2j : ∀ j, j ≠ 0 → e_X6_step (up2 X1 27 0 n) 27 j = X 27 j := fun j hj => by rw [fr_X6_step (by decide), up2_sn hj, x1 27 (by decide)]
      have s20 : e_X6_step (up2 X1 27 0 n) 27 0 = n := by rw [fr_X6_step (by decide), up2_ss]
      have t2k : ∀ k, k ≠ 57 → up2 Y2 57 11 n k = Y k := fun k hk => by rw [up2_n hk, y2.1 k hk, y1.1 k hk]
      have t2j : ∀ j, 14 ≤ j → up2 Y2 57 11 n 57 j = Y 57 j := fun j hj => by rw [up2_sn (by omega), y2.2 j (by omega) (by omega) (by omega) (by omega) (by omega), y1.2 j (by omega) (by omega) (by omega) (by omega) (by omega)]
      have t20 : up2 Y2 57 11 n 57 11 = n := up2_ss _ _ _ _
      generalize e_X6_step (up2 X1 27 0 n) = X2 at S2 s2x s2j s20 ⊢
      generalize up2 Y2 57 11 n = Y2' at S2 t2k t2j t20 ⊢
      obtain ⟨X3, Y3, x3, y3, ⟨e3, d3, S3, -⟩ | ⟨e3, d3, F3, -⟩⟩ := sim_sign hlen hb S2 tk44
      · rw [e3, d3]
        simp only [if_neg n1]
        obtain ⟨XF4, Y4, m, x4, y4, ⟨e4, d4, M4, k5, k6, k7, k8⟩ | ⟨e4, d4, F4⟩⟩ := sim_num S3 1 5
        · rw [e4, d4]
          simp only [if_neg n1, k5, k6]
          have S4 : sm L len (e_X6_step (up2 X3 27 1 m)) (up2 Y4 57 12 m) := md_step hlen hb M4 (by rw [up2_n (by decide)]) (by rw [up2_n (by decide)]) (by rw [up2_n (by decide)]) (by rw [up2_n (by decide)]) (by rw [up2_sn (by decide)]) (by rw [up2_sn (by decide)]) (by rw [up2_sn (by decide)]) (by rw [up2_n (by decide)])
          have s4x : ∀ k, k ≠ 18 → k ≠ 27 → e_X6_step (up2 X3 27 1 m) k = X k := fun k h1 h2 => by rw [fr_X6_step h1, up2_n h2, x3 k h1, s2x k h1 h2]
          have s4j : ∀ j, 2 ≤ j → e_X6_step (up2 X3 27 1 m) 27 j = X 27 j := fun j hj => by rw [fr_X6_step (by decide), up2_sn (by omega), x3 27 (by decide), s2j j (by omega)]
          have s40 : e_X6_step (up2 X3 27 1 m) 27 0 = n := by rw [fr_X6_step (by decide), up2_sn (by decide), x3 27 (by decide), s20]
          have s41 : e_X6_step (up2 X3 27 1 m) 27 1 = m := by rw [fr_X6_step (by decide), up2_ss]
          have t4k : ∀ k, k ≠ 57 → up2 Y4 57 12 m k = Y k := fun k hk => by rw [up2_n hk, y4.1 k hk, y3.1 k hk, t2k k hk]
          have t4j : ∀ j, 14 ≤ j → up2 Y4 57 12 m 57 j = Y 57 j := fun j hj => by rw [up2_sn (by omega), y4.2 j (by omega) (by omega) (by omega) (by omega) (by omega), y3.2 j (by omega) (by omega) (by omega) (by omega) (by omega), t2j j hj]
          have t40 : up2 Y4 57 12 m 57 11 = n := by rw [up2_sn (by decide), y4.2 11 (by decide) (by decide) (by decide) (by decide) (by decide), y3.2 11 (by decide) (by decide) (by decide) (by decide) (by decide), t20]
          have t41 : up2 Y4 57 12 m 57 12 = m := up2_ss _ _ _ _
          generalize e_X6_step (up2 X3 27 1 m) = X4 at S4 s4x s4j s40 s41 ⊢
          generalize up2 Y4 57 12 m = Y4' at S4 t4k t4j t40 t41 ⊢
          obtain ⟨X5, Y5, x5, y5, ⟨e5, d5, S5, -⟩ | ⟨e5, d5, F5, -⟩⟩ := sim_sign hlen hb S4 tk44
          · rw [e5, d5]
            simp only [if_neg n1]
            obtain ⟨XF6, Y6, o, x6, y6, ⟨e6, d6, M6, k9, k10, k11, k12⟩ | ⟨e6, d6, F6⟩⟩ := sim_num S5 0 20
            · rw [e6, d6]
              simp only [if_neg n1, k9, k10]
              have S6 : sm L len (e_X6_step (up2 X5 27 2 o)) (up2 Y6 57 13 o) := md_step hlen hb M6 (by rw [up2_n (by decide)]) (by rw [up2_n (by decide)]) (by rw [up2_n (by decide)]) (by rw [up2_n (by decide)]) (by rw [up2_sn (by decide)]) (by rw [up2_sn (by decide)]) (by rw [up2_sn (by decide)]) (by rw [up2_n (by decide)])
              have s6x : ∀ k, k ≠ 18 → k ≠ 27 → e_X6_step (up2 X5 27 2 o) k = X k := fun k h1 h2 => by rw [fr_X6_step h1, up2_n h2, x5 k h1, s4x k h1 h2]
              have s6j : ∀ j, 3 ≤ j → e_X6_step (up2 X5 27 2 o) 27 j = X 27 j := fun j hj => by rw [fr_X6_step (by decide), up2_sn (by omega), x5 27 (by decide), s4j j (by omega)]
              have s60 : e_X6_step (up2 X5 27 2 o) 27 0 = n := by rw [fr_X6_step (by decide), up2_sn (by decide), x5 27 (by decide), s40]
              have s61 : e_X6_step (up2 X5 27 2 o) 27 1 = m := by rw [fr_X6_step (by decide), up2_sn (by decide), x5 27 (by decide), s41]
              have s62 : e_X6_step (up2 X5 27 2 o) 27 2 = o := by rw [fr_X6_step (by decide), up2_ss]
              have t6k : ∀ k, k ≠ 57 → up2 Y6 57 13 o k = Y k := fun k hk => by rw [up2_n hk, y6.1 k hk, y5.1 k hk, t4k k hk]
              have t6j : ∀ j, 14 ≤ j → up2 Y6 57 13 o 57 j = Y 57 j := fun j hj => by rw [up2_sn (by omega), y6.2 j (by omega) (by omega) (by omega) (by omega) (by omega), y5.2 j (by omega) (by omega) (by omega) (by omega) (by omega), t4j j hj]
              have t60 : up2 Y6 57 13 o 57 11 = n := by rw [up2_sn (by decide), y6.2 11 (by decide) (by decide) (by decide) (by decide) (by decide), y5.2 11 (by decide) (by decide) (by decide) (by decide) (by decide), t40]
              have t61 : up2 Y6 57 13 o 57 12 = m := by rw [up2_sn (by decide), y6.2 12 (by decide) (by decide) (by decide) (by decide) (by decide), y5.2 12 (by decide) (by decide) (by decide) (by decide) (by decide), t41]
              have t62 : up2 Y6 57 13 o 57 13 = o := up2_ss _ _ _ _
              generalize e_X6_step (up2 X5 27 2 o) = X6 at S6 s6x s6j s60 s61 s62 ⊢
              generalize up2 Y6 57 13 o = Y6' at S6 t6k t6j t60 t61 t62 ⊢
              obtain ⟨X7, Y7, x7, y7, ⟨e7, d7, S7, -⟩ | ⟨e7, d7, F7, -⟩⟩ := sim_sign hlen hb S6 tk59
              · rw [e7, d7]
                have q0 : X7 27 0 = n := by rw [x7 27 (by decide), s60]
                have q1 : X7 27 1 = m := by rw [x7 27 (by decide), s61]
                have q2 : X7 27 2 = o := by rw [x7 27 (by decide), s62]
                have r0 : Y7 57 11 = n := by rw [y7.2 11 (by decide) (by decide) (by decide) (by decide) (by decide), t60]
                have r1 : Y7 57 12 = m := by rw [y7.2 12 (by decide) (by decide) (by decide) (by decide) (by decide), t61]
                have r2 : Y7 57 13 = o := by rw [y7.2 13 (by decide) (by decide) (by decide) (by decide) (by decide), t62]
                refine ⟨X7, Y7, Or.inl ⟨rfl, rfl, S7, fun k h1 h2 => by rw [x7 k h1, s6x k h1 h2], fun j hj => by rw [x7 27 (by decide), s6j j hj], fun k hk => by rw [y7.1 k hk, t6k k hk], fun j hj => by rw [y7.2 j (by omega) (by omega) (by omega) (by omega) (by omega), t6j j hj], by rw [q0, r0], by rw [q1, r1], by rw [q2, r2], ?_, ?_, ?_⟩⟩
                · rw [r0]; exact ⟨k3, k4⟩
                · rw [r1]; exact ⟨k7, k8⟩
                · rw [r2]; exact ⟨k11, k12⟩
              · rw [e7, d7]
                exact ⟨X7, Y7, Or.inr ⟨rfl, rfl, F7, fun k h1 h2 => by rw [x7 k h1, s6x k h1 h2], fun j hj => by rw [x7 27 (by decide), s6j j hj], fun k hk => by rw [y7.1 k hk, t6k k hk], fun j hj => by rw [y7.2 j (by omega) (by omega) (by omega) (by omega) (by omega), t6j j hj]⟩⟩
            · rw [e6, d6]
              simp only [if_true]
              exact ⟨XF6, Y6, Or.inr ⟨rfl, rfl, F6, fun k h1 h2 => by rw [x6 k h1, x5 k h1, s4x k h1 h2], fun j hj => by rw [x6 27 (by decide), x5 27 (by decide), s4j j (by omega)], fun k hk => by rw [y6.1 k hk, y5.1 k hk, t4k k hk], fun j hj => by rw [y6.2 j (by omega) (by omega) (by omega) (by omega) (by omega), y5.2 j (by omega) (by omega) (by omega) (by omega) (by omega), t4j j hj]⟩⟩
          · rw [e5, d5]
            simp only [if_true]
            exact ⟨X5, Y5, Or.inr ⟨rfl, rfl, F5, fun k h1 h2 => by rw [x5 k h1, s4x k h1 h2], fun j hj => by rw [x5 27 (by decide), s4j j (by omega)], fun k hk => by rw [y5.1 k hk, t4k k hk], fun j hj => by rw [y5.2 j (by omega) (by omega) (by omega) (by omega) (by omega), t4j j hj]⟩⟩
        · rw [e4, d4]
          simp only [if_true]
          exact ⟨XF4, Y4, Or.inr ⟨rfl, rfl, F4, fun k h1 h2 => by rw [x4 k h1, x3 k h1, s2x k h1 h2], fun j hj => by rw [x4 27 (by decide), x3 27 (by decide), s2j j (by omega)], fun k hk => by rw [y4.1 k hk, y3.1 k hk, t2k k hk], fun j hj => by rw [y4.2 j (by omega) (by omega) (by omega) (by omega) (by omega), y3.2 j (by omega) (by omega) (by omega) (by omega) (by omega), t2j j hj]⟩⟩
      · rw [e3, d3]
        simp only [if_true]
        exact ⟨X3, Y3, Or.inr ⟨rfl, rfl, F3, fun k h1 h2 => by rw [x3 k h1, s2x k h1 h2], fun j hj => by rw [x3 27 (by decide), s2j j (by omega)], fun k hk => by rw [y3.1 k hk, t2k k hk], fun j hj => by rw [y3.2 j (by omega) (by omega) (by omega) (by omega) (by omega), t2j j hj]⟩⟩
    · rw [e2, d2]
      simp only [if_true]
      exact ⟨XF, Y2, Or.inr ⟨rfl, rfl, F2, fun k h1 h2 => by rw [x2 k h1, x1 k h1], fun j hj => by rw [x2 27 (by decide), x1 27 (by decide)], fun k hk => by rw [y2.1 k hk, y1.1 k hk], fun j hj => by rw [y2.2 j (by omega) (by omega) (by omega) (by omega) (by omega), y1.2 j (by omega) (by omega) (by omega) (by omega) (by omega)]⟩⟩
  · rw [e1, d1]
    simp only [if_true]
    exact ⟨X1, Y1, Or.inr ⟨rfl, rfl, F1, fun k h1 h2 => x1 k h1, fun j hj => by rw [x1 27 (by decide)], fun k hk => y1.1 k hk, fun j hj => y1.2 j (by omega) (by omega) (by omega) (by omega) (by omega)⟩⟩
end M20
