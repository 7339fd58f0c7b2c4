/-! THE MATH 24: the text of a house is read alike -/
theorem or6_all : ∀ (x : Fin 64) (b : Fin 6), 0 ≤ (nI x.val ||| bt b.val).toInt ∧ (nI x.val ||| bt b.val).toInt ≤ 63 := by decide +kernel
theorem or6h_all : ∀ (x : Fin 64) (b c : Fin 6), b ≠ c → r_X12_has (nI x.val ||| bt b.val) (nI c.val) = r_X12_has (nI x.val) (nI c.val) := by decide +kernel
theorem or6 {x : Int32} (h : wx_b x 0 63) {b : Nat} (hb : b < 6) : wx_b (x ||| bt b) 0 63 := by
  obtain ⟨i, h1, rfl⟩ := m_ex (n := 63) h
  exact or6_all ⟨i, by omega⟩ ⟨b, hb⟩
theorem or6h {x : Int32} (h : wx_b x 0 63) {b c : Nat} (hb : b < 6) (hc : c < 6) (hbc : b ≠ c) : r_X12_has (x ||| bt b) (nI c) = r_X12_has x (nI c) := by
  obtain ⟨i, h1, rfl⟩ := m_ex (n := 63) h
  exact or6h_all ⟨i, by omega⟩ ⟨b, hb⟩ ⟨c, hc⟩ (fun q => hbc (congrArg Fin.val q))
theorem has0_all : ∀ c : Fin 8, r_X12_has 0 (nI c.val) = 0 := by decide +kernel
/-- windows: bits of rooms, never its own -/
theorem wnd_ok {R : Nat → Int32} : ∀ {w : Nat}, (∀ t, t < w → ∃ i j, i < 6 ∧ j < 6 ∧ i ≠ j ∧ R (2 * t) = nI i ∧ R (2 * t + 1) = nI j) → ∀ a, a < 6 → wx_b (wnd R w a) 0 63 ∧ r_X12_has (wnd R w a) (nI a) = 0
  | 0, _, a, ha => (show wx_b (0 : Int32) 0 63 ∧ r_X12_has 0 (nI a) = 0 from ⟨⟨by decide, by decide⟩, has0_all ⟨a, by omega⟩⟩)
  | w + 1, h, a, ha => by
    have ih := wnd_ok (R := R) (w := w) (fun t ht => h t (by omega))
    obtain ⟨i, j, hi, hj, hij, e0, e1⟩ := h w (by omega)
    simp only [wnd]
    rw [e0, e1, ix (show i < 1000 by omega), ix (show j < 1000 by omega)]
    by_cases c : a = j
    · rw [c, upd_eq, upd_ne (Ne.symm hij)]
      obtain ⟨b1, b2⟩ := ih j hj
      exact ⟨or6 b1 hi, by rw [or6h b1 hi hj hij]; exact b2⟩
    · rw [upd_ne c]
      by_cases c2 : a = i
      · rw [c2, upd_eq]
        obtain ⟨b1, b2⟩ := ih i hi
        exact ⟨or6 b1 hj, by rw [or6h b1 hj hi (Ne.symm hij)]; exact b2⟩
      · rw [upd_ne c2]
        exact ih a ha
theorem readWalls_eq (g X : wx_M) : f_X6_readWalls X 27 = cW g X 0 := by
  have ef : (fun r => b_X6_readWalls_2 g 27 (0 + r)) = b_X6_readWalls_2 X 27 := by
    funext r s
    rw [Nat.zero_add]
    rfl
  simp only [f_X6_readWalls]
  unfold cW
  rw [ef, Nat.sub_zero]
  cases repX 10 (b_X6_readWalls_2 X 27) X <;> rfl
theorem readPeople_eq (g X : wx_M) : f_X6_readPeople X 27 = cP g X 0 := by
  have ef : (fun r => b_X6_readPeople_2 g 27 (0 + r)) = b_X6_readPeople_2 X 27 := by
    funext r s
    rw [Nat.zero_add]
    rfl
  simp only [f_X6_readPeople]
  unfold cP
  rw [ef, Nat.sub_zero]
  cases repX 5 (b_X6_readPeople_2 X 27) X <;> rfl
theorem readVisitors_eq (g X : wx_M) : f_X6_readVisitors X 27 = cV g X 0 := by
  have ef : (fun r => b_X6_readVisitors_2 g 27 (0 + r)) = b_X6_readVisitors_2 X 27 := by
    funext r s
    rw [Nat.zero_add]
    rfl
  simp only [f_X6_readVisitors]
  unfold cV
  rw [ef, Nat.sub_zero]
  cases repX 5 (b_X6_readVisitors_2 X 27) X <;> rfl
theorem readInto_eq (g : wx_M) : f_X6_readInto g 27 = (if (f_X6_readLaw (e_X6_step (up2 (e_X3_forgetTold g 27) 18 5 0)) 27).2 = 0 then ((f_X6_readLaw (e_X6_step (up2 (e_X3_forgetTold g 27) 18 5 0)) 27).1, 0) else tP g (cW g (f_X6_readLaw (e_X6_step (up2 (e_X3_forgetTold g 27) 18 5 0)) 27).1 0)) := by
  simp only [f_X6_readInto, readWalls_eq g, readPeople_eq g, readVisitors_eq g]
  unfold tP tV tE
  rfl
def y4 (C : wx_M) : wx_M := up2 (up2 (up2 (up2 C 57 6 0) 57 14 0) 57 16 0) 57 18 0
theorem b25_eq (a b c d e : wx_M) (z : wx_M × Int32) : b_X12_isRead_25 a b c d e z = fun _ s => FR s := by
  funext t s
  rfl
theorem isRead_u (C : wx_M) : f_X12_isRead C = (match repX 142 (fun _ s => FR s) (f_X12_isLaw (y4 C)) with
  | .inl _ => (C, 0)
  | .inr r9 => r9) := by
  unfold f_X12_isRead
  simp only [b25_eq]
  have hy : up2 (up2 (up2 (up2 C 57 6 0) 57 14 0) 57 16 0) 57 18 0 = y4 C := rfl
  rw [hy]
  generalize f_X12_isLaw (y4 C) = z
  obtain ⟨z1, z2⟩ := z
  dsimp only
  generalize repX 142 (fun _ s => FR s) (z1, z2) = q
  cases q <;> rfl
theorem isRead_eq {C : wx_M} {r : wx_M × Int32} (h : rn 142 (f_X12_isLaw (y4 C)) = .inr r) : f_X12_isRead C = r := by
  unfold rn at h
  rw [isRead_u, h]
theorem law_lo (Y : wx_M) {j : Nat} (hj : j < 6) : (f_X12_isLaw Y).1 57 j = Y 57 j := by
  rw [isLaw_eq]
  have s : ∀ (Z : wx_M) (w : Int32), (f_X12_isSign Z w).1 57 j = Z 57 j := fun Z w => fj_X12_isSign (by omega) (by omega) (by omega) (by omega) (by omega)
  have n : ∀ (Z : wx_M) (a b : Int32), (f_X12_isNext Z a b).1 57 j = Z 57 j := fun Z a b => fj_X12_isNext (by omega) (by omega) (by omega) (by omega) (by omega)
  have u11 : ∀ (Z : wx_M) (v : Int32), up2 Z 57 11 v 57 j = Z 57 j := fun Z v => up2_sn (by omega)
  have u12 : ∀ (Z : wx_M) (v : Int32), up2 Z 57 12 v 57 j = Z 57 j := fun Z v => up2_sn (by omega)
  have u13 : ∀ (Z : wx_M) (v : Int32), up2 Z 57 13 v 57 j = Z 57 j := fun Z v => up2_sn (by omega)
  dsimp only
  (repeat' split) <;> simp only [s, n, u11, u12, u13]
theorem read_all {g C : wx_M} {K : Nat} (H : m_Rel K g) (hC : ∀ k, 57 ≤ k → C k = g k) :
    ∃ X1 Y1 b w m v, f_X6_readInto g 27 = (X1, b) ∧ f_X12_isRead C = (Y1, b) ∧ xfr g X1 ∧ yfr C Y1 ∧ ((b = 1 ∧ dR X1 Y1 w m v ∧ X1 18 2 = Y1 57 10) ∨ (b = 0 ∧ flt X1 Y1)) := by
  obtain ⟨len, hlen, en⟩ := m_ex (n := 140) H.pr.1
  obtain ⟨t1, t2⟩ := H.tape
  rw [en] at t1 t2
  rw [ix (show len < 1000 by omega)] at t2
  have hb : ∀ i, i < len → wx_b (g 61 i) 0 255 := fun i hi => (t2 i hi).2
  have f27 : ∀ j, e_X3_forgetTold g 27 27 j = upd (upd (upd (g 27) 3 0) 4 0) 5 0 j := fun j => by
    simp only [e_X3_forgetTold]
    rw [fill_eq _ _ _ (by decide), upR_n (by decide), up2_s, up2_s, up2_s]
  have f28 : ∀ a, a < 6 → e_X3_forgetTold g 27 28 a = 0 := fun a ha => by
    simp only [e_X3_forgetTold]
    rw [fill_eq _ _ _ (by decide), upR_s, if_pos ha]
  have S : sm (g 61) len (e_X6_step (up2 (e_X3_forgetTold g 27) 18 5 0)) (y4 C) := by
    refine sm_base (p := 0) hlen hb (Nat.zero_le _) ?_ ?_ ?_ ?_ ?_ ?_ ?_
    · rw [up2_sn (by decide), fr_forgetTold (by decide) (by decide)]; exact t1
    · intro i hi
      rw [up2_n (by decide), fr_forgetTold (by decide) (by decide)]; exact (t2 i hi).1
    · unfold y4
      rw [up2_sn (by decide), up2_sn (by decide), up2_sn (by decide), up2_sn (by decide), hC 57 (by decide)]; exact en
    · intro i hi
      unfold y4
      rw [up2_n (by decide), up2_n (by decide), up2_n (by decide), up2_n (by decide), hC 61 (by decide)]
    · unfold y4
      rw [up2_sn (by decide), fr_forgetTold (by decide) (by decide), up2_sn (by decide), up2_sn (by decide), up2_sn (by decide), up2_sn (by decide), hC 57 (by decide)]; exact H.flt
    · rw [up2_ss]; exact nI_0.symm
    · unfold y4
      rw [up2_sn (by decide), up2_sn (by decide), up2_sn (by decide), up2_ss]; exact nI_0.symm
  have xf0 : xfr g (e_X6_step (up2 (e_X3_forgetTold g 27) 18 5 0)) := by
    refine ⟨fun k h1 h2 => ?_, fun j hj => ?_, ?_, ?_⟩
    · rw [fr_X6_step h1, up2_n h1, fr_forgetTold (by omega) (by omega)]
    · rw [fr_X6_step (by decide), up2_n (by decide), f27, upd_ne (by omega), upd_ne (by omega), upd_ne (by omega)]
    · rw [fr_X6_step (by decide), up2_n (by decide), fr_forgetTold (by decide) (by decide)]
    · rw [fr_X6_step (by decide), up2_n (by decide), fr_forgetTold (by decide) (by decide)]
  have yf0 : yfr C (y4 C) := by
    unfold y4
    refine ⟨fun k h1 h2 h3 h4 => ?_, fun j hj => ?_⟩
    · rw [up2_n h1, up2_n h1, up2_n h1, up2_n h1]
    · rw [up2_sn (by omega), up2_sn (by omega), up2_sn (by omega), up2_sn (by omega)]
  have x3 : e_X6_step (up2 (e_X3_forgetTold g 27) 18 5 0) 27 3 = 0 := by rw [fr_X6_step (by decide), up2_n (by decide), f27, upd_ne (by decide), upd_ne (by decide), upd_eq]
  have x4 : e_X6_step (up2 (e_X3_forgetTold g 27) 18 5 0) 27 4 = 0 := by rw [fr_X6_step (by decide), up2_n (by decide), f27, upd_ne (by decide), upd_eq]
  have x5 : e_X6_step (up2 (e_X3_forgetTold g 27) 18 5 0) 27 5 = 0 := by rw [fr_X6_step (by decide), up2_n (by decide), f27, upd_eq]
  have x28 : ∀ a, a < 6 → e_X6_step (up2 (e_X3_forgetTold g 27) 18 5 0) 28 a = 0 := fun a ha => by rw [fr_X6_step (by decide), up2_n (by decide), f28 a ha]
  have z14 : y4 C 57 14 = 0 := by unfold y4; rw [up2_sn (by decide), up2_sn (by decide), up2_ss]
  have z16 : y4 C 57 16 = 0 := by unfold y4; rw [up2_sn (by decide), up2_ss]
  have z18 : y4 C 57 18 = 0 := by unfold y4; rw [up2_ss]
  rw [readInto_eq]
  have hI : ∀ r, rn 142 (f_X12_isLaw (y4 C)) = .inr r → f_X12_isRead C = r := fun r h => isRead_eq h
  generalize e_X6_step (up2 (e_X3_forgetTold g 27) 18 5 0) = X0 at S xf0 x3 x4 x5 x28 ⊢
  generalize y4 C = Y0 at S yf0 z14 z16 z18 hI
  have n1 : ¬ (1 : Int32) = 0 := by decide
  obtain ⟨X1, Y1, ⟨e1, d1, S1, q1, q2, q3, q4, l1, l2, l3, l4, l5, l6⟩ | ⟨e1, d1, F1, q1, q2, q3, q4⟩⟩ := sim_law hlen hb S
  · have D : dR X1 Y1 0 0 0 := by
      refine ⟨⟨l1, l2, l3, l4, l5, l6⟩, ⟨?_, ?_, by omega⟩, ⟨?_, ?_, by omega⟩, ⟨?_, ?_, by omega⟩, ⟨fun a ha => ?_, fun t ht => by omega⟩, fun k hk => by omega, fun k hk => by omega⟩
      · rw [q2 3 (by decide), x3]; exact nI_0.symm
      · rw [q4 14 (by decide), z14]; exact nI_0.symm
      · rw [q2 4 (by decide), x4]; exact nI_0.symm
      · rw [q4 16 (by decide), z16]; exact nI_0.symm
      · rw [q2 5 (by decide), x5]; exact nI_0.symm
      · rw [q4 18 (by decide), z18]; exact nI_0.symm
      · rw [q1 28 (by decide) (by decide), x28 a ha]; rfl
    obtain ⟨X2, Y2, b, n, w, m, v, a1, a2, a3, a4, a5, a6⟩ := ph_wal hlen hb g 9 0 X1 Y1 rfl S1 D
    refine ⟨X2, Y2, b, w, m, v, ?_, ?_, ?_, ?_, a6⟩
    · rw [e1]
      simp only [if_neg n1]
      exact a1
    · refine hI _ ?_
      rw [d1]
      have := repX_stop a3 (142 - n)
      rw [show n + (142 - n) = 142 by omega] at this
      exact this
    · refine (xf0.trans ⟨fun k h1 h2 => q1 k h1 (by omega), fun j hj => q2 j (by omega), q1 29 (by decide) (by decide), q1 30 (by decide) (by decide)⟩).trans a4
    · refine (yf0.trans ⟨fun k h1 h2 h3 h4 => q3 k h1, fun j hj => ?_⟩).trans a5
      rcases hj with hj | hj
      · have := law_lo Y0 hj
        rw [d1] at this
        exact this
      · exact q4 j (by omega)
  · refine ⟨X1, Y1, 0, 0, 0, 0, ?_, ?_, ?_, ?_, Or.inr ⟨rfl, F1⟩⟩
    · rw [e1]
      simp only [if_true]
    · refine hI _ ?_
      rw [d1]
      exact rn_inr (n := 141) (FR_0 _)
    · exact xf0.trans ⟨fun k h1 h2 => q1 k h1 (by omega), fun j hj => q2 j (by omega), q1 29 (by decide) (by decide), q1 30 (by decide) (by decide)⟩
    · refine yf0.trans ⟨fun k h1 h2 h3 h4 => q3 k h1, fun j hj => ?_⟩
      rcases hj with hj | hj
      · have := law_lo Y0 hj
        rw [d1] at this
        exact this
      · exact q4 j (by omega)
/-! what the reference's house becomes -/
section M24
variable {X Y : wx_M} {w m v : Nat}
def hz0 (f : Nat → Int32) : Nat → Int32 := fun i => if i < 149 then 0 else f i
def hz1 (Y : wx_M) : Nat → Int32 := upd (upd (upd (upd (upd (upd (hz0 (Y 65)) 0 (Y 57 11)) 1 (Y 57 12)) 2 (Y 57 13)) 3 (Y 57 16)) 4 (Y 57 18)) 148 (Y 57 14)
def hz2 (Y : wx_M) (w : Nat) : Nat → Int32 := fun j => if 5 ≤ j ∧ j < 11 then wnd (Y 62) w (j - 5) else hz1 Y j
def hz3 (Y : wx_M) (w n : Nat) : Nat → Int32 := fun j => if 11 ≤ j ∧ j < 11 + n then Y 63 (j - 11) else hz2 Y w j
def hz4 (Y : wx_M) (w n v : Nat) : Nat → Int32 := fun j => if 43 ≤ j ∧ j < 43 + v then Y 64 (2 * (j - 43)) else if 47 ≤ j ∧ j < 47 + v then Y 64 (2 * (j - 47) + 1) else hz3 Y w n j
theorem hl24 (q : wx_M) (z : wx_M × Int32) (g2 : wx_M) (s : wx_M) : ∀ t, t ≤ 149 → rep t (b_X12_house_24 q z g2) s = upR s 65 (fun i => if i < t then 0 else s 65 i) := by
  intro t
  induction t with
  | zero =>
    intro _
    rw [rep_zero]
    funext k
    by_cases hk : k = 65
    · subst hk
      rw [upR_s]
      funext j
      rw [if_neg (by omega)]
    · rw [upR_n hk]
  | succ t ih =>
    intro ht
    rw [rep_succ, ih (by omega)]
    simp only [b_X12_house_24]
    rw [ix (show t < 1000 by omega), upR_up2]
    congr 1
    funext j
    by_cases hj : j = t
    · subst hj
      rw [upd_eq, if_pos (by omega)]
    · rw [upd_ne hj]
      by_cases c : j < t
      · rw [if_pos c, if_pos (by omega)]
      · rw [if_neg c, if_neg (by omega)]
theorem hl108 (f : Nat → wx_M → wx_M) (hf : ∀ t s, t < w → f t s = (let x_30 := (s 62 (2 * (nI t)).toNatClampNeg)
      let x_31 := (s 62 ((2 * (nI t)) + 1).toNatClampNeg)
      let x_32 := ((s 65 (5 + x_30).toNatClampNeg) ||| (1 <<< (x_31 &&& 31)))
      let g_33 := up2 s 65 (5 + x_30).toNatClampNeg x_32
      let x_34 := ((g_33 65 (5 + x_31).toNatClampNeg) ||| (1 <<< (x_30 &&& 31)))
      up2 g_33 65 (5 + x_31).toNatClampNeg x_34)) (hw : w ≤ 9) (hr : ∀ t, t < w → ∃ i j, i < 6 ∧ j < 6 ∧ i ≠ j ∧ Y 62 (2 * t) = nI i ∧ Y 62 (2 * t + 1) = nI j) (q : wx_M) (h62 : q 62 = Y 62) (h65 : q 65 = hz2 Y 0) : ∀ t, t ≤ w → rep t f q = upR q 65 (hz2 Y t) := by
  intro t
  induction t with
  | zero =>
    intro _
    rw [rep_zero]
    funext k
    by_cases hk : k = 65
    · subst hk
      rw [upR_s, h65]
    · rw [upR_n hk]
  | succ t ih =>
    intro ht
    rw [rep_succ, ih (by omega), hf t _ (by omega)]
    have i20 : (2 * nI t).toNatClampNeg = 2 * t := (ix2_all ⟨t, by omega⟩).1
    have i21 : ((2 * nI t) + 1).toNatClampNeg = 2 * t + 1 := (ix2_all ⟨t, by omega⟩).2
    obtain ⟨i, j, hi, hj, hij, e0, e1⟩ := hr t (by omega)
    have e62 : upR q 65 (hz2 Y t) 62 = Y 62 := by rw [upR_n (by decide), h62]
    dsimp only
    rw [i20, i21, e62, e0, e1, ix_a5 (show i < 1000 by omega), ix_a5 (show j < 1000 by omega), upR_s, upR_up2, upR_s, upR_up2]
    congr 1
    funext x
    have hx : ∀ a, a < 6 → hz2 Y t (5 + a) = wnd (Y 62) t a := fun a ha => by
      unfold hz2
      rw [if_pos (by omega)]
      congr 1
      omega
    have ew : wnd (Y 62) (t + 1) = upd (upd (wnd (Y 62) t) i (wnd (Y 62) t i ||| (1 <<< (nI j &&& 31)))) j (upd (wnd (Y 62) t) i (wnd (Y 62) t i ||| (1 <<< (nI j &&& 31))) j ||| (1 <<< (nI i &&& 31))) := by
      simp only [wnd]
      rw [e0, e1, ix (show i < 1000 by omega), ix (show j < 1000 by omega)]
    by_cases c : 5 ≤ x ∧ x < 11
    · obtain ⟨a, ha, rfl⟩ : ∃ a, a < 6 ∧ x = 5 + a := ⟨x - 5, by omega, by omega⟩
      have e3 : hz2 Y (t + 1) (5 + a) = wnd (Y 62) (t + 1) a := by
        unfold hz2
        rw [if_pos (by omega)]
        congr 1
        omega
      rw [e3, ew]
      by_cases c1 : a = j
      · rw [c1, upd_eq, upd_eq, upd_ne (show 5 + j ≠ 5 + i by omega), upd_ne (Ne.symm hij), hx j hj]
      · rw [upd_ne (show 5 + a ≠ 5 + j by omega), upd_ne c1]
        by_cases c2 : a = i
        · rw [c2, upd_eq, upd_eq, hx i hi]
        · rw [upd_ne (show 5 + a ≠ 5 + i by omega), upd_ne c2, hx a ha]
    · rw [upd_ne (by omega), upd_ne (by omega)]
      unfold hz2
      rw [if_neg c, if_neg c]
theorem hl188 (f : Nat → wx_M → wx_M) (hf : ∀ t s, t < 32 → f t s = up2 s 65 (11 + (nI t)).toNatClampNeg (s 63 (nI t).toNatClampNeg)) (q : wx_M) (h63 : q 63 = Y 63) (h65 : q 65 = hz3 Y w 0) : ∀ t, t ≤ 32 → rep t f q = upR q 65 (hz3 Y w t) := by
  intro t
  induction t with
  | zero =>
    intro _
    rw [rep_zero]
    funext k
    by_cases hk : k = 65
    · subst hk
      rw [upR_s, h65]
    · rw [upR_n hk]
  | succ t ih =>
    intro ht
    have e11 : (11 + (nI t)).toNatClampNeg = 11 + t := by rw [show (11 : Int32) = nI 11 from rfl, nI_add]; exact nI_clamp (by omega)
    rw [rep_succ, ih (by omega), hf t _ (by omega), e11, ix (show t < 1000 by omega), upR_n (show (63 : Nat) ≠ 65 by decide), h63, upR_up2]
    congr 1
    funext x
    by_cases c : x = 11 + t
    · rw [c, upd_eq]
      unfold hz3
      rw [if_pos (by omega)]
      congr 1
      omega
    · rw [upd_ne c]
      unfold hz3
      by_cases c2 : 11 ≤ x ∧ x < 11 + t
      · rw [if_pos c2, if_pos (by omega)]
      · rw [if_neg c2, if_neg (by omega)]
theorem hl222 {n : Nat} (f : Nat → wx_M → wx_M) (hf : ∀ t s, t < 4 → f t s = (let g_23 := up2 s 65 (43 + (nI t)).toNatClampNeg (s 64 (2 * (nI t)).toNatClampNeg)
      up2 g_23 65 (47 + (nI t)).toNatClampNeg (g_23 64 ((2 * (nI t)) + 1).toNatClampNeg))) (q : wx_M) (h64 : q 64 = Y 64) (h65 : q 65 = hz4 Y w n 0) : ∀ t, t ≤ 4 → rep t f q = upR q 65 (hz4 Y w n t) := by
  intro t
  induction t with
  | zero =>
    intro _
    rw [rep_zero]
    funext k
    by_cases hk : k = 65
    · subst hk
      rw [upR_s, h65]
    · rw [upR_n hk]
  | succ t ih =>
    intro ht
    have i20 : (2 * nI t).toNatClampNeg = 2 * t := (ix2_all ⟨t, by omega⟩).1
    have i21 : ((2 * nI t) + 1).toNatClampNeg = 2 * t + 1 := (ix2_all ⟨t, by omega⟩).2
    rw [rep_succ, ih (by omega), hf t _ (by omega)]
    dsimp only
    rw [i20, i21, ix_a43 (show t < 1000 by omega), ix_a47 (show t < 1000 by omega), upR_n (show (64 : Nat) ≠ 65 by decide), h64, upR_up2, upR_n (show (64 : Nat) ≠ 65 by decide), h64, upR_up2]
    congr 1
    funext x
    by_cases c : x = 47 + t
    · rw [c, upd_eq]
      unfold hz4
      rw [if_neg (by omega), if_pos (by omega)]
      congr 1
      omega
    · rw [upd_ne c]
      by_cases c2 : x = 43 + t
      · rw [c2, upd_eq]
        unfold hz4
        rw [if_pos (by omega)]
        congr 1
        omega
      · rw [upd_ne c2]
        unfold hz4
        by_cases c3 : 43 ≤ x ∧ x < 43 + t
        · rw [if_pos c3, if_pos (by omega)]
        · rw [if_neg c3, if_neg (show ¬ (43 ≤ x ∧ x < 43 + (t + 1)) by omega)]
          by_cases c4 : 47 ≤ x ∧ x < 47 + t
          · rw [if_pos c4, if_pos (by omega)]
          · rw [if_neg c4, if_neg (by omega)]
theorem house12 {C : wx_M} (e : f_X12_isRead C = (Y, 1)) (hm : m ≤ 4) (hv : v ≤ 4) (hw : w ≤ 9) (e14 : Y 57 14 = nI w) (e16 : Y 57 16 = nI m) (e18 : Y 57 18 = nI v) (hr : ∀ t, t < w → ∃ i j, i < 6 ∧ j < 6 ∧ i ≠ j ∧ Y 62 (2 * t) = nI i ∧ Y 62 (2 * t + 1) = nI j) : f_X12_house C = (up2 (upR (up2 Y 57 4 0) 65 (hz4 Y w (8 * m) v)) 57 23 0, Y 57 11) := by
  have n1 : ¬ (1 : Int32) = 0 := by decide
  obtain ⟨G, eG⟩ : ∃ G, up2 Y 57 4 0 = G := ⟨_, rfl⟩
  have g57 : ∀ j, j ≠ 4 → G 57 j = Y 57 j := fun j hj => by rw [← eG, up2_sn hj]
  have gk : ∀ k, k ≠ 57 → G k = Y k := fun k hk => by rw [← eG, up2_n hk]
  simp only [f_X12_house]
  rw [e]
  simp only [if_neg n1]
  rw [eG, hl24 _ _ _ G 149 (Nat.le_refl _)]
  have r57 : ∀ r j, upR G 65 r 57 j = G 57 j := fun r j => by rw [upR_n (by decide)]
  simp only [ix_0, ix_1, ix_2, ix_3, ix_4, ix_148, upR_up2, r57, g57 11 (by decide), g57 12 (by decide), g57 13 (by decide), g57 14 (by decide), g57 16 (by decide), g57 18 (by decide), e14, e16, e18]
  have z1 : upR G 65 (upd (upd (upd (upd (upd (upd (fun i => if i < 149 then 0 else G 65 i) 0 (Y 57 11)) 1 (Y 57 12)) 2 (Y 57 13)) 3 (nI m)) 4 (nI v)) 148 (nI w)) = upR G 65 (hz2 Y 0) := by
    refine congrArg (upR G 65) (funext fun j => ?_)
    unfold hz2
    by_cases c : 5 ≤ j ∧ j < 11
    · rw [if_pos c, upd_ne (by omega), upd_ne (by omega), upd_ne (by omega), upd_ne (by omega), upd_ne (by omega), upd_ne (by omega), if_pos (by omega)]
      rfl
    · rw [if_neg c]
      unfold hz1 hz0
      rw [e14, e16, e18, gk 65 (by decide)]
  rw [z1]
  rw [show (nI w).toNatClampNeg = w from ix (by omega)]
  rw [hl108 (Y := Y) (w := w) _ ?h1 hw hr (upR G 65 (hz2 Y 0)) (by rw [upR_n (by decide), gk 62 (by decide)]) (upR_s _ _ _) w (Nat.le_refl _)]
  case h1 => exact fun t s _ => rfl
  have rr : ∀ (r r' : Nat → Int32), upR (upR G 65 r) 65 r' = upR G 65 r' := fun r r' => by
    funext k
    by_cases c : k = 65
    · subst c
      rw [upR_s, upR_s]
    · rw [upR_n c, upR_n c, upR_n c]
  simp only [rr, r57, g57 16 (by decide), g57 18 (by decide), g57 11 (by decide), e16, e18]
  have e8 : (8 * nI m).toNatClampNeg = 8 * m := by rw [show (8 : Int32) = nI 8 from rfl, pk_mul]; exact nI_clamp (by omega)
  rw [e8, hl188 (Y := Y) (w := w) _ ?h2 (upR G 65 (hz2 Y w)) (by rw [upR_n (by decide), gk 63 (by decide)]) (by
    rw [upR_s]
    funext j
    unfold hz3
    rw [if_neg (by omega)]) (8 * m) (by omega)]
  case h2 => exact fun t s _ => rfl
  simp only [rr, r57, g57 18 (by decide), g57 11 (by decide), e18]
  rw [show (nI v).toNatClampNeg = v from ix (by omega)]
  rw [hl222 (Y := Y) (w := w) (n := 8 * m) _ ?h3 (upR G 65 (hz3 Y w (8 * m))) (by rw [upR_n (by decide), gk 64 (by decide)]) (by
    rw [upR_s]
    funext j
    unfold hz4
    rw [if_neg (by omega), if_neg (by omega)]) v hv]
  case h3 => exact fun t s _ => rfl
  simp only [rr]
  rw [up2_sn (show (11 : Nat) ≠ 23 by decide), r57, g57 11 (by decide)]
theorem sold_0 {n : Nat → Int32} (h : ∀ j, 100 ≤ j → j < 148 → n j = 0) : m_sold n = 0 := by
  have h1 := sold_same (n := fun _ => 0) (n' := n) h
  rw [h1]
  have hz2 : bN 0 = 0 := by decide +kernel
  have : ∀ k, fb_sm (fun _ => bN 0) k = 0 := fun k => by rw [fb_sm_const, hz2]; omega
  exact this 48
theorem drw_0 {n : Nat → Int32} (h : ∀ j, 52 ≤ j → j < 100 → n j = 0) : m_drw n = 0 := by
  have h1 := drw_same (n := fun _ => 0) (n' := n) h
  rw [h1]
  have hz2 : bN 0 = 0 := by decide +kernel
  have : ∀ k, fb_sm (fun _ => bN 0) k = 0 := fun k => by rw [fb_sm_const, hz2]; omega
  exact this 48
theorem hz4_at (hm : m ≤ 4) (hv : v ≤ 4) : hz4 Y w (8 * m) v 0 = Y 57 11 ∧ hz4 Y w (8 * m) v 1 = Y 57 12 ∧ hz4 Y w (8 * m) v 2 = Y 57 13 ∧ hz4 Y w (8 * m) v 3 = Y 57 16 ∧ hz4 Y w (8 * m) v 4 = Y 57 18 ∧ hz4 Y w (8 * m) v 148 = Y 57 14 ∧ (∀ a, a < 6 → hz4 Y w (8 * m) v (5 + a) = wnd (Y 62) w a) ∧ (∀ k, k < 8 * m → hz4 Y w (8 * m) v (11 + k) = Y 63 k) ∧ (∀ k, k < v → hz4 Y w (8 * m) v (43 + k) = Y 64 (2 * k)) ∧ (∀ k, k < v → hz4 Y w (8 * m) v (47 + k) = Y 64 (2 * k + 1)) ∧ ∀ j, 51 ≤ j → j < 148 → hz4 Y w (8 * m) v j = 0 := by
  have lo : ∀ j, j < 5 ∨ j = 148 → hz4 Y w (8 * m) v j = hz1 Y j := fun j hj => by
    unfold hz4 hz3 hz2
    rw [if_neg (by omega), if_neg (by omega), if_neg (by omega), if_neg (by omega)]
  refine ⟨?_, ?_, ?_, ?_, ?_, ?_, fun a ha => ?_, fun k hk => ?_, fun k hk => ?_, fun k hk => ?_, fun j h1 h2 => ?_⟩
  · rw [lo 0 (by decide)]; unfold hz1; rw [upd_ne (by decide), upd_ne (by decide), upd_ne (by decide), upd_ne (by decide), upd_ne (by decide), upd_eq]
  · rw [lo 1 (by decide)]; unfold hz1; rw [upd_ne (by decide), upd_ne (by decide), upd_ne (by decide), upd_ne (by decide), upd_eq]
  · rw [lo 2 (by decide)]; unfold hz1; rw [upd_ne (by decide), upd_ne (by decide), upd_ne (by decide), upd_eq]
  · rw [lo 3 (by decide)]; unfold hz1; rw [upd_ne (by decide), upd_ne (by decide), upd_eq]
  · rw [lo 4 (by decide)]; unfold hz1; rw [upd_ne (by decide), upd_eq]
  · rw [lo 148 (by decide)]; unfold hz1; rw [upd_eq]
  · unfold hz4 hz3 hz2
    rw [if_neg (by omega), if_neg (by omega), if_neg (by omega), if_pos (by omega)]
    congr 1
    omega
  · unfold hz4 hz3
    rw [if_neg (by omega), if_neg (by omega), if_pos (by omega)]
    congr 1
    omega
  · unfold hz4
    rw [if_pos (by omega)]
    congr 1
    omega
  · unfold hz4
    rw [if_neg (by omega), if_pos (by omega)]
    congr 1
    omega
  · unfold hz4 hz3 hz2 hz1 hz0
    rw [if_neg (by omega), if_neg (by omega), if_neg (by omega), if_neg (by omega), upd_ne (by omega), upd_ne (by omega), upd_ne (by omega), upd_ne (by omega), upd_ne (by omega), upd_ne (by omega), if_pos (by omega)]
theorem hou_new {K : Nat} (hK : 99 ≤ K) (D : dR X Y w m v) (h6 : X 27 6 = 0) (h7 : X 27 7 = 0) (h8 : X 27 8 = 0) (h29 : ∀ k, k < 48 → X 29 k = 0 ∧ X 30 k = 0) : m_Hou X 27 (hz4 Y w (8 * m) v) K := by
  obtain ⟨⟨l1, l2, l3, l4, l5, l6⟩, ⟨w1, w2, w3⟩, ⟨p1, p2, p3⟩, ⟨v1, v2, v3⟩, ⟨dw, dw2⟩, dm, dv⟩ := D
  obtain ⟨n0, n1, n2, n3, n4, n148, n5, n11, n43, n47, nz⟩ := hz4_at (Y := Y) (w := w) p3 v3
  have r6 : (Y 57 11).toNatClampNeg ≤ 6 := wb_cl (n := 6) l4 (by decide)
  have r2 : 2 ≤ (Y 57 11).toNatClampNeg := by
    have := l4.1
    show 2 ≤ (Y 57 11).toInt.toNat
    omega
  have em : (Y 57 16).toNatClampNeg = m := by rw [p2]; exact ix (by omega)
  have ev : (Y 57 18).toNatClampNeg = v := by rw [v2]; exact ix (by omega)
  have wok := wnd_ok (R := Y 62) (w := w) (fun t ht => by
    obtain ⟨i, j, q1, q2, q3, q4, q5⟩ := dw2 t ht
    exact ⟨i, j, by omega, by omega, q3, q4, q5⟩)
  have hs := sold_0 (n := hz4 Y w (8 * m) v) (fun j h1 h2 => nz j (by omega) h2)
  have hd := drw_0 (n := hz4 Y w (8 * m) v) (fun j h1 h2 => nz j (by omega) (by omega))
  refine ⟨⟨?_, ?_, ?_, ?_, ?_, ?_, ?_, ?_, ?_, ?_, ?_, ?_, ?_⟩, ⟨?_, ?_, ?_, ?_, ?_, ?_, ?_, ?_, ?_, ?_, ?_, ?_, ?_, ?_, ?_, ?_, ?_⟩, ?_, ?_, ?_⟩
  · rw [n0]; exact l1
  · rw [n1]; exact l2
  · rw [n2]; exact l3
  · rw [n3, p2]; exact p1
  · rw [n4, v2]; exact v1
  · rw [nz 51 (by decide) (by decide)]; exact h8
  · intro a ha; rw [n5 a ha]; exact dw a ha
  · intro k hk; rw [nz (52 + k) (by omega) (by omega)]; exact (h29 k hk).1
  · intro k hk; rw [nz (100 + k) (by omega) (by omega)]; exact (h29 k hk).2
  · intro k; rw [n3, em]; intro hk; rw [n11 k hk]; exact (dm k hk).1
  · intro k; rw [n4, ev]; intro hk; rw [n47 k hk]; exact (dv k hk).2.1
  · intro k; rw [n4, ev]; intro hk; rw [n43 k hk]; exact (dv k hk).1
  · rw [n148, w2]; exact w1
  · rw [n0]; exact wb_w l4 (by decide) (by decide)
  · rw [n0]; omega
  · rw [n1]; exact wb_w l5 (by decide) (by decide)
  · rw [n2]; exact l6
  · rw [n3, p2]; exact wb_nI (n := 4) p3 (by decide)
  · rw [n4, v2]; exact wb_nI (n := 4) v3 (by decide)
  · rw [n0]; intro q; omega
  · rw [nz 51 (by decide) (by decide)]; exact ⟨by decide, by decide⟩
  · intro a ha; rw [n5 a ha]; exact (wok a ha).1
  · intro a ha; rw [n5 a ha]; exact (wok a ha).2
  · intro k hk; rw [nz (52 + k) (by omega) (by omega)]; exact ⟨by decide, by decide⟩
  · intro m' a b h1 h2 h3
    rw [nz (52 + (6 * m' + a)) (by omega) (by omega), nz (52 + (6 * m' + b)) (by omega) (by omega), has0_all ⟨a, by omega⟩, has0_all ⟨b, by omega⟩]
  · intro k hk; rw [nz (100 + k) (by omega) (by omega)]; exact ⟨by decide, by decide⟩
  · intro k hk _; exact nz (100 + k) (by omega) (by omega)
  · intro k; rw [n3, em, n0]; intro hk; rw [n11 k hk]; exact (dm k hk).2
  · intro k; rw [n4, ev]; intro hk; rw [n47 k hk]; exact wb_w (dv k hk).2.2.2 (by decide) (by omega)
  · intro k; rw [n4, ev]; intro hk; rw [n43 k hk]; exact (dv k hk).2.2.1
  · rw [hs, h6]; exact nI_0.symm
  · rw [hs]; omega
  · rw [hd]; exact ⟨0, by rw [h7]; exact nI_0.symm, rfl⟩
end M24
