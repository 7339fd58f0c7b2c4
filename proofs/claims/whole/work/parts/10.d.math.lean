/-! THE MATH 4 -/
theorem m_andn_all : ∀ i j : Fin 64, 0 ≤ (nI i.val &&& (nI j.val ^^^ (-1))).toInt ∧ (nI i.val &&& (nI j.val ^^^ (-1))).toInt ≤ 255 := by decide +kernel
section M4
variable {g g' : wx_M} {h K : Nat}
theorem m_max0 (X : Int32) : (if 0 < X then X else 0) = (if 0 ≤ X then X else 0) := by
  by_cases c : 0 < X
  · rw [if_pos c, if_pos (Int32.le_of_lt c)]
  · rw [if_neg c]
    split
    · rename_i c2
      exact Int32.le_antisymm c2 (Int32.not_lt.mp c)
    · rfl
theorem q_priceF (R : m_HR g h (g' 65)) (B : m_NB (g' 65) K) {v r m : Nat} (hv : v < (g' 65 4).toNatClampNeg) (hr : r < 6) (hm : m < 8) : r_X3_priceFor g h (nI v) (nI r) (nI m) = m_price g' v r m := by
  have hv4 := B.v4
  have hb := m_baseb B (r := r) (m := m)
  obtain ⟨hx1, hx2⟩ := m_x10 hb
  have hz : (r_X12_was g' 0 (nI m) = nI r ∧ ¬ g' 65 3 ≤ 0) ↔ (g (h + 4) (nI m).toNatClampNeg = nI r ∧ ¬ g' 65 3 ≤ 0) := by
    refine and_congr_left fun hp => ?_
    have h3 : 0 < (g' 65 3).toNatClampNeg := by
      have h4 := Int32.lt_iff_toInt_lt.mp (Int32.not_le.mp hp)
      have e0 : (0 : Int32).toInt = 0 := rfl
      show 0 < (g' 65 3).toInt.toNat
      omega
    have h5 := q_was R B (p := 0) h3 hm
    unfold r_X3_roomOf at h5
    rw [nI_0] at h5
    rw [← h5, show (8 * (0 : Int32) + nI m) = nI m by simp]
  have hw : m_heir g' r m ↔ (¬ g' 65 3 ≤ 0 ∧ g (h + 4) (nI m).toNatClampNeg = nI r) := by
    unfold m_heir
    rw [and_comm, hz, and_comm]
  simp only [r_X3_priceFor, r_X9_priceFrom, r_X4_priceFrom, r_X1_priceFrom, r_X2_priceFrom, r_X10_priceFrom, m_has, R.wr, R.fee, R.men, q_heldOf R B hr hm, ix (show v < 1000 by omega), R.srt v hv, m_max0, if_true]
  simp only [m_price, m_pr, hw, ← hx2]
  rw [← hx1]
  by_cases c1 : r_X12_has (g' 65 51) (nI m) = 0
  · have hbe : (if 0 ≤ g' 65 2 + r_X12_bits g' (r_X12_heldAt g' (nI r) (nI m)) - 0 then g' 65 2 + r_X12_bits g' (r_X12_heldAt g' (nI r) (nI m)) - 0 else 0) = m_base g' r m := by simp only [m_base, c1, if_true]
    simp only [c1, if_true, hbe]
    generalize m_base g' r m = x
    by_cases c3 : g' 65 3 ≤ 0 <;> by_cases c4 : g (h + 4) (nI m).toNatClampNeg = nI r <;> simp [c3, c4, m_max0]
  · have hbe : (if 0 ≤ g' 65 2 + r_X12_bits g' (r_X12_heldAt g' (nI r) (nI m)) - 2 then g' 65 2 + r_X12_bits g' (r_X12_heldAt g' (nI r) (nI m)) - 2 else 0) = m_base g' r m := by simp only [m_base, c1, if_false]
    simp only [c1, if_false, hbe]
    generalize m_base g' r m = x
    by_cases c3 : g' 65 3 ≤ 0 <;> by_cases c4 : g (h + 4) (nI m).toNatClampNeg = nI r <;> simp [c3, c4, m_max0]
theorem q_price (R : m_HR g h (g' 65)) (B : m_NB (g' 65) K) {v r m : Nat} (hv : v < (g' 65 4).toNatClampNeg) (hr : r < 6) (hm : m < 8) : r_X3_priceFor g h (nI v) (nI r) (nI m) = r_X12_priceOf g' (nI v) (nI r) (nI m) := by rw [q_priceF R B hv hr hm, q_priceM B hv hr hm]
theorem q_priceb (B : m_NB (g' 65) K) {v r m : Nat} (hv : v < (g' 65 4).toNatClampNeg) (hr : r < 6) (hm : m < 8) : wx_b (r_X12_priceOf g' (nI v) (nI r) (nI m)) 0 199 := by rw [q_priceM B hv hr hm]; exact m_priceb B
theorem q_viewb (B : m_NB (g' 65) K) {r m : Nat} (hr : r < 6) (hm : m < 8) : wx_b (r_X12_viewOf g' (nI r) (nI m)) 0 255 := by
  unfold r_X12_viewOf
  have h1 : wx_b (1 <<< (nI r &&& 31)) 0 255 := by
    have : ∀ i : Fin 6, ∃ j : Fin 256, (1 : Int32) <<< (nI i.val &&& 31) = nI j.val := by decide +kernel
    obtain ⟨j, hj⟩ := this ⟨r, hr⟩
    rw [hj]
    exact wb_nI (n := 255) (by have := j.isLt; omega) (by decide)
  refine m_or8 h1 ?_
  rw [ix_a5 (show r < 1000 by omega), ix_s52 (show r < 1000 by omega) (show m < 1000 by omega)]
  obtain ⟨i, h2, e2⟩ := m_ex (n := 63) (B.win r hr)
  obtain ⟨j, h3, e3⟩ := m_ex (n := 63) (B.drn (6 * m + r) (by omega))
  rw [e2, e3]
  exact m_andn_all ⟨i, by omega⟩ ⟨j, by omega⟩
theorem q_settles (R : m_HR g h (g' 65)) (B : m_NB (g' 65) K) (s : Int32) {m : Nat} (hm : m < 8) : r_X3_settles g h s (nI m) = r_X12_settles g' s (nI m) := by
  have hr6 := B.r6
  have e : rep (g h 0).toNatClampNeg (b_X3_settles_5 g h s (nI m)) (0 : Int32) = rep (g' 65 (0 : Int32).toNatClampNeg).toNatClampNeg (b_X12_settles_5 g' s (nI m)) (0 : Int32) := by
    refine rep_congr (by rw [ix_0, R.rooms]) (fun t z ht => ?_)
    rw [R.rooms] at ht
    simp only [b_X3_settles_5, b_X12_settles_5, m_or0, m_has]
    rw [q_view R (show t < 6 by omega) hm]
  have hb : wx_b (rep (g' 65 (0 : Int32).toNatClampNeg).toNatClampNeg (b_X12_settles_5 g' s (nI m)) (0 : Int32)) 0 255 := by
    refine rep_inv (fun _ z => wx_b z 0 255) _ ⟨by decide, by decide⟩ (fun t z ht hz => ?_)
    rw [ix_0] at ht
    simp only [b_X12_settles_5, m_or0]
    split
    · exact hz
    · exact m_or8 hz (q_viewb B (show t < 6 by omega) hm)
  simp only [r_X3_settles, r_X12_settles]
  rw [e, m_popb g' hb, R.rooms, ix_0]
/-- the empty set settles nothing -/
theorem q_settles0 (B : m_NB (g' 65) K) (h2 : 2 ≤ (g' 65 0).toNatClampNeg) (x : Int32) : r_X12_settles g' 0 x = 0 := by
  have hr6 := B.r6
  have e : rep (g' 65 (0 : Int32).toNatClampNeg).toNatClampNeg (b_X12_settles_5 g' 0 x) (0 : Int32) = 0 := by
    refine rep_inv (fun _ z => z = 0) _ rfl (fun t z ht hz => ?_)
    rw [ix_0] at ht
    simp only [b_X12_settles_5, m_or0]
    have key : ∀ i : Fin 6, r_X12_has 0 (nI i.val) = 0 := by decide +kernel
    rw [if_pos (key ⟨t, by omega⟩)]
    exact hz
  simp only [r_X12_settles]
  rw [e]
  rw [if_pos]
  rw [m_bits]
  have hz : bN 0 = 0 := by decide +kernel
  rw [hz, ix_0]
  obtain ⟨i, h3, e3⟩ := m_ex (n := 6) B.rooms
  rw [e3, ix (by omega)] at h2
  rw [e3, show (1 : Int32) = nI 1 from rfl, pk_sub (by omega)]
  exact (nI_ltI (by omega) (by omega)).mpr (by omega)
theorem q_toldBy (R : m_HR g h (g' 65)) (B : m_NB (g' 65) K) {v p m : Nat} (hv : v < (g' 65 4).toNatClampNeg) (hp : p < (g' 65 3).toNatClampNeg) (hm : m < 8) : r_X3_toldBy g h (nI v) (nI p) (nI m) = r_X12_toldBy g' (nI v) (nI p) (nI m) := by
  have hv4 := B.v4
  have hr6 := B.r6
  obtain ⟨r, h1, h2⟩ := q_wasr B hp hm
  simp only [r_X3_toldBy, r_X12_toldBy, r_X9_tells, r_X4_tells]
  rw [q_seenBy R B _ hp hm, ix (show v < 1000 by omega), R.srt v hv, ix_a43 (show v < 1000 by omega), ix_0, R.rooms]
  have hs : r_X12_seenBy g' (1 <<< (nI v &&& 31)) (nI p) (nI m) = -1000000 ∨ r_X12_seenBy g' (1 <<< (nI v &&& 31)) (nI p) (nI m) = nI r := by
    simp only [r_X12_seenBy, h2]
    split
    · exact Or.inl rfl
    · exact Or.inr rfl
  rcases hs with e | e
  · rw [e]
    simp only [if_true]
  · rw [e]
    have hne := m_nIne (show r < 1000 by omega)
    simp only [if_neg hne]
    by_cases c2 : g' 65 (43 + v) = 2
    · have c1 : ¬ g' 65 (43 + v) = 1 := by rw [c2]; decide
      simp only [c2, if_true]
      obtain ⟨i, h3, e3⟩ := m_ex (n := 6) B.rooms
      rw [e3, ix (by omega)] at h1
      rw [e3, nI_1, pk_rem (by omega) (by omega) (by omega)]
      rw [if_neg (by decide)]
      by_cases c5 : i ≤ r + 1
      · rw [if_pos ((nI_leI (by omega) (by omega)).mpr c5)]
        rw [show r + 1 = i by omega, Nat.mod_self]
        exact nI_0.symm
      · rw [if_neg (fun q => c5 ((nI_leI (by omega) (by omega)).mp q)), Nat.mod_eq_of_lt (by omega)]
    · simp only [c2, if_false]
      (repeat' split) <;> rfl
end M4
