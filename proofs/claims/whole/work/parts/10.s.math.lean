/-! THE MATH 19: tokens -/
def isRun (L : Nat → Int32) (len p r : Nat) : Prop := p + r ≤ len ∧ (∀ t, t < r → ¬ r_X12_in (L (p + t)) 48 57 = 0) ∧ (p + r = len ∨ r_X12_in (L (p + r)) 48 57 = 0)
theorem run_ex (L : Nat → Int32) : ∀ (d len p : Nat), p + d = len → ∃ r, isRun L len p r
  | 0, len, p, h => ⟨0, by omega, fun t ht => absurd ht (by omega), Or.inl (by omega)⟩
  | d + 1, len, p, h => by
    by_cases c : r_X12_in (L p) 48 57 = 0
    · exact ⟨0, by omega, fun t ht => absurd ht (by omega), Or.inr c⟩
    · obtain ⟨r, h1, h2, h3⟩ := run_ex L d len (p + 1) (by omega)
      refine ⟨r + 1, by omega, fun t ht => ?_, ?_⟩
      · cases t with
        | zero => exact c
        | succ t =>
          have := h2 t (by omega)
          rwa [show p + 1 + t = p + (t + 1) by omega] at this
      · rcases h3 with h3 | h3
        · exact Or.inl (by omega)
        · exact Or.inr (by rwa [show p + 1 + r = p + (r + 1) by omega] at h3)
theorem run_one {L : Nat → Int32} {len p r r' : Nat} (h : isRun L len p r) (h' : isRun L len p r') : r = r' := by
  obtain ⟨a1, a2, a3⟩ := h
  obtain ⟨b1, b2, b3⟩ := h'
  rcases Nat.lt_trichotomy r r' with c | c | c
  · rcases a3 with q | q
    · omega
    · exact absurd q (b2 r c)
  · exact c
  · rcases b3 with q | q
    · omega
    · exact absurd q (a2 r' c)
def nmR (L : Nat → Int32) (p : Nat) : Nat → Int32
  | 0 => 0
  | t + 1 => ((10 * nmR L p t) + L (p + t)) - 48
theorem e_fig (x : Int32) : r_X6_isFigure x = r_X12_in x 48 57 := rfl
section M19
variable {L : Nat → Int32} {len p : Nat} {X Y : wx_M}
theorem nI_subN {a b : Nat} (h : b ≤ a) : nI a - nI b = nI (a - b) := pk_sub h
theorem readNumber_at (hlen : len ≤ 140) (h1 : X 18 1 = nI len) (hL : ∀ i, i < len → X 19 i = L i) (h4 : X 18 4 = nI p) (hp : p < len) {r : Nat} (hr : isRun L len p r) :
    e_X6_readNumber X 18 5 = nI (p + r) ∧ e_X6_readNumber X 18 6 = (if 2 < r then -2 else -3) ∧ e_X6_readNumber X 18 7 = nmR L p r ∧ ∀ j, j ≠ 5 → j ≠ 6 → j ≠ 7 → e_X6_readNumber X 18 j = X 18 j := by
  obtain ⟨r1, r2, r3⟩ := hr
  have e4 : (up2 X 18 7 0) 18 4 = nI p := by rw [up2_sn (by decide), h4]
  have ep : (nI p).toNatClampNeg = p := ix (show p < 1000 by omega)
  have el : (nI len).toNatClampNeg = len := ix (show len < 1000 by omega)
  have key : ∀ t, t ≤ r → ∃ s, repX t (b_X6_readNumber_10 X (up2 X 18 7 0) (nI p)) (up2 X 18 7 0) = .inl s ∧ s 18 7 = nmR L p t ∧ (∀ j, j ≠ 7 → s 18 j = X 18 j) ∧ s 19 = X 19 := by
    intro t
    induction t with
    | zero =>
      intro _
      exact ⟨_, rfl, up2_ss _ _ _ _, fun j hj => up2_sn hj, up2_n (by decide)⟩
    | succ t ih =>
      intro ht
      obtain ⟨s, a1, a2, a3, a4⟩ := ih (by omega)
      have a5 : s 19 (nI (p + t)).toNatClampNeg = L (p + t) := by rw [ix (show p + t < 1000 by omega), a4, hL _ (by omega)]
      refine ⟨up2 s 18 7 (((10 * (s 18 7)) + (L (p + t))) - 48), ?_, ?_, ?_, ?_⟩
      · rw [repX_go a1]
        simp only [b_X6_readNumber_10]
        rw [ep, a5, e_fig, if_neg (r2 t (by omega))]
      · rw [up2_ss, a2]; rfl
      · intro j hj
        rw [up2_sn hj]; exact a3 j hj
      · rw [up2_n (by decide)]; exact a4
  obtain ⟨s, a1, a2, a3, a4⟩ := key r (Nat.le_refl r)
  -- both ends
  have c2 : (2 < nI (p + r) - nI p) ↔ 2 < r := by
    rw [nI_subN (by omega), show p + r - p = r by omega]
    exact nI_ltI (a := 2) (by omega) (by omega)
  have fin : e_X6_readNumber X = up2 (up2 s 18 5 (nI (p + r))) 18 6 (if 2 < r then -2 else -3) := by
    simp only [e_X6_readNumber]
    rw [e4, h1, el, ep]
    have q4 : (up2 s 18 5 (nI (p + r))) 18 4 = nI p := by rw [up2_sn (by decide), a3 4 (by decide), h4]
    rcases r3 with q | q
    · rw [show len - p = r by omega, a1]
      show (if 2 < nI (p + r) - (up2 s 18 5 (nI (p + r))) 18 4 then up2 (up2 s 18 5 (nI (p + r))) 18 6 (-2) else up2 (up2 s 18 5 (nI (p + r))) 18 6 (-3)) = _
      rw [q4, m_ififf c2]
      split <;> rfl
    · rcases Nat.lt_or_ge (p + r) len with q5 | q5
      · have a5 : s 19 (nI (p + r)).toNatClampNeg = L (p + r) := by rw [ix (show p + r < 1000 by omega), a4, hL _ (by omega)]
        have e9 : b_X6_readNumber_10 X (up2 X 18 7 0) (nI p) r s = .inr (up2 (up2 s 18 5 (nI (p + r))) 18 6 (if 2 < r then -2 else -3)) := by
          simp only [b_X6_readNumber_10]
          rw [ep, a5, e_fig, if_pos q, q4, m_ififf c2]
          split <;> rfl
        rw [repX_out (n := r) (m := len - p) a1 e9 (by omega)]
      · rw [show len - p = r by omega, a1]
        show (if 2 < nI (p + r) - (up2 s 18 5 (nI (p + r))) 18 4 then up2 (up2 s 18 5 (nI (p + r))) 18 6 (-2) else up2 (up2 s 18 5 (nI (p + r))) 18 6 (-3)) = _
        rw [q4, m_ififf c2]
        split <;> rfl
  rw [fin]
  refine ⟨?_, ?_, ?_, fun j h5 h6 h7 => ?_⟩
  · rw [up2_sn (by decide), up2_ss]
  · rw [up2_ss]
  · rw [up2_sn (by decide), up2_sn (by decide), a2]
  · rw [up2_sn h6, up2_sn h5, a3 j h7]
theorem step_at (hlen : len ≤ 140) (h1 : X 18 1 = nI len) (hL : ∀ i, i < len → X 19 i = L i) (h5 : X 18 5 = nI p) (hp : p ≤ len) :
    e_X6_step X 18 4 = nI p ∧ (∀ j, j < 4 → e_X6_step X 18 j = X 18 j) ∧
    ((p = len ∧ e_X6_step X 18 5 = nI p ∧ e_X6_step X 18 6 = -1) ∨ (p < len ∧ r_X12_in (L p) 48 57 = 0 ∧ e_X6_step X 18 5 = nI (p + 1) ∧ e_X6_step X 18 6 = L p) ∨ (p < len ∧ ∃ r, isRun L len p r ∧ ¬ r_X12_in (L p) 48 57 = 0 ∧ e_X6_step X 18 5 = nI (p + r) ∧ e_X6_step X 18 6 = (if 2 < r then -2 else -3) ∧ e_X6_step X 18 7 = nmR L p r)) := by
  have ep : (nI p).toNatClampNeg = p := ix (show p < 1000 by omega)
  obtain ⟨X2, e2⟩ : ∃ X2, up2 X 18 4 (nI p) = X2 := ⟨_, rfl⟩
  have x4 : X2 18 4 = nI p := by rw [← e2, up2_ss]
  have xo : ∀ j, j ≠ 4 → X2 18 j = X 18 j := fun j hj => by rw [← e2, up2_sn hj]
  have x19 : X2 19 = X 19 := by rw [← e2, up2_n (by decide)]
  have es : e_X6_step X = (if nI p < nI len then (if r_X6_isFigure (X 19 p) = 0 then up2 (up2 X2 18 5 (nI p + 1)) 18 6 (X 19 p) else e_X6_readNumber X2) else up2 X2 18 6 (-1)) := by
    simp only [e_X6_step]
    rw [h5, e2, x4, xo 1 (by decide), h1, x19, ep]
  rw [es]
  by_cases c : p < len
  · rw [if_pos ((nI_ltI (by omega) (by omega)).mpr c), hL p c, e_fig]
    by_cases c2 : r_X12_in (L p) 48 57 = 0
    · rw [if_pos c2]
      refine ⟨?_, fun j hj => ?_, Or.inr (Or.inl ⟨c, c2, ?_, ?_⟩)⟩
      · rw [up2_sn (by decide), up2_sn (by decide), x4]
      · rw [up2_sn (by omega), up2_sn (by omega), xo j (by omega)]
      · rw [up2_sn (by decide), up2_ss, nI_1]
      · rw [up2_ss]
    · rw [if_neg c2]
      obtain ⟨r, hr⟩ := run_ex L (len - p) len p (by omega)
      obtain ⟨q1, q2, q3, q4⟩ := readNumber_at (X := X2) (L := L) (p := p) hlen (by rw [xo 1 (by decide), h1]) (by rw [x19]; exact hL) x4 c hr
      refine ⟨?_, fun j hj => ?_, Or.inr (Or.inr ⟨c, r, hr, c2, q1, q2, q3⟩)⟩
      · rw [q4 4 (by decide) (by decide) (by decide), x4]
      · rw [q4 j (by omega) (by omega) (by omega), xo j (by omega)]
  · rw [if_neg (fun q => c ((nI_ltI (by omega) (by omega)).mp q))]
    refine ⟨?_, fun j hj => ?_, Or.inl ⟨by omega, ?_, ?_⟩⟩
    · rw [up2_sn (by decide), x4]
    · rw [up2_sn (by omega), xo j (by omega)]
    · rw [up2_sn (by decide), xo 5 (by decide), h5]
    · rw [up2_ss]
def rtok (x : Int32) : Int32 := if r_X12_in x 97 122 = 0 then (if x = 44 then x else if x = 59 then x else -4) else x
theorem next_at (hlen : len ≤ 140) (h4 : Y 57 4 = nI len) (hL : ∀ i, i < len → Y 61 i = L i) (h6 : Y 57 6 = nI p) (hp : p ≤ len) :
    e_X12_nextToken Y 57 7 = nI p ∧ (∀ j, j ≠ 6 → j ≠ 7 → j ≠ 8 → j ≠ 9 → e_X12_nextToken Y 57 j = Y 57 j) ∧
    ((p = len ∧ e_X12_nextToken Y 57 6 = nI p ∧ e_X12_nextToken Y 57 8 = -2) ∨ (p < len ∧ r_X12_in (L p) 48 57 = 0 ∧ e_X12_nextToken Y 57 6 = nI (p + 1) ∧ e_X12_nextToken Y 57 8 = rtok (L p)) ∨ (p < len ∧ ∃ r, isRun L len p r ∧ ¬ r_X12_in (L p) 48 57 = 0 ∧ e_X12_nextToken Y 57 6 = nI (p + r) ∧ e_X12_nextToken Y 57 8 = (if 2 < r then -4 else -1) ∧ e_X12_nextToken Y 57 9 = nmR L p (if 2 < r then 2 else r))) := by
  have ep : (nI p).toNatClampNeg = p := ix (show p < 1000 by omega)
  obtain ⟨Y3, e3⟩ : ∃ Y3, up2 (up2 Y 57 7 (nI p)) 57 9 0 = Y3 := ⟨_, rfl⟩
  have y7 : Y3 57 7 = nI p := by rw [← e3, up2_sn (by decide), up2_ss]
  have y9 : Y3 57 9 = 0 := by rw [← e3, up2_ss]
  have yo : ∀ j, j ≠ 7 → j ≠ 9 → Y3 57 j = Y 57 j := fun j h1 h2 => by rw [← e3, up2_sn h2, up2_sn h1]
  have yf : ∀ k, k ≠ 57 → Y3 k = Y k := fun k h1 => by rw [← e3, up2_n h1, up2_n h1]
  have y6 : Y3 57 6 = nI p := by rw [yo 6 (by decide) (by decide), h6]
  have y4 : Y3 57 4 = nI len := by rw [yo 4 (by decide) (by decide), h4]
  have y61 : Y3 61 = Y 61 := yf 61 (by decide)
  obtain ⟨Y2, e2⟩ : ∃ Y2, up2 Y 57 7 (nI p) = Y2 := ⟨_, rfl⟩
  obtain ⟨Z, eZ⟩ : ∃ Z, e_X12_nextToken Y = Z := ⟨_, rfl⟩
  have es := eZ
  simp only [e_X12_nextToken] at es
  rw [h6, e3, y6, y4, y61, ep] at es
  rw [eZ]
  by_cases c : p = len
  · rw [if_pos (by rw [c])] at es
    rw [← es]
    refine ⟨?_, fun j j6 j7 j8 j9 => ?_, Or.inl ⟨c, ?_, ?_⟩⟩
    · rw [up2_sn (by decide), y7]
    · rw [up2_sn j8, yo j j7 j9]
    · rw [up2_sn (by decide), y6]
    · rw [up2_ss]
  · have c' : p < len := by omega
    rw [if_neg (fun q => c ((nI_eq (by omega) (by omega)).mp q)), hL p c'] at es
    by_cases c2 : r_X12_in (L p) 48 57 = 0
    · rw [if_pos c2] at es
      have gen : ∀ v : Int32, Z = up2 (up2 Y3 57 8 v) 57 6 (up2 Y3 57 8 v 57 6 + 1) → v = rtok (L p) → Z 57 7 = nI p ∧ (∀ j, j ≠ 6 → j ≠ 7 → j ≠ 8 → j ≠ 9 → Z 57 j = Y 57 j) ∧ ((p = len ∧ Z 57 6 = nI p ∧ Z 57 8 = -2) ∨ (p < len ∧ r_X12_in (L p) 48 57 = 0 ∧ Z 57 6 = nI (p + 1) ∧ Z 57 8 = rtok (L p)) ∨ (p < len ∧ ∃ r, isRun L len p r ∧ ¬ r_X12_in (L p) 48 57 = 0 ∧ Z 57 6 = nI (p + r) ∧ Z 57 8 = (if 2 < r then -4 else -1) ∧ Z 57 9 = nmR L p (if 2 < r then 2 else r))) := by
        intro v hv hr
        rw [hv]
        refine ⟨?_, fun j j6 j7 j8 j9 => ?_, Or.inr (Or.inl ⟨c', c2, ?_, ?_⟩)⟩
        · rw [up2_sn (by decide), up2_sn (by decide), y7]
        · rw [up2_sn j6, up2_sn j8, yo j j7 j9]
        · rw [up2_ss, up2_sn (by decide), y6, nI_1]
        · rw [up2_sn (by decide), up2_ss, hr]
      by_cases c3 : r_X12_in (L p) 97 122 = 0
      · rw [if_pos c3] at es
        by_cases c4 : L p = 44
        · rw [if_pos c4] at es
          exact gen (L p) es.symm (by unfold rtok; rw [if_pos c3, if_pos c4])
        · rw [if_neg c4] at es
          by_cases c5 : L p = 59
          · rw [if_pos c5] at es
            exact gen (L p) es.symm (by unfold rtok; rw [if_pos c3, if_neg c4, if_pos c5])
          · rw [if_neg c5] at es
            exact gen (-4) es.symm (by unfold rtok; rw [if_pos c3, if_neg c4, if_neg c5])
      · rw [if_neg c3] at es
        exact gen (L p) es.symm (by unfold rtok; rw [if_neg c3])
    · rw [if_neg c2, e2] at es
      obtain ⟨r, hr⟩ := run_ex L (len - p) len p (by omega)
      obtain ⟨r1, r2, r3⟩ := id hr
      have key : ∀ t, t ≤ r → ∃ s, repX t (b_X12_nextToken_52 Y (nI p) Y2 Y3) Y3 = .inl s ∧ s 57 6 = nI (p + t) ∧ s 57 7 = nI p ∧ s 57 4 = nI len ∧ s 57 9 = nmR L p (if 2 < t then 2 else t) ∧ s 61 = Y 61 ∧ (∀ j, j ≠ 6 → j ≠ 7 → j ≠ 8 → j ≠ 9 → s 57 j = Y 57 j) := by
        intro t
        induction t with
        | zero =>
          intro _
          exact ⟨_, rfl, by rw [y6, Nat.add_zero], y7, y4, by rw [y9]; rfl, y61, fun j j6 j7 j8 j9 => yo j j7 j9⟩
        | succ t ih =>
          intro ht
          obtain ⟨s, a1, a2, a3, a4, a5, a6, a7⟩ := ih (by omega)
          have b0 : ¬ s 57 4 ≤ s 57 6 := by
            rw [a2, a4]
            intro q
            have := (nI_leI (by omega) (by omega)).mp q
            omega
          have b1 : s 61 (s 57 6).toNatClampNeg = L (p + t) := by rw [a2, ix (show p + t < 1000 by omega), a6, hL _ (by omega)]
          have b2 : (2 ≤ s 57 6 - s 57 7) ↔ 2 ≤ t := by
            rw [a2, a3, nI_subN (by omega), show p + t - p = t by omega]
            exact nI_leI (a := 2) (by omega) (by omega)
          by_cases c5 : 2 ≤ t
          · refine ⟨up2 (up2 s 57 9 (s 57 9)) 57 6 ((up2 s 57 9 (s 57 9)) 57 6 + 1), ?_, ?_, ?_, ?_, ?_, ?_, fun j j6 j7 j8 j9 => by rw [up2_sn j6, up2_sn j9, a7 j j6 j7 j8 j9]⟩
            · rw [repX_go a1]
              simp only [b_X12_nextToken_52]
              rw [if_neg b0, b1, if_neg (r2 t (by omega)), if_pos (b2.mpr c5)]
            · rw [up2_ss, up2_sn (by decide), a2, nI_1]; rfl
            · rw [up2_sn (by decide), up2_sn (by decide), a3]
            · rw [up2_sn (by decide), up2_sn (by decide), a4]
            · have e2t : (if 2 < t then 2 else t) = (if 2 < t + 1 then 2 else t + 1) := by
                split <;> split <;> omega
              rw [up2_sn (by decide), up2_ss, a5, e2t]
            · rw [up2_n (by decide), up2_n (by decide), a6]
          · refine ⟨up2 (up2 s 57 9 (((10 * (s 57 9)) + L (p + t)) - 48)) 57 6 ((up2 s 57 9 (((10 * (s 57 9)) + L (p + t)) - 48)) 57 6 + 1), ?_, ?_, ?_, ?_, ?_, ?_, fun j j6 j7 j8 j9 => by rw [up2_sn j6, up2_sn j9, a7 j j6 j7 j8 j9]⟩
            · rw [repX_go a1]
              simp only [b_X12_nextToken_52]
              rw [if_neg b0, b1, if_neg (r2 t (by omega)), if_neg (fun q => c5 (b2.mp q))]
            · rw [up2_ss, up2_sn (by decide), a2, nI_1]; rfl
            · rw [up2_sn (by decide), up2_sn (by decide), a3]
            · rw [up2_sn (by decide), up2_sn (by decide), a4]
            · rw [up2_sn (by decide), up2_ss, a5, if_neg (show ¬ 2 < t by omega), if_neg (show ¬ 2 < t + 1 by omega)]; rfl
            · rw [up2_n (by decide), up2_n (by decide), a6]
      obtain ⟨s, a1, a2, a3, a4, a5, a6, a7⟩ := key r (Nat.le_refl r)
      have b2 : (s 57 6 - s 57 7 ≤ 2) ↔ ¬ 2 < r := by
        rw [a2, a3, nI_subN (by omega), show p + r - p = r by omega]
        have := nI_leI (a := r) (b := 2) (by omega) (by omega)
        constructor
        · intro q
          have := this.mp q
          omega
        · intro q
          exact this.mpr (by omega)
      have e9 : b_X12_nextToken_52 Y (nI p) Y2 Y3 r s = .inr (up2 s 57 8 (if 2 < r then -4 else -1)) := by
        simp only [b_X12_nextToken_52]
        rcases Nat.lt_or_ge (p + r) len with q5 | q5
        · have b0 : ¬ s 57 4 ≤ s 57 6 := by
            rw [a2, a4]
            intro q
            have := (nI_leI (by omega) (by omega)).mp q
            omega
          have b1 : s 61 (s 57 6).toNatClampNeg = L (p + r) := by rw [a2, ix (show p + r < 1000 by omega), a6, hL _ (by omega)]
          rw [if_neg b0, b1, if_pos (r3.resolve_left (by omega)), m_ififf b2]
          by_cases q6 : 2 < r
          · rw [if_neg (fun h => h q6), if_pos q6]
          · rw [if_pos q6, if_neg q6]
        · have b0 : s 57 4 ≤ s 57 6 := by
            rw [a2, a4]
            exact (nI_leI (by omega) (by omega)).mpr (by omega)
          rw [if_pos b0, m_ififf b2]
          by_cases q6 : 2 < r
          · rw [if_neg (fun h => h q6), if_pos q6]
          · rw [if_pos q6, if_neg q6]
      rw [repX_out (n := r) (m := 142) a1 e9 (by omega)] at es
      have es2 : up2 s 57 8 (if 2 < r then -4 else -1) = Z := es
      rw [← es2]
      refine ⟨?_, fun j j6 j7 j8 j9 => ?_, Or.inr (Or.inr ⟨c', r, hr, c2, ?_, ?_, ?_⟩)⟩
      · rw [up2_sn (by decide), a3]
      · rw [up2_sn j8, a7 j j6 j7 j8 j9]
      · rw [up2_sn (by decide), a2]
      · rw [up2_ss]
      · rw [up2_sn (by decide), a5]
end M19
def tkb (c d : Int32) : Prop := (c = 104 ↔ d = 104) ∧ (c = 44 ↔ d = 44) ∧ (c = 59 ↔ d = 59) ∧ (c = 103 ↔ d = 103) ∧ (c = 114 ↔ d = 114) ∧ (c = 97 ↔ d = 97) ∧ (c = 100 ↔ d = 100) ∧ (c = 108 ↔ d = 108) ∧ (c = 116 ↔ d = 116) ∧ (c = 119 ↔ d = 119) ∧ (c = -1 ↔ d = -2) ∧ (c = -3 ↔ d = -1)
theorem tkb_all : ∀ x : Fin 256, r_X12_in (nI x.val) 48 57 = 0 → tkb (nI x.val) (rtok (nI x.val)) := by unfold tkb; decide +kernel
theorem tkb_end : tkb (-1) (-2) := by unfold tkb; decide
theorem tkb_num : tkb (-3) (-1) := by unfold tkb; decide
theorem tkb_bad : tkb (-2) (-4) := by unfold tkb; decide
/-- the class is one token ahead: it has read what the reference reads next -/
def md (L : Nat → Int32) (len : Nat) (X Y : wx_M) : Prop := X 18 1 = nI len ∧ (∀ i, i < len → X 19 i = L i) ∧ Y 57 4 = nI len ∧ (∀ i, i < len → Y 61 i = L i) ∧ X 18 2 = Y 57 10 ∧ X 18 4 = Y 57 7 ∧ (∃ p, p ≤ len ∧ X 18 5 = nI p ∧ Y 57 6 = nI p) ∧ tkb (X 18 6) (Y 57 8) ∧ (X 18 6 = -3 → X 18 7 = Y 57 9)
def sm (L : Nat → Int32) (len : Nat) (X Y : wx_M) : Prop := md L len X (e_X12_nextToken Y)
def flt (X Y : wx_M) : Prop := X 18 2 = Y 57 10 ∧ X 18 3 = Y 57 7
section M19b
variable {L : Nat → Int32} {len : Nat} {X Y : wx_M}
theorem sm_base (hlen : len ≤ 140) (hb : ∀ i, i < len → wx_b (L i) 0 255) {p : Nat} (hp : p ≤ len) (h1 : X 18 1 = nI len) (h2 : ∀ i, i < len → X 19 i = L i) (h3 : Y 57 4 = nI len) (h4 : ∀ i, i < len → Y 61 i = L i) (h5 : X 18 2 = Y 57 10) (h6 : X 18 5 = nI p) (h7 : Y 57 6 = nI p) : sm L len (e_X6_step X) Y := by
  obtain ⟨a1, a2, a3⟩ := step_at hlen h1 h2 h6 hp
  obtain ⟨b1, bj, b2⟩ := next_at hlen h3 h4 h7 hp
  have fj : e_X12_nextToken Y 57 4 = Y 57 4 := bj 4 (by decide) (by decide) (by decide) (by decide)
  have f10 : e_X12_nextToken Y 57 10 = Y 57 10 := bj 10 (by decide) (by decide) (by decide) (by decide)
  refine ⟨by rw [a2 1 (by decide), h1], fun i hi => by rw [fr_X6_step (by decide)]; exact h2 i hi, by rw [fj, h3], fun i hi => by rw [fr_X12_nextToken (by decide)]; exact h4 i hi, by rw [a2 2 (by decide), h5, f10], by rw [a1, b1], ?_, ?_, ?_⟩
  · rcases a3 with ⟨c1, c2, c3⟩ | ⟨c1, c0, c2, c3⟩ | ⟨c1, r, hr, c0, c2, c3, c4⟩
    · rcases b2 with ⟨d1, d2, d3⟩ | ⟨d1, d0, d2, d3⟩ | ⟨d1, r', hr', d0, d2, d3, d4⟩
      · exact ⟨p, hp, c2, d2⟩
      · omega
      · omega
    · rcases b2 with ⟨d1, d2, d3⟩ | ⟨d1, d0, d2, d3⟩ | ⟨d1, r', hr', d0, d2, d3, d4⟩
      · omega
      · exact ⟨p + 1, by omega, c2, d2⟩
      · exact absurd c0 d0
    · rcases b2 with ⟨d1, d2, d3⟩ | ⟨d1, d0, d2, d3⟩ | ⟨d1, r', hr', d0, d2, d3, d4⟩
      · omega
      · exact absurd d0 c0
      · have e := run_one hr hr'
        subst e
        exact ⟨p + r, hr.1, c2, d2⟩
  · rcases a3 with ⟨c1, c2, c3⟩ | ⟨c1, c0, c2, c3⟩ | ⟨c1, r, hr, c0, c2, c3, c4⟩
    · rcases b2 with ⟨d1, d2, d3⟩ | ⟨d1, d0, d2, d3⟩ | ⟨d1, r', hr', d0, d2, d3, d4⟩
      · rw [c3, d3]; exact tkb_end
      · omega
      · omega
    · rcases b2 with ⟨d1, d2, d3⟩ | ⟨d1, d0, d2, d3⟩ | ⟨d1, r', hr', d0, d2, d3, d4⟩
      · omega
      · rw [c3, d3]
        obtain ⟨i, hi, ei⟩ := m_ex (n := 255) (hb p c1)
        rw [ei] at c0 ⊢
        exact tkb_all ⟨i, by omega⟩ c0
      · exact absurd c0 d0
    · rcases b2 with ⟨d1, d2, d3⟩ | ⟨d1, d0, d2, d3⟩ | ⟨d1, r', hr', d0, d2, d3, d4⟩
      · omega
      · exact absurd d0 c0
      · have e := run_one hr hr'
        subst e
        rw [c3, d3]
        by_cases q : 2 < r
        · rw [if_pos q, if_pos q]; exact tkb_bad
        · rw [if_neg q, if_neg q]; exact tkb_num
  · intro q3
    rcases a3 with ⟨c1, c2, c3⟩ | ⟨c1, c0, c2, c3⟩ | ⟨c1, r, hr, c0, c2, c3, c4⟩
    · rw [c3] at q3
      exact absurd q3 (by decide)
    · rw [c3] at q3
      obtain ⟨i, hi, ei⟩ := m_ex (n := 255) (hb p c1)
      rw [ei] at q3
      exfalso
      have : ∀ i : Fin 256, ¬ nI i.val = -3 := by decide +kernel
      exact this ⟨i, by omega⟩ q3
    · rcases b2 with ⟨d1, d2, d3⟩ | ⟨d1, d0, d2, d3⟩ | ⟨d1, r', hr', d0, d2, d3, d4⟩
      · omega
      · exact absurd d0 c0
      · have e := run_one hr hr'
        subst e
        rw [c3] at q3
        by_cases q : 2 < r
        · rw [if_pos q] at q3
          exact absurd q3 (by decide)
        · rw [if_neg q] at d4
          rw [c4, d4]
end M19b
