/-! THE MATH 7: seats by minutes and rooms, or one after the other -/
theorem repX_add {σ ρ : Type} (a : Nat) (f : Nat → σ → σ ⊕ ρ) (s : σ) : ∀ b, repX (a + b) f s = (match repX a f s with | .inl s1 => repX b (fun r => f (a + r)) s1 | .inr r => .inr r)
  | 0 => by
    show repX a f s = _
    cases repX a f s <;> rfl
  | b + 1 => by
    show (match repX (a + b) f s with | .inl s1 => f (a + b) s1 | .inr r => .inr r) = _
    rw [repX_add a f s b]
    cases repX a f s with
    | inl s1 => rfl
    | inr r => rfl
theorem repX_flat {σ ρ : Type} (n : Nat) (f : Nat → σ → σ ⊕ ρ) (s : σ) : ∀ M, repX (n * M) f s = repX M (fun m s => repX n (fun r s => f (n * m + r) s) s) s
  | 0 => rfl
  | M + 1 => by
    rw [Nat.mul_succ, repX_add]
    show _ = (match repX M (fun m s => repX n (fun r s => f (n * m + r) s) s) s with | .inl s1 => repX n (fun r s => f (n * M + r) s) s1 | .inr r => .inr r)
    rw [repX_flat n f s M]
/-- steps that do nothing, at the end -/
theorem repX_skip {σ ρ : Type} {f : Nat → σ → σ ⊕ ρ} {s : σ} {R : Nat} : ∀ n, R ≤ n → (∀ t s, R ≤ t → t < n → f t s = .inl s) → repX n f s = repX R f s
  | 0, h, _ => by rw [show R = 0 by omega]
  | n + 1, h, hs => by
    by_cases e : R = n + 1
    · rw [e]
    · show (match repX n f s with | .inl s1 => f n s1 | .inr r => .inr r) = _
      rw [repX_skip n (by omega) (fun t s h1 h2 => hs t s h1 (by omega))]
      cases repX R f s with
      | inl s1 => exact hs n s1 (by omega) (by omega)
      | inr r => rfl
theorem repX_lift {σ ρ : Type} {F : Nat → σ → σ ⊕ (σ ⊕ ρ)} {f : Nat → σ → σ ⊕ ρ} {s : σ} {n : Nat} (h : ∀ t s, t < n → F t s = (match f t s with | .inl x => .inl x | .inr v => .inr (.inr v))) : repX n F s = (match repX n f s with | .inl x => .inl x | .inr v => .inr (.inr v)) := by
  induction n with
  | zero => rfl
  | succ m ih =>
    have h1 := ih (fun t s ht => h t s (by omega))
    cases hc : repX m f s with
    | inl x =>
      rw [hc] at h1
      rw [repX_go h1, repX_go hc]
      exact h m x (by omega)
    | inr v =>
      rw [hc] at h1
      rw [repX_stop h1 1, repX_stop hc 1]
theorem rep_zero {σ : Type} (f : Nat → σ → σ) (s : σ) : rep 0 f s = s := rfl
theorem rep_add {σ : Type} (a : Nat) (f : Nat → σ → σ) (s : σ) : ∀ b, rep (a + b) f s = rep b (fun r => f (a + r)) (rep a f s)
  | 0 => rfl
  | b + 1 => by
    show f (a + b) (rep (a + b) f s) = _
    rw [rep_add a f s b]
    rfl
theorem rep_flat {σ : Type} (n : Nat) (f : Nat → σ → σ) (s : σ) : ∀ M, rep (n * M) f s = rep M (fun m s => rep n (fun r s => f (n * m + r) s) s) s
  | 0 => rfl
  | M + 1 => by
    rw [Nat.mul_succ, rep_add, rep_flat n f s M]
    rfl
theorem rep_skip {σ : Type} {f : Nat → σ → σ} {s : σ} {R : Nat} : ∀ n, R ≤ n → (∀ t s, R ≤ t → t < n → f t s = s) → rep n f s = rep R f s
  | 0, h, _ => by rw [show R = 0 by omega]
  | n + 1, h, hs => by
    by_cases e : R = n + 1
    · rw [e]
    · rw [rep_succ, rep_skip n (by omega) (fun t s h1 h2 => hs t s h1 (by omega))]
      exact hs n _ (by omega) (by omega)
section M7
variable {g g' : wx_M} {h K : Nat}
theorem q_isRoomN (B : m_NB (g' 65) K) {r : Nat} (hr : r < 1000) : r_X12_isRoom g' (nI r) = (if r < (g' 65 0).toNatClampNeg then 1 else 0) := by
  obtain ⟨i, h3, e3⟩ := m_ex (n := 6) B.rooms
  unfold r_X12_isRoom r_X12_in
  rw [ix_0, e3, ix (show i < 1000 by omega), if_neg (fun q => nI_pos (n := r) (by omega) q)]
  by_cases c : r < i
  · rw [if_pos c, show (1 : Int32) = nI 1 from rfl, pk_sub (by omega), if_neg (fun q => by have := (nI_ltI (by omega) (by omega)).mp q; omega)]
  · rw [if_neg c]
    have : nI i - 1 < nI r := by
      rcases Nat.eq_zero_or_pos i with e | e
      · rw [e]
        refine Int32.lt_iff_toInt_lt.mpr ?_
        rw [nI_toInt (by omega)]
        have : (nI 0 - 1 : Int32).toInt = -1 := by decide +kernel
        omega
      · rw [show (1 : Int32) = nI 1 from rfl, pk_sub (by omega)]
        exact (nI_ltI (by omega) (by omega)).mpr (by omega)
    rw [if_pos this]
theorem q_soldOut (R : m_HR g h (g' 65)) (B : m_NB (g' 65) K) (x : Int32) : r_X3_soldOutAt g h x = (match repX 48 (b_X12_soldOut_24 g' x) (0 : Int32) with | .inl s_24 => if x = (-1) then s_24 else (-1000000) | .inr r9 => r9) := by
  have hr6 := B.r6
  have e : repX 8 (b_X3_soldOutAt_4 g h x) (0 : Int32) = repX 48 (b_X12_soldOut_24 g' x) (0 : Int32) := by
    rw [show (48 : Nat) = 6 * 8 from rfl, repX_flat 6 _ _ 8]
    refine repX_congr rfl (fun m s hm => ?_)
    rw [repX_skip (R := (g' 65 0).toNatClampNeg) 6 hr6 (fun r s h1 h2 => by
      simp only [b_X12_soldOut_24]
      rw [m_r6 (by omega), show (6 * m + r) % 6 = r by omega, q_isRoomN B (by omega), if_neg (show ¬ r < (g' 65 0).toNatClampNeg by omega), if_pos rfl])]
    simp only [b_X3_soldOutAt_4]
    rw [R.rooms]
    rw [repX_lift (F := b_X3_soldOutAt_13 g h x m s) (f := fun r s => b_X12_soldOut_24 g' x (6 * m + r) s) (fun r s hr => ?_)]
    · cases repX (g' 65 0).toNatClampNeg (fun r s => b_X12_soldOut_24 g' x (6 * m + r) s) s <;> rfl
    simp only [b_X3_soldOutAt_13, b_X12_soldOut_24]
    rw [m_r6 (by omega), m_q6 (by omega), show (6 * m + r) % 6 = r by omega, show (6 * m + r) / 6 = m by omega, q_isRoomN B (by omega), if_pos hr, if_neg (show ¬ (1 : Int32) = 0 by decide), q_isLeft R B (show r < 6 by omega) hm, m_seat]
    by_cases c1 : r_X12_isLeft g' (nI r) (nI m) = 0
    · simp only [c1, if_true]
      by_cases c2 : s = x
      · simp only [c2, if_true]
      · simp only [if_neg c2]
    · simp only [if_neg c1]
  simp only [r_X3_soldOutAt]
  rw [e]
  cases repX 48 (b_X12_soldOut_24 g' x) (0 : Int32) <;> rfl
def m_hs (g' : wx_M) (k : Nat) (s : Int32 × Int32) : Int32 × Int32 := if r_X12_bits g' (g' 65 (100 + k)) ≤ s.1 then (s.1, s.2) else (r_X12_bits g' (g' 65 (100 + k)), nI k)
theorem m_bitsb (g : wx_M) (x : Int32) : wx_b (r_X12_bits g x) 0 8 := by
  rw [m_bits]
  exact wb_nI (n := 8) (bN_le _) (by decide)
theorem m_hs0 (g' : wx_M) (k : Nat) (s : Int32 × Int32) (h : 0 ≤ s.1.toInt) : 0 ≤ (m_hs g' k s).1.toInt := by
  unfold m_hs
  split
  · exact h
  · exact (m_bitsb g' (g' 65 (100 + k))).1
theorem m_hsz (g' : wx_M) (k : Nat) (s : Int32 × Int32) (h : 0 ≤ s.1.toInt) (hz : g' 65 (100 + k) = 0) : m_hs g' k s = s := by
  unfold m_hs
  have hz2 : bN 0 = 0 := by decide +kernel
  have e : r_X12_bits g' (g' 65 (100 + k)) = 0 := by rw [hz, m_bits, hz2, nI_0]
  rw [if_pos (by rw [e]; exact Int32.le_iff_toInt_le.mpr h)]
theorem m_hsr (R : m_HR g h (g' 65)) (B : m_NB (g' 65) K) {m : Nat} (hm : m < 8) (s0 : Int32 × Int32) (h0 : 0 ≤ s0.1.toInt) : ∀ r, r ≤ (g' 65 0).toNatClampNeg → rep r (fun r s => m_hs g' (6 * m + r) s) s0 = rep r (b_X3_mostHeld_15 g h m s0) s0 ∧ 0 ≤ (rep r (fun r s => m_hs g' (6 * m + r) s) s0).1.toInt := by
  have hr6 := B.r6
  intro r
  induction r with
  | zero =>
    intro _
    rw [rep_zero, rep_zero]
    exact ⟨rfl, h0⟩
  | succ r ih =>
    intro hr
    obtain ⟨j1, j2⟩ := ih (by omega)
    rw [rep_succ, rep_succ]
    refine ⟨?_, m_hs0 _ _ _ j2⟩
    rw [j1]
    simp only [b_X3_mostHeld_15, m_hs]
    rw [q_heldOf R B (show r < 6 by omega) hm, q_at (show r < 6 by omega) hm, m_seat]
theorem m_hsm (R : m_HR g h (g' 65)) (B : m_NB (g' 65) K) {m : Nat} (hm : m < 8) (s0 : Int32 × Int32) (h0 : 0 ≤ s0.1.toInt) : rep 6 (fun r s => m_hs g' (6 * m + r) s) s0 = b_X3_mostHeld_6 g h m s0 ∧ 0 ≤ (b_X3_mostHeld_6 g h m s0).1.toInt := by
  have hr6 := B.r6
  obtain ⟨j1, j2⟩ := m_hsr R B hm s0 h0 (g' 65 0).toNatClampNeg (Nat.le_refl _)
  have key : ∀ n, (g' 65 0).toNatClampNeg + n ≤ 6 → rep ((g' 65 0).toNatClampNeg + n) (fun r s => m_hs g' (6 * m + r) s) s0 = rep (g' 65 0).toNatClampNeg (fun r s => m_hs g' (6 * m + r) s) s0 := by
    intro n
    induction n with
    | zero => exact fun _ => rfl
    | succ n ih =>
      intro hn
      rw [← Nat.add_assoc, rep_succ, ih (by omega)]
      exact m_hsz g' _ _ j2 (B.hlr (6 * m + ((g' 65 0).toNatClampNeg + n)) (by omega) (by omega))
  have k6 := key (6 - (g' 65 0).toNatClampNeg) (by omega)
  rw [show (g' 65 0).toNatClampNeg + (6 - (g' 65 0).toNatClampNeg) = 6 by omega] at k6
  have e : b_X3_mostHeld_6 g h m s0 = rep (g' 65 0).toNatClampNeg (b_X3_mostHeld_15 g h m s0) s0 := by
    simp only [b_X3_mostHeld_6]
    rw [R.rooms]
  rw [k6, e, ← j1]
  exact ⟨rfl, j2⟩
theorem m_hsa (R : m_HR g h (g' 65)) (B : m_NB (g' 65) K) : ∀ M, M ≤ 8 → rep M (b_X3_mostHeld_6 g h) (0, 0) = rep M (fun m s => rep 6 (fun r s => m_hs g' (6 * m + r) s) s) (0, 0) ∧ 0 ≤ (rep M (b_X3_mostHeld_6 g h) (0, 0)).1.toInt := by
  intro M
  induction M with
  | zero =>
    intro _
    rw [rep_zero, rep_zero]
    exact ⟨rfl, show (0 : Int) ≤ (0 : Int32).toInt by decide⟩
  | succ M ih =>
    intro hM
    obtain ⟨i1, i2⟩ := ih (by omega)
    obtain ⟨k1, k2⟩ := m_hsm R B (show M < 8 by omega) _ i2
    rw [rep_succ, rep_succ, ← i1, k1]
    exact ⟨rfl, k2⟩
theorem q_haunted (R : m_HR g h (g' 65)) (B : m_NB (g' 65) K) : r_X3_mostHeld g h = rep 48 (b_X12_haunted_16 g') (0 : Int32) := by
  have e : rep 8 (b_X3_mostHeld_6 g h) (0, 0) = rep (6 * 8) (m_hs g') (0, 0) := by
    rw [(m_hsa R B 8 (Nat.le_refl _)).1, rep_flat 6 _ _ 8]
  simp only [r_X3_mostHeld]
  rw [e]
  have f1 : rep (6 * 8) (m_hs g') (0, 0) = rep 47 (fun t => m_hs g' (t + 1)) (m_hs g' 0 (0, 0)) := rep_first 47 _ _
  have f2 : rep 48 (b_X12_haunted_16 g') (0 : Int32) = rep 47 (fun t => b_X12_haunted_16 g' (t + 1)) (b_X12_haunted_16 g' 0 0) := rep_first 47 _ _
  rw [f1, f2]
  have e0 : b_X12_haunted_16 g' 0 0 = nI 0 := by
    simp only [b_X12_haunted_16]
    rw [nI_0]
    split <;> rfl
  have hr := rep_rel (f := fun t => m_hs g' (t + 1)) (f' := fun t => b_X12_haunted_16 g' (t + 1)) (s := m_hs g' 0 (0, 0)) (s' := b_X12_haunted_16 g' 0 0) (n := 47) (fun _ a b => a.2 = b ∧ ∃ k, k < 48 ∧ b = nI k ∧ a.1 = r_X12_bits g' (g' 65 (100 + k))) (by
      rw [e0]
      simp only [m_hs]
      split
      · rename_i c
        refine ⟨nI_0.symm, 0, by omega, rfl, ?_⟩
        rw [m_bits] at c ⊢
        refine Int32.le_antisymm ?_ c
        rw [← nI_0]
        exact (nI_leI (by omega) (by have := bN_le (g' 65 (100 + 0)); omega)).mpr (by omega)
      · exact ⟨rfl, 0, by omega, rfl, rfl⟩) (fun t a b ht hab => by
      obtain ⟨h1, k, hk, h3, h4⟩ := hab
      simp only [b_X12_haunted_16, m_hs]
      rw [ix_a100 (show t + 1 < 1000 by omega), h3, ix_a100 (show k < 1000 by omega), h4]
      split
      · exact ⟨h1.trans h3, k, hk, rfl, rfl⟩
      · exact ⟨rfl, t + 1, by omega, rfl, rfl⟩)
  exact hr.1
end M7
