theorem repX_inv2 {σ ρ : Type} {f : Nat → σ → σ ⊕ ρ} {s0 : σ} (I : Nat → σ → Prop) (Q : ρ → Prop) (N : Nat) (h0 : I 0 s0) (hl : ∀ t s, t < N → I t s → (∃ s9, f t s = .inl s9 ∧ I (t + 1) s9) ∨ (∃ r, f t s = .inr r ∧ Q r)) : (∀ s, repX N f s0 = .inl s → I N s) ∧ ∀ r, repX N f s0 = .inr r → Q r :=
  repX_inv I Q N h0 (fun t s s1 ht hI he => by
    rcases hl t s ht hI with ⟨s9, h1, h2⟩ | ⟨r, h1, h2⟩
    · rw [he] at h1
      cases h1
      exact h2
    · rw [he] at h1
      cases h1) (fun t s r ht hI he => by
    rcases hl t s ht hI with ⟨s9, h1, h2⟩ | ⟨r9, h1, h2⟩
    · rw [he] at h1
      cases h1
    · rw [he] at h1
      cases h1
      exact h2)
/-! what the reference's reading keeps: the place is within the bytes; counts, rooms, walls -/
def wx_PB (g : wx_M) : Prop := wx_b (g 57 4) 0 140 ∧ wx_b (g 57 6) 0 140 ∧ (g 57 6).toInt ≤ (g 57 4).toInt
def wx_RS (g : wx_M) : Prop := wx_b (g 57 11) 0 6 ∧ wx_b (g 57 14) 0 9 ∧ wx_b (g 57 16) 0 4 ∧ wx_b (g 57 18) 0 4 ∧ ∀ j, j < 18 → wx_b (g 62 j) 0 5
def wx_PR (g : wx_M) : Prop := wx_PB g ∧ wx_RS g
theorem pr_o {g : wx_M} {j : Nat} {v : Int32} (h4 : 4 ≠ j) (h6 : 6 ≠ j) (h11 : 11 ≠ j) (h14 : 14 ≠ j) (h16 : 16 ≠ j) (h18 : 18 ≠ j) (h : wx_PR g) : wx_PR (up2 g 57 j v) := by
  unfold wx_PR wx_PB wx_RS
  rw [up2_sn h4, up2_sn h6, up2_sn h11, up2_sn h14, up2_sn h16, up2_sn h18, up2_n (show 62 ≠ 57 by decide)]
  exact h
theorem pr_n {g : wx_M} {k j : Nat} {v : Int32} (h1 : 57 ≠ k) (h2 : 62 ≠ k) (h : wx_PR g) : wx_PR (up2 g k j v) := by
  unfold wx_PR wx_PB wx_RS
  rw [up2_n h1, up2_n h2]
  exact h
theorem pr_p0 {g : wx_M} (h : wx_PR g) : wx_PR (up2 g 57 6 0) := by
  unfold wx_PR wx_PB wx_RS
  rw [up2_sn (show 4 ≠ 6 by decide), up2_ss, up2_sn (show 11 ≠ 6 by decide), up2_sn (show 14 ≠ 6 by decide), up2_sn (show 16 ≠ 6 by decide), up2_sn (show 18 ≠ 6 by decide), up2_n (show 62 ≠ 57 by decide)]
  exact ⟨⟨h.1.1, ⟨by decide, by decide⟩, h.1.1.1⟩, h.2⟩
theorem pr_11 {g : wx_M} {v : Int32} (hv : wx_b v 0 6) (h : wx_PR g) : wx_PR (up2 g 57 11 v) := by
  unfold wx_PR wx_PB wx_RS
  rw [up2_sn (show 4 ≠ 11 by decide), up2_sn (show 6 ≠ 11 by decide), up2_ss, up2_sn (show 14 ≠ 11 by decide), up2_sn (show 16 ≠ 11 by decide), up2_sn (show 18 ≠ 11 by decide), up2_n (show 62 ≠ 57 by decide)]
  exact ⟨h.1, hv, h.2.2⟩
theorem pr_14 {g : wx_M} {v : Int32} (hv : wx_b v 0 9) (h : wx_PR g) : wx_PR (up2 g 57 14 v) := by
  unfold wx_PR wx_PB wx_RS
  rw [up2_sn (show 4 ≠ 14 by decide), up2_sn (show 6 ≠ 14 by decide), up2_sn (show 11 ≠ 14 by decide), up2_ss, up2_sn (show 16 ≠ 14 by decide), up2_sn (show 18 ≠ 14 by decide), up2_n (show 62 ≠ 57 by decide)]
  exact ⟨h.1, h.2.1, hv, h.2.2.2⟩
theorem pr_16 {g : wx_M} {v : Int32} (hv : wx_b v 0 4) (h : wx_PR g) : wx_PR (up2 g 57 16 v) := by
  unfold wx_PR wx_PB wx_RS
  rw [up2_sn (show 4 ≠ 16 by decide), up2_sn (show 6 ≠ 16 by decide), up2_sn (show 11 ≠ 16 by decide), up2_sn (show 14 ≠ 16 by decide), up2_ss, up2_sn (show 18 ≠ 16 by decide), up2_n (show 62 ≠ 57 by decide)]
  exact ⟨h.1, h.2.1, h.2.2.1, hv, h.2.2.2.2⟩
theorem pr_18 {g : wx_M} {v : Int32} (hv : wx_b v 0 4) (h : wx_PR g) : wx_PR (up2 g 57 18 v) := by
  unfold wx_PR wx_PB wx_RS
  rw [up2_sn (show 4 ≠ 18 by decide), up2_sn (show 6 ≠ 18 by decide), up2_sn (show 11 ≠ 18 by decide), up2_sn (show 14 ≠ 18 by decide), up2_sn (show 16 ≠ 18 by decide), up2_ss, up2_n (show 62 ≠ 57 by decide)]
  exact ⟨h.1, h.2.1, h.2.2.1, h.2.2.2.1, hv, h.2.2.2.2.2⟩
theorem pr_62 {g : wx_M} {i : Nat} {v : Int32} (hv : wx_b v 0 5) (h : wx_PR g) : wx_PR (up2 g 62 i v) := by
  unfold wx_PR wx_PB wx_RS
  rw [up2_n (show 57 ≠ 62 by decide)]
  refine ⟨h.1, h.2.1, h.2.2.1, h.2.2.2.1, h.2.2.2.2.1, fun j hj => ?_⟩
  by_cases e : j = i
  · rw [e, up2_ss]
    exact hv
  · rw [up2_sn e]
    exact h.2.2.2.2.2 j hj
theorem pr_ltI {g : wx_M} (h : wx_PR g) (c : ¬ g 57 6 = g 57 4) : (g 57 6).toInt < (g 57 4).toInt := by
  have h1 := h.1.2.2
  have : (g 57 6).toInt ≠ (g 57 4).toInt := fun e => c (Int32.toInt_inj.mp e)
  omega
theorem pr_lt {g : wx_M} (h : wx_PR g) (c : ¬ g 57 6 = g 57 4) : wx_b (g 57 6) 0 139 := by
  have h1 := pr_ltI h c
  have h2 := h.1.1.2
  exact ⟨h.1.2.1.1, by omega⟩
theorem pr_lt2 {g : wx_M} (h : wx_PR g) (c : ¬ g 57 4 ≤ g 57 6) : wx_b (g 57 6) 0 139 := by
  have h1 := Int32.lt_iff_toInt_lt.mp (Int32.not_le.mp c)
  have h2 := h.1.1.2
  exact ⟨h.1.2.1.1, by omega⟩
theorem pr_inc {g : wx_M} (h : wx_PR g) (hl : (g 57 6).toInt < (g 57 4).toInt) : wx_PR (up2 g 57 6 (g 57 6 + 1)) ∧ (up2 g 57 6 (g 57 6 + 1) 57 6).toNatClampNeg = (g 57 6).toNatClampNeg + 1 := by
  have h2 := h.1.1
  have h6 := h.1.2.1
  have e1 : (1 : Int32).toInt = 1 := rfl
  have e : (g 57 6 + 1).toInt = (g 57 6).toInt + 1 := by
    obtain ⟨p1, p2⟩ := h6
    obtain ⟨q1, q2⟩ := h2
    rw [fb_addI (by rw [e1]; omega) (by rw [e1]; omega), e1]
  constructor
  · unfold wx_PR wx_PB wx_RS
    rw [up2_sn (show 4 ≠ 6 by decide), up2_ss, up2_sn (show 11 ≠ 6 by decide), up2_sn (show 14 ≠ 6 by decide), up2_sn (show 16 ≠ 6 by decide), up2_sn (show 18 ≠ 6 by decide), up2_n (show 62 ≠ 57 by decide)]
    refine ⟨⟨h2, ?_, by rw [e]; omega⟩, h.2⟩
    unfold wx_b at *
    rw [e]
    omega
  · rw [up2_ss]
    show (g 57 6 + 1).toInt.toNat = (g 57 6).toInt.toNat + 1
    rw [e]
    have := h6.1
    omega
theorem pr_inc9 {s m1 m2 : wx_M} {v x : Int32} (h : wx_PR s) (c : ¬ s 57 4 ≤ s 57 6) (e1 : m1 = up2 s 57 9 v) (ex : x = m1 57 6 + 1) (e2 : m2 = up2 m1 57 6 x) : wx_PR m2 ∧ (m2 57 6).toNatClampNeg = (s 57 6).toNatClampNeg + 1 := by
  have h1 : wx_PR m1 := by
    rw [e1]
    exact pr_o (by decide) (by decide) (by decide) (by decide) (by decide) (by decide) h
  have h2 := pr_inc h1 (by rw [e1, up2_sn (by decide), up2_sn (by decide)]; exact Int32.lt_iff_toInt_lt.mp (Int32.not_le.mp c))
  rw [e2, ex]
  refine ⟨h2.1, ?_⟩
  rw [h2.2, e1, up2_sn (by decide)]
