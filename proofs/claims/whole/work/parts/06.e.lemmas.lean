/-! loops that may stop early: what holds all along -/
theorem repX_inv {σ ρ : Type} {f : Nat → σ → σ ⊕ ρ} {s0 : σ} (I : Nat → σ → Prop) (Q : ρ → Prop) (N : Nat) (h0 : I 0 s0) (hl : ∀ t s s1, t < N → I t s → f t s = .inl s1 → I (t + 1) s1) (hr : ∀ t s r, t < N → I t s → f t s = .inr r → Q r) : (∀ s, repX N f s0 = .inl s → I N s) ∧ ∀ r, repX N f s0 = .inr r → Q r := by
  have key : ∀ n, n ≤ N → (∀ s, repX n f s0 = .inl s → I n s) ∧ ∀ r, repX n f s0 = .inr r → Q r := by
    intro n
    induction n with
    | zero =>
      intro _
      refine ⟨fun s h => ?_, fun r h => ?_⟩
      · cases h
        exact h0
      · cases h
    | succ n ih =>
      intro hn
      obtain ⟨h1, h2⟩ := ih (by omega)
      refine ⟨fun s h => ?_, fun r h => ?_⟩
      · cases hc : repX n f s0 with
        | inl s1 =>
          rw [repX_go hc] at h
          exact hl n s1 s (by omega) (h1 s1 hc) h
        | inr r =>
          rw [repX_stop hc 1] at h
          cases h
      · cases hc : repX n f s0 with
        | inl s1 =>
          rw [repX_go hc] at h
          exact hr n s1 r (by omega) (h1 s1 hc) h
        | inr r2 =>
          rw [repX_stop hc 1] at h
          cases h
          exact h2 _ hc
  exact key N (Nat.le_refl N)
theorem rep_inv {σ : Type} {f : Nat → σ → σ} {s0 : σ} (I : Nat → σ → Prop) (N : Nat) (h0 : I 0 s0) (hl : ∀ t s, t < N → I t s → I (t + 1) (f t s)) : I N (rep N f s0) := by
  have key : ∀ n, n ≤ N → I n (rep n f s0) := by
    intro n
    induction n with
    | zero => intro _; exact h0
    | succ n ih => intro hn; exact hl n _ (by omega) (ih (by omega))
  exact key N (Nat.le_refl N)
theorem wb_neq {x y : Int32} {a b c d : Int} (h : wx_b x a b) (k : wx_b y c d) (e : b < c ∨ d < a) : ¬ x = y := by
  intro q
  rw [q] at h
  unfold wx_b at *
  omega
/-! the tape's numbers -/
def wx_TB (g : wx_M) : Prop := wx_b (g 18 1) 0 140 ∧ wx_b (g 18 4) 0 140 ∧ wx_b (g 18 5) 0 140
theorem tT_n {g : wx_M} {k j : Nat} {v : Int32} (hk : 18 ≠ k) (h : wx_TB g) : wx_TB (up2 g k j v) := by
  unfold wx_TB
  rw [up2_n hk]
  exact h
theorem tT_o {g : wx_M} {j : Nat} {v : Int32} (h1 : 1 ≠ j) (h4 : 4 ≠ j) (h5 : 5 ≠ j) (h : wx_TB g) : wx_TB (up2 g 18 j v) := by
  unfold wx_TB
  rw [up2_sn h1, up2_sn h4, up2_sn h5]
  exact h
theorem tT_4 {g : wx_M} {v : Int32} (hv : wx_b v 0 140) (h : wx_TB g) : wx_TB (up2 g 18 4 v) := by
  unfold wx_TB
  rw [up2_sn (by decide), up2_ss, up2_sn (by decide)]
  exact ⟨h.1, hv, h.2.2⟩
theorem tT_5 {g : wx_M} {v : Int32} (hv : wx_b v 0 140) (h : wx_TB g) : wx_TB (up2 g 18 5 v) := by
  unfold wx_TB
  rw [up2_sn (by decide), up2_sn (by decide), up2_ss]
  exact ⟨h.1, h.2.1, hv⟩
