/-! THE MATH 5: loops over sets of rooms -/
section M5
variable {g g' : wx_M} {h K : Nat}
theorem q_believed (R : m_HR g h (g' 65)) (B : m_NB (g' 65) K) {p m : Nat} (hp : p < (g' 65 3).toNatClampNeg) (hm : m < 8) : r_X3_mostTold g h (nI p) (nI m) = (rep (g' 65 (0 : Int32).toNatClampNeg).toNatClampNeg (b_X12_believed_27 g' (nI p) (nI m)) ((-1000000), 0)).1 := by
  simp only [r_X3_mostTold, ix_0, R.rooms]
  have hr := rep_rel (f := b_X3_mostTold_9 g h (nI p) (nI m)) (f' := b_X12_believed_27 g' (nI p) (nI m)) (s := (0, -1000000)) (s' := (-1000000, 0)) (n := (g' 65 0).toNatClampNeg) (fun _ a b => a.1 = b.2 ∧ a.2 = b.1) ⟨rfl, rfl⟩ (fun t a b ht hab => by
    obtain ⟨h1, h2⟩ := hab
    simp only [b_X3_mostTold_9, b_X12_believed_27]
    have e : rep (g h 5).toNatClampNeg (b_X3_mostTold_24 g h (nI p) (nI m) t a) (0 : Int32) = rep (g' 65 (4 : Int32).toNatClampNeg).toNatClampNeg (b_X12_believed_44 g' (nI p) (nI m) t b) (0 : Int32) := by
      refine rep_congr (by rw [ix_4, R.gs]) (fun u z hu => ?_)
      rw [R.gs] at hu
      simp only [b_X3_mostTold_24, b_X12_believed_44, m_add0]
      rw [q_toldBy R B hu hp hm]
    rw [e, h1]
    split
    · exact ⟨rfl, h2⟩
    · exact ⟨rfl, rfl⟩)
  exact hr.2
theorem m_pow_all : ∀ i : Fin 7, ((1 : Int32) <<< (nI i.val &&& 31)).toNatClampNeg = 2 ^ i.val := by decide +kernel
theorem m_bn6_all : ∀ i : Fin 64, bN (nI i.val) ≤ 6 := by decide +kernel
theorem q_pow (B : m_NB (g' 65) K) : ((1 : Int32) <<< (g' 65 0 &&& 31)).toNatClampNeg = 2 ^ (g' 65 0).toNatClampNeg := by
  obtain ⟨i, h3, e3⟩ := m_ex (n := 6) B.rooms
  rw [e3, ix (by omega)]
  exact m_pow_all ⟨i, by omega⟩
theorem m_pow64 {i : Nat} (h : i ≤ 6) : 2 ^ i ≤ 64 := Nat.pow_le_pow_right (by decide) h
theorem m_popS (g : wx_M) {k : Nat} (h : k < 64) : r_J6_bitCount_0f7a4 (nI k) = r_X12_bits g (nI k) := m_popb g (wb_nI (n := 255) (by omega) (by decide))
theorem q_settled (R : m_HR g h (g' 65)) (B : m_NB (g' 65) K) (h2 : 2 ≤ (g' 65 0).toNatClampNeg) {m : Nat} (hm : m < 8) : r_X3_fewestSettling g h (nI m) = rep (((1 : Int32) <<< ((g' 65 (0 : Int32).toNatClampNeg) &&& 31)).toNatClampNeg - 1) (b_X12_settled_27 g' (nI m)) ((-1000000) : Int32) := by
  have hr6 := B.r6
  simp only [r_X3_fewestSettling, R.rooms, ix_0]
  rw [q_pow B]
  obtain ⟨M, hM⟩ : ∃ M, 2 ^ (g' 65 0).toNatClampNeg = M + 1 := ⟨2 ^ (g' 65 0).toNatClampNeg - 1, by have := Nat.two_pow_pos (g' 65 0).toNatClampNeg; omega⟩
  have hM64 := m_pow64 hr6
  rw [hM, Nat.add_sub_cancel, rep_first]
  have f0 : b_X3_fewestSettling_9 g h (nI m) 0 ((-1000000), 7) = ((-1000000), 7) := by
    simp only [b_X3_fewestSettling_9]
    rw [q_settles R B _ hm, nI_0, q_settles0 B h2]
    simp
  rw [f0]
  have hr := rep_rel (f := fun t => b_X3_fewestSettling_9 g h (nI m) (t + 1)) (f' := b_X12_settled_27 g' (nI m)) (s := ((-1000000), 7)) (s' := -1000000) (n := M) (fun _ a b => a.1 = b ∧ ((b = -1000000 ∧ a.2 = 7) ∨ (∃ k, k < 64 ∧ b = nI k ∧ a.2 = r_X12_bits g' (nI k)))) ⟨rfl, Or.inl ⟨rfl, rfl⟩⟩ (fun t a b ht hab => by
    obtain ⟨h1, h3⟩ := hab
    simp only [b_X3_fewestSettling_9, b_X12_settled_27]
    rw [q_settles R B _ hm, m_popS g' (show t + 1 < 64 by omega), Nat.add_comm 1 t]
    rcases h3 with ⟨e1, e2⟩ | ⟨k, hk, e1, e2⟩
    · have c1 : ¬ a.2 ≤ r_X12_bits g' (nI (t + 1)) := by
        rw [e2, m_bits]
        have := m_bn6_all ⟨t + 1, by omega⟩
        intro q
        have := (nI_leI (a := 7) (by omega) (by have := bN_le (nI (t + 1)); omega)).mp q
        simp only at *
        omega
      rw [if_neg c1, if_pos e1]
      split
      · exact ⟨h1, Or.inl ⟨e1, e2⟩⟩
      · exact ⟨rfl, Or.inr ⟨t + 1, by omega, rfl, rfl⟩⟩
    · have hne : ¬ b = -1000000 := by rw [e1]; exact m_nIne (by omega)
      rw [if_neg hne, e2, e1]
      split
      · exact ⟨h1.trans e1, Or.inr ⟨k, hk, rfl, rfl⟩⟩
      · split
        · exact ⟨h1.trans e1, Or.inr ⟨k, hk, rfl, rfl⟩⟩
        · exact ⟨rfl, Or.inr ⟨t + 1, by omega, rfl, rfl⟩⟩)
  exact hr.1
/-- what a set costs: its answer beside the reference's sum and whether it can be had -/
theorem q_cost (R : m_HR g h (g' 65)) (B : m_NB (g' 65) K) {v m : Nat} (hv : v < (g' 65 4).toNatClampNeg) (hm : m < 8) (y : Int32) (k : Nat) (b : Int32 × Int32) (x c0 : Int32) (hc0 : c0 = 0 ∨ c0 = 1) :
    (∃ c, r_X3_costOf g h (nI v) (nI (1 + k)) (nI m) = c ∧ wx_b c 0 (199 * 6) ∧ rep (g' 65 (0 : Int32).toNatClampNeg).toNatClampNeg (b_X12_cheapest_66 g' (nI v) (nI m) y k b x) (0, c0) = (c, c0)) ∨ (r_X3_costOf g h (nI v) (nI (1 + k)) (nI m) = -1000000 ∧ (rep (g' 65 (0 : Int32).toNatClampNeg).toNatClampNeg (b_X12_cheapest_66 g' (nI v) (nI m) y k b x) (0, c0)).2 = 0) := by
  have hr6 := B.r6
  have key : ∀ n, n ≤ (g' 65 0).toNatClampNeg → (∃ c, repX n (b_X3_costOf_6 g h (nI v) (nI (1 + k)) (nI m)) 0 = .inl c ∧ wx_b c 0 (199 * n) ∧ rep n (b_X12_cheapest_66 g' (nI v) (nI m) y k b x) (0, c0) = (c, c0)) ∨ (repX n (b_X3_costOf_6 g h (nI v) (nI (1 + k)) (nI m)) 0 = .inr (-1000000) ∧ (rep n (b_X12_cheapest_66 g' (nI v) (nI m) y k b x) (0, c0)).2 = 0) := by
    intro n
    induction n with
    | zero => exact fun _ => Or.inl ⟨0, rfl, ⟨by decide, by decide⟩, rfl⟩
    | succ n ih =>
      intro hn
      rcases ih (by omega) with ⟨c, h1, hb, h3⟩ | ⟨h1, h3⟩
      · rw [repX_go h1, rep_succ, h3]
        simp only [b_X3_costOf_6, b_X12_cheapest_66, m_has]
        rw [q_holds R (show n < 6 by omega) hm, q_isLeft R B (show n < 6 by omega) hm, q_price R B hv (show n < 6 by omega) hm]
        have hp := q_priceb B hv (show n < 6 by omega) hm
        have hs : wx_b (c + r_X12_priceOf g' (nI v) (nI n) (nI m)) 0 (199 * ((n + 1 : Nat) : Int)) := by
          have := wb_add hb hp (by omega) (by omega)
          exact wb_w this (by omega) (by omega)
        have hb' : wx_b c 0 (199 * ((n + 1 : Nat) : Int)) := wb_w hb (by omega) (by omega)
        by_cases c1 : r_X12_has (nI (1 + k)) (nI n) = 0
        · simp only [c1, if_true]
          exact Or.inl ⟨c, rfl, hb', rfl⟩
        · simp only [c1, if_false]
          by_cases c2 : r_X12_has (r_X12_heldAt g' (nI n) (nI m)) (nI v) = 0
          · simp only [c2, if_true]
            by_cases c3 : r_X12_isLeft g' (nI n) (nI m) = 0
            · simp only [c3, if_true]
              refine Or.inr ⟨trivial, ?_⟩
              split <;> rfl
            · simp only [c3, if_false]
              refine Or.inl ⟨_, rfl, hs, ?_⟩
              rcases hc0 with e | e
              · rw [e]; simp
              · rw [e]; simp
          · simp only [c2, if_false]
            exact Or.inl ⟨c, rfl, hb', rfl⟩
      · rw [repX_stop h1 1, rep_succ]
        refine Or.inr ⟨rfl, ?_⟩
        simp only [b_X12_cheapest_66]
        (repeat' split) <;> first | exact h3 | rfl | (rename_i c9; exact absurd h3 c9) | skip
  simp only [r_X3_costOf]
  rw [R.rooms, ix_0]
  rcases key _ (Nat.le_refl _) with ⟨c, h1, hb, h3⟩ | ⟨h1, h3⟩
  · exact Or.inl ⟨c, by rw [h1], wb_w hb (by omega) (by omega), h3⟩
  · exact Or.inr ⟨by rw [h1], h3⟩
end M5
