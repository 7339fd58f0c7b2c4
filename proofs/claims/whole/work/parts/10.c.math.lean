/-! THE MATH 3: prices, what is told, what settles -/
theorem m_x10_all : ∀ i : Fin 101, (if (0 : Int32) < nI i.val - 1 then nI i.val - 1 else 0) = (if nI i.val ≤ 0 then 0 else nI i.val - 1) ∧ (if nI i.val ≤ 0 then (0 : Int32) else nI i.val - 1) = (if nI i.val = 0 then 0 else nI i.val - 1) := by decide +kernel
theorem m_x10 {X : Int32} (h : wx_b X 0 100) : (if (0 : Int32) < X - 1 then X - 1 else 0) = (if X ≤ 0 then 0 else X - 1) ∧ (if X ≤ 0 then (0 : Int32) else X - 1) = (if X = 0 then 0 else X - 1) := by
  obtain ⟨i, h1, rfl⟩ := m_ex (n := 100) h
  exact m_x10_all ⟨i, by omega⟩
def m_pr (x kd : Int32) (heir : Prop) [Decidable heir] : Int32 :=
  if kd = 1 then x else if kd = 2 then x + 1 else if kd = 3 then x / 2 else if kd = 4 then (if x ≤ 0 then 0 else x - 1) else if heir then 0 else (if x = 0 then 0 else x - 1)
theorem m_prb_all : ∀ i : Fin 101, (∃ j : Fin 200, nI i.val + 1 = nI j.val) ∧ (∃ j : Fin 200, nI i.val / 2 = nI j.val) ∧ (∃ j : Fin 200, (if nI i.val ≤ 0 then (0 : Int32) else nI i.val - 1) = nI j.val) := by
  intro i
  have hi := i.isLt
  refine ⟨⟨⟨i.val + 1, by omega⟩, nI_1 _⟩, ⟨⟨i.val / 2, by omega⟩, by rw [show (2 : Int32) = nI 2 from rfl]; exact pk_div (by omega) (by omega) (by omega)⟩, ?_⟩
  by_cases c : nI i.val ≤ 0
  · exact ⟨⟨0, by omega⟩, if_pos c⟩
  · refine ⟨⟨i.val - 1, by omega⟩, ?_⟩
    rw [if_neg c]
    refine pk_sub (b := 1) ?_
    rcases Nat.eq_zero_or_pos i.val with e | e
    · rw [e] at c
      exact absurd (by decide) c
    · exact e
theorem m_prb {x kd : Int32} {heir : Prop} [Decidable heir] (h : wx_b x 0 100) : wx_b (m_pr x kd heir) 0 199 := by
  obtain ⟨i, h1, rfl⟩ := m_ex (n := 100) h
  obtain ⟨⟨a, ea⟩, ⟨b, eb⟩, ⟨c, ec⟩⟩ := m_prb_all ⟨i, by omega⟩
  have w : ∀ j : Fin 200, wx_b (nI j.val) 0 199 := fun j => wb_nI (n := 199) (by have := j.isLt; omega) (by decide)
  simp only [m_pr]
  rw [← (m_x10 h).2]
  (repeat' split) <;> first | exact wb_nI (n := 199) (by omega) (by decide) | (rw [ea]; exact w a) | (rw [eb]; exact w b) | exact ⟨by decide, by decide⟩ | skip
  all_goals (rename_i c0; rw [if_neg c0] at ec; rw [ec]; exact w c)
section M3
variable {g g' : wx_M} {h K : Nat}
/-- the price ahead of the kind -/
def m_base (g' : wx_M) (r m : Nat) : Int32 :=
  let X := g' 65 2 + r_X12_bits g' (r_X12_heldAt g' (nI r) (nI m)) - (if r_X12_has (g' 65 51) (nI m) = 0 then 0 else 2)
  if 0 ≤ X then X else 0
theorem m_baseb (B : m_NB (g' 65) K) {r m : Nat} : wx_b (m_base g' r m) 0 100 := by
  have h1 : wx_b (r_X12_bits g' (r_X12_heldAt g' (nI r) (nI m))) 0 8 := by
    rw [m_bits]; exact wb_nI (n := 8) (bN_le _) (by decide)
  have h2 := wb_add B.fee h1 (by decide) (by decide)
  have h3 : wx_b (if r_X12_has (g' 65 51) (nI m) = 0 then (0 : Int32) else 2) 0 2 := by split <;> exact ⟨by decide, by decide⟩
  have h4 := wb_sub h2 h3 (by decide) (by decide)
  have key : ∀ X : Int32, wx_b X (0 + 0 - 2) (20 + 8 - 0) → wx_b (if 0 ≤ X then X else 0) 0 100 := by
    intro X hX
    split
    · rename_i c
      exact ⟨Int32.le_iff_toInt_le.mp c, by have := hX.2; omega⟩
    · exact ⟨by decide, by decide⟩
  exact key _ h4
abbrev m_heir (g' : wx_M) (r m : Nat) : Prop := ¬ g' 65 3 ≤ 0 ∧ r_X12_was g' 0 (nI m) = nI r
def m_price (g' : wx_M) (v r m : Nat) : Int32 := m_pr (m_base g' r m) (g' 65 (43 + v)) (m_heir g' r m)
theorem m_priceb (B : m_NB (g' 65) K) {v r m : Nat} : wx_b (m_price g' v r m) 0 199 := m_prb (m_baseb B)
theorem q_priceM (B : m_NB (g' 65) K) {v r m : Nat} (hv : v < (g' 65 4).toNatClampNeg) (hr : r < 6) (hm : m < 8) : r_X12_priceOf g' (nI v) (nI r) (nI m) = m_price g' v r m := by
  have hv4 := B.v4
  have hb := m_baseb B (r := r) (m := m)
  simp only [r_X12_priceOf, ix_51, ix_2, ix_3, ix_a43 (show v < 1000 by omega), m_sub0]
  simp only [m_price, m_pr, m_heir]
  simp only [m_base]
  by_cases c1 : r_X12_has (g' 65 51) (nI m) = 0
  · simp only [c1, if_true, m_sub0]
    by_cases c2 : 0 ≤ g' 65 2 + r_X12_bits g' (r_X12_heldAt g' (nI r) (nI m))
    · simp only [c2, if_true]
      by_cases c3 : g' 65 3 ≤ 0 <;> by_cases c4 : r_X12_was g' 0 (nI m) = nI r <;> simp [c3, c4]
    · simp only [c2, if_false]
      by_cases c3 : g' 65 3 ≤ 0 <;> by_cases c4 : r_X12_was g' 0 (nI m) = nI r <;> simp [c3, c4]
  · simp only [c1, if_false]
    by_cases c2 : 0 ≤ g' 65 2 + r_X12_bits g' (r_X12_heldAt g' (nI r) (nI m)) - 2
    · simp only [c2, if_true]
      by_cases c3 : g' 65 3 ≤ 0 <;> by_cases c4 : r_X12_was g' 0 (nI m) = nI r <;> simp [c3, c4]
    · simp only [c2, if_false]
      by_cases c3 : g' 65 3 ≤ 0 <;> by_cases c4 : r_X12_was g' 0 (nI m) = nI r <;> simp [c3, c4]
end M3
