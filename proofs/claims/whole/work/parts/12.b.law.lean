/-! the world behind the two constructors -/
def lw_ad (a ar ai : Nat) (qt qh th qd td qa qb q : Nat → Nat) (r im ti : Nat → Nat → Nat) : Nat → Nat := fun k => ([a, ar, r 0 0, r 1 0, r 2 0, r 3 0, r 4 0, r 5 0, r 6 0, r 7 0, r 0 1, r 1 1, r 2 1, r 3 1, r 4 1, r 5 1, r 6 1, r 7 1, qt 0, qt 1, qh 0, qh 1, qh 2, qh 3, qh 4, qh 5, qh 6, qd 0, qd 1, qd 2, qd 3, qd 4, qd 5, qd 6, ai, im 0 0, im 0 1, im 0 2, im 0 3, im 0 4, im 0 5, im 0 6, im 1 0, im 1 1, im 1 2, im 1 3, im 1 4, im 1 5, im 1 6, qa 0, qa 1, qa 2, qa 3, qa 4, qa 5, qb 0, qb 1, q 0, q 1, q 2, q 3, q 4, q 5, q 6, q 7, q 8, q 9, q 10, q 11, q 12] : List Nat).getD k 0
def lw_f (th td : Nat → Nat) (ti : Nat → Nat → Nat) : wx_F := fun k j => if k = 26 then th j else if k = 33 then td j else if k = 41 then ti 0 j else ti 1 j
def lw_V (th td : Nat → Nat) (ti : Nat → Nat → Nat) : va_W := [(th 0, .inr (7, [.int 0])), (th 1, .inr (7, [.int 1])), (th 2, .inr (7, [.int 2])), (th 3, .inr (7, [.int 3])), (td 0, .inr (7, [.int 0])), (td 1, .inr (7, [.int 1])), (td 2, .inr (7, [.int 2])), (td 3, .inr (7, [.int 3])), (ti 0 0, .inr (7, [.int 0])), (ti 0 1, .inr (7, [.int 1])), (ti 0 2, .inr (7, [.int 2])), (ti 0 3, .inr (7, [.int 3])), (ti 1 0, .inr (7, [.int 0])), (ti 1 1, .inr (7, [.int 1])), (ti 1 2, .inr (7, [.int 2])), (ti 1 3, .inr (7, [.int 3]))]
def lw_row : Nat → Int32 := fun j => if j = 3 then 1 else 0
def lw_g : wx_M := fun k => if k = 58 then wi_lane else if 2 ≤ k ∧ k < 10 then lw_row else if k = 26 ∨ k = 33 ∨ k = 41 ∨ k = 48 then (fun _ => 1) else (fun _ => 0)
theorem lw_Gg (th td : Nat → Nat) (ti : Nat → Nat → Nat) : wx_G (lw_f th td ti) (lw_V th td ti) lw_g := by
  intro h hh j hj
  rcases (show j = 0 ∨ j = 1 ∨ j = 2 ∨ j = 3 by omega) with rfl | rfl | rfl | rfl <;> rcases hh with rfl | rfl | rfl | rfl
  · exact ⟨0, 7, rfl, Or.inl ⟨rfl, rfl⟩⟩
  · exact ⟨4, 7, rfl, Or.inl ⟨rfl, rfl⟩⟩
  · exact ⟨8, 7, rfl, Or.inl ⟨rfl, rfl⟩⟩
  · exact ⟨12, 7, rfl, Or.inl ⟨rfl, rfl⟩⟩
  · exact ⟨1, 7, rfl, Or.inl ⟨rfl, rfl⟩⟩
  · exact ⟨5, 7, rfl, Or.inl ⟨rfl, rfl⟩⟩
  · exact ⟨9, 7, rfl, Or.inl ⟨rfl, rfl⟩⟩
  · exact ⟨13, 7, rfl, Or.inl ⟨rfl, rfl⟩⟩
  · exact ⟨2, 7, rfl, Or.inl ⟨rfl, rfl⟩⟩
  · exact ⟨6, 7, rfl, Or.inl ⟨rfl, rfl⟩⟩
  · exact ⟨10, 7, rfl, Or.inl ⟨rfl, rfl⟩⟩
  · exact ⟨14, 7, rfl, Or.inl ⟨rfl, rfl⟩⟩
  · exact ⟨3, 7, rfl, Or.inl ⟨rfl, rfl⟩⟩
  · exact ⟨7, 7, rfl, Or.inl ⟨rfl, rfl⟩⟩
  · exact ⟨11, 7, rfl, Or.inl ⟨rfl, rfl⟩⟩
  · exact ⟨15, 7, rfl, Or.inl ⟨rfl, rfl⟩⟩
/-! the relation holds of it -/
theorem lw_z {b : Int} (h : 0 ≤ b) : wx_b (0 : Int32) 0 b := ⟨by decide, h⟩
theorem lw_h0 : ∀ b, b < 6 → r_X12_has 0 (nI b) = 0 := by
  intro b hb
  rcases (show b = 0 ∨ b = 1 ∨ b = 2 ∨ b = 3 ∨ b = 4 ∨ b = 5 by omega) with rfl | rfl | rfl | rfl | rfl | rfl <;> decide +kernel
theorem lw_s0 : m_sold (fun _ => 0) = 0 := by decide +kernel
theorem lw_d0 : m_drw (fun _ => 0) = 0 := by decide +kernel
theorem lw_c0 : (0 : Int32).toNatClampNeg = 0 := by decide
theorem lw_NB : m_NB (fun _ => (0 : Int32)) 100 :=
  ⟨lw_z (by decide), by decide, lw_z (by decide), lw_z (by decide), lw_z (by decide), lw_z (by decide), fun _ => ⟨lw_c0, lw_c0⟩, lw_z (by decide), fun _ _ => lw_z (by decide), fun b hb => lw_h0 b hb, fun _ _ => lw_z (by decide), fun m a b _ ha hb => (lw_h0 b hb).trans (lw_h0 a ha).symm, fun _ _ => lw_z (by decide), fun _ _ _ => rfl, fun k hk => absurd hk (by show ¬ k < 8 * (0 : Int32).toNatClampNeg; rw [lw_c0]; omega), fun k hk => absurd hk (by show ¬ k < (0 : Int32).toNatClampNeg; rw [lw_c0]; omega), fun k hk => absurd hk (by show ¬ k < (0 : Int32).toNatClampNeg; rw [lw_c0]; omega)⟩
theorem lw_lt {k : Nat} (h : k < (0 : Int32).toNatClampNeg) {q : Prop} : q := absurd h (by rw [lw_c0]; omega)
theorem lw_HR : m_HR lw_g 20 (fun _ => (0 : Int32)) :=
  ⟨rfl, rfl, rfl, rfl, rfl, rfl, fun _ _ => rfl, fun _ _ => rfl, fun _ _ => rfl, fun _ _ => rfl, fun _ _ => rfl, fun _ hk => lw_lt hk, rfl⟩
theorem lw_SB : m_SB lw_g 20 (fun _ => (0 : Int32)) := by
  refine ⟨?_, ?_, 0, rfl, ?_⟩
  · rw [lw_s0]; rfl
  · rw [lw_s0]; omega
  · rw [lw_d0]
theorem lw_row1 : ∀ r, r < 8 → m_Row1 lw_g r := by
  intro r hr
  rcases (show r = 0 ∨ r = 1 ∨ r = 2 ∨ r = 3 ∨ r = 4 ∨ r = 5 ∨ r = 6 ∨ r = 7 by omega) with rfl | rfl | rfl | rfl | rfl | rfl | rfl | rfl <;> exact ⟨Or.inr ⟨rfl, rfl⟩, rfl, lw_z (by decide), fun _ hk => lw_lt hk⟩
theorem lw_act : m_Act 100 lw_g :=
  ⟨⟨fun _ _ => 0, 0, 0, ⟨rfl, by decide, rfl, rfl, by decide, fun _ h => absurd h (Nat.not_lt_zero _), fun _ h => absurd h (Nat.not_lt_zero _), fun _ h => absurd h (Nat.not_lt_zero _)⟩, trivial⟩, fun _ _ => ⟨lw_z (by decide), lw_z (by decide), lw_z (by decide), fun _ => lw_z (by decide)⟩, fun _ _ => ⟨lw_z (by decide), lw_z (by decide), lw_z (by decide), fun _ => lw_z (by decide)⟩⟩
theorem lw_rel : m_Rel 100 lw_g :=
  ⟨lw_row1, rfl, ⟨rfl, fun _ hk => lw_lt hk⟩, rfl, ⟨lw_z (by decide), lw_z (by decide), lw_z (by decide)⟩, ⟨lw_z (by decide), lw_z (by decide), lw_z (by decide), lw_z (by decide), lw_z (by decide), fun _ _ => lw_z (by decide)⟩, ⟨lw_HR, lw_NB, lw_SB⟩, ⟨rfl, rfl, rfl, lw_z (by decide), fun _ _ => ⟨rfl, rfl⟩⟩, fun i hi => by rcases (show i = 0 ∨ i = 1 by omega) with rfl | rfl <;> exact Or.inr ⟨rfl, rfl⟩, lw_act, rfl, lw_z (by decide), fun _ _ => rfl⟩
