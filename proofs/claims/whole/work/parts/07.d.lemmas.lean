theorem fr_addWall {g : wx_M} {h k : Nat} {a1 a2 : Int32} (h1 : k ≠ h) (h2 : k ≠ h + 1) : e_X3_addWall g h a1 a2 k = g k := by
  simp only [e_X3_addWall]
  rw [up2_n h1, up2_n h2, up2_n h2]
theorem fr_addWall_0 {g : wx_M} {h : Nat} {a1 a2 : Int32} : e_X3_addWall g h a1 a2 h 0 = g h 0 := by
  simp only [e_X3_addWall]
  rw [up2_sn (by decide), up2_n (by omega), up2_n (by omega)]
theorem tT_addWall {g : wx_M} {h : Nat} {a1 a2 : Int32} (hh : wx_H h) (hT : wx_TB g) : wx_TB (e_X3_addWall g h a1 a2) := by
  have h1 : 18 ≠ h := by rcases hh with rfl | rfl | rfl | rfl <;> decide
  have h2 : 18 ≠ h + 1 := by rcases hh with rfl | rfl | rfl | rfl <;> decide
  unfold wx_TB
  rw [fr_addWall h1 h2]
  exact hT
