/-! THE MATH 18: a house becomes another; images -/
theorem bec_loop (g : wx_M) (h ho : Nat) (hne : h + 6 ≠ ho + 6) (x1 : Int32) (g2 : wx_M) (x3 : Int32) (g4 : wx_M) (x5 : Int32) (g6 : wx_M) (x7 : Int32) (g8 : wx_M) (x9 : Int32) (g10 : wx_M) (x11 : Int32) (g12 : wx_M) (x13 : Int32) (g14 : wx_M) (x15 : Int32) (g16 : wx_M) (x17 : Int32) (g18 g19 g20 g21 g22 g23 s0 : wx_M) : ∀ t, t ≤ 4 → rep t (b_X3_becomes_148 g h ho x1 g2 x3 g4 x5 g6 x7 g8 x9 g10 x11 g12 x13 g14 x15 g16 x17 g18 g19 g20 g21 g22 g23) s0 = upR s0 (h + 6) (fun j => if j < t then s0 (ho + 6) j else s0 (h + 6) j) := by
  intro t
  induction t with
  | zero =>
    intro _
    rw [rep_zero]
    funext k
    by_cases hk : k = h + 6
    · subst hk
      rw [upR_s]
      funext j
      rw [if_neg (by omega)]
    · rw [upR_n hk]
  | succ t ih =>
    intro ht
    rw [rep_succ, ih (by omega)]
    simp only [b_X3_becomes_148]
    rw [ix (show t < 1000 by omega), upR_n (Ne.symm hne), upR_up2]
    congr 1
    funext j
    by_cases hj : j = t
    · subst hj
      rw [upd_eq, if_pos (by omega)]
    · rw [upd_ne hj]
      by_cases c : j < t
      · rw [if_pos c, if_pos (by omega)]
      · rw [if_neg c, if_neg (by omega)]
theorem ix_6 : (6 : Int32).toNatClampNeg = 6 := by decide
theorem ix_48 : (48 : Int32).toNatClampNeg = 48 := by decide
theorem ix_32 : (32 : Int32).toNatClampNeg = 32 := by decide
theorem cpy0 (f f' : Nat → Int32) (n : Nat) : va_cpy f f' 0 0 n = fun k => if k < n then f k else f' k := by
  funext k
  unfold va_cpy
  by_cases c : k < n
  · rw [if_pos ⟨by omega, by omega⟩, if_pos c]
    congr 1
    omega
  · rw [if_neg (fun q => c (by omega)), if_neg c]
theorem bec_at (g : wx_M) {h ho : Nat} (hs : h + 7 ≤ ho ∨ ho + 7 ≤ h) : (∀ j, j < 9 → e_X3_becomes g h ho h j = g ho j) ∧ (∀ j, j < 6 → e_X3_becomes g h ho (h + 1) j = g (ho + 1) j) ∧ (∀ j, j < 48 → e_X3_becomes g h ho (h + 2) j = g (ho + 2) j) ∧ (∀ j, j < 48 → e_X3_becomes g h ho (h + 3) j = g (ho + 3) j) ∧ (∀ j, j < 32 → e_X3_becomes g h ho (h + 4) j = g (ho + 4) j) ∧ (∀ j, j < 4 → e_X3_becomes g h ho (h + 5) j = g (ho + 5) j) ∧ (∀ j, j < 4 → e_X3_becomes g h ho (h + 6) j = g (ho + 6) j) ∧ (∀ k, (k < h ∨ h + 6 < k) → e_X3_becomes g h ho k = g k) := by
  simp only [e_X3_becomes]
  rw [bec_loop _ h ho (by omega) _ _ _ _ _ _ _ _ _ _ _ _ _ _ _ _ _ _ _ _ _ _ _ _ 4 (Nat.le_refl 4)]
  simp only [ix_0, ix_4, ix_6, ix_48, ix_32, cpy0]
  have a0 : ∀ (q : wx_M) (j : Nat) (v : Int32), up2 q h j v ho = q ho := fun q j v => up2_n (by omega)
  simp only [a0]
  refine ⟨?_, ?_, ?_, ?_, ?_, ?_, ?_, ?_⟩
  · intro j hj
    rw [upR_n (by omega), upR_n (by omega), upR_n (by omega), upR_n (by omega), upR_n (by omega), upR_n (by omega)]
    rcases (show j = 0 ∨ j = 1 ∨ j = 2 ∨ j = 3 ∨ j = 4 ∨ j = 5 ∨ j = 6 ∨ j = 7 ∨ j = 8 by omega) with rfl | rfl | rfl | rfl | rfl | rfl | rfl | rfl | rfl
    · rw [up2_sn (by decide), up2_sn (by decide), up2_sn (by decide), up2_sn (by decide), up2_sn (by decide), up2_sn (by decide), up2_sn (by decide), up2_sn (by decide), up2_ss]
    · rw [up2_sn (by decide), up2_sn (by decide), up2_sn (by decide), up2_sn (by decide), up2_sn (by decide), up2_sn (by decide), up2_sn (by decide), up2_ss]
    · rw [up2_sn (by decide), up2_sn (by decide), up2_sn (by decide), up2_sn (by decide), up2_sn (by decide), up2_sn (by decide), up2_ss]
    · rw [up2_sn (by decide), up2_sn (by decide), up2_sn (by decide), up2_sn (by decide), up2_sn (by decide), up2_ss]
    · rw [up2_sn (by decide), up2_sn (by decide), up2_sn (by decide), up2_sn (by decide), up2_ss]
    · rw [up2_sn (by decide), up2_sn (by decide), up2_sn (by decide), up2_ss]
    · rw [up2_sn (by decide), up2_sn (by decide), up2_ss]
    · rw [up2_sn (by decide), up2_ss]
    · rw [up2_ss]
  · intro j hj
    rw [upR_n (by omega), upR_n (by omega), upR_n (by omega), upR_n (by omega), upR_n (by omega), upR_s, if_pos hj]
    rw [up2_n (by omega), up2_n (by omega), up2_n (by omega), up2_n (by omega), up2_n (by omega), up2_n (by omega), up2_n (by omega), up2_n (by omega), up2_n (by omega)]
  · intro j hj
    rw [upR_n (by omega), upR_n (by omega), upR_n (by omega), upR_n (by omega), upR_s, if_pos hj, upR_n (by omega)]
    rw [up2_n (by omega), up2_n (by omega), up2_n (by omega), up2_n (by omega), up2_n (by omega), up2_n (by omega), up2_n (by omega), up2_n (by omega), up2_n (by omega)]
  · intro j hj
    rw [upR_n (by omega), upR_n (by omega), upR_n (by omega), upR_s, if_pos hj, upR_n (by omega), upR_n (by omega)]
    rw [up2_n (by omega), up2_n (by omega), up2_n (by omega), up2_n (by omega), up2_n (by omega), up2_n (by omega), up2_n (by omega), up2_n (by omega), up2_n (by omega)]
  · intro j hj
    rw [upR_n (by omega), upR_n (by omega), upR_s, if_pos hj, upR_n (by omega), upR_n (by omega), upR_n (by omega)]
    rw [up2_n (by omega), up2_n (by omega), up2_n (by omega), up2_n (by omega), up2_n (by omega), up2_n (by omega), up2_n (by omega), up2_n (by omega), up2_n (by omega)]
  · intro j hj
    rw [upR_n (by omega), upR_s, if_pos hj, upR_n (by omega), upR_n (by omega), upR_n (by omega), upR_n (by omega)]
    rw [up2_n (by omega), up2_n (by omega), up2_n (by omega), up2_n (by omega), up2_n (by omega), up2_n (by omega), up2_n (by omega), up2_n (by omega), up2_n (by omega)]
  · intro j hj
    rw [upR_s, if_pos hj, upR_n (by omega), upR_n (by omega), upR_n (by omega), upR_n (by omega), upR_n (by omega)]
    rw [up2_n (by omega), up2_n (by omega), up2_n (by omega), up2_n (by omega), up2_n (by omega), up2_n (by omega), up2_n (by omega), up2_n (by omega), up2_n (by omega)]
  · intro k hk
    rw [upR_n (by omega), upR_n (by omega), upR_n (by omega), upR_n (by omega), upR_n (by omega), upR_n (by omega)]
    rw [up2_n (by omega), up2_n (by omega), up2_n (by omega), up2_n (by omega), up2_n (by omega), up2_n (by omega), up2_n (by omega), up2_n (by omega), up2_n (by omega)]
theorem bec_hou {g : wx_M} {h ho K : Nat} {n : Nat → Int32} (hs : h + 7 ≤ ho ∨ ho + 7 ≤ h) (H : m_Hou g ho n K) : m_Hou (e_X3_becomes g h ho) h n K := by
  obtain ⟨a0, a1, a2, a3, a4, a5, a6, -⟩ := bec_at g hs
  have hp4 := H.B.p4
  have hv4 := H.B.v4
  refine ⟨⟨?_, ?_, ?_, ?_, ?_, ?_, ?_, ?_, ?_, ?_, ?_, ?_, ?_⟩, H.B, ?_, H.S.le, ?_⟩
  · rw [a0 0 (by decide)]; exact H.R.rooms
  · rw [a0 1 (by decide)]; exact H.R.seats
  · rw [a0 2 (by decide)]; exact H.R.fee
  · rw [a0 4 (by decide)]; exact H.R.men
  · rw [a0 5 (by decide)]; exact H.R.gs
  · rw [a0 8 (by decide)]; exact H.R.wr
  · intro a ha; rw [a1 a ha]; exact H.R.win a ha
  · intro a ha; rw [a2 a ha]; exact H.R.drn a ha
  · intro a ha; rw [a3 a ha]; exact H.R.hld a ha
  · intro a ha; rw [a4 a (by omega)]; exact H.R.was a ha
  · intro a ha; rw [a5 a (by omega)]; exact H.R.pur a ha
  · intro a ha; rw [a6 a (by omega)]; exact H.R.srt a ha
  · rw [a0 3 (by decide)]; exact H.R.wal
  · rw [a0 6 (by decide)]; exact H.S.sold
  · rw [a0 7 (by decide)]; exact H.S.cur
/-- only what stands in 0 .. 148 counts -/
theorem m_Hou.ext {g : wx_M} {h K : Nat} {n n' : Nat → Int32} (H : m_Hou g h n K) (e : ∀ j, j < 149 → n' j = n j) : m_Hou g h n' K := by
  have hp4 := H.B.p4
  have hv4 := H.B.v4
  refine ⟨?_, ?_, ?_, ?_, ?_⟩
  · refine H.R.mk2 hp4 hv4 (fun j hj => rfl) ?_ rfl rfl rfl (fun j hj => e j (by omega)) (e 148 (by omega)) (fun k hk => ?_) (fun k hk => ?_) (fun k hk => ?_)
    · rw [e 51 (by omega)]; exact H.R.wr
    · rw [e (52 + k) (by omega)]; exact H.R.drn k hk
    · rw [e (100 + k) (by omega)]; exact H.R.hld k hk
    · rw [e (47 + k) (by omega)]; exact H.R.pur k hk
  · refine H.B.mk2 (fun j hj => e j (by omega)) (fun k hk => ?_) (by rw [e 51 (by omega)]; exact H.B.wr) (fun k hk => ?_) (fun m' a b h1 h2 h3 => ?_) (fun k hk => ?_) (fun k hk hl => ?_)
    · rw [e (47 + k) (by omega)]; exact H.B.pur k hk
    · rw [e (52 + k) (by omega)]; exact H.B.drn k hk
    · rw [e (52 + (6 * m' + a)) (by omega), e (52 + (6 * m' + b)) (by omega)]; exact H.B.sym m' a b h1 h2 h3
    · rw [e (100 + k) (by omega)]; exact H.B.hld k hk
    · rw [e (100 + k) (by omega)]; exact H.B.hlr k hk hl
  · rw [sold_same (n := n) (n' := n') (fun j h1 h2 => e j (by omega))]; exact H.S.sold
  · rw [sold_same (n := n) (n' := n') (fun j h1 h2 => e j (by omega))]; exact H.S.le
  · rw [drw_same (n := n) (n' := n') (fun j h1 h2 => e j (by omega))]; exact H.S.cur
theorem ix_149 {i t : Nat} (hi : i < 2) (ht : t < 149) : ((149 * nI i) + nI t).toNatClampNeg = 149 * i + t := by
  rw [show (149 : Int32) = nI 149 from rfl, pk_mul, nI_add]; exact nI_clamp (by omega)
theorem img_loop (q : wx_M) {i : Nat} (hi : i < 2) : ∀ t, t ≤ 149 → rep t (b_X12_image_26 q (nI i)) q = upR q 66 (fun x => if 149 * i ≤ x ∧ x < 149 * i + t then q 65 (x - 149 * i) else q 66 x) := by
  intro t
  induction t with
  | zero =>
    intro _
    rw [rep_zero]
    funext k
    by_cases hk : k = 66
    · subst hk
      rw [upR_s]
      funext x
      rw [if_neg (by omega)]
    · rw [upR_n hk]
  | succ t ih =>
    intro ht
    rw [rep_succ, ih (by omega)]
    simp only [b_X12_image_26]
    rw [ix_149 hi (by omega), ix (show t < 1000 by omega), upR_n (show (65 : Nat) ≠ 66 by decide), upR_up2]
    congr 1
    funext x
    by_cases hx : x = 149 * i + t
    · subst hx
      rw [upd_eq, if_pos (by omega)]
      congr 1
      omega
    · rw [upd_ne hx]
      by_cases c : 149 * i ≤ x ∧ x < 149 * i + t
      · rw [if_pos c, if_pos (by omega)]
      · rw [if_neg c, if_neg (by omega)]
theorem res_loop (q : wx_M) {i : Nat} (hi : i < 2) : ∀ t, t ≤ 149 → rep t (b_X12_restore_26 q (nI i)) q = upR q 65 (fun x => if x < t then q 66 (149 * i + x) else q 65 x) := by
  intro t
  induction t with
  | zero =>
    intro _
    rw [rep_zero]
    funext k
    by_cases hk : k = 65
    · subst hk
      rw [upR_s]
      funext x
      rw [if_neg (by omega)]
    · rw [upR_n hk]
  | succ t ih =>
    intro ht
    rw [rep_succ, ih (by omega)]
    simp only [b_X12_restore_26]
    rw [ix_149 hi (by omega), ix (show t < 1000 by omega), upR_n (show (66 : Nat) ≠ 65 by decide), upR_up2]
    congr 1
    funext x
    by_cases hx : x = t
    · subst hx
      rw [upd_eq, if_pos (by omega)]
    · rw [upd_ne hx]
      by_cases c : x < t
      · rw [if_pos c, if_pos (by omega)]
      · rw [if_neg c, if_neg (by omega)]
section M18
variable {g : wx_M} {K : Nat}
theorem in01 {a : Int32} (c : ¬ r_X12_in a 0 1 = 0) : ∃ i, i < 2 ∧ a = nI i := m_of_in (x := 2) (n := 2) rfl (by decide) (by rw [show (2 : Int32) - 1 = 1 by decide]; exact c)
theorem e_in01 (a : Int32) : ((if a < 0 then (0 : Int32) else if a < 2 then 1 else 0) = 0) ↔ (r_X12_in a 0 1 = 0) := by
  have e0 : (0 : Int32).toInt = 0 := rfl
  have e1 : (1 : Int32).toInt = 1 := by decide
  have e2 : (2 : Int32).toInt = 2 := by decide
  rw [in_iff]
  by_cases c1 : a < 0
  · rw [if_pos c1]
    have := Int32.lt_iff_toInt_lt.mp c1
    exact ⟨fun _ => Or.inl (by omega), fun _ => rfl⟩
  · rw [if_neg c1]
    have d1 := Int32.le_iff_toInt_le.mp (Int32.not_lt.mp c1)
    by_cases c2 : a < 2
    · rw [if_pos c2]
      have d2 := Int32.lt_iff_toInt_lt.mp c2
      exact ⟨fun q => absurd q (by decide), fun q => by omega⟩
    · rw [if_neg c2]
      have d2 := Int32.le_iff_toInt_le.mp (Int32.not_lt.mp c2)
      exact ⟨fun _ => Or.inr (by omega), fun _ => rfl⟩
theorem ite2 {α : Type} (a : Int32) (x y : α) : (if a < 0 then x else if a < 2 then y else x) = (if r_X12_in a 0 1 = 0 then x else y) := by
  by_cases c : r_X12_in a 0 1 = 0
  · rw [if_pos c]
    have := (e_in01 a).mpr c
    by_cases c1 : a < 0
    · rw [if_pos c1]
    · rw [if_neg c1] at this ⊢
      by_cases c2 : a < 2
      · rw [if_pos c2] at this
        exact absurd this (by decide)
      · rw [if_neg c2]
  · rw [if_neg c]
    have h : ¬ ((if a < 0 then (0 : Int32) else if a < 2 then 1 else 0) = 0) := fun q => c ((e_in01 a).mp q)
    by_cases c1 : a < 0
    · rw [if_pos c1] at h
      exact absurd rfl h
    · rw [if_neg c1] at h ⊢
      by_cases c2 : a < 2
      · rw [if_pos c2]
      · rw [if_neg c2] at h
        exact absurd rfl h
theorem t_image (H : m_Rel K g) (a : Int32) : m_T K g (f_X11_image g a) (fun q => f_X12_image q a) := by
  have R := H.hou.R
  have B := H.hou.B
  by_cases c1 : r_X12_in a 0 1 = 0
  · exact T_same H (-1000001) (by simp only [f_X11_image]; rw [ite2, if_pos c1]) (by simp only [f_X12_image]; rw [if_pos c1])
  by_cases c0 : g 65 (0 : Int32).toNatClampNeg = 0
  · exact T_same H (-1000002) (by simp only [f_X11_image]; rw [ite2, if_neg c1, if_pos ((e_stands R B).mpr c0)]) (by simp only [f_X12_image]; rw [if_neg c1, if_pos c0])
  have c0' : ¬ r_X3_stands g 20 = 0 := fun q => c0 ((e_stands R B).mp q)
  obtain ⟨i, hi, rfl⟩ := in01 c1
  have ei : (nI i).toNatClampNeg = i := ix (show i < 1000 by omega)
  obtain ⟨C, eC⟩ : ∃ C, e_X3_becomes g (35 + 7 * i) 20 = C := ⟨_, rfl⟩
  have e11 : f_X11_image g (nI i) = (C, 1) := by
    simp only [f_X11_image]
    rw [ite2, if_neg c1, if_neg c0', ei, eC]
  rw [e11]
  obtain ⟨a0, a1, a2, a3, a4, a5, a6, a7⟩ := bec_at g (h := 35 + 7 * i) (ho := 20) (Or.inr (by omega))
  rw [eC] at a7
  have hh := bec_hou (h := 35 + 7 * i) (Or.inr (by omega)) H.hou
  rw [eC] at hh
  obtain ⟨W, eW⟩ : ∃ W, up2 (upR C 66 (fun x => if 149 * i ≤ x ∧ x < 149 * i + 149 then C 65 (x - 149 * i) else C 66 x)) 67 i 1 = W := ⟨_, rfl⟩
  have e12 : f_X12_image C (nI i) = (W, 1) := by
    simp only [f_X12_image]
    rw [if_neg c1, a7 65 (by omega), if_neg c0, img_loop C hi 149 (Nat.le_refl _), ei, ← eW]
    rfl
  have C65 : C 65 = g 65 := a7 65 (by omega)
  refine ⟨fun k hk => a7 k (by omega), ?_, ?_⟩
  · show (f_X12_image C (nI i)).2 = 1
    rw [e12]
  · show m_Rel (K + 10) (f_X12_image C (nI i)).1
    rw [e12]
    dsimp only
    have Wf : ∀ k, k ≠ 66 → k ≠ 67 → W k = C k := fun k h1 h2 => by rw [← eW, up2_n h2, upR_n h1]
    have W66 : W 66 = (fun x => if 149 * i ≤ x ∧ x < 149 * i + 149 then g 65 (x - 149 * i) else g 66 x) := by rw [← eW, up2_n (by decide), upR_s, C65, a7 66 (by omega)]
    have W67 : W 67 = upd (g 67) i 1 := by rw [← eW, up2_s, upR_n (by decide), a7 67 (by omega)]
    have ek : ∀ k, (k < 35 + 7 * i ∨ 35 + 7 * i + 6 < k) → k ≠ 66 → k ≠ 67 → W k = g k := fun k h1 h2 h3 => by rw [Wf k h2 h3, a7 k h1]
    refine ⟨?_, ?_, ?_, ?_, ?_, ?_, ?_, ?_, ?_, ?_, ?_⟩
    · exact H.rows.congr (fun k hk => ek k (by omega) (by omega) (by omega))
    · rw [ek 0 (by omega) (by decide) (by decide), ek 57 (by omega) (by decide) (by decide)]; exact H.fin
    · exact H.tape.congr (by rw [ek 18 (by omega) (by decide) (by decide)]) (by rw [ek 57 (by omega) (by decide) (by decide)]) (ek 19 (by omega) (by decide) (by decide)) (ek 61 (by omega) (by decide) (by decide))
    · rw [ek 18 (by omega) (by decide) (by decide), ek 57 (by omega) (by decide) (by decide)]; exact H.flt
    · exact tb_congr (by rw [ek 18 (by omega) (by decide) (by decide)]; exact ⟨rfl, rfl, rfl⟩) H.tb
    · exact pr_congr (fun j hj => by rw [ek 57 (by omega) (by decide) (by decide)]) (ek 62 (by omega) (by decide) (by decide)) H.pr
    · rw [ek 65 (by omega) (by decide) (by decide)]
      exact (H.hou.congr (fun k h1 h2 => ek k (by omega) (by omega) (by omega))).mono (by omega)
    · exact H.dra.congr (fun k h1 h2 => ek k (by omega) (by omega) (by omega))
    · intro i2 hi2
      by_cases c : i2 = i
      · subst c
        refine Or.inl ⟨?_, ?_, ?_⟩
        · rw [W67, upd_eq]
        · rw [W66]
          show ¬ (if 149 * i2 ≤ 149 * i2 ∧ 149 * i2 < 149 * i2 + 149 then g 65 (149 * i2 - 149 * i2) else g 66 (149 * i2)) = 0
          rw [if_pos (by omega), Nat.sub_self]
          rw [ix_0] at c0
          exact c0
        · refine (m_Hou.congr (g := C) (fun k h1 h2 => Wf k (by omega) (by omega)) ((hh.ext (fun j hj => ?_)).mono (by omega)))
          show W 66 (149 * i2 + j) = g 65 j
          rw [W66]
          show (if 149 * i2 ≤ 149 * i2 + j ∧ 149 * i2 + j < 149 * i2 + 149 then g 65 (149 * i2 + j - 149 * i2) else g 66 (149 * i2 + j)) = g 65 j
          rw [if_pos (by omega)]
          congr 1
          omega
      · have h := (H.img i2 hi2).mono (show K ≤ K + 10 by omega)
        have w1 : W 67 i2 = g 67 i2 := by rw [W67, upd_ne c]
        have w2 : ∀ j, j < 149 → W 66 (149 * i2 + j) = g 66 (149 * i2 + j) := fun j hj => by
          rw [W66]
          exact if_neg (by omega)
        have w3 : ∀ k, 35 + 7 * i2 ≤ k → k ≤ 35 + 7 * i2 + 6 → W k = g k := fun k h1 h2 => ek k (by omega) (by omega) (by omega)
        rcases h with ⟨h1, h2, h3⟩ | ⟨h1, h2⟩
        · refine Or.inl ⟨by rw [w1]; exact h1, ?_, ?_⟩
          · have := w2 0 (by decide)
            rw [Nat.add_zero] at this
            rw [this]
            exact h2
          · exact (h3.congr w3).ext (fun j hj => w2 j hj)
        · exact Or.inr ⟨by rw [w1]; exact h1, by rw [w3 _ (by omega) (by omega)]; exact h2⟩
    · exact H.act.congr (by omega) (fun k h1 h2 => ek k (by omega) (by omega) (by omega)) (ek 68 (by omega) (by decide) (by decide)) (by rw [ek 57 (by omega) (by decide) (by decide)]) (ek 65 (by omega) (by decide) (by decide))
    · exact H.trc.congr (by rw [ek 55 (by omega) (by decide) (by decide)]) (by rw [ek 57 (by omega) (by decide) (by decide)]) (ek 56 (by omega) (by decide) (by decide)) (ek 69 (by omega) (by decide) (by decide))
theorem t_restore (H : m_Rel K g) (a : Int32) : m_T K g (f_X11_restore g a) (fun q => f_X12_restore q a) := by
  by_cases c1 : r_X12_in a 0 1 = 0
  · exact T_same H (-1000001) (by simp only [f_X11_restore]; rw [ite2, if_pos c1]) (by simp only [f_X12_restore]; rw [if_pos c1])
  obtain ⟨i, hi, rfl⟩ := in01 c1
  have ei : (nI i).toNatClampNeg = i := ix (show i < 1000 by omega)
  rcases H.img i hi with ⟨h1, h2, h3⟩ | ⟨h1, h2⟩
  · have est : ¬ r_X3_stands g (35 + 7 * i) = 0 := by
      unfold r_X3_stands
      rw [h3.R.rooms]
      have hb := h3.B.rooms.1
      have e0 : (0 : Int32).toInt = 0 := rfl
      show ¬ (if g 66 (149 * i + 0) ≤ 0 then (0 : Int32) else 1) = 0
      have h2' : ¬ g 66 (149 * i + 0) = 0 := h2
      have hb' : 0 ≤ (g 66 (149 * i + 0)).toInt := hb
      rw [if_neg (fun q => by
        have := Int32.le_iff_toInt_le.mp q
        exact h2' (Int32.toInt_inj.mp (by omega)))]
      decide
    obtain ⟨D, eD⟩ : ∃ D, e_X3_becomes g 20 (35 + 7 * i) = D := ⟨_, rfl⟩
    obtain ⟨C, eC⟩ : ∃ C, up2 D 49 6 0 = C := ⟨_, rfl⟩
    have e11 : f_X11_restore g (nI i) = (C, 1) := by
      simp only [f_X11_restore, e_X0_forgetAll]
      rw [ite2, if_neg c1, ei, if_neg est, eD, eC]
    rw [e11]
    obtain ⟨-, -, -, -, -, -, -, a7⟩ := bec_at g (h := 20) (ho := 35 + 7 * i) (Or.inl (by omega))
    rw [eD] at a7
    have hh := bec_hou (h := 20) (Or.inl (by omega)) h3
    rw [eD] at hh
    have Cf : ∀ k, (k < 20 ∨ 26 < k) → k ≠ 49 → C k = g k := fun k q1 q2 => by rw [← eC, up2_n q2, a7 k (by omega)]
    have C49 : C 49 = upd (g 49) 6 0 := by rw [← eC, up2_s, a7 49 (by omega)]
    have C20 : ∀ k, 20 ≤ k → k ≤ 26 → C k = D k := fun k q1 q2 => by rw [← eC, up2_n (by omega)]
    obtain ⟨W, eW⟩ : ∃ W, up2 (upR C 65 (fun x => if x < 149 then C 66 (149 * i + x) else C 65 x)) 57 23 0 = W := ⟨_, rfl⟩
    have e12 : f_X12_restore C (nI i) = (W, 1) := by
      simp only [f_X12_restore]
      rw [if_neg c1, ei, Cf 67 (by decide) (by decide), h1, if_neg (by decide), res_loop C hi 149 (Nat.le_refl _), eW]
    refine ⟨fun k hk => Cf k (by omega) (by omega), ?_, ?_⟩
    · show (f_X12_restore C (nI i)).2 = 1
      rw [e12]
    · show m_Rel (K + 10) (f_X12_restore C (nI i)).1
      rw [e12]
      dsimp only
      have Wf : ∀ k, k ≠ 57 → k ≠ 65 → W k = C k := fun k q1 q2 => by rw [← eW, up2_n q1, upR_n q2]
      have W57 : W 57 = upd (g 57) 23 0 := by rw [← eW, up2_s, upR_n (by decide), Cf 57 (by decide) (by decide)]
      have W65 : ∀ j, j < 149 → W 65 j = g 66 (149 * i + j) := fun j hj => by
        rw [← eW, up2_n (by decide), upR_s, if_pos hj, Cf 66 (by decide) (by decide)]
      refine rel_act H (by omega) (fun k q1 q2 q3 q4 q5 => ?_) (fun j hj => ?_) ?_ ?_
      · rw [Wf k q3 q4, Cf k (by omega) (by omega)]
      · rw [W57, upd_ne hj]
      · exact ((hh.ext (n' := W 65) W65).congr (g' := W) (fun k q1 q2 => by rw [Wf k (by omega) (by omega), C20 k (by omega) (by omega)])).mono (by omega)
      · obtain ⟨⟨S, nx, n, L, U⟩, AI, AM⟩ := H.act
        refine ⟨⟨S, nx, 0, ⟨?_, L.lnx, ?_, ?_, by omega, ?_, ?_, ?_⟩, trivial⟩, ?_, ?_⟩
        · rw [Wf 49 (by decide) (by decide), C49, upd_ne (by decide)]; exact L.enx
        · rw [Wf 49 (by decide) (by decide), C49, upd_eq]; exact nI_0.symm
        · rw [W57, upd_eq]; exact nI_0.symm
        · intro j hj; omega
        · intro j hj; omega
        · intro j hj; omega
        · exact ai_congr (fun k q1 q2 => by rw [Wf k (by omega) (by omega), Cf k (by omega) (by omega)]) AI
        · exact am_congr (by rw [Wf 68 (by decide) (by decide), Cf 68 (by decide) (by decide)]) AM
  · exact T_same H (-1000002) (by
      simp only [f_X11_restore]
      rw [ite2, if_neg c1, ei, if_pos (by unfold r_X3_stands; rw [h2, if_pos (by decide)])]) (by
      simp only [f_X12_restore]
      rw [if_neg c1, ei, h1, if_pos rfl])
end M18
