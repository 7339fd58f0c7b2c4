/-! THE MATH 11: acts are kept and noted -/
def m_act (w a b m p c : Int32) (i : Nat) : Int32 := if i = 0 then w else if i = 1 then a else if i = 2 then b else if i = 3 then m else if i = 4 then p else c
theorem m_min24 : ∀ n : Fin 25, (if nI n.val + 1 < 24 then nI n.val + 1 else 24) = nI (if n.val + 1 < 24 then n.val + 1 else 24) := by decide +kernel
theorem m_i5_all : ∀ n : Fin 25, (5 * nI n.val).toNatClampNeg = 5 * n.val ∧ ((5 * nI n.val) + 1).toNatClampNeg = 5 * n.val + 1 ∧ ((5 * nI n.val) + 2).toNatClampNeg = 5 * n.val + 2 ∧ ((5 * nI n.val) + 3).toNatClampNeg = 5 * n.val + 3 ∧ ((5 * nI n.val) + 4).toNatClampNeg = 5 * n.val + 4 := by decide +kernel
theorem u49_50 (g : wx_M) (j : Nat) (v : Int32) : up2 g 50 j v 49 = g 49 := up2_n (by decide)
theorem u49_51 (g : wx_M) (j : Nat) (v : Int32) : up2 g 51 j v 49 = g 49 := up2_n (by decide)
theorem u49_52 (g : wx_M) (j : Nat) (v : Int32) : up2 g 52 j v 49 = g 49 := up2_n (by decide)
theorem u49_53 (g : wx_M) (j : Nat) (v : Int32) : up2 g 53 j v 49 = g 49 := up2_n (by decide)
theorem u49_54 (g : wx_M) (j : Nat) (v : Int32) : up2 g 54 j v 49 = g 49 := up2_n (by decide)
theorem u57_68 (g : wx_M) (j : Nat) (v : Int32) : up2 g 68 j v 57 = g 57 := up2_n (by decide)
theorem keep_eq (g : wx_M) (w a b m c : Int32) {nx n : Nat} (hx : g 49 5 = nI nx) (hnx : nx < 24) (hn : g 49 6 = nI n) (hn24 : n ≤ 24) : e_X0_keep g w a b m c = up2 (up2 (up2 (up2 (up2 (up2 (up2 g 50 nx w) 51 nx a) 52 nx b) 53 nx m) 54 nx c) 49 5 (nI ((nx + 1) % 24))) 49 6 (nI (if n + 1 < 24 then n + 1 else 24)) := by
  simp only [e_X0_keep, u49_50, u49_51, u49_52, u49_53, u49_54, hx, ix (show nx < 1000 by omega)]
  by_cases c1 : nx = 23
  · subst c1
    rw [if_pos (show nI 23 = 23 from rfl), up2_sn (show (6 : Nat) ≠ 5 by decide)]
    simp only [u49_50, u49_51, u49_52, u49_53, u49_54, hn]
    rw [m_min24 ⟨n, by omega⟩]
    rfl
  · have c2 : ¬ nI nx = 23 := fun q => c1 ((nI_eq (a := nx) (b := 23) (by omega) (by omega)).mp q)
    rw [if_neg c2, up2_sn (show (6 : Nat) ≠ 5 by decide)]
    simp only [u49_50, u49_51, u49_52, u49_53, u49_54, hn]
    rw [m_min24 ⟨n, by omega⟩, nI_1, Nat.mod_eq_of_lt (show nx + 1 < 24 by omega)]
theorem keep_far {g : wx_M} {w a b m c : Int32} {nx n : Nat} (hx : g 49 5 = nI nx) (hnx : nx < 24) (hn : g 49 6 = nI n) (hn24 : n ≤ 24) {k : Nat} (hk : k < 49 ∨ 54 < k) : e_X0_keep g w a b m c k = g k := by
  rw [keep_eq g w a b m c hx hnx hn hn24, up2_n (by omega), up2_n (by omega), up2_n (by omega), up2_n (by omega), up2_n (by omega), up2_n (by omega), up2_n (by omega)]
theorem keep_at {g : wx_M} {w a b m c : Int32} {nx n : Nat} (hx : g 49 5 = nI nx) (hnx : nx < 24) (hn : g 49 6 = nI n) (hn24 : n ≤ 24) (j : Nat) : (e_X0_keep g w a b m c 50 j = if j = nx then w else g 50 j) ∧ (e_X0_keep g w a b m c 51 j = if j = nx then a else g 51 j) ∧ (e_X0_keep g w a b m c 52 j = if j = nx then b else g 52 j) ∧ (e_X0_keep g w a b m c 53 j = if j = nx then m else g 53 j) ∧ (e_X0_keep g w a b m c 54 j = if j = nx then c else g 54 j) ∧ e_X0_keep g w a b m c 49 5 = nI ((nx + 1) % 24) ∧ e_X0_keep g w a b m c 49 6 = nI (if n + 1 < 24 then n + 1 else 24) := by
  rw [keep_eq g w a b m c hx hnx hn hn24]
  refine ⟨?_, ?_, ?_, ?_, ?_, ?_, ?_⟩
  · rw [up2_n (by decide), up2_n (by decide), up2_n (by decide), up2_n (by decide), up2_n (by decide), up2_n (by decide), up2_s]; rfl
  · rw [up2_n (by decide), up2_n (by decide), up2_n (by decide), up2_n (by decide), up2_n (by decide), up2_s, up2_n (by decide)]; rfl
  · rw [up2_n (by decide), up2_n (by decide), up2_n (by decide), up2_n (by decide), up2_s, up2_n (by decide), up2_n (by decide)]; rfl
  · rw [up2_n (by decide), up2_n (by decide), up2_n (by decide), up2_s, up2_n (by decide), up2_n (by decide), up2_n (by decide)]; rfl
  · rw [up2_n (by decide), up2_n (by decide), up2_s, up2_n (by decide), up2_n (by decide), up2_n (by decide), up2_n (by decide)]; rfl
  · rw [up2_sn (by decide), up2_ss]
  · rw [up2_ss]
/-! the reference's note -/
theorem note_shift (g : wx_M) (w a b m p : Int32) : ∀ t, t ≤ 115 → rep t (b_X12_note_12 g w a b m p) g = upR g 68 (fun i => if i < t then g 68 (i + 5) else g 68 i) := by
  intro t
  induction t with
  | zero =>
    intro _
    rw [rep_zero]
    funext k
    by_cases hk : k = 68
    · subst hk
      rw [upR_s]
      funext j
      rw [if_neg (by omega)]
    · rw [upR_n hk]
  | succ t ih =>
    intro ht
    rw [rep_succ, ih (by omega)]
    simp only [b_X12_note_12]
    have e5 : (nI t + 5).toNatClampNeg = t + 5 := by rw [show (5 : Int32) = nI 5 from rfl, nI_add]; exact nI_clamp (by omega)
    rw [upR_s, e5, ix (show t < 1000 by omega), if_neg (show ¬ t + 5 < t by omega)]
    funext k
    by_cases hk : k = 68
    · subst hk
      rw [up2_s, upR_s, upR_s]
      funext j
      by_cases hj : j = t
      · subst hj
        rw [upd_eq, if_pos (by omega)]
      · rw [upd_ne hj]
        by_cases c : j < t
        · rw [if_pos c, if_pos (by omega)]
        · rw [if_neg c, if_neg (by omega)]
    · rw [up2_n hk, upR_n hk, upR_n hk]
def noteB (g : wx_M) (n : Nat) (w a b m p : Int32) : wx_M := up2 (up2 (up2 (up2 (up2 (up2 g 68 (5 * n) w) 68 (5 * n + 1) a) 68 (5 * n + 2) b) 68 (5 * n + 3) m) 68 (5 * n + 4) p) 57 23 (nI (n + 1))
theorem noteB_far {g : wx_M} {n : Nat} {w a b m p : Int32} {k : Nat} (h1 : k ≠ 57) (h2 : k ≠ 68) : noteB g n w a b m p k = g k := by
  unfold noteB
  rw [up2_n h1, up2_n h2, up2_n h2, up2_n h2, up2_n h2, up2_n h2]
theorem noteB_57 {g : wx_M} {n : Nat} {w a b m p : Int32} {j : Nat} (h : j ≠ 23) : noteB g n w a b m p 57 j = g 57 j := by
  unfold noteB
  rw [up2_sn h, u57_68, u57_68, u57_68, u57_68, u57_68]
theorem noteB_23 {g : wx_M} {n : Nat} {w a b m p : Int32} : noteB g n w a b m p 57 23 = nI (n + 1) := by
  unfold noteB
  rw [up2_ss]
theorem noteB_lo {g : wx_M} {n : Nat} {w a b m p : Int32} {j : Nat} (h : j < 5 * n ∨ 5 * n + 4 < j) : noteB g n w a b m p 68 j = g 68 j := by
  unfold noteB
  rw [up2_n (by decide), up2_sn (by omega), up2_sn (by omega), up2_sn (by omega), up2_sn (by omega), up2_sn (by omega)]
theorem noteB_at {g : wx_M} {n : Nat} {w a b m p c : Int32} {i : Nat} (hi : i < 5) : noteB g n w a b m p 68 (5 * n + i) = m_act w a b m p c i := by
  unfold noteB
  rw [up2_n (by decide)]
  rcases (show i = 0 ∨ i = 1 ∨ i = 2 ∨ i = 3 ∨ i = 4 by omega) with rfl | rfl | rfl | rfl | rfl
  · rw [up2_sn (by omega), up2_sn (by omega), up2_sn (by omega), up2_sn (by omega), Nat.add_zero, up2_ss]; rfl
  · rw [up2_sn (by omega), up2_sn (by omega), up2_sn (by omega), up2_ss]; rfl
  · rw [up2_sn (by omega), up2_sn (by omega), up2_ss]; rfl
  · rw [up2_sn (by omega), up2_ss]; rfl
  · rw [up2_ss]; rfl
theorem note_eq {g : wx_M} {w a b m p : Int32} {n : Nat} (hn : g 57 23 = nI n) (hn24 : n < 24) : e_X12_note g w a b m p = noteB g n w a b m p := by
  have c : ¬ nI n = 24 := fun q => by have := (nI_eq (a := n) (b := 24) (by omega) (by omega)).mp q; omega
  obtain ⟨i0, i1, i2, i3, i4⟩ := m_i5_all ⟨n, by omega⟩
  simp only [e_X12_note, hn, if_neg c, u57_68, i0, i1, i2, i3, i4, nI_1]
  rfl
theorem note_eq24 {g : wx_M} {w a b m p : Int32} (hn : g 57 23 = 24) : e_X12_note g w a b m p = noteB (up2 (upR g 68 (fun i => if i < 115 then g 68 (i + 5) else g 68 i)) 57 23 23) 23 w a b m p := by
  obtain ⟨i0, i1, i2, i3, i4⟩ := m_i5_all ⟨23, by omega⟩
  simp only [e_X12_note, hn, if_true]
  rw [note_shift g w a b m p 115 (by omega)]
  have e1 : (upR g 68 (fun i => if i < 115 then g 68 (i + 5) else g 68 i)) 57 23 - 1 = 23 := by
    rw [upR_n (by decide), hn]
    decide
  simp only [e1, u57_68, up2_ss]
  rw [show (23 : Int32) = nI 23 from rfl]
  simp only [i0, i1, i2, i3, i4, nI_1]
  rfl
theorem note_far {g : wx_M} {w a b m p : Int32} {n : Nat} (hn : g 57 23 = nI n) (hn24 : n ≤ 24) {k : Nat} (h1 : k ≠ 57) (h2 : k ≠ 68) : e_X12_note g w a b m p k = g k := by
  by_cases c : n = 24
  · subst c
    rw [note_eq24 hn, noteB_far h1 h2, up2_n h1, upR_n h2]
  · rw [note_eq hn (by omega), noteB_far h1 h2]
theorem note_57 {g : wx_M} {w a b m p : Int32} {n : Nat} (hn : g 57 23 = nI n) (hn24 : n ≤ 24) {j : Nat} (h : j ≠ 23) : e_X12_note g w a b m p 57 j = g 57 j := by
  by_cases c : n = 24
  · subst c
    rw [note_eq24 hn, noteB_57 h, up2_sn h, upR_n (by decide)]
  · rw [note_eq hn (by omega), noteB_57 h]
theorem und_drop {K : Nat} {S : Nat → Nat → Int32} : ∀ {n : Nat} {f : Nat → Int32}, m_Und K S (n + 1) f → m_Und K (fun j => S (j + 1)) n f
  | 0, _, _ => trivial
  | n + 1, _, h => ⟨h.1, und_drop (n := n) h.2⟩
/-- an act more, on both sides -/
theorem lnk_add {g g1 : wx_M} {S : Nat → Nat → Int32} {nx n : Nat} (L : m_Lnk g S nx n) (w a b m p c : Int32) (e49 : ∀ k, 49 ≤ k → k ≤ 54 → g1 k = g k) (e68 : g1 68 = g 68) (e57 : g1 57 23 = g 57 23) :
    ∃ S' nx' n', m_Lnk (e_X12_note (e_X0_keep g1 w a b m c) w a b m p) S' nx' (n' + 1) ∧ S' n' = m_act w a b m p c ∧ ((n' = n ∧ ∀ j, j < n → S' j = S j) ∨ (n = 24 ∧ n' = 23 ∧ ∀ j, j < 23 → S' j = S (j + 1))) := by
  have hnx := L.lnx
  have hn := L.ln
  have x1 : g1 49 5 = nI nx := by rw [e49 49 (by decide) (by decide)]; exact L.enx
  have x2 : g1 49 6 = nI n := by rw [e49 49 (by decide) (by decide)]; exact L.ek
  have kf : ∀ {k : Nat}, (k < 49 ∨ 54 < k) → e_X0_keep g1 w a b m c k = g1 k := fun hk => keep_far x1 hnx x2 hn hk
  have ka := fun j => keep_at (w := w) (a := a) (b := b) (m := m) (c := c) x1 hnx x2 hn j
  have x3 : e_X0_keep g1 w a b m c 57 23 = nI n := by rw [kf (by omega), e57]; exact L.ea
  have x4 : e_X0_keep g1 w a b m c 68 = g 68 := by rw [kf (by omega), e68]
  have nf : ∀ {k : Nat}, k ≠ 57 → k ≠ 68 → e_X12_note (e_X0_keep g1 w a b m c) w a b m p k = e_X0_keep g1 w a b m c k := fun h1 h2 => note_far x3 hn h1 h2
  have kc : ∀ i, i < 4 → ∀ j, e_X0_keep g1 w a b m c (50 + i) j = if j = nx then m_act w a b m p c i else g (50 + i) j := by
    intro i hi j
    obtain ⟨q0, q1, q2, q3, -⟩ := ka j
    rcases (show i = 0 ∨ i = 1 ∨ i = 2 ∨ i = 3 by omega) with rfl | rfl | rfl | rfl
    · rw [← e49 (50 + 0) (by decide) (by decide)]; exact q0
    · rw [← e49 (50 + 1) (by decide) (by decide)]; exact q1
    · rw [← e49 (50 + 2) (by decide) (by decide)]; exact q2
    · rw [← e49 (50 + 3) (by decide) (by decide)]; exact q3
  have kd : ∀ j, e_X0_keep g1 w a b m c 54 j = if j = nx then c else g 54 j := by
    intro j
    rw [← e49 54 (by decide) (by decide)]
    exact (ka j).2.2.2.2.1
  by_cases cn : n = 24
  · subst cn
    obtain ⟨S', s1, s2⟩ : ∃ S' : Nat → Nat → Int32, S' 23 = m_act w a b m p c ∧ ∀ j, j ≠ 23 → S' j = S (j + 1) := ⟨fun j => if j = 23 then m_act w a b m p c else S (j + 1), if_pos rfl, fun j hj => if_neg hj⟩
    refine ⟨S', (nx + 1) % 24, 23, ⟨?_, ?_, ?_, ?_, ?_, ?_, ?_, ?_⟩, ?_, Or.inr ⟨rfl, rfl, ?_⟩⟩
    · rw [nf (by decide) (by decide)]; exact (ka 0).2.2.2.2.2.1
    · omega
    · rw [nf (by decide) (by decide)]; exact (ka 0).2.2.2.2.2.2
    · rw [note_eq24 x3, noteB_23]
    · omega
    · intro j hj i hi
      rw [note_eq24 x3]
      by_cases cj : j = 23
      · subst cj
        rw [noteB_at (c := c) hi, s1]
      · rw [noteB_lo (by omega), up2_n (by decide), upR_s, if_pos (by omega), x4, s2 j cj, show 5 * j + i + 5 = 5 * (j + 1) + i by omega]
        exact L.em (j + 1) (by omega) i hi
    · intro j hj i hi
      rw [nf (by omega) (by omega), kc i hi]
      by_cases cj : j = 23
      · subst cj
        rw [if_pos (by unfold m_pl; omega), s1]
      · rw [if_neg (by unfold m_pl; omega), s2 j cj]
        have := L.ec (j + 1) (by omega) i hi
        rw [← this]
        congr 1
        unfold m_pl
        omega
    · intro j hj
      rw [nf (by omega) (by omega), kd]
      by_cases cj : j = 23
      · subst cj
        rw [if_pos (by unfold m_pl; omega), s1]
        rfl
      · rw [if_neg (by unfold m_pl; omega), s2 j cj]
        have := L.ed (j + 1) (by omega)
        rw [← this]
        congr 1
        unfold m_pl
        omega
    · exact s1
    · intro j hj
      exact s2 j (by omega)
  · obtain ⟨S', s1, s2⟩ : ∃ S' : Nat → Nat → Int32, S' n = m_act w a b m p c ∧ ∀ j, j ≠ n → S' j = S j := ⟨fun j => if j = n then m_act w a b m p c else S j, if_pos rfl, fun j hj => if_neg hj⟩
    refine ⟨S', (nx + 1) % 24, n, ⟨?_, ?_, ?_, ?_, ?_, ?_, ?_, ?_⟩, ?_, Or.inl ⟨rfl, ?_⟩⟩
    · rw [nf (by decide) (by decide)]; exact (ka 0).2.2.2.2.2.1
    · omega
    · rw [nf (by decide) (by decide), (ka 0).2.2.2.2.2.2]
      congr 1
      split <;> omega
    · rw [note_eq x3 (by omega), noteB_23]
    · omega
    · intro j hj i hi
      rw [note_eq x3 (by omega)]
      by_cases cj : j = n
      · subst cj
        rw [noteB_at (c := c) hi, s1]
      · rw [noteB_lo (by omega), x4, s2 j cj]
        exact L.em j (by omega) i hi
    · intro j hj i hi
      rw [nf (by omega) (by omega), kc i hi]
      by_cases cj : j = n
      · subst cj
        rw [if_pos (by unfold m_pl; omega), s1]
      · rw [if_neg (by unfold m_pl; omega), s2 j cj]
        have := L.ec j (by omega) i hi
        rw [← this]
        congr 1
        unfold m_pl
        omega
    · intro j hj
      rw [nf (by omega) (by omega), kd]
      by_cases cj : j = n
      · subst cj
        rw [if_pos (by unfold m_pl; omega), s1]
        rfl
      · rw [if_neg (by unfold m_pl; omega), s2 j cj]
        have := L.ed j (by omega)
        rw [← this]
        congr 1
        unfold m_pl
        omega
    · exact s1
    · intro j hj
      exact s2 j (by omega)
theorem am_at {g : wx_M} (H : wx_AM g) {i : Nat} (hi : i ≤ 23) : wx_b (g 68 (5 * i + 1)) 0 5 ∧ wx_b (g 68 (5 * i + 2)) 0 5 ∧ wx_b (g 68 (5 * i + 3)) 0 7 ∧ (g 68 (5 * i) < 2 → wx_b (g 68 (5 * i + 1)) 0 3) := H i hi
theorem m_act_add {g g1 g2 : wx_M} {K K' : Nat} {w a b m p c : Int32} (hK : K ≤ K') (A : m_Act K g) (e49 : ∀ k, 49 ≤ k → k ≤ 54 → g1 k = g k) (e68 : g1 68 = g 68) (e57 : g1 57 23 = g 57 23)
    (ba : wx_b a 0 5) (bb : wx_b b 0 5) (bm : wx_b m 0 7) (bw : (w = 0 ∨ w = 1) → wx_b a 0 3) (bw2 : w < 2 → wx_b a 0 3)
    (d49 : ∀ k, 49 ≤ k → k ≤ 54 → g2 k = e_X12_note (e_X0_keep g1 w a b m c) w a b m p k) (d68 : g2 68 = e_X12_note (e_X0_keep g1 w a b m c) w a b m p 68) (d57 : g2 57 23 = e_X12_note (e_X0_keep g1 w a b m c) w a b m p 57 23)
    (hok : m_ok K' (m_act w a b m p c) (g2 65)) (hb : m_back (m_act w a b m p c) (g2 65) = g 65) : m_Act K' g2 := by
  obtain ⟨⟨S, nx, n, L, U⟩, AI, AM⟩ := A
  have hnx := L.lnx
  have hn := L.ln
  have x1 : g1 49 5 = nI nx := by rw [e49 49 (by decide) (by decide)]; exact L.enx
  have x2 : g1 49 6 = nI n := by rw [e49 49 (by decide) (by decide)]; exact L.ek
  have ka := fun j => keep_at (w := w) (a := a) (b := b) (m := m) (c := c) x1 hnx x2 hn j
  have kf : ∀ {k : Nat}, (k < 49 ∨ 54 < k) → e_X0_keep g1 w a b m c k = g1 k := fun hk => keep_far x1 hnx x2 hn hk
  have x3 : e_X0_keep g1 w a b m c 57 23 = nI n := by rw [kf (by omega), e57]; exact L.ea
  have x4 : e_X0_keep g1 w a b m c 68 = g 68 := by rw [kf (by omega), e68]
  refine ⟨?_, ?_, ?_⟩
  · obtain ⟨S', nx', n', L', es, hs⟩ := lnk_add L w a b m p c e49 e68 e57
    refine ⟨S', nx', n' + 1, L'.congr d49 d68 d57, ?_, ?_⟩
    · rw [es]; exact hok
    · rw [es, hb]
      rcases hs with ⟨rfl, hj⟩ | ⟨rfl, rfl, hj⟩
      · exact (U.congr hj).mono hK
      · exact (m_Und.congr (S := fun j => S (j + 1)) hj (und_drop U)).mono hK
  · have : wx_AI (e_X12_note (e_X0_keep g1 w a b m c) w a b m p) := by
      intro i hi
      rw [note_far x3 hn (by decide) (by decide), note_far x3 hn (by decide) (by decide), note_far x3 hn (by decide) (by decide), note_far x3 hn (by decide) (by decide)]
      obtain ⟨q0, q1, q2, q3, -⟩ := ka i
      rw [q0, q1, q2, q3]
      by_cases ci : i = nx
      · simp only [if_pos ci]
        exact ⟨ba, bb, bm, bw⟩
      · simp only [if_neg ci]
        rw [e49 50 (by decide) (by decide), e49 51 (by decide) (by decide), e49 52 (by decide) (by decide), e49 53 (by decide) (by decide)]
        exact AI i hi
    exact ai_congr (fun k h1 h2 => d49 k (by omega) (by omega)) this
  · have : wx_AM (e_X12_note (e_X0_keep g1 w a b m c) w a b m p) := by
      intro i hi
      by_cases cn : n = 24
      · subst cn
        rw [note_eq24 x3]
        by_cases ci : i = 23
        · subst ci
          have q := fun (j : Nat) (hj : j < 5) => noteB_at (g := up2 (upR (e_X0_keep g1 w a b m c) 68 (fun i => if i < 115 then e_X0_keep g1 w a b m c 68 (i + 5) else e_X0_keep g1 w a b m c 68 i)) 57 23 23) (n := 23) (w := w) (a := a) (b := b) (m := m) (p := p) (c := c) (i := j) hj
          rw [q 1 (by decide), q 2 (by decide), q 3 (by decide), show 5 * 23 = 5 * 23 + 0 from rfl, q 0 (by decide)]
          exact ⟨ba, bb, bm, bw2⟩
        · rw [noteB_lo (by omega), noteB_lo (by omega), noteB_lo (by omega), noteB_lo (by omega), up2_n (by decide), upR_s, if_pos (by omega), if_pos (by omega), if_pos (by omega), if_pos (by omega), x4]
          exact AM (i + 1) (by omega)
      · rw [note_eq x3 (by omega)]
        by_cases ci : i = n
        · subst ci
          have q := fun (j : Nat) (hj : j < 5) => noteB_at (g := e_X0_keep g1 w a b m c) (n := i) (w := w) (a := a) (b := b) (m := m) (p := p) (c := c) (i := j) hj
          have q0 : noteB (e_X0_keep g1 w a b m c) i w a b m p 68 (5 * i) = w := q 0 (by decide)
          rw [q 1 (by decide), q 2 (by decide), q 3 (by decide), q0]
          exact ⟨ba, bb, bm, bw2⟩
        · rw [noteB_lo (by omega), noteB_lo (by omega), noteB_lo (by omega), noteB_lo (by omega), x4]
          exact AM i hi
    exact am_congr d68 this
/-- the relation out of its parts, where an act was done or undone -/
theorem rel_act {g W : wx_M} {K K' : Nat} (H : m_Rel K g) (hK : K ≤ K') (eo : ∀ k, ¬ (20 ≤ k ∧ k ≤ 26) → ¬ (49 ≤ k ∧ k ≤ 54) → k ≠ 57 → k ≠ 65 → k ≠ 68 → W k = g k) (e57 : ∀ j, j ≠ 23 → W 57 j = g 57 j) (hh : m_Hou W 20 (W 65) K') (ha : m_Act K' W) : m_Rel K' W := by
  have ek : ∀ k, (k < 20 ∨ (27 ≤ k ∧ k < 49) ∨ (54 < k ∧ k < 57) ∨ (57 < k ∧ k < 65) ∨ k = 66 ∨ k = 67 ∨ k = 69) → W k = g k := fun k hk => eo k (by omega) (by omega) (by omega) (by omega) (by omega)
  refine ⟨?_, ?_, ?_, ?_, ?_, ?_, hh, ?_, ?_, ha, ?_⟩
  · exact H.rows.congr (fun k hk => ek k (by omega))
  · rw [ek 0 (by omega), e57 3 (by decide)]; exact H.fin
  · exact H.tape.congr (by rw [ek 18 (by omega)]) (e57 4 (by decide)) (ek 19 (by omega)) (ek 61 (by omega))
  · rw [ek 18 (by omega), e57 10 (by decide)]; exact H.flt
  · exact tb_congr (by rw [ek 18 (by omega)]; exact ⟨rfl, rfl, rfl⟩) H.tb
  · exact pr_congr (fun j hj => e57 j (by omega)) (ek 62 (by omega)) H.pr
  · exact H.dra.congr (fun k h1 h2 => ek k (by omega))
  · exact H.img.congr hK (fun k hk => ek k (by omega))
  · exact H.trc.congr (by rw [ek 55 (by omega)]) (e57 25 (by decide)) (ek 56 (by omega)) (ek 69 (by omega))
def m_T (K : Nat) (g : wx_M) (z : wx_M × Int32) (F : wx_M → wx_M × Int32) : Prop := (∀ k, 57 ≤ k → z.1 k = g k) ∧ (F z.1).2 = z.2 ∧ m_Rel (K + 10) (F z.1).1
theorem T_same {K : Nat} {g : wx_M} {z : wx_M × Int32} {F : wx_M → wx_M × Int32} (H : m_Rel K g) (r : Int32) (e1 : z = (g, r)) (e2 : F g = (g, r)) : m_T K g z F := by
  rw [e1]
  exact ⟨fun _ _ => rfl, by show (F g).2 = r; rw [e2], by show m_Rel (K + 10) (F g).1; rw [e2]; exact H.mono (by omega)⟩
