/-! THE MATH 9: the relation between the cells and the reference's -/
def m_sold (n : Nat → Int32) : Nat := fb_sm (fun k => bN (n (100 + k))) 48
def m_drw (n : Nat → Int32) : Nat := fb_sm (fun k => bN (n (52 + k))) 48
theorem m_soldOf (g : wx_M) : r_X12_soldOfAll g = nI (m_sold (g 65)) := by
  have key : ∀ n, n ≤ 48 → rep n (b_X12_soldOfAll_4 g) 0 = nI (fb_sm (fun k => bN (g 65 (100 + k))) n) := by
    intro n
    induction n with
    | zero => exact fun _ => rfl
    | succ n ih =>
      intro hn
      rw [rep_succ, ih (by omega), fb_sm_succ]
      simp only [b_X12_soldOfAll_4]
      rw [ix_a100 (show n < 1000 by omega), m_bits, nI_add]
  exact key 48 (Nat.le_refl _)
theorem m_drwLoop (g : wx_M) : rep 48 (b_X12_drawnOfAll_4 g) 0 = nI (m_drw (g 65)) := by
  have key : ∀ n, n ≤ 48 → rep n (b_X12_drawnOfAll_4 g) 0 = nI (fb_sm (fun k => bN (g 65 (52 + k))) n) := by
    intro n
    induction n with
    | zero => exact fun _ => rfl
    | succ n ih =>
      intro hn
      rw [rep_succ, ih (by omega), fb_sm_succ]
      simp only [b_X12_drawnOfAll_4]
      rw [ix_a52 (show n < 1000 by omega), m_bits, nI_add]
  exact key 48 (Nat.le_refl _)
theorem m_drw_le (n : Nat → Int32) : m_drw n ≤ 384 := fb_sm_bound (c := 8) (n := 48) (fun k _ => bN_le _)
theorem m_sold_le (n : Nat → Int32) : m_sold n ≤ 384 := fb_sm_bound (c := 8) (n := 48) (fun k _ => bN_le _)
theorem m_drwOf {g : wx_M} {c : Nat} (h : m_drw (g 65) = 2 * c) : r_X12_drawnOfAll g = nI c := by
  have h1 := m_drw_le (g 65)
  simp only [r_X12_drawnOfAll]
  rw [m_drwLoop, h, show (2 : Int32) = nI 2 from rfl, pk_div (by omega) (by omega) (by omega)]
  congr 1
  omega
def m_SB (g : wx_M) (h : Nat) (n : Nat → Int32) : Prop := (g h 6 = nI (m_sold n)) ∧ (m_sold n ≤ 24) ∧ (∃ c, g h 7 = nI c ∧ m_drw n = 2 * c)
theorem m_SB.sold {g : wx_M} {h : Nat} {n : Nat → Int32} (H : m_SB g h n) : g h 6 = nI (m_sold n) := H.1
theorem m_SB.le {g : wx_M} {h : Nat} {n : Nat → Int32} (H : m_SB g h n) : m_sold n ≤ 24 := H.2.1
theorem m_SB.cur {g : wx_M} {h : Nat} {n : Nat → Int32} (H : m_SB g h n) : ∃ c, g h 7 = nI c ∧ m_drw n = 2 * c := H.2.2
def m_Hou (g : wx_M) (h : Nat) (n : Nat → Int32) (K : Nat) : Prop := (m_HR g h n) ∧ (m_NB n K) ∧ (m_SB g h n)
theorem m_Hou.R {g : wx_M} {h : Nat} {n : Nat → Int32} {K : Nat} (H : m_Hou g h n K) : m_HR g h n := H.1
theorem m_Hou.B {g : wx_M} {h : Nat} {n : Nat → Int32} {K : Nat} (H : m_Hou g h n K) : m_NB n K := H.2.1
theorem m_Hou.S {g : wx_M} {h : Nat} {n : Nat → Int32} {K : Nat} (H : m_Hou g h n K) : m_SB g h n := H.2.2
def m_Row1 (g : wx_M) (r : Nat) : Prop := ((g (2 + r) 3 = 0 ∧ g 58 r = g (2 + r) 1 ∧ wx_b (g (2 + r) 1) 0 2) ∨ (g (2 + r) 3 = 1 ∧ g 58 r = -1)) ∧ g 59 r = g (2 + r) 2 ∧ wx_b (g (2 + r) 2) 0 40 ∧ ∀ i, i < (g (2 + r) 2).toNatClampNeg → g (10 + r) i = g 60 (40 * r + i)
def m_Rows (g : wx_M) : Prop := ∀ r, r < 8 → m_Row1 g r
def m_Tape (g : wx_M) : Prop := g 18 1 = g 57 4 ∧ ∀ i, i < (g 57 4).toNatClampNeg → g 19 i = g 61 i ∧ wx_b (g 61 i) 0 255
def m_Draft (g : wx_M) : Prop := g 27 6 = 0 ∧ g 27 7 = 0 ∧ g 27 8 = 0 ∧ wx_b (g 27 0) 0 6 ∧ ∀ k, k < 48 → g 29 k = 0 ∧ g 30 k = 0
def m_Img1 (K : Nat) (g : wx_M) (i : Nat) : Prop := (g 67 i = 1 ∧ ¬ g 66 (149 * i) = 0 ∧ m_Hou g (35 + 7 * i) (fun j => g 66 (149 * i + j)) K) ∨ (g 67 i = 0 ∧ g (35 + 7 * i) 0 = 0)
def m_Img (K : Nat) (g : wx_M) : Prop := ∀ i, i < 2 → m_Img1 K g i
def m_Trc (g : wx_M) : Prop := g 55 1 = g 57 25 ∧ wx_b (g 57 25) 0 16 ∧ ∀ i, i < (g 57 25).toNatClampNeg → g 56 i = g 69 i
/-- what the reference does to undo an act s (sort, a, b, minute, purse, coins) -/
def m_back (s : Nat → Int32) (f : Nat → Int32) : Nat → Int32 :=
  if 2 ≤ s 0 then
    if s 0 = 2 then
      upd (upd f ((52 + (6 * s 3)) + s 1).toNatClampNeg (f ((52 + (6 * s 3)) + s 1).toNatClampNeg ^^^ (1 <<< (s 2 &&& 31)))) ((52 + (6 * s 3)) + s 2).toNatClampNeg ((upd f ((52 + (6 * s 3)) + s 1).toNatClampNeg (f ((52 + (6 * s 3)) + s 1).toNatClampNeg ^^^ (1 <<< (s 2 &&& 31)))) ((52 + (6 * s 3)) + s 2).toNatClampNeg ^^^ (1 <<< (s 1 &&& 31)))
    else upd f 51 (f 51 &&& ((1 <<< (s 3 &&& 31)) ^^^ (-1)))
  else
    upd (upd f (47 + s 1).toNatClampNeg (s 4)) ((100 + (6 * s 3)) + s 2).toNatClampNeg ((upd f (47 + s 1).toNatClampNeg (s 4)) ((100 + (6 * s 3)) + s 2).toNatClampNeg ^^^ (1 <<< (s 1 &&& 31)))
/-- an act that can be undone -/
def m_ok (K : Nat) (s : Nat → Int32) (f : Nat → Int32) : Prop :=
  (∃ v r m, v < (f 4).toNatClampNeg ∧ r < (f 0).toNatClampNeg ∧ m < 8 ∧ s 1 = nI v ∧ s 2 = nI r ∧ s 3 = nI m ∧ wx_b (s 4) 0 K ∧
    ((s 0 = 0 ∧ ¬ r_X12_has (f (100 + (6 * m + r))) (nI v) = 0 ∧ s 4 = f (47 + v) + s 5) ∨ (s 0 = 1 ∧ r_X12_has (f (100 + (6 * m + r))) (nI v) = 0 ∧ s 4 = f (47 + v) - s 5 ∧ m_sold f < 24))) ∨
  (∃ a b m, a < (f 0).toNatClampNeg ∧ b < (f 0).toNatClampNeg ∧ a ≠ b ∧ m < 8 ∧ s 0 = 2 ∧ s 1 = nI a ∧ s 2 = nI b ∧ s 3 = nI m ∧ ¬ r_X12_has (f (52 + (6 * m + a))) (nI b) = 0) ∨
  (∃ m, m < 8 ∧ s 0 = 3 ∧ s 1 = 0 ∧ s 2 = 0 ∧ s 3 = nI m)
def m_Und (K : Nat) (S : Nat → Nat → Int32) : Nat → (Nat → Int32) → Prop
  | 0, _ => True
  | j + 1, f => m_ok K (S j) f ∧ m_Und K S j (m_back (S j) f)
/-- where the j-th of n acts stands in the ring, the next place nx -/
def m_pl (nx n j : Nat) : Nat := (nx + 24 - n + j) % 24
def m_Lnk (g : wx_M) (S : Nat → Nat → Int32) (nx n : Nat) : Prop := (g 49 5 = nI nx) ∧ (nx < 24) ∧ (g 49 6 = nI n) ∧ (g 57 23 = nI n) ∧ (n ≤ 24) ∧ (∀ j, j < n → ∀ i, i < 5 → g 68 (5 * j + i) = S j i) ∧ (∀ j, j < n → ∀ i, i < 4 → g (50 + i) (m_pl nx n j) = S j i) ∧ (∀ j, j < n → g 54 (m_pl nx n j) = S j 5)
theorem m_Lnk.enx {g : wx_M} {S : Nat → Nat → Int32} {nx n : Nat} (H : m_Lnk g S nx n) : g 49 5 = nI nx := H.1
theorem m_Lnk.lnx {g : wx_M} {S : Nat → Nat → Int32} {nx n : Nat} (H : m_Lnk g S nx n) : nx < 24 := H.2.1
theorem m_Lnk.ek {g : wx_M} {S : Nat → Nat → Int32} {nx n : Nat} (H : m_Lnk g S nx n) : g 49 6 = nI n := H.2.2.1
theorem m_Lnk.ea {g : wx_M} {S : Nat → Nat → Int32} {nx n : Nat} (H : m_Lnk g S nx n) : g 57 23 = nI n := H.2.2.2.1
theorem m_Lnk.ln {g : wx_M} {S : Nat → Nat → Int32} {nx n : Nat} (H : m_Lnk g S nx n) : n ≤ 24 := H.2.2.2.2.1
theorem m_Lnk.em {g : wx_M} {S : Nat → Nat → Int32} {nx n : Nat} (H : m_Lnk g S nx n) : ∀ j, j < n → ∀ i, i < 5 → g 68 (5 * j + i) = S j i := H.2.2.2.2.2.1
theorem m_Lnk.ec {g : wx_M} {S : Nat → Nat → Int32} {nx n : Nat} (H : m_Lnk g S nx n) : ∀ j, j < n → ∀ i, i < 4 → g (50 + i) (m_pl nx n j) = S j i := H.2.2.2.2.2.2.1
theorem m_Lnk.ed {g : wx_M} {S : Nat → Nat → Int32} {nx n : Nat} (H : m_Lnk g S nx n) : ∀ j, j < n → g 54 (m_pl nx n j) = S j 5 := H.2.2.2.2.2.2.2
def m_Act (K : Nat) (g : wx_M) : Prop := (∃ S nx n, m_Lnk g S nx n ∧ m_Und K S n (g 65)) ∧ wx_AI g ∧ wx_AM g
/-- what a reading of the reference wants; its place in the tape is put to 0 first -/
def wx_PQ (g : wx_M) : Prop := wx_b (g 57 4) 0 140 ∧ wx_RS g
theorem pq_p0 {g : wx_M} (h : wx_PQ g) : wx_PR (up2 g 57 6 0) := by
  obtain ⟨h1, h2⟩ := h
  unfold wx_PR wx_PB
  unfold wx_RS at h2 ⊢
  rw [up2_sn (by decide), up2_ss, up2_sn (by decide), up2_sn (by decide), up2_sn (by decide), up2_sn (by decide), up2_n (by decide)]
  exact ⟨⟨h1, ⟨by decide, by decide⟩, h1.1⟩, h2⟩
def m_Rel (K : Nat) (g : wx_M) : Prop := (m_Rows g) ∧ (g 0 7 = g 57 3) ∧ (m_Tape g) ∧ (g 18 2 = g 57 10) ∧ (wx_TB g) ∧ (wx_PQ g) ∧ (m_Hou g 20 (g 65) K) ∧ (m_Draft g) ∧ (m_Img K g) ∧ (m_Act K g) ∧ (m_Trc g)
theorem m_Rel.rows {K : Nat} {g : wx_M} (H : m_Rel K g) : m_Rows g := H.1
theorem m_Rel.fin {K : Nat} {g : wx_M} (H : m_Rel K g) : g 0 7 = g 57 3 := H.2.1
theorem m_Rel.tape {K : Nat} {g : wx_M} (H : m_Rel K g) : m_Tape g := H.2.2.1
theorem m_Rel.flt {K : Nat} {g : wx_M} (H : m_Rel K g) : g 18 2 = g 57 10 := H.2.2.2.1
theorem m_Rel.tb {K : Nat} {g : wx_M} (H : m_Rel K g) : wx_TB g := H.2.2.2.2.1
theorem m_Rel.pr {K : Nat} {g : wx_M} (H : m_Rel K g) : wx_PQ g := H.2.2.2.2.2.1
theorem m_Rel.hou {K : Nat} {g : wx_M} (H : m_Rel K g) : m_Hou g 20 (g 65) K := H.2.2.2.2.2.2.1
theorem m_Rel.dra {K : Nat} {g : wx_M} (H : m_Rel K g) : m_Draft g := H.2.2.2.2.2.2.2.1
theorem m_Rel.img {K : Nat} {g : wx_M} (H : m_Rel K g) : m_Img K g := H.2.2.2.2.2.2.2.2.1
theorem m_Rel.act {K : Nat} {g : wx_M} (H : m_Rel K g) : m_Act K g := H.2.2.2.2.2.2.2.2.2.1
theorem m_Rel.trc {K : Nat} {g : wx_M} (H : m_Rel K g) : m_Trc g := H.2.2.2.2.2.2.2.2.2.2
/-! what doesn't touch a part leaves it -/
theorem m_Row1.congr {g g' : wx_M} {r : Nat} (hr : r < 8) (h : ∀ k, ((2 ≤ k ∧ k < 18) ∨ k = 58 ∨ k = 59 ∨ k = 60) → g' k = g k) (H : m_Row1 g r) : m_Row1 g' r := by
  unfold m_Row1
  rw [h (2 + r) (by omega), h 58 (by omega), h 59 (by omega), h 60 (by omega), h (10 + r) (by omega)]
  exact H
theorem m_Rows.congr {g g' : wx_M} (h : ∀ k, ((2 ≤ k ∧ k < 18) ∨ k = 58 ∨ k = 59 ∨ k = 60) → g' k = g k) (H : m_Rows g) : m_Rows g' := fun r hr => (H r hr).congr hr h
theorem m_Tape.congr {g g' : wx_M} (h1 : g' 18 1 = g 18 1) (h2 : g' 57 4 = g 57 4) (h3 : g' 19 = g 19) (h4 : g' 61 = g 61) (H : m_Tape g) : m_Tape g' := by
  unfold m_Tape
  rw [h1, h2, h3, h4]
  exact H
theorem tb_congr {g g' : wx_M} (h : g' 18 1 = g 18 1 ∧ g' 18 4 = g 18 4 ∧ g' 18 5 = g 18 5) (H : wx_TB g) : wx_TB g' := by
  unfold wx_TB
  rw [h.1, h.2.1, h.2.2]
  exact H
theorem pr_congr {g g' : wx_M} (h : ∀ j, j = 4 ∨ j = 6 ∨ j = 11 ∨ j = 14 ∨ j = 16 ∨ j = 18 → g' 57 j = g 57 j) (h2 : g' 62 = g 62) (H : wx_PQ g) : wx_PQ g' := by
  unfold wx_PQ wx_RS at H ⊢
  rw [h 4 (by decide), h 11 (by decide), h 14 (by decide), h 16 (by decide), h 18 (by decide), h2]
  exact H
theorem m_HR.congr {g g' : wx_M} {h : Nat} {n : Nat → Int32} (e : ∀ k, h ≤ k → k ≤ h + 6 → g' k = g k) (H : m_HR g h n) : m_HR g' h n := by
  refine ⟨?_, ?_, ?_, ?_, ?_, ?_, ?_, ?_, ?_, ?_, ?_, ?_, ?_⟩
  · rw [e h (by omega) (by omega)]; exact H.rooms
  · rw [e h (by omega) (by omega)]; exact H.seats
  · rw [e h (by omega) (by omega)]; exact H.fee
  · rw [e h (by omega) (by omega)]; exact H.men
  · rw [e h (by omega) (by omega)]; exact H.gs
  · rw [e h (by omega) (by omega)]; exact H.wr
  · rw [e (h + 1) (by omega) (by omega)]; exact H.win
  · rw [e (h + 2) (by omega) (by omega)]; exact H.drn
  · rw [e (h + 3) (by omega) (by omega)]; exact H.hld
  · rw [e (h + 4) (by omega) (by omega)]; exact H.was
  · rw [e (h + 5) (by omega) (by omega)]; exact H.pur
  · rw [e (h + 6) (by omega) (by omega)]; exact H.srt
  · rw [e h (by omega) (by omega)]; exact H.wal
theorem m_SB.congr {g g' : wx_M} {h : Nat} {n : Nat → Int32} (e : g' h = g h) (H : m_SB g h n) : m_SB g' h n := by
  refine ⟨?_, ?_, ?_⟩
  · rw [e]; exact H.sold
  · exact H.le
  · rw [e]; exact H.cur
theorem m_Hou.congr {g g' : wx_M} {h K : Nat} {n : Nat → Int32} (e : ∀ k, h ≤ k → k ≤ h + 6 → g' k = g k) (H : m_Hou g h n K) : m_Hou g' h n K := ⟨H.R.congr e, H.B, H.S.congr (e h (by omega) (by omega))⟩
theorem m_NB.mono {n : Nat → Int32} {K K' : Nat} (h : K ≤ K') (B : m_NB n K) : m_NB n K' := ⟨B.rooms, B.two, B.seats, B.fee, B.men, B.gs, B.nil, B.wr, B.win, B.irr, B.drn, B.sym, B.hld, B.hlr, B.was, fun k hk => wb_w (B.pur k hk) (by decide) (by omega), B.srt⟩
theorem m_Hou.mono {g : wx_M} {h K K' : Nat} {n : Nat → Int32} (hk : K ≤ K') (H : m_Hou g h n K) : m_Hou g h n K' := ⟨H.R, H.B.mono hk, H.S⟩
theorem m_Draft.congr {g g' : wx_M} (e : ∀ k, 27 ≤ k → k ≤ 33 → g' k = g k) (H : m_Draft g) : m_Draft g' := by
  unfold m_Draft
  rw [e 27 (by decide) (by decide), e 29 (by decide) (by decide), e 30 (by decide) (by decide)]
  exact H
theorem m_Img1.mono {g : wx_M} {K K' i : Nat} (hk : K ≤ K') (H : m_Img1 K g i) : m_Img1 K' g i := by
  rcases H with ⟨h1, h2, h3⟩ | h
  · exact Or.inl ⟨h1, h2, h3.mono hk⟩
  · exact Or.inr h
theorem m_Img1.congr {g g' : wx_M} {K i : Nat} (hi : i < 2) (e : ∀ k, (35 ≤ k ∧ k ≤ 48) ∨ k = 66 ∨ k = 67 → g' k = g k) (H : m_Img1 K g i) : m_Img1 K g' i := by
  unfold m_Img1
  rw [e 67 (by omega), e 66 (by omega), e (35 + 7 * i) (by omega)]
  rcases H with ⟨h1, h2, h3⟩ | h
  · exact Or.inl ⟨h1, h2, h3.congr (fun k h1 h2 => e k (by omega))⟩
  · exact Or.inr h
theorem m_Img.congr {g g' : wx_M} {K K' : Nat} (hk : K ≤ K') (e : ∀ k, (35 ≤ k ∧ k ≤ 48) ∨ k = 66 ∨ k = 67 → g' k = g k) (H : m_Img K g) : m_Img K' g' := fun i hi => ((H i hi).congr hi e).mono hk
theorem m_Trc.congr {g g' : wx_M} (h1 : g' 55 1 = g 55 1) (h2 : g' 57 25 = g 57 25) (h3 : g' 56 = g 56) (h4 : g' 69 = g 69) (H : m_Trc g) : m_Trc g' := by
  unfold m_Trc
  rw [h1, h2, h3, h4]
  exact H
theorem m_ok.mono {K K' : Nat} {s f : Nat → Int32} (hk : K ≤ K') (H : m_ok K s f) : m_ok K' s f := by
  rcases H with ⟨v, r, m, h1, h2, h3, h4, h5, h6, h7, h8⟩ | h | h
  · exact Or.inl ⟨v, r, m, h1, h2, h3, h4, h5, h6, wb_w h7 (by decide) (by omega), h8⟩
  · exact Or.inr (Or.inl h)
  · exact Or.inr (Or.inr h)
theorem m_Und.mono {K K' : Nat} {S : Nat → Nat → Int32} (hk : K ≤ K') : ∀ {n : Nat} {f : Nat → Int32}, m_Und K S n f → m_Und K' S n f
  | 0, _, _ => trivial
  | n + 1, _, h => ⟨h.1.mono hk, m_Und.mono hk h.2⟩
theorem m_Und.congr {K : Nat} {S S' : Nat → Nat → Int32} : ∀ {n : Nat} {f : Nat → Int32}, (∀ j, j < n → S' j = S j) → m_Und K S n f → m_Und K S' n f
  | 0, _, _, _ => trivial
  | n + 1, f, e, h => by
    refine ⟨?_, ?_⟩
    · rw [e n (by omega)]; exact h.1
    · rw [e n (by omega)]
      exact m_Und.congr (fun j hj => e j (by omega)) h.2
theorem ai_congr {g g' : wx_M} (e : ∀ k, 50 ≤ k → k ≤ 53 → g' k = g k) (H : wx_AI g) : wx_AI g' := by
  unfold wx_AI
  rw [e 50 (by decide) (by decide), e 51 (by decide) (by decide), e 52 (by decide) (by decide), e 53 (by decide) (by decide)]
  exact H
theorem am_congr {g g' : wx_M} (e : g' 68 = g 68) (H : wx_AM g) : wx_AM g' := by
  unfold wx_AM
  rw [e]
  exact H
theorem m_Lnk.congr {g g' : wx_M} {S : Nat → Nat → Int32} {nx n : Nat} (e : ∀ k, 49 ≤ k → k ≤ 54 → g' k = g k) (e2 : g' 68 = g 68) (e3 : g' 57 23 = g 57 23) (H : m_Lnk g S nx n) : m_Lnk g' S nx n := by
  refine ⟨?_, ?_, ?_, ?_, ?_, ?_, ?_, ?_⟩
  · rw [e 49 (by decide) (by decide)]; exact H.enx
  · exact H.lnx
  · rw [e 49 (by decide) (by decide)]; exact H.ek
  · rw [e3]; exact H.ea
  · exact H.ln
  · rw [e2]; exact H.em
  · intro j hj i hi; rw [e (50 + i) (by omega) (by omega)]; exact H.ec j hj i hi
  · rw [e 54 (by decide) (by decide)]; exact H.ed
theorem m_Act.congr {g g' : wx_M} {K K' : Nat} (hk : K ≤ K') (e : ∀ k, 49 ≤ k → k ≤ 54 → g' k = g k) (e2 : g' 68 = g 68) (e3 : g' 57 23 = g 57 23) (e4 : g' 65 = g 65) (H : m_Act K g) : m_Act K' g' := by
  obtain ⟨⟨S, nx, n, h1, h2⟩, h3, h4⟩ := H
  exact ⟨⟨S, nx, n, h1.congr e e2 e3, by rw [e4]; exact h2.mono hk⟩, ai_congr (fun k h1 h2 => e k (by omega) (by omega)) h3, am_congr e2 h4⟩
theorem m_Rel.mono {g : wx_M} {K K' : Nat} (hk : K ≤ K') (H : m_Rel K g) : m_Rel K' g := ⟨H.rows, H.fin, H.tape, H.flt, H.tb, H.pr, H.hou.mono hk, H.dra, H.img.congr hk (fun _ _ => rfl), H.act.congr hk (fun _ _ _ => rfl) rfl rfl rfl, H.trc⟩
/-! what the contracts want -/
theorem m_Rel.HB {g : wx_M} {K : Nat} (H : m_Rel K g) : wx_HB g 20 := ⟨by rw [H.hou.R.rooms]; exact H.hou.B.rooms, by rw [H.hou.R.men]; exact H.hou.B.men, by rw [H.hou.R.gs]; exact H.hou.B.gs⟩
theorem m_Rel.MB {g g1 : wx_M} {K : Nat} (H : m_Rel K g) (e : g1 65 = g 65) : wx_MB g1 := by
  unfold wx_MB
  rw [e, ix_0, ix_3, ix_4]
  exact ⟨H.hou.B.rooms, H.hou.B.men, H.hou.B.gs⟩
theorem m_Rel.MP {g g1 : wx_M} {K : Nat} (H : m_Rel K g) (e : g1 65 = g 65) : wx_MP g1 := by
  unfold wx_MP
  rw [e, ix_0, ix_3]
  intro h
  refine ⟨?_, H.hou.B.rooms.2⟩
  have h1 := h.1
  have h2 := H.hou.B.rooms.1
  by_cases c : (g 65 0).toNatClampNeg = 0
  · have h3 := (H.hou.B.nil c).1
    have : (g 65 3).toInt.toNat = 0 := h3
    omega
  · have : ¬ (g 65 0).toInt.toNat = 0 := c
    omega
theorem m_Rel.SZ {g : wx_M} {K : Nat} (H : m_Rel K g) : wx_SZ g := fun k hk => by
  obtain ⟨h1, h2⟩ := hk
  have := (H.rows (k - 2) (by omega)).2.2.1
  rwa [show 2 + (k - 2) = k by omega] at this
theorem m_Rel.IT {g g1 : wx_M} {K : Nat} (H : m_Rel K g) (e : g1 59 = g 59) : wx_IT g1 := fun j hj => by
  have h := H.rows j (by omega)
  rw [e, h.2.1]
  exact h.2.2.1
theorem m_Rel.nx {g : wx_M} {K : Nat} (H : m_Rel K g) : wx_b (g 49 5) 0 23 := by
  obtain ⟨⟨S, nx, n, h1, h2⟩, -⟩ := H.act
  rw [h1.enx]
  exact wb_nI (n := 23) (by have := h1.lnx; omega) (by decide)
theorem m_Rel.na {g : wx_M} {K : Nat} (H : m_Rel K g) : wx_b (g 57 23) 0 24 := by
  obtain ⟨⟨S, nx, n, h1, h2⟩, -⟩ := H.act
  rw [h1.ea]
  exact wb_nI (n := 24) h1.ln (by decide)
