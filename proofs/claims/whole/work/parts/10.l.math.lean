/-! THE MATH 12: what an act makes of a house -/
theorem bt6_all : ∀ (x : Fin 64) (v : Fin 6),
    (r_X12_has (nI x.val) (nI v.val) = 0 → nI x.val ||| bt v.val = nI x.val ^^^ bt v.val ∧ bN (nI x.val ^^^ bt v.val) = bN (nI x.val) + 1 ∧ ¬ r_X12_has (nI x.val ^^^ bt v.val) (nI v.val) = 0) ∧
    (¬ r_X12_has (nI x.val) (nI v.val) = 0 → nI x.val &&& (bt v.val ^^^ (-1)) = nI x.val ^^^ bt v.val ∧ bN (nI x.val ^^^ bt v.val) + 1 = bN (nI x.val) ∧ r_X12_has (nI x.val ^^^ bt v.val) (nI v.val) = 0) ∧
    (nI x.val ^^^ bt v.val) ^^^ bt v.val = nI x.val ∧ 0 ≤ (nI x.val ^^^ bt v.val).toInt ∧ (nI x.val ^^^ bt v.val).toInt ≤ 63 := by decide +kernel
theorem bt6_ {x : Int32} (h : wx_b x 0 63) {v : Nat} (hv : v < 6) :
    (r_X12_has x (nI v) = 0 → x ||| bt v = x ^^^ bt v ∧ bN (x ^^^ bt v) = bN x + 1 ∧ ¬ r_X12_has (x ^^^ bt v) (nI v) = 0) ∧
    (¬ r_X12_has x (nI v) = 0 → x &&& (bt v ^^^ (-1)) = x ^^^ bt v ∧ bN (x ^^^ bt v) + 1 = bN x ∧ r_X12_has (x ^^^ bt v) (nI v) = 0) ∧
    (x ^^^ bt v) ^^^ bt v = x ∧ wx_b (x ^^^ bt v) 0 63 := by
  obtain ⟨i, h1, rfl⟩ := m_ex (n := 63) h
  obtain ⟨a, b, c, d1, d2⟩ := bt6_all ⟨i, by omega⟩ ⟨v, hv⟩
  exact ⟨a, b, c, ⟨d1, d2⟩⟩
theorem bt6o_all : ∀ (x : Fin 64) (v w : Fin 6), v ≠ w → r_X12_has (nI x.val ^^^ bt v.val) (nI w.val) = r_X12_has (nI x.val) (nI w.val) := by decide +kernel
theorem bt6o {x : Int32} (h : wx_b x 0 63) {v w : Nat} (hv : v < 6) (hw : w < 6) (c : v ≠ w) : r_X12_has (x ^^^ bt v) (nI w) = r_X12_has x (nI w) := by
  obtain ⟨i, h1, rfl⟩ := m_ex (n := 63) h
  exact bt6o_all ⟨i, by omega⟩ ⟨v, hv⟩ ⟨w, hw⟩ (fun q => c (congrArg Fin.val q))
theorem has01 (x k : Int32) : r_X12_has x k = 0 ∨ r_X12_has x k = 1 := by
  unfold r_X12_has
  split
  · first | exact Or.inl rfl | exact Or.inr rfl
  · first | exact Or.inl rfl | exact Or.inr rfl
theorem bt8_all : ∀ (x : Fin 256) (v : Fin 8), (r_X12_has (nI x.val) (nI v.val) = 0 → (nI x.val ||| bt v.val) &&& (bt v.val ^^^ (-1)) = nI x.val) ∧ 0 ≤ (nI x.val ||| bt v.val).toInt ∧ (nI x.val ||| bt v.val).toInt ≤ 255 ∧ 0 ≤ (nI x.val &&& (bt v.val ^^^ (-1))).toInt ∧ (nI x.val &&& (bt v.val ^^^ (-1))).toInt ≤ 255 := by decide +kernel
theorem bt8_ {x : Int32} (h : wx_b x 0 255) {v : Nat} (hv : v < 8) : (r_X12_has x (nI v) = 0 → (x ||| bt v) &&& (bt v ^^^ (-1)) = x) ∧ wx_b (x ||| bt v) 0 255 ∧ wx_b (x &&& (bt v ^^^ (-1))) 0 255 := by
  obtain ⟨i, h1, rfl⟩ := m_ex (n := 255) h
  obtain ⟨a, b1, b2, c1, c2⟩ := bt8_all ⟨i, by omega⟩ ⟨v, hv⟩
  exact ⟨a, ⟨b1, b2⟩, ⟨c1, c2⟩⟩
theorem sm_one {f f' : Nat → Nat} {k0 : Nat} : ∀ {n : Nat}, k0 < n → (∀ k, k < n → k ≠ k0 → f' k = f k) → fb_sm f' n + f k0 = fb_sm f n + f' k0
  | 0, h, _ => by omega
  | n + 1, h, e => by
    rw [fb_sm_succ, fb_sm_succ]
    by_cases c : k0 = n
    · subst c
      rw [fb_sm_cong (n := k0) (f := f') (g := f) (fun k hk => e k (by omega) (by omega))]
      omega
    · have := sm_one (n := n) (show k0 < n by omega) (fun k hk hc => e k (by omega) hc)
      rw [e n (by omega) (fun q => c q.symm)]
      omega
theorem sold_one {n n' : Nat → Int32} {k0 : Nat} (h0 : k0 < 48) (e : ∀ j, j ≠ 100 + k0 → 100 ≤ j → j < 148 → n' j = n j) : m_sold n' + bN (n (100 + k0)) = m_sold n + bN (n' (100 + k0)) :=
  sm_one (f := fun k => bN (n (100 + k))) (f' := fun k => bN (n' (100 + k))) h0 (fun k hk hc => by
    show bN (n' (100 + k)) = bN (n (100 + k))
    rw [e (100 + k) (by omega) (by omega) (by omega)])
theorem sold_same {n n' : Nat → Int32} (e : ∀ j, 100 ≤ j → j < 148 → n' j = n j) : m_sold n' = m_sold n := fb_sm_cong (fun k hk => by
  show bN (n' (100 + k)) = bN (n (100 + k))
  rw [e (100 + k) (by omega) (by omega)])
theorem drw_same {n n' : Nat → Int32} (e : ∀ j, 52 ≤ j → j < 100 → n' j = n j) : m_drw n' = m_drw n := fb_sm_cong (fun k hk => by
  show bN (n' (52 + k)) = bN (n (52 + k))
  rw [e (52 + k) (by omega) (by omega)])
theorem drw_one {n n' : Nat → Int32} {k0 : Nat} (h0 : k0 < 48) (e : ∀ j, j ≠ 52 + k0 → 52 ≤ j → j < 100 → n' j = n j) : m_drw n' + bN (n (52 + k0)) = m_drw n + bN (n' (52 + k0)) :=
  sm_one (f := fun k => bN (n (52 + k))) (f' := fun k => bN (n' (52 + k))) h0 (fun k hk hc => by
    show bN (n' (52 + k)) = bN (n (52 + k))
    rw [e (52 + k) (by omega) (by omega) (by omega)])
theorem m_NB.mk2 {n n' : Nat → Int32} {K K' : Nat} (B : m_NB n K) (e : ∀ j, j < 47 → n' j = n j) (hp : ∀ k, k < (n 4).toNatClampNeg → wx_b (n' (47 + k)) 0 K') (hw : wx_b (n' 51) 0 255) (hd : ∀ k, k < 48 → wx_b (n' (52 + k)) 0 63) (hs : ∀ m a b, m < 8 → a < 6 → b < 6 → r_X12_has (n' (52 + (6 * m + a))) (nI b) = r_X12_has (n' (52 + (6 * m + b))) (nI a)) (hh : ∀ k, k < 48 → wx_b (n' (100 + k)) 0 15) (hl : ∀ k, k < 48 → (n 0).toNatClampNeg ≤ k % 6 → n' (100 + k) = 0) : m_NB n' K' := by
  have hp4 := B.p4
  have hv4 := B.v4
  refine ⟨?_, ?_, ?_, ?_, ?_, ?_, ?_, hw, ?_, ?_, hd, hs, hh, ?_, ?_, ?_, ?_⟩
  · rw [e 0 (by omega)]; exact B.rooms
  · rw [e 0 (by omega)]; exact B.two
  · rw [e 1 (by omega)]; exact B.seats
  · rw [e 2 (by omega)]; exact B.fee
  · rw [e 3 (by omega)]; exact B.men
  · rw [e 4 (by omega)]; exact B.gs
  · rw [e 0 (by omega), e 3 (by omega), e 4 (by omega)]; exact B.nil
  · intro a ha; rw [e (5 + a) (by omega)]; exact B.win a ha
  · intro a ha; rw [e (5 + a) (by omega)]; exact B.irr a ha
  · rw [e 0 (by omega)]; exact hl
  · intro a; rw [e 3 (by omega), e 0 (by omega)]
    intro ha; rw [e (11 + a) (by omega)]; exact B.was a ha
  · intro a; rw [e 4 (by omega)]; exact hp a
  · intro a; rw [e 4 (by omega)]
    intro ha; rw [e (43 + a) (by omega)]; exact B.srt a ha
theorem m_HR.mk2 {g g' : wx_M} {h : Nat} {n n' : Nat → Int32} (R : m_HR g h n) (p4 : (n 3).toNatClampNeg ≤ 4) (v4 : (n 4).toNatClampNeg ≤ 4) (e0 : ∀ j, j < 6 → g' h j = g h j) (e8 : g' h 8 = n' 51) (w1 : g' (h + 1) = g (h + 1)) (w4 : g' (h + 4) = g (h + 4)) (w6 : g' (h + 6) = g (h + 6)) (en : ∀ j, j < 47 → n' j = n j) (e148 : n' 148 = n 148) (hd : ∀ k, k < 48 → g' (h + 2) k = n' (52 + k)) (hh : ∀ k, k < 48 → g' (h + 3) k = n' (100 + k)) (hp : ∀ k, k < (n 4).toNatClampNeg → g' (h + 5) k = n' (47 + k)) : m_HR g' h n' := by
  refine ⟨?_, ?_, ?_, ?_, ?_, e8, ?_, hd, hh, ?_, ?_, ?_, ?_⟩
  · rw [e0 0 (by omega), en 0 (by omega)]; exact R.rooms
  · rw [e0 1 (by omega), en 1 (by omega)]; exact R.seats
  · rw [e0 2 (by omega), en 2 (by omega)]; exact R.fee
  · rw [e0 4 (by omega), en 3 (by omega)]; exact R.men
  · rw [e0 5 (by omega), en 4 (by omega)]; exact R.gs
  · intro a ha; rw [w1, en (5 + a) (by omega)]; exact R.win a ha
  · intro a; rw [en 3 (by omega)]
    intro ha; rw [w4, en (11 + a) (by omega)]; exact R.was a ha
  · intro a; rw [en 4 (by omega)]; exact hp a
  · intro a; rw [en 4 (by omega)]
    intro ha; rw [w6, en (43 + a) (by omega)]; exact R.srt a ha
  · rw [e0 3 (by omega), e148]; exact R.wal
section M12
variable {g : wx_M} {h K K' : Nat} {n n' : Nat → Int32}
theorem take_eq (g : wx_M) (h : Nat) {v r m : Nat} (hv : v < 1000) (hr : r < 1000) (hm : m < 1000) (x : Int32) : e_X3_takeSeat g h (nI v) (nI r) (nI m) x = up2 (up2 (up2 g (h + 3) (6 * m + r) (g (h + 3) (6 * m + r) ||| bt v)) h 6 (g h 6 + 1)) (h + 5) v (g (h + 5) v - x) := by
  simp only [e_X3_takeSeat, ix_s hr hm, ix hv]
  rw [up2_n (show h ≠ h + 3 by omega), up2_n (show h + 5 ≠ h by omega), up2_n (show h + 5 ≠ h + 3 by omega)]
theorem leave_eq (g : wx_M) (h : Nat) {v r m : Nat} (hv : v < 1000) (hr : r < 1000) (hm : m < 1000) (x : Int32) : e_X3_leaveSeat g h (nI v) (nI r) (nI m) x = up2 (up2 (up2 g (h + 3) (6 * m + r) (g (h + 3) (6 * m + r) &&& (bt v ^^^ (-1)))) h 6 (g h 6 - 1)) (h + 5) v (g (h + 5) v + x) := by
  simp only [e_X3_leaveSeat, ix_s hr hm, ix hv]
  rw [up2_n (show h ≠ h + 3 by omega), up2_n (show h + 5 ≠ h by omega), up2_n (show h + 5 ≠ h + 3 by omega)]
theorem draw_eq (g : wx_M) (h : Nat) {a b m : Nat} (hv : a < 6) (hr : b < 6) (hm : m < 8) (hab : a ≠ b) : e_X3_drawCurtain g h (nI a) (nI b) (nI m) = up2 (up2 (up2 g (h + 2) (6 * m + a) (g (h + 2) (6 * m + a) ||| bt b)) (h + 2) (6 * m + b) (g (h + 2) (6 * m + b) ||| bt a)) h 7 (g h 7 + 1) := by
  simp only [e_X3_drawCurtain, ix_s (show a < 1000 by omega) (show m < 1000 by omega), ix_s (show b < 1000 by omega) (show m < 1000 by omega)]
  rw [up2_n (show h ≠ h + 2 by omega), up2_n (show h ≠ h + 2 by omega), up2_sn (show 6 * m + b ≠ 6 * m + a by omega)]
theorem open_eq (g : wx_M) (h : Nat) {a b m : Nat} (hv : a < 6) (hr : b < 6) (hm : m < 8) (hab : a ≠ b) : e_X3_openCurtain g h (nI a) (nI b) (nI m) = up2 (up2 (up2 g (h + 2) (6 * m + a) (g (h + 2) (6 * m + a) &&& (bt b ^^^ (-1)))) (h + 2) (6 * m + b) (g (h + 2) (6 * m + b) &&& (bt a ^^^ (-1)))) h 7 (g h 7 - 1) := by
  simp only [e_X3_openCurtain, ix_s (show a < 1000 by omega) (show m < 1000 by omega), ix_s (show b < 1000 by omega) (show m < 1000 by omega)]
  rw [up2_n (show h ≠ h + 2 by omega), up2_n (show h ≠ h + 2 by omega), up2_sn (show 6 * m + b ≠ 6 * m + a by omega)]
theorem hou_take (H : m_Hou g h n K) (hK : K ≤ K') {v r m : Nat} (hv : v < (n 4).toNatClampNeg) (hr : r < (n 0).toNatClampNeg) (hm : m < 8) (hc : r_X12_has (n (100 + (6 * m + r))) (nI v) = 0) (hs : m_sold n < 24) (x : Int32) (hp : n' (47 + v) = n (47 + v) - x) (bp : wx_b (n' (47 + v)) 0 K') (e100 : n' (100 + (6 * m + r)) = n (100 + (6 * m + r)) ^^^ bt v) (eo : ∀ j, j ≠ 47 + v → j ≠ 100 + (6 * m + r) → n' j = n j) : m_Hou (e_X3_takeSeat g h (nI v) (nI r) (nI m) x) h n' K' := by
  have B := H.B
  have hv4 := B.v4
  have hr6 := B.r6
  have hxb := B.hld (6 * m + r) (by omega)
  have hbt := bt_ hxb (show v < 4 by omega)
  have hq := (hbt.1 hc)
  rw [take_eq g h (by omega) (by omega) (by omega)]
  refine ⟨?_, ?_, ?_, ?_, ?_⟩
  · refine H.R.mk2 B.p4 hv4 (fun j hj => ?_) ?_ ?_ ?_ ?_ (fun j hj => eo j (by omega) (by omega)) (eo 148 (by omega) (by omega)) (fun k hk => ?_) (fun k hk => ?_) (fun k hk => ?_)
    · rw [up2_n (by omega), up2_sn (by omega), up2_n (by omega)]
    · rw [up2_n (by omega), up2_sn (by omega), up2_n (by omega), eo 51 (by omega) (by omega)]; exact H.R.wr
    · rw [up2_n (by omega), up2_n (by omega), up2_n (by omega)]
    · rw [up2_n (by omega), up2_n (by omega), up2_n (by omega)]
    · rw [up2_n (by omega), up2_n (by omega), up2_n (by omega)]
    · rw [up2_n (by omega), up2_n (by omega), up2_n (by omega), eo (52 + k) (by omega) (by omega)]; exact H.R.drn k hk
    · rw [up2_n (by omega), up2_n (by omega)]
      by_cases c : k = 6 * m + r
      · rw [c, up2_ss, e100, H.R.hld _ (by omega)]; exact hq.1
      · rw [up2_sn c, eo (100 + k) (by omega) (by omega)]; exact H.R.hld k hk
    · by_cases c : k = v
      · rw [c, up2_ss, hp, H.R.pur v hv]
      · rw [up2_sn c, up2_n (by omega), up2_n (by omega), eo (47 + k) (by omega) (by omega)]; exact H.R.pur k hk
  · refine B.mk2 (fun j hj => eo j (by omega) (by omega)) (fun k hk => ?_) ?_ (fun k hk => ?_) (fun m' a b h1 h2 h3 => ?_) (fun k hk => ?_) (fun k hk hl => ?_)
    · by_cases c : k = v
      · rw [c]; exact bp
      · rw [eo (47 + k) (by omega) (by omega)]; exact wb_w (B.pur k hk) (by decide) (by omega)
    · rw [eo 51 (by omega) (by omega)]; exact B.wr
    · rw [eo (52 + k) (by omega) (by omega)]; exact B.drn k hk
    · rw [eo (52 + (6 * m' + a)) (by omega) (by omega), eo (52 + (6 * m' + b)) (by omega) (by omega)]; exact B.sym m' a b h1 h2 h3
    · by_cases c : k = 6 * m + r
      · rw [c, e100]; exact hbt.2.2.2.2.1
      · rw [eo (100 + k) (by omega) (by omega)]; exact B.hld k hk
    · rw [eo (100 + k) (by omega) (by omega)]; exact B.hlr k hk hl
  · have h1 := sold_one (n := n) (n' := n') (k0 := 6 * m + r) (by omega) (fun j h1 h2 h3 => eo j (by omega) h1)
    rw [e100, ← hq.1, hq.2.2.1] at h1
    rw [up2_n (by omega), up2_ss, H.S.sold, nI_1]
    congr 1
    omega
  · have h1 := sold_one (n := n) (n' := n') (k0 := 6 * m + r) (by omega) (fun j h1 h2 h3 => eo j (by omega) h1)
    rw [e100, ← hq.1, hq.2.2.1] at h1
    omega
  · rw [drw_same (n := n) (n' := n') (fun j h1 h2 => eo j (by omega) (by omega)), up2_n (by omega), up2_sn (by omega), up2_n (by omega)]
    exact H.S.cur
theorem hou_leave (H : m_Hou g h n K) (hK : K ≤ K') {v r m : Nat} (hv : v < (n 4).toNatClampNeg) (hr : r < (n 0).toNatClampNeg) (hm : m < 8) (hc : ¬ r_X12_has (n (100 + (6 * m + r))) (nI v) = 0) (x : Int32) (hp : n' (47 + v) = n (47 + v) + x) (bp : wx_b (n' (47 + v)) 0 K') (e100 : n' (100 + (6 * m + r)) = n (100 + (6 * m + r)) ^^^ bt v) (eo : ∀ j, j ≠ 47 + v → j ≠ 100 + (6 * m + r) → n' j = n j) : m_Hou (e_X3_leaveSeat g h (nI v) (nI r) (nI m) x) h n' K' ∧ m_sold n' < 24 := by
  have B := H.B
  have hv4 := B.v4
  have hr6 := B.r6
  have hxb := B.hld (6 * m + r) (by omega)
  have hbt := bt_ hxb (show v < 4 by omega)
  have hq := (hbt.2.1 hc)
  have hso := sold_one (n := n) (n' := n') (k0 := 6 * m + r) (by omega) (fun j h1 h2 h3 => eo j (by omega) h1)
  rw [e100, ← hq.1] at hso
  have hq2 := hq.2.1
  have hle := H.S.le
  rw [leave_eq g h (by omega) (by omega) (by omega)]
  refine ⟨⟨?_, ?_, ?_, ?_, ?_⟩, ?_⟩
  · refine H.R.mk2 B.p4 hv4 (fun j hj => ?_) ?_ ?_ ?_ ?_ (fun j hj => eo j (by omega) (by omega)) (eo 148 (by omega) (by omega)) (fun k hk => ?_) (fun k hk => ?_) (fun k hk => ?_)
    · rw [up2_n (by omega), up2_sn (by omega), up2_n (by omega)]
    · rw [up2_n (by omega), up2_sn (by omega), up2_n (by omega), eo 51 (by omega) (by omega)]; exact H.R.wr
    · rw [up2_n (by omega), up2_n (by omega), up2_n (by omega)]
    · rw [up2_n (by omega), up2_n (by omega), up2_n (by omega)]
    · rw [up2_n (by omega), up2_n (by omega), up2_n (by omega)]
    · rw [up2_n (by omega), up2_n (by omega), up2_n (by omega), eo (52 + k) (by omega) (by omega)]; exact H.R.drn k hk
    · rw [up2_n (by omega), up2_n (by omega)]
      by_cases c : k = 6 * m + r
      · rw [c, up2_ss, e100, H.R.hld _ (by omega)]; exact hq.1
      · rw [up2_sn c, eo (100 + k) (by omega) (by omega)]; exact H.R.hld k hk
    · by_cases c : k = v
      · rw [c, up2_ss, hp, H.R.pur v hv]
      · rw [up2_sn c, up2_n (by omega), up2_n (by omega), eo (47 + k) (by omega) (by omega)]; exact H.R.pur k hk
  · refine B.mk2 (fun j hj => eo j (by omega) (by omega)) (fun k hk => ?_) ?_ (fun k hk => ?_) (fun m' a b h1 h2 h3 => ?_) (fun k hk => ?_) (fun k hk hl => ?_)
    · by_cases c : k = v
      · rw [c]; exact bp
      · rw [eo (47 + k) (by omega) (by omega)]; exact wb_w (B.pur k hk) (by decide) (by omega)
    · rw [eo 51 (by omega) (by omega)]; exact B.wr
    · rw [eo (52 + k) (by omega) (by omega)]; exact B.drn k hk
    · rw [eo (52 + (6 * m' + a)) (by omega) (by omega), eo (52 + (6 * m' + b)) (by omega) (by omega)]; exact B.sym m' a b h1 h2 h3
    · by_cases c : k = 6 * m + r
      · rw [c, e100]; exact hbt.2.2.2.2.1
      · rw [eo (100 + k) (by omega) (by omega)]; exact B.hld k hk
    · rw [eo (100 + k) (by omega) (by omega)]; exact B.hlr k hk hl
  · rw [up2_n (by omega), up2_ss, H.S.sold, show (1 : Int32) = nI 1 from rfl, pk_sub (by omega)]
    congr 1
    omega
  · omega
  · rw [drw_same (n := n) (n' := n') (fun j h1 h2 => eo j (by omega) (by omega)), up2_n (by omega), up2_sn (by omega), up2_n (by omega)]
    exact H.S.cur
  · omega
/-- bits of curtains: one more, or one less, on both sides -/
theorem cur_sym (B : m_NB n K) {a b m : Nat} (ha : a < 6) (hb : b < 6) (hm : m < 8) (hab : a ≠ b) (ea : n' (52 + (6 * m + a)) = n (52 + (6 * m + a)) ^^^ bt b) (eb : n' (52 + (6 * m + b)) = n (52 + (6 * m + b)) ^^^ bt a) (eo : ∀ j, j ≠ 52 + (6 * m + a) → j ≠ 52 + (6 * m + b) → n' j = n j) : ∀ m' a' b', m' < 8 → a' < 6 → b' < 6 → r_X12_has (n' (52 + (6 * m' + a'))) (nI b') = r_X12_has (n' (52 + (6 * m' + b'))) (nI a') := by
  have ba := B.drn (6 * m + a) (by omega)
  have bb := B.drn (6 * m + b) (by omega)
  have hs := B.sym m a b hm ha hb
  have qa := bt6_ ba hb
  have qb := bt6_ bb ha
  -- the two bits change together
  have key : r_X12_has (n (52 + (6 * m + a)) ^^^ bt b) (nI b) = r_X12_has (n (52 + (6 * m + b)) ^^^ bt a) (nI a) := by
    by_cases c : r_X12_has (n (52 + (6 * m + a))) (nI b) = 0
    · have c2 : r_X12_has (n (52 + (6 * m + b))) (nI a) = 0 := by rw [← hs]; exact c
      have h1 := (qa.1 c).2.2
      have h2 := (qb.1 c2).2.2
      rcases has01 (n (52 + (6 * m + a)) ^^^ bt b) (nI b) with e1 | e1
      · exact absurd e1 h1
      · rcases has01 (n (52 + (6 * m + b)) ^^^ bt a) (nI a) with e2 | e2
        · exact absurd e2 h2
        · rw [e1, e2]
    · have c2 : ¬ r_X12_has (n (52 + (6 * m + b))) (nI a) = 0 := by rw [← hs]; exact c
      rw [(qa.2.1 c).2.2, (qb.2.1 c2).2.2]
  intro m' a' b' h1 h2 h3
  have hs' := B.sym m' a' b' h1 h2 h3
  by_cases cm : m' = m
  · subst cm
    by_cases c1 : a' = a
    · subst c1
      by_cases c2 : b' = b
      · subst c2
        rw [ea, eb]; exact key
      · by_cases c3 : b' = a'
        · subst c3
          rfl
        · rw [ea, eo (52 + (6 * m' + b')) (by omega) (by omega), bt6o ba hb h3 (fun q => c2 q.symm)]
          exact hs'
    · by_cases c2 : a' = b
      · subst c2
        by_cases c3 : b' = a
        · subst c3
          rw [ea, eb]; exact key.symm
        · by_cases c4 : b' = a'
          · subst c4
            rfl
          · rw [eb, eo (52 + (6 * m' + b')) (by omega) (by omega), bt6o bb ha h3 (fun q => c3 q.symm)]
            exact hs'
      · rw [eo (52 + (6 * m' + a')) (by omega) (by omega)]
        by_cases c3 : b' = a
        · subst c3
          rw [ea, bt6o ba hb h2 (fun q => c2 q.symm)]
          exact hs'
        · by_cases c4 : b' = b
          · subst c4
            rw [eb, bt6o bb ha h2 (fun q => c1 q.symm)]
            exact hs'
          · rw [eo (52 + (6 * m' + b')) (by omega) (by omega)]
            exact hs'
  · rw [eo (52 + (6 * m' + a')) (by omega) (by omega), eo (52 + (6 * m' + b')) (by omega) (by omega)]
    exact hs'
/-- a house whose curtains alone are others -/
theorem hou_cur {W : wx_M} (H : m_Hou g h n K) (hK : K ≤ K') {a b m : Nat} (ha : a < 6) (hb : b < 6) (hm : m < 8) (hab : a ≠ b) (ea : n' (52 + (6 * m + a)) = n (52 + (6 * m + a)) ^^^ bt b) (eb : n' (52 + (6 * m + b)) = n (52 + (6 * m + b)) ^^^ bt a) (eo : ∀ j, j ≠ 52 + (6 * m + a) → j ≠ 52 + (6 * m + b) → n' j = n j) (w0 : ∀ j, j ≠ 7 → W h j = g h j) (wr : ∀ k, h + 1 ≤ k → k ≤ h + 6 → k ≠ h + 2 → W k = g k) (wa : W (h + 2) (6 * m + a) = n' (52 + (6 * m + a))) (wb : W (h + 2) (6 * m + b) = n' (52 + (6 * m + b))) (wo : ∀ j, j ≠ 6 * m + a → j ≠ 6 * m + b → W (h + 2) j = g (h + 2) j) (hc : ∃ c, W h 7 = nI c ∧ m_drw n' = 2 * c) : m_Hou W h n' K' := by
  have B := H.B
  have ba := bt6_ (B.drn (6 * m + a) (by omega)) hb
  have bb := bt6_ (B.drn (6 * m + b) (by omega)) ha
  refine ⟨?_, ?_, ?_, ?_, hc⟩
  · refine H.R.mk2 B.p4 B.v4 (fun j hj => w0 j (by omega)) ?_ (wr _ (by omega) (by omega) (by omega)) (wr _ (by omega) (by omega) (by omega)) (wr _ (by omega) (by omega) (by omega)) (fun j hj => eo j (by omega) (by omega)) (eo 148 (by omega) (by omega)) (fun k hk => ?_) (fun k hk => ?_) (fun k hk => ?_)
    · rw [w0 8 (by decide), eo 51 (by omega) (by omega)]; exact H.R.wr
    · by_cases c : k = 6 * m + a
      · rw [c]; exact wa
      · by_cases c2 : k = 6 * m + b
        · rw [c2]; exact wb
        · rw [wo k c c2, eo (52 + k) (by omega) (by omega)]; exact H.R.drn k hk
    · rw [wr _ (by omega) (by omega) (by omega), eo (100 + k) (by omega) (by omega)]; exact H.R.hld k hk
    · have := B.v4
      rw [wr _ (by omega) (by omega) (by omega), eo (47 + k) (by omega) (by omega)]; exact H.R.pur k hk
  · refine B.mk2 (fun j hj => eo j (by omega) (by omega)) (fun k hk => ?_) ?_ (fun k hk => ?_) (cur_sym B ha hb hm hab ea eb eo) (fun k hk => ?_) (fun k hk hl => ?_)
    · have := B.v4
      rw [eo (47 + k) (by omega) (by omega)]; exact wb_w (B.pur k hk) (by decide) (by omega)
    · rw [eo 51 (by omega) (by omega)]; exact B.wr
    · by_cases c : k = 6 * m + a
      · rw [c, ea]; exact ba.2.2.2
      · by_cases c2 : k = 6 * m + b
        · rw [c2, eb]; exact bb.2.2.2
        · rw [eo (52 + k) (by omega) (by omega)]; exact B.drn k hk
    · rw [eo (100 + k) (by omega) (by omega)]; exact B.hld k hk
    · rw [eo (100 + k) (by omega) (by omega)]; exact B.hlr k hk hl
  · rw [w0 6 (by decide), sold_same (n := n) (n' := n') (fun j h1 h2 => eo j (by omega) (by omega))]; exact H.S.sold
  · rw [sold_same (n := n) (n' := n') (fun j h1 h2 => eo j (by omega) (by omega))]; exact H.S.le
theorem drw_two {a b m : Nat} (ha : a < 6) (hb : b < 6) (hm : m < 8) (hab : a ≠ b) (eo : ∀ j, j ≠ 52 + (6 * m + a) → j ≠ 52 + (6 * m + b) → n' j = n j) : m_drw n' + bN (n (52 + (6 * m + a))) + bN (n (52 + (6 * m + b))) = m_drw n + bN (n' (52 + (6 * m + a))) + bN (n' (52 + (6 * m + b))) := by
  have h1 := drw_one (n := n) (n' := upd n (52 + (6 * m + a)) (n' (52 + (6 * m + a)))) (k0 := 6 * m + a) (by omega) (fun j h1 _ _ => upd_ne h1)
  have h2 := drw_one (n := upd n (52 + (6 * m + a)) (n' (52 + (6 * m + a)))) (n' := n') (k0 := 6 * m + b) (by omega) (fun j h1 _ _ => by
    by_cases c : j = 52 + (6 * m + a)
    · rw [c, upd_eq]
    · rw [upd_ne c, eo j c h1])
  rw [upd_eq] at h1
  rw [upd_ne (show 52 + (6 * m + b) ≠ 52 + (6 * m + a) by omega)] at h2
  omega
theorem hou_draw (H : m_Hou g h n K) (hK : K ≤ K') {a b m : Nat} (ha : a < 6) (hb : b < 6) (hm : m < 8) (hab : a ≠ b) (hc : r_X12_has (n (52 + (6 * m + a))) (nI b) = 0) (ea : n' (52 + (6 * m + a)) = n (52 + (6 * m + a)) ^^^ bt b) (eb : n' (52 + (6 * m + b)) = n (52 + (6 * m + b)) ^^^ bt a) (eo : ∀ j, j ≠ 52 + (6 * m + a) → j ≠ 52 + (6 * m + b) → n' j = n j) : m_Hou (e_X3_drawCurtain g h (nI a) (nI b) (nI m)) h n' K' := by
  have B := H.B
  have ba := bt6_ (B.drn (6 * m + a) (by omega)) hb
  have bb := bt6_ (B.drn (6 * m + b) (by omega)) ha
  have hc2 : r_X12_has (n (52 + (6 * m + b))) (nI a) = 0 := by rw [← B.sym m a b hm ha hb]; exact hc
  rw [draw_eq g h ha hb hm hab]
  refine hou_cur H hK ha hb hm hab ea eb eo (fun j hj => ?_) (fun k h1 h2 h3 => ?_) ?_ ?_ (fun j h1 h2 => ?_) ?_
  · rw [up2_sn hj, up2_n (by omega), up2_n (by omega)]
  · rw [up2_n (by omega), up2_n (by omega), up2_n (by omega)]
  · rw [up2_n (by omega), up2_sn (by omega), up2_ss, H.R.drn _ (by omega), ea]; exact (ba.1 hc).1
  · rw [up2_n (by omega), up2_ss, H.R.drn _ (by omega), eb]; exact (bb.1 hc2).1
  · rw [up2_n (by omega), up2_sn h2, up2_sn h1]
  · obtain ⟨c, h1, h2⟩ := H.S.cur
    refine ⟨c + 1, ?_, ?_⟩
    · rw [up2_ss, h1, nI_1]
    · have h3 := drw_two ha hb hm hab eo
      rw [ea, eb, (ba.1 hc).2.1, (bb.1 hc2).2.1] at h3
      omega
theorem hou_open (H : m_Hou g h n K) (hK : K ≤ K') {a b m : Nat} (ha : a < 6) (hb : b < 6) (hm : m < 8) (hab : a ≠ b) (hc : ¬ r_X12_has (n (52 + (6 * m + a))) (nI b) = 0) (ea : n' (52 + (6 * m + a)) = n (52 + (6 * m + a)) ^^^ bt b) (eb : n' (52 + (6 * m + b)) = n (52 + (6 * m + b)) ^^^ bt a) (eo : ∀ j, j ≠ 52 + (6 * m + a) → j ≠ 52 + (6 * m + b) → n' j = n j) : m_Hou (e_X3_openCurtain g h (nI a) (nI b) (nI m)) h n' K' := by
  have B := H.B
  have ba := bt6_ (B.drn (6 * m + a) (by omega)) hb
  have bb := bt6_ (B.drn (6 * m + b) (by omega)) ha
  have hc2 : ¬ r_X12_has (n (52 + (6 * m + b))) (nI a) = 0 := by rw [← B.sym m a b hm ha hb]; exact hc
  rw [open_eq g h ha hb hm hab]
  refine hou_cur H hK ha hb hm hab ea eb eo (fun j hj => ?_) (fun k h1 h2 h3 => ?_) ?_ ?_ (fun j h1 h2 => ?_) ?_
  · rw [up2_sn hj, up2_n (by omega), up2_n (by omega)]
  · rw [up2_n (by omega), up2_n (by omega), up2_n (by omega)]
  · rw [up2_n (by omega), up2_sn (by omega), up2_ss, H.R.drn _ (by omega), ea]; exact (ba.2.1 hc).1
  · rw [up2_n (by omega), up2_ss, H.R.drn _ (by omega), eb]; exact (bb.2.1 hc2).1
  · rw [up2_n (by omega), up2_sn h2, up2_sn h1]
  · obtain ⟨c, h1, h2⟩ := H.S.cur
    have h3 := drw_two ha hb hm hab eo
    rw [ea, eb] at h3
    have h4 := (ba.2.1 hc).2.1
    have h5 := (bb.2.1 hc2).2.1
    have h6 := m_drw_le n
    refine ⟨c - 1, ?_, by omega⟩
    rw [up2_ss, h1, show (1 : Int32) = nI 1 from rfl, pk_sub (by omega)]
theorem hou_wri (H : m_Hou g h n K) (hK : K ≤ K') (x : Int32) (bx : wx_b x 0 255) (e51 : n' 51 = x) (eo : ∀ j, j ≠ 51 → n' j = n j) : m_Hou (up2 g h 8 x) h n' K' := by
  have B := H.B
  refine ⟨?_, ?_, ?_, ?_, ?_⟩
  · refine H.R.mk2 B.p4 B.v4 (fun j hj => up2_sn (by omega)) ?_ (up2_n (by omega)) (up2_n (by omega)) (up2_n (by omega)) (fun j hj => eo j (by omega)) (eo 148 (by omega)) (fun k hk => ?_) (fun k hk => ?_) (fun k hk => ?_)
    · rw [up2_ss, e51]
    · rw [up2_n (by omega), eo (52 + k) (by omega)]; exact H.R.drn k hk
    · rw [up2_n (by omega), eo (100 + k) (by omega)]; exact H.R.hld k hk
    · have := B.v4
      rw [up2_n (by omega), eo (47 + k) (by omega)]; exact H.R.pur k hk
  · refine B.mk2 (fun j hj => eo j (by omega)) (fun k hk => ?_) (by rw [e51]; exact bx) (fun k hk => ?_) (fun m' a b h1 h2 h3 => ?_) (fun k hk => ?_) (fun k hk hl => ?_)
    · have := B.v4
      rw [eo (47 + k) (by omega)]; exact wb_w (B.pur k hk) (by decide) (by omega)
    · rw [eo (52 + k) (by omega)]; exact B.drn k hk
    · rw [eo (52 + (6 * m' + a)) (by omega), eo (52 + (6 * m' + b)) (by omega)]; exact B.sym m' a b h1 h2 h3
    · rw [eo (100 + k) (by omega)]; exact B.hld k hk
    · rw [eo (100 + k) (by omega)]; exact B.hlr k hk hl
  · rw [up2_sn (by decide), sold_same (n := n) (n' := n') (fun j h1 h2 => eo j (by omega))]; exact H.S.sold
  · rw [sold_same (n := n) (n' := n') (fun j h1 h2 => eo j (by omega))]; exact H.S.le
  · rw [up2_sn (by decide), drw_same (n := n) (n' := n') (fun j h1 h2 => eo j (by omega))]; exact H.S.cur
end M12
/-! what is undone -/
theorem back_seat {s f : Nat → Int32} {v r m : Nat} (hv : v < 4) (hr : r < 6) (hm : m < 8) (h0 : s 0 = 0 ∨ s 0 = 1) (h1 : s 1 = nI v) (h2 : s 2 = nI r) (h3 : s 3 = nI m) : m_back s f = upd (upd f (47 + v) (s 4)) (100 + (6 * m + r)) (f (100 + (6 * m + r)) ^^^ bt v) := by
  unfold m_back
  rw [if_neg (show ¬ 2 ≤ s 0 by rcases h0 with e | e <;> rw [e] <;> decide), h1, h2, h3, ix_a47 (show v < 1000 by omega), ix_s100 (show r < 1000 by omega) (show m < 1000 by omega), upd_ne (show 100 + (6 * m + r) ≠ 47 + v by omega)]
theorem back_cur {s f : Nat → Int32} {a b m : Nat} (ha : a < 6) (hb : b < 6) (hm : m < 8) (hab : a ≠ b) (h0 : s 0 = 2) (h1 : s 1 = nI a) (h2 : s 2 = nI b) (h3 : s 3 = nI m) : m_back s f = upd (upd f (52 + (6 * m + a)) (f (52 + (6 * m + a)) ^^^ bt b)) (52 + (6 * m + b)) (f (52 + (6 * m + b)) ^^^ bt a) := by
  unfold m_back
  rw [h0, if_pos (by decide), if_pos rfl, h1, h2, h3, ix_s52 (show a < 1000 by omega) (show m < 1000 by omega), ix_s52 (show b < 1000 by omega) (show m < 1000 by omega), upd_ne (show 52 + (6 * m + b) ≠ 52 + (6 * m + a) by omega)]
theorem back_wri {s f : Nat → Int32} {m : Nat} (h0 : s 0 = 3) (h3 : s 3 = nI m) : m_back s f = upd f 51 (f 51 &&& (bt m ^^^ (-1))) := by
  unfold m_back
  rw [h0, if_pos (by decide), if_neg (by decide), h3]
