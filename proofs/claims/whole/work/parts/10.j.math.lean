/-! THE MATH 10: the calls that only read answer alike -/
theorem m_le1 {x a : Int32} {b : Int} (h : wx_b x 0 b) : (x ≤ a) ↔ (x - 1 < a) := by
  have h1 := h.1
  have h2 := fb_rng x
  have e1 : (1 : Int32).toInt = 1 := by decide
  have h3 := fb_subI (x := x) (y := 1) (by omega) (by omega)
  rw [Int32.le_iff_toInt_le, Int32.lt_iff_toInt_lt, h3, e1]
  omega
theorem m_in1 {x a : Int32} {b : Int} (h : wx_b x 0 b) : (if a < 0 then (0 : Int32) else if x ≤ a then 0 else 1) = r_X12_in a 0 (x - 1) := by
  unfold r_X12_in
  by_cases c1 : a < 0
  · rw [if_pos c1, if_pos c1]
  · rw [if_neg c1, if_neg c1]
    by_cases c2 : x ≤ a
    · rw [if_pos c2, if_pos ((m_le1 h).mp c2)]
    · rw [if_neg c2, if_neg (fun q => c2 ((m_le1 h).mpr q))]
section M10
variable {g g' : wx_M} {h K : Nat}
theorem e_guest (R : m_HR g h (g' 65)) (B : m_NB (g' 65) K) (a : Int32) : r_X3_isVisitor g h a = r_X12_isGuest g' a := by
  unfold r_X3_isVisitor r_X12_isGuest
  rw [R.gs, ix_4]
  exact m_in1 B.gs
theorem e_room (R : m_HR g h (g' 65)) (B : m_NB (g' 65) K) (a : Int32) : r_X3_isRoom g h a = r_X12_isRoom g' a := by
  unfold r_X3_isRoom r_X12_isRoom
  rw [R.rooms, ix_0]
  exact m_in1 B.rooms
theorem e_man (R : m_HR g h (g' 65)) (B : m_NB (g' 65) K) (a : Int32) : r_X3_isPerson g h a = r_X12_isMan g' a := by
  unfold r_X3_isPerson r_X12_isMan
  rw [R.men, ix_3]
  exact m_in1 B.men
theorem m_pow5_all : ∀ i : Fin 5, 0 ≤ ((1 : Int32) <<< (nI i.val &&& 31)).toInt ∧ ((1 : Int32) <<< (nI i.val &&& 31)).toInt ≤ 16 := by decide +kernel
theorem e_set (R : m_HR g h (g' 65)) (B : m_NB (g' 65) K) (a : Int32) : r_X3_isVisitorSet g h a = r_X12_isSet g' a := by
  unfold r_X3_isVisitorSet r_X12_isSet
  rw [R.gs, ix_4]
  obtain ⟨i, h3, e3⟩ := m_ex (n := 4) B.gs
  rw [e3]
  exact m_in1 (b := 16) (m_pow5_all ⟨i, by omega⟩)
theorem e_min (a : Int32) : r_X11_isMinute a = r_X12_isMinute a := by
  unfold r_X11_isMinute r_X12_isMinute
  have := m_in1 (x := 8) (a := a) (b := 8) ⟨by decide, by decide⟩
  rw [this, show (8 : Int32) - 1 = 7 by decide]
theorem e_row (a : Int32) : r_X11_isRow a = r_X12_isRow a := e_min a
theorem e_mset (a : Int32) : r_X11_isMinuteSet a = r_X12_in a 0 255 := rfl
theorem e_stands (R : m_HR g h (g' 65)) (B : m_NB (g' 65) K) : (r_X3_stands g h = 0) ↔ (g' 65 (0 : Int32).toNatClampNeg = 0) := by
  unfold r_X3_stands
  rw [R.rooms, ix_0]
  have h1 := B.rooms.1
  have e0 : (0 : Int32).toInt = 0 := rfl
  by_cases c : g' 65 0 ≤ 0
  · rw [if_pos c]
    have := Int32.le_iff_toInt_le.mp c
    exact ⟨fun _ => Int32.toInt_inj.mp (by omega), fun _ => rfl⟩
  · rw [if_neg c]
    exact ⟨fun q => absurd q (by decide), fun q => absurd (by rw [q]; decide) c⟩
theorem m_of_in {a x : Int32} {n : Nat} (hx : x = nI n) (hn : n < 1000) (c : ¬ r_X12_in a 0 (x - 1) = 0) : ∃ i, i < n ∧ a = nI i := by
  rw [← m_in1 (b := 1000) (by rw [hx]; exact wb_nI (n := 1000) (by omega) (by decide))] at c
  by_cases c1 : a < 0
  · rw [if_pos c1] at c
    exact absurd rfl c
  · rw [if_neg c1] at c
    by_cases c2 : x ≤ a
    · rw [if_pos c2] at c
      exact absurd rfl c
    · obtain ⟨j, hj, rfl⟩ := nI_of c1
      rw [hx] at c2
      exact ⟨j, by
        have h2 := Int32.lt_iff_toInt_lt.mp (Int32.not_le.mp c2)
        rw [nI_toInt (by omega), nI_toInt (by omega)] at h2
        omega, rfl⟩
theorem o_guest (B : m_NB (g' 65) K) {a : Int32} (c : ¬ r_X12_isGuest g' a = 0) : ∃ i, i < (g' 65 4).toNatClampNeg ∧ a = nI i := by
  unfold r_X12_isGuest at c
  rw [ix_4] at c
  obtain ⟨i, h3, e3⟩ := m_ex (n := 4) B.gs
  have := m_of_in (n := i) e3 (by omega) c
  rw [e3, ix (by omega)]
  exact this
theorem o_room (B : m_NB (g' 65) K) {a : Int32} (c : ¬ r_X12_isRoom g' a = 0) : ∃ i, i < (g' 65 0).toNatClampNeg ∧ a = nI i := by
  unfold r_X12_isRoom at c
  rw [ix_0] at c
  obtain ⟨i, h3, e3⟩ := m_ex (n := 6) B.rooms
  have := m_of_in (n := i) e3 (by omega) c
  rw [e3, ix (by omega)]
  exact this
theorem o_man (B : m_NB (g' 65) K) {a : Int32} (c : ¬ r_X12_isMan g' a = 0) : ∃ i, i < (g' 65 3).toNatClampNeg ∧ a = nI i := by
  unfold r_X12_isMan at c
  rw [ix_3] at c
  obtain ⟨i, h3, e3⟩ := m_ex (n := 4) B.men
  have := m_of_in (n := i) e3 (by omega) c
  rw [e3, ix (by omega)]
  exact this
theorem o_min {a : Int32} (c : ¬ r_X12_isMinute a = 0) : ∃ i, i < 8 ∧ a = nI i := m_of_in (x := 8) (n := 8) rfl (by omega) (by
  unfold r_X12_isMinute at c
  rw [show (8 : Int32) - 1 = 7 by decide]
  exact c)
theorem o_row {a : Int32} (c : ¬ r_X12_isRow a = 0) : ∃ i, i < 8 ∧ a = nI i := o_min c
theorem e_01 (a x y : Int32) : (if a < 0 then x else if a ≤ 1 then y else x) = (if r_X12_in a 0 1 = 0 then x else y) := by
  unfold r_X12_in
  by_cases c1 : a < 0
  · rw [if_pos c1, if_pos c1, if_pos rfl]
  · rw [if_neg c1, if_neg c1]
    by_cases c2 : a ≤ 1
    · rw [if_pos c2, if_neg (Int32.not_lt.mpr c2), if_neg (by decide)]
    · rw [if_neg c2, if_pos (Int32.not_le.mp c2), if_pos rfl]
theorem s_visitor (H : m_Rel K g) (a b : Int32) : r_X11_visitor g a b = r_X12_visitor g a b := by
  unfold r_X11_visitor r_X12_visitor
  rw [e_guest H.hou.R H.hou.B]
  by_cases c : r_X12_isGuest g a = 0
  · rw [if_pos c, if_pos c]
  · rw [if_neg c, if_neg c]
    obtain ⟨v, hv, rfl⟩ := o_guest H.hou.B c
    have hv4 := H.hou.B.v4
    rw [ix (show v < 1000 by omega), H.hou.R.pur v hv, ix_a47 (show v < 1000 by omega), q_seatsOf H.hou.R, q_ever H.hou.R H.hou.B (nI v) b]
theorem s_seat (H : m_Rel K g) (a b x : Int32) : r_X11_seat g a b x = r_X12_seat g a b x := by
  unfold r_X11_seat r_X12_seat
  rw [e_room H.hou.R H.hou.B, e_min]
  by_cases c : r_X12_isRoom g a = 0
  · rw [if_pos c, if_pos c]
  · rw [if_neg c, if_neg c]
    by_cases c2 : r_X12_isMinute b = 0
    · rw [if_pos c2, if_pos c2]
    · rw [if_neg c2, if_neg c2]
      obtain ⟨r, hr, rfl⟩ := o_room H.hou.B c
      obtain ⟨m, hm, rfl⟩ := o_min c2
      have hr6 := H.hou.B.r6
      have e := q_hold H.hou.R (show r < 6 by omega) hm
      rw [show (23 : Nat) = 20 + 3 from rfl, e, q_view H.hou.R (show r < 6 by omega) hm, q_peopleIn H.hou.R H.hou.B (nI r) hm x]
theorem s_price (H : m_Rel K g) (a b x : Int32) : r_X11_price g a b x = r_X12_price g a b x := by
  unfold r_X11_price r_X12_price r_X12_isSeat
  rw [e_guest H.hou.R H.hou.B, e_room H.hou.R H.hou.B, e_min]
  by_cases c1 : r_X12_isGuest g a = 0
  · rw [if_pos c1, if_pos c1, if_pos rfl]
  · rw [if_neg c1, if_neg c1]
    by_cases c2 : r_X12_isRoom g b = 0
    · rw [if_pos c2, if_pos c2, if_pos rfl]
    · rw [if_neg c2, if_neg c2]
      by_cases c3 : r_X12_isMinute x = 0
      · rw [if_pos c3, if_pos c3, if_pos rfl]
      · rw [if_neg c3, if_neg c3, if_neg (by decide)]
        obtain ⟨v, hv, rfl⟩ := o_guest H.hou.B c1
        obtain ⟨r, hr, rfl⟩ := o_room H.hou.B c2
        obtain ⟨m, hm, rfl⟩ := o_min c3
        have hr6 := H.hou.B.r6
        exact q_price H.hou.R H.hou.B hv (by omega) hm
theorem m_ififf {p q : Prop} [Decidable p] [Decidable q] (h : p ↔ q) {α : Type} (x y : α) : (if p then x else y) = (if q then x else y) := by
  by_cases c : p
  · rw [if_pos c, if_pos (h.mp c)]
  · rw [if_neg c, if_neg (fun z => c (h.mpr z))]
theorem s_looked (H : m_Rel K g) (a b : Int32) : r_X11_looked g a b = r_X12_looked g a b := by
  unfold r_X11_looked r_X12_looked
  rw [m_ififf (e_stands H.hou.R H.hou.B), e_set H.hou.R H.hou.B, e_min]
  by_cases c2 : r_X12_isMinute b = 0
  · rw [if_pos c2, if_pos c2]
  · rw [if_neg c2, if_neg c2]
    obtain ⟨m, hm, rfl⟩ := o_min c2
    rw [q_lookedBy H.hou.R H.hou.B a hm]
theorem s_seen (H : m_Rel K g) (a b x : Int32) : r_X11_seen g a b x = r_X12_seen g a b x := by
  unfold r_X11_seen r_X12_seen
  rw [e_set H.hou.R H.hou.B, e_man H.hou.R H.hou.B, e_min]
  by_cases c1 : r_X12_isMan g b = 0
  · rw [if_pos c1, if_pos c1]
  · rw [if_neg c1, if_neg c1]
    by_cases c2 : r_X12_isMinute x = 0
    · rw [if_pos c2, if_pos c2]
    · rw [if_neg c2, if_neg c2]
      obtain ⟨p, hp, rfl⟩ := o_man H.hou.B c1
      obtain ⟨m, hm, rfl⟩ := o_min c2
      rw [q_seenBy H.hou.R H.hou.B a hp hm]
theorem s_known (H : m_Rel K g) (a b : Int32) : r_X11_known g a b = r_X12_known g a b := by
  unfold r_X11_known r_X12_known
  rw [e_set H.hou.R H.hou.B, e_man H.hou.R H.hou.B]
  by_cases c1 : r_X12_isMan g b = 0
  · rw [if_pos c1, if_pos c1]
  · rw [if_neg c1, if_neg c1]
    obtain ⟨p, hp, rfl⟩ := o_man H.hou.B c1
    rw [q_known H.hou.R H.hou.B a hp]
theorem s_canBe (H : m_Rel K g) (a b x y : Int32) : r_X11_canBe g a b x y = r_X12_canBe g a b x y := by
  unfold r_X11_canBe r_X12_canBe
  rw [e_set H.hou.R H.hou.B, e_man H.hou.R H.hou.B, e_room H.hou.R H.hou.B, e_min]
  by_cases c1 : r_X12_isMan g b = 0
  · rw [if_pos c1, if_pos c1]
  · rw [if_neg c1, if_neg c1]
    by_cases c2 : r_X12_isMinute y = 0
    · rw [if_pos c2, if_pos c2]
    · rw [if_neg c2, if_neg c2]
      obtain ⟨p, hp, rfl⟩ := o_man H.hou.B c1
      obtain ⟨m, hm, rfl⟩ := o_min c2
      rw [q_canBe H.hou.R H.hou.B a x hp hm]
theorem s_suspects (H : m_Rel K g) (a b x : Int32) : r_X11_suspects g a b x = r_X12_suspects g a b x := by
  unfold r_X11_suspects r_X12_suspects
  rw [m_ififf (e_stands H.hou.R H.hou.B), e_set H.hou.R H.hou.B, e_room H.hou.R H.hou.B, e_mset, q_suspects H.hou.R H.hou.B]
theorem m_two (H : m_Rel K g) (c : ¬ g 65 (0 : Int32).toNatClampNeg = 0) : 2 ≤ (g 65 0).toNatClampNeg := by
  rw [ix_0] at c
  have h2 := H.hou.B.two
  obtain ⟨i, h3, e3⟩ := m_ex (n := 6) H.hou.B.rooms
  rw [e3, ix (by omega)] at h2
  rw [e3] at c
  rw [e3, ix (by omega)]
  rcases Nat.lt_or_ge i 2 with q | q
  · rcases (show i = 0 ∨ i = 1 by omega) with e | e
    · exact absurd (by rw [e]; exact nI_0) c
    · exact absurd e h2
  · exact q
theorem m_two2 (H : m_Rel K g) {v : Nat} (hv : v < (g 65 4).toNatClampNeg) : 2 ≤ (g 65 0).toNatClampNeg := by
  refine m_two H (fun q => ?_)
  rw [ix_0] at q
  have := (H.hou.B.nil (by rw [q]; exact ix_0)).2
  omega
theorem s_settled (H : m_Rel K g) (a : Int32) : r_X11_settled g a = r_X12_settled g a := by
  unfold r_X11_settled r_X12_settled
  rw [m_ififf (e_stands H.hou.R H.hou.B), e_min]
  by_cases c0 : g 65 (0 : Int32).toNatClampNeg = 0
  · rw [if_pos c0, if_pos c0]
  · rw [if_neg c0, if_neg c0]
    by_cases c2 : r_X12_isMinute a = 0
    · rw [if_pos c2, if_pos c2]
    · rw [if_neg c2, if_neg c2]
      obtain ⟨m, hm, rfl⟩ := o_min c2
      exact q_settled H.hou.R H.hou.B (m_two H c0) hm
theorem s_cheapest (H : m_Rel K g) (a b x : Int32) : r_X11_cheapest g a b x = r_X12_cheapest g a b x := by
  simp only [r_X11_cheapest, r_X12_cheapest]
  rw [e_guest H.hou.R H.hou.B, e_min, e_01]
  by_cases c1 : r_X12_isGuest g a = 0
  · rw [if_pos c1, if_pos c1]
  · rw [if_neg c1, if_neg c1]
    by_cases c2 : r_X12_isMinute b = 0
    · rw [if_pos c2, if_pos c2]
    · rw [if_neg c2, if_neg c2]
      by_cases c3 : r_X12_in x 0 1 = 0
      · rw [if_pos c3, if_pos c3]
      · rw [if_neg c3, if_neg c3]
        obtain ⟨v, hv, rfl⟩ := o_guest H.hou.B c1
        obtain ⟨m, hm, rfl⟩ := o_min c2
        obtain ⟨s, e1, e2, e3⟩ := q_cheapest H.hou.R H.hou.B (m_two2 H hv) hv hm x
        rw [e1, e2]
        rcases e3 with ⟨q1, q2⟩ | ⟨q1, q2⟩
        · rw [if_pos q1, q2, q1]
          split <;> rfl
        · rw [if_neg q1, q2]
theorem s_followed (H : m_Rel K g) (hK : K ≤ 9000) (a b x : Int32) : r_X11_followed g a b x = r_X12_followed g a b x := by
  simp only [r_X11_followed, r_X12_followed]
  rw [e_guest H.hou.R H.hou.B, e_man H.hou.R H.hou.B, e_01]
  by_cases c1 : r_X12_isGuest g a = 0
  · rw [if_pos c1, if_pos c1]
  · rw [if_neg c1, if_neg c1]
    by_cases c2 : r_X12_isMan g b = 0
    · rw [if_pos c2, if_pos c2]
    · rw [if_neg c2, if_neg c2]
      obtain ⟨v, hv, rfl⟩ := o_guest H.hou.B c1
      obtain ⟨p, hp, rfl⟩ := o_man H.hou.B c2
      rw [q_followed H.hou.R H.hou.B hK hv hp x]
      rfl
theorem s_crowd (H : m_Rel K g) (a b : Int32) : r_X11_crowd g a b = r_X12_crowd g a b := by
  simp only [r_X11_crowd, r_X12_crowd, r_X3_crowdOf]
  rw [e_guest H.hou.R H.hou.B, e_min]
  by_cases c1 : r_X12_isGuest g a = 0
  · rw [if_pos c1, if_pos c1]
  · rw [if_neg c1, if_neg c1]
    by_cases c2 : r_X12_isMinute b = 0
    · rw [if_pos c2, if_pos c2]
    · rw [if_neg c2, if_neg c2]
      obtain ⟨m, hm, rfl⟩ := o_min c2
      rw [q_crowd H.hou.R H.hou.B a hm]
theorem s_told (H : m_Rel K g) (a b x : Int32) : r_X11_told g a b x = r_X12_told g a b x := by
  unfold r_X11_told r_X12_told
  rw [e_guest H.hou.R H.hou.B, e_man H.hou.R H.hou.B, e_min]
  by_cases c1 : r_X12_isGuest g a = 0
  · rw [if_pos c1, if_pos c1]
  · rw [if_neg c1, if_neg c1]
    by_cases c2 : r_X12_isMan g b = 0
    · rw [if_pos c2, if_pos c2]
    · rw [if_neg c2, if_neg c2]
      by_cases c3 : r_X12_isMinute x = 0
      · rw [if_pos c3, if_pos c3]
      · rw [if_neg c3, if_neg c3]
        obtain ⟨v, hv, rfl⟩ := o_guest H.hou.B c1
        obtain ⟨p, hp, rfl⟩ := o_man H.hou.B c2
        obtain ⟨m, hm, rfl⟩ := o_min c3
        exact q_toldBy H.hou.R H.hou.B hv hp hm
theorem s_believed (H : m_Rel K g) (a b : Int32) : r_X11_believed g a b = r_X12_believed g a b := by
  unfold r_X11_believed r_X12_believed
  rw [e_man H.hou.R H.hou.B, e_min]
  by_cases c2 : r_X12_isMan g a = 0
  · rw [if_pos c2, if_pos c2]
  · rw [if_neg c2, if_neg c2]
    by_cases c3 : r_X12_isMinute b = 0
    · rw [if_pos c3, if_pos c3]
    · rw [if_neg c3, if_neg c3]
      obtain ⟨p, hp, rfl⟩ := o_man H.hou.B c2
      obtain ⟨m, hm, rfl⟩ := o_min c3
      exact q_believed H.hou.R H.hou.B hp hm
theorem s_met (H : m_Rel K g) (a b : Int32) : r_X11_met g a b = r_X12_met g a b := by
  unfold r_X11_met r_X12_met
  rw [e_man H.hou.R H.hou.B, e_man H.hou.R H.hou.B]
  by_cases c2 : r_X12_isMan g a = 0
  · rw [if_pos c2, if_pos c2]
  · rw [if_neg c2, if_neg c2]
    by_cases c3 : r_X12_isMan g b = 0
    · rw [if_pos c3, if_pos c3]
    · rw [if_neg c3, if_neg c3]
      obtain ⟨p, hp, rfl⟩ := o_man H.hou.B c2
      obtain ⟨q, hq, rfl⟩ := o_man H.hou.B c3
      rw [q_met H.hou.R H.hou.B hp hq]
theorem s_soldOut (H : m_Rel K g) (a : Int32) : r_X11_soldOut g a = r_X12_soldOut g a := by
  unfold r_X11_soldOut r_X12_soldOut
  rw [m_ififf (e_stands H.hou.R H.hou.B), q_soldOut H.hou.R H.hou.B]
  rfl
theorem s_haunted (H : m_Rel K g) : r_X11_haunted g = r_X12_haunted g := by
  unfold r_X11_haunted r_X12_haunted
  rw [m_ififf (e_stands H.hou.R H.hou.B), q_haunted H.hou.R H.hou.B]
theorem s_kind (H : m_Rel K g) (a : Int32) : r_X11_kind g a = r_X12_kind g a := by
  unfold r_X11_kind r_X12_kind r_X7_kindNumber r_X4_kindNumber r_X1_kindNumber r_X10_kindNumber r_X2_kindNumber
  rw [e_guest H.hou.R H.hou.B]
  by_cases c1 : r_X12_isGuest g a = 0
  · rw [if_pos c1, if_pos c1]
  · rw [if_neg c1, if_neg c1]
    obtain ⟨v, hv, rfl⟩ := o_guest H.hou.B c1
    have hv4 := H.hou.B.v4
    have e := H.hou.R.srt v hv
    rw [ix (show v < 1000 by omega), show (26 : Nat) = 20 + 6 from rfl, e, ix_a43 (show v < 1000 by omega)]
    obtain ⟨h1, h2⟩ := H.hou.B.srt v hv
    generalize g 65 (43 + v) = x at h1 h2
    obtain ⟨i, hi, rfl⟩ : ∃ i, i ≤ 5 ∧ x = nI i := m_ex (n := 5) ⟨by omega, h2⟩
    have key : ∀ i : Fin 6, 1 ≤ (nI i.val).toInt → (if nI i.val = 1 then (1 : Int32) else if nI i.val = 2 then 2 else if nI i.val = 3 then 3 else if nI i.val = 4 then 4 else 5) = nI i.val := by decide +kernel
    exact key ⟨i, by omega⟩ h1
theorem s_trace (H : m_Rel K g) (a : Int32) : r_X11_trace g a = r_X12_trace g a := by
  unfold r_X11_trace r_X12_trace
  obtain ⟨h1, h2, h3⟩ := H.trc
  rw [h1]
  obtain ⟨n, hn, e⟩ := m_ex (n := 16) h2
  have hi := m_in1 (a := a) h2
  by_cases c : r_X12_in a 0 (g 57 25 - 1) = 0
  · rw [if_pos c]
    rw [← hi] at c
    by_cases c1 : a < 0
    · rw [if_pos c1]
    · rw [if_neg c1] at c ⊢
      by_cases c2 : g 57 25 ≤ a
      · rw [if_pos c2]
      · rw [if_neg c2] at c
        exact absurd c (by decide)
  · rw [if_neg c]
    obtain ⟨i, hi2, rfl⟩ := m_of_in e (by omega) c
    rw [e] at h3 ⊢
    rw [ix (by omega)] at h3
    rw [if_neg (nI_pos (by omega)), if_neg (fun q => by
      have := (nI_leI (by omega) (by omega)).mp q
      omega), ix (by omega)]
    exact h3 i hi2
theorem s_count (H : m_Rel K g) (a : Int32) : r_X11_count g a = r_X12_count g a := by
  unfold r_X11_count r_X12_count
  have e0 : r_X11_standingRows g = rep 8 (b_X12_count_54 g a) (0 : Int32) := by
    simp only [r_X11_standingRows]
    refine rep_congr rfl (fun t s ht => ?_)
    simp only [b_X11_standingRows_4, b_X12_count_54, m_add0]
    rw [ix (show t < 1000 by omega)]
    unfold r_X12_isNull
    rw [ix (show t < 1000 by omega)]
    rcases (H.rows t ht).1 with ⟨q1, q2, q3⟩ | ⟨q1, q2⟩
    · have : (0 : Int32) ≤ g 58 t := by
        rw [q2]
        exact Int32.le_iff_toInt_le.mpr q3.1
      rw [if_pos q1, if_pos this, if_pos rfl]
    · rw [q2, q1]
      simp
  rw [e0, H.hou.R.rooms, H.hou.R.wal, H.hou.R.men, H.hou.R.gs, H.hou.S.sold, m_soldOf, H.tape.1, ix_0, ix_3, ix_4, ix_148]
  obtain ⟨c, c1, c2⟩ := H.hou.S.cur
  rw [c1, m_drwOf c2]
  obtain ⟨⟨S, nx, n, h1, h2⟩, -⟩ := H.act
  rw [h1.ek, h1.ea]
end M10
