/-! THE MATH 8: bits of seats; the next seat -/
theorem upd_eq (f : Nat → Int32) (k : Nat) (v : Int32) : upd f k v k = v := by simp [upd]
theorem upd_ne {f : Nat → Int32} {k j : Nat} {v : Int32} (h : j ≠ k) : upd f k v j = f j := by simp [upd, h]
theorem up2_at (g : wx_M) (k j : Nat) (v : Int32) : up2 g k j v k = upd (g k) j v := up2_s g k j v
abbrev bt (v : Nat) : Int32 := 1 <<< (nI v &&& 31)
theorem bt_all : ∀ (x : Fin 16) (v : Fin 4),
    (r_X12_has (nI x.val) (nI v.val) = 0 → nI x.val ||| bt v.val = nI x.val ^^^ bt v.val ∧ (nI x.val ||| bt v.val) &&& (bt v.val ^^^ (-1)) = nI x.val ∧ bN (nI x.val ||| bt v.val) = bN (nI x.val) + 1 ∧ ¬ r_X12_has (nI x.val ||| bt v.val) (nI v.val) = 0) ∧
    (¬ r_X12_has (nI x.val) (nI v.val) = 0 → nI x.val &&& (bt v.val ^^^ (-1)) = nI x.val ^^^ bt v.val ∧ bN (nI x.val &&& (bt v.val ^^^ (-1))) + 1 = bN (nI x.val) ∧ (nI x.val &&& (bt v.val ^^^ (-1))) ||| bt v.val = nI x.val ∧ r_X12_has (nI x.val &&& (bt v.val ^^^ (-1))) (nI v.val) = 0) ∧
    (nI x.val ^^^ bt v.val) ^^^ bt v.val = nI x.val ∧ 0 ≤ (nI x.val ||| bt v.val).toInt ∧ (nI x.val ||| bt v.val).toInt ≤ 15 ∧ 0 ≤ (nI x.val ^^^ bt v.val).toInt ∧ (nI x.val ^^^ bt v.val).toInt ≤ 15 ∧ 0 ≤ (nI x.val &&& (bt v.val ^^^ (-1))).toInt ∧ (nI x.val &&& (bt v.val ^^^ (-1))).toInt ≤ 15 := by decide +kernel
theorem bt_ {x : Int32} (h : wx_b x 0 15) {v : Nat} (hv : v < 4) :
    (r_X12_has x (nI v) = 0 → x ||| bt v = x ^^^ bt v ∧ (x ||| bt v) &&& (bt v ^^^ (-1)) = x ∧ bN (x ||| bt v) = bN x + 1 ∧ ¬ r_X12_has (x ||| bt v) (nI v) = 0) ∧
    (¬ r_X12_has x (nI v) = 0 → x &&& (bt v ^^^ (-1)) = x ^^^ bt v ∧ bN (x &&& (bt v ^^^ (-1))) + 1 = bN x ∧ (x &&& (bt v ^^^ (-1))) ||| bt v = x ∧ r_X12_has (x &&& (bt v ^^^ (-1))) (nI v) = 0) ∧
    (x ^^^ bt v) ^^^ bt v = x ∧ wx_b (x ||| bt v) 0 15 ∧ wx_b (x ^^^ bt v) 0 15 ∧ wx_b (x &&& (bt v ^^^ (-1))) 0 15 := by
  obtain ⟨i, h1, rfl⟩ := m_ex (n := 15) h
  obtain ⟨a, b, c, d1, d2, e1, e2, f1, f2⟩ := bt_all ⟨i, by omega⟩ ⟨v, hv⟩
  exact ⟨a, b, c, ⟨d1, d2⟩, ⟨e1, e2⟩, ⟨f1, f2⟩⟩
theorem m_bn4_all : ∀ i : Fin 16, bN (nI i.val) ≤ 4 := by decide +kernel
theorem m_NB.updH {n : Nat → Int32} {K k : Nat} {v : Int32} (B : m_NB n K) (hk : k < 48) (hv : wx_b v 0 15) (hr : k % 6 < (n 0).toNatClampNeg) : m_NB (upd n (100 + k) v) K := by
  have e : ∀ j, j ≠ 100 + k → upd n (100 + k) v j = n j := fun j hj => upd_ne hj
  have hp4 := B.p4
  have hv4 := B.v4
  refine ⟨?_, ?_, ?_, ?_, ?_, ?_, ?_, ?_, ?_, ?_, ?_, ?_, ?_, ?_, ?_, ?_, ?_⟩
  · rw [e 0 (by omega)]; exact B.rooms
  · rw [e 0 (by omega)]; exact B.two
  · rw [e 1 (by omega)]; exact B.seats
  · rw [e 2 (by omega)]; exact B.fee
  · rw [e 3 (by omega)]; exact B.men
  · rw [e 4 (by omega)]; exact B.gs
  · rw [e 0 (by omega), e 3 (by omega), e 4 (by omega)]; exact B.nil
  · rw [e 51 (by omega)]; exact B.wr
  · intro a ha; rw [e (5 + a) (by omega)]; exact B.win a ha
  · intro a ha; rw [e (5 + a) (by omega)]; exact B.irr a ha
  · intro a ha; rw [e (52 + a) (by omega)]; exact B.drn a ha
  · intro m a b hm ha hb; rw [e (52 + (6 * m + a)) (by omega), e (52 + (6 * m + b)) (by omega)]; exact B.sym m a b hm ha hb
  · intro a ha
    by_cases c : a = k
    · rw [c, upd_eq]; exact hv
    · rw [e (100 + a) (by omega)]; exact B.hld a ha
  · intro a ha; rw [e 0 (by omega)]
    intro h1
    rw [e (100 + a) (fun q => by have : a = k := by omega
                                 subst this; omega)]
    exact B.hlr a ha h1
  · intro a; rw [e 3 (by omega), e 0 (by omega)]
    intro ha; rw [e (11 + a) (by omega)]; exact B.was a ha
  · intro a; rw [e 4 (by omega)]
    intro ha; rw [e (47 + a) (by omega)]; exact B.pur a ha
  · intro a; rw [e 4 (by omega)]
    intro ha; rw [e (43 + a) (by omega)]; exact B.srt a ha
section M8
variable {g g' : wx_M} {h K : Nat}
theorem up2_self (g : wx_M) (k j : Nat) : up2 g k j (g k j) = g := by
  funext a b
  by_cases c : a = k
  · rw [c, up2_s]
    by_cases d : b = j
    · rw [d, upd_eq]
    · rw [upd_ne d]
  · rw [up2_n c]
/-- a seat taken and left is as before -/
theorem m_takeLeave (v r m : Nat) (hr : r < 6) (hm : m < 8) (hv : v < 4) (hx : wx_b (g (h + 3) (6 * m + r)) 0 15) (hc : r_X12_has (g (h + 3) (6 * m + r)) (nI v) = 0) : e_X3_leaveSeat (e_X3_takeSeat g h (nI v) (nI r) (nI m) 0) h (nI v) (nI r) (nI m) 0 = g := by
  have hb := ((bt_ hx hv).1 hc).2.1
  simp only [e_X3_leaveSeat, e_X3_takeSeat, ix_s (show r < 1000 by omega) (show m < 1000 by omega), ix (show v < 1000 by omega), m_sub0, m_add0]
  funext a b
  by_cases c1 : a = h + 5
  · subst c1
    by_cases c2 : b = v <;> simp [up2, upd, c2]
  · by_cases c2 : a = h
    · subst c2
      by_cases c3 : b = 6 <;> simp [up2, upd, c3]
    · by_cases c3 : a = h + 3
      · subst c3
        by_cases c4 : b = 6 * m + r
        · subst c4
          rw [up2_n (by omega), up2_n (by omega), up2_ss, up2_n (by omega), up2_n (by omega), up2_ss]
          exact hb
        · simp [up2, upd, c4]
      · rw [up2_n c1, up2_n c2, up2_n c3, up2_n c1, up2_n c2, up2_n c3]
theorem m_HR.take (R : m_HR g h (g' 65)) (B : m_NB (g' 65) K) {v r m : Nat} (hv : v < (g' 65 4).toNatClampNeg) (hr : r < 6) (hm : m < 8) (hc : r_X12_has (g' 65 (100 + (6 * m + r))) (nI v) = 0) (x : Int32) (n' : Nat → Int32) (e47 : n' (47 + v) = g' 65 (47 + v) - x) (e100 : n' (100 + (6 * m + r)) = g' 65 (100 + (6 * m + r)) ||| bt v) (eo : ∀ j, j ≠ 47 + v → j ≠ 100 + (6 * m + r) → n' j = g' 65 j) : m_HR (e_X3_takeSeat g h (nI v) (nI r) (nI m) x) h n' := by
  have hv4 := B.v4
  have hp4 := B.p4
  simp only [e_X3_takeSeat, ix_s (show r < 1000 by omega) (show m < 1000 by omega), ix (show v < 1000 by omega)]
  refine ⟨?_, ?_, ?_, ?_, ?_, ?_, ?_, ?_, ?_, ?_, ?_, ?_, ?_⟩
  · rw [up2_n (by omega), up2_sn (by decide), up2_n (by omega), eo 0 (by omega) (by omega)]; exact R.rooms
  · rw [up2_n (by omega), up2_sn (by decide), up2_n (by omega), eo 1 (by omega) (by omega)]; exact R.seats
  · rw [up2_n (by omega), up2_sn (by decide), up2_n (by omega), eo 2 (by omega) (by omega)]; exact R.fee
  · rw [up2_n (by omega), up2_sn (by decide), up2_n (by omega), eo 3 (by omega) (by omega)]; exact R.men
  · rw [up2_n (by omega), up2_sn (by decide), up2_n (by omega), eo 4 (by omega) (by omega)]; exact R.gs
  · rw [up2_n (by omega), up2_sn (by decide), up2_n (by omega), eo 51 (by omega) (by omega)]; exact R.wr
  · intro a ha; rw [up2_n (by omega), up2_n (by omega), up2_n (by omega), eo (5 + a) (by omega) (by omega)]; exact R.win a ha
  · intro a ha; rw [up2_n (by omega), up2_n (by omega), up2_n (by omega), eo (52 + a) (by omega) (by omega)]; exact R.drn a ha
  · intro a ha
    rw [up2_n (by omega), up2_n (by omega)]
    by_cases c : a = 6 * m + r
    · rw [c, up2_ss, e100, R.hld _ (by omega)]
    · rw [up2_sn c, eo (100 + a) (by omega) (by omega)]; exact R.hld a ha
  · intro a; rw [eo 3 (by omega) (by omega)]
    intro ha; rw [up2_n (by omega), up2_n (by omega), up2_n (by omega), eo (11 + a) (by omega) (by omega)]; exact R.was a ha
  · intro a; rw [eo 4 (by omega) (by omega)]
    intro ha
    by_cases c : a = v
    · rw [c, up2_ss, up2_n (by omega), up2_n (by omega), e47, R.pur v hv]
    · rw [up2_sn c, up2_n (by omega), up2_n (by omega), eo (47 + a) (by omega) (by omega)]; exact R.pur a ha
  · intro a; rw [eo 4 (by omega) (by omega)]
    intro ha; rw [up2_n (by omega), up2_n (by omega), up2_n (by omega), eo (43 + a) (by omega) (by omega)]; exact R.srt a ha
  · rw [up2_n (by omega), up2_sn (by decide), up2_n (by omega), eo 148 (by omega) (by omega)]; exact R.wal
theorem q_suspb (B : m_NB (g' 65) K) (s x y : Int32) : wx_b (r_X12_suspectsOf g' s x y) 0 15 := by
  have hp4 := B.p4
  simp only [r_X12_suspectsOf]
  refine rep_inv (fun _ z => wx_b z 0 15) _ ⟨by decide, by decide⟩ (fun t z ht hz => ?_)
  rw [ix_3] at ht
  simp only [b_X12_suspectsOf_6]
  refine rep_inv (fun _ z => wx_b z 0 15) _ hz (fun u w hu hw => ?_)
  simp only [b_X12_suspectsOf_20, m_or0]
  (repeat' split) <;> first | exact hw | exact (bt_ hw (show t < 4 by omega)).2.2.2.1
/-- one seat looked at -/
def m_ns (g' : wx_M) (v : Nat) (x y : Int32) (k : Nat) (s : Int32 × Int32) : Int32 × Int32 :=
  if k % 6 < (g' 65 0).toNatClampNeg ∧ r_X12_has (g' 65 (100 + k)) (nI v) = 0 ∧ ¬ r_X12_isLeft g' (nI (k % 6)) (nI (k / 6)) = 0 ∧ ¬ g' 65 (47 + v) < r_X12_priceOf g' (nI v) (nI (k % 6)) (nI (k / 6)) then
    (if s.2 ≤ r_X12_bits g' (r_X12_suspectsOf (up2 g' 65 (100 + k) (g' 65 (100 + k) ^^^ bt v)) (bt v) x y) then s else (nI k, r_X12_bits g' (r_X12_suspectsOf (up2 g' 65 (100 + k) (g' 65 (100 + k) ^^^ bt v)) (bt v) x y)))
  else s
abbrev m_nsX (g' : wx_M) (v : Nat) (x y : Int32) (k : Nat) : Int32 := r_X12_bits g' (r_X12_suspectsOf (up2 g' 65 (100 + k) (g' 65 (100 + k) ^^^ bt v)) (bt v) x y)
theorem m_ns1 {v k : Nat} {x y : Int32} {s : Int32 × Int32} (h : k % 6 < (g' 65 0).toNatClampNeg ∧ r_X12_has (g' 65 (100 + k)) (nI v) = 0 ∧ ¬ r_X12_isLeft g' (nI (k % 6)) (nI (k / 6)) = 0 ∧ ¬ g' 65 (47 + v) < r_X12_priceOf g' (nI v) (nI (k % 6)) (nI (k / 6))) : m_ns g' v x y k s = (if s.2 ≤ m_nsX g' v x y k then s else (nI k, m_nsX g' v x y k)) := by
  unfold m_ns
  exact if_pos h
theorem m_ns0 {v k : Nat} {x y : Int32} {s : Int32 × Int32} (h : ¬ (k % 6 < (g' 65 0).toNatClampNeg ∧ r_X12_has (g' 65 (100 + k)) (nI v) = 0 ∧ ¬ r_X12_isLeft g' (nI (k % 6)) (nI (k / 6)) = 0 ∧ ¬ g' 65 (47 + v) < r_X12_priceOf g' (nI v) (nI (k % 6)) (nI (k / 6)))) : m_ns g' v x y k s = s := by
  unfold m_ns
  exact if_neg h
theorem m_ite3 {g : wx_M} {s : Int32 × Int32} {X k : Int32} : (if s.2 ≤ X then (g, s.1, s.2) else (g, k, X)) = (g, (if s.2 ≤ X then s else (k, X)).1, (if s.2 ≤ X then s else (k, X)).2) := by
  split <;> rfl
theorem q_nsClass (R : m_HR g h (g' 65)) (B : m_NB (g' 65) K) (hS : g h 6 = r_X12_soldOfAll g') (hs : ¬ 24 ≤ r_X12_soldOfAll g') {v : Nat} (hv : v < (g' 65 4).toNatClampNeg) (x y : Int32) {r m : Nat} (hr : r < (g' 65 0).toNatClampNeg) (hm : m < 8) (s0 : wx_M × Int32 × Int32) (s : Int32 × Int32) : b_X3_nextSeatFor_20 g h (nI v) x y m s0 r (g, s.1, s.2) = (g, (m_ns g' v x y (6 * m + r) s).1, (m_ns g' v x y (6 * m + r) s).2) := by
  have hr6 := B.r6
  have hv4 := B.v4
  have e1 : (6 * m + r) % 6 = r := by omega
  have e2 : (6 * m + r) / 6 = m := by omega
  have hca : r_X3_canBuy g h (nI v) (nI r) (nI m) = (if r_X12_isLeft g' (nI r) (nI m) = 0 then 0 else if g' 65 (47 + v) < r_X12_priceOf g' (nI v) (nI r) (nI m) then 0 else 1) := by
    simp only [r_X3_canBuy]
    rw [q_isLeft R B (show r < 6 by omega) hm, hS, if_neg hs, ix (show v < 1000 by omega), R.pur v hv, q_price R B hv (show r < 6 by omega) hm]
  simp only [b_X3_nextSeatFor_20]
  rw [q_holds R (show r < 6 by omega) hm, q_at (show r < 6 by omega) hm, hca]
  by_cases c1 : r_X12_has (g' 65 (100 + (6 * m + r))) (nI v) = 0
  · rw [if_pos c1]
    by_cases c2 : r_X12_isLeft g' (nI r) (nI m) = 0
    · rw [if_pos c2, if_pos rfl, m_ns0 (by rw [e1, e2]; exact fun q => q.2.2.1 c2)]
    · rw [if_neg c2]
      by_cases c3 : g' 65 (47 + v) < r_X12_priceOf g' (nI v) (nI r) (nI m)
      · rw [if_pos c3, if_pos rfl, m_ns0 (by rw [e1, e2]; exact fun q => q.2.2.2 c3)]
      · rw [if_neg c3, if_neg (show ¬ (1 : Int32) = 0 by decide), m_ns1 (by rw [e1, e2]; exact ⟨hr, c1, c2, c3⟩)]
        have hx := R.hld (6 * m + r) (by omega)
        have hxb := B.hld (6 * m + r) (by omega)
        rw [m_takeLeave v r m (by omega) hm (by omega) (by rw [hx]; exact hxb) (by rw [hx]; exact c1)]
        have hbt := (bt_ hxb (show v < 4 by omega))
        have hR2 : m_HR (e_X3_takeSeat g h (nI v) (nI r) (nI m) 0) h ((up2 g' 65 (100 + (6 * m + r)) (g' 65 (100 + (6 * m + r)) ^^^ bt v)) 65) :=
          R.take B hv (by omega) hm c1 0 _ (by rw [up2_sn (by omega), m_sub0]) (by rw [up2_ss]; exact (hbt.1 c1).1.symm) (fun j h1 h2 => by rw [up2_sn h2])
        have hB2 : m_NB ((up2 g' 65 (100 + (6 * m + r)) (g' 65 (100 + (6 * m + r)) ^^^ bt v)) 65) K := by
          rw [up2_s]
          exact B.updH (by omega) hbt.2.2.2.2.1 (by omega)
        rw [q_suspects hR2 hB2, m_popb g' (wb_w (q_suspb hB2 _ _ _) (by decide) (by decide)), m_seat]
        exact m_ite3
  · rw [if_neg c1, m_ns0 (fun q => c1 q.2.1)]
theorem q_nsRef (B : m_NB (g' 65) K) (hs : ¬ 24 ≤ r_X12_soldOfAll g') {v : Nat} (hv : v < (g' 65 4).toNatClampNeg) (x y : Int32) {k : Nat} (hk : k < 48) (s : Int32 × Int32) : b_X12_nextSeat_41 g' (nI v) x y k (g', s.1, s.2) = .inl (g', (m_ns g' v x y k s).1, (m_ns g' v x y k s).2) := by
  have hr6 := B.r6
  have hv4 := B.v4
  have hxb := B.hld k hk
  simp only [b_X12_nextSeat_41]
  rw [if_neg hs, m_r6 (show k < 1000 by omega), m_q6 (show k < 1000 by omega), q_isRoomN B (show k % 6 < 1000 by omega), q_at (show k % 6 < 6 by omega) (show k / 6 < 8 by omega), show 6 * (k / 6) + k % 6 = k by omega, ix_a47 (show v < 1000 by omega), ix_a100 (show k < 1000 by omega)]
  by_cases c0 : k % 6 < (g' 65 0).toNatClampNeg
  · rw [if_pos c0, if_neg (show ¬ (1 : Int32) = 0 by decide)]
    by_cases c1 : r_X12_has (g' 65 (100 + k)) (nI v) = 0
    · rw [if_pos c1]
      by_cases c2 : r_X12_isLeft g' (nI (k % 6)) (nI (k / 6)) = 0
      · rw [if_pos c2, m_ns0 (fun q => q.2.2.1 c2)]
      · rw [if_neg c2]
        by_cases c3 : g' 65 (47 + v) < r_X12_priceOf g' (nI v) (nI (k % 6)) (nI (k / 6))
        · rw [if_pos c3, m_ns0 (fun q => q.2.2.2 c3)]
        · rw [if_neg c3, m_ns1 ⟨c0, c1, c2, c3⟩]
          have hbt := (bt_ hxb (show v < 4 by omega)).2.2.1
          have e9 : up2 (up2 g' 65 (100 + k) (g' 65 (100 + k) ^^^ bt v)) 65 (100 + k) ((up2 g' 65 (100 + k) (g' 65 (100 + k) ^^^ bt v)) 65 (100 + k) ^^^ bt v) = g' := by
            rw [up2_ss, hbt]
            funext a b
            by_cases d : a = 65
            · subst d
              by_cases d2 : b = 100 + k
              · rw [d2, up2_ss]
              · rw [up2_sn d2, up2_sn d2]
            · rw [up2_n d, up2_n d]
          have e8 : ∀ z, r_X12_bits (up2 g' 65 (100 + k) (g' 65 (100 + k) ^^^ bt v)) z = r_X12_bits g' z := fun z => by rw [m_bits, m_bits]
          rw [e9, e8]
          split <;> rfl
    · rw [if_neg c1, m_ns0 (fun q => c1 q.2.1)]
  · rw [if_neg c0, if_pos rfl, m_ns0 (fun q => c0 q.1)]
theorem m_nsLoop (R : m_HR g h (g' 65)) (B : m_NB (g' 65) K) (hS : g h 6 = r_X12_soldOfAll g') (hs : ¬ 24 ≤ r_X12_soldOfAll g') {v : Nat} (hv : v < (g' 65 4).toNatClampNeg) (x y : Int32) {m : Nat} (hm : m < 8) (s0 : wx_M × Int32 × Int32) (s : Int32 × Int32) : ∀ r, r ≤ (g' 65 0).toNatClampNeg → rep r (b_X3_nextSeatFor_20 g h (nI v) x y m s0) (g, s.1, s.2) = (g, (rep r (fun r s => m_ns g' v x y (6 * m + r) s) s).1, (rep r (fun r s => m_ns g' v x y (6 * m + r) s) s).2) := by
  intro r
  induction r with
  | zero =>
    intro _
    rw [rep_zero, rep_zero]
  | succ r ih =>
    intro hr
    rw [rep_succ, rep_succ, ih (by omega)]
    exact q_nsClass R B hS hs hv x y (show r < (g' 65 0).toNatClampNeg by omega) hm s0 _
theorem m_nsLoop2 (R : m_HR g h (g' 65)) (B : m_NB (g' 65) K) (hS : g h 6 = r_X12_soldOfAll g') (hs : ¬ 24 ≤ r_X12_soldOfAll g') {v : Nat} (hv : v < (g' 65 4).toNatClampNeg) (x y : Int32) (s : Int32 × Int32) : ∀ M, M ≤ 8 → rep M (b_X3_nextSeatFor_10 g h (nI v) x y) (g, s.1, s.2) = (g, (rep M (fun m s => rep 6 (fun r s => m_ns g' v x y (6 * m + r) s) s) s).1, (rep M (fun m s => rep 6 (fun r s => m_ns g' v x y (6 * m + r) s) s) s).2) := by
  have hr6 := B.r6
  intro M
  induction M with
  | zero =>
    intro _
    rw [rep_zero, rep_zero]
  | succ M ih =>
    intro hM
    rw [rep_succ, rep_succ, ih (by omega)]
    generalize rep M (fun m s => rep 6 (fun r s => m_ns g' v x y (6 * m + r) s) s) s = s1
    rw [rep_skip (R := (g' 65 0).toNatClampNeg) 6 hr6 (fun t s h1 h2 => m_ns0 (fun q => by
      have := q.1
      omega))]
    have := m_nsLoop R B hS hs hv x y (show M < 8 by omega) (g, s1.1, s1.2) s1 _ (Nat.le_refl _)
    simp only [b_X3_nextSeatFor_10]
    rw [R.rooms, this]
theorem m_nsRef (B : m_NB (g' 65) K) (hs : ¬ 24 ≤ r_X12_soldOfAll g') {v : Nat} (hv : v < (g' 65 4).toNatClampNeg) (x y : Int32) (s : Int32 × Int32) : ∀ k, k ≤ 48 → repX k (b_X12_nextSeat_41 g' (nI v) x y) (g', s.1, s.2) = .inl (g', (rep k (m_ns g' v x y) s).1, (rep k (m_ns g' v x y) s).2) := by
  intro k
  induction k with
  | zero =>
    intro _
    rw [rep_zero]
    rfl
  | succ k ih =>
    intro hk
    rw [repX_go (ih (by omega)), rep_succ]
    exact q_nsRef B hs hv x y (by omega) _
theorem m_nsb (B : m_NB (g' 65) K) {v k : Nat} (hv : v < 4) (x y : Int32) (hk : k < 48) (hr : k % 6 < (g' 65 0).toNatClampNeg) : wx_b (m_nsX g' v x y k) 0 4 := by
  have hB2 : m_NB ((up2 g' 65 (100 + k) (g' 65 (100 + k) ^^^ bt v)) 65) K := by
    rw [up2_s]
    exact B.updH hk (bt_ (B.hld k hk) hv).2.2.2.2.1 hr
  obtain ⟨i, h1, e⟩ := m_ex (n := 15) (q_suspb hB2 (bt v) x y)
  unfold m_nsX
  rw [e, m_bits]
  exact wb_nI (n := 4) (m_bn4_all ⟨i, by omega⟩) (by decide)
theorem q_nextSeat (R : m_HR g h (g' 65)) (B : m_NB (g' 65) K) (hS : g h 6 = r_X12_soldOfAll g') {v : Nat} (hv : v < (g' 65 4).toNatClampNeg) (x y : Int32) : ∃ z, f_X3_nextSeatFor g h (nI v) x y = (g, z) ∧ (match repX 48 (b_X12_nextSeat_41 g' (nI v) x y) (g', (-1000000), 9) with | .inl s_41 => (s_41.1, s_41.2.1) | .inr r9 => r9) = (g', z) := by
  have hr6 := B.r6
  have hv4 := B.v4
  by_cases hs : 24 ≤ r_X12_soldOfAll g'
  · refine ⟨-1000000, ?_, ?_⟩
    · have stop : ∀ (m r : Nat) (s0 : wx_M × Int32 × Int32) (s : Int32 × Int32), b_X3_nextSeatFor_20 g h (nI v) x y m s0 r (g, s.1, s.2) = (g, s.1, s.2) := by
        intro m r s0 s
        have hca : r_X3_canBuy g h (nI v) (nI r) (nI m) = 0 := by
          simp only [r_X3_canBuy]
          rw [hS, if_pos hs]
          split <;> rfl
        simp only [b_X3_nextSeatFor_20]
        rw [hca, if_pos rfl]
        split <;> rfl
      have e : rep 8 (b_X3_nextSeatFor_10 g h (nI v) x y) (g, (-1000000), 5) = (g, (-1000000), 5) := by
        refine rep_inv (fun _ z => z = (g, (-1000000), 5)) 8 rfl (fun t z ht hz => ?_)
        rw [hz]
        simp only [b_X3_nextSeatFor_10]
        have e2 : rep (g h 0).toNatClampNeg (b_X3_nextSeatFor_20 g h (nI v) x y t (g, (-1000000), 5)) (g, (-1000000), 5) = (g, (-1000000), 5) := by
          refine rep_inv (fun _ z => z = (g, (-1000000), 5)) _ rfl (fun u z hu hz => ?_)
          rw [hz]
          exact stop t u (g, (-1000000), 5) ((-1000000), 5)
        rw [e2]
      simp only [f_X3_nextSeatFor]
      rw [e]
    · have e : repX 48 (b_X12_nextSeat_41 g' (nI v) x y) (g', (-1000000), 9) = .inr (g', (-1000000)) := by
        refine repX_out (n := 0) (m := 48) (s1 := (g', (-1000000), 9)) rfl ?_ (by omega)
        simp only [b_X12_nextSeat_41]
        rw [if_pos hs]
      rw [e]
  · have a1 := m_nsLoop2 R B hS hs hv x y ((-1000000), 5) 8 (Nat.le_refl _)
    have a2 := m_nsRef B hs hv x y ((-1000000), 9) 48 (Nat.le_refl _)
    have a3 : rep 8 (fun m s => rep 6 (fun r s => m_ns g' v x y (6 * m + r) s) s) ((-1000000), 5) = rep 48 (m_ns g' v x y) ((-1000000), 5) := (rep_flat 6 (m_ns g' v x y) _ 8).symm
    have hr := rep_rel (f := m_ns g' v x y) (f' := m_ns g' v x y) (s := ((-1000000), 5)) (s' := ((-1000000), 9)) (n := 48) (fun _ a b => a.1 = b.1 ∧ (a.2 = b.2 ∨ (a.2 = 5 ∧ b.2 = 9))) ⟨rfl, Or.inr ⟨rfl, rfl⟩⟩ (fun k a b hk hab => by
      by_cases c : k % 6 < (g' 65 0).toNatClampNeg ∧ r_X12_has (g' 65 (100 + k)) (nI v) = 0 ∧ ¬ r_X12_isLeft g' (nI (k % 6)) (nI (k / 6)) = 0 ∧ ¬ g' 65 (47 + v) < r_X12_priceOf g' (nI v) (nI (k % 6)) (nI (k / 6))
      · rw [m_ns1 c, m_ns1 c]
        have hb := m_nsb B (show v < 4 by omega) x y hk c.1
        obtain ⟨h1, h2⟩ := hab
        rcases h2 with e | ⟨e1, e2⟩
        · rw [e]
          split
          · exact ⟨h1, Or.inl e⟩
          · exact ⟨rfl, Or.inl rfl⟩
        · have n5 : ¬ (5 : Int32) ≤ m_nsX g' v x y k := fun q => by
            have := Int32.le_iff_toInt_le.mp q
            have e5 : (5 : Int32).toInt = 5 := by decide
            have := hb.2
            omega
          have n9 : ¬ (9 : Int32) ≤ m_nsX g' v x y k := fun q => by
            have := Int32.le_iff_toInt_le.mp q
            have e5 : (9 : Int32).toInt = 9 := by decide
            have := hb.2
            omega
          rw [e1, e2, if_neg n5, if_neg n9]
          exact ⟨rfl, Or.inl rfl⟩
      · rw [m_ns0 c, m_ns0 c]
        exact hab)
    refine ⟨(rep 48 (m_ns g' v x y) ((-1000000), 9)).1, ?_, ?_⟩
    · simp only [f_X3_nextSeatFor]
      rw [a1, a3, ← hr.1]
    · rw [a2]
end M8
