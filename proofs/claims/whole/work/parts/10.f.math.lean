/-! THE MATH 6: the cheapest set; how long one can be followed -/
theorem m_nIneI {x : Int32} {b : Int} (h : wx_b x 0 b) : ¬ x = (-1000000 : Int32) := by
  intro e
  have h1 := h.1
  have h2 : (-1000000 : Int32).toInt = -1000000 := by decide +kernel
  have h3 : x.toInt = -1000000 := (congrArg Int32.toInt e).trans h2
  omega
section M6
variable {g g' : wx_M} {h K : Nat}
theorem r_settles01 (g' : wx_M) (s x : Int32) : r_X12_settles g' s x = 0 ∨ r_X12_settles g' s x = 1 := by
  simp only [r_X12_settles]
  split
  · exact Or.inl rfl
  · exact Or.inr rfl
theorem q_cheapest (R : m_HR g h (g' 65)) (B : m_NB (g' 65) K) (h2 : 2 ≤ (g' 65 0).toNatClampNeg) {v m : Nat} (hv : v < (g' 65 4).toNatClampNeg) (hm : m < 8) (y : Int32) :
    ∃ s : Int32 × Int32, rep (((1 : Int32) <<< ((g' 65 (0 : Int32).toNatClampNeg) &&& 31)).toNatClampNeg - 1) (b_X12_cheapest_38 g' (nI v) (nI m) y) ((-1000000), (-1000000)) = s ∧ r_X3_cheapestSettling g h (nI v) (nI m) = s.1 ∧ ((s.1 = -1000000 ∧ s.2 = -1000000) ∨ (¬ s.1 = -1000000 ∧ r_X3_costOf g h (nI v) s.1 (nI m) = s.2)) := by
  refine ⟨_, rfl, ?_⟩
  have hr6 := B.r6
  simp only [r_X3_cheapestSettling, R.rooms, ix_0]
  rw [q_pow B]
  obtain ⟨M, hM⟩ : ∃ M, 2 ^ (g' 65 0).toNatClampNeg = M + 1 := ⟨2 ^ (g' 65 0).toNatClampNeg - 1, by have := Nat.two_pow_pos (g' 65 0).toNatClampNeg; omega⟩
  have hM64 := m_pow64 hr6
  rw [hM, Nat.add_sub_cancel, rep_first]
  have f0 : b_X3_cheapestSettling_9 g h (nI v) (nI m) 0 ((-1000000), 0) = ((-1000000), 0) := by
    simp only [b_X3_cheapestSettling_9]
    rw [q_settles R B _ hm, nI_0, q_settles0 B h2]
    simp
  rw [f0]
  have hr := rep_rel (f := fun t => b_X3_cheapestSettling_9 g h (nI v) (nI m) (t + 1)) (f' := b_X12_cheapest_38 g' (nI v) (nI m) y) (s := ((-1000000), 0)) (s' := ((-1000000), (-1000000))) (n := M) (fun _ a b => a.1 = b.1 ∧ ((b.1 = -1000000 ∧ b.2 = -1000000) ∨ (¬ b.1 = -1000000 ∧ a.2 = b.2 ∧ r_X3_costOf g h (nI v) b.1 (nI m) = b.2))) ⟨rfl, Or.inl ⟨rfl, rfl⟩⟩ (fun t a b ht hab => by
    obtain ⟨h1, h3⟩ := hab
    simp only [b_X3_cheapestSettling_9, b_X12_cheapest_38]
    rw [q_settles R B _ hm, Nat.add_comm t 1]
    have hk : ¬ nI (1 + t) = -1000000 := m_nIne (by omega)
    rcases q_cost R B hv hm y t b (r_X12_settles g' (nI (1 + t)) (nI m)) (r_X12_settles g' (nI (1 + t)) (nI m)) (r_settles01 _ _ _) with ⟨c, e1, hb, e2⟩ | ⟨e1, e2⟩
    · rw [e1, e2, h1]
      have hc : ¬ c = -1000000 := m_nIneI hb
      rw [if_neg hc]
      by_cases cs : r_X12_settles g' (nI (1 + t)) (nI m) = 0
      · simp only [cs, if_true]
        rcases h3 with ⟨q1, q2⟩ | ⟨q0, q1, q2⟩
        · simp only [q1, if_true]
          exact ⟨trivial, Or.inl ⟨trivial, q2⟩⟩
        · simp only [if_neg q0]
          split <;> exact ⟨rfl, Or.inr ⟨q0, q1, q2⟩⟩
      · simp only [if_neg cs]
        rcases h3 with ⟨q1, q2⟩ | ⟨q0, q1, q2⟩
        · simp only [q1, if_true]
          exact ⟨trivial, Or.inr ⟨hk, trivial, e1⟩⟩
        · simp only [if_neg q0]
          rw [q1]
          split
          · exact ⟨rfl, Or.inr ⟨q0, rfl, q2⟩⟩
          · exact ⟨rfl, Or.inr ⟨hk, rfl, e1⟩⟩
    · rw [e1, if_pos rfl, if_pos e2]
      exact ⟨h1, h3⟩)
  obtain ⟨r1, r2⟩ := hr
  refine ⟨r1, ?_⟩
  rcases r2 with q | ⟨q0, q1, q2⟩
  · exact Or.inl q
  · exact Or.inr ⟨q0, q2⟩
/-- what it costs to see one: many is none -/
theorem q_costSee (R : m_HR g h (g' 65)) (B : m_NB (g' 65) K) {v p m : Nat} (hv : v < (g' 65 4).toNatClampNeg) (hp : p < (g' 65 3).toNatClampNeg) (hm : m < 8) :
    (r_X3_costToSee g h (nI v) (nI p) (nI m) = -1000000 ∧ r_X12_costOf g' (nI v) (nI p) (nI m) = 10000) ∨ (r_X3_costToSee g h (nI v) (nI p) (nI m) = r_X12_costOf g' (nI v) (nI p) (nI m) ∧ wx_b (r_X12_costOf g' (nI v) (nI p) (nI m)) 0 199) := by
  have hr6 := B.r6
  simp only [r_X3_costToSee, r_X12_costOf]
  rw [q_seenBy R B _ hp hm]
  split
  · rw [R.rooms, ix_0]
    have hr := rep_rel (f := b_X3_costToSee_23 g h (nI v) (nI p) (nI m)) (f' := b_X12_costOf_24 g' (nI v) (nI p) (nI m)) (s := (-1000000 : Int32)) (s' := (10000 : Int32)) (n := (g' 65 0).toNatClampNeg) (fun _ a b => (a = -1000000 ∧ b = 10000) ∨ (a = b ∧ wx_b b 0 199)) (Or.inl ⟨rfl, rfl⟩) (fun t a b ht hab => by
      simp only [b_X3_costToSee_23, b_X12_costOf_24, m_has]
      rw [q_view R (show t < 6 by omega) hm, q_was R B hp hm, q_isLeft R B (show t < 6 by omega) hm, q_price R B hv (show t < 6 by omega) hm]
      have hpb := q_priceb B hv (show t < 6 by omega) hm
      by_cases c1 : r_X12_isLeft g' (nI t) (nI m) = 0
      · simp only [c1, if_true, ite_self]
        exact hab
      · by_cases c2 : r_X12_has (r_X12_viewOf g' (nI t) (nI m)) (r_X12_was g' (nI p) (nI m)) = 0
        · simp only [c2, if_true, ite_self]
          exact hab
        · simp only [if_neg c1, if_neg c2]
          rcases hab with ⟨q1, q2⟩ | ⟨q1, q2⟩
          · rw [q1, q2, if_pos rfl]
            have c3 : ¬ (10000 : Int32) ≤ r_X12_priceOf g' (nI v) (nI t) (nI m) := by
              intro q
              have q3 := Int32.le_iff_toInt_le.mp q
              have q4 : (10000 : Int32).toInt = 10000 := by decide +kernel
              have := hpb.2
              omega
            rw [if_neg c3]
            exact Or.inr ⟨rfl, hpb⟩
          · rw [q1, if_neg (m_nIneI q2)]
            by_cases c3 : b ≤ r_X12_priceOf g' (nI v) (nI t) (nI m)
            · rw [if_pos c3, if_neg (Int32.not_lt.mpr c3)]
              exact Or.inr ⟨rfl, q2⟩
            · rw [if_neg c3, if_pos (Int32.not_le.mp c3)]
              exact Or.inr ⟨rfl, hpb⟩)
    exact hr
  · exact Or.inr ⟨rfl, ⟨by decide, by decide⟩⟩
theorem q_followedStep (R : m_HR g h (g' 65)) (B : m_NB (g' 65) K) (hK : K ≤ 9000) {v p f : Nat} (hv : v < (g' 65 4).toNatClampNeg) (hp : p < (g' 65 3).toNatClampNeg) (hf : f < 8) (y : Int32) (s : Int32 × Int32) :
    b_X12_followed_38 g' (nI v) (nI p) y f s = (if r_X3_followedFrom g h (nI v) (nI p) (nI f) ≤ s.1 then (s.1, s.2) else (r_X3_followedFrom g h (nI v) (nI p) (nI f), nI f)) := by
  have hv4 := B.v4
  obtain ⟨c0, hc0⟩ : ∃ c, c = g' 65 (47 + v) := ⟨_, rfl⟩
  have hpur : g (h + 5) (nI v).toNatClampNeg = c0 := by rw [ix (show v < 1000 by omega), R.pur v hv, hc0]
  have hpb : wx_b c0 0 K := by rw [hc0]; exact B.pur v hv
  have hN : (9 : Nat) = 9 := rfl
  -- ref's loop: a stop at n
  have stop : ∀ n, n ≤ 8 → repX 9 (b_X12_followed_54 g' (nI v) (nI p) y f s) (0, 0, 1) = .inr (if nI n ≤ s.1 then (s.1, s.2) else (nI n, nI f)) → b_X12_followed_38 g' (nI v) (nI p) y f s = (if nI n ≤ s.1 then (s.1, s.2) else (nI n, nI f)) := by
    intro n _ e
    simp only [b_X12_followed_38]
    rw [e]
  -- both step by step
  have key : ∀ t, t ≤ 8 - f → (∃ l su : Int32, repX t (b_X3_followedFrom_11 g h (nI v) (nI p) (nI f) c0) c0 = .inl l ∧ repX t (b_X12_followed_54 g' (nI v) (nI p) y f s) (0, 0, 1) = .inl (su, nI t, 1) ∧ wx_b l 0 K ∧ wx_b su 0 K ∧ su.toInt + l.toInt = c0.toInt) ∨ (∃ n, n ≤ 8 ∧ repX t (b_X3_followedFrom_11 g h (nI v) (nI p) (nI f) c0) c0 = .inr (nI n) ∧ repX 9 (b_X12_followed_54 g' (nI v) (nI p) y f s) (0, 0, 1) = .inr (if nI n ≤ s.1 then (s.1, s.2) else (nI n, nI f))) := by
    intro t
    induction t with
    | zero =>
      intro _
      exact Or.inl ⟨c0, 0, rfl, by show Sum.inl (0, 0, 1) = _; rw [nI_0], hpb, ⟨by decide, by have := hpb.1; have := hpb.2; have e : (0 : Int32).toInt = 0 := rfl; omega⟩, by have e : (0 : Int32).toInt = 0 := rfl; omega⟩
    | succ t ih =>
      intro ht
      rcases ih (by omega) with ⟨l, su, h1, h3, hl, hs, hsum⟩ | ⟨n, hn, h1, h3⟩
      · rw [repX_go h1]
        have hcs := q_costSee R B hv hp (show f + t < 8 by omega)
        have e1 : (nI f).toNatClampNeg + t = f + t := by rw [ix (show f < 1000 by omega)]
        have e2 : nI (f + t) - nI f = nI t := by rw [pk_sub (by omega), Nat.add_sub_cancel_left]
        have e3 : nI f + nI t = nI (f + t) := nI_add f t
        have c8 : ¬ (8 : Int32) ≤ nI (f + t) := fun q => by
          have := (nI_leI (a := 8) (by omega) (by omega)).mp q
          omega
        -- the reference's step at t
        have rs : ∀ cst : Int32, r_X12_costOf g' (nI v) (nI p) (nI (f + t)) = cst → b_X12_followed_54 g' (nI v) (nI p) y f s t (su, nI t, 1) = (if c0 < su + cst then .inl (su + cst, nI t, 0) else .inl (su + cst, nI (t + 1), 1)) := by
          intro cst ec
          simp only [b_X12_followed_54]
          rw [if_neg (by decide), e3, if_neg c8, ec, ix_a47 (show v < 1000 by omega), ← hc0, m_add0, nI_1]
        have gone : ∀ su2 : Int32, repX (t + 1) (b_X12_followed_54 g' (nI v) (nI p) y f s) (0, 0, 1) = .inl (su2, nI t, 0) → repX 9 (b_X12_followed_54 g' (nI v) (nI p) y f s) (0, 0, 1) = .inr (if nI t ≤ s.1 then (s.1, s.2) else (nI t, nI f)) := by
          intro su2 e
          refine repX_out (n := t + 1) (m := 9) e ?_ (by omega)
          simp only [b_X12_followed_54, if_true]
          split <;> rfl
        simp only [b_X3_followedFrom_11, e1, e2]
        rcases hcs with ⟨q1, q2⟩ | ⟨q1, q2⟩
        · rw [q1, if_pos rfl]
          have hlt : c0 < su + 10000 := by
            have q4 : (10000 : Int32).toInt = 10000 := by decide +kernel
            have q5 := fb_addI (x := su) (y := 10000) (by have := hs.1; omega) (by have := hs.2; omega)
            refine Int32.lt_iff_toInt_lt.mpr ?_
            have := hs.1
            have := hpb.2
            omega
          refine Or.inr ⟨t, by omega, rfl, gone (su + 10000) ?_⟩
          rw [repX_go h3, rs _ q2, if_pos hlt]
        · rw [q1, if_neg (m_nIneI q2)]
          obtain ⟨cst, ec⟩ : ∃ c, r_X12_costOf g' (nI v) (nI p) (nI (f + t)) = c := ⟨_, rfl⟩
          rw [ec] at q2 ⊢
          have q5 := fb_addI (x := su) (y := cst) (by have := hs.1; have := q2.1; omega) (by have := hs.2; have := q2.2; omega)
          by_cases cl : cst ≤ l
          · have cl2 := Int32.le_iff_toInt_le.mp cl
            rw [if_pos cl]
            have q6 := fb_subI (x := l) (y := cst) (by have := hl.1; have := q2.2; omega) (by have := hl.2; have := q2.1; omega)
            have hnl : ¬ c0 < su + cst := fun q => by
              have := Int32.lt_iff_toInt_lt.mp q
              omega
            refine Or.inl ⟨l - cst, su + cst, rfl, by rw [repX_go h3, rs _ ec, if_neg hnl], ⟨by omega, by have := hl.2; have := q2.1; omega⟩, ⟨by have := hs.1; have := q2.1; omega, by have := hpb.2; have := hl.1; omega⟩, by omega⟩
          · have cl2 := Int32.lt_iff_toInt_lt.mp (Int32.not_le.mp cl)
            rw [if_neg cl]
            have hlt : c0 < su + cst := Int32.lt_iff_toInt_lt.mpr (by omega)
            refine Or.inr ⟨t, by omega, rfl, gone (su + cst) ?_⟩
            rw [repX_go h3, rs _ ec, if_pos hlt]
      · exact Or.inr ⟨n, hn, repX_stop h1 1, h3⟩
  have hcl : r_X3_followedFrom g h (nI v) (nI p) (nI f) = (match repX (8 - f) (b_X3_followedFrom_11 g h (nI v) (nI p) (nI f) c0) c0 with | .inl _ => (8 - nI f) | .inr r9 => r9) := by
    simp only [r_X3_followedFrom]
    rw [hpur, ix (show f < 1000 by omega)]
    rfl
  rcases key (8 - f) (Nat.le_refl _) with ⟨l, su, h1, h3, hl, hs, hsum⟩ | ⟨n, hn, h1, h3⟩
  · rw [hcl, h1]
    have e8 : (8 : Int32) - nI f = nI (8 - f) := by rw [show (8 : Int32) = nI 8 from rfl, pk_sub (by omega)]
    show _ = (if 8 - nI f ≤ s.1 then _ else _)
    rw [e8]
    refine stop (8 - f) (by omega) (repX_out (n := 8 - f) (m := 9) h3 ?_ (by omega))
    simp only [b_X12_followed_54]
    have e3 : nI f + nI (8 - f) = nI 8 := by rw [nI_add]; congr 1; omega
    rw [if_neg (by decide), e3, if_pos (by decide)]
    split <;> rfl
  · rw [hcl, h1]
    exact stop n hn h3
theorem q_followed (R : m_HR g h (g' 65)) (B : m_NB (g' 65) K) (hK : K ≤ 9000) {v p : Nat} (hv : v < (g' 65 4).toNatClampNeg) (hp : p < (g' 65 3).toNatClampNeg) (y : Int32) : rep 8 (b_X12_followed_38 g' (nI v) (nI p) y) (0, (-1000000)) = rep 8 (fun t s => if r_X3_followedFrom g h (nI v) (nI p) (nI t) ≤ s.1 then (s.1, s.2) else (r_X3_followedFrom g h (nI v) (nI p) (nI t), nI t)) (0, (-1000000)) :=
  rep_congr rfl (fun t s ht => q_followedStep R B hK hv hp ht y s)
end M6
