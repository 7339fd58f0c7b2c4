/-! THE MATH 2: a house and the reference's now: what is read of them -/
def m_HR (g : wx_M) (h : Nat) (n : Nat → Int32) : Prop := (g h 0 = n 0) ∧ (g h 1 = n 1) ∧ (g h 2 = n 2) ∧ (g h 4 = n 3) ∧ (g h 5 = n 4) ∧ (g h 8 = n 51) ∧ (∀ a, a < 6 → g (h + 1) a = n (5 + a)) ∧ (∀ k, k < 48 → g (h + 2) k = n (52 + k)) ∧ (∀ k, k < 48 → g (h + 3) k = n (100 + k)) ∧ (∀ k, k < 8 * (n 3).toNatClampNeg → g (h + 4) k = n (11 + k)) ∧ (∀ k, k < (n 4).toNatClampNeg → g (h + 5) k = n (47 + k)) ∧ (∀ k, k < (n 4).toNatClampNeg → g (h + 6) k = n (43 + k)) ∧ (g h 3 = n 148)
theorem m_HR.rooms {g : wx_M} {h : Nat} {n : Nat → Int32} (H : m_HR g h n) : g h 0 = n 0 := H.1
theorem m_HR.seats {g : wx_M} {h : Nat} {n : Nat → Int32} (H : m_HR g h n) : g h 1 = n 1 := H.2.1
theorem m_HR.fee {g : wx_M} {h : Nat} {n : Nat → Int32} (H : m_HR g h n) : g h 2 = n 2 := H.2.2.1
theorem m_HR.men {g : wx_M} {h : Nat} {n : Nat → Int32} (H : m_HR g h n) : g h 4 = n 3 := H.2.2.2.1
theorem m_HR.gs {g : wx_M} {h : Nat} {n : Nat → Int32} (H : m_HR g h n) : g h 5 = n 4 := H.2.2.2.2.1
theorem m_HR.wr {g : wx_M} {h : Nat} {n : Nat → Int32} (H : m_HR g h n) : g h 8 = n 51 := H.2.2.2.2.2.1
theorem m_HR.win {g : wx_M} {h : Nat} {n : Nat → Int32} (H : m_HR g h n) : ∀ a, a < 6 → g (h + 1) a = n (5 + a) := H.2.2.2.2.2.2.1
theorem m_HR.drn {g : wx_M} {h : Nat} {n : Nat → Int32} (H : m_HR g h n) : ∀ k, k < 48 → g (h + 2) k = n (52 + k) := H.2.2.2.2.2.2.2.1
theorem m_HR.hld {g : wx_M} {h : Nat} {n : Nat → Int32} (H : m_HR g h n) : ∀ k, k < 48 → g (h + 3) k = n (100 + k) := H.2.2.2.2.2.2.2.2.1
theorem m_HR.was {g : wx_M} {h : Nat} {n : Nat → Int32} (H : m_HR g h n) : ∀ k, k < 8 * (n 3).toNatClampNeg → g (h + 4) k = n (11 + k) := H.2.2.2.2.2.2.2.2.2.1
theorem m_HR.pur {g : wx_M} {h : Nat} {n : Nat → Int32} (H : m_HR g h n) : ∀ k, k < (n 4).toNatClampNeg → g (h + 5) k = n (47 + k) := H.2.2.2.2.2.2.2.2.2.2.1
theorem m_HR.srt {g : wx_M} {h : Nat} {n : Nat → Int32} (H : m_HR g h n) : ∀ k, k < (n 4).toNatClampNeg → g (h + 6) k = n (43 + k) := H.2.2.2.2.2.2.2.2.2.2.2.1
theorem m_HR.wal {g : wx_M} {h : Nat} {n : Nat → Int32} (H : m_HR g h n) : g h 3 = n 148 := H.2.2.2.2.2.2.2.2.2.2.2.2
def m_NB (n : Nat → Int32) (K : Nat) : Prop := (wx_b (n 0) 0 6) ∧ ((n 0).toNatClampNeg ≠ 1) ∧ (wx_b (n 1) 0 5) ∧ (wx_b (n 2) 0 20) ∧ (wx_b (n 3) 0 4) ∧ (wx_b (n 4) 0 4) ∧ ((n 0).toNatClampNeg = 0 → (n 3).toNatClampNeg = 0 ∧ (n 4).toNatClampNeg = 0) ∧ (wx_b (n 51) 0 255) ∧ (∀ a, a < 6 → wx_b (n (5 + a)) 0 63) ∧ (∀ a, a < 6 → r_X12_has (n (5 + a)) (nI a) = 0) ∧ (∀ k, k < 48 → wx_b (n (52 + k)) 0 63) ∧ (∀ m a b, m < 8 → a < 6 → b < 6 → r_X12_has (n (52 + (6 * m + a))) (nI b) = r_X12_has (n (52 + (6 * m + b))) (nI a)) ∧ (∀ k, k < 48 → wx_b (n (100 + k)) 0 15) ∧ (∀ k, k < 48 → (n 0).toNatClampNeg ≤ k % 6 → n (100 + k) = 0) ∧ (∀ k, k < 8 * (n 3).toNatClampNeg → ∃ r, r < (n 0).toNatClampNeg ∧ n (11 + k) = nI r) ∧ (∀ k, k < (n 4).toNatClampNeg → wx_b (n (47 + k)) 0 K) ∧ (∀ k, k < (n 4).toNatClampNeg → wx_b (n (43 + k)) 1 5)
theorem m_NB.rooms {n : Nat → Int32} {K : Nat} (H : m_NB n K) : wx_b (n 0) 0 6 := H.1
theorem m_NB.two {n : Nat → Int32} {K : Nat} (H : m_NB n K) : (n 0).toNatClampNeg ≠ 1 := H.2.1
theorem m_NB.seats {n : Nat → Int32} {K : Nat} (H : m_NB n K) : wx_b (n 1) 0 5 := H.2.2.1
theorem m_NB.fee {n : Nat → Int32} {K : Nat} (H : m_NB n K) : wx_b (n 2) 0 20 := H.2.2.2.1
theorem m_NB.men {n : Nat → Int32} {K : Nat} (H : m_NB n K) : wx_b (n 3) 0 4 := H.2.2.2.2.1
theorem m_NB.gs {n : Nat → Int32} {K : Nat} (H : m_NB n K) : wx_b (n 4) 0 4 := H.2.2.2.2.2.1
theorem m_NB.nil {n : Nat → Int32} {K : Nat} (H : m_NB n K) : (n 0).toNatClampNeg = 0 → (n 3).toNatClampNeg = 0 ∧ (n 4).toNatClampNeg = 0 := H.2.2.2.2.2.2.1
theorem m_NB.wr {n : Nat → Int32} {K : Nat} (H : m_NB n K) : wx_b (n 51) 0 255 := H.2.2.2.2.2.2.2.1
theorem m_NB.win {n : Nat → Int32} {K : Nat} (H : m_NB n K) : ∀ a, a < 6 → wx_b (n (5 + a)) 0 63 := H.2.2.2.2.2.2.2.2.1
theorem m_NB.irr {n : Nat → Int32} {K : Nat} (H : m_NB n K) : ∀ a, a < 6 → r_X12_has (n (5 + a)) (nI a) = 0 := H.2.2.2.2.2.2.2.2.2.1
theorem m_NB.drn {n : Nat → Int32} {K : Nat} (H : m_NB n K) : ∀ k, k < 48 → wx_b (n (52 + k)) 0 63 := H.2.2.2.2.2.2.2.2.2.2.1
theorem m_NB.sym {n : Nat → Int32} {K : Nat} (H : m_NB n K) : ∀ m a b, m < 8 → a < 6 → b < 6 → r_X12_has (n (52 + (6 * m + a))) (nI b) = r_X12_has (n (52 + (6 * m + b))) (nI a) := H.2.2.2.2.2.2.2.2.2.2.2.1
theorem m_NB.hld {n : Nat → Int32} {K : Nat} (H : m_NB n K) : ∀ k, k < 48 → wx_b (n (100 + k)) 0 15 := H.2.2.2.2.2.2.2.2.2.2.2.2.1
theorem m_NB.hlr {n : Nat → Int32} {K : Nat} (H : m_NB n K) : ∀ k, k < 48 → (n 0).toNatClampNeg ≤ k % 6 → n (100 + k) = 0 := H.2.2.2.2.2.2.2.2.2.2.2.2.2.1
theorem m_NB.was {n : Nat → Int32} {K : Nat} (H : m_NB n K) : ∀ k, k < 8 * (n 3).toNatClampNeg → ∃ r, r < (n 0).toNatClampNeg ∧ n (11 + k) = nI r := H.2.2.2.2.2.2.2.2.2.2.2.2.2.2.1
theorem m_NB.pur {n : Nat → Int32} {K : Nat} (H : m_NB n K) : ∀ k, k < (n 4).toNatClampNeg → wx_b (n (47 + k)) 0 K := H.2.2.2.2.2.2.2.2.2.2.2.2.2.2.2.1
theorem m_NB.srt {n : Nat → Int32} {K : Nat} (H : m_NB n K) : ∀ k, k < (n 4).toNatClampNeg → wx_b (n (43 + k)) 1 5 := H.2.2.2.2.2.2.2.2.2.2.2.2.2.2.2.2
section M2
variable {g g' : wx_M} {h K : Nat}
theorem m_NB.r6 {n : Nat → Int32} (B : m_NB n K) : (n 0).toNatClampNeg ≤ 6 := wb_cl (n := 6) B.rooms (by decide)
theorem m_NB.p4 {n : Nat → Int32} (B : m_NB n K) : (n 3).toNatClampNeg ≤ 4 := wb_cl (n := 4) B.men (by decide)
theorem m_NB.v4 {n : Nat → Int32} (B : m_NB n K) : (n 4).toNatClampNeg ≤ 4 := wb_cl (n := 4) B.gs (by decide)
theorem q_view (R : m_HR g h (g' 65)) {r m : Nat} (hr : r < 6) (hm : m < 8) : r_X3_viewOf g h (nI r) (nI m) = r_X12_viewOf g' (nI r) (nI m) := by
  unfold r_X3_viewOf r_X12_viewOf
  rw [ix (show r < 1000 by omega), ix_s (show r < 1000 by omega) (show m < 1000 by omega), ix_a5 (show r < 1000 by omega), ix_s52 (show r < 1000 by omega) (show m < 1000 by omega), R.win r hr, R.drn (6 * m + r) (by omega)]
theorem q_at {r m : Nat} (hr : r < 6) (hm : m < 8) : r_X12_heldAt g' (nI r) (nI m) = g' 65 (100 + (6 * m + r)) := by
  unfold r_X12_heldAt
  rw [ix_s100 (show r < 1000 by omega) (show m < 1000 by omega)]
theorem q_hold (R : m_HR g h (g' 65)) {r m : Nat} (hr : r < 6) (hm : m < 8) : g (h + 3) (r_X11_seatNumber (nI r) (nI m)).toNatClampNeg = r_X12_heldAt g' (nI r) (nI m) := by
  rw [ix_s (show r < 1000 by omega) (show m < 1000 by omega), q_at hr hm, R.hld (6 * m + r) (by omega)]
theorem q_heldOf (R : m_HR g h (g' 65)) (B : m_NB (g' 65) K) {r m : Nat} (hr : r < 6) (hm : m < 8) : r_X3_heldOf g h (nI r) (nI m) = r_X12_bits g' (r_X12_heldAt g' (nI r) (nI m)) := by
  unfold r_X3_heldOf
  rw [q_hold R hr hm]
  exact m_popb g' (by rw [q_at hr hm]; exact wb_w (B.hld _ (by omega)) (by decide) (by decide))
theorem q_isLeft (R : m_HR g h (g' 65)) (B : m_NB (g' 65) K) {r m : Nat} (hr : r < 6) (hm : m < 8) : r_X3_isLeft g h (nI r) (nI m) = r_X12_isLeft g' (nI r) (nI m) := by
  unfold r_X3_isLeft r_X12_isLeft
  rw [q_heldOf R B hr hm, R.seats, ix_1]
theorem q_holds (R : m_HR g h (g' 65)) {v r m : Nat} (hr : r < 6) (hm : m < 8) : r_X3_holds g h (nI v) (nI r) (nI m) = r_X12_has (r_X12_heldAt g' (nI r) (nI m)) (nI v) := by
  unfold r_X3_holds
  rw [q_hold R hr hm, m_has]
theorem q_lookedBy (R : m_HR g h (g' 65)) (B : m_NB (g' 65) K) (s : Int32) {m : Nat} (hm : m < 8) : r_X3_lookedBy g h s (nI m) = r_X12_lookedBy g' s (nI m) := by
  simp only [r_X3_lookedBy, r_X12_lookedBy]
  have hr6 := B.r6
  refine rep_congr (by rw [ix_0, R.rooms]) (fun t x ht => ?_)
  rw [R.rooms] at ht
  simp only [b_X3_lookedBy_5, b_X12_lookedBy_5, m_or0]
  rw [q_hold R (show t < 6 by omega) hm, q_view R (show t < 6 by omega) hm]
theorem q_was (R : m_HR g h (g' 65)) (B : m_NB (g' 65) K) {p m : Nat} (hp : p < (g' 65 3).toNatClampNeg) (hm : m < 8) : r_X3_roomOf g h (nI p) (nI m) = r_X12_was g' (nI p) (nI m) := by
  unfold r_X3_roomOf r_X12_was
  have := B.p4
  rw [ix_p (show p < 1000 by omega) (show m < 1000 by omega), ix_p11 (show p < 1000 by omega) (show m < 1000 by omega), R.was (8 * p + m) (by omega)]
theorem q_wasr (B : m_NB (g' 65) K) {p m : Nat} (hp : p < (g' 65 3).toNatClampNeg) (hm : m < 8) : ∃ r, r < (g' 65 0).toNatClampNeg ∧ r_X12_was g' (nI p) (nI m) = nI r := by
  unfold r_X12_was
  have := B.p4
  rw [ix_p11 (show p < 1000 by omega) (show m < 1000 by omega)]
  exact B.was (8 * p + m) (by omega)
theorem q_seenBy (R : m_HR g h (g' 65)) (B : m_NB (g' 65) K) (s : Int32) {p m : Nat} (hp : p < (g' 65 3).toNatClampNeg) (hm : m < 8) : r_X3_seenBy g h s (nI p) (nI m) = r_X12_seenBy g' s (nI p) (nI m) := by
  simp only [r_X3_seenBy, r_X12_seenBy, m_has]
  rw [q_was R B hp hm, q_lookedBy R B s hm]
theorem m_nIne {i : Nat} (h : i < 1000) : ¬ nI i = (-1000000 : Int32) := by
  intro e
  have h1 : (nI i).toInt = (i : Int) := nI_toInt (n := i) (by omega)
  have h2 : (-1000000 : Int32).toInt = -1000000 := by decide +kernel
  have h3 : (i : Int) = -1000000 := h1.symm.trans ((congrArg Int32.toInt e).trans h2)
  omega
theorem m_canbe (w x l : Int32) (hw : ¬ w = -1000000) : (if r_X12_has l w = 0 then (if r_X12_has l x = 0 then (1 : Int32) else 0) else if w = x then 1 else 0) = (if (if r_X12_has l w = 0 then (-1000000 : Int32) else w) = -1000000 then (if r_X12_has l x = 0 then 1 else 0) else if (if r_X12_has l w = 0 then (-1000000 : Int32) else w) = x then 1 else 0) := by
  by_cases c : r_X12_has l w = 0
  · simp only [if_pos c, if_true]
  · simp only [if_neg c, if_neg hw]
theorem q_canBe (R : m_HR g h (g' 65)) (B : m_NB (g' 65) K) (s : Int32) {p m : Nat} (x : Int32) (hp : p < (g' 65 3).toNatClampNeg) (hm : m < 8) : r_X3_canBeIn g h s (nI p) x (nI m) = r_X12_canBeAt g' s (nI p) x (nI m) := by
  simp only [r_X3_canBeIn, r_X12_canBeAt, r_X12_seenBy, m_has]
  rewrite [q_was R B hp hm, q_lookedBy R B s hm]
  obtain ⟨r, h1, h2⟩ := q_wasr B hp hm
  have h6 := B.r6
  have h3 := m_nIne (show r < 1000 by omega)
  rewrite [← h2] at h3
  exact m_canbe _ _ _ h3
theorem q_peopleIn (R : m_HR g h (g' 65)) (B : m_NB (g' 65) K) (x : Int32) {m : Nat} (hm : m < 8) (y : Int32) : r_X3_peopleIn g h x (nI m) = rep (g' 65 (3 : Int32).toNatClampNeg).toNatClampNeg (b_X12_seat_24 g' x (nI m) y) (0 : Int32) := by
  simp only [r_X3_peopleIn]
  refine rep_congr (by rw [ix_3, R.men]) (fun t z ht => ?_)
  rw [R.men] at ht
  simp only [b_X3_peopleIn_5, b_X12_seat_24, m_or0]
  rw [q_was R B ht hm]
theorem q_ever (R : m_HR g h (g' 65)) (B : m_NB (g' 65) K) (x y : Int32) : r_X3_everLookedBy g h x = rep 8 (b_X12_visitor_16 g' x y) (0 : Int32) := by
  simp only [r_X3_everLookedBy]
  refine rep_congr rfl (fun t z ht => ?_)
  simp only [b_X3_everLookedBy_4, b_X12_visitor_16]
  rw [q_lookedBy R B _ ht]
theorem q_known (R : m_HR g h (g' 65)) (B : m_NB (g' 65) K) (s : Int32) {p : Nat} (hp : p < (g' 65 3).toNatClampNeg) : r_X3_minutesSeen g h s (nI p) = rep 8 (b_X12_known_24 g' s (nI p)) (0 : Int32) := by
  simp only [r_X3_minutesSeen]
  refine rep_congr rfl (fun t z ht => ?_)
  simp only [b_X3_minutesSeen_5, b_X12_known_24, m_or0]
  rw [q_seenBy R B s hp ht]
theorem q_met (R : m_HR g h (g' 65)) (B : m_NB (g' 65) K) {p q : Nat} (hp : p < (g' 65 3).toNatClampNeg) (hq : q < (g' 65 3).toNatClampNeg) : r_X3_minutesTogether g h (nI p) (nI q) = rep 8 (b_X12_met_29 g' (nI p) (nI q)) (0 : Int32) := by
  simp only [r_X3_minutesTogether]
  refine rep_congr rfl (fun t z ht => ?_)
  simp only [b_X3_minutesTogether_5, b_X12_met_29, m_or0]
  rw [q_was R B hp ht, q_was R B hq ht]
theorem q_crowd (R : m_HR g h (g' 65)) (B : m_NB (g' 65) K) (x : Int32) {m : Nat} (hm : m < 8) : rep (g h 0).toNatClampNeg (b_X3_crowdOf_15 g h x (nI m) (r_X3_lookedBy g h (1 <<< (x &&& 31)) (nI m))) (0 : Int32) = rep (g' 65 (0 : Int32).toNatClampNeg).toNatClampNeg (b_X12_crowd_33 g' x (nI m) (r_X12_lookedBy g' (1 <<< (x &&& 31)) (nI m))) (0 : Int32) := by
  have hr6 := B.r6
  refine rep_congr (by rw [ix_0, R.rooms]) (fun t z ht => ?_)
  rw [R.rooms] at ht
  simp only [b_X3_crowdOf_15, b_X12_crowd_33, m_or0, m_has]
  rw [q_lookedBy R B _ hm, q_hold R (show t < 6 by omega) hm]
theorem q_seatsOf (R : m_HR g h (g' 65)) (x : Int32) : r_X3_seatsOf g h x = r_X12_heldBy g' x := by
  simp only [r_X3_seatsOf, r_X12_heldBy]
  refine rep_congr rfl (fun t z ht => ?_)
  simp only [b_X3_seatsOf_14, b_X12_heldBy_4]
  rw [ix (show t < 1000 by omega), ix_a100 (show t < 1000 by omega), R.hld t ht]
/-! suspects: the loops change places -/
def orF (n : Nat) (f : Nat → Int32) : Int32 := rep n (fun i s => s ||| f i) 0
theorem orF_s (n : Nat) (f : Nat → Int32) (s : Int32) : rep n (fun i s => s ||| f i) s = s ||| orF n f := by
  induction n with
  | zero => exact (m_or0 s).symm
  | succ n ih =>
    rw [rep_succ, ih]
    show s ||| orF n f ||| f n = s ||| (orF n f ||| f n)
    exact Int32.or_assoc _ _ _
theorem orF_or (n : Nat) (a b : Nat → Int32) : orF n (fun i => a i ||| b i) = orF n a ||| orF n b := by
  induction n with
  | zero => exact (m_or0 0).symm
  | succ n ih =>
    show orF n (fun i => a i ||| b i) ||| (a n ||| b n) = (orF n a ||| a n) ||| (orF n b ||| b n)
    rw [ih]
    simp only [Int32.or_assoc]
    congr 1
    rw [← Int32.or_assoc, ← Int32.or_assoc, Int32.or_comm (orF n b)]
theorem orF_0 (n : Nat) : orF n (fun _ => 0) = 0 := by
  induction n with
  | zero => rfl
  | succ n ih =>
    show orF n (fun _ => 0) ||| 0 = 0
    rw [ih]; rfl
theorem orF_swap (n m : Nat) (c : Nat → Nat → Int32) : orF n (fun i => orF m (fun j => c i j)) = orF m (fun j => orF n (fun i => c i j)) := by
  induction n with
  | zero => exact (orF_0 m).symm
  | succ n ih =>
    show orF n (fun i => orF m (fun j => c i j)) ||| orF m (fun j => c n j) = orF m (fun j => orF n (fun i => c i j) ||| c n j)
    rw [ih, orF_or]
theorem q_suspects (R : m_HR g h (g' 65)) (B : m_NB (g' 65) K) (s x y : Int32) : r_X3_suspectsBy g h s x y = r_X12_suspectsOf g' s x y := by
  have hp4 := B.p4
  have a1 : r_X3_suspectsBy g h s x y = orF 8 (fun m => orF (g' 65 3).toNatClampNeg (fun p => if r_X12_has y (nI m) = 0 then 0 else if r_X12_canBeAt g' s (nI p) x (nI m) = 0 then 0 else 1 <<< (nI p &&& 31))) := by
    simp only [r_X3_suspectsBy]
    refine rep_congr rfl (fun t z ht => ?_)
    simp only [b_X3_suspectsBy_6]
    rw [← orF_s]
    refine rep_congr (by rw [R.men]) (fun u w hu => ?_)
    rw [R.men] at hu
    simp only [b_X3_suspectsBy_16, m_has]
    rw [q_canBe R B s x hu ht]
    (repeat' split) <;> simp
  have a2 : r_X12_suspectsOf g' s x y = orF (g' 65 3).toNatClampNeg (fun p => orF 8 (fun m => if r_X12_has y (nI m) = 0 then 0 else if r_X12_canBeAt g' s (nI p) x (nI m) = 0 then 0 else 1 <<< (nI p &&& 31))) := by
    simp only [r_X12_suspectsOf]
    refine rep_congr (by rw [ix_3]) (fun t z ht => ?_)
    simp only [b_X12_suspectsOf_6]
    rw [← orF_s]
    refine rep_congr rfl (fun u w hu => ?_)
    simp only [b_X12_suspectsOf_20]
    (repeat' split) <;> simp
  rw [a1, a2, orF_swap]
end M2
