/-! THE MATH 21: what was read, on both sides; visitors -/
def wnd (R : Nat → Int32) : Nat → (Nat → Int32)
  | 0 => fun _ => 0
  | w + 1 => upd (upd (wnd R w) (R (2 * w)).toNatClampNeg (wnd R w (R (2 * w)).toNatClampNeg ||| (1 <<< (R (2 * w + 1) &&& 31)))) (R (2 * w + 1)).toNatClampNeg (upd (wnd R w) (R (2 * w)).toNatClampNeg (wnd R w (R (2 * w)).toNatClampNeg ||| (1 <<< (R (2 * w + 1) &&& 31))) (R (2 * w + 1)).toNatClampNeg ||| (1 <<< (R (2 * w) &&& 31)))
theorem wnd_congr {R R' : Nat → Int32} : ∀ {w : Nat}, (∀ t, t < 2 * w → R' t = R t) → wnd R' w = wnd R w
  | 0, _ => rfl
  | w + 1, h => by
    unfold wnd
    rw [wnd_congr (w := w) (fun t ht => h t (by omega)), h (2 * w) (by omega), h (2 * w + 1) (by omega)]
def dW (X Y : wx_M) (w : Nat) : Prop := (∀ a, a < 6 → X 28 a = wnd (Y 62) w a) ∧ ∀ t, t < w → ∃ i j, i < (Y 57 11).toNatClampNeg ∧ j < (Y 57 11).toNatClampNeg ∧ i ≠ j ∧ Y 62 (2 * t) = nI i ∧ Y 62 (2 * t + 1) = nI j
def dM (X Y : wx_M) (n : Nat) : Prop := ∀ k, k < n → X 31 k = Y 63 k ∧ ∃ r, r < (Y 57 11).toNatClampNeg ∧ Y 63 k = nI r
def dV (X Y : wx_M) (v : Nat) : Prop := ∀ k, k < v → X 33 k = Y 64 (2 * k) ∧ X 32 k = Y 64 (2 * k + 1) ∧ wx_b (Y 64 (2 * k)) 1 5 ∧ wx_b (Y 64 (2 * k + 1)) 0 99
def dR (X Y : wx_M) (w m v : Nat) : Prop :=
  (X 27 0 = Y 57 11 ∧ X 27 1 = Y 57 12 ∧ X 27 2 = Y 57 13 ∧ wx_b (Y 57 11) 2 6 ∧ wx_b (Y 57 12) 1 5 ∧ wx_b (Y 57 13) 0 20) ∧ (X 27 3 = nI w ∧ Y 57 14 = nI w ∧ w ≤ 9) ∧ (X 27 4 = nI m ∧ Y 57 16 = nI m ∧ m ≤ 4) ∧ (X 27 5 = nI v ∧ Y 57 18 = nI v ∧ v ≤ 4) ∧ dW X Y w ∧ dM X Y (8 * m) ∧ dV X Y v
def xfr (X X1 : wx_M) : Prop := (∀ k, k ≠ 18 → (k < 27 ∨ 33 < k) → X1 k = X k) ∧ (∀ j, 6 ≤ j → X1 27 j = X 27 j) ∧ X1 29 = X 29 ∧ X1 30 = X 30
def yfr (Y Y1 : wx_M) : Prop := (∀ k, k ≠ 57 → k ≠ 62 → k ≠ 63 → k ≠ 64 → Y1 k = Y k) ∧ ∀ j, (j < 6 ∨ 18 < j) → Y1 57 j = Y 57 j
theorem xfr.trans {X X1 X2 : wx_M} (h : xfr X X1) (k : xfr X1 X2) : xfr X X2 := ⟨fun j h1 h2 => by rw [k.1 j h1 h2, h.1 j h1 h2], fun j hj => by rw [k.2.1 j hj, h.2.1 j hj], by rw [k.2.2.1, h.2.2.1], by rw [k.2.2.2, h.2.2.2]⟩
theorem yfr.trans {X X1 X2 : wx_M} (h : yfr X X1) (k : yfr X1 X2) : yfr X X2 := ⟨fun j h1 h2 h3 h4 => by rw [k.1 j h1 h2 h3 h4, h.1 j h1 h2 h3 h4], fun j hj => by rw [k.2 j hj, h.2 j hj]⟩
theorem qX.x {X X1 : wx_M} (h : qX X X1) : xfr X X1 := ⟨fun k h1 _ => h k h1, fun j _ => by rw [h 27 (by decide)], h 29 (by decide), h 30 (by decide)⟩
theorem qY.y {X X1 : wx_M} (h : qY X X1) : yfr X X1 := ⟨fun k h1 _ _ _ => h.1 k h1, fun j hj => h.2 j (by omega) (by omega) (by omega) (by omega) (by omega)⟩
theorem qX_step (X : wx_M) : qX X (e_X6_step X) := fun k hk => fr_X6_step hk
theorem dR.q {X Y X1 Y1 : wx_M} {w m v : Nat} (H : dR X Y w m v) (x : qX X X1) (y : qY Y Y1) : dR X1 Y1 w m v := by
  have yj : ∀ j, 11 ≤ j → Y1 57 j = Y 57 j := fun j hj => y.2 j (by omega) (by omega) (by omega) (by omega) (by omega)
  unfold dR dW dM dV at H ⊢
  rw [x 27 (by decide), x 28 (by decide), x 31 (by decide), x 32 (by decide), x 33 (by decide), yj 11 (by decide), yj 12 (by decide), yj 13 (by decide), yj 14 (by decide), yj 16 (by decide), yj 18 (by decide), y.1 62 (by decide), y.1 63 (by decide), y.1 64 (by decide)]
  exact H
theorem qX.rfl {X : wx_M} : qX X X := fun _ _ => Eq.refl _
theorem qY.rfl {X : wx_M} : qY X X := ⟨fun _ _ => Eq.refl _, fun _ _ _ _ _ _ => Eq.refl _⟩
/-! the reference's loop, step by step -/
def FR (s : wx_M × Int32) : (wx_M × Int32) ⊕ (wx_M × Int32) := b_X12_isRead_25 (fun _ _ => 0) (fun _ _ => 0) (fun _ _ => 0) (fun _ _ => 0) (fun _ _ => 0) ((fun _ _ => 0), 0) 0 s
def rn (n : Nat) (s : wx_M × Int32) : (wx_M × Int32) ⊕ (wx_M × Int32) := repX n (fun _ s => FR s) s
theorem rn_cons (n : Nat) (s : wx_M × Int32) : rn (n + 1) s = (match FR s with | .inl s1 => rn n s1 | .inr r => .inr r) := by
  unfold rn
  have h1 : repX 1 (fun _ s => FR s) s = FR s := rfl
  rw [Nat.add_comm n 1, repX_add 1 _ s n, h1]
  cases FR s <;> rfl
theorem rn_inl {n : Nat} {s s1 : wx_M × Int32} (h : FR s = .inl s1) : rn (n + 1) s = rn n s1 := by rw [rn_cons, h]
theorem rn_inr {n : Nat} {s r : wx_M × Int32} (h : FR s = .inr r) : rn (n + 1) s = .inr r := by rw [rn_cons, h]
theorem FR_0 (Y : wx_M) : FR (Y, 0) = .inr (Y, 0) := by
  simp only [FR, b_X12_isRead_25, if_true]
section M21
variable {L : Nat → Int32} {len w m i : Nat} {X Y : wx_M}
theorem FR_end (h : e_X12_nextToken Y 57 8 = -2) : FR (Y, 1) = .inr (e_X12_nextToken Y, 1) := by
  simp only [FR, b_X12_isRead_25]
  rw [if_neg (by decide), h, if_neg (by decide), if_neg (by decide), if_neg (by decide), if_neg (by decide), if_neg (by decide), if_pos rfl]
theorem FR_sort {c : Int32} (ht : tkb c (e_X12_nextToken Y 57 8)) (hs : ¬ r_X6_isSort c = 0) : FR (Y, 1) = .inl (f_X12_isVisitor (e_X12_nextToken Y) (r_X6_newVisitor c)) := by
  simp only [FR, b_X12_isRead_25]
  rw [if_neg (by decide)]
  unfold r_X6_isSort at hs
  by_cases c1 : c = 97
  · have d := (tk97 ht).mp c1
    rw [d, c1, if_neg (by decide), if_neg (by decide), if_neg (by decide), if_neg (by decide), if_pos rfl]
    rfl
  rw [if_neg c1] at hs
  by_cases c2 : c = 100
  · have d := (tk100 ht).mp c2
    rw [d, c2, if_neg (by decide), if_neg (by decide), if_pos rfl]
    rfl
  rw [if_neg c2] at hs
  by_cases c3 : c = 108
  · have d := (tk108 ht).mp c3
    rw [d, c3, if_neg (by decide), if_pos rfl]
    rfl
  rw [if_neg c3] at hs
  by_cases c4 : c = 116
  · have d := (tk116 ht).mp c4
    rw [d, c4, if_pos rfl]
    rfl
  rw [if_neg c4] at hs
  by_cases c5 : c = 119
  · have d := (tk119 ht).mp c5
    rw [d, c5, if_neg (by decide), if_neg (by decide), if_neg (by decide), if_pos rfl]
    rfl
  rw [if_neg c5] at hs
  exact absurd rfl hs
theorem nosort {c d : Int32} (ht : tkb c d) (hs : r_X6_isSort c = 0) : ¬ d = 116 ∧ ¬ d = 108 ∧ ¬ d = 100 ∧ ¬ d = 119 ∧ ¬ d = 97 := by
  refine ⟨fun q => ?_, fun q => ?_, fun q => ?_, fun q => ?_, fun q => ?_⟩
  · rw [(tk116 ht).mpr q] at hs; exact absurd hs (by decide)
  · rw [(tk108 ht).mpr q] at hs; exact absurd hs (by decide)
  · rw [(tk100 ht).mpr q] at hs; exact absurd hs (by decide)
  · rw [(tk119 ht).mpr q] at hs; exact absurd hs (by decide)
  · rw [(tk97 ht).mpr q] at hs; exact absurd hs (by decide)
theorem FR_wall {c : Int32} (ht : tkb c (e_X12_nextToken Y 57 8)) (hc : c = 103) (h16 : e_X12_nextToken Y 57 16 = 0) (h18 : e_X12_nextToken Y 57 18 = 0) : FR (Y, 1) = .inl (f_X12_isWall (e_X12_nextToken Y)) := by
  have d := (tk103 ht).mp hc
  simp only [FR, b_X12_isRead_25]
  rw [if_neg (by decide), d, if_neg (by decide), if_neg (by decide), if_neg (by decide), if_neg (by decide), if_neg (by decide), if_neg (by decide), if_pos rfl, if_pos h16, if_pos h18]
theorem FR_person {c : Int32} (ht : tkb c (e_X12_nextToken Y 57 8)) (hc : c = 114) (h18 : e_X12_nextToken Y 57 18 = 0) : FR (Y, 1) = .inl (f_X12_isPerson (e_X12_nextToken Y)) := by
  have d := (tk114 ht).mp hc
  simp only [FR, b_X12_isRead_25]
  rw [if_neg (by decide), d, if_neg (by decide), if_neg (by decide), if_neg (by decide), if_neg (by decide), if_neg (by decide), if_neg (by decide), if_neg (by decide), if_pos rfl, if_pos h18]
theorem FR_bad {c : Int32} (ht : tkb c (e_X12_nextToken Y 57 8)) (hs : r_X6_isSort c = 0) (he : ¬ c = -1) (hw : c = 103 → ¬ e_X12_nextToken Y 57 16 = 0 ∨ ¬ e_X12_nextToken Y 57 18 = 0) (hp : c = 114 → ¬ e_X12_nextToken Y 57 18 = 0) : FR (Y, 1) = .inl ((f_X12_fails (e_X12_nextToken Y) 1).1, 0) := by
  obtain ⟨n1, n2, n3, n4, n5⟩ := nosort ht hs
  simp only [FR, b_X12_isRead_25]
  rw [if_neg (show ¬ (1 : Int32) = 0 by decide), if_neg n1, if_neg n2, if_neg n3, if_neg n4, if_neg n5, if_neg (fun q => he ((tkE ht).mpr q))]
  by_cases d1 : e_X12_nextToken Y 57 8 = 103
  · rw [if_pos d1]
    by_cases d2 : e_X12_nextToken Y 57 16 = 0
    · rw [if_pos d2, if_neg ((hw ((tk103 ht).mpr d1)).resolve_left (fun q => q d2))]
      rfl
    · rw [if_neg d2]
      rfl
  · rw [if_neg d1]
    by_cases d2 : e_X12_nextToken Y 57 8 = 114
    · rw [if_pos d2, if_neg (hp ((tk114 ht).mpr d2))]
      rfl
    · rw [if_neg d2]
      rfl
theorem newV_b {c : Int32} : wx_b (r_X6_newVisitor c) 1 5 := by
  unfold r_X6_newVisitor
  (repeat' split) <;> exact ⟨by decide, by decide⟩
theorem ix2_all : ∀ i : Fin 10, (2 * nI i.val).toNatClampNeg = 2 * i.val ∧ ((2 * nI i.val) + 1).toNatClampNeg = 2 * i.val + 1 := by decide +kernel
/-- a visitor -/
theorem sim_vis (hlen : len ≤ 140) (hb : ∀ i, i < len → wx_b (L i) 0 255) (S : sm L len X Y) (D : dR X Y w m i) (hi : i < 4) (hs : ¬ r_X6_isSort (X 18 6) = 0) (g : wx_M) :
    ∃ X1 Y1, xfr X X1 ∧ yfr Y Y1 ∧ ((b_X6_readVisitors_2 g 27 i X = .inl X1 ∧ f_X12_isVisitor (e_X12_nextToken Y) (r_X6_newVisitor (X 18 6)) = (Y1, 1) ∧ sm L len X1 Y1 ∧ dR X1 Y1 w m (i + 1)) ∨ (b_X6_readVisitors_2 g 27 i X = .inr (X1, 0) ∧ f_X12_isVisitor (e_X12_nextToken Y) (r_X6_newVisitor (X 18 6)) = (Y1, 0) ∧ flt X1 Y1)) := by
  have n1 : ¬ (1 : Int32) = 0 := by decide
  have D0 := D.q qX.rfl (qY_next Y)
  have yq := (qY_next Y).y
  have hne : ¬ nI i = 4 := fun q => by have := (nI_eq (a := i) (b := 4) (by omega) (by omega)).mp q; omega
  have ei : (nI i).toNatClampNeg = i := ix (show i < 1000 by omega)
  obtain ⟨i20, i21⟩ := ix2_all ⟨i, by omega⟩
  obtain ⟨Y0, eY0⟩ : ∃ Y0, e_X12_nextToken Y = Y0 := ⟨_, rfl⟩
  have M : md L len X Y0 := by rw [← eY0]; exact S
  rw [eY0] at D0 yq ⊢
  obtain ⟨⟨l1, l2, l3, l4, l5, l6⟩, ⟨w1, w2, w3⟩, ⟨p1, p2, p3⟩, ⟨v1, v2, v3⟩, dw, dm, dv⟩ := D0
  simp only [b_X6_readVisitors_2, f_X12_isVisitor]
  rw [if_neg hs, if_neg hne, v2, if_neg hne, i20, ei]
  obtain ⟨kd, ek⟩ : ∃ kd, r_X6_newVisitor (X 18 6) = kd := ⟨_, rfl⟩
  have hkd : wx_b kd 1 5 := by rw [← ek]; exact newV_b
  rw [ek]
  have S1 : sm L len (e_X6_step (up2 X 33 i kd)) (up2 Y0 64 (2 * i) kd) := md_step hlen hb M (by rw [up2_n (by decide)]) (by rw [up2_n (by decide)]) (by rw [up2_n (by decide)]) (by rw [up2_n (by decide)]) (by rw [up2_n (by decide)]) (by rw [up2_n (by decide)]) (by rw [up2_n (by decide)]) (by rw [up2_n (by decide)])
  have a1 : ∀ k, k ≠ 18 → k ≠ 33 → e_X6_step (up2 X 33 i kd) k = X k := fun k h1 h2 => by rw [fr_X6_step h1, up2_n h2]
  have a2 : e_X6_step (up2 X 33 i kd) 33 = upd (X 33) i kd := by rw [fr_X6_step (by decide), up2_s]
  have b1 : ∀ k, k ≠ 64 → up2 Y0 64 (2 * i) kd k = Y0 k := fun k h1 => up2_n h1
  have b2 : up2 Y0 64 (2 * i) kd 64 = upd (Y0 64) (2 * i) kd := up2_s _ _ _ _
  generalize e_X6_step (up2 X 33 i kd) = X1 at S1 a1 a2 ⊢
  generalize up2 Y0 64 (2 * i) kd = Y1 at S1 b1 b2 ⊢
  obtain ⟨XF, Y2, n, x2, y2, ⟨e2, d2, M2, k1, k2, k3, k4⟩ | ⟨e2, d2, F2⟩⟩ := sim_num S1 0 99
  · rw [e2, d2]
    simp only [if_neg n1, k1, k2]
    have y18 : Y2 57 18 = nI i := by rw [y2.2 18 (by decide) (by decide) (by decide) (by decide) (by decide), b1 57 (by decide), v2]
    rw [y18, i21]
    have S2 : sm L len (e_X6_step (up2 X1 32 i n)) (up2 (up2 Y2 64 (2 * i + 1) n) 57 18 (up2 Y2 64 (2 * i + 1) n 57 18 + 1)) := md_step hlen hb M2 (by rw [up2_n (by decide)]) (by rw [up2_n (by decide)]) (by rw [up2_n (by decide)]) (by rw [up2_n (by decide)]) (by rw [up2_sn (by decide), up2_n (by decide)]) (by rw [up2_sn (by decide), up2_n (by decide)]) (by rw [up2_sn (by decide), up2_n (by decide)]) (by rw [up2_n (by decide), up2_n (by decide)])
    have a3 : ∀ k, k ≠ 18 → k ≠ 33 → k ≠ 32 → e_X6_step (up2 X1 32 i n) k = X k := fun k h1 h2 h3 => by rw [fr_X6_step h1, up2_n h3, a1 k h1 h2]
    have a4 : e_X6_step (up2 X1 32 i n) 33 = upd (X 33) i kd := by rw [fr_X6_step (by decide), up2_n (by decide), a2]
    have a5 : e_X6_step (up2 X1 32 i n) 32 = upd (X 32) i n := by rw [fr_X6_step (by decide), up2_s, a1 32 (by decide) (by decide)]
    have b3 : ∀ k, k ≠ 57 → k ≠ 64 → up2 (up2 Y2 64 (2 * i + 1) n) 57 18 (up2 Y2 64 (2 * i + 1) n 57 18 + 1) k = Y0 k := fun k h1 h2 => by rw [up2_n h1, up2_n h2, y2.1 k h1, b1 k h2]
    have b4 : up2 (up2 Y2 64 (2 * i + 1) n) 57 18 (up2 Y2 64 (2 * i + 1) n 57 18 + 1) 64 = upd (upd (Y0 64) (2 * i) kd) (2 * i + 1) n := by rw [up2_n (by decide), up2_s, y2.1 64 (by decide), b2]
    have b5 : ∀ j, j ≠ 6 → j ≠ 7 → j ≠ 8 → j ≠ 9 → j ≠ 10 → j ≠ 18 → up2 (up2 Y2 64 (2 * i + 1) n) 57 18 (up2 Y2 64 (2 * i + 1) n 57 18 + 1) 57 j = Y0 57 j := fun j h6 h7 h8 h9 h10 h18 => by rw [up2_sn h18, up2_n (by decide), y2.2 j h6 h7 h8 h9 h10, b1 57 (by decide)]
    have b6 : up2 (up2 Y2 64 (2 * i + 1) n) 57 18 (up2 Y2 64 (2 * i + 1) n 57 18 + 1) 57 18 = nI (i + 1) := by rw [up2_ss, up2_n (by decide), y18, nI_1]
    generalize e_X6_step (up2 X1 32 i n) = X3 at S2 a3 a4 a5 ⊢
    generalize up2 (up2 Y2 64 (2 * i + 1) n) 57 18 (up2 Y2 64 (2 * i + 1) n 57 18 + 1) = Y3 at S2 b3 b4 b5 b6 ⊢
    have xf3 : xfr X X3 := ⟨fun k h1 h2 => a3 k h1 (by omega) (by omega), fun j hj => by rw [a3 27 (by decide) (by decide) (by decide)], a3 29 (by decide) (by decide) (by decide), a3 30 (by decide) (by decide) (by decide)⟩
    have yf3 : yfr Y Y3 := yq.trans ⟨fun k h1 h2 h3 h4 => b3 k h1 h4, fun j hj => b5 j (by omega) (by omega) (by omega) (by omega) (by omega) (by omega)⟩
    obtain ⟨X4, Y4, x4, y4, ⟨e4, d4, S4, -⟩ | ⟨e4, d4, F4, -⟩⟩ := sim_sign hlen hb S2 tk59
    · rw [e4, d4]
      simp only [if_neg n1]
      refine ⟨up2 X4 27 5 (X4 27 5 + 1), Y4, ?_, yf3.trans y4.y, Or.inl ⟨rfl, rfl, ?_, ?_⟩⟩
      · refine (xf3.trans x4.x).trans ⟨fun k h1 h2 => up2_n (by omega), fun j hj => up2_sn (by omega), up2_n (by decide), up2_n (by decide)⟩
      · obtain ⟨q1, q2, q3, q4, q5, q6, q7, q8, q9⟩ := S4
        exact ⟨by rw [up2_n (by decide)]; exact q1, by rw [up2_n (by decide)]; exact q2, q3, q4, by rw [up2_n (by decide)]; exact q5, by rw [up2_n (by decide)]; exact q6, by rw [up2_n (by decide)]; exact q7, by rw [up2_n (by decide)]; exact q8, by rw [up2_n (by decide)]; exact q9⟩
      · have c27 : ∀ j, j ≠ 5 → up2 X4 27 5 (X4 27 5 + 1) 27 j = X 27 j := fun j hj => by rw [up2_sn hj, x4 27 (by decide), a3 27 (by decide) (by decide) (by decide)]
        have c275 : up2 X4 27 5 (X4 27 5 + 1) 27 5 = nI (i + 1) := by rw [up2_ss, x4 27 (by decide), a3 27 (by decide) (by decide) (by decide), v1, nI_1]
        have cx : ∀ k, k ≠ 18 → k ≠ 33 → k ≠ 32 → k ≠ 27 → up2 X4 27 5 (X4 27 5 + 1) k = X k := fun k h1 h2 h3 h4 => by rw [up2_n h4, x4 k h1, a3 k h1 h2 h3]
        have c33 : up2 X4 27 5 (X4 27 5 + 1) 33 = upd (X 33) i kd := by rw [up2_n (by decide), x4 33 (by decide), a4]
        have c32 : up2 X4 27 5 (X4 27 5 + 1) 32 = upd (X 32) i n := by rw [up2_n (by decide), x4 32 (by decide), a5]
        have cy : ∀ j, 11 ≤ j → j ≠ 18 → Y4 57 j = Y0 57 j := fun j h1 h2 => by rw [y4.2 j (by omega) (by omega) (by omega) (by omega) (by omega), b5 j (by omega) (by omega) (by omega) (by omega) (by omega) h2]
        have c18 : Y4 57 18 = nI (i + 1) := by rw [y4.2 18 (by decide) (by decide) (by decide) (by decide) (by decide), b6]
        have c64 : Y4 64 = upd (upd (Y0 64) (2 * i) kd) (2 * i + 1) n := by rw [y4.1 64 (by decide), b4]
        have c62 : Y4 62 = Y0 62 := by rw [y4.1 62 (by decide), b3 62 (by decide) (by decide)]
        have c63 : Y4 63 = Y0 63 := by rw [y4.1 63 (by decide), b3 63 (by decide) (by decide)]
        refine ⟨?_, ?_, ?_, ⟨c275, c18, by omega⟩, ?_, ?_, ?_⟩
        · rw [c27 0 (by decide), c27 1 (by decide), c27 2 (by decide), cy 11 (by decide) (by decide), cy 12 (by decide) (by decide), cy 13 (by decide) (by decide)]
          exact ⟨l1, l2, l3, l4, l5, l6⟩
        · rw [c27 3 (by decide), cy 14 (by decide) (by decide)]
          exact ⟨w1, w2, w3⟩
        · rw [c27 4 (by decide), cy 16 (by decide) (by decide)]
          exact ⟨p1, p2, p3⟩
        · unfold dW at dw ⊢
          rw [cx 28 (by decide) (by decide) (by decide) (by decide), c62, cy 11 (by decide) (by decide)]
          exact dw
        · unfold dM at dm ⊢
          rw [cx 31 (by decide) (by decide) (by decide) (by decide), c63, cy 11 (by decide) (by decide)]
          exact dm
        · intro k hk
          rw [c33, c32, c64]
          by_cases ck : k = i
          · subst ck
            rw [upd_eq, upd_eq, upd_eq, upd_ne (show 2 * k ≠ 2 * k + 1 by omega), upd_eq]
            exact ⟨rfl, rfl, hkd, ⟨k3, k4⟩⟩
          · rw [upd_ne ck, upd_ne ck, upd_ne (show 2 * k ≠ 2 * i + 1 by omega), upd_ne (show 2 * k ≠ 2 * i by omega), upd_ne (show 2 * k + 1 ≠ 2 * i + 1 by omega), upd_ne (show 2 * k + 1 ≠ 2 * i by omega)]
            exact dv k (by omega)
    · rw [e4, d4]
      simp only [if_true]
      exact ⟨X4, Y4, xf3.trans x4.x, yf3.trans y4.y, Or.inr ⟨rfl, rfl, F4⟩⟩
  · rw [e2, d2]
    simp only [if_true]
    refine ⟨XF, Y2, ?_, ?_, Or.inr ⟨rfl, rfl, F2⟩⟩
    · exact xfr.trans ⟨fun k h1 h2 => a1 k h1 (by omega), fun j hj => by rw [a1 27 (by decide) (by decide)], a1 29 (by decide) (by decide), a1 30 (by decide) (by decide)⟩ x2.x
    · exact (yq.trans ⟨fun k h1 h2 h3 h4 => b1 k h4, fun j hj => by rw [b1 57 (by decide)]⟩).trans y2.y
end M21
