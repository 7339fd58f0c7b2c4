/-! THE MATH 22: the phases of a text -/
def cV (g X : wx_M) (i : Nat) : wx_M × Int32 := match repX (5 - i) (fun r => b_X6_readVisitors_2 g 27 (i + r)) X with
  | .inl s => (s, 1)
  | .inr r => r
def cP (g X : wx_M) (i : Nat) : wx_M × Int32 := match repX (5 - i) (fun r => b_X6_readPeople_2 g 27 (i + r)) X with
  | .inl s => (s, 1)
  | .inr r => r
def cW (g X : wx_M) (i : Nat) : wx_M × Int32 := match repX (10 - i) (fun r => b_X6_readWalls_2 g 27 (i + r)) X with
  | .inl s => (s, 1)
  | .inr r => r
theorem repX_first {σ ρ : Type} (f : Nat → σ → σ ⊕ ρ) (s : σ) (b : Nat) : repX (b + 1) f s = (match f 0 s with | .inl s1 => repX b (fun r => f (1 + r)) s1 | .inr r => .inr r) := by
  have h1 : repX 1 f s = f 0 s := rfl
  rw [Nat.add_comm b 1, repX_add 1 f s b, h1]
  cases f 0 s <;> rfl
theorem cV_inl {g X X1 : wx_M} {i : Nat} (hi : i ≤ 4) (h : b_X6_readVisitors_2 g 27 i X = .inl X1) : cV g X i = cV g X1 (i + 1) := by
  unfold cV
  rw [show 5 - i = (5 - (i + 1)) + 1 by omega, repX_first]
  simp only [Nat.add_zero, h]
  congr 2
  funext r
  rw [← Nat.add_assoc]
theorem cV_inr {g X : wx_M} {i : Nat} {z : wx_M × Int32} (hi : i ≤ 4) (h : b_X6_readVisitors_2 g 27 i X = .inr z) : cV g X i = z := by
  unfold cV
  rw [show 5 - i = (5 - (i + 1)) + 1 by omega, repX_first]
  simp only [Nat.add_zero, h]
theorem cP_inl {g X X1 : wx_M} {i : Nat} (hi : i ≤ 4) (h : b_X6_readPeople_2 g 27 i X = .inl X1) : cP g X i = cP g X1 (i + 1) := by
  unfold cP
  rw [show 5 - i = (5 - (i + 1)) + 1 by omega, repX_first]
  simp only [Nat.add_zero, h]
  congr 2
  funext r
  rw [← Nat.add_assoc]
theorem cP_inr {g X : wx_M} {i : Nat} {z : wx_M × Int32} (hi : i ≤ 4) (h : b_X6_readPeople_2 g 27 i X = .inr z) : cP g X i = z := by
  unfold cP
  rw [show 5 - i = (5 - (i + 1)) + 1 by omega, repX_first]
  simp only [Nat.add_zero, h]
theorem cW_inl {g X X1 : wx_M} {i : Nat} (hi : i ≤ 9) (h : b_X6_readWalls_2 g 27 i X = .inl X1) : cW g X i = cW g X1 (i + 1) := by
  unfold cW
  rw [show 10 - i = (10 - (i + 1)) + 1 by omega, repX_first]
  simp only [Nat.add_zero, h]
  congr 2
  funext r
  rw [← Nat.add_assoc]
theorem cW_inr {g X : wx_M} {i : Nat} {z : wx_M × Int32} (hi : i ≤ 9) (h : b_X6_readWalls_2 g 27 i X = .inr z) : cW g X i = z := by
  unfold cW
  rw [show 10 - i = (10 - (i + 1)) + 1 by omega, repX_first]
  simp only [Nat.add_zero, h]
/-- what is left of the class's reading behind a phase -/
def tE (z : wx_M × Int32) : wx_M × Int32 := if z.2 = 0 then (z.1, 0) else (if (f_X6_take z.1 (-1)).2 = 0 then ((f_X6_take z.1 (-1)).1, 0) else ((f_X6_take z.1 (-1)).1, 1))
def tV (g : wx_M) (z : wx_M × Int32) : wx_M × Int32 := if z.2 = 0 then (z.1, 0) else tE (cV g z.1 0)
def tP (g : wx_M) (z : wx_M × Int32) : wx_M × Int32 := if z.2 = 0 then (z.1, 0) else tV g (cP g z.1 0)
theorem tE_0 (X : wx_M) : tE (X, 0) = (X, 0) := if_pos rfl
theorem tV_0 (g X : wx_M) : tV g (X, 0) = (X, 0) := if_pos rfl
theorem tP_0 (g X : wx_M) : tP g (X, 0) = (X, 0) := if_pos rfl
theorem tV_1 (g X : wx_M) : tV g (X, 1) = tE (cV g X 0) := if_neg (show ¬ (1 : Int32) = 0 by decide)
theorem tP_1 (g X : wx_M) : tP g (X, 1) = tV g (cP g X 0) := if_neg (show ¬ (1 : Int32) = 0 by decide)
theorem sort_g {c : Int32} (h : c = 103) : r_X6_isSort c = 0 := by rw [h]; decide
theorem sort_r {c : Int32} (h : c = 114) : r_X6_isSort c = 0 := by rw [h]; decide
theorem sort_e {c : Int32} (h : c = -1) : r_X6_isSort c = 0 := by rw [h]; decide
theorem md_18 {L : Nat → Int32} {len : Nat} {X Y : wx_M} (hlen : len ≤ 140) (M : md L len X Y) : e_X6_step X 18 2 = Y 57 10 := by
  obtain ⟨m1, m2, m3, m4, m5, m6, ⟨p, hp, m7, m8⟩, -⟩ := M
  rw [(step_at hlen m1 m2 m7 hp).2.1 2 (by decide), m5]
section M22
variable {L : Nat → Int32} {len w m : Nat}
theorem ph_vis (hlen : len ≤ 140) (hb : ∀ i, i < len → wx_b (L i) 0 255) (g gv : wx_M) : ∀ (d i : Nat) (X Y : wx_M), i + d = 4 → sm L len X Y → dR X Y w m i → (i = 0 → ¬ X 18 6 = 114 ∧ (m = 0 → ¬ X 18 6 = 103)) →
    ∃ X1 Y1 b n v, tE (cV gv X i) = (X1, b) ∧ n ≤ d + 2 ∧ rn n (Y, 1) = .inr (Y1, b) ∧ xfr X X1 ∧ yfr Y Y1 ∧ ((b = 1 ∧ dR X1 Y1 w m v ∧ X1 18 2 = Y1 57 10) ∨ (b = 0 ∧ flt X1 Y1)) := by
  intro d
  induction d with
  | zero =>
    intro i X Y hid S D hq
    have hi : i = 4 := by omega
    subst hi
    have ht := S.2.2.2.2.2.2.2.1
    by_cases hs : r_X6_isSort (X 18 6) = 0
    · have e1 : b_X6_readVisitors_2 gv 27 4 X = .inr (X, 1) := by
        simp only [b_X6_readVisitors_2]
        rw [if_pos hs]
      rw [cV_inr (by omega) e1]
      by_cases c : X 18 6 = -1
      · have e2 : f_X6_take X (-1) = (e_X6_step X, 1) := by
          simp only [f_X6_take]
          rw [if_pos c]
        refine ⟨e_X6_step X, e_X12_nextToken Y, 1, 1, 4, ?_, by omega, rn_inr (FR_end ((tkE ht).mp c)), (qX_step X).x, (qY_next Y).y, Or.inl ⟨rfl, D.q (qX_step X) (qY_next Y), md_18 hlen S⟩⟩
        unfold tE
        rw [if_neg (show ¬ (1 : Int32) = 0 by decide), e2, if_neg (show ¬ (1 : Int32) = 0 by decide)]
      · have e2 : f_X6_take X (-1) = ((f_X6_faulty X 1).1, 0) := by
          simp only [f_X6_take]
          rw [if_neg c]
          rfl
        have h18 : ¬ e_X12_nextToken Y 57 18 = 0 := by
          rw [(qY_next Y).2 18 (by decide) (by decide) (by decide) (by decide) (by decide), D.2.2.2.1.2.1]
          decide
        refine ⟨(f_X6_faulty X 1).1, (f_X12_fails (e_X12_nextToken Y) 1).1, 0, 2, 0, ?_, by omega, ?_, (qX_faulty X 1).x, (qY_fails Y 1).y, Or.inr ⟨rfl, md_flt S 1⟩⟩
        · unfold tE
          rw [if_neg (show ¬ (1 : Int32) = 0 by decide), e2, if_pos rfl]
        · rw [rn_inl (FR_bad ht hs c (fun _ => Or.inr h18) (fun _ => h18)), rn_inr (FR_0 _)]
    · have e1 : b_X6_readVisitors_2 gv 27 4 X = .inr ((f_X6_faulty X 3).1, 0) := by
        simp only [b_X6_readVisitors_2]
        rw [if_neg hs, if_pos (show nI 4 = 4 from rfl)]
        rfl
      rw [cV_inr (by omega) e1, tE_0]
      refine ⟨(f_X6_faulty X 3).1, (f_X12_fails (e_X12_nextToken Y) 3).1, 0, 2, 0, rfl, by omega, ?_, (qX_faulty X 3).x, (qY_fails Y 3).y, Or.inr ⟨rfl, md_flt S 3⟩⟩
      rw [rn_inl (FR_sort ht hs)]
      have e3 : f_X12_isVisitor (e_X12_nextToken Y) (r_X6_newVisitor (X 18 6)) = ((f_X12_fails (e_X12_nextToken Y) 3).1, 0) := by
        simp only [f_X12_isVisitor]
        rw [(qY_next Y).2 18 (by decide) (by decide) (by decide) (by decide) (by decide), D.2.2.2.1.2.1, if_pos (show nI 4 = 4 from rfl)]
        rfl
      rw [e3, rn_inr (FR_0 _)]
  | succ d ih =>
    intro i X Y hid S D hq
    have ht := S.2.2.2.2.2.2.2.1
    by_cases hs : r_X6_isSort (X 18 6) = 0
    · have e1 : b_X6_readVisitors_2 gv 27 i X = .inr (X, 1) := by
        simp only [b_X6_readVisitors_2]
        rw [if_pos hs]
      rw [cV_inr (by omega) e1]
      by_cases c : X 18 6 = -1
      · have e2 : f_X6_take X (-1) = (e_X6_step X, 1) := by
          simp only [f_X6_take]
          rw [if_pos c]
        refine ⟨e_X6_step X, e_X12_nextToken Y, 1, 1, i, ?_, by omega, rn_inr (FR_end ((tkE ht).mp c)), (qX_step X).x, (qY_next Y).y, Or.inl ⟨rfl, D.q (qX_step X) (qY_next Y), md_18 hlen S⟩⟩
        unfold tE
        rw [if_neg (show ¬ (1 : Int32) = 0 by decide), e2, if_neg (show ¬ (1 : Int32) = 0 by decide)]
      · have e2 : f_X6_take X (-1) = ((f_X6_faulty X 1).1, 0) := by
          simp only [f_X6_take]
          rw [if_neg c]
          rfl
        have h18 : e_X12_nextToken Y 57 18 = nI i := by
          rw [(qY_next Y).2 18 (by decide) (by decide) (by decide) (by decide) (by decide), D.2.2.2.1.2.1]
        have h16 : e_X12_nextToken Y 57 16 = nI m := by
          rw [(qY_next Y).2 16 (by decide) (by decide) (by decide) (by decide) (by decide), D.2.2.1.2.1]
        have hm4 := D.2.2.1.2.2
        refine ⟨(f_X6_faulty X 1).1, (f_X12_fails (e_X12_nextToken Y) 1).1, 0, 2, 0, ?_, by omega, ?_, (qX_faulty X 1).x, (qY_fails Y 1).y, Or.inr ⟨rfl, md_flt S 1⟩⟩
        · unfold tE
          rw [if_neg (show ¬ (1 : Int32) = 0 by decide), e2, if_pos rfl]
        · rw [rn_inl (FR_bad ht hs c (fun q => ?_) (fun q => ?_)), rn_inr (FR_0 _)]
          · by_cases ci : i = 0
            · refine Or.inl ?_
              rw [h16]
              by_cases cm : m = 0
              · exact absurd q ((hq ci).2 cm)
              · exact nI_ne0 (by omega) (by omega)
            · refine Or.inr ?_
              rw [h18]
              exact nI_ne0 (by omega) (by omega)
          · by_cases ci : i = 0
            · exact absurd q (hq ci).1
            · rw [h18]
              exact nI_ne0 (by omega) (by omega)
    · obtain ⟨X1, Y1, x1, y1, ⟨e1, d1, S1, D1⟩ | ⟨e1, d1, F1⟩⟩ := sim_vis hlen hb S D (by omega) hs gv
      · obtain ⟨X2, Y2, b, n, v, a1, a2, a3, a4, a5, a6⟩ := ih (i + 1) X1 Y1 (by omega) S1 D1 (fun q => by omega)
        refine ⟨X2, Y2, b, n + 1, v, ?_, by omega, ?_, x1.trans a4, y1.trans a5, a6⟩
        · rw [cV_inl (by omega) e1]; exact a1
        · rw [rn_inl (FR_sort ht hs), d1]; exact a3
      · refine ⟨X1, Y1, 0, 2, 0, ?_, by omega, ?_, x1, y1, Or.inr ⟨rfl, F1⟩⟩
        · rw [cV_inr (by omega) e1, tE_0]
        · rw [rn_inl (FR_sort ht hs), d1, rn_inr (FR_0 _)]
/-! a person: eight numbers -/
def KC (g s2 g8 : wx_M) (j t : Nat) (X : wx_M) : wx_M ⊕ (wx_M × Int32) := match repX (8 - t) (fun r => b_X6_readPeople_33 g 27 j s2 g8 (t + r)) X with
  | .inl s => if (f_X6_take s 59).2 = 0 then .inr ((f_X6_take s 59).1, 0) else .inl (up2 (f_X6_take s 59).1 27 4 ((f_X6_take s 59).1 27 4 + 1))
  | .inr r => r
def KS (g : wx_M) (t : Nat) (Y : wx_M) : wx_M × Int32 := match repX (8 - t) (fun r => b_X12_isPerson_16 g (t + r)) Y with
  | .inl s => (up2 s 57 16 (s 57 16 + 1), 1)
  | .inr r => r
def KR (g : wx_M) (t : Nat) (Y : wx_M) : wx_M × Int32 := if (f_X12_isSign Y (if 8 ≤ t then 59 else 44)).2 = 0 then ((f_X12_isSign Y (if 8 ≤ t then 59 else 44)).1, 0) else KS g t (f_X12_isSign Y (if 8 ≤ t then 59 else 44)).1
theorem KS_num0 {g Y Y1 : wx_M} {t : Nat} (ht : t < 8) (h : f_X12_isNext Y 0 (Y 57 11 - 1) = (Y1, 0)) : KS g t Y = (Y1, 0) := by
  unfold KS
  rw [show 8 - t = (8 - (t + 1)) + 1 by omega, repX_first]
  simp only [Nat.add_zero, b_X12_isPerson_16, h, if_true]
theorem KS_num1 {g Y Y1 : wx_M} {t : Nat} (ht : t < 8) (h : f_X12_isNext Y 0 (Y 57 11 - 1) = (Y1, 1)) : KS g t Y = KR g (t + 1) (up2 Y1 63 ((8 * (Y1 57 16)) + nI t).toNatClampNeg (Y1 57 9)) := by
  have n1 : ¬ (1 : Int32) = 0 := by decide
  have e7 : ((7 : Int32) ≤ nI t) ↔ 8 ≤ t + 1 := by
    rw [show (7 : Int32) = nI 7 from rfl, nI_leI (by omega) (by omega)]
    omega
  unfold KS KR
  rw [show 8 - t = (8 - (t + 1)) + 1 by omega, repX_first]
  simp only [Nat.add_zero, b_X12_isPerson_16, h, if_neg n1]
  rw [m_ififf e7]
  generalize up2 Y1 63 ((8 * (Y1 57 16)) + nI t).toNatClampNeg (Y1 57 9) = Y2
  have ef : (fun r => b_X12_isPerson_16 g (t + (1 + r))) = (fun r => b_X12_isPerson_16 g (t + 1 + r)) := by
    funext r
    rw [Nat.add_assoc]
  by_cases c : 8 ≤ t + 1
  · simp only [if_pos c]
    by_cases c2 : (f_X12_isSign Y2 59).2 = 0
    · simp only [if_pos c2]
    · simp only [if_neg c2]
      unfold KS
      rw [ef]
  · simp only [if_neg c]
    by_cases c2 : (f_X12_isSign Y2 44).2 = 0
    · simp only [if_pos c2]
    · simp only [if_neg c2]
      unfold KS
      rw [ef]
theorem ix8 {j t : Nat} (hj : j < 100) (ht : t < 100) : ((8 * nI j) + nI t).toNatClampNeg = 8 * j + t := ix_p (by omega) (by omega)
theorem dM_more {X Y X1 Y1 : wx_M} {n : Nat} {x : Int32} {r : Nat} (H : dM X Y n) (hx : x = nI r) (hr : r < (Y 57 11).toNatClampNeg) (e31 : X1 31 = upd (X 31) n x) (e63 : Y1 63 = upd (Y 63) n x) (e11 : Y1 57 11 = Y 57 11) : dM X1 Y1 (n + 1) := by
  intro k hk
  rw [e31, e63, e11]
  by_cases c : k = n
  · rw [c, upd_eq, upd_eq]
    exact ⟨rfl, r, hr, hx⟩
  · rw [upd_ne c, upd_ne c]
    exact H k (by omega)
/-- the parts of dR but people -/
def dO (X Y : wx_M) (w j : Nat) : Prop :=
  (X 27 0 = Y 57 11 ∧ X 27 1 = Y 57 12 ∧ X 27 2 = Y 57 13 ∧ wx_b (Y 57 11) 2 6 ∧ wx_b (Y 57 12) 1 5 ∧ wx_b (Y 57 13) 0 20) ∧ (X 27 3 = nI w ∧ Y 57 14 = nI w ∧ w ≤ 9) ∧ (X 27 4 = nI j ∧ Y 57 16 = nI j ∧ j ≤ 4) ∧ (X 27 5 = nI 0 ∧ Y 57 18 = nI 0) ∧ dW X Y w
theorem dR.o {X Y : wx_M} {w j : Nat} (H : dR X Y w j 0) : dO X Y w j := ⟨H.1, H.2.1, H.2.2.1, ⟨H.2.2.2.1.1, H.2.2.2.1.2.1⟩, H.2.2.2.2.1⟩
theorem dO.q {X Y X1 Y1 : wx_M} {w j : Nat} (H : dO X Y w j) (x27 : X1 27 = X 27) (x28 : X1 28 = X 28) (yj : ∀ j, j = 11 ∨ j = 12 ∨ j = 13 ∨ j = 14 ∨ j = 16 ∨ j = 18 → Y1 57 j = Y 57 j) (y62 : Y1 62 = Y 62) : dO X1 Y1 w j := by
  unfold dO dW at H ⊢
  rw [x27, x28, y62, yj 11 (by decide), yj 12 (by decide), yj 13 (by decide), yj 14 (by decide), yj 16 (by decide), yj 18 (by decide)]
  exact H
theorem room_n {a b n : Int32} (ha : wx_b a 2 6) (h1 : (0 : Int32).toInt ≤ n.toInt) (h2 : n.toInt ≤ (a - 1).toInt) : ∃ r, r < a.toNatClampNeg ∧ n = nI r := by
  obtain ⟨i, hi, ei⟩ := m_ex (n := 6) (wb_w ha (by decide) (by decide))
  have e0 : (0 : Int32).toInt = 0 := rfl
  have e1 : (1 : Int32).toInt = 1 := by decide
  have h3 := fb_subI (x := a) (y := 1) (by have := ha.1; omega) (by have := ha.2; omega)
  have ha1 := ha.1
  obtain ⟨r, hr, er⟩ := m_ex (n := 5) (a := n) ⟨by omega, by have := ha.2; omega⟩
  refine ⟨r, ?_, er⟩
  rw [er, nI_toInt (by omega)] at h2
  rw [ei, ix (by omega)]
  rw [ei, nI_toInt (by omega)] at h3
  rw [ei] at h2
  omega
theorem sim_per (hlen : len ≤ 140) (hb : ∀ i, i < len → wx_b (L i) 0 255) (g s2 g8 gp : wx_M) {j : Nat} (hj : j < 4) : ∀ (d t : Nat) (X Y : wx_M), t + d = 8 → 1 ≤ t → sm L len X Y → dO X Y w j → dM X Y (8 * j + t) →
    ∃ X1 Y1, xfr X X1 ∧ yfr Y Y1 ∧ ((KC g s2 g8 j t X = .inl X1 ∧ KR gp t Y = (Y1, 1) ∧ sm L len X1 Y1 ∧ dR X1 Y1 w (j + 1) 0) ∨ (KC g s2 g8 j t X = .inr (X1, 0) ∧ KR gp t Y = (Y1, 0) ∧ flt X1 Y1)) := by
  intro d
  induction d with
  | zero =>
    intro t X Y htd h1 S D M
    have ht : t = 8 := by omega
    subst ht
    unfold KC KR KS
    rw [Nat.sub_self, if_pos (Nat.le_refl 8)]
    have r0 : ∀ (f : Nat → wx_M → wx_M ⊕ (wx_M ⊕ (wx_M × Int32))), repX 0 f X = .inl X := fun _ => rfl
    have r1 : ∀ (f : Nat → wx_M → wx_M ⊕ (wx_M × Int32)) (q : wx_M), repX 0 f q = .inl q := fun _ _ => rfl
    simp only [r0, r1]
    obtain ⟨X1, Y1, x1, y1, ⟨e1, d1, S1, -, ex1, ey1⟩ | ⟨e1, d1, F1, -⟩⟩ := sim_sign hlen hb S tk59
    · rw [e1, d1]
      have n1 : ¬ (1 : Int32) = 0 := by decide
      simp only [if_neg n1]
      refine ⟨up2 X1 27 4 (X1 27 4 + 1), up2 Y1 57 16 (Y1 57 16 + 1), ?_, ?_, Or.inl ⟨rfl, rfl, ?_, ?_⟩⟩
      · exact x1.x.trans ⟨fun k h1 h2 => up2_n (by omega), fun j hj => up2_sn (by omega), up2_n (by decide), up2_n (by decide)⟩
      · exact y1.y.trans ⟨fun k h1 h2 h3 h4 => up2_n h1, fun j hj => up2_sn (by omega)⟩
      · have S2 : sm L len X1 (up2 Y1 57 16 (Y1 57 16 + 1)) := by
          rw [ex1]
          exact md_step hlen hb S rfl rfl rfl rfl (by rw [up2_sn (by decide), ey1]) (by rw [up2_sn (by decide), ey1]) (by rw [up2_sn (by decide), ey1]) (by rw [up2_n (by decide), ey1])
        obtain ⟨q1, q2, q3, q4, q5, q6, q7, q8, q9⟩ := S2
        exact ⟨by rw [up2_n (by decide)]; exact q1, by rw [up2_n (by decide)]; exact q2, q3, q4, by rw [up2_n (by decide)]; exact q5, by rw [up2_n (by decide)]; exact q6, by rw [up2_n (by decide)]; exact q7, by rw [up2_n (by decide)]; exact q8, by rw [up2_n (by decide)]; exact q9⟩
      · obtain ⟨l, ⟨w1, w2, w3⟩, ⟨p1, p2, p3⟩, ⟨v1, v2⟩, dw⟩ := D
        have yj : ∀ j, 11 ≤ j → j ≠ 16 → up2 Y1 57 16 (Y1 57 16 + 1) 57 j = Y 57 j := fun j h1 h2 => by rw [up2_sn h2, y1.2 j (by omega) (by omega) (by omega) (by omega) (by omega)]
        have xj : ∀ j, j ≠ 4 → up2 X1 27 4 (X1 27 4 + 1) 27 j = X 27 j := fun j h1 => by rw [up2_sn h1, x1 27 (by decide)]
        refine ⟨?_, ?_, ⟨?_, ?_, by omega⟩, ?_, ?_, ?_, ?_⟩
        · rw [xj 0 (by decide), xj 1 (by decide), xj 2 (by decide), yj 11 (by decide) (by decide), yj 12 (by decide) (by decide), yj 13 (by decide) (by decide)]; exact l
        · rw [xj 3 (by decide), yj 14 (by decide) (by decide)]; exact ⟨w1, w2, w3⟩
        · rw [up2_ss, x1 27 (by decide), p1, nI_1]
        · rw [up2_ss, y1.2 16 (by decide) (by decide) (by decide) (by decide) (by decide), p2, nI_1]
        · rw [xj 5 (by decide), yj 18 (by decide) (by decide)]; exact ⟨v1, v2, by omega⟩
        · unfold dW at dw ⊢
          rw [up2_n (by decide), x1 28 (by decide), up2_n (by decide), y1.1 62 (by decide), yj 11 (by decide) (by decide)]
          exact dw
        · unfold dM at M ⊢
          rw [up2_n (by decide), x1 31 (by decide), up2_n (by decide), y1.1 63 (by decide), yj 11 (by decide) (by decide), show 8 * (j + 1) = 8 * j + 8 by omega]
          exact M
        · intro k hk
          omega
    · rw [e1, d1]
      simp only [if_true]
      exact ⟨X1, Y1, x1.x, y1.y, Or.inr ⟨rfl, rfl, F1⟩⟩
  | succ d ih =>
    intro t X Y htd h1 S D M
    have n1 : ¬ (1 : Int32) = 0 := by decide
    have nt : ¬ nI t ≤ 0 := nI_nle (by omega) (by omega)
    have n8 : ¬ 8 ≤ t := by omega
    have kc : ∀ X1, b_X6_readPeople_33 g 27 j s2 g8 t X = .inl X1 → KC g s2 g8 j t X = KC g s2 g8 j (t + 1) X1 := fun X1 h => by
      unfold KC
      rw [show 8 - t = (8 - (t + 1)) + 1 by omega, repX_first]
      simp only [Nat.add_zero, h]
      congr 2
      funext r
      rw [← Nat.add_assoc]
    have ke : ∀ r, b_X6_readPeople_33 g 27 j s2 g8 t X = .inr r → KC g s2 g8 j t X = r := fun r h => by
      unfold KC
      rw [show 8 - t = (8 - (t + 1)) + 1 by omega, repX_first]
      simp only [Nat.add_zero, h]
    have kr : KR gp t Y = (if (f_X12_isSign Y 44).2 = 0 then ((f_X12_isSign Y 44).1, 0) else KS gp t (f_X12_isSign Y 44).1) := by
      unfold KR
      rw [if_neg n8]
    rw [kr]
    obtain ⟨X1, Y1, x1, y1, ⟨e1, d1, S1, -⟩ | ⟨e1, d1, F1, -⟩⟩ := sim_sign hlen hb S tk44
    · rw [d1]
      simp only [if_neg n1]
      have D1 : dO X1 Y1 w j := D.q (x1 27 (by decide)) (x1 28 (by decide)) (fun j hj => y1.2 j (by omega) (by omega) (by omega) (by omega) (by omega)) (y1.1 62 (by decide))
      have hro : X1 27 0 = Y1 57 11 := D1.1.1
      obtain ⟨XF, Y2, n, x2, y2, ⟨e2, d2, M2, k1, k2, k3, k4⟩ | ⟨e2, d2, F2⟩⟩ := sim_num S1 0 (Y1 57 11 - 1)
      · obtain ⟨r, hr, er⟩ := room_n (b := 0) D1.1.2.2.2.1 k3 k4
        have y16 : Y2 57 16 = nI j := by rw [y2.2 16 (by decide) (by decide) (by decide) (by decide) (by decide)]; exact D1.2.2.1.2.1
        have e3 : b_X6_readPeople_33 g 27 j s2 g8 t X = .inl (e_X6_step (up2 X1 31 (8 * j + t) n)) := by
          simp only [b_X6_readPeople_33]
          rw [if_neg nt, e1]
          simp only [if_neg n1, hro]
          rw [e2]
          simp only [if_neg n1, k1]
          rw [ix8 (by omega) (by omega)]
        rw [kc _ e3, KS_num1 (by omega) d2, y16, ix8 (by omega) (by omega), k2]
        have S2 : sm L len (e_X6_step (up2 X1 31 (8 * j + t) n)) (up2 Y2 63 (8 * j + t) n) := md_step hlen hb M2 (by rw [up2_n (by decide)]) (by rw [up2_n (by decide)]) (by rw [up2_n (by decide)]) (by rw [up2_n (by decide)]) (by rw [up2_n (by decide)]) (by rw [up2_n (by decide)]) (by rw [up2_n (by decide)]) (by rw [up2_n (by decide)])
        have D2 : dO (e_X6_step (up2 X1 31 (8 * j + t) n)) (up2 Y2 63 (8 * j + t) n) w j := D1.q (by rw [fr_X6_step (by decide), up2_n (by decide)]) (by rw [fr_X6_step (by decide), up2_n (by decide)]) (fun j hj => by rw [up2_n (by decide), y2.2 j (by omega) (by omega) (by omega) (by omega) (by omega)]) (by rw [up2_n (by decide), y2.1 62 (by decide)])
        have M3 : dM (e_X6_step (up2 X1 31 (8 * j + t) n)) (up2 Y2 63 (8 * j + t) n) (8 * j + t + 1) := by
          refine dM_more (X := X) (Y := Y) (x := n) (r := r) M er ?_ ?_ ?_ ?_
          · rw [← y1.2 11 (by decide) (by decide) (by decide) (by decide) (by decide)]; exact hr
          · rw [fr_X6_step (by decide), up2_s, x1 31 (by decide)]
          · rw [up2_s, y2.1 63 (by decide), y1.1 63 (by decide)]
          · rw [up2_n (by decide), y2.2 11 (by decide) (by decide) (by decide) (by decide) (by decide), y1.2 11 (by decide) (by decide) (by decide) (by decide) (by decide)]
        obtain ⟨X5, Y5, x5, y5, hz⟩ := ih (t + 1) _ _ (by omega) (by omega) S2 D2 M3
        refine ⟨X5, Y5, ?_, ?_, hz⟩
        · refine (x1.x.trans ?_).trans x5
          exact ⟨fun k h1 h2 => by rw [fr_X6_step h1, up2_n (by omega)], fun j hj => by rw [fr_X6_step (by decide), up2_n (by decide)], by rw [fr_X6_step (by decide), up2_n (by decide)], by rw [fr_X6_step (by decide), up2_n (by decide)]⟩
        · exact ((y1.y.trans y2.y).trans ⟨fun k h1 h2 h3 h4 => up2_n h3, fun j hj => by rw [up2_n (by decide)]⟩).trans y5
      · have e3 : b_X6_readPeople_33 g 27 j s2 g8 t X = .inr (.inr (XF, 0)) := by
          simp only [b_X6_readPeople_33]
          rw [if_neg nt, e1]
          simp only [if_neg n1, hro]
          rw [e2]
          simp only [if_true]
        rw [ke _ e3, KS_num0 (by omega) d2]
        exact ⟨XF, Y2, x1.x.trans x2.x, y1.y.trans y2.y, Or.inr ⟨rfl, rfl, F2⟩⟩
    · have e3 : b_X6_readPeople_33 g 27 j s2 g8 t X = .inr (.inr (X1, 0)) := by
        simp only [b_X6_readPeople_33]
        rw [if_neg nt, e1]
        simp only [if_true]
      rw [ke _ e3, d1]
      simp only [if_true]
      exact ⟨X1, Y1, x1.x, y1.y, Or.inr ⟨rfl, rfl, F1⟩⟩
end M22
