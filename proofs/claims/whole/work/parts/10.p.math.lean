/-! THE MATH 16: copies, accounts, bytes, kinds -/
theorem m_dn_all : ∀ k : Fin 41, (nI (k.val + 1) - 1) + (-1) = nI k.val - 1 ∧ ¬ nI (k.val + 1) - 1 < 0 := by decide +kernel
def mapR {σ ρ τ : Type} (m : ρ → τ) : σ ⊕ ρ → σ ⊕ τ
  | .inl x => .inl x
  | .inr v => .inr (m v)
theorem repX_mapr {σ ρ τ : Type} {f : Nat → σ → σ ⊕ ρ} {f' : Nat → σ → σ ⊕ τ} (m : ρ → τ) {s : σ} {n : Nat} (h : ∀ t s, t < n → f' t s = mapR m (f t s)) : repX n f' s = mapR m (repX n f s) := by
  induction n with
  | zero => rfl
  | succ k ih =>
    have h1 := ih (fun t s ht => h t s (by omega))
    cases hc : repX k f s with
    | inl x =>
      rw [hc] at h1
      rw [repX_go h1, repX_go hc]
      exact h k x (by omega)
    | inr v =>
      rw [hc] at h1
      rw [repX_stop h1 1, repX_stop hc 1]
      rfl
section M16
variable {g : wx_M} {K : Nat}
/-- forwards -/
theorem cp_fw (q : wx_M) {a b c d e : Int32} {r i r2 j : Nat} (ha : a = nI r) (hb : b = nI i) (hc : c = nI r2) (hd : d = nI j) (hr : r < 8) (hr2 : r2 < 8) (hi : i < 100) (hj : j < 100) (hle : 40 * r2 + j ≤ 40 * r + i) : ∀ t, t ≤ 40 → rep t (b_X12_copy_175 q a b c d e) q = upR q 60 (fun x => if 40 * r2 + j ≤ x ∧ x < 40 * r2 + j + t then q 60 (40 * r + i + (x - (40 * r2 + j))) else q 60 x) := by
  intro t
  induction t with
  | zero =>
    intro _
    rw [rep_zero]
    funext k
    by_cases hk : k = 60
    · subst hk
      rw [upR_s]
      funext x
      rw [if_neg (by omega)]
    · rw [upR_n hk]
  | succ t ih =>
    intro ht
    rw [rep_succ, ih (by omega)]
    simp only [b_X12_copy_175]
    rw [ha, hb, hc, hd, ix_40t (by omega) (by omega) (by omega), ix_40t (by omega) (by omega) (by omega), upR_s, upR_up2, if_neg (show ¬ (40 * r2 + j ≤ 40 * r + i + t ∧ 40 * r + i + t < 40 * r2 + j + t) by omega)]
    congr 1
    funext x
    by_cases hx : x = 40 * r2 + j + t
    · subst hx
      rw [upd_eq, if_pos (by omega), show 40 * r2 + j + t - (40 * r2 + j) = t by omega]
    · rw [upd_ne hx]
      by_cases c : 40 * r2 + j ≤ x ∧ x < 40 * r2 + j + t
      · rw [if_pos c, if_pos (by omega)]
      · rw [if_neg c, if_neg (by omega)]
/-- backwards -/
theorem cp_bw (q : wx_M) {a b c d e y : Int32} {r i r2 j n : Nat} (ha : a = nI r) (hb : b = nI i) (hc : c = nI r2) (hd : d = nI j) (hr : r < 8) (hr2 : r2 < 8) (hi : i < 100) (hj : j < 100) (hn : n ≤ 40) (hlt : 40 * r + i < 40 * r2 + j) : ∀ t, t ≤ n → repX t (b_X12_copy_129 q a b c d e y) (q, nI n - 1) = .inl (upR q 60 (fun x => if 40 * r2 + j + (n - t) ≤ x ∧ x < 40 * r2 + j + n then q 60 (40 * r + i + (x - (40 * r2 + j))) else q 60 x), nI (n - t) - 1) := by
  intro t
  induction t with
  | zero =>
    intro _
    show Sum.inl (q, nI n - 1) = _
    congr 2
    funext k
    by_cases hk : k = 60
    · subst hk
      rw [upR_s]
      funext x
      rw [if_neg (by omega)]
    · rw [upR_n hk]
  | succ t ih =>
    intro ht
    rw [repX_go (ih (by omega))]
    obtain ⟨k, hk⟩ : ∃ k, n - t = k + 1 := ⟨n - t - 1, by omega⟩
    obtain ⟨d1, d2⟩ := m_dn_all ⟨k, by omega⟩
    have hk2 : n - (t + 1) = k := by omega
    simp only [b_X12_copy_129]
    rw [hk, if_neg d2, hk2]
    rw [nI_pred, ha, hb, hc, hd, ix_40t (by omega) (by omega) (by omega), ix_40t (by omega) (by omega) (by omega), upR_s, upR_up2, if_neg (show ¬ (40 * r2 + j + (k + 1) ≤ 40 * r + i + k ∧ 40 * r + i + k < 40 * r2 + j + n) by omega)]
    rw [nI_pred] at d1
    rw [d1]
    congr 3
    funext x
    by_cases hx : x = 40 * r2 + j + k
    · subst hx
      rw [upd_eq, if_pos (by omega), show 40 * r2 + j + k - (40 * r2 + j) = k by omega]
    · rw [upd_ne hx]
      by_cases c : 40 * r2 + j + (k + 1) ≤ x ∧ x < 40 * r2 + j + n
      · rw [if_pos c, if_pos (by omega)]
      · rw [if_neg c, if_neg (by omega)]
theorem t_copy (H : m_Rel K g) (a b c d e : Int32) : m_T K g (f_X11_copy g a b c d e) (fun q => f_X12_copy q a b c d e) := by
  by_cases c1 : r_X12_isRow a = 0
  · exact T_same H (-1000001) (by simp only [f_X11_copy]; rw [e_row, if_pos c1]) (by simp only [f_X12_copy]; rw [if_pos c1])
  by_cases c2 : r_X12_isRow c = 0
  · exact T_same H (-1000001) (by simp only [f_X11_copy]; rw [e_row, if_neg c1, e_row, if_pos c2]) (by simp only [f_X12_copy]; rw [if_neg c1, if_pos c2])
  obtain ⟨r, hr, rfl⟩ := o_row c1
  obtain ⟨r2, hr2, rfl⟩ := o_row c2
  have er : (nI r).toNatClampNeg = r := ix (show r < 1000 by omega)
  have er2 : (nI r2).toNatClampNeg = r2 := ix (show r2 < 1000 by omega)
  obtain ⟨b1, b2, b3, b4⟩ := H.rows r hr
  obtain ⟨k1, k2, k3, k4⟩ := H.rows r2 hr2
  have e0 : (0 : Int32).toInt = 0 := rfl
  by_cases c3 : g (2 + r) 3 = 0
  · by_cases c4 : g (2 + r2) 3 = 0
    · have nl := fun (q : wx_M) (h : q 58 = g 58) => (null_iff H h hr).mpr c3
      have nl2 := fun (q : wx_M) (h : q 58 = g 58) => (null_iff H h hr2).mpr c4
      have el : (g (2 + r) 1 = g (2 + r2) 1) ↔ (g 58 r = g 58 r2) := by rw [lane_eq H hr c3, lane_eq H hr2 c4]
      by_cases c5 : g (2 + r) 1 = g (2 + r2) 1
      · have i1 := items_iff b3 b e
        have i2 := items_iff k3 d e
        have hb := fb_rng b
        have hd := fb_rng d
        have hs1 : ¬ b < 0 → (g (2 + r) 2 - b).toInt = (g (2 + r) 2).toInt - b.toInt := fun h => by
          have := Int32.le_iff_toInt_le.mp (Int32.not_lt.mp h)
          exact fb_subI (by have := b3.1; omega) (by have := b3.2; omega)
        have hs2 : ¬ d < 0 → (g (2 + r2) 2 - d).toInt = (g (2 + r2) 2).toInt - d.toInt := fun h => by
          have := Int32.le_iff_toInt_le.mp (Int32.not_lt.mp h)
          exact fb_subI (by have := k3.1; omega) (by have := k3.2; omega)
        by_cases c6 : r_X5_hasItems g (2 + r) b e = 0 ∨ r_X5_hasItems g (2 + r2) d e = 0
        · refine T_found H 2 (by
            simp only [f_X11_copy]
            rw [e_row, if_neg c1, e_row, if_neg c2, er, er2, if_pos c3, if_pos c4, if_pos c5]
            by_cases c7 : r_X5_hasItems g (2 + r) b e = 0
            · rw [if_pos c7]
            · rw [if_neg c7, if_pos (c6.resolve_left c7)]) (fun q hq => ?_)
          simp only [f_X12_copy]
          rw [if_neg c1, if_neg c2, if_pos (nl q (hq 58 (by decide))), if_pos (nl2 q (hq 58 (by decide))), er, er2, hq 58 (by decide), hq 59 (by decide), if_pos (el.mp c5), b2, k2]
          by_cases d1 : b < 0
          · rw [if_pos d1]
          rw [if_neg d1]
          by_cases d2 : d < 0
          · rw [if_pos d2]
          rw [if_neg d2]
          by_cases d3 : e < 0
          · rw [if_pos d3]
          rw [if_neg d3]
          by_cases d4 : g (2 + r) 2 - b < e
          · rw [if_pos d4]
          rw [if_neg d4]
          by_cases d5 : e ≤ g (2 + r2) 2 - d
          · exfalso
            have f1 := Int32.le_iff_toInt_le.mp (Int32.not_lt.mp d1)
            have f2 := Int32.le_iff_toInt_le.mp (Int32.not_lt.mp d2)
            have f3 := Int32.le_iff_toInt_le.mp (Int32.not_lt.mp d3)
            have f4 := Int32.le_iff_toInt_le.mp (Int32.not_lt.mp d4)
            have f5 := Int32.le_iff_toInt_le.mp d5
            rw [hs1 d1] at f4
            rw [hs2 d2] at f5
            rw [i1, i2] at c6
            omega
          · rw [if_neg d5]
        · have n1 : ¬ r_X5_hasItems g (2 + r) b e = 0 := fun h => c6 (Or.inl h)
          have n2 : ¬ r_X5_hasItems g (2 + r2) d e = 0 := fun h => c6 (Or.inr h)
          have m1 : ¬ (b.toInt < 0 ∨ e.toInt < 0 ∨ (g (2 + r) 2).toInt < b.toInt + e.toInt) := fun h => n1 (i1.mpr h)
          have m2 : ¬ (d.toInt < 0 ∨ e.toInt < 0 ∨ (g (2 + r2) 2).toInt < d.toInt + e.toInt) := fun h => n2 (i2.mpr h)
          have b32 := b3.2
          have k32 := k3.2
          obtain ⟨i, hi, rfl⟩ := m_ex (n := 40) (a := b) ⟨by omega, by omega⟩
          obtain ⟨j, hj, rfl⟩ := m_ex (n := 40) (a := d) ⟨by omega, by omega⟩
          obtain ⟨n, hn, rfl⟩ := m_ex (n := 40) (a := e) ⟨by omega, by omega⟩
          have ei : (nI i).toNatClampNeg = i := ix (show i < 1000 by omega)
          have ej : (nI j).toNatClampNeg = j := ix (show j < 1000 by omega)
          have en : (nI n).toNatClampNeg = n := ix (show n < 1000 by omega)
          rw [nI_toInt (by omega), nI_toInt (by omega)] at m1 m2
          have e11 : f_X11_copy g (nI r) (nI i) (nI r2) (nI j) (nI n) = (up2 (upR g (10 + r2) (va_cpy (g (10 + r)) (g (10 + r2)) i j n)) 0 7 0, nI n) := by
            simp only [f_X11_copy, f_X11_answered]
            rw [e_row, if_neg c1, e_row, if_neg c2, er, er2, if_pos c3, if_pos c4, if_pos c5, if_neg n1, if_neg n2, ei, ej, en, show 2 + r + 8 = 10 + r by omega, show 2 + r2 + 8 = 10 + r2 by omega]
          rw [e11]
          refine t_items H hr2 (nI n) (va_cpy (g (10 + r)) (g (10 + r2)) i j n) (fun x => if 40 * r2 + j ≤ x ∧ x < 40 * r2 + j + n then g 60 (40 * r + i + (x - (40 * r2 + j))) else g 60 x) (fun t ht => ?_) (fun r' h1 h2 t ht => ?_) ?_
          · have s1 : (g (2 + r) 2).toInt.toNat = (g (2 + r) 2).toNatClampNeg := rfl
            unfold va_cpy
            by_cases q : j ≤ t ∧ t < j + n
            · rw [if_pos q, if_pos (by omega), b4 (i + (t - j)) (by omega)]
              congr 1
              omega
            · rw [if_neg q, if_neg (by omega)]
              exact k4 t ht
          · have s1 : (g (2 + r2) 2).toInt.toNat = (g (2 + r2) 2).toNatClampNeg := rfl
            exact if_neg (by omega)
          · generalize hq : up2 (upR g (10 + r2) (va_cpy (g (10 + r)) (g (10 + r2)) i j n)) 0 7 0 = q
            have qf : ∀ k, 57 ≤ k → q k = g k := fun k hk => by rw [← hq, up2_n (by omega), upR_n (by omega)]
            have t1 : ¬ (g (2 + r) 2 - nI i < nI n) := fun h => by
              have h2 := Int32.lt_iff_toInt_lt.mp h
              rw [hs1 (nI_pos (by omega)), nI_toInt (by omega), nI_toInt (by omega)] at h2
              omega
            have t2 : nI n ≤ g (2 + r2) 2 - nI j := by
              refine Int32.le_iff_toInt_le.mpr ?_
              rw [hs2 (nI_pos (by omega)), nI_toInt (by omega), nI_toInt (by omega)]
              omega
            have t3 : (((40 * nI r2) + nI j) ≤ ((40 * nI r) + nI i)) ↔ (40 * r2 + j ≤ 40 * r + i) := by
              rw [show (40 : Int32) = nI 40 from rfl, pk_mul, pk_mul, nI_add, nI_add]
              exact nI_leI (by omega) (by omega)
            simp only [f_X12_copy, f_X12_did]
            rw [if_neg c1, if_neg c2, if_pos (nl q (qf 58 (by decide))), if_pos (nl2 q (qf 58 (by decide))), er, er2, qf 58 (by decide), qf 59 (by decide), if_pos (el.mp c5), b2, k2, if_neg (nI_pos (n := i) (by omega)), if_neg (nI_pos (n := j) (by omega)), if_neg (nI_pos (n := n) (by omega)), if_neg t1, if_pos t2, en]
            by_cases t4 : 40 * r2 + j ≤ 40 * r + i
            · rw [if_pos (t3.mpr t4), cp_fw q rfl rfl rfl rfl hr hr2 (by omega) (by omega) t4 n hn, qf 60 (by decide)]
            · rw [if_neg (fun h => t4 (t3.mp h))]
              have lp := cp_bw q (a := nI r) (b := nI i) (c := nI r2) (d := nI j) (e := nI n) (y := nI n - 1) rfl rfl rfl rfl hr hr2 (by omega) (by omega) hn (by omega) n (Nat.le_refl n)
              rw [repX_out (n := n) (m := 42) lp (r := (up2 (upR q 60 (fun x => if 40 * r2 + j + (n - n) ≤ x ∧ x < 40 * r2 + j + n then q 60 (40 * r + i + (x - (40 * r2 + j))) else q 60 x)) 57 3 0, nI n)) (by
                simp only [b_X12_copy_129, f_X12_did]
                rw [Nat.sub_self, if_pos (by decide)]) (by omega), Nat.sub_self, Nat.add_zero, qf 60 (by decide)]
      · exact T_found H 5 (by simp only [f_X11_copy]; rw [e_row, if_neg c1, e_row, if_neg c2, er, er2, if_pos c3, if_pos c4, if_neg c5]) (fun q hq => by
          simp only [f_X12_copy]
          rw [if_neg c1, if_neg c2, if_pos (nl q (hq 58 (by decide))), if_pos (nl2 q (hq 58 (by decide))), er, er2, hq 58 (by decide), if_neg (fun h => c5 (el.mpr h))])
    · exact T_found H 1 (by simp only [f_X11_copy]; rw [e_row, if_neg c1, e_row, if_neg c2, er, er2, if_pos c3, if_neg c4]) (fun q hq => by
        simp only [f_X12_copy]
        rw [if_neg c1, if_neg c2, if_pos ((null_iff H (hq 58 (by decide)) hr).mpr c3), if_neg (fun h => c4 ((null_iff H (hq 58 (by decide)) hr2).mp h))])
  · exact T_found H 1 (by simp only [f_X11_copy]; rw [e_row, if_neg c1, e_row, if_neg c2, er, er2, if_neg c3]) (fun q hq => by
      simp only [f_X12_copy]
      rw [if_neg c1, if_neg c2, if_neg (fun h => c3 ((null_iff H (hq 58 (by decide)) hr).mp h))])
theorem T_did (H : m_Rel K g) (x : Int32) {z : wx_M × Int32} {F : wx_M → wx_M × Int32} (e1 : z = f_X11_answered g x) (e2 : ∀ q : wx_M, (∀ k, k ≠ 0 → q k = g k) → F q = f_X12_did q x) : m_T K g z F := by
  rw [e1]
  have e3 := e2 (f_X11_answered g x).1 (fun k hk => up2_n hk)
  refine ⟨fun k hk => up2_n (by omega), ?_, ?_⟩
  · rw [e3]; rfl
  · rw [e3]
    show m_Rel (K + 10) (up2 (up2 g 0 7 0) 57 3 0)
    refine rel_row H (fun k h1 h2 h3 h4 h5 h6 => ?_) (fun j hj => ?_) ?_ ?_
    · rw [up2_n h3, up2_n h1]
    · rw [up2_sn hj, up2_n (by decide)]
    · rw [up2_ss, up2_n (by decide), up2_ss]
    · exact H.rows.congr (fun k hk => by rw [up2_n (by omega), up2_n (by omega)])
theorem t_account (H : m_Rel K g) (a b c d : Int32) : m_T K g (f_X11_account g a b c d) (fun q => f_X12_account q a b c d) := by
  have R := H.hou.R
  have B := H.hou.B
  by_cases c1 : r_X12_isSet g a = 0
  · exact T_same H (-1000001) (by simp only [f_X11_account]; rw [e_set R B, if_pos c1]) (by simp only [f_X12_account]; rw [if_pos c1])
  by_cases c2 : r_X12_isMan g b = 0
  · exact T_same H (-1000001) (by simp only [f_X11_account]; rw [e_set R B, if_neg c1, e_man R B, if_pos c2]) (by simp only [f_X12_account]; rw [if_neg c1, if_pos c2])
  by_cases c3 : r_X12_isRow c = 0
  · exact T_same H (-1000001) (by simp only [f_X11_account]; rw [e_set R B, if_neg c1, e_man R B, if_neg c2, e_row, if_pos c3]) (by simp only [f_X12_account]; rw [if_neg c1, if_neg c2, if_pos c3])
  obtain ⟨p, hp, rfl⟩ := o_man B c2
  obtain ⟨r, hr, rfl⟩ := o_row c3
  have er : (nI r).toNatClampNeg = r := ix (show r < 1000 by omega)
  obtain ⟨b1, b2, b3, b4⟩ := H.rows r hr
  have b32 := b3.2
  have b31 := b3.1
  have e0 : (0 : Int32).toInt = 0 := rfl
  have e8 : (8 : Int32).toInt = 8 := by decide
  have s8 := fb_subI (x := g (2 + r) 2) (y := 8) (by omega) (by omega)
  -- the reference's tests at a memory that differs in cell 0 alone
  have f1 : ∀ q : wx_M, (∀ k, k ≠ 0 → q k = g k) → ¬ r_X12_isSet q a = 0 := fun q hq => by
    rw [← e_set (g := g) (g' := q) (h := 20) (K := K) (by rw [hq 65 (by decide)]; exact R) (by rw [hq 65 (by decide)]; exact B), e_set R B]; exact c1
  have f2 : ∀ q : wx_M, (∀ k, k ≠ 0 → q k = g k) → ¬ r_X12_isMan q (nI p) = 0 := fun q hq => by
    rw [← e_man (g := g) (g' := q) (h := 20) (K := K) (by rw [hq 65 (by decide)]; exact R) (by rw [hq 65 (by decide)]; exact B), e_man R B]; exact c2
  by_cases c4 : g (2 + r) 3 = 0
  · have nl := fun (q : wx_M) (h : q 58 = g 58) => (null_iff H h hr).mpr c4
    by_cases c5 : r_X5_hasItems g (2 + r) d 8 = 0
    · have d5 := (items_iff b3 d 8).mp c5
      refine T_found H 2 (by simp only [f_X11_account]; rw [e_set R B, if_neg c1, e_man R B, if_neg c2, e_row, if_neg c3, er, if_pos c4, if_pos c5]) (fun q hq => ?_)
      simp only [f_X12_account]
      rw [if_neg (f1 q hq), if_neg (f2 q hq), if_neg c3, if_pos (nl q (hq 58 (by decide))), er, hq 59 (by decide), b2]
      by_cases d1 : d < 0
      · rw [if_pos d1]
      · have d2 := Int32.le_iff_toInt_le.mp (Int32.not_lt.mp d1)
        rw [if_neg d1, if_neg (fun h => by
          have := Int32.le_iff_toInt_le.mp h
          omega)]
    · have d5 : ¬ (d.toInt < 0 ∨ (8 : Int32).toInt < 0 ∨ (g (2 + r) 2).toInt < d.toInt + (8 : Int32).toInt) := fun h => c5 ((items_iff b3 d 8).mpr h)
      obtain ⟨i, hi, rfl⟩ := m_ex (n := 40) (a := d) ⟨by omega, by omega⟩
      rw [nI_toInt (by omega)] at d5
      have hs : (g (2 + r) 2).toInt.toNat = (g (2 + r) 2).toNatClampNeg := rfl
      have t0 : ¬ nI i < 0 := nI_pos (by omega)
      have t1 : nI i ≤ g (2 + r) 2 - 8 := Int32.le_iff_toInt_le.mpr (by rw [nI_toInt (by omega)]; omega)
      -- step by step
      have lp : ∀ q : wx_M, (∀ k, k ≠ 0 → q k = g k) → repX 8 (b_X12_account_71 q a (nI p) (nI r) (nI i)) (0 : Int32) = mapR (fun v : wx_M × Int32 => (q, v.2)) (repX 8 (b_X11_account_78 g a (nI p) (nI r) (nI i) (2 + r)) (0 : Int32)) := fun q hq => by
        have R1 : m_HR g 20 (q 65) := by rw [hq 65 (by decide)]; exact R
        have B1 : m_NB (q 65) K := by rw [hq 65 (by decide)]; exact B
        refine repX_mapr (fun v : wx_M × Int32 => (q, v.2)) (fun t s ht => ?_)
        have ea : (nI i + nI t).toNatClampNeg = i + t := by rw [nI_add]; exact nI_clamp (by omega)
        simp only [b_X12_account_71, b_X11_account_78]
        rw [ix_40t (by omega) (by omega) (by omega), ea, show 2 + r + 8 = 10 + r by omega, b4 (i + t) (by omega), hq 60 (by decide), show 40 * r + i + t = 40 * r + (i + t) by omega, ix_0, hq 65 (by decide), e_room R B, m_or0]
        generalize g 60 (40 * r + (i + t)) = x
        have em : (-1 : Int32).toInt = -1 := by decide
        have hro := B.rooms
        have sr := fb_subI (x := g 65 0) (y := 1) (by have := hro.1; have : (1 : Int32).toInt = 1 := (by decide); omega) (by have := hro.2; have : (1 : Int32).toInt = 1 := (by decide); omega)
        have e1 : (1 : Int32).toInt = 1 := by decide
        by_cases x1 : x = -1
        · rw [if_pos x1, if_neg (fun h => by
            have := in_iff.mp h
            rw [x1, sr] at this
            have := hro.1
            omega), if_pos (by rw [x1]; decide)]
          rfl
        · rw [if_neg x1]
          have eroom : (r_X12_isRoom g x = 0) ↔ (r_X12_in x (-1) (g 65 0 - 1) = 0) := by
            unfold r_X12_isRoom
            rw [ix_0, in_iff, in_iff, e0, em]
            have : x.toInt ≠ -1 := fun h => x1 (Int32.toInt_inj.mp (by rw [h, em]))
            omega
          by_cases x2 : r_X12_isRoom g x = 0
          · rw [if_pos x2, if_pos (eroom.mp x2)]
            rfl
          · rw [if_neg x2, if_neg (fun h => x2 (eroom.mpr h))]
            obtain ⟨y, hy, rfl⟩ := o_room B x2
            have hr6 := B.r6
            rw [if_neg (nI_pos (n := y) (by omega)), q_canBe (g := g) (g' := q) R1 B1 a (nI y) (by rw [hq 65 (by decide)]; exact hp) ht]
            by_cases x3 : r_X12_canBeAt q a (nI p) (nI y) (nI t) = 0
            · rw [if_pos x3]
              rfl
            · rw [if_neg x3]
              rfl
      have e12 : ∀ q : wx_M, (∀ k, k ≠ 0 → q k = g k) → f_X12_account q a (nI p) (nI r) (nI i) = (match repX 8 (b_X12_account_71 q a (nI p) (nI r) (nI i)) (0 : Int32) with | .inl s => f_X12_did q s | .inr r9 => r9) := fun q hq => by
        simp only [f_X12_account]
        rw [if_neg (f1 q hq), if_neg (f2 q hq), if_neg c3, if_pos (nl q (hq 58 (by decide))), if_neg t0, er, hq 59 (by decide), b2, if_pos t1]
        cases repX 8 (b_X12_account_71 q a (nI p) (nI r) (nI i)) (0 : Int32) <;> rfl
      have e11 : f_X11_account g a (nI p) (nI r) (nI i) = (match repX 8 (b_X11_account_78 g a (nI p) (nI r) (nI i) (2 + r)) (0 : Int32) with | .inl s => f_X11_answered g s | .inr r9 => r9) := by
        simp only [f_X11_account]
        rw [e_set R B, if_neg c1, e_man R B, if_neg c2, e_row, if_neg c3, er, if_pos c4, if_neg c5]
        cases repX 8 (b_X11_account_78 g a (nI p) (nI r) (nI i) (2 + r)) (0 : Int32) <;> rfl
      obtain ⟨-, hinr⟩ := repX_inv (f := b_X11_account_78 g a (nI p) (nI r) (nI i) (2 + r)) (s0 := (0 : Int32)) (fun _ _ => True) (fun v => v = (g, -1000001)) 8 trivial (fun _ _ _ _ _ _ => trivial) (fun t s v ht _ h => by
        simp only [b_X11_account_78] at h
        split at h
        · cases h
        · split at h
          · cases h; rfl
          · split at h <;> cases h)
      cases hc : repX 8 (b_X11_account_78 g a (nI p) (nI r) (nI i) (2 + r)) (0 : Int32) with
      | inl s =>
        refine T_did H s (by rw [e11, hc]) (fun q hq => ?_)
        show f_X12_account q a (nI p) (nI r) (nI i) = _
        rw [e12 q hq, lp q hq, hc]
        rfl
      | inr v =>
        have ev := hinr v hc
        refine T_same H (-1000001) (by rw [e11, hc]; exact ev) ?_
        show f_X12_account g a (nI p) (nI r) (nI i) = _
        rw [e12 g (fun _ _ => rfl), lp g (fun _ _ => rfl), hc, ev]
        rfl
  · exact T_found H 1 (by simp only [f_X11_account]; rw [e_set R B, if_neg c1, e_man R B, if_neg c2, e_row, if_neg c3, er, if_neg c4]) (fun q hq => by
      simp only [f_X12_account]
      rw [if_neg (f1 q hq), if_neg (f2 q hq), if_neg c3, if_neg (fun h => c4 ((null_iff H (hq 58 (by decide)) hr).mp h))])
theorem t_feed (H : m_Rel K g) (a : Int32) : m_T K g (f_X11_feed g a) (fun q => f_X12_feed q a) := by
  have e0 : (0 : Int32).toInt = 0 := rfl
  have e255 : (255 : Int32).toInt = 255 := by decide
  by_cases c1 : a < 0
  · have d1 : r_X12_in a 0 255 = 0 := in_iff.mpr (Or.inl (Int32.lt_iff_toInt_lt.mp c1))
    exact T_same H (-1000001) (by simp only [f_X11_feed]; rw [if_pos c1]) (by simp only [f_X12_feed]; rw [if_pos d1])
  by_cases c2 : a ≤ 255
  · have d1 : ¬ r_X12_in a 0 255 = 0 := fun h => by
      have := in_iff.mp h
      have h1 := Int32.le_iff_toInt_le.mp (Int32.not_lt.mp c1)
      have h2 := Int32.le_iff_toInt_le.mp c2
      omega
    have ha : wx_b a 0 255 := ⟨Int32.le_iff_toInt_le.mp (Int32.not_lt.mp c1), Int32.le_iff_toInt_le.mp c2⟩
    obtain ⟨el, ht⟩ := H.tape
    obtain ⟨n, hn, en⟩ := m_ex (n := 140) H.pr.1
    rw [en] at el ht
    rw [ix (show n < 1000 by omega)] at ht
    by_cases c3 : n = 140
    · subst c3
      exact T_same H (-1000003) (by simp only [f_X11_feed]; rw [if_neg c1, if_pos c2, el, if_neg (by decide)]) (by simp only [f_X12_feed]; rw [if_neg d1, en, if_pos (by decide)])
    · have d3 : nI n < 140 := (nI_ltI (b := 140) (by omega) (by omega)).mpr (by omega)
      have d4 : ¬ nI n = 140 := fun h => c3 ((nI_eq (b := 140) (by omega) (by omega)).mp h)
      obtain ⟨C, eC⟩ : ∃ C, up2 (up2 g 19 n a) 18 1 (nI (n + 1)) = C := ⟨_, rfl⟩
      have e11 : f_X11_feed g a = (C, nI (n + 1)) := by
        simp only [f_X11_feed]
        rw [if_neg c1, if_pos c2, el, if_pos d3, ix (show n < 1000 by omega), up2_n (by decide), el, nI_1, eC, ← eC, up2_ss]
      rw [e11]
      have Cf : ∀ k, k ≠ 18 → k ≠ 19 → C k = g k := fun k h1 h2 => by rw [← eC, up2_n h1, up2_n h2]
      have C18 : C 18 = upd (g 18) 1 (nI (n + 1)) := by rw [← eC, up2_s, up2_n (by decide)]
      have C19 : C 19 = upd (g 19) n a := by rw [← eC, up2_n (by decide), up2_s]
      obtain ⟨W, eW⟩ : ∃ W, up2 (up2 C 61 n a) 57 4 (nI (n + 1)) = W := ⟨_, rfl⟩
      have e12 : f_X12_feed C a = (W, nI (n + 1)) := by
        simp only [f_X12_feed]
        rw [if_neg d1, Cf 57 (by decide) (by decide), en, if_neg d4, ix (show n < 1000 by omega), up2_n (by decide), Cf 57 (by decide) (by decide), en, nI_1, eW, ← eW, up2_ss]
      refine ⟨fun k hk => Cf k (by omega) (by omega), ?_, ?_⟩
      · show (f_X12_feed C a).2 = _
        rw [e12]
      · show m_Rel (K + 10) (f_X12_feed C a).1
        rw [e12]
        dsimp only
        have Wf : ∀ k, k ≠ 57 → k ≠ 61 → W k = C k := fun k h1 h2 => by rw [← eW, up2_n h1, up2_n h2]
        have W57 : W 57 = upd (g 57) 4 (nI (n + 1)) := by rw [← eW, up2_s, up2_n (by decide), Cf 57 (by decide) (by decide)]
        have W61 : W 61 = upd (g 61) n a := by rw [← eW, up2_n (by decide), up2_s, Cf 61 (by decide) (by decide)]
        have ek : ∀ k, k ≠ 18 → k ≠ 19 → k ≠ 57 → k ≠ 61 → W k = g k := fun k h1 h2 h3 h4 => by rw [Wf k h3 h4, Cf k h1 h2]
        have W18 : W 18 = upd (g 18) 1 (nI (n + 1)) := by rw [Wf 18 (by decide) (by decide), C18]
        have W19 : W 19 = upd (g 19) n a := by rw [Wf 19 (by decide) (by decide), C19]
        have hb : wx_b (nI (n + 1)) 0 140 := wb_nI (n := 140) (by omega) (by decide)
        refine ⟨?_, ?_, ?_, ?_, ?_, ?_, ?_, ?_, ?_, ?_, ?_⟩
        · exact H.rows.congr (fun k hk => ek k (by omega) (by omega) (by omega) (by omega))
        · rw [ek 0 (by decide) (by decide) (by decide) (by decide), W57, upd_ne (by decide)]; exact H.fin
        · unfold m_Tape
          rw [W18, W57, W19, W61, upd_eq, upd_eq, ix (show n + 1 < 1000 by omega)]
          refine ⟨rfl, fun i hi => ?_⟩
          by_cases ci : i = n
          · rw [ci, upd_eq, upd_eq]
            exact ⟨rfl, ha⟩
          · rw [upd_ne ci, upd_ne ci]
            exact ht i (by omega)
        · rw [W18, W57, upd_ne (by decide), upd_ne (by decide)]; exact H.flt
        · unfold wx_TB
          rw [W18, upd_eq, upd_ne (by decide), upd_ne (by decide)]
          exact ⟨hb, H.tb.2⟩
        · have hp := H.pr
          unfold wx_PQ wx_RS at hp ⊢
          rw [W57, ek 62 (by decide) (by decide) (by decide) (by decide), upd_eq, upd_ne (by decide), upd_ne (by decide), upd_ne (by decide), upd_ne (by decide)]
          exact ⟨hb, hp.2⟩
        · rw [ek 65 (by decide) (by decide) (by decide) (by decide)]
          exact (H.hou.congr (fun k h1 h2 => ek k (by omega) (by omega) (by omega) (by omega))).mono (by omega)
        · exact H.dra.congr (fun k h1 h2 => ek k (by omega) (by omega) (by omega) (by omega))
        · exact H.img.congr (by omega) (fun k hk => ek k (by omega) (by omega) (by omega) (by omega))
        · exact H.act.congr (by omega) (fun k h1 h2 => ek k (by omega) (by omega) (by omega) (by omega)) (ek 68 (by decide) (by decide) (by decide) (by decide)) (by rw [W57, upd_ne (by decide)]) (ek 65 (by decide) (by decide) (by decide) (by decide))
        · exact H.trc.congr (by rw [ek 55 (by decide) (by decide) (by decide) (by decide)]) (by rw [W57, upd_ne (by decide)]) (ek 56 (by decide) (by decide) (by decide) (by decide)) (ek 69 (by decide) (by decide) (by decide) (by decide))
  · have d1 : r_X12_in a 0 255 = 0 := in_iff.mpr (Or.inr (Int32.lt_iff_toInt_lt.mp (Int32.not_le.mp c2)))
    exact T_same H (-1000001) (by simp only [f_X11_feed]; rw [if_neg c1, if_neg c2]) (by simp only [f_X12_feed]; rw [if_pos d1])
/-- whether one of a sort x is of a kind -/
def m_isk (x k : Int32) : Int32 := if k = 0 then 1 else if k = x then 1 else if k = 1 ∧ x < 4 then 1 else if k = 4 ∧ x = 5 then 1 else 0
theorem m_isk_all : ∀ x k : Fin 6, 1 ≤ x.val → m_isk (nI x.val) (nI k.val) = r_X11_isOfKind (nI x.val) (nI k.val) := by decide +kernel
theorem as12 (q : wx_M) {v : Nat} {b : Int32} (c1 : ¬ r_X12_isGuest q (nI v) = 0) (c2 : ¬ r_X12_in b 0 5 = 0) (hv : v < 1000) : f_X12_as q (nI v) b = (if m_isk (q 65 (43 + v)) b = 0 then f_X12_finds q 3 else f_X12_did q (nI v)) := by
  simp only [f_X12_as]
  rw [if_neg c1, if_neg c2, ix_a43 hv]
  generalize q 65 (43 + v) = x
  have n1 : ¬ (1 : Int32) = 0 := by decide
  by_cases d0 : b = 0
  · have e : m_isk x b = 1 := by unfold m_isk; rw [if_pos d0]
    rw [if_pos d0, e, if_neg n1]
  · rw [if_neg d0]
    by_cases d1 : b = x
    · have e : m_isk x b = 1 := by unfold m_isk; rw [if_neg d0, if_pos d1]
      rw [if_pos d1, e, if_neg n1]
    · rw [if_neg d1]
      by_cases d2 : b = 1
      · have d4 : ¬ b = 4 := by rw [d2]; decide
        by_cases d3 : x < 4
        · have e : m_isk x b = 1 := by unfold m_isk; rw [if_neg d0, if_neg d1, if_pos ⟨d2, d3⟩]
          rw [if_pos d2, if_pos d3, e, if_neg n1]
        · have e : m_isk x b = 0 := by unfold m_isk; rw [if_neg d0, if_neg d1, if_neg (fun h => d3 h.2), if_neg (fun h => d4 h.1)]
          rw [if_pos d2, if_neg d3, if_neg d4, e, if_pos rfl]
      · rw [if_neg d2]
        by_cases d4 : b = 4
        · by_cases d5 : x = 5
          · have e : m_isk x b = 1 := by unfold m_isk; rw [if_neg d0, if_neg d1, if_neg (fun h => d2 h.1), if_pos ⟨d4, d5⟩]
            rw [if_pos d4, if_pos d5, e, if_neg n1]
          · have e : m_isk x b = 0 := by unfold m_isk; rw [if_neg d0, if_neg d1, if_neg (fun h => d2 h.1), if_neg (fun h => d5 h.2)]
            rw [if_pos d4, if_neg d5, e, if_pos rfl]
        · have e : m_isk x b = 0 := by unfold m_isk; rw [if_neg d0, if_neg d1, if_neg (fun h => d2 h.1), if_neg (fun h => d4 h.1)]
          rw [if_neg d4, e, if_pos rfl]
theorem t_as (H : m_Rel K g) (a b : Int32) : m_T K g (f_X11_as g a b) (fun q => f_X12_as q a b) := by
  have R := H.hou.R
  have B := H.hou.B
  have e5 : (5 : Int32).toInt = 5 := by decide
  have e6 : (6 : Int32).toInt = 6 := by decide
  by_cases c1 : r_X12_isGuest g a = 0
  · exact T_same H (-1000001) (by simp only [f_X11_as]; rw [e_guest R B, if_pos c1]) (by simp only [f_X12_as]; rw [if_pos c1])
  by_cases c2 : b < 0
  · have d2 : r_X12_in b 0 5 = 0 := in_iff.mpr (Or.inl (Int32.lt_iff_toInt_lt.mp c2))
    exact T_same H (-1000001) (by simp only [f_X11_as]; rw [e_guest R B, if_neg c1, if_pos c2]) (by simp only [f_X12_as]; rw [if_neg c1, if_pos d2])
  by_cases c3 : b < 6
  · have h2 := Int32.le_iff_toInt_le.mp (Int32.not_lt.mp c2)
    have h3 := Int32.lt_iff_toInt_lt.mp c3
    have e0 : (0 : Int32).toInt = 0 := rfl
    have d2 : ¬ r_X12_in b 0 5 = 0 := fun h => by
      have := in_iff.mp h
      omega
    obtain ⟨v, hv, rfl⟩ := o_guest B c1
    have hv4 := B.v4
    obtain ⟨k, hk, rfl⟩ := m_ex (n := 5) (a := b) ⟨by omega, by omega⟩
    have es : g 26 v = g 65 (43 + v) := R.srt v hv
    obtain ⟨s1, s2⟩ := B.srt v hv
    obtain ⟨x, hx, ex⟩ := m_ex (n := 5) (a := g 65 (43 + v)) ⟨by omega, s2⟩
    rw [ex, nI_toInt (by omega)] at s1
    have key : m_isk (g 65 (43 + v)) (nI k) = r_X11_isOfKind (g 26 v) (nI k) := by
      rw [es, ex]
      exact m_isk_all ⟨x, by omega⟩ ⟨k, by omega⟩ (by show 1 ≤ x; omega)
    have f1 : ∀ q : wx_M, (∀ k, k ≠ 0 → q k = g k) → ¬ r_X12_isGuest q (nI v) = 0 := fun q hq => by
      rw [← e_guest (g := g) (g' := q) (h := 20) (K := K) (by rw [hq 65 (by decide)]; exact R) (by rw [hq 65 (by decide)]; exact B), e_guest R B]; exact c1
    by_cases c4 : r_X11_isOfKind (g 26 v) (nI k) = 0
    · refine T_found H 3 (by simp only [f_X11_as]; rw [e_guest R B, if_neg c1, if_neg c2, if_pos c3, ix (show v < 1000 by omega), if_pos c4]) (fun q hq => ?_)
      show f_X12_as q (nI v) (nI k) = _
      rw [as12 q (f1 q hq) d2 (by omega), hq 65 (by decide), if_pos (by rw [key]; exact c4)]
    · refine T_did H (nI v) (by simp only [f_X11_as]; rw [e_guest R B, if_neg c1, if_neg c2, if_pos c3, ix (show v < 1000 by omega), if_neg c4]) (fun q hq => ?_)
      show f_X12_as q (nI v) (nI k) = _
      rw [as12 q (f1 q hq) d2 (by omega), hq 65 (by decide), if_neg (by rw [key]; exact c4)]
  · have d2 : r_X12_in b 0 5 = 0 := in_iff.mpr (Or.inr (by
      have := Int32.le_iff_toInt_le.mp (Int32.not_lt.mp c3)
      omega))
    exact T_same H (-1000001) (by simp only [f_X11_as]; rw [e_guest R B, if_neg c1, if_neg c2, if_neg c3]) (by simp only [f_X12_as]; rw [if_neg c1, if_pos d2])
theorem t_nextSeat (H : m_Rel K g) (a b c : Int32) : m_T K g (f_X11_nextSeat g a b c) (fun q => f_X12_nextSeat q a b c) := by
  have R := H.hou.R
  have B := H.hou.B
  by_cases c1 : r_X12_isGuest g a = 0
  · exact T_same H (-1000001) (by simp only [f_X11_nextSeat]; rw [e_guest R B, if_pos c1]) (by simp only [f_X12_nextSeat]; rw [if_pos c1])
  by_cases c2 : r_X12_isRoom g b = 0
  · exact T_same H (-1000001) (by simp only [f_X11_nextSeat]; rw [e_guest R B, if_neg c1, e_room R B, if_pos c2]) (by simp only [f_X12_nextSeat]; rw [if_neg c1, if_pos c2])
  by_cases c3 : r_X12_in c 0 255 = 0
  · exact T_same H (-1000001) (by simp only [f_X11_nextSeat]; rw [e_guest R B, if_neg c1, e_room R B, if_neg c2, e_mset, if_pos c3]) (by simp only [f_X12_nextSeat]; rw [if_neg c1, if_neg c2, if_pos c3])
  obtain ⟨v, hv, rfl⟩ := o_guest B c1
  obtain ⟨z, e1, e2⟩ := q_nextSeat R B (by rw [H.hou.S.sold, m_soldOf]) hv b c
  exact T_same H z (by simp only [f_X11_nextSeat]; rw [e_guest R B, if_neg c1, e_room R B, if_neg c2, e_mset, if_neg c3, e1]) (by simp only [f_X12_nextSeat]; rw [if_neg c1, if_neg c2, if_neg c3]; exact e2)
end M16
