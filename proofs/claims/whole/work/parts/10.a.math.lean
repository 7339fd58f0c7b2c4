/-! THE MATH 1: small rows -/
theorem m_ex {a : Int32} {n : Nat} (h : wx_b a 0 n) : ∃ i, i ≤ n ∧ a = nI i := ⟨a.toNatClampNeg, wb_cl (n := n) h (Int.le_refl _), (wx_nIcl h (by omega)).symm⟩
theorem m_exl {a : Int32} {n : Nat} {b : Int} (h : wx_b a 0 b) (hb : b < n) : ∃ i, i < n ∧ a = nI i := by
  have h1 := h.1
  have h2 := h.2
  exact ⟨a.toNatClampNeg, by show a.toInt.toNat < n; omega, (wx_nIcl h (by omega)).symm⟩
theorem ix {n : Nat} (h : n < 1000) : (nI n).toNatClampNeg = n := nI_clamp (by omega)
theorem ix_0 : (0 : Int32).toNatClampNeg = 0 := by decide
theorem ix_1 : (1 : Int32).toNatClampNeg = 1 := by decide
theorem ix_2 : (2 : Int32).toNatClampNeg = 2 := by decide
theorem ix_3 : (3 : Int32).toNatClampNeg = 3 := by decide
theorem ix_4 : (4 : Int32).toNatClampNeg = 4 := by decide
theorem ix_51 : (51 : Int32).toNatClampNeg = 51 := by decide
theorem ix_148 : (148 : Int32).toNatClampNeg = 148 := by decide
theorem ix_a5 {n : Nat} (h : n < 1000) : ((5 : Int32) + nI n).toNatClampNeg = 5 + n := by
  rw [show (5 : Int32) = nI 5 from rfl, nI_add]; exact nI_clamp (by omega)
theorem ix_a43 {n : Nat} (h : n < 1000) : ((43 : Int32) + nI n).toNatClampNeg = 43 + n := by
  rw [show (43 : Int32) = nI 43 from rfl, nI_add]; exact nI_clamp (by omega)
theorem ix_a47 {n : Nat} (h : n < 1000) : ((47 : Int32) + nI n).toNatClampNeg = 47 + n := by
  rw [show (47 : Int32) = nI 47 from rfl, nI_add]; exact nI_clamp (by omega)
theorem ix_a52 {n : Nat} (h : n < 1000) : ((52 : Int32) + nI n).toNatClampNeg = 52 + n := by
  rw [show (52 : Int32) = nI 52 from rfl, nI_add]; exact nI_clamp (by omega)
theorem ix_a100 {n : Nat} (h : n < 1000) : ((100 : Int32) + nI n).toNatClampNeg = 100 + n := by
  rw [show (100 : Int32) = nI 100 from rfl, nI_add]; exact nI_clamp (by omega)
theorem m_seat (r m : Nat) : r_X11_seatNumber (nI r) (nI m) = nI (6 * m + r) := by
  unfold r_X11_seatNumber
  rw [show (6 : Int32) = nI 6 from rfl, pk_mul, nI_add]
theorem ix_s52 {r m : Nat} (hr : r < 1000) (hm : m < 1000) : (((52 : Int32) + (6 * nI m)) + nI r).toNatClampNeg = 52 + (6 * m + r) := by
  rw [show (52 : Int32) = nI 52 from rfl, show (6 : Int32) = nI 6 from rfl, pk_mul, nI_add, nI_add, Nat.add_assoc]; exact nI_clamp (by omega)
theorem ix_s100 {r m : Nat} (hr : r < 1000) (hm : m < 1000) : (((100 : Int32) + (6 * nI m)) + nI r).toNatClampNeg = 100 + (6 * m + r) := by
  rw [show (100 : Int32) = nI 100 from rfl, show (6 : Int32) = nI 6 from rfl, pk_mul, nI_add, nI_add, Nat.add_assoc]; exact nI_clamp (by omega)
theorem ix_s {r m : Nat} (hr : r < 1000) (hm : m < 1000) : (r_X11_seatNumber (nI r) (nI m)).toNatClampNeg = 6 * m + r := by
  rw [m_seat]; exact nI_clamp (by omega)
theorem ix_p11 {p m : Nat} (hr : p < 1000) (hm : m < 1000) : (((11 : Int32) + (8 * nI p)) + nI m).toNatClampNeg = 11 + (8 * p + m) := by
  rw [show (11 : Int32) = nI 11 from rfl, show (8 : Int32) = nI 8 from rfl, pk_mul, nI_add, nI_add, Nat.add_assoc]; exact nI_clamp (by omega)
theorem ix_p {p m : Nat} (hr : p < 1000) (hm : m < 1000) : ((8 * nI p) + nI m).toNatClampNeg = 8 * p + m := by
  rw [show (8 : Int32) = nI 8 from rfl, pk_mul, nI_add]; exact nI_clamp (by omega)
theorem m_q6 {k : Nat} (h : k < 1000) : nI k / 6 = nI (k / 6) := by
  rw [show (6 : Int32) = nI 6 from rfl]; exact pk_div (by omega) (by omega) (by omega)
theorem m_r6 {k : Nat} (h : k < 1000) : nI k - nI k / 6 * 6 = nI (k % 6) := by
  rw [show (6 : Int32) = nI 6 from rfl]; exact pk_rem (by omega) (by omega) (by omega)
theorem m_or0 (x : Int32) : x ||| 0 = x := by simp
theorem m_add0 (x : Int32) : x + 0 = x := by simp
theorem m_sub0 (x : Int32) : x - 0 = x := by simp
/-! loops that do the same -/
theorem rep_congr {σ : Type} {f f' : Nat → σ → σ} {s : σ} {n m : Nat} (e : n = m) (h : ∀ t s, t < n → f t s = f' t s) : rep n f s = rep m f' s := by
  subst e
  induction n with
  | zero => rfl
  | succ n ih => rw [rep_succ, rep_succ, ih (fun t s ht => h t s (by omega)), h n _ (by omega)]
theorem repX_congr {σ ρ : Type} {f f' : Nat → σ → σ ⊕ ρ} {s : σ} {n m : Nat} (e : n = m) (h : ∀ t s, t < n → f t s = f' t s) : repX n f s = repX m f' s := by
  subst e
  induction n with
  | zero => rfl
  | succ n ih =>
    show (match repX n f s with | .inl s1 => f n s1 | .inr r => .inr r) = (match repX n f' s with | .inl s1 => f' n s1 | .inr r => .inr r)
    rw [ih (fun t s ht => h t s (by omega))]
    cases repX n f' s with
    | inl s1 => exact h n s1 (by omega)
    | inr r => rfl
/-- two loops, a relation between their states -/
theorem rep_rel {σ τ : Type} {f : Nat → σ → σ} {f' : Nat → τ → τ} {s : σ} {s' : τ} {n : Nat} (I : Nat → σ → τ → Prop) (h0 : I 0 s s') (hl : ∀ t a b, t < n → I t a b → I (t + 1) (f t a) (f' t b)) : I n (rep n f s) (rep n f' s') := by
  induction n with
  | zero => exact h0
  | succ n ih => exact hl n _ _ (by omega) (ih (fun t a b ht => hl t a b (by omega)))
/-- the first step taken out -/
theorem rep_first {σ : Type} (n : Nat) (f : Nat → σ → σ) (s : σ) : rep (n + 1) f s = rep n (fun t => f (t + 1)) (f 0 s) := by
  induction n with
  | zero => rfl
  | succ n ih => rw [rep_succ, ih, rep_succ]
/-! bits -/
theorem m_has : r_X11_has = r_X12_has := funext fun a => funext fun b => Eq.trans rfl rfl
theorem m_bit01 (x : Int32) (k : Int32) : ∃ j : Nat, j < 2 ∧ (x >>> k) &&& 1 = nI j := by
  obtain ⟨j, h1, h2⟩ := pk_andE (x >>> k) (m := 1) 1 (by decide)
  exact ⟨j, by omega, h2⟩
def bN (x : Int32) : Nat := fb_sm (fun k => ((x >>> (nI k &&& 31)) &&& 1).toNatClampNeg) 8
theorem m_bits (g : wx_M) (x : Int32) : r_X12_bits g x = nI (bN x) := by
  have key : ∀ n, rep n (b_X12_bits_4 g x) 0 = nI (fb_sm (fun k => ((x >>> (nI k &&& 31)) &&& 1).toNatClampNeg) n) := by
    intro n
    induction n with
    | zero => rfl
    | succ n ih =>
      rw [rep_succ, ih, fb_sm_succ]
      simp only [b_X12_bits_4]
      obtain ⟨j, h1, h2⟩ := m_bit01 x (nI n &&& 31)
      rw [h2, nI_add, nI_clamp (by omega)]
  exact key 8
theorem bN_le (x : Int32) : bN x ≤ 8 := by
  have := fb_sm_bound (f := fun k => ((x >>> (nI k &&& 31)) &&& 1).toNatClampNeg) (c := 1) (n := 8) (fun k _ => by
    obtain ⟨j, h1, h2⟩ := m_bit01 x (nI k &&& 31)
    show ((x >>> (nI k &&& 31)) &&& 1).toNatClampNeg ≤ 1
    rw [h2, nI_clamp (by omega)]
    omega)
  exact this
theorem m_pop_all : ∀ i : Fin 256, r_J6_bitCount_0f7a4 (nI i.val) = nI (bN (nI i.val)) := by decide +kernel
theorem m_pop {x : Int32} (h : wx_b x 0 255) : r_J6_bitCount_0f7a4 x = nI (bN x) := by
  obtain ⟨i, h1, rfl⟩ := m_ex (n := 255) h
  exact m_pop_all ⟨i, by omega⟩
theorem m_popb {x : Int32} (g : wx_M) (h : wx_b x 0 255) : r_J6_bitCount_0f7a4 x = r_X12_bits g x := by rw [m_pop h, m_bits]
theorem m_or8 {x y : Int32} (h : wx_b x 0 255) (k : wx_b y 0 255) : wx_b (x ||| y) 0 255 := by
  obtain ⟨i, h1, rfl⟩ := m_ex (n := 255) h
  obtain ⟨j, h2, rfl⟩ := m_ex (n := 255) k
  have h3 : nI i ||| nI j = nI (i ||| j) := by
    apply Int32.toBitVec_inj.mp
    show _ = _
    simp [nI, Int32.toBitVec_or, Int32.toBitVec_ofNat, BitVec.ofNat_or]
  have h4 : i ||| j < 2 ^ 8 := Nat.or_lt_two_pow (by omega) (by omega)
  rw [h3]
  exact wb_nI (n := 255) (by omega) (by decide)
