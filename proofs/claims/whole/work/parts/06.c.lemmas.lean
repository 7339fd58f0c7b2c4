/-! a stretch of a row, by the reference's own places -/
theorem cp_ix {r i k n it : Int32} {a b c d e f : Int} (hr : wx_b r 0 7) (hi : wx_b i a b) (hn : wx_b n c d) (ht : wx_b it e f) (hh : n ≤ it - i) (hk : 0 ≤ k.toInt) (hkn : k.toInt < n.toInt) (ha : 0 ≤ a := by decide) (he : 0 ≤ e := by decide) (hf : f ≤ 40 := by decide) (hc : 0 ≤ c := by decide) : vp_in ((40 * r + i) + k) 320 := by
  have h1 := Int32.le_iff_toInt_le.mp hh
  obtain ⟨i1, i2⟩ := hi
  obtain ⟨t1, t2⟩ := ht
  obtain ⟨n1, n2⟩ := hn
  have r1 := fb_rng i
  have r2 := fb_rng it
  have r3 := fb_rng n
  rw [fb_subI (by omega) (by omega)] at h1
  have hi2 : wx_b i 0 40 := ⟨by omega, by omega⟩
  have hr2 := wb_mul (show wx_b 40 40 40 from ⟨by decide, by decide⟩) hr (by decide) (by decide) (by decide)
  have e1 : (40 * r).toInt = 40 * r.toInt := fb_mulI (by rw [show (40 : Int32).toInt = 40 from rfl]; have := hr.1; omega) (by rw [show (40 : Int32).toInt = 40 from rfl]; have := hr.2; omega)
  have e2 : (40 * r + i).toInt = 40 * r.toInt + i.toInt := by
    rw [fb_addI (by rw [e1]; have := hr.1; omega) (by rw [e1]; have := hr.2; omega), e1]
  have e3 : (40 * r + i + k).toInt = 40 * r.toInt + i.toInt + k.toInt := by
    rw [fb_addI (by rw [e2]; have := hr.1; omega) (by rw [e2]; have := hr.2; omega), e2]
  refine vp_in_iff.mpr ?_
  rw [e3]
  have := hr.1
  have := hr.2
  omega
theorem cp_dec {k : Int32} (h : 0 ≤ k.toInt) (_ : True := trivial) : (k + (-1)).toInt = k.toInt - 1 := by
  have r := fb_rng k
  have e : (-1 : Int32).toInt = -1 := by decide
  rw [fb_addI (by rw [e]; omega) (by rw [e]; omega), e]
  omega
theorem cp_sub1 {n : Int32} {c d : Int} (h : wx_b n c d) (hc : 0 ≤ c) : (n - 1).toInt = n.toInt - 1 - ((0 : Nat) : Int) := by
  have h1 := h.1
  have r := fb_rng n
  have e : (1 : Int32).toInt = 1 := rfl
  rw [fb_subI (by rw [e]; omega) (by rw [e]; omega), e]
  omega
theorem cp_n40 {i n it : Int32} {a b c d e f : Int} (hi : wx_b i a b) (hn : wx_b n c d) (ht : wx_b it e f) (hh : n ≤ it - i) (ha : 0 ≤ a := by decide) (he : 0 ≤ e := by decide) (hf : f ≤ 40 := by decide) : n.toInt ≤ 40 := by
  have h1 := Int32.le_iff_toInt_le.mp hh
  obtain ⟨i1, i2⟩ := hi
  obtain ⟨t1, t2⟩ := ht
  have r1 := fb_rng i
  have r2 := fb_rng it
  rw [fb_subI (by omega) (by omega)] at h1
  omega
theorem hi_cp {g : wx_M} {k : Nat} {i n : Int32} (hs : wx_b (g k 2) 0 40) (w : ¬ r_X5_hasItems g k i n = 0) : (¬ i < 0) ∧ (¬ n < 0) ∧ i.toNatClampNeg + n.toNatClampNeg ≤ 40 := by
  simp only [r_X5_hasItems] at w
  split at w
  · exact absurd rfl w
  · rename_i c1
    split at w
    · exact absurd rfl w
    · rename_i c2
      split at w
      · exact absurd rfl w
      · rename_i c3
        split at w
        · exact absurd rfl w
        · rename_i c4
          have h1 := Int32.le_iff_toInt_le.mp (Int32.not_lt.mp c1)
          have h2 := Int32.le_iff_toInt_le.mp (Int32.not_lt.mp c2)
          have h3 := Int32.le_iff_toInt_le.mp (Int32.not_lt.mp c3)
          have h4 := Int32.le_iff_toInt_le.mp (Int32.not_lt.mp c4)
          have e0 : (0 : Int32).toInt = 0 := rfl
          obtain ⟨s1, s2⟩ := hs
          rw [fb_subI (by omega) (by omega)] at h4
          refine ⟨c1, c2, ?_⟩
          show i.toInt.toNat + n.toInt.toNat ≤ 40
          omega
/-! the acts that are kept -/
def wx_AI (g : wx_M) : Prop := ∀ i, i ≤ 23 → wx_b (g 51 i) 0 5 ∧ wx_b (g 52 i) 0 5 ∧ wx_b (g 53 i) 0 7 ∧ ((g 50 i = 0 ∨ g 50 i = 1) → wx_b (g 51 i) 0 3)
def wx_AM (g : wx_M) : Prop := ∀ i, i ≤ 23 → wx_b (g 68 (5 * i + 1)) 0 5 ∧ wx_b (g 68 (5 * i + 2)) 0 5 ∧ wx_b (g 68 (5 * i + 3)) 0 7 ∧ (g 68 (5 * i) < 2 → wx_b (g 68 (5 * i + 1)) 0 3)
theorem am_ix0 {x : Int32} (h : wx_b x 0 23) : (5 * x).toNatClampNeg = 5 * x.toNatClampNeg ∧ (5 * x).toInt = 5 * x.toInt := by
  obtain ⟨h1, h2⟩ := h
  have e5 : (5 : Int32).toInt = 5 := rfl
  have e1 : (5 * x).toInt = 5 * x.toInt := by rw [fb_mulI (by rw [e5]; omega) (by rw [e5]; omega), e5]
  refine ⟨?_, e1⟩
  show (5 * x).toInt.toNat = 5 * x.toInt.toNat
  omega
theorem am_ix {x j : Int32} {m : Nat} (h : wx_b x 0 23) (hj : j.toInt = m) (hm : m ≤ 4) : (5 * x + j).toNatClampNeg = 5 * x.toNatClampNeg + m := by
  obtain ⟨h3, h4⟩ := am_ix0 h
  obtain ⟨h1, h2⟩ := h
  have e1 : (5 * x + j).toInt = 5 * x.toInt + m := by rw [fb_addI (by omega) (by omega)]; omega
  show (5 * x + j).toInt.toNat = 5 * x.toInt.toNat + m
  omega
theorem am_1 {g : wx_M} {x : Int32} (hu : wx_AM g) (h : wx_b x 0 23) : wx_b (g 68 (5 * x + 1).toNatClampNeg) 0 5 := by
  rw [am_ix (m := 1) h rfl (by decide)]
  exact (hu _ (wb_cl (n := 23) h (by decide))).1
theorem am_2 {g : wx_M} {x : Int32} (hu : wx_AM g) (h : wx_b x 0 23) : wx_b (g 68 (5 * x + 2).toNatClampNeg) 0 5 := by
  rw [am_ix (m := 2) h rfl (by decide)]
  exact (hu _ (wb_cl (n := 23) h (by decide))).2.1
theorem am_3 {g : wx_M} {x : Int32} (hu : wx_AM g) (h : wx_b x 0 23) : wx_b (g 68 (5 * x + 3).toNatClampNeg) 0 7 := by
  rw [am_ix (m := 3) h rfl (by decide)]
  exact (hu _ (wb_cl (n := 23) h (by decide))).2.2.1
theorem am_v {g : wx_M} {x : Int32} (hu : wx_AM g) (h : wx_b x 0 23) (hs : g 68 (5 * x).toNatClampNeg < 2) : wx_b (g 68 (5 * x + 1).toNatClampNeg) 0 3 := by
  rw [am_ix (m := 1) h rfl (by decide)]
  rw [(am_ix0 h).1] at hs
  exact (hu _ (wb_cl (n := 23) h (by decide))).2.2.2 hs
/-! methods behind which the guests may be others -/
theorem wx_enterXI {l : Launch} {y : MethodName} {ws ws' : List Cond} {rm : Room} {cc : ByteArray} {maxL : Nat} {ty : FieldType} {D : va_G} {cy : Nat → ClassId} {ad : Nat → Nat} {B0 : Nat} {f : wx_F} {P : va_W} {g g1 : wx_M} {av : List Value} {own : String} {lv : List (Nat × Value)} {r : Int32}
    (hy : plainName y.cls = true) (ho : y.cls = own) (hw : ws = Cond.code y cc maxL (some ty) :: ws') (hn : (lg_sl av).length ≤ maxL) (hlv : lv_args 0 av = lv)
    (body : ∀ p e R s m args below meth c (ls : Array Slot) (Qm : State → Prop), p.tables.exec = Jvm.exec → c.code = cc → c.maxLocals = maxL → s.vm.findClass own = some m.cls → (∀ w ∈ ws, w.before args s = true) → wx_K D cy s → wx_X D cy ad B0 f P g s.heap → va_S (fun q => B0 ≤ q) s.heap s.heap [] → R = rm →
      (∀ (v : Int32) (pc : Nat) (ls : Array Slot) (g2 : wx_M) (H : Heap) (locs : List Loc) (f2 : wx_F) (P2 : va_W), decode cc pc = .ok (.ireturn, 1) → narrow ty (.int v) = .int v → wx_X D cy ad B0 f2 P2 g2 H → va_S (fun q => B0 ≤ q) s.heap H locs → (g1, r) = (g2, v) → W p l e R s m args below meth c H locs 0 0 Qm (F0 m pc ls [.int v])) →
      lv_has ls maxL lv → W p l e R s m args below meth c s.heap [] 0 0 Qm (F0 m 0 ls [])) : Met l y ws rm (wx_Pc D cy ad B0 f P g av) (wx_Qx D cy ad B0 g1 (some (.int r))) 0 0 (fun q => B0 ≤ q) := by
  refine Met.ofW (cc := cc) (maxL := maxL) (ret := some ty) hy hw ?_
  intro p e s m args below meth c s₁ B hml hv
  obtain ⟨rfl, hX, hK⟩ := hv
  have hown : s.vm.findClass y.cls = some m.cls := findClass_of_methodNamed B.named
  rw [ho] at hown
  have hl := lv_entry av (n := maxL) hn
  rw [lg_entry_eq]
  rw [hlv] at hl
  have hlocks : meth.locks = false := B.notSynchronized
  exact body p e _ s m _ below meth c _ _ B.exec B.bytes hml hown (atoms_spec (ws := ws) B.pre) hK hX va_S.rf rfl (fun v pc ls g2 H locs f2 P2 hd hnv hX2 hS2 hrv => by
    cases hrv
    exact W.zret B.exec B.bytes B.returns hnv (fun t ht _ => ⟨rfl, ⟨f2, P2, by rw [ht]; exact hX2⟩, hS2.F ht⟩) hS2.2.2 hd hlocks) hl
theorem wx_enterXV {l : Launch} {y : MethodName} {ws ws' : List Cond} {rm : Room} {cc : ByteArray} {maxL : Nat} {D : va_G} {cy : Nat → ClassId} {ad : Nat → Nat} {B0 : Nat} {f : wx_F} {P : va_W} {g g1 : wx_M} {av : List Value} {own : String} {lv : List (Nat × Value)}
    (hy : plainName y.cls = true) (ho : y.cls = own) (hw : ws = Cond.code y cc maxL none :: ws') (hn : (lg_sl av).length ≤ maxL) (hlv : lv_args 0 av = lv)
    (body : ∀ p e R s m args below meth c (ls : Array Slot) (Qm : State → Prop), p.tables.exec = Jvm.exec → c.code = cc → c.maxLocals = maxL → s.vm.findClass own = some m.cls → (∀ w ∈ ws, w.before args s = true) → wx_K D cy s → wx_X D cy ad B0 f P g s.heap → va_S (fun q => B0 ≤ q) s.heap s.heap [] → R = rm →
      (∀ (pc : Nat) (ls : Array Slot) (g2 : wx_M) (H : Heap) (locs : List Loc) (f2 : wx_F) (P2 : va_W), decode cc pc = .ok (.return_, 1) → wx_X D cy ad B0 f2 P2 g2 H → va_S (fun q => B0 ≤ q) s.heap H locs → g1 = g2 → W p l e R s m args below meth c H locs 0 0 Qm (F0 m pc ls [])) →
      lv_has ls maxL lv → W p l e R s m args below meth c s.heap [] 0 0 Qm (F0 m 0 ls [])) : Met l y ws rm (wx_Pc D cy ad B0 f P g av) (wx_Qx D cy ad B0 g1 none) 0 0 (fun q => B0 ≤ q) := by
  refine Met.ofW (cc := cc) (maxL := maxL) (ret := none) hy hw ?_
  intro p e s m args below meth c s₁ B hml hv
  obtain ⟨rfl, hX, hK⟩ := hv
  have hown : s.vm.findClass y.cls = some m.cls := findClass_of_methodNamed B.named
  rw [ho] at hown
  have hl := lv_entry av (n := maxL) hn
  rw [lg_entry_eq]
  rw [hlv] at hl
  have hlocks : meth.locks = false := B.notSynchronized
  exact body p e _ s m _ below meth c _ _ B.exec B.bytes hml hown (atoms_spec (ws := ws) B.pre) hK hX va_S.rf rfl (fun pc ls g2 H locs f2 P2 hd hX2 hS2 hrv => by
    subst hrv
    exact W.vret B.exec B.bytes B.returns (fun t ht _ => ⟨rfl, ⟨f2, P2, by rw [ht]; exact hX2⟩, hS2.F ht⟩) hS2.2.2 hd hlocks) hl
section WCX
variable {p : Program} {l : Launch} {e : Env} {R : Room} {s : State} {m : MethodId} {args : Array Value} {below : List Frame} {meth : Method} {c : Code} {H : Heap} {locs : List Loc} {cells slots : Nat} {Q : State → Prop}
variable {pc : Nat} {ls : Array Slot} {rest st0 : List Value} {H0 : Heap} {a : Array Value}
variable {D : va_G} {cy : Nat → ClassId} {ad : Nat → Nat} {B0 : Nat} {g : wx_M}
theorem wx_callxi {v : Int32} (hr : va_Run p l e R s m args below meth c H locs cells slots 0 0 (F0 m pc ls st0) rest (wx_Qx D cy ad B0 g (some (.int v)) a) (fun q => B0 ≤ q)) (hS : va_S (fun q => B0 ≤ q) H0 H locs)
    (kk : ∀ (f1 : wx_F) (P1 : va_W) (H1 : Heap) (locs1 : List Loc), wx_X D cy ad B0 f1 P1 g H1 → va_S (fun q => B0 ≤ q) H0 H1 locs1 → W p l e R s m args below meth c H1 locs1 cells slots Q (F0 m (pc + 3) ls (.int v :: rest))) : W p l e R s m args below meth c H locs cells slots Q (F0 m pc ls st0) := wx_callx hr hS kk
theorem wx_callxv (hr : va_Run p l e R s m args below meth c H locs cells slots 0 0 (F0 m pc ls st0) rest (wx_Qx D cy ad B0 g none a) (fun q => B0 ≤ q)) (hS : va_S (fun q => B0 ≤ q) H0 H locs)
    (kk : ∀ (f1 : wx_F) (P1 : va_W) (H1 : Heap) (locs1 : List Loc), wx_X D cy ad B0 f1 P1 g H1 → va_S (fun q => B0 ≤ q) H0 H1 locs1 → W p l e R s m args below meth c H1 locs1 cells slots Q (F0 m (pc + 3) ls rest)) : W p l e R s m args below meth c H locs cells slots Q (F0 m pc ls st0) := wx_callx hr hS kk
end WCX
