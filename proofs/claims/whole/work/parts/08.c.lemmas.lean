theorem wx_enterXIN {l : Launch} {y : MethodName} {ws ws' : List Cond} {rm : Room} {cc : ByteArray} {maxL : Nat} {ty : FieldType} {D : va_G} {cy : Nat → ClassId} {ad : Nat → Nat} {B0 : Nat} {f : wx_F} {P : va_W} {g g1 : wx_M} {av : List Value} {own : String} {lv : List (Nat × Value)} {r : Int32} {mc ms : Nat}
    (hy : plainName y.cls = true) (ho : y.cls = own) (hw : ws = Cond.code y cc maxL (some ty) :: ws') (hn : (lg_sl av).length ≤ maxL) (hlv : lv_args 0 av = lv)
    (body : ∀ p e R s m args below meth c (ls : Array Slot) (Qm : State → Prop), p.tables.exec = Jvm.exec → c.code = cc → c.maxLocals = maxL → s.vm.findClass own = some m.cls → (∀ w ∈ ws, w.before args s = true) → wx_K D cy s → wx_X D cy ad B0 f P g s.heap → va_S (fun q => B0 ≤ q) s.heap s.heap [] → R = rm →
      (∀ (v : Int32) (pc : Nat) (ls : Array Slot) (g2 : wx_M) (H : Heap) (locs : List Loc) (f2 : wx_F) (P2 : va_W) (cells slots : Nat), cells ≤ mc → slots ≤ ms → decode cc pc = .ok (.ireturn, 1) → narrow ty (.int v) = .int v → wx_X D cy ad B0 f2 P2 g2 H → va_S (fun q => B0 ≤ q) s.heap H locs → (g1, r) = (g2, v) → W p l e R s m args below meth c H locs cells slots Qm (F0 m pc ls [.int v])) →
      lv_has ls maxL lv → W p l e R s m args below meth c s.heap [] 0 0 Qm (F0 m 0 ls [])) : Met l y ws rm (wx_Pc D cy ad B0 f P g av) (wx_Qx D cy ad B0 g1 (some (.int r))) mc ms (fun q => B0 ≤ q) := by
  refine Met.ofW (cc := cc) (maxL := maxL) (ret := some ty) hy hw ?_
  intro p e s m args below meth c s₁ B hml hv
  obtain ⟨rfl, hX, hK⟩ := hv
  have hown : s.vm.findClass y.cls = some m.cls := findClass_of_methodNamed B.named
  rw [ho] at hown
  have hl := lv_entry av (n := maxL) hn
  rw [lg_entry_eq]
  rw [hlv] at hl
  have hlocks : meth.locks = false := B.notSynchronized
  exact body p e _ s m _ below meth c _ _ B.exec B.bytes hml hown (atoms_spec (ws := ws) B.pre) hK hX va_S.rf rfl (fun v pc ls g2 H locs f2 P2 cells slots hcc hss hd hnv hX2 hS2 hrv => by
    cases hrv
    refine W.widen hcc hss ?_
    exact W.zret B.exec B.bytes B.returns hnv (fun t ht _ => ⟨rfl, ⟨f2, P2, by rw [ht]; exact hX2⟩, hS2.F ht⟩) hS2.2.2 hd hlocks) hl
section WCXN
variable {p : Program} {l : Launch} {e : Env} {R : Room} {s : State} {m : MethodId} {args : Array Value} {below : List Frame} {meth : Method} {c : Code} {H : Heap} {locs : List Loc} {cells slots : Nat} {Q : State → Prop}
variable {pc : Nat} {ls : Array Slot} {rest st0 : List Value} {H0 : Heap} {a : Array Value} {mc ms : Nat}
variable {D : va_G} {cy : Nat → ClassId} {ad : Nat → Nat} {B0 : Nat} {g : wx_M}
theorem wx_callxiN {v : Int32} (hr : va_Run p l e R s m args below meth c H locs cells slots mc ms (F0 m pc ls st0) rest (wx_Qx D cy ad B0 g (some (.int v)) a) (fun q => B0 ≤ q)) (hS : va_S (fun q => B0 ≤ q) H0 H locs)
    (kk : ∀ (f1 : wx_F) (P1 : va_W) (H1 : Heap) (locs1 : List Loc), wx_X D cy ad B0 f1 P1 g H1 → va_S (fun q => B0 ≤ q) H0 H1 locs1 → W p l e R s m args below meth c H1 locs1 (cells + mc) (slots + ms) Q (F0 m (pc + 3) ls (.int v :: rest))) : W p l e R s m args below meth c H locs cells slots Q (F0 m pc ls st0) := wx_callx hr hS kk
end WCXN
theorem fr_J7_fill {g : wx_M} {ka an k : Nat} {v : Int32} (h : k ≠ ka) : e_J7_fill_53178 g ka an v k = g k := by
  simp only [e_J7_fill_53178]
  exact rep_inv (f := b_J7_fill_53178_5 g ka an v) (s0 := g) (fun _ s => s k = g k) _ rfl (fun t s _ hs => by
    simp only [b_J7_fill_53178_5]
    exact (up2_n h).trans hs)
theorem fr_forgetTold {g : wx_M} {h k : Nat} (h1 : k ≠ h) (h2 : k ≠ h + 1) : e_X3_forgetTold g h k = g k := by
  simp only [e_X3_forgetTold]
  rw [fr_J7_fill h2, up2_n h1, up2_n h1, up2_n h1]
theorem fr_forgetTold_0 {g : wx_M} {h : Nat} : e_X3_forgetTold g h h 0 = g h 0 := by
  simp only [e_X3_forgetTold]
  rw [fr_J7_fill (by omega), up2_sn (by decide), up2_sn (by decide), up2_sn (by decide)]
theorem tT_forgetTold {g : wx_M} {h : Nat} (hh : wx_H h) (hT : wx_TB g) : wx_TB (e_X3_forgetTold g h) := by
  have h1 : 18 ≠ h := by rcases hh with rfl | rfl | rfl | rfl <;> decide
  have h2 : 18 ≠ h + 1 := by rcases hh with rfl | rfl | rfl | rfl <;> decide
  unfold wx_TB
  rw [fr_forgetTold h1 h2]
  exact hT
