/-! CONSTRUCTORS: a world is w0 ++ lst, the newest cells last; the new object is the last of them -/
def wi_X (D : va_G) (B0 : Nat) (ws : va_W) (H : Heap) : Prop := va_P D vwCl ws H ∧ va_D (fun q => B0 ≤ q) ws
theorem wi_app {w0 lst : va_W} {i : Nat} {x : Nat × va_E} (h : lst[i]? = some x) : (w0 ++ lst)[w0.length + i]? = some x := by
  rw [List.getElem?_append_right (by omega), Nat.add_sub_cancel_left]
  exact h
theorem wi_set {w0 lst : va_W} {i : Nat} {x : Nat × va_E} : (w0 ++ lst).set (w0.length + i) x = w0 ++ lst.set i x := by
  rw [List.set_append_right _ _ (by omega), Nat.add_sub_cancel_left]
def wi_Nw (U : State) : Prop := (va_Nw (.methodLinkNest RX11 17 yX6_init RX11) U ∧ va_Nw (.methodLinkNest RX11 38 yX0_init RX11) U ∧ va_Nw (.methodLinkNest RX11 45 yX8_init RX11) U ∧ va_Nw (.methodLinkNest RX11 50 yX5_init RX11) U) ∧ va_AO RX5 U ∧ va_AO RX3 U ∧ va_AO RX9 U
theorem wi_Nw.warm {s U : State} (hW : s.WarmedH U.vm) (h : wi_Nw s) : wi_Nw U := ⟨⟨va_Nw.warmM hW h.1.1, va_Nw.warmM hW h.1.2.1, va_Nw.warmM hW h.1.2.2.1, va_Nw.warmM hW h.1.2.2.2⟩, va_AO.moved hW.alike h.2.1, va_AO.moved hW.alike h.2.2.1, va_AO.moved hW.alike h.2.2.2⟩
theorem wi_Nw.call {U : State} {fr : JFrame} {mk : MethodId} {a : Array Value} (h : wi_Nw U) : wi_Nw (U.calling fr mk a) := ⟨⟨va_Nw.same (U := U.calling fr mk a) rfl rfl h.1.1, va_Nw.same (U := U.calling fr mk a) rfl rfl h.1.2.1, va_Nw.same (U := U.calling fr mk a) rfl rfl h.1.2.2.1, va_Nw.same (U := U.calling fr mk a) rfl rfl h.1.2.2.2⟩, va_AO.moved (u := U) (U := U.calling fr mk a) (Vm.Alike.refl U.vm) h.2.1, va_AO.moved (u := U) (U := U.calling fr mk a) (Vm.Alike.refl U.vm) h.2.2.1, va_AO.moved (u := U) (U := U.calling fr mk a) (Vm.Alike.refl U.vm) h.2.2.2⟩
/-- N: whether the words for making are wanted -/
def wi_Pc (D : va_G) (cy : Nat → ClassId) (B0 : Nat) (N : Prop) (ws : va_W) (av : List Value) : Array Value → State → Prop := va_Pc av (fun U => (wi_X D B0 ws U.heap ∧ B0 ≤ U.heap.size) ∧ wx_K D cy U ∧ (N → wi_Nw U))
theorem wi_Pc.blind {D : va_G} {cy : Nat → ClassId} {B0 : Nat} {N : Prop} {ws : va_W} {av : List Value} : FrameBlind (wi_Pc D cy B0 N ws av) := fun _ _ _ _ q => ⟨q.1, q.2.1, q.2.2.1.call, fun n => (q.2.2.2 n).call⟩
theorem wi_Pc.pre {D : va_G} {cy : Nat → ClassId} {B0 : Nat} {N : Prop} {ws : va_W} {av : List Value} {s : State} {H : Heap} (hK : wx_K D cy s) (hN : N → wi_Nw s) (hX : wi_X D B0 ws H) (hB : B0 ≤ H.size) : PreS s H (wi_Pc D cy B0 N ws av) av := ⟨wi_Pc.blind, fun U hU hW => ⟨rfl, by rw [hU]; exact ⟨hX, hB⟩, hK.warm hW, fun n => (hN n).warm hW⟩⟩
def wi_Q (D : va_G) (B0 : Nat) (post : va_W → Prop) : Array Value → State → Outcome → State → Prop := fun _ st o t => o = .returned none ∧ (∃ w, post w ∧ wi_X D B0 w t.heap) ∧ va_F (fun q => B0 ≤ q) st t
section WI
variable {p : Program} {l : Launch} {e : Env} {R : Room} {s : State} {m : MethodId} {args : Array Value} {below : List Frame} {meth : Method} {c : Code} {H : Heap} {locs : List Loc} {cells slots : Nat} {Q : State → Prop}
variable {cc : ByteArray} {pc : Nat} {ls : Array Slot} {rest st0 : List Value} {H0 : Heap} {a : Nat} {aa : Array Value} {mc ms : Nat} {free : Addr → Prop}
variable {D : va_G} {cy : Nat → ClassId} {B0 : Nat} {w0 lst : va_W}
theorem wi_call {post : va_W → Prop} (hr : va_Run p l e R s m args below meth c H locs cells slots mc ms (F0 m pc ls st0) rest (wi_Q D B0 post aa) (fun q => B0 ≤ q)) (hS : va_S (fun q => B0 ≤ q) H0 H locs)
    (kk : ∀ (w : va_W) (H1 : Heap) (locs1 : List Loc), post w → wi_X D B0 w H1 → va_S (fun q => B0 ≤ q) H0 H1 locs1 → W p l e R s m args below meth c H1 locs1 (cells + mc) (slots + ms) Q (F0 m (pc + 3) ls rest)) : W p l e R s m args below meth c H locs cells slots Q (F0 m pc ls st0) := by
  intro T hT X
  obtain ⟨v, st₀, t, T', L, h0, X', hL, e1, e2, ⟨hv, ⟨w, hw, hx⟩, hz, hk⟩, st⟩ := hr T hT X
  cases hv
  rw [h0] at hz hk
  obtain ⟨t2, a1, b1⟩ := kk w T'.heap (locs ++ L) hw (by rw [e1]; exact hx)
    ⟨Nat.le_trans hS.1 (by rw [e1]; exact hz), fun q h1 h2 => by rw [e1, hk q (Nat.lt_of_lt_of_le h1 hS.1) h2]; exact hS.2.1 q h1 h2, fun q hq => by
      rcases List.mem_append.mp hq with h | h
      · exact hS.2.2 q h
      · exact hL q h⟩ T' rfl X'
  exact ⟨t2, st t2 a1, b1⟩
theorem wi_get (hexec : p.tables.exec = Jvm.exec) (hb : c.code = cc) {own ref C : String} {T : u_T} {N ci index : Nat} {Ts : List Cond} (hts : ∀ w ∈ Ts, w.before args s = true) (hin : ∀ w ∈ u_ws C T N, w ∈ Ts) (hown : s.vm.findClass own = some m.cls) (hK : wx_K D cy s) (hX : wi_X D B0 (w0 ++ lst) H) (i : Nat) {fs : List Value} (he : lst[i]? = some (a, .inr (ci, fs))) (hc : vwCl[ci]? = some (C, T, N)) (k : Nat) (hk : k < N) (hlink : (Cond.fieldLink own index ref (T k).2.1 (T k).2.2.1).before args s = true) (hsame : ∀ x, s.fieldFound? (T k).1 (T k).2.1 (T k).2.2.1 = some x → s.fieldFound? ref (T k).2.1 (T k).2.2.1 = some x) {v : Value} (hv : fs[k]? = some v) (hdg : decode cc pc = .ok (.getfield index, 3))
    (kk : W p l e R s m args below meth c H locs cells slots Q (F0 m (pc + 3) ls (v :: rest))) : W p l e R s m args below meth c H locs cells slots Q (F0 m pc ls (.ref a :: rest)) :=
  va_get hexec hb hts hin hown hK.1 hX.1 (w0.length + i) (wi_app he) hc k hk hlink hsame hv hdg kk
theorem wi_putF (hexec : p.tables.exec = Jvm.exec) (hb : c.code = cc) {own ref C : String} {T : u_T} {N ci index : Nat} {Ts : List Cond} (hts : ∀ w ∈ Ts, w.before args s = true) (hin : ∀ w ∈ u_ws C T N, w ∈ Ts) (ty0 : Nat → FieldType) (hty : ∀ k, k < N → parseFieldDescriptor (T k).2.2.1 = some (ty0 k)) (hnm : ∀ a, a < N → ∀ b, b < N → a ≠ b → (T a).2.1 ≠ (T b).2.1) (hown : s.vm.findClass own = some m.cls) (hK : wx_K D cy s) (hX : wi_X D B0 (w0 ++ lst) H) (hS : va_S (fun q => B0 ≤ q) H0 H locs) (i : Nat) {fs : List Value} (he : lst[i]? = some (a, .inr (ci, fs))) (hc : vwCl[ci]? = some (C, T, N)) (k : Nat) (hk : k < N) (hlink : (Cond.fieldLink own index ref (T k).2.1 (T k).2.2.1).before args s = true) (hsame : ∀ x, s.fieldFound? (T k).1 (T k).2.1 (T k).2.2.1 = some x → s.fieldFound? ref (T k).2.1 (T k).2.2.1 = some x) (hfin : (T k).2.2.2 = true) (hin2 : meth.name = "<init>") (hdecl : (T k).1 = own) {ty : FieldType} {v : Value} (hd : parseFieldDescriptor (T k).2.2.1 = some ty) (hn : narrow ty v = v) (hfit : fits ty v = true) (hl : k < fs.length) (hdg : decode cc pc = .ok (.putfield index, 3))
    (kk : ∀ (H1 : Heap) (locs1 : List Loc), wi_X D B0 (w0 ++ lst.set i (a, .inr (ci, fs.set k v))) H1 → va_S (fun q => B0 ≤ q) H0 H1 locs1 → W p l e R s m args below meth c H1 locs1 cells slots Q (F0 m (pc + 3) ls rest)) : W p l e R s m args below meth c H locs cells slots Q (F0 m pc ls (v :: .ref a :: rest)) := by
  refine va_putF hexec hb hts hin ty0 hty hnm hown hK.1 hX.1 hX.2 hS (w0.length + i) (wi_app he) hc k hk hlink hsame hfin hin2 hdecl hd hn hfit hl hdg (fun H1 locs1 hP hD hS1 => ?_)
  rw [wi_set] at hP hD
  exact kk H1 locs1 ⟨hP, hD⟩ hS1
theorem wi_put (hexec : p.tables.exec = Jvm.exec) (hb : c.code = cc) {own ref C : String} {T : u_T} {N ci index : Nat} {Ts : List Cond} (hts : ∀ w ∈ Ts, w.before args s = true) (hin : ∀ w ∈ u_ws C T N, w ∈ Ts) (ty0 : Nat → FieldType) (hty : ∀ k, k < N → parseFieldDescriptor (T k).2.2.1 = some (ty0 k)) (hnm : ∀ a, a < N → ∀ b, b < N → a ≠ b → (T a).2.1 ≠ (T b).2.1) (hown : s.vm.findClass own = some m.cls) (hK : wx_K D cy s) (hX : wi_X D B0 (w0 ++ lst) H) (hS : va_S (fun q => B0 ≤ q) H0 H locs) (i : Nat) {fs : List Value} (he : lst[i]? = some (a, .inr (ci, fs))) (hc : vwCl[ci]? = some (C, T, N)) (k : Nat) (hk : k < N) (hlink : (Cond.fieldLink own index ref (T k).2.1 (T k).2.2.1).before args s = true) (hsame : ∀ x, s.fieldFound? (T k).1 (T k).2.1 (T k).2.2.1 = some x → s.fieldFound? ref (T k).2.1 (T k).2.2.1 = some x) (hfin : (T k).2.2.2 = false) {ty : FieldType} {v : Value} (hd : parseFieldDescriptor (T k).2.2.1 = some ty) (hn : narrow ty v = v) (hfit : fits ty v = true) (hl : k < fs.length) (hdg : decode cc pc = .ok (.putfield index, 3))
    (kk : ∀ (H1 : Heap) (locs1 : List Loc), wi_X D B0 (w0 ++ lst.set i (a, .inr (ci, fs.set k v))) H1 → va_S (fun q => B0 ≤ q) H0 H1 locs1 → W p l e R s m args below meth c H1 locs1 cells slots Q (F0 m (pc + 3) ls rest)) : W p l e R s m args below meth c H locs cells slots Q (F0 m pc ls (v :: .ref a :: rest)) := by
  refine va_put hexec hb hts hin ty0 hty hnm hown hK.1 hX.1 hX.2 hS (w0.length + i) (wi_app he) hc k hk hlink hsame hfin hd hn hfit hl hdg (fun H1 locs1 hP hD hS1 => ?_)
  rw [wi_set] at hP hD
  exact kk H1 locs1 ⟨hP, hD⟩ hS1
theorem wi_new (hexec : p.tables.exec = Jvm.exec) (hb : c.code = cc) {own C : String} {T : u_T} {N ci index : Nat} {Ts : List Cond} (hts : ∀ w ∈ Ts, w.before args s = true) (hin : ∀ w ∈ u_ws C T N, w ∈ Ts) (ty : Nat → FieldType) (hty : ∀ k, k < N → parseFieldDescriptor (T k).2.2.1 = some (ty k)) (hown : s.vm.findClass own = some m.cls) (hcl : (Cond.classLink own index C).before args s = true) (hinst : (Cond.instantiable C N).before args s = true) (hini : (Cond.initialized C).before args s = true)
    (hK : wx_K D cy s) (hX : wi_X D B0 (w0 ++ lst) H) (hS : va_S (fun q => B0 ≤ q) H0 H locs) (hB : B0 ≤ H0.size) (hc : vwCl[ci]? = some (C, T, N)) {fs : List Value} (hfs : ∀ j, j < N → defaultValue (ty j) = vp_V fs j) (hcells : cells + 1 ≤ R.cells) (hslots : slots + N ≤ R.slots) (hdg : decode cc pc = .ok (.new index, 3))
    (kk : ∀ (q : Nat) (H1 : Heap), wi_X D B0 (w0 ++ (lst ++ [(q, .inr (ci, fs))])) H1 → va_S (fun q => B0 ≤ q) H0 H1 locs → W p l e R s m args below meth c H1 locs (cells + 1) (slots + N) Q (F0 m (pc + 3) ls (.ref q :: rest))) : W p l e R s m args below meth c H locs cells slots Q (F0 m pc ls rest) := by
  refine va_new hexec hb hts hin ty hty hown hcl hinst hini hK.1 hX.1 hX.2 hS (fun q h => Nat.le_trans hB h) hc hfs hcells hslots hdg (fun q H1 hP hD hS1 => ?_)
  rw [List.append_assoc] at hP hD
  exact kk q H1 ⟨hP, hD⟩ hS1
theorem wi_newI (hexec : p.tables.exec = Jvm.exec) (hb : c.code = cc) (harr : (Cond.arrayClass .int).before args s = true) (hK : wx_K D cy s) (hX : wi_X D B0 (w0 ++ lst) H) (hS : va_S (fun q => B0 ≤ q) H0 H locs) (hB : B0 ≤ H0.size)
    {n : Int32} {N' : Nat} (hn : ¬ n < 0) (hN : n.toNatClampNeg = N') (hbytes : N' * 4 ≤ 536870912) (hcells : cells + 1 ≤ R.cells) (hslots : slots + N' ≤ R.slots) (hdg : decode cc pc = .ok (.newarray .int, 2))
    (kk : ∀ (q : Nat) (H1 : Heap), wi_X D B0 (w0 ++ (lst ++ [(q, .inl (cy 0, N', .inl (fun _ => 0)))])) H1 → va_S (fun q => B0 ≤ q) H0 H1 locs → W p l e R s m args below meth c H1 locs (cells + 1) (slots + N') Q (F0 m (pc + 2) ls (.ref q :: rest))) : W p l e R s m args below meth c H locs cells slots Q (F0 m pc ls (.int n :: rest)) := by
  refine va_newa (atype := .int) (ty := .int) (a0 := (N', .inl (fun _ => 0))) hexec hb harr rfl hK.1 hX.1 hX.2 hS (fun q h => Nat.le_trans hB h) (fun cA => rfl) hn hN hbytes hcells hslots hdg (fun q cA H1 hK1 hP hD hS1 => ?_)
  have e1 := (hK1.2 5 (cA, .int) rfl).2
  have e2 := (hK1.2 0 (cy 0, .int) rfl).2
  have e3 : cA = cy 0 := Option.some.inj (Eq.trans (Eq.symm e1) e2)
  rw [e3, List.append_assoc] at hP hD
  exact kk q H1 ⟨hP, hD⟩ hS1
theorem wi_newZ (hexec : p.tables.exec = Jvm.exec) (hb : c.code = cc) (harr : (Cond.arrayClass .boolean).before args s = true) (hK : wx_K D cy s) (hX : wi_X D B0 (w0 ++ lst) H) (hS : va_S (fun q => B0 ≤ q) H0 H locs) (hB : B0 ≤ H0.size)
    {n : Int32} {N' : Nat} (hn : ¬ n < 0) (hN : n.toNatClampNeg = N') (hbytes : N' * 1 ≤ 536870912) (hcells : cells + 1 ≤ R.cells) (hslots : slots + N' ≤ R.slots) (hdg : decode cc pc = .ok (.newarray .boolean, 2))
    (kk : ∀ (q : Nat) (H1 : Heap), wi_X D B0 (w0 ++ (lst ++ [(q, .inl (cy 1, N', .inl (fun _ => 0)))])) H1 → va_S (fun q => B0 ≤ q) H0 H1 locs → W p l e R s m args below meth c H1 locs (cells + 1) (slots + N') Q (F0 m (pc + 2) ls (.ref q :: rest))) : W p l e R s m args below meth c H locs cells slots Q (F0 m pc ls (.int n :: rest)) := by
  refine va_newa (atype := .boolean) (ty := .boolean) (a0 := (N', .inl (fun _ => 0))) hexec hb harr rfl hK.1 hX.1 hX.2 hS (fun q h => Nat.le_trans hB h) (fun cA => rfl) hn hN hbytes hcells hslots hdg (fun q cA H1 hK1 hP hD hS1 => ?_)
  have e1 := (hK1.2 5 (cA, .boolean) rfl).2
  have e2 := (hK1.2 1 (cy 1, .boolean) rfl).2
  have e3 : cA = cy 1 := Option.some.inj (Eq.trans (Eq.symm e1) e2)
  rw [e3, List.append_assoc] at hP hD
  exact kk q H1 ⟨hP, hD⟩ hS1
theorem wi_newQ (hexec : p.tables.exec = Jvm.exec) (hb : c.code = cc) {own C : String} {index t : Nat} (hown : s.vm.findClass own = some m.cls) (hclink : (Cond.classLink own index C).before args s = true) (hover : va_AO C s) (ht : (wx_tys cy)[t]? = some (cy t, .object C)) (hK : wx_K D cy s) (hX : wi_X D B0 (w0 ++ lst) H) (hS : va_S (fun q => B0 ≤ q) H0 H locs) (hB : B0 ≤ H0.size)
    {n : Int32} {N' : Nat} (hn : ¬ n < 0) (hN : n.toNatClampNeg = N') (hbytes : N' * 4 ≤ 536870912) (hcells : cells + 1 ≤ R.cells) (hslots : slots + N' ≤ R.slots) (hdg : decode cc pc = .ok (.anewarray index, 3))
    (kk : ∀ (q : Nat) (H1 : Heap), wi_X D B0 (w0 ++ (lst ++ [(q, .inl (cy t, N', .inr (.inr (.inr (.inr (fun _ => none))))))])) H1 → va_S (fun q => B0 ≤ q) H0 H1 locs → W p l e R s m args below meth c H1 locs (cells + 1) (slots + N') Q (F0 m (pc + 3) ls (.ref q :: rest))) : W p l e R s m args below meth c H locs cells slots Q (F0 m pc ls (.int n :: rest)) := by
  refine va_newq hexec hb hown hclink hover hK.1 hX.1 hX.2 hS (fun q h => Nat.le_trans hB h) hn hN hbytes hcells hslots hdg (fun q cA H1 hK1 hP hD hS1 => ?_)
  obtain ⟨_, _, -, -, -, e1⟩ := (hK1.2 5 (cA, .object C) rfl).2
  obtain ⟨_, _, -, -, -, e2⟩ := (hK.1.2 t (cy t, .object C) ht).2
  have e3 : cA = cy t := Option.some.inj (Eq.trans (Eq.symm e1) e2)
  rw [e3, List.append_assoc] at hP hD
  exact kk q H1 ⟨hP, hD⟩ hS1
theorem wi_iast (hexec : p.tables.exec = Jvm.exec) (hb : c.code = cc) (hK : wx_K D cy s) (hX : wi_X D B0 (w0 ++ lst) H) (hS : va_S (fun q => B0 ≤ q) H0 H locs) (i0 : Nat) {n : Nat} {f : Nat → Int32} (ha : lst[i0]? = some (a, .inl (cy 0, n, .inl f))) {i x : Int32} (hin : vp_in i n) (hdg : decode cc pc = .ok (.iastore, 1))
    (kk : ∀ (H1 : Heap) (locs1 : List Loc), wi_X D B0 (w0 ++ lst.set i0 (a, .inl (cy 0, n, .inl (upd f i.toNatClampNeg x)))) H1 → va_S (fun q => B0 ≤ q) H0 H1 locs1 → W p l e R s m args below meth c H1 locs1 cells slots Q (F0 m (pc + 1) ls rest)) : W p l e R s m args below meth c H locs cells slots Q (F0 m pc ls (.int x :: .int i :: .ref a :: rest)) := by
  refine va_iast hexec hb hK.1 hX.1 hX.2 hS (w0.length + i0) 0 (wi_app ha) rfl hin hdg (fun H1 locs1 hP hD hS1 => ?_)
  rw [wi_set] at hP hD
  exact kk H1 locs1 ⟨hP, hD⟩ hS1
theorem wi_astq (hexec : p.tables.exec = Jvm.exec) (hb : c.code = cc) (hK : wx_K D cy s) (hX : wi_X D B0 (w0 ++ lst) H) (hS : va_S (fun q => B0 ≤ q) H0 H locs) (i0 t ik ci : Nat) {C : String} {T : u_T} {N : Nat} {n v : Nat} {vs : List Value} {f : Nat → Option Nat} (ha : lst[i0]? = some (a, .inl (cy t, n, .inr (.inr (.inr (.inr f)))))) (ht : (wx_tys cy)[t]? = some (cy t, .object C)) (hv : lst[ik]? = some (v, .inr (ci, vs))) (hc : vwCl[ci]? = some (C, T, N)) {i : Int32} (hin : vp_in i n) (hdg : decode cc pc = .ok (.aastore, 1))
    (kk : ∀ (H1 : Heap) (locs1 : List Loc), wi_X D B0 (w0 ++ lst.set i0 (a, .inl (cy t, n, .inr (.inr (.inr (.inr (va_up f i.toNatClampNeg (some v)))))))) H1 → va_S (fun q => B0 ≤ q) H0 H1 locs1 → W p l e R s m args below meth c H1 locs1 cells slots Q (F0 m (pc + 1) ls rest)) : W p l e R s m args below meth c H locs cells slots Q (F0 m pc ls (.ref v :: .int i :: .ref a :: rest)) := by
  refine va_astq (r := (C, T, N)) hexec hb hK.1 hX.1 hX.2 hS (w0.length + i0) t (w0.length + ik) ci (wi_app ha) ht (wi_app hv) hc hin hdg (fun H1 locs1 hP hD hS1 => ?_)
  rw [wi_set] at hP hD
  exact kk H1 locs1 ⟨hP, hD⟩ hS1
theorem wi_astqO (hexec : p.tables.exec = Jvm.exec) (hb : c.code = cc) (hK : wx_K D cy s) (hX : wi_X D B0 (w0 ++ lst) H) (hS : va_S (fun q => B0 ≤ q) H0 H locs) (i0 t ik ci : Nat) {E C : String} {T : u_T} {N : Nat} {n v : Nat} {vs : List Value} {f : Nat → Option Nat} (ha : lst[i0]? = some (a, .inl (cy t, n, .inr (.inr (.inr (.inr f)))))) (ht : (wx_tys cy)[t]? = some (cy t, .object E)) (hca : va_Nw (.castable C E) s) (hv : lst[ik]? = some (v, .inr (ci, vs))) (hc : vwCl[ci]? = some (C, T, N)) {i : Int32} (hin : vp_in i n) (hdg : decode cc pc = .ok (.aastore, 1))
    (kk : ∀ (H1 : Heap) (locs1 : List Loc), wi_X D B0 (w0 ++ lst.set i0 (a, .inl (cy t, n, .inr (.inr (.inr (.inr (va_up f i.toNatClampNeg (some v)))))))) H1 → va_S (fun q => B0 ≤ q) H0 H1 locs1 → W p l e R s m args below meth c H1 locs1 cells slots Q (F0 m (pc + 1) ls rest)) : W p l e R s m args below meth c H locs cells slots Q (F0 m pc ls (.ref v :: .int i :: .ref a :: rest)) := by
  refine va_astqO (E := E) (r := (C, T, N)) hexec hb hK.1 hX.1 hX.2 hS (w0.length + i0) t (w0.length + ik) ci (wi_app ha) ht hca (wi_app hv) hc hin hdg (fun H1 locs1 hP hD hS1 => ?_)
  rw [wi_set] at hP hD
  exact kk H1 locs1 ⟨hP, hD⟩ hS1
end WI
/-- a constructor from its entry -/
theorem wi_enter {l : Launch} {y : MethodName} {ws ws' : List Cond} {rm : Room} {cc : ByteArray} {maxL : Nat} {D : va_G} {cy : Nat → ClassId} {B0 : Nat} {N : Prop} {w : va_W} {post : va_W → Prop} {av : List Value} {own : String} {lv : List (Nat × Value)} {mc ms : Nat}
    (hy : plainName y.cls = true) (hi : y.name = "<init>") (ho : y.cls = own) (hw : ws = Cond.code y cc maxL none :: ws') (hn : (lg_sl av).length ≤ maxL) (hlv : lv_args 0 av = lv)
    (body : ∀ p e R s m args below meth c (ls : Array Slot) (Qm : State → Prop), p.tables.exec = Jvm.exec → c.code = cc → c.maxLocals = maxL → s.vm.findClass own = some m.cls → meth.name = "<init>" → (∀ w ∈ ws, w.before args s = true) → wx_K D cy s → (N → wi_Nw s) → wi_X D B0 w s.heap → B0 ≤ s.heap.size → va_S (fun q => B0 ≤ q) s.heap s.heap [] → R = rm →
      (∀ (pc : Nat) (ls : Array Slot) (w1 : va_W) (H : Heap) (locs : List Loc), decode cc pc = .ok (.return_, 1) → post w1 → wi_X D B0 w1 H → va_S (fun q => B0 ≤ q) s.heap H locs → W p l e R s m args below meth c H locs mc ms Qm (F0 m pc ls [])) →
      lv_has ls maxL lv → W p l e R s m args below meth c s.heap [] 0 0 Qm (F0 m 0 ls [])) : Met l y ws rm (wi_Pc D cy B0 N w av) (wi_Q D B0 post) mc ms (fun q => B0 ≤ q) := by
  refine Met.ofW (cc := cc) (maxL := maxL) (ret := none) hy hw ?_
  intro p e s m args below meth c s₁ B hml hv
  obtain ⟨rfl, hX, hK, hN⟩ := hv
  have hown : s.vm.findClass y.cls = some m.cls := findClass_of_methodNamed B.named
  rw [ho] at hown
  have hl := lv_entry av (n := maxL) hn
  rw [lg_entry_eq]
  rw [hlv] at hl
  have hlocks : meth.locks = false := B.notSynchronized
  have hnm : meth.name = "<init>" := (name_of_methodNamed B.named B.method).1.trans hi
  exact body p e _ s m _ below meth c _ _ B.exec B.bytes hml hown hnm (atoms_spec (ws := ws) B.pre) hK hN hX.1 hX.2 va_S.rf rfl (fun pc ls w1 H locs hd hw1 hX2 hS2 =>
    W.vret B.exec B.bytes B.returns (fun t ht _ => ⟨rfl, ⟨w1, hw1, by rw [ht]; exact hX2⟩, hS2.F ht⟩) hS2.2.2 hd hlocks) hl
