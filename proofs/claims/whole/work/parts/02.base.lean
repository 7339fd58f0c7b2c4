/-! THE WORLD: all cells of SeenAgain and of SeenAgainModel, at addresses ad k; their ints as one memory (cell, slot) -/
abbrev wx_M : Type := Nat → Nat → Int32
def up2 (g : wx_M) (k j : Nat) (v : Int32) : wx_M := fun a => if a = k then upd (g k) j v else g a
theorem up2_s (g : wx_M) (k j : Nat) (v : Int32) : up2 g k j v k = upd (g k) j v := by simp [up2]
theorem up2_n {g : wx_M} {k j a : Nat} {v : Int32} (h : a ≠ k) : up2 g k j v a = g a := by simp [up2, h]
theorem up2_ss (g : wx_M) (k j : Nat) (v : Int32) : up2 g k j v k j = v := by simp [up2, upd]
theorem up2_sn {g : wx_M} {k j i : Nat} {v : Int32} (h : i ≠ j) : up2 g k j v k i = g k i := by simp [up2, upd, h]
/-- a whole row becomes another -/
def upR (g : wx_M) (k : Nat) (r : Nat → Int32) : wx_M := fun a => if a = k then r else g a
theorem upR_s (g : wx_M) (k : Nat) (r : Nat → Int32) : upR g k r k = r := by simp [upR]
theorem upR_n {g : wx_M} {k a : Nat} {r : Nat → Int32} (h : a ≠ k) : upR g k r a = g a := by simp [upR, h]
abbrev wx_F : Type := Nat → Nat → Nat
/-- which cell is which: fields of class c, or an array -/
def wx_c (cy : Nat → ClassId) (ad : Nat → Nat) (f : wx_F) (r : Nat → Int32) (k : Nat) : va_E :=
  if k = 0 then .inr (10, [.ref (ad 1), .ref (ad 18), .ref (ad 20), .ref (ad 27), .ref (ad 34), .ref (ad 49), .ref (ad 55), .int (r 7)])
  else if k = 1 then .inl (cy 3, 8, .inr (.inr (.inr (.inr fun j => some (ad (2 + j))))))
  else if k < 10 then .inr (5, [.ref (ad (k + 8)), .int (r 1), .int (r 2), .int (r 3)])
  else if k < 18 then .inl (cy 0, 40, .inl r)
  else if k = 18 then .inr (6, [.ref (ad 19), .int (r 1), .int (r 2), .int (r 3), .int (r 4), .int (r 5), .int (r 6), .int (r 7)])
  else if k = 19 then .inl (cy 0, 140, .inl r)
  else if k = 34 then .inl (cy 2, 2, .inr (.inr (.inr (.inr fun j => some (ad (35 + 7 * j))))))
  else if k = 20 ∨ k = 27 ∨ k = 35 ∨ k = 42 then .inr (3, [.int (r 0), .int (r 1), .int (r 2), .int (r 3), .int (r 4), .int (r 5), .int (r 6), .int (r 7), .int (r 8), .ref (ad (k + 1)), .ref (ad (k + 2)), .ref (ad (k + 3)), .ref (ad (k + 4)), .ref (ad (k + 5)), .ref (ad (k + 6))])
  else if k = 21 ∨ k = 28 ∨ k = 36 ∨ k = 43 then .inl (cy 0, 6, .inl r)
  else if k = 22 ∨ k = 29 ∨ k = 37 ∨ k = 44 then .inl (cy 0, 48, .inl r)
  else if k = 23 ∨ k = 30 ∨ k = 38 ∨ k = 45 then .inl (cy 0, 48, .inl r)
  else if k = 24 ∨ k = 31 ∨ k = 39 ∨ k = 46 then .inl (cy 0, 32, .inl r)
  else if k = 25 ∨ k = 32 ∨ k = 40 ∨ k = 47 then .inl (cy 0, 4, .inl r)
  else if k = 26 ∨ k = 33 ∨ k = 41 ∨ k = 48 then .inl (cy 4, 4, .inr (.inr (.inr (.inr fun j => some (f k j)))))
  else if k = 49 then .inr (0, [.ref (ad 50), .ref (ad 51), .ref (ad 52), .ref (ad 53), .ref (ad 54), .int (r 5), .int (r 6)])
  else if k < 55 then .inl (cy 0, 24, .inl r)
  else if k = 55 then .inr (8, [.ref (ad 56), .int (r 1)])
  else if k = 56 then .inl (cy 0, 16, .inl r)
  else if k = 57 then .inr (11, [.ref (ad 58), .ref (ad 59), .ref (ad 60), .int (r 3), .int (r 4), .ref (ad 61), .int (r 6), .int (r 7), .int (r 8), .int (r 9), .int (r 10), .int (r 11), .int (r 12), .int (r 13), .int (r 14), .ref (ad 62), .int (r 16), .ref (ad 63), .int (r 18), .ref (ad 64), .ref (ad 65), .ref (ad 66), .ref (ad 67), .int (r 23), .ref (ad 68), .int (r 25), .ref (ad 69)])
  else if k = 58 then .inl (cy 0, 8, .inl r)
  else if k = 59 then .inl (cy 0, 8, .inl r)
  else if k = 60 then .inl (cy 0, 320, .inl r)
  else if k = 61 then .inl (cy 0, 140, .inl r)
  else if k = 62 then .inl (cy 0, 18, .inl r)
  else if k = 63 then .inl (cy 0, 32, .inl r)
  else if k = 64 then .inl (cy 0, 8, .inl r)
  else if k = 65 then .inl (cy 0, 149, .inl r)
  else if k = 66 then .inl (cy 0, 298, .inl r)
  else if k = 67 then .inl (cy 1, 2, .inl r)
  else if k = 68 then .inl (cy 0, 120, .inl r)
  else .inl (cy 0, 16, .inl r)
def wx_N : Nat := 70
def wx_L (cy : Nat → ClassId) (ad : Nat → Nat) (f : wx_F) (g : wx_M) : va_W := (List.range wx_N).map (fun k => (ad k, wx_c cy ad f (g k) k))
theorem wx_L_len (cy : Nat → ClassId) (ad : Nat → Nat) (f : wx_F) (g : wx_M) : (wx_L cy ad f g).length = 70 := by simp [wx_L, wx_N]
theorem wx_L_at {cy : Nat → ClassId} {ad : Nat → Nat} {f : wx_F} {g : wx_M} (P : va_W) {k : Nat} (hk : k < 70) : (wx_L cy ad f g ++ P)[k]? = some (ad k, wx_c cy ad f (g k) k) := by
  rw [List.getElem?_append_left (by rw [wx_L_len]; exact hk)]
  simp [wx_L, wx_N, hk]
theorem wx_L_set {cy : Nat → ClassId} {ad : Nat → Nat} {f f' : wx_F} {g g' : wx_M} (P : va_W) {k : Nat} {e : va_E} (hk : k < 70) (he : wx_c cy ad f' (g' k) k = e) (ho : ∀ a, a ≠ k → wx_c cy ad f' (g' a) a = wx_c cy ad f (g a) a) : (wx_L cy ad f g ++ P).set k (ad k, e) = wx_L cy ad f' g' ++ P := by
  rw [List.set_append_left _ _ (by rw [wx_L_len]; exact hk)]
  congr 1
  apply List.ext_getElem?
  intro i
  by_cases hi : i = k
  · subst hi
    rw [List.getElem?_set_self (by rw [wx_L_len]; exact hk)]
    simp [wx_L, wx_N, hk, he]
  · rw [List.getElem?_set_ne (Ne.symm hi)]
    by_cases h70 : i < 70
    · simp [wx_L, wx_N, h70, ho i hi]
    · rw [List.getElem?_eq_none (by rw [wx_L_len]; omega), List.getElem?_eq_none (by rw [wx_L_len]; omega)]
/-- the four HOUSES: house, draft, the two images -/
def wx_H (h : Nat) : Prop := h = 20 ∨ h = 27 ∨ h = 35 ∨ h = 42
/-- the kind that is told (1 tourist, 2 liar, 3 detective, 4 writer, 5 heir), and its class -/
def wx_v (x : Int32) (ci : Nat) : Prop := (x = 1 ∧ ci = 7) ∨ (x = 2 ∧ ci = 4) ∨ (x = 3 ∧ ci = 1) ∨ (x = 4 ∧ ci = 9) ∨ (x = 5 ∧ ci = 2)
/-- the guests' arrays hold visitors of the pool: of the kind that the memory tells, with their numbers -/
def wx_G (f : wx_F) (P : va_W) (g : wx_M) : Prop := ∀ h, wx_H h → ∀ j, j < 4 → ∃ (i ci : Nat), P[i]? = some (f (h + 6) j, (Sum.inr (ci, [Value.int (nI j)]) : va_E)) ∧ wx_v (g (h + 6) j) ci
abbrev wx_tys (cy : Nat → ClassId) : List (ClassId × FieldType) := [(cy 0, .int), (cy 1, .boolean), (cy 2, .object "SeenAgain$House"), (cy 3, .object "SeenAgain$Row"), (cy 4, .object "SeenAgain$Visitor")]
def wx_X (D : va_G) (cy : Nat → ClassId) (ad : Nat → Nat) (B0 : Nat) (f : wx_F) (P : va_W) (g : wx_M) (H : Heap) : Prop :=
  va_P D vwCl (wx_L cy ad f g ++ P) H ∧ va_D (fun q => B0 ≤ q) (wx_L cy ad f g ++ P) ∧ wx_G f P g
/-- words of nest mates; casts that hold; casts that don't -/
abbrev wx_n78 : Cond := .methodLinkNest RX3 78 yX11_has RX11
abbrev wx_n82 : Cond := .methodLinkNest RX3 82 yX11_seatNumber RX11
def wx_yc : List (String × String) := [(RX1, RX7), (RX4, RX7), (RX2, RX10), (RX7, RX9), (RX2, RX9), (RX1, RX9), (RX4, RX9), (RX10, RX9)]
def wx_nc : List (String × String) := [(RX10, RX7), (RX2, RX7), (RX7, RX4), (RX1, RX4), (RX10, RX4), (RX2, RX4), (RX7, RX1), (RX4, RX1), (RX10, RX1), (RX2, RX1), (RX7, RX10), (RX4, RX10), (RX1, RX10), (RX7, RX2), (RX4, RX2), (RX1, RX2), (RX10, RX2)]
abbrev wx_dk : Cond := .declares ⟨"SeenAgain$Visitor", "kindNumber", "()I"⟩
def wx_K (D : va_G) (cy : Nat → ClassId) (U : State) : Prop :=
  va_K D vwCl (wx_tys cy) U ∧ (va_Nw wx_n78 U ∧ va_Nw wx_n82 U) ∧ (∀ q ∈ wx_yc, va_Nw (.castable q.1 q.2) U) ∧ (∀ q ∈ wx_nc, va_Nc q.1 q.2 U) ∧ va_Nw wx_dk U
theorem wx_K.warm {D : va_G} {cy : Nat → ClassId} {s U : State} (hW : s.WarmedH U.vm) (h : wx_K D cy s) : wx_K D cy U :=
  ⟨va_K.moved hW.alike h.1, ⟨va_Nw.warmM hW h.2.1.1, va_Nw.warmM hW h.2.1.2⟩, fun q hq => va_Nw.warmC hW (h.2.2.1 q hq), fun q hq => va_Nc.moved hW.alike (h.2.2.2.1 q hq), va_Nw.warmD hW h.2.2.2.2⟩
theorem wx_K.call {D : va_G} {cy : Nat → ClassId} {U : State} {fr : JFrame} {mk : MethodId} {a : Array Value} (h : wx_K D cy U) : wx_K D cy (U.calling fr mk a) :=
  ⟨va_K.moved (u := U) (U := U.calling fr mk a) (Vm.Alike.refl U.vm) h.1, ⟨va_Nw.same (U := U.calling fr mk a) rfl rfl h.2.1.1, va_Nw.same (U := U.calling fr mk a) rfl rfl h.2.1.2⟩, fun q hq => va_Nw.same (U := U.calling fr mk a) rfl rfl (h.2.2.1 q hq), fun q hq => va_Nc.moved (u := U) (U := U.calling fr mk a) (Vm.Alike.refl U.vm) (h.2.2.2.1 q hq), va_Nw.same (U := U.calling fr mk a) rfl rfl h.2.2.2.2⟩
/-! what a cell is -/
def wx_sO (k ci : Nat) : Prop := ∀ (cy : Nat → ClassId) (ad : Nat → Nat) (f : wx_F) (r : Nat → Int32), ∃ fs, wx_c cy ad f r k = .inr (ci, fs)
def wx_sI (k ci j : Nat) : Prop := ∀ (cy : Nat → ClassId) (ad : Nat → Nat) (f : wx_F) (r : Nat → Int32), ∃ fs, wx_c cy ad f r k = .inr (ci, fs) ∧ fs[j]? = some (.int (r j)) ∧ j < fs.length ∧ ∀ v, wx_c cy ad f (upd r j v) k = .inr (ci, fs.set j (.int v))
def wx_sR (k ci j t : Nat) : Prop := ∀ (cy : Nat → ClassId) (ad : Nat → Nat) (f : wx_F) (r : Nat → Int32), ∃ fs, wx_c cy ad f r k = .inr (ci, fs) ∧ fs[j]? = some (.ref (ad t))
def wx_sA (k n : Nat) : Prop := ∀ (cy : Nat → ClassId) (ad : Nat → Nat) (f : wx_F) (r : Nat → Int32), wx_c cy ad f r k = .inl (cy 0, n, .inl r)
def wx_sZ (k n : Nat) : Prop := ∀ (cy : Nat → ClassId) (ad : Nat → Nat) (f : wx_F) (r : Nat → Int32), wx_c cy ad f r k = .inl (cy 1, n, .inl r)
def wx_sQ (k t n : Nat) (a : Nat → Nat) : Prop := ∀ (cy : Nat → ClassId) (ad : Nat → Nat) (f : wx_F) (r : Nat → Int32), wx_c cy ad f r k = .inl (cy t, n, .inr (.inr (.inr (.inr fun j => some (ad (a j))))))
theorem wx_sG {h : Nat} (hh : wx_H h) (cy : Nat → ClassId) (ad : Nat → Nat) (f : wx_F) (r : Nat → Int32) : wx_c cy ad f r (h + 6) = .inl (cy 4, 4, .inr (.inr (.inr (.inr fun j => some (f (h + 6) j))))) := by
  rcases hh with rfl | rfl | rfl | rfl <;> rfl
theorem wx_c_f {cy : Nat → ClassId} {ad : Nat → Nat} {f f' : wx_F} {r : Nat → Int32} {k : Nat} (h : f' k = f k) : wx_c cy ad f' r k = wx_c cy ad f r k := by
  unfold wx_c
  rw [h]
theorem wx_G.upI {f : wx_F} {P : va_W} {g : wx_M} {k j : Nat} {v : Int32} (h : wx_G f P g) (hk : ∀ b, wx_H b → k ≠ b + 6) : wx_G f P (up2 g k j v) := fun b hb i hi => by
  rw [up2_n (Ne.symm (hk b hb))]
  exact h b hb i hi
theorem wx_G.upR {f : wx_F} {P : va_W} {g : wx_M} {k : Nat} {r : Nat → Int32} (h : wx_G f P g) (hk : ∀ b, wx_H b → k ≠ b + 6) : wx_G f P (upR g k r) := fun b hb i hi => by
  rw [upR_n (Ne.symm (hk b hb))]
  exact h b hb i hi
theorem wx_sI.ng {k ci j : Nat} (hs : wx_sI k ci j) : ∀ b, wx_H b → k ≠ b + 6 := by
  intro b hb e
  obtain ⟨fs, h1, -⟩ := hs (fun _ => 0) (fun _ => 0) (fun _ _ => 0) (fun _ => 0)
  rw [e, wx_sG hb] at h1
  cases h1
theorem wx_sA.ng {k n : Nat} (hs : wx_sA k n) : ∀ b, wx_H b → k ≠ b + 6 := by
  intro b hb e
  have h1 := hs (fun _ => 0) (fun _ => 0) (fun _ _ => 0) (fun _ => 0)
  rw [e, wx_sG hb] at h1
  cases h1
theorem wx_sZ.ng {k n : Nat} (hs : wx_sZ k n) : ∀ b, wx_H b → k ≠ b + 6 := by
  intro b hb e
  have h1 := hs (fun _ => 0) (fun _ => 0) (fun _ _ => 0) (fun _ => 0)
  rw [e, wx_sG hb] at h1
  cases h1
theorem wx_v.cl {kd : Int32} {ci : Nat} (hv : wx_v kd ci) : ∃ (C : String) (T : u_T) (N : Nat), vwCl[ci]? = some (C, T, N) := by
  rcases hv with ⟨-, rfl⟩ | ⟨-, rfl⟩ | ⟨-, rfl⟩ | ⟨-, rfl⟩ | ⟨-, rfl⟩ <;> exact ⟨_, _, _, rfl⟩
/-! the rows of instructions that read and write the world -/
section WX
variable {p : Program} {l : Launch} {e : Env} {R : Room} {s : State} {m : MethodId} {args : Array Value} {below : List Frame} {meth : Method} {c : Code} {H : Heap} {locs : List Loc} {cells slots : Nat} {Q : State → Prop}
variable {cc : ByteArray} {pc : Nat} {ls : Array Slot} {rest : List Value} {H0 : Heap}
variable {D : va_G} {cy : Nat → ClassId} {ad : Nat → Nat} {B0 : Nat} {f : wx_F} {P : va_W} {g : wx_M}
theorem wx_geti (hexec : p.tables.exec = Jvm.exec) (hb : c.code = cc) {own ref C : String} {T : u_T} {N ci index : Nat} {Ts : List Cond} (hts : ∀ w ∈ Ts, w.before args s = true) (hin : ∀ w ∈ u_ws C T N, w ∈ Ts) (hown : s.vm.findClass own = some m.cls) (hK : wx_K D cy s) (hX : wx_X D cy ad B0 f P g H) {k j : Nat} (hk : k < 70) (hs : wx_sI k ci j) (hc : vwCl[ci]? = some (C, T, N)) (hj : j < N) (hlink : (Cond.fieldLink own index ref (T j).2.1 (T j).2.2.1).before args s = true) (hsame : ∀ x, s.fieldFound? (T j).1 (T j).2.1 (T j).2.2.1 = some x → s.fieldFound? ref (T j).2.1 (T j).2.2.1 = some x) (hdg : decode cc pc = .ok (.getfield index, 3))
    (kk : W p l e R s m args below meth c H locs cells slots Q (F0 m (pc + 3) ls (.int (g k j) :: rest))) : W p l e R s m args below meth c H locs cells slots Q (F0 m pc ls (.ref (ad k) :: rest)) := by
  obtain ⟨fs, h1, h2, -⟩ := hs cy ad f (g k)
  exact va_get hexec hb hts hin hown hK.1 hX.1 k (by rw [wx_L_at P hk, h1]) hc j hj hlink hsame h2 hdg kk
theorem wx_getr (hexec : p.tables.exec = Jvm.exec) (hb : c.code = cc) {own ref C : String} {T : u_T} {N ci index : Nat} {Ts : List Cond} (hts : ∀ w ∈ Ts, w.before args s = true) (hin : ∀ w ∈ u_ws C T N, w ∈ Ts) (hown : s.vm.findClass own = some m.cls) (hK : wx_K D cy s) (hX : wx_X D cy ad B0 f P g H) {k j t : Nat} (hk : k < 70) (hs : wx_sR k ci j t) (hc : vwCl[ci]? = some (C, T, N)) (hj : j < N) (hlink : (Cond.fieldLink own index ref (T j).2.1 (T j).2.2.1).before args s = true) (hsame : ∀ x, s.fieldFound? (T j).1 (T j).2.1 (T j).2.2.1 = some x → s.fieldFound? ref (T j).2.1 (T j).2.2.1 = some x) (hdg : decode cc pc = .ok (.getfield index, 3))
    (kk : W p l e R s m args below meth c H locs cells slots Q (F0 m (pc + 3) ls (.ref (ad t) :: rest))) : W p l e R s m args below meth c H locs cells slots Q (F0 m pc ls (.ref (ad k) :: rest)) := by
  obtain ⟨fs, h1, h2⟩ := hs cy ad f (g k)
  exact va_get hexec hb hts hin hown hK.1 hX.1 k (by rw [wx_L_at P hk, h1]) hc j hj hlink hsame h2 hdg kk
theorem wx_puti (hexec : p.tables.exec = Jvm.exec) (hb : c.code = cc) {own ref C : String} {T : u_T} {N ci index : Nat} {Ts : List Cond} (hts : ∀ w ∈ Ts, w.before args s = true) (hin : ∀ w ∈ u_ws C T N, w ∈ Ts) (ty0 : Nat → FieldType) (hty : ∀ k, k < N → parseFieldDescriptor (T k).2.2.1 = some (ty0 k)) (hnm : ∀ a, a < N → ∀ b, b < N → a ≠ b → (T a).2.1 ≠ (T b).2.1) (hown : s.vm.findClass own = some m.cls) (hK : wx_K D cy s) (hX : wx_X D cy ad B0 f P g H) (hS : va_S (fun q => B0 ≤ q) H0 H locs) {k j : Nat} (hk : k < 70) (hs : wx_sI k ci j) (hc : vwCl[ci]? = some (C, T, N)) (hj : j < N) (hlink : (Cond.fieldLink own index ref (T j).2.1 (T j).2.2.1).before args s = true) (hsame : ∀ x, s.fieldFound? (T j).1 (T j).2.1 (T j).2.2.1 = some x → s.fieldFound? ref (T j).2.1 (T j).2.2.1 = some x) (hfin : (T j).2.2.2 = false) {ty : FieldType} {v : Int32} (hd : parseFieldDescriptor (T j).2.2.1 = some ty) (hn : narrow ty (.int v) = .int v) (hfit : fits ty (.int v) = true) (hdg : decode cc pc = .ok (.putfield index, 3))
    (kk : ∀ (H1 : Heap) (locs1 : List Loc), wx_X D cy ad B0 f P (up2 g k j v) H1 → va_S (fun q => B0 ≤ q) H0 H1 locs1 → W p l e R s m args below meth c H1 locs1 cells slots Q (F0 m (pc + 3) ls rest)) : W p l e R s m args below meth c H locs cells slots Q (F0 m pc ls (.int v :: .ref (ad k) :: rest)) := by
  obtain ⟨fs, h1, h2, h3, h4⟩ := hs cy ad f (g k)
  refine va_put hexec hb hts hin ty0 hty hnm hown hK.1 hX.1 hX.2.1 hS k (by rw [wx_L_at P hk, h1]) hc j hj hlink hsame hfin hd hn hfit h3 hdg (fun H1 locs1 hP hD hS1 => ?_)
  have he : (wx_L cy ad f g ++ P).set k (ad k, .inr (ci, fs.set j (.int v))) = wx_L cy ad f (up2 g k j v) ++ P := wx_L_set P hk (by rw [up2_s]; exact h4 v) (fun a ha => by rw [up2_n ha])
  rw [he] at hP hD
  exact kk H1 locs1 ⟨hP, hD, hX.2.2.upI hs.ng⟩ hS1
theorem wx_iald (hexec : p.tables.exec = Jvm.exec) (hb : c.code = cc) (hK : wx_K D cy s) (hX : wx_X D cy ad B0 f P g H) {k n : Nat} (hk : k < 70) (hs : wx_sA k n) {i : Int32} (hin : vp_in i n) (hdg : decode cc pc = .ok (.iaload, 1))
    (kk : W p l e R s m args below meth c H locs cells slots Q (F0 m (pc + 1) ls (.int (g k i.toNatClampNeg) :: rest))) : W p l e R s m args below meth c H locs cells slots Q (F0 m pc ls (.int i :: .ref (ad k) :: rest)) :=
  va_iald hexec hb hK.1 hX.1 k 0 (by rw [wx_L_at P hk, hs cy ad f (g k)]) rfl hin hdg kk
theorem wx_zald (hexec : p.tables.exec = Jvm.exec) (hb : c.code = cc) (hK : wx_K D cy s) (hX : wx_X D cy ad B0 f P g H) {k n : Nat} (hk : k < 70) (hs : wx_sZ k n) {i : Int32} (hin : vp_in i n) (hdg : decode cc pc = .ok (.baload, 1))
    (kk : W p l e R s m args below meth c H locs cells slots Q (F0 m (pc + 1) ls (.int (g k i.toNatClampNeg) :: rest))) : W p l e R s m args below meth c H locs cells slots Q (F0 m pc ls (.int i :: .ref (ad k) :: rest)) :=
  va_zald hexec hb hK.1 hX.1 k 1 (by rw [wx_L_at P hk, hs cy ad f (g k)]) rfl hin hdg kk
theorem wx_iast (hexec : p.tables.exec = Jvm.exec) (hb : c.code = cc) (hK : wx_K D cy s) (hX : wx_X D cy ad B0 f P g H) (hS : va_S (fun q => B0 ≤ q) H0 H locs) {k n : Nat} (hk : k < 70) (hs : wx_sA k n) {i x : Int32} (hin : vp_in i n) (hdg : decode cc pc = .ok (.iastore, 1))
    (kk : ∀ (H1 : Heap) (locs1 : List Loc), wx_X D cy ad B0 f P (up2 g k i.toNatClampNeg x) H1 → va_S (fun q => B0 ≤ q) H0 H1 locs1 → W p l e R s m args below meth c H1 locs1 cells slots Q (F0 m (pc + 1) ls rest)) : W p l e R s m args below meth c H locs cells slots Q (F0 m pc ls (.int x :: .int i :: .ref (ad k) :: rest)) := by
  refine va_iast hexec hb hK.1 hX.1 hX.2.1 hS k 0 (by rw [wx_L_at P hk, hs cy ad f (g k)]) rfl hin hdg (fun H1 locs1 hP hD hS1 => ?_)
  have he : (wx_L cy ad f g ++ P).set k (ad k, .inl (cy 0, n, .inl (upd (g k) i.toNatClampNeg x))) = wx_L cy ad f (up2 g k i.toNatClampNeg x) ++ P := wx_L_set P hk (by rw [up2_s]; exact hs cy ad f _) (fun a ha => by rw [up2_n ha])
  rw [he] at hP hD
  exact kk H1 locs1 ⟨hP, hD, hX.2.2.upI hs.ng⟩ hS1
theorem wx_zast (hexec : p.tables.exec = Jvm.exec) (hb : c.code = cc) (hK : wx_K D cy s) (hX : wx_X D cy ad B0 f P g H) (hS : va_S (fun q => B0 ≤ q) H0 H locs) {k n : Nat} (hk : k < 70) (hs : wx_sZ k n) {i x : Int32} (hin : vp_in i n) (hdg : decode cc pc = .ok (.bastore, 1))
    (kk : ∀ (H1 : Heap) (locs1 : List Loc), wx_X D cy ad B0 f P (up2 g k i.toNatClampNeg (vp_nar .boolean x)) H1 → va_S (fun q => B0 ≤ q) H0 H1 locs1 → W p l e R s m args below meth c H1 locs1 cells slots Q (F0 m (pc + 1) ls rest)) : W p l e R s m args below meth c H locs cells slots Q (F0 m pc ls (.int x :: .int i :: .ref (ad k) :: rest)) := by
  refine va_zast hexec hb hK.1 hX.1 hX.2.1 hS k 1 (by rw [wx_L_at P hk, hs cy ad f (g k)]) rfl hin hdg (fun H1 locs1 hP hD hS1 => ?_)
  have he : (wx_L cy ad f g ++ P).set k (ad k, .inl (cy 1, n, .inl (upd (g k) i.toNatClampNeg (vp_nar .boolean x)))) = wx_L cy ad f (up2 g k i.toNatClampNeg (vp_nar .boolean x)) ++ P := wx_L_set P hk (by rw [up2_s]; exact hs cy ad f _) (fun a ha => by rw [up2_n ha])
  rw [he] at hP hD
  exact kk H1 locs1 ⟨hP, hD, hX.2.2.upI hs.ng⟩ hS1
theorem wx_alen (hexec : p.tables.exec = Jvm.exec) (hb : c.code = cc) (hK : wx_K D cy s) (hX : wx_X D cy ad B0 f P g H) {k n : Nat} (hk : k < 70) (hs : wx_sA k n) {v : Int32} (hv : nI n = v) (hdg : decode cc pc = .ok (.arraylength, 1))
    (kk : W p l e R s m args below meth c H locs cells slots Q (F0 m (pc + 1) ls (.int v :: rest))) : W p l e R s m args below meth c H locs cells slots Q (F0 m pc ls (.ref (ad k) :: rest)) :=
  va_alen (x := (n, .inl (g k))) hexec hb hK.1 hX.1 k 0 (by rw [wx_L_at P hk, hs cy ad f (g k)]) rfl hv hdg kk
theorem wx_qald (hexec : p.tables.exec = Jvm.exec) (hb : c.code = cc) (hK : wx_K D cy s) (hX : wx_X D cy ad B0 f P g H) {k t n : Nat} {C : String} {a : Nat → Nat} (hk : k < 70) (hs : wx_sQ k t n a) (ht : (wx_tys cy)[t]? = some (cy t, .object C)) {i : Int32} (hin : vp_in i n) (hdg : decode cc pc = .ok (.aaload, 1))
    (kk : W p l e R s m args below meth c H locs cells slots Q (F0 m (pc + 1) ls (.ref (ad (a i.toNatClampNeg)) :: rest))) : W p l e R s m args below meth c H locs cells slots Q (F0 m pc ls (.int i :: .ref (ad k) :: rest)) :=
  va_aldq (f := fun j => some (ad (a j))) hexec hb hK.1 hX.1 k t (by rw [wx_L_at P hk, hs cy ad f (g k)]) ht hin hdg kk
theorem wx_gald (hexec : p.tables.exec = Jvm.exec) (hb : c.code = cc) (hK : wx_K D cy s) (hX : wx_X D cy ad B0 f P g H) {h : Nat} (hk : h + 6 < 70) (hh : wx_H h) {i : Int32} (hin : vp_in i 4) (hdg : decode cc pc = .ok (.aaload, 1))
    (kk : ∀ (q ci pi : Nat), P[pi]? = some (q, (Sum.inr (ci, [Value.int i]) : va_E)) → wx_v (g (h + 6) i.toNatClampNeg) ci → W p l e R s m args below meth c H locs cells slots Q (F0 m (pc + 1) ls (.ref q :: rest))) : W p l e R s m args below meth c H locs cells slots Q (F0 m pc ls (.int i :: .ref (ad (h + 6)) :: rest)) := by
  obtain ⟨j, hj, rfl⟩ := vp_in_of hin (by decide)
  obtain ⟨pi, ci, h1, h2⟩ := hX.2.2 h hh j hj
  refine va_aldq hexec hb hK.1 hX.1 (h + 6) 4 (by rw [wx_L_at P hk, wx_sG hh]) rfl hin hdg ?_
  have hcl : (nI j).toNatClampNeg = j := nI_clamp (by omega)
  rw [hcl] at kk ⊢
  exact kk _ ci pi h1 h2
theorem wx_gast (hexec : p.tables.exec = Jvm.exec) (hb : c.code = cc) (hK : wx_K D cy s) (hX : wx_X D cy ad B0 f P g H) (hS : va_S (fun q => B0 ≤ q) H0 H locs) {h : Nat} (hk : h + 6 < 70) (hh : wx_H h) {i kd : Int32} (hin : vp_in i 4) {q ci pi : Nat} (hp : P[pi]? = some (q, (Sum.inr (ci, [Value.int i]) : va_E))) (hv : wx_v kd ci) (hdg : decode cc pc = .ok (.aastore, 1))
    (kk : ∀ (f1 : wx_F) (H1 : Heap) (locs1 : List Loc), wx_X D cy ad B0 f1 P (up2 g (h + 6) i.toNatClampNeg kd) H1 → va_S (fun q => B0 ≤ q) H0 H1 locs1 → W p l e R s m args below meth c H1 locs1 cells slots Q (F0 m (pc + 1) ls rest)) : W p l e R s m args below meth c H locs cells slots Q (F0 m pc ls (.ref q :: .int i :: .ref (ad (h + 6)) :: rest)) := by
  obtain ⟨j, hj, rfl⟩ := vp_in_of hin (by decide)
  have hcl : (nI j).toNatClampNeg = j := nI_clamp (by omega)
  obtain ⟨C, T, N, hc⟩ := wx_v.cl hv
  have hl : (wx_L cy ad f g ++ P)[70 + pi]? = some (q, (Sum.inr (ci, [Value.int (nI j)]) : va_E)) := by
    rw [List.getElem?_append_right (by rw [wx_L_len]; omega), wx_L_len, Nat.add_sub_cancel_left]
    exact hp
  have hca : va_Nw (.castable C "SeenAgain$Visitor") s := by
    rcases hv with ⟨-, rfl⟩ | ⟨-, rfl⟩ | ⟨-, rfl⟩ | ⟨-, rfl⟩ | ⟨-, rfl⟩ <;> cases hc
    · exact hK.2.2.1 (RX7, RX9) (by decide +kernel)
    · exact hK.2.2.1 (RX4, RX9) (by decide +kernel)
    · exact hK.2.2.1 (RX1, RX9) (by decide +kernel)
    · exact hK.2.2.1 (RX10, RX9) (by decide +kernel)
    · exact hK.2.2.1 (RX2, RX9) (by decide +kernel)
  refine va_astqO (E := "SeenAgain$Visitor") (r := (C, T, N)) hexec hb hK.1 hX.1 hX.2.1 hS (h + 6) 4 (70 + pi) ci (by rw [wx_L_at P hk, wx_sG hh]) rfl hca hl hc hin hdg (fun H1 locs1 hP hD hS1 => ?_)
  rw [hcl] at hP hD kk
  have he : (wx_L cy ad f g ++ P).set (h + 6) (ad (h + 6), .inl (cy 4, 4, .inr (.inr (.inr (.inr (va_up (fun j => some (f (h + 6) j)) j (some q))))))) = wx_L cy ad (fun a b => if a = h + 6 ∧ b = j then q else f a b) (up2 g (h + 6) j kd) ++ P := by
    refine wx_L_set P hk ?_ (fun a ha => ?_)
    · rw [wx_sG hh]
      congr 7
      funext b
      by_cases hb : b = j
      · simp [va_up, hb]
      · simp [va_up, hb]
    · rw [up2_n ha]
      exact wx_c_f (funext fun b => by simp [ha])
  rw [he] at hP hD
  refine kk _ H1 locs1 ⟨hP, hD, fun b hb i hi => ?_⟩ hS1
  by_cases hbi : b + 6 = h + 6 ∧ i = j
  · obtain ⟨e1, rfl⟩ := hbi
    refine ⟨pi, ci, ?_, ?_⟩
    · show P[pi]? = some (if b + 6 = h + 6 ∧ i = i then q else f (b + 6) i, _)
      rw [if_pos ⟨e1, rfl⟩]
      exact hp
    · rw [e1, up2_ss]
      exact hv
  · obtain ⟨pi2, ci2, h1, h2⟩ := hX.2.2 b hb i hi
    refine ⟨pi2, ci2, ?_, ?_⟩
    · show P[pi2]? = some (if b + 6 = h + 6 ∧ i = j then q else f (b + 6) i, _)
      rw [if_neg hbi]
      exact h1
    · by_cases hbh : b + 6 = h + 6
      · rw [hbh, up2_sn (fun e => hbi ⟨hbh, e⟩), ← hbh]
        exact h2
      · rw [up2_n hbh]
        exact h2
/-- receiver of a call -/
theorem wx_recv (hK : wx_K D cy s) (hX : wx_X D cy ad B0 f P g H) {k ci N : Nat} {C : String} {T : u_T} (hk : k < 70) (hs : wx_sO k ci) (hc : vwCl[ci]? = some (C, T, N)) : ∃ cell : Cell, H[ad k]? = some cell ∧ cell.vm.isStatics = false ∧ s.vm.findClass C = some cell.cls := by
  obtain ⟨fs, h1⟩ := hs cy ad f (g k)
  exact va_recv hK.1 hX.1 (q0 := k) hc (by rw [wx_L_at P hk, h1])
theorem wx_recvP (hK : wx_K D cy s) (hX : wx_X D cy ad B0 f P g H) {pi ci N q : Nat} {fs : List Value} {C : String} {T : u_T} (hq : P[pi]? = some (q, .inr (ci, fs))) (hc : vwCl[ci]? = some (C, T, N)) : ∃ cell : Cell, H[q]? = some cell ∧ cell.vm.isStatics = false ∧ s.vm.findClass C = some cell.cls := by
  have hl : (wx_L cy ad f g ++ P)[70 + pi]? = some (q, .inr (ci, fs)) := by
    rw [List.getElem?_append_right (by rw [wx_L_len]; omega), wx_L_len, Nat.add_sub_cancel_left]
    exact hq
  exact va_recv hK.1 hX.1 (q0 := 70 + pi) hc hl
theorem wx_getn (hexec : p.tables.exec = Jvm.exec) (hb : c.code = cc) {own ref C : String} {T : u_T} {N ci index : Nat} {Ts : List Cond} (hts : ∀ w ∈ Ts, w.before args s = true) (hin : ∀ w ∈ u_ws C T N, w ∈ Ts) (hown : s.vm.findClass own = some m.cls) (hK : wx_K D cy s) (hX : wx_X D cy ad B0 f P g H) {pi q : Nat} {v : Value} (hq : P[pi]? = some (q, .inr (ci, [v]))) (hc : vwCl[ci]? = some (C, T, N)) (hj : 0 < N) (hlink : (Cond.fieldLink own index ref (T 0).2.1 (T 0).2.2.1).before args s = true) (hsame : ∀ x, s.fieldFound? (T 0).1 (T 0).2.1 (T 0).2.2.1 = some x → s.fieldFound? ref (T 0).2.1 (T 0).2.2.1 = some x) (hdg : decode cc pc = .ok (.getfield index, 3))
    (kk : W p l e R s m args below meth c H locs cells slots Q (F0 m (pc + 3) ls (v :: rest))) : W p l e R s m args below meth c H locs cells slots Q (F0 m pc ls (.ref q :: rest)) := by
  have hl : (wx_L cy ad f g ++ P)[70 + pi]? = some (q, .inr (ci, [v])) := by
    rw [List.getElem?_append_right (by rw [wx_L_len]; omega), wx_L_len, Nat.add_sub_cancel_left]
    exact hq
  exact va_get hexec hb hts hin hown hK.1 hX.1 (70 + pi) hl hc 0 hj hlink hsame rfl hdg kk
theorem wx_copy (hexec : p.tables.exec = Jvm.exec) (hb : c.code = cc) (hml : c.maxLocals = ls.size) {own : String} {index : Nat} (hown : s.vm.findClass own = some m.cls) (hlink : (Cond.methodLink own index arraycopyName).before args s = true) (hnat : (Cond.native arraycopyName).before args s = true) (hstat : (Cond.static arraycopyName).before args s = true) (hini : (Cond.initialized "java/lang/System").before args s = true)
    (hK : wx_K D cy s) (hX : wx_X D cy ad B0 f P g H) (hS : va_S (fun q => B0 ≤ q) H0 H locs) {k1 k2 n1 n2 : Nat} (hk1 : k1 < 70) (hk2 : k2 < 70) (hs1 : wx_sA k1 n1) (hs2 : wx_sA k2 n2) {sp dp n : Int32} (h1 : ¬ sp < 0) (h2 : ¬ dp < 0) (h3 : ¬ n < 0) (h4 : sp.toNatClampNeg + n.toNatClampNeg ≤ n1) (h5 : dp.toNatClampNeg + n.toNatClampNeg ≤ n2)
    (hframes : 1 ≤ R.frames) (hlocals : (rest.map fun v => v.category).sum + (nativeFrameWords "java/lang/System" "arraycopy" 5 + 11) ≤ R.locals) (hdg : decode cc pc = .ok (.invokestatic index, 3))
    (kk : ∀ (H1 : Heap) (locs1 : List Loc), wx_X D cy ad B0 f P (upR g k2 (va_cpy (g k1) (g k2) sp.toNatClampNeg dp.toNatClampNeg n.toNatClampNeg)) H1 → va_S (fun q => B0 ≤ q) H0 H1 locs1 → W p l e R s m args below meth c H1 locs1 cells slots Q (F0 m (pc + 3) ls rest)) : W p l e R s m args below meth c H locs cells slots Q (F0 m pc ls (.int n :: .int dp :: .ref (ad k2) :: .int sp :: .ref (ad k1) :: rest)) := by
  refine va_copyi hexec hb hml hown hlink hnat hstat hini hK.1 hX.1 hX.2.1 hS k1 k2 0 0 (by rw [wx_L_at P hk1, hs1 cy ad f (g k1)]) (by rw [wx_L_at P hk2, hs2 cy ad f (g k2)]) rfl rfl rfl h1 h2 h3 h4 h5 (fun _ _ => rfl) hframes hlocals hdg (fun H1 locs1 hP hD hS1 => ?_)
  have he : (wx_L cy ad f g ++ P).set k2 (ad k2, .inl (cy 0, n2, .inl (va_cpy (g k1) (g k2) sp.toNatClampNeg dp.toNatClampNeg n.toNatClampNeg))) = wx_L cy ad f (upR g k2 (va_cpy (g k1) (g k2) sp.toNatClampNeg dp.toNatClampNeg n.toNatClampNeg)) ++ P := wx_L_set P hk2 (by rw [upR_s]; exact hs2 cy ad f _) (fun a ha => by rw [upR_n ha])
  rw [he] at hP hD
  exact kk H1 locs1 ⟨hP, hD, hX.2.2.upR hs2.ng⟩ hS1
/-- the number of a visitor, of whatever kind -/
theorem wx_getV (hexec : p.tables.exec = Jvm.exec) (hb : c.code = cc) {own ref : String} {index : Nat} {Ts : List Cond} (hts : ∀ w ∈ Ts, w.before args s = true) (h1 : ∀ w ∈ wsX10, w ∈ Ts) (h2 : ∀ w ∈ wsX20, w ∈ Ts) (h4 : ∀ w ∈ wsX40, w ∈ Ts) (h7 : ∀ w ∈ wsX70, w ∈ Ts) (h10 : ∀ w ∈ wsX100, w ∈ Ts) (hown : s.vm.findClass own = some m.cls) (hK : wx_K D cy s) (hX : wx_X D cy ad B0 f P g H) {pi q ci : Nat} {n kd : Int32} (hq : P[pi]? = some (q, (Sum.inr (ci, [Value.int n]) : va_E))) (hv : wx_v kd ci) (hlink : (Cond.fieldLink own index ref "number" "I").before args s = true) (hsame : ∀ x, s.fieldFound? "SeenAgain$Visitor" "number" "I" = some x → s.fieldFound? ref "number" "I" = some x) (hdg : decode cc pc = .ok (.getfield index, 3))
    (kk : W p l e R s m args below meth c H locs cells slots Q (F0 m (pc + 3) ls (.int n :: rest))) : W p l e R s m args below meth c H locs cells slots Q (F0 m pc ls (.ref q :: rest)) := by
  rcases hv with ⟨-, rfl⟩ | ⟨-, rfl⟩ | ⟨-, rfl⟩ | ⟨-, rfl⟩ | ⟨-, rfl⟩
  · exact wx_getn (C := RX7) (T := TX7) (N := 1) hexec hb hts h7 hown hK hX hq rfl (by decide) hlink hsame hdg kk
  · exact wx_getn (C := RX4) (T := TX4) (N := 1) hexec hb hts h4 hown hK hX hq rfl (by decide) hlink hsame hdg kk
  · exact wx_getn (C := RX1) (T := TX1) (N := 1) hexec hb hts h1 hown hK hX hq rfl (by decide) hlink hsame hdg kk
  · exact wx_getn (C := RX10) (T := TX10) (N := 1) hexec hb hts h10 hown hK hX hq rfl (by decide) hlink hsame hdg kk
  · exact wx_getn (C := RX2) (T := TX2) (N := 1) hexec hb hts h2 hown hK hX hq rfl (by decide) hlink hsame hdg kk
theorem wx_inY (hexec : p.tables.exec = Jvm.exec) (hb : c.code = cc) {own C nm : String} {index : Nat} (hown : s.vm.findClass own = some m.cls) (hlink : (Cond.classLink own index nm).before args s = true) (hK : wx_K D cy s) (hX : wx_X D cy ad B0 f P g H) {pi q ci N : Nat} {T : u_T} {fs : List Value} (hq : P[pi]? = some (q, (Sum.inr (ci, fs) : va_E))) (hc : vwCl[ci]? = some (C, T, N)) (hm : (C, nm) ∈ wx_yc) (hdg : decode cc pc = .ok (.instanceof index, 3))
    (k : W p l e R s m args below meth c H locs cells slots Q (F0 m (pc + 3) ls (.int 1 :: rest))) : W p l e R s m args below meth c H locs cells slots Q (F0 m pc ls (.ref q :: rest)) :=
  va_instY hexec hb hown hlink (hK.2.2.1 (C, nm) hm) (wx_recvP hK hX hq hc) hdg k
theorem wx_inS (hexec : p.tables.exec = Jvm.exec) (hb : c.code = cc) {own C : String} {index : Nat} (hown : s.vm.findClass own = some m.cls) (hlink : (Cond.classLink own index C).before args s = true) (hK : wx_K D cy s) (hX : wx_X D cy ad B0 f P g H) {pi q ci N : Nat} {T : u_T} {fs : List Value} (hq : P[pi]? = some (q, (Sum.inr (ci, fs) : va_E))) (hc : vwCl[ci]? = some (C, T, N)) (hdg : decode cc pc = .ok (.instanceof index, 3))
    (k : W p l e R s m args below meth c H locs cells slots Q (F0 m (pc + 3) ls (.int 1 :: rest))) : W p l e R s m args below meth c H locs cells slots Q (F0 m pc ls (.ref q :: rest)) :=
  va_instS hexec hb hown hlink (hK.1.1 _ _ hc).2 (wx_recvP hK hX hq hc) hdg k
theorem wx_inN (hexec : p.tables.exec = Jvm.exec) (hb : c.code = cc) {own C nm : String} {index : Nat} (hown : s.vm.findClass own = some m.cls) (hlink : (Cond.classLink own index nm).before args s = true) (hK : wx_K D cy s) (hX : wx_X D cy ad B0 f P g H) {pi q ci N : Nat} {T : u_T} {fs : List Value} (hq : P[pi]? = some (q, (Sum.inr (ci, fs) : va_E))) (hc : vwCl[ci]? = some (C, T, N)) (hm : (C, nm) ∈ wx_nc) (hdg : decode cc pc = .ok (.instanceof index, 3))
    (k : W p l e R s m args below meth c H locs cells slots Q (F0 m (pc + 3) ls (.int 0 :: rest))) : W p l e R s m args below meth c H locs cells slots Q (F0 m pc ls (.ref q :: rest)) :=
  va_instNo hexec hb hown hlink (hK.2.2.2.1 (C, nm) hm) (wx_recvP hK hX hq hc) hdg k
end WX
/-! contracts -/
def wx_Pc (D : va_G) (cy : Nat → ClassId) (ad : Nat → Nat) (B0 : Nat) (f : wx_F) (P : va_W) (g : wx_M) (av : List Value) : Array Value → State → Prop := va_Pc av (fun U => wx_X D cy ad B0 f P g U.heap ∧ wx_K D cy U)
theorem wx_Pc.blind {D : va_G} {cy : Nat → ClassId} {ad : Nat → Nat} {B0 : Nat} {f : wx_F} {P : va_W} {g : wx_M} {av : List Value} : FrameBlind (wx_Pc D cy ad B0 f P g av) := fun _ _ _ _ q => ⟨q.1, q.2.1, q.2.2.call⟩
theorem wx_Pc.pre {D : va_G} {cy : Nat → ClassId} {ad : Nat → Nat} {B0 : Nat} {f : wx_F} {P : va_W} {g : wx_M} {av : List Value} {s : State} {H : Heap} (hK : wx_K D cy s) (hX : wx_X D cy ad B0 f P g H) : PreS s H (wx_Pc D cy ad B0 f P g av) av := ⟨wx_Pc.blind, fun U hU hW => ⟨rfl, by rw [hU]; exact hX, hK.warm hW⟩⟩
/-- an end that leaves the world with another memory -/
def wx_Qe (D : va_G) (cy : Nat → ClassId) (ad : Nat → Nat) (B0 : Nat) (f : wx_F) (P : va_W) (g : wx_M) (r : Option Value) : Array Value → State → Outcome → State → Prop := fun _ st o t => o = .returned r ∧ wx_X D cy ad B0 f P g t.heap ∧ va_F (fun q => B0 ≤ q) st t
/-- an end behind which the guests may be others -/
def wx_Qx (D : va_G) (cy : Nat → ClassId) (ad : Nat → Nat) (B0 : Nat) (g : wx_M) (r : Option Value) : Array Value → State → Outcome → State → Prop := fun _ st o t => o = .returned r ∧ (∃ f P, wx_X D cy ad B0 f P g t.heap) ∧ va_F (fun q => B0 ≤ q) st t
section WC
variable {p : Program} {l : Launch} {e : Env} {R : Room} {s : State} {m : MethodId} {args : Array Value} {below : List Frame} {meth : Method} {c : Code} {H : Heap} {locs : List Loc} {cells slots : Nat} {Q : State → Prop}
variable {pc : Nat} {ls : Array Slot} {rest st0 : List Value} {H0 : Heap} {a : Array Value} {mc ms : Nat} {free : Addr → Prop}
variable {D : va_G} {cy : Nat → ClassId} {ad : Nat → Nat} {B0 : Nat} {f : wx_F} {P : va_W} {g : wx_M}
theorem wx_callr {r : Int32} (hr : va_Run p l e R s m args below meth c H locs cells slots 0 0 (F0 m pc ls st0) rest (QcRead r a) (fun _ => False)) (kk : W p l e R s m args below meth c H locs cells slots Q (F0 m (pc + 3) ls (.int r :: rest))) : W p l e R s m args below meth c H locs cells slots Q (F0 m pc ls st0) := W.callR hr.run kk
theorem wx_calle {r : Option Value} (hr : va_Run p l e R s m args below meth c H locs cells slots mc ms (F0 m pc ls st0) rest (wx_Qe D cy ad B0 f P g r a) (fun q => B0 ≤ q)) (hS : va_S (fun q => B0 ≤ q) H0 H locs)
    (kk : ∀ (H1 : Heap) (locs1 : List Loc), wx_X D cy ad B0 f P g H1 → va_S (fun q => B0 ≤ q) H0 H1 locs1 → W p l e R s m args below meth c H1 locs1 (cells + mc) (slots + ms) Q (F0 m (pc + 3) ls (r.toList ++ rest))) : W p l e R s m args below meth c H locs cells slots Q (F0 m pc ls st0) := by
  intro T hT X
  obtain ⟨v, st₀, t, T', L, h0, X', hL, e1, e2, ⟨hv, hx, hz, hk⟩, st⟩ := hr T hT X
  cases hv
  rw [h0] at hz hk
  obtain ⟨t2, a1, b1⟩ := kk T'.heap (locs ++ L) (by rw [e1]; exact hx)
    ⟨Nat.le_trans hS.1 (by rw [e1]; exact hz), fun q h1 h2 => by rw [e1, hk q (Nat.lt_of_lt_of_le h1 hS.1) h2]; exact hS.2.1 q h1 h2, fun q hq => by
      rcases List.mem_append.mp hq with h | h
      · exact hS.2.2 q h
      · exact hL q h⟩ T' rfl X'
  exact ⟨t2, st t2 a1, b1⟩
theorem wx_callx {r : Option Value} (hr : va_Run p l e R s m args below meth c H locs cells slots mc ms (F0 m pc ls st0) rest (wx_Qx D cy ad B0 g r a) (fun q => B0 ≤ q)) (hS : va_S (fun q => B0 ≤ q) H0 H locs)
    (kk : ∀ (f1 : wx_F) (P1 : va_W) (H1 : Heap) (locs1 : List Loc), wx_X D cy ad B0 f1 P1 g H1 → va_S (fun q => B0 ≤ q) H0 H1 locs1 → W p l e R s m args below meth c H1 locs1 (cells + mc) (slots + ms) Q (F0 m (pc + 3) ls (r.toList ++ rest))) : W p l e R s m args below meth c H locs cells slots Q (F0 m pc ls st0) := by
  intro T hT X
  obtain ⟨v, st₀, t, T', L, h0, X', hL, e1, e2, ⟨hv, ⟨f1, P1, hx⟩, hz, hk⟩, st⟩ := hr T hT X
  cases hv
  rw [h0] at hz hk
  obtain ⟨t2, a1, b1⟩ := kk f1 P1 T'.heap (locs ++ L) (by rw [e1]; exact hx)
    ⟨Nat.le_trans hS.1 (by rw [e1]; exact hz), fun q h1 h2 => by rw [e1, hk q (Nat.lt_of_lt_of_le h1 hS.1) h2]; exact hS.2.1 q h1 h2, fun q hq => by
      rcases List.mem_append.mp hq with h | h
      · exact hS.2.2 q h
      · exact hL q h⟩ T' rfl X'
  exact ⟨t2, st t2 a1, b1⟩
theorem wx_callei {v : Int32} (hr : va_Run p l e R s m args below meth c H locs cells slots 0 0 (F0 m pc ls st0) rest (wx_Qe D cy ad B0 f P g (some (.int v)) a) (fun q => B0 ≤ q)) (hS : va_S (fun q => B0 ≤ q) H0 H locs)
    (kk : ∀ (H1 : Heap) (locs1 : List Loc), wx_X D cy ad B0 f P g H1 → va_S (fun q => B0 ≤ q) H0 H1 locs1 → W p l e R s m args below meth c H1 locs1 cells slots Q (F0 m (pc + 3) ls (.int v :: rest))) : W p l e R s m args below meth c H locs cells slots Q (F0 m pc ls st0) := wx_calle hr hS kk
theorem wx_callev (hr : va_Run p l e R s m args below meth c H locs cells slots 0 0 (F0 m pc ls st0) rest (wx_Qe D cy ad B0 f P g none a) (fun q => B0 ≤ q)) (hS : va_S (fun q => B0 ≤ q) H0 H locs)
    (kk : ∀ (H1 : Heap) (locs1 : List Loc), wx_X D cy ad B0 f P g H1 → va_S (fun q => B0 ≤ q) H0 H1 locs1 → W p l e R s m args below meth c H1 locs1 cells slots Q (F0 m (pc + 3) ls rest)) : W p l e R s m args below meth c H locs cells slots Q (F0 m pc ls st0) := wx_calle hr hS kk
theorem wx_nm (h : wx_X D cy ad B0 f P g H) : ∃ z, z = g ∧ wx_X D cy ad B0 f P z H := ⟨g, rfl, h⟩
end WC
/-- a method from its entry: it reads only, and answers r -/
theorem wx_enterR {l : Launch} {y : MethodName} {ws ws' : List Cond} {rm : Room} {cc : ByteArray} {maxL : Nat} {ty : FieldType} {D : va_G} {cy : Nat → ClassId} {ad : Nat → Nat} {B0 : Nat} {f : wx_F} {P : va_W} {g : wx_M} {av : List Value} {own : String} {lv : List (Nat × Value)} {r : Int32}
    (hy : plainName y.cls = true) (ho : y.cls = own) (hw : ws = Cond.code y cc maxL (some ty) :: ws') (hn : (lg_sl av).length ≤ maxL) (hlv : lv_args 0 av = lv)
    (body : ∀ p e R s m args below meth c (ls : Array Slot) (Qm : State → Prop), p.tables.exec = Jvm.exec → c.code = cc → c.maxLocals = maxL → s.vm.findClass own = some m.cls → (∀ w ∈ ws, w.before args s = true) → wx_K D cy s → wx_X D cy ad B0 f P g s.heap → R = rm →
      (∀ (v : Int32) (pc : Nat) (ls : Array Slot), decode cc pc = .ok (.ireturn, 1) → narrow ty (.int v) = .int v → r = v → W p l e R s m args below meth c s.heap [] 0 0 Qm (F0 m pc ls [.int v])) →
      lv_has ls maxL lv → W p l e R s m args below meth c s.heap [] 0 0 Qm (F0 m 0 ls [])) : Met l y ws rm (wx_Pc D cy ad B0 f P g av) (QcRead r) 0 0 (fun _ => False) := by
  refine Met.ofW (cc := cc) (maxL := maxL) (ret := some ty) hy hw ?_
  intro p e s m args below meth c s₁ B hml hv
  obtain ⟨rfl, hX, hK⟩ := hv
  have hown : s.vm.findClass y.cls = some m.cls := findClass_of_methodNamed B.named
  rw [ho] at hown
  have hl := lv_entry av (n := maxL) hn
  rw [lg_entry_eq]
  rw [hlv] at hl
  have hlocks : meth.locks = false := B.notSynchronized
  exact body p e _ s m _ below meth c _ _ B.exec B.bytes hml hown (atoms_spec (ws := ws) B.pre) hK hX rfl (fun v pc ls hd hnv hrv => W.zret B.exec B.bytes B.returns hnv (fun t ht _ => ⟨by rw [hrv], ht⟩) (fun _ h => by cases h) hd hlocks) hl
/-- a method that writes: the memory becomes g1, the answer is r -/
theorem wx_enterE {l : Launch} {y : MethodName} {ws ws' : List Cond} {rm : Room} {cc : ByteArray} {maxL : Nat} {ty : FieldType} {D : va_G} {cy : Nat → ClassId} {ad : Nat → Nat} {B0 : Nat} {f : wx_F} {P : va_W} {g g1 : wx_M} {av : List Value} {own : String} {lv : List (Nat × Value)} {r : Int32}
    (hy : plainName y.cls = true) (ho : y.cls = own) (hw : ws = Cond.code y cc maxL (some ty) :: ws') (hn : (lg_sl av).length ≤ maxL) (hlv : lv_args 0 av = lv)
    (body : ∀ p e R s m args below meth c (ls : Array Slot) (Qm : State → Prop), p.tables.exec = Jvm.exec → c.code = cc → c.maxLocals = maxL → s.vm.findClass own = some m.cls → (∀ w ∈ ws, w.before args s = true) → wx_K D cy s → wx_X D cy ad B0 f P g s.heap → va_S (fun q => B0 ≤ q) s.heap s.heap [] → R = rm →
      (∀ (v : Int32) (pc : Nat) (ls : Array Slot) (g2 : wx_M) (H : Heap) (locs : List Loc), decode cc pc = .ok (.ireturn, 1) → narrow ty (.int v) = .int v → wx_X D cy ad B0 f P g2 H → va_S (fun q => B0 ≤ q) s.heap H locs → (g1, r) = (g2, v) → W p l e R s m args below meth c H locs 0 0 Qm (F0 m pc ls [.int v])) →
      lv_has ls maxL lv → W p l e R s m args below meth c s.heap [] 0 0 Qm (F0 m 0 ls [])) : Met l y ws rm (wx_Pc D cy ad B0 f P g av) (wx_Qe D cy ad B0 f P g1 (some (.int r))) 0 0 (fun q => B0 ≤ q) := by
  refine Met.ofW (cc := cc) (maxL := maxL) (ret := some ty) hy hw ?_
  intro p e s m args below meth c s₁ B hml hv
  obtain ⟨rfl, hX, hK⟩ := hv
  have hown : s.vm.findClass y.cls = some m.cls := findClass_of_methodNamed B.named
  rw [ho] at hown
  have hl := lv_entry av (n := maxL) hn
  rw [lg_entry_eq]
  rw [hlv] at hl
  have hlocks : meth.locks = false := B.notSynchronized
  exact body p e _ s m _ below meth c _ _ B.exec B.bytes hml hown (atoms_spec (ws := ws) B.pre) hK hX va_S.rf rfl (fun v pc ls g2 H locs hd hnv hX2 hS2 hrv => by
    cases hrv
    exact W.zret B.exec B.bytes B.returns hnv (fun t ht _ => ⟨rfl, by rw [ht]; exact hX2, hS2.F ht⟩) hS2.2.2 hd hlocks) hl
theorem wx_enterV {l : Launch} {y : MethodName} {ws ws' : List Cond} {rm : Room} {cc : ByteArray} {maxL : Nat} {D : va_G} {cy : Nat → ClassId} {ad : Nat → Nat} {B0 : Nat} {f : wx_F} {P : va_W} {g g1 : wx_M} {av : List Value} {own : String} {lv : List (Nat × Value)}
    (hy : plainName y.cls = true) (ho : y.cls = own) (hw : ws = Cond.code y cc maxL none :: ws') (hn : (lg_sl av).length ≤ maxL) (hlv : lv_args 0 av = lv)
    (body : ∀ p e R s m args below meth c (ls : Array Slot) (Qm : State → Prop), p.tables.exec = Jvm.exec → c.code = cc → c.maxLocals = maxL → s.vm.findClass own = some m.cls → (∀ w ∈ ws, w.before args s = true) → wx_K D cy s → wx_X D cy ad B0 f P g s.heap → va_S (fun q => B0 ≤ q) s.heap s.heap [] → R = rm →
      (∀ (pc : Nat) (ls : Array Slot) (g2 : wx_M) (H : Heap) (locs : List Loc), decode cc pc = .ok (.return_, 1) → wx_X D cy ad B0 f P g2 H → va_S (fun q => B0 ≤ q) s.heap H locs → g1 = g2 → W p l e R s m args below meth c H locs 0 0 Qm (F0 m pc ls [])) →
      lv_has ls maxL lv → W p l e R s m args below meth c s.heap [] 0 0 Qm (F0 m 0 ls [])) : Met l y ws rm (wx_Pc D cy ad B0 f P g av) (wx_Qe D cy ad B0 f P g1 none) 0 0 (fun q => B0 ≤ q) := by
  refine Met.ofW (cc := cc) (maxL := maxL) (ret := none) hy hw ?_
  intro p e s m args below meth c s₁ B hml hv
  obtain ⟨rfl, hX, hK⟩ := hv
  have hown : s.vm.findClass y.cls = some m.cls := findClass_of_methodNamed B.named
  rw [ho] at hown
  have hl := lv_entry av (n := maxL) hn
  rw [lg_entry_eq]
  rw [hlv] at hl
  have hlocks : meth.locks = false := B.notSynchronized
  exact body p e _ s m _ below meth c _ _ B.exec B.bytes hml hown (atoms_spec (ws := ws) B.pre) hK hX va_S.rf rfl (fun pc ls g2 H locs hd hX2 hS2 hrv => by
    subst hrv
    exact W.vret B.exec B.bytes B.returns (fun t ht _ => ⟨rfl, by rw [ht]; exact hX2, hS2.F ht⟩) hS2.2.2 hd hlocks) hl
/-! bounds of ints -/
def wx_b (x : Int32) (a b : Int) : Prop := a ≤ x.toInt ∧ x.toInt ≤ b
theorem wb_any (x : Int32) : wx_b x (-2147483648) 2147483647 := by
  have h1 := fb_rng x
  exact ⟨h1.1, by omega⟩
theorem wb_w {x : Int32} {a b c d : Int} (h : wx_b x a b) (h1 : c ≤ a) (h2 : b ≤ d) : wx_b x c d := ⟨Int.le_trans h1 h.1, Int.le_trans h.2 h2⟩
theorem wb_in {x : Int32} {a b : Int} {n : Nat} (h : wx_b x a b) (h1 : 0 ≤ a) (h2 : b < n) : vp_in x n := vp_in_iff.mpr ⟨Int.le_trans h1 h.1, Int.lt_of_le_of_lt h.2 h2⟩
theorem wb_add {x y : Int32} {a b c d : Int} (h : wx_b x a b) (k : wx_b y c d) (h1 : -2147483648 ≤ a + c) (h2 : b + d < 2147483648) : wx_b (x + y) (a + c) (b + d) := by
  have e := fb_addI (x := x) (y := y) (by have := h.1; have := k.1; omega) (by have := h.2; have := k.2; omega)
  unfold wx_b at *
  rw [e]
  omega
theorem wb_sub {x y : Int32} {a b c d : Int} (h : wx_b x a b) (k : wx_b y c d) (h1 : -2147483648 ≤ a - d) (h2 : b - c < 2147483648) : wx_b (x - y) (a - d) (b - c) := by
  have e := fb_subI (x := x) (y := y) (by have := h.1; have := k.2; omega) (by have := h.2; have := k.1; omega)
  unfold wx_b at *
  rw [e]
  omega
theorem wb_mul {x y : Int32} {a b c d : Int} (h : wx_b x a b) (k : wx_b y c d) (h0 : 0 ≤ a) (k0 : 0 ≤ c) (h2 : b * d < 2147483648) : wx_b (x * y) (a * c) (b * d) := by
  obtain ⟨h3, h4⟩ := h
  obtain ⟨k3, k4⟩ := k
  have x0 : 0 ≤ x.toInt := by omega
  have y0 : 0 ≤ y.toInt := by omega
  have l1 : a * c ≤ x.toInt * y.toInt := Int.mul_le_mul h3 k3 k0 x0
  have l2 : x.toInt * y.toInt ≤ b * d := Int.mul_le_mul h4 k4 y0 (by omega)
  have l0 : 0 ≤ x.toInt * y.toInt := Int.mul_nonneg x0 y0
  have e := fb_mulI (x := x) (y := y) (by omega) (by omega)
  unfold wx_b
  rw [e]
  exact ⟨l1, l2⟩
theorem wb_nI {i n : Nat} (h : i ≤ n) (hn : n < 2147483648) : wx_b (nI i) 0 n := by
  unfold wx_b
  rw [nI_toInt (by omega)]
  omega
/-- x < y -/
theorem wb_lt {x y : Int32} {a b c d a1 b1 : Int} (h : x < y) (hx : wx_b x a b) (hy : wx_b y c d) (h1 : a1 ≤ a) (h2 : b ≤ b1 ∨ d - 1 ≤ b1) : wx_b x a1 b1 := by
  have h3 := Int32.lt_iff_toInt_lt.mp h
  unfold wx_b at *
  omega
theorem wb_gt {x y : Int32} {a b c d a1 b1 : Int} (h : y < x) (hx : wx_b x a b) (hy : wx_b y c d) (h1 : a1 ≤ a ∨ a1 ≤ c + 1) (h2 : b ≤ b1) : wx_b x a1 b1 := by
  have h3 := Int32.lt_iff_toInt_lt.mp h
  unfold wx_b at *
  omega
theorem wb_le {x y : Int32} {a b c d a1 b1 : Int} (h : x ≤ y) (hx : wx_b x a b) (hy : wx_b y c d) (h1 : a1 ≤ a) (h2 : b ≤ b1 ∨ d ≤ b1) : wx_b x a1 b1 := by
  have h3 := Int32.le_iff_toInt_le.mp h
  unfold wx_b at *
  omega
theorem wb_ge {x y : Int32} {a b c d a1 b1 : Int} (h : y ≤ x) (hx : wx_b x a b) (hy : wx_b y c d) (h1 : a1 ≤ a ∨ a1 ≤ c) (h2 : b ≤ b1) : wx_b x a1 b1 := by
  have h3 := Int32.le_iff_toInt_le.mp h
  unfold wx_b at *
  omega
theorem wb_nle {x y : Int32} (h : ¬ y ≤ x) : x < y := Int32.not_le.mp h
theorem wb_nlt {x y : Int32} (h : ¬ y < x) : x ≤ y := Int32.not_lt.mp h
theorem wb_cl {x : Int32} {a b : Int} {n : Nat} (h : wx_b x a b) (h2 : b ≤ n) : x.toNatClampNeg ≤ n := by
  have := h.2
  show x.toInt.toNat ≤ n
  omega
/-! loops -/
def rep {σ : Type} : Nat → (Nat → σ → σ) → σ → σ
  | 0, _, s => s
  | n + 1, f, s => f n (rep n f s)
theorem rep_succ {σ : Type} (n : Nat) (f : Nat → σ → σ) (s : σ) : rep (n + 1) f s = f n (rep n f s) := rfl
def repX {σ ρ : Type} : Nat → (Nat → σ → σ ⊕ ρ) → σ → σ ⊕ ρ
  | 0, _, s => .inl s
  | n + 1, f, s => match repX n f s with
    | .inl s1 => f n s1
    | .inr r => .inr r
theorem repX_go {σ ρ : Type} {n : Nat} {f : Nat → σ → σ ⊕ ρ} {s s1 : σ} (h : repX n f s = .inl s1) : repX (n + 1) f s = f n s1 := by
  show (match repX n f s with | .inl s1 => f n s1 | .inr r => .inr r) = _
  rw [h]
theorem repX_stop {σ ρ : Type} {n : Nat} {f : Nat → σ → σ ⊕ ρ} {s : σ} {r : ρ} (h : repX n f s = .inr r) : ∀ k, repX (n + k) f s = .inr r
  | 0 => h
  | k + 1 => by
    show (match repX (n + k) f s with | .inl s1 => f (n + k) s1 | .inr r => .inr r) = _
    rw [repX_stop h k]
theorem repX_out {σ ρ : Type} {n m : Nat} {f : Nat → σ → σ ⊕ ρ} {s s1 : σ} {r : ρ} (h : repX n f s = .inl s1) (hf : f n s1 = .inr r) (hm : n < m) : repX m f s = .inr r := by
  have h1 : repX (n + 1) f s = .inr r := by rw [repX_go h, hf]
  have := repX_stop h1 (m - (n + 1))
  rwa [show n + 1 + (m - (n + 1)) = m by omega] at this
theorem wx_inc (i : Nat) : nI i + Int32.ofInt 1 = nI (i + 1) := by
  rw [show Int32.ofInt 1 = 1 from rfl]
  exact nI_1 i
theorem wx_up {b : Int32} {i : Nat} (hi : i < 2147483648) (h : ¬ b ≤ nI i) : i < b.toNatClampNeg := by
  have h3 := Int32.lt_iff_toInt_lt.mp (Int32.not_le.mp h)
  rw [nI_toInt (by omega)] at h3
  show i < b.toInt.toNat
  omega
theorem wx_dn {b : Int32} {i : Nat} (hi : i < 2147483648) (h : b ≤ nI i) : b.toNatClampNeg ≤ i := by
  have h3 := Int32.le_iff_toInt_le.mp h
  rw [nI_toInt (by omega)] at h3
  show b.toInt.toNat ≤ i
  omega
theorem wx_cl31 (b : Int32) : b.toNatClampNeg < 2147483648 := by
  have := fb_rng b
  show b.toInt.toNat < _
  omega
theorem wx_up1 {b : Int32} {i : Nat} (hi : i < 2147483648) (h : ¬ b < nI i) : i < b.toNatClampNeg + 1 := by
  have h3 := Int32.le_iff_toInt_le.mp (Int32.not_lt.mp h)
  rw [nI_toInt (by omega)] at h3
  show i < b.toInt.toNat + 1
  omega
theorem wx_dn1 {b : Int32} {i : Nat} (hi : i < 2147483648) (hb : 0 ≤ b.toInt) (h : b < nI i) : b.toNatClampNeg + 1 ≤ i := by
  have h3 := Int32.lt_iff_toInt_lt.mp h
  rw [nI_toInt (by omega)] at h3
  show b.toInt.toNat + 1 ≤ i
  omega
theorem wx_nIcl {x : Int32} {a b : Int} (h : wx_b x a b) (h0 : 0 ≤ a) : nI x.toNatClampNeg = x := by
  have h1 := h.1
  have h2 := fb_rng x
  apply Int32.toInt_inj.mp
  have hc : x.toNatClampNeg = x.toInt.toNat := rfl
  rw [nI_toInt (by omega), hc]
  omega
theorem wb_nz {x : Int32} {a b : Int} (h : wx_b x a b) (h0 : 0 < a) : ¬ x = 0 := by
  intro e
  have h1 := h.1
  rw [e] at h1
  have : (0 : Int32).toInt = 0 := rfl
  omega
/-! the HOUSES' cells, the bounds of what they hold -/
theorem wx_H.lt {h : Nat} (hh : wx_H h) : h + 6 < 70 := by rcases hh with rfl | rfl | rfl | rfl <;> decide
theorem wx_H.l0 {h : Nat} (hh : wx_H h) : h < 70 := by have := hh.lt; omega
theorem wx_H.l1 {h : Nat} (hh : wx_H h) : h + 1 < 70 := by have := hh.lt; omega
theorem wx_H.l2 {h : Nat} (hh : wx_H h) : h + 2 < 70 := by have := hh.lt; omega
theorem wx_H.l3 {h : Nat} (hh : wx_H h) : h + 3 < 70 := by have := hh.lt; omega
theorem wx_H.l4 {h : Nat} (hh : wx_H h) : h + 4 < 70 := by have := hh.lt; omega
theorem wx_H.l5 {h : Nat} (hh : wx_H h) : h + 5 < 70 := by have := hh.lt; omega
theorem wx_H.l6 {h : Nat} (hh : wx_H h) : h + 6 < 70 := hh.lt
def wx_HB (g : wx_M) (h : Nat) : Prop := wx_b (g h 0) 0 6 ∧ wx_b (g h 4) 0 4 ∧ wx_b (g h 5) 0 4
def wx_Rk (k : Nat) : Prop := 2 ≤ k ∧ k < 10
theorem wx_Rk.cs {k : Nat} (h : wx_Rk k) : k = 2 ∨ k = 3 ∨ k = 4 ∨ k = 5 ∨ k = 6 ∨ k = 7 ∨ k = 8 ∨ k = 9 := by
  obtain ⟨h1, h2⟩ := h
  omega
theorem wx_H_im {h : Nat} {x : Int32} (e : h = 35 + 7 * x.toNatClampNeg) (hx : wx_b x 0 1) : wx_H h := by
  have h2 := wb_cl (n := 1) hx (by decide)
  unfold wx_H
  omega
/-! which cell is what -/
theorem sh_X3 {h : Nat} (hh : wx_H h) : wx_sO h 3 := by
  rcases hh with rfl | rfl | rfl | rfl <;> exact fun _ _ _ _ => ⟨_, rfl⟩
theorem sh_X3_0 {h : Nat} (hh : wx_H h) : wx_sI h 3 0 := by
  rcases hh with rfl | rfl | rfl | rfl <;> exact fun _ _ _ _ => ⟨_, rfl, rfl, Nat.le_of_ble_eq_true rfl, fun _ => rfl⟩
theorem sh_X3_1 {h : Nat} (hh : wx_H h) : wx_sI h 3 1 := by
  rcases hh with rfl | rfl | rfl | rfl <;> exact fun _ _ _ _ => ⟨_, rfl, rfl, Nat.le_of_ble_eq_true rfl, fun _ => rfl⟩
theorem sh_X3_2 {h : Nat} (hh : wx_H h) : wx_sI h 3 2 := by
  rcases hh with rfl | rfl | rfl | rfl <;> exact fun _ _ _ _ => ⟨_, rfl, rfl, Nat.le_of_ble_eq_true rfl, fun _ => rfl⟩
theorem sh_X3_3 {h : Nat} (hh : wx_H h) : wx_sI h 3 3 := by
  rcases hh with rfl | rfl | rfl | rfl <;> exact fun _ _ _ _ => ⟨_, rfl, rfl, Nat.le_of_ble_eq_true rfl, fun _ => rfl⟩
theorem sh_X3_4 {h : Nat} (hh : wx_H h) : wx_sI h 3 4 := by
  rcases hh with rfl | rfl | rfl | rfl <;> exact fun _ _ _ _ => ⟨_, rfl, rfl, Nat.le_of_ble_eq_true rfl, fun _ => rfl⟩
theorem sh_X3_5 {h : Nat} (hh : wx_H h) : wx_sI h 3 5 := by
  rcases hh with rfl | rfl | rfl | rfl <;> exact fun _ _ _ _ => ⟨_, rfl, rfl, Nat.le_of_ble_eq_true rfl, fun _ => rfl⟩
theorem sh_X3_6 {h : Nat} (hh : wx_H h) : wx_sI h 3 6 := by
  rcases hh with rfl | rfl | rfl | rfl <;> exact fun _ _ _ _ => ⟨_, rfl, rfl, Nat.le_of_ble_eq_true rfl, fun _ => rfl⟩
theorem sh_X3_7 {h : Nat} (hh : wx_H h) : wx_sI h 3 7 := by
  rcases hh with rfl | rfl | rfl | rfl <;> exact fun _ _ _ _ => ⟨_, rfl, rfl, Nat.le_of_ble_eq_true rfl, fun _ => rfl⟩
theorem sh_X3_8 {h : Nat} (hh : wx_H h) : wx_sI h 3 8 := by
  rcases hh with rfl | rfl | rfl | rfl <;> exact fun _ _ _ _ => ⟨_, rfl, rfl, Nat.le_of_ble_eq_true rfl, fun _ => rfl⟩
theorem sh_X3_9 {h : Nat} (hh : wx_H h) : wx_sR h 3 9 (h + 1) := by
  rcases hh with rfl | rfl | rfl | rfl <;> exact fun _ _ _ _ => ⟨_, rfl, rfl⟩
theorem sh_X3_10 {h : Nat} (hh : wx_H h) : wx_sR h 3 10 (h + 2) := by
  rcases hh with rfl | rfl | rfl | rfl <;> exact fun _ _ _ _ => ⟨_, rfl, rfl⟩
theorem sh_X3_11 {h : Nat} (hh : wx_H h) : wx_sR h 3 11 (h + 3) := by
  rcases hh with rfl | rfl | rfl | rfl <;> exact fun _ _ _ _ => ⟨_, rfl, rfl⟩
theorem sh_X3_12 {h : Nat} (hh : wx_H h) : wx_sR h 3 12 (h + 4) := by
  rcases hh with rfl | rfl | rfl | rfl <;> exact fun _ _ _ _ => ⟨_, rfl, rfl⟩
theorem sh_X3_13 {h : Nat} (hh : wx_H h) : wx_sR h 3 13 (h + 5) := by
  rcases hh with rfl | rfl | rfl | rfl <;> exact fun _ _ _ _ => ⟨_, rfl, rfl⟩
theorem sh_X3_14 {h : Nat} (hh : wx_H h) : wx_sR h 3 14 (h + 6) := by
  rcases hh with rfl | rfl | rfl | rfl <;> exact fun _ _ _ _ => ⟨_, rfl, rfl⟩
theorem sa_X3_1 {h : Nat} (hh : wx_H h) : wx_sA (h + 1) 6 := by
  rcases hh with rfl | rfl | rfl | rfl <;> exact fun _ _ _ _ => rfl
theorem sa_X3_2 {h : Nat} (hh : wx_H h) : wx_sA (h + 2) 48 := by
  rcases hh with rfl | rfl | rfl | rfl <;> exact fun _ _ _ _ => rfl
theorem sa_X3_3 {h : Nat} (hh : wx_H h) : wx_sA (h + 3) 48 := by
  rcases hh with rfl | rfl | rfl | rfl <;> exact fun _ _ _ _ => rfl
theorem sa_X3_4 {h : Nat} (hh : wx_H h) : wx_sA (h + 4) 32 := by
  rcases hh with rfl | rfl | rfl | rfl <;> exact fun _ _ _ _ => rfl
theorem sa_X3_5 {h : Nat} (hh : wx_H h) : wx_sA (h + 5) 4 := by
  rcases hh with rfl | rfl | rfl | rfl <;> exact fun _ _ _ _ => rfl
theorem sh_X5 {k : Nat} (hk : wx_Rk k) : wx_sO k 5 := by
  rcases hk.cs with rfl | rfl | rfl | rfl | rfl | rfl | rfl | rfl <;> exact fun _ _ _ _ => ⟨_, rfl⟩
theorem sh_X5_0 {k : Nat} (hk : wx_Rk k) : wx_sR k 5 0 (k + 8) := by
  rcases hk.cs with rfl | rfl | rfl | rfl | rfl | rfl | rfl | rfl <;> exact fun _ _ _ _ => ⟨_, rfl, rfl⟩
theorem sh_X5_1 {k : Nat} (hk : wx_Rk k) : wx_sI k 5 1 := by
  rcases hk.cs with rfl | rfl | rfl | rfl | rfl | rfl | rfl | rfl <;> exact fun _ _ _ _ => ⟨_, rfl, rfl, Nat.le_of_ble_eq_true rfl, fun _ => rfl⟩
theorem sh_X5_2 {k : Nat} (hk : wx_Rk k) : wx_sI k 5 2 := by
  rcases hk.cs with rfl | rfl | rfl | rfl | rfl | rfl | rfl | rfl <;> exact fun _ _ _ _ => ⟨_, rfl, rfl, Nat.le_of_ble_eq_true rfl, fun _ => rfl⟩
theorem sh_X5_3 {k : Nat} (hk : wx_Rk k) : wx_sI k 5 3 := by
  rcases hk.cs with rfl | rfl | rfl | rfl | rfl | rfl | rfl | rfl <;> exact fun _ _ _ _ => ⟨_, rfl, rfl, Nat.le_of_ble_eq_true rfl, fun _ => rfl⟩
theorem sa_X5 {k : Nat} (hk : wx_Rk k) : wx_sA (k + 8) 40 := by
  rcases hk.cs with rfl | rfl | rfl | rfl | rfl | rfl | rfl | rfl <;> exact fun _ _ _ _ => rfl
theorem sh_X0 : wx_sO 49 0 := by
  exact fun _ _ _ _ => ⟨_, rfl⟩
theorem sh_X0_0 : wx_sR 49 0 0 (50) := by
  exact fun _ _ _ _ => ⟨_, rfl, rfl⟩
theorem sh_X0_1 : wx_sR 49 0 1 (51) := by
  exact fun _ _ _ _ => ⟨_, rfl, rfl⟩
theorem sh_X0_2 : wx_sR 49 0 2 (52) := by
  exact fun _ _ _ _ => ⟨_, rfl, rfl⟩
theorem sh_X0_3 : wx_sR 49 0 3 (53) := by
  exact fun _ _ _ _ => ⟨_, rfl, rfl⟩
theorem sh_X0_4 : wx_sR 49 0 4 (54) := by
  exact fun _ _ _ _ => ⟨_, rfl, rfl⟩
theorem sh_X0_5 : wx_sI 49 0 5 := by
  exact fun _ _ _ _ => ⟨_, rfl, rfl, Nat.le_of_ble_eq_true rfl, fun _ => rfl⟩
theorem sh_X0_6 : wx_sI 49 0 6 := by
  exact fun _ _ _ _ => ⟨_, rfl, rfl, Nat.le_of_ble_eq_true rfl, fun _ => rfl⟩
theorem sh_X6 : wx_sO 18 6 := by
  exact fun _ _ _ _ => ⟨_, rfl⟩
theorem sh_X6_0 : wx_sR 18 6 0 (19) := by
  exact fun _ _ _ _ => ⟨_, rfl, rfl⟩
theorem sh_X6_1 : wx_sI 18 6 1 := by
  exact fun _ _ _ _ => ⟨_, rfl, rfl, Nat.le_of_ble_eq_true rfl, fun _ => rfl⟩
theorem sh_X6_2 : wx_sI 18 6 2 := by
  exact fun _ _ _ _ => ⟨_, rfl, rfl, Nat.le_of_ble_eq_true rfl, fun _ => rfl⟩
theorem sh_X6_3 : wx_sI 18 6 3 := by
  exact fun _ _ _ _ => ⟨_, rfl, rfl, Nat.le_of_ble_eq_true rfl, fun _ => rfl⟩
theorem sh_X6_4 : wx_sI 18 6 4 := by
  exact fun _ _ _ _ => ⟨_, rfl, rfl, Nat.le_of_ble_eq_true rfl, fun _ => rfl⟩
theorem sh_X6_5 : wx_sI 18 6 5 := by
  exact fun _ _ _ _ => ⟨_, rfl, rfl, Nat.le_of_ble_eq_true rfl, fun _ => rfl⟩
theorem sh_X6_6 : wx_sI 18 6 6 := by
  exact fun _ _ _ _ => ⟨_, rfl, rfl, Nat.le_of_ble_eq_true rfl, fun _ => rfl⟩
theorem sh_X6_7 : wx_sI 18 6 7 := by
  exact fun _ _ _ _ => ⟨_, rfl, rfl, Nat.le_of_ble_eq_true rfl, fun _ => rfl⟩
theorem sh_X8 : wx_sO 55 8 := by
  exact fun _ _ _ _ => ⟨_, rfl⟩
theorem sh_X8_0 : wx_sR 55 8 0 (56) := by
  exact fun _ _ _ _ => ⟨_, rfl, rfl⟩
theorem sh_X8_1 : wx_sI 55 8 1 := by
  exact fun _ _ _ _ => ⟨_, rfl, rfl, Nat.le_of_ble_eq_true rfl, fun _ => rfl⟩
theorem sh_X11 : wx_sO 0 10 := by
  exact fun _ _ _ _ => ⟨_, rfl⟩
theorem sh_X11_0 : wx_sR 0 10 0 (1) := by
  exact fun _ _ _ _ => ⟨_, rfl, rfl⟩
theorem sh_X11_1 : wx_sR 0 10 1 (18) := by
  exact fun _ _ _ _ => ⟨_, rfl, rfl⟩
theorem sh_X11_2 : wx_sR 0 10 2 (20) := by
  exact fun _ _ _ _ => ⟨_, rfl, rfl⟩
theorem sh_X11_3 : wx_sR 0 10 3 (27) := by
  exact fun _ _ _ _ => ⟨_, rfl, rfl⟩
theorem sh_X11_4 : wx_sR 0 10 4 (34) := by
  exact fun _ _ _ _ => ⟨_, rfl, rfl⟩
theorem sh_X11_5 : wx_sR 0 10 5 (49) := by
  exact fun _ _ _ _ => ⟨_, rfl, rfl⟩
theorem sh_X11_6 : wx_sR 0 10 6 (55) := by
  exact fun _ _ _ _ => ⟨_, rfl, rfl⟩
theorem sh_X11_7 : wx_sI 0 10 7 := by
  exact fun _ _ _ _ => ⟨_, rfl, rfl, Nat.le_of_ble_eq_true rfl, fun _ => rfl⟩
theorem sh_X12 : wx_sO 57 11 := by
  exact fun _ _ _ _ => ⟨_, rfl⟩
theorem sh_X12_0 : wx_sR 57 11 0 (58) := by
  exact fun _ _ _ _ => ⟨_, rfl, rfl⟩
theorem sh_X12_1 : wx_sR 57 11 1 (59) := by
  exact fun _ _ _ _ => ⟨_, rfl, rfl⟩
theorem sh_X12_2 : wx_sR 57 11 2 (60) := by
  exact fun _ _ _ _ => ⟨_, rfl, rfl⟩
theorem sh_X12_3 : wx_sI 57 11 3 := by
  exact fun _ _ _ _ => ⟨_, rfl, rfl, Nat.le_of_ble_eq_true rfl, fun _ => rfl⟩
theorem sh_X12_4 : wx_sI 57 11 4 := by
  exact fun _ _ _ _ => ⟨_, rfl, rfl, Nat.le_of_ble_eq_true rfl, fun _ => rfl⟩
theorem sh_X12_5 : wx_sR 57 11 5 (61) := by
  exact fun _ _ _ _ => ⟨_, rfl, rfl⟩
theorem sh_X12_6 : wx_sI 57 11 6 := by
  exact fun _ _ _ _ => ⟨_, rfl, rfl, Nat.le_of_ble_eq_true rfl, fun _ => rfl⟩
theorem sh_X12_7 : wx_sI 57 11 7 := by
  exact fun _ _ _ _ => ⟨_, rfl, rfl, Nat.le_of_ble_eq_true rfl, fun _ => rfl⟩
theorem sh_X12_8 : wx_sI 57 11 8 := by
  exact fun _ _ _ _ => ⟨_, rfl, rfl, Nat.le_of_ble_eq_true rfl, fun _ => rfl⟩
theorem sh_X12_9 : wx_sI 57 11 9 := by
  exact fun _ _ _ _ => ⟨_, rfl, rfl, Nat.le_of_ble_eq_true rfl, fun _ => rfl⟩
theorem sh_X12_10 : wx_sI 57 11 10 := by
  exact fun _ _ _ _ => ⟨_, rfl, rfl, Nat.le_of_ble_eq_true rfl, fun _ => rfl⟩
theorem sh_X12_11 : wx_sI 57 11 11 := by
  exact fun _ _ _ _ => ⟨_, rfl, rfl, Nat.le_of_ble_eq_true rfl, fun _ => rfl⟩
theorem sh_X12_12 : wx_sI 57 11 12 := by
  exact fun _ _ _ _ => ⟨_, rfl, rfl, Nat.le_of_ble_eq_true rfl, fun _ => rfl⟩
theorem sh_X12_13 : wx_sI 57 11 13 := by
  exact fun _ _ _ _ => ⟨_, rfl, rfl, Nat.le_of_ble_eq_true rfl, fun _ => rfl⟩
theorem sh_X12_14 : wx_sI 57 11 14 := by
  exact fun _ _ _ _ => ⟨_, rfl, rfl, Nat.le_of_ble_eq_true rfl, fun _ => rfl⟩
theorem sh_X12_15 : wx_sR 57 11 15 (62) := by
  exact fun _ _ _ _ => ⟨_, rfl, rfl⟩
theorem sh_X12_16 : wx_sI 57 11 16 := by
  exact fun _ _ _ _ => ⟨_, rfl, rfl, Nat.le_of_ble_eq_true rfl, fun _ => rfl⟩
theorem sh_X12_17 : wx_sR 57 11 17 (63) := by
  exact fun _ _ _ _ => ⟨_, rfl, rfl⟩
theorem sh_X12_18 : wx_sI 57 11 18 := by
  exact fun _ _ _ _ => ⟨_, rfl, rfl, Nat.le_of_ble_eq_true rfl, fun _ => rfl⟩
theorem sh_X12_19 : wx_sR 57 11 19 (64) := by
  exact fun _ _ _ _ => ⟨_, rfl, rfl⟩
theorem sh_X12_20 : wx_sR 57 11 20 (65) := by
  exact fun _ _ _ _ => ⟨_, rfl, rfl⟩
theorem sh_X12_21 : wx_sR 57 11 21 (66) := by
  exact fun _ _ _ _ => ⟨_, rfl, rfl⟩
theorem sh_X12_22 : wx_sR 57 11 22 (67) := by
  exact fun _ _ _ _ => ⟨_, rfl, rfl⟩
theorem sh_X12_23 : wx_sI 57 11 23 := by
  exact fun _ _ _ _ => ⟨_, rfl, rfl, Nat.le_of_ble_eq_true rfl, fun _ => rfl⟩
theorem sh_X12_24 : wx_sR 57 11 24 (68) := by
  exact fun _ _ _ _ => ⟨_, rfl, rfl⟩
theorem sh_X12_25 : wx_sI 57 11 25 := by
  exact fun _ _ _ _ => ⟨_, rfl, rfl, Nat.le_of_ble_eq_true rfl, fun _ => rfl⟩
theorem sh_X12_26 : wx_sR 57 11 26 (69) := by
  exact fun _ _ _ _ => ⟨_, rfl, rfl⟩
theorem sa_50 : wx_sA (50) 24 := by
  exact fun _ _ _ _ => rfl
theorem sa_51 : wx_sA (51) 24 := by
  exact fun _ _ _ _ => rfl
theorem sa_52 : wx_sA (52) 24 := by
  exact fun _ _ _ _ => rfl
theorem sa_53 : wx_sA (53) 24 := by
  exact fun _ _ _ _ => rfl
theorem sa_54 : wx_sA (54) 24 := by
  exact fun _ _ _ _ => rfl
theorem sa_19 : wx_sA (19) 140 := by
  exact fun _ _ _ _ => rfl
theorem sa_56 : wx_sA (56) 16 := by
  exact fun _ _ _ _ => rfl
theorem sa_58 : wx_sA (58) 8 := by
  exact fun _ _ _ _ => rfl
theorem sa_59 : wx_sA (59) 8 := by
  exact fun _ _ _ _ => rfl
theorem sa_60 : wx_sA (60) 320 := by
  exact fun _ _ _ _ => rfl
theorem sa_61 : wx_sA (61) 140 := by
  exact fun _ _ _ _ => rfl
theorem sa_62 : wx_sA (62) 18 := by
  exact fun _ _ _ _ => rfl
theorem sa_63 : wx_sA (63) 32 := by
  exact fun _ _ _ _ => rfl
theorem sa_64 : wx_sA (64) 8 := by
  exact fun _ _ _ _ => rfl
theorem sa_65 : wx_sA (65) 149 := by
  exact fun _ _ _ _ => rfl
theorem sa_66 : wx_sA (66) 298 := by
  exact fun _ _ _ _ => rfl
theorem sa_68 : wx_sA (68) 120 := by
  exact fun _ _ _ _ => rfl
theorem sa_69 : wx_sA (69) 16 := by
  exact fun _ _ _ _ => rfl
theorem sz_67 : wx_sZ (67) 2 := by
  exact fun _ _ _ _ => rfl
theorem sq_1 : wx_sQ 1 3 8 (fun j => 2 + j) := fun _ _ _ _ => rfl
theorem sq_34 : wx_sQ 34 2 2 (fun j => 35 + 7 * j) := fun _ _ _ _ => rfl
