/-! THE CLAIM OUT OF ONE WALK OF THE LAW'S BODY. Your part is whole_start (and what it stands on); all else here is the same for every law, but numbers. -/
def R_law : String := "SeenAgainLaw"
def lw_P (b : Addr) (xs : List Int32) (args : Array Value) (s : State) : Prop := args = #[.ref b] ∧ s.IntsAt b xs ∧ xs.length ≤ 384 ∧ (Jvm.Cond.and given_1 narrow_1).before args s = true
def lw_Q (_ : Array Value) (s : State) (o : Outcome) (t : State) : Prop := o = .returned (some (.int 1)) ∧ Framed s o t [] 600000 7302250
def lw_Z (below : List Frame) (a : Array Value) (s : State) : State → Prop := fun t => ∃ o, t.status = .running ∧ Ended t below o ∧ lw_Q a s o t
/-- the law's own end, with 1 on the stack, nothing written that was there before, its room as the claim has it -/
theorem lw_ret {p : Program} {l : Launch} {e : Env} {s : State} {m : MethodId} {below : List Frame} {meth : Method} {c : Code} {b : Nat} (hx : p.tables.exec = Jvm.exec) (hb : c.code = code) (hr : meth.sig.returnType = ret) (hlocks : meth.locks = false) {pc : Nat} {H : Heap} {ls : Array Slot} (hdg : decode code pc = .ok (.ireturn, 1)) : W p l e room_1 s m #[Value.ref b] below meth c H [] 600000 7302250 (lw_Z below #[Value.ref b] s) (F0 m pc ls [.int 1]) := by
  intro T hT X
  obtain ⟨fs, hret, hrun, hended, hW, hframe⟩ := X.leave (v := some (.int 1)) (hlocks := hlocks) (fun h => by rw [hr] at h; cases h)
  have hmeth' : T.vm.method? m = some meth := X.method'
  refine ⟨T.setFrames fs, ?_, .returned (some (.int 1)), hrun, hended, rfl, ⟨_, rfl⟩, hW, hframe⟩
  jvm_step X.here [X.here.top, hx, hb, hdg, hmeth', hr, ret, narrow_b1]
  (try refine ⟨rfl, ?_⟩); (try refine ⟨rfl, ?_⟩)
  first | (intro acts; rw [hret _ acts rfl rfl rfl]) | rw [hret _ _ rfl rfl rfl]
  exact Steps.refl _
/-- what holds at the law's entry: the machine, the code, the tables' words (any of lw_tbl by 'hts w (by decide +kernel)'), the script of L ints xs at the cell b, what the Statement gives of the start (any of its parts by flat_of_before) -/
def lw_At (p : Program) (s : State) (m : MethodId) (meth : Method) (c : Code) (b L : Nat) (xs : Nat → Int32) : Prop :=
  p.tables.exec = Jvm.exec ∧ c.code = code ∧ meth.sig.returnType = ret ∧ c.maxLocals = 4 ∧ s.vm.findClass R_law = some m.cls ∧ (∀ w ∈ lw_tbl, w.before #[Value.ref b] s = true) ∧ va_X b L xs s s.heap ∧ b < s.heap.size ∧ meth.locks = false ∧ (Jvm.Cond.and given_1 narrow_1).before #[Value.ref b] s = true
/-! what the tables say at the start -/
theorem lw_arrI {s : State} {args : Array Value} (h : (Cond.arrayClass .int).before args s = true) : ∃ cA, ArrOfT s cA .int ∧ va_RA s cA .int := by
  obtain ⟨c, k, comp, f1, f2, f3⟩ := Cond.arrayClass_spec h
  exact ⟨c, fun n z => ⟨fun k h => (by cases h), k, f2, comp, f3⟩, f1⟩
theorem lw_arrZ {s : State} {args : Array Value} (h : (Cond.arrayClass .boolean).before args s = true) : ∃ cA, ArrOfT s cA .boolean ∧ va_RA s cA .boolean := by
  obtain ⟨c, k, comp, f1, f2, f3⟩ := Cond.arrayClass_spec h
  exact ⟨c, fun n z => ⟨fun k h => (by cases h), k, f2, comp, f3⟩, f1⟩
theorem lw_arrO {s : State} {args : Array Value} {C : String} (h : (Cond.arrayOver (.object C)).before args s = true) : ∃ cA, ArrOfT s cA (.object C) ∧ va_RA s cA (.object C) := by
  obtain ⟨comp, c, k, h1, h2, h3, h4, h5⟩ := Cond.arrayOver_spec h
  exact ⟨c, fun n z => ⟨fun k h => (by cases h), k, h3, comp, h4⟩, k, comp, h3, h4, h1, h5⟩
theorem lw_yc : ∀ q ∈ wx_yc, Cond.castable q.1 q.2 ∈ lw_tbl := by decide +kernel
theorem lw_nc : ∀ q ∈ wx_nc, Cond.not (.castable q.1 q.2) ∈ flatC (Jvm.Cond.and given_1 narrow_1) := by decide +kernel
set_option maxHeartbeats 4000000 in
theorem lw_KN {p : Program} {s : State} {m : MethodId} {meth : Method} {c : Code} {b L : Nat} {xs : Nat → Int32} (C0 : lw_At p s m meth c b L xs) : ∃ (D : va_G) (cy : Nat → ClassId), wx_K D cy s ∧ wi_Nw s := by
  obtain ⟨hx, hb, hr, hml, hown, hts, hXs, hbl, hlk, hgv⟩ := C0
  obtain ⟨c0, i0, k0⟩ := u_known hts inX0 (hts (.instantiable RX0 7) (by decide +kernel))
  obtain ⟨c1, i1, k1⟩ := u_known hts inX1 (hts (.instantiable RX1 1) (by decide +kernel))
  obtain ⟨c2, i2, k2⟩ := u_known hts inX2 (hts (.instantiable RX2 1) (by decide +kernel))
  obtain ⟨c3, i3, k3⟩ := u_known hts inX3 (hts (.instantiable RX3 15) (by decide +kernel))
  obtain ⟨c4, i4, k4⟩ := u_known hts inX4 (hts (.instantiable RX4 1) (by decide +kernel))
  obtain ⟨c5, i5, k5⟩ := u_known hts inX5 (hts (.instantiable RX5 4) (by decide +kernel))
  obtain ⟨c6, i6, k6⟩ := u_known hts inX6 (hts (.instantiable RX6 8) (by decide +kernel))
  obtain ⟨c7, i7, k7⟩ := u_known hts inX7 (hts (.instantiable RX7 1) (by decide +kernel))
  obtain ⟨c8, i8, k8⟩ := u_known hts inX8 (hts (.instantiable RX8 2) (by decide +kernel))
  obtain ⟨c9, i9, k9⟩ := u_known hts inX10 (hts (.instantiable RX10 1) (by decide +kernel))
  obtain ⟨c10, i10, k10⟩ := u_known hts inX11 (hts (.instantiable RX11 8) (by decide +kernel))
  obtain ⟨c11, i11, k11⟩ := u_known hts inX12 (hts (.instantiable RX12 27) (by decide +kernel))
  obtain ⟨a0, n0⟩ := lw_arrI (hts (.arrayClass .int) (by decide +kernel))
  obtain ⟨a1, n1⟩ := lw_arrZ (hts (.arrayClass .boolean) (by decide +kernel))
  obtain ⟨a2, n2⟩ := lw_arrO (hts (.arrayOver (.object RX3)) (by decide +kernel))
  obtain ⟨a3, n3⟩ := lw_arrO (hts (.arrayOver (.object RX5)) (by decide +kernel))
  obtain ⟨a4, n4⟩ := lw_arrO (hts (.arrayOver (.object RX9)) (by decide +kernel))
  refine ⟨(fun i => ([c0, c1, c2, c3, c4, c5, c6, c7, c8, c9, c10, c11] : List ClassId).getD i c0, fun i => ([i0, i1, i2, i3, i4, i5, i6, i7, i8, i9, i10, i11] : List (Nat → Nat)).getD i i0), fun i => ([a0, a1, a2, a3, a4] : List ClassId).getD i a0, ⟨⟨?_, ?_⟩, ⟨va_Nw.of rfl (hts _ (by decide +kernel)), va_Nw.of rfl (hts _ (by decide +kernel))⟩, fun q hq => va_Nw.of rfl (hts _ (lw_yc q hq)), fun q hq => va_Nc.of (flat_of_before _ hgv _ (lw_nc q hq)), va_Nw.of rfl (hts _ (by decide +kernel))⟩, ⟨va_Nw.of rfl (hts _ (by decide +kernel)), va_Nw.of rfl (hts _ (by decide +kernel)), va_Nw.of rfl (hts _ (by decide +kernel)), va_Nw.of rfl (hts _ (by decide +kernel))⟩, va_AO.of (hts (.arrayOver (.object RX5)) (by decide +kernel)), va_AO.of (hts (.arrayOver (.object RX3)) (by decide +kernel)), va_AO.of (hts (.arrayOver (.object RX9)) (by decide +kernel))⟩
  · intro k q hq
    match k, hq with
    | 0, h => obtain rfl : (RX0, TX0, 7) = q := Option.some.inj h; exact k0
    | 1, h => obtain rfl : (RX1, TX1, 1) = q := Option.some.inj h; exact k1
    | 2, h => obtain rfl : (RX2, TX2, 1) = q := Option.some.inj h; exact k2
    | 3, h => obtain rfl : (RX3, TX3, 15) = q := Option.some.inj h; exact k3
    | 4, h => obtain rfl : (RX4, TX4, 1) = q := Option.some.inj h; exact k4
    | 5, h => obtain rfl : (RX5, TX5, 4) = q := Option.some.inj h; exact k5
    | 6, h => obtain rfl : (RX6, TX6, 8) = q := Option.some.inj h; exact k6
    | 7, h => obtain rfl : (RX7, TX7, 1) = q := Option.some.inj h; exact k7
    | 8, h => obtain rfl : (RX8, TX8, 2) = q := Option.some.inj h; exact k8
    | 9, h => obtain rfl : (RX10, TX10, 1) = q := Option.some.inj h; exact k9
    | 10, h => obtain rfl : (RX11, TX11, 8) = q := Option.some.inj h; exact k10
    | 11, h => obtain rfl : (RX12, TX12, 27) = q := Option.some.inj h; exact k11
    | n + 12, h => cases (show (none : Option vw_C) = some q from h)
  · intro k q hq
    match k, hq with
    | 0, h => obtain rfl : (a0, (.int : FieldType)) = q := Option.some.inj h; exact n0
    | 1, h => obtain rfl : (a1, (.boolean : FieldType)) = q := Option.some.inj h; exact n1
    | 2, h => obtain rfl : (a2, (.object "SeenAgain$House" : FieldType)) = q := Option.some.inj h; exact n2
    | 3, h => obtain rfl : (a3, (.object "SeenAgain$Row" : FieldType)) = q := Option.some.inj h; exact n3
    | 4, h => obtain rfl : (a4, (.object "SeenAgain$Visitor" : FieldType)) = q := Option.some.inj h; exact n4
    | n + 5, h => cases (show (none : Option (ClassId × FieldType)) = some q from h)
