/-! THE CLAIM OUT OF ONE WALK OF THE LAW'S BODY. Your part is whole_start (and what it stands on); all else here is the same for every law, but numbers. -/
def R_law : String := "ExactSimplexLaw"
def lw_P (b : Addr) (xs : List Int32) (args : Array Value) (s : State) : Prop := args = #[.ref b] ∧ s.IntsAt b xs ∧ xs.length ≤ 2048 ∧ (Jvm.Cond.and given_1 narrow_1).before args s = true
def lw_Q (_ : Array Value) (s : State) (o : Outcome) (t : State) : Prop := o = .returned (some (.int 1)) ∧ Framed s o t [] 600000 7302250
def lw_Z (below : List Frame) (a : Array Value) (s : State) : State → Prop := fun t => ∃ o, t.status = .running ∧ Ended t below o ∧ lw_Q a s o t
/-- the law's own end, with 1 on the stack, nothing written that was there before, its room as the claim has it -/
theorem lw_ret {p : Program} {l : Launch} {e : Env} {s : State} {m : MethodId} {below : List Frame} {meth : Method} {c : Code} {b : Nat} (hx : p.tables.exec = Jvm.exec) (hb : c.code = code) (hr : meth.sig.returnType = ret) (hlocks : meth.locks = false) {pc : Nat} {H : Heap} {ls : Array Slot} (hdg : decode code pc = .ok (.ireturn, 1)) : W p l e room_1 s m #[Value.ref b] below meth c H [] 600000 7302250 (lw_Z below #[Value.ref b] s) (F0 m pc ls [.int 1]) := by
  intro T hT X
  obtain ⟨fs, hret, hrun, hended, hW, hframe⟩ := X.leave (v := some (.int 1)) (hlocks := hlocks) (fun h => by rw [hr] at h; cases h)
  have hmeth' : T.vm.method? m = some meth := X.method'
  refine ⟨T.setFrames fs, ?_, .returned (some (.int 1)), hrun, hended, rfl, ⟨_, rfl⟩, hW, hframe⟩
  jvm_step X.here [X.here.top, hx, hb, hdg, hmeth', hr, ret, narrow_b1]
  (try refine ⟨rfl, ?_⟩); (try refine ⟨rfl, ?_⟩)
  first | (intro acts; rw [hret _ acts rfl rfl rfl]) | rw [hret _ _ rfl rfl rfl]
  exact Steps.refl _
/-- what holds at the law's entry: the machine, the code, the tables' words (any of lw_tbl by 'hts w (by decide +kernel)'), the script of L ints xs at the cell b, what the Statement gives of the start (any of its parts by flat_of_before) -/
def lw_At (p : Program) (s : State) (m : MethodId) (meth : Method) (c : Code) (b L : Nat) (xs : Nat → Int32) : Prop :=
  p.tables.exec = Jvm.exec ∧ c.code = code ∧ meth.sig.returnType = ret ∧ c.maxLocals = 4 ∧ s.vm.findClass R_law = some m.cls ∧ (∀ w ∈ lw_tbl, w.before #[Value.ref b] s = true) ∧ va_X b L xs s s.heap ∧ b < s.heap.size ∧ meth.locks = false ∧ (Jvm.Cond.and given_1 narrow_1).before #[Value.ref b] s = true
/-- the classes and the arrays' classes, out of the tables' words -/
theorem lw_ac {t : FieldType} {a : Array Value} {U : State} (h : (Cond.arrayClass t).before a U = true) : ∃ cA, ArrOfT U cA t ∧ U.vm.findClass ("[" ++ t.toString) = some cA := by
  obtain ⟨c, k, comp, h1, h2, h3⟩ := Cond.arrayClass_spec h
  exact ⟨c, fun n z => ⟨fun q hq => (by cases hq), k, h2, comp, h3⟩, h1⟩
theorem lw_ao {t : FieldType} {a : Array Value} {U : State} (h : (Cond.arrayOver (.array t)).before a U = true) : ∃ cA, ArrOfT U cA (.array t) ∧ va_RA U cA (.array t) := by
  unfold Cond.before Cond.holds at h
  simp only [Cond.value, beq_iff_eq, Option.bind_eq_some_iff, Option.map_eq_some_iff] at h
  obtain ⟨comp, h1, c, h2, k, h3, h4⟩ := h
  split at h4
  · rename_i comp2 ty hk
    simp only [Bool.and_eq_true, decide_eq_true_eq] at h4
    exact ⟨c, fun n z => ⟨fun q hq => (by cases hq), k, h3, comp2, by rw [hk, h4.1]⟩, h4.2⟩
  · cases h4
set_option maxRecDepth 20000 in
theorem lw_K {s : State} {args : Array Value} (hts : ∀ w ∈ lw_tbl, w.before args s = true) : ∃ (D : va_G) (cy : Nat → ClassId), va_K D vwCl (gty cy) s := by
  obtain ⟨c0, i0, k0⟩ := u_known (n := 9) hts inX0 (hts (.instantiable RX0 9) (List.mem_of_getElem? (i := 130) rfl))
  obtain ⟨c1, i1, k1⟩ := u_known (n := 9) hts inX1 (hts (.instantiable RX1 9) (List.mem_of_getElem? (i := 63) rfl))
  obtain ⟨c2, i2, k2⟩ := u_known (n := 10) hts inX2 (hts (.instantiable RX2 10) (List.mem_of_getElem? (i := 124) rfl))
  obtain ⟨c3, i3, k3⟩ := u_known (n := 10) hts inX3 (hts (.instantiable RX3 10) (List.mem_of_getElem? (i := 198) rfl))
  obtain ⟨c4, i4, k4⟩ := u_known (n := 3) hts inX4 (hts (.instantiable RX4 3) (List.mem_of_getElem? (i := 55) rfl))
  obtain ⟨c5, i5, k5⟩ := u_known (n := 28) hts inX5 (hts (.instantiable RX5 28) (List.mem_of_getElem? (i := 597) rfl))
  obtain ⟨y0, a0, f0⟩ := lw_ac (hts (.arrayClass .int) (List.mem_of_getElem? (i := 121) rfl))
  obtain ⟨y1, a1, f1⟩ := lw_ac (hts (.arrayClass .boolean) (List.mem_of_getElem? (i := 122) rfl))
  obtain ⟨y2, a2, f2⟩ := lw_ac (hts (.arrayClass .long) (List.mem_of_getElem? (i := 165) rfl))
  obtain ⟨y3, a3⟩ := lw_ao (hts (.arrayOver (.array .int)) (List.mem_of_getElem? (i := 69) rfl))
  obtain ⟨y4, a4⟩ := lw_ao (hts (.arrayOver (.array .long)) (List.mem_of_getElem? (i := 136) rfl))
  refine ⟨(fun k => match k with | 0 => c0 | 1 => c1 | 2 => c2 | 3 => c3 | 4 => c4 | _ => c5, fun k => match k with | 0 => i0 | 1 => i1 | 2 => i2 | 3 => i3 | 4 => i4 | _ => i5), fun k => match k with | 0 => y0 | 1 => y1 | 2 => y2 | 3 => y3 | _ => y4, fun k q hq => ?_, fun k q hq => ?_⟩
  · match k, hq with
    | 0, hq => cases hq; exact k0
    | 1, hq => cases hq; exact k1
    | 2, hq => cases hq; exact k2
    | 3, hq => cases hq; exact k3
    | 4, hq => cases hq; exact k4
    | 5, hq => cases hq; exact k5
    | n + 6, hq => cases hq
  · match k, hq with
    | 0, hq => cases hq; exact ⟨a0, f0⟩
    | 1, hq => cases hq; exact ⟨a1, f1⟩
    | 2, hq => cases hq; exact ⟨a2, f2⟩
    | 3, hq => cases hq; exact a3
    | 4, hq => cases hq; exact a4
    | n + 5, hq => cases hq
