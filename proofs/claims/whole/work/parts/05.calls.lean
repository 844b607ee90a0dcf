section GC
variable {p : Program} {l : Launch} {e : Env} {R : Room} {s : State} {m : MethodId} {args : Array Value} {below : List Frame} {meth : Method} {c : Code} {H : Heap} {locs : List Loc} {cells slots : Nat} {Q : State → Prop}
variable {cc : ByteArray} {pc : Nat} {ls : Array Slot} {rest : List Value} {D : va_G} {ad : Nat → Nat} {cy : Nat → ClassId} {A : Nat → Prop} {I : gF} {J : gL} {a : gF} {b : gL}
theorem gWl_in {E : Nat → va_E} {k : Nat} {q : Nat × va_E} (hq : (gWl ad E)[k]? = some q) : k < 92 ∧ q = (ad k, E k) := by
  have hk : k < 92 := by
    have := (List.getElem?_eq_some_iff.mp hq).1
    simpa [gWl] using this
  rw [gWl_get hk] at hq
  exact ⟨hk, (Option.some.inj hq).symm⟩
theorem gWl_D {E : Nat → va_E} {A B : Nat → Prop} (h : va_D A (gWl ad E)) (hB : ∀ k, k < 92 → B (ad k)) : va_D B (gWl ad E) := ⟨h.1, fun k q hq => by
  obtain ⟨hk, rfl⟩ := gWl_in hq
  exact hB k hk⟩
theorem gx_begin {As : List Value} {sz : Nat} (hv : va_Pc As (gPre D ad cy I J a b sz) args s) : args = As.toArray ∧ s.heap.size = sz ∧ GG D ad cy (gA ad sz) s I J a b s.heap [] := by
  obtain ⟨h1, h2, hP, hK, hD⟩ := hv
  exact ⟨h1, h2, hK, hP, gWl_D hD (fun k hk => Or.inl ⟨k, hk, rfl⟩), va_S.rf, fun q h => Or.inr (by rw [← h2]; exact h)⟩
theorem gx_free (G : GG D ad cy A s I J a b H locs) : ∀ q, gA ad H.size q → A q := by
  intro q h
  rcases h with ⟨k, hk, rfl⟩ | h
  · exact G.2.2.1.2 k _ (gWl_get hk)
  · exact G.2.2.2.2 q (Nat.le_trans G.2.2.2.1.1 h)
theorem gx_blind {As : List Value} {sz : Nat} : FrameBlind (va_Pc As (gPre D ad cy I J a b sz)) := fun a' U g mk q => by
  obtain ⟨q0, q1, qP, qK, qD⟩ := q
  exact ⟨q0, q1, qP, va_K.moved (u := U) (U := U.calling g mk a') (Vm.Alike.refl U.vm) qK, qD⟩
theorem gx_pre {As : List Value} (G : GG D ad cy A s I J a b H locs) : ∀ U : State, U.heap = H → s.WarmedH U.vm → va_Pc As (gPre D ad cy I J a b H.size) As.toArray U := fun U hU hW => ⟨rfl, by rw [hU], by rw [hU]; exact G.2.1, va_K.moved hW.alike G.1, gWl_D G.2.2.1 (fun _ _ => trivial)⟩
theorem gx_after {u : gS} {t : State} {H1 : Heap} {locs1 : List Loc} (G : GG D ad cy A s I J a b H locs) (ht : t.heap = H1) (hvm : s.vm.Alike t.vm) (hB : gAt D ad cy (gA ad H.size) u t) (hS : va_S A s.heap H1 locs1) : GG D ad cy A s u.1 u.2.1 u.2.2.1 u.2.2.2 H1 locs1 := by
  obtain ⟨hP, hK, hD⟩ := hB
  rw [ht] at hP
  exact ⟨va_K.moved hvm.symm hK, hP, gWl_at G.2.2.1, hS, G.2.2.2.2⟩
theorem gx_iret (hx : p.tables.exec = Jvm.exec) (hb : c.code = cc) (hr : meth.sig.returnType = some .int) (hlocks : meth.locks = false) (G : GG D ad cy A s I J a b H locs) {post : Int32 → gS → Prop} {v : Int32} (hp : post v (I, J, a, b)) (hdg : decode cc pc = .ok (.ireturn, 1)) : W p l e R s m args below meth c H locs cells slots (MQ below (va_Qi post (gAt D ad cy A) A) args s cells slots A) (F0 m pc ls [.int v]) :=
  W.iret (v := v) hx hb hr (fun t ht hW => ⟨⟨v, (I, J, a, b), rfl, hp, by rw [ht]; exact G.2.1, va_K.moved hW.alike G.1, G.2.2.1⟩, G.2.2.2.1.F ht⟩) G.2.2.2.1.2.2 hdg hlocks
theorem gx_zret (hx : p.tables.exec = Jvm.exec) (hb : c.code = cc) (hr : meth.sig.returnType = some .boolean) (hlocks : meth.locks = false) (G : GG D ad cy A s I J a b H locs) {post : Int32 → gS → Prop} {v : Int32} (hn : narrow .boolean (.int v) = .int v) (hp : post v (I, J, a, b)) (hdg : decode cc pc = .ok (.ireturn, 1)) : W p l e R s m args below meth c H locs cells slots (MQ below (va_Qi post (gAt D ad cy A) A) args s cells slots A) (F0 m pc ls [.int v]) :=
  W.zret (v := v) hx hb hr hn (fun t ht hW => ⟨⟨v, (I, J, a, b), rfl, hp, by rw [ht]; exact G.2.1, va_K.moved hW.alike G.1, G.2.2.1⟩, G.2.2.2.1.F ht⟩) G.2.2.2.1.2.2 hdg hlocks
theorem gx_lret (hx : p.tables.exec = Jvm.exec) (hb : c.code = cc) (hr : meth.sig.returnType = some .long) (hlocks : meth.locks = false) (G : GG D ad cy A s I J a b H locs) {post : Int64 → gS → Prop} {v : Int64} (hp : post v (I, J, a, b)) (hdg : decode cc pc = .ok (.lreturn, 1)) : W p l e R s m args below meth c H locs cells slots (MQ below (va_Ql post (gAt D ad cy A) A) args s cells slots A) (F0 m pc ls [.long v]) :=
  W.lret (v := v) hx hb hr (fun t ht hW => ⟨⟨v, (I, J, a, b), rfl, hp, by rw [ht]; exact G.2.1, va_K.moved hW.alike G.1, G.2.2.1⟩, G.2.2.2.1.F ht⟩) G.2.2.2.1.2.2 hdg hlocks
theorem gx_vret (hx : p.tables.exec = Jvm.exec) (hb : c.code = cc) (hr : meth.sig.returnType = none) (hlocks : meth.locks = false) (G : GG D ad cy A s I J a b H locs) {post : gS → Prop} (hp : post (I, J, a, b)) (hdg : decode cc pc = .ok (.return_, 1)) : W p l e R s m args below meth c H locs cells slots (MQ below (va_Qv post (gAt D ad cy A) A) args s cells slots A) (F0 m pc ls []) :=
  W.vret hx hb hr (fun t ht hW => ⟨⟨(I, J, a, b), rfl, hp, by rw [ht]; exact G.2.1, va_K.moved hW.alike G.1, G.2.2.1⟩, G.2.2.2.1.F ht⟩) G.2.2.2.1.2.2 hdg hlocks
variable {y : MethodName} {ws : List Cond} {rm : Room} {Ts : List Cond} {own C : String} {index maxL nL n : Nat} {bytes : ByteArray} {ret : Option FieldType} {As st : List Value}
theorem gx_rc (G : GG D ad cy A s I J a b H locs) {k ci : Nat} {ks : List gFK} {q : vw_C} (hk : k < 92) (hs : gsh k = .inl (ci, ks)) (hc : vwCl[ci]? = some q) (hC : q.1 = C) : ∃ cell : Cell, H[ad k]? = some cell ∧ cell.vm.isStatics = false ∧ s.vm.findClass C = some cell.cls := by
  subst hC
  exact va_recv G.1 G.2.1 hc ((gWl_get hk).trans (by rw [gE_ob hs]))
/-- a call of an instance method that answers an int or a boolean -/
theorem gx_cVi (S : CallFix p m c cc nL s args Ts own) (G : GG D ad cy A s I J a b H locs) (k : Nat) {ci : Nat} {ks : List gFK} {q : vw_C} {post : Int32 → gS → Prop} (hM : gMi l y ws rm D ad cy I J a b H.size (.ref (ad k) :: As) post) (cw : CallW R s args own C index y bytes maxL ret ws rm 0 0 n) (hk : k < 92) (hs : gsh k = .inl (ci, ks)) (hc : vwCl[ci]? = some q) (hC : q.1 = C) (hn : As.length = n) (hsize : ls.size = nL) (hst : st = As.reverse ++ .ref (ad k) :: rest) (hW : (rest.map fun v => v.category).sum ≤ 8) (hf : cells ≤ R.cells ∧ slots ≤ R.slots) (hdg : decode cc pc = .ok (.invokevirtual index, 3))
    (kk : ∀ (r : Int32) (I1 : gF) (J1 : gL) (a1 : gF) (b1 : gL) (H1 : Heap) (locs1 : List Loc), post r (I1, J1, a1, b1) → GG D ad cy A s I1 J1 a1 b1 H1 locs1 → W p l e R s m args below meth c H1 locs1 cells slots Q (F0 m (pc + 3) ls (.int r :: rest))) : W p l e R s m args below meth c H locs cells slots Q (F0 m pc ls st) := by
  refine va_calli (va_runV (As := As) (rest := rest) S hM cw ⟨gx_blind, gx_rc G hk hs hc hC, gx_pre G⟩ rfl hn hsize hst (lv_room hW) hdg hf) G.2.2.2.1 (fun q _ h => gx_free G q h) (gx_free G) (fun r u t H1 locs1 ht hvm hw hB _ _ hS => ?_)
  exact kk r u.1 u.2.1 u.2.2.1 u.2.2.2 H1 locs1 hw (gx_after G ht hvm hB hS)
theorem gx_cVl (S : CallFix p m c cc nL s args Ts own) (G : GG D ad cy A s I J a b H locs) (k : Nat) {ci : Nat} {ks : List gFK} {q : vw_C} {post : Int64 → gS → Prop} (hM : gMl l y ws rm D ad cy I J a b H.size (.ref (ad k) :: As) post) (cw : CallW R s args own C index y bytes maxL ret ws rm 0 0 n) (hk : k < 92) (hs : gsh k = .inl (ci, ks)) (hc : vwCl[ci]? = some q) (hC : q.1 = C) (hn : As.length = n) (hsize : ls.size = nL) (hst : st = As.reverse ++ .ref (ad k) :: rest) (hW : (rest.map fun v => v.category).sum ≤ 8) (hf : cells ≤ R.cells ∧ slots ≤ R.slots) (hdg : decode cc pc = .ok (.invokevirtual index, 3))
    (kk : ∀ (r : Int64) (I1 : gF) (J1 : gL) (a1 : gF) (b1 : gL) (H1 : Heap) (locs1 : List Loc), post r (I1, J1, a1, b1) → GG D ad cy A s I1 J1 a1 b1 H1 locs1 → W p l e R s m args below meth c H1 locs1 cells slots Q (F0 m (pc + 3) ls (.long r :: rest))) : W p l e R s m args below meth c H locs cells slots Q (F0 m pc ls st) := by
  refine va_calll (va_runV (As := As) (rest := rest) S hM cw ⟨gx_blind, gx_rc G hk hs hc hC, gx_pre G⟩ rfl hn hsize hst (lv_room hW) hdg hf) G.2.2.2.1 (fun q _ h => gx_free G q h) (gx_free G) (fun r u t H1 locs1 ht hvm hw hB _ _ hS => ?_)
  exact kk r u.1 u.2.1 u.2.2.1 u.2.2.2 H1 locs1 hw (gx_after G ht hvm hB hS)
theorem gx_cVv (S : CallFix p m c cc nL s args Ts own) (G : GG D ad cy A s I J a b H locs) (k : Nat) {ci : Nat} {ks : List gFK} {q : vw_C} {post : gS → Prop} (hM : gMv l y ws rm D ad cy I J a b H.size (.ref (ad k) :: As) post) (cw : CallW R s args own C index y bytes maxL ret ws rm 0 0 n) (hk : k < 92) (hs : gsh k = .inl (ci, ks)) (hc : vwCl[ci]? = some q) (hC : q.1 = C) (hn : As.length = n) (hsize : ls.size = nL) (hst : st = As.reverse ++ .ref (ad k) :: rest) (hW : (rest.map fun v => v.category).sum ≤ 8) (hf : cells ≤ R.cells ∧ slots ≤ R.slots) (hdg : decode cc pc = .ok (.invokevirtual index, 3))
    (kk : ∀ (I1 : gF) (J1 : gL) (a1 : gF) (b1 : gL) (H1 : Heap) (locs1 : List Loc), post (I1, J1, a1, b1) → GG D ad cy A s I1 J1 a1 b1 H1 locs1 → W p l e R s m args below meth c H1 locs1 cells slots Q (F0 m (pc + 3) ls rest)) : W p l e R s m args below meth c H locs cells slots Q (F0 m pc ls st) := by
  refine va_callv (va_runV (As := As) (rest := rest) S hM cw ⟨gx_blind, gx_rc G hk hs hc hC, gx_pre G⟩ rfl hn hsize hst (lv_room hW) hdg hf) G.2.2.2.1 (fun q _ h => gx_free G q h) (gx_free G) (fun u t H1 locs1 ht hvm hw hB _ _ hS => ?_)
  exact kk u.1 u.2.1 u.2.2.1 u.2.2.2 H1 locs1 hw (gx_after G ht hvm hB hS)
/-- a call of a static method -/
theorem gx_cSi (S : CallFix p m c cc nL s args Ts own) (G : GG D ad cy A s I J a b H locs) {post : Int32 → gS → Prop} (hM : gMi l y ws rm D ad cy I J a b H.size As post) (cw : CallB R s args own index y bytes maxL ret ws rm 0 0 n ∧ (Cond.static y).before args s = true) (hn : As.length = n) (hsize : ls.size = nL) (hst : st = As.reverse ++ rest) (hW : (rest.map fun v => v.category).sum ≤ 8) (hf : cells ≤ R.cells ∧ slots ≤ R.slots) (hdg : decode cc pc = .ok (.invokestatic index, 3))
    (kk : ∀ (r : Int32) (I1 : gF) (J1 : gL) (a1 : gF) (b1 : gL) (H1 : Heap) (locs1 : List Loc), post r (I1, J1, a1, b1) → GG D ad cy A s I1 J1 a1 b1 H1 locs1 → W p l e R s m args below meth c H1 locs1 cells slots Q (F0 m (pc + 3) ls (.int r :: rest))) : W p l e R s m args below meth c H locs cells slots Q (F0 m pc ls st) := by
  refine va_calli (va_runS (As := As) (rest := rest) S hM cw ⟨gx_blind, gx_pre G⟩ rfl hn hsize hst (lv_room hW) hdg hf) G.2.2.2.1 (fun q _ h => gx_free G q h) (gx_free G) (fun r u t H1 locs1 ht hvm hw hB _ _ hS => ?_)
  exact kk r u.1 u.2.1 u.2.2.1 u.2.2.2 H1 locs1 hw (gx_after G ht hvm hB hS)
theorem gx_cSl (S : CallFix p m c cc nL s args Ts own) (G : GG D ad cy A s I J a b H locs) {post : Int64 → gS → Prop} (hM : gMl l y ws rm D ad cy I J a b H.size As post) (cw : CallB R s args own index y bytes maxL ret ws rm 0 0 n ∧ (Cond.static y).before args s = true) (hn : As.length = n) (hsize : ls.size = nL) (hst : st = As.reverse ++ rest) (hW : (rest.map fun v => v.category).sum ≤ 8) (hf : cells ≤ R.cells ∧ slots ≤ R.slots) (hdg : decode cc pc = .ok (.invokestatic index, 3))
    (kk : ∀ (r : Int64) (I1 : gF) (J1 : gL) (a1 : gF) (b1 : gL) (H1 : Heap) (locs1 : List Loc), post r (I1, J1, a1, b1) → GG D ad cy A s I1 J1 a1 b1 H1 locs1 → W p l e R s m args below meth c H1 locs1 cells slots Q (F0 m (pc + 3) ls (.long r :: rest))) : W p l e R s m args below meth c H locs cells slots Q (F0 m pc ls st) := by
  refine va_calll (va_runS (As := As) (rest := rest) S hM cw ⟨gx_blind, gx_pre G⟩ rfl hn hsize hst (lv_room hW) hdg hf) G.2.2.2.1 (fun q _ h => gx_free G q h) (gx_free G) (fun r u t H1 locs1 ht hvm hw hB _ _ hS => ?_)
  exact kk r u.1 u.2.1 u.2.2.1 u.2.2.2 H1 locs1 hw (gx_after G ht hvm hB hS)
end GC
