section GC
variable {p : Program} {l : Launch} {e : Env} {R : Room} {s : State} {m : MethodId} {args : Array Value} {below : List Frame} {meth : Method} {c : Code} {H : Heap} {locs : List Loc} {cells slots : Nat} {Q : State → Prop}
variable {cc : ByteArray} {pc : Nat} {ls : Array Slot} {rest : List Value} {D : va_G} {ad : Nat → Nat} {cy : Nat → ClassId} {A : Nat → Prop} {I : gF} {J : gL} {a : gF} {b : gL}
theorem gWl_in {E : Nat → va_E} {k : Nat} {q : Nat × va_E} (hq : (gWl ad E)[k]? = some q) : k < 92 ∧ q = (ad k, E k) := by
  have hk : k < 92 := by
    have := (List.getElem?_eq_some_iff.mp hq).1
    simpa [gWl] using this
  rw [gWl_get hk] at hq
  exact ⟨hk, (Option.some.inj hq).symm⟩
theorem gWl_D {E : Nat → va_E} {A B : Nat → Prop} (h : va_D A (gWl ad E)) (hB : ∀ k, k < 92 → B (ad k)) : va_D B (gWl ad E) := ⟨h.1, fun k q hq => by
  obtain ⟨hk, rfl⟩ := gWl_in hq
  exact hB k hk⟩
theorem gx_begin {As : List Value} {sz : Nat} (hv : va_Pc As (gPre D ad cy I J a b sz) args s) : args = As.toArray ∧ s.heap.size = sz ∧ GG D ad cy (gA ad sz) s I J a b s.heap [] := by
  obtain ⟨h1, h2, hP, hK, hD⟩ := hv
  exact ⟨h1, h2, hK, hP, gWl_D hD (fun k hk => Or.inl ⟨k, hk, rfl⟩), va_S.rf, fun q h => Or.inr (by rw [← h2]; exact h)⟩
theorem gx_free (G : GG D ad cy A s I J a b H locs) : ∀ q, gA ad H.size q → A q := by
  intro q h
  rcases h with ⟨k, hk, rfl⟩ | h
  · exact G.2.2.1.2 k _ (gWl_get hk)
  · exact G.2.2.2.2 q (Nat.le_trans G.2.2.2.1.1 h)
theorem gx_blind {As : List Value} {sz : Nat} : FrameBlind (va_Pc As (gPre D ad cy I J a b sz)) := fun a' U g mk q => by
  obtain ⟨q0, q1, qP, qK, qD⟩ := q
  exact ⟨q0, q1, qP, va_K.moved (u := U) (U := U.calling g mk a') (Vm.Alike.refl U.vm) qK, qD⟩
theorem gx_pre {As : List Value} (G : GG D ad cy A s I J a b H locs) : ∀ U : State, U.heap = H → s.WarmedH U.vm → va_Pc As (gPre D ad cy I J a b H.size) As.toArray U := fun U hU hW => ⟨rfl, by rw [hU], by rw [hU]; exact G.2.1, va_K.moved hW.alike G.1, gWl_D G.2.2.1 (fun _ _ => trivial)⟩
theorem gx_after {u : gS} {t : State} {H1 : Heap} {locs1 : List Loc} (G : GG D ad cy A s I J a b H locs) (ht : t.heap = H1) (hvm : s.vm.Alike t.vm) (hB : gAt D ad cy (gA ad H.size) u t) (hS : va_S A s.heap H1 locs1) : GG D ad cy A s u.1 u.2.1 u.2.2.1 u.2.2.2 H1 locs1 := by
  obtain ⟨hP, hK, hD⟩ := hB
  rw [ht] at hP
  exact ⟨va_K.moved hvm.symm hK, hP, gWl_at G.2.2.1, hS, G.2.2.2.2⟩
theorem gx_iret (hx : p.tables.exec = Jvm.exec) (hb : c.code = cc) (hr : meth.sig.returnType = some .int) (hlocks : meth.locks = false) (G : GG D ad cy A s I J a b H locs) {post : Int32 → gS → Prop} {v : Int32} (hp : post v (I, J, a, b)) (hdg : decode cc pc = .ok (.ireturn, 1)) : W p l e R s m args below meth c H locs cells slots (MQ below (va_Qi post (gAt D ad cy A) A) args s cells slots A) (F0 m pc ls [.int v]) :=
  W.iret (v := v) hx hb hr (fun t ht hW => ⟨⟨v, (I, J, a, b), rfl, hp, by rw [ht]; exact G.2.1, va_K.moved hW.alike G.1, G.2.2.1⟩, G.2.2.2.1.F ht⟩) G.2.2.2.1.2.2 hdg hlocks
theorem gx_zret (hx : p.tables.exec = Jvm.exec) (hb : c.code = cc) (hr : meth.sig.returnType = some .boolean) (hlocks : meth.locks = false) (G : GG D ad cy A s I J a b H locs) {post : Int32 → gS → Prop} {v : Int32} (hn : narrow .boolean (.int v) = .int v) (hp : post v (I, J, a, b)) (hdg : decode cc pc = .ok (.ireturn, 1)) : W p l e R s m args below meth c H locs cells slots (MQ below (va_Qi post (gAt D ad cy A) A) args s cells slots A) (F0 m pc ls [.int v]) :=
  W.zret (v := v) hx hb hr hn (fun t ht hW => ⟨⟨v, (I, J, a, b), rfl, hp, by rw [ht]; exact G.2.1, va_K.moved hW.alike G.1, G.2.2.1⟩, G.2.2.2.1.F ht⟩) G.2.2.2.1.2.2 hdg hlocks
theorem gx_lret (hx : p.tables.exec = Jvm.exec) (hb : c.code = cc) (hr : meth.sig.returnType = some .long) (hlocks : meth.locks = false) (G : GG D ad cy A s I J a b H locs) {post : Int64 → gS → Prop} {v : Int64} (hp : post v (I, J, a, b)) (hdg : decode cc pc = .ok (.lreturn, 1)) : W p l e R s m args below meth c H locs cells slots (MQ below (va_Ql post (gAt D ad cy A) A) args s cells slots A) (F0 m pc ls [.long v]) :=
  W.lret (v := v) hx hb hr (fun t ht hW => ⟨⟨v, (I, J, a, b), rfl, hp, by rw [ht]; exact G.2.1, va_K.moved hW.alike G.1, G.2.2.1⟩, G.2.2.2.1.F ht⟩) G.2.2.2.1.2.2 hdg hlocks
theorem gx_vret (hx : p.tables.exec = Jvm.exec) (hb : c.code = cc) (hr : meth.sig.returnType = none) (hlocks : meth.locks = false) (G : GG D ad cy A s I J a b H locs) {post : gS → Prop} (hp : post (I, J, a, b)) (hdg : decode cc pc = .ok (.return_, 1)) : W p l e R s m args below meth c H locs cells slots (MQ below (va_Qv post (gAt D ad cy A) A) args s cells slots A) (F0 m pc ls []) :=
  W.vret hx hb hr (fun t ht hW => ⟨⟨(I, J, a, b), rfl, hp, by rw [ht]; exact G.2.1, va_K.moved hW.alike G.1, G.2.2.1⟩, G.2.2.2.1.F ht⟩) G.2.2.2.1.2.2 hdg hlocks
variable {y : MethodName} {ws : List Cond} {rm : Room} {Ts : List Cond} {own C : String} {index maxL nL n : Nat} {bytes : ByteArray} {ret : Option FieldType} {As st : List Value}
theorem gx_rc (G : GG D ad cy A s I J a b H locs) {k ci : Nat} {ks : List gFK} {q : vw_C} (hk : k < 92) (hs : gsh k = .inl (ci, ks)) (hc : vwCl[ci]? = some q) (hC : q.1 = C) : ∃ cell : Cell, H[ad k]? = some cell ∧ cell.vm.isStatics = false ∧ s.vm.findClass C = some cell.cls := by
  subst hC
  exact va_recv G.1 G.2.1 hc ((gWl_get hk).trans (by rw [gE_ob hs]))
/-- a call of an instance method that answers an int or a boolean -/
theorem gx_cVi (S : CallFix p m c cc nL s args Ts own) (G : GG D ad cy A s I J a b H locs) (k : Nat) {ci : Nat} {ks : List gFK} {q : vw_C} {post : Int32 → gS → Prop} (hM : gMi l y ws rm D ad cy I J a b H.size (.ref (ad k) :: As) post) (cw : CallW R s args own C index y bytes maxL ret ws rm 0 0 n) (hk : k < 92) (hs : gsh k = .inl (ci, ks)) (hc : vwCl[ci]? = some q) (hC : q.1 = C) (hn : As.length = n) (hsize : ls.size = nL) (hst : st = As.reverse ++ .ref (ad k) :: rest) (hW : (rest.map fun v => v.category).sum ≤ 8) (hf : cells ≤ R.cells ∧ slots ≤ R.slots) (hdg : decode cc pc = .ok (.invokevirtual index, 3))
    (kk : ∀ (r : Int32) (I1 : gF) (J1 : gL) (a1 : gF) (b1 : gL) (H1 : Heap) (locs1 : List Loc), post r (I1, J1, a1, b1) → GG D ad cy A s I1 J1 a1 b1 H1 locs1 → W p l e R s m args below meth c H1 locs1 cells slots Q (F0 m (pc + 3) ls (.int r :: rest))) : W p l e R s m args below meth c H locs cells slots Q (F0 m pc ls st) := by
  refine va_calli (va_runV (As := As) (rest := rest) S hM cw ⟨gx_blind, gx_rc G hk hs hc hC, gx_pre G⟩ rfl hn hsize hst (lv_room hW) hdg hf) G.2.2.2.1 (fun q _ h => gx_free G q h) (gx_free G) (fun r u t H1 locs1 ht hvm hw hB _ _ hS => ?_)
  exact kk r u.1 u.2.1 u.2.2.1 u.2.2.2 H1 locs1 hw (gx_after G ht hvm hB hS)
theorem gx_cVl (S : CallFix p m c cc nL s args Ts own) (G : GG D ad cy A s I J a b H locs) (k : Nat) {ci : Nat} {ks : List gFK} {q : vw_C} {post : Int64 → gS → Prop} (hM : gMl l y ws rm D ad cy I J a b H.size (.ref (ad k) :: As) post) (cw : CallW R s args own C index y bytes maxL ret ws rm 0 0 n) (hk : k < 92) (hs : gsh k = .inl (ci, ks)) (hc : vwCl[ci]? = some q) (hC : q.1 = C) (hn : As.length = n) (hsize : ls.size = nL) (hst : st = As.reverse ++ .ref (ad k) :: rest) (hW : (rest.map fun v => v.category).sum ≤ 8) (hf : cells ≤ R.cells ∧ slots ≤ R.slots) (hdg : decode cc pc = .ok (.invokevirtual index, 3))
    (kk : ∀ (r : Int64) (I1 : gF) (J1 : gL) (a1 : gF) (b1 : gL) (H1 : Heap) (locs1 : List Loc), post r (I1, J1, a1, b1) → GG D ad cy A s I1 J1 a1 b1 H1 locs1 → W p l e R s m args below meth c H1 locs1 cells slots Q (F0 m (pc + 3) ls (.long r :: rest))) : W p l e R s m args below meth c H locs cells slots Q (F0 m pc ls st) := by
  refine va_calll (va_runV (As := As) (rest := rest) S hM cw ⟨gx_blind, gx_rc G hk hs hc hC, gx_pre G⟩ rfl hn hsize hst (lv_room hW) hdg hf) G.2.2.2.1 (fun q _ h => gx_free G q h) (gx_free G) (fun r u t H1 locs1 ht hvm hw hB _ _ hS => ?_)
  exact kk r u.1 u.2.1 u.2.2.1 u.2.2.2 H1 locs1 hw (gx_after G ht hvm hB hS)
theorem gx_cVv (S : CallFix p m c cc nL s args Ts own) (G : GG D ad cy A s I J a b H locs) (k : Nat) {ci : Nat} {ks : List gFK} {q : vw_C} {post : gS → Prop} (hM : gMv l y ws rm D ad cy I J a b H.size (.ref (ad k) :: As) post) (cw : CallW R s args own C index y bytes maxL ret ws rm 0 0 n) (hk : k < 92) (hs : gsh k = .inl (ci, ks)) (hc : vwCl[ci]? = some q) (hC : q.1 = C) (hn : As.length = n) (hsize : ls.size = nL) (hst : st = As.reverse ++ .ref (ad k) :: rest) (hW : (rest.map fun v => v.category).sum ≤ 8) (hf : cells ≤ R.cells ∧ slots ≤ R.slots) (hdg : decode cc pc = .ok (.invokevirtual index, 3))
    (kk : ∀ (I1 : gF) (J1 : gL) (a1 : gF) (b1 : gL) (H1 : Heap) (locs1 : List Loc), post (I1, J1, a1, b1) → GG D ad cy A s I1 J1 a1 b1 H1 locs1 → W p l e R s m args below meth c H1 locs1 cells slots Q (F0 m (pc + 3) ls rest)) : W p l e R s m args below meth c H locs cells slots Q (F0 m pc ls st) := by
  refine va_callv (va_runV (As := As) (rest := rest) S hM cw ⟨gx_blind, gx_rc G hk hs hc hC, gx_pre G⟩ rfl hn hsize hst (lv_room hW) hdg hf) G.2.2.2.1 (fun q _ h => gx_free G q h) (gx_free G) (fun u t H1 locs1 ht hvm hw hB _ _ hS => ?_)
  exact kk u.1 u.2.1 u.2.2.1 u.2.2.2 H1 locs1 hw (gx_after G ht hvm hB hS)
/-- a call of a static method -/
theorem gx_cSi (S : CallFix p m c cc nL s args Ts own) (G : GG D ad cy A s I J a b H locs) {post : Int32 → gS → Prop} (hM : gMi l y ws rm D ad cy I J a b H.size As post) (cw : CallB R s args own index y bytes maxL ret ws rm 0 0 n ∧ (Cond.static y).before args s = true) (hn : As.length = n) (hsize : ls.size = nL) (hst : st = As.reverse ++ rest) (hW : (rest.map fun v => v.category).sum ≤ 8) (hf : cells ≤ R.cells ∧ slots ≤ R.slots) (hdg : decode cc pc = .ok (.invokestatic index, 3))
    (kk : ∀ (r : Int32) (I1 : gF) (J1 : gL) (a1 : gF) (b1 : gL) (H1 : Heap) (locs1 : List Loc), post r (I1, J1, a1, b1) → GG D ad cy A s I1 J1 a1 b1 H1 locs1 → W p l e R s m args below meth c H1 locs1 cells slots Q (F0 m (pc + 3) ls (.int r :: rest))) : W p l e R s m args below meth c H locs cells slots Q (F0 m pc ls st) := by
  refine va_calli (va_runS (As := As) (rest := rest) S hM cw ⟨gx_blind, gx_pre G⟩ rfl hn hsize hst (lv_room hW) hdg hf) G.2.2.2.1 (fun q _ h => gx_free G q h) (gx_free G) (fun r u t H1 locs1 ht hvm hw hB _ _ hS => ?_)
  exact kk r u.1 u.2.1 u.2.2.1 u.2.2.2 H1 locs1 hw (gx_after G ht hvm hB hS)
theorem gx_cSl (S : CallFix p m c cc nL s args Ts own) (G : GG D ad cy A s I J a b H locs) {post : Int64 → gS → Prop} (hM : gMl l y ws rm D ad cy I J a b H.size As post) (cw : CallB R s args own index y bytes maxL ret ws rm 0 0 n ∧ (Cond.static y).before args s = true) (hn : As.length = n) (hsize : ls.size = nL) (hst : st = As.reverse ++ rest) (hW : (rest.map fun v => v.category).sum ≤ 8) (hf : cells ≤ R.cells ∧ slots ≤ R.slots) (hdg : decode cc pc = .ok (.invokestatic index, 3))
    (kk : ∀ (r : Int64) (I1 : gF) (J1 : gL) (a1 : gF) (b1 : gL) (H1 : Heap) (locs1 : List Loc), post r (I1, J1, a1, b1) → GG D ad cy A s I1 J1 a1 b1 H1 locs1 → W p l e R s m args below meth c H1 locs1 cells slots Q (F0 m (pc + 3) ls (.long r :: rest))) : W p l e R s m args below meth c H locs cells slots Q (F0 m pc ls st) := by
  refine va_calll (va_runS (As := As) (rest := rest) S hM cw ⟨gx_blind, gx_pre G⟩ rfl hn hsize hst (lv_room hW) hdg hf) G.2.2.2.1 (fun q _ h => gx_free G q h) (gx_free G) (fun r u t H1 locs1 ht hvm hw hB _ _ hS => ?_)
  exact kk r u.1 u.2.1 u.2.2.1 u.2.2.2 H1 locs1 hw (gx_after G ht hvm hB hS)
end GC
section GD
variable {p : Program} {l : Launch} {e : Env} {R : Room} {s : State} {m : MethodId} {args : Array Value} {below : List Frame} {meth : Method} {c : Code} {H : Heap} {locs : List Loc} {cells slots : Nat} {Q : State → Prop}
variable {cc : ByteArray} {pc : Nat} {ls : Array Slot} {rest : List Value} {D : va_G} {ad : Nat → Nat} {cy : Nat → ClassId} {A : Nat → Prop} {I : gF} {J : gL} {a : gF} {b : gL}
theorem gx_q {g : JFrame} (k : ∀ Q2 : State → Prop, Q2 = Q → W p l e R s m args below meth c H locs cells slots Q2 g) : W p l e R s m args below meth c H locs cells slots Q g := k Q rfl
theorem gg_eq {I' : gF} {J' : gL} {a' : gF} {b' : gL} (G : GG D ad cy A s I J a b H locs) (h1 : I = I') (h2 : J = J') (h3 : a = a') (h4 : b = b') : GG D ad cy A s I' J' a' b' H locs := by
  subst h1
  subst h2
  subst h3
  subst h4
  exact G
theorem lc_lt {x y : Int64} : lg_cmp x y < 0 ↔ x < y := by
  unfold lg_cmp
  simp only [Int64.lt_iff_toInt_lt]
  by_cases h1 : y.toInt < x.toInt
  · rw [if_pos h1]
    exact ⟨fun h => absurd h (by decide), fun h => by omega⟩
  · rw [if_neg h1]
    by_cases h2 : x = y
    · subst h2
      rw [if_pos rfl]
      exact ⟨fun h => absurd h (by decide), fun h => by omega⟩
    · rw [if_neg h2]
      have : x.toInt ≠ y.toInt := fun h => h2 (Int64.toInt_inj.mp h)
      exact ⟨fun _ => by omega, fun _ => by decide⟩
theorem lc_eq {x y : Int64} : lg_cmp x y = 0 ↔ x = y := by
  unfold lg_cmp
  by_cases h1 : y < x
  · rw [if_pos h1]
    refine ⟨fun h => absurd h (by decide), fun h => ?_⟩
    subst h
    rw [Int64.lt_iff_toInt_lt] at h1
    omega
  · rw [if_neg h1]
    by_cases h2 : x = y
    · rw [if_pos h2]
      exact ⟨fun _ => h2, fun _ => rfl⟩
    · rw [if_neg h2]
      exact ⟨fun h => absurd h (by decide), fun h => absurd h h2⟩
theorem lc_gt {x y : Int64} : 0 < lg_cmp x y ↔ y < x := by
  unfold lg_cmp
  by_cases h1 : y < x
  · rw [if_pos h1]
    exact ⟨fun _ => h1, fun _ => by decide⟩
  · rw [if_neg h1]
    by_cases h2 : x = y
    · rw [if_pos h2]
      exact ⟨fun h => absurd h (by decide), fun h => absurd h h1⟩
    · rw [if_neg h2]
      exact ⟨fun h => absurd h (by decide), fun h => absurd h h1⟩
theorem i32_nlt {x y : Int32} : ¬ x < y ↔ y ≤ x := by
  rw [Int32.lt_iff_toInt_lt, Int32.le_iff_toInt_le]
  omega
theorem i64_nlt {x y : Int64} : ¬ x < y ↔ y ≤ x := by
  rw [Int64.lt_iff_toInt_lt, Int64.le_iff_toInt_le]
  omega
theorem lc_ge {x y : Int64} : 0 ≤ lg_cmp x y ↔ y ≤ x := by
  rw [← i32_nlt, ← i64_nlt, lc_lt]
theorem lc_le {x y : Int64} : lg_cmp x y ≤ 0 ↔ x ≤ y := by
  rw [← i32_nlt, ← i64_nlt, lc_gt]
/-- two longs compared, and the branch on it: the words of the branch as they are said of the longs -/
theorem gx_lc_lt (hx : p.tables.exec = Jvm.exec) (hb : c.code = cc) {x y : Int64} {off : Int} {tgt : Nat} (h1 : decode cc pc = .ok (.lcmp, 1)) (h2 : decode cc (pc + 1) = .ok (.ifCond .lt off, 3)) (ht : ((pc + 1 : Nat) : Int) + off = (tgt : Int)) (kt : x < y → W p l e R s m args below meth c H locs cells slots Q (F0 m tgt ls rest)) (kf : ¬ x < y → W p l e R s m args below meth c H locs cells slots Q (F0 m (pc + 1 + 3) ls rest)) : W p l e R s m args below meth c H locs cells slots Q (F0 m pc ls (.long y :: .long x :: rest)) :=
  W.lcmp hx hb h1 (lv_if_lt hx hb h2 ht (fun q => kt (lc_lt.mp q)) (fun q => kf (fun r => q (lc_lt.mpr r))))
theorem gx_lc_ge (hx : p.tables.exec = Jvm.exec) (hb : c.code = cc) {x y : Int64} {off : Int} {tgt : Nat} (h1 : decode cc pc = .ok (.lcmp, 1)) (h2 : decode cc (pc + 1) = .ok (.ifCond .ge off, 3)) (ht : ((pc + 1 : Nat) : Int) + off = (tgt : Int)) (kt : y ≤ x → W p l e R s m args below meth c H locs cells slots Q (F0 m tgt ls rest)) (kf : ¬ y ≤ x → W p l e R s m args below meth c H locs cells slots Q (F0 m (pc + 1 + 3) ls rest)) : W p l e R s m args below meth c H locs cells slots Q (F0 m pc ls (.long y :: .long x :: rest)) :=
  W.lcmp hx hb h1 (lv_if_ge hx hb h2 ht (fun q => kt (lc_ge.mp q)) (fun q => kf (fun r => q (lc_ge.mpr r))))
theorem gx_lc_gt (hx : p.tables.exec = Jvm.exec) (hb : c.code = cc) {x y : Int64} {off : Int} {tgt : Nat} (h1 : decode cc pc = .ok (.lcmp, 1)) (h2 : decode cc (pc + 1) = .ok (.ifCond .gt off, 3)) (ht : ((pc + 1 : Nat) : Int) + off = (tgt : Int)) (kt : y < x → W p l e R s m args below meth c H locs cells slots Q (F0 m tgt ls rest)) (kf : ¬ y < x → W p l e R s m args below meth c H locs cells slots Q (F0 m (pc + 1 + 3) ls rest)) : W p l e R s m args below meth c H locs cells slots Q (F0 m pc ls (.long y :: .long x :: rest)) :=
  W.lcmp hx hb h1 (lv_if_gt hx hb h2 ht (fun q => kt (lc_gt.mp q)) (fun q => kf (fun r => q (lc_gt.mpr r))))
theorem gx_lc_le (hx : p.tables.exec = Jvm.exec) (hb : c.code = cc) {x y : Int64} {off : Int} {tgt : Nat} (h1 : decode cc pc = .ok (.lcmp, 1)) (h2 : decode cc (pc + 1) = .ok (.ifCond .le off, 3)) (ht : ((pc + 1 : Nat) : Int) + off = (tgt : Int)) (kt : x ≤ y → W p l e R s m args below meth c H locs cells slots Q (F0 m tgt ls rest)) (kf : ¬ x ≤ y → W p l e R s m args below meth c H locs cells slots Q (F0 m (pc + 1 + 3) ls rest)) : W p l e R s m args below meth c H locs cells slots Q (F0 m pc ls (.long y :: .long x :: rest)) :=
  W.lcmp hx hb h1 (lv_if_le hx hb h2 ht (fun q => kt (lc_le.mp q)) (fun q => kf (fun r => q (lc_le.mpr r))))
theorem gx_lc_eq (hx : p.tables.exec = Jvm.exec) (hb : c.code = cc) {x y : Int64} {off : Int} {tgt : Nat} (h1 : decode cc pc = .ok (.lcmp, 1)) (h2 : decode cc (pc + 1) = .ok (.ifCond .eq off, 3)) (ht : ((pc + 1 : Nat) : Int) + off = (tgt : Int)) (kt : x = y → W p l e R s m args below meth c H locs cells slots Q (F0 m tgt ls rest)) (kf : ¬ x = y → W p l e R s m args below meth c H locs cells slots Q (F0 m (pc + 1 + 3) ls rest)) : W p l e R s m args below meth c H locs cells slots Q (F0 m pc ls (.long y :: .long x :: rest)) :=
  W.lcmp hx hb h1 (lv_if_eq hx hb h2 ht (fun q => kt (lc_eq.mp q)) (fun q => kf (fun r => q (lc_eq.mpr r))))
theorem gx_lc_ne (hx : p.tables.exec = Jvm.exec) (hb : c.code = cc) {x y : Int64} {off : Int} {tgt : Nat} (h1 : decode cc pc = .ok (.lcmp, 1)) (h2 : decode cc (pc + 1) = .ok (.ifCond .ne off, 3)) (ht : ((pc + 1 : Nat) : Int) + off = (tgt : Int)) (kt : ¬ x = y → W p l e R s m args below meth c H locs cells slots Q (F0 m tgt ls rest)) (kf : x = y → W p l e R s m args below meth c H locs cells slots Q (F0 m (pc + 1 + 3) ls rest)) : W p l e R s m args below meth c H locs cells slots Q (F0 m pc ls (.long y :: .long x :: rest)) :=
  W.lcmp hx hb h1 (lv_if_ne hx hb h2 ht (fun q => kt (fun r => q (lc_eq.mpr r))) (fun q => kf (lc_eq.mp q)))
/-- ints that are natural numbers: their order as numbers -/
theorem gn_le {x y : Int32} {X Y : Nat} (hx : x = nI X) (hy : y = nI Y) (h1 : X < 2 ^ 31) (h2 : Y < 2 ^ 31) (h : x ≤ y) : X ≤ Y := by rw [hx, hy] at h; exact (nI_leI h1 h2).mp h
theorem gn_nle {x y : Int32} {X Y : Nat} (hx : x = nI X) (hy : y = nI Y) (h1 : X < 2 ^ 31) (h2 : Y < 2 ^ 31) (h : ¬ x ≤ y) : Y < X := Nat.lt_of_not_le (fun q => h (by rw [hx, hy]; exact (nI_leI h1 h2).mpr q))
theorem gn_lt {x y : Int32} {X Y : Nat} (hx : x = nI X) (hy : y = nI Y) (h1 : X < 2 ^ 31) (h2 : Y < 2 ^ 31) (h : x < y) : X < Y := by rw [hx, hy] at h; exact (nI_ltI h1 h2).mp h
theorem gn_nlt {x y : Int32} {X Y : Nat} (hx : x = nI X) (hy : y = nI Y) (h1 : X < 2 ^ 31) (h2 : Y < 2 ^ 31) (h : ¬ x < y) : Y ≤ X := Nat.le_of_not_lt (fun q => h (by rw [hx, hy]; exact (nI_ltI h1 h2).mpr q))
theorem gn_eq {x y : Int32} {X Y : Nat} (hx : x = nI X) (hy : y = nI Y) (h1 : X < 2 ^ 31) (h2 : Y < 2 ^ 31) (h : x = y) : X = Y := by rw [hx, hy] at h; exact (nI_eq h1 h2).mp h
theorem gn_neq {x y : Int32} {X Y : Nat} (hx : x = nI X) (hy : y = nI Y) (h1 : X < 2 ^ 31) (h2 : Y < 2 ^ 31) (h : ¬ x = y) : X ≠ Y := fun q => h (by rw [hx, hy, q])
theorem gn_add {x y : Int32} {X Y : Nat} (hx : x = nI X) (hy : y = nI Y) : x + y = nI (X + Y) := by rw [hx, hy, nI_add]
theorem gn_mul {x y : Int32} {X Y : Nat} (hx : x = nI X) (hy : y = nI Y) : x * y = nI (X * Y) := by rw [hx, hy, pk_mul]
theorem gn_sub {x y : Int32} {X Y : Nat} (hx : x = nI X) (hy : y = nI Y) (h : Y ≤ X) : x - y = nI (X - Y) := by rw [hx, hy, pk_sub h]
theorem gx_ir (hx : p.tables.exec = Jvm.exec) (hb : c.code = cc) (hr : meth.sig.returnType = some .int) (hlocks : meth.locks = false) (G : GG D ad cy A s I J a b H locs) {post : Int32 → gS → Prop} (hQ : Q = MQ below (va_Qi post (gAt D ad cy A) A) args s cells slots A) {v : Int32} (hp : post v (I, J, a, b)) (hdg : decode cc pc = .ok (.ireturn, 1)) : W p l e R s m args below meth c H locs cells slots Q (F0 m pc ls [.int v]) := by
  rw [hQ]
  exact gx_iret hx hb hr hlocks G hp hdg
theorem gx_zr (hx : p.tables.exec = Jvm.exec) (hb : c.code = cc) (hr : meth.sig.returnType = some .boolean) (hlocks : meth.locks = false) (G : GG D ad cy A s I J a b H locs) {post : Int32 → gS → Prop} (hQ : Q = MQ below (va_Qi post (gAt D ad cy A) A) args s cells slots A) {v : Int32} (hn : narrow .boolean (.int v) = .int v) (hp : post v (I, J, a, b)) (hdg : decode cc pc = .ok (.ireturn, 1)) : W p l e R s m args below meth c H locs cells slots Q (F0 m pc ls [.int v]) := by
  rw [hQ]
  exact gx_zret hx hb hr hlocks G hn hp hdg
theorem gx_lr (hx : p.tables.exec = Jvm.exec) (hb : c.code = cc) (hr : meth.sig.returnType = some .long) (hlocks : meth.locks = false) (G : GG D ad cy A s I J a b H locs) {post : Int64 → gS → Prop} (hQ : Q = MQ below (va_Ql post (gAt D ad cy A) A) args s cells slots A) {v : Int64} (hp : post v (I, J, a, b)) (hdg : decode cc pc = .ok (.lreturn, 1)) : W p l e R s m args below meth c H locs cells slots Q (F0 m pc ls [.long v]) := by
  rw [hQ]
  exact gx_lret hx hb hr hlocks G hp hdg
theorem gx_vr (hx : p.tables.exec = Jvm.exec) (hb : c.code = cc) (hr : meth.sig.returnType = none) (hlocks : meth.locks = false) (G : GG D ad cy A s I J a b H locs) {post : gS → Prop} (hQ : Q = MQ below (va_Qv post (gAt D ad cy A) A) args s cells slots A) (hp : post (I, J, a, b)) (hdg : decode cc pc = .ok (.return_, 1)) : W p l e R s m args below meth c H locs cells slots Q (F0 m pc ls []) := by
  rw [hQ]
  exact gx_vret hx hb hr hlocks G hp hdg
theorem gsh_F (r : Nat) (h : r < 8) : gsh (40 + r) = .inr (0, 5, 0) := match r, h with
  | 0, _ => rfl
  | 1, _ => rfl
  | 2, _ => rfl
  | 3, _ => rfl
  | 4, _ => rfl
  | 5, _ => rfl
  | 6, _ => rfl
  | 7, _ => rfl
  | k + 8, h => absurd h (by omega)
theorem gsh_T (r : Nat) (h : r < 21) : gsh (48 + r) = .inr (2, 5, 0) := match r, h with
  | 0, _ => rfl
  | 1, _ => rfl
  | 2, _ => rfl
  | 3, _ => rfl
  | 4, _ => rfl
  | 5, _ => rfl
  | 6, _ => rfl
  | 7, _ => rfl
  | 8, _ => rfl
  | 9, _ => rfl
  | 10, _ => rfl
  | 11, _ => rfl
  | 12, _ => rfl
  | 13, _ => rfl
  | 14, _ => rfl
  | 15, _ => rfl
  | 16, _ => rfl
  | 17, _ => rfl
  | 18, _ => rfl
  | 19, _ => rfl
  | 20, _ => rfl
  | k + 21, h => absurd h (by omega)
theorem gsh_W (r : Nat) (h : r < 18) : gsh (69 + r) = .inr (0, 9, 0) := match r, h with
  | 0, _ => rfl
  | 1, _ => rfl
  | 2, _ => rfl
  | 3, _ => rfl
  | 4, _ => rfl
  | 5, _ => rfl
  | 6, _ => rfl
  | 7, _ => rfl
  | 8, _ => rfl
  | 9, _ => rfl
  | 10, _ => rfl
  | 11, _ => rfl
  | 12, _ => rfl
  | 13, _ => rfl
  | 14, _ => rfl
  | 15, _ => rfl
  | 16, _ => rfl
  | 17, _ => rfl
  | k + 18, h => absurd h (by omega)
variable {y : MethodName} {ws : List Cond} {rm : Room} {Ts : List Cond} {own C : String} {index maxL nL n : Nat} {bytes : ByteArray} {ret : Option FieldType} {As st : List Value} {I1 : gF} {J1 : gL} {a1 : gF} {b1 : gL}
/-- calls whose contract tells answer and state outright -/
theorem gx_dVi (S : CallFix p m c cc nL s args Ts own) (G : GG D ad cy A s I J a b H locs) (k : Nat) {ci : Nat} {ks : List gFK} {q : vw_C} {v : Int32} (hM : gMi l y ws rm D ad cy I J a b H.size (.ref (ad k) :: As) (fun r u => r = v ∧ u = (I1, J1, a1, b1))) (cw : CallW R s args own C index y bytes maxL ret ws rm 0 0 n) (hk : k < 92) (hs : gsh k = .inl (ci, ks)) (hc : vwCl[ci]? = some q) (hC : q.1 = C) (hn : As.length = n) (hsize : ls.size = nL) (hst : st = As.reverse ++ .ref (ad k) :: rest) (hW : (rest.map fun v => v.category).sum ≤ 8) (hf : cells ≤ R.cells ∧ slots ≤ R.slots) (hdg : decode cc pc = .ok (.invokevirtual index, 3))
    (kk : ∀ (H1 : Heap) (locs1 : List Loc), GG D ad cy A s I1 J1 a1 b1 H1 locs1 → W p l e R s m args below meth c H1 locs1 cells slots Q (F0 m (pc + 3) ls (.int v :: rest))) : W p l e R s m args below meth c H locs cells slots Q (F0 m pc ls st) :=
  gx_cVi S G k hM cw hk hs hc hC hn hsize hst hW hf hdg (fun r I2 J2 a2 b2 H1 locs1 hp G1 => by obtain ⟨rfl, hu⟩ := hp; cases hu; exact kk H1 locs1 G1)
theorem gx_dVl (S : CallFix p m c cc nL s args Ts own) (G : GG D ad cy A s I J a b H locs) (k : Nat) {ci : Nat} {ks : List gFK} {q : vw_C} {v : Int64} (hM : gMl l y ws rm D ad cy I J a b H.size (.ref (ad k) :: As) (fun r u => r = v ∧ u = (I1, J1, a1, b1))) (cw : CallW R s args own C index y bytes maxL ret ws rm 0 0 n) (hk : k < 92) (hs : gsh k = .inl (ci, ks)) (hc : vwCl[ci]? = some q) (hC : q.1 = C) (hn : As.length = n) (hsize : ls.size = nL) (hst : st = As.reverse ++ .ref (ad k) :: rest) (hW : (rest.map fun v => v.category).sum ≤ 8) (hf : cells ≤ R.cells ∧ slots ≤ R.slots) (hdg : decode cc pc = .ok (.invokevirtual index, 3))
    (kk : ∀ (H1 : Heap) (locs1 : List Loc), GG D ad cy A s I1 J1 a1 b1 H1 locs1 → W p l e R s m args below meth c H1 locs1 cells slots Q (F0 m (pc + 3) ls (.long v :: rest))) : W p l e R s m args below meth c H locs cells slots Q (F0 m pc ls st) :=
  gx_cVl S G k hM cw hk hs hc hC hn hsize hst hW hf hdg (fun r I2 J2 a2 b2 H1 locs1 hp G1 => by obtain ⟨rfl, hu⟩ := hp; cases hu; exact kk H1 locs1 G1)
theorem gx_dVv (S : CallFix p m c cc nL s args Ts own) (G : GG D ad cy A s I J a b H locs) (k : Nat) {ci : Nat} {ks : List gFK} {q : vw_C} (hM : gMv l y ws rm D ad cy I J a b H.size (.ref (ad k) :: As) (fun u => u = (I1, J1, a1, b1))) (cw : CallW R s args own C index y bytes maxL ret ws rm 0 0 n) (hk : k < 92) (hs : gsh k = .inl (ci, ks)) (hc : vwCl[ci]? = some q) (hC : q.1 = C) (hn : As.length = n) (hsize : ls.size = nL) (hst : st = As.reverse ++ .ref (ad k) :: rest) (hW : (rest.map fun v => v.category).sum ≤ 8) (hf : cells ≤ R.cells ∧ slots ≤ R.slots) (hdg : decode cc pc = .ok (.invokevirtual index, 3))
    (kk : ∀ (H1 : Heap) (locs1 : List Loc), GG D ad cy A s I1 J1 a1 b1 H1 locs1 → W p l e R s m args below meth c H1 locs1 cells slots Q (F0 m (pc + 3) ls rest)) : W p l e R s m args below meth c H locs cells slots Q (F0 m pc ls st) :=
  gx_cVv S G k hM cw hk hs hc hC hn hsize hst hW hf hdg (fun I2 J2 a2 b2 H1 locs1 hp G1 => by cases hp; exact kk H1 locs1 G1)
theorem gx_dSi (S : CallFix p m c cc nL s args Ts own) (G : GG D ad cy A s I J a b H locs) {v : Int32} (hM : gMi l y ws rm D ad cy I J a b H.size As (fun r u => r = v ∧ u = (I1, J1, a1, b1))) (cw : CallB R s args own index y bytes maxL ret ws rm 0 0 n ∧ (Cond.static y).before args s = true) (hn : As.length = n) (hsize : ls.size = nL) (hst : st = As.reverse ++ rest) (hW : (rest.map fun v => v.category).sum ≤ 8) (hf : cells ≤ R.cells ∧ slots ≤ R.slots) (hdg : decode cc pc = .ok (.invokestatic index, 3))
    (kk : ∀ (H1 : Heap) (locs1 : List Loc), GG D ad cy A s I1 J1 a1 b1 H1 locs1 → W p l e R s m args below meth c H1 locs1 cells slots Q (F0 m (pc + 3) ls (.int v :: rest))) : W p l e R s m args below meth c H locs cells slots Q (F0 m pc ls st) :=
  gx_cSi S G hM cw hn hsize hst hW hf hdg (fun r I2 J2 a2 b2 H1 locs1 hp G1 => by obtain ⟨rfl, hu⟩ := hp; cases hu; exact kk H1 locs1 G1)
theorem gx_dSl (S : CallFix p m c cc nL s args Ts own) (G : GG D ad cy A s I J a b H locs) {v : Int64} (hM : gMl l y ws rm D ad cy I J a b H.size As (fun r u => r = v ∧ u = (I1, J1, a1, b1))) (cw : CallB R s args own index y bytes maxL ret ws rm 0 0 n ∧ (Cond.static y).before args s = true) (hn : As.length = n) (hsize : ls.size = nL) (hst : st = As.reverse ++ rest) (hW : (rest.map fun v => v.category).sum ≤ 8) (hf : cells ≤ R.cells ∧ slots ≤ R.slots) (hdg : decode cc pc = .ok (.invokestatic index, 3))
    (kk : ∀ (H1 : Heap) (locs1 : List Loc), GG D ad cy A s I1 J1 a1 b1 H1 locs1 → W p l e R s m args below meth c H1 locs1 cells slots Q (F0 m (pc + 3) ls (.long v :: rest))) : W p l e R s m args below meth c H locs cells slots Q (F0 m pc ls st) :=
  gx_cSl S G hM cw hn hsize hst hW hf hdg (fun r I2 J2 a2 b2 H1 locs1 hp G1 => by obtain ⟨rfl, hu⟩ := hp; cases hu; exact kk H1 locs1 G1)
end GD
