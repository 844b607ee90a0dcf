/-! THE LAW'S CASES: the same call of both, and the comparison of their answers -/
section LC
variable {p : Program} {l : Launch} {e : Env} {R : Room} {s : State} {m : MethodId} {args : Array Value} {below : List Frame} {meth : Method} {c : Code} {H : Heap} {locs : List Loc} {cells slots : Nat} {Q : State → Prop}
variable {cc : ByteArray} {pc : Nat} {ls : Array Slot} {rest : List Value} {D : va_G} {ad : Nat → Nat} {cy : Nat → ClassId} {A : Nat → Prop}
variable {yn : MethodName} {ws : List Cond} {rm : Room} {Ts : List Cond} {own C : String} {index maxL nL n : Nat} {bytes : ByteArray} {ret : Option FieldType} {As st : List Value}
abbrev GX (D : va_G) (ad : Nat → Nat) (cy : Nat → ClassId) (A : Nat → Prop) (s : State) (x : gS) (H : Heap) (locs : List Loc) : Prop := GG D ad cy A s x.1 x.2.1 x.2.2.1 x.2.2.2 H locs
theorem gx_eVi (S : CallFix p m c cc nL s args Ts own) {x y : gS} (G : GX D ad cy A s x H locs) (k : Nat) {ci : Nat} {ks : List gFK} {q : vw_C} {v : Int32} (hM : gMi l yn ws rm D ad cy x.1 x.2.1 x.2.2.1 x.2.2.2 H.size (.ref (ad k) :: As) (fun r u => r = v ∧ u = y)) (cw : CallW R s args own C index yn bytes maxL ret ws rm 0 0 n) (hk : k < 92) (hs : gsh k = .inl (ci, ks)) (hc : vwCl[ci]? = some q) (hC : q.1 = C) (hn : As.length = n) (hsize : ls.size = nL) (hst : st = As.reverse ++ .ref (ad k) :: rest) (hW : (rest.map fun v => v.category).sum ≤ 8) (hf : cells ≤ R.cells ∧ slots ≤ R.slots) (hdg : decode cc pc = .ok (.invokevirtual index, 3))
    (kk : ∀ (H1 : Heap) (locs1 : List Loc), GX D ad cy A s y H1 locs1 → W p l e R s m args below meth c H1 locs1 cells slots Q (F0 m (pc + 3) ls (.int v :: rest))) : W p l e R s m args below meth c H locs cells slots Q (F0 m pc ls st) :=
  gx_cVi S G k hM cw hk hs hc hC hn hsize hst hW hf hdg (fun r I2 J2 a2 b2 H1 locs1 hp G1 => by obtain ⟨rfl, hu⟩ := hp; subst hu; exact kk H1 locs1 G1)
theorem gx_eVl (S : CallFix p m c cc nL s args Ts own) {x y : gS} (G : GX D ad cy A s x H locs) (k : Nat) {ci : Nat} {ks : List gFK} {q : vw_C} {v : Int64} (hM : gMl l yn ws rm D ad cy x.1 x.2.1 x.2.2.1 x.2.2.2 H.size (.ref (ad k) :: As) (fun r u => r = v ∧ u = y)) (cw : CallW R s args own C index yn bytes maxL ret ws rm 0 0 n) (hk : k < 92) (hs : gsh k = .inl (ci, ks)) (hc : vwCl[ci]? = some q) (hC : q.1 = C) (hn : As.length = n) (hsize : ls.size = nL) (hst : st = As.reverse ++ .ref (ad k) :: rest) (hW : (rest.map fun v => v.category).sum ≤ 8) (hf : cells ≤ R.cells ∧ slots ≤ R.slots) (hdg : decode cc pc = .ok (.invokevirtual index, 3))
    (kk : ∀ (H1 : Heap) (locs1 : List Loc), GX D ad cy A s y H1 locs1 → W p l e R s m args below meth c H1 locs1 cells slots Q (F0 m (pc + 3) ls (.long v :: rest))) : W p l e R s m args below meth c H locs cells slots Q (F0 m pc ls st) :=
  gx_cVl S G k hM cw hk hs hc hC hn hsize hst hW hf hdg (fun r I2 J2 a2 b2 H1 locs1 hp G1 => by obtain ⟨rfl, hu⟩ := hp; subst hu; exact kk H1 locs1 G1)
/-- an int of the script -/
theorem lw_sld (hx : p.tables.exec = Jvm.exec) (hb : c.code = cc) {b L i : Nat} {xs : Nat → Int32} (hX : va_X b L xs s s.heap) (hbl : b < s.heap.size) (hS : va_S (fun q => s.heap.size ≤ q) s.heap H locs) (hi : i + 4 ≤ L) (hL : L ≤ 2048) (j : Nat) (hj : j < 4) {k : Int32} (hk : k = nI j) (hdg : decode cc pc = .ok (.iaload, 1))
    (kk : W p l e R s m args below meth c H locs cells slots Q (F0 m (pc + 1) ls (.int (xs (i + j)) :: rest))) : W p l e R s m args below meth c H locs cells slots Q (F0 m pc ls (.int (nI i + k) :: .ref b :: rest)) := by
  have e1 : nI i + k = nI (i + j) := by rw [hk, nI_add]
  refine va_sld (A := fun q => s.heap.size ≤ q) hx hb hX hbl (Nat.not_le.mpr hbl) hS (i := nI i + k) (by rw [e1]; exact vp_in_nI (by omega) (by omega)) hdg ?_
  rw [e1, nI_clamp (by omega)]
  exact kk
end LC
/-- what stays the same over the law's loop -/
def lwS (p : Program) (s : State) (m : MethodId) (c : Code) (b L : Nat) (xs : Nat → Int32) : Prop := p.tables.exec = Jvm.exec ∧ c.code = cL_law ∧ c.maxLocals = 4 ∧ s.vm.findClass RL = some m.cls ∧ (∀ w ∈ wsL_law, w.before #[Value.ref b] s = true) ∧ va_X b L xs s s.heap ∧ b < s.heap.size ∧ L ≤ 2048
set_option maxHeartbeats 4000000 in
set_option maxRecDepth 100000 in
theorem lw_case_name {p : Program} {l : Launch} {e : Env} {s : State} {m : MethodId} {below : List Frame} {meth : Method} {c : Code} {H : Heap} {locs : List Loc} {Q : State → Prop} {ls : Array Slot} {D : va_G} {ad : Nat → Nat} {cy : Nat → ClassId} {b L i : Nat} {xs : Nat → Int32} {x : gS} (S : lwS p s m c b L xs) (hi : i + 4 ≤ L) (hl : lv_has ls 4 [(3, .int (nI i)), (2, .ref (ad 5)), (1, .ref (ad 0)), (0, .ref b)]) (hv : ma_INV x) (G : GX D ad cy (fun q => s.heap.size ≤ q) s x H locs)
    (kk : ∀ (y : gS) (H1 : Heap) (locs1 : List Loc), ma_INV y → GX D ad cy (fun q => s.heap.size ≤ q) s y H1 locs1 → W p l e room_1 s m #[Value.ref b] below meth c H1 locs1 92 727 Q (F0 m 655 ls [])) : W p l e room_1 s m #[Value.ref b] below meth c H locs 92 727 Q (F0 m 124 ls []) := by
  obtain ⟨hx, hb, hml, hown, hts, hX, hbl, hL⟩ := S
  have st := ma_st_name hv (xs (i + 1)) (xs (i + 2))
  refine lv_aload_n hx hb dL_law_124 rfl (lv_at hl 2 rfl) ?_
  refine lv_aload_n hx hb dL_law_125 rfl (lv_at hl 3 rfl) ?_
  refine lv_iload_n hx hb dL_law_126 rfl (lv_at hl 0 rfl) ?_
  refine lv_iconst (v := 1) hx hb dL_law_127 (by decide) ?_
  refine lv_iadd hx hb dL_law_128 ?_
  refine lw_sld hx hb hX hbl G.2.2.2.1 hi hL 1 (by decide) (by decide) dL_law_129 ?_
  refine lv_aload_n hx hb dL_law_130 rfl (lv_at hl 3 rfl) ?_
  refine lv_iload_n hx hb dL_law_131 rfl (lv_at hl 0 rfl) ?_
  refine lv_iconst (v := 2) hx hb dL_law_132 (by decide) ?_
  refine lv_iadd hx hb dL_law_133 ?_
  refine lw_sld hx hb hX hbl G.2.2.2.1 hi hL 2 (by decide) (by decide) dL_law_134 ?_
  refine gx_eVi (x := x) (y := (c_nameS x (xs (i + 1)) (xs (i + 2)))) (v := (c_name x (xs (i + 1)) (xs (i + 2)))) (As := [.int (xs (i + 1)), .int (xs (i + 2))]) (rest := []) ⟨hx, hb, hml, hown, hts⟩ G 0 (kX4_name l D ad cy x.1 x.2.1 x.2.2.1 x.2.2.2 H.size (xs (i + 1)) (xs (i + 2)) (ma_IV_cOK hv)) (cwV 2 hts gL_law_X4_name rfl rfl rfl (by decide +kernel) ⟨Nat.le_of_ble_eq_true rfl, Nat.le_of_ble_eq_true rfl⟩) (by decide) rfl rfl rfl rfl hl.1 rfl (Nat.le_of_ble_eq_true rfl) ⟨Nat.le_of_ble_eq_true rfl, Nat.le_of_ble_eq_true rfl⟩ dL_law_135 (fun H locs G => ?_)
  refine lv_aload_n hx hb dL_law_138 rfl (lv_at hl 1 rfl) ?_
  refine lv_aload_n hx hb dL_law_139 rfl (lv_at hl 3 rfl) ?_
  refine lv_iload_n hx hb dL_law_140 rfl (lv_at hl 0 rfl) ?_
  refine lv_iconst (v := 1) hx hb dL_law_141 (by decide) ?_
  refine lv_iadd hx hb dL_law_142 ?_
  refine lw_sld hx hb hX hbl G.2.2.2.1 hi hL 1 (by decide) (by decide) dL_law_143 ?_
  refine lv_aload_n hx hb dL_law_144 rfl (lv_at hl 3 rfl) ?_
  refine lv_iload_n hx hb dL_law_145 rfl (lv_at hl 0 rfl) ?_
  refine lv_iconst (v := 2) hx hb dL_law_146 (by decide) ?_
  refine lv_iadd hx hb dL_law_147 ?_
  refine lw_sld hx hb hX hbl G.2.2.2.1 hi hL 2 (by decide) (by decide) dL_law_148 ?_
  obtain ⟨o1, o2, o3, o4⟩ := st.1
  refine gx_eVi (x := (c_nameS x (xs (i + 1)) (xs (i + 2)))) (y := (m_nameS (c_nameS x (xs (i + 1)) (xs (i + 2))) (xs (i + 1)) (xs (i + 2)))) (v := (m_name (c_nameS x (xs (i + 1)) (xs (i + 2))) (xs (i + 1)) (xs (i + 2)))) (As := [.int (xs (i + 1)), .int (xs (i + 2))]) (rest := [.int (c_name x (xs (i + 1)) (xs (i + 2)))]) ⟨hx, hb, hml, hown, hts⟩ G 5 (kX5_name l D ad cy (c_nameS x (xs (i + 1)) (xs (i + 2))).1 (c_nameS x (xs (i + 1)) (xs (i + 2))).2.1 (c_nameS x (xs (i + 1)) (xs (i + 2))).2.2.1 (c_nameS x (xs (i + 1)) (xs (i + 2))).2.2.2 H.size (xs (i + 1)) (xs (i + 2)) o1 o2 o3 o4) (cwV 2 hts gL_law_X5_name rfl rfl rfl (by decide +kernel) ⟨Nat.le_of_ble_eq_true rfl, Nat.le_of_ble_eq_true rfl⟩) (by decide) rfl rfl rfl rfl hl.1 rfl (Nat.le_of_ble_eq_true rfl) ⟨Nat.le_of_ble_eq_true rfl, Nat.le_of_ble_eq_true rfl⟩ dL_law_149 (fun H locs G => ?_)
  exact lv_icmp_eq hx hb dL_law_152 rfl (fun _ => kk _ H locs st.2.2 G) (fun h => absurd st.2.1 h)
set_option maxHeartbeats 4000000 in
set_option maxRecDepth 100000 in
theorem lw_case_span {p : Program} {l : Launch} {e : Env} {s : State} {m : MethodId} {below : List Frame} {meth : Method} {c : Code} {H : Heap} {locs : List Loc} {Q : State → Prop} {ls : Array Slot} {D : va_G} {ad : Nat → Nat} {cy : Nat → ClassId} {b L i : Nat} {xs : Nat → Int32} {x : gS} (S : lwS p s m c b L xs) (hi : i + 4 ≤ L) (hl : lv_has ls 4 [(3, .int (nI i)), (2, .ref (ad 5)), (1, .ref (ad 0)), (0, .ref b)]) (hv : ma_INV x) (G : GX D ad cy (fun q => s.heap.size ≤ q) s x H locs)
    (kk : ∀ (y : gS) (H1 : Heap) (locs1 : List Loc), ma_INV y → GX D ad cy (fun q => s.heap.size ≤ q) s y H1 locs1 → W p l e room_1 s m #[Value.ref b] below meth c H1 locs1 92 727 Q (F0 m 655 ls [])) : W p l e room_1 s m #[Value.ref b] below meth c H locs 92 727 Q (F0 m 157 ls []) := by
  obtain ⟨hx, hb, hml, hown, hts, hX, hbl, hL⟩ := S
  have st := ma_st_span hv (xs (i + 1)) (xs (i + 2)) (xs (i + 3))
  refine lv_aload_n hx hb dL_law_157 rfl (lv_at hl 2 rfl) ?_
  refine lv_aload_n hx hb dL_law_158 rfl (lv_at hl 3 rfl) ?_
  refine lv_iload_n hx hb dL_law_159 rfl (lv_at hl 0 rfl) ?_
  refine lv_iconst (v := 1) hx hb dL_law_160 (by decide) ?_
  refine lv_iadd hx hb dL_law_161 ?_
  refine lw_sld hx hb hX hbl G.2.2.2.1 hi hL 1 (by decide) (by decide) dL_law_162 ?_
  refine lv_aload_n hx hb dL_law_163 rfl (lv_at hl 3 rfl) ?_
  refine lv_iload_n hx hb dL_law_164 rfl (lv_at hl 0 rfl) ?_
  refine lv_iconst (v := 2) hx hb dL_law_165 (by decide) ?_
  refine lv_iadd hx hb dL_law_166 ?_
  refine lw_sld hx hb hX hbl G.2.2.2.1 hi hL 2 (by decide) (by decide) dL_law_167 ?_
  refine lv_aload_n hx hb dL_law_168 rfl (lv_at hl 3 rfl) ?_
  refine lv_iload_n hx hb dL_law_169 rfl (lv_at hl 0 rfl) ?_
  refine lv_iconst (v := 3) hx hb dL_law_170 (by decide) ?_
  refine lv_iadd hx hb dL_law_171 ?_
  refine lw_sld hx hb hX hbl G.2.2.2.1 hi hL 3 (by decide) (by decide) dL_law_172 ?_
  refine gx_eVi (x := x) (y := (c_spanS x (xs (i + 1)) (xs (i + 2)) (xs (i + 3)))) (v := (c_span x (xs (i + 1)) (xs (i + 2)) (xs (i + 3)))) (As := [.int (xs (i + 1)), .int (xs (i + 2)), .int (xs (i + 3))]) (rest := []) ⟨hx, hb, hml, hown, hts⟩ G 0 (kX4_span l D ad cy x.1 x.2.1 x.2.2.1 x.2.2.2 H.size (xs (i + 1)) (xs (i + 2)) (xs (i + 3)) (ma_IV_cOK hv)) (cwV 3 hts gL_law_X4_span rfl rfl rfl (by decide +kernel) ⟨Nat.le_of_ble_eq_true rfl, Nat.le_of_ble_eq_true rfl⟩) (by decide) rfl rfl rfl rfl hl.1 rfl (Nat.le_of_ble_eq_true rfl) ⟨Nat.le_of_ble_eq_true rfl, Nat.le_of_ble_eq_true rfl⟩ dL_law_173 (fun H locs G => ?_)
  refine lv_aload_n hx hb dL_law_176 rfl (lv_at hl 1 rfl) ?_
  refine lv_aload_n hx hb dL_law_177 rfl (lv_at hl 3 rfl) ?_
  refine lv_iload_n hx hb dL_law_178 rfl (lv_at hl 0 rfl) ?_
  refine lv_iconst (v := 1) hx hb dL_law_179 (by decide) ?_
  refine lv_iadd hx hb dL_law_180 ?_
  refine lw_sld hx hb hX hbl G.2.2.2.1 hi hL 1 (by decide) (by decide) dL_law_181 ?_
  refine lv_aload_n hx hb dL_law_182 rfl (lv_at hl 3 rfl) ?_
  refine lv_iload_n hx hb dL_law_183 rfl (lv_at hl 0 rfl) ?_
  refine lv_iconst (v := 2) hx hb dL_law_184 (by decide) ?_
  refine lv_iadd hx hb dL_law_185 ?_
  refine lw_sld hx hb hX hbl G.2.2.2.1 hi hL 2 (by decide) (by decide) dL_law_186 ?_
  refine lv_aload_n hx hb dL_law_187 rfl (lv_at hl 3 rfl) ?_
  refine lv_iload_n hx hb dL_law_188 rfl (lv_at hl 0 rfl) ?_
  refine lv_iconst (v := 3) hx hb dL_law_189 (by decide) ?_
  refine lv_iadd hx hb dL_law_190 ?_
  refine lw_sld hx hb hX hbl G.2.2.2.1 hi hL 3 (by decide) (by decide) dL_law_191 ?_
  obtain ⟨o1, o2, o3, o4⟩ := st.1
  refine gx_eVi (x := (c_spanS x (xs (i + 1)) (xs (i + 2)) (xs (i + 3)))) (y := (m_spS (c_spanS x (xs (i + 1)) (xs (i + 2)) (xs (i + 3))) (xs (i + 1)) (xs (i + 2)) (xs (i + 3)))) (v := (m_sp (c_spanS x (xs (i + 1)) (xs (i + 2)) (xs (i + 3))) (xs (i + 1)) (xs (i + 2)) (xs (i + 3)))) (As := [.int (xs (i + 1)), .int (xs (i + 2)), .int (xs (i + 3))]) (rest := [.int (c_span x (xs (i + 1)) (xs (i + 2)) (xs (i + 3)))]) ⟨hx, hb, hml, hown, hts⟩ G 5 (kX5_span l D ad cy (c_spanS x (xs (i + 1)) (xs (i + 2)) (xs (i + 3))).1 (c_spanS x (xs (i + 1)) (xs (i + 2)) (xs (i + 3))).2.1 (c_spanS x (xs (i + 1)) (xs (i + 2)) (xs (i + 3))).2.2.1 (c_spanS x (xs (i + 1)) (xs (i + 2)) (xs (i + 3))).2.2.2 H.size (xs (i + 1)) (xs (i + 2)) (xs (i + 3)) o1 o2 o3 o4) (cwV 3 hts gL_law_X5_span rfl rfl rfl (by decide +kernel) ⟨Nat.le_of_ble_eq_true rfl, Nat.le_of_ble_eq_true rfl⟩) (by decide) rfl rfl rfl rfl hl.1 rfl (Nat.le_of_ble_eq_true rfl) ⟨Nat.le_of_ble_eq_true rfl, Nat.le_of_ble_eq_true rfl⟩ dL_law_192 (fun H locs G => ?_)
  exact lv_icmp_eq hx hb dL_law_195 rfl (fun _ => kk _ H locs st.2.2 G) (fun h => absurd st.2.1 h)
set_option maxHeartbeats 4000000 in
set_option maxRecDepth 100000 in
theorem lw_case_cost {p : Program} {l : Launch} {e : Env} {s : State} {m : MethodId} {below : List Frame} {meth : Method} {c : Code} {H : Heap} {locs : List Loc} {Q : State → Prop} {ls : Array Slot} {D : va_G} {ad : Nat → Nat} {cy : Nat → ClassId} {b L i : Nat} {xs : Nat → Int32} {x : gS} (S : lwS p s m c b L xs) (hi : i + 4 ≤ L) (hl : lv_has ls 4 [(3, .int (nI i)), (2, .ref (ad 5)), (1, .ref (ad 0)), (0, .ref b)]) (hv : ma_INV x) (G : GX D ad cy (fun q => s.heap.size ≤ q) s x H locs)
    (kk : ∀ (y : gS) (H1 : Heap) (locs1 : List Loc), ma_INV y → GX D ad cy (fun q => s.heap.size ≤ q) s y H1 locs1 → W p l e room_1 s m #[Value.ref b] below meth c H1 locs1 92 727 Q (F0 m 655 ls [])) : W p l e room_1 s m #[Value.ref b] below meth c H locs 92 727 Q (F0 m 200 ls []) := by
  obtain ⟨hx, hb, hml, hown, hts, hX, hbl, hL⟩ := S
  have st := ma_st_cost hv (xs (i + 1)) (xs (i + 2))
  refine lv_aload_n hx hb dL_law_200 rfl (lv_at hl 2 rfl) ?_
  refine lv_aload_n hx hb dL_law_201 rfl (lv_at hl 3 rfl) ?_
  refine lv_iload_n hx hb dL_law_202 rfl (lv_at hl 0 rfl) ?_
  refine lv_iconst (v := 1) hx hb dL_law_203 (by decide) ?_
  refine lv_iadd hx hb dL_law_204 ?_
  refine lw_sld hx hb hX hbl G.2.2.2.1 hi hL 1 (by decide) (by decide) dL_law_205 ?_
  refine lv_aload_n hx hb dL_law_206 rfl (lv_at hl 3 rfl) ?_
  refine lv_iload_n hx hb dL_law_207 rfl (lv_at hl 0 rfl) ?_
  refine lv_iconst (v := 2) hx hb dL_law_208 (by decide) ?_
  refine lv_iadd hx hb dL_law_209 ?_
  refine lw_sld hx hb hX hbl G.2.2.2.1 hi hL 2 (by decide) (by decide) dL_law_210 ?_
  refine gx_eVi (x := x) (y := (c_costS x (xs (i + 1)) (xs (i + 2)))) (v := (c_cost x (xs (i + 1)) (xs (i + 2)))) (As := [.int (xs (i + 1)), .int (xs (i + 2))]) (rest := []) ⟨hx, hb, hml, hown, hts⟩ G 0 (kX4_cost l D ad cy x.1 x.2.1 x.2.2.1 x.2.2.2 H.size (xs (i + 1)) (xs (i + 2)) (ma_IV_cOK hv)) (cwV 2 hts gL_law_X4_cost rfl rfl rfl (by decide +kernel) ⟨Nat.le_of_ble_eq_true rfl, Nat.le_of_ble_eq_true rfl⟩) (by decide) rfl rfl rfl rfl hl.1 rfl (Nat.le_of_ble_eq_true rfl) ⟨Nat.le_of_ble_eq_true rfl, Nat.le_of_ble_eq_true rfl⟩ dL_law_211 (fun H locs G => ?_)
  refine lv_aload_n hx hb dL_law_214 rfl (lv_at hl 1 rfl) ?_
  refine lv_aload_n hx hb dL_law_215 rfl (lv_at hl 3 rfl) ?_
  refine lv_iload_n hx hb dL_law_216 rfl (lv_at hl 0 rfl) ?_
  refine lv_iconst (v := 1) hx hb dL_law_217 (by decide) ?_
  refine lv_iadd hx hb dL_law_218 ?_
  refine lw_sld hx hb hX hbl G.2.2.2.1 hi hL 1 (by decide) (by decide) dL_law_219 ?_
  refine lv_aload_n hx hb dL_law_220 rfl (lv_at hl 3 rfl) ?_
  refine lv_iload_n hx hb dL_law_221 rfl (lv_at hl 0 rfl) ?_
  refine lv_iconst (v := 2) hx hb dL_law_222 (by decide) ?_
  refine lv_iadd hx hb dL_law_223 ?_
  refine lw_sld hx hb hX hbl G.2.2.2.1 hi hL 2 (by decide) (by decide) dL_law_224 ?_
  obtain ⟨o1, o2, o3, o4⟩ := st.1
  refine gx_eVi (x := (c_costS x (xs (i + 1)) (xs (i + 2)))) (y := (m_coS (c_costS x (xs (i + 1)) (xs (i + 2))) (xs (i + 1)) (xs (i + 2)))) (v := (m_co (c_costS x (xs (i + 1)) (xs (i + 2))) (xs (i + 1)) (xs (i + 2)))) (As := [.int (xs (i + 1)), .int (xs (i + 2))]) (rest := [.int (c_cost x (xs (i + 1)) (xs (i + 2)))]) ⟨hx, hb, hml, hown, hts⟩ G 5 (kX5_cost l D ad cy (c_costS x (xs (i + 1)) (xs (i + 2))).1 (c_costS x (xs (i + 1)) (xs (i + 2))).2.1 (c_costS x (xs (i + 1)) (xs (i + 2))).2.2.1 (c_costS x (xs (i + 1)) (xs (i + 2))).2.2.2 H.size (xs (i + 1)) (xs (i + 2)) o1 o2 o3 o4) (cwV 2 hts gL_law_X5_cost rfl rfl rfl (by decide +kernel) ⟨Nat.le_of_ble_eq_true rfl, Nat.le_of_ble_eq_true rfl⟩) (by decide) rfl rfl rfl rfl hl.1 rfl (Nat.le_of_ble_eq_true rfl) ⟨Nat.le_of_ble_eq_true rfl, Nat.le_of_ble_eq_true rfl⟩ dL_law_225 (fun H locs G => ?_)
  exact lv_icmp_eq hx hb dL_law_228 rfl (fun _ => kk _ H locs st.2.2 G) (fun h => absurd st.2.1 h)
set_option maxHeartbeats 4000000 in
set_option maxRecDepth 100000 in
theorem lw_case_row {p : Program} {l : Launch} {e : Env} {s : State} {m : MethodId} {below : List Frame} {meth : Method} {c : Code} {H : Heap} {locs : List Loc} {Q : State → Prop} {ls : Array Slot} {D : va_G} {ad : Nat → Nat} {cy : Nat → ClassId} {b L i : Nat} {xs : Nat → Int32} {x : gS} (S : lwS p s m c b L xs) (hi : i + 4 ≤ L) (hl : lv_has ls 4 [(3, .int (nI i)), (2, .ref (ad 5)), (1, .ref (ad 0)), (0, .ref b)]) (hv : ma_INV x) (G : GX D ad cy (fun q => s.heap.size ≤ q) s x H locs)
    (kk : ∀ (y : gS) (H1 : Heap) (locs1 : List Loc), ma_INV y → GX D ad cy (fun q => s.heap.size ≤ q) s y H1 locs1 → W p l e room_1 s m #[Value.ref b] below meth c H1 locs1 92 727 Q (F0 m 655 ls [])) : W p l e room_1 s m #[Value.ref b] below meth c H locs 92 727 Q (F0 m 233 ls []) := by
  obtain ⟨hx, hb, hml, hown, hts, hX, hbl, hL⟩ := S
  have st := ma_st_row hv (xs (i + 1)) (xs (i + 2))
  refine lv_aload_n hx hb dL_law_233 rfl (lv_at hl 2 rfl) ?_
  refine lv_aload_n hx hb dL_law_234 rfl (lv_at hl 3 rfl) ?_
  refine lv_iload_n hx hb dL_law_235 rfl (lv_at hl 0 rfl) ?_
  refine lv_iconst (v := 1) hx hb dL_law_236 (by decide) ?_
  refine lv_iadd hx hb dL_law_237 ?_
  refine lw_sld hx hb hX hbl G.2.2.2.1 hi hL 1 (by decide) (by decide) dL_law_238 ?_
  refine lv_aload_n hx hb dL_law_239 rfl (lv_at hl 3 rfl) ?_
  refine lv_iload_n hx hb dL_law_240 rfl (lv_at hl 0 rfl) ?_
  refine lv_iconst (v := 2) hx hb dL_law_241 (by decide) ?_
  refine lv_iadd hx hb dL_law_242 ?_
  refine lw_sld hx hb hX hbl G.2.2.2.1 hi hL 2 (by decide) (by decide) dL_law_243 ?_
  refine gx_eVi (x := x) (y := (c_rowS x (xs (i + 1)) (xs (i + 2)))) (v := (c_row x (xs (i + 1)) (xs (i + 2)))) (As := [.int (xs (i + 1)), .int (xs (i + 2))]) (rest := []) ⟨hx, hb, hml, hown, hts⟩ G 0 (kX4_row l D ad cy x.1 x.2.1 x.2.2.1 x.2.2.2 H.size (xs (i + 1)) (xs (i + 2)) (ma_IV_cOK hv)) (cwV 2 hts gL_law_X4_row rfl rfl rfl (by decide +kernel) ⟨Nat.le_of_ble_eq_true rfl, Nat.le_of_ble_eq_true rfl⟩) (by decide) rfl rfl rfl rfl hl.1 rfl (Nat.le_of_ble_eq_true rfl) ⟨Nat.le_of_ble_eq_true rfl, Nat.le_of_ble_eq_true rfl⟩ dL_law_244 (fun H locs G => ?_)
  refine lv_aload_n hx hb dL_law_247 rfl (lv_at hl 1 rfl) ?_
  refine lv_aload_n hx hb dL_law_248 rfl (lv_at hl 3 rfl) ?_
  refine lv_iload_n hx hb dL_law_249 rfl (lv_at hl 0 rfl) ?_
  refine lv_iconst (v := 1) hx hb dL_law_250 (by decide) ?_
  refine lv_iadd hx hb dL_law_251 ?_
  refine lw_sld hx hb hX hbl G.2.2.2.1 hi hL 1 (by decide) (by decide) dL_law_252 ?_
  refine lv_aload_n hx hb dL_law_253 rfl (lv_at hl 3 rfl) ?_
  refine lv_iload_n hx hb dL_law_254 rfl (lv_at hl 0 rfl) ?_
  refine lv_iconst (v := 2) hx hb dL_law_255 (by decide) ?_
  refine lv_iadd hx hb dL_law_256 ?_
  refine lw_sld hx hb hX hbl G.2.2.2.1 hi hL 2 (by decide) (by decide) dL_law_257 ?_
  obtain ⟨o1, o2, o3, o4⟩ := st.1
  refine gx_eVi (x := (c_rowS x (xs (i + 1)) (xs (i + 2)))) (y := (m_rowS (c_rowS x (xs (i + 1)) (xs (i + 2))) (xs (i + 1)) (xs (i + 2)))) (v := (m_row (c_rowS x (xs (i + 1)) (xs (i + 2))) (xs (i + 1)) (xs (i + 2)))) (As := [.int (xs (i + 1)), .int (xs (i + 2))]) (rest := [.int (c_row x (xs (i + 1)) (xs (i + 2)))]) ⟨hx, hb, hml, hown, hts⟩ G 5 (kX5_row l D ad cy (c_rowS x (xs (i + 1)) (xs (i + 2))).1 (c_rowS x (xs (i + 1)) (xs (i + 2))).2.1 (c_rowS x (xs (i + 1)) (xs (i + 2))).2.2.1 (c_rowS x (xs (i + 1)) (xs (i + 2))).2.2.2 H.size (xs (i + 1)) (xs (i + 2)) o1 o2 o3 o4) (cwV 2 hts gL_law_X5_row rfl rfl rfl (by decide +kernel) ⟨Nat.le_of_ble_eq_true rfl, Nat.le_of_ble_eq_true rfl⟩) (by decide) rfl rfl rfl rfl hl.1 rfl (Nat.le_of_ble_eq_true rfl) ⟨Nat.le_of_ble_eq_true rfl, Nat.le_of_ble_eq_true rfl⟩ dL_law_258 (fun H locs G => ?_)
  exact lv_icmp_eq hx hb dL_law_261 rfl (fun _ => kk _ H locs st.2.2 G) (fun h => absurd st.2.1 h)
set_option maxHeartbeats 4000000 in
set_option maxRecDepth 100000 in
theorem lw_case_right {p : Program} {l : Launch} {e : Env} {s : State} {m : MethodId} {below : List Frame} {meth : Method} {c : Code} {H : Heap} {locs : List Loc} {Q : State → Prop} {ls : Array Slot} {D : va_G} {ad : Nat → Nat} {cy : Nat → ClassId} {b L i : Nat} {xs : Nat → Int32} {x : gS} (S : lwS p s m c b L xs) (hi : i + 4 ≤ L) (hl : lv_has ls 4 [(3, .int (nI i)), (2, .ref (ad 5)), (1, .ref (ad 0)), (0, .ref b)]) (hv : ma_INV x) (G : GX D ad cy (fun q => s.heap.size ≤ q) s x H locs)
    (kk : ∀ (y : gS) (H1 : Heap) (locs1 : List Loc), ma_INV y → GX D ad cy (fun q => s.heap.size ≤ q) s y H1 locs1 → W p l e room_1 s m #[Value.ref b] below meth c H1 locs1 92 727 Q (F0 m 655 ls [])) : W p l e room_1 s m #[Value.ref b] below meth c H locs 92 727 Q (F0 m 266 ls []) := by
  obtain ⟨hx, hb, hml, hown, hts, hX, hbl, hL⟩ := S
  have st := ma_st_right hv (xs (i + 1)) (xs (i + 2))
  refine lv_aload_n hx hb dL_law_266 rfl (lv_at hl 2 rfl) ?_
  refine lv_aload_n hx hb dL_law_267 rfl (lv_at hl 3 rfl) ?_
  refine lv_iload_n hx hb dL_law_268 rfl (lv_at hl 0 rfl) ?_
  refine lv_iconst (v := 1) hx hb dL_law_269 (by decide) ?_
  refine lv_iadd hx hb dL_law_270 ?_
  refine lw_sld hx hb hX hbl G.2.2.2.1 hi hL 1 (by decide) (by decide) dL_law_271 ?_
  refine lv_aload_n hx hb dL_law_272 rfl (lv_at hl 3 rfl) ?_
  refine lv_iload_n hx hb dL_law_273 rfl (lv_at hl 0 rfl) ?_
  refine lv_iconst (v := 2) hx hb dL_law_274 (by decide) ?_
  refine lv_iadd hx hb dL_law_275 ?_
  refine lw_sld hx hb hX hbl G.2.2.2.1 hi hL 2 (by decide) (by decide) dL_law_276 ?_
  refine gx_eVi (x := x) (y := (c_rightS x (xs (i + 1)) (xs (i + 2)))) (v := (c_right x (xs (i + 1)) (xs (i + 2)))) (As := [.int (xs (i + 1)), .int (xs (i + 2))]) (rest := []) ⟨hx, hb, hml, hown, hts⟩ G 0 (kX4_right l D ad cy x.1 x.2.1 x.2.2.1 x.2.2.2 H.size (xs (i + 1)) (xs (i + 2)) (ma_IV_cOK hv)) (cwV 2 hts gL_law_X4_right rfl rfl rfl (by decide +kernel) ⟨Nat.le_of_ble_eq_true rfl, Nat.le_of_ble_eq_true rfl⟩) (by decide) rfl rfl rfl rfl hl.1 rfl (Nat.le_of_ble_eq_true rfl) ⟨Nat.le_of_ble_eq_true rfl, Nat.le_of_ble_eq_true rfl⟩ dL_law_277 (fun H locs G => ?_)
  refine lv_aload_n hx hb dL_law_280 rfl (lv_at hl 1 rfl) ?_
  refine lv_aload_n hx hb dL_law_281 rfl (lv_at hl 3 rfl) ?_
  refine lv_iload_n hx hb dL_law_282 rfl (lv_at hl 0 rfl) ?_
  refine lv_iconst (v := 1) hx hb dL_law_283 (by decide) ?_
  refine lv_iadd hx hb dL_law_284 ?_
  refine lw_sld hx hb hX hbl G.2.2.2.1 hi hL 1 (by decide) (by decide) dL_law_285 ?_
  refine lv_aload_n hx hb dL_law_286 rfl (lv_at hl 3 rfl) ?_
  refine lv_iload_n hx hb dL_law_287 rfl (lv_at hl 0 rfl) ?_
  refine lv_iconst (v := 2) hx hb dL_law_288 (by decide) ?_
  refine lv_iadd hx hb dL_law_289 ?_
  refine lw_sld hx hb hX hbl G.2.2.2.1 hi hL 2 (by decide) (by decide) dL_law_290 ?_
  obtain ⟨o1, o2, o3, o4⟩ := st.1
  refine gx_eVi (x := (c_rightS x (xs (i + 1)) (xs (i + 2)))) (y := (m_rightS (c_rightS x (xs (i + 1)) (xs (i + 2))) (xs (i + 1)) (xs (i + 2)))) (v := (m_right (c_rightS x (xs (i + 1)) (xs (i + 2))) (xs (i + 1)) (xs (i + 2)))) (As := [.int (xs (i + 1)), .int (xs (i + 2))]) (rest := [.int (c_right x (xs (i + 1)) (xs (i + 2)))]) ⟨hx, hb, hml, hown, hts⟩ G 5 (kX5_right l D ad cy (c_rightS x (xs (i + 1)) (xs (i + 2))).1 (c_rightS x (xs (i + 1)) (xs (i + 2))).2.1 (c_rightS x (xs (i + 1)) (xs (i + 2))).2.2.1 (c_rightS x (xs (i + 1)) (xs (i + 2))).2.2.2 H.size (xs (i + 1)) (xs (i + 2)) o1 o2 o3 o4) (cwV 2 hts gL_law_X5_right rfl rfl rfl (by decide +kernel) ⟨Nat.le_of_ble_eq_true rfl, Nat.le_of_ble_eq_true rfl⟩) (by decide) rfl rfl rfl rfl hl.1 rfl (Nat.le_of_ble_eq_true rfl) ⟨Nat.le_of_ble_eq_true rfl, Nat.le_of_ble_eq_true rfl⟩ dL_law_291 (fun H locs G => ?_)
  exact lv_icmp_eq hx hb dL_law_294 rfl (fun _ => kk _ H locs st.2.2 G) (fun h => absurd st.2.1 h)
set_option maxHeartbeats 4000000 in
set_option maxRecDepth 100000 in
theorem lw_case_factor {p : Program} {l : Launch} {e : Env} {s : State} {m : MethodId} {below : List Frame} {meth : Method} {c : Code} {H : Heap} {locs : List Loc} {Q : State → Prop} {ls : Array Slot} {D : va_G} {ad : Nat → Nat} {cy : Nat → ClassId} {b L i : Nat} {xs : Nat → Int32} {x : gS} (S : lwS p s m c b L xs) (hi : i + 4 ≤ L) (hl : lv_has ls 4 [(3, .int (nI i)), (2, .ref (ad 5)), (1, .ref (ad 0)), (0, .ref b)]) (hv : ma_INV x) (G : GX D ad cy (fun q => s.heap.size ≤ q) s x H locs)
    (kk : ∀ (y : gS) (H1 : Heap) (locs1 : List Loc), ma_INV y → GX D ad cy (fun q => s.heap.size ≤ q) s y H1 locs1 → W p l e room_1 s m #[Value.ref b] below meth c H1 locs1 92 727 Q (F0 m 655 ls [])) : W p l e room_1 s m #[Value.ref b] below meth c H locs 92 727 Q (F0 m 299 ls []) := by
  obtain ⟨hx, hb, hml, hown, hts, hX, hbl, hL⟩ := S
  have st := ma_st_factor hv (xs (i + 1)) (xs (i + 2)) (xs (i + 3))
  refine lv_aload_n hx hb dL_law_299 rfl (lv_at hl 2 rfl) ?_
  refine lv_aload_n hx hb dL_law_300 rfl (lv_at hl 3 rfl) ?_
  refine lv_iload_n hx hb dL_law_301 rfl (lv_at hl 0 rfl) ?_
  refine lv_iconst (v := 1) hx hb dL_law_302 (by decide) ?_
  refine lv_iadd hx hb dL_law_303 ?_
  refine lw_sld hx hb hX hbl G.2.2.2.1 hi hL 1 (by decide) (by decide) dL_law_304 ?_
  refine lv_aload_n hx hb dL_law_305 rfl (lv_at hl 3 rfl) ?_
  refine lv_iload_n hx hb dL_law_306 rfl (lv_at hl 0 rfl) ?_
  refine lv_iconst (v := 2) hx hb dL_law_307 (by decide) ?_
  refine lv_iadd hx hb dL_law_308 ?_
  refine lw_sld hx hb hX hbl G.2.2.2.1 hi hL 2 (by decide) (by decide) dL_law_309 ?_
  refine lv_aload_n hx hb dL_law_310 rfl (lv_at hl 3 rfl) ?_
  refine lv_iload_n hx hb dL_law_311 rfl (lv_at hl 0 rfl) ?_
  refine lv_iconst (v := 3) hx hb dL_law_312 (by decide) ?_
  refine lv_iadd hx hb dL_law_313 ?_
  refine lw_sld hx hb hX hbl G.2.2.2.1 hi hL 3 (by decide) (by decide) dL_law_314 ?_
  refine gx_eVi (x := x) (y := (c_factorS x (xs (i + 1)) (xs (i + 2)) (xs (i + 3)))) (v := (c_factor x (xs (i + 1)) (xs (i + 2)) (xs (i + 3)))) (As := [.int (xs (i + 1)), .int (xs (i + 2)), .int (xs (i + 3))]) (rest := []) ⟨hx, hb, hml, hown, hts⟩ G 0 (kX4_factor l D ad cy x.1 x.2.1 x.2.2.1 x.2.2.2 H.size (xs (i + 1)) (xs (i + 2)) (xs (i + 3)) (ma_IV_cOK hv)) (cwV 3 hts gL_law_X4_factor rfl rfl rfl (by decide +kernel) ⟨Nat.le_of_ble_eq_true rfl, Nat.le_of_ble_eq_true rfl⟩) (by decide) rfl rfl rfl rfl hl.1 rfl (Nat.le_of_ble_eq_true rfl) ⟨Nat.le_of_ble_eq_true rfl, Nat.le_of_ble_eq_true rfl⟩ dL_law_315 (fun H locs G => ?_)
  refine lv_aload_n hx hb dL_law_318 rfl (lv_at hl 1 rfl) ?_
  refine lv_aload_n hx hb dL_law_319 rfl (lv_at hl 3 rfl) ?_
  refine lv_iload_n hx hb dL_law_320 rfl (lv_at hl 0 rfl) ?_
  refine lv_iconst (v := 1) hx hb dL_law_321 (by decide) ?_
  refine lv_iadd hx hb dL_law_322 ?_
  refine lw_sld hx hb hX hbl G.2.2.2.1 hi hL 1 (by decide) (by decide) dL_law_323 ?_
  refine lv_aload_n hx hb dL_law_324 rfl (lv_at hl 3 rfl) ?_
  refine lv_iload_n hx hb dL_law_325 rfl (lv_at hl 0 rfl) ?_
  refine lv_iconst (v := 2) hx hb dL_law_326 (by decide) ?_
  refine lv_iadd hx hb dL_law_327 ?_
  refine lw_sld hx hb hX hbl G.2.2.2.1 hi hL 2 (by decide) (by decide) dL_law_328 ?_
  refine lv_aload_n hx hb dL_law_329 rfl (lv_at hl 3 rfl) ?_
  refine lv_iload_n hx hb dL_law_330 rfl (lv_at hl 0 rfl) ?_
  refine lv_iconst (v := 3) hx hb dL_law_331 (by decide) ?_
  refine lv_iadd hx hb dL_law_332 ?_
  refine lw_sld hx hb hX hbl G.2.2.2.1 hi hL 3 (by decide) (by decide) dL_law_333 ?_
  obtain ⟨o1, o2, o3, o4⟩ := st.1
  refine gx_eVi (x := (c_factorS x (xs (i + 1)) (xs (i + 2)) (xs (i + 3)))) (y := (m_factorS (c_factorS x (xs (i + 1)) (xs (i + 2)) (xs (i + 3))) (xs (i + 1)) (xs (i + 2)) (xs (i + 3)))) (v := (m_factor (c_factorS x (xs (i + 1)) (xs (i + 2)) (xs (i + 3))) (xs (i + 1)) (xs (i + 2)) (xs (i + 3)))) (As := [.int (xs (i + 1)), .int (xs (i + 2)), .int (xs (i + 3))]) (rest := [.int (c_factor x (xs (i + 1)) (xs (i + 2)) (xs (i + 3)))]) ⟨hx, hb, hml, hown, hts⟩ G 5 (kX5_factor l D ad cy (c_factorS x (xs (i + 1)) (xs (i + 2)) (xs (i + 3))).1 (c_factorS x (xs (i + 1)) (xs (i + 2)) (xs (i + 3))).2.1 (c_factorS x (xs (i + 1)) (xs (i + 2)) (xs (i + 3))).2.2.1 (c_factorS x (xs (i + 1)) (xs (i + 2)) (xs (i + 3))).2.2.2 H.size (xs (i + 1)) (xs (i + 2)) (xs (i + 3)) o1 o2 o3 o4) (cwV 3 hts gL_law_X5_factor rfl rfl rfl (by decide +kernel) ⟨Nat.le_of_ble_eq_true rfl, Nat.le_of_ble_eq_true rfl⟩) (by decide) rfl rfl rfl rfl hl.1 rfl (Nat.le_of_ble_eq_true rfl) ⟨Nat.le_of_ble_eq_true rfl, Nat.le_of_ble_eq_true rfl⟩ dL_law_334 (fun H locs G => ?_)
  exact lv_icmp_eq hx hb dL_law_337 rfl (fun _ => kk _ H locs st.2.2 G) (fun h => absurd st.2.1 h)
set_option maxHeartbeats 4000000 in
set_option maxRecDepth 100000 in
theorem lw_case_drop {p : Program} {l : Launch} {e : Env} {s : State} {m : MethodId} {below : List Frame} {meth : Method} {c : Code} {H : Heap} {locs : List Loc} {Q : State → Prop} {ls : Array Slot} {D : va_G} {ad : Nat → Nat} {cy : Nat → ClassId} {b L i : Nat} {xs : Nat → Int32} {x : gS} (S : lwS p s m c b L xs) (hi : i + 4 ≤ L) (hl : lv_has ls 4 [(3, .int (nI i)), (2, .ref (ad 5)), (1, .ref (ad 0)), (0, .ref b)]) (hv : ma_INV x) (G : GX D ad cy (fun q => s.heap.size ≤ q) s x H locs)
    (kk : ∀ (y : gS) (H1 : Heap) (locs1 : List Loc), ma_INV y → GX D ad cy (fun q => s.heap.size ≤ q) s y H1 locs1 → W p l e room_1 s m #[Value.ref b] below meth c H1 locs1 92 727 Q (F0 m 655 ls [])) : W p l e room_1 s m #[Value.ref b] below meth c H locs 92 727 Q (F0 m 342 ls []) := by
  obtain ⟨hx, hb, hml, hown, hts, hX, hbl, hL⟩ := S
  have st := ma_st_drop hv (xs (i + 1))
  refine lv_aload_n hx hb dL_law_342 rfl (lv_at hl 2 rfl) ?_
  refine lv_aload_n hx hb dL_law_343 rfl (lv_at hl 3 rfl) ?_
  refine lv_iload_n hx hb dL_law_344 rfl (lv_at hl 0 rfl) ?_
  refine lv_iconst (v := 1) hx hb dL_law_345 (by decide) ?_
  refine lv_iadd hx hb dL_law_346 ?_
  refine lw_sld hx hb hX hbl G.2.2.2.1 hi hL 1 (by decide) (by decide) dL_law_347 ?_
  refine gx_eVi (x := x) (y := (c_dropS x (xs (i + 1)))) (v := (c_drop x (xs (i + 1)))) (As := [.int (xs (i + 1))]) (rest := []) ⟨hx, hb, hml, hown, hts⟩ G 0 (kX4_drop l D ad cy x.1 x.2.1 x.2.2.1 x.2.2.2 H.size (xs (i + 1)) (ma_IV_cOK hv)) (cwV 1 hts gL_law_X4_drop rfl rfl rfl (by decide +kernel) ⟨Nat.le_of_ble_eq_true rfl, Nat.le_of_ble_eq_true rfl⟩) (by decide) rfl rfl rfl rfl hl.1 rfl (Nat.le_of_ble_eq_true rfl) ⟨Nat.le_of_ble_eq_true rfl, Nat.le_of_ble_eq_true rfl⟩ dL_law_348 (fun H locs G => ?_)
  refine lv_aload_n hx hb dL_law_351 rfl (lv_at hl 1 rfl) ?_
  refine lv_aload_n hx hb dL_law_352 rfl (lv_at hl 3 rfl) ?_
  refine lv_iload_n hx hb dL_law_353 rfl (lv_at hl 0 rfl) ?_
  refine lv_iconst (v := 1) hx hb dL_law_354 (by decide) ?_
  refine lv_iadd hx hb dL_law_355 ?_
  refine lw_sld hx hb hX hbl G.2.2.2.1 hi hL 1 (by decide) (by decide) dL_law_356 ?_
  obtain ⟨o1, o2, o3, o4⟩ := st.1
  refine gx_eVi (x := (c_dropS x (xs (i + 1)))) (y := (m_dropS (c_dropS x (xs (i + 1))) (xs (i + 1)))) (v := (m_drop (c_dropS x (xs (i + 1))) (xs (i + 1)))) (As := [.int (xs (i + 1))]) (rest := [.int (c_drop x (xs (i + 1)))]) ⟨hx, hb, hml, hown, hts⟩ G 5 (kX5_drop l D ad cy (c_dropS x (xs (i + 1))).1 (c_dropS x (xs (i + 1))).2.1 (c_dropS x (xs (i + 1))).2.2.1 (c_dropS x (xs (i + 1))).2.2.2 H.size (xs (i + 1)) o1 o2 o3 o4) (cwV 1 hts gL_law_X5_drop rfl rfl rfl (by decide +kernel) ⟨Nat.le_of_ble_eq_true rfl, Nat.le_of_ble_eq_true rfl⟩) (by decide) rfl rfl rfl rfl hl.1 rfl (Nat.le_of_ble_eq_true rfl) ⟨Nat.le_of_ble_eq_true rfl, Nat.le_of_ble_eq_true rfl⟩ dL_law_357 (fun H locs G => ?_)
  exact lv_icmp_eq hx hb dL_law_360 rfl (fun _ => kk _ H locs st.2.2 G) (fun h => absurd st.2.1 h)
set_option maxHeartbeats 4000000 in
set_option maxRecDepth 100000 in
theorem lw_case_clear {p : Program} {l : Launch} {e : Env} {s : State} {m : MethodId} {below : List Frame} {meth : Method} {c : Code} {H : Heap} {locs : List Loc} {Q : State → Prop} {ls : Array Slot} {D : va_G} {ad : Nat → Nat} {cy : Nat → ClassId} {b L i : Nat} {xs : Nat → Int32} {x : gS} (S : lwS p s m c b L xs) (hi : i + 4 ≤ L) (hl : lv_has ls 4 [(3, .int (nI i)), (2, .ref (ad 5)), (1, .ref (ad 0)), (0, .ref b)]) (hv : ma_INV x) (G : GX D ad cy (fun q => s.heap.size ≤ q) s x H locs)
    (kk : ∀ (y : gS) (H1 : Heap) (locs1 : List Loc), ma_INV y → GX D ad cy (fun q => s.heap.size ≤ q) s y H1 locs1 → W p l e room_1 s m #[Value.ref b] below meth c H1 locs1 92 727 Q (F0 m 655 ls [])) : W p l e room_1 s m #[Value.ref b] below meth c H locs 92 727 Q (F0 m 365 ls []) := by
  obtain ⟨hx, hb, hml, hown, hts, hX, hbl, hL⟩ := S
  have st := ma_st_clear hv
  refine lv_aload_n hx hb dL_law_365 rfl (lv_at hl 2 rfl) ?_
  refine gx_eVi (x := x) (y := (c_clearS x)) (v := (c_clear x)) (As := []) (rest := []) ⟨hx, hb, hml, hown, hts⟩ G 0 (kX4_clear l D ad cy x.1 x.2.1 x.2.2.1 x.2.2.2 H.size (ma_IV_cOK hv)) (cwV 0 hts gL_law_X4_clear rfl rfl rfl (by decide +kernel) ⟨Nat.le_of_ble_eq_true rfl, Nat.le_of_ble_eq_true rfl⟩) (by decide) rfl rfl rfl rfl hl.1 rfl (Nat.le_of_ble_eq_true rfl) ⟨Nat.le_of_ble_eq_true rfl, Nat.le_of_ble_eq_true rfl⟩ dL_law_366 (fun H locs G => ?_)
  refine lv_aload_n hx hb dL_law_369 rfl (lv_at hl 1 rfl) ?_
  obtain ⟨o1, o2, o3, o4⟩ := st.1
  refine gx_eVi (x := (c_clearS x)) (y := (m_clearS (c_clearS x))) (v := (m_clear (c_clearS x))) (As := []) (rest := [.int (c_clear x)]) ⟨hx, hb, hml, hown, hts⟩ G 5 (kX5_clear l D ad cy (c_clearS x).1 (c_clearS x).2.1 (c_clearS x).2.2.1 (c_clearS x).2.2.2 H.size o1 o2 o3 o4) (cwV 0 hts gL_law_X5_clear rfl rfl rfl (by decide +kernel) ⟨Nat.le_of_ble_eq_true rfl, Nat.le_of_ble_eq_true rfl⟩) (by decide) rfl rfl rfl rfl hl.1 rfl (Nat.le_of_ble_eq_true rfl) ⟨Nat.le_of_ble_eq_true rfl, Nat.le_of_ble_eq_true rfl⟩ dL_law_370 (fun H locs G => ?_)
  exact lv_icmp_eq hx hb dL_law_373 rfl (fun _ => kk _ H locs st.2.2 G) (fun h => absurd st.2.1 h)
set_option maxHeartbeats 4000000 in
set_option maxRecDepth 100000 in
theorem lw_case_run {p : Program} {l : Launch} {e : Env} {s : State} {m : MethodId} {below : List Frame} {meth : Method} {c : Code} {H : Heap} {locs : List Loc} {Q : State → Prop} {ls : Array Slot} {D : va_G} {ad : Nat → Nat} {cy : Nat → ClassId} {b L i : Nat} {xs : Nat → Int32} {x : gS} (S : lwS p s m c b L xs) (hi : i + 4 ≤ L) (hl : lv_has ls 4 [(3, .int (nI i)), (2, .ref (ad 5)), (1, .ref (ad 0)), (0, .ref b)]) (hv : ma_INV x) (G : GX D ad cy (fun q => s.heap.size ≤ q) s x H locs)
    (kk : ∀ (y : gS) (H1 : Heap) (locs1 : List Loc), ma_INV y → GX D ad cy (fun q => s.heap.size ≤ q) s y H1 locs1 → W p l e room_1 s m #[Value.ref b] below meth c H1 locs1 92 727 Q (F0 m 655 ls [])) : W p l e room_1 s m #[Value.ref b] below meth c H locs 92 727 Q (F0 m 378 ls []) := by
  obtain ⟨hx, hb, hml, hown, hts, hX, hbl, hL⟩ := S
  have st := ma_st_run hv
  refine lv_aload_n hx hb dL_law_378 rfl (lv_at hl 2 rfl) ?_
  refine gx_eVi (x := x) (y := (hS x)) (v := (c_run x)) (As := []) (rest := []) ⟨hx, hb, hml, hown, hts⟩ G 0 (kX4_run l D ad cy x.1 x.2.1 x.2.2.1 x.2.2.2 H.size (ma_IV_cOK hv)) (cwV 0 hts gL_law_X4_run rfl rfl rfl (by decide +kernel) ⟨Nat.le_of_ble_eq_true rfl, Nat.le_of_ble_eq_true rfl⟩) (by decide) rfl rfl rfl rfl hl.1 rfl (Nat.le_of_ble_eq_true rfl) ⟨Nat.le_of_ble_eq_true rfl, Nat.le_of_ble_eq_true rfl⟩ dL_law_379 (fun H locs G => ?_)
  refine lv_aload_n hx hb dL_law_382 rfl (lv_at hl 1 rfl) ?_
  obtain ⟨o1, o2, o3, o4⟩ := ma_IV_OM st.1
  refine gx_eVi (x := (hS x)) (y := (kS (hS x))) (v := (m_run (hS x))) (As := []) (rest := [.int (c_run x)]) ⟨hx, hb, hml, hown, hts⟩ G 5 (kX5_run l D ad cy (hS x).1 (hS x).2.1 (hS x).2.2.1 (hS x).2.2.2 H.size o1 o2 o3 o4) (cwV 0 hts gL_law_X5_run rfl rfl rfl (by decide +kernel) ⟨Nat.le_of_ble_eq_true rfl, Nat.le_of_ble_eq_true rfl⟩) (by decide) rfl rfl rfl rfl hl.1 rfl (Nat.le_of_ble_eq_true rfl) ⟨Nat.le_of_ble_eq_true rfl, Nat.le_of_ble_eq_true rfl⟩ dL_law_383 (fun H locs G => ?_)
  exact lv_icmp_eq hx hb dL_law_386 rfl (fun _ => kk _ H locs st.2.2 G) (fun h => absurd st.2.1 h)
set_option maxHeartbeats 4000000 in
set_option maxRecDepth 100000 in
theorem lw_case_least {p : Program} {l : Launch} {e : Env} {s : State} {m : MethodId} {below : List Frame} {meth : Method} {c : Code} {H : Heap} {locs : List Loc} {Q : State → Prop} {ls : Array Slot} {D : va_G} {ad : Nat → Nat} {cy : Nat → ClassId} {b L i : Nat} {xs : Nat → Int32} {x : gS} (S : lwS p s m c b L xs) (hi : i + 4 ≤ L) (hl : lv_has ls 4 [(3, .int (nI i)), (2, .ref (ad 5)), (1, .ref (ad 0)), (0, .ref b)]) (hv : ma_INV x) (G : GX D ad cy (fun q => s.heap.size ≤ q) s x H locs)
    (kk : ∀ (y : gS) (H1 : Heap) (locs1 : List Loc), ma_INV y → GX D ad cy (fun q => s.heap.size ≤ q) s y H1 locs1 → W p l e room_1 s m #[Value.ref b] below meth c H1 locs1 92 727 Q (F0 m 655 ls [])) : W p l e room_1 s m #[Value.ref b] below meth c H locs 92 727 Q (F0 m 391 ls []) := by
  obtain ⟨hx, hb, hml, hown, hts, hX, hbl, hL⟩ := S
  have st := ma_st_least hv (xs (i + 1))
  refine lv_aload_n hx hb dL_law_391 rfl (lv_at hl 2 rfl) ?_
  refine lv_aload_n hx hb dL_law_392 rfl (lv_at hl 3 rfl) ?_
  refine lv_iload_n hx hb dL_law_393 rfl (lv_at hl 0 rfl) ?_
  refine lv_iconst (v := 1) hx hb dL_law_394 (by decide) ?_
  refine lv_iadd hx hb dL_law_395 ?_
  refine lw_sld hx hb hX hbl G.2.2.2.1 hi hL 1 (by decide) (by decide) dL_law_396 ?_
  refine gx_eVl (x := x) (y := (c_leastS x (xs (i + 1)))) (v := (c_least x (xs (i + 1)))) (As := [.int (xs (i + 1))]) (rest := []) ⟨hx, hb, hml, hown, hts⟩ G 0 (kX4_least l D ad cy x.1 x.2.1 x.2.2.1 x.2.2.2 H.size (xs (i + 1)) (ma_IV_cOK hv)) (cwV 1 hts gL_law_X4_least rfl rfl rfl (by decide +kernel) ⟨Nat.le_of_ble_eq_true rfl, Nat.le_of_ble_eq_true rfl⟩) (by decide) rfl rfl rfl rfl hl.1 rfl (Nat.le_of_ble_eq_true rfl) ⟨Nat.le_of_ble_eq_true rfl, Nat.le_of_ble_eq_true rfl⟩ dL_law_397 (fun H locs G => ?_)
  refine lv_aload_n hx hb dL_law_400 rfl (lv_at hl 1 rfl) ?_
  refine lv_aload_n hx hb dL_law_401 rfl (lv_at hl 3 rfl) ?_
  refine lv_iload_n hx hb dL_law_402 rfl (lv_at hl 0 rfl) ?_
  refine lv_iconst (v := 1) hx hb dL_law_403 (by decide) ?_
  refine lv_iadd hx hb dL_law_404 ?_
  refine lw_sld hx hb hX hbl G.2.2.2.1 hi hL 1 (by decide) (by decide) dL_law_405 ?_
  obtain ⟨o1, o2, o3, o4⟩ := ma_IV_OM st.1
  refine gx_eVl (x := (c_leastS x (xs (i + 1)))) (y := (m_leastS (c_leastS x (xs (i + 1))) (xs (i + 1)))) (v := (m_least (c_leastS x (xs (i + 1))) (xs (i + 1)))) (As := [.int (xs (i + 1))]) (rest := [.long (c_least x (xs (i + 1)))]) ⟨hx, hb, hml, hown, hts⟩ G 5 (kX5_least l D ad cy (c_leastS x (xs (i + 1))).1 (c_leastS x (xs (i + 1))).2.1 (c_leastS x (xs (i + 1))).2.2.1 (c_leastS x (xs (i + 1))).2.2.2 H.size (xs (i + 1)) o1 o2 o3 o4 (ma_IV_nz st.1)) (cwV 1 hts gL_law_X5_least rfl rfl rfl (by decide +kernel) ⟨Nat.le_of_ble_eq_true rfl, Nat.le_of_ble_eq_true rfl⟩) (by decide) rfl rfl rfl rfl hl.1 rfl (Nat.le_of_ble_eq_true rfl) ⟨Nat.le_of_ble_eq_true rfl, Nat.le_of_ble_eq_true rfl⟩ dL_law_406 (fun H locs G => ?_)
  exact gx_lc_eq hx hb dL_law_409 dL_law_410 rfl (fun _ => kk _ H locs st.2.2 G) (fun h => absurd st.2.1 h)
set_option maxHeartbeats 4000000 in
set_option maxRecDepth 100000 in
theorem lw_case_value {p : Program} {l : Launch} {e : Env} {s : State} {m : MethodId} {below : List Frame} {meth : Method} {c : Code} {H : Heap} {locs : List Loc} {Q : State → Prop} {ls : Array Slot} {D : va_G} {ad : Nat → Nat} {cy : Nat → ClassId} {b L i : Nat} {xs : Nat → Int32} {x : gS} (S : lwS p s m c b L xs) (hi : i + 4 ≤ L) (hl : lv_has ls 4 [(3, .int (nI i)), (2, .ref (ad 5)), (1, .ref (ad 0)), (0, .ref b)]) (hv : ma_INV x) (G : GX D ad cy (fun q => s.heap.size ≤ q) s x H locs)
    (kk : ∀ (y : gS) (H1 : Heap) (locs1 : List Loc), ma_INV y → GX D ad cy (fun q => s.heap.size ≤ q) s y H1 locs1 → W p l e room_1 s m #[Value.ref b] below meth c H1 locs1 92 727 Q (F0 m 655 ls [])) : W p l e room_1 s m #[Value.ref b] below meth c H locs 92 727 Q (F0 m 415 ls []) := by
  obtain ⟨hx, hb, hml, hown, hts, hX, hbl, hL⟩ := S
  have st := ma_st_value hv (xs (i + 1)) (xs (i + 2))
  refine lv_aload_n hx hb dL_law_415 rfl (lv_at hl 2 rfl) ?_
  refine lv_aload_n hx hb dL_law_416 rfl (lv_at hl 3 rfl) ?_
  refine lv_iload_n hx hb dL_law_417 rfl (lv_at hl 0 rfl) ?_
  refine lv_iconst (v := 1) hx hb dL_law_418 (by decide) ?_
  refine lv_iadd hx hb dL_law_419 ?_
  refine lw_sld hx hb hX hbl G.2.2.2.1 hi hL 1 (by decide) (by decide) dL_law_420 ?_
  refine lv_aload_n hx hb dL_law_421 rfl (lv_at hl 3 rfl) ?_
  refine lv_iload_n hx hb dL_law_422 rfl (lv_at hl 0 rfl) ?_
  refine lv_iconst (v := 2) hx hb dL_law_423 (by decide) ?_
  refine lv_iadd hx hb dL_law_424 ?_
  refine lw_sld hx hb hX hbl G.2.2.2.1 hi hL 2 (by decide) (by decide) dL_law_425 ?_
  refine gx_eVl (x := x) (y := (c_valueS x (xs (i + 1)) (xs (i + 2)))) (v := (c_value x (xs (i + 1)) (xs (i + 2)))) (As := [.int (xs (i + 1)), .int (xs (i + 2))]) (rest := []) ⟨hx, hb, hml, hown, hts⟩ G 0 (kX4_value l D ad cy x.1 x.2.1 x.2.2.1 x.2.2.2 H.size (xs (i + 1)) (xs (i + 2)) (ma_IV_cOK hv)) (cwV 2 hts gL_law_X4_value rfl rfl rfl (by decide +kernel) ⟨Nat.le_of_ble_eq_true rfl, Nat.le_of_ble_eq_true rfl⟩) (by decide) rfl rfl rfl rfl hl.1 rfl (Nat.le_of_ble_eq_true rfl) ⟨Nat.le_of_ble_eq_true rfl, Nat.le_of_ble_eq_true rfl⟩ dL_law_426 (fun H locs G => ?_)
  refine lv_aload_n hx hb dL_law_429 rfl (lv_at hl 1 rfl) ?_
  refine lv_aload_n hx hb dL_law_430 rfl (lv_at hl 3 rfl) ?_
  refine lv_iload_n hx hb dL_law_431 rfl (lv_at hl 0 rfl) ?_
  refine lv_iconst (v := 1) hx hb dL_law_432 (by decide) ?_
  refine lv_iadd hx hb dL_law_433 ?_
  refine lw_sld hx hb hX hbl G.2.2.2.1 hi hL 1 (by decide) (by decide) dL_law_434 ?_
  refine lv_aload_n hx hb dL_law_435 rfl (lv_at hl 3 rfl) ?_
  refine lv_iload_n hx hb dL_law_436 rfl (lv_at hl 0 rfl) ?_
  refine lv_iconst (v := 2) hx hb dL_law_437 (by decide) ?_
  refine lv_iadd hx hb dL_law_438 ?_
  refine lw_sld hx hb hX hbl G.2.2.2.1 hi hL 2 (by decide) (by decide) dL_law_439 ?_
  obtain ⟨o1, o2, o3, o4⟩ := ma_IV_OM st.1
  refine gx_eVl (x := (c_valueS x (xs (i + 1)) (xs (i + 2)))) (y := (m_valueS (c_valueS x (xs (i + 1)) (xs (i + 2))) (xs (i + 1)) (xs (i + 2)))) (v := (m_value (c_valueS x (xs (i + 1)) (xs (i + 2))) (xs (i + 1)) (xs (i + 2)))) (As := [.int (xs (i + 1)), .int (xs (i + 2))]) (rest := [.long (c_value x (xs (i + 1)) (xs (i + 2)))]) ⟨hx, hb, hml, hown, hts⟩ G 5 (kX5_value l D ad cy (c_valueS x (xs (i + 1)) (xs (i + 2))).1 (c_valueS x (xs (i + 1)) (xs (i + 2))).2.1 (c_valueS x (xs (i + 1)) (xs (i + 2))).2.2.1 (c_valueS x (xs (i + 1)) (xs (i + 2))).2.2.2 H.size (xs (i + 1)) (xs (i + 2)) o1 o2 o3 o4 (ma_IV_nz st.1)) (cwV 2 hts gL_law_X5_value rfl rfl rfl (by decide +kernel) ⟨Nat.le_of_ble_eq_true rfl, Nat.le_of_ble_eq_true rfl⟩) (by decide) rfl rfl rfl rfl hl.1 rfl (Nat.le_of_ble_eq_true rfl) ⟨Nat.le_of_ble_eq_true rfl, Nat.le_of_ble_eq_true rfl⟩ dL_law_440 (fun H locs G => ?_)
  exact gx_lc_eq hx hb dL_law_443 dL_law_444 rfl (fun _ => kk _ H locs st.2.2 G) (fun h => absurd st.2.1 h)
set_option maxHeartbeats 4000000 in
set_option maxRecDepth 100000 in
theorem lw_case_tight {p : Program} {l : Launch} {e : Env} {s : State} {m : MethodId} {below : List Frame} {meth : Method} {c : Code} {H : Heap} {locs : List Loc} {Q : State → Prop} {ls : Array Slot} {D : va_G} {ad : Nat → Nat} {cy : Nat → ClassId} {b L i : Nat} {xs : Nat → Int32} {x : gS} (S : lwS p s m c b L xs) (hi : i + 4 ≤ L) (hl : lv_has ls 4 [(3, .int (nI i)), (2, .ref (ad 5)), (1, .ref (ad 0)), (0, .ref b)]) (hv : ma_INV x) (G : GX D ad cy (fun q => s.heap.size ≤ q) s x H locs)
    (kk : ∀ (y : gS) (H1 : Heap) (locs1 : List Loc), ma_INV y → GX D ad cy (fun q => s.heap.size ≤ q) s y H1 locs1 → W p l e room_1 s m #[Value.ref b] below meth c H1 locs1 92 727 Q (F0 m 655 ls [])) : W p l e room_1 s m #[Value.ref b] below meth c H locs 92 727 Q (F0 m 449 ls []) := by
  obtain ⟨hx, hb, hml, hown, hts, hX, hbl, hL⟩ := S
  have st := ma_st_tight hv (xs (i + 1))
  refine lv_aload_n hx hb dL_law_449 rfl (lv_at hl 2 rfl) ?_
  refine lv_aload_n hx hb dL_law_450 rfl (lv_at hl 3 rfl) ?_
  refine lv_iload_n hx hb dL_law_451 rfl (lv_at hl 0 rfl) ?_
  refine lv_iconst (v := 1) hx hb dL_law_452 (by decide) ?_
  refine lv_iadd hx hb dL_law_453 ?_
  refine lw_sld hx hb hX hbl G.2.2.2.1 hi hL 1 (by decide) (by decide) dL_law_454 ?_
  refine gx_eVi (x := x) (y := (c_tightS x (xs (i + 1)))) (v := (c_tight x (xs (i + 1)))) (As := [.int (xs (i + 1))]) (rest := []) ⟨hx, hb, hml, hown, hts⟩ G 0 (kX4_tight l D ad cy x.1 x.2.1 x.2.2.1 x.2.2.2 H.size (xs (i + 1)) (ma_IV_cOK hv)) (cwV 1 hts gL_law_X4_tight rfl rfl rfl (by decide +kernel) ⟨Nat.le_of_ble_eq_true rfl, Nat.le_of_ble_eq_true rfl⟩) (by decide) rfl rfl rfl rfl hl.1 rfl (Nat.le_of_ble_eq_true rfl) ⟨Nat.le_of_ble_eq_true rfl, Nat.le_of_ble_eq_true rfl⟩ dL_law_455 (fun H locs G => ?_)
  refine lv_aload_n hx hb dL_law_458 rfl (lv_at hl 1 rfl) ?_
  refine lv_aload_n hx hb dL_law_459 rfl (lv_at hl 3 rfl) ?_
  refine lv_iload_n hx hb dL_law_460 rfl (lv_at hl 0 rfl) ?_
  refine lv_iconst (v := 1) hx hb dL_law_461 (by decide) ?_
  refine lv_iadd hx hb dL_law_462 ?_
  refine lw_sld hx hb hX hbl G.2.2.2.1 hi hL 1 (by decide) (by decide) dL_law_463 ?_
  obtain ⟨o1, o2, o3, o4⟩ := ma_IV_OM st.1
  refine gx_eVi (x := (c_tightS x (xs (i + 1)))) (y := (m_tightS (c_tightS x (xs (i + 1))) (xs (i + 1)))) (v := (m_tight (c_tightS x (xs (i + 1))) (xs (i + 1)))) (As := [.int (xs (i + 1))]) (rest := [.int (c_tight x (xs (i + 1)))]) ⟨hx, hb, hml, hown, hts⟩ G 5 (kX5_tight l D ad cy (c_tightS x (xs (i + 1))).1 (c_tightS x (xs (i + 1))).2.1 (c_tightS x (xs (i + 1))).2.2.1 (c_tightS x (xs (i + 1))).2.2.2 H.size (xs (i + 1)) o1 o2 o3 o4) (cwV 1 hts gL_law_X5_tight rfl rfl rfl (by decide +kernel) ⟨Nat.le_of_ble_eq_true rfl, Nat.le_of_ble_eq_true rfl⟩) (by decide) rfl rfl rfl rfl hl.1 rfl (Nat.le_of_ble_eq_true rfl) ⟨Nat.le_of_ble_eq_true rfl, Nat.le_of_ble_eq_true rfl⟩ dL_law_464 (fun H locs G => ?_)
  exact lv_icmp_eq hx hb dL_law_467 rfl (fun _ => kk _ H locs st.2.2 G) (fun h => absurd st.2.1 h)
set_option maxHeartbeats 4000000 in
set_option maxRecDepth 100000 in
theorem lw_case_reach {p : Program} {l : Launch} {e : Env} {s : State} {m : MethodId} {below : List Frame} {meth : Method} {c : Code} {H : Heap} {locs : List Loc} {Q : State → Prop} {ls : Array Slot} {D : va_G} {ad : Nat → Nat} {cy : Nat → ClassId} {b L i : Nat} {xs : Nat → Int32} {x : gS} (S : lwS p s m c b L xs) (hi : i + 4 ≤ L) (hl : lv_has ls 4 [(3, .int (nI i)), (2, .ref (ad 5)), (1, .ref (ad 0)), (0, .ref b)]) (hv : ma_INV x) (G : GX D ad cy (fun q => s.heap.size ≤ q) s x H locs)
    (kk : ∀ (y : gS) (H1 : Heap) (locs1 : List Loc), ma_INV y → GX D ad cy (fun q => s.heap.size ≤ q) s y H1 locs1 → W p l e room_1 s m #[Value.ref b] below meth c H1 locs1 92 727 Q (F0 m 655 ls [])) : W p l e room_1 s m #[Value.ref b] below meth c H locs 92 727 Q (F0 m 472 ls []) := by
  obtain ⟨hx, hb, hml, hown, hts, hX, hbl, hL⟩ := S
  have st := ma_st_reach hv (xs (i + 1)) (xs (i + 2)) (xs (i + 3))
  refine lv_aload_n hx hb dL_law_472 rfl (lv_at hl 2 rfl) ?_
  refine lv_aload_n hx hb dL_law_473 rfl (lv_at hl 3 rfl) ?_
  refine lv_iload_n hx hb dL_law_474 rfl (lv_at hl 0 rfl) ?_
  refine lv_iconst (v := 1) hx hb dL_law_475 (by decide) ?_
  refine lv_iadd hx hb dL_law_476 ?_
  refine lw_sld hx hb hX hbl G.2.2.2.1 hi hL 1 (by decide) (by decide) dL_law_477 ?_
  refine lv_aload_n hx hb dL_law_478 rfl (lv_at hl 3 rfl) ?_
  refine lv_iload_n hx hb dL_law_479 rfl (lv_at hl 0 rfl) ?_
  refine lv_iconst (v := 2) hx hb dL_law_480 (by decide) ?_
  refine lv_iadd hx hb dL_law_481 ?_
  refine lw_sld hx hb hX hbl G.2.2.2.1 hi hL 2 (by decide) (by decide) dL_law_482 ?_
  refine lv_aload_n hx hb dL_law_483 rfl (lv_at hl 3 rfl) ?_
  refine lv_iload_n hx hb dL_law_484 rfl (lv_at hl 0 rfl) ?_
  refine lv_iconst (v := 3) hx hb dL_law_485 (by decide) ?_
  refine lv_iadd hx hb dL_law_486 ?_
  refine lw_sld hx hb hX hbl G.2.2.2.1 hi hL 3 (by decide) (by decide) dL_law_487 ?_
  refine gx_eVl (x := x) (y := (c_reachS x (xs (i + 1)) (xs (i + 2)) (xs (i + 3)))) (v := (c_reach x (xs (i + 1)) (xs (i + 2)) (xs (i + 3)))) (As := [.int (xs (i + 1)), .int (xs (i + 2)), .int (xs (i + 3))]) (rest := []) ⟨hx, hb, hml, hown, hts⟩ G 0 (kX4_reach l D ad cy x.1 x.2.1 x.2.2.1 x.2.2.2 H.size (xs (i + 1)) (xs (i + 2)) (xs (i + 3)) (ma_IV_cOK hv)) (cwV 3 hts gL_law_X4_reach rfl rfl rfl (by decide +kernel) ⟨Nat.le_of_ble_eq_true rfl, Nat.le_of_ble_eq_true rfl⟩) (by decide) rfl rfl rfl rfl hl.1 rfl (Nat.le_of_ble_eq_true rfl) ⟨Nat.le_of_ble_eq_true rfl, Nat.le_of_ble_eq_true rfl⟩ dL_law_488 (fun H locs G => ?_)
  refine lv_aload_n hx hb dL_law_491 rfl (lv_at hl 1 rfl) ?_
  refine lv_aload_n hx hb dL_law_492 rfl (lv_at hl 3 rfl) ?_
  refine lv_iload_n hx hb dL_law_493 rfl (lv_at hl 0 rfl) ?_
  refine lv_iconst (v := 1) hx hb dL_law_494 (by decide) ?_
  refine lv_iadd hx hb dL_law_495 ?_
  refine lw_sld hx hb hX hbl G.2.2.2.1 hi hL 1 (by decide) (by decide) dL_law_496 ?_
  refine lv_aload_n hx hb dL_law_497 rfl (lv_at hl 3 rfl) ?_
  refine lv_iload_n hx hb dL_law_498 rfl (lv_at hl 0 rfl) ?_
  refine lv_iconst (v := 2) hx hb dL_law_499 (by decide) ?_
  refine lv_iadd hx hb dL_law_500 ?_
  refine lw_sld hx hb hX hbl G.2.2.2.1 hi hL 2 (by decide) (by decide) dL_law_501 ?_
  refine lv_aload_n hx hb dL_law_502 rfl (lv_at hl 3 rfl) ?_
  refine lv_iload_n hx hb dL_law_503 rfl (lv_at hl 0 rfl) ?_
  refine lv_iconst (v := 3) hx hb dL_law_504 (by decide) ?_
  refine lv_iadd hx hb dL_law_505 ?_
  refine lw_sld hx hb hX hbl G.2.2.2.1 hi hL 3 (by decide) (by decide) dL_law_506 ?_
  obtain ⟨o1, o2, o3, o4⟩ := ma_IV_OM st.1
  refine gx_eVl (x := (c_reachS x (xs (i + 1)) (xs (i + 2)) (xs (i + 3)))) (y := (m_reachS (c_reachS x (xs (i + 1)) (xs (i + 2)) (xs (i + 3))) (xs (i + 1)) (xs (i + 2)) (xs (i + 3)))) (v := (m_reach (c_reachS x (xs (i + 1)) (xs (i + 2)) (xs (i + 3))) (xs (i + 1)) (xs (i + 2)) (xs (i + 3)))) (As := [.int (xs (i + 1)), .int (xs (i + 2)), .int (xs (i + 3))]) (rest := [.long (c_reach x (xs (i + 1)) (xs (i + 2)) (xs (i + 3)))]) ⟨hx, hb, hml, hown, hts⟩ G 5 (kX5_reach l D ad cy (c_reachS x (xs (i + 1)) (xs (i + 2)) (xs (i + 3))).1 (c_reachS x (xs (i + 1)) (xs (i + 2)) (xs (i + 3))).2.1 (c_reachS x (xs (i + 1)) (xs (i + 2)) (xs (i + 3))).2.2.1 (c_reachS x (xs (i + 1)) (xs (i + 2)) (xs (i + 3))).2.2.2 H.size (xs (i + 1)) (xs (i + 2)) (xs (i + 3)) o1 o2 o3 o4 (ma_IV_nz st.1)) (cwV 3 hts gL_law_X5_reach rfl rfl rfl (by decide +kernel) ⟨Nat.le_of_ble_eq_true rfl, Nat.le_of_ble_eq_true rfl⟩) (by decide) rfl rfl rfl rfl hl.1 rfl (Nat.le_of_ble_eq_true rfl) ⟨Nat.le_of_ble_eq_true rfl, Nat.le_of_ble_eq_true rfl⟩ dL_law_507 (fun H locs G => ?_)
  exact gx_lc_eq hx hb dL_law_510 dL_law_511 rfl (fun _ => kk _ H locs st.2.2 G) (fun h => absurd st.2.1 h)
set_option maxHeartbeats 4000000 in
set_option maxRecDepth 100000 in
theorem lw_case_far {p : Program} {l : Launch} {e : Env} {s : State} {m : MethodId} {below : List Frame} {meth : Method} {c : Code} {H : Heap} {locs : List Loc} {Q : State → Prop} {ls : Array Slot} {D : va_G} {ad : Nat → Nat} {cy : Nat → ClassId} {b L i : Nat} {xs : Nat → Int32} {x : gS} (S : lwS p s m c b L xs) (hi : i + 4 ≤ L) (hl : lv_has ls 4 [(3, .int (nI i)), (2, .ref (ad 5)), (1, .ref (ad 0)), (0, .ref b)]) (hv : ma_INV x) (G : GX D ad cy (fun q => s.heap.size ≤ q) s x H locs)
    (kk : ∀ (y : gS) (H1 : Heap) (locs1 : List Loc), ma_INV y → GX D ad cy (fun q => s.heap.size ≤ q) s y H1 locs1 → W p l e room_1 s m #[Value.ref b] below meth c H1 locs1 92 727 Q (F0 m 655 ls [])) : W p l e room_1 s m #[Value.ref b] below meth c H locs 92 727 Q (F0 m 516 ls []) := by
  obtain ⟨hx, hb, hml, hown, hts, hX, hbl, hL⟩ := S
  have st := ma_st_far hv (xs (i + 1)) (xs (i + 2)) (xs (i + 3))
  refine lv_aload_n hx hb dL_law_516 rfl (lv_at hl 2 rfl) ?_
  refine lv_aload_n hx hb dL_law_517 rfl (lv_at hl 3 rfl) ?_
  refine lv_iload_n hx hb dL_law_518 rfl (lv_at hl 0 rfl) ?_
  refine lv_iconst (v := 1) hx hb dL_law_519 (by decide) ?_
  refine lv_iadd hx hb dL_law_520 ?_
  refine lw_sld hx hb hX hbl G.2.2.2.1 hi hL 1 (by decide) (by decide) dL_law_521 ?_
  refine lv_aload_n hx hb dL_law_522 rfl (lv_at hl 3 rfl) ?_
  refine lv_iload_n hx hb dL_law_523 rfl (lv_at hl 0 rfl) ?_
  refine lv_iconst (v := 2) hx hb dL_law_524 (by decide) ?_
  refine lv_iadd hx hb dL_law_525 ?_
  refine lw_sld hx hb hX hbl G.2.2.2.1 hi hL 2 (by decide) (by decide) dL_law_526 ?_
  refine lv_aload_n hx hb dL_law_527 rfl (lv_at hl 3 rfl) ?_
  refine lv_iload_n hx hb dL_law_528 rfl (lv_at hl 0 rfl) ?_
  refine lv_iconst (v := 3) hx hb dL_law_529 (by decide) ?_
  refine lv_iadd hx hb dL_law_530 ?_
  refine lw_sld hx hb hX hbl G.2.2.2.1 hi hL 3 (by decide) (by decide) dL_law_531 ?_
  refine gx_eVl (x := x) (y := (c_farS x (xs (i + 1)) (xs (i + 2)) (xs (i + 3)))) (v := (c_far x (xs (i + 1)) (xs (i + 2)) (xs (i + 3)))) (As := [.int (xs (i + 1)), .int (xs (i + 2)), .int (xs (i + 3))]) (rest := []) ⟨hx, hb, hml, hown, hts⟩ G 0 (kX4_far l D ad cy x.1 x.2.1 x.2.2.1 x.2.2.2 H.size (xs (i + 1)) (xs (i + 2)) (xs (i + 3)) (ma_IV_cOK hv)) (cwV 3 hts gL_law_X4_far rfl rfl rfl (by decide +kernel) ⟨Nat.le_of_ble_eq_true rfl, Nat.le_of_ble_eq_true rfl⟩) (by decide) rfl rfl rfl rfl hl.1 rfl (Nat.le_of_ble_eq_true rfl) ⟨Nat.le_of_ble_eq_true rfl, Nat.le_of_ble_eq_true rfl⟩ dL_law_532 (fun H locs G => ?_)
  refine lv_aload_n hx hb dL_law_535 rfl (lv_at hl 1 rfl) ?_
  refine lv_aload_n hx hb dL_law_536 rfl (lv_at hl 3 rfl) ?_
  refine lv_iload_n hx hb dL_law_537 rfl (lv_at hl 0 rfl) ?_
  refine lv_iconst (v := 1) hx hb dL_law_538 (by decide) ?_
  refine lv_iadd hx hb dL_law_539 ?_
  refine lw_sld hx hb hX hbl G.2.2.2.1 hi hL 1 (by decide) (by decide) dL_law_540 ?_
  refine lv_aload_n hx hb dL_law_541 rfl (lv_at hl 3 rfl) ?_
  refine lv_iload_n hx hb dL_law_542 rfl (lv_at hl 0 rfl) ?_
  refine lv_iconst (v := 2) hx hb dL_law_543 (by decide) ?_
  refine lv_iadd hx hb dL_law_544 ?_
  refine lw_sld hx hb hX hbl G.2.2.2.1 hi hL 2 (by decide) (by decide) dL_law_545 ?_
  refine lv_aload_n hx hb dL_law_546 rfl (lv_at hl 3 rfl) ?_
  refine lv_iload_n hx hb dL_law_547 rfl (lv_at hl 0 rfl) ?_
  refine lv_iconst (v := 3) hx hb dL_law_548 (by decide) ?_
  refine lv_iadd hx hb dL_law_549 ?_
  refine lw_sld hx hb hX hbl G.2.2.2.1 hi hL 3 (by decide) (by decide) dL_law_550 ?_
  obtain ⟨o1, o2, o3, o4⟩ := ma_IV_OM st.1
  refine gx_eVl (x := (c_farS x (xs (i + 1)) (xs (i + 2)) (xs (i + 3)))) (y := (m_reachS (c_farS x (xs (i + 1)) (xs (i + 2)) (xs (i + 3))) (xs (i + 1)) (xs (i + 2)) (xs (i + 3)))) (v := (m_far (c_farS x (xs (i + 1)) (xs (i + 2)) (xs (i + 3))) (xs (i + 1)) (xs (i + 2)) (xs (i + 3)))) (As := [.int (xs (i + 1)), .int (xs (i + 2)), .int (xs (i + 3))]) (rest := [.long (c_far x (xs (i + 1)) (xs (i + 2)) (xs (i + 3)))]) ⟨hx, hb, hml, hown, hts⟩ G 5 (kX5_far l D ad cy (c_farS x (xs (i + 1)) (xs (i + 2)) (xs (i + 3))).1 (c_farS x (xs (i + 1)) (xs (i + 2)) (xs (i + 3))).2.1 (c_farS x (xs (i + 1)) (xs (i + 2)) (xs (i + 3))).2.2.1 (c_farS x (xs (i + 1)) (xs (i + 2)) (xs (i + 3))).2.2.2 H.size (xs (i + 1)) (xs (i + 2)) (xs (i + 3)) o1 o2 o3 o4 (ma_IV_nz st.1)) (cwV 3 hts gL_law_X5_far rfl rfl rfl (by decide +kernel) ⟨Nat.le_of_ble_eq_true rfl, Nat.le_of_ble_eq_true rfl⟩) (by decide) rfl rfl rfl rfl hl.1 rfl (Nat.le_of_ble_eq_true rfl) ⟨Nat.le_of_ble_eq_true rfl, Nat.le_of_ble_eq_true rfl⟩ dL_law_551 (fun H locs G => ?_)
  exact gx_lc_eq hx hb dL_law_554 dL_law_555 rfl (fun _ => kk _ H locs st.2.2 G) (fun h => absurd st.2.1 h)
set_option maxHeartbeats 4000000 in
set_option maxRecDepth 100000 in
theorem lw_case_barred {p : Program} {l : Launch} {e : Env} {s : State} {m : MethodId} {below : List Frame} {meth : Method} {c : Code} {H : Heap} {locs : List Loc} {Q : State → Prop} {ls : Array Slot} {D : va_G} {ad : Nat → Nat} {cy : Nat → ClassId} {b L i : Nat} {xs : Nat → Int32} {x : gS} (S : lwS p s m c b L xs) (hi : i + 4 ≤ L) (hl : lv_has ls 4 [(3, .int (nI i)), (2, .ref (ad 5)), (1, .ref (ad 0)), (0, .ref b)]) (hv : ma_INV x) (G : GX D ad cy (fun q => s.heap.size ≤ q) s x H locs)
    (kk : ∀ (y : gS) (H1 : Heap) (locs1 : List Loc), ma_INV y → GX D ad cy (fun q => s.heap.size ≤ q) s y H1 locs1 → W p l e room_1 s m #[Value.ref b] below meth c H1 locs1 92 727 Q (F0 m 655 ls [])) : W p l e room_1 s m #[Value.ref b] below meth c H locs 92 727 Q (F0 m 560 ls []) := by
  obtain ⟨hx, hb, hml, hown, hts, hX, hbl, hL⟩ := S
  have st := ma_st_barred hv (xs (i + 1))
  refine lv_aload_n hx hb dL_law_560 rfl (lv_at hl 2 rfl) ?_
  refine lv_aload_n hx hb dL_law_561 rfl (lv_at hl 3 rfl) ?_
  refine lv_iload_n hx hb dL_law_562 rfl (lv_at hl 0 rfl) ?_
  refine lv_iconst (v := 1) hx hb dL_law_563 (by decide) ?_
  refine lv_iadd hx hb dL_law_564 ?_
  refine lw_sld hx hb hX hbl G.2.2.2.1 hi hL 1 (by decide) (by decide) dL_law_565 ?_
  refine gx_eVi (x := x) (y := (c_barredS x)) (v := (c_barred x (xs (i + 1)))) (As := [.int (xs (i + 1))]) (rest := []) ⟨hx, hb, hml, hown, hts⟩ G 0 (kX4_barred l D ad cy x.1 x.2.1 x.2.2.1 x.2.2.2 H.size (xs (i + 1)) (ma_IV_cOK hv)) (cwV 1 hts gL_law_X4_barred rfl rfl rfl (by decide +kernel) ⟨Nat.le_of_ble_eq_true rfl, Nat.le_of_ble_eq_true rfl⟩) (by decide) rfl rfl rfl rfl hl.1 rfl (Nat.le_of_ble_eq_true rfl) ⟨Nat.le_of_ble_eq_true rfl, Nat.le_of_ble_eq_true rfl⟩ dL_law_566 (fun H locs G => ?_)
  refine lv_aload_n hx hb dL_law_569 rfl (lv_at hl 1 rfl) ?_
  refine lv_aload_n hx hb dL_law_570 rfl (lv_at hl 3 rfl) ?_
  refine lv_iload_n hx hb dL_law_571 rfl (lv_at hl 0 rfl) ?_
  refine lv_iconst (v := 1) hx hb dL_law_572 (by decide) ?_
  refine lv_iadd hx hb dL_law_573 ?_
  refine lw_sld hx hb hX hbl G.2.2.2.1 hi hL 1 (by decide) (by decide) dL_law_574 ?_
  obtain ⟨o1, o2, o3, o4⟩ := ma_IV_OM st.1
  refine gx_eVi (x := (c_barredS x)) (y := (kS (c_barredS x))) (v := (m_barred (c_barredS x) (xs (i + 1)))) (As := [.int (xs (i + 1))]) (rest := [.int (c_barred x (xs (i + 1)))]) ⟨hx, hb, hml, hown, hts⟩ G 5 (kX5_barred l D ad cy (c_barredS x).1 (c_barredS x).2.1 (c_barredS x).2.2.1 (c_barredS x).2.2.2 H.size (xs (i + 1)) o1 o2 o3 o4) (cwV 1 hts gL_law_X5_barred rfl rfl rfl (by decide +kernel) ⟨Nat.le_of_ble_eq_true rfl, Nat.le_of_ble_eq_true rfl⟩) (by decide) rfl rfl rfl rfl hl.1 rfl (Nat.le_of_ble_eq_true rfl) ⟨Nat.le_of_ble_eq_true rfl, Nat.le_of_ble_eq_true rfl⟩ dL_law_575 (fun H locs G => ?_)
  exact lv_icmp_eq hx hb dL_law_578 rfl (fun _ => kk _ H locs st.2.2 G) (fun h => absurd st.2.1 h)
set_option maxHeartbeats 4000000 in
set_option maxRecDepth 100000 in
theorem lw_case_whole {p : Program} {l : Launch} {e : Env} {s : State} {m : MethodId} {below : List Frame} {meth : Method} {c : Code} {H : Heap} {locs : List Loc} {Q : State → Prop} {ls : Array Slot} {D : va_G} {ad : Nat → Nat} {cy : Nat → ClassId} {b L i : Nat} {xs : Nat → Int32} {x : gS} (S : lwS p s m c b L xs) (hi : i + 4 ≤ L) (hl : lv_has ls 4 [(3, .int (nI i)), (2, .ref (ad 5)), (1, .ref (ad 0)), (0, .ref b)]) (hv : ma_INV x) (G : GX D ad cy (fun q => s.heap.size ≤ q) s x H locs)
    (kk : ∀ (y : gS) (H1 : Heap) (locs1 : List Loc), ma_INV y → GX D ad cy (fun q => s.heap.size ≤ q) s y H1 locs1 → W p l e room_1 s m #[Value.ref b] below meth c H1 locs1 92 727 Q (F0 m 655 ls [])) : W p l e room_1 s m #[Value.ref b] below meth c H locs 92 727 Q (F0 m 583 ls []) := by
  obtain ⟨hx, hb, hml, hown, hts, hX, hbl, hL⟩ := S
  have st := ma_st_whole hv
  refine lv_aload_n hx hb dL_law_583 rfl (lv_at hl 2 rfl) ?_
  refine gx_eVi (x := x) (y := (q_rwS x)) (v := (c_whole x)) (As := []) (rest := []) ⟨hx, hb, hml, hown, hts⟩ G 0 (kX4_whole l D ad cy x.1 x.2.1 x.2.2.1 x.2.2.2 H.size (ma_IV_cOK hv)) (cwV 0 hts gL_law_X4_whole rfl rfl rfl (by decide +kernel) ⟨Nat.le_of_ble_eq_true rfl, Nat.le_of_ble_eq_true rfl⟩) (by decide) rfl rfl rfl rfl hl.1 rfl (Nat.le_of_ble_eq_true rfl) ⟨Nat.le_of_ble_eq_true rfl, Nat.le_of_ble_eq_true rfl⟩ dL_law_584 (fun H locs G => ?_)
  refine lv_aload_n hx hb dL_law_587 rfl (lv_at hl 1 rfl) ?_
  obtain ⟨o1, o2, o3, o4⟩ := ma_IV_OM st.1
  refine gx_eVi (x := (q_rwS x)) (y := (m_wholeS (q_rwS x))) (v := (m_whole (q_rwS x))) (As := []) (rest := [.int (c_whole x)]) ⟨hx, hb, hml, hown, hts⟩ G 5 (kX5_whole l D ad cy (q_rwS x).1 (q_rwS x).2.1 (q_rwS x).2.2.1 (q_rwS x).2.2.2 H.size o1 o2 o3 o4 (ma_IV_sps st.1)) (cwV 0 hts gL_law_X5_whole rfl rfl rfl (by decide +kernel) ⟨Nat.le_of_ble_eq_true rfl, Nat.le_of_ble_eq_true rfl⟩) (by decide) rfl rfl rfl rfl hl.1 rfl (Nat.le_of_ble_eq_true rfl) ⟨Nat.le_of_ble_eq_true rfl, Nat.le_of_ble_eq_true rfl⟩ dL_law_588 (fun H locs G => ?_)
  exact lv_icmp_eq hx hb dL_law_591 rfl (fun _ => kk _ H locs st.2.2 G) (fun h => absurd st.2.1 h)
set_option maxHeartbeats 4000000 in
set_option maxRecDepth 100000 in
theorem lw_case_wholeValue {p : Program} {l : Launch} {e : Env} {s : State} {m : MethodId} {below : List Frame} {meth : Method} {c : Code} {H : Heap} {locs : List Loc} {Q : State → Prop} {ls : Array Slot} {D : va_G} {ad : Nat → Nat} {cy : Nat → ClassId} {b L i : Nat} {xs : Nat → Int32} {x : gS} (S : lwS p s m c b L xs) (hi : i + 4 ≤ L) (hl : lv_has ls 4 [(3, .int (nI i)), (2, .ref (ad 5)), (1, .ref (ad 0)), (0, .ref b)]) (hv : ma_INV x) (G : GX D ad cy (fun q => s.heap.size ≤ q) s x H locs)
    (kk : ∀ (y : gS) (H1 : Heap) (locs1 : List Loc), ma_INV y → GX D ad cy (fun q => s.heap.size ≤ q) s y H1 locs1 → W p l e room_1 s m #[Value.ref b] below meth c H1 locs1 92 727 Q (F0 m 655 ls [])) : W p l e room_1 s m #[Value.ref b] below meth c H locs 92 727 Q (F0 m 596 ls []) := by
  obtain ⟨hx, hb, hml, hown, hts, hX, hbl, hL⟩ := S
  have st := ma_st_wv hv (xs (i + 1))
  refine lv_aload_n hx hb dL_law_596 rfl (lv_at hl 2 rfl) ?_
  refine lv_aload_n hx hb dL_law_597 rfl (lv_at hl 3 rfl) ?_
  refine lv_iload_n hx hb dL_law_598 rfl (lv_at hl 0 rfl) ?_
  refine lv_iconst (v := 1) hx hb dL_law_599 (by decide) ?_
  refine lv_iadd hx hb dL_law_600 ?_
  refine lw_sld hx hb hX hbl G.2.2.2.1 hi hL 1 (by decide) (by decide) dL_law_601 ?_
  refine gx_eVi (x := x) (y := (c_wholeValueS x (xs (i + 1)))) (v := (c_wholeValue x (xs (i + 1)))) (As := [.int (xs (i + 1))]) (rest := []) ⟨hx, hb, hml, hown, hts⟩ G 0 (kX4_wholeValue l D ad cy x.1 x.2.1 x.2.2.1 x.2.2.2 H.size (xs (i + 1)) (ma_IV_cOK hv)) (cwV 1 hts gL_law_X4_wholeValue rfl rfl rfl (by decide +kernel) ⟨Nat.le_of_ble_eq_true rfl, Nat.le_of_ble_eq_true rfl⟩) (by decide) rfl rfl rfl rfl hl.1 rfl (Nat.le_of_ble_eq_true rfl) ⟨Nat.le_of_ble_eq_true rfl, Nat.le_of_ble_eq_true rfl⟩ dL_law_602 (fun H locs G => ?_)
  refine lv_aload_n hx hb dL_law_605 rfl (lv_at hl 1 rfl) ?_
  refine lv_aload_n hx hb dL_law_606 rfl (lv_at hl 3 rfl) ?_
  refine lv_iload_n hx hb dL_law_607 rfl (lv_at hl 0 rfl) ?_
  refine lv_iconst (v := 1) hx hb dL_law_608 (by decide) ?_
  refine lv_iadd hx hb dL_law_609 ?_
  refine lw_sld hx hb hX hbl G.2.2.2.1 hi hL 1 (by decide) (by decide) dL_law_610 ?_
  obtain ⟨o1, o2, o3, o4⟩ := ma_IV_OM st.1
  refine gx_eVi (x := (c_wholeValueS x (xs (i + 1)))) (y := (m_wvS (c_wholeValueS x (xs (i + 1))) (xs (i + 1)))) (v := (m_wv (c_wholeValueS x (xs (i + 1))) (xs (i + 1)))) (As := [.int (xs (i + 1))]) (rest := [.int (c_wholeValue x (xs (i + 1)))]) ⟨hx, hb, hml, hown, hts⟩ G 5 (kX5_wholeValue l D ad cy (c_wholeValueS x (xs (i + 1))).1 (c_wholeValueS x (xs (i + 1))).2.1 (c_wholeValueS x (xs (i + 1))).2.2.1 (c_wholeValueS x (xs (i + 1))).2.2.2 H.size (xs (i + 1)) o1 o2 o3 o4 (ma_IV_sps st.1)) (cwV 1 hts gL_law_X5_wholeValue rfl rfl rfl (by decide +kernel) ⟨Nat.le_of_ble_eq_true rfl, Nat.le_of_ble_eq_true rfl⟩) (by decide) rfl rfl rfl rfl hl.1 rfl (Nat.le_of_ble_eq_true rfl) ⟨Nat.le_of_ble_eq_true rfl, Nat.le_of_ble_eq_true rfl⟩ dL_law_611 (fun H locs G => ?_)
  exact lv_icmp_eq hx hb dL_law_614 rfl (fun _ => kk _ H locs st.2.2 G) (fun h => absurd st.2.1 h)
set_option maxHeartbeats 4000000 in
set_option maxRecDepth 100000 in
theorem lw_case_isWhole {p : Program} {l : Launch} {e : Env} {s : State} {m : MethodId} {below : List Frame} {meth : Method} {c : Code} {H : Heap} {locs : List Loc} {Q : State → Prop} {ls : Array Slot} {D : va_G} {ad : Nat → Nat} {cy : Nat → ClassId} {b L i : Nat} {xs : Nat → Int32} {x : gS} (S : lwS p s m c b L xs) (hi : i + 4 ≤ L) (hl : lv_has ls 4 [(3, .int (nI i)), (2, .ref (ad 5)), (1, .ref (ad 0)), (0, .ref b)]) (hv : ma_INV x) (G : GX D ad cy (fun q => s.heap.size ≤ q) s x H locs)
    (kk : ∀ (y : gS) (H1 : Heap) (locs1 : List Loc), ma_INV y → GX D ad cy (fun q => s.heap.size ≤ q) s y H1 locs1 → W p l e room_1 s m #[Value.ref b] below meth c H1 locs1 92 727 Q (F0 m 655 ls [])) : W p l e room_1 s m #[Value.ref b] below meth c H locs 92 727 Q (F0 m 619 ls []) := by
  obtain ⟨hx, hb, hml, hown, hts, hX, hbl, hL⟩ := S
  have st := ma_st_isWhole hv
  refine lv_aload_n hx hb dL_law_619 rfl (lv_at hl 2 rfl) ?_
  refine gx_eVi (x := x) (y := (q_rwS x)) (v := (c_isWhole x)) (As := []) (rest := []) ⟨hx, hb, hml, hown, hts⟩ G 0 (kX4_isWhole l D ad cy x.1 x.2.1 x.2.2.1 x.2.2.2 H.size (ma_IV_cOK hv)) (cwV 0 hts gL_law_X4_isWhole rfl rfl rfl (by decide +kernel) ⟨Nat.le_of_ble_eq_true rfl, Nat.le_of_ble_eq_true rfl⟩) (by decide) rfl rfl rfl rfl hl.1 rfl (Nat.le_of_ble_eq_true rfl) ⟨Nat.le_of_ble_eq_true rfl, Nat.le_of_ble_eq_true rfl⟩ dL_law_620 (fun H locs G => ?_)
  refine lv_aload_n hx hb dL_law_623 rfl (lv_at hl 1 rfl) ?_
  obtain ⟨o1, o2, o3, o4⟩ := ma_IV_OM st.1
  refine gx_eVi (x := (q_rwS x)) (y := (m_wholeS (q_rwS x))) (v := (m_isW (q_rwS x))) (As := []) (rest := [.int (c_isWhole x)]) ⟨hx, hb, hml, hown, hts⟩ G 5 (kX5_isWhole l D ad cy (q_rwS x).1 (q_rwS x).2.1 (q_rwS x).2.2.1 (q_rwS x).2.2.2 H.size o1 o2 o3 o4 (ma_IV_sps st.1)) (cwV 0 hts gL_law_X5_isWhole rfl rfl rfl (by decide +kernel) ⟨Nat.le_of_ble_eq_true rfl, Nat.le_of_ble_eq_true rfl⟩) (by decide) rfl rfl rfl rfl hl.1 rfl (Nat.le_of_ble_eq_true rfl) ⟨Nat.le_of_ble_eq_true rfl, Nat.le_of_ble_eq_true rfl⟩ dL_law_624 (fun H locs G => ?_)
  exact lv_icmp_eq hx hb dL_law_627 rfl (fun _ => kk _ H locs st.2.2 G) (fun h => absurd st.2.1 h)
set_option maxHeartbeats 4000000 in
set_option maxRecDepth 100000 in
theorem lw_case_told {p : Program} {l : Launch} {e : Env} {s : State} {m : MethodId} {below : List Frame} {meth : Method} {c : Code} {H : Heap} {locs : List Loc} {Q : State → Prop} {ls : Array Slot} {D : va_G} {ad : Nat → Nat} {cy : Nat → ClassId} {b L i : Nat} {xs : Nat → Int32} {x : gS} (S : lwS p s m c b L xs) (hi : i + 4 ≤ L) (hl : lv_has ls 4 [(3, .int (nI i)), (2, .ref (ad 5)), (1, .ref (ad 0)), (0, .ref b)]) (hv : ma_INV x) (G : GX D ad cy (fun q => s.heap.size ≤ q) s x H locs)
    (kk : ∀ (y : gS) (H1 : Heap) (locs1 : List Loc), ma_INV y → GX D ad cy (fun q => s.heap.size ≤ q) s y H1 locs1 → W p l e room_1 s m #[Value.ref b] below meth c H1 locs1 92 727 Q (F0 m 655 ls [])) : W p l e room_1 s m #[Value.ref b] below meth c H locs 92 727 Q (F0 m 632 ls []) := by
  obtain ⟨hx, hb, hml, hown, hts, hX, hbl, hL⟩ := S
  have st := ma_st_told hv (xs (i + 1))
  refine lv_aload_n hx hb dL_law_632 rfl (lv_at hl 2 rfl) ?_
  refine lv_aload_n hx hb dL_law_633 rfl (lv_at hl 3 rfl) ?_
  refine lv_iload_n hx hb dL_law_634 rfl (lv_at hl 0 rfl) ?_
  refine lv_iconst (v := 1) hx hb dL_law_635 (by decide) ?_
  refine lv_iadd hx hb dL_law_636 ?_
  refine lw_sld hx hb hX hbl G.2.2.2.1 hi hL 1 (by decide) (by decide) dL_law_637 ?_
  refine gx_eVi (x := x) (y := (x)) (v := (c_told x (xs (i + 1)))) (As := [.int (xs (i + 1))]) (rest := []) ⟨hx, hb, hml, hown, hts⟩ G 0 (kX4_told l D ad cy x.1 x.2.1 x.2.2.1 x.2.2.2 H.size (xs (i + 1)) (ma_IV_cOK hv)) (cwV 1 hts gL_law_X4_told rfl rfl rfl (by decide +kernel) ⟨Nat.le_of_ble_eq_true rfl, Nat.le_of_ble_eq_true rfl⟩) (by decide) rfl rfl rfl rfl hl.1 rfl (Nat.le_of_ble_eq_true rfl) ⟨Nat.le_of_ble_eq_true rfl, Nat.le_of_ble_eq_true rfl⟩ dL_law_638 (fun H locs G => ?_)
  refine lv_aload_n hx hb dL_law_641 rfl (lv_at hl 1 rfl) ?_
  refine lv_aload_n hx hb dL_law_642 rfl (lv_at hl 3 rfl) ?_
  refine lv_iload_n hx hb dL_law_643 rfl (lv_at hl 0 rfl) ?_
  refine lv_iconst (v := 1) hx hb dL_law_644 (by decide) ?_
  refine lv_iadd hx hb dL_law_645 ?_
  refine lw_sld hx hb hX hbl G.2.2.2.1 hi hL 1 (by decide) (by decide) dL_law_646 ?_
  obtain ⟨o1, o2, o3, o4⟩ := ma_IV_OM hv
  refine gx_eVi (x := (x)) (y := (x)) (v := (m_told (x) (xs (i + 1)))) (As := [.int (xs (i + 1))]) (rest := [.int (c_told x (xs (i + 1)))]) ⟨hx, hb, hml, hown, hts⟩ G 5 (kX5_told l D ad cy (x).1 (x).2.1 (x).2.2.1 (x).2.2.2 H.size (xs (i + 1)) o1 o2 o3 o4) (cwV 1 hts gL_law_X5_told rfl rfl rfl (by decide +kernel) ⟨Nat.le_of_ble_eq_true rfl, Nat.le_of_ble_eq_true rfl⟩) (by decide) rfl rfl rfl rfl hl.1 rfl (Nat.le_of_ble_eq_true rfl) ⟨Nat.le_of_ble_eq_true rfl, Nat.le_of_ble_eq_true rfl⟩ dL_law_647 (fun H locs G => ?_)
  exact lv_icmp_eq hx hb dL_law_650 rfl (fun _ => kk _ H locs hv G) (fun h => absurd st h)
