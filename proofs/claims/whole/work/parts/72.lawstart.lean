set_option maxHeartbeats 8000000 in
set_option maxRecDepth 100000 in
/-- from the entry, for every script of at most 2048 ints, the law comes to its end with true -/
theorem whole_start {p : Program} {e : Env} {s : State} {m : MethodId} {below : List Frame} {meth : Method} {c : Code} (l : Launch) {b L : Nat} {xs : Nat → Int32} (hL : L ≤ 2048) (C0 : lw_At p s m meth c b L xs) : W p l e room_1 s m #[Value.ref b] below meth c s.heap [] 0 0 (lw_Z below #[Value.ref b] s) (entryFrame m ([Value.ref b] : List Value).toArray 4) := by
  obtain ⟨hx, hb, hret, hml, hown, hts, hX, hbl, hlocks, -⟩ := C0
  obtain ⟨D, cy, hK⟩ := lw_K hts
  have hb : c.code = cL_law := hb
  have hown : s.vm.findClass RL = some m.cls := hown
  have hts2 : ∀ w ∈ wsL_law, w.before #[Value.ref b] s = true := fun w h => hts w (wsL_law_in w h)
  have hAi : va_AOA .int s := va_AOA.of (hts (.arrayOver (.array .int)) (List.mem_of_getElem? (i := 69) rfl))
  have hAl : va_AOA .long s := va_AOA.of (hts (.arrayOver (.array .long)) (List.mem_of_getElem? (i := 136) rfl))
  have hN1 : va_Nw (.methodLinkNest RX4 9 yX1_init "ExactSimplex") s := va_Nw.of rfl (hts _ (List.mem_of_getElem? (i := 64) rfl))
  have hN2 : va_Nw (.methodLinkNest RX2 11 yX0_init "ExactSimplex") s := va_Nw.of rfl (hts _ (List.mem_of_getElem? (i := 131) rfl))
  have S : lwS p s m c b L xs := ⟨hx, hb, hml, hown, hts2, hX, hbl, hL⟩
  have hl := lv_entry ([.ref b]) (n := 4) (Nat.le_of_ble_eq_true rfl)
  rw [lg_entry_eq]
  generalize (lg_sl ([.ref b]) ++ List.replicate (4 - (lg_sl ([.ref b])).length) Slot.unset).toArray = ls at hl ⊢
  have hl : lv_has ls 4 [(0, .ref b)] := hl
  have G : PP D [] (fun _ => 0) cy (fun _ => .inr (0, [])) (fun q => s.heap.size ≤ q) s s.heap [] := ⟨hK, fun k q hq => (by simp [PW] at hq), ⟨fun i j q r hq => (by simp [PW] at hq), fun k q hq => (by simp [PW] at hq)⟩, va_S.rf, fun q h => h⟩
  generalize hA : (fun q => s.heap.size ≤ q) = A at G
  generalize hH : s.heap = H at G ⊢
  refine cx_new (ci := 4) (fs := [.null, .null, .null]) hx hb hts inX4 tyX4 tyX4_ok hown (hts (.classLink RL 7 RX4) (List.mem_of_getElem? (i := 54) rfl)) (hts (.instantiable RX4 3) (List.mem_of_getElem? (i := 55) rfl)) (hts (.initialized RX4) (List.mem_of_getElem? (i := 47) rfl)) G 0 rfl rfl (fun j hj => by rcases (show j = 0 ∨ j = 1 ∨ j = 2 by omega) with rfl | rfl | rfl <;> rfl) (Nat.le_of_ble_eq_true rfl) (Nat.le_of_ble_eq_true rfl) dL_law_0 (fun q0 H G => ?_)
  refine lv_dup hx hb dL_law_3 rfl ?_
  refine cx_callI (kR := []) (k := 0) (kC := ksX4) G (va_runI (As := []) (rest := [.ref q0]) ⟨hx, hb, hml, hown, hts2⟩ (kX4_init l D (va_up (fun _ => 0) 0 q0) cy (va_up (fun _ => .inr (0, [])) 0 (.inr (4, [.null, .null, .null]))) H.size rfl) (cwI 0 hts2 gL_law_X4_init rfl rfl rfl (hts (.initialized RX4) (List.mem_of_getElem? (i := 47) rfl)) (hts (.methodLink RL 9 yX4_init) (List.mem_of_getElem? (i := 56) rfl)) (hts (.instanceMethod yX4_init) (List.mem_of_getElem? (i := 57) rfl)) rfl (by decide +kernel) ⟨Nat.le_of_ble_eq_true rfl, Nat.le_of_ble_eq_true rfl⟩) ⟨b_blind3, fun U hU hW => ⟨rfl, (b_pre (kR := []) (As := []) G hAi hAl U hU hW).2, va_Nw.warmM hW hN1, va_Nw.warmM hW hN2⟩⟩ rfl rfl hl.1 rfl (lv_room (Nat.le_of_ble_eq_true rfl)) dL_law_4 ⟨Nat.le_of_ble_eq_true rfl, Nat.le_of_ble_eq_true rfl⟩) (by decide) (by decide) (fun u0 H locs hp0 G => ?_)
  rw [show q0 = u0 0 from hp0.symm]
  refine lv_astore_n (lv' := [(1, .ref (u0 0)), (0, .ref b)]) hx hb dL_law_7 rfl hl (by decide) rfl (fun ls hl => ?_)
  refine cx_new (ci := 5) (fs := [.int 0, .int 0, .null, .null, .null, .null, .null, .null, .null, .int 0, .int 0, .long 0, .long 0, .null, .long 0, .null, .null, .null, .null, .null, .null, .null, .null, .long 0, .int 0, .null, .null, .int 0]) hx hb hts inX5 tyX5 tyX5_ok hown (hts (.classLink RL 10 RX5) (List.mem_of_getElem? (i := 596) rfl)) (hts (.instantiable RX5 28) (List.mem_of_getElem? (i := 597) rfl)) (hts (.initialized RX5) (List.mem_of_getElem? (i := 52) rfl)) G 5 (by decide) rfl (fun j hj => by rcases (show j = 0 ∨ j = 1 ∨ j = 2 ∨ j = 3 ∨ j = 4 ∨ j = 5 ∨ j = 6 ∨ j = 7 ∨ j = 8 ∨ j = 9 ∨ j = 10 ∨ j = 11 ∨ j = 12 ∨ j = 13 ∨ j = 14 ∨ j = 15 ∨ j = 16 ∨ j = 17 ∨ j = 18 ∨ j = 19 ∨ j = 20 ∨ j = 21 ∨ j = 22 ∨ j = 23 ∨ j = 24 ∨ j = 25 ∨ j = 26 ∨ j = 27 by omega) with rfl | rfl | rfl | rfl | rfl | rfl | rfl | rfl | rfl | rfl | rfl | rfl | rfl | rfl | rfl | rfl | rfl | rfl | rfl | rfl | rfl | rfl | rfl | rfl | rfl | rfl | rfl | rfl <;> rfl) (Nat.le_of_ble_eq_true rfl) (Nat.le_of_ble_eq_true rfl) dL_law_8 (fun q5 H G => ?_)
  refine lv_dup hx hb dL_law_11 rfl ?_
  refine cx_callI (kR := [] ++ ksX4) (k := 5) (kC := ksX5) G (va_runI (As := []) (rest := [.ref q5]) ⟨hx, hb, hml, hown, hts2⟩ (kX5_init l D (va_up (mxA ksX4 u0 (va_up (fun _ => 0) 0 q0)) 5 q5) cy (va_up (mxE ksX4 u0 cy (va_up (fun _ => .inr (0, [])) 0 (.inr (4, [.null, .null, .null])))) 5 (.inr (5, [.int 0, .int 0, .null, .null, .null, .null, .null, .null, .null, .int 0, .int 0, .long 0, .long 0, .null, .long 0, .null, .null, .null, .null, .null, .null, .null, .null, .long 0, .int 0, .null, .null, .int 0]))) H.size rfl) (cwI 0 hts2 gL_law_X5_init rfl rfl rfl (hts (.initialized RX5) (List.mem_of_getElem? (i := 52) rfl)) (hts (.methodLink RL 12 yX5_init) (List.mem_of_getElem? (i := 598) rfl)) (hts (.instanceMethod yX5_init) (List.mem_of_getElem? (i := 599) rfl)) rfl (by decide +kernel) ⟨Nat.le_of_ble_eq_true rfl, Nat.le_of_ble_eq_true rfl⟩) ⟨b_blind, b_pre (kR := [] ++ ksX4) G hAi hAl⟩ rfl rfl hl.1 rfl (lv_room (Nat.le_of_ble_eq_true rfl)) dL_law_12 ⟨Nat.le_of_ble_eq_true rfl, Nat.le_of_ble_eq_true rfl⟩) (by decide) (by decide) (fun u5 H locs hp5 G => ?_)
  have G2 := PW_GG ks_all lw_world G
  rw [show q5 = u5 5 from hp5.symm]
  refine lv_astore_n (lv' := [(2, .ref (u5 5)), (1, .ref (u0 0)), (0, .ref b)]) hx hb dL_law_15 rfl hl (by decide) rfl (fun ls hl => ?_)
  refine lv_iconst (v := 0) hx hb dL_law_16 (by decide) ?_
  refine lv_istore_n (lv' := [(3, .int 0), (2, .ref (u5 5)), (1, .ref (u0 0)), (0, .ref b)]) hx hb dL_law_17 rfl hl (by decide) rfl (fun ls hl => ?_)
  obtain ⟨u, eu⟩ : ∃ z, z = mxA ksX5 u5 (va_up (mxA ksX4 u0 (va_up (fun _ => 0) 0 q0)) 5 q5) := ⟨_, rfl⟩
  rw [← eu] at G2
  have e0 : u0 0 = u 0 := by rw [eu]; rfl
  have e5 : u5 5 = u 5 := by rw [eu]; rfl
  have hl : lv_has ls 4 [(3, .int (nI 0)), (2, .ref (u 5)), (1, .ref (u 0)), (0, .ref b)] := by rw [← e0, ← e5]; exact hl
  subst hA
  exact lw_loop S hret hlocks (L + 1) 0 (zI, zJ, zI, zL) ls H locs (by omega) (Nat.zero_le _) hl ma_start0 G2
