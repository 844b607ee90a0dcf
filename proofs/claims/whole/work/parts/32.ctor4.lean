theorem b_blind2 {D : va_G} {ad : Nat → Nat} {cy : Nat → ClassId} {E : Nat → va_E} {As : List Value} {ks : List Nat} {sz : Nat} {o : String} {i : Nat} {y : MethodName} {h : String} : FrameBlind (va_Pc As (fun U => bPre D cy ks ad E sz U ∧ va_Nw (.methodLinkNest o i y h) U)) := fun a' U g mk q => by
  obtain ⟨q0, q1, q2⟩ := q
  exact ⟨q0, (b_blind (As := As) a' U g mk ⟨q0, q1⟩).2, va_Nw.same rfl (u := U) (U := U.calling g mk a') rfl q2⟩
def ksX4 : List Nat := [0, 1, 6, 7, 8, 9, 10, 11, 40, 41, 42, 43, 44, 45, 46, 47, 12, 2, 4, 13, 48, 49, 50, 51, 52, 53, 54, 55, 56, 57, 58, 59, 60, 61, 62, 63, 64, 65, 66, 67, 68, 14, 15, 16, 17, 18, 19, 20, 3, 21, 22, 23, 24, 69, 70, 71, 72, 73, 74, 25, 75, 76, 77, 78, 79, 80, 26, 81, 82, 83, 84, 85, 86]
set_option maxHeartbeats 8000000 in
set_option maxRecDepth 100000 in
theorem kX4_init (l : Launch) (D : va_G) (ad : Nat → Nat) (cy : Nat → ClassId) (E : Nat → va_E) (sz : Nat) (hE : E 0 = .inr (4, [.null, .null, .null])) : Met l yX4_init wsX4_init ({ frames := 3, cells := 72, slots := 513, locals := 53 }) (va_Pc [.ref (ad 0)] (fun U => bPre D cy [0] ad E sz U ∧ va_Nw (.methodLinkNest RX4 9 yX1_init "ExactSimplex") U ∧ va_Nw (.methodLinkNest RX2 11 yX0_init "ExactSimplex") U)) (va_Qv (fun u : Nat → Nat => u 0 = ad 0) (bAt D cy ksX4 (bA (ad 0) sz)) (bA (ad 0) sz)) 72 513 (bA (ad 0) sz) := by
  refine Met.ofW (cc := cX4_init) (maxL := 1) (ret := none) (by decide) rfl ?_
  intro p e s m args below meth c s₁ B hml hv
  obtain ⟨hargs, ⟨hsz, hP0, hK0, hD0, hAi, hAl⟩, hNw1, hNw2⟩ := hv
  subst hsz
  have hx := B.exec
  have hb := B.bytes
  have hr := B.returns
  have hts := atoms_spec (ws := wsX4_init) B.pre
  have hown : s.vm.findClass RX4 = some m.cls := findClass_of_methodNamed B.named
  have hlocks := B.notSynchronized
  have hin2 : meth.name = "<init>" := (name_of_methodNamed B.named B.method).1
  have hinX4 : ∀ w ∈ wsX40, w ∈ wsX4_init := by decide +kernel
  have hinX1 : ∀ w ∈ wsX10, w ∈ wsX4_init := by decide +kernel
  have hinX2 : ∀ w ∈ wsX20, w ∈ wsX4_init := by decide +kernel
  have hinX3 : ∀ w ∈ wsX30, w ∈ wsX4_init := by decide +kernel
  have hobj : Cond.code objectInit ⟨#[0xb1]⟩ 1 none ∈ wsX4_init := List.mem_cons_of_mem _ (List.mem_append_left _ (List.mem_append_left _ (List.mem_append_left _ (List.mem_append_left _ (List.mem_append_left _ (List.mem_append_left _ (List.mem_of_getElem? (i := 2) rfl)))))))
  have hl := lv_entry ([.ref (ad 0)]) (n := 1) (Nat.le_of_ble_eq_true rfl)
  have hent := lg_entry_eq m ([.ref (ad 0)]) 1
  rw [← hargs] at hent
  rw [hent]
  clear hent
  generalize (lg_sl ([.ref (ad 0)]) ++ List.replicate (1 - (lg_sl ([.ref (ad 0)])).length) Slot.unset).toArray = ls at hl ⊢
  have hl : lv_has ls 1 [(0, .ref (ad 0))] := hl
  have G : PP D [0] ad cy E (bA (ad 0) s.heap.size) s s.heap [] := ⟨hK0, hP0, ⟨hD0.1, fun k q hq => bA_in hq⟩, va_S.rf, fun q h => Or.inr h⟩
  generalize hA : bA (ad 0) s.heap.size = A at G ⊢
  generalize hH : s.heap = H at G ⊢
  refine lv_aload_n hx hb dX4_init_0 rfl (lv_at hl 0 rfl) ?_
  refine W.objInit hx hb hown (hts (.methodLink RX4 1 objectInit) (by decide +kernel)) (hts (.instanceMethod objectInit) (by decide +kernel)) (hts _ hobj) rfl (by rw [hml]; exact hl.1) rfl dX4_init_1 (Nat.le_of_ble_eq_true rfl) (Nat.le_of_ble_eq_true rfl) ?_
  refine W.eq (g2 := F0 m 4 ls []) rfl ?_
  refine lv_aload_n hx hb dX4_init_4 rfl (lv_at hl 0 rfl) ?_
  refine cx_new (ci := 1) (fs := [.null, .null, .null, .null, .null, .null, .null, .int 0, .int 0]) hx hb hts hinX1 tyX1 tyX1_ok hown (hts (.classLink RX4 7 RX1) (by decide +kernel)) (hts (.instantiable RX1 9) (by decide +kernel)) (hts (.initialized RX1) (by decide +kernel)) G 1 (by decide) rfl (fun j hj => by rcases (show j = 0 ∨ j = 1 ∨ j = 2 ∨ j = 3 ∨ j = 4 ∨ j = 5 ∨ j = 6 ∨ j = 7 ∨ j = 8 by omega) with rfl | rfl | rfl | rfl | rfl | rfl | rfl | rfl | rfl <;> rfl) (Nat.le_of_ble_eq_true rfl) (Nat.le_of_ble_eq_true rfl) dX4_init_5 (fun q1 H G => ?_)
  refine lv_dup hx hb dX4_init_8 rfl ?_
  refine cx_callI (kR := [0]) (k := 1) (kC := ksX1) G (va_runIN (As := []) (rest := [.ref q1, .ref (ad 0)]) ⟨hx, hb, hml, hown, hts⟩ (kX1_init l D (va_up (ad) 1 q1) cy (va_up (E) 1 (.inr (1, [.null, .null, .null, .null, .null, .null, .null, .int 0, .int 0]))) H.size rfl) ⟨va_cnB 0 hts gX4_init_X1_init_n9 rfl rfl rfl hNw1 (hts (.initialized RX1) (by decide +kernel)) (by decide +kernel) ⟨Nat.le_of_ble_eq_true rfl, Nat.le_of_ble_eq_true rfl⟩, rfl, hts (.instanceMethod yX1_init) (by decide +kernel)⟩ ⟨b_blind, b_pre (kR := [0]) G hAi hAl⟩ rfl rfl hl.1 rfl (lv_room (Nat.le_of_ble_eq_true rfl)) dX4_init_9 ⟨Nat.le_of_ble_eq_true rfl, Nat.le_of_ble_eq_true rfl⟩) (by decide) (by decide) (fun u1 H locs hp1 G => ?_)
  rw [show q1 = u1 1 from hp1.symm]
  refine cx_putF (fs := [.null, .null, .null]) hx hb hts hinX4 tyX4 tyX4_ok nmX4 hown hin2 G 0 0 rfl (by decide) (by first | rfl | exact hE) rfl 0 (by decide) (hts (.fieldLink RX4 10 "ExactSimplex" "problem" "LExactSimplex$Problem;") (by decide +kernel)) rfl rfl rfl (v := .ref (u1 1)) rfl rfl (Nat.le_of_ble_eq_true rfl) dX4_init_12 (fun H locs G => ?_)
  have G : PP D (([0]) ++ ksX1) (mxA ksX1 u1 (va_up (ad) 1 q1)) cy (va_up (mxE ksX1 u1 cy (va_up (E) 1 (.inr (1, [.null, .null, .null, .null, .null, .null, .null, .int 0, .int 0])))) 0 (.inr (4, [.ref (u1 1), .null, .null]))) A s H _ := G
  refine lv_aload_n hx hb dX4_init_15 rfl (lv_at hl 0 rfl) ?_
  refine cx_new (ci := 2) (fs := [.null, .null, .null, .null, .long 0, .int 0, .int 0, .int 0, .int 0, .int 0]) hx hb hts hinX2 tyX2 tyX2_ok hown (hts (.classLink RX4 16 RX2) (by decide +kernel)) (hts (.instantiable RX2 10) (by decide +kernel)) (hts (.initialized RX2) (by decide +kernel)) G 2 (by decide) rfl (fun j hj => by rcases (show j = 0 ∨ j = 1 ∨ j = 2 ∨ j = 3 ∨ j = 4 ∨ j = 5 ∨ j = 6 ∨ j = 7 ∨ j = 8 ∨ j = 9 by omega) with rfl | rfl | rfl | rfl | rfl | rfl | rfl | rfl | rfl | rfl <;> rfl) (Nat.le_of_ble_eq_true rfl) (Nat.le_of_ble_eq_true rfl) dX4_init_16 (fun q2 H G => ?_)
  refine lv_dup hx hb dX4_init_19 rfl ?_
  refine lv_aload_n hx hb dX4_init_20 rfl (lv_at hl 0 rfl) ?_
  refine cx_get (fs := [.ref (u1 1), .null, .null]) hx hb hts hinX4 hown G 0 0 rfl rfl rfl 0 (by decide) (hts (.fieldLink RX4 10 "ExactSimplex" "problem" "LExactSimplex$Problem;") (by decide +kernel)) rfl (v := .ref (u1 1)) rfl dX4_init_21 ?_
  refine cx_callI (kR := ([0]) ++ ksX1) (k := 2) (kC := ksX2) G (va_runI (As := [.ref (u1 1)]) (rest := [.ref q2, .ref (ad 0)]) ⟨hx, hb, hml, hown, hts⟩ (kX2_init l D (va_up (mxA ksX1 u1 (va_up (ad) 1 q1)) 2 q2) cy (va_up (va_up (mxE ksX1 u1 cy (va_up (E) 1 (.inr (1, [.null, .null, .null, .null, .null, .null, .null, .int 0, .int 0])))) 0 (.inr (4, [.ref (u1 1), .null, .null]))) 2 (.inr (2, [.null, .null, .null, .null, .long 0, .int 0, .int 0, .int 0, .int 0, .int 0]))) H.size rfl) (cwI 1 hts gX4_init_X2_init rfl rfl rfl (hts (.initialized RX2) (by decide +kernel)) (hts (.methodLink RX4 18 yX2_init) (by decide +kernel)) (hts (.instanceMethod yX2_init) (by decide +kernel)) rfl (by decide +kernel) ⟨Nat.le_of_ble_eq_true rfl, Nat.le_of_ble_eq_true rfl⟩) ⟨b_blind2, fun U hU hW => ⟨rfl, (b_pre (kR := ([0]) ++ ksX1) (As := []) G hAi hAl U hU hW).2, va_Nw.warmM hW hNw2⟩⟩ rfl rfl hl.1 rfl (lv_room (Nat.le_of_ble_eq_true rfl)) dX4_init_24 ⟨Nat.le_of_ble_eq_true rfl, Nat.le_of_ble_eq_true rfl⟩) (by decide) (by decide) (fun u2 H locs hp2 G => ?_)
  rw [show q2 = u2 2 from hp2.1.symm]
  refine cx_putF (fs := [.ref (u1 1), .null, .null]) hx hb hts hinX4 tyX4 tyX4_ok nmX4 hown hin2 G 0 0 rfl (by decide) (by first | rfl | exact hE) rfl 1 (by decide) (hts (.fieldLink RX4 21 "ExactSimplex" "solver" "LExactSimplex$Solver;") (by decide +kernel)) rfl rfl rfl (v := .ref (u2 2)) rfl rfl (Nat.le_of_ble_eq_true rfl) dX4_init_27 (fun H locs G => ?_)
  have G : PP D ((([0]) ++ ksX1) ++ ksX2) (mxA ksX2 u2 (va_up (mxA ksX1 u1 (va_up (ad) 1 q1)) 2 q2)) cy (va_up (mxE ksX2 u2 cy (va_up (va_up (mxE ksX1 u1 cy (va_up (E) 1 (.inr (1, [.null, .null, .null, .null, .null, .null, .null, .int 0, .int 0])))) 0 (.inr (4, [.ref (u1 1), .null, .null]))) 2 (.inr (2, [.null, .null, .null, .null, .long 0, .int 0, .int 0, .int 0, .int 0, .int 0])))) 0 (.inr (4, [.ref (u1 1), .ref (u2 2), .null]))) A s H _ := G
  refine lv_aload_n hx hb dX4_init_30 rfl (lv_at hl 0 rfl) ?_
  refine cx_new (ci := 3) (fs := [.null, .null, .null, .null, .null, .null, .null, .int 0, .int 0, .int 0]) hx hb hts hinX3 tyX3 tyX3_ok hown (hts (.classLink RX4 25 RX3) (by decide +kernel)) (hts (.instantiable RX3 10) (by decide +kernel)) (hts (.initialized RX3) (by decide +kernel)) G 3 (by decide) rfl (fun j hj => by rcases (show j = 0 ∨ j = 1 ∨ j = 2 ∨ j = 3 ∨ j = 4 ∨ j = 5 ∨ j = 6 ∨ j = 7 ∨ j = 8 ∨ j = 9 by omega) with rfl | rfl | rfl | rfl | rfl | rfl | rfl | rfl | rfl | rfl <;> rfl) (Nat.le_of_ble_eq_true rfl) (Nat.le_of_ble_eq_true rfl) dX4_init_31 (fun q3 H G => ?_)
  refine lv_dup hx hb dX4_init_34 rfl ?_
  refine lv_aload_n hx hb dX4_init_35 rfl (lv_at hl 0 rfl) ?_
  refine cx_get (fs := [.ref (u1 1), .ref (u2 2), .null]) hx hb hts hinX4 hown G 0 0 rfl rfl rfl 0 (by decide) (hts (.fieldLink RX4 10 "ExactSimplex" "problem" "LExactSimplex$Problem;") (by decide +kernel)) rfl (v := .ref (u1 1)) rfl dX4_init_36 ?_
  refine cx_callI (kR := (([0]) ++ ksX1) ++ ksX2) (k := 3) (kC := ksX3) G (va_runI (As := [.ref (u1 1)]) (rest := [.ref q3, .ref (ad 0)]) ⟨hx, hb, hml, hown, hts⟩ (kX3_init l D (va_up (mxA ksX2 u2 (va_up (mxA ksX1 u1 (va_up (ad) 1 q1)) 2 q2)) 3 q3) cy (va_up (va_up (mxE ksX2 u2 cy (va_up (va_up (mxE ksX1 u1 cy (va_up (E) 1 (.inr (1, [.null, .null, .null, .null, .null, .null, .null, .int 0, .int 0])))) 0 (.inr (4, [.ref (u1 1), .null, .null]))) 2 (.inr (2, [.null, .null, .null, .null, .long 0, .int 0, .int 0, .int 0, .int 0, .int 0])))) 0 (.inr (4, [.ref (u1 1), .ref (u2 2), .null]))) 3 (.inr (3, [.null, .null, .null, .null, .null, .null, .null, .int 0, .int 0, .int 0]))) H.size rfl) (cwI 1 hts gX4_init_X3_init rfl rfl rfl (hts (.initialized RX3) (by decide +kernel)) (hts (.methodLink RX4 27 yX3_init) (by decide +kernel)) (hts (.instanceMethod yX3_init) (by decide +kernel)) rfl (by decide +kernel) ⟨Nat.le_of_ble_eq_true rfl, Nat.le_of_ble_eq_true rfl⟩) ⟨b_blind, b_pre (kR := (([0]) ++ ksX1) ++ ksX2) G hAi hAl⟩ rfl rfl hl.1 rfl (lv_room (Nat.le_of_ble_eq_true rfl)) dX4_init_39 ⟨Nat.le_of_ble_eq_true rfl, Nat.le_of_ble_eq_true rfl⟩) (by decide) (by decide) (fun u3 H locs hp3 G => ?_)
  rw [show q3 = u3 3 from hp3.1.symm]
  refine cx_putF (fs := [.ref (u1 1), .ref (u2 2), .null]) hx hb hts hinX4 tyX4 tyX4_ok nmX4 hown hin2 G 0 0 rfl (by decide) (by first | rfl | exact hE) rfl 2 (by decide) (hts (.fieldLink RX4 28 "ExactSimplex" "search" "LExactSimplex$WholeSearch;") (by decide +kernel)) rfl rfl rfl (v := .ref (u3 3)) rfl rfl (Nat.le_of_ble_eq_true rfl) dX4_init_42 (fun H locs G => ?_)
  have G : PP D (((([0]) ++ ksX1) ++ ksX2) ++ ksX3) (mxA ksX3 u3 (va_up (mxA ksX2 u2 (va_up (mxA ksX1 u1 (va_up (ad) 1 q1)) 2 q2)) 3 q3)) cy (va_up (mxE ksX3 u3 cy (va_up (va_up (mxE ksX2 u2 cy (va_up (va_up (mxE ksX1 u1 cy (va_up (E) 1 (.inr (1, [.null, .null, .null, .null, .null, .null, .null, .int 0, .int 0])))) 0 (.inr (4, [.ref (u1 1), .null, .null]))) 2 (.inr (2, [.null, .null, .null, .null, .long 0, .int 0, .int 0, .int 0, .int 0, .int 0])))) 0 (.inr (4, [.ref (u1 1), .ref (u2 2), .null]))) 3 (.inr (3, [.null, .null, .null, .null, .null, .null, .null, .int 0, .int 0, .int 0])))) 0 (.inr (4, [.ref (u1 1), .ref (u2 2), .ref (u3 3)]))) A s H _ := G
  refine W.widen (k := 72) (n := 513) (Nat.le_of_ble_eq_true rfl) (Nat.le_of_ble_eq_true rfl) ?_
  obtain ⟨u, eu⟩ : ∃ z, z = mxA ksX3 u3 (va_up (mxA ksX2 u2 (va_up (mxA ksX1 u1 (va_up (ad) 1 q1)) 2 q2)) 3 q3) := ⟨_, rfl⟩
  have hW1 : PW [0, 1, 6, 7, 8, 9, 10, 11, 40, 41, 42, 43, 44, 45, 46, 47, 12, 2, 4, 13, 48, 49, 50, 51, 52, 53, 54, 55, 56, 57, 58, 59, 60, 61, 62, 63, 64, 65, 66, 67, 68, 14, 15, 16, 17, 18, 19, 20, 3, 21, 22, 23, 24, 69, 70, 71, 72, 73, 74, 25, 75, 76, 77, 78, 79, 80, 26, 81, 82, 83, 84, 85, 86] (mxA ksX3 u3 (va_up (mxA ksX2 u2 (va_up (mxA ksX1 u1 (va_up (ad) 1 q1)) 2 q2)) 3 q3)) (va_up (mxE ksX3 u3 cy (va_up (va_up (mxE ksX2 u2 cy (va_up (va_up (mxE ksX1 u1 cy (va_up (E) 1 (.inr (1, [.null, .null, .null, .null, .null, .null, .null, .int 0, .int 0])))) 0 (.inr (4, [.ref (u1 1), .null, .null]))) 2 (.inr (2, [.null, .null, .null, .null, .long 0, .int 0, .int 0, .int 0, .int 0, .int 0])))) 0 (.inr (4, [.ref (u1 1), .ref (u2 2), .null]))) 3 (.inr (3, [.null, .null, .null, .null, .null, .null, .null, .int 0, .int 0, .int 0])))) 0 (.inr (4, [.ref (u1 1), .ref (u2 2), .ref (u3 3)]))) = PW ksX4 u (gE u cy zI zJ zI zL) := by
    rw [eu]
    refine PW_congr (ks := [0, 1, 6, 7, 8, 9, 10, 11, 40, 41, 42, 43, 44, 45, 46, 47, 12, 2, 4, 13, 48, 49, 50, 51, 52, 53, 54, 55, 56, 57, 58, 59, 60, 61, 62, 63, 64, 65, 66, 67, 68, 14, 15, 16, 17, 18, 19, 20, 3, 21, 22, 23, 24, 69, 70, 71, 72, 73, 74, 25, 75, 76, 77, 78, 79, 80, 26, 81, 82, 83, 84, 85, 86]) (fun _ _ => rfl) (fun k hk => ?_)
    simp only [List.mem_cons, List.not_mem_nil, or_false] at hk
    rcases hk with rfl | rfl | rfl | rfl | rfl | rfl | rfl | rfl | rfl | rfl | rfl | rfl | rfl | rfl | rfl | rfl | rfl | rfl | rfl | rfl | rfl | rfl | rfl | rfl | rfl | rfl | rfl | rfl | rfl | rfl | rfl | rfl | rfl | rfl | rfl | rfl | rfl | rfl | rfl | rfl | rfl | rfl | rfl | rfl | rfl | rfl | rfl | rfl | rfl | rfl | rfl | rfl | rfl | rfl | rfl | rfl | rfl | rfl | rfl | rfl | rfl | rfl | rfl | rfl | rfl | rfl | rfl | rfl | rfl | rfl | rfl | rfl | rfl
    · rfl
    · rfl
    · rfl
    · rfl
    · rfl
    · rfl
    · rfl
    · exact (gE_outer (u := u1) (I := zI) (J := zJ) (a := zI) (b := zL) (k := 11) (co := 3) (n := 8) (ba := 40) (r := fun i => u1 (40 + i)) rfl (by decide) (fun _ _ => rfl)).trans (gE_outer (u := mxA ksX3 u3 (va_up (mxA ksX2 u2 (va_up (mxA ksX1 u1 (va_up (ad) 1 q1)) 2 q2)) 3 q3)) (k := 11) (co := 3) (n := 8) (ba := 40) (r := fun i => u1 (40 + i)) rfl (by decide) (fun i hi => match i, hi with | 0, _ => rfl | 1, _ => rfl | 2, _ => rfl | 3, _ => rfl | 4, _ => rfl | 5, _ => rfl | 6, _ => rfl | 7, _ => rfl | n9 + 8, h => absurd h (by omega))).symm
    · rfl
    · rfl
    · rfl
    · rfl
    · rfl
    · rfl
    · rfl
    · rfl
    · rfl
    · exact congrArg (fun z => (Sum.inr (2, [Value.ref z, .ref (u2 4), .ref (u2 19), .ref (u2 20), .long 1, .int 0, .int 0, .int 0, .int 0, .int 0]) : va_E)) hp2.2
    · rfl
    · exact (gE_outer (u := u2) (I := zI) (J := zJ) (a := zI) (b := zL) (k := 13) (co := 4) (n := 21) (ba := 48) (r := fun i => u2 (48 + i)) rfl (by decide) (fun _ _ => rfl)).trans (gE_outer (u := mxA ksX3 u3 (va_up (mxA ksX2 u2 (va_up (mxA ksX1 u1 (va_up (ad) 1 q1)) 2 q2)) 3 q3)) (k := 13) (co := 4) (n := 21) (ba := 48) (r := fun i => u2 (48 + i)) rfl (by decide) (fun i hi => match i, hi with | 0, _ => rfl | 1, _ => rfl | 2, _ => rfl | 3, _ => rfl | 4, _ => rfl | 5, _ => rfl | 6, _ => rfl | 7, _ => rfl | 8, _ => rfl | 9, _ => rfl | 10, _ => rfl | 11, _ => rfl | 12, _ => rfl | 13, _ => rfl | 14, _ => rfl | 15, _ => rfl | 16, _ => rfl | 17, _ => rfl | 18, _ => rfl | 19, _ => rfl | 20, _ => rfl | n9 + 21, h => absurd h (by omega))).symm
    · rfl
    · rfl
    · rfl
    · rfl
    · rfl
    · rfl
    · rfl
    · rfl
    · rfl
    · rfl
    · rfl
    · rfl
    · rfl
    · rfl
    · rfl
    · rfl
    · rfl
    · rfl
    · rfl
    · rfl
    · rfl
    · rfl
    · rfl
    · rfl
    · rfl
    · rfl
    · rfl
    · rfl
    · exact congrArg (fun z => (Sum.inr (3, [Value.ref z, .ref (u3 21), .ref (u3 22), .ref (u3 23), .ref (u3 24), .ref (u3 25), .ref (u3 26), .int 0, .int 0, .int 0]) : va_E)) hp3.2
    · rfl
    · rfl
    · rfl
    · exact (gE_outer (u := u3) (I := zI) (J := zJ) (a := zI) (b := zL) (k := 24) (co := 3) (n := 6) (ba := 69) (r := fun i => u3 (69 + i)) rfl (by decide) (fun _ _ => rfl)).trans (gE_outer (u := mxA ksX3 u3 (va_up (mxA ksX2 u2 (va_up (mxA ksX1 u1 (va_up (ad) 1 q1)) 2 q2)) 3 q3)) (k := 24) (co := 3) (n := 6) (ba := 69) (r := fun i => u3 (69 + i)) rfl (by decide) (fun i hi => match i, hi with | 0, _ => rfl | 1, _ => rfl | 2, _ => rfl | 3, _ => rfl | 4, _ => rfl | 5, _ => rfl | n9 + 6, h => absurd h (by omega))).symm
    · rfl
    · rfl
    · rfl
    · rfl
    · rfl
    · rfl
    · exact (gE_outer (u := u3) (I := zI) (J := zJ) (a := zI) (b := zL) (k := 25) (co := 3) (n := 6) (ba := 75) (r := fun i => u3 (75 + i)) rfl (by decide) (fun _ _ => rfl)).trans (gE_outer (u := mxA ksX3 u3 (va_up (mxA ksX2 u2 (va_up (mxA ksX1 u1 (va_up (ad) 1 q1)) 2 q2)) 3 q3)) (k := 25) (co := 3) (n := 6) (ba := 75) (r := fun i => u3 (75 + i)) rfl (by decide) (fun i hi => match i, hi with | 0, _ => rfl | 1, _ => rfl | 2, _ => rfl | 3, _ => rfl | 4, _ => rfl | 5, _ => rfl | n9 + 6, h => absurd h (by omega))).symm
    · rfl
    · rfl
    · rfl
    · rfl
    · rfl
    · rfl
    · exact (gE_outer (u := u3) (I := zI) (J := zJ) (a := zI) (b := zL) (k := 26) (co := 3) (n := 6) (ba := 81) (r := fun i => u3 (81 + i)) rfl (by decide) (fun _ _ => rfl)).trans (gE_outer (u := mxA ksX3 u3 (va_up (mxA ksX2 u2 (va_up (mxA ksX1 u1 (va_up (ad) 1 q1)) 2 q2)) 3 q3)) (k := 26) (co := 3) (n := 6) (ba := 81) (r := fun i => u3 (81 + i)) rfl (by decide) (fun i hi => match i, hi with | 0, _ => rfl | 1, _ => rfl | 2, _ => rfl | 3, _ => rfl | 4, _ => rfl | 5, _ => rfl | n9 + 6, h => absurd h (by omega))).symm
    · rfl
    · rfl
    · rfl
    · rfl
    · rfl
    · rfl
  have hP : va_P D vwCl (PW [0, 1, 6, 7, 8, 9, 10, 11, 40, 41, 42, 43, 44, 45, 46, 47, 12, 2, 4, 13, 48, 49, 50, 51, 52, 53, 54, 55, 56, 57, 58, 59, 60, 61, 62, 63, 64, 65, 66, 67, 68, 14, 15, 16, 17, 18, 19, 20, 3, 21, 22, 23, 24, 69, 70, 71, 72, 73, 74, 25, 75, 76, 77, 78, 79, 80, 26, 81, 82, 83, 84, 85, 86] (mxA ksX3 u3 (va_up (mxA ksX2 u2 (va_up (mxA ksX1 u1 (va_up (ad) 1 q1)) 2 q2)) 3 q3)) (va_up (mxE ksX3 u3 cy (va_up (va_up (mxE ksX2 u2 cy (va_up (va_up (mxE ksX1 u1 cy (va_up (E) 1 (.inr (1, [.null, .null, .null, .null, .null, .null, .null, .int 0, .int 0])))) 0 (.inr (4, [.ref (u1 1), .null, .null]))) 2 (.inr (2, [.null, .null, .null, .null, .long 0, .int 0, .int 0, .int 0, .int 0, .int 0])))) 0 (.inr (4, [.ref (u1 1), .ref (u2 2), .null]))) 3 (.inr (3, [.null, .null, .null, .null, .null, .null, .null, .int 0, .int 0, .int 0])))) 0 (.inr (4, [.ref (u1 1), .ref (u2 2), .ref (u3 3)])))) H := G.2.1
  have hD : va_D A (PW [0, 1, 6, 7, 8, 9, 10, 11, 40, 41, 42, 43, 44, 45, 46, 47, 12, 2, 4, 13, 48, 49, 50, 51, 52, 53, 54, 55, 56, 57, 58, 59, 60, 61, 62, 63, 64, 65, 66, 67, 68, 14, 15, 16, 17, 18, 19, 20, 3, 21, 22, 23, 24, 69, 70, 71, 72, 73, 74, 25, 75, 76, 77, 78, 79, 80, 26, 81, 82, 83, 84, 85, 86] (mxA ksX3 u3 (va_up (mxA ksX2 u2 (va_up (mxA ksX1 u1 (va_up (ad) 1 q1)) 2 q2)) 3 q3)) (va_up (mxE ksX3 u3 cy (va_up (va_up (mxE ksX2 u2 cy (va_up (va_up (mxE ksX1 u1 cy (va_up (E) 1 (.inr (1, [.null, .null, .null, .null, .null, .null, .null, .int 0, .int 0])))) 0 (.inr (4, [.ref (u1 1), .null, .null]))) 2 (.inr (2, [.null, .null, .null, .null, .long 0, .int 0, .int 0, .int 0, .int 0, .int 0])))) 0 (.inr (4, [.ref (u1 1), .ref (u2 2), .null]))) 3 (.inr (3, [.null, .null, .null, .null, .null, .null, .null, .int 0, .int 0, .int 0])))) 0 (.inr (4, [.ref (u1 1), .ref (u2 2), .ref (u3 3)])))) := G.2.2.1
  rw [hW1] at hP hD
  exact W.vret hx hb hr (fun t ht hW => ⟨⟨u, rfl, by rw [eu]; rfl, by rw [ht]; exact hP, va_K.moved hW.alike G.1, hD⟩, G.2.2.2.1.F ht⟩) G.2.2.2.1.2.2 dX4_init_45
