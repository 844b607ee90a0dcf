def ksX2 : List Nat := [2, 4, 13, 48, 49, 50, 51, 52, 53, 54, 55, 56, 57, 58, 59, 60, 61, 62, 63, 64, 65, 66, 67, 68, 14, 15, 16, 17, 18, 19, 20]
set_option maxHeartbeats 4000000 in
set_option maxRecDepth 100000 in
theorem kX2_init (l : Launch) (D : va_G) (ad : Nat → Nat) (cy : Nat → ClassId) (E : Nat → va_E) (sz : Nat) (hE : E 2 = .inr (2, [.null, .null, .null, .null, .long 0, .int 0, .int 0, .int 0, .int 0, .int 0])) : Met l yX2_init wsX2_init ({ frames := 2, cells := 30, slots := 202, locals := 32 }) (va_Pc [.ref (ad 2), .ref (ad 1)] (fun U => bPre D cy [2] ad E sz U ∧ va_Nw (.methodLinkNest RX2 11 yX0_init "ExactSimplex") U)) (va_Qv (fun u : Nat → Nat => u 2 = ad 2 ∧ u 1 = ad 1) (bAt D cy ksX2 (bA (ad 2) sz)) (bA (ad 2) sz)) 30 202 (bA (ad 2) sz) := by
  refine Met.ofW (cc := cX2_init) (maxL := 2) (ret := none) (by decide) rfl ?_
  intro p e s m args below meth c s₁ B hml hv
  obtain ⟨hargs, ⟨hsz, hP0, hK0, hD0, hAi, hAl⟩, hNw⟩ := hv
  subst hsz
  have hx := B.exec
  have hb := B.bytes
  have hr := B.returns
  have hts := atoms_spec (ws := wsX2_init) B.pre
  have hown : s.vm.findClass RX2 = some m.cls := findClass_of_methodNamed B.named
  have hlocks := B.notSynchronized
  have hin2 : meth.name = "<init>" := (name_of_methodNamed B.named B.method).1
  have hin : ∀ w ∈ wsX20, w ∈ wsX2_init := by decide +kernel
  have hin0 : ∀ w ∈ wsX00, w ∈ wsX2_init := by decide +kernel
  have hl := lv_entry ([.ref (ad 2), .ref (ad 1)]) (n := 2) (Nat.le_of_ble_eq_true rfl)
  have hent := lg_entry_eq m ([.ref (ad 2), .ref (ad 1)]) 2
  rw [← hargs] at hent
  rw [hent]
  clear hent
  generalize (lg_sl ([.ref (ad 2), .ref (ad 1)]) ++ List.replicate (2 - (lg_sl ([.ref (ad 2), .ref (ad 1)])).length) Slot.unset).toArray = ls at hl ⊢
  have hl : lv_has ls 2 [(0, .ref (ad 2)), (1, .ref (ad 1))] := hl
  have G : PP D [2] ad cy E (bA (ad 2) s.heap.size) s s.heap [] := ⟨hK0, hP0, ⟨hD0.1, fun k q hq => bA_in hq⟩, va_S.rf, fun q h => Or.inr h⟩
  generalize hA : bA (ad 2) s.heap.size = A at G ⊢
  generalize hH : s.heap = H at G ⊢
  refine lv_aload_n hx hb dX2_init_0 rfl (lv_at hl 0 rfl) ?_
  refine W.objInit hx hb hown (hts (.methodLink RX2 3 objectInit) (by decide +kernel)) (hts (.instanceMethod objectInit) (by decide +kernel)) (hts _ (List.mem_cons_of_mem _ (List.mem_append_left _ (List.mem_append_left _ (List.mem_append_left _ (List.mem_of_getElem? (i := 2) rfl)))))) rfl (by rw [hml]; exact hl.1) rfl dX2_init_1 (Nat.le_of_ble_eq_true rfl) (Nat.le_of_ble_eq_true rfl) ?_
  refine W.eq (g2 := F0 m 4 ls []) rfl ?_
  refine lv_aload_n hx hb dX2_init_4 rfl (lv_at hl 0 rfl) ?_
  refine cx_new (ci := 0) (fs := [.null, .null, .null, .null, .null, .null, .long 0, .int 0, .int 0]) hx hb hts hin0 tyX0 tyX0_ok hown (hts (.classLink RX2 9 RX0) (by decide +kernel)) (hts (.instantiable RX0 9) (by decide +kernel)) (hts (.initialized RX0) (by decide +kernel)) G 4 rfl rfl (fun j hj => by rcases (show j = 0 ∨ j = 1 ∨ j = 2 ∨ j = 3 ∨ j = 4 ∨ j = 5 ∨ j = 6 ∨ j = 7 ∨ j = 8 by omega) with rfl | rfl | rfl | rfl | rfl | rfl | rfl | rfl | rfl <;> rfl) (Nat.le_of_ble_eq_true rfl) (Nat.le_of_ble_eq_true rfl) dX2_init_5 (fun q4 H G => ?_)
  refine lv_dup hx hb dX2_init_8 rfl ?_
  refine cx_callI (kR := [2]) (k := 4) (kC := ksX0) G (va_runIN (As := []) (rest := [.ref q4, .ref (ad 2)]) ⟨hx, hb, hml, hown, hts⟩ (kX0_init l D (va_up ad 4 q4) cy (va_up E 4 (.inr (0, [.null, .null, .null, .null, .null, .null, .long 0, .int 0, .int 0]))) H.size rfl) ⟨va_cnB 0 hts gX2_init_X0_init_n11 rfl rfl rfl hNw (hts (.initialized RX0) (by decide +kernel)) (by decide +kernel) ⟨Nat.le_of_ble_eq_true rfl, Nat.le_of_ble_eq_true rfl⟩, rfl, hts (.instanceMethod yX0_init) (by decide +kernel)⟩ ⟨b_blind, b_pre (kR := [2]) G hAi hAl⟩ rfl rfl hl.1 rfl (lv_room (Nat.le_of_ble_eq_true rfl)) dX2_init_9 ⟨Nat.le_of_ble_eq_true rfl, Nat.le_of_ble_eq_true rfl⟩) (by decide) (by decide) (fun u4 H locs hp4 G => ?_)
  rw [show q4 = u4 4 from hp4.symm]
  refine cx_putF (fs := [.null, .null, .null, .null, .long 0, .int 0, .int 0, .int 0, .int 0, .int 0]) hx hb hts hin tyX2 tyX2_ok nmX2 hown hin2 G 2 0 rfl (by decide) (by first | rfl | exact hE) rfl 1 (by decide) (hts (.fieldLink RX2 12 "ExactSimplex$Solver" "dictionary" "LExactSimplex$Dictionary;") (by decide +kernel)) rfl rfl rfl (v := .ref (u4 4)) rfl rfl (Nat.le_of_ble_eq_true rfl) dX2_init_12 (fun H locs G => ?_)
  have G : PP D ([2] ++ ksX0) (mxA ksX0 u4 (va_up ad 4 q4)) cy (va_up (mxE ksX0 u4 cy (va_up E 4 (.inr (0, [.null, .null, .null, .null, .null, .null, .long 0, .int 0, .int 0])))) 2 (.inr (2, [.null, .ref (u4 4), .null, .null, .long 0, .int 0, .int 0, .int 0, .int 0, .int 0]))) A s H _ := G
  refine lv_aload_n hx hb dX2_init_15 rfl (lv_at hl 0 rfl) ?_
  refine lv_iconst (v := 5) hx hb dX2_init_16 (by decide) ?_
  refine cx_newa hx hb (atype := .int) (ty := .int) (a0 := (5, .inl (fun _ => 0))) (N' := 5) (hts (.arrayClass .int) (by decide +kernel)) rfl G 19 (by decide) 0 rfl (fun _ h => h) (fun _ => rfl) (by decide) (by decide) (by decide) (Nat.le_of_ble_eq_true rfl) (Nat.le_of_ble_eq_true rfl) dX2_init_17 (fun q19 H G => ?_)
  refine cx_putF (fs := [.null, .ref (u4 4), .null, .null, .long 0, .int 0, .int 0, .int 0, .int 0, .int 0]) hx hb hts hin tyX2 tyX2_ok nmX2 hown hin2 G 2 0 rfl (by decide) (by first | rfl | exact hE) rfl 2 (by decide) (hts (.fieldLink RX2 18 "ExactSimplex$Solver" "goal" "[I") (by decide +kernel)) rfl rfl rfl (v := .ref q19) rfl rfl (Nat.le_of_ble_eq_true rfl) dX2_init_19 (fun H locs G => ?_)
  have G : PP D (([2] ++ ksX0) ++ [19]) (va_up (mxA ksX0 u4 (va_up ad 4 q4)) 19 q19) cy (va_up (va_up (va_up (mxE ksX0 u4 cy (va_up E 4 (.inr (0, [.null, .null, .null, .null, .null, .null, .long 0, .int 0, .int 0])))) 2 (.inr (2, [.null, .ref (u4 4), .null, .null, .long 0, .int 0, .int 0, .int 0, .int 0, .int 0]))) 19 (.inl (cy 0, (5, .inl (fun _ => 0))))) 2 (.inr (2, [.null, .ref (u4 4), .ref q19, .null, .long 0, .int 0, .int 0, .int 0, .int 0, .int 0]))) A s H _ := G
  refine lv_aload_n hx hb dX2_init_22 rfl (lv_at hl 0 rfl) ?_
  refine lv_iconst (v := 5) hx hb dX2_init_23 (by decide) ?_
  refine cx_newa hx hb (atype := .long) (ty := .long) (a0 := (5, .inr (.inl (fun _ => 0)))) (N' := 5) (hts (.arrayClass .long) (by decide +kernel)) rfl G 20 (by decide) 2 rfl (fun _ h => h) (fun _ => rfl) (by decide) (by decide) (by decide) (Nat.le_of_ble_eq_true rfl) (Nat.le_of_ble_eq_true rfl) dX2_init_24 (fun q20 H G => ?_)
  refine cx_putF (fs := [.null, .ref (u4 4), .ref q19, .null, .long 0, .int 0, .int 0, .int 0, .int 0, .int 0]) hx hb hts hin tyX2 tyX2_ok nmX2 hown hin2 G 2 0 rfl (by decide) (by first | rfl | exact hE) rfl 3 (by decide) (hts (.fieldLink RX2 22 "ExactSimplex$Solver" "firstBest" "[J") (by decide +kernel)) rfl rfl rfl (v := .ref q20) rfl rfl (Nat.le_of_ble_eq_true rfl) dX2_init_26 (fun H locs G => ?_)
  have G : PP D ((([2] ++ ksX0) ++ [19]) ++ [20]) (va_up (va_up (mxA ksX0 u4 (va_up ad 4 q4)) 19 q19) 20 q20) cy (va_up (va_up (va_up (va_up (va_up (mxE ksX0 u4 cy (va_up E 4 (.inr (0, [.null, .null, .null, .null, .null, .null, .long 0, .int 0, .int 0])))) 2 (.inr (2, [.null, .ref (u4 4), .null, .null, .long 0, .int 0, .int 0, .int 0, .int 0, .int 0]))) 19 (.inl (cy 0, (5, .inl (fun _ => 0))))) 2 (.inr (2, [.null, .ref (u4 4), .ref q19, .null, .long 0, .int 0, .int 0, .int 0, .int 0, .int 0]))) 20 (.inl (cy 2, (5, .inr (.inl (fun _ => 0)))))) 2 (.inr (2, [.null, .ref (u4 4), .ref q19, .ref q20, .long 0, .int 0, .int 0, .int 0, .int 0, .int 0]))) A s H _ := G
  refine lv_aload_n hx hb dX2_init_29 rfl (lv_at hl 0 rfl) ?_
  refine lv_lconst (v := 1) hx hb dX2_init_30 (by decide) ?_
  refine cx_put (fs := [.null, .ref (u4 4), .ref q19, .ref q20, .long 0, .int 0, .int 0, .int 0, .int 0, .int 0]) hx hb hts hin tyX2 tyX2_ok nmX2 hown G 2 0 rfl (by decide) rfl rfl 4 (by decide) (hts (.fieldLink RX2 26 "ExactSimplex$Solver" "firstBestUnder" "J") (by decide +kernel)) rfl rfl (v := .long 1) rfl rfl (Nat.le_of_ble_eq_true rfl) dX2_init_31 (fun H locs G => ?_)
  have G : PP D ((([2] ++ ksX0) ++ [19]) ++ [20]) (va_up (va_up (mxA ksX0 u4 (va_up ad 4 q4)) 19 q19) 20 q20) cy (va_up (va_up (va_up (va_up (va_up (va_up (mxE ksX0 u4 cy (va_up E 4 (.inr (0, [.null, .null, .null, .null, .null, .null, .long 0, .int 0, .int 0])))) 2 (.inr (2, [.null, .ref (u4 4), .null, .null, .long 0, .int 0, .int 0, .int 0, .int 0, .int 0]))) 19 (.inl (cy 0, (5, .inl (fun _ => 0))))) 2 (.inr (2, [.null, .ref (u4 4), .ref q19, .null, .long 0, .int 0, .int 0, .int 0, .int 0, .int 0]))) 20 (.inl (cy 2, (5, .inr (.inl (fun _ => 0)))))) 2 (.inr (2, [.null, .ref (u4 4), .ref q19, .ref q20, .long 0, .int 0, .int 0, .int 0, .int 0, .int 0]))) 2 (.inr (2, [.null, .ref (u4 4), .ref q19, .ref q20, .long 1, .int 0, .int 0, .int 0, .int 0, .int 0]))) A s H _ := G
  refine lv_aload_n hx hb dX2_init_34 rfl (lv_at hl 0 rfl) ?_
  refine lv_aload_n hx hb dX2_init_35 rfl (lv_at hl 1 rfl) ?_
  refine cx_putF (fs := [.null, .ref (u4 4), .ref q19, .ref q20, .long 1, .int 0, .int 0, .int 0, .int 0, .int 0]) hx hb hts hin tyX2 tyX2_ok nmX2 hown hin2 G 2 0 rfl (by decide) (by first | rfl | exact hE) rfl 0 (by decide) (hts (.fieldLink RX2 30 "ExactSimplex$Solver" "problem" "LExactSimplex$Problem;") (by decide +kernel)) rfl rfl rfl (v := .ref (ad 1)) rfl rfl (Nat.le_of_ble_eq_true rfl) dX2_init_36 (fun H locs G => ?_)
  have G : PP D ((([2] ++ ksX0) ++ [19]) ++ [20]) (va_up (va_up (mxA ksX0 u4 (va_up ad 4 q4)) 19 q19) 20 q20) cy (va_up (va_up (va_up (va_up (va_up (va_up (va_up (mxE ksX0 u4 cy (va_up E 4 (.inr (0, [.null, .null, .null, .null, .null, .null, .long 0, .int 0, .int 0])))) 2 (.inr (2, [.null, .ref (u4 4), .null, .null, .long 0, .int 0, .int 0, .int 0, .int 0, .int 0]))) 19 (.inl (cy 0, (5, .inl (fun _ => 0))))) 2 (.inr (2, [.null, .ref (u4 4), .ref q19, .null, .long 0, .int 0, .int 0, .int 0, .int 0, .int 0]))) 20 (.inl (cy 2, (5, .inr (.inl (fun _ => 0)))))) 2 (.inr (2, [.null, .ref (u4 4), .ref q19, .ref q20, .long 0, .int 0, .int 0, .int 0, .int 0, .int 0]))) 2 (.inr (2, [.null, .ref (u4 4), .ref q19, .ref q20, .long 1, .int 0, .int 0, .int 0, .int 0, .int 0]))) 2 (.inr (2, [.ref (ad 1), .ref (u4 4), .ref q19, .ref q20, .long 1, .int 0, .int 0, .int 0, .int 0, .int 0]))) A s H _ := G
  refine W.widen (k := 30) (n := 202) (Nat.le_of_ble_eq_true rfl) (Nat.le_of_ble_eq_true rfl) ?_
  obtain ⟨u, eu⟩ : ∃ z, z = va_up (va_up (mxA ksX0 u4 (va_up ad 4 q4)) 19 q19) 20 q20 := ⟨_, rfl⟩
  have hW1 : PW [2, 4, 13, 48, 49, 50, 51, 52, 53, 54, 55, 56, 57, 58, 59, 60, 61, 62, 63, 64, 65, 66, 67, 68, 14, 15, 16, 17, 18, 19, 20] (va_up (va_up (mxA ksX0 u4 (va_up ad 4 q4)) 19 q19) 20 q20) (va_up (va_up (va_up (va_up (va_up (va_up (va_up (mxE ksX0 u4 cy (va_up E 4 (.inr (0, [.null, .null, .null, .null, .null, .null, .long 0, .int 0, .int 0])))) 2 (.inr (2, [.null, .ref (u4 4), .null, .null, .long 0, .int 0, .int 0, .int 0, .int 0, .int 0]))) 19 (.inl (cy 0, (5, .inl (fun _ => 0))))) 2 (.inr (2, [.null, .ref (u4 4), .ref q19, .null, .long 0, .int 0, .int 0, .int 0, .int 0, .int 0]))) 20 (.inl (cy 2, (5, .inr (.inl (fun _ => 0)))))) 2 (.inr (2, [.null, .ref (u4 4), .ref q19, .ref q20, .long 0, .int 0, .int 0, .int 0, .int 0, .int 0]))) 2 (.inr (2, [.null, .ref (u4 4), .ref q19, .ref q20, .long 1, .int 0, .int 0, .int 0, .int 0, .int 0]))) 2 (.inr (2, [.ref (ad 1), .ref (u4 4), .ref q19, .ref q20, .long 1, .int 0, .int 0, .int 0, .int 0, .int 0]))) = PW ksX2 u (gE u cy zI zJ zI zL) := by
    rw [eu]
    refine PW_congr (ks := [2, 4, 13, 48, 49, 50, 51, 52, 53, 54, 55, 56, 57, 58, 59, 60, 61, 62, 63, 64, 65, 66, 67, 68, 14, 15, 16, 17, 18, 19, 20]) (fun _ _ => rfl) (fun k hk => ?_)
    simp only [List.mem_cons, List.not_mem_nil, or_false] at hk
    rcases hk with rfl | rfl | rfl | rfl | rfl | rfl | rfl | rfl | rfl | rfl | rfl | rfl | rfl | rfl | rfl | rfl | rfl | rfl | rfl | rfl | rfl | rfl | rfl | rfl | rfl | rfl | rfl | rfl | rfl | rfl | rfl
    · rfl
    · rfl
    · exact (gE_outer (u := u4) (I := zI) (J := zJ) (a := zI) (b := zL) (k := 13) (co := 4) (n := 21) (ba := 48) (r := fun i => u4 (48 + i)) rfl (by decide) (fun _ _ => rfl)).trans (gE_outer (u := va_up (va_up (mxA ksX0 u4 (va_up ad 4 q4)) 19 q19) 20 q20) (k := 13) (co := 4) (n := 21) (ba := 48) (r := fun i => u4 (48 + i)) rfl (by decide) (fun i hi => match i, hi with | 0, _ => rfl | 1, _ => rfl | 2, _ => rfl | 3, _ => rfl | 4, _ => rfl | 5, _ => rfl | 6, _ => rfl | 7, _ => rfl | 8, _ => rfl | 9, _ => rfl | 10, _ => rfl | 11, _ => rfl | 12, _ => rfl | 13, _ => rfl | 14, _ => rfl | 15, _ => rfl | 16, _ => rfl | 17, _ => rfl | 18, _ => rfl | 19, _ => rfl | 20, _ => rfl | n9 + 21, h => absurd h (by omega))).symm
    · rfl
    · rfl
    · rfl
    · rfl
    · rfl
    · rfl
    · rfl
    · rfl
    · rfl
    · rfl
    · rfl
    · rfl
    · rfl
    · rfl
    · rfl
    · rfl
    · rfl
    · rfl
    · rfl
    · rfl
    · rfl
    · rfl
    · rfl
    · rfl
    · rfl
    · rfl
    · rfl
    · rfl
  have hP : va_P D vwCl (PW [2, 4, 13, 48, 49, 50, 51, 52, 53, 54, 55, 56, 57, 58, 59, 60, 61, 62, 63, 64, 65, 66, 67, 68, 14, 15, 16, 17, 18, 19, 20] (va_up (va_up (mxA ksX0 u4 (va_up ad 4 q4)) 19 q19) 20 q20) (va_up (va_up (va_up (va_up (va_up (va_up (va_up (mxE ksX0 u4 cy (va_up E 4 (.inr (0, [.null, .null, .null, .null, .null, .null, .long 0, .int 0, .int 0])))) 2 (.inr (2, [.null, .ref (u4 4), .null, .null, .long 0, .int 0, .int 0, .int 0, .int 0, .int 0]))) 19 (.inl (cy 0, (5, .inl (fun _ => 0))))) 2 (.inr (2, [.null, .ref (u4 4), .ref q19, .null, .long 0, .int 0, .int 0, .int 0, .int 0, .int 0]))) 20 (.inl (cy 2, (5, .inr (.inl (fun _ => 0)))))) 2 (.inr (2, [.null, .ref (u4 4), .ref q19, .ref q20, .long 0, .int 0, .int 0, .int 0, .int 0, .int 0]))) 2 (.inr (2, [.null, .ref (u4 4), .ref q19, .ref q20, .long 1, .int 0, .int 0, .int 0, .int 0, .int 0]))) 2 (.inr (2, [.ref (ad 1), .ref (u4 4), .ref q19, .ref q20, .long 1, .int 0, .int 0, .int 0, .int 0, .int 0])))) H := G.2.1
  have hD : va_D A (PW [2, 4, 13, 48, 49, 50, 51, 52, 53, 54, 55, 56, 57, 58, 59, 60, 61, 62, 63, 64, 65, 66, 67, 68, 14, 15, 16, 17, 18, 19, 20] (va_up (va_up (mxA ksX0 u4 (va_up ad 4 q4)) 19 q19) 20 q20) (va_up (va_up (va_up (va_up (va_up (va_up (va_up (mxE ksX0 u4 cy (va_up E 4 (.inr (0, [.null, .null, .null, .null, .null, .null, .long 0, .int 0, .int 0])))) 2 (.inr (2, [.null, .ref (u4 4), .null, .null, .long 0, .int 0, .int 0, .int 0, .int 0, .int 0]))) 19 (.inl (cy 0, (5, .inl (fun _ => 0))))) 2 (.inr (2, [.null, .ref (u4 4), .ref q19, .null, .long 0, .int 0, .int 0, .int 0, .int 0, .int 0]))) 20 (.inl (cy 2, (5, .inr (.inl (fun _ => 0)))))) 2 (.inr (2, [.null, .ref (u4 4), .ref q19, .ref q20, .long 0, .int 0, .int 0, .int 0, .int 0, .int 0]))) 2 (.inr (2, [.null, .ref (u4 4), .ref q19, .ref q20, .long 1, .int 0, .int 0, .int 0, .int 0, .int 0]))) 2 (.inr (2, [.ref (ad 1), .ref (u4 4), .ref q19, .ref q20, .long 1, .int 0, .int 0, .int 0, .int 0, .int 0])))) := G.2.2.1
  rw [hW1] at hP hD
  exact W.vret hx hb hr (fun t ht hW => ⟨⟨u, rfl, by rw [eu]; exact ⟨rfl, rfl⟩, by rw [ht]; exact hP, va_K.moved hW.alike G.1, hD⟩, G.2.2.2.1.F ht⟩) G.2.2.2.1.2.2 dX2_init_39
