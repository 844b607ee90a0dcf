/-! Problem: a 6 lows, a 7 highs, a 8 costs, a 9 senses, a 10 rights, a (40 + r) factors of row r, a 12 there; I 1 7 names, I 1 8 rows -/
def p_hasN (I : gF) (v : Int32) : Int32 := if v < 0 then 0 else if I 1 7 ≤ v then 0 else 1
def p_hasR (I a : gF) (v : Int32) : Int32 := if v < 0 then 0 else if I 1 8 ≤ v then 0 else if a 12 v.toNatClampNeg = 0 then 0 else 1
def p_addNA (a : gF) (nn : Nat) (lo hi : Int32) : gF := gU (gU (gU a 6 nn lo) 7 nn hi) 8 nn 0
def p_wipe (a : gF) (nr : Nat) : Nat → gF
  | 0 => a
  | n + 1 => gU (p_wipe a nr n) (40 + nr) n 0
def p_addRA (a : gF) (nr : Nat) (se ri : Int32) : gF := p_wipe (gU (gU (gU a 9 nr se) 10 nr ri) 12 nr 1) nr 5
def p_cnt (a : gF) : Nat → Int32
  | 0 => 0
  | n + 1 => if a 12 n = 0 then p_cnt a n else p_cnt a n + 1
def p_cw (a : gF) : Nat → Int64
  | 0 => 1
  | n + 1 => p_cw a n * (a 7 n - a 6 n + 1).toInt64
def p_above (a : gF) (r : Nat) : Int32 := if a 9 r = 0 then 1 else if a 9 r = 1 then 1 else 0
def p_below (a : gF) (r : Nat) : Int32 := if a 9 r = 2 then 1 else if a 9 r = 1 then 1 else 0

set_option maxHeartbeats 4000000 in
set_option maxRecDepth 100000 in
theorem kX1_hasName (l : Launch) (D : va_G) (ad : Nat → Nat) (cy : Nat → ClassId) (I : gF) (J : gL) (a : gF) (b : gL) (sz : Nat) (v : Int32)  : gMi l yX1_hasName wsX1_hasName ({ frames := 0, cells := 0, slots := 0, locals := 0 }) D ad cy I J a b sz [.ref (ad 1), .int v] (fun r u => r = p_hasN I v ∧ u = (I, J, a, b)) := by
  refine Met.ofW (cc := cX1_hasName) (maxL := 2) (ret := some .boolean) (by decide) rfl ?_
  intro p e s m args below meth c s₁ B hml hv
  obtain ⟨hargs, hsz, G⟩ := gx_begin hv
  subst hsz
  have hx := B.exec
  have hb := B.bytes
  have hr := B.returns
  have hts := atoms_spec (ws := wsX1_hasName) B.pre
  have hown : s.vm.findClass RX1 = some m.cls := findClass_of_methodNamed B.named
  have hlocks := B.notSynchronized
  have hinX1 : ∀ w ∈ wsX10, w ∈ wsX1_hasName := by decide +kernel
  have lk36 := hts (.fieldLink RX1 36 "ExactSimplex$Problem" "names" "I") (by decide +kernel)
  have hl := lv_entry ([.ref (ad 1), .int v]) (n := 2) (Nat.le_of_ble_eq_true rfl)
  have hent := lg_entry_eq m ([.ref (ad 1), .int v]) 2
  rw [← hargs] at hent
  rw [hent]
  clear hent
  generalize (lg_sl ([.ref (ad 1), .int v]) ++ List.replicate (2 - (lg_sl ([.ref (ad 1), .int v])).length) Slot.unset).toArray = ls at hl ⊢
  have hl : lv_has ls 2 [(0, .ref (ad 1)), (1, .int v)] := hl
  generalize hA : gA ad s.heap.size = A at G ⊢
  generalize hH : s.heap = H at G ⊢
  refine gx_q (fun Q hQ => ?_)
  refine lv_iload_n hx hb dX1_hasName_0 rfl (lv_at hl 1 rfl) ?_
  refine lv_if_lt (tgt := 16) hx hb dX1_hasName_1 (by decide) (fun c1 => ?_) (fun c1 => ?_)
  · skip
    refine lv_iconst (v := 0) hx hb dX1_hasName_16 (by decide) ?_
    exact gx_zr hx hb hr hlocks G hQ (rfl) ⟨by first | rfl | (simp only [p_hasN, c1, reduceIte]; done) | (simp [p_hasN, c1, reduceIte]; done), rfl⟩ dX1_hasName_17
  · skip
    refine lv_iload_n hx hb dX1_hasName_4 rfl (lv_at hl 1 rfl) ?_
    refine lv_aload_n hx hb dX1_hasName_5 rfl (lv_at hl 0 rfl) ?_
    refine gx_get hx hb hts hinX1 hown G 1 (by decide) rfl rfl 7 (by decide) rfl lk36 rfl (v := .int (I 1 7)) rfl dX1_hasName_6 ?_
    refine lv_icmp_ge (tgt := 16) hx hb dX1_hasName_9 (by decide) (fun c9 => ?_) (fun c9 => ?_)
    · skip
      refine lv_iconst (v := 0) hx hb dX1_hasName_16 (by decide) ?_
      exact gx_zr hx hb hr hlocks G hQ (rfl) ⟨by first | rfl | (simp only [p_hasN, c1, c9, reduceIte]; done) | (simp [p_hasN, c1, c9, reduceIte]; done), rfl⟩ dX1_hasName_17
    · skip
      refine lv_iconst (v := 1) hx hb dX1_hasName_12 (by decide) ?_
      refine lv_goto (tgt := 17) hx hb dX1_hasName_13 (by decide) ?_
      exact gx_zr hx hb hr hlocks G hQ (rfl) ⟨by first | rfl | (simp only [p_hasN, c1, c9, reduceIte]; done) | (simp [p_hasN, c1, c9, reduceIte]; done), rfl⟩ dX1_hasName_17

set_option maxHeartbeats 4000000 in
set_option maxRecDepth 100000 in
theorem kX1_hasRow (l : Launch) (D : va_G) (ad : Nat → Nat) (cy : Nat → ClassId) (I : gF) (J : gL) (a : gF) (b : gL) (sz : Nat) (nr : Nat) (v : Int32) (hnr : I 1 8 = nI nr) (hnr2 : nr ≤ 8) : gMi l yX1_hasRow wsX1_hasRow ({ frames := 0, cells := 0, slots := 0, locals := 0 }) D ad cy I J a b sz [.ref (ad 1), .int v] (fun r u => r = p_hasR I a v ∧ u = (I, J, a, b)) := by
  refine Met.ofW (cc := cX1_hasRow) (maxL := 2) (ret := some .boolean) (by decide) rfl ?_
  intro p e s m args below meth c s₁ B hml hv
  obtain ⟨hargs, hsz, G⟩ := gx_begin hv
  subst hsz
  have hx := B.exec
  have hb := B.bytes
  have hr := B.returns
  have hts := atoms_spec (ws := wsX1_hasRow) B.pre
  have hown : s.vm.findClass RX1 = some m.cls := findClass_of_methodNamed B.named
  have hlocks := B.notSynchronized
  have hinX1 : ∀ w ∈ wsX10, w ∈ wsX1_hasRow := by decide +kernel
  have lk32 := hts (.fieldLink RX1 32 "ExactSimplex$Problem" "there" "[Z") (by decide +kernel)
  have lk40 := hts (.fieldLink RX1 40 "ExactSimplex$Problem" "rows" "I") (by decide +kernel)
  have hl := lv_entry ([.ref (ad 1), .int v]) (n := 2) (Nat.le_of_ble_eq_true rfl)
  have hent := lg_entry_eq m ([.ref (ad 1), .int v]) 2
  rw [← hargs] at hent
  rw [hent]
  clear hent
  generalize (lg_sl ([.ref (ad 1), .int v]) ++ List.replicate (2 - (lg_sl ([.ref (ad 1), .int v])).length) Slot.unset).toArray = ls at hl ⊢
  have hl : lv_has ls 2 [(0, .ref (ad 1)), (1, .int v)] := hl
  generalize hA : gA ad s.heap.size = A at G ⊢
  generalize hH : s.heap = H at G ⊢
  refine gx_q (fun Q hQ => ?_)
  refine lv_iload_n hx hb dX1_hasRow_0 rfl (lv_at hl 1 rfl) ?_
  refine lv_if_lt (tgt := 25) hx hb dX1_hasRow_1 (by decide) (fun c1 => ?_) (fun c1 => ?_)
  · skip
    refine lv_iconst (v := 0) hx hb dX1_hasRow_25 (by decide) ?_
    exact gx_zr hx hb hr hlocks G hQ (rfl) ⟨by first | rfl | (simp only [p_hasR, c1, reduceIte]; done) | (simp [p_hasR, c1, reduceIte]; done), rfl⟩ dX1_hasRow_26
  · skip
    refine lv_iload_n hx hb dX1_hasRow_4 rfl (lv_at hl 1 rfl) ?_
    refine lv_aload_n hx hb dX1_hasRow_5 rfl (lv_at hl 0 rfl) ?_
    refine gx_get hx hb hts hinX1 hown G 1 (by decide) rfl rfl 8 (by decide) rfl lk40 rfl (v := .int (I 1 8)) rfl dX1_hasRow_6 ?_
    refine lv_icmp_ge (tgt := 25) hx hb dX1_hasRow_9 (by decide) (fun c9 => ?_) (fun c9 => ?_)
    · skip
      refine lv_iconst (v := 0) hx hb dX1_hasRow_25 (by decide) ?_
      exact gx_zr hx hb hr hlocks G hQ (rfl) ⟨by first | rfl | (simp only [p_hasR, c1, c9, reduceIte]; done) | (simp [p_hasR, c1, c9, reduceIte]; done), rfl⟩ dX1_hasRow_26
    · skip
      obtain ⟨j, hj, ej⟩ := nI_of c1
      have hjn := gn_nle (X := nr) (Y := j) hnr ej (by omega) hj c9
      have ecl := gx_clamp ej hj
      refine lv_aload_n hx hb dX1_hasRow_12 rfl (lv_at hl 0 rfl) ?_
      refine gx_get hx hb hts hinX1 hown G 1 (by decide) rfl rfl 6 (by decide) rfl lk32 rfl (v := .ref (ad 12)) rfl dX1_hasRow_13 ?_
      refine lv_iload_n hx hb dX1_hasRow_16 rfl (lv_at hl 1 rfl) ?_
      refine gx_zald hx hb G 12 (by decide) (rfl) (by decide) j ej (by omega) dX1_hasRow_17 ?_
      refine lv_if_eq (tgt := 25) hx hb dX1_hasRow_18 (by decide) (fun c18 => ?_) (fun c18 => ?_)
      · skip
        refine lv_iconst (v := 0) hx hb dX1_hasRow_25 (by decide) ?_
        exact gx_zr hx hb hr hlocks G hQ (rfl) ⟨by first | rfl | (simp only [p_hasR, c1, c9, ecl, c18, reduceIte]; done) | (simp [p_hasR, c1, c9, ecl, c18, reduceIte]; done), rfl⟩ dX1_hasRow_26
      · skip
        refine lv_iconst (v := 1) hx hb dX1_hasRow_21 (by decide) ?_
        refine lv_goto (tgt := 26) hx hb dX1_hasRow_22 (by decide) ?_
        exact gx_zr hx hb hr hlocks G hQ (rfl) ⟨by first | rfl | (simp only [p_hasR, c1, c9, ecl, c18, reduceIte]; done) | (simp [p_hasR, c1, c9, ecl, c18, reduceIte]; done), rfl⟩ dX1_hasRow_26

set_option maxHeartbeats 4000000 in
set_option maxRecDepth 100000 in
theorem kX1_addName (l : Launch) (D : va_G) (ad : Nat → Nat) (cy : Nat → ClassId) (I : gF) (J : gL) (a : gF) (b : gL) (sz : Nat) (nn : Nat) (lo hi : Int32) (hnn : I 1 7 = nI nn) (hnn2 : nn ≤ 5) : gMi l yX1_addName wsX1_addName ({ frames := 0, cells := 0, slots := 0, locals := 0 }) D ad cy I J a b sz [.ref (ad 1), .int lo, .int hi] (fun r u => r = (if I 1 7 < 5 then I 1 7 else -4) ∧ u = (if I 1 7 < 5 then gU I 1 7 (I 1 7 + 1) else I, J, if I 1 7 < 5 then p_addNA a nn lo hi else a, b)) := by
  refine Met.ofW (cc := cX1_addName) (maxL := 4) (ret := some .int) (by decide) rfl ?_
  intro p e s m args below meth c s₁ B hml hv
  obtain ⟨hargs, hsz, G⟩ := gx_begin hv
  subst hsz
  have hx := B.exec
  have hb := B.bytes
  have hr := B.returns
  have hts := atoms_spec (ws := wsX1_addName) B.pre
  have hown : s.vm.findClass RX1 = some m.cls := findClass_of_methodNamed B.named
  have hlocks := B.notSynchronized
  have hinX1 : ∀ w ∈ wsX10, w ∈ wsX1_addName := by decide +kernel
  have lk9 := hts (.fieldLink RX1 9 "ExactSimplex$Problem" "lows" "[I") (by decide +kernel)
  have lk15 := hts (.fieldLink RX1 15 "ExactSimplex$Problem" "highs" "[I") (by decide +kernel)
  have lk18 := hts (.fieldLink RX1 18 "ExactSimplex$Problem" "costs" "[I") (by decide +kernel)
  have lk36 := hts (.fieldLink RX1 36 "ExactSimplex$Problem" "names" "I") (by decide +kernel)
  have hl := lv_entry ([.ref (ad 1), .int lo, .int hi]) (n := 4) (Nat.le_of_ble_eq_true rfl)
  have hent := lg_entry_eq m ([.ref (ad 1), .int lo, .int hi]) 4
  rw [← hargs] at hent
  rw [hent]
  clear hent
  generalize (lg_sl ([.ref (ad 1), .int lo, .int hi]) ++ List.replicate (4 - (lg_sl ([.ref (ad 1), .int lo, .int hi])).length) Slot.unset).toArray = ls at hl ⊢
  have hl : lv_has ls 4 [(0, .ref (ad 1)), (1, .int lo), (2, .int hi)] := hl
  generalize hA : gA ad s.heap.size = A at G ⊢
  generalize hH : s.heap = H at G ⊢
  refine gx_q (fun Q hQ => ?_)
  refine lv_aload_n hx hb dX1_addName_0 rfl (lv_at hl 0 rfl) ?_
  refine gx_get hx hb hts hinX1 hown G 1 (by decide) rfl rfl 7 (by decide) rfl lk36 rfl (v := .int (I 1 7)) rfl dX1_addName_1 ?_
  refine lv_istore_n (lv' := [(3, .int (I 1 7)), (0, .ref (ad 1)), (1, .int lo), (2, .int hi)]) hx hb dX1_addName_4 rfl hl (by decide) rfl (fun ls hl => ?_)
  refine lv_iload_n hx hb dX1_addName_5 rfl (lv_at hl 0 rfl) ?_
  refine lv_iconst (v := 5) hx hb dX1_addName_6 (by decide) ?_
  refine lv_icmp_lt (tgt := 13) hx hb dX1_addName_7 (by decide) (fun c7 => ?_) (fun c7 => ?_)
  · skip
    have n7 := gn_lt (X := nn) (Y := 5) hnn rfl (by omega) (by omega) c7
    refine lv_aload_n hx hb dX1_addName_13 rfl (lv_at hl 1 rfl) ?_
    refine gx_get hx hb hts hinX1 hown G 1 (by decide) rfl rfl 0 (by decide) rfl lk9 rfl (v := .ref (ad 6)) rfl dX1_addName_14 ?_
    refine lv_iload_n hx hb dX1_addName_17 rfl (lv_at hl 0 rfl) ?_
    refine lv_iload_n hx hb dX1_addName_18 rfl (lv_at hl 2 rfl) ?_
    refine gx_iast hx hb G 6 (by decide) (rfl) (by decide) nn hnn (by omega) dX1_addName_19 (fun H locs G => ?_)
    refine lv_aload_n hx hb dX1_addName_20 rfl (lv_at hl 1 rfl) ?_
    refine gx_get hx hb hts hinX1 hown G 1 (by decide) rfl rfl 1 (by decide) rfl lk15 rfl (v := .ref (ad 7)) rfl dX1_addName_21 ?_
    refine lv_iload_n hx hb dX1_addName_24 rfl (lv_at hl 0 rfl) ?_
    refine lv_iload_n hx hb dX1_addName_25 rfl (lv_at hl 3 rfl) ?_
    refine gx_iast hx hb G 7 (by decide) (rfl) (by decide) nn hnn (by omega) dX1_addName_26 (fun H locs G => ?_)
    refine lv_aload_n hx hb dX1_addName_27 rfl (lv_at hl 1 rfl) ?_
    refine gx_get hx hb hts hinX1 hown G 1 (by decide) rfl rfl 2 (by decide) rfl lk18 rfl (v := .ref (ad 8)) rfl dX1_addName_28 ?_
    refine lv_iload_n hx hb dX1_addName_31 rfl (lv_at hl 0 rfl) ?_
    refine lv_iconst (v := 0) hx hb dX1_addName_32 (by decide) ?_
    refine gx_iast hx hb G 8 (by decide) (rfl) (by decide) nn hnn (by omega) dX1_addName_33 (fun H locs G => ?_)
    refine lv_aload_n hx hb dX1_addName_34 rfl (lv_at hl 1 rfl) ?_
    refine lv_dup hx hb dX1_addName_35 rfl ?_
    refine gx_get hx hb hts hinX1 hown G 1 (by decide) rfl rfl 7 (by decide) rfl lk36 rfl (v := .int (I 1 7)) rfl dX1_addName_36 ?_
    refine lv_iconst (v := 1) hx hb dX1_addName_39 (by decide) ?_
    refine lv_iadd hx hb dX1_addName_40 ?_
    refine gx_putI hx hb hts hinX1 tyX1 tyX1_ok nmX1 hown G 1 (by decide) rfl rfl 7 (by decide) rfl lk36 rfl rfl (tyX1_ok 7 (by decide)) (rfl) (rfl) dX1_addName_41 (fun H locs G => ?_)
    refine lv_iload_n hx hb dX1_addName_44 rfl (lv_at hl 0 rfl) ?_
    exact gx_ir hx hb hr hlocks G hQ ⟨by simp only [c7, reduceIte], by simp only [c7, reduceIte, p_addNA]⟩ dX1_addName_45
  · skip
    have n7 := gn_nlt (X := nn) (Y := 5) hnn rfl (by omega) (by omega) c7
    refine lv_bipush (v := -4) hx hb dX1_addName_10 (by decide) ?_
    exact gx_ir hx hb hr hlocks G hQ ⟨by simp only [c7, reduceIte], by simp only [c7, reduceIte]⟩ dX1_addName_12

set_option maxHeartbeats 4000000 in
set_option maxRecDepth 100000 in
theorem kX1_addRow (l : Launch) (D : va_G) (ad : Nat → Nat) (cy : Nat → ClassId) (I : gF) (J : gL) (a : gF) (b : gL) (sz : Nat) (nr : Nat) (se ri : Int32) (hnr : I 1 8 = nI nr) (hnr2 : nr ≤ 8) : gMi l yX1_addRow wsX1_addRow ({ frames := 0, cells := 0, slots := 0, locals := 0 }) D ad cy I J a b sz [.ref (ad 1), .int se, .int ri] (fun r u => r = (if I 1 8 < 8 then I 1 8 else -4) ∧ u = (if I 1 8 < 8 then gU I 1 8 (I 1 8 + 1) else I, J, if I 1 8 < 8 then p_addRA a nr se ri else a, b)) := by
  refine Met.ofW (cc := cX1_addRow) (maxL := 5) (ret := some .int) (by decide) rfl ?_
  intro p e s m args below meth c s₁ B hml hv
  obtain ⟨hargs, hsz, G⟩ := gx_begin hv
  subst hsz
  have hx := B.exec
  have hb := B.bytes
  have hr := B.returns
  have hts := atoms_spec (ws := wsX1_addRow) B.pre
  have hown : s.vm.findClass RX1 = some m.cls := findClass_of_methodNamed B.named
  have hlocks := B.notSynchronized
  have hinX1 : ∀ w ∈ wsX10, w ∈ wsX1_addRow := by decide +kernel
  have lk21 := hts (.fieldLink RX1 21 "ExactSimplex$Problem" "senses" "[I") (by decide +kernel)
  have lk24 := hts (.fieldLink RX1 24 "ExactSimplex$Problem" "rights" "[I") (by decide +kernel)
  have lk29 := hts (.fieldLink RX1 29 "ExactSimplex$Problem" "factors" "[[I") (by decide +kernel)
  have lk32 := hts (.fieldLink RX1 32 "ExactSimplex$Problem" "there" "[Z") (by decide +kernel)
  have lk40 := hts (.fieldLink RX1 40 "ExactSimplex$Problem" "rows" "I") (by decide +kernel)
  have hl := lv_entry ([.ref (ad 1), .int se, .int ri]) (n := 5) (Nat.le_of_ble_eq_true rfl)
  have hent := lg_entry_eq m ([.ref (ad 1), .int se, .int ri]) 5
  rw [← hargs] at hent
  rw [hent]
  clear hent
  generalize (lg_sl ([.ref (ad 1), .int se, .int ri]) ++ List.replicate (5 - (lg_sl ([.ref (ad 1), .int se, .int ri])).length) Slot.unset).toArray = ls at hl ⊢
  have hl : lv_has ls 5 [(0, .ref (ad 1)), (1, .int se), (2, .int ri)] := hl
  generalize hA : gA ad s.heap.size = A at G ⊢
  generalize hH : s.heap = H at G ⊢
  refine gx_q (fun Q hQ => ?_)
  refine lv_aload_n hx hb dX1_addRow_0 rfl (lv_at hl 0 rfl) ?_
  refine gx_get hx hb hts hinX1 hown G 1 (by decide) rfl rfl 8 (by decide) rfl lk40 rfl (v := .int (I 1 8)) rfl dX1_addRow_1 ?_
  refine lv_istore_n (lv' := [(3, .int (I 1 8)), (0, .ref (ad 1)), (1, .int se), (2, .int ri)]) hx hb dX1_addRow_4 rfl hl (by decide) rfl (fun ls hl => ?_)
  refine lv_iload_n hx hb dX1_addRow_5 rfl (lv_at hl 0 rfl) ?_
  refine lv_bipush (v := 8) hx hb dX1_addRow_6 (by decide) ?_
  refine lv_icmp_lt (tgt := 14) hx hb dX1_addRow_8 (by decide) (fun c8 => ?_) (fun c8 => ?_)
  · skip
    have n8 := gn_lt (X := nr) (Y := 8) hnr rfl (by omega) (by omega) c8
    refine lv_aload_n hx hb dX1_addRow_14 rfl (lv_at hl 1 rfl) ?_
    refine gx_get hx hb hts hinX1 hown G 1 (by decide) rfl rfl 3 (by decide) rfl lk21 rfl (v := .ref (ad 9)) rfl dX1_addRow_15 ?_
    refine lv_iload_n hx hb dX1_addRow_18 rfl (lv_at hl 0 rfl) ?_
    refine lv_iload_n hx hb dX1_addRow_19 rfl (lv_at hl 2 rfl) ?_
    refine gx_iast hx hb G 9 (by decide) (rfl) (by decide) nr hnr (by omega) dX1_addRow_20 (fun H locs G => ?_)
    refine lv_aload_n hx hb dX1_addRow_21 rfl (lv_at hl 1 rfl) ?_
    refine gx_get hx hb hts hinX1 hown G 1 (by decide) rfl rfl 4 (by decide) rfl lk24 rfl (v := .ref (ad 10)) rfl dX1_addRow_22 ?_
    refine lv_iload_n hx hb dX1_addRow_25 rfl (lv_at hl 0 rfl) ?_
    refine lv_iload_n hx hb dX1_addRow_26 rfl (lv_at hl 3 rfl) ?_
    refine gx_iast hx hb G 10 (by decide) (rfl) (by decide) nr hnr (by omega) dX1_addRow_27 (fun H locs G => ?_)
    refine lv_aload_n hx hb dX1_addRow_28 rfl (lv_at hl 1 rfl) ?_
    refine gx_get hx hb hts hinX1 hown G 1 (by decide) rfl rfl 6 (by decide) rfl lk32 rfl (v := .ref (ad 12)) rfl dX1_addRow_29 ?_
    refine lv_iload_n hx hb dX1_addRow_32 rfl (lv_at hl 0 rfl) ?_
    refine lv_iconst (v := 1) hx hb dX1_addRow_33 (by decide) ?_
    refine gx_zast hx hb G 12 (by decide) (rfl) (by decide) nr hnr (by omega) (rfl) dX1_addRow_34 (fun H locs G => ?_)
    refine lv_iconst (v := 0) hx hb dX1_addRow_35 (by decide) ?_
    refine lv_istore (lv' := [(4, .int 0), (3, .int (I 1 8)), (0, .ref (ad 1)), (1, .int se), (2, .int ri)]) hx hb dX1_addRow_36 hl (by decide) rfl (fun ls hl => ?_)
    have K38 : ∀ (nf : Nat) (r : Nat) (H : Heap) (locs : List Loc) (ls : Array Slot), (r ≤ 5) → 5 - r < nf → GG D ad cy A s I J (p_wipe (gU (gU (gU a 9 nr se) 10 nr ri) 12 nr 1) nr r) b H locs → lv_has ls 5 [(0, .ref (ad 1)), (1, .int se), (2, .int ri), (3, .int (I 1 8)), (4, .int (nI r))] → W p l e ({ frames := 0, cells := 0, slots := 0, locals := 0 }) s m args below meth c H locs 0 0 Q (F0 m 38 ls []) := by
      intro nf
      induction nf with
      | zero => exact fun _ _ _ _ _ hz => absurd hz (Nat.not_lt_zero _)
      | succ nf ih =>
        intro r H locs ls h1 hmeas G hl
        have ih38 := ih
        clear ih
        refine lv_iload hx hb dX1_addRow_38 (lv_at hl 4 rfl) ?_
        refine lv_iconst (v := 5) hx hb dX1_addRow_40 (by decide) ?_
        refine lv_icmp_ge (tgt := 60) hx hb dX1_addRow_41 (by decide) (fun c41 => ?_) (fun c41 => ?_)
        · skip
          have n41 := gn_le (X := 5) (Y := r) rfl rfl (by omega) (by omega) c41
          refine lv_aload_n hx hb dX1_addRow_60 rfl (lv_at hl 0 rfl) ?_
          refine lv_dup hx hb dX1_addRow_61 rfl ?_
          refine gx_get hx hb hts hinX1 hown G 1 (by decide) rfl rfl 8 (by decide) rfl lk40 rfl (v := .int (I 1 8)) rfl dX1_addRow_62 ?_
          refine lv_iconst (v := 1) hx hb dX1_addRow_65 (by decide) ?_
          refine lv_iadd hx hb dX1_addRow_66 ?_
          refine gx_putI hx hb hts hinX1 tyX1 tyX1_ok nmX1 hown G 1 (by decide) rfl rfl 8 (by decide) rfl lk40 rfl rfl (tyX1_ok 8 (by decide)) (rfl) (rfl) dX1_addRow_67 (fun H locs G => ?_)
          refine lv_iload_n hx hb dX1_addRow_70 rfl (lv_at hl 3 rfl) ?_
          exact gx_ir hx hb hr hlocks G hQ ⟨by simp only [c8, c41, reduceIte], by rw [show r = 5 by omega]; simp only [c8, c41, reduceIte, p_addRA]⟩ dX1_addRow_71
        · skip
          have n41 := gn_nle (X := 5) (Y := r) rfl rfl (by omega) (by omega) c41
          refine lv_aload_n hx hb dX1_addRow_44 rfl (lv_at hl 0 rfl) ?_
          refine gx_get hx hb hts hinX1 hown G 1 (by decide) rfl rfl 5 (by decide) rfl lk29 rfl (v := .ref (ad 11)) rfl dX1_addRow_45 ?_
          refine lv_iload_n hx hb dX1_addRow_48 rfl (lv_at hl 3 rfl) ?_
          refine gx_aald hx hb G 11 (by decide) rfl (Or.inl rfl) (by decide) nr hnr (by omega) dX1_addRow_49 ?_
          refine lv_iload hx hb dX1_addRow_50 (lv_at hl 4 rfl) ?_
          refine lv_iconst (v := 0) hx hb dX1_addRow_52 (by decide) ?_
          refine gx_iast hx hb G (40 + nr) (by omega) (gsh_F _ (by omega)) (by decide) r rfl (by omega) dX1_addRow_53 (fun H locs G => ?_)
          refine lv_iinc (v := (nI (r + 1))) (lv' := [(4, .int (nI (r + 1))), (0, .ref (ad 1)), (1, .int se), (2, .int ri), (3, .int (I 1 8))]) hx hb dX1_addRow_54 hl (k := 4) rfl (gn_add (X := r) (Y := 1) rfl rfl) (by decide) rfl (fun ls hl => ?_)
          refine lv_goto (tgt := 38) hx hb dX1_addRow_57 (by decide) ?_
          exact ih38  (r + 1) _ _ _ (by omega) (by omega) (gg_eq G rfl rfl (by first | rfl | (simp only [p_wipe, c41, reduceIte]; done) | (simp [p_wipe, c41, reduceIte]; done)) rfl) (lv_sub hl [1, 2, 3, 4, 0] rfl)
    exact K38 (5 - 0 + 1) 0 _ _ _ (by omega) (Nat.lt_succ_self _) (gg_eq G rfl rfl (by first | rfl | (simp only [p_wipe, c8, reduceIte]; done) | (simp [p_wipe, c8, reduceIte]; done)) rfl) (lv_sub hl [2, 3, 4, 1, 0] rfl)
  · skip
    have n8 := gn_nlt (X := nr) (Y := 8) hnr rfl (by omega) (by omega) c8
    refine lv_bipush (v := -4) hx hb dX1_addRow_11 (by decide) ?_
    exact gx_ir hx hb hr hlocks G hQ ⟨by simp only [c8, reduceIte], by simp only [c8, reduceIte]⟩ dX1_addRow_13

set_option maxHeartbeats 4000000 in
set_option maxRecDepth 100000 in
theorem kX1_countRows (l : Launch) (D : va_G) (ad : Nat → Nat) (cy : Nat → ClassId) (I : gF) (J : gL) (a : gF) (b : gL) (sz : Nat) (nr : Nat) (hnr : I 1 8 = nI nr) (hnr2 : nr ≤ 8) : gMi l yX1_countRows wsX1_countRows ({ frames := 0, cells := 0, slots := 0, locals := 0 }) D ad cy I J a b sz [.ref (ad 1)] (fun r u => r = p_cnt a nr ∧ u = (I, J, a, b)) := by
  refine Met.ofW (cc := cX1_countRows) (maxL := 3) (ret := some .int) (by decide) rfl ?_
  intro p e s m args below meth c s₁ B hml hv
  obtain ⟨hargs, hsz, G⟩ := gx_begin hv
  subst hsz
  have hx := B.exec
  have hb := B.bytes
  have hr := B.returns
  have hts := atoms_spec (ws := wsX1_countRows) B.pre
  have hown : s.vm.findClass RX1 = some m.cls := findClass_of_methodNamed B.named
  have hlocks := B.notSynchronized
  have hinX1 : ∀ w ∈ wsX10, w ∈ wsX1_countRows := by decide +kernel
  have lk32 := hts (.fieldLink RX1 32 "ExactSimplex$Problem" "there" "[Z") (by decide +kernel)
  have lk40 := hts (.fieldLink RX1 40 "ExactSimplex$Problem" "rows" "I") (by decide +kernel)
  have hl := lv_entry ([.ref (ad 1)]) (n := 3) (Nat.le_of_ble_eq_true rfl)
  have hent := lg_entry_eq m ([.ref (ad 1)]) 3
  rw [← hargs] at hent
  rw [hent]
  clear hent
  generalize (lg_sl ([.ref (ad 1)]) ++ List.replicate (3 - (lg_sl ([.ref (ad 1)])).length) Slot.unset).toArray = ls at hl ⊢
  have hl : lv_has ls 3 [(0, .ref (ad 1))] := hl
  generalize hA : gA ad s.heap.size = A at G ⊢
  generalize hH : s.heap = H at G ⊢
  refine gx_q (fun Q hQ => ?_)
  refine lv_iconst (v := 0) hx hb dX1_countRows_0 (by decide) ?_
  refine lv_istore_n (lv' := [(1, .int 0), (0, .ref (ad 1))]) hx hb dX1_countRows_1 rfl hl (by decide) rfl (fun ls hl => ?_)
  refine lv_iconst (v := 0) hx hb dX1_countRows_2 (by decide) ?_
  refine lv_istore_n (lv' := [(2, .int 0), (1, .int 0), (0, .ref (ad 1))]) hx hb dX1_countRows_3 rfl hl (by decide) rfl (fun ls hl => ?_)
  have K4 : ∀ (nf : Nat) (r : Nat) (H : Heap) (locs : List Loc) (ls : Array Slot), (r ≤ nr) → nr - r < nf → GG D ad cy A s I J a b H locs → lv_has ls 3 [(0, .ref (ad 1)), (1, .int (p_cnt a r)), (2, .int (nI r))] → W p l e ({ frames := 0, cells := 0, slots := 0, locals := 0 }) s m args below meth c H locs 0 0 Q (F0 m 4 ls []) := by
    intro nf
    induction nf with
    | zero => exact fun _ _ _ _ _ hz => absurd hz (Nat.not_lt_zero _)
    | succ nf ih =>
      intro r H locs ls h1 hmeas G hl
      have ih4 := ih
      clear ih
      refine lv_iload_n hx hb dX1_countRows_4 rfl (lv_at hl 2 rfl) ?_
      refine lv_aload_n hx hb dX1_countRows_5 rfl (lv_at hl 0 rfl) ?_
      refine gx_get hx hb hts hinX1 hown G 1 (by decide) rfl rfl 8 (by decide) rfl lk40 rfl (v := .int (I 1 8)) rfl dX1_countRows_6 ?_
      refine lv_icmp_ge (tgt := 30) hx hb dX1_countRows_9 (by decide) (fun c9 => ?_) (fun c9 => ?_)
      · skip
        have n9 := gn_le (X := nr) (Y := r) hnr rfl (by omega) (by omega) c9
        refine lv_iload_n hx hb dX1_countRows_30 rfl (lv_at hl 1 rfl) ?_
        exact gx_ir hx hb hr hlocks G hQ ⟨by first | rfl | (simp only [p_cnt, c9, reduceIte]; done) | (rw [show nr = r by omega]; done) | (rw [show nr = r by omega]; simp only [p_cnt, c9, reduceIte]; done) | (simp [p_cnt, c9, reduceIte]; done), rfl⟩ dX1_countRows_31
      · skip
        have n9 := gn_nle (X := nr) (Y := r) hnr rfl (by omega) (by omega) c9
        refine lv_aload_n hx hb dX1_countRows_12 rfl (lv_at hl 0 rfl) ?_
        refine gx_get hx hb hts hinX1 hown G 1 (by decide) rfl rfl 6 (by decide) rfl lk32 rfl (v := .ref (ad 12)) rfl dX1_countRows_13 ?_
        refine lv_iload_n hx hb dX1_countRows_16 rfl (lv_at hl 2 rfl) ?_
        refine gx_zald hx hb G 12 (by decide) (rfl) (by decide) r rfl (by omega) dX1_countRows_17 ?_
        refine lv_if_eq (tgt := 24) hx hb dX1_countRows_18 (by decide) (fun c18 => ?_) (fun c18 => ?_)
        · skip
          refine lv_iinc (v := (nI (r + 1))) (lv' := [(2, .int (nI (r + 1))), (0, .ref (ad 1)), (1, .int (p_cnt a r))]) hx hb dX1_countRows_24 hl (k := 2) rfl (gn_add (X := r) (Y := 1) rfl rfl) (by decide) rfl (fun ls hl => ?_)
          refine lv_goto (tgt := 4) hx hb dX1_countRows_27 (by decide) ?_
          have q1 : p_cnt a r = p_cnt a (r + 1) := by first | rfl | (simp only [p_cnt, c9, c18, reduceIte]; done) | (rw [show nr = r by omega]; done) | (rw [show nr = r by omega]; simp only [p_cnt, c9, c18, reduceIte]; done) | (simp [p_cnt, c9, c18, reduceIte]; done)
          rw [q1] at hl
          exact ih4  (r + 1) _ _ _ (by omega) (by omega) G (lv_sub hl [1, 2, 0] rfl)
        · skip
          obtain ⟨x_1, ex_1⟩ : ∃ z : Int32, z = (p_cnt a r) + 1 := ⟨_, rfl⟩
          refine lv_iinc (v := x_1) (lv' := [(1, .int x_1), (0, .ref (ad 1)), (2, .int (nI r))]) hx hb dX1_countRows_21 hl (k := 1) rfl ex_1.symm (by decide) rfl (fun ls hl => ?_)
          refine lv_iinc (v := (nI (r + 1))) (lv' := [(2, .int (nI (r + 1))), (1, .int x_1), (0, .ref (ad 1))]) hx hb dX1_countRows_24 hl (k := 2) rfl (gn_add (X := r) (Y := 1) rfl rfl) (by decide) rfl (fun ls hl => ?_)
          refine lv_goto (tgt := 4) hx hb dX1_countRows_27 (by decide) ?_
          have q1 : x_1 = p_cnt a (r + 1) := by rw [ex_1]; first | rfl | (simp only [p_cnt, c9, c18, reduceIte]; done) | (rw [show nr = r by omega]; done) | (rw [show nr = r by omega]; simp only [p_cnt, c9, c18, reduceIte]; done) | (simp [p_cnt, c9, c18, reduceIte]; done)
          rw [q1] at hl
          exact ih4  (r + 1) _ _ _ (by omega) (by omega) G (lv_sub hl [2, 1, 0] rfl)
  exact K4 (nr - 0 + 1) 0 _ _ _ (by omega) (Nat.lt_succ_self _) G (lv_sub hl [2, 1, 0] rfl)

set_option maxHeartbeats 4000000 in
set_option maxRecDepth 100000 in
theorem kX1_countWhole (l : Launch) (D : va_G) (ad : Nat → Nat) (cy : Nat → ClassId) (I : gF) (J : gL) (a : gF) (b : gL) (sz : Nat) (nn : Nat) (hnn : I 1 7 = nI nn) (hnn2 : nn ≤ 5) : gMl l yX1_countWhole wsX1_countWhole ({ frames := 0, cells := 0, slots := 0, locals := 0 }) D ad cy I J a b sz [.ref (ad 1)] (fun r u => r = p_cw a nn ∧ u = (I, J, a, b)) := by
  refine Met.ofW (cc := cX1_countWhole) (maxL := 4) (ret := some .long) (by decide) rfl ?_
  intro p e s m args below meth c s₁ B hml hv
  obtain ⟨hargs, hsz, G⟩ := gx_begin hv
  subst hsz
  have hx := B.exec
  have hb := B.bytes
  have hr := B.returns
  have hts := atoms_spec (ws := wsX1_countWhole) B.pre
  have hown : s.vm.findClass RX1 = some m.cls := findClass_of_methodNamed B.named
  have hlocks := B.notSynchronized
  have hinX1 : ∀ w ∈ wsX10, w ∈ wsX1_countWhole := by decide +kernel
  have lk9 := hts (.fieldLink RX1 9 "ExactSimplex$Problem" "lows" "[I") (by decide +kernel)
  have lk15 := hts (.fieldLink RX1 15 "ExactSimplex$Problem" "highs" "[I") (by decide +kernel)
  have lk36 := hts (.fieldLink RX1 36 "ExactSimplex$Problem" "names" "I") (by decide +kernel)
  have hl := lv_entry ([.ref (ad 1)]) (n := 4) (Nat.le_of_ble_eq_true rfl)
  have hent := lg_entry_eq m ([.ref (ad 1)]) 4
  rw [← hargs] at hent
  rw [hent]
  clear hent
  generalize (lg_sl ([.ref (ad 1)]) ++ List.replicate (4 - (lg_sl ([.ref (ad 1)])).length) Slot.unset).toArray = ls at hl ⊢
  have hl : lv_has ls 4 [(0, .ref (ad 1))] := hl
  generalize hA : gA ad s.heap.size = A at G ⊢
  generalize hH : s.heap = H at G ⊢
  refine gx_q (fun Q hQ => ?_)
  refine lv_lconst (v := 1) hx hb dX1_countWhole_0 (by decide) ?_
  refine lv_lstore_n (lv' := [(1, .long 1), (0, .ref (ad 1))]) hx hb dX1_countWhole_1 rfl hl (by decide) rfl (fun ls hl => ?_)
  refine lv_iconst (v := 0) hx hb dX1_countWhole_2 (by decide) ?_
  refine lv_istore_n (lv' := [(3, .int 0), (1, .long 1), (0, .ref (ad 1))]) hx hb dX1_countWhole_3 rfl hl (by decide) rfl (fun ls hl => ?_)
  have K4 : ∀ (nf : Nat) (r : Nat) (H : Heap) (locs : List Loc) (ls : Array Slot), (r ≤ nn) → nn - r < nf → GG D ad cy A s I J a b H locs → lv_has ls 4 [(0, .ref (ad 1)), (1, .long (p_cw a r)), (3, .int (nI r))] → W p l e ({ frames := 0, cells := 0, slots := 0, locals := 0 }) s m args below meth c H locs 0 0 Q (F0 m 4 ls []) := by
    intro nf
    induction nf with
    | zero => exact fun _ _ _ _ _ hz => absurd hz (Nat.not_lt_zero _)
    | succ nf ih =>
      intro r H locs ls h1 hmeas G hl
      have ih4 := ih
      clear ih
      refine lv_iload_n hx hb dX1_countWhole_4 rfl (lv_at hl 2 rfl) ?_
      refine lv_aload_n hx hb dX1_countWhole_5 rfl (lv_at hl 0 rfl) ?_
      refine gx_get hx hb hts hinX1 hown G 1 (by decide) rfl rfl 7 (by decide) rfl lk36 rfl (v := .int (I 1 7)) rfl dX1_countWhole_6 ?_
      refine lv_icmp_ge (tgt := 37) hx hb dX1_countWhole_9 (by decide) (fun c9 => ?_) (fun c9 => ?_)
      · skip
        have n9 := gn_le (X := nn) (Y := r) hnn rfl (by omega) (by omega) c9
        refine lv_lload_n hx hb dX1_countWhole_37 rfl (lv_at hl 1 rfl) ?_
        exact gx_lr hx hb hr hlocks G hQ ⟨by first | rfl | (simp only [p_cw, c9, reduceIte]; done) | (rw [show nn = r by omega]; done) | (rw [show nn = r by omega]; simp only [p_cw, c9, reduceIte]; done) | (simp [p_cw, c9, reduceIte]; done), rfl⟩ dX1_countWhole_38
      · skip
        have n9 := gn_nle (X := nn) (Y := r) hnn rfl (by omega) (by omega) c9
        refine lv_lload_n hx hb dX1_countWhole_12 rfl (lv_at hl 1 rfl) ?_
        refine lv_aload_n hx hb dX1_countWhole_13 rfl (lv_at hl 0 rfl) ?_
        refine gx_get hx hb hts hinX1 hown G 1 (by decide) rfl rfl 1 (by decide) rfl lk15 rfl (v := .ref (ad 7)) rfl dX1_countWhole_14 ?_
        refine lv_iload_n hx hb dX1_countWhole_17 rfl (lv_at hl 2 rfl) ?_
        refine gx_iald hx hb G 7 (by decide) (rfl) (by decide) r rfl (by omega) dX1_countWhole_18 ?_
        refine lv_aload_n hx hb dX1_countWhole_19 rfl (lv_at hl 0 rfl) ?_
        refine gx_get hx hb hts hinX1 hown G 1 (by decide) rfl rfl 0 (by decide) rfl lk9 rfl (v := .ref (ad 6)) rfl dX1_countWhole_20 ?_
        refine lv_iload_n hx hb dX1_countWhole_23 rfl (lv_at hl 2 rfl) ?_
        refine gx_iald hx hb G 6 (by decide) (rfl) (by decide) r rfl (by omega) dX1_countWhole_24 ?_
        refine lv_isub hx hb dX1_countWhole_25 ?_
        refine lv_iconst (v := 1) hx hb dX1_countWhole_26 (by decide) ?_
        refine lv_iadd hx hb dX1_countWhole_27 ?_
        refine lv_i2l (v := (((a 7 r) - (a 6 r)) + 1).toInt64) hx hb dX1_countWhole_28 rfl ?_
        refine lv_lmul hx hb dX1_countWhole_29 ?_
        refine lv_topl (fun x_1 ex_1 => ?_)
        refine lv_lstore_n (lv' := [(1, .long x_1), (0, .ref (ad 1)), (3, .int (nI r))]) hx hb dX1_countWhole_30 rfl hl (by decide) rfl (fun ls hl => ?_)
        refine lv_iinc (v := (nI (r + 1))) (lv' := [(3, .int (nI (r + 1))), (1, .long x_1), (0, .ref (ad 1))]) hx hb dX1_countWhole_31 hl (k := 2) rfl (gn_add (X := r) (Y := 1) rfl rfl) (by decide) rfl (fun ls hl => ?_)
        refine lv_goto (tgt := 4) hx hb dX1_countWhole_34 (by decide) ?_
        have q1 : x_1 = p_cw a (r + 1) := by rw [ex_1]; first | rfl | (simp only [p_cw, c9, reduceIte]; done) | (rw [show nn = r by omega]; done) | (rw [show nn = r by omega]; simp only [p_cw, c9, reduceIte]; done) | (simp [p_cw, c9, reduceIte]; done)
        rw [q1] at hl
        exact ih4  (r + 1) _ _ _ (by omega) (by omega) G (lv_sub hl [2, 1, 0] rfl)
  exact K4 (nn - 0 + 1) 0 _ _ _ (by omega) (Nat.lt_succ_self _) G (lv_sub hl [2, 1, 0] rfl)

set_option maxHeartbeats 4000000 in
set_option maxRecDepth 100000 in
theorem kX1_limitsFromAbove (l : Launch) (D : va_G) (ad : Nat → Nat) (cy : Nat → ClassId) (I : gF) (J : gL) (a : gF) (b : gL) (sz : Nat) (r : Nat) (hr8 : r < 8) : gMi l yX1_limitsFromAbove wsX1_limitsFromAbove ({ frames := 0, cells := 0, slots := 0, locals := 0 }) D ad cy I J a b sz [.ref (ad 1), .int (nI r)] (fun q u => q = p_above a r ∧ u = (I, J, a, b)) := by
  refine Met.ofW (cc := cX1_limitsFromAbove) (maxL := 2) (ret := some .boolean) (by decide) rfl ?_
  intro p e s m args below meth c s₁ B hml hv
  obtain ⟨hargs, hsz, G⟩ := gx_begin hv
  subst hsz
  have hx := B.exec
  have hb := B.bytes
  have hr := B.returns
  have hts := atoms_spec (ws := wsX1_limitsFromAbove) B.pre
  have hown : s.vm.findClass RX1 = some m.cls := findClass_of_methodNamed B.named
  have hlocks := B.notSynchronized
  have hinX1 : ∀ w ∈ wsX10, w ∈ wsX1_limitsFromAbove := by decide +kernel
  have lk21 := hts (.fieldLink RX1 21 "ExactSimplex$Problem" "senses" "[I") (by decide +kernel)
  have hl := lv_entry ([.ref (ad 1), .int (nI r)]) (n := 2) (Nat.le_of_ble_eq_true rfl)
  have hent := lg_entry_eq m ([.ref (ad 1), .int (nI r)]) 2
  rw [← hargs] at hent
  rw [hent]
  clear hent
  generalize (lg_sl ([.ref (ad 1), .int (nI r)]) ++ List.replicate (2 - (lg_sl ([.ref (ad 1), .int (nI r)])).length) Slot.unset).toArray = ls at hl ⊢
  have hl : lv_has ls 2 [(0, .ref (ad 1)), (1, .int (nI r))] := hl
  generalize hA : gA ad s.heap.size = A at G ⊢
  generalize hH : s.heap = H at G ⊢
  refine gx_q (fun Q hQ => ?_)
  refine lv_aload_n hx hb dX1_limitsFromAbove_0 rfl (lv_at hl 0 rfl) ?_
  refine gx_get hx hb hts hinX1 hown G 1 (by decide) rfl rfl 3 (by decide) rfl lk21 rfl (v := .ref (ad 9)) rfl dX1_limitsFromAbove_1 ?_
  refine lv_iload_n hx hb dX1_limitsFromAbove_4 rfl (lv_at hl 1 rfl) ?_
  refine gx_iald hx hb G 9 (by decide) (rfl) (by decide) r rfl (by omega) dX1_limitsFromAbove_5 ?_
  refine lv_if_eq (tgt := 19) hx hb dX1_limitsFromAbove_6 (by decide) (fun c6 => ?_) (fun c6 => ?_)
  · skip
    refine lv_iconst (v := 1) hx hb dX1_limitsFromAbove_19 (by decide) ?_
    refine lv_goto (tgt := 24) hx hb dX1_limitsFromAbove_20 (by decide) ?_
    exact gx_zr hx hb hr hlocks G hQ (rfl) ⟨by first | rfl | (simp only [p_above, c6, reduceIte]; done) | (simp [p_above, c6, reduceIte]; done), rfl⟩ dX1_limitsFromAbove_24
  · skip
    refine lv_aload_n hx hb dX1_limitsFromAbove_9 rfl (lv_at hl 0 rfl) ?_
    refine gx_get hx hb hts hinX1 hown G 1 (by decide) rfl rfl 3 (by decide) rfl lk21 rfl (v := .ref (ad 9)) rfl dX1_limitsFromAbove_10 ?_
    refine lv_iload_n hx hb dX1_limitsFromAbove_13 rfl (lv_at hl 1 rfl) ?_
    refine gx_iald hx hb G 9 (by decide) (rfl) (by decide) r rfl (by omega) dX1_limitsFromAbove_14 ?_
    refine lv_iconst (v := 1) hx hb dX1_limitsFromAbove_15 (by decide) ?_
    refine lv_icmp_ne (tgt := 23) hx hb dX1_limitsFromAbove_16 (by decide) (fun c16 => ?_) (fun c16 => ?_)
    · skip
      refine lv_iconst (v := 0) hx hb dX1_limitsFromAbove_23 (by decide) ?_
      exact gx_zr hx hb hr hlocks G hQ (rfl) ⟨by first | rfl | (simp only [p_above, c6, c16, reduceIte]; done) | (simp [p_above, c6, c16, reduceIte]; done), rfl⟩ dX1_limitsFromAbove_24
    · skip
      refine lv_iconst (v := 1) hx hb dX1_limitsFromAbove_19 (by decide) ?_
      refine lv_goto (tgt := 24) hx hb dX1_limitsFromAbove_20 (by decide) ?_
      exact gx_zr hx hb hr hlocks G hQ (rfl) ⟨by first | rfl | (simp only [p_above, c6, c16, reduceIte]; done) | (simp [p_above, c6, c16, reduceIte]; done), rfl⟩ dX1_limitsFromAbove_24

set_option maxHeartbeats 4000000 in
set_option maxRecDepth 100000 in
theorem kX1_limitsFromBelow (l : Launch) (D : va_G) (ad : Nat → Nat) (cy : Nat → ClassId) (I : gF) (J : gL) (a : gF) (b : gL) (sz : Nat) (r : Nat) (hr8 : r < 8) : gMi l yX1_limitsFromBelow wsX1_limitsFromBelow ({ frames := 0, cells := 0, slots := 0, locals := 0 }) D ad cy I J a b sz [.ref (ad 1), .int (nI r)] (fun q u => q = p_below a r ∧ u = (I, J, a, b)) := by
  refine Met.ofW (cc := cX1_limitsFromBelow) (maxL := 2) (ret := some .boolean) (by decide) rfl ?_
  intro p e s m args below meth c s₁ B hml hv
  obtain ⟨hargs, hsz, G⟩ := gx_begin hv
  subst hsz
  have hx := B.exec
  have hb := B.bytes
  have hr := B.returns
  have hts := atoms_spec (ws := wsX1_limitsFromBelow) B.pre
  have hown : s.vm.findClass RX1 = some m.cls := findClass_of_methodNamed B.named
  have hlocks := B.notSynchronized
  have hinX1 : ∀ w ∈ wsX10, w ∈ wsX1_limitsFromBelow := by decide +kernel
  have lk21 := hts (.fieldLink RX1 21 "ExactSimplex$Problem" "senses" "[I") (by decide +kernel)
  have hl := lv_entry ([.ref (ad 1), .int (nI r)]) (n := 2) (Nat.le_of_ble_eq_true rfl)
  have hent := lg_entry_eq m ([.ref (ad 1), .int (nI r)]) 2
  rw [← hargs] at hent
  rw [hent]
  clear hent
  generalize (lg_sl ([.ref (ad 1), .int (nI r)]) ++ List.replicate (2 - (lg_sl ([.ref (ad 1), .int (nI r)])).length) Slot.unset).toArray = ls at hl ⊢
  have hl : lv_has ls 2 [(0, .ref (ad 1)), (1, .int (nI r))] := hl
  generalize hA : gA ad s.heap.size = A at G ⊢
  generalize hH : s.heap = H at G ⊢
  refine gx_q (fun Q hQ => ?_)
  refine lv_aload_n hx hb dX1_limitsFromBelow_0 rfl (lv_at hl 0 rfl) ?_
  refine gx_get hx hb hts hinX1 hown G 1 (by decide) rfl rfl 3 (by decide) rfl lk21 rfl (v := .ref (ad 9)) rfl dX1_limitsFromBelow_1 ?_
  refine lv_iload_n hx hb dX1_limitsFromBelow_4 rfl (lv_at hl 1 rfl) ?_
  refine gx_iald hx hb G 9 (by decide) (rfl) (by decide) r rfl (by omega) dX1_limitsFromBelow_5 ?_
  refine lv_iconst (v := 2) hx hb dX1_limitsFromBelow_6 (by decide) ?_
  refine lv_icmp_eq (tgt := 20) hx hb dX1_limitsFromBelow_7 (by decide) (fun c7 => ?_) (fun c7 => ?_)
  · skip
    refine lv_iconst (v := 1) hx hb dX1_limitsFromBelow_20 (by decide) ?_
    refine lv_goto (tgt := 25) hx hb dX1_limitsFromBelow_21 (by decide) ?_
    exact gx_zr hx hb hr hlocks G hQ (rfl) ⟨by first | rfl | (simp only [p_below, c7, reduceIte]; done) | (simp [p_below, c7, reduceIte]; done), rfl⟩ dX1_limitsFromBelow_25
  · skip
    refine lv_aload_n hx hb dX1_limitsFromBelow_10 rfl (lv_at hl 0 rfl) ?_
    refine gx_get hx hb hts hinX1 hown G 1 (by decide) rfl rfl 3 (by decide) rfl lk21 rfl (v := .ref (ad 9)) rfl dX1_limitsFromBelow_11 ?_
    refine lv_iload_n hx hb dX1_limitsFromBelow_14 rfl (lv_at hl 1 rfl) ?_
    refine gx_iald hx hb G 9 (by decide) (rfl) (by decide) r rfl (by omega) dX1_limitsFromBelow_15 ?_
    refine lv_iconst (v := 1) hx hb dX1_limitsFromBelow_16 (by decide) ?_
    refine lv_icmp_ne (tgt := 24) hx hb dX1_limitsFromBelow_17 (by decide) (fun c17 => ?_) (fun c17 => ?_)
    · skip
      refine lv_iconst (v := 0) hx hb dX1_limitsFromBelow_24 (by decide) ?_
      exact gx_zr hx hb hr hlocks G hQ (rfl) ⟨by first | rfl | (simp only [p_below, c7, c17, reduceIte]; done) | (simp [p_below, c7, c17, reduceIte]; done), rfl⟩ dX1_limitsFromBelow_25
    · skip
      refine lv_iconst (v := 1) hx hb dX1_limitsFromBelow_20 (by decide) ?_
      refine lv_goto (tgt := 25) hx hb dX1_limitsFromBelow_21 (by decide) ?_
      exact gx_zr hx hb hr hlocks G hQ (rfl) ⟨by first | rfl | (simp only [p_below, c7, c17, reduceIte]; done) | (simp [p_below, c7, c17, reduceIte]; done), rfl⟩ dX1_limitsFromBelow_25
