/-! The reference: I 5 0 names, I 5 1 rows, a 27 low, a 28 high, a 29 costs, a 30 sense, a 31 rights, a 32 factors (5 to a row), a 33 alive, I 5 9 known, I 5 10 has, J 5 11 costOver, J 5 12 costUnder, b 34 bestOver, J 5 14 bestUnder, b 35 reachOver, b 36 reachUnder, b 37 farOver, b 38 farUnder, a 39 isBarred, b 87 matrix, a 88 pick, b 89 over, J 5 23 under, I 5 24 any, a 90 point, a 91 wholeBest, I 5 27 wholeCost -/
def m_isN (I : gF) (v : Int32) : Int32 := if v < 0 then 0 else if I 5 0 ≤ v then 0 else 1
def m_isR (I a : gF) (v : Int32) : Int32 := if v < 0 then 0 else if I 5 1 ≤ v then 0 else if a 33 (cN v) = 0 then 0 else 1
def m_span (lo hi : Int32) : Int32 := if lo < -100 then 0 else if 100 < hi then 0 else if hi < lo then 0 else 1
def m_cmp (x y z w : Int64) : Int32 := if z * y ≤ x * w then if x * w ≤ z * y then 0 else 1 else -1
def m_cnt (a : gF) : Nat → Int32
  | 0 => 0
  | n + 1 => if a 33 n = 0 then m_cnt a n + 0 else m_cnt a n + 1
def m_wipN (a : gF) (mn : Nat) : Nat → gF
  | 0 => a
  | r + 1 => gU (m_wipN a mn r) 32 ((5 * r) + mn) 0
def m_wipR (a : gF) (mr : Nat) : Nat → gF
  | 0 => a
  | r + 1 => gU (m_wipR a mr r) 32 ((5 * mr) + r) 0
def m_cw (a : gF) : Nat → Int64
  | 0 => 1
  | n + 1 => m_cw a n * (a 28 n - a 27 n + 1).toInt64
def m_large (a : gF) (mn : Nat) : Int32 := if m_cw a mn ≤ 20000 then 0 else 1
theorem m_isN_ix {I : gF} {nn : Nat} {v : Int32} (h : I 5 0 = nI nn) (hn : nn < 2 ^ 31) (hp : ¬ m_isN I v = 0) : ∃ j, j < nn ∧ v = nI j := by
  unfold m_isN at hp
  split at hp
  · exact absurd rfl hp
  · rename_i c1
    split at hp
    · exact absurd rfl hp
    · rename_i c2
      obtain ⟨j, hj, ej⟩ := nI_of c1
      exact ⟨j, gn_nle (X := nn) (Y := j) h ej hn hj c2, ej⟩
theorem m_isR_ix {I a : gF} {nr : Nat} {v : Int32} (h : I 5 1 = nI nr) (hn : nr < 2 ^ 31) (hp : ¬ m_isR I a v = 0) : ∃ j, j < nr ∧ v = nI j := by
  unfold m_isR at hp
  split at hp
  · exact absurd rfl hp
  · rename_i c1
    split at hp
    · exact absurd rfl hp
    · rename_i c2
      obtain ⟨j, hj, ej⟩ := nI_of c1
      exact ⟨j, gn_nle (X := nr) (Y := j) h ej hn hj c2, ej⟩
def m_name (x : gS) (lo hi : Int32) : Int32 := if m_span lo hi = 0 then -2 else if x.1 5 0 = 5 then -4 else x.1 5 0 + 1 - 1
def m_nameS (x : gS) (lo hi : Int32) : gS := if m_span lo hi = 0 then x else if x.1 5 0 = 5 then x else (gU (gU x.1 5 0 (x.1 5 0 + 1)) 5 9 0, x.2.1, m_wipN (gU (gU (gU x.2.2.1 27 (cN (x.1 5 0)) lo) 28 (cN (x.1 5 0)) hi) 29 (cN (x.1 5 0)) 0) (cN (x.1 5 0)) 8, x.2.2.2)
def m_sp (x : gS) (v lo hi : Int32) : Int32 := if m_isN x.1 v = 0 then -1 else if m_span lo hi = 0 then -2 else 1
def m_spS (x : gS) (v lo hi : Int32) : gS := if m_isN x.1 v = 0 then x else if m_span lo hi = 0 then x else (gU x.1 5 9 0, x.2.1, gU (gU x.2.2.1 27 (cN v) lo) 28 (cN v) hi, x.2.2.2)
def m_co (x : gS) (v w : Int32) : Int32 := if m_isN x.1 v = 0 then -1 else if w < -99 then -2 else if w ≤ 99 then x.2.2.1 29 (cN v) else -2
def m_coS (x : gS) (v w : Int32) : gS := if m_isN x.1 v = 0 then x else if w < -99 then x else if w ≤ 99 then (gU x.1 5 9 0, x.2.1, gU x.2.2.1 29 (cN v) w, x.2.2.2) else x
def m_row (x : gS) (se ri : Int32) : Int32 := if se < 0 then -2 else if 2 < se then -2 else if ri < -1000 then -2 else if ri ≤ 1000 then if x.1 5 1 = 8 then -4 else x.1 5 1 + 1 - 1 else -2
def m_rowS (x : gS) (se ri : Int32) : gS := if se < 0 then x else if 2 < se then x else if ri < -1000 then x else if ri ≤ 1000 then if x.1 5 1 = 8 then x else (gU (gU x.1 5 1 (x.1 5 1 + 1)) 5 9 0, x.2.1, m_wipR (gU (gU (gU x.2.2.1 30 (cN (x.1 5 1)) se) 31 (cN (x.1 5 1)) ri) 33 (cN (x.1 5 1)) 1) (cN (x.1 5 1)) 5, x.2.2.2) else x
def m_right (x : gS) (r w : Int32) : Int32 := if m_isR x.1 x.2.2.1 r = 0 then -1 else if w < -1000 then -2 else if w ≤ 1000 then 1 else -2
def m_rightS (x : gS) (r w : Int32) : gS := if m_isR x.1 x.2.2.1 r = 0 then x else if w < -1000 then x else if w ≤ 1000 then (gU x.1 5 9 0, x.2.1, gU x.2.2.1 31 (cN r) w, x.2.2.2) else x
def m_factor (x : gS) (r v w : Int32) : Int32 := if m_isR x.1 x.2.2.1 r = 0 then -1 else if m_isN x.1 v = 0 then -1 else if w < -9 then -2 else if w ≤ 9 then 1 else -2
def m_factorS (x : gS) (r v w : Int32) : gS := if m_isR x.1 x.2.2.1 r = 0 then x else if m_isN x.1 v = 0 then x else if w < -9 then x else if w ≤ 9 then (gU x.1 5 9 0, x.2.1, gU x.2.2.1 32 ((5 * cN r) + cN v) w, x.2.2.2) else x
def m_drop (x : gS) (r : Int32) : Int32 := if m_isR x.1 x.2.2.1 r = 0 then -1 else m_cnt (gU x.2.2.1 33 (cN r) 0) (cN (x.1 5 1))
def m_dropS (x : gS) (r : Int32) : gS := if m_isR x.1 x.2.2.1 r = 0 then x else (gU x.1 5 9 0, x.2.1, gU x.2.2.1 33 (cN r) 0, x.2.2.2)
def m_clear (x : gS) : Int32 := x.1 5 0
def m_clearS (x : gS) : gS := (gU (gU (gU x.1 5 0 0) 5 1 0) 5 9 0, x.2.1, x.2.2.1, x.2.2.2)
def m_told (x : gS) (w : Int32) : Int32 := if w = 0 then x.1 5 0 else if w = 1 then m_cnt x.2.2.1 (cN (x.1 5 1)) else if w = 2 then x.1 5 1 else -2
/-- a condition's part: rows 0 .. 7, low ends 8 .. 12, high ends 13 .. 17; part 5 is its right side -/
def m_part (a : gF) (c nm : Nat) : Int64 := if 8 ≤ nI c then if nI nm = 5 then if 13 ≤ nI c then (a 28 ((c - 8) % 5)).toInt64 else (a 27 ((c - 8) % 5)).toInt64 else if nI nm = nI ((c - 8) % 5) then 1 else 0 else if nI nm = 5 then (a 31 c).toInt64 else (a 32 ((5 * c) + nm)).toInt64
theorem m_of {c : Nat} (h : 8 ≤ c) (hc : c < 18) : nI c - 8 - (nI c - 8) / 5 * 5 = nI ((c - 8) % 5) := by
  rw [show nI c - 8 = nI (c - 8) from pk_sub (b := 8) h]
  exact pk_rem (d := 5) (by omega) (by decide) (by decide)
def m_there (I : gF) (set : Int32) (c : Nat) : Int32 := if 8 ≤ nI c then if I 5 0 ≤ nI ((c - 8) % 5) then 0 else 1 else if (set >>> (nI c &&& 31)) &&& 1 = 1 then 1 else 0
def m_aft (I : gF) (set : Int32) : Nat → Nat → Nat
  | 0, k => k
  | n + 1, k => if m_there I set k = 0 then m_aft I set n (k + 1) else k
theorem m_aft_s (I : gF) (set : Int32) {k : Nat} (h : k < 18) : m_aft I set (18 - k) k = if m_there I set k = 0 then m_aft I set (18 - (k + 1)) (k + 1) else k := by
  rw [show 18 - k = (18 - (k + 1)) + 1 by omega]
  rfl
def m_all (a : gF) : Nat → Int32
  | 0 => 0
  | n + 1 => if a 33 n = 0 then m_all a n ||| 0 else m_all a n ||| ((1 : Int32) <<< (nI n &&& 31))

set_option maxHeartbeats 4000000 in
set_option maxRecDepth 100000 in
theorem kX5_isName (l : Launch) (D : va_G) (ad : Nat → Nat) (cy : Nat → ClassId) (I : gF) (J : gL) (a : gF) (b : gL) (sz : Nat) (v : Int32)  : gMi l yX5_isName wsX5_isName ({ frames := 0, cells := 0, slots := 0, locals := 0 }) D ad cy I J a b sz [.ref (ad 5), .int v] (fun r u => r = m_isN I v ∧ u = (I, J, a, b)) := by
  refine Met.ofW (cc := cX5_isName) (maxL := 2) (ret := some .boolean) (by decide) rfl ?_
  intro p e s m args below meth c s₁ B hml hv
  obtain ⟨hargs, hsz, G⟩ := gx_begin hv
  subst hsz
  have hx := B.exec
  have hb := B.bytes
  have hr := B.returns
  have hts := atoms_spec (ws := wsX5_isName) B.pre
  have hown : s.vm.findClass RX5 = some m.cls := findClass_of_methodNamed B.named
  have hlocks := B.notSynchronized
  have hinX5 : ∀ w ∈ wsX50, w ∈ wsX5_isName := by decide +kernel
  have lk66 := hts (.fieldLink RX5 66 "ExactSimplexModel" "names" "I") (by decide +kernel)
  have hl := lv_entry ([.ref (ad 5), .int v]) (n := 2) (Nat.le_of_ble_eq_true rfl)
  have hent := lg_entry_eq m ([.ref (ad 5), .int v]) 2
  rw [← hargs] at hent
  rw [hent]
  clear hent
  generalize (lg_sl ([.ref (ad 5), .int v]) ++ List.replicate (2 - (lg_sl ([.ref (ad 5), .int v])).length) Slot.unset).toArray = ls at hl ⊢
  have hl : lv_has ls 2 [(0, .ref (ad 5)), (1, .int v)] := hl
  generalize hA : gA ad s.heap.size = A at G ⊢
  generalize hH : s.heap = H at G ⊢
  refine gx_q (fun Q hQ => ?_)
  refine lv_iload_n hx hb dX5_isName_0 rfl (lv_at hl 1 rfl) ?_
  refine lv_if_lt (tgt := 16) hx hb dX5_isName_1 (by decide) (fun c1 => ?_) (fun c1 => ?_)
  · skip
    refine lv_iconst (v := 0) hx hb dX5_isName_16 (by decide) ?_
    exact gx_zr hx hb hr hlocks G hQ (rfl) ⟨by first | rfl | (simp only [m_isN, c1, reduceIte]; done) | (simp [m_isN, c1, reduceIte]; done), rfl⟩ dX5_isName_17
  · skip
    refine lv_iload_n hx hb dX5_isName_4 rfl (lv_at hl 1 rfl) ?_
    refine lv_aload_n hx hb dX5_isName_5 rfl (lv_at hl 0 rfl) ?_
    refine gx_get hx hb hts hinX5 hown G 5 (by decide) rfl rfl 0 (by decide) rfl lk66 rfl (v := .int (I 5 0)) rfl dX5_isName_6 ?_
    refine lv_icmp_ge (tgt := 16) hx hb dX5_isName_9 (by decide) (fun c9 => ?_) (fun c9 => ?_)
    · skip
      refine lv_iconst (v := 0) hx hb dX5_isName_16 (by decide) ?_
      exact gx_zr hx hb hr hlocks G hQ (rfl) ⟨by first | rfl | (simp only [m_isN, c1, c9, reduceIte]; done) | (simp [m_isN, c1, c9, reduceIte]; done), rfl⟩ dX5_isName_17
    · skip
      refine lv_iconst (v := 1) hx hb dX5_isName_12 (by decide) ?_
      refine lv_goto (tgt := 17) hx hb dX5_isName_13 (by decide) ?_
      exact gx_zr hx hb hr hlocks G hQ (rfl) ⟨by first | rfl | (simp only [m_isN, c1, c9, reduceIte]; done) | (simp [m_isN, c1, c9, reduceIte]; done), rfl⟩ dX5_isName_17

set_option maxHeartbeats 4000000 in
set_option maxRecDepth 100000 in
theorem kX5_isRow (l : Launch) (D : va_G) (ad : Nat → Nat) (cy : Nat → ClassId) (I : gF) (J : gL) (a : gF) (b : gL) (sz : Nat) (mr : Nat) (v : Int32) (hmr : I 5 1 = nI mr) (hmr2 : mr ≤ 8) : gMi l yX5_isRow wsX5_isRow ({ frames := 0, cells := 0, slots := 0, locals := 0 }) D ad cy I J a b sz [.ref (ad 5), .int v] (fun r u => r = m_isR I a v ∧ u = (I, J, a, b)) := by
  refine Met.ofW (cc := cX5_isRow) (maxL := 2) (ret := some .boolean) (by decide) rfl ?_
  intro p e s m args below meth c s₁ B hml hv
  obtain ⟨hargs, hsz, G⟩ := gx_begin hv
  subst hsz
  have hx := B.exec
  have hb := B.bytes
  have hr := B.returns
  have hts := atoms_spec (ws := wsX5_isRow) B.pre
  have hown : s.vm.findClass RX5 = some m.cls := findClass_of_methodNamed B.named
  have hlocks := B.notSynchronized
  have hinX5 : ∀ w ∈ wsX50, w ∈ wsX5_isRow := by decide +kernel
  have lk28 := hts (.fieldLink RX5 28 "ExactSimplexModel" "alive" "[Z") (by decide +kernel)
  have lk78 := hts (.fieldLink RX5 78 "ExactSimplexModel" "rows" "I") (by decide +kernel)
  have hl := lv_entry ([.ref (ad 5), .int v]) (n := 2) (Nat.le_of_ble_eq_true rfl)
  have hent := lg_entry_eq m ([.ref (ad 5), .int v]) 2
  rw [← hargs] at hent
  rw [hent]
  clear hent
  generalize (lg_sl ([.ref (ad 5), .int v]) ++ List.replicate (2 - (lg_sl ([.ref (ad 5), .int v])).length) Slot.unset).toArray = ls at hl ⊢
  have hl : lv_has ls 2 [(0, .ref (ad 5)), (1, .int v)] := hl
  generalize hA : gA ad s.heap.size = A at G ⊢
  generalize hH : s.heap = H at G ⊢
  refine gx_q (fun Q hQ => ?_)
  refine lv_iload_n hx hb dX5_isRow_0 rfl (lv_at hl 1 rfl) ?_
  refine lv_if_lt (tgt := 25) hx hb dX5_isRow_1 (by decide) (fun c1 => ?_) (fun c1 => ?_)
  · skip
    refine lv_iconst (v := 0) hx hb dX5_isRow_25 (by decide) ?_
    exact gx_zr hx hb hr hlocks G hQ (rfl) ⟨by first | rfl | (simp only [m_isR, c1, reduceIte]; done) | (simp [m_isR, c1, reduceIte]; done), rfl⟩ dX5_isRow_26
  · skip
    refine lv_iload_n hx hb dX5_isRow_4 rfl (lv_at hl 1 rfl) ?_
    refine lv_aload_n hx hb dX5_isRow_5 rfl (lv_at hl 0 rfl) ?_
    refine gx_get hx hb hts hinX5 hown G 5 (by decide) rfl rfl 1 (by decide) rfl lk78 rfl (v := .int (I 5 1)) rfl dX5_isRow_6 ?_
    refine lv_icmp_ge (tgt := 25) hx hb dX5_isRow_9 (by decide) (fun c9 => ?_) (fun c9 => ?_)
    · skip
      refine lv_iconst (v := 0) hx hb dX5_isRow_25 (by decide) ?_
      exact gx_zr hx hb hr hlocks G hQ (rfl) ⟨by first | rfl | (simp only [m_isR, c1, c9, reduceIte]; done) | (simp [m_isR, c1, c9, reduceIte]; done), rfl⟩ dX5_isRow_26
    · skip
      obtain ⟨j, hj, ej⟩ := nI_of c1
      have hjn := gn_nle (X := mr) (Y := j) hmr ej (by omega) hj c9
      have ecl : cN v = j := cN_of ej hj
      refine lv_aload_n hx hb dX5_isRow_12 rfl (lv_at hl 0 rfl) ?_
      refine gx_get hx hb hts hinX5 hown G 5 (by decide) rfl rfl 8 (by decide) rfl lk28 rfl (v := .ref (ad 33)) rfl dX5_isRow_13 ?_
      refine lv_iload_n hx hb dX5_isRow_16 rfl (lv_at hl 1 rfl) ?_
      refine gx_zald hx hb G 33 (by decide) (rfl) (by decide) j ej (by omega) dX5_isRow_17 ?_
      refine lv_if_eq (tgt := 25) hx hb dX5_isRow_18 (by decide) (fun c18 => ?_) (fun c18 => ?_)
      · skip
        refine lv_iconst (v := 0) hx hb dX5_isRow_25 (by decide) ?_
        exact gx_zr hx hb hr hlocks G hQ (rfl) ⟨by first | rfl | (simp only [m_isR, c1, c9, ecl, c18, reduceIte]; done) | (simp [m_isR, c1, c9, ecl, c18, reduceIte]; done), rfl⟩ dX5_isRow_26
      · skip
        refine lv_iconst (v := 1) hx hb dX5_isRow_21 (by decide) ?_
        refine lv_goto (tgt := 26) hx hb dX5_isRow_22 (by decide) ?_
        exact gx_zr hx hb hr hlocks G hQ (rfl) ⟨by first | rfl | (simp only [m_isR, c1, c9, ecl, c18, reduceIte]; done) | (simp [m_isR, c1, c9, ecl, c18, reduceIte]; done), rfl⟩ dX5_isRow_26

set_option maxHeartbeats 4000000 in
set_option maxRecDepth 100000 in
theorem kX5_isSpan (l : Launch) (D : va_G) (ad : Nat → Nat) (cy : Nat → ClassId) (I : gF) (J : gL) (a : gF) (b : gL) (sz : Nat) (lo hi : Int32)  : gMi l yX5_isSpan wsX5_isSpan ({ frames := 0, cells := 0, slots := 0, locals := 0 }) D ad cy I J a b sz [.int lo, .int hi] (fun r u => r = m_span lo hi ∧ u = (I, J, a, b)) := by
  refine Met.ofW (cc := cX5_isSpan) (maxL := 2) (ret := some .boolean) (by decide) rfl ?_
  intro p e s m args below meth c s₁ B hml hv
  obtain ⟨hargs, hsz, G⟩ := gx_begin hv
  subst hsz
  have hx := B.exec
  have hb := B.bytes
  have hr := B.returns
  have hts := atoms_spec (ws := wsX5_isSpan) B.pre
  have hown : s.vm.findClass RX5 = some m.cls := findClass_of_methodNamed B.named
  have hlocks := B.notSynchronized
  have hl := lv_entry ([.int lo, .int hi]) (n := 2) (Nat.le_of_ble_eq_true rfl)
  have hent := lg_entry_eq m ([.int lo, .int hi]) 2
  rw [← hargs] at hent
  rw [hent]
  clear hent
  generalize (lg_sl ([.int lo, .int hi]) ++ List.replicate (2 - (lg_sl ([.int lo, .int hi])).length) Slot.unset).toArray = ls at hl ⊢
  have hl : lv_has ls 2 [(0, .int lo), (1, .int hi)] := hl
  generalize hA : gA ad s.heap.size = A at G ⊢
  generalize hH : s.heap = H at G ⊢
  refine gx_q (fun Q hQ => ?_)
  refine lv_iload_n hx hb dX5_isSpan_0 rfl (lv_at hl 0 rfl) ?_
  refine lv_bipush (v := -100) hx hb dX5_isSpan_1 (by decide) ?_
  refine lv_icmp_lt (tgt := 21) hx hb dX5_isSpan_3 (by decide) (fun c3 => ?_) (fun c3 => ?_)
  · skip
    refine lv_iconst (v := 0) hx hb dX5_isSpan_21 (by decide) ?_
    exact gx_zr hx hb hr hlocks G hQ (rfl) ⟨by first | rfl | (simp only [m_span, c3, reduceIte]; done) | (simp [m_span, c3, reduceIte]; done), rfl⟩ dX5_isSpan_22
  · skip
    refine lv_iload_n hx hb dX5_isSpan_6 rfl (lv_at hl 1 rfl) ?_
    refine lv_bipush (v := 100) hx hb dX5_isSpan_7 (by decide) ?_
    refine lv_icmp_gt (tgt := 21) hx hb dX5_isSpan_9 (by decide) (fun c9 => ?_) (fun c9 => ?_)
    · skip
      refine lv_iconst (v := 0) hx hb dX5_isSpan_21 (by decide) ?_
      exact gx_zr hx hb hr hlocks G hQ (rfl) ⟨by first | rfl | (simp only [m_span, c3, c9, reduceIte]; done) | (simp [m_span, c3, c9, reduceIte]; done), rfl⟩ dX5_isSpan_22
    · skip
      refine lv_iload_n hx hb dX5_isSpan_12 rfl (lv_at hl 0 rfl) ?_
      refine lv_iload_n hx hb dX5_isSpan_13 rfl (lv_at hl 1 rfl) ?_
      refine lv_icmp_gt (tgt := 21) hx hb dX5_isSpan_14 (by decide) (fun c14 => ?_) (fun c14 => ?_)
      · skip
        refine lv_iconst (v := 0) hx hb dX5_isSpan_21 (by decide) ?_
        exact gx_zr hx hb hr hlocks G hQ (rfl) ⟨by first | rfl | (simp only [m_span, c3, c9, c14, reduceIte]; done) | (simp [m_span, c3, c9, c14, reduceIte]; done), rfl⟩ dX5_isSpan_22
      · skip
        refine lv_iconst (v := 1) hx hb dX5_isSpan_17 (by decide) ?_
        refine lv_goto (tgt := 22) hx hb dX5_isSpan_18 (by decide) ?_
        exact gx_zr hx hb hr hlocks G hQ (rfl) ⟨by first | rfl | (simp only [m_span, c3, c9, c14, reduceIte]; done) | (simp [m_span, c3, c9, c14, reduceIte]; done), rfl⟩ dX5_isSpan_22

set_option maxHeartbeats 4000000 in
set_option maxRecDepth 100000 in
theorem kX5_isPart (l : Launch) (D : va_G) (ad : Nat → Nat) (cy : Nat → ClassId) (I : gF) (J : gL) (a : gF) (b : gL) (sz : Nat) (v : Int32)  : gMi l yX5_isPart wsX5_isPart ({ frames := 0, cells := 0, slots := 0, locals := 0 }) D ad cy I J a b sz [.int v] (fun r u => r = q_z01 v ∧ u = (I, J, a, b)) := by
  refine Met.ofW (cc := cX5_isPart) (maxL := 1) (ret := some .boolean) (by decide) rfl ?_
  intro p e s m args below meth c s₁ B hml hv
  obtain ⟨hargs, hsz, G⟩ := gx_begin hv
  subst hsz
  have hx := B.exec
  have hb := B.bytes
  have hr := B.returns
  have hts := atoms_spec (ws := wsX5_isPart) B.pre
  have hown : s.vm.findClass RX5 = some m.cls := findClass_of_methodNamed B.named
  have hlocks := B.notSynchronized
  have hl := lv_entry ([.int v]) (n := 1) (Nat.le_of_ble_eq_true rfl)
  have hent := lg_entry_eq m ([.int v]) 1
  rw [← hargs] at hent
  rw [hent]
  clear hent
  generalize (lg_sl ([.int v]) ++ List.replicate (1 - (lg_sl ([.int v])).length) Slot.unset).toArray = ls at hl ⊢
  have hl : lv_has ls 1 [(0, .int v)] := hl
  generalize hA : gA ad s.heap.size = A at G ⊢
  generalize hH : s.heap = H at G ⊢
  refine gx_q (fun Q hQ => ?_)
  refine lv_iload_n hx hb dX5_isPart_0 rfl (lv_at hl 0 rfl) ?_
  refine lv_if_eq (tgt := 9) hx hb dX5_isPart_1 (by decide) (fun c1 => ?_) (fun c1 => ?_)
  · skip
    refine lv_iconst (v := 1) hx hb dX5_isPart_9 (by decide) ?_
    refine lv_goto (tgt := 14) hx hb dX5_isPart_10 (by decide) ?_
    exact gx_zr hx hb hr hlocks G hQ (rfl) ⟨by first | rfl | (simp only [q_z01, c1, reduceIte]; done) | (simp [q_z01, c1, reduceIte]; done), rfl⟩ dX5_isPart_14
  · skip
    refine lv_iload_n hx hb dX5_isPart_4 rfl (lv_at hl 0 rfl) ?_
    refine lv_iconst (v := 1) hx hb dX5_isPart_5 (by decide) ?_
    refine lv_icmp_ne (tgt := 13) hx hb dX5_isPart_6 (by decide) (fun c6 => ?_) (fun c6 => ?_)
    · skip
      refine lv_iconst (v := 0) hx hb dX5_isPart_13 (by decide) ?_
      exact gx_zr hx hb hr hlocks G hQ (rfl) ⟨by first | rfl | (simp only [q_z01, c1, c6, reduceIte]; done) | (simp [q_z01, c1, c6, reduceIte]; done), rfl⟩ dX5_isPart_14
    · skip
      refine lv_iconst (v := 1) hx hb dX5_isPart_9 (by decide) ?_
      refine lv_goto (tgt := 14) hx hb dX5_isPart_10 (by decide) ?_
      exact gx_zr hx hb hr hlocks G hQ (rfl) ⟨by first | rfl | (simp only [q_z01, c1, c6, reduceIte]; done) | (simp [q_z01, c1, c6, reduceIte]; done), rfl⟩ dX5_isPart_14

set_option maxHeartbeats 4000000 in
set_option maxRecDepth 100000 in
theorem kX5_compare (l : Launch) (D : va_G) (ad : Nat → Nat) (cy : Nat → ClassId) (I : gF) (J : gL) (a : gF) (b : gL) (sz : Nat) (x y z w : Int64)  : gMi l yX5_compare wsX5_compare ({ frames := 0, cells := 0, slots := 0, locals := 0 }) D ad cy I J a b sz [.long x, .long y, .long z, .long w] (fun r u => r = m_cmp x y z w ∧ u = (I, J, a, b)) := by
  refine Met.ofW (cc := cX5_compare) (maxL := 12) (ret := some .int) (by decide) rfl ?_
  intro p e s m args below meth c s₁ B hml hv
  obtain ⟨hargs, hsz, G⟩ := gx_begin hv
  subst hsz
  have hx := B.exec
  have hb := B.bytes
  have hr := B.returns
  have hts := atoms_spec (ws := wsX5_compare) B.pre
  have hown : s.vm.findClass RX5 = some m.cls := findClass_of_methodNamed B.named
  have hlocks := B.notSynchronized
  have hl := lv_entry ([.long x, .long y, .long z, .long w]) (n := 12) (Nat.le_of_ble_eq_true rfl)
  have hent := lg_entry_eq m ([.long x, .long y, .long z, .long w]) 12
  rw [← hargs] at hent
  rw [hent]
  clear hent
  generalize (lg_sl ([.long x, .long y, .long z, .long w]) ++ List.replicate (12 - (lg_sl ([.long x, .long y, .long z, .long w])).length) Slot.unset).toArray = ls at hl ⊢
  have hl : lv_has ls 12 [(0, .long x), (2, .long y), (4, .long z), (6, .long w)] := hl
  generalize hA : gA ad s.heap.size = A at G ⊢
  generalize hH : s.heap = H at G ⊢
  refine gx_q (fun Q hQ => ?_)
  refine lv_lload_n hx hb dX5_compare_0 rfl (lv_at hl 0 rfl) ?_
  refine lv_lload hx hb dX5_compare_1 (lv_at hl 3 rfl) ?_
  refine lv_lmul hx hb dX5_compare_3 ?_
  refine lv_lstore (lv' := [(8, .long (x * w)), (0, .long x), (2, .long y), (4, .long z), (6, .long w)]) hx hb dX5_compare_4 hl (by decide) rfl (fun ls hl => ?_)
  refine lv_lload hx hb dX5_compare_6 (lv_at hl 3 rfl) ?_
  refine lv_lload_n hx hb dX5_compare_8 rfl (lv_at hl 2 rfl) ?_
  refine lv_lmul hx hb dX5_compare_9 ?_
  refine lv_lstore (lv' := [(10, .long (z * y)), (8, .long (x * w)), (0, .long x), (2, .long y), (4, .long z), (6, .long w)]) hx hb dX5_compare_10 hl (by decide) rfl (fun ls hl => ?_)
  refine lv_lload hx hb dX5_compare_12 (lv_at hl 1 rfl) ?_
  refine lv_lload hx hb dX5_compare_14 (lv_at hl 0 rfl) ?_
  refine gx_lc_ge (tgt := 24) hx hb dX5_compare_16 dX5_compare_17 (by decide) (fun c17 => ?_) (fun c17 => ?_)
  · skip
    refine lv_lload hx hb dX5_compare_24 (lv_at hl 1 rfl) ?_
    refine lv_lload hx hb dX5_compare_26 (lv_at hl 0 rfl) ?_
    refine gx_lc_le (tgt := 36) hx hb dX5_compare_28 dX5_compare_29 (by decide) (fun c29 => ?_) (fun c29 => ?_)
    · skip
      refine lv_iconst (v := 0) hx hb dX5_compare_36 (by decide) ?_
      exact gx_ir hx hb hr hlocks G hQ ⟨by first | rfl | (simp only [m_cmp, c17, c29, reduceIte]; done) | (simp [m_cmp, c17, c29, reduceIte]; done), rfl⟩ dX5_compare_37
    · skip
      refine lv_iconst (v := 1) hx hb dX5_compare_32 (by decide) ?_
      refine lv_goto (tgt := 37) hx hb dX5_compare_33 (by decide) ?_
      exact gx_ir hx hb hr hlocks G hQ ⟨by first | rfl | (simp only [m_cmp, c17, c29, reduceIte]; done) | (simp [m_cmp, c17, c29, reduceIte]; done), rfl⟩ dX5_compare_37
  · skip
    refine lv_iconst (v := -1) hx hb dX5_compare_20 (by decide) ?_
    refine lv_goto (tgt := 37) hx hb dX5_compare_21 (by decide) ?_
    exact gx_ir hx hb hr hlocks G hQ ⟨by first | rfl | (simp only [m_cmp, c17, reduceIte]; done) | (simp [m_cmp, c17, reduceIte]; done), rfl⟩ dX5_compare_37

set_option maxHeartbeats 4000000 in
set_option maxRecDepth 100000 in
theorem kX5_rowCount (l : Launch) (D : va_G) (ad : Nat → Nat) (cy : Nat → ClassId) (I : gF) (J : gL) (a : gF) (b : gL) (sz : Nat) (mr : Nat) (hmr : I 5 1 = nI mr) (hmr2 : mr ≤ 8) : gMi l yX5_rowCount wsX5_rowCount ({ frames := 0, cells := 0, slots := 0, locals := 0 }) D ad cy I J a b sz [.ref (ad 5)] (fun r u => r = m_cnt a mr ∧ u = (I, J, a, b)) := by
  refine Met.ofW (cc := cX5_rowCount) (maxL := 3) (ret := some .int) (by decide) rfl ?_
  intro p e s m args below meth c s₁ B hml hv
  obtain ⟨hargs, hsz, G⟩ := gx_begin hv
  subst hsz
  have hx := B.exec
  have hb := B.bytes
  have hr := B.returns
  have hts := atoms_spec (ws := wsX5_rowCount) B.pre
  have hown : s.vm.findClass RX5 = some m.cls := findClass_of_methodNamed B.named
  have hlocks := B.notSynchronized
  have hinX5 : ∀ w ∈ wsX50, w ∈ wsX5_rowCount := by decide +kernel
  have lk28 := hts (.fieldLink RX5 28 "ExactSimplexModel" "alive" "[Z") (by decide +kernel)
  have lk78 := hts (.fieldLink RX5 78 "ExactSimplexModel" "rows" "I") (by decide +kernel)
  have hl := lv_entry ([.ref (ad 5)]) (n := 3) (Nat.le_of_ble_eq_true rfl)
  have hent := lg_entry_eq m ([.ref (ad 5)]) 3
  rw [← hargs] at hent
  rw [hent]
  clear hent
  generalize (lg_sl ([.ref (ad 5)]) ++ List.replicate (3 - (lg_sl ([.ref (ad 5)])).length) Slot.unset).toArray = ls at hl ⊢
  have hl : lv_has ls 3 [(0, .ref (ad 5))] := hl
  generalize hA : gA ad s.heap.size = A at G ⊢
  generalize hH : s.heap = H at G ⊢
  refine gx_q (fun Q hQ => ?_)
  refine lv_iconst (v := 0) hx hb dX5_rowCount_0 (by decide) ?_
  refine lv_istore_n (lv' := [(1, .int 0), (0, .ref (ad 5))]) hx hb dX5_rowCount_1 rfl hl (by decide) rfl (fun ls hl => ?_)
  refine lv_iconst (v := 0) hx hb dX5_rowCount_2 (by decide) ?_
  refine lv_istore_n (lv' := [(2, .int 0), (1, .int 0), (0, .ref (ad 5))]) hx hb dX5_rowCount_3 rfl hl (by decide) rfl (fun ls hl => ?_)
  have K4 : ∀ (nf : Nat) (r : Nat) (H : Heap) (locs : List Loc) (ls : Array Slot), (r ≤ mr) → mr - r < nf → GG D ad cy A s I J a b H locs → lv_has ls 3 [(0, .ref (ad 5)), (1, .int (m_cnt a r)), (2, .int (nI r))] → W p l e ({ frames := 0, cells := 0, slots := 0, locals := 0 }) s m args below meth c H locs 0 0 Q (F0 m 4 ls []) := by
    intro nf
    induction nf with
    | zero => exact fun _ _ _ _ _ hz => absurd hz (Nat.not_lt_zero _)
    | succ nf ih =>
      intro r H locs ls h1 hmeas G hl
      have ih4 := ih
      clear ih
      refine lv_iload_n hx hb dX5_rowCount_4 rfl (lv_at hl 2 rfl) ?_
      refine lv_aload_n hx hb dX5_rowCount_5 rfl (lv_at hl 0 rfl) ?_
      refine gx_get hx hb hts hinX5 hown G 5 (by decide) rfl rfl 1 (by decide) rfl lk78 rfl (v := .int (I 5 1)) rfl dX5_rowCount_6 ?_
      refine lv_icmp_ge (tgt := 35) hx hb dX5_rowCount_9 (by decide) (fun c9 => ?_) (fun c9 => ?_)
      · skip
        have n9 := gn_le (X := mr) (Y := r) hmr rfl (by omega) (by omega) c9
        refine lv_iload_n hx hb dX5_rowCount_35 rfl (lv_at hl 1 rfl) ?_
        exact gx_ir hx hb hr hlocks G hQ ⟨by first | rfl | (simp only [m_cnt, c9, reduceIte]; done) | (rw [show mr = r by omega]; done) | (rw [show mr = r by omega]; simp only [m_cnt, c9, reduceIte]; done) | (simp [m_cnt, c9, reduceIte]; done), rfl⟩ dX5_rowCount_36
      · skip
        have n9 := gn_nle (X := mr) (Y := r) hmr rfl (by omega) (by omega) c9
        refine lv_iload_n hx hb dX5_rowCount_12 rfl (lv_at hl 1 rfl) ?_
        refine lv_aload_n hx hb dX5_rowCount_13 rfl (lv_at hl 0 rfl) ?_
        refine gx_get hx hb hts hinX5 hown G 5 (by decide) rfl rfl 8 (by decide) rfl lk28 rfl (v := .ref (ad 33)) rfl dX5_rowCount_14 ?_
        refine lv_iload_n hx hb dX5_rowCount_17 rfl (lv_at hl 2 rfl) ?_
        refine gx_zald hx hb G 33 (by decide) (rfl) (by decide) r rfl (by omega) dX5_rowCount_18 ?_
        refine lv_if_eq (tgt := 26) hx hb dX5_rowCount_19 (by decide) (fun c19 => ?_) (fun c19 => ?_)
        · skip
          refine lv_iconst (v := 0) hx hb dX5_rowCount_26 (by decide) ?_
          refine lv_iadd hx hb dX5_rowCount_27 ?_
          refine lv_topi (fun x_1 ex_1 => ?_)
          refine lv_istore_n (lv' := [(1, .int x_1), (0, .ref (ad 5)), (2, .int (nI r))]) hx hb dX5_rowCount_28 rfl hl (by decide) rfl (fun ls hl => ?_)
          refine lv_iinc (v := (nI (r + 1))) (lv' := [(2, .int (nI (r + 1))), (1, .int x_1), (0, .ref (ad 5))]) hx hb dX5_rowCount_29 hl (k := 2) rfl (gn_add (X := r) (Y := 1) rfl rfl) (by decide) rfl (fun ls hl => ?_)
          refine lv_goto (tgt := 4) hx hb dX5_rowCount_32 (by decide) ?_
          have q1 : x_1 = m_cnt a (r + 1) := by rw [ex_1]; first | rfl | (simp only [m_cnt, c9, c19, reduceIte]; done) | (rw [show mr = r by omega]; done) | (rw [show mr = r by omega]; simp only [m_cnt, c9, c19, reduceIte]; done) | (simp [m_cnt, c9, c19, reduceIte]; done)
          rw [q1] at hl
          exact ih4  (r + 1) _ _ _ (by omega) (by omega) G (lv_sub hl [2, 1, 0] rfl)
        · skip
          refine lv_iconst (v := 1) hx hb dX5_rowCount_22 (by decide) ?_
          refine lv_goto (tgt := 27) hx hb dX5_rowCount_23 (by decide) ?_
          refine lv_iadd hx hb dX5_rowCount_27 ?_
          refine lv_topi (fun x_2 ex_2 => ?_)
          refine lv_istore_n (lv' := [(1, .int x_2), (0, .ref (ad 5)), (2, .int (nI r))]) hx hb dX5_rowCount_28 rfl hl (by decide) rfl (fun ls hl => ?_)
          refine lv_iinc (v := (nI (r + 1))) (lv' := [(2, .int (nI (r + 1))), (1, .int x_2), (0, .ref (ad 5))]) hx hb dX5_rowCount_29 hl (k := 2) rfl (gn_add (X := r) (Y := 1) rfl rfl) (by decide) rfl (fun ls hl => ?_)
          refine lv_goto (tgt := 4) hx hb dX5_rowCount_32 (by decide) ?_
          have q1 : x_2 = m_cnt a (r + 1) := by rw [ex_2]; first | rfl | (simp only [m_cnt, c9, c19, reduceIte]; done) | (rw [show mr = r by omega]; done) | (rw [show mr = r by omega]; simp only [m_cnt, c9, c19, reduceIte]; done) | (simp [m_cnt, c9, c19, reduceIte]; done)
          rw [q1] at hl
          exact ih4  (r + 1) _ _ _ (by omega) (by omega) G (lv_sub hl [2, 1, 0] rfl)
  exact K4 (mr - 0 + 1) 0 _ _ _ (by omega) (Nat.lt_succ_self _) G (lv_sub hl [2, 1, 0] rfl)

set_option maxHeartbeats 4000000 in
set_option maxRecDepth 100000 in
theorem kX5_isLarge (l : Launch) (D : va_G) (ad : Nat → Nat) (cy : Nat → ClassId) (I : gF) (J : gL) (a : gF) (b : gL) (sz : Nat) (mn : Nat) (hmn : I 5 0 = nI mn) (hmn2 : mn ≤ 5) : gMi l yX5_isLarge wsX5_isLarge ({ frames := 0, cells := 0, slots := 0, locals := 0 }) D ad cy I J a b sz [.ref (ad 5)] (fun r u => r = m_large a mn ∧ u = (I, J, a, b)) := by
  refine Met.ofW (cc := cX5_isLarge) (maxL := 4) (ret := some .boolean) (by decide) rfl ?_
  intro p e s m args below meth c s₁ B hml hv
  obtain ⟨hargs, hsz, G⟩ := gx_begin hv
  subst hsz
  have hx := B.exec
  have hb := B.bytes
  have hr := B.returns
  have hts := atoms_spec (ws := wsX5_isLarge) B.pre
  have hown : s.vm.findClass RX5 = some m.cls := findClass_of_methodNamed B.named
  have hlocks := B.notSynchronized
  have hinX5 : ∀ w ∈ wsX50, w ∈ wsX5_isLarge := by decide +kernel
  have lk7 := hts (.fieldLink RX5 7 "ExactSimplexModel" "low" "[I") (by decide +kernel)
  have lk13 := hts (.fieldLink RX5 13 "ExactSimplexModel" "high" "[I") (by decide +kernel)
  have lk66 := hts (.fieldLink RX5 66 "ExactSimplexModel" "names" "I") (by decide +kernel)
  have hl := lv_entry ([.ref (ad 5)]) (n := 4) (Nat.le_of_ble_eq_true rfl)
  have hent := lg_entry_eq m ([.ref (ad 5)]) 4
  rw [← hargs] at hent
  rw [hent]
  clear hent
  generalize (lg_sl ([.ref (ad 5)]) ++ List.replicate (4 - (lg_sl ([.ref (ad 5)])).length) Slot.unset).toArray = ls at hl ⊢
  have hl : lv_has ls 4 [(0, .ref (ad 5))] := hl
  generalize hA : gA ad s.heap.size = A at G ⊢
  generalize hH : s.heap = H at G ⊢
  refine gx_q (fun Q hQ => ?_)
  refine lv_lconst (v := 1) hx hb dX5_isLarge_0 (by decide) ?_
  refine lv_lstore_n (lv' := [(1, .long 1), (0, .ref (ad 5))]) hx hb dX5_isLarge_1 rfl hl (by decide) rfl (fun ls hl => ?_)
  refine lv_iconst (v := 0) hx hb dX5_isLarge_2 (by decide) ?_
  refine lv_istore_n (lv' := [(3, .int 0), (1, .long 1), (0, .ref (ad 5))]) hx hb dX5_isLarge_3 rfl hl (by decide) rfl (fun ls hl => ?_)
  have K4 : ∀ (nf : Nat) (r : Nat) (H : Heap) (locs : List Loc) (ls : Array Slot), (r ≤ mn) → mn - r < nf → GG D ad cy A s I J a b H locs → lv_has ls 4 [(0, .ref (ad 5)), (1, .long (m_cw a r)), (3, .int (nI r))] → W p l e ({ frames := 0, cells := 0, slots := 0, locals := 0 }) s m args below meth c H locs 0 0 Q (F0 m 4 ls []) := by
    intro nf
    induction nf with
    | zero => exact fun _ _ _ _ _ hz => absurd hz (Nat.not_lt_zero _)
    | succ nf ih =>
      intro r H locs ls h1 hmeas G hl
      have ih4 := ih
      clear ih
      refine lv_iload_n hx hb dX5_isLarge_4 rfl (lv_at hl 2 rfl) ?_
      refine lv_aload_n hx hb dX5_isLarge_5 rfl (lv_at hl 0 rfl) ?_
      refine gx_get hx hb hts hinX5 hown G 5 (by decide) rfl rfl 0 (by decide) rfl lk66 rfl (v := .int (I 5 0)) rfl dX5_isLarge_6 ?_
      refine lv_icmp_ge (tgt := 37) hx hb dX5_isLarge_9 (by decide) (fun c9 => ?_) (fun c9 => ?_)
      · skip
        have n9 := gn_le (X := mn) (Y := r) hmn rfl (by omega) (by omega) c9
        have hex : r = mn := by omega
        rw [hex] at hl
        refine lv_lload_n hx hb dX5_isLarge_37 rfl (lv_at hl 1 rfl) ?_
        refine lv_ldc2 hx hb hown (hts (.constantLong RX5 159 20000) (by decide +kernel)) dX5_isLarge_38 ?_
        refine gx_lc_le (tgt := 49) hx hb dX5_isLarge_41 dX5_isLarge_42 (by decide) (fun c42 => ?_) (fun c42 => ?_)
        · skip
          refine lv_iconst (v := 0) hx hb dX5_isLarge_49 (by decide) ?_
          exact gx_zr hx hb hr hlocks G hQ (rfl) ⟨by simp only [m_large, c9, c42, reduceIte], rfl⟩ dX5_isLarge_50
        · skip
          refine lv_iconst (v := 1) hx hb dX5_isLarge_45 (by decide) ?_
          refine lv_goto (tgt := 50) hx hb dX5_isLarge_46 (by decide) ?_
          exact gx_zr hx hb hr hlocks G hQ (rfl) ⟨by simp only [m_large, c9, c42, reduceIte], rfl⟩ dX5_isLarge_50
      · skip
        have n9 := gn_nle (X := mn) (Y := r) hmn rfl (by omega) (by omega) c9
        refine lv_lload_n hx hb dX5_isLarge_12 rfl (lv_at hl 1 rfl) ?_
        refine lv_aload_n hx hb dX5_isLarge_13 rfl (lv_at hl 0 rfl) ?_
        refine gx_get hx hb hts hinX5 hown G 5 (by decide) rfl rfl 3 (by decide) rfl lk13 rfl (v := .ref (ad 28)) rfl dX5_isLarge_14 ?_
        refine lv_iload_n hx hb dX5_isLarge_17 rfl (lv_at hl 2 rfl) ?_
        refine gx_iald hx hb G 28 (by decide) (rfl) (by decide) r rfl (by omega) dX5_isLarge_18 ?_
        refine lv_aload_n hx hb dX5_isLarge_19 rfl (lv_at hl 0 rfl) ?_
        refine gx_get hx hb hts hinX5 hown G 5 (by decide) rfl rfl 2 (by decide) rfl lk7 rfl (v := .ref (ad 27)) rfl dX5_isLarge_20 ?_
        refine lv_iload_n hx hb dX5_isLarge_23 rfl (lv_at hl 2 rfl) ?_
        refine gx_iald hx hb G 27 (by decide) (rfl) (by decide) r rfl (by omega) dX5_isLarge_24 ?_
        refine lv_isub hx hb dX5_isLarge_25 ?_
        refine lv_iconst (v := 1) hx hb dX5_isLarge_26 (by decide) ?_
        refine lv_iadd hx hb dX5_isLarge_27 ?_
        refine lv_i2l (v := (((a 28 r) - (a 27 r)) + 1).toInt64) hx hb dX5_isLarge_28 rfl ?_
        refine lv_lmul hx hb dX5_isLarge_29 ?_
        refine lv_topl (fun x_1 ex_1 => ?_)
        refine lv_lstore_n (lv' := [(1, .long x_1), (0, .ref (ad 5)), (3, .int (nI r))]) hx hb dX5_isLarge_30 rfl hl (by decide) rfl (fun ls hl => ?_)
        refine lv_iinc (v := (nI (r + 1))) (lv' := [(3, .int (nI (r + 1))), (1, .long x_1), (0, .ref (ad 5))]) hx hb dX5_isLarge_31 hl (k := 2) rfl (gn_add (X := r) (Y := 1) rfl rfl) (by decide) rfl (fun ls hl => ?_)
        refine lv_goto (tgt := 4) hx hb dX5_isLarge_34 (by decide) ?_
        have q1 : x_1 = m_cw a (r + 1) := by rw [ex_1]; first | rfl | (simp only [m_cw, c9, reduceIte]; done) | (simp [m_cw, c9, reduceIte]; done)
        rw [q1] at hl
        exact ih4  (r + 1) _ _ _ (by omega) (by omega) G (lv_sub hl [2, 1, 0] rfl)
  exact K4 (mn - 0 + 1) 0 _ _ _ (by omega) (Nat.lt_succ_self _) G (lv_sub hl [2, 1, 0] rfl)

set_option maxHeartbeats 4000000 in
set_option maxRecDepth 100000 in
theorem kX5_name (l : Launch) (D : va_G) (ad : Nat → Nat) (cy : Nat → ClassId) (I : gF) (J : gL) (a : gF) (b : gL) (sz : Nat) (lo hi : Int32) (hmn : I 5 0 = nI (cN (I 5 0))) (hmn2 : cN (I 5 0) ≤ 5) (hmr : I 5 1 = nI (cN (I 5 1))) (hmr2 : cN (I 5 1) ≤ 8) : gMi l yX5_name wsX5_name ({ frames := 1, cells := 0, slots := 0, locals := 21 }) D ad cy I J a b sz [.ref (ad 5), .int lo, .int hi] (fun res u => res = m_name (I, J, a, b) lo hi ∧ u = m_nameS (I, J, a, b) lo hi) := by
  refine Met.ofW (cc := cX5_name) (maxL := 4) (ret := some .int) (by decide) rfl ?_
  intro p e s m args below meth c s₁ B hml hv
  obtain ⟨hargs, hsz, G⟩ := gx_begin hv
  subst hsz
  have hx := B.exec
  have hb := B.bytes
  have hr := B.returns
  have hts := atoms_spec (ws := wsX5_name) B.pre
  have hown : s.vm.findClass RX5 = some m.cls := findClass_of_methodNamed B.named
  have hlocks := B.notSynchronized
  have hinX5 : ∀ w ∈ wsX50, w ∈ wsX5_name := by decide +kernel
  have lk7 := hts (.fieldLink RX5 7 "ExactSimplexModel" "low" "[I") (by decide +kernel)
  have lk13 := hts (.fieldLink RX5 13 "ExactSimplexModel" "high" "[I") (by decide +kernel)
  have lk16 := hts (.fieldLink RX5 16 "ExactSimplexModel" "costs" "[I") (by decide +kernel)
  have lk25 := hts (.fieldLink RX5 25 "ExactSimplexModel" "factors" "[I") (by decide +kernel)
  have lk66 := hts (.fieldLink RX5 66 "ExactSimplexModel" "names" "I") (by decide +kernel)
  have lk117 := hts (.fieldLink RX5 117 "ExactSimplexModel" "known" "Z") (by decide +kernel)
  have hl := lv_entry ([.ref (ad 5), .int lo, .int hi]) (n := 4) (Nat.le_of_ble_eq_true rfl)
  have hent := lg_entry_eq m ([.ref (ad 5), .int lo, .int hi]) 4
  rw [← hargs] at hent
  rw [hent]
  clear hent
  generalize (lg_sl ([.ref (ad 5), .int lo, .int hi]) ++ List.replicate (4 - (lg_sl ([.ref (ad 5), .int lo, .int hi])).length) Slot.unset).toArray = ls at hl ⊢
  have hl : lv_has ls 4 [(0, .ref (ad 5)), (1, .int lo), (2, .int hi)] := hl
  generalize hA : gA ad s.heap.size = A at G ⊢
  generalize hH : s.heap = H at G ⊢
  refine gx_q (fun Q hQ => ?_)
  refine lv_iload_n hx hb dX5_name_0 rfl (lv_at hl 1 rfl) ?_
  refine lv_iload_n hx hb dX5_name_1 rfl (lv_at hl 2 rfl) ?_
  refine gx_dSi (v := (m_span lo hi)) (I1 := I) (J1 := J) (a1 := a) (b1 := b) (As := [.int lo, .int hi]) (rest := []) ⟨hx, hb, hml, hown, hts⟩ G (kX5_isSpan l D ad cy I J a b H.size lo hi) (va_cwS 2 hts gX5_name_X5_isSpan rfl rfl rfl (by decide +kernel) ⟨Nat.le_of_ble_eq_true rfl, Nat.le_of_ble_eq_true rfl⟩) rfl hl.1 rfl (Nat.le_of_ble_eq_true rfl) ⟨Nat.zero_le _, Nat.zero_le _⟩ dX5_name_2 (fun H locs G => ?_)
  refine lv_if_ne (tgt := 11) hx hb dX5_name_5 (by decide) (fun c5 => ?_) (fun c5 => ?_)
  · skip
    refine lv_aload_n hx hb dX5_name_11 rfl (lv_at hl 0 rfl) ?_
    refine gx_get hx hb hts hinX5 hown G 5 (by decide) rfl rfl 0 (by decide) rfl lk66 rfl (v := .int (I 5 0)) rfl dX5_name_12 ?_
    refine lv_iconst (v := 5) hx hb dX5_name_15 (by decide) ?_
    refine lv_icmp_ne (tgt := 22) hx hb dX5_name_16 (by decide) (fun c16 => ?_) (fun c16 => ?_)
    · skip
      have n16 := gn_neq (X := (cN (I 5 0))) (Y := 5) hmn rfl (by omega) (by omega) c16
      refine lv_aload_n hx hb dX5_name_22 rfl (lv_at hl 0 rfl) ?_
      refine gx_get hx hb hts hinX5 hown G 5 (by decide) rfl rfl 2 (by decide) rfl lk7 rfl (v := .ref (ad 27)) rfl dX5_name_23 ?_
      refine lv_aload_n hx hb dX5_name_26 rfl (lv_at hl 0 rfl) ?_
      refine gx_get hx hb hts hinX5 hown G 5 (by decide) rfl rfl 0 (by decide) rfl lk66 rfl (v := .int (I 5 0)) rfl dX5_name_27 ?_
      refine lv_iload_n hx hb dX5_name_30 rfl (lv_at hl 1 rfl) ?_
      refine gx_iast hx hb G 27 (by decide) (rfl) (by decide) (cN (I 5 0)) hmn (by omega) dX5_name_31 (fun H locs G => ?_)
      refine lv_aload_n hx hb dX5_name_32 rfl (lv_at hl 0 rfl) ?_
      refine gx_get hx hb hts hinX5 hown G 5 (by decide) rfl rfl 3 (by decide) rfl lk13 rfl (v := .ref (ad 28)) rfl dX5_name_33 ?_
      refine lv_aload_n hx hb dX5_name_36 rfl (lv_at hl 0 rfl) ?_
      refine gx_get hx hb hts hinX5 hown G 5 (by decide) rfl rfl 0 (by decide) rfl lk66 rfl (v := .int (I 5 0)) rfl dX5_name_37 ?_
      refine lv_iload_n hx hb dX5_name_40 rfl (lv_at hl 2 rfl) ?_
      refine gx_iast hx hb G 28 (by decide) (rfl) (by decide) (cN (I 5 0)) hmn (by omega) dX5_name_41 (fun H locs G => ?_)
      refine lv_aload_n hx hb dX5_name_42 rfl (lv_at hl 0 rfl) ?_
      refine gx_get hx hb hts hinX5 hown G 5 (by decide) rfl rfl 4 (by decide) rfl lk16 rfl (v := .ref (ad 29)) rfl dX5_name_43 ?_
      refine lv_aload_n hx hb dX5_name_46 rfl (lv_at hl 0 rfl) ?_
      refine gx_get hx hb hts hinX5 hown G 5 (by decide) rfl rfl 0 (by decide) rfl lk66 rfl (v := .int (I 5 0)) rfl dX5_name_47 ?_
      refine lv_iconst (v := 0) hx hb dX5_name_50 (by decide) ?_
      refine gx_iast hx hb G 29 (by decide) (rfl) (by decide) (cN (I 5 0)) hmn (by omega) dX5_name_51 (fun H locs G => ?_)
      refine lv_iconst (v := 0) hx hb dX5_name_52 (by decide) ?_
      refine lv_istore_n (lv' := [(3, .int 0), (0, .ref (ad 5)), (1, .int lo), (2, .int hi)]) hx hb dX5_name_53 rfl hl (by decide) rfl (fun ls hl => ?_)
      have K54 : ∀ (nf : Nat) (r : Nat) (H : Heap) (locs : List Loc) (ls : Array Slot), (r ≤ 8) → 8 - r < nf → GG D ad cy A s I J (m_wipN (gU (gU (gU a 27 (cN (I 5 0)) lo) 28 (cN (I 5 0)) hi) 29 (cN (I 5 0)) 0) (cN (I 5 0)) r) b H locs → lv_has ls 4 [(0, .ref (ad 5)), (1, .int lo), (2, .int hi), (3, .int (nI r))] → W p l e ({ frames := 1, cells := 0, slots := 0, locals := 21 }) s m args below meth c H locs 0 0 Q (F0 m 54 ls []) := by
        intro nf
        induction nf with
        | zero => exact fun _ _ _ _ _ hz => absurd hz (Nat.not_lt_zero _)
        | succ nf ih =>
          intro r H locs ls h1 hmeas G hl
          have ih54 := ih
          clear ih
          refine lv_iload_n hx hb dX5_name_54 rfl (lv_at hl 3 rfl) ?_
          refine lv_bipush (v := 8) hx hb dX5_name_55 (by decide) ?_
          refine lv_icmp_ge (tgt := 80) hx hb dX5_name_57 (by decide) (fun c57 => ?_) (fun c57 => ?_)
          · skip
            have n57 := gn_le (X := 8) (Y := r) rfl rfl (by omega) (by omega) c57
            refine lv_aload_n hx hb dX5_name_80 rfl (lv_at hl 0 rfl) ?_
            refine lv_dup hx hb dX5_name_81 rfl ?_
            refine gx_get hx hb hts hinX5 hown G 5 (by decide) rfl rfl 0 (by decide) rfl lk66 rfl (v := .int (I 5 0)) rfl dX5_name_82 ?_
            refine lv_iconst (v := 1) hx hb dX5_name_85 (by decide) ?_
            refine lv_iadd hx hb dX5_name_86 ?_
            refine gx_putI hx hb hts hinX5 tyX5 tyX5_ok nmX5 hown G 5 (by decide) rfl rfl 0 (by decide) rfl lk66 rfl rfl (tyX5_ok 0 (by decide)) (rfl) (rfl) dX5_name_87 (fun H locs G => ?_)
            refine lv_aload_n hx hb dX5_name_90 rfl (lv_at hl 0 rfl) ?_
            refine lv_iconst (v := 0) hx hb dX5_name_91 (by decide) ?_
            refine gx_putI hx hb hts hinX5 tyX5 tyX5_ok nmX5 hown G 5 (by decide) rfl rfl 9 (by decide) rfl lk117 rfl rfl (tyX5_ok 9 (by decide)) (rfl) (rfl) dX5_name_92 (fun H locs G => ?_)
            refine lv_aload_n hx hb dX5_name_95 rfl (lv_at hl 0 rfl) ?_
            refine gx_get hx hb hts hinX5 hown G 5 (by decide) rfl rfl 0 (by decide) rfl lk66 rfl (v := .int ((I 5 0) + 1)) rfl dX5_name_96 ?_
            refine lv_iconst (v := 1) hx hb dX5_name_99 (by decide) ?_
            refine lv_isub hx hb dX5_name_100 ?_
            exact gx_ir hx hb hr hlocks G hQ ⟨by unfold m_name; rw [if_neg c5, if_neg c16], by unfold m_nameS; rw [if_neg c5, if_neg c16, show r = 8 by omega]⟩ dX5_name_101
          · skip
            have n57 := gn_nle (X := 8) (Y := r) rfl rfl (by omega) (by omega) c57
            refine lv_aload_n hx hb dX5_name_60 rfl (lv_at hl 0 rfl) ?_
            refine gx_get hx hb hts hinX5 hown G 5 (by decide) rfl rfl 7 (by decide) rfl lk25 rfl (v := .ref (ad 32)) rfl dX5_name_61 ?_
            refine lv_iconst (v := 5) hx hb dX5_name_64 (by decide) ?_
            refine lv_iload_n hx hb dX5_name_65 rfl (lv_at hl 3 rfl) ?_
            refine lv_imul hx hb dX5_name_66 ?_
            refine lv_aload_n hx hb dX5_name_67 rfl (lv_at hl 0 rfl) ?_
            refine gx_get hx hb hts hinX5 hown G 5 (by decide) rfl rfl 0 (by decide) rfl lk66 rfl (v := .int (I 5 0)) rfl dX5_name_68 ?_
            refine lv_iadd hx hb dX5_name_71 ?_
            refine lv_iconst (v := 0) hx hb dX5_name_72 (by decide) ?_
            refine gx_iast hx hb G 32 (by decide) (rfl) (by decide) ((5 * r) + (cN (I 5 0))) (gn_add (gn_mul rfl rfl) hmn) (by omega) dX5_name_73 (fun H locs G => ?_)
            refine lv_iinc (v := (nI (r + 1))) (lv' := [(3, .int (nI (r + 1))), (0, .ref (ad 5)), (1, .int lo), (2, .int hi)]) hx hb dX5_name_74 hl (k := 3) rfl (gn_add (X := r) (Y := 1) rfl rfl) (by decide) rfl (fun ls hl => ?_)
            refine lv_goto (tgt := 54) hx hb dX5_name_77 (by decide) ?_
            exact ih54  (r + 1) _ _ _ (by omega) (by omega) (gg_eq G rfl rfl (by first | rfl | (simp only [m_wipN, c57, reduceIte]; done) | (simp [m_wipN, c57, reduceIte]; done)) rfl) (lv_sub hl [1, 2, 3, 0] rfl)
      exact K54 (8 - 0 + 1) 0 _ _ _ (by omega) (Nat.lt_succ_self _) (gg_eq G rfl rfl (by first | rfl | (simp only [m_wipN, c5, c16, reduceIte]; done) | (simp [m_wipN, c5, c16, reduceIte]; done)) rfl) (lv_sub hl [1, 2, 3, 0] rfl)
    · skip
      have n16 := gn_eq (X := (cN (I 5 0))) (Y := 5) hmn rfl (by omega) (by omega) c16
      refine lv_bipush (v := -4) hx hb dX5_name_19 (by decide) ?_
      exact gx_ir hx hb hr hlocks G hQ ⟨by unfold m_name; rw [if_neg c5, if_pos c16], by unfold m_nameS; rw [if_neg c5, if_pos c16]⟩ dX5_name_21
  · skip
    refine lv_bipush (v := -2) hx hb dX5_name_8 (by decide) ?_
    exact gx_ir hx hb hr hlocks G hQ ⟨by unfold m_name; rw [if_pos c5], by unfold m_nameS; rw [if_pos c5]⟩ dX5_name_10

set_option maxHeartbeats 4000000 in
set_option maxRecDepth 100000 in
theorem kX5_span (l : Launch) (D : va_G) (ad : Nat → Nat) (cy : Nat → ClassId) (I : gF) (J : gL) (a : gF) (b : gL) (sz : Nat) (v lo hi : Int32) (hmn : I 5 0 = nI (cN (I 5 0))) (hmn2 : cN (I 5 0) ≤ 5) (hmr : I 5 1 = nI (cN (I 5 1))) (hmr2 : cN (I 5 1) ≤ 8) : gMi l yX5_span wsX5_span ({ frames := 1, cells := 0, slots := 0, locals := 21 }) D ad cy I J a b sz [.ref (ad 5), .int v, .int lo, .int hi] (fun res u => res = m_sp (I, J, a, b) v lo hi ∧ u = m_spS (I, J, a, b) v lo hi) := by
  refine Met.ofW (cc := cX5_span) (maxL := 4) (ret := some .int) (by decide) rfl ?_
  intro p e s m args below meth c s₁ B hml hv
  obtain ⟨hargs, hsz, G⟩ := gx_begin hv
  subst hsz
  have hx := B.exec
  have hb := B.bytes
  have hr := B.returns
  have hts := atoms_spec (ws := wsX5_span) B.pre
  have hown : s.vm.findClass RX5 = some m.cls := findClass_of_methodNamed B.named
  have hlocks := B.notSynchronized
  have hinX5 : ∀ w ∈ wsX50, w ∈ wsX5_span := by decide +kernel
  have lk7 := hts (.fieldLink RX5 7 "ExactSimplexModel" "low" "[I") (by decide +kernel)
  have lk13 := hts (.fieldLink RX5 13 "ExactSimplexModel" "high" "[I") (by decide +kernel)
  have lk117 := hts (.fieldLink RX5 117 "ExactSimplexModel" "known" "Z") (by decide +kernel)
  have hl := lv_entry ([.ref (ad 5), .int v, .int lo, .int hi]) (n := 4) (Nat.le_of_ble_eq_true rfl)
  have hent := lg_entry_eq m ([.ref (ad 5), .int v, .int lo, .int hi]) 4
  rw [← hargs] at hent
  rw [hent]
  clear hent
  generalize (lg_sl ([.ref (ad 5), .int v, .int lo, .int hi]) ++ List.replicate (4 - (lg_sl ([.ref (ad 5), .int v, .int lo, .int hi])).length) Slot.unset).toArray = ls at hl ⊢
  have hl : lv_has ls 4 [(0, .ref (ad 5)), (1, .int v), (2, .int lo), (3, .int hi)] := hl
  generalize hA : gA ad s.heap.size = A at G ⊢
  generalize hH : s.heap = H at G ⊢
  refine gx_q (fun Q hQ => ?_)
  refine lv_aload_n hx hb dX5_span_0 rfl (lv_at hl 0 rfl) ?_
  refine lv_iload_n hx hb dX5_span_1 rfl (lv_at hl 1 rfl) ?_
  refine gx_dVi (v := (m_isN I v)) (I1 := I) (J1 := J) (a1 := a) (b1 := b) (As := [.int v]) (rest := []) ⟨hx, hb, hml, hown, hts⟩ G 5 (kX5_isName l D ad cy I J a b H.size v) (cwV 1 hts gX5_span_X5_isName rfl rfl rfl (by decide +kernel) ⟨Nat.le_of_ble_eq_true rfl, Nat.le_of_ble_eq_true rfl⟩) (by decide) rfl rfl rfl rfl hl.1 rfl (Nat.le_of_ble_eq_true rfl) ⟨Nat.zero_le _, Nat.zero_le _⟩ dX5_span_2 (fun H locs G => ?_)
  refine lv_if_ne (tgt := 10) hx hb dX5_span_5 (by decide) (fun c5 => ?_) (fun c5 => ?_)
  · skip
    obtain ⟨j, hj, ej⟩ := m_isN_ix hmn (by omega) c5
    have ecl : cN v = j := cN_of ej (by omega)
    refine lv_iload_n hx hb dX5_span_10 rfl (lv_at hl 2 rfl) ?_
    refine lv_iload_n hx hb dX5_span_11 rfl (lv_at hl 3 rfl) ?_
    refine gx_dSi (v := (m_span lo hi)) (I1 := I) (J1 := J) (a1 := a) (b1 := b) (As := [.int lo, .int hi]) (rest := []) ⟨hx, hb, hml, hown, hts⟩ G (kX5_isSpan l D ad cy I J a b H.size lo hi) (va_cwS 2 hts gX5_span_X5_isSpan rfl rfl rfl (by decide +kernel) ⟨Nat.le_of_ble_eq_true rfl, Nat.le_of_ble_eq_true rfl⟩) rfl hl.1 rfl (Nat.le_of_ble_eq_true rfl) ⟨Nat.zero_le _, Nat.zero_le _⟩ dX5_span_12 (fun H locs G => ?_)
    refine lv_if_ne (tgt := 21) hx hb dX5_span_15 (by decide) (fun c15 => ?_) (fun c15 => ?_)
    · skip
      refine lv_aload_n hx hb dX5_span_21 rfl (lv_at hl 0 rfl) ?_
      refine gx_get hx hb hts hinX5 hown G 5 (by decide) rfl rfl 2 (by decide) rfl lk7 rfl (v := .ref (ad 27)) rfl dX5_span_22 ?_
      refine lv_iload_n hx hb dX5_span_25 rfl (lv_at hl 1 rfl) ?_
      refine lv_iload_n hx hb dX5_span_26 rfl (lv_at hl 2 rfl) ?_
      refine gx_iast hx hb G 27 (by decide) (rfl) (by decide) j ej (by omega) dX5_span_27 (fun H locs G => ?_)
      refine lv_aload_n hx hb dX5_span_28 rfl (lv_at hl 0 rfl) ?_
      refine gx_get hx hb hts hinX5 hown G 5 (by decide) rfl rfl 3 (by decide) rfl lk13 rfl (v := .ref (ad 28)) rfl dX5_span_29 ?_
      refine lv_iload_n hx hb dX5_span_32 rfl (lv_at hl 1 rfl) ?_
      refine lv_iload_n hx hb dX5_span_33 rfl (lv_at hl 3 rfl) ?_
      refine gx_iast hx hb G 28 (by decide) (rfl) (by decide) j ej (by omega) dX5_span_34 (fun H locs G => ?_)
      refine lv_aload_n hx hb dX5_span_35 rfl (lv_at hl 0 rfl) ?_
      refine lv_iconst (v := 0) hx hb dX5_span_36 (by decide) ?_
      refine gx_putI hx hb hts hinX5 tyX5 tyX5_ok nmX5 hown G 5 (by decide) rfl rfl 9 (by decide) rfl lk117 rfl rfl (tyX5_ok 9 (by decide)) (rfl) (rfl) dX5_span_37 (fun H locs G => ?_)
      refine lv_iconst (v := 1) hx hb dX5_span_40 (by decide) ?_
      exact gx_ir hx hb hr hlocks G hQ ⟨by simp only [m_sp, c5, ecl, c15, reduceIte], by simp only [m_spS, c5, ecl, c15, reduceIte]⟩ dX5_span_41
    · skip
      refine lv_bipush (v := -2) hx hb dX5_span_18 (by decide) ?_
      exact gx_ir hx hb hr hlocks G hQ ⟨by simp only [m_sp, c5, ecl, c15, reduceIte], by simp only [m_spS, c5, ecl, c15, reduceIte]⟩ dX5_span_20
  · skip
    refine lv_iconst (v := -1) hx hb dX5_span_8 (by decide) ?_
    exact gx_ir hx hb hr hlocks G hQ ⟨by simp only [m_sp, c5, reduceIte], by simp only [m_spS, c5, reduceIte]⟩ dX5_span_9

set_option maxHeartbeats 4000000 in
set_option maxRecDepth 100000 in
theorem kX5_cost (l : Launch) (D : va_G) (ad : Nat → Nat) (cy : Nat → ClassId) (I : gF) (J : gL) (a : gF) (b : gL) (sz : Nat) (v w : Int32) (hmn : I 5 0 = nI (cN (I 5 0))) (hmn2 : cN (I 5 0) ≤ 5) (hmr : I 5 1 = nI (cN (I 5 1))) (hmr2 : cN (I 5 1) ≤ 8) : gMi l yX5_cost wsX5_cost ({ frames := 1, cells := 0, slots := 0, locals := 21 }) D ad cy I J a b sz [.ref (ad 5), .int v, .int w] (fun res u => res = m_co (I, J, a, b) v w ∧ u = m_coS (I, J, a, b) v w) := by
  refine Met.ofW (cc := cX5_cost) (maxL := 4) (ret := some .int) (by decide) rfl ?_
  intro p e s m args below meth c s₁ B hml hv
  obtain ⟨hargs, hsz, G⟩ := gx_begin hv
  subst hsz
  have hx := B.exec
  have hb := B.bytes
  have hr := B.returns
  have hts := atoms_spec (ws := wsX5_cost) B.pre
  have hown : s.vm.findClass RX5 = some m.cls := findClass_of_methodNamed B.named
  have hlocks := B.notSynchronized
  have hinX5 : ∀ w ∈ wsX50, w ∈ wsX5_cost := by decide +kernel
  have lk16 := hts (.fieldLink RX5 16 "ExactSimplexModel" "costs" "[I") (by decide +kernel)
  have lk117 := hts (.fieldLink RX5 117 "ExactSimplexModel" "known" "Z") (by decide +kernel)
  have hl := lv_entry ([.ref (ad 5), .int v, .int w]) (n := 4) (Nat.le_of_ble_eq_true rfl)
  have hent := lg_entry_eq m ([.ref (ad 5), .int v, .int w]) 4
  rw [← hargs] at hent
  rw [hent]
  clear hent
  generalize (lg_sl ([.ref (ad 5), .int v, .int w]) ++ List.replicate (4 - (lg_sl ([.ref (ad 5), .int v, .int w])).length) Slot.unset).toArray = ls at hl ⊢
  have hl : lv_has ls 4 [(0, .ref (ad 5)), (1, .int v), (2, .int w)] := hl
  generalize hA : gA ad s.heap.size = A at G ⊢
  generalize hH : s.heap = H at G ⊢
  refine gx_q (fun Q hQ => ?_)
  refine lv_aload_n hx hb dX5_cost_0 rfl (lv_at hl 0 rfl) ?_
  refine lv_iload_n hx hb dX5_cost_1 rfl (lv_at hl 1 rfl) ?_
  refine gx_dVi (v := (m_isN I v)) (I1 := I) (J1 := J) (a1 := a) (b1 := b) (As := [.int v]) (rest := []) ⟨hx, hb, hml, hown, hts⟩ G 5 (kX5_isName l D ad cy I J a b H.size v) (cwV 1 hts gX5_cost_X5_isName rfl rfl rfl (by decide +kernel) ⟨Nat.le_of_ble_eq_true rfl, Nat.le_of_ble_eq_true rfl⟩) (by decide) rfl rfl rfl rfl hl.1 rfl (Nat.le_of_ble_eq_true rfl) ⟨Nat.zero_le _, Nat.zero_le _⟩ dX5_cost_2 (fun H locs G => ?_)
  refine lv_if_ne (tgt := 10) hx hb dX5_cost_5 (by decide) (fun c5 => ?_) (fun c5 => ?_)
  · skip
    obtain ⟨j, hj, ej⟩ := m_isN_ix hmn (by omega) c5
    have ecl : cN v = j := cN_of ej (by omega)
    refine lv_iload_n hx hb dX5_cost_10 rfl (lv_at hl 2 rfl) ?_
    refine lv_bipush (v := -99) hx hb dX5_cost_11 (by decide) ?_
    refine lv_icmp_lt (tgt := 22) hx hb dX5_cost_13 (by decide) (fun c13 => ?_) (fun c13 => ?_)
    · skip
      refine lv_bipush (v := -2) hx hb dX5_cost_22 (by decide) ?_
      exact gx_ir hx hb hr hlocks G hQ ⟨by simp only [m_co, c5, ecl, c13, reduceIte], by simp only [m_coS, c5, ecl, c13, reduceIte]⟩ dX5_cost_24
    · skip
      refine lv_iload_n hx hb dX5_cost_16 rfl (lv_at hl 2 rfl) ?_
      refine lv_bipush (v := 99) hx hb dX5_cost_17 (by decide) ?_
      refine lv_icmp_le (tgt := 25) hx hb dX5_cost_19 (by decide) (fun c19 => ?_) (fun c19 => ?_)
      · skip
        refine lv_aload_n hx hb dX5_cost_25 rfl (lv_at hl 0 rfl) ?_
        refine gx_get hx hb hts hinX5 hown G 5 (by decide) rfl rfl 4 (by decide) rfl lk16 rfl (v := .ref (ad 29)) rfl dX5_cost_26 ?_
        refine lv_iload_n hx hb dX5_cost_29 rfl (lv_at hl 1 rfl) ?_
        refine gx_iald hx hb G 29 (by decide) (rfl) (by decide) j ej (by omega) dX5_cost_30 ?_
        refine lv_istore_n (lv' := [(3, .int (a 29 j)), (0, .ref (ad 5)), (1, .int v), (2, .int w)]) hx hb dX5_cost_31 rfl hl (by decide) rfl (fun ls hl => ?_)
        refine lv_aload_n hx hb dX5_cost_32 rfl (lv_at hl 1 rfl) ?_
        refine gx_get hx hb hts hinX5 hown G 5 (by decide) rfl rfl 4 (by decide) rfl lk16 rfl (v := .ref (ad 29)) rfl dX5_cost_33 ?_
        refine lv_iload_n hx hb dX5_cost_36 rfl (lv_at hl 2 rfl) ?_
        refine lv_iload_n hx hb dX5_cost_37 rfl (lv_at hl 3 rfl) ?_
        refine gx_iast hx hb G 29 (by decide) (rfl) (by decide) j ej (by omega) dX5_cost_38 (fun H locs G => ?_)
        refine lv_aload_n hx hb dX5_cost_39 rfl (lv_at hl 1 rfl) ?_
        refine lv_iconst (v := 0) hx hb dX5_cost_40 (by decide) ?_
        refine gx_putI hx hb hts hinX5 tyX5 tyX5_ok nmX5 hown G 5 (by decide) rfl rfl 9 (by decide) rfl lk117 rfl rfl (tyX5_ok 9 (by decide)) (rfl) (rfl) dX5_cost_41 (fun H locs G => ?_)
        refine lv_iload_n hx hb dX5_cost_44 rfl (lv_at hl 0 rfl) ?_
        exact gx_ir hx hb hr hlocks G hQ ⟨by simp only [m_co, c5, ecl, c13, c19, reduceIte], by simp only [m_coS, c5, ecl, c13, c19, reduceIte]⟩ dX5_cost_45
      · skip
        refine lv_bipush (v := -2) hx hb dX5_cost_22 (by decide) ?_
        exact gx_ir hx hb hr hlocks G hQ ⟨by simp only [m_co, c5, ecl, c13, c19, reduceIte], by simp only [m_coS, c5, ecl, c13, c19, reduceIte]⟩ dX5_cost_24
  · skip
    refine lv_iconst (v := -1) hx hb dX5_cost_8 (by decide) ?_
    exact gx_ir hx hb hr hlocks G hQ ⟨by simp only [m_co, c5, reduceIte], by simp only [m_coS, c5, reduceIte]⟩ dX5_cost_9

set_option maxHeartbeats 4000000 in
set_option maxRecDepth 100000 in
theorem kX5_row (l : Launch) (D : va_G) (ad : Nat → Nat) (cy : Nat → ClassId) (I : gF) (J : gL) (a : gF) (b : gL) (sz : Nat) (se ri : Int32) (hmn : I 5 0 = nI (cN (I 5 0))) (hmn2 : cN (I 5 0) ≤ 5) (hmr : I 5 1 = nI (cN (I 5 1))) (hmr2 : cN (I 5 1) ≤ 8) : gMi l yX5_row wsX5_row ({ frames := 0, cells := 0, slots := 0, locals := 0 }) D ad cy I J a b sz [.ref (ad 5), .int se, .int ri] (fun res u => res = m_row (I, J, a, b) se ri ∧ u = m_rowS (I, J, a, b) se ri) := by
  refine Met.ofW (cc := cX5_row) (maxL := 4) (ret := some .int) (by decide) rfl ?_
  intro p e s m args below meth c s₁ B hml hv
  obtain ⟨hargs, hsz, G⟩ := gx_begin hv
  subst hsz
  have hx := B.exec
  have hb := B.bytes
  have hr := B.returns
  have hts := atoms_spec (ws := wsX5_row) B.pre
  have hown : s.vm.findClass RX5 = some m.cls := findClass_of_methodNamed B.named
  have hlocks := B.notSynchronized
  have hinX5 : ∀ w ∈ wsX50, w ∈ wsX5_row := by decide +kernel
  have lk19 := hts (.fieldLink RX5 19 "ExactSimplexModel" "sense" "[I") (by decide +kernel)
  have lk22 := hts (.fieldLink RX5 22 "ExactSimplexModel" "rights" "[I") (by decide +kernel)
  have lk25 := hts (.fieldLink RX5 25 "ExactSimplexModel" "factors" "[I") (by decide +kernel)
  have lk28 := hts (.fieldLink RX5 28 "ExactSimplexModel" "alive" "[Z") (by decide +kernel)
  have lk78 := hts (.fieldLink RX5 78 "ExactSimplexModel" "rows" "I") (by decide +kernel)
  have lk117 := hts (.fieldLink RX5 117 "ExactSimplexModel" "known" "Z") (by decide +kernel)
  have hl := lv_entry ([.ref (ad 5), .int se, .int ri]) (n := 4) (Nat.le_of_ble_eq_true rfl)
  have hent := lg_entry_eq m ([.ref (ad 5), .int se, .int ri]) 4
  rw [← hargs] at hent
  rw [hent]
  clear hent
  generalize (lg_sl ([.ref (ad 5), .int se, .int ri]) ++ List.replicate (4 - (lg_sl ([.ref (ad 5), .int se, .int ri])).length) Slot.unset).toArray = ls at hl ⊢
  have hl : lv_has ls 4 [(0, .ref (ad 5)), (1, .int se), (2, .int ri)] := hl
  generalize hA : gA ad s.heap.size = A at G ⊢
  generalize hH : s.heap = H at G ⊢
  refine gx_q (fun Q hQ => ?_)
  refine lv_iload_n hx hb dX5_row_0 rfl (lv_at hl 1 rfl) ?_
  refine lv_if_lt (tgt := 23) hx hb dX5_row_1 (by decide) (fun c1 => ?_) (fun c1 => ?_)
  · skip
    refine lv_bipush (v := -2) hx hb dX5_row_23 (by decide) ?_
    exact gx_ir hx hb hr hlocks G hQ ⟨by simp only [m_row, c1, reduceIte], by simp only [m_rowS, c1, reduceIte]⟩ dX5_row_25
  · skip
    refine lv_iload_n hx hb dX5_row_4 rfl (lv_at hl 1 rfl) ?_
    refine lv_iconst (v := 2) hx hb dX5_row_5 (by decide) ?_
    refine lv_icmp_gt (tgt := 23) hx hb dX5_row_6 (by decide) (fun c6 => ?_) (fun c6 => ?_)
    · skip
      refine lv_bipush (v := -2) hx hb dX5_row_23 (by decide) ?_
      exact gx_ir hx hb hr hlocks G hQ ⟨by simp only [m_row, c1, c6, reduceIte], by simp only [m_rowS, c1, c6, reduceIte]⟩ dX5_row_25
    · skip
      refine lv_iload_n hx hb dX5_row_9 rfl (lv_at hl 2 rfl) ?_
      refine lv_sipush (v := -1000) hx hb dX5_row_10 (by decide) ?_
      refine lv_icmp_lt (tgt := 23) hx hb dX5_row_13 (by decide) (fun c13 => ?_) (fun c13 => ?_)
      · skip
        refine lv_bipush (v := -2) hx hb dX5_row_23 (by decide) ?_
        exact gx_ir hx hb hr hlocks G hQ ⟨by simp only [m_row, c1, c6, c13, reduceIte], by simp only [m_rowS, c1, c6, c13, reduceIte]⟩ dX5_row_25
      · skip
        refine lv_iload_n hx hb dX5_row_16 rfl (lv_at hl 2 rfl) ?_
        refine lv_sipush (v := 1000) hx hb dX5_row_17 (by decide) ?_
        refine lv_icmp_le (tgt := 26) hx hb dX5_row_20 (by decide) (fun c20 => ?_) (fun c20 => ?_)
        · skip
          refine lv_aload_n hx hb dX5_row_26 rfl (lv_at hl 0 rfl) ?_
          refine gx_get hx hb hts hinX5 hown G 5 (by decide) rfl rfl 1 (by decide) rfl lk78 rfl (v := .int (I 5 1)) rfl dX5_row_27 ?_
          refine lv_bipush (v := 8) hx hb dX5_row_30 (by decide) ?_
          refine lv_icmp_ne (tgt := 38) hx hb dX5_row_32 (by decide) (fun c32 => ?_) (fun c32 => ?_)
          · skip
            have n32 := gn_neq (X := (cN (I 5 1))) (Y := 8) hmr rfl (by omega) (by omega) c32
            refine lv_aload_n hx hb dX5_row_38 rfl (lv_at hl 0 rfl) ?_
            refine gx_get hx hb hts hinX5 hown G 5 (by decide) rfl rfl 5 (by decide) rfl lk19 rfl (v := .ref (ad 30)) rfl dX5_row_39 ?_
            refine lv_aload_n hx hb dX5_row_42 rfl (lv_at hl 0 rfl) ?_
            refine gx_get hx hb hts hinX5 hown G 5 (by decide) rfl rfl 1 (by decide) rfl lk78 rfl (v := .int (I 5 1)) rfl dX5_row_43 ?_
            refine lv_iload_n hx hb dX5_row_46 rfl (lv_at hl 1 rfl) ?_
            refine gx_iast hx hb G 30 (by decide) (rfl) (by decide) (cN (I 5 1)) hmr (by omega) dX5_row_47 (fun H locs G => ?_)
            refine lv_aload_n hx hb dX5_row_48 rfl (lv_at hl 0 rfl) ?_
            refine gx_get hx hb hts hinX5 hown G 5 (by decide) rfl rfl 6 (by decide) rfl lk22 rfl (v := .ref (ad 31)) rfl dX5_row_49 ?_
            refine lv_aload_n hx hb dX5_row_52 rfl (lv_at hl 0 rfl) ?_
            refine gx_get hx hb hts hinX5 hown G 5 (by decide) rfl rfl 1 (by decide) rfl lk78 rfl (v := .int (I 5 1)) rfl dX5_row_53 ?_
            refine lv_iload_n hx hb dX5_row_56 rfl (lv_at hl 2 rfl) ?_
            refine gx_iast hx hb G 31 (by decide) (rfl) (by decide) (cN (I 5 1)) hmr (by omega) dX5_row_57 (fun H locs G => ?_)
            refine lv_aload_n hx hb dX5_row_58 rfl (lv_at hl 0 rfl) ?_
            refine gx_get hx hb hts hinX5 hown G 5 (by decide) rfl rfl 8 (by decide) rfl lk28 rfl (v := .ref (ad 33)) rfl dX5_row_59 ?_
            refine lv_aload_n hx hb dX5_row_62 rfl (lv_at hl 0 rfl) ?_
            refine gx_get hx hb hts hinX5 hown G 5 (by decide) rfl rfl 1 (by decide) rfl lk78 rfl (v := .int (I 5 1)) rfl dX5_row_63 ?_
            refine lv_iconst (v := 1) hx hb dX5_row_66 (by decide) ?_
            refine gx_zast hx hb G 33 (by decide) (rfl) (by decide) (cN (I 5 1)) hmr (by omega) (rfl) dX5_row_67 (fun H locs G => ?_)
            refine lv_iconst (v := 0) hx hb dX5_row_68 (by decide) ?_
            refine lv_istore_n (lv' := [(3, .int 0), (0, .ref (ad 5)), (1, .int se), (2, .int ri)]) hx hb dX5_row_69 rfl hl (by decide) rfl (fun ls hl => ?_)
            have K70 : ∀ (nf : Nat) (r : Nat) (H : Heap) (locs : List Loc) (ls : Array Slot), (r ≤ 5) → 5 - r < nf → GG D ad cy A s I J (m_wipR (gU (gU (gU a 30 (cN (I 5 1)) se) 31 (cN (I 5 1)) ri) 33 (cN (I 5 1)) 1) (cN (I 5 1)) r) b H locs → lv_has ls 4 [(0, .ref (ad 5)), (1, .int se), (2, .int ri), (3, .int (nI r))] → W p l e ({ frames := 0, cells := 0, slots := 0, locals := 0 }) s m args below meth c H locs 0 0 Q (F0 m 70 ls []) := by
              intro nf
              induction nf with
              | zero => exact fun _ _ _ _ _ hz => absurd hz (Nat.not_lt_zero _)
              | succ nf ih =>
                intro r H locs ls h1 hmeas G hl
                have ih70 := ih
                clear ih
                refine lv_iload_n hx hb dX5_row_70 rfl (lv_at hl 3 rfl) ?_
                refine lv_iconst (v := 5) hx hb dX5_row_71 (by decide) ?_
                refine lv_icmp_ge (tgt := 95) hx hb dX5_row_72 (by decide) (fun c72 => ?_) (fun c72 => ?_)
                · skip
                  have n72 := gn_le (X := 5) (Y := r) rfl rfl (by omega) (by omega) c72
                  refine lv_aload_n hx hb dX5_row_95 rfl (lv_at hl 0 rfl) ?_
                  refine lv_dup hx hb dX5_row_96 rfl ?_
                  refine gx_get hx hb hts hinX5 hown G 5 (by decide) rfl rfl 1 (by decide) rfl lk78 rfl (v := .int (I 5 1)) rfl dX5_row_97 ?_
                  refine lv_iconst (v := 1) hx hb dX5_row_100 (by decide) ?_
                  refine lv_iadd hx hb dX5_row_101 ?_
                  refine gx_putI hx hb hts hinX5 tyX5 tyX5_ok nmX5 hown G 5 (by decide) rfl rfl 1 (by decide) rfl lk78 rfl rfl (tyX5_ok 1 (by decide)) (rfl) (rfl) dX5_row_102 (fun H locs G => ?_)
                  refine lv_aload_n hx hb dX5_row_105 rfl (lv_at hl 0 rfl) ?_
                  refine lv_iconst (v := 0) hx hb dX5_row_106 (by decide) ?_
                  refine gx_putI hx hb hts hinX5 tyX5 tyX5_ok nmX5 hown G 5 (by decide) rfl rfl 9 (by decide) rfl lk117 rfl rfl (tyX5_ok 9 (by decide)) (rfl) (rfl) dX5_row_107 (fun H locs G => ?_)
                  refine lv_aload_n hx hb dX5_row_110 rfl (lv_at hl 0 rfl) ?_
                  refine gx_get hx hb hts hinX5 hown G 5 (by decide) rfl rfl 1 (by decide) rfl lk78 rfl (v := .int ((I 5 1) + 1)) rfl dX5_row_111 ?_
                  refine lv_iconst (v := 1) hx hb dX5_row_114 (by decide) ?_
                  refine lv_isub hx hb dX5_row_115 ?_
                  exact gx_ir hx hb hr hlocks G hQ ⟨by unfold m_row; rw [if_neg c1, if_neg c6, if_neg c13, if_pos c20, if_neg c32], by unfold m_rowS; rw [if_neg c1, if_neg c6, if_neg c13, if_pos c20, if_neg c32, show r = 5 by omega]⟩ dX5_row_116
                · skip
                  have n72 := gn_nle (X := 5) (Y := r) rfl rfl (by omega) (by omega) c72
                  refine lv_aload_n hx hb dX5_row_75 rfl (lv_at hl 0 rfl) ?_
                  refine gx_get hx hb hts hinX5 hown G 5 (by decide) rfl rfl 7 (by decide) rfl lk25 rfl (v := .ref (ad 32)) rfl dX5_row_76 ?_
                  refine lv_iconst (v := 5) hx hb dX5_row_79 (by decide) ?_
                  refine lv_aload_n hx hb dX5_row_80 rfl (lv_at hl 0 rfl) ?_
                  refine gx_get hx hb hts hinX5 hown G 5 (by decide) rfl rfl 1 (by decide) rfl lk78 rfl (v := .int (I 5 1)) rfl dX5_row_81 ?_
                  refine lv_imul hx hb dX5_row_84 ?_
                  refine lv_iload_n hx hb dX5_row_85 rfl (lv_at hl 3 rfl) ?_
                  refine lv_iadd hx hb dX5_row_86 ?_
                  refine lv_iconst (v := 0) hx hb dX5_row_87 (by decide) ?_
                  refine gx_iast hx hb G 32 (by decide) (rfl) (by decide) ((5 * (cN (I 5 1))) + r) (gn_add (gn_mul rfl hmr) rfl) (by omega) dX5_row_88 (fun H locs G => ?_)
                  refine lv_iinc (v := (nI (r + 1))) (lv' := [(3, .int (nI (r + 1))), (0, .ref (ad 5)), (1, .int se), (2, .int ri)]) hx hb dX5_row_89 hl (k := 3) rfl (gn_add (X := r) (Y := 1) rfl rfl) (by decide) rfl (fun ls hl => ?_)
                  refine lv_goto (tgt := 70) hx hb dX5_row_92 (by decide) ?_
                  exact ih70  (r + 1) _ _ _ (by omega) (by omega) (gg_eq G rfl rfl (by first | rfl | (simp only [m_wipR, c72, reduceIte]; done) | (simp [m_wipR, c72, reduceIte]; done)) rfl) (lv_sub hl [1, 2, 3, 0] rfl)
            exact K70 (5 - 0 + 1) 0 _ _ _ (by omega) (Nat.lt_succ_self _) (gg_eq G rfl rfl (by first | rfl | (simp only [m_wipR, c1, c6, c13, c20, c32, reduceIte]; done) | (simp [m_wipR, c1, c6, c13, c20, c32, reduceIte]; done)) rfl) (lv_sub hl [1, 2, 3, 0] rfl)
          · skip
            have n32 := gn_eq (X := (cN (I 5 1))) (Y := 8) hmr rfl (by omega) (by omega) c32
            refine lv_bipush (v := -4) hx hb dX5_row_35 (by decide) ?_
            exact gx_ir hx hb hr hlocks G hQ ⟨by unfold m_row; rw [if_neg c1, if_neg c6, if_neg c13, if_pos c20, if_pos c32], by unfold m_rowS; rw [if_neg c1, if_neg c6, if_neg c13, if_pos c20, if_pos c32]⟩ dX5_row_37
        · skip
          refine lv_bipush (v := -2) hx hb dX5_row_23 (by decide) ?_
          exact gx_ir hx hb hr hlocks G hQ ⟨by simp only [m_row, c1, c6, c13, c20, reduceIte], by simp only [m_rowS, c1, c6, c13, c20, reduceIte]⟩ dX5_row_25

set_option maxHeartbeats 4000000 in
set_option maxRecDepth 100000 in
theorem kX5_right (l : Launch) (D : va_G) (ad : Nat → Nat) (cy : Nat → ClassId) (I : gF) (J : gL) (a : gF) (b : gL) (sz : Nat) (r w : Int32) (hmn : I 5 0 = nI (cN (I 5 0))) (hmn2 : cN (I 5 0) ≤ 5) (hmr : I 5 1 = nI (cN (I 5 1))) (hmr2 : cN (I 5 1) ≤ 8) : gMi l yX5_right wsX5_right ({ frames := 1, cells := 0, slots := 0, locals := 21 }) D ad cy I J a b sz [.ref (ad 5), .int r, .int w] (fun res u => res = m_right (I, J, a, b) r w ∧ u = m_rightS (I, J, a, b) r w) := by
  refine Met.ofW (cc := cX5_right) (maxL := 3) (ret := some .int) (by decide) rfl ?_
  intro p e s m args below meth c s₁ B hml hv
  obtain ⟨hargs, hsz, G⟩ := gx_begin hv
  subst hsz
  have hx := B.exec
  have hb := B.bytes
  have hr := B.returns
  have hts := atoms_spec (ws := wsX5_right) B.pre
  have hown : s.vm.findClass RX5 = some m.cls := findClass_of_methodNamed B.named
  have hlocks := B.notSynchronized
  have hinX5 : ∀ w ∈ wsX50, w ∈ wsX5_right := by decide +kernel
  have lk22 := hts (.fieldLink RX5 22 "ExactSimplexModel" "rights" "[I") (by decide +kernel)
  have lk117 := hts (.fieldLink RX5 117 "ExactSimplexModel" "known" "Z") (by decide +kernel)
  have hl := lv_entry ([.ref (ad 5), .int r, .int w]) (n := 3) (Nat.le_of_ble_eq_true rfl)
  have hent := lg_entry_eq m ([.ref (ad 5), .int r, .int w]) 3
  rw [← hargs] at hent
  rw [hent]
  clear hent
  generalize (lg_sl ([.ref (ad 5), .int r, .int w]) ++ List.replicate (3 - (lg_sl ([.ref (ad 5), .int r, .int w])).length) Slot.unset).toArray = ls at hl ⊢
  have hl : lv_has ls 3 [(0, .ref (ad 5)), (1, .int r), (2, .int w)] := hl
  generalize hA : gA ad s.heap.size = A at G ⊢
  generalize hH : s.heap = H at G ⊢
  refine gx_q (fun Q hQ => ?_)
  refine lv_aload_n hx hb dX5_right_0 rfl (lv_at hl 0 rfl) ?_
  refine lv_iload_n hx hb dX5_right_1 rfl (lv_at hl 1 rfl) ?_
  refine gx_dVi (v := (m_isR I a r)) (I1 := I) (J1 := J) (a1 := a) (b1 := b) (As := [.int r]) (rest := []) ⟨hx, hb, hml, hown, hts⟩ G 5 (kX5_isRow l D ad cy I J a b H.size (cN (I 5 1)) r hmr hmr2) (cwV 1 hts gX5_right_X5_isRow rfl rfl rfl (by decide +kernel) ⟨Nat.le_of_ble_eq_true rfl, Nat.le_of_ble_eq_true rfl⟩) (by decide) rfl rfl rfl rfl hl.1 rfl (Nat.le_of_ble_eq_true rfl) ⟨Nat.zero_le _, Nat.zero_le _⟩ dX5_right_2 (fun H locs G => ?_)
  refine lv_if_ne (tgt := 10) hx hb dX5_right_5 (by decide) (fun c5 => ?_) (fun c5 => ?_)
  · skip
    obtain ⟨j, hj, ej⟩ := m_isR_ix hmr (by omega) c5
    have eclj : cN r = j := cN_of ej (by omega)
    refine lv_iload_n hx hb dX5_right_10 rfl (lv_at hl 2 rfl) ?_
    refine lv_sipush (v := -1000) hx hb dX5_right_11 (by decide) ?_
    refine lv_icmp_lt (tgt := 24) hx hb dX5_right_14 (by decide) (fun c14 => ?_) (fun c14 => ?_)
    · skip
      refine lv_bipush (v := -2) hx hb dX5_right_24 (by decide) ?_
      exact gx_ir hx hb hr hlocks G hQ ⟨by simp only [m_right, c5, eclj, c14, reduceIte], by simp only [m_rightS, c5, eclj, c14, reduceIte]⟩ dX5_right_26
    · skip
      refine lv_iload_n hx hb dX5_right_17 rfl (lv_at hl 2 rfl) ?_
      refine lv_sipush (v := 1000) hx hb dX5_right_18 (by decide) ?_
      refine lv_icmp_le (tgt := 27) hx hb dX5_right_21 (by decide) (fun c21 => ?_) (fun c21 => ?_)
      · skip
        refine lv_aload_n hx hb dX5_right_27 rfl (lv_at hl 0 rfl) ?_
        refine gx_get hx hb hts hinX5 hown G 5 (by decide) rfl rfl 6 (by decide) rfl lk22 rfl (v := .ref (ad 31)) rfl dX5_right_28 ?_
        refine lv_iload_n hx hb dX5_right_31 rfl (lv_at hl 1 rfl) ?_
        refine lv_iload_n hx hb dX5_right_32 rfl (lv_at hl 2 rfl) ?_
        refine gx_iast hx hb G 31 (by decide) (rfl) (by decide) j ej (by omega) dX5_right_33 (fun H locs G => ?_)
        refine lv_aload_n hx hb dX5_right_34 rfl (lv_at hl 0 rfl) ?_
        refine lv_iconst (v := 0) hx hb dX5_right_35 (by decide) ?_
        refine gx_putI hx hb hts hinX5 tyX5 tyX5_ok nmX5 hown G 5 (by decide) rfl rfl 9 (by decide) rfl lk117 rfl rfl (tyX5_ok 9 (by decide)) (rfl) (rfl) dX5_right_36 (fun H locs G => ?_)
        refine lv_iconst (v := 1) hx hb dX5_right_39 (by decide) ?_
        exact gx_ir hx hb hr hlocks G hQ ⟨by simp only [m_right, c5, eclj, c14, c21, reduceIte], by simp only [m_rightS, c5, eclj, c14, c21, reduceIte]⟩ dX5_right_40
      · skip
        refine lv_bipush (v := -2) hx hb dX5_right_24 (by decide) ?_
        exact gx_ir hx hb hr hlocks G hQ ⟨by simp only [m_right, c5, eclj, c14, c21, reduceIte], by simp only [m_rightS, c5, eclj, c14, c21, reduceIte]⟩ dX5_right_26
  · skip
    refine lv_iconst (v := -1) hx hb dX5_right_8 (by decide) ?_
    exact gx_ir hx hb hr hlocks G hQ ⟨by simp only [m_right, c5, reduceIte], by simp only [m_rightS, c5, reduceIte]⟩ dX5_right_9

set_option maxHeartbeats 4000000 in
set_option maxRecDepth 100000 in
theorem kX5_factor (l : Launch) (D : va_G) (ad : Nat → Nat) (cy : Nat → ClassId) (I : gF) (J : gL) (a : gF) (b : gL) (sz : Nat) (r v w : Int32) (hmn : I 5 0 = nI (cN (I 5 0))) (hmn2 : cN (I 5 0) ≤ 5) (hmr : I 5 1 = nI (cN (I 5 1))) (hmr2 : cN (I 5 1) ≤ 8) : gMi l yX5_factor wsX5_factor ({ frames := 1, cells := 0, slots := 0, locals := 21 }) D ad cy I J a b sz [.ref (ad 5), .int r, .int v, .int w] (fun res u => res = m_factor (I, J, a, b) r v w ∧ u = m_factorS (I, J, a, b) r v w) := by
  refine Met.ofW (cc := cX5_factor) (maxL := 4) (ret := some .int) (by decide) rfl ?_
  intro p e s m args below meth c s₁ B hml hv
  obtain ⟨hargs, hsz, G⟩ := gx_begin hv
  subst hsz
  have hx := B.exec
  have hb := B.bytes
  have hr := B.returns
  have hts := atoms_spec (ws := wsX5_factor) B.pre
  have hown : s.vm.findClass RX5 = some m.cls := findClass_of_methodNamed B.named
  have hlocks := B.notSynchronized
  have hinX5 : ∀ w ∈ wsX50, w ∈ wsX5_factor := by decide +kernel
  have lk25 := hts (.fieldLink RX5 25 "ExactSimplexModel" "factors" "[I") (by decide +kernel)
  have lk117 := hts (.fieldLink RX5 117 "ExactSimplexModel" "known" "Z") (by decide +kernel)
  have hl := lv_entry ([.ref (ad 5), .int r, .int v, .int w]) (n := 4) (Nat.le_of_ble_eq_true rfl)
  have hent := lg_entry_eq m ([.ref (ad 5), .int r, .int v, .int w]) 4
  rw [← hargs] at hent
  rw [hent]
  clear hent
  generalize (lg_sl ([.ref (ad 5), .int r, .int v, .int w]) ++ List.replicate (4 - (lg_sl ([.ref (ad 5), .int r, .int v, .int w])).length) Slot.unset).toArray = ls at hl ⊢
  have hl : lv_has ls 4 [(0, .ref (ad 5)), (1, .int r), (2, .int v), (3, .int w)] := hl
  generalize hA : gA ad s.heap.size = A at G ⊢
  generalize hH : s.heap = H at G ⊢
  refine gx_q (fun Q hQ => ?_)
  refine lv_aload_n hx hb dX5_factor_0 rfl (lv_at hl 0 rfl) ?_
  refine lv_iload_n hx hb dX5_factor_1 rfl (lv_at hl 1 rfl) ?_
  refine gx_dVi (v := (m_isR I a r)) (I1 := I) (J1 := J) (a1 := a) (b1 := b) (As := [.int r]) (rest := []) ⟨hx, hb, hml, hown, hts⟩ G 5 (kX5_isRow l D ad cy I J a b H.size (cN (I 5 1)) r hmr hmr2) (cwV 1 hts gX5_factor_X5_isRow rfl rfl rfl (by decide +kernel) ⟨Nat.le_of_ble_eq_true rfl, Nat.le_of_ble_eq_true rfl⟩) (by decide) rfl rfl rfl rfl hl.1 rfl (Nat.le_of_ble_eq_true rfl) ⟨Nat.zero_le _, Nat.zero_le _⟩ dX5_factor_2 (fun H locs G => ?_)
  refine lv_if_eq (tgt := 16) hx hb dX5_factor_5 (by decide) (fun c5 => ?_) (fun c5 => ?_)
  · skip
    refine lv_iconst (v := -1) hx hb dX5_factor_16 (by decide) ?_
    exact gx_ir hx hb hr hlocks G hQ ⟨by simp only [m_factor, c5, reduceIte], by simp only [m_factorS, c5, reduceIte]⟩ dX5_factor_17
  · skip
    obtain ⟨i, hi, ei⟩ := m_isR_ix hmr (by omega) c5
    have ecli : cN r = i := cN_of ei (by omega)
    refine lv_aload_n hx hb dX5_factor_8 rfl (lv_at hl 0 rfl) ?_
    refine lv_iload_n hx hb dX5_factor_9 rfl (lv_at hl 2 rfl) ?_
    refine gx_dVi (v := (m_isN I v)) (I1 := I) (J1 := J) (a1 := a) (b1 := b) (As := [.int v]) (rest := []) ⟨hx, hb, hml, hown, hts⟩ G 5 (kX5_isName l D ad cy I J a b H.size v) (cwV 1 hts gX5_factor_X5_isName rfl rfl rfl (by decide +kernel) ⟨Nat.le_of_ble_eq_true rfl, Nat.le_of_ble_eq_true rfl⟩) (by decide) rfl rfl rfl rfl hl.1 rfl (Nat.le_of_ble_eq_true rfl) ⟨Nat.zero_le _, Nat.zero_le _⟩ dX5_factor_10 (fun H locs G => ?_)
    refine lv_if_ne (tgt := 18) hx hb dX5_factor_13 (by decide) (fun c13 => ?_) (fun c13 => ?_)
    · skip
      obtain ⟨j, hj, ej⟩ := m_isN_ix hmn (by omega) c13
      have ecl : cN v = j := cN_of ej (by omega)
      refine lv_iload_n hx hb dX5_factor_18 rfl (lv_at hl 3 rfl) ?_
      refine lv_bipush (v := -9) hx hb dX5_factor_19 (by decide) ?_
      refine lv_icmp_lt (tgt := 30) hx hb dX5_factor_21 (by decide) (fun c21 => ?_) (fun c21 => ?_)
      · skip
        refine lv_bipush (v := -2) hx hb dX5_factor_30 (by decide) ?_
        exact gx_ir hx hb hr hlocks G hQ ⟨by simp only [m_factor, c5, ecli, c13, ecl, c21, reduceIte], by simp only [m_factorS, c5, ecli, c13, ecl, c21, reduceIte]⟩ dX5_factor_32
      · skip
        refine lv_iload_n hx hb dX5_factor_24 rfl (lv_at hl 3 rfl) ?_
        refine lv_bipush (v := 9) hx hb dX5_factor_25 (by decide) ?_
        refine lv_icmp_le (tgt := 33) hx hb dX5_factor_27 (by decide) (fun c27 => ?_) (fun c27 => ?_)
        · skip
          refine lv_aload_n hx hb dX5_factor_33 rfl (lv_at hl 0 rfl) ?_
          refine gx_get hx hb hts hinX5 hown G 5 (by decide) rfl rfl 7 (by decide) rfl lk25 rfl (v := .ref (ad 32)) rfl dX5_factor_34 ?_
          refine lv_iconst (v := 5) hx hb dX5_factor_37 (by decide) ?_
          refine lv_iload_n hx hb dX5_factor_38 rfl (lv_at hl 1 rfl) ?_
          rw [ei]
          refine lv_imul hx hb dX5_factor_39 ?_
          refine lv_iload_n hx hb dX5_factor_40 rfl (lv_at hl 2 rfl) ?_
          rw [ej]
          refine lv_iadd hx hb dX5_factor_41 ?_
          refine lv_iload_n hx hb dX5_factor_42 rfl (lv_at hl 3 rfl) ?_
          refine gx_iast hx hb G 32 (by decide) (rfl) (by decide) ((5 * i) + j) (gn_add (gn_mul rfl rfl) rfl) (by omega) dX5_factor_43 (fun H locs G => ?_)
          refine lv_aload_n hx hb dX5_factor_44 rfl (lv_at hl 0 rfl) ?_
          refine lv_iconst (v := 0) hx hb dX5_factor_45 (by decide) ?_
          refine gx_putI hx hb hts hinX5 tyX5 tyX5_ok nmX5 hown G 5 (by decide) rfl rfl 9 (by decide) rfl lk117 rfl rfl (tyX5_ok 9 (by decide)) (rfl) (rfl) dX5_factor_46 (fun H locs G => ?_)
          refine lv_iconst (v := 1) hx hb dX5_factor_49 (by decide) ?_
          exact gx_ir hx hb hr hlocks G hQ ⟨by simp only [m_factor, c5, ecli, c13, ecl, c21, c27, reduceIte], by simp only [m_factorS, c5, ecli, c13, ecl, c21, c27, reduceIte]⟩ dX5_factor_50
        · skip
          refine lv_bipush (v := -2) hx hb dX5_factor_30 (by decide) ?_
          exact gx_ir hx hb hr hlocks G hQ ⟨by simp only [m_factor, c5, ecli, c13, ecl, c21, c27, reduceIte], by simp only [m_factorS, c5, ecli, c13, ecl, c21, c27, reduceIte]⟩ dX5_factor_32
    · skip
      refine lv_iconst (v := -1) hx hb dX5_factor_16 (by decide) ?_
      exact gx_ir hx hb hr hlocks G hQ ⟨by simp only [m_factor, c5, ecli, c13, reduceIte], by simp only [m_factorS, c5, ecli, c13, reduceIte]⟩ dX5_factor_17

set_option maxHeartbeats 4000000 in
set_option maxRecDepth 100000 in
theorem kX5_drop (l : Launch) (D : va_G) (ad : Nat → Nat) (cy : Nat → ClassId) (I : gF) (J : gL) (a : gF) (b : gL) (sz : Nat) (r : Int32) (hmn : I 5 0 = nI (cN (I 5 0))) (hmn2 : cN (I 5 0) ≤ 5) (hmr : I 5 1 = nI (cN (I 5 1))) (hmr2 : cN (I 5 1) ≤ 8) : gMi l yX5_drop wsX5_drop ({ frames := 1, cells := 0, slots := 0, locals := 22 }) D ad cy I J a b sz [.ref (ad 5), .int r] (fun res u => res = m_drop (I, J, a, b) r ∧ u = m_dropS (I, J, a, b) r) := by
  refine Met.ofW (cc := cX5_drop) (maxL := 2) (ret := some .int) (by decide) rfl ?_
  intro p e s m args below meth c s₁ B hml hv
  obtain ⟨hargs, hsz, G⟩ := gx_begin hv
  subst hsz
  have hx := B.exec
  have hb := B.bytes
  have hr := B.returns
  have hts := atoms_spec (ws := wsX5_drop) B.pre
  have hown : s.vm.findClass RX5 = some m.cls := findClass_of_methodNamed B.named
  have hlocks := B.notSynchronized
  have hinX5 : ∀ w ∈ wsX50, w ∈ wsX5_drop := by decide +kernel
  have lk28 := hts (.fieldLink RX5 28 "ExactSimplexModel" "alive" "[Z") (by decide +kernel)
  have lk117 := hts (.fieldLink RX5 117 "ExactSimplexModel" "known" "Z") (by decide +kernel)
  have hl := lv_entry ([.ref (ad 5), .int r]) (n := 2) (Nat.le_of_ble_eq_true rfl)
  have hent := lg_entry_eq m ([.ref (ad 5), .int r]) 2
  rw [← hargs] at hent
  rw [hent]
  clear hent
  generalize (lg_sl ([.ref (ad 5), .int r]) ++ List.replicate (2 - (lg_sl ([.ref (ad 5), .int r])).length) Slot.unset).toArray = ls at hl ⊢
  have hl : lv_has ls 2 [(0, .ref (ad 5)), (1, .int r)] := hl
  generalize hA : gA ad s.heap.size = A at G ⊢
  generalize hH : s.heap = H at G ⊢
  refine gx_q (fun Q hQ => ?_)
  refine lv_aload_n hx hb dX5_drop_0 rfl (lv_at hl 0 rfl) ?_
  refine lv_iload_n hx hb dX5_drop_1 rfl (lv_at hl 1 rfl) ?_
  refine gx_dVi (v := (m_isR I a r)) (I1 := I) (J1 := J) (a1 := a) (b1 := b) (As := [.int r]) (rest := []) ⟨hx, hb, hml, hown, hts⟩ G 5 (kX5_isRow l D ad cy I J a b H.size (cN (I 5 1)) r hmr hmr2) (cwV 1 hts gX5_drop_X5_isRow rfl rfl rfl (by decide +kernel) ⟨Nat.le_of_ble_eq_true rfl, Nat.le_of_ble_eq_true rfl⟩) (by decide) rfl rfl rfl rfl hl.1 rfl (Nat.le_of_ble_eq_true rfl) ⟨Nat.zero_le _, Nat.zero_le _⟩ dX5_drop_2 (fun H locs G => ?_)
  refine lv_if_ne (tgt := 10) hx hb dX5_drop_5 (by decide) (fun c5 => ?_) (fun c5 => ?_)
  · skip
    obtain ⟨j, hj, ej⟩ := m_isR_ix hmr (by omega) c5
    have eclj : cN r = j := cN_of ej (by omega)
    refine lv_aload_n hx hb dX5_drop_10 rfl (lv_at hl 0 rfl) ?_
    refine gx_get hx hb hts hinX5 hown G 5 (by decide) rfl rfl 8 (by decide) rfl lk28 rfl (v := .ref (ad 33)) rfl dX5_drop_11 ?_
    refine lv_iload_n hx hb dX5_drop_14 rfl (lv_at hl 1 rfl) ?_
    refine lv_iconst (v := 0) hx hb dX5_drop_15 (by decide) ?_
    refine gx_zast hx hb G 33 (by decide) (rfl) (by decide) j ej (by omega) (rfl) dX5_drop_16 (fun H locs G => ?_)
    refine lv_aload_n hx hb dX5_drop_17 rfl (lv_at hl 0 rfl) ?_
    refine lv_iconst (v := 0) hx hb dX5_drop_18 (by decide) ?_
    refine gx_putI hx hb hts hinX5 tyX5 tyX5_ok nmX5 hown G 5 (by decide) rfl rfl 9 (by decide) rfl lk117 rfl rfl (tyX5_ok 9 (by decide)) (rfl) (rfl) dX5_drop_19 (fun H locs G => ?_)
    refine lv_aload_n hx hb dX5_drop_22 rfl (lv_at hl 0 rfl) ?_
    refine gx_dVi (v := (m_cnt (gU a 33 j 0) (cN (I 5 1)))) (I1 := (gU I 5 9 0)) (J1 := J) (a1 := (gU a 33 j 0)) (b1 := b) (As := []) (rest := []) ⟨hx, hb, hml, hown, hts⟩ G 5 (kX5_rowCount l D ad cy (gU I 5 9 0) J (gU a 33 j 0) b H.size (cN (I 5 1)) hmr hmr2) (cwV 0 hts gX5_drop_X5_rowCount rfl rfl rfl (by decide +kernel) ⟨Nat.le_of_ble_eq_true rfl, Nat.le_of_ble_eq_true rfl⟩) (by decide) rfl rfl rfl rfl hl.1 rfl (Nat.le_of_ble_eq_true rfl) ⟨Nat.zero_le _, Nat.zero_le _⟩ dX5_drop_23 (fun H locs G => ?_)
    exact gx_ir hx hb hr hlocks G hQ ⟨by simp only [m_drop, c5, eclj, reduceIte], by simp only [m_dropS, c5, eclj, reduceIte]⟩ dX5_drop_26
  · skip
    refine lv_iconst (v := -1) hx hb dX5_drop_8 (by decide) ?_
    exact gx_ir hx hb hr hlocks G hQ ⟨by simp only [m_drop, c5, reduceIte], by simp only [m_dropS, c5, reduceIte]⟩ dX5_drop_9

set_option maxHeartbeats 4000000 in
set_option maxRecDepth 100000 in
theorem kX5_clear (l : Launch) (D : va_G) (ad : Nat → Nat) (cy : Nat → ClassId) (I : gF) (J : gL) (a : gF) (b : gL) (sz : Nat)  (hmn : I 5 0 = nI (cN (I 5 0))) (hmn2 : cN (I 5 0) ≤ 5) (hmr : I 5 1 = nI (cN (I 5 1))) (hmr2 : cN (I 5 1) ≤ 8) : gMi l yX5_clear wsX5_clear ({ frames := 0, cells := 0, slots := 0, locals := 0 }) D ad cy I J a b sz [.ref (ad 5)] (fun res u => res = m_clear (I, J, a, b)  ∧ u = m_clearS (I, J, a, b)) := by
  refine Met.ofW (cc := cX5_clear) (maxL := 2) (ret := some .int) (by decide) rfl ?_
  intro p e s m args below meth c s₁ B hml hv
  obtain ⟨hargs, hsz, G⟩ := gx_begin hv
  subst hsz
  have hx := B.exec
  have hb := B.bytes
  have hr := B.returns
  have hts := atoms_spec (ws := wsX5_clear) B.pre
  have hown : s.vm.findClass RX5 = some m.cls := findClass_of_methodNamed B.named
  have hlocks := B.notSynchronized
  have hinX5 : ∀ w ∈ wsX50, w ∈ wsX5_clear := by decide +kernel
  have lk66 := hts (.fieldLink RX5 66 "ExactSimplexModel" "names" "I") (by decide +kernel)
  have lk78 := hts (.fieldLink RX5 78 "ExactSimplexModel" "rows" "I") (by decide +kernel)
  have lk117 := hts (.fieldLink RX5 117 "ExactSimplexModel" "known" "Z") (by decide +kernel)
  have hl := lv_entry ([.ref (ad 5)]) (n := 2) (Nat.le_of_ble_eq_true rfl)
  have hent := lg_entry_eq m ([.ref (ad 5)]) 2
  rw [← hargs] at hent
  rw [hent]
  clear hent
  generalize (lg_sl ([.ref (ad 5)]) ++ List.replicate (2 - (lg_sl ([.ref (ad 5)])).length) Slot.unset).toArray = ls at hl ⊢
  have hl : lv_has ls 2 [(0, .ref (ad 5))] := hl
  generalize hA : gA ad s.heap.size = A at G ⊢
  generalize hH : s.heap = H at G ⊢
  refine gx_q (fun Q hQ => ?_)
  refine lv_aload_n hx hb dX5_clear_0 rfl (lv_at hl 0 rfl) ?_
  refine gx_get hx hb hts hinX5 hown G 5 (by decide) rfl rfl 0 (by decide) rfl lk66 rfl (v := .int (I 5 0)) rfl dX5_clear_1 ?_
  refine lv_istore_n (lv' := [(1, .int (I 5 0)), (0, .ref (ad 5))]) hx hb dX5_clear_4 rfl hl (by decide) rfl (fun ls hl => ?_)
  refine lv_aload_n hx hb dX5_clear_5 rfl (lv_at hl 1 rfl) ?_
  refine lv_iconst (v := 0) hx hb dX5_clear_6 (by decide) ?_
  refine gx_putI hx hb hts hinX5 tyX5 tyX5_ok nmX5 hown G 5 (by decide) rfl rfl 0 (by decide) rfl lk66 rfl rfl (tyX5_ok 0 (by decide)) (rfl) (rfl) dX5_clear_7 (fun H locs G => ?_)
  refine lv_aload_n hx hb dX5_clear_10 rfl (lv_at hl 1 rfl) ?_
  refine lv_iconst (v := 0) hx hb dX5_clear_11 (by decide) ?_
  refine gx_putI hx hb hts hinX5 tyX5 tyX5_ok nmX5 hown G 5 (by decide) rfl rfl 1 (by decide) rfl lk78 rfl rfl (tyX5_ok 1 (by decide)) (rfl) (rfl) dX5_clear_12 (fun H locs G => ?_)
  refine lv_aload_n hx hb dX5_clear_15 rfl (lv_at hl 1 rfl) ?_
  refine lv_iconst (v := 0) hx hb dX5_clear_16 (by decide) ?_
  refine gx_putI hx hb hts hinX5 tyX5 tyX5_ok nmX5 hown G 5 (by decide) rfl rfl 9 (by decide) rfl lk117 rfl rfl (tyX5_ok 9 (by decide)) (rfl) (rfl) dX5_clear_17 (fun H locs G => ?_)
  refine lv_iload_n hx hb dX5_clear_20 rfl (lv_at hl 0 rfl) ?_
  exact gx_ir hx hb hr hlocks G hQ ⟨rfl, rfl⟩ dX5_clear_21

set_option maxHeartbeats 4000000 in
set_option maxRecDepth 100000 in
theorem kX5_told (l : Launch) (D : va_G) (ad : Nat → Nat) (cy : Nat → ClassId) (I : gF) (J : gL) (a : gF) (b : gL) (sz : Nat) (w : Int32) (hmn : I 5 0 = nI (cN (I 5 0))) (hmn2 : cN (I 5 0) ≤ 5) (hmr : I 5 1 = nI (cN (I 5 1))) (hmr2 : cN (I 5 1) ≤ 8) : gMi l yX5_told wsX5_told ({ frames := 1, cells := 0, slots := 0, locals := 22 }) D ad cy I J a b sz [.ref (ad 5), .int w] (fun res u => res = m_told (I, J, a, b) w ∧ u = (I, J, a, b)) := by
  refine Met.ofW (cc := cX5_told) (maxL := 2) (ret := some .int) (by decide) rfl ?_
  intro p e s m args below meth c s₁ B hml hv
  obtain ⟨hargs, hsz, G⟩ := gx_begin hv
  subst hsz
  have hx := B.exec
  have hb := B.bytes
  have hr := B.returns
  have hts := atoms_spec (ws := wsX5_told) B.pre
  have hown : s.vm.findClass RX5 = some m.cls := findClass_of_methodNamed B.named
  have hlocks := B.notSynchronized
  have hinX5 : ∀ w ∈ wsX50, w ∈ wsX5_told := by decide +kernel
  have lk66 := hts (.fieldLink RX5 66 "ExactSimplexModel" "names" "I") (by decide +kernel)
  have lk78 := hts (.fieldLink RX5 78 "ExactSimplexModel" "rows" "I") (by decide +kernel)
  have hl := lv_entry ([.ref (ad 5), .int w]) (n := 2) (Nat.le_of_ble_eq_true rfl)
  have hent := lg_entry_eq m ([.ref (ad 5), .int w]) 2
  rw [← hargs] at hent
  rw [hent]
  clear hent
  generalize (lg_sl ([.ref (ad 5), .int w]) ++ List.replicate (2 - (lg_sl ([.ref (ad 5), .int w])).length) Slot.unset).toArray = ls at hl ⊢
  have hl : lv_has ls 2 [(0, .ref (ad 5)), (1, .int w)] := hl
  generalize hA : gA ad s.heap.size = A at G ⊢
  generalize hH : s.heap = H at G ⊢
  refine gx_q (fun Q hQ => ?_)
  refine lv_iload_n hx hb dX5_told_0 rfl (lv_at hl 1 rfl) ?_
  refine lv_if_ne (tgt := 11) hx hb dX5_told_1 (by decide) (fun c1 => ?_) (fun c1 => ?_)
  · skip
    refine lv_iload_n hx hb dX5_told_11 rfl (lv_at hl 1 rfl) ?_
    refine lv_iconst (v := 1) hx hb dX5_told_12 (by decide) ?_
    refine lv_icmp_ne (tgt := 23) hx hb dX5_told_13 (by decide) (fun c13 => ?_) (fun c13 => ?_)
    · skip
      refine lv_iload_n hx hb dX5_told_23 rfl (lv_at hl 1 rfl) ?_
      refine lv_iconst (v := 2) hx hb dX5_told_24 (by decide) ?_
      refine lv_icmp_ne (tgt := 35) hx hb dX5_told_25 (by decide) (fun c25 => ?_) (fun c25 => ?_)
      · skip
        refine lv_bipush (v := -2) hx hb dX5_told_35 (by decide) ?_
        exact gx_ir hx hb hr hlocks G hQ ⟨by unfold m_told; first | (rw [if_pos c1]; done) | (rw [if_neg c1, if_pos c13]; done) | (rw [if_neg c1, if_neg c13, if_pos c25]; done) | (rw [if_neg c1, if_neg c13, if_neg c25]; done), rfl⟩ dX5_told_37
      · skip
        refine lv_aload_n hx hb dX5_told_28 rfl (lv_at hl 0 rfl) ?_
        refine gx_get hx hb hts hinX5 hown G 5 (by decide) rfl rfl 1 (by decide) rfl lk78 rfl (v := .int (I 5 1)) rfl dX5_told_29 ?_
        refine lv_goto (tgt := 37) hx hb dX5_told_32 (by decide) ?_
        exact gx_ir hx hb hr hlocks G hQ ⟨by unfold m_told; first | (rw [if_pos c1]; done) | (rw [if_neg c1, if_pos c13]; done) | (rw [if_neg c1, if_neg c13, if_pos c25]; done) | (rw [if_neg c1, if_neg c13, if_neg c25]; done), rfl⟩ dX5_told_37
    · skip
      refine lv_aload_n hx hb dX5_told_16 rfl (lv_at hl 0 rfl) ?_
      refine gx_dVi (v := (m_cnt a (cN (I 5 1)))) (I1 := I) (J1 := J) (a1 := a) (b1 := b) (As := []) (rest := []) ⟨hx, hb, hml, hown, hts⟩ G 5 (kX5_rowCount l D ad cy I J a b H.size (cN (I 5 1)) hmr hmr2) (cwV 0 hts gX5_told_X5_rowCount rfl rfl rfl (by decide +kernel) ⟨Nat.le_of_ble_eq_true rfl, Nat.le_of_ble_eq_true rfl⟩) (by decide) rfl rfl rfl rfl hl.1 rfl (Nat.le_of_ble_eq_true rfl) ⟨Nat.zero_le _, Nat.zero_le _⟩ dX5_told_17 (fun H locs G => ?_)
      refine lv_goto (tgt := 37) hx hb dX5_told_20 (by decide) ?_
      exact gx_ir hx hb hr hlocks G hQ ⟨by unfold m_told; first | (rw [if_pos c1]; done) | (rw [if_neg c1, if_pos c13]; done) | (rw [if_neg c1, if_neg c13, if_pos c25]; done) | (rw [if_neg c1, if_neg c13, if_neg c25]; done), rfl⟩ dX5_told_37
  · skip
    refine lv_aload_n hx hb dX5_told_4 rfl (lv_at hl 0 rfl) ?_
    refine gx_get hx hb hts hinX5 hown G 5 (by decide) rfl rfl 0 (by decide) rfl lk66 rfl (v := .int (I 5 0)) rfl dX5_told_5 ?_
    refine lv_goto (tgt := 37) hx hb dX5_told_8 (by decide) ?_
    exact gx_ir hx hb hr hlocks G hQ ⟨by unfold m_told; first | (rw [if_pos c1]; done) | (rw [if_neg c1, if_pos c13]; done) | (rw [if_neg c1, if_neg c13, if_pos c25]; done) | (rw [if_neg c1, if_neg c13, if_neg c25]; done), rfl⟩ dX5_told_37

set_option maxHeartbeats 4000000 in
set_option maxRecDepth 100000 in
theorem kX5_part (l : Launch) (D : va_G) (ad : Nat → Nat) (cy : Nat → ClassId) (I : gF) (J : gL) (a : gF) (b : gL) (sz : Nat) (co nm : Nat) (hc : co < 18) (hnm : nm ≤ 5) : gMl l yX5_part wsX5_part ({ frames := 0, cells := 0, slots := 0, locals := 0 }) D ad cy I J a b sz [.ref (ad 5), .int (nI co), .int (nI nm)] (fun r u => r = m_part a co nm ∧ u = (I, J, a, b)) := by
  refine Met.ofW (cc := cX5_part) (maxL := 4) (ret := some .long) (by decide) rfl ?_
  intro p e s m args below meth c s₁ B hml hv
  obtain ⟨hargs, hsz, G⟩ := gx_begin hv
  subst hsz
  have hx := B.exec
  have hb := B.bytes
  have hr := B.returns
  have hts := atoms_spec (ws := wsX5_part) B.pre
  have hown : s.vm.findClass RX5 = some m.cls := findClass_of_methodNamed B.named
  have hlocks := B.notSynchronized
  have hinX5 : ∀ w ∈ wsX50, w ∈ wsX5_part := by decide +kernel
  have lk7 := hts (.fieldLink RX5 7 "ExactSimplexModel" "low" "[I") (by decide +kernel)
  have lk13 := hts (.fieldLink RX5 13 "ExactSimplexModel" "high" "[I") (by decide +kernel)
  have lk22 := hts (.fieldLink RX5 22 "ExactSimplexModel" "rights" "[I") (by decide +kernel)
  have lk25 := hts (.fieldLink RX5 25 "ExactSimplexModel" "factors" "[I") (by decide +kernel)
  have hl := lv_entry ([.ref (ad 5), .int (nI co), .int (nI nm)]) (n := 4) (Nat.le_of_ble_eq_true rfl)
  have hent := lg_entry_eq m ([.ref (ad 5), .int (nI co), .int (nI nm)]) 4
  rw [← hargs] at hent
  rw [hent]
  clear hent
  generalize (lg_sl ([.ref (ad 5), .int (nI co), .int (nI nm)]) ++ List.replicate (4 - (lg_sl ([.ref (ad 5), .int (nI co), .int (nI nm)])).length) Slot.unset).toArray = ls at hl ⊢
  have hl : lv_has ls 4 [(0, .ref (ad 5)), (1, .int (nI co)), (2, .int (nI nm))] := hl
  generalize hA : gA ad s.heap.size = A at G ⊢
  generalize hH : s.heap = H at G ⊢
  refine gx_q (fun Q hQ => ?_)
  refine lv_iload_n hx hb dX5_part_0 rfl (lv_at hl 1 rfl) ?_
  refine lv_bipush (v := 8) hx hb dX5_part_1 (by decide) ?_
  refine lv_icmp_ge (tgt := 33) hx hb dX5_part_3 (by decide) (fun c3 => ?_) (fun c3 => ?_)
  · skip
    have n3 := gn_le (X := 8) (Y := co) rfl rfl (by omega) (by omega) c3
    refine lv_iload_n hx hb dX5_part_33 rfl (lv_at hl 1 rfl) ?_
    refine lv_bipush (v := 8) hx hb dX5_part_34 (by decide) ?_
    refine lv_isub hx hb dX5_part_36 ?_
    refine lv_iconst (v := 5) hx hb dX5_part_37 (by decide) ?_
    refine lv_irem hx hb dX5_part_38 (by decide) ?_
    have hof : (co - 8) % 5 < 5 := Nat.mod_lt _ (by decide)
    rw [m_of n3 hc]
    refine lv_istore_n (lv' := [(3, .int (nI ((co - 8) % 5))), (0, .ref (ad 5)), (1, .int (nI co)), (2, .int (nI nm))]) hx hb dX5_part_39 rfl hl (by decide) rfl (fun ls hl => ?_)
    refine lv_iload_n hx hb dX5_part_40 rfl (lv_at hl 3 rfl) ?_
    refine lv_iconst (v := 5) hx hb dX5_part_41 (by decide) ?_
    refine lv_icmp_ne (tgt := 71) hx hb dX5_part_42 (by decide) (fun c42 => ?_) (fun c42 => ?_)
    · skip
      have n42 := gn_neq (X := nm) (Y := 5) rfl rfl (by omega) (by omega) c42
      refine lv_iload_n hx hb dX5_part_71 rfl (lv_at hl 3 rfl) ?_
      refine lv_iload_n hx hb dX5_part_72 rfl (lv_at hl 0 rfl) ?_
      refine lv_icmp_ne (tgt := 80) hx hb dX5_part_73 (by decide) (fun c73 => ?_) (fun c73 => ?_)
      · skip
        have n73 := gn_neq (X := nm) (Y := (co - 8) % 5) rfl rfl (by omega) (by omega) c73
        refine lv_lconst (v := 0) hx hb dX5_part_80 (by decide) ?_
        exact gx_lr hx hb hr hlocks G hQ ⟨by unfold m_part; rw [if_pos c3]; first | (rw [if_pos c42, if_pos c48]; done) | (rw [if_pos c42, if_neg c48]; done) | (rw [if_neg c42, if_pos c73]; done) | (rw [if_neg c42, if_neg c73]; done), rfl⟩ dX5_part_81
      · skip
        have n73 := gn_eq (X := nm) (Y := (co - 8) % 5) rfl rfl (by omega) (by omega) c73
        refine lv_lconst (v := 1) hx hb dX5_part_76 (by decide) ?_
        refine lv_goto (tgt := 81) hx hb dX5_part_77 (by decide) ?_
        exact gx_lr hx hb hr hlocks G hQ ⟨by unfold m_part; rw [if_pos c3]; first | (rw [if_pos c42, if_pos c48]; done) | (rw [if_pos c42, if_neg c48]; done) | (rw [if_neg c42, if_pos c73]; done) | (rw [if_neg c42, if_neg c73]; done), rfl⟩ dX5_part_81
    · skip
      have n42 := gn_eq (X := nm) (Y := 5) rfl rfl (by omega) (by omega) c42
      refine lv_iload_n hx hb dX5_part_45 rfl (lv_at hl 2 rfl) ?_
      refine lv_bipush (v := 13) hx hb dX5_part_46 (by decide) ?_
      refine lv_icmp_ge (tgt := 61) hx hb dX5_part_48 (by decide) (fun c48 => ?_) (fun c48 => ?_)
      · skip
        have n48 := gn_le (X := 13) (Y := co) rfl rfl (by omega) (by omega) c48
        refine lv_aload_n hx hb dX5_part_61 rfl (lv_at hl 1 rfl) ?_
        refine gx_get hx hb hts hinX5 hown G 5 (by decide) rfl rfl 3 (by decide) rfl lk13 rfl (v := .ref (ad 28)) rfl dX5_part_62 ?_
        refine lv_iload_n hx hb dX5_part_65 rfl (lv_at hl 0 rfl) ?_
        refine gx_iald hx hb G 28 (by decide) (rfl) (by decide) ((co - 8) % 5) rfl (by omega) dX5_part_66 ?_
        refine lv_i2l (v := (a 28 ((co - 8) % 5)).toInt64) hx hb dX5_part_67 rfl ?_
        refine lv_goto (tgt := 81) hx hb dX5_part_68 (by decide) ?_
        exact gx_lr hx hb hr hlocks G hQ ⟨by unfold m_part; rw [if_pos c3]; first | (rw [if_pos c42, if_pos c48]; done) | (rw [if_pos c42, if_neg c48]; done) | (rw [if_neg c42, if_pos c73]; done) | (rw [if_neg c42, if_neg c73]; done), rfl⟩ dX5_part_81
      · skip
        have n48 := gn_nle (X := 13) (Y := co) rfl rfl (by omega) (by omega) c48
        refine lv_aload_n hx hb dX5_part_51 rfl (lv_at hl 1 rfl) ?_
        refine gx_get hx hb hts hinX5 hown G 5 (by decide) rfl rfl 2 (by decide) rfl lk7 rfl (v := .ref (ad 27)) rfl dX5_part_52 ?_
        refine lv_iload_n hx hb dX5_part_55 rfl (lv_at hl 0 rfl) ?_
        refine gx_iald hx hb G 27 (by decide) (rfl) (by decide) ((co - 8) % 5) rfl (by omega) dX5_part_56 ?_
        refine lv_i2l (v := (a 27 ((co - 8) % 5)).toInt64) hx hb dX5_part_57 rfl ?_
        refine lv_goto (tgt := 81) hx hb dX5_part_58 (by decide) ?_
        exact gx_lr hx hb hr hlocks G hQ ⟨by unfold m_part; rw [if_pos c3]; first | (rw [if_pos c42, if_pos c48]; done) | (rw [if_pos c42, if_neg c48]; done) | (rw [if_neg c42, if_pos c73]; done) | (rw [if_neg c42, if_neg c73]; done), rfl⟩ dX5_part_81
  · skip
    have n3 := gn_nle (X := 8) (Y := co) rfl rfl (by omega) (by omega) c3
    refine lv_iload_n hx hb dX5_part_6 rfl (lv_at hl 2 rfl) ?_
    refine lv_iconst (v := 5) hx hb dX5_part_7 (by decide) ?_
    refine lv_icmp_ne (tgt := 21) hx hb dX5_part_8 (by decide) (fun c8 => ?_) (fun c8 => ?_)
    · skip
      have n8 := gn_neq (X := nm) (Y := 5) rfl rfl (by omega) (by omega) c8
      refine lv_aload_n hx hb dX5_part_21 rfl (lv_at hl 0 rfl) ?_
      refine gx_get hx hb hts hinX5 hown G 5 (by decide) rfl rfl 7 (by decide) rfl lk25 rfl (v := .ref (ad 32)) rfl dX5_part_22 ?_
      refine lv_iconst (v := 5) hx hb dX5_part_25 (by decide) ?_
      refine lv_iload_n hx hb dX5_part_26 rfl (lv_at hl 1 rfl) ?_
      refine lv_imul hx hb dX5_part_27 ?_
      refine lv_iload_n hx hb dX5_part_28 rfl (lv_at hl 2 rfl) ?_
      refine lv_iadd hx hb dX5_part_29 ?_
      refine gx_iald hx hb G 32 (by decide) (rfl) (by decide) ((5 * co) + nm) (gn_add (gn_mul rfl rfl) rfl) (by omega) dX5_part_30 ?_
      refine lv_i2l (v := (a 32 ((5 * co) + nm)).toInt64) hx hb dX5_part_31 rfl ?_
      exact gx_lr hx hb hr hlocks G hQ ⟨by unfold m_part; rw [if_neg c3]; first | (rw [if_pos c8]; done) | (rw [if_neg c8]; done), rfl⟩ dX5_part_32
    · skip
      have n8 := gn_eq (X := nm) (Y := 5) rfl rfl (by omega) (by omega) c8
      refine lv_aload_n hx hb dX5_part_11 rfl (lv_at hl 0 rfl) ?_
      refine gx_get hx hb hts hinX5 hown G 5 (by decide) rfl rfl 6 (by decide) rfl lk22 rfl (v := .ref (ad 31)) rfl dX5_part_12 ?_
      refine lv_iload_n hx hb dX5_part_15 rfl (lv_at hl 1 rfl) ?_
      refine gx_iald hx hb G 31 (by decide) (rfl) (by decide) co rfl (by omega) dX5_part_16 ?_
      refine lv_i2l (v := (a 31 co).toInt64) hx hb dX5_part_17 rfl ?_
      refine lv_goto (tgt := 32) hx hb dX5_part_18 (by decide) ?_
      exact gx_lr hx hb hr hlocks G hQ ⟨by unfold m_part; rw [if_neg c3]; first | (rw [if_pos c8]; done) | (rw [if_neg c8]; done), rfl⟩ dX5_part_32

set_option maxHeartbeats 4000000 in
set_option maxRecDepth 100000 in
theorem kX5_isThere (l : Launch) (D : va_G) (ad : Nat → Nat) (cy : Nat → ClassId) (I : gF) (J : gL) (a : gF) (b : gL) (sz : Nat) (co : Nat) (set : Int32) (hc : co < 18) : gMi l yX5_isThere wsX5_isThere ({ frames := 0, cells := 0, slots := 0, locals := 0 }) D ad cy I J a b sz [.ref (ad 5), .int (nI co), .int set] (fun r u => r = m_there I set co ∧ u = (I, J, a, b)) := by
  refine Met.ofW (cc := cX5_isThere) (maxL := 3) (ret := some .boolean) (by decide) rfl ?_
  intro p e s m args below meth c s₁ B hml hv
  obtain ⟨hargs, hsz, G⟩ := gx_begin hv
  subst hsz
  have hx := B.exec
  have hb := B.bytes
  have hr := B.returns
  have hts := atoms_spec (ws := wsX5_isThere) B.pre
  have hown : s.vm.findClass RX5 = some m.cls := findClass_of_methodNamed B.named
  have hlocks := B.notSynchronized
  have hinX5 : ∀ w ∈ wsX50, w ∈ wsX5_isThere := by decide +kernel
  have lk66 := hts (.fieldLink RX5 66 "ExactSimplexModel" "names" "I") (by decide +kernel)
  have hl := lv_entry ([.ref (ad 5), .int (nI co), .int set]) (n := 3) (Nat.le_of_ble_eq_true rfl)
  have hent := lg_entry_eq m ([.ref (ad 5), .int (nI co), .int set]) 3
  rw [← hargs] at hent
  rw [hent]
  clear hent
  generalize (lg_sl ([.ref (ad 5), .int (nI co), .int set]) ++ List.replicate (3 - (lg_sl ([.ref (ad 5), .int (nI co), .int set])).length) Slot.unset).toArray = ls at hl ⊢
  have hl : lv_has ls 3 [(0, .ref (ad 5)), (1, .int (nI co)), (2, .int set)] := hl
  generalize hA : gA ad s.heap.size = A at G ⊢
  generalize hH : s.heap = H at G ⊢
  refine gx_q (fun Q hQ => ?_)
  refine lv_iload_n hx hb dX5_isThere_0 rfl (lv_at hl 1 rfl) ?_
  refine lv_bipush (v := 8) hx hb dX5_isThere_1 (by decide) ?_
  refine lv_icmp_ge (tgt := 23) hx hb dX5_isThere_3 (by decide) (fun c3 => ?_) (fun c3 => ?_)
  · skip
    have n3 := gn_le (X := 8) (Y := co) rfl rfl (by omega) (by omega) c3
    refine lv_iload_n hx hb dX5_isThere_23 rfl (lv_at hl 1 rfl) ?_
    refine lv_bipush (v := 8) hx hb dX5_isThere_24 (by decide) ?_
    refine lv_isub hx hb dX5_isThere_26 ?_
    refine lv_iconst (v := 5) hx hb dX5_isThere_27 (by decide) ?_
    refine lv_irem hx hb dX5_isThere_28 (by decide) ?_
    rw [m_of n3 hc]
    refine lv_aload_n hx hb dX5_isThere_29 rfl (lv_at hl 0 rfl) ?_
    refine gx_get hx hb hts hinX5 hown G 5 (by decide) rfl rfl 0 (by decide) rfl lk66 rfl (v := .int (I 5 0)) rfl dX5_isThere_30 ?_
    refine lv_icmp_ge (tgt := 40) hx hb dX5_isThere_33 (by decide) (fun c33 => ?_) (fun c33 => ?_)
    · skip
      refine lv_iconst (v := 0) hx hb dX5_isThere_40 (by decide) ?_
      exact gx_zr hx hb hr hlocks G hQ (rfl) ⟨by unfold m_there; first | (rw [if_pos c3, if_pos c33]; done) | (rw [if_pos c3, if_neg c33]; done) | (rw [if_neg c3, if_pos c12]; done) | (rw [if_neg c3, if_neg c12]; done), rfl⟩ dX5_isThere_41
    · skip
      refine lv_iconst (v := 1) hx hb dX5_isThere_36 (by decide) ?_
      refine lv_goto (tgt := 41) hx hb dX5_isThere_37 (by decide) ?_
      exact gx_zr hx hb hr hlocks G hQ (rfl) ⟨by unfold m_there; first | (rw [if_pos c3, if_pos c33]; done) | (rw [if_pos c3, if_neg c33]; done) | (rw [if_neg c3, if_pos c12]; done) | (rw [if_neg c3, if_neg c12]; done), rfl⟩ dX5_isThere_41
  · skip
    have n3 := gn_nle (X := 8) (Y := co) rfl rfl (by omega) (by omega) c3
    refine lv_iload_n hx hb dX5_isThere_6 rfl (lv_at hl 2 rfl) ?_
    refine lv_iload_n hx hb dX5_isThere_7 rfl (lv_at hl 1 rfl) ?_
    refine lv_ishr hx hb dX5_isThere_8 ?_
    refine lv_iconst (v := 1) hx hb dX5_isThere_9 (by decide) ?_
    refine lv_iand hx hb dX5_isThere_10 ?_
    refine lv_iconst (v := 1) hx hb dX5_isThere_11 (by decide) ?_
    refine lv_icmp_ne (tgt := 19) hx hb dX5_isThere_12 (by decide) (fun c12 => ?_) (fun c12 => ?_)
    · skip
      refine lv_iconst (v := 0) hx hb dX5_isThere_19 (by decide) ?_
      refine lv_goto (tgt := 41) hx hb dX5_isThere_20 (by decide) ?_
      exact gx_zr hx hb hr hlocks G hQ (rfl) ⟨by unfold m_there; first | (rw [if_pos c3, if_pos c33]; done) | (rw [if_pos c3, if_neg c33]; done) | (rw [if_neg c3, if_pos c12]; done) | (rw [if_neg c3, if_neg c12]; done), rfl⟩ dX5_isThere_41
    · skip
      refine lv_iconst (v := 1) hx hb dX5_isThere_15 (by decide) ?_
      refine lv_goto (tgt := 41) hx hb dX5_isThere_16 (by decide) ?_
      exact gx_zr hx hb hr hlocks G hQ (rfl) ⟨by unfold m_there; first | (rw [if_pos c3, if_pos c33]; done) | (rw [if_pos c3, if_neg c33]; done) | (rw [if_neg c3, if_pos c12]; done) | (rw [if_neg c3, if_neg c12]; done), rfl⟩ dX5_isThere_41

set_option maxHeartbeats 4000000 in
set_option maxRecDepth 100000 in
theorem kX5_after (l : Launch) (D : va_G) (ad : Nat → Nat) (cy : Nat → ClassId) (I : gF) (J : gL) (a : gF) (b : gL) (sz : Nat) (x set : Int32) (k0 : Nat) (hx1 : x + 1 = nI k0) (hk0 : k0 ≤ 18) : gMi l yX5_after wsX5_after ({ frames := 1, cells := 0, slots := 0, locals := 22 }) D ad cy I J a b sz [.ref (ad 5), .int x, .int set] (fun r u => r = nI (m_aft I set (18 - k0) k0) ∧ u = (I, J, a, b)) := by
  refine Met.ofW (cc := cX5_after) (maxL := 4) (ret := some .int) (by decide) rfl ?_
  intro p e s m args below meth c s₁ B hml hv
  obtain ⟨hargs, hsz, G⟩ := gx_begin hv
  subst hsz
  have hx := B.exec
  have hb := B.bytes
  have hr := B.returns
  have hts := atoms_spec (ws := wsX5_after) B.pre
  have hown : s.vm.findClass RX5 = some m.cls := findClass_of_methodNamed B.named
  have hlocks := B.notSynchronized
  have hl := lv_entry ([.ref (ad 5), .int x, .int set]) (n := 4) (Nat.le_of_ble_eq_true rfl)
  have hent := lg_entry_eq m ([.ref (ad 5), .int x, .int set]) 4
  rw [← hargs] at hent
  rw [hent]
  clear hent
  generalize (lg_sl ([.ref (ad 5), .int x, .int set]) ++ List.replicate (4 - (lg_sl ([.ref (ad 5), .int x, .int set])).length) Slot.unset).toArray = ls at hl ⊢
  have hl : lv_has ls 4 [(0, .ref (ad 5)), (1, .int x), (2, .int set)] := hl
  generalize hA : gA ad s.heap.size = A at G ⊢
  generalize hH : s.heap = H at G ⊢
  refine gx_q (fun Q hQ => ?_)
  refine lv_iload_n hx hb dX5_after_0 rfl (lv_at hl 1 rfl) ?_
  refine lv_iconst (v := 1) hx hb dX5_after_1 (by decide) ?_
  refine lv_iadd hx hb dX5_after_2 ?_
  rw [hx1]
  refine lv_istore_n (lv' := [(3, .int (nI k0)), (0, .ref (ad 5)), (1, .int x), (2, .int set)]) hx hb dX5_after_3 rfl hl (by decide) rfl (fun ls hl => ?_)
  have K4 : ∀ (nf : Nat) (k : Nat) (H : Heap) (locs : List Loc) (ls : Array Slot), (k ≤ 18) → (m_aft I set (18 - k0) k0 = m_aft I set (18 - k) k) → 18 - k < nf → GG D ad cy A s I J a b H locs → lv_has ls 4 [(0, .ref (ad 5)), (1, .int x), (2, .int set), (3, .int (nI k))] → W p l e ({ frames := 1, cells := 0, slots := 0, locals := 22 }) s m args below meth c H locs 0 0 Q (F0 m 4 ls []) := by
    intro nf
    induction nf with
    | zero => exact fun _ _ _ _ _ _ hz => absurd hz (Nat.not_lt_zero _)
    | succ nf ih =>
      intro k H locs ls h1 h2 hmeas G hl
      have ih4 := ih
      clear ih
      refine lv_iload_n hx hb dX5_after_4 rfl (lv_at hl 3 rfl) ?_
      refine lv_bipush (v := 18) hx hb dX5_after_5 (by decide) ?_
      refine lv_icmp_ge (tgt := 25) hx hb dX5_after_7 (by decide) (fun c7 => ?_) (fun c7 => ?_)
      · skip
        have n7 := gn_le (X := 18) (Y := k) rfl rfl (by omega) (by omega) c7
        refine lv_iload_n hx hb dX5_after_25 rfl (lv_at hl 3 rfl) ?_
        exact gx_ir hx hb hr hlocks G hQ ⟨by first | (rw [h2, m_aft_s I set n7, if_neg c16]; done) | (rw [h2, show 18 - k = 0 by omega]; rfl), rfl⟩ dX5_after_26
      · skip
        have n7 := gn_nle (X := 18) (Y := k) rfl rfl (by omega) (by omega) c7
        refine lv_aload_n hx hb dX5_after_10 rfl (lv_at hl 0 rfl) ?_
        refine lv_iload_n hx hb dX5_after_11 rfl (lv_at hl 3 rfl) ?_
        refine lv_iload_n hx hb dX5_after_12 rfl (lv_at hl 2 rfl) ?_
        refine gx_dVi (v := (m_there I set k)) (I1 := I) (J1 := J) (a1 := a) (b1 := b) (As := [.int (nI k), .int set]) (rest := []) ⟨hx, hb, hml, hown, hts⟩ G 5 (kX5_isThere l D ad cy I J a b H.size k set (by omega)) (cwV 2 hts gX5_after_X5_isThere rfl rfl rfl (by decide +kernel) ⟨Nat.le_of_ble_eq_true rfl, Nat.le_of_ble_eq_true rfl⟩) (by decide) rfl rfl rfl rfl hl.1 rfl (Nat.le_of_ble_eq_true rfl) ⟨Nat.zero_le _, Nat.zero_le _⟩ dX5_after_13 (fun H locs G => ?_)
        refine lv_if_ne (tgt := 25) hx hb dX5_after_16 (by decide) (fun c16 => ?_) (fun c16 => ?_)
        · skip
          refine lv_iload_n hx hb dX5_after_25 rfl (lv_at hl 3 rfl) ?_
          exact gx_ir hx hb hr hlocks G hQ ⟨by first | (rw [h2, m_aft_s I set n7, if_neg c16]; done) | (rw [h2, show 18 - k = 0 by omega]; rfl), rfl⟩ dX5_after_26
        · skip
          refine lv_iinc (v := (nI (k + 1))) (lv' := [(3, .int (nI (k + 1))), (0, .ref (ad 5)), (1, .int x), (2, .int set)]) hx hb dX5_after_19 hl (k := 3) rfl (gn_add (X := k) (Y := 1) rfl rfl) (by decide) rfl (fun ls hl => ?_)
          refine lv_goto (tgt := 4) hx hb dX5_after_22 (by decide) ?_
          exact ih4  (k + 1) _ _ _ (by omega) (by rw [h2, m_aft_s I set n7, if_pos c16]) (by omega) G (lv_sub hl [1, 2, 3, 0] rfl)
  exact K4 (18 - k0 + 1) k0 _ _ _ (by omega) (rfl) (Nat.lt_succ_self _) G (lv_sub hl [1, 2, 3, 0] rfl)

set_option maxHeartbeats 4000000 in
set_option maxRecDepth 100000 in
theorem kX5_all (l : Launch) (D : va_G) (ad : Nat → Nat) (cy : Nat → ClassId) (I : gF) (J : gL) (a : gF) (b : gL) (sz : Nat) (mr : Nat) (hmr : I 5 1 = nI mr) (hmr2 : mr ≤ 8) : gMi l yX5_all wsX5_all ({ frames := 0, cells := 0, slots := 0, locals := 0 }) D ad cy I J a b sz [.ref (ad 5)] (fun r u => r = m_all a mr ∧ u = (I, J, a, b)) := by
  refine Met.ofW (cc := cX5_all) (maxL := 3) (ret := some .int) (by decide) rfl ?_
  intro p e s m args below meth c s₁ B hml hv
  obtain ⟨hargs, hsz, G⟩ := gx_begin hv
  subst hsz
  have hx := B.exec
  have hb := B.bytes
  have hr := B.returns
  have hts := atoms_spec (ws := wsX5_all) B.pre
  have hown : s.vm.findClass RX5 = some m.cls := findClass_of_methodNamed B.named
  have hlocks := B.notSynchronized
  have hinX5 : ∀ w ∈ wsX50, w ∈ wsX5_all := by decide +kernel
  have lk28 := hts (.fieldLink RX5 28 "ExactSimplexModel" "alive" "[Z") (by decide +kernel)
  have lk78 := hts (.fieldLink RX5 78 "ExactSimplexModel" "rows" "I") (by decide +kernel)
  have hl := lv_entry ([.ref (ad 5)]) (n := 3) (Nat.le_of_ble_eq_true rfl)
  have hent := lg_entry_eq m ([.ref (ad 5)]) 3
  rw [← hargs] at hent
  rw [hent]
  clear hent
  generalize (lg_sl ([.ref (ad 5)]) ++ List.replicate (3 - (lg_sl ([.ref (ad 5)])).length) Slot.unset).toArray = ls at hl ⊢
  have hl : lv_has ls 3 [(0, .ref (ad 5))] := hl
  generalize hA : gA ad s.heap.size = A at G ⊢
  generalize hH : s.heap = H at G ⊢
  refine gx_q (fun Q hQ => ?_)
  refine lv_iconst (v := 0) hx hb dX5_all_0 (by decide) ?_
  refine lv_istore_n (lv' := [(1, .int 0), (0, .ref (ad 5))]) hx hb dX5_all_1 rfl hl (by decide) rfl (fun ls hl => ?_)
  refine lv_iconst (v := 0) hx hb dX5_all_2 (by decide) ?_
  refine lv_istore_n (lv' := [(2, .int 0), (1, .int 0), (0, .ref (ad 5))]) hx hb dX5_all_3 rfl hl (by decide) rfl (fun ls hl => ?_)
  have K4 : ∀ (nf : Nat) (r : Nat) (H : Heap) (locs : List Loc) (ls : Array Slot), (r ≤ mr) → mr - r < nf → GG D ad cy A s I J a b H locs → lv_has ls 3 [(0, .ref (ad 5)), (1, .int (m_all a r)), (2, .int (nI r))] → W p l e ({ frames := 0, cells := 0, slots := 0, locals := 0 }) s m args below meth c H locs 0 0 Q (F0 m 4 ls []) := by
    intro nf
    induction nf with
    | zero => exact fun _ _ _ _ _ hz => absurd hz (Nat.not_lt_zero _)
    | succ nf ih =>
      intro r H locs ls h1 hmeas G hl
      have ih4 := ih
      clear ih
      refine lv_iload_n hx hb dX5_all_4 rfl (lv_at hl 2 rfl) ?_
      refine lv_aload_n hx hb dX5_all_5 rfl (lv_at hl 0 rfl) ?_
      refine gx_get hx hb hts hinX5 hown G 5 (by decide) rfl rfl 1 (by decide) rfl lk78 rfl (v := .int (I 5 1)) rfl dX5_all_6 ?_
      refine lv_icmp_ge (tgt := 37) hx hb dX5_all_9 (by decide) (fun c9 => ?_) (fun c9 => ?_)
      · skip
        have n9 := gn_le (X := mr) (Y := r) hmr rfl (by omega) (by omega) c9
        refine lv_iload_n hx hb dX5_all_37 rfl (lv_at hl 1 rfl) ?_
        exact gx_ir hx hb hr hlocks G hQ ⟨by first | rfl | (simp only [m_all, c9, reduceIte]; done) | (rw [show mr = r by omega]; done) | (rw [show mr = r by omega]; simp only [m_all, c9, reduceIte]; done) | (simp [m_all, c9, reduceIte]; done), rfl⟩ dX5_all_38
      · skip
        have n9 := gn_nle (X := mr) (Y := r) hmr rfl (by omega) (by omega) c9
        refine lv_iload_n hx hb dX5_all_12 rfl (lv_at hl 1 rfl) ?_
        refine lv_aload_n hx hb dX5_all_13 rfl (lv_at hl 0 rfl) ?_
        refine gx_get hx hb hts hinX5 hown G 5 (by decide) rfl rfl 8 (by decide) rfl lk28 rfl (v := .ref (ad 33)) rfl dX5_all_14 ?_
        refine lv_iload_n hx hb dX5_all_17 rfl (lv_at hl 2 rfl) ?_
        refine gx_zald hx hb G 33 (by decide) (rfl) (by decide) r rfl (by omega) dX5_all_18 ?_
        refine lv_if_eq (tgt := 28) hx hb dX5_all_19 (by decide) (fun c19 => ?_) (fun c19 => ?_)
        · skip
          refine lv_iconst (v := 0) hx hb dX5_all_28 (by decide) ?_
          refine lv_ior hx hb dX5_all_29 ?_
          refine lv_topi (fun x_1 ex_1 => ?_)
          refine lv_istore_n (lv' := [(1, .int x_1), (0, .ref (ad 5)), (2, .int (nI r))]) hx hb dX5_all_30 rfl hl (by decide) rfl (fun ls hl => ?_)
          refine lv_iinc (v := (nI (r + 1))) (lv' := [(2, .int (nI (r + 1))), (1, .int x_1), (0, .ref (ad 5))]) hx hb dX5_all_31 hl (k := 2) rfl (gn_add (X := r) (Y := 1) rfl rfl) (by decide) rfl (fun ls hl => ?_)
          refine lv_goto (tgt := 4) hx hb dX5_all_34 (by decide) ?_
          have q1 : x_1 = m_all a (r + 1) := by rw [ex_1]; first | rfl | (simp only [m_all, c9, c19, reduceIte]; done) | (rw [show mr = r by omega]; done) | (rw [show mr = r by omega]; simp only [m_all, c9, c19, reduceIte]; done) | (simp [m_all, c9, c19, reduceIte]; done)
          rw [q1] at hl
          exact ih4  (r + 1) _ _ _ (by omega) (by omega) G (lv_sub hl [2, 1, 0] rfl)
        · skip
          refine lv_iconst (v := 1) hx hb dX5_all_22 (by decide) ?_
          refine lv_iload_n hx hb dX5_all_23 rfl (lv_at hl 2 rfl) ?_
          refine lv_ishl hx hb dX5_all_24 ?_
          refine lv_goto (tgt := 29) hx hb dX5_all_25 (by decide) ?_
          refine lv_ior hx hb dX5_all_29 ?_
          refine lv_topi (fun x_2 ex_2 => ?_)
          refine lv_istore_n (lv' := [(1, .int x_2), (0, .ref (ad 5)), (2, .int (nI r))]) hx hb dX5_all_30 rfl hl (by decide) rfl (fun ls hl => ?_)
          refine lv_iinc (v := (nI (r + 1))) (lv' := [(2, .int (nI (r + 1))), (1, .int x_2), (0, .ref (ad 5))]) hx hb dX5_all_31 hl (k := 2) rfl (gn_add (X := r) (Y := 1) rfl rfl) (by decide) rfl (fun ls hl => ?_)
          refine lv_goto (tgt := 4) hx hb dX5_all_34 (by decide) ?_
          have q1 : x_2 = m_all a (r + 1) := by rw [ex_2]; first | rfl | (simp only [m_all, c9, c19, reduceIte]; done) | (rw [show mr = r by omega]; done) | (rw [show mr = r by omega]; simp only [m_all, c9, c19, reduceIte]; done) | (simp [m_all, c9, c19, reduceIte]; done)
          rw [q1] at hl
          exact ih4  (r + 1) _ _ _ (by omega) (by omega) G (lv_sub hl [2, 1, 0] rfl)
  exact K4 (mr - 0 + 1) 0 _ _ _ (by omega) (Nat.lt_succ_self _) G (lv_sub hl [2, 1, 0] rfl)
