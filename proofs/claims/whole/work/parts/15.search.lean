/-! WholeSearch: a 21 point, a 22 ends, a 23 firstBest, a (69 + d) sums, a (75 + d) leastMore, a (81 + d) mostMore by how many names are set; I 3 7 bestCost, I 3 8 found, I 3 9 sought -/
theorem gsh_W2 (r : Nat) (h : r < 6) : gsh (75 + r) = .inr (0, 9, 0) := match r, h with
  | 0, _ => rfl
  | 1, _ => rfl
  | 2, _ => rfl
  | 3, _ => rfl
  | 4, _ => rfl
  | 5, _ => rfl
  | k + 6, h => absurd h (by omega)
theorem gsh_W3 (r : Nat) (h : r < 6) : gsh (81 + r) = .inr (0, 9, 0) := match r, h with
  | 0, _ => rfl
  | 1, _ => rfl
  | 2, _ => rfl
  | 3, _ => rfl
  | 4, _ => rfl
  | 5, _ => rfl
  | k + 6, h => absurd h (by omega)
def f_div (x y : Int32) : Int32 := if 0 ≤ x ^^^ y then x / y else if x / y * y = x then x / y else x / y - 1
def w_nar (a : gF) (n0 : Nat) (f rm : Int32) : gF := if f ≤ 0 then if 0 ≤ f then if 0 ≤ rm then a else gU a 22 n0 (a 6 n0 - 1) else gU a 21 n0 (if a 21 n0 < -f_div rm (-f) - 1 then -f_div rm (-f) - 1 else a 21 n0) else gU a 22 n0 (if f_div rm f < a 22 n0 then f_div rm f else a 22 n0)
def w_kc (a : gF) (n0 : Nat) : gF := if 0 ≤ a 8 n0 then gU a 22 n0 (if a 21 n0 + 1 < a 22 n0 then a 21 n0 + 1 else a 22 n0) else gU a 21 n0 (if a 21 n0 < a 22 n0 - 1 then a 22 n0 - 1 else a 21 n0)
def w_nb1 (a : gF) (n0 r0 : Nat) : gF := if p_above a r0 = 0 then a else w_nar a n0 (a (40 + r0) n0) (a 10 r0 - a (69 + n0) r0 - a (75 + (n0 + 1)) r0)
def w_nbr (a : gF) (n0 r0 : Nat) : gF := if p_below (w_nb1 a n0 r0) r0 = 0 then w_nb1 a n0 r0 else w_nar (w_nb1 a n0 r0) n0 (-a (40 + r0) n0) (w_nb1 a n0 r0 (81 + (n0 + 1)) r0 - (a 10 r0 - a (69 + n0) r0))
def w_au (a : gF) (n0 : Nat) : Nat → gF
  | 0 => a
  | n + 1 => gU (w_au a n0 n) (69 + (n0 + 1)) n (w_au a n0 n (69 + n0) n + w_au a n0 n (40 + n) n0 * w_au a n0 n 21 n0)
def w_add (a : gF) (n0 nr : Nat) : gF := gU (w_au a n0 nr) (69 + (n0 + 1)) 8 (w_au a n0 nr (69 + n0) 8 + w_au a n0 nr 8 n0 * w_au a n0 nr 21 n0)
def w_wt (a : gF) (ln nm : Nat) : Int32 := if nI ln = 8 then a 8 nm else a (40 + ln) nm
def w_st1 (a : gF) (ln k : Nat) : gF := gU a (75 + k) ln (a (75 + (k + 1)) ln + if w_wt a ln k * a 7 k < w_wt a ln k * a 6 k then w_wt a ln k * a 7 k else w_wt a ln k * a 6 k)
def w_st2 (a : gF) (ln k : Nat) : gF := gU (w_st1 a ln k) (81 + k) ln (w_st1 a ln k (81 + (k + 1)) ln + if w_wt a ln k * a 6 k < w_wt a ln k * a 7 k then w_wt a ln k * a 7 k else w_wt a ln k * a 6 k)
def w_in (a : gF) (ln nn : Nat) : Nat → gF
  | 0 => a
  | m + 1 => w_st2 (w_in a ln nn m) ln (nn - 1 - m)
theorem w_in_s (a : gF) (ln : Nat) {nn k : Nat} (h : k + 1 ≤ nn) : w_in a ln nn (nn - k) = w_st2 (w_in a ln nn (nn - (k + 1))) ln k := by
  rw [show nn - k = (nn - (k + 1)) + 1 by omega]
  show w_st2 _ ln (nn - 1 - (nn - (k + 1))) = _
  rw [show nn - 1 - (nn - (k + 1)) = k by omega]
def w_wo0 (a : gF) (nn ln : Nat) : gF := gU (gU (gU a (69 + 0) ln 0) (75 + nn) ln 0) (81 + nn) ln 0
def w_wo (a : gF) (nn : Nat) : Nat → gF
  | 0 => a
  | n + 1 => w_in (w_wo0 (w_wo a nn n) nn n) n nn nn
def w_mbc (I a : gF) (d : Nat) : Int32 := if I 3 8 = 0 then 1 else if I 3 7 ≤ a (69 + d) 8 + a (75 + d) 8 then 0 else 1
def w_kp (I a : gF) (nn : Nat) : Nat → Nat → Int32
  | 0, _ => 1
  | n + 1, r => if p_hasR I a (nI r) = 0 then w_kp I a nn n (r + 1) else if a (69 + nn) r - a 10 r ≤ 0 then (if 0 ≤ a (69 + nn) r - a 10 r then w_kp I a nn n (r + 1) else if p_below a r = 0 then w_kp I a nn n (r + 1) else 0) else if p_above a r = 0 then (if 0 ≤ a (69 + nn) r - a 10 r then w_kp I a nn n (r + 1) else if p_below a r = 0 then w_kp I a nn n (r + 1) else 0) else 0
theorem w_kp_s (I a : gF) (nn : Nat) {nr r : Nat} (h : r < nr) : w_kp I a nn (nr - r) r = if p_hasR I a (nI r) = 0 then w_kp I a nn (nr - (r + 1)) (r + 1) else if a (69 + nn) r - a 10 r ≤ 0 then (if 0 ≤ a (69 + nn) r - a 10 r then w_kp I a nn (nr - (r + 1)) (r + 1) else if p_below a r = 0 then w_kp I a nn (nr - (r + 1)) (r + 1) else 0) else if p_above a r = 0 then (if 0 ≤ a (69 + nn) r - a 10 r then w_kp I a nn (nr - (r + 1)) (r + 1) else if p_below a r = 0 then w_kp I a nn (nr - (r + 1)) (r + 1) else 0) else 0 := by
  rw [show nr - r = (nr - (r + 1)) + 1 by omega]
  rfl
theorem w_kp_01 (I a : gF) (nn : Nat) : ∀ n r, w_kp I a nn n r = 0 ∨ w_kp I a nn n r = 1
  | 0, _ => Or.inr rfl
  | n + 1, r => by
    have h := w_kp_01 I a nn n (r + 1)
    unfold w_kp
    repeat' split
    all_goals first | exact h | exact Or.inl rfl
def w_cp (a : gF) : Nat → gF
  | 0 => a
  | n + 1 => gU (w_cp a n) 23 n (w_cp a n 21 n)
def w_tpI (I a : gF) (nn nr : Nat) : gF := if w_kp I a nn nr 0 = 0 then I else if w_mbc I a nn = 0 then I else gU (gU I 3 8 1) 3 7 (a (69 + nn) 8)
def w_tpA (I a : gF) (nn nr : Nat) : gF := if w_kp I a nn nr 0 = 0 then a else if w_mbc I a nn = 0 then a else w_cp a nn
def w_on (I a : gF) (n0 : Nat) : Nat → gF
  | 0 => a
  | n + 1 => if p_hasR I (w_on I a n0 n) (nI n) = 0 then w_on I a n0 n else w_nbr (w_on I a n0 n) n0 n
def w_op1 (I a : gF) (n0 nr : Nat) : gF := w_on I (gU (gU a 21 n0 (a 6 n0 - 1)) 22 n0 (a 7 n0)) n0 nr
def w_op2 (I a : gF) (n0 nr : Nat) : gF := if I 3 8 = 0 then w_op1 I a n0 nr else w_nar (w_op1 I a n0 nr) n0 (w_op1 I a n0 nr 8 n0) (I 3 7 - 1 - w_op1 I a n0 nr (69 + n0) 8 - w_op1 I a n0 nr (75 + (n0 + 1)) 8)
def w_open (I a : gF) (n0 nr : Nat) : gF := if nI n0 < I 1 7 then if nI n0 = I 1 7 - 1 then w_kc (w_op2 I a n0 nr) n0 else w_op2 I a n0 nr else a
def mST : Nat := 1000000
def w_srch (nn nr : Nat) : Nat → Nat × gF × gF → Nat × gF × gF
  | 0, x => x
  | n + 1, (0, I, a) => (0, I, a)
  | n + 1, (d + 1, I, a) => if nI d < I 1 7 then if a 21 d < a 22 d then if w_mbc I (w_add (gU a 21 d (a 21 d + 1)) d nr) (d + 1) = 0 then w_srch nn nr n (d + 1, I, w_add (gU a 21 d (a 21 d + 1)) d nr) else w_srch nn nr n (d + 1 + 1, I, w_open I (w_add (gU a 21 d (a 21 d + 1)) d nr) (d + 1) nr) else w_srch nn nr n (d, I, a) else w_srch nn nr n (d, w_tpI I a nn nr, w_tpA I a nn nr)
theorem w_srch_s (nn nr : Nat) (d : Nat) (I a : gF) {i : Nat} (h : i < mST) : w_srch nn nr (mST - i) (d + 1, I, a) = if nI d < I 1 7 then if a 21 d < a 22 d then if w_mbc I (w_add (gU a 21 d (a 21 d + 1)) d nr) (d + 1) = 0 then w_srch nn nr (mST - (i + 1)) (d + 1, I, w_add (gU a 21 d (a 21 d + 1)) d nr) else w_srch nn nr (mST - (i + 1)) (d + 1 + 1, I, w_open I (w_add (gU a 21 d (a 21 d + 1)) d nr) (d + 1) nr) else w_srch nn nr (mST - (i + 1)) (d, I, a) else w_srch nn nr (mST - (i + 1)) (d, w_tpI I a nn nr, w_tpA I a nn nr) := by
  rw [show mST - i = (mST - (i + 1)) + 1 by omega]
  rfl
theorem w_srch_0 (nn nr : Nat) (I a : gF) : ∀ n, w_srch nn nr n (0, I, a) = (0, I, a)
  | 0 => rfl
  | n + 1 => rfl
theorem w_tpI_k {I a : gF} {nn nr k j : Nat} (h : k ≠ 3) : w_tpI I a nn nr k j = I k j := by
  unfold w_tpI
  repeat' split
  · rfl
  · rfl
  · exact (gU_n (Or.inl h)).trans (gU_n (Or.inl h))
theorem w_tpI_38 {I a : gF} {nn nr : Nat} (h : I 3 8 = 0 ∨ I 3 8 = 1) : w_tpI I a nn nr 3 8 = 0 ∨ w_tpI I a nn nr 3 8 = 1 := by
  unfold w_tpI
  repeat' split
  · exact h
  · exact h
  · exact Or.inr rfl
def w_hpX (I a : gF) (nn nr : Nat) : Nat × gF × gF := w_srch nn nr mST (1, gU (gU I 3 8 0) 3 9 1, w_open (gU (gU I 3 8 0) 3 9 1) (w_wo a nn 9) 0 nr)
def w_hp (I a : gF) (nn nr : Nat) : Int32 := if I 3 9 = 0 then (w_hpX I a nn nr).2.1 3 8 else I 3 8
def w_hpI (I a : gF) (nn nr : Nat) : gF := if I 3 9 = 0 then (w_hpX I a nn nr).2.1 else I
def w_hpA (I a : gF) (nn nr : Nat) : gF := if I 3 9 = 0 then (w_hpX I a nn nr).2.2 else a
theorem gx_ne_le {f : Int32} (c : ¬ f ≤ 0) : ¬ f = 0 := fun h => c (by rw [h]; decide)
theorem gx_ne_neg {f : Int32} (c : ¬ 0 ≤ f) : ¬ -f = 0 := fun h => c (by
  have e : f = 0 := by rw [← Int32.neg_neg (a := f), h]; rfl
  rw [e]
  decide)

set_option maxHeartbeats 4000000 in
set_option maxRecDepth 100000 in
theorem kJ9_floorDiv_7cf53 (l : Launch) (D : va_G) (ad : Nat → Nat) (cy : Nat → ClassId) (I : gF) (J : gL) (a : gF) (b : gL) (sz : Nat) (x y : Int32) (hy : ¬ y = 0) : gMi l yJ9_floorDiv_7cf53 wsJ9_floorDiv_7cf53 ({ frames := 0, cells := 0, slots := 0, locals := 0 }) D ad cy I J a b sz [.int x, .int y] (fun r u => r = f_div x y ∧ u = (I, J, a, b)) := by
  refine va_MetF (cc := cJ9_floorDiv_7cf53) (maxL := 3) (ret := some .int) (by decide +kernel) rfl ?_
  intro p e s m args below meth c s₁ B hml hv
  obtain ⟨hargs, hsz, G⟩ := gx_begin hv
  subst hsz
  have hx := B.exec
  have hb := B.bytes
  have hr := B.returns
  have hts := atoms_spec (ws := wsJ9_floorDiv_7cf53) B.pre
  have hown : s.vm.findClass RJ9 = some m.cls := findClass_of_methodNamed B.named
  have hlocks := B.notSynchronized
  have hl := lv_entry ([.int x, .int y]) (n := 3) (Nat.le_of_ble_eq_true rfl)
  have hent := lg_entry_eq m ([.int x, .int y]) 3
  rw [← hargs] at hent
  rw [hent]
  clear hent
  generalize (lg_sl ([.int x, .int y]) ++ List.replicate (3 - (lg_sl ([.int x, .int y])).length) Slot.unset).toArray = ls at hl ⊢
  have hl : lv_has ls 3 [(0, .int x), (1, .int y)] := hl
  generalize hA : gA ad s.heap.size = A at G ⊢
  generalize hH : s.heap = H at G ⊢
  refine gx_q (fun Q hQ => ?_)
  refine lv_iload_n hx hb dJ9_floorDiv_7cf53_0 rfl (lv_at hl 0 rfl) ?_
  refine lv_iload_n hx hb dJ9_floorDiv_7cf53_1 rfl (lv_at hl 1 rfl) ?_
  refine lv_idiv hx hb dJ9_floorDiv_7cf53_2 (hy) ?_
  refine lv_istore_n (lv' := [(2, .int (x / y)), (0, .int x), (1, .int y)]) hx hb dJ9_floorDiv_7cf53_3 rfl hl (by decide) rfl (fun ls hl => ?_)
  refine lv_iload_n hx hb dJ9_floorDiv_7cf53_4 rfl (lv_at hl 1 rfl) ?_
  refine lv_iload_n hx hb dJ9_floorDiv_7cf53_5 rfl (lv_at hl 2 rfl) ?_
  refine lv_ixor hx hb dJ9_floorDiv_7cf53_6 ?_
  refine lv_if_ge (tgt := 21) hx hb dJ9_floorDiv_7cf53_7 (by decide) (fun c7 => ?_) (fun c7 => ?_)
  · skip
    refine lv_iload_n hx hb dJ9_floorDiv_7cf53_21 rfl (lv_at hl 0 rfl) ?_
    exact gx_ir hx hb hr hlocks G hQ ⟨by first | rfl | (simp only [f_div, c7, reduceIte]; done) | (simp [f_div, c7, reduceIte]; done), rfl⟩ dJ9_floorDiv_7cf53_22
  · skip
    refine lv_iload_n hx hb dJ9_floorDiv_7cf53_10 rfl (lv_at hl 0 rfl) ?_
    refine lv_iload_n hx hb dJ9_floorDiv_7cf53_11 rfl (lv_at hl 2 rfl) ?_
    refine lv_imul hx hb dJ9_floorDiv_7cf53_12 ?_
    refine lv_iload_n hx hb dJ9_floorDiv_7cf53_13 rfl (lv_at hl 1 rfl) ?_
    refine lv_icmp_eq (tgt := 21) hx hb dJ9_floorDiv_7cf53_14 (by decide) (fun c14 => ?_) (fun c14 => ?_)
    · skip
      refine lv_iload_n hx hb dJ9_floorDiv_7cf53_21 rfl (lv_at hl 0 rfl) ?_
      exact gx_ir hx hb hr hlocks G hQ ⟨by first | rfl | (simp only [f_div, c7, c14, reduceIte]; done) | (simp [f_div, c7, c14, reduceIte]; done), rfl⟩ dJ9_floorDiv_7cf53_22
    · skip
      refine lv_iload_n hx hb dJ9_floorDiv_7cf53_17 rfl (lv_at hl 0 rfl) ?_
      refine lv_iconst (v := 1) hx hb dJ9_floorDiv_7cf53_18 (by decide) ?_
      refine lv_isub hx hb dJ9_floorDiv_7cf53_19 ?_
      exact gx_ir hx hb hr hlocks G hQ ⟨by first | rfl | (simp only [f_div, c7, c14, reduceIte]; done) | (simp [f_div, c7, c14, reduceIte]; done), rfl⟩ dJ9_floorDiv_7cf53_20

set_option maxHeartbeats 4000000 in
set_option maxRecDepth 100000 in
theorem kX3_forget (l : Launch) (D : va_G) (ad : Nat → Nat) (cy : Nat → ClassId) (I : gF) (J : gL) (a : gF) (b : gL) (sz : Nat)   : gMv l yX3_forget wsX3_forget ({ frames := 0, cells := 0, slots := 0, locals := 0 }) D ad cy I J a b sz [.ref (ad 3)] (fun u => u = (gU I 3 9 0, J, a, b)) := by
  refine Met.ofW (cc := cX3_forget) (maxL := 1) (ret := none) (by decide) rfl ?_
  intro p e s m args below meth c s₁ B hml hv
  obtain ⟨hargs, hsz, G⟩ := gx_begin hv
  subst hsz
  have hx := B.exec
  have hb := B.bytes
  have hr := B.returns
  have hts := atoms_spec (ws := wsX3_forget) B.pre
  have hown : s.vm.findClass RX3 = some m.cls := findClass_of_methodNamed B.named
  have hlocks := B.notSynchronized
  have hinX3 : ∀ w ∈ wsX30, w ∈ wsX3_forget := by decide +kernel
  have lk36 := hts (.fieldLink RX3 36 "ExactSimplex$WholeSearch" "sought" "Z") (by decide +kernel)
  have hl := lv_entry ([.ref (ad 3)]) (n := 1) (Nat.le_of_ble_eq_true rfl)
  have hent := lg_entry_eq m ([.ref (ad 3)]) 1
  rw [← hargs] at hent
  rw [hent]
  clear hent
  generalize (lg_sl ([.ref (ad 3)]) ++ List.replicate (1 - (lg_sl ([.ref (ad 3)])).length) Slot.unset).toArray = ls at hl ⊢
  have hl : lv_has ls 1 [(0, .ref (ad 3))] := hl
  generalize hA : gA ad s.heap.size = A at G ⊢
  generalize hH : s.heap = H at G ⊢
  refine gx_q (fun Q hQ => ?_)
  refine lv_aload_n hx hb dX3_forget_0 rfl (lv_at hl 0 rfl) ?_
  refine lv_iconst (v := 0) hx hb dX3_forget_1 (by decide) ?_
  refine gx_putI hx hb hts hinX3 tyX3 tyX3_ok nmX3 hown G 3 (by decide) rfl rfl 9 (by decide) rfl lk36 rfl rfl (tyX3_ok 9 (by decide)) (rfl) (rfl) dX3_forget_2 (fun H locs G => ?_)
  exact gx_vr hx hb hr hlocks G hQ (by first | rfl | (simp only [reduceIte]; done) | (simp [reduceIte]; done)) dX3_forget_5

set_option maxHeartbeats 4000000 in
set_option maxRecDepth 100000 in
theorem kX3_leastCost (l : Launch) (D : va_G) (ad : Nat → Nat) (cy : Nat → ClassId) (I : gF) (J : gL) (a : gF) (b : gL) (sz : Nat)   : gMi l yX3_leastCost wsX3_leastCost ({ frames := 0, cells := 0, slots := 0, locals := 0 }) D ad cy I J a b sz [.ref (ad 3)] (fun r u => r = I 3 7 ∧ u = (I, J, a, b)) := by
  refine Met.ofW (cc := cX3_leastCost) (maxL := 1) (ret := some .int) (by decide) rfl ?_
  intro p e s m args below meth c s₁ B hml hv
  obtain ⟨hargs, hsz, G⟩ := gx_begin hv
  subst hsz
  have hx := B.exec
  have hb := B.bytes
  have hr := B.returns
  have hts := atoms_spec (ws := wsX3_leastCost) B.pre
  have hown : s.vm.findClass RX3 = some m.cls := findClass_of_methodNamed B.named
  have hlocks := B.notSynchronized
  have hinX3 : ∀ w ∈ wsX30, w ∈ wsX3_leastCost := by decide +kernel
  have lk67 := hts (.fieldLink RX3 67 "ExactSimplex$WholeSearch" "bestCost" "I") (by decide +kernel)
  have hl := lv_entry ([.ref (ad 3)]) (n := 1) (Nat.le_of_ble_eq_true rfl)
  have hent := lg_entry_eq m ([.ref (ad 3)]) 1
  rw [← hargs] at hent
  rw [hent]
  clear hent
  generalize (lg_sl ([.ref (ad 3)]) ++ List.replicate (1 - (lg_sl ([.ref (ad 3)])).length) Slot.unset).toArray = ls at hl ⊢
  have hl : lv_has ls 1 [(0, .ref (ad 3))] := hl
  generalize hA : gA ad s.heap.size = A at G ⊢
  generalize hH : s.heap = H at G ⊢
  refine gx_q (fun Q hQ => ?_)
  refine lv_aload_n hx hb dX3_leastCost_0 rfl (lv_at hl 0 rfl) ?_
  refine gx_get hx hb hts hinX3 hown G 3 (by decide) rfl rfl 7 (by decide) rfl lk67 rfl (v := .int (I 3 7)) rfl dX3_leastCost_1 ?_
  exact gx_ir hx hb hr hlocks G hQ ⟨by first | rfl | (simp only [reduceIte]; done) | (simp [reduceIte]; done), rfl⟩ dX3_leastCost_4

set_option maxHeartbeats 4000000 in
set_option maxRecDepth 100000 in
theorem kX3_firstBestOf (l : Launch) (D : va_G) (ad : Nat → Nat) (cy : Nat → ClassId) (I : gF) (J : gL) (a : gF) (b : gL) (sz : Nat) (n0 : Nat) (hn0 : n0 < 5) : gMi l yX3_firstBestOf wsX3_firstBestOf ({ frames := 0, cells := 0, slots := 0, locals := 0 }) D ad cy I J a b sz [.ref (ad 3), .int (nI n0)] (fun r u => r = a 23 n0 ∧ u = (I, J, a, b)) := by
  refine Met.ofW (cc := cX3_firstBestOf) (maxL := 2) (ret := some .int) (by decide) rfl ?_
  intro p e s m args below meth c s₁ B hml hv
  obtain ⟨hargs, hsz, G⟩ := gx_begin hv
  subst hsz
  have hx := B.exec
  have hb := B.bytes
  have hr := B.returns
  have hts := atoms_spec (ws := wsX3_firstBestOf) B.pre
  have hown : s.vm.findClass RX3 = some m.cls := findClass_of_methodNamed B.named
  have hlocks := B.notSynchronized
  have hinX3 : ∀ w ∈ wsX30, w ∈ wsX3_firstBestOf := by decide +kernel
  have lk18 := hts (.fieldLink RX3 18 "ExactSimplex$WholeSearch" "firstBest" "[I") (by decide +kernel)
  have hl := lv_entry ([.ref (ad 3), .int (nI n0)]) (n := 2) (Nat.le_of_ble_eq_true rfl)
  have hent := lg_entry_eq m ([.ref (ad 3), .int (nI n0)]) 2
  rw [← hargs] at hent
  rw [hent]
  clear hent
  generalize (lg_sl ([.ref (ad 3), .int (nI n0)]) ++ List.replicate (2 - (lg_sl ([.ref (ad 3), .int (nI n0)])).length) Slot.unset).toArray = ls at hl ⊢
  have hl : lv_has ls 2 [(0, .ref (ad 3)), (1, .int (nI n0))] := hl
  generalize hA : gA ad s.heap.size = A at G ⊢
  generalize hH : s.heap = H at G ⊢
  refine gx_q (fun Q hQ => ?_)
  refine lv_aload_n hx hb dX3_firstBestOf_0 rfl (lv_at hl 0 rfl) ?_
  refine gx_get hx hb hts hinX3 hown G 3 (by decide) rfl rfl 3 (by decide) rfl lk18 rfl (v := .ref (ad 23)) rfl dX3_firstBestOf_1 ?_
  refine lv_iload_n hx hb dX3_firstBestOf_4 rfl (lv_at hl 1 rfl) ?_
  refine gx_iald hx hb G 23 (by decide) (rfl) (by decide) n0 rfl (by omega) dX3_firstBestOf_5 ?_
  exact gx_ir hx hb hr hlocks G hQ ⟨by first | rfl | (simp only [reduceIte]; done) | (simp [reduceIte]; done), rfl⟩ dX3_firstBestOf_6

set_option maxHeartbeats 4000000 in
set_option maxRecDepth 100000 in
theorem kX3_weight (l : Launch) (D : va_G) (ad : Nat → Nat) (cy : Nat → ClassId) (I : gF) (J : gL) (a : gF) (b : gL) (sz : Nat) (ln nm : Nat) (hln : ln < 9) (hnm : nm < 5) : gMi l yX3_weight wsX3_weight ({ frames := 0, cells := 0, slots := 0, locals := 0 }) D ad cy I J a b sz [.ref (ad 3), .int (nI ln), .int (nI nm)] (fun r u => r = w_wt a ln nm ∧ u = (I, J, a, b)) := by
  refine Met.ofW (cc := cX3_weight) (maxL := 3) (ret := some .int) (by decide) rfl ?_
  intro p e s m args below meth c s₁ B hml hv
  obtain ⟨hargs, hsz, G⟩ := gx_begin hv
  subst hsz
  have hx := B.exec
  have hb := B.bytes
  have hr := B.returns
  have hts := atoms_spec (ws := wsX3_weight) B.pre
  have hown : s.vm.findClass RX3 = some m.cls := findClass_of_methodNamed B.named
  have hlocks := B.notSynchronized
  have hinX1 : ∀ w ∈ wsX10, w ∈ wsX3_weight := by decide +kernel
  have hinX3 : ∀ w ∈ wsX30, w ∈ wsX3_weight := by decide +kernel
  have lk32 := hts (.fieldLink RX3 32 "ExactSimplex$WholeSearch" "problem" "LExactSimplex$Problem;") (by decide +kernel)
  have lk88 := hts (.fieldLink RX3 88 "ExactSimplex$Problem" "costs" "[I") (by decide +kernel)
  have lk91 := hts (.fieldLink RX3 91 "ExactSimplex$Problem" "factors" "[[I") (by decide +kernel)
  have hl := lv_entry ([.ref (ad 3), .int (nI ln), .int (nI nm)]) (n := 3) (Nat.le_of_ble_eq_true rfl)
  have hent := lg_entry_eq m ([.ref (ad 3), .int (nI ln), .int (nI nm)]) 3
  rw [← hargs] at hent
  rw [hent]
  clear hent
  generalize (lg_sl ([.ref (ad 3), .int (nI ln), .int (nI nm)]) ++ List.replicate (3 - (lg_sl ([.ref (ad 3), .int (nI ln), .int (nI nm)])).length) Slot.unset).toArray = ls at hl ⊢
  have hl : lv_has ls 3 [(0, .ref (ad 3)), (1, .int (nI ln)), (2, .int (nI nm))] := hl
  generalize hA : gA ad s.heap.size = A at G ⊢
  generalize hH : s.heap = H at G ⊢
  refine gx_q (fun Q hQ => ?_)
  refine lv_iload_n hx hb dX3_weight_0 rfl (lv_at hl 1 rfl) ?_
  refine lv_bipush (v := 8) hx hb dX3_weight_1 (by decide) ?_
  refine lv_icmp_ne (tgt := 18) hx hb dX3_weight_3 (by decide) (fun c3 => ?_) (fun c3 => ?_)
  · skip
    have n3 := gn_neq (X := ln) (Y := 8) rfl rfl (by omega) (by omega) c3
    refine lv_aload_n hx hb dX3_weight_18 rfl (lv_at hl 0 rfl) ?_
    refine gx_get hx hb hts hinX3 hown G 3 (by decide) rfl rfl 0 (by decide) rfl lk32 rfl (v := .ref (ad 1)) rfl dX3_weight_19 ?_
    refine gx_get hx hb hts hinX1 hown G 1 (by decide) rfl rfl 5 (by decide) rfl lk91 rfl (v := .ref (ad 11)) rfl dX3_weight_22 ?_
    refine lv_iload_n hx hb dX3_weight_25 rfl (lv_at hl 1 rfl) ?_
    refine gx_aald hx hb G 11 (by decide) rfl (Or.inl rfl) (by decide) ln rfl (by omega) dX3_weight_26 ?_
    refine lv_iload_n hx hb dX3_weight_27 rfl (lv_at hl 2 rfl) ?_
    refine gx_iald hx hb G (40 + ln) (by omega) (gsh_F _ (by omega)) (by decide) nm rfl (by omega) dX3_weight_28 ?_
    exact gx_ir hx hb hr hlocks G hQ ⟨by first | rfl | (simp only [w_wt, c3, reduceIte]; done) | (simp [w_wt, c3, reduceIte]; done), rfl⟩ dX3_weight_29
  · skip
    have n3 := gn_eq (X := ln) (Y := 8) rfl rfl (by omega) (by omega) c3
    refine lv_aload_n hx hb dX3_weight_6 rfl (lv_at hl 0 rfl) ?_
    refine gx_get hx hb hts hinX3 hown G 3 (by decide) rfl rfl 0 (by decide) rfl lk32 rfl (v := .ref (ad 1)) rfl dX3_weight_7 ?_
    refine gx_get hx hb hts hinX1 hown G 1 (by decide) rfl rfl 2 (by decide) rfl lk88 rfl (v := .ref (ad 8)) rfl dX3_weight_10 ?_
    refine lv_iload_n hx hb dX3_weight_13 rfl (lv_at hl 2 rfl) ?_
    refine gx_iald hx hb G 8 (by decide) (rfl) (by decide) nm rfl (by omega) dX3_weight_14 ?_
    refine lv_goto (tgt := 29) hx hb dX3_weight_15 (by decide) ?_
    exact gx_ir hx hb hr hlocks G hQ ⟨by first | rfl | (simp only [w_wt, c3, reduceIte]; done) | (simp [w_wt, c3, reduceIte]; done), rfl⟩ dX3_weight_29

set_option maxHeartbeats 4000000 in
set_option maxRecDepth 100000 in
theorem kX3_narrow (l : Launch) (D : va_G) (ad : Nat → Nat) (cy : Nat → ClassId) (I : gF) (J : gL) (a : gF) (b : gL) (sz : Nat) (n0 : Nat) (f rm : Int32) (hn0 : n0 < 5) : gMv l yX3_narrow wsX3_narrow ({ frames := 1, cells := 0, slots := 0, locals := 40 }) D ad cy I J a b sz [.ref (ad 3), .int (nI n0), .int f, .int rm] (fun u => u = (I, J, w_nar a n0 f rm, b)) := by
  refine Met.ofW (cc := cX3_narrow) (maxL := 4) (ret := none) (by decide) rfl ?_
  intro p e s m args below meth c s₁ B hml hv
  obtain ⟨hargs, hsz, G⟩ := gx_begin hv
  subst hsz
  have hx := B.exec
  have hb := B.bytes
  have hr := B.returns
  have hts := atoms_spec (ws := wsX3_narrow) B.pre
  have hown : s.vm.findClass RX3 = some m.cls := findClass_of_methodNamed B.named
  have hlocks := B.notSynchronized
  have hinX1 : ∀ w ∈ wsX10, w ∈ wsX3_narrow := by decide +kernel
  have hinX3 : ∀ w ∈ wsX30, w ∈ wsX3_narrow := by decide +kernel
  have lk9 := hts (.fieldLink RX3 9 "ExactSimplex$WholeSearch" "point" "[I") (by decide +kernel)
  have lk15 := hts (.fieldLink RX3 15 "ExactSimplex$WholeSearch" "ends" "[I") (by decide +kernel)
  have lk32 := hts (.fieldLink RX3 32 "ExactSimplex$WholeSearch" "problem" "LExactSimplex$Problem;") (by decide +kernel)
  have lk74 := hts (.fieldLink RX3 74 "ExactSimplex$Problem" "lows" "[I") (by decide +kernel)
  have hl := lv_entry ([.ref (ad 3), .int (nI n0), .int f, .int rm]) (n := 4) (Nat.le_of_ble_eq_true rfl)
  have hent := lg_entry_eq m ([.ref (ad 3), .int (nI n0), .int f, .int rm]) 4
  rw [← hargs] at hent
  rw [hent]
  clear hent
  generalize (lg_sl ([.ref (ad 3), .int (nI n0), .int f, .int rm]) ++ List.replicate (4 - (lg_sl ([.ref (ad 3), .int (nI n0), .int f, .int rm])).length) Slot.unset).toArray = ls at hl ⊢
  have hl : lv_has ls 4 [(0, .ref (ad 3)), (1, .int (nI n0)), (2, .int f), (3, .int rm)] := hl
  generalize hA : gA ad s.heap.size = A at G ⊢
  generalize hH : s.heap = H at G ⊢
  refine gx_q (fun Q hQ => ?_)
  refine lv_iload_n hx hb dX3_narrow_0 rfl (lv_at hl 2 rfl) ?_
  refine lv_if_le (tgt := 27) hx hb dX3_narrow_1 (by decide) (fun c1 => ?_) (fun c1 => ?_)
  · skip
    refine lv_iload_n hx hb dX3_narrow_27 rfl (lv_at hl 2 rfl) ?_
    refine lv_if_ge (tgt := 58) hx hb dX3_narrow_28 (by decide) (fun c28 => ?_) (fun c28 => ?_)
    · skip
      refine lv_iload_n hx hb dX3_narrow_58 rfl (lv_at hl 3 rfl) ?_
      refine lv_if_ge (tgt := 79) hx hb dX3_narrow_59 (by decide) (fun c59 => ?_) (fun c59 => ?_)
      · skip
        exact gx_vr hx hb hr hlocks G hQ (by first | rfl | (simp only [w_nar, c1, c28, c59, reduceIte]; done) | (simp [w_nar, c1, c28, c59, reduceIte]; done)) dX3_narrow_79
      · skip
        refine lv_aload_n hx hb dX3_narrow_62 rfl (lv_at hl 0 rfl) ?_
        refine gx_get hx hb hts hinX3 hown G 3 (by decide) rfl rfl 2 (by decide) rfl lk15 rfl (v := .ref (ad 22)) rfl dX3_narrow_63 ?_
        refine lv_iload_n hx hb dX3_narrow_66 rfl (lv_at hl 1 rfl) ?_
        refine lv_aload_n hx hb dX3_narrow_67 rfl (lv_at hl 0 rfl) ?_
        refine gx_get hx hb hts hinX3 hown G 3 (by decide) rfl rfl 0 (by decide) rfl lk32 rfl (v := .ref (ad 1)) rfl dX3_narrow_68 ?_
        refine gx_get hx hb hts hinX1 hown G 1 (by decide) rfl rfl 0 (by decide) rfl lk74 rfl (v := .ref (ad 6)) rfl dX3_narrow_71 ?_
        refine lv_iload_n hx hb dX3_narrow_74 rfl (lv_at hl 1 rfl) ?_
        refine gx_iald hx hb G 6 (by decide) (rfl) (by decide) n0 rfl (by omega) dX3_narrow_75 ?_
        refine lv_iconst (v := 1) hx hb dX3_narrow_76 (by decide) ?_
        refine lv_isub hx hb dX3_narrow_77 ?_
        refine gx_iast hx hb G 22 (by decide) (rfl) (by decide) n0 rfl (by omega) dX3_narrow_78 (fun H locs G => ?_)
        exact gx_vr hx hb hr hlocks G hQ (by first | rfl | (simp only [w_nar, c1, c28, c59, reduceIte]; done) | (simp [w_nar, c1, c28, c59, reduceIte]; done)) dX3_narrow_79
    · skip
      refine lv_aload_n hx hb dX3_narrow_31 rfl (lv_at hl 0 rfl) ?_
      refine gx_get hx hb hts hinX3 hown G 3 (by decide) rfl rfl 1 (by decide) rfl lk9 rfl (v := .ref (ad 21)) rfl dX3_narrow_32 ?_
      refine lv_iload_n hx hb dX3_narrow_35 rfl (lv_at hl 1 rfl) ?_
      refine lv_aload_n hx hb dX3_narrow_36 rfl (lv_at hl 0 rfl) ?_
      refine gx_get hx hb hts hinX3 hown G 3 (by decide) rfl rfl 1 (by decide) rfl lk9 rfl (v := .ref (ad 21)) rfl dX3_narrow_37 ?_
      refine lv_iload_n hx hb dX3_narrow_40 rfl (lv_at hl 1 rfl) ?_
      refine gx_iald hx hb G 21 (by decide) (rfl) (by decide) n0 rfl (by omega) dX3_narrow_41 ?_
      refine lv_iload_n hx hb dX3_narrow_42 rfl (lv_at hl 3 rfl) ?_
      refine lv_iload_n hx hb dX3_narrow_43 rfl (lv_at hl 2 rfl) ?_
      refine lv_ineg hx hb dX3_narrow_44 ?_
      refine gx_dSi (v := (f_div rm (-f))) (I1 := I) (J1 := J) (a1 := a) (b1 := b) (As := [.int rm, .int (-f)]) (rest := [.int (a 21 n0), .int (nI n0), .ref (ad 21)]) ⟨hx, hb, hml, hown, hts⟩ G (kJ9_floorDiv_7cf53 l D ad cy I J a b H.size rm (-f) (gx_ne_neg c28)) (va_cwS 2 hts gX3_narrow_J9_floorDiv_7cf53 rfl rfl rfl (by decide +kernel) ⟨Nat.le_of_ble_eq_true rfl, Nat.le_of_ble_eq_true rfl⟩) rfl hl.1 rfl (Nat.le_of_ble_eq_true rfl) ⟨Nat.zero_le _, Nat.zero_le _⟩ dX3_narrow_45 (fun H locs G => ?_)
      refine lv_ineg hx hb dX3_narrow_48 ?_
      refine lv_iconst (v := 1) hx hb dX3_narrow_49 (by decide) ?_
      refine lv_isub hx hb dX3_narrow_50 ?_
      refine va_mmax hx hb (hml.trans hl.1.symm) hown (hts (.methodLink RX3 85 Lib.Math.max.name) (by decide +kernel)) (hts (.static Lib.Math.max.name) (by decide +kernel)) (hts (.initialized "java/lang/Math") (by decide +kernel)) (hts (.code Lib.Math.max.name Lib.Math.max.code 2 (some .int)) (by decide +kernel)) (Nat.le_of_ble_eq_true rfl) (Nat.le_of_ble_eq_true rfl) (Nat.zero_le _) (Nat.zero_le _) dX3_narrow_51 ?_
      refine gx_iast hx hb G 21 (by decide) (rfl) (by decide) n0 rfl (by omega) dX3_narrow_54 (fun H locs G => ?_)
      refine lv_goto (tgt := 79) hx hb dX3_narrow_55 (by decide) ?_
      exact gx_vr hx hb hr hlocks G hQ (by first | rfl | (simp only [w_nar, c1, c28, reduceIte]; done) | (simp [w_nar, c1, c28, reduceIte]; done)) dX3_narrow_79
  · skip
    refine lv_aload_n hx hb dX3_narrow_4 rfl (lv_at hl 0 rfl) ?_
    refine gx_get hx hb hts hinX3 hown G 3 (by decide) rfl rfl 2 (by decide) rfl lk15 rfl (v := .ref (ad 22)) rfl dX3_narrow_5 ?_
    refine lv_iload_n hx hb dX3_narrow_8 rfl (lv_at hl 1 rfl) ?_
    refine lv_aload_n hx hb dX3_narrow_9 rfl (lv_at hl 0 rfl) ?_
    refine gx_get hx hb hts hinX3 hown G 3 (by decide) rfl rfl 2 (by decide) rfl lk15 rfl (v := .ref (ad 22)) rfl dX3_narrow_10 ?_
    refine lv_iload_n hx hb dX3_narrow_13 rfl (lv_at hl 1 rfl) ?_
    refine gx_iald hx hb G 22 (by decide) (rfl) (by decide) n0 rfl (by omega) dX3_narrow_14 ?_
    refine lv_iload_n hx hb dX3_narrow_15 rfl (lv_at hl 3 rfl) ?_
    refine lv_iload_n hx hb dX3_narrow_16 rfl (lv_at hl 2 rfl) ?_
    refine gx_dSi (v := (f_div rm f)) (I1 := I) (J1 := J) (a1 := a) (b1 := b) (As := [.int rm, .int f]) (rest := [.int (a 22 n0), .int (nI n0), .ref (ad 22)]) ⟨hx, hb, hml, hown, hts⟩ G (kJ9_floorDiv_7cf53 l D ad cy I J a b H.size rm f (gx_ne_le c1)) (va_cwS 2 hts gX3_narrow_J9_floorDiv_7cf53 rfl rfl rfl (by decide +kernel) ⟨Nat.le_of_ble_eq_true rfl, Nat.le_of_ble_eq_true rfl⟩) rfl hl.1 rfl (Nat.le_of_ble_eq_true rfl) ⟨Nat.zero_le _, Nat.zero_le _⟩ dX3_narrow_17 (fun H locs G => ?_)
    refine va_mmin hx hb (hml.trans hl.1.symm) hown (hts (.methodLink RX3 80 Lib.Math.min.name) (by decide +kernel)) (hts (.static Lib.Math.min.name) (by decide +kernel)) (hts (.initialized "java/lang/Math") (by decide +kernel)) (hts (.code Lib.Math.min.name Lib.Math.min.code 2 (some .int)) (by decide +kernel)) (Nat.le_of_ble_eq_true rfl) (Nat.le_of_ble_eq_true rfl) (Nat.zero_le _) (Nat.zero_le _) dX3_narrow_20 ?_
    refine gx_iast hx hb G 22 (by decide) (rfl) (by decide) n0 rfl (by omega) dX3_narrow_23 (fun H locs G => ?_)
    refine lv_goto (tgt := 79) hx hb dX3_narrow_24 (by decide) ?_
    exact gx_vr hx hb hr hlocks G hQ (by first | rfl | (simp only [w_nar, c1, reduceIte]; done) | (simp [w_nar, c1, reduceIte]; done)) dX3_narrow_79

set_option maxHeartbeats 4000000 in
set_option maxRecDepth 100000 in
theorem kX3_keepCheapest (l : Launch) (D : va_G) (ad : Nat → Nat) (cy : Nat → ClassId) (I : gF) (J : gL) (a : gF) (b : gL) (sz : Nat) (n0 : Nat) (hn0 : n0 < 5) : gMv l yX3_keepCheapest wsX3_keepCheapest ({ frames := 1, cells := 0, slots := 0, locals := 40 }) D ad cy I J a b sz [.ref (ad 3), .int (nI n0)] (fun u => u = (I, J, w_kc a n0, b)) := by
  refine Met.ofW (cc := cX3_keepCheapest) (maxL := 2) (ret := none) (by decide) rfl ?_
  intro p e s m args below meth c s₁ B hml hv
  obtain ⟨hargs, hsz, G⟩ := gx_begin hv
  subst hsz
  have hx := B.exec
  have hb := B.bytes
  have hr := B.returns
  have hts := atoms_spec (ws := wsX3_keepCheapest) B.pre
  have hown : s.vm.findClass RX3 = some m.cls := findClass_of_methodNamed B.named
  have hlocks := B.notSynchronized
  have hinX1 : ∀ w ∈ wsX10, w ∈ wsX3_keepCheapest := by decide +kernel
  have hinX3 : ∀ w ∈ wsX30, w ∈ wsX3_keepCheapest := by decide +kernel
  have lk9 := hts (.fieldLink RX3 9 "ExactSimplex$WholeSearch" "point" "[I") (by decide +kernel)
  have lk15 := hts (.fieldLink RX3 15 "ExactSimplex$WholeSearch" "ends" "[I") (by decide +kernel)
  have lk32 := hts (.fieldLink RX3 32 "ExactSimplex$WholeSearch" "problem" "LExactSimplex$Problem;") (by decide +kernel)
  have lk88 := hts (.fieldLink RX3 88 "ExactSimplex$Problem" "costs" "[I") (by decide +kernel)
  have hl := lv_entry ([.ref (ad 3), .int (nI n0)]) (n := 2) (Nat.le_of_ble_eq_true rfl)
  have hent := lg_entry_eq m ([.ref (ad 3), .int (nI n0)]) 2
  rw [← hargs] at hent
  rw [hent]
  clear hent
  generalize (lg_sl ([.ref (ad 3), .int (nI n0)]) ++ List.replicate (2 - (lg_sl ([.ref (ad 3), .int (nI n0)])).length) Slot.unset).toArray = ls at hl ⊢
  have hl : lv_has ls 2 [(0, .ref (ad 3)), (1, .int (nI n0))] := hl
  generalize hA : gA ad s.heap.size = A at G ⊢
  generalize hH : s.heap = H at G ⊢
  refine gx_q (fun Q hQ => ?_)
  refine lv_aload_n hx hb dX3_keepCheapest_0 rfl (lv_at hl 0 rfl) ?_
  refine gx_get hx hb hts hinX3 hown G 3 (by decide) rfl rfl 0 (by decide) rfl lk32 rfl (v := .ref (ad 1)) rfl dX3_keepCheapest_1 ?_
  refine gx_get hx hb hts hinX1 hown G 1 (by decide) rfl rfl 2 (by decide) rfl lk88 rfl (v := .ref (ad 8)) rfl dX3_keepCheapest_4 ?_
  refine lv_iload_n hx hb dX3_keepCheapest_7 rfl (lv_at hl 1 rfl) ?_
  refine gx_iald hx hb G 8 (by decide) (rfl) (by decide) n0 rfl (by omega) dX3_keepCheapest_8 ?_
  refine lv_if_ge (tgt := 38) hx hb dX3_keepCheapest_9 (by decide) (fun c9 => ?_) (fun c9 => ?_)
  · skip
    refine lv_aload_n hx hb dX3_keepCheapest_38 rfl (lv_at hl 0 rfl) ?_
    refine gx_get hx hb hts hinX3 hown G 3 (by decide) rfl rfl 2 (by decide) rfl lk15 rfl (v := .ref (ad 22)) rfl dX3_keepCheapest_39 ?_
    refine lv_iload_n hx hb dX3_keepCheapest_42 rfl (lv_at hl 1 rfl) ?_
    refine lv_aload_n hx hb dX3_keepCheapest_43 rfl (lv_at hl 0 rfl) ?_
    refine gx_get hx hb hts hinX3 hown G 3 (by decide) rfl rfl 2 (by decide) rfl lk15 rfl (v := .ref (ad 22)) rfl dX3_keepCheapest_44 ?_
    refine lv_iload_n hx hb dX3_keepCheapest_47 rfl (lv_at hl 1 rfl) ?_
    refine gx_iald hx hb G 22 (by decide) (rfl) (by decide) n0 rfl (by omega) dX3_keepCheapest_48 ?_
    refine lv_aload_n hx hb dX3_keepCheapest_49 rfl (lv_at hl 0 rfl) ?_
    refine gx_get hx hb hts hinX3 hown G 3 (by decide) rfl rfl 1 (by decide) rfl lk9 rfl (v := .ref (ad 21)) rfl dX3_keepCheapest_50 ?_
    refine lv_iload_n hx hb dX3_keepCheapest_53 rfl (lv_at hl 1 rfl) ?_
    refine gx_iald hx hb G 21 (by decide) (rfl) (by decide) n0 rfl (by omega) dX3_keepCheapest_54 ?_
    refine lv_iconst (v := 1) hx hb dX3_keepCheapest_55 (by decide) ?_
    refine lv_iadd hx hb dX3_keepCheapest_56 ?_
    refine va_mmin hx hb (hml.trans hl.1.symm) hown (hts (.methodLink RX3 80 Lib.Math.min.name) (by decide +kernel)) (hts (.static Lib.Math.min.name) (by decide +kernel)) (hts (.initialized "java/lang/Math") (by decide +kernel)) (hts (.code Lib.Math.min.name Lib.Math.min.code 2 (some .int)) (by decide +kernel)) (Nat.le_of_ble_eq_true rfl) (Nat.le_of_ble_eq_true rfl) (Nat.zero_le _) (Nat.zero_le _) dX3_keepCheapest_57 ?_
    refine gx_iast hx hb G 22 (by decide) (rfl) (by decide) n0 rfl (by omega) dX3_keepCheapest_60 (fun H locs G => ?_)
    exact gx_vr hx hb hr hlocks G hQ (by first | rfl | (simp only [w_kc, c9, reduceIte]; done) | (simp [w_kc, c9, reduceIte]; done)) dX3_keepCheapest_61
  · skip
    refine lv_aload_n hx hb dX3_keepCheapest_12 rfl (lv_at hl 0 rfl) ?_
    refine gx_get hx hb hts hinX3 hown G 3 (by decide) rfl rfl 1 (by decide) rfl lk9 rfl (v := .ref (ad 21)) rfl dX3_keepCheapest_13 ?_
    refine lv_iload_n hx hb dX3_keepCheapest_16 rfl (lv_at hl 1 rfl) ?_
    refine lv_aload_n hx hb dX3_keepCheapest_17 rfl (lv_at hl 0 rfl) ?_
    refine gx_get hx hb hts hinX3 hown G 3 (by decide) rfl rfl 1 (by decide) rfl lk9 rfl (v := .ref (ad 21)) rfl dX3_keepCheapest_18 ?_
    refine lv_iload_n hx hb dX3_keepCheapest_21 rfl (lv_at hl 1 rfl) ?_
    refine gx_iald hx hb G 21 (by decide) (rfl) (by decide) n0 rfl (by omega) dX3_keepCheapest_22 ?_
    refine lv_aload_n hx hb dX3_keepCheapest_23 rfl (lv_at hl 0 rfl) ?_
    refine gx_get hx hb hts hinX3 hown G 3 (by decide) rfl rfl 2 (by decide) rfl lk15 rfl (v := .ref (ad 22)) rfl dX3_keepCheapest_24 ?_
    refine lv_iload_n hx hb dX3_keepCheapest_27 rfl (lv_at hl 1 rfl) ?_
    refine gx_iald hx hb G 22 (by decide) (rfl) (by decide) n0 rfl (by omega) dX3_keepCheapest_28 ?_
    refine lv_iconst (v := 1) hx hb dX3_keepCheapest_29 (by decide) ?_
    refine lv_isub hx hb dX3_keepCheapest_30 ?_
    refine va_mmax hx hb (hml.trans hl.1.symm) hown (hts (.methodLink RX3 85 Lib.Math.max.name) (by decide +kernel)) (hts (.static Lib.Math.max.name) (by decide +kernel)) (hts (.initialized "java/lang/Math") (by decide +kernel)) (hts (.code Lib.Math.max.name Lib.Math.max.code 2 (some .int)) (by decide +kernel)) (Nat.le_of_ble_eq_true rfl) (Nat.le_of_ble_eq_true rfl) (Nat.zero_le _) (Nat.zero_le _) dX3_keepCheapest_31 ?_
    refine gx_iast hx hb G 21 (by decide) (rfl) (by decide) n0 rfl (by omega) dX3_keepCheapest_34 (fun H locs G => ?_)
    refine lv_goto (tgt := 61) hx hb dX3_keepCheapest_35 (by decide) ?_
    exact gx_vr hx hb hr hlocks G hQ (by first | rfl | (simp only [w_kc, c9, reduceIte]; done) | (simp [w_kc, c9, reduceIte]; done)) dX3_keepCheapest_61

set_option maxHeartbeats 4000000 in
set_option maxRecDepth 100000 in
theorem kX3_narrowByRow (l : Launch) (D : va_G) (ad : Nat → Nat) (cy : Nat → ClassId) (I : gF) (J : gL) (a : gF) (b : gL) (sz : Nat) (n0 r0 : Nat) (hn0 : n0 < 5) (hr8 : r0 < 8) : gMv l yX3_narrowByRow wsX3_narrowByRow ({ frames := 2, cells := 0, slots := 0, locals := 63 }) D ad cy I J a b sz [.ref (ad 3), .int (nI n0), .int (nI r0)] (fun u => u = (I, J, w_nbr a n0 r0, b)) := by
  refine Met.ofW (cc := cX3_narrowByRow) (maxL := 5) (ret := none) (by decide) rfl ?_
  intro p e s m args below meth c s₁ B hml hv
  obtain ⟨hargs, hsz, G⟩ := gx_begin hv
  subst hsz
  have hx := B.exec
  have hb := B.bytes
  have hr := B.returns
  have hts := atoms_spec (ws := wsX3_narrowByRow) B.pre
  have hown : s.vm.findClass RX3 = some m.cls := findClass_of_methodNamed B.named
  have hlocks := B.notSynchronized
  have hinX1 : ∀ w ∈ wsX10, w ∈ wsX3_narrowByRow := by decide +kernel
  have hinX3 : ∀ w ∈ wsX30, w ∈ wsX3_narrowByRow := by decide +kernel
  have lk23 := hts (.fieldLink RX3 23 "ExactSimplex$WholeSearch" "sums" "[[I") (by decide +kernel)
  have lk26 := hts (.fieldLink RX3 26 "ExactSimplex$WholeSearch" "leastMore" "[[I") (by decide +kernel)
  have lk29 := hts (.fieldLink RX3 29 "ExactSimplex$WholeSearch" "mostMore" "[[I") (by decide +kernel)
  have lk32 := hts (.fieldLink RX3 32 "ExactSimplex$WholeSearch" "problem" "LExactSimplex$Problem;") (by decide +kernel)
  have lk91 := hts (.fieldLink RX3 91 "ExactSimplex$Problem" "factors" "[[I") (by decide +kernel)
  have lk111 := hts (.fieldLink RX3 111 "ExactSimplex$Problem" "rights" "[I") (by decide +kernel)
  have hl := lv_entry ([.ref (ad 3), .int (nI n0), .int (nI r0)]) (n := 5) (Nat.le_of_ble_eq_true rfl)
  have hent := lg_entry_eq m ([.ref (ad 3), .int (nI n0), .int (nI r0)]) 5
  rw [← hargs] at hent
  rw [hent]
  clear hent
  generalize (lg_sl ([.ref (ad 3), .int (nI n0), .int (nI r0)]) ++ List.replicate (5 - (lg_sl ([.ref (ad 3), .int (nI n0), .int (nI r0)])).length) Slot.unset).toArray = ls at hl ⊢
  have hl : lv_has ls 5 [(0, .ref (ad 3)), (1, .int (nI n0)), (2, .int (nI r0))] := hl
  generalize hA : gA ad s.heap.size = A at G ⊢
  generalize hH : s.heap = H at G ⊢
  refine gx_q (fun Q hQ => ?_)
  refine lv_aload_n hx hb dX3_narrowByRow_0 rfl (lv_at hl 0 rfl) ?_
  refine gx_get hx hb hts hinX3 hown G 3 (by decide) rfl rfl 0 (by decide) rfl lk32 rfl (v := .ref (ad 1)) rfl dX3_narrowByRow_1 ?_
  refine gx_get hx hb hts hinX1 hown G 1 (by decide) rfl rfl 5 (by decide) rfl lk91 rfl (v := .ref (ad 11)) rfl dX3_narrowByRow_4 ?_
  refine lv_iload_n hx hb dX3_narrowByRow_7 rfl (lv_at hl 2 rfl) ?_
  refine gx_aald hx hb G 11 (by decide) rfl (Or.inl rfl) (by decide) r0 rfl (by omega) dX3_narrowByRow_8 ?_
  refine lv_iload_n hx hb dX3_narrowByRow_9 rfl (lv_at hl 1 rfl) ?_
  refine gx_iald hx hb G (40 + r0) (by omega) (gsh_F _ (by omega)) (by decide) n0 rfl (by omega) dX3_narrowByRow_10 ?_
  refine lv_istore_n (lv' := [(3, .int (a (40 + r0) n0)), (0, .ref (ad 3)), (1, .int (nI n0)), (2, .int (nI r0))]) hx hb dX3_narrowByRow_11 rfl hl (by decide) rfl (fun ls hl => ?_)
  refine lv_aload_n hx hb dX3_narrowByRow_12 rfl (lv_at hl 1 rfl) ?_
  refine gx_get hx hb hts hinX3 hown G 3 (by decide) rfl rfl 0 (by decide) rfl lk32 rfl (v := .ref (ad 1)) rfl dX3_narrowByRow_13 ?_
  refine gx_get hx hb hts hinX1 hown G 1 (by decide) rfl rfl 4 (by decide) rfl lk111 rfl (v := .ref (ad 10)) rfl dX3_narrowByRow_16 ?_
  refine lv_iload_n hx hb dX3_narrowByRow_19 rfl (lv_at hl 3 rfl) ?_
  refine gx_iald hx hb G 10 (by decide) (rfl) (by decide) r0 rfl (by omega) dX3_narrowByRow_20 ?_
  refine lv_aload_n hx hb dX3_narrowByRow_21 rfl (lv_at hl 1 rfl) ?_
  refine gx_get hx hb hts hinX3 hown G 3 (by decide) rfl rfl 4 (by decide) rfl lk23 rfl (v := .ref (ad 24)) rfl dX3_narrowByRow_22 ?_
  refine lv_iload_n hx hb dX3_narrowByRow_25 rfl (lv_at hl 2 rfl) ?_
  refine gx_aald hx hb G 24 (by decide) rfl (Or.inl rfl) (by decide) n0 rfl (by omega) dX3_narrowByRow_26 ?_
  refine lv_iload_n hx hb dX3_narrowByRow_27 rfl (lv_at hl 3 rfl) ?_
  refine gx_iald hx hb G (69 + n0) (by omega) (gsh_W _ (by omega)) (by decide) r0 rfl (by omega) dX3_narrowByRow_28 ?_
  refine lv_isub hx hb dX3_narrowByRow_29 ?_
  refine lv_istore (lv' := [(4, .int ((a 10 r0) - (a (69 + n0) r0))), (3, .int (a (40 + r0) n0)), (0, .ref (ad 3)), (1, .int (nI n0)), (2, .int (nI r0))]) hx hb dX3_narrowByRow_30 hl (by decide) rfl (fun ls hl => ?_)
  refine lv_aload_n hx hb dX3_narrowByRow_32 rfl (lv_at hl 2 rfl) ?_
  refine gx_get hx hb hts hinX3 hown G 3 (by decide) rfl rfl 0 (by decide) rfl lk32 rfl (v := .ref (ad 1)) rfl dX3_narrowByRow_33 ?_
  refine lv_iload_n hx hb dX3_narrowByRow_36 rfl (lv_at hl 4 rfl) ?_
  refine gx_dVi (v := (p_above a r0)) (I1 := I) (J1 := J) (a1 := a) (b1 := b) (As := [.int (nI r0)]) (rest := []) ⟨hx, hb, hml, hown, hts⟩ G 1 (kX1_limitsFromAbove l D ad cy I J a b H.size r0 hr8) (cwV 1 hts gX3_narrowByRow_X1_limitsFromAbove rfl rfl rfl (by decide +kernel) ⟨Nat.le_of_ble_eq_true rfl, Nat.le_of_ble_eq_true rfl⟩) (by decide) rfl rfl rfl rfl hl.1 rfl (Nat.le_of_ble_eq_true rfl) ⟨Nat.zero_le _, Nat.zero_le _⟩ dX3_narrowByRow_37 (fun H locs G => ?_)
  refine lv_if_eq (tgt := 62) hx hb dX3_narrowByRow_40 (by decide) (fun c40 => ?_) (fun c40 => ?_)
  · skip
    refine lv_aload_n hx hb dX3_narrowByRow_62 rfl (lv_at hl 2 rfl) ?_
    refine gx_get hx hb hts hinX3 hown G 3 (by decide) rfl rfl 0 (by decide) rfl lk32 rfl (v := .ref (ad 1)) rfl dX3_narrowByRow_63 ?_
    refine lv_iload_n hx hb dX3_narrowByRow_66 rfl (lv_at hl 4 rfl) ?_
    refine gx_dVi (v := (p_below a r0)) (I1 := I) (J1 := J) (a1 := a) (b1 := b) (As := [.int (nI r0)]) (rest := []) ⟨hx, hb, hml, hown, hts⟩ G 1 (kX1_limitsFromBelow l D ad cy I J a b H.size r0 hr8) (cwV 1 hts gX3_narrowByRow_X1_limitsFromBelow rfl rfl rfl (by decide +kernel) ⟨Nat.le_of_ble_eq_true rfl, Nat.le_of_ble_eq_true rfl⟩) (by decide) rfl rfl rfl rfl hl.1 rfl (Nat.le_of_ble_eq_true rfl) ⟨Nat.zero_le _, Nat.zero_le _⟩ dX3_narrowByRow_67 (fun H locs G => ?_)
    refine lv_if_eq (tgt := 93) hx hb dX3_narrowByRow_70 (by decide) (fun c70 => ?_) (fun c70 => ?_)
    · skip
      exact gx_vr hx hb hr hlocks G hQ (by first | rfl | (simp only [w_nbr, w_nb1, c40, c70, reduceIte]; done) | (simp [w_nbr, w_nb1, c40, c70, reduceIte]; done)) dX3_narrowByRow_93
    · skip
      refine lv_aload_n hx hb dX3_narrowByRow_73 rfl (lv_at hl 2 rfl) ?_
      refine lv_iload_n hx hb dX3_narrowByRow_74 rfl (lv_at hl 3 rfl) ?_
      refine lv_iload_n hx hb dX3_narrowByRow_75 rfl (lv_at hl 1 rfl) ?_
      refine lv_ineg hx hb dX3_narrowByRow_76 ?_
      refine lv_aload_n hx hb dX3_narrowByRow_77 rfl (lv_at hl 2 rfl) ?_
      refine gx_get hx hb hts hinX3 hown G 3 (by decide) rfl rfl 6 (by decide) rfl lk29 rfl (v := .ref (ad 26)) rfl dX3_narrowByRow_78 ?_
      refine lv_iload_n hx hb dX3_narrowByRow_81 rfl (lv_at hl 3 rfl) ?_
      refine lv_iconst (v := 1) hx hb dX3_narrowByRow_82 (by decide) ?_
      refine lv_iadd hx hb dX3_narrowByRow_83 ?_
      refine gx_aald hx hb G 26 (by decide) rfl (Or.inl rfl) (by decide) (n0 + 1) (gn_add rfl rfl) (by omega) dX3_narrowByRow_84 ?_
      refine lv_iload_n hx hb dX3_narrowByRow_85 rfl (lv_at hl 4 rfl) ?_
      refine gx_iald hx hb G (81 + (n0 + 1)) (by omega) (gsh_W3 _ (by omega)) (by decide) r0 rfl (by omega) dX3_narrowByRow_86 ?_
      refine lv_iload hx hb dX3_narrowByRow_87 (lv_at hl 0 rfl) ?_
      refine lv_isub hx hb dX3_narrowByRow_89 ?_
      refine gx_dVv (I1 := I) (J1 := J) (a1 := (w_nar a n0 (-a (40 + r0) n0) (a (81 + (n0 + 1)) r0 - (a 10 r0 - a (69 + n0) r0)))) (b1 := b) (As := [.int (nI n0), .int (-(a (40 + r0) n0)), .int ((a (81 + (n0 + 1)) r0) - ((a 10 r0) - (a (69 + n0) r0)))]) (rest := []) ⟨hx, hb, hml, hown, hts⟩ G 3 (kX3_narrow l D ad cy I J a b H.size n0 (-a (40 + r0) n0) (a (81 + (n0 + 1)) r0 - (a 10 r0 - a (69 + n0) r0)) hn0) (cwV 3 hts gX3_narrowByRow_X3_narrow rfl rfl rfl (by decide +kernel) ⟨Nat.le_of_ble_eq_true rfl, Nat.le_of_ble_eq_true rfl⟩) (by decide) rfl rfl rfl rfl hl.1 rfl (Nat.le_of_ble_eq_true rfl) ⟨Nat.zero_le _, Nat.zero_le _⟩ dX3_narrowByRow_90 (fun H locs G => ?_)
      exact gx_vr hx hb hr hlocks G hQ (by first | rfl | (simp only [w_nbr, w_nb1, c40, c70, reduceIte]; done) | (simp [w_nbr, w_nb1, c40, c70, reduceIte]; done)) dX3_narrowByRow_93
  · skip
    refine lv_aload_n hx hb dX3_narrowByRow_43 rfl (lv_at hl 2 rfl) ?_
    refine lv_iload_n hx hb dX3_narrowByRow_44 rfl (lv_at hl 3 rfl) ?_
    refine lv_iload_n hx hb dX3_narrowByRow_45 rfl (lv_at hl 1 rfl) ?_
    refine lv_iload hx hb dX3_narrowByRow_46 (lv_at hl 0 rfl) ?_
    refine lv_aload_n hx hb dX3_narrowByRow_48 rfl (lv_at hl 2 rfl) ?_
    refine gx_get hx hb hts hinX3 hown G 3 (by decide) rfl rfl 5 (by decide) rfl lk26 rfl (v := .ref (ad 25)) rfl dX3_narrowByRow_49 ?_
    refine lv_iload_n hx hb dX3_narrowByRow_52 rfl (lv_at hl 3 rfl) ?_
    refine lv_iconst (v := 1) hx hb dX3_narrowByRow_53 (by decide) ?_
    refine lv_iadd hx hb dX3_narrowByRow_54 ?_
    refine gx_aald hx hb G 25 (by decide) rfl (Or.inl rfl) (by decide) (n0 + 1) (gn_add rfl rfl) (by omega) dX3_narrowByRow_55 ?_
    refine lv_iload_n hx hb dX3_narrowByRow_56 rfl (lv_at hl 4 rfl) ?_
    refine gx_iald hx hb G (75 + (n0 + 1)) (by omega) (gsh_W2 _ (by omega)) (by decide) r0 rfl (by omega) dX3_narrowByRow_57 ?_
    refine lv_isub hx hb dX3_narrowByRow_58 ?_
    refine gx_dVv (I1 := I) (J1 := J) (a1 := (w_nar a n0 (a (40 + r0) n0) (a 10 r0 - a (69 + n0) r0 - a (75 + (n0 + 1)) r0))) (b1 := b) (As := [.int (nI n0), .int (a (40 + r0) n0), .int (((a 10 r0) - (a (69 + n0) r0)) - (a (75 + (n0 + 1)) r0))]) (rest := []) ⟨hx, hb, hml, hown, hts⟩ G 3 (kX3_narrow l D ad cy I J a b H.size n0 (a (40 + r0) n0) (a 10 r0 - a (69 + n0) r0 - a (75 + (n0 + 1)) r0) hn0) (cwV 3 hts gX3_narrowByRow_X3_narrow rfl rfl rfl (by decide +kernel) ⟨Nat.le_of_ble_eq_true rfl, Nat.le_of_ble_eq_true rfl⟩) (by decide) rfl rfl rfl rfl hl.1 rfl (Nat.le_of_ble_eq_true rfl) ⟨Nat.zero_le _, Nat.zero_le _⟩ dX3_narrowByRow_59 (fun H locs G => ?_)
    refine lv_aload_n hx hb dX3_narrowByRow_62 rfl (lv_at hl 2 rfl) ?_
    refine gx_get hx hb hts hinX3 hown G 3 (by decide) rfl rfl 0 (by decide) rfl lk32 rfl (v := .ref (ad 1)) rfl dX3_narrowByRow_63 ?_
    refine lv_iload_n hx hb dX3_narrowByRow_66 rfl (lv_at hl 4 rfl) ?_
    refine gx_dVi (v := (p_below (w_nar a n0 (a (40 + r0) n0) (a 10 r0 - a (69 + n0) r0 - a (75 + (n0 + 1)) r0)) r0)) (I1 := I) (J1 := J) (a1 := (w_nar a n0 (a (40 + r0) n0) (a 10 r0 - a (69 + n0) r0 - a (75 + (n0 + 1)) r0))) (b1 := b) (As := [.int (nI r0)]) (rest := []) ⟨hx, hb, hml, hown, hts⟩ G 1 (kX1_limitsFromBelow l D ad cy I J (w_nar a n0 (a (40 + r0) n0) (a 10 r0 - a (69 + n0) r0 - a (75 + (n0 + 1)) r0)) b H.size r0 hr8) (cwV 1 hts gX3_narrowByRow_X1_limitsFromBelow rfl rfl rfl (by decide +kernel) ⟨Nat.le_of_ble_eq_true rfl, Nat.le_of_ble_eq_true rfl⟩) (by decide) rfl rfl rfl rfl hl.1 rfl (Nat.le_of_ble_eq_true rfl) ⟨Nat.zero_le _, Nat.zero_le _⟩ dX3_narrowByRow_67 (fun H locs G => ?_)
    refine lv_if_eq (tgt := 93) hx hb dX3_narrowByRow_70 (by decide) (fun c70 => ?_) (fun c70 => ?_)
    · skip
      exact gx_vr hx hb hr hlocks G hQ (by first | rfl | (simp only [w_nbr, w_nb1, c40, c70, reduceIte]; done) | (simp [w_nbr, w_nb1, c40, c70, reduceIte]; done)) dX3_narrowByRow_93
    · skip
      refine lv_aload_n hx hb dX3_narrowByRow_73 rfl (lv_at hl 2 rfl) ?_
      refine lv_iload_n hx hb dX3_narrowByRow_74 rfl (lv_at hl 3 rfl) ?_
      refine lv_iload_n hx hb dX3_narrowByRow_75 rfl (lv_at hl 1 rfl) ?_
      refine lv_ineg hx hb dX3_narrowByRow_76 ?_
      refine lv_aload_n hx hb dX3_narrowByRow_77 rfl (lv_at hl 2 rfl) ?_
      refine gx_get hx hb hts hinX3 hown G 3 (by decide) rfl rfl 6 (by decide) rfl lk29 rfl (v := .ref (ad 26)) rfl dX3_narrowByRow_78 ?_
      refine lv_iload_n hx hb dX3_narrowByRow_81 rfl (lv_at hl 3 rfl) ?_
      refine lv_iconst (v := 1) hx hb dX3_narrowByRow_82 (by decide) ?_
      refine lv_iadd hx hb dX3_narrowByRow_83 ?_
      refine gx_aald hx hb G 26 (by decide) rfl (Or.inl rfl) (by decide) (n0 + 1) (gn_add rfl rfl) (by omega) dX3_narrowByRow_84 ?_
      refine lv_iload_n hx hb dX3_narrowByRow_85 rfl (lv_at hl 4 rfl) ?_
      refine gx_iald hx hb G (81 + (n0 + 1)) (by omega) (gsh_W3 _ (by omega)) (by decide) r0 rfl (by omega) dX3_narrowByRow_86 ?_
      refine lv_iload hx hb dX3_narrowByRow_87 (lv_at hl 0 rfl) ?_
      refine lv_isub hx hb dX3_narrowByRow_89 ?_
      refine gx_dVv (I1 := I) (J1 := J) (a1 := (w_nar (w_nar a n0 (a (40 + r0) n0) (a 10 r0 - a (69 + n0) r0 - a (75 + (n0 + 1)) r0)) n0 (-a (40 + r0) n0) ((w_nar a n0 (a (40 + r0) n0) (a 10 r0 - a (69 + n0) r0 - a (75 + (n0 + 1)) r0)) (81 + (n0 + 1)) r0 - (a 10 r0 - a (69 + n0) r0)))) (b1 := b) (As := [.int (nI n0), .int (-(a (40 + r0) n0)), .int (((w_nar a n0 (a (40 + r0) n0) (a 10 r0 - a (69 + n0) r0 - a (75 + (n0 + 1)) r0)) (81 + (n0 + 1)) r0) - ((a 10 r0) - (a (69 + n0) r0)))]) (rest := []) ⟨hx, hb, hml, hown, hts⟩ G 3 (kX3_narrow l D ad cy I J (w_nar a n0 (a (40 + r0) n0) (a 10 r0 - a (69 + n0) r0 - a (75 + (n0 + 1)) r0)) b H.size n0 (-a (40 + r0) n0) ((w_nar a n0 (a (40 + r0) n0) (a 10 r0 - a (69 + n0) r0 - a (75 + (n0 + 1)) r0)) (81 + (n0 + 1)) r0 - (a 10 r0 - a (69 + n0) r0)) hn0) (cwV 3 hts gX3_narrowByRow_X3_narrow rfl rfl rfl (by decide +kernel) ⟨Nat.le_of_ble_eq_true rfl, Nat.le_of_ble_eq_true rfl⟩) (by decide) rfl rfl rfl rfl hl.1 rfl (Nat.le_of_ble_eq_true rfl) ⟨Nat.zero_le _, Nat.zero_le _⟩ dX3_narrowByRow_90 (fun H locs G => ?_)
      exact gx_vr hx hb hr hlocks G hQ (by first | rfl | (simp only [w_nbr, w_nb1, c40, c70, reduceIte]; done) | (simp [w_nbr, w_nb1, c40, c70, reduceIte]; done)) dX3_narrowByRow_93

set_option maxHeartbeats 4000000 in
set_option maxRecDepth 100000 in
theorem kX3_addUp (l : Launch) (D : va_G) (ad : Nat → Nat) (cy : Nat → ClassId) (I : gF) (J : gL) (a : gF) (b : gL) (sz : Nat) (n0 nr : Nat) (hn0 : n0 < 5) (hnr : I 1 8 = nI nr) (hnr2 : nr ≤ 8) : gMv l yX3_addUp wsX3_addUp ({ frames := 0, cells := 0, slots := 0, locals := 0 }) D ad cy I J a b sz [.ref (ad 3), .int (nI n0)] (fun u => u = (I, J, w_add a n0 nr, b)) := by
  refine Met.ofW (cc := cX3_addUp) (maxL := 3) (ret := none) (by decide) rfl ?_
  intro p e s m args below meth c s₁ B hml hv
  obtain ⟨hargs, hsz, G⟩ := gx_begin hv
  subst hsz
  have hx := B.exec
  have hb := B.bytes
  have hr := B.returns
  have hts := atoms_spec (ws := wsX3_addUp) B.pre
  have hown : s.vm.findClass RX3 = some m.cls := findClass_of_methodNamed B.named
  have hlocks := B.notSynchronized
  have hinX1 : ∀ w ∈ wsX10, w ∈ wsX3_addUp := by decide +kernel
  have hinX3 : ∀ w ∈ wsX30, w ∈ wsX3_addUp := by decide +kernel
  have lk9 := hts (.fieldLink RX3 9 "ExactSimplex$WholeSearch" "point" "[I") (by decide +kernel)
  have lk23 := hts (.fieldLink RX3 23 "ExactSimplex$WholeSearch" "sums" "[[I") (by decide +kernel)
  have lk32 := hts (.fieldLink RX3 32 "ExactSimplex$WholeSearch" "problem" "LExactSimplex$Problem;") (by decide +kernel)
  have lk88 := hts (.fieldLink RX3 88 "ExactSimplex$Problem" "costs" "[I") (by decide +kernel)
  have lk91 := hts (.fieldLink RX3 91 "ExactSimplex$Problem" "factors" "[[I") (by decide +kernel)
  have lk94 := hts (.fieldLink RX3 94 "ExactSimplex$Problem" "rows" "I") (by decide +kernel)
  have hl := lv_entry ([.ref (ad 3), .int (nI n0)]) (n := 3) (Nat.le_of_ble_eq_true rfl)
  have hent := lg_entry_eq m ([.ref (ad 3), .int (nI n0)]) 3
  rw [← hargs] at hent
  rw [hent]
  clear hent
  generalize (lg_sl ([.ref (ad 3), .int (nI n0)]) ++ List.replicate (3 - (lg_sl ([.ref (ad 3), .int (nI n0)])).length) Slot.unset).toArray = ls at hl ⊢
  have hl : lv_has ls 3 [(0, .ref (ad 3)), (1, .int (nI n0))] := hl
  generalize hA : gA ad s.heap.size = A at G ⊢
  generalize hH : s.heap = H at G ⊢
  refine gx_q (fun Q hQ => ?_)
  refine lv_iconst (v := 0) hx hb dX3_addUp_0 (by decide) ?_
  refine lv_istore_n (lv' := [(2, .int 0), (0, .ref (ad 3)), (1, .int (nI n0))]) hx hb dX3_addUp_1 rfl hl (by decide) rfl (fun ls hl => ?_)
  have K2 : ∀ (nf : Nat) (r : Nat) (H : Heap) (locs : List Loc) (ls : Array Slot), (r ≤ nr) → nr - r < nf → GG D ad cy A s I J (w_au a n0 r) b H locs → lv_has ls 3 [(0, .ref (ad 3)), (1, .int (nI n0)), (2, .int (nI r))] → W p l e ({ frames := 0, cells := 0, slots := 0, locals := 0 }) s m args below meth c H locs 0 0 Q (F0 m 2 ls []) := by
    intro nf
    induction nf with
    | zero => exact fun _ _ _ _ _ hz => absurd hz (Nat.not_lt_zero _)
    | succ nf ih =>
      intro r H locs ls h1 hmeas G hl
      have ih2 := ih
      clear ih
      refine lv_iload_n hx hb dX3_addUp_2 rfl (lv_at hl 2 rfl) ?_
      refine lv_aload_n hx hb dX3_addUp_3 rfl (lv_at hl 0 rfl) ?_
      refine gx_get hx hb hts hinX3 hown G 3 (by decide) rfl rfl 0 (by decide) rfl lk32 rfl (v := .ref (ad 1)) rfl dX3_addUp_4 ?_
      refine gx_get hx hb hts hinX1 hown G 1 (by decide) rfl rfl 8 (by decide) rfl lk94 rfl (v := .int (I 1 8)) rfl dX3_addUp_7 ?_
      refine lv_icmp_ge (tgt := 56) hx hb dX3_addUp_10 (by decide) (fun c10 => ?_) (fun c10 => ?_)
      · skip
        have n10 := gn_le (X := nr) (Y := r) hnr rfl (by omega) (by omega) c10
        refine lv_aload_n hx hb dX3_addUp_56 rfl (lv_at hl 0 rfl) ?_
        refine gx_get hx hb hts hinX3 hown G 3 (by decide) rfl rfl 4 (by decide) rfl lk23 rfl (v := .ref (ad 24)) rfl dX3_addUp_57 ?_
        refine lv_iload_n hx hb dX3_addUp_60 rfl (lv_at hl 1 rfl) ?_
        refine lv_iconst (v := 1) hx hb dX3_addUp_61 (by decide) ?_
        refine lv_iadd hx hb dX3_addUp_62 ?_
        refine gx_aald hx hb G 24 (by decide) rfl (Or.inl rfl) (by decide) (n0 + 1) (gn_add rfl rfl) (by omega) dX3_addUp_63 ?_
        refine lv_bipush (v := 8) hx hb dX3_addUp_64 (by decide) ?_
        refine lv_aload_n hx hb dX3_addUp_66 rfl (lv_at hl 0 rfl) ?_
        refine gx_get hx hb hts hinX3 hown G 3 (by decide) rfl rfl 4 (by decide) rfl lk23 rfl (v := .ref (ad 24)) rfl dX3_addUp_67 ?_
        refine lv_iload_n hx hb dX3_addUp_70 rfl (lv_at hl 1 rfl) ?_
        refine gx_aald hx hb G 24 (by decide) rfl (Or.inl rfl) (by decide) n0 rfl (by omega) dX3_addUp_71 ?_
        refine lv_bipush (v := 8) hx hb dX3_addUp_72 (by decide) ?_
        refine gx_iald hx hb G (69 + n0) (by omega) (gsh_W _ (by omega)) (by decide) 8 rfl (by omega) dX3_addUp_74 ?_
        refine lv_aload_n hx hb dX3_addUp_75 rfl (lv_at hl 0 rfl) ?_
        refine gx_get hx hb hts hinX3 hown G 3 (by decide) rfl rfl 0 (by decide) rfl lk32 rfl (v := .ref (ad 1)) rfl dX3_addUp_76 ?_
        refine gx_get hx hb hts hinX1 hown G 1 (by decide) rfl rfl 2 (by decide) rfl lk88 rfl (v := .ref (ad 8)) rfl dX3_addUp_79 ?_
        refine lv_iload_n hx hb dX3_addUp_82 rfl (lv_at hl 1 rfl) ?_
        refine gx_iald hx hb G 8 (by decide) (rfl) (by decide) n0 rfl (by omega) dX3_addUp_83 ?_
        refine lv_aload_n hx hb dX3_addUp_84 rfl (lv_at hl 0 rfl) ?_
        refine gx_get hx hb hts hinX3 hown G 3 (by decide) rfl rfl 1 (by decide) rfl lk9 rfl (v := .ref (ad 21)) rfl dX3_addUp_85 ?_
        refine lv_iload_n hx hb dX3_addUp_88 rfl (lv_at hl 1 rfl) ?_
        refine gx_iald hx hb G 21 (by decide) (rfl) (by decide) n0 rfl (by omega) dX3_addUp_89 ?_
        refine lv_imul hx hb dX3_addUp_90 ?_
        refine lv_iadd hx hb dX3_addUp_91 ?_
        refine gx_iast hx hb G (69 + (n0 + 1)) (by omega) (gsh_W _ (by omega)) (by decide) 8 rfl (by omega) dX3_addUp_92 (fun H locs G => ?_)
        exact gx_vr hx hb hr hlocks G hQ (by rw [show r = nr by omega]; rfl) dX3_addUp_93
      · skip
        have n10 := gn_nle (X := nr) (Y := r) hnr rfl (by omega) (by omega) c10
        refine lv_aload_n hx hb dX3_addUp_13 rfl (lv_at hl 0 rfl) ?_
        refine gx_get hx hb hts hinX3 hown G 3 (by decide) rfl rfl 4 (by decide) rfl lk23 rfl (v := .ref (ad 24)) rfl dX3_addUp_14 ?_
        refine lv_iload_n hx hb dX3_addUp_17 rfl (lv_at hl 1 rfl) ?_
        refine lv_iconst (v := 1) hx hb dX3_addUp_18 (by decide) ?_
        refine lv_iadd hx hb dX3_addUp_19 ?_
        refine gx_aald hx hb G 24 (by decide) rfl (Or.inl rfl) (by decide) (n0 + 1) (gn_add rfl rfl) (by omega) dX3_addUp_20 ?_
        refine lv_iload_n hx hb dX3_addUp_21 rfl (lv_at hl 2 rfl) ?_
        refine lv_aload_n hx hb dX3_addUp_22 rfl (lv_at hl 0 rfl) ?_
        refine gx_get hx hb hts hinX3 hown G 3 (by decide) rfl rfl 4 (by decide) rfl lk23 rfl (v := .ref (ad 24)) rfl dX3_addUp_23 ?_
        refine lv_iload_n hx hb dX3_addUp_26 rfl (lv_at hl 1 rfl) ?_
        refine gx_aald hx hb G 24 (by decide) rfl (Or.inl rfl) (by decide) n0 rfl (by omega) dX3_addUp_27 ?_
        refine lv_iload_n hx hb dX3_addUp_28 rfl (lv_at hl 2 rfl) ?_
        refine gx_iald hx hb G (69 + n0) (by omega) (gsh_W _ (by omega)) (by decide) r rfl (by omega) dX3_addUp_29 ?_
        refine lv_aload_n hx hb dX3_addUp_30 rfl (lv_at hl 0 rfl) ?_
        refine gx_get hx hb hts hinX3 hown G 3 (by decide) rfl rfl 0 (by decide) rfl lk32 rfl (v := .ref (ad 1)) rfl dX3_addUp_31 ?_
        refine gx_get hx hb hts hinX1 hown G 1 (by decide) rfl rfl 5 (by decide) rfl lk91 rfl (v := .ref (ad 11)) rfl dX3_addUp_34 ?_
        refine lv_iload_n hx hb dX3_addUp_37 rfl (lv_at hl 2 rfl) ?_
        refine gx_aald hx hb G 11 (by decide) rfl (Or.inl rfl) (by decide) r rfl (by omega) dX3_addUp_38 ?_
        refine lv_iload_n hx hb dX3_addUp_39 rfl (lv_at hl 1 rfl) ?_
        refine gx_iald hx hb G (40 + r) (by omega) (gsh_F _ (by omega)) (by decide) n0 rfl (by omega) dX3_addUp_40 ?_
        refine lv_aload_n hx hb dX3_addUp_41 rfl (lv_at hl 0 rfl) ?_
        refine gx_get hx hb hts hinX3 hown G 3 (by decide) rfl rfl 1 (by decide) rfl lk9 rfl (v := .ref (ad 21)) rfl dX3_addUp_42 ?_
        refine lv_iload_n hx hb dX3_addUp_45 rfl (lv_at hl 1 rfl) ?_
        refine gx_iald hx hb G 21 (by decide) (rfl) (by decide) n0 rfl (by omega) dX3_addUp_46 ?_
        refine lv_imul hx hb dX3_addUp_47 ?_
        refine lv_iadd hx hb dX3_addUp_48 ?_
        refine gx_iast hx hb G (69 + (n0 + 1)) (by omega) (gsh_W _ (by omega)) (by decide) r rfl (by omega) dX3_addUp_49 (fun H locs G => ?_)
        refine lv_iinc (v := (nI (r + 1))) (lv' := [(2, .int (nI (r + 1))), (0, .ref (ad 3)), (1, .int (nI n0))]) hx hb dX3_addUp_50 hl (k := 2) rfl (gn_add (X := r) (Y := 1) rfl rfl) (by decide) rfl (fun ls hl => ?_)
        refine lv_goto (tgt := 2) hx hb dX3_addUp_53 (by decide) ?_
        exact ih2  (r + 1) _ _ _ (by omega) (by omega) (gg_eq G rfl rfl (by first | rfl | (simp only [w_au, c10, reduceIte]; done) | (simp [w_au, c10, reduceIte]; done)) rfl) (lv_sub hl [1, 2, 0] rfl)
  exact K2 (nr - 0 + 1) 0 _ _ _ (by omega) (Nat.lt_succ_self _) (gg_eq G rfl rfl (by first | rfl | (simp only [w_au, reduceIte]; done) | (simp [w_au, reduceIte]; done)) rfl) (lv_sub hl [1, 2, 0] rfl)

set_option maxHeartbeats 4000000 in
set_option maxRecDepth 100000 in
theorem kX3_weighOthers (l : Launch) (D : va_G) (ad : Nat → Nat) (cy : Nat → ClassId) (I : gF) (J : gL) (a : gF) (b : gL) (sz : Nat) (nn : Nat) (hnn : I 1 7 = nI nn) (hnn2 : nn ≤ 5) : gMv l yX3_weighOthers wsX3_weighOthers ({ frames := 1, cells := 0, slots := 0, locals := 40 }) D ad cy I J a b sz [.ref (ad 3)] (fun u => u = (I, J, w_wo a nn 9, b)) := by
  refine Met.ofW (cc := cX3_weighOthers) (maxL := 6) (ret := none) (by decide) rfl ?_
  intro p e s m args below meth c s₁ B hml hv
  obtain ⟨hargs, hsz, G⟩ := gx_begin hv
  subst hsz
  have hx := B.exec
  have hb := B.bytes
  have hr := B.returns
  have hts := atoms_spec (ws := wsX3_weighOthers) B.pre
  have hown : s.vm.findClass RX3 = some m.cls := findClass_of_methodNamed B.named
  have hlocks := B.notSynchronized
  have hinX1 : ∀ w ∈ wsX10, w ∈ wsX3_weighOthers := by decide +kernel
  have hinX3 : ∀ w ∈ wsX30, w ∈ wsX3_weighOthers := by decide +kernel
  have lk23 := hts (.fieldLink RX3 23 "ExactSimplex$WholeSearch" "sums" "[[I") (by decide +kernel)
  have lk26 := hts (.fieldLink RX3 26 "ExactSimplex$WholeSearch" "leastMore" "[[I") (by decide +kernel)
  have lk29 := hts (.fieldLink RX3 29 "ExactSimplex$WholeSearch" "mostMore" "[[I") (by decide +kernel)
  have lk32 := hts (.fieldLink RX3 32 "ExactSimplex$WholeSearch" "problem" "LExactSimplex$Problem;") (by decide +kernel)
  have lk51 := hts (.fieldLink RX3 51 "ExactSimplex$Problem" "names" "I") (by decide +kernel)
  have lk74 := hts (.fieldLink RX3 74 "ExactSimplex$Problem" "lows" "[I") (by decide +kernel)
  have lk77 := hts (.fieldLink RX3 77 "ExactSimplex$Problem" "highs" "[I") (by decide +kernel)
  have hl := lv_entry ([.ref (ad 3)]) (n := 6) (Nat.le_of_ble_eq_true rfl)
  have hent := lg_entry_eq m ([.ref (ad 3)]) 6
  rw [← hargs] at hent
  rw [hent]
  clear hent
  generalize (lg_sl ([.ref (ad 3)]) ++ List.replicate (6 - (lg_sl ([.ref (ad 3)])).length) Slot.unset).toArray = ls at hl ⊢
  have hl : lv_has ls 6 [(0, .ref (ad 3))] := hl
  generalize hA : gA ad s.heap.size = A at G ⊢
  generalize hH : s.heap = H at G ⊢
  refine gx_q (fun Q hQ => ?_)
  refine lv_aload_n hx hb dX3_weighOthers_0 rfl (lv_at hl 0 rfl) ?_
  refine gx_get hx hb hts hinX3 hown G 3 (by decide) rfl rfl 0 (by decide) rfl lk32 rfl (v := .ref (ad 1)) rfl dX3_weighOthers_1 ?_
  refine gx_get hx hb hts hinX1 hown G 1 (by decide) rfl rfl 7 (by decide) rfl lk51 rfl (v := .int (I 1 7)) rfl dX3_weighOthers_4 ?_
  refine lv_istore_n (lv' := [(1, .int (I 1 7)), (0, .ref (ad 3))]) hx hb dX3_weighOthers_7 rfl hl (by decide) rfl (fun ls hl => ?_)
  refine lv_iconst (v := 0) hx hb dX3_weighOthers_8 (by decide) ?_
  refine lv_istore_n (lv' := [(2, .int 0), (1, .int (I 1 7)), (0, .ref (ad 3))]) hx hb dX3_weighOthers_9 rfl hl (by decide) rfl (fun ls hl => ?_)
  have K10 : ∀ (nf : Nat) (r : Nat) (H : Heap) (locs : List Loc) (ls : Array Slot), (r ≤ 9) → 9 - r < nf → GG D ad cy A s I J (w_wo a nn r) b H locs → lv_has ls 6 [(0, .ref (ad 3)), (1, .int (I 1 7)), (2, .int (nI r))] → W p l e ({ frames := 1, cells := 0, slots := 0, locals := 40 }) s m args below meth c H locs 0 0 Q (F0 m 10 ls []) := by
    intro nf
    induction nf with
    | zero => exact fun _ _ _ _ _ hz => absurd hz (Nat.not_lt_zero _)
    | succ nf ih =>
      intro r H locs ls h1 hmeas G hl
      have ih10 := ih
      clear ih
      refine lv_iload_n hx hb dX3_weighOthers_10 rfl (lv_at hl 2 rfl) ?_
      refine lv_bipush (v := 9) hx hb dX3_weighOthers_11 (by decide) ?_
      refine lv_icmp_ge (tgt := 151) hx hb dX3_weighOthers_13 (by decide) (fun c13 => ?_) (fun c13 => ?_)
      · skip
        have n13 := gn_le (X := 9) (Y := r) rfl rfl (by omega) (by omega) c13
        exact gx_vr hx hb hr hlocks G hQ (by rw [show r = 9 by omega]) dX3_weighOthers_151
      · skip
        have n13 := gn_nle (X := 9) (Y := r) rfl rfl (by omega) (by omega) c13
        refine lv_aload_n hx hb dX3_weighOthers_16 rfl (lv_at hl 0 rfl) ?_
        refine gx_get hx hb hts hinX3 hown G 3 (by decide) rfl rfl 4 (by decide) rfl lk23 rfl (v := .ref (ad 24)) rfl dX3_weighOthers_17 ?_
        refine lv_iconst (v := 0) hx hb dX3_weighOthers_20 (by decide) ?_
        refine gx_aald hx hb G 24 (by decide) rfl (Or.inl rfl) (by decide) 0 rfl (by omega) dX3_weighOthers_21 ?_
        refine lv_iload_n hx hb dX3_weighOthers_22 rfl (lv_at hl 2 rfl) ?_
        refine lv_iconst (v := 0) hx hb dX3_weighOthers_23 (by decide) ?_
        refine gx_iast hx hb G (69 + 0) (by omega) (gsh_W _ (by omega)) (by decide) r rfl (by omega) dX3_weighOthers_24 (fun H locs G => ?_)
        refine lv_aload_n hx hb dX3_weighOthers_25 rfl (lv_at hl 0 rfl) ?_
        refine gx_get hx hb hts hinX3 hown G 3 (by decide) rfl rfl 5 (by decide) rfl lk26 rfl (v := .ref (ad 25)) rfl dX3_weighOthers_26 ?_
        refine lv_iload_n hx hb dX3_weighOthers_29 rfl (lv_at hl 1 rfl) ?_
        refine gx_aald hx hb G 25 (by decide) rfl (Or.inl rfl) (by decide) nn hnn (by omega) dX3_weighOthers_30 ?_
        refine lv_iload_n hx hb dX3_weighOthers_31 rfl (lv_at hl 2 rfl) ?_
        refine lv_iconst (v := 0) hx hb dX3_weighOthers_32 (by decide) ?_
        refine gx_iast hx hb G (75 + nn) (by omega) (gsh_W2 _ (by omega)) (by decide) r rfl (by omega) dX3_weighOthers_33 (fun H locs G => ?_)
        refine lv_aload_n hx hb dX3_weighOthers_34 rfl (lv_at hl 0 rfl) ?_
        refine gx_get hx hb hts hinX3 hown G 3 (by decide) rfl rfl 6 (by decide) rfl lk29 rfl (v := .ref (ad 26)) rfl dX3_weighOthers_35 ?_
        refine lv_iload_n hx hb dX3_weighOthers_38 rfl (lv_at hl 1 rfl) ?_
        refine gx_aald hx hb G 26 (by decide) rfl (Or.inl rfl) (by decide) nn hnn (by omega) dX3_weighOthers_39 ?_
        refine lv_iload_n hx hb dX3_weighOthers_40 rfl (lv_at hl 2 rfl) ?_
        refine lv_iconst (v := 0) hx hb dX3_weighOthers_41 (by decide) ?_
        refine gx_iast hx hb G (81 + nn) (by omega) (gsh_W3 _ (by omega)) (by decide) r rfl (by omega) dX3_weighOthers_42 (fun H locs G => ?_)
        refine lv_iload_n hx hb dX3_weighOthers_43 rfl (lv_at hl 1 rfl) ?_
        refine lv_iconst (v := 1) hx hb dX3_weighOthers_44 (by decide) ?_
        refine lv_isub hx hb dX3_weighOthers_45 ?_
        refine lv_istore_n (lv' := [(3, .int ((I 1 7) - 1)), (0, .ref (ad 3)), (1, .int (I 1 7)), (2, .int (nI r))]) hx hb dX3_weighOthers_46 rfl hl (by decide) rfl (fun ls hl => ?_)
        have K47 : ∀ (nf : Nat) (k : Nat) (H : Heap) (locs : List Loc) (ls : Array Slot), (k ≤ nn) → k < nf → GG D ad cy A s I J (w_in (w_wo0 (w_wo a nn r) nn r) r nn (nn - k)) b H locs → lv_has ls 6 [(0, .ref (ad 3)), (1, .int (I 1 7)), (2, .int (nI r)), (3, .int (nI k - 1))] → W p l e ({ frames := 1, cells := 0, slots := 0, locals := 40 }) s m args below meth c H locs 0 0 Q (F0 m 47 ls []) := by
          intro nf
          induction nf with
          | zero => exact fun _ _ _ _ _ hz => absurd hz (Nat.not_lt_zero _)
          | succ nf ih =>
            intro k H locs ls h2 hmeas G hl
            have ih47 := ih
            clear ih
            refine lv_iload_n hx hb dX3_weighOthers_47 rfl (lv_at hl 3 rfl) ?_
            refine lv_if_lt (tgt := 145) hx hb dX3_weighOthers_48 (by decide) (fun c48 => ?_) (fun c48 => ?_)
            · skip
              have hk0 : k = 0 := by
                rcases Nat.eq_zero_or_pos k with h0 | h0
                · exact h0
                · exact absurd c48 (by rw [show k = (k - 1) + 1 by omega, nI_pred]; exact nI_pos (by omega))
              refine lv_iinc (v := (nI (r + 1))) (lv' := [(2, .int (nI (r + 1))), (0, .ref (ad 3)), (1, .int (I 1 7)), (3, .int (nI k - 1))]) hx hb dX3_weighOthers_145 hl (k := 2) rfl (gn_add (X := r) (Y := 1) rfl rfl) (by decide) rfl (fun ls hl => ?_)
              refine lv_goto (tgt := 10) hx hb dX3_weighOthers_148 (by decide) ?_
              exact ih10  (r + 1) _ _ _ (by omega) (by omega) (gg_eq G rfl rfl (by rw [show nn - k = nn by omega]; rfl) rfl) (lv_sub hl [1, 2, 0] rfl)
            · skip
              have hk0 : 0 < k := by
                rcases Nat.eq_zero_or_pos k with h0 | h0
                · subst h0
                  exact absurd (by decide) c48
                · exact h0
              obtain ⟨k1, rfl⟩ : ∃ k1, k = k1 + 1 := ⟨k - 1, by omega⟩
              rw [nI_pred] at hl
              refine lv_aload_n hx hb dX3_weighOthers_51 rfl (lv_at hl 0 rfl) ?_
              refine lv_iload_n hx hb dX3_weighOthers_52 rfl (lv_at hl 2 rfl) ?_
              refine lv_iload_n hx hb dX3_weighOthers_53 rfl (lv_at hl 3 rfl) ?_
              refine gx_dVi (v := (w_wt (w_in (w_wo0 (w_wo a nn r) nn r) r nn (nn - (k1 + 1))) r k1)) (I1 := I) (J1 := J) (a1 := (w_in (w_wo0 (w_wo a nn r) nn r) r nn (nn - (k1 + 1)))) (b1 := b) (As := [.int (nI r), .int (nI k1)]) (rest := []) ⟨hx, hb, hml, hown, hts⟩ G 3 (kX3_weight l D ad cy I J (w_in (w_wo0 (w_wo a nn r) nn r) r nn (nn - (k1 + 1))) b H.size r k1 (by omega) (by omega)) (cwV 2 hts gX3_weighOthers_X3_weight rfl rfl rfl (by decide +kernel) ⟨Nat.le_of_ble_eq_true rfl, Nat.le_of_ble_eq_true rfl⟩) (by decide) rfl rfl rfl rfl hl.1 rfl (Nat.le_of_ble_eq_true rfl) ⟨Nat.zero_le _, Nat.zero_le _⟩ dX3_weighOthers_54 (fun H locs G => ?_)
              refine lv_aload_n hx hb dX3_weighOthers_57 rfl (lv_at hl 0 rfl) ?_
              refine gx_get hx hb hts hinX3 hown G 3 (by decide) rfl rfl 0 (by decide) rfl lk32 rfl (v := .ref (ad 1)) rfl dX3_weighOthers_58 ?_
              refine gx_get hx hb hts hinX1 hown G 1 (by decide) rfl rfl 0 (by decide) rfl lk74 rfl (v := .ref (ad 6)) rfl dX3_weighOthers_61 ?_
              refine lv_iload_n hx hb dX3_weighOthers_64 rfl (lv_at hl 3 rfl) ?_
              refine gx_iald hx hb G 6 (by decide) (rfl) (by decide) k1 rfl (by omega) dX3_weighOthers_65 ?_
              refine lv_imul hx hb dX3_weighOthers_66 ?_
              refine lv_istore (lv' := [(4, .int ((w_wt (w_in (w_wo0 (w_wo a nn r) nn r) r nn (nn - (k1 + 1))) r k1) * ((w_in (w_wo0 (w_wo a nn r) nn r) r nn (nn - (k1 + 1))) 6 k1))), (0, .ref (ad 3)), (1, .int (I 1 7)), (2, .int (nI r)), (3, .int (nI k1))]) hx hb dX3_weighOthers_67 hl (by decide) rfl (fun ls hl => ?_)
              refine lv_aload_n hx hb dX3_weighOthers_69 rfl (lv_at hl 1 rfl) ?_
              refine lv_iload_n hx hb dX3_weighOthers_70 rfl (lv_at hl 3 rfl) ?_
              refine lv_iload_n hx hb dX3_weighOthers_71 rfl (lv_at hl 4 rfl) ?_
              refine gx_dVi (v := (w_wt (w_in (w_wo0 (w_wo a nn r) nn r) r nn (nn - (k1 + 1))) r k1)) (I1 := I) (J1 := J) (a1 := (w_in (w_wo0 (w_wo a nn r) nn r) r nn (nn - (k1 + 1)))) (b1 := b) (As := [.int (nI r), .int (nI k1)]) (rest := []) ⟨hx, hb, hml, hown, hts⟩ G 3 (kX3_weight l D ad cy I J (w_in (w_wo0 (w_wo a nn r) nn r) r nn (nn - (k1 + 1))) b H.size r k1 (by omega) (by omega)) (cwV 2 hts gX3_weighOthers_X3_weight rfl rfl rfl (by decide +kernel) ⟨Nat.le_of_ble_eq_true rfl, Nat.le_of_ble_eq_true rfl⟩) (by decide) rfl rfl rfl rfl hl.1 rfl (Nat.le_of_ble_eq_true rfl) ⟨Nat.zero_le _, Nat.zero_le _⟩ dX3_weighOthers_72 (fun H locs G => ?_)
              refine lv_aload_n hx hb dX3_weighOthers_75 rfl (lv_at hl 1 rfl) ?_
              refine gx_get hx hb hts hinX3 hown G 3 (by decide) rfl rfl 0 (by decide) rfl lk32 rfl (v := .ref (ad 1)) rfl dX3_weighOthers_76 ?_
              refine gx_get hx hb hts hinX1 hown G 1 (by decide) rfl rfl 1 (by decide) rfl lk77 rfl (v := .ref (ad 7)) rfl dX3_weighOthers_79 ?_
              refine lv_iload_n hx hb dX3_weighOthers_82 rfl (lv_at hl 4 rfl) ?_
              refine gx_iald hx hb G 7 (by decide) (rfl) (by decide) k1 rfl (by omega) dX3_weighOthers_83 ?_
              refine lv_imul hx hb dX3_weighOthers_84 ?_
              refine lv_istore (lv' := [(5, .int ((w_wt (w_in (w_wo0 (w_wo a nn r) nn r) r nn (nn - (k1 + 1))) r k1) * ((w_in (w_wo0 (w_wo a nn r) nn r) r nn (nn - (k1 + 1))) 7 k1))), (4, .int ((w_wt (w_in (w_wo0 (w_wo a nn r) nn r) r nn (nn - (k1 + 1))) r k1) * ((w_in (w_wo0 (w_wo a nn r) nn r) r nn (nn - (k1 + 1))) 6 k1))), (0, .ref (ad 3)), (1, .int (I 1 7)), (2, .int (nI r)), (3, .int (nI k1))]) hx hb dX3_weighOthers_85 hl (by decide) rfl (fun ls hl => ?_)
              refine lv_aload_n hx hb dX3_weighOthers_87 rfl (lv_at hl 2 rfl) ?_
              refine gx_get hx hb hts hinX3 hown G 3 (by decide) rfl rfl 5 (by decide) rfl lk26 rfl (v := .ref (ad 25)) rfl dX3_weighOthers_88 ?_
              refine lv_iload_n hx hb dX3_weighOthers_91 rfl (lv_at hl 5 rfl) ?_
              refine gx_aald hx hb G 25 (by decide) rfl (Or.inl rfl) (by decide) k1 rfl (by omega) dX3_weighOthers_92 ?_
              refine lv_iload_n hx hb dX3_weighOthers_93 rfl (lv_at hl 4 rfl) ?_
              refine lv_aload_n hx hb dX3_weighOthers_94 rfl (lv_at hl 2 rfl) ?_
              refine gx_get hx hb hts hinX3 hown G 3 (by decide) rfl rfl 5 (by decide) rfl lk26 rfl (v := .ref (ad 25)) rfl dX3_weighOthers_95 ?_
              refine lv_iload_n hx hb dX3_weighOthers_98 rfl (lv_at hl 5 rfl) ?_
              refine lv_iconst (v := 1) hx hb dX3_weighOthers_99 (by decide) ?_
              refine lv_iadd hx hb dX3_weighOthers_100 ?_
              refine gx_aald hx hb G 25 (by decide) rfl (Or.inl rfl) (by decide) (k1 + 1) (gn_add rfl rfl) (by omega) dX3_weighOthers_101 ?_
              refine lv_iload_n hx hb dX3_weighOthers_102 rfl (lv_at hl 4 rfl) ?_
              refine gx_iald hx hb G (75 + (k1 + 1)) (by omega) (gsh_W2 _ (by omega)) (by decide) r rfl (by omega) dX3_weighOthers_103 ?_
              refine lv_iload hx hb dX3_weighOthers_104 (lv_at hl 1 rfl) ?_
              refine lv_iload hx hb dX3_weighOthers_106 (lv_at hl 0 rfl) ?_
              refine va_mmin hx hb (hml.trans hl.1.symm) hown (hts (.methodLink RX3 80 Lib.Math.min.name) (by decide +kernel)) (hts (.static Lib.Math.min.name) (by decide +kernel)) (hts (.initialized "java/lang/Math") (by decide +kernel)) (hts (.code Lib.Math.min.name Lib.Math.min.code 2 (some .int)) (by decide +kernel)) (Nat.le_of_ble_eq_true rfl) (Nat.le_of_ble_eq_true rfl) (Nat.zero_le _) (Nat.zero_le _) dX3_weighOthers_108 ?_
              refine lv_iadd hx hb dX3_weighOthers_111 ?_
              refine gx_iast hx hb G (75 + k1) (by omega) (gsh_W2 _ (by omega)) (by decide) r rfl (by omega) dX3_weighOthers_112 (fun H locs G => ?_)
              refine lv_aload_n hx hb dX3_weighOthers_113 rfl (lv_at hl 2 rfl) ?_
              refine gx_get hx hb hts hinX3 hown G 3 (by decide) rfl rfl 6 (by decide) rfl lk29 rfl (v := .ref (ad 26)) rfl dX3_weighOthers_114 ?_
              refine lv_iload_n hx hb dX3_weighOthers_117 rfl (lv_at hl 5 rfl) ?_
              refine gx_aald hx hb G 26 (by decide) rfl (Or.inl rfl) (by decide) k1 rfl (by omega) dX3_weighOthers_118 ?_
              refine lv_iload_n hx hb dX3_weighOthers_119 rfl (lv_at hl 4 rfl) ?_
              refine lv_aload_n hx hb dX3_weighOthers_120 rfl (lv_at hl 2 rfl) ?_
              refine gx_get hx hb hts hinX3 hown G 3 (by decide) rfl rfl 6 (by decide) rfl lk29 rfl (v := .ref (ad 26)) rfl dX3_weighOthers_121 ?_
              refine lv_iload_n hx hb dX3_weighOthers_124 rfl (lv_at hl 5 rfl) ?_
              refine lv_iconst (v := 1) hx hb dX3_weighOthers_125 (by decide) ?_
              refine lv_iadd hx hb dX3_weighOthers_126 ?_
              refine gx_aald hx hb G 26 (by decide) rfl (Or.inl rfl) (by decide) (k1 + 1) (gn_add rfl rfl) (by omega) dX3_weighOthers_127 ?_
              refine lv_iload_n hx hb dX3_weighOthers_128 rfl (lv_at hl 4 rfl) ?_
              refine gx_iald hx hb G (81 + (k1 + 1)) (by omega) (gsh_W3 _ (by omega)) (by decide) r rfl (by omega) dX3_weighOthers_129 ?_
              refine lv_iload hx hb dX3_weighOthers_130 (lv_at hl 1 rfl) ?_
              refine lv_iload hx hb dX3_weighOthers_132 (lv_at hl 0 rfl) ?_
              refine va_mmax hx hb (hml.trans hl.1.symm) hown (hts (.methodLink RX3 85 Lib.Math.max.name) (by decide +kernel)) (hts (.static Lib.Math.max.name) (by decide +kernel)) (hts (.initialized "java/lang/Math") (by decide +kernel)) (hts (.code Lib.Math.max.name Lib.Math.max.code 2 (some .int)) (by decide +kernel)) (Nat.le_of_ble_eq_true rfl) (Nat.le_of_ble_eq_true rfl) (Nat.zero_le _) (Nat.zero_le _) dX3_weighOthers_134 ?_
              refine lv_iadd hx hb dX3_weighOthers_137 ?_
              refine gx_iast hx hb G (81 + k1) (by omega) (gsh_W3 _ (by omega)) (by decide) r rfl (by omega) dX3_weighOthers_138 (fun H locs G => ?_)
              obtain ⟨x_1, ex_1⟩ : ∃ z : Int32, z = (nI k1) + -1 := ⟨_, rfl⟩
              refine lv_iinc (v := x_1) (lv' := [(3, .int x_1), (5, .int ((w_wt (w_in (w_wo0 (w_wo a nn r) nn r) r nn (nn - (k1 + 1))) r k1) * ((w_in (w_wo0 (w_wo a nn r) nn r) r nn (nn - (k1 + 1))) 7 k1))), (4, .int ((w_wt (w_in (w_wo0 (w_wo a nn r) nn r) r nn (nn - (k1 + 1))) r k1) * ((w_in (w_wo0 (w_wo a nn r) nn r) r nn (nn - (k1 + 1))) 6 k1))), (0, .ref (ad 3)), (1, .int (I 1 7)), (2, .int (nI r))]) hx hb dX3_weighOthers_139 hl (k := 5) rfl ex_1.symm (by decide) rfl (fun ls hl => ?_)
              refine lv_goto (tgt := 47) hx hb dX3_weighOthers_142 (by decide) ?_
              have q3 : x_1 = nI k1 - 1 := by rw [ex_1]; exact gx_m1 _
              rw [q3] at hl
              exact ih47  k1 _ _ _ (by omega) (by omega) (gg_eq G rfl rfl (by rw [w_in_s _ _ (k := k1) (by omega)]; rfl) rfl) (lv_sub hl [3, 4, 5, 0] rfl)
        have q3 : (I 1 7) - 1 = nI nn - 1 := by rw [hnn]
        rw [q3] at hl
        exact K47 (nn + 1) nn _ _ _ (by omega) (Nat.lt_succ_self _) (gg_eq G rfl rfl (by rw [Nat.sub_self]; rfl) rfl) (lv_sub hl [1, 2, 3, 0] rfl)
  exact K10 (9 - 0 + 1) 0 _ _ _ (by omega) (Nat.lt_succ_self _) (gg_eq G rfl rfl (rfl) rfl) (lv_sub hl [2, 1, 0] rfl)

set_option maxHeartbeats 4000000 in
set_option maxRecDepth 100000 in
theorem kX3_mayBeCheaper (l : Launch) (D : va_G) (ad : Nat → Nat) (cy : Nat → ClassId) (I : gF) (J : gL) (a : gF) (b : gL) (sz : Nat) (d0 : Nat) (hd : d0 < 6) : gMi l yX3_mayBeCheaper wsX3_mayBeCheaper ({ frames := 0, cells := 0, slots := 0, locals := 0 }) D ad cy I J a b sz [.ref (ad 3), .int (nI d0)] (fun r u => r = w_mbc I a d0 ∧ u = (I, J, a, b)) := by
  refine Met.ofW (cc := cX3_mayBeCheaper) (maxL := 2) (ret := some .boolean) (by decide) rfl ?_
  intro p e s m args below meth c s₁ B hml hv
  obtain ⟨hargs, hsz, G⟩ := gx_begin hv
  subst hsz
  have hx := B.exec
  have hb := B.bytes
  have hr := B.returns
  have hts := atoms_spec (ws := wsX3_mayBeCheaper) B.pre
  have hown : s.vm.findClass RX3 = some m.cls := findClass_of_methodNamed B.named
  have hlocks := B.notSynchronized
  have hinX3 : ∀ w ∈ wsX30, w ∈ wsX3_mayBeCheaper := by decide +kernel
  have lk23 := hts (.fieldLink RX3 23 "ExactSimplex$WholeSearch" "sums" "[[I") (by decide +kernel)
  have lk26 := hts (.fieldLink RX3 26 "ExactSimplex$WholeSearch" "leastMore" "[[I") (by decide +kernel)
  have lk40 := hts (.fieldLink RX3 40 "ExactSimplex$WholeSearch" "found" "Z") (by decide +kernel)
  have lk67 := hts (.fieldLink RX3 67 "ExactSimplex$WholeSearch" "bestCost" "I") (by decide +kernel)
  have hl := lv_entry ([.ref (ad 3), .int (nI d0)]) (n := 2) (Nat.le_of_ble_eq_true rfl)
  have hent := lg_entry_eq m ([.ref (ad 3), .int (nI d0)]) 2
  rw [← hargs] at hent
  rw [hent]
  clear hent
  generalize (lg_sl ([.ref (ad 3), .int (nI d0)]) ++ List.replicate (2 - (lg_sl ([.ref (ad 3), .int (nI d0)])).length) Slot.unset).toArray = ls at hl ⊢
  have hl : lv_has ls 2 [(0, .ref (ad 3)), (1, .int (nI d0))] := hl
  generalize hA : gA ad s.heap.size = A at G ⊢
  generalize hH : s.heap = H at G ⊢
  refine gx_q (fun Q hQ => ?_)
  refine lv_aload_n hx hb dX3_mayBeCheaper_0 rfl (lv_at hl 0 rfl) ?_
  refine gx_get hx hb hts hinX3 hown G 3 (by decide) rfl rfl 8 (by decide) rfl lk40 rfl (v := .int (I 3 8)) rfl dX3_mayBeCheaper_1 ?_
  refine lv_if_eq (tgt := 33) hx hb dX3_mayBeCheaper_4 (by decide) (fun c4 => ?_) (fun c4 => ?_)
  · skip
    refine lv_iconst (v := 1) hx hb dX3_mayBeCheaper_33 (by decide) ?_
    refine lv_goto (tgt := 38) hx hb dX3_mayBeCheaper_34 (by decide) ?_
    exact gx_zr hx hb hr hlocks G hQ (rfl) ⟨by first | rfl | (simp only [w_mbc, c4, reduceIte]; done) | (simp [w_mbc, c4, reduceIte]; done), rfl⟩ dX3_mayBeCheaper_38
  · skip
    refine lv_aload_n hx hb dX3_mayBeCheaper_7 rfl (lv_at hl 0 rfl) ?_
    refine gx_get hx hb hts hinX3 hown G 3 (by decide) rfl rfl 4 (by decide) rfl lk23 rfl (v := .ref (ad 24)) rfl dX3_mayBeCheaper_8 ?_
    refine lv_iload_n hx hb dX3_mayBeCheaper_11 rfl (lv_at hl 1 rfl) ?_
    refine gx_aald hx hb G 24 (by decide) rfl (Or.inl rfl) (by decide) d0 rfl (by omega) dX3_mayBeCheaper_12 ?_
    refine lv_bipush (v := 8) hx hb dX3_mayBeCheaper_13 (by decide) ?_
    refine gx_iald hx hb G (69 + d0) (by omega) (gsh_W _ (by omega)) (by decide) 8 rfl (by omega) dX3_mayBeCheaper_15 ?_
    refine lv_aload_n hx hb dX3_mayBeCheaper_16 rfl (lv_at hl 0 rfl) ?_
    refine gx_get hx hb hts hinX3 hown G 3 (by decide) rfl rfl 5 (by decide) rfl lk26 rfl (v := .ref (ad 25)) rfl dX3_mayBeCheaper_17 ?_
    refine lv_iload_n hx hb dX3_mayBeCheaper_20 rfl (lv_at hl 1 rfl) ?_
    refine gx_aald hx hb G 25 (by decide) rfl (Or.inl rfl) (by decide) d0 rfl (by omega) dX3_mayBeCheaper_21 ?_
    refine lv_bipush (v := 8) hx hb dX3_mayBeCheaper_22 (by decide) ?_
    refine gx_iald hx hb G (75 + d0) (by omega) (gsh_W2 _ (by omega)) (by decide) 8 rfl (by omega) dX3_mayBeCheaper_24 ?_
    refine lv_iadd hx hb dX3_mayBeCheaper_25 ?_
    refine lv_aload_n hx hb dX3_mayBeCheaper_26 rfl (lv_at hl 0 rfl) ?_
    refine gx_get hx hb hts hinX3 hown G 3 (by decide) rfl rfl 7 (by decide) rfl lk67 rfl (v := .int (I 3 7)) rfl dX3_mayBeCheaper_27 ?_
    refine lv_icmp_ge (tgt := 37) hx hb dX3_mayBeCheaper_30 (by decide) (fun c30 => ?_) (fun c30 => ?_)
    · skip
      refine lv_iconst (v := 0) hx hb dX3_mayBeCheaper_37 (by decide) ?_
      exact gx_zr hx hb hr hlocks G hQ (rfl) ⟨by first | rfl | (simp only [w_mbc, c4, c30, reduceIte]; done) | (simp [w_mbc, c4, c30, reduceIte]; done), rfl⟩ dX3_mayBeCheaper_38
    · skip
      refine lv_iconst (v := 1) hx hb dX3_mayBeCheaper_33 (by decide) ?_
      refine lv_goto (tgt := 38) hx hb dX3_mayBeCheaper_34 (by decide) ?_
      exact gx_zr hx hb hr hlocks G hQ (rfl) ⟨by first | rfl | (simp only [w_mbc, c4, c30, reduceIte]; done) | (simp [w_mbc, c4, c30, reduceIte]; done), rfl⟩ dX3_mayBeCheaper_38

set_option maxHeartbeats 4000000 in
set_option maxRecDepth 100000 in
theorem kX3_keepsRows (l : Launch) (D : va_G) (ad : Nat → Nat) (cy : Nat → ClassId) (I : gF) (J : gL) (a : gF) (b : gL) (sz : Nat) (nn nr : Nat) (hnn : I 1 7 = nI nn) (hnn2 : nn ≤ 5) (hnr : I 1 8 = nI nr) (hnr2 : nr ≤ 8) : gMi l yX3_keepsRows wsX3_keepsRows ({ frames := 1, cells := 0, slots := 0, locals := 21 }) D ad cy I J a b sz [.ref (ad 3)] (fun q u => q = w_kp I a nn nr 0 ∧ u = (I, J, a, b)) := by
  refine Met.ofW (cc := cX3_keepsRows) (maxL := 3) (ret := some .boolean) (by decide) rfl ?_
  intro p e s m args below meth c s₁ B hml hv
  obtain ⟨hargs, hsz, G⟩ := gx_begin hv
  subst hsz
  have hx := B.exec
  have hb := B.bytes
  have hr := B.returns
  have hts := atoms_spec (ws := wsX3_keepsRows) B.pre
  have hown : s.vm.findClass RX3 = some m.cls := findClass_of_methodNamed B.named
  have hlocks := B.notSynchronized
  have hinX1 : ∀ w ∈ wsX10, w ∈ wsX3_keepsRows := by decide +kernel
  have hinX3 : ∀ w ∈ wsX30, w ∈ wsX3_keepsRows := by decide +kernel
  have lk23 := hts (.fieldLink RX3 23 "ExactSimplex$WholeSearch" "sums" "[[I") (by decide +kernel)
  have lk32 := hts (.fieldLink RX3 32 "ExactSimplex$WholeSearch" "problem" "LExactSimplex$Problem;") (by decide +kernel)
  have lk51 := hts (.fieldLink RX3 51 "ExactSimplex$Problem" "names" "I") (by decide +kernel)
  have lk94 := hts (.fieldLink RX3 94 "ExactSimplex$Problem" "rows" "I") (by decide +kernel)
  have lk111 := hts (.fieldLink RX3 111 "ExactSimplex$Problem" "rights" "[I") (by decide +kernel)
  have hl := lv_entry ([.ref (ad 3)]) (n := 3) (Nat.le_of_ble_eq_true rfl)
  have hent := lg_entry_eq m ([.ref (ad 3)]) 3
  rw [← hargs] at hent
  rw [hent]
  clear hent
  generalize (lg_sl ([.ref (ad 3)]) ++ List.replicate (3 - (lg_sl ([.ref (ad 3)])).length) Slot.unset).toArray = ls at hl ⊢
  have hl : lv_has ls 3 [(0, .ref (ad 3))] := hl
  generalize hA : gA ad s.heap.size = A at G ⊢
  generalize hH : s.heap = H at G ⊢
  refine gx_q (fun Q hQ => ?_)
  refine lv_iconst (v := 0) hx hb dX3_keepsRows_0 (by decide) ?_
  refine lv_istore_n (lv' := [(1, .int 0), (0, .ref (ad 3))]) hx hb dX3_keepsRows_1 rfl hl (by decide) rfl (fun ls hl => ?_)
  have K2 : ∀ (nf : Nat) (r : Nat) (H : Heap) (locs : List Loc) (ls : Array Slot), (r ≤ nr) → (w_kp I a nn nr 0 = w_kp I a nn (nr - r) r) → nr - r < nf → GG D ad cy A s I J a b H locs → lv_has ls 3 [(0, .ref (ad 3)), (1, .int (nI r))] → W p l e ({ frames := 1, cells := 0, slots := 0, locals := 21 }) s m args below meth c H locs 0 0 Q (F0 m 2 ls []) := by
    intro nf
    induction nf with
    | zero => exact fun _ _ _ _ _ _ hz => absurd hz (Nat.not_lt_zero _)
    | succ nf ih =>
      intro r H locs ls h1 h2 hmeas G hl
      have ih2 := ih
      clear ih
      refine lv_iload_n hx hb dX3_keepsRows_2 rfl (lv_at hl 1 rfl) ?_
      refine lv_aload_n hx hb dX3_keepsRows_3 rfl (lv_at hl 0 rfl) ?_
      refine gx_get hx hb hts hinX3 hown G 3 (by decide) rfl rfl 0 (by decide) rfl lk32 rfl (v := .ref (ad 1)) rfl dX3_keepsRows_4 ?_
      refine gx_get hx hb hts hinX1 hown G 1 (by decide) rfl rfl 8 (by decide) rfl lk94 rfl (v := .int (I 1 8)) rfl dX3_keepsRows_7 ?_
      refine lv_icmp_ge (tgt := 87) hx hb dX3_keepsRows_10 (by decide) (fun c10 => ?_) (fun c10 => ?_)
      · skip
        have n10 := gn_le (X := nr) (Y := r) hnr rfl (by omega) (by omega) c10
        refine lv_iconst (v := 1) hx hb dX3_keepsRows_87 (by decide) ?_
        exact gx_zr hx hb hr hlocks G hQ (rfl) ⟨by rw [h2, show nr - r = 0 by omega]; rfl, rfl⟩ dX3_keepsRows_88
      · skip
        have n10 := gn_nle (X := nr) (Y := r) hnr rfl (by omega) (by omega) c10
        refine lv_aload_n hx hb dX3_keepsRows_13 rfl (lv_at hl 0 rfl) ?_
        refine gx_get hx hb hts hinX3 hown G 3 (by decide) rfl rfl 4 (by decide) rfl lk23 rfl (v := .ref (ad 24)) rfl dX3_keepsRows_14 ?_
        refine lv_aload_n hx hb dX3_keepsRows_17 rfl (lv_at hl 0 rfl) ?_
        refine gx_get hx hb hts hinX3 hown G 3 (by decide) rfl rfl 0 (by decide) rfl lk32 rfl (v := .ref (ad 1)) rfl dX3_keepsRows_18 ?_
        refine gx_get hx hb hts hinX1 hown G 1 (by decide) rfl rfl 7 (by decide) rfl lk51 rfl (v := .int (I 1 7)) rfl dX3_keepsRows_21 ?_
        refine gx_aald hx hb G 24 (by decide) rfl (Or.inl rfl) (by decide) nn hnn (by omega) dX3_keepsRows_24 ?_
        refine lv_iload_n hx hb dX3_keepsRows_25 rfl (lv_at hl 1 rfl) ?_
        refine gx_iald hx hb G (69 + nn) (by omega) (gsh_W _ (by omega)) (by decide) r rfl (by omega) dX3_keepsRows_26 ?_
        refine lv_aload_n hx hb dX3_keepsRows_27 rfl (lv_at hl 0 rfl) ?_
        refine gx_get hx hb hts hinX3 hown G 3 (by decide) rfl rfl 0 (by decide) rfl lk32 rfl (v := .ref (ad 1)) rfl dX3_keepsRows_28 ?_
        refine gx_get hx hb hts hinX1 hown G 1 (by decide) rfl rfl 4 (by decide) rfl lk111 rfl (v := .ref (ad 10)) rfl dX3_keepsRows_31 ?_
        refine lv_iload_n hx hb dX3_keepsRows_34 rfl (lv_at hl 1 rfl) ?_
        refine gx_iald hx hb G 10 (by decide) (rfl) (by decide) r rfl (by omega) dX3_keepsRows_35 ?_
        refine lv_isub hx hb dX3_keepsRows_36 ?_
        refine lv_istore_n (lv' := [(2, .int ((a (69 + nn) r) - (a 10 r))), (0, .ref (ad 3)), (1, .int (nI r))]) hx hb dX3_keepsRows_37 rfl hl (by decide) rfl (fun ls hl => ?_)
        refine lv_aload_n hx hb dX3_keepsRows_38 rfl (lv_at hl 1 rfl) ?_
        refine gx_get hx hb hts hinX3 hown G 3 (by decide) rfl rfl 0 (by decide) rfl lk32 rfl (v := .ref (ad 1)) rfl dX3_keepsRows_39 ?_
        refine lv_iload_n hx hb dX3_keepsRows_42 rfl (lv_at hl 2 rfl) ?_
        refine gx_dVi (v := (p_hasR I a (nI r))) (I1 := I) (J1 := J) (a1 := a) (b1 := b) (As := [.int (nI r)]) (rest := []) ⟨hx, hb, hml, hown, hts⟩ G 1 (kX1_hasRow l D ad cy I J a b H.size nr (nI r) hnr hnr2) (cwV 1 hts gX3_keepsRows_X1_hasRow rfl rfl rfl (by decide +kernel) ⟨Nat.le_of_ble_eq_true rfl, Nat.le_of_ble_eq_true rfl⟩) (by decide) rfl rfl rfl rfl hl.1 rfl (Nat.le_of_ble_eq_true rfl) ⟨Nat.zero_le _, Nat.zero_le _⟩ dX3_keepsRows_43 (fun H locs G => ?_)
        refine lv_if_eq (tgt := 81) hx hb dX3_keepsRows_46 (by decide) (fun c46 => ?_) (fun c46 => ?_)
        · skip
          refine lv_iinc (v := (nI (r + 1))) (lv' := [(1, .int (nI (r + 1))), (2, .int ((a (69 + nn) r) - (a 10 r))), (0, .ref (ad 3))]) hx hb dX3_keepsRows_81 hl (k := 2) rfl (gn_add (X := r) (Y := 1) rfl rfl) (by decide) rfl (fun ls hl => ?_)
          refine lv_goto (tgt := 2) hx hb dX3_keepsRows_84 (by decide) ?_
          exact ih2  (r + 1) _ _ _ (by omega) (by rw [h2, w_kp_s I a nn n10]; simp only [c10, c46, reduceIte]) (by omega) G (lv_sub hl [2, 0] rfl)
        · skip
          refine lv_iload_n hx hb dX3_keepsRows_49 rfl (lv_at hl 0 rfl) ?_
          refine lv_if_le (tgt := 64) hx hb dX3_keepsRows_50 (by decide) (fun c50 => ?_) (fun c50 => ?_)
          · skip
            refine lv_iload_n hx hb dX3_keepsRows_64 rfl (lv_at hl 0 rfl) ?_
            refine lv_if_ge (tgt := 81) hx hb dX3_keepsRows_65 (by decide) (fun c65 => ?_) (fun c65 => ?_)
            · skip
              refine lv_iinc (v := (nI (r + 1))) (lv' := [(1, .int (nI (r + 1))), (2, .int ((a (69 + nn) r) - (a 10 r))), (0, .ref (ad 3))]) hx hb dX3_keepsRows_81 hl (k := 2) rfl (gn_add (X := r) (Y := 1) rfl rfl) (by decide) rfl (fun ls hl => ?_)
              refine lv_goto (tgt := 2) hx hb dX3_keepsRows_84 (by decide) ?_
              exact ih2  (r + 1) _ _ _ (by omega) (by rw [h2, w_kp_s I a nn n10]; simp only [c10, c46, c50, c65, reduceIte]) (by omega) G (lv_sub hl [2, 0] rfl)
            · skip
              refine lv_aload_n hx hb dX3_keepsRows_68 rfl (lv_at hl 1 rfl) ?_
              refine gx_get hx hb hts hinX3 hown G 3 (by decide) rfl rfl 0 (by decide) rfl lk32 rfl (v := .ref (ad 1)) rfl dX3_keepsRows_69 ?_
              refine lv_iload_n hx hb dX3_keepsRows_72 rfl (lv_at hl 2 rfl) ?_
              refine gx_dVi (v := (p_below a r)) (I1 := I) (J1 := J) (a1 := a) (b1 := b) (As := [.int (nI r)]) (rest := []) ⟨hx, hb, hml, hown, hts⟩ G 1 (kX1_limitsFromBelow l D ad cy I J a b H.size r (by omega)) (cwV 1 hts gX3_keepsRows_X1_limitsFromBelow rfl rfl rfl (by decide +kernel) ⟨Nat.le_of_ble_eq_true rfl, Nat.le_of_ble_eq_true rfl⟩) (by decide) rfl rfl rfl rfl hl.1 rfl (Nat.le_of_ble_eq_true rfl) ⟨Nat.zero_le _, Nat.zero_le _⟩ dX3_keepsRows_73 (fun H locs G => ?_)
              refine lv_if_eq (tgt := 81) hx hb dX3_keepsRows_76 (by decide) (fun c76 => ?_) (fun c76 => ?_)
              · skip
                refine lv_iinc (v := (nI (r + 1))) (lv' := [(1, .int (nI (r + 1))), (2, .int ((a (69 + nn) r) - (a 10 r))), (0, .ref (ad 3))]) hx hb dX3_keepsRows_81 hl (k := 2) rfl (gn_add (X := r) (Y := 1) rfl rfl) (by decide) rfl (fun ls hl => ?_)
                refine lv_goto (tgt := 2) hx hb dX3_keepsRows_84 (by decide) ?_
                exact ih2  (r + 1) _ _ _ (by omega) (by rw [h2, w_kp_s I a nn n10]; simp only [c10, c46, c50, c65, c76, reduceIte]) (by omega) G (lv_sub hl [2, 0] rfl)
              · skip
                refine lv_iconst (v := 0) hx hb dX3_keepsRows_79 (by decide) ?_
                exact gx_zr hx hb hr hlocks G hQ (rfl) ⟨by rw [h2, w_kp_s I a nn n10]; simp only [c10, c46, c50, c65, c76, reduceIte], rfl⟩ dX3_keepsRows_80
          · skip
            refine lv_aload_n hx hb dX3_keepsRows_53 rfl (lv_at hl 1 rfl) ?_
            refine gx_get hx hb hts hinX3 hown G 3 (by decide) rfl rfl 0 (by decide) rfl lk32 rfl (v := .ref (ad 1)) rfl dX3_keepsRows_54 ?_
            refine lv_iload_n hx hb dX3_keepsRows_57 rfl (lv_at hl 2 rfl) ?_
            refine gx_dVi (v := (p_above a r)) (I1 := I) (J1 := J) (a1 := a) (b1 := b) (As := [.int (nI r)]) (rest := []) ⟨hx, hb, hml, hown, hts⟩ G 1 (kX1_limitsFromAbove l D ad cy I J a b H.size r (by omega)) (cwV 1 hts gX3_keepsRows_X1_limitsFromAbove rfl rfl rfl (by decide +kernel) ⟨Nat.le_of_ble_eq_true rfl, Nat.le_of_ble_eq_true rfl⟩) (by decide) rfl rfl rfl rfl hl.1 rfl (Nat.le_of_ble_eq_true rfl) ⟨Nat.zero_le _, Nat.zero_le _⟩ dX3_keepsRows_58 (fun H locs G => ?_)
            refine lv_if_ne (tgt := 79) hx hb dX3_keepsRows_61 (by decide) (fun c61 => ?_) (fun c61 => ?_)
            · skip
              refine lv_iconst (v := 0) hx hb dX3_keepsRows_79 (by decide) ?_
              exact gx_zr hx hb hr hlocks G hQ (rfl) ⟨by rw [h2, w_kp_s I a nn n10]; simp only [c10, c46, c50, c61, reduceIte], rfl⟩ dX3_keepsRows_80
            · skip
              refine lv_iload_n hx hb dX3_keepsRows_64 rfl (lv_at hl 0 rfl) ?_
              refine lv_if_ge (tgt := 81) hx hb dX3_keepsRows_65 (by decide) (fun c65 => ?_) (fun c65 => ?_)
              · skip
                refine lv_iinc (v := (nI (r + 1))) (lv' := [(1, .int (nI (r + 1))), (2, .int ((a (69 + nn) r) - (a 10 r))), (0, .ref (ad 3))]) hx hb dX3_keepsRows_81 hl (k := 2) rfl (gn_add (X := r) (Y := 1) rfl rfl) (by decide) rfl (fun ls hl => ?_)
                refine lv_goto (tgt := 2) hx hb dX3_keepsRows_84 (by decide) ?_
                exact ih2  (r + 1) _ _ _ (by omega) (by rw [h2, w_kp_s I a nn n10]; simp only [c10, c46, c50, c61, c65, reduceIte]) (by omega) G (lv_sub hl [2, 0] rfl)
              · skip
                refine lv_aload_n hx hb dX3_keepsRows_68 rfl (lv_at hl 1 rfl) ?_
                refine gx_get hx hb hts hinX3 hown G 3 (by decide) rfl rfl 0 (by decide) rfl lk32 rfl (v := .ref (ad 1)) rfl dX3_keepsRows_69 ?_
                refine lv_iload_n hx hb dX3_keepsRows_72 rfl (lv_at hl 2 rfl) ?_
                refine gx_dVi (v := (p_below a r)) (I1 := I) (J1 := J) (a1 := a) (b1 := b) (As := [.int (nI r)]) (rest := []) ⟨hx, hb, hml, hown, hts⟩ G 1 (kX1_limitsFromBelow l D ad cy I J a b H.size r (by omega)) (cwV 1 hts gX3_keepsRows_X1_limitsFromBelow rfl rfl rfl (by decide +kernel) ⟨Nat.le_of_ble_eq_true rfl, Nat.le_of_ble_eq_true rfl⟩) (by decide) rfl rfl rfl rfl hl.1 rfl (Nat.le_of_ble_eq_true rfl) ⟨Nat.zero_le _, Nat.zero_le _⟩ dX3_keepsRows_73 (fun H locs G => ?_)
                refine lv_if_eq (tgt := 81) hx hb dX3_keepsRows_76 (by decide) (fun c76 => ?_) (fun c76 => ?_)
                · skip
                  refine lv_iinc (v := (nI (r + 1))) (lv' := [(1, .int (nI (r + 1))), (2, .int ((a (69 + nn) r) - (a 10 r))), (0, .ref (ad 3))]) hx hb dX3_keepsRows_81 hl (k := 2) rfl (gn_add (X := r) (Y := 1) rfl rfl) (by decide) rfl (fun ls hl => ?_)
                  refine lv_goto (tgt := 2) hx hb dX3_keepsRows_84 (by decide) ?_
                  exact ih2  (r + 1) _ _ _ (by omega) (by rw [h2, w_kp_s I a nn n10]; simp only [c10, c46, c50, c61, c65, c76, reduceIte]) (by omega) G (lv_sub hl [2, 0] rfl)
                · skip
                  refine lv_iconst (v := 0) hx hb dX3_keepsRows_79 (by decide) ?_
                  exact gx_zr hx hb hr hlocks G hQ (rfl) ⟨by rw [h2, w_kp_s I a nn n10]; simp only [c10, c46, c50, c61, c65, c76, reduceIte], rfl⟩ dX3_keepsRows_80
  exact K2 (nr - 0 + 1) 0 _ _ _ (by omega) (rfl) (Nat.lt_succ_self _) G (lv_sub hl [1, 0] rfl)

set_option maxHeartbeats 4000000 in
set_option maxRecDepth 100000 in
theorem kX3_takePoint (l : Launch) (D : va_G) (ad : Nat → Nat) (cy : Nat → ClassId) (I : gF) (J : gL) (a : gF) (b : gL) (sz : Nat) (nn nr : Nat) (hnn : I 1 7 = nI nn) (hnn2 : nn ≤ 5) (hnr : I 1 8 = nI nr) (hnr2 : nr ≤ 8) : gMv l yX3_takePoint wsX3_takePoint ({ frames := 2, cells := 0, slots := 0, locals := 43 }) D ad cy I J a b sz [.ref (ad 3)] (fun u => u = (w_tpI I a nn nr, J, w_tpA I a nn nr, b)) := by
  refine Met.ofW (cc := cX3_takePoint) (maxL := 3) (ret := none) (by decide) rfl ?_
  intro p e s m args below meth c s₁ B hml hv
  obtain ⟨hargs, hsz, G⟩ := gx_begin hv
  subst hsz
  have hx := B.exec
  have hb := B.bytes
  have hr := B.returns
  have hts := atoms_spec (ws := wsX3_takePoint) B.pre
  have hown : s.vm.findClass RX3 = some m.cls := findClass_of_methodNamed B.named
  have hlocks := B.notSynchronized
  have hinX1 : ∀ w ∈ wsX10, w ∈ wsX3_takePoint := by decide +kernel
  have hinX3 : ∀ w ∈ wsX30, w ∈ wsX3_takePoint := by decide +kernel
  have lk9 := hts (.fieldLink RX3 9 "ExactSimplex$WholeSearch" "point" "[I") (by decide +kernel)
  have lk18 := hts (.fieldLink RX3 18 "ExactSimplex$WholeSearch" "firstBest" "[I") (by decide +kernel)
  have lk23 := hts (.fieldLink RX3 23 "ExactSimplex$WholeSearch" "sums" "[[I") (by decide +kernel)
  have lk32 := hts (.fieldLink RX3 32 "ExactSimplex$WholeSearch" "problem" "LExactSimplex$Problem;") (by decide +kernel)
  have lk40 := hts (.fieldLink RX3 40 "ExactSimplex$WholeSearch" "found" "Z") (by decide +kernel)
  have lk51 := hts (.fieldLink RX3 51 "ExactSimplex$Problem" "names" "I") (by decide +kernel)
  have lk67 := hts (.fieldLink RX3 67 "ExactSimplex$WholeSearch" "bestCost" "I") (by decide +kernel)
  have hl := lv_entry ([.ref (ad 3)]) (n := 3) (Nat.le_of_ble_eq_true rfl)
  have hent := lg_entry_eq m ([.ref (ad 3)]) 3
  rw [← hargs] at hent
  rw [hent]
  clear hent
  generalize (lg_sl ([.ref (ad 3)]) ++ List.replicate (3 - (lg_sl ([.ref (ad 3)])).length) Slot.unset).toArray = ls at hl ⊢
  have hl : lv_has ls 3 [(0, .ref (ad 3))] := hl
  generalize hA : gA ad s.heap.size = A at G ⊢
  generalize hH : s.heap = H at G ⊢
  refine gx_q (fun Q hQ => ?_)
  refine lv_aload_n hx hb dX3_takePoint_0 rfl (lv_at hl 0 rfl) ?_
  refine gx_get hx hb hts hinX3 hown G 3 (by decide) rfl rfl 0 (by decide) rfl lk32 rfl (v := .ref (ad 1)) rfl dX3_takePoint_1 ?_
  refine gx_get hx hb hts hinX1 hown G 1 (by decide) rfl rfl 7 (by decide) rfl lk51 rfl (v := .int (I 1 7)) rfl dX3_takePoint_4 ?_
  refine lv_istore_n (lv' := [(1, .int (I 1 7)), (0, .ref (ad 3))]) hx hb dX3_takePoint_7 rfl hl (by decide) rfl (fun ls hl => ?_)
  refine lv_aload_n hx hb dX3_takePoint_8 rfl (lv_at hl 1 rfl) ?_
  refine gx_dVi (v := (w_kp I a nn nr 0)) (I1 := I) (J1 := J) (a1 := a) (b1 := b) (As := []) (rest := []) ⟨hx, hb, hml, hown, hts⟩ G 3 (kX3_keepsRows l D ad cy I J a b H.size nn nr hnn hnn2 hnr hnr2) (cwV 0 hts gX3_takePoint_X3_keepsRows rfl rfl rfl (by decide +kernel) ⟨Nat.le_of_ble_eq_true rfl, Nat.le_of_ble_eq_true rfl⟩) (by decide) rfl rfl rfl rfl hl.1 rfl (Nat.le_of_ble_eq_true rfl) ⟨Nat.zero_le _, Nat.zero_le _⟩ dX3_takePoint_9 (fun H locs G => ?_)
  refine lv_if_eq (tgt := 23) hx hb dX3_takePoint_12 (by decide) (fun c12 => ?_) (fun c12 => ?_)
  · skip
    exact gx_vr hx hb hr hlocks G hQ (by simp only [w_tpI, w_tpA, c12, reduceIte]) dX3_takePoint_23
  · skip
    refine lv_aload_n hx hb dX3_takePoint_15 rfl (lv_at hl 1 rfl) ?_
    refine lv_iload_n hx hb dX3_takePoint_16 rfl (lv_at hl 0 rfl) ?_
    rw [hnn]
    refine gx_dVi (v := (w_mbc I a nn)) (I1 := I) (J1 := J) (a1 := a) (b1 := b) (As := [.int (nI nn)]) (rest := []) ⟨hx, hb, hml, hown, hts⟩ G 3 (kX3_mayBeCheaper l D ad cy I J a b H.size nn (by omega)) (cwV 1 hts gX3_takePoint_X3_mayBeCheaper rfl rfl rfl (by decide +kernel) ⟨Nat.le_of_ble_eq_true rfl, Nat.le_of_ble_eq_true rfl⟩) (by decide) rfl rfl rfl rfl hl.1 rfl (Nat.le_of_ble_eq_true rfl) ⟨Nat.zero_le _, Nat.zero_le _⟩ dX3_takePoint_17 (fun H locs G => ?_)
    refine lv_if_ne (tgt := 24) hx hb dX3_takePoint_20 (by decide) (fun c20 => ?_) (fun c20 => ?_)
    · skip
      refine lv_aload_n hx hb dX3_takePoint_24 rfl (lv_at hl 1 rfl) ?_
      refine lv_iconst (v := 1) hx hb dX3_takePoint_25 (by decide) ?_
      refine gx_putI hx hb hts hinX3 tyX3 tyX3_ok nmX3 hown G 3 (by decide) rfl rfl 8 (by decide) rfl lk40 rfl rfl (tyX3_ok 8 (by decide)) (rfl) (rfl) dX3_takePoint_26 (fun H locs G => ?_)
      refine lv_aload_n hx hb dX3_takePoint_29 rfl (lv_at hl 1 rfl) ?_
      refine lv_aload_n hx hb dX3_takePoint_30 rfl (lv_at hl 1 rfl) ?_
      refine gx_get hx hb hts hinX3 hown G 3 (by decide) rfl rfl 4 (by decide) rfl lk23 rfl (v := .ref (ad 24)) rfl dX3_takePoint_31 ?_
      refine lv_iload_n hx hb dX3_takePoint_34 rfl (lv_at hl 0 rfl) ?_
      refine gx_aald hx hb G 24 (by decide) rfl (Or.inl rfl) (by decide) nn hnn (by omega) dX3_takePoint_35 ?_
      refine lv_bipush (v := 8) hx hb dX3_takePoint_36 (by decide) ?_
      refine gx_iald hx hb G (69 + nn) (by omega) (gsh_W _ (by omega)) (by decide) 8 rfl (by omega) dX3_takePoint_38 ?_
      refine gx_putI hx hb hts hinX3 tyX3 tyX3_ok nmX3 hown G 3 (by decide) rfl rfl 7 (by decide) rfl lk67 rfl rfl (tyX3_ok 7 (by decide)) (rfl) (rfl) dX3_takePoint_39 (fun H locs G => ?_)
      refine lv_iconst (v := 0) hx hb dX3_takePoint_42 (by decide) ?_
      refine lv_istore_n (lv' := [(2, .int 0), (1, .int (I 1 7)), (0, .ref (ad 3))]) hx hb dX3_takePoint_43 rfl hl (by decide) rfl (fun ls hl => ?_)
      have K44 : ∀ (nf : Nat) (r : Nat) (H : Heap) (locs : List Loc) (ls : Array Slot), (r ≤ nn) → nn - r < nf → GG D ad cy A s (gU (gU I 3 8 1) 3 7 (a (69 + nn) 8)) J (w_cp a r) b H locs → lv_has ls 3 [(0, .ref (ad 3)), (1, .int (I 1 7)), (2, .int (nI r))] → W p l e ({ frames := 2, cells := 0, slots := 0, locals := 43 }) s m args below meth c H locs 0 0 Q (F0 m 44 ls []) := by
        intro nf
        induction nf with
        | zero => exact fun _ _ _ _ _ hz => absurd hz (Nat.not_lt_zero _)
        | succ nf ih =>
          intro r H locs ls h1 hmeas G hl
          have ih44 := ih
          clear ih
          refine lv_iload_n hx hb dX3_takePoint_44 rfl (lv_at hl 2 rfl) ?_
          refine lv_iload_n hx hb dX3_takePoint_45 rfl (lv_at hl 1 rfl) ?_
          refine lv_icmp_ge (tgt := 67) hx hb dX3_takePoint_46 (by decide) (fun c46 => ?_) (fun c46 => ?_)
          · skip
            have n46 := gn_le (X := nn) (Y := r) hnn rfl (by omega) (by omega) c46
            exact gx_vr hx hb hr hlocks G hQ (by rw [show r = nn by omega]; simp only [w_tpI, w_tpA, c12, c20, c46, reduceIte]) dX3_takePoint_67
          · skip
            have n46 := gn_nle (X := nn) (Y := r) hnn rfl (by omega) (by omega) c46
            refine lv_aload_n hx hb dX3_takePoint_49 rfl (lv_at hl 0 rfl) ?_
            refine gx_get hx hb hts hinX3 hown G 3 (by decide) rfl rfl 3 (by decide) rfl lk18 rfl (v := .ref (ad 23)) rfl dX3_takePoint_50 ?_
            refine lv_iload_n hx hb dX3_takePoint_53 rfl (lv_at hl 2 rfl) ?_
            refine lv_aload_n hx hb dX3_takePoint_54 rfl (lv_at hl 0 rfl) ?_
            refine gx_get hx hb hts hinX3 hown G 3 (by decide) rfl rfl 1 (by decide) rfl lk9 rfl (v := .ref (ad 21)) rfl dX3_takePoint_55 ?_
            refine lv_iload_n hx hb dX3_takePoint_58 rfl (lv_at hl 2 rfl) ?_
            refine gx_iald hx hb G 21 (by decide) (rfl) (by decide) r rfl (by omega) dX3_takePoint_59 ?_
            refine gx_iast hx hb G 23 (by decide) (rfl) (by decide) r rfl (by omega) dX3_takePoint_60 (fun H locs G => ?_)
            refine lv_iinc (v := (nI (r + 1))) (lv' := [(2, .int (nI (r + 1))), (0, .ref (ad 3)), (1, .int (I 1 7))]) hx hb dX3_takePoint_61 hl (k := 2) rfl (gn_add (X := r) (Y := 1) rfl rfl) (by decide) rfl (fun ls hl => ?_)
            refine lv_goto (tgt := 44) hx hb dX3_takePoint_64 (by decide) ?_
            exact ih44  (r + 1) _ _ _ (by omega) (by omega) (gg_eq G rfl rfl (by first | rfl | (simp only [w_cp, c46, reduceIte]; done) | (simp [w_cp, c46, reduceIte]; done)) rfl) (lv_sub hl [1, 2, 0] rfl)
      exact K44 (nn - 0 + 1) 0 _ _ _ (by omega) (Nat.lt_succ_self _) (gg_eq G rfl rfl (by first | rfl | (simp only [w_cp, c12, c20, reduceIte]; done) | (simp [w_cp, c12, c20, reduceIte]; done)) rfl) (lv_sub hl [2, 1, 0] rfl)
    · skip
      exact gx_vr hx hb hr hlocks G hQ (by simp only [w_tpI, w_tpA, c12, c20, reduceIte]) dX3_takePoint_23

set_option maxHeartbeats 4000000 in
set_option maxRecDepth 100000 in
theorem kX3_openName (l : Launch) (D : va_G) (ad : Nat → Nat) (cy : Nat → ClassId) (I : gF) (J : gL) (a : gF) (b : gL) (sz : Nat) (nn nr n0 : Nat) (hnn : I 1 7 = nI nn) (hnn2 : nn ≤ 5) (hnr : I 1 8 = nI nr) (hnr2 : nr ≤ 8) (hn6 : n0 < 6) : gMv l yX3_openName wsX3_openName ({ frames := 3, cells := 0, slots := 0, locals := 87 }) D ad cy I J a b sz [.ref (ad 3), .int (nI n0)] (fun u => u = (I, J, w_open I a n0 nr, b)) := by
  refine Met.ofW (cc := cX3_openName) (maxL := 3) (ret := none) (by decide) rfl ?_
  intro p e s m args below meth c s₁ B hml hv
  obtain ⟨hargs, hsz, G⟩ := gx_begin hv
  subst hsz
  have hx := B.exec
  have hb := B.bytes
  have hr := B.returns
  have hts := atoms_spec (ws := wsX3_openName) B.pre
  have hown : s.vm.findClass RX3 = some m.cls := findClass_of_methodNamed B.named
  have hlocks := B.notSynchronized
  have hinX1 : ∀ w ∈ wsX10, w ∈ wsX3_openName := by decide +kernel
  have hinX3 : ∀ w ∈ wsX30, w ∈ wsX3_openName := by decide +kernel
  have lk9 := hts (.fieldLink RX3 9 "ExactSimplex$WholeSearch" "point" "[I") (by decide +kernel)
  have lk15 := hts (.fieldLink RX3 15 "ExactSimplex$WholeSearch" "ends" "[I") (by decide +kernel)
  have lk23 := hts (.fieldLink RX3 23 "ExactSimplex$WholeSearch" "sums" "[[I") (by decide +kernel)
  have lk26 := hts (.fieldLink RX3 26 "ExactSimplex$WholeSearch" "leastMore" "[[I") (by decide +kernel)
  have lk32 := hts (.fieldLink RX3 32 "ExactSimplex$WholeSearch" "problem" "LExactSimplex$Problem;") (by decide +kernel)
  have lk40 := hts (.fieldLink RX3 40 "ExactSimplex$WholeSearch" "found" "Z") (by decide +kernel)
  have lk51 := hts (.fieldLink RX3 51 "ExactSimplex$Problem" "names" "I") (by decide +kernel)
  have lk67 := hts (.fieldLink RX3 67 "ExactSimplex$WholeSearch" "bestCost" "I") (by decide +kernel)
  have lk74 := hts (.fieldLink RX3 74 "ExactSimplex$Problem" "lows" "[I") (by decide +kernel)
  have lk77 := hts (.fieldLink RX3 77 "ExactSimplex$Problem" "highs" "[I") (by decide +kernel)
  have lk88 := hts (.fieldLink RX3 88 "ExactSimplex$Problem" "costs" "[I") (by decide +kernel)
  have lk94 := hts (.fieldLink RX3 94 "ExactSimplex$Problem" "rows" "I") (by decide +kernel)
  have hl := lv_entry ([.ref (ad 3), .int (nI n0)]) (n := 3) (Nat.le_of_ble_eq_true rfl)
  have hent := lg_entry_eq m ([.ref (ad 3), .int (nI n0)]) 3
  rw [← hargs] at hent
  rw [hent]
  clear hent
  generalize (lg_sl ([.ref (ad 3), .int (nI n0)]) ++ List.replicate (3 - (lg_sl ([.ref (ad 3), .int (nI n0)])).length) Slot.unset).toArray = ls at hl ⊢
  have hl : lv_has ls 3 [(0, .ref (ad 3)), (1, .int (nI n0))] := hl
  generalize hA : gA ad s.heap.size = A at G ⊢
  generalize hH : s.heap = H at G ⊢
  refine gx_q (fun Q hQ => ?_)
  refine lv_iload_n hx hb dX3_openName_0 rfl (lv_at hl 1 rfl) ?_
  refine lv_aload_n hx hb dX3_openName_1 rfl (lv_at hl 0 rfl) ?_
  refine gx_get hx hb hts hinX3 hown G 3 (by decide) rfl rfl 0 (by decide) rfl lk32 rfl (v := .ref (ad 1)) rfl dX3_openName_2 ?_
  refine gx_get hx hb hts hinX1 hown G 1 (by decide) rfl rfl 7 (by decide) rfl lk51 rfl (v := .int (I 1 7)) rfl dX3_openName_5 ?_
  refine lv_icmp_lt (tgt := 12) hx hb dX3_openName_8 (by decide) (fun c8 => ?_) (fun c8 => ?_)
  · skip
    have n8 := gn_lt (X := n0) (Y := nn) rfl hnn (by omega) (by omega) c8
    refine lv_aload_n hx hb dX3_openName_12 rfl (lv_at hl 0 rfl) ?_
    refine gx_get hx hb hts hinX3 hown G 3 (by decide) rfl rfl 1 (by decide) rfl lk9 rfl (v := .ref (ad 21)) rfl dX3_openName_13 ?_
    refine lv_iload_n hx hb dX3_openName_16 rfl (lv_at hl 1 rfl) ?_
    refine lv_aload_n hx hb dX3_openName_17 rfl (lv_at hl 0 rfl) ?_
    refine gx_get hx hb hts hinX3 hown G 3 (by decide) rfl rfl 0 (by decide) rfl lk32 rfl (v := .ref (ad 1)) rfl dX3_openName_18 ?_
    refine gx_get hx hb hts hinX1 hown G 1 (by decide) rfl rfl 0 (by decide) rfl lk74 rfl (v := .ref (ad 6)) rfl dX3_openName_21 ?_
    refine lv_iload_n hx hb dX3_openName_24 rfl (lv_at hl 1 rfl) ?_
    refine gx_iald hx hb G 6 (by decide) (rfl) (by decide) n0 rfl (by omega) dX3_openName_25 ?_
    refine lv_iconst (v := 1) hx hb dX3_openName_26 (by decide) ?_
    refine lv_isub hx hb dX3_openName_27 ?_
    refine gx_iast hx hb G 21 (by decide) (rfl) (by decide) n0 rfl (by omega) dX3_openName_28 (fun H locs G => ?_)
    refine lv_aload_n hx hb dX3_openName_29 rfl (lv_at hl 0 rfl) ?_
    refine gx_get hx hb hts hinX3 hown G 3 (by decide) rfl rfl 2 (by decide) rfl lk15 rfl (v := .ref (ad 22)) rfl dX3_openName_30 ?_
    refine lv_iload_n hx hb dX3_openName_33 rfl (lv_at hl 1 rfl) ?_
    refine lv_aload_n hx hb dX3_openName_34 rfl (lv_at hl 0 rfl) ?_
    refine gx_get hx hb hts hinX3 hown G 3 (by decide) rfl rfl 0 (by decide) rfl lk32 rfl (v := .ref (ad 1)) rfl dX3_openName_35 ?_
    refine gx_get hx hb hts hinX1 hown G 1 (by decide) rfl rfl 1 (by decide) rfl lk77 rfl (v := .ref (ad 7)) rfl dX3_openName_38 ?_
    refine lv_iload_n hx hb dX3_openName_41 rfl (lv_at hl 1 rfl) ?_
    refine gx_iald hx hb G 7 (by decide) (rfl) (by decide) n0 rfl (by omega) dX3_openName_42 ?_
    refine gx_iast hx hb G 22 (by decide) (rfl) (by decide) n0 rfl (by omega) dX3_openName_43 (fun H locs G => ?_)
    refine lv_iconst (v := 0) hx hb dX3_openName_44 (by decide) ?_
    refine lv_istore_n (lv' := [(2, .int 0), (0, .ref (ad 3)), (1, .int (nI n0))]) hx hb dX3_openName_45 rfl hl (by decide) rfl (fun ls hl => ?_)
    have K46 : ∀ (nf : Nat) (r : Nat) (H : Heap) (locs : List Loc) (ls : Array Slot), (r ≤ nr) → nr - r < nf → GG D ad cy A s I J (w_on I (gU (gU a 21 n0 (a 6 n0 - 1)) 22 n0 (a 7 n0)) n0 r) b H locs → lv_has ls 3 [(0, .ref (ad 3)), (1, .int (nI n0)), (2, .int (nI r))] → W p l e ({ frames := 3, cells := 0, slots := 0, locals := 87 }) s m args below meth c H locs 0 0 Q (F0 m 46 ls []) := by
      intro nf
      induction nf with
      | zero => exact fun _ _ _ _ _ hz => absurd hz (Nat.not_lt_zero _)
      | succ nf ih =>
        intro r H locs ls h1 hmeas G hl
        have ih46 := ih
        clear ih
        refine lv_iload_n hx hb dX3_openName_46 rfl (lv_at hl 2 rfl) ?_
        refine lv_aload_n hx hb dX3_openName_47 rfl (lv_at hl 0 rfl) ?_
        refine gx_get hx hb hts hinX3 hown G 3 (by decide) rfl rfl 0 (by decide) rfl lk32 rfl (v := .ref (ad 1)) rfl dX3_openName_48 ?_
        refine gx_get hx hb hts hinX1 hown G 1 (by decide) rfl rfl 8 (by decide) rfl lk94 rfl (v := .int (I 1 8)) rfl dX3_openName_51 ?_
        refine lv_icmp_ge (tgt := 80) hx hb dX3_openName_54 (by decide) (fun c54 => ?_) (fun c54 => ?_)
        · skip
          have n54 := gn_le (X := nr) (Y := r) hnr rfl (by omega) (by omega) c54
          have hex : r = nr := by omega
          rw [hex] at hl
          rw [hex] at G
          refine lv_aload_n hx hb dX3_openName_80 rfl (lv_at hl 0 rfl) ?_
          refine gx_get hx hb hts hinX3 hown G 3 (by decide) rfl rfl 8 (by decide) rfl lk40 rfl (v := .int (I 3 8)) rfl dX3_openName_81 ?_
          refine lv_if_eq (tgt := 131) hx hb dX3_openName_84 (by decide) (fun c84 => ?_) (fun c84 => ?_)
          · skip
            refine lv_iload_n hx hb dX3_openName_131 rfl (lv_at hl 1 rfl) ?_
            refine lv_aload_n hx hb dX3_openName_132 rfl (lv_at hl 0 rfl) ?_
            refine gx_get hx hb hts hinX3 hown G 3 (by decide) rfl rfl 0 (by decide) rfl lk32 rfl (v := .ref (ad 1)) rfl dX3_openName_133 ?_
            refine gx_get hx hb hts hinX1 hown G 1 (by decide) rfl rfl 7 (by decide) rfl lk51 rfl (v := .int (I 1 7)) rfl dX3_openName_136 ?_
            refine lv_iconst (v := 1) hx hb dX3_openName_139 (by decide) ?_
            refine lv_isub hx hb dX3_openName_140 ?_
            refine lv_icmp_ne (tgt := 149) hx hb dX3_openName_141 (by decide) (fun c141 => ?_) (fun c141 => ?_)
            · skip
              exact gx_vr hx hb hr hlocks G hQ (by unfold w_open; rw [if_pos c8]; (first | rw [if_pos c141] | rw [if_neg c141]); simp only [w_op2, w_op1, c84, reduceIte]) dX3_openName_149
            · skip
              refine lv_aload_n hx hb dX3_openName_144 rfl (lv_at hl 0 rfl) ?_
              refine lv_iload_n hx hb dX3_openName_145 rfl (lv_at hl 1 rfl) ?_
              refine gx_dVv (I1 := I) (J1 := J) (a1 := (w_kc (w_on I (gU (gU a 21 n0 (a 6 n0 - 1)) 22 n0 (a 7 n0)) n0 nr) n0)) (b1 := b) (As := [.int (nI n0)]) (rest := []) ⟨hx, hb, hml, hown, hts⟩ G 3 (kX3_keepCheapest l D ad cy I J (w_on I (gU (gU a 21 n0 (a 6 n0 - 1)) 22 n0 (a 7 n0)) n0 nr) b H.size n0 (by omega)) (cwV 1 hts gX3_openName_X3_keepCheapest rfl rfl rfl (by decide +kernel) ⟨Nat.le_of_ble_eq_true rfl, Nat.le_of_ble_eq_true rfl⟩) (by decide) rfl rfl rfl rfl hl.1 rfl (Nat.le_of_ble_eq_true rfl) ⟨Nat.zero_le _, Nat.zero_le _⟩ dX3_openName_146 (fun H locs G => ?_)
              exact gx_vr hx hb hr hlocks G hQ (by unfold w_open; rw [if_pos c8]; (first | rw [if_pos c141] | rw [if_neg c141]); simp only [w_op2, w_op1, c84, reduceIte]) dX3_openName_149
          · skip
            refine lv_aload_n hx hb dX3_openName_87 rfl (lv_at hl 0 rfl) ?_
            refine gx_get hx hb hts hinX3 hown G 3 (by decide) rfl rfl 7 (by decide) rfl lk67 rfl (v := .int (I 3 7)) rfl dX3_openName_88 ?_
            refine lv_iconst (v := 1) hx hb dX3_openName_91 (by decide) ?_
            refine lv_isub hx hb dX3_openName_92 ?_
            refine lv_aload_n hx hb dX3_openName_93 rfl (lv_at hl 0 rfl) ?_
            refine gx_get hx hb hts hinX3 hown G 3 (by decide) rfl rfl 4 (by decide) rfl lk23 rfl (v := .ref (ad 24)) rfl dX3_openName_94 ?_
            refine lv_iload_n hx hb dX3_openName_97 rfl (lv_at hl 1 rfl) ?_
            refine gx_aald hx hb G 24 (by decide) rfl (Or.inl rfl) (by decide) n0 rfl (by omega) dX3_openName_98 ?_
            refine lv_bipush (v := 8) hx hb dX3_openName_99 (by decide) ?_
            refine gx_iald hx hb G (69 + n0) (by omega) (gsh_W _ (by omega)) (by decide) 8 rfl (by omega) dX3_openName_101 ?_
            refine lv_isub hx hb dX3_openName_102 ?_
            refine lv_aload_n hx hb dX3_openName_103 rfl (lv_at hl 0 rfl) ?_
            refine gx_get hx hb hts hinX3 hown G 3 (by decide) rfl rfl 5 (by decide) rfl lk26 rfl (v := .ref (ad 25)) rfl dX3_openName_104 ?_
            refine lv_iload_n hx hb dX3_openName_107 rfl (lv_at hl 1 rfl) ?_
            refine lv_iconst (v := 1) hx hb dX3_openName_108 (by decide) ?_
            refine lv_iadd hx hb dX3_openName_109 ?_
            refine gx_aald hx hb G 25 (by decide) rfl (Or.inl rfl) (by decide) (n0 + 1) (gn_add rfl rfl) (by omega) dX3_openName_110 ?_
            refine lv_bipush (v := 8) hx hb dX3_openName_111 (by decide) ?_
            refine gx_iald hx hb G (75 + (n0 + 1)) (by omega) (gsh_W2 _ (by omega)) (by decide) 8 rfl (by omega) dX3_openName_113 ?_
            refine lv_isub hx hb dX3_openName_114 ?_
            refine lv_istore_n (lv' := [(2, .int ((((I 3 7) - 1) - ((w_on I (gU (gU a 21 n0 (a 6 n0 - 1)) 22 n0 (a 7 n0)) n0 nr) (69 + n0) 8)) - ((w_on I (gU (gU a 21 n0 (a 6 n0 - 1)) 22 n0 (a 7 n0)) n0 nr) (75 + (n0 + 1)) 8))), (0, .ref (ad 3)), (1, .int (nI n0))]) hx hb dX3_openName_115 rfl hl (by decide) rfl (fun ls hl => ?_)
            refine lv_aload_n hx hb dX3_openName_116 rfl (lv_at hl 1 rfl) ?_
            refine lv_iload_n hx hb dX3_openName_117 rfl (lv_at hl 2 rfl) ?_
            refine lv_aload_n hx hb dX3_openName_118 rfl (lv_at hl 1 rfl) ?_
            refine gx_get hx hb hts hinX3 hown G 3 (by decide) rfl rfl 0 (by decide) rfl lk32 rfl (v := .ref (ad 1)) rfl dX3_openName_119 ?_
            refine gx_get hx hb hts hinX1 hown G 1 (by decide) rfl rfl 2 (by decide) rfl lk88 rfl (v := .ref (ad 8)) rfl dX3_openName_122 ?_
            refine lv_iload_n hx hb dX3_openName_125 rfl (lv_at hl 2 rfl) ?_
            refine gx_iald hx hb G 8 (by decide) (rfl) (by decide) n0 rfl (by omega) dX3_openName_126 ?_
            refine lv_iload_n hx hb dX3_openName_127 rfl (lv_at hl 0 rfl) ?_
            refine gx_dVv (I1 := I) (J1 := J) (a1 := (w_nar (w_on I (gU (gU a 21 n0 (a 6 n0 - 1)) 22 n0 (a 7 n0)) n0 nr) n0 ((w_on I (gU (gU a 21 n0 (a 6 n0 - 1)) 22 n0 (a 7 n0)) n0 nr) 8 n0) (I 3 7 - 1 - (w_on I (gU (gU a 21 n0 (a 6 n0 - 1)) 22 n0 (a 7 n0)) n0 nr) (69 + n0) 8 - (w_on I (gU (gU a 21 n0 (a 6 n0 - 1)) 22 n0 (a 7 n0)) n0 nr) (75 + (n0 + 1)) 8))) (b1 := b) (As := [.int (nI n0), .int ((w_on I (gU (gU a 21 n0 (a 6 n0 - 1)) 22 n0 (a 7 n0)) n0 nr) 8 n0), .int ((((I 3 7) - 1) - ((w_on I (gU (gU a 21 n0 (a 6 n0 - 1)) 22 n0 (a 7 n0)) n0 nr) (69 + n0) 8)) - ((w_on I (gU (gU a 21 n0 (a 6 n0 - 1)) 22 n0 (a 7 n0)) n0 nr) (75 + (n0 + 1)) 8))]) (rest := []) ⟨hx, hb, hml, hown, hts⟩ G 3 (kX3_narrow l D ad cy I J (w_on I (gU (gU a 21 n0 (a 6 n0 - 1)) 22 n0 (a 7 n0)) n0 nr) b H.size n0 ((w_on I (gU (gU a 21 n0 (a 6 n0 - 1)) 22 n0 (a 7 n0)) n0 nr) 8 n0) (I 3 7 - 1 - (w_on I (gU (gU a 21 n0 (a 6 n0 - 1)) 22 n0 (a 7 n0)) n0 nr) (69 + n0) 8 - (w_on I (gU (gU a 21 n0 (a 6 n0 - 1)) 22 n0 (a 7 n0)) n0 nr) (75 + (n0 + 1)) 8) (by omega)) (cwV 3 hts gX3_openName_X3_narrow rfl rfl rfl (by decide +kernel) ⟨Nat.le_of_ble_eq_true rfl, Nat.le_of_ble_eq_true rfl⟩) (by decide) rfl rfl rfl rfl hl.1 rfl (Nat.le_of_ble_eq_true rfl) ⟨Nat.zero_le _, Nat.zero_le _⟩ dX3_openName_128 (fun H locs G => ?_)
            refine lv_iload_n hx hb dX3_openName_131 rfl (lv_at hl 2 rfl) ?_
            refine lv_aload_n hx hb dX3_openName_132 rfl (lv_at hl 1 rfl) ?_
            refine gx_get hx hb hts hinX3 hown G 3 (by decide) rfl rfl 0 (by decide) rfl lk32 rfl (v := .ref (ad 1)) rfl dX3_openName_133 ?_
            refine gx_get hx hb hts hinX1 hown G 1 (by decide) rfl rfl 7 (by decide) rfl lk51 rfl (v := .int (I 1 7)) rfl dX3_openName_136 ?_
            refine lv_iconst (v := 1) hx hb dX3_openName_139 (by decide) ?_
            refine lv_isub hx hb dX3_openName_140 ?_
            refine lv_icmp_ne (tgt := 149) hx hb dX3_openName_141 (by decide) (fun c141 => ?_) (fun c141 => ?_)
            · skip
              exact gx_vr hx hb hr hlocks G hQ (by unfold w_open; rw [if_pos c8]; (first | rw [if_pos c141] | rw [if_neg c141]); simp only [w_op2, w_op1, c84, reduceIte]) dX3_openName_149
            · skip
              refine lv_aload_n hx hb dX3_openName_144 rfl (lv_at hl 1 rfl) ?_
              refine lv_iload_n hx hb dX3_openName_145 rfl (lv_at hl 2 rfl) ?_
              refine gx_dVv (I1 := I) (J1 := J) (a1 := (w_kc (w_nar (w_on I (gU (gU a 21 n0 (a 6 n0 - 1)) 22 n0 (a 7 n0)) n0 nr) n0 ((w_on I (gU (gU a 21 n0 (a 6 n0 - 1)) 22 n0 (a 7 n0)) n0 nr) 8 n0) (I 3 7 - 1 - (w_on I (gU (gU a 21 n0 (a 6 n0 - 1)) 22 n0 (a 7 n0)) n0 nr) (69 + n0) 8 - (w_on I (gU (gU a 21 n0 (a 6 n0 - 1)) 22 n0 (a 7 n0)) n0 nr) (75 + (n0 + 1)) 8)) n0)) (b1 := b) (As := [.int (nI n0)]) (rest := []) ⟨hx, hb, hml, hown, hts⟩ G 3 (kX3_keepCheapest l D ad cy I J (w_nar (w_on I (gU (gU a 21 n0 (a 6 n0 - 1)) 22 n0 (a 7 n0)) n0 nr) n0 ((w_on I (gU (gU a 21 n0 (a 6 n0 - 1)) 22 n0 (a 7 n0)) n0 nr) 8 n0) (I 3 7 - 1 - (w_on I (gU (gU a 21 n0 (a 6 n0 - 1)) 22 n0 (a 7 n0)) n0 nr) (69 + n0) 8 - (w_on I (gU (gU a 21 n0 (a 6 n0 - 1)) 22 n0 (a 7 n0)) n0 nr) (75 + (n0 + 1)) 8)) b H.size n0 (by omega)) (cwV 1 hts gX3_openName_X3_keepCheapest rfl rfl rfl (by decide +kernel) ⟨Nat.le_of_ble_eq_true rfl, Nat.le_of_ble_eq_true rfl⟩) (by decide) rfl rfl rfl rfl hl.1 rfl (Nat.le_of_ble_eq_true rfl) ⟨Nat.zero_le _, Nat.zero_le _⟩ dX3_openName_146 (fun H locs G => ?_)
              exact gx_vr hx hb hr hlocks G hQ (by unfold w_open; rw [if_pos c8]; (first | rw [if_pos c141] | rw [if_neg c141]); simp only [w_op2, w_op1, c84, reduceIte]) dX3_openName_149
        · skip
          have n54 := gn_nle (X := nr) (Y := r) hnr rfl (by omega) (by omega) c54
          refine lv_aload_n hx hb dX3_openName_57 rfl (lv_at hl 0 rfl) ?_
          refine gx_get hx hb hts hinX3 hown G 3 (by decide) rfl rfl 0 (by decide) rfl lk32 rfl (v := .ref (ad 1)) rfl dX3_openName_58 ?_
          refine lv_iload_n hx hb dX3_openName_61 rfl (lv_at hl 2 rfl) ?_
          refine gx_dVi (v := (p_hasR I (w_on I (gU (gU a 21 n0 (a 6 n0 - 1)) 22 n0 (a 7 n0)) n0 r) (nI r))) (I1 := I) (J1 := J) (a1 := (w_on I (gU (gU a 21 n0 (a 6 n0 - 1)) 22 n0 (a 7 n0)) n0 r)) (b1 := b) (As := [.int (nI r)]) (rest := []) ⟨hx, hb, hml, hown, hts⟩ G 1 (kX1_hasRow l D ad cy I J (w_on I (gU (gU a 21 n0 (a 6 n0 - 1)) 22 n0 (a 7 n0)) n0 r) b H.size nr (nI r) hnr hnr2) (cwV 1 hts gX3_openName_X1_hasRow rfl rfl rfl (by decide +kernel) ⟨Nat.le_of_ble_eq_true rfl, Nat.le_of_ble_eq_true rfl⟩) (by decide) rfl rfl rfl rfl hl.1 rfl (Nat.le_of_ble_eq_true rfl) ⟨Nat.zero_le _, Nat.zero_le _⟩ dX3_openName_62 (fun H locs G => ?_)
          refine lv_if_eq (tgt := 74) hx hb dX3_openName_65 (by decide) (fun c65 => ?_) (fun c65 => ?_)
          · skip
            refine lv_iinc (v := (nI (r + 1))) (lv' := [(2, .int (nI (r + 1))), (0, .ref (ad 3)), (1, .int (nI n0))]) hx hb dX3_openName_74 hl (k := 2) rfl (gn_add (X := r) (Y := 1) rfl rfl) (by decide) rfl (fun ls hl => ?_)
            refine lv_goto (tgt := 46) hx hb dX3_openName_77 (by decide) ?_
            exact ih46  (r + 1) _ _ _ (by omega) (by omega) (gg_eq G rfl rfl (by first | rfl | (simp only [w_on, c54, c65, reduceIte]; done) | (simp [w_on, c54, c65, reduceIte]; done)) rfl) (lv_sub hl [1, 2, 0] rfl)
          · skip
            refine lv_aload_n hx hb dX3_openName_68 rfl (lv_at hl 0 rfl) ?_
            refine lv_iload_n hx hb dX3_openName_69 rfl (lv_at hl 1 rfl) ?_
            refine lv_iload_n hx hb dX3_openName_70 rfl (lv_at hl 2 rfl) ?_
            refine gx_dVv (I1 := I) (J1 := J) (a1 := (w_nbr (w_on I (gU (gU a 21 n0 (a 6 n0 - 1)) 22 n0 (a 7 n0)) n0 r) n0 r)) (b1 := b) (As := [.int (nI n0), .int (nI r)]) (rest := []) ⟨hx, hb, hml, hown, hts⟩ G 3 (kX3_narrowByRow l D ad cy I J (w_on I (gU (gU a 21 n0 (a 6 n0 - 1)) 22 n0 (a 7 n0)) n0 r) b H.size n0 r (by omega) (by omega)) (cwV 2 hts gX3_openName_X3_narrowByRow rfl rfl rfl (by decide +kernel) ⟨Nat.le_of_ble_eq_true rfl, Nat.le_of_ble_eq_true rfl⟩) (by decide) rfl rfl rfl rfl hl.1 rfl (Nat.le_of_ble_eq_true rfl) ⟨Nat.zero_le _, Nat.zero_le _⟩ dX3_openName_71 (fun H locs G => ?_)
            refine lv_iinc (v := (nI (r + 1))) (lv' := [(2, .int (nI (r + 1))), (0, .ref (ad 3)), (1, .int (nI n0))]) hx hb dX3_openName_74 hl (k := 2) rfl (gn_add (X := r) (Y := 1) rfl rfl) (by decide) rfl (fun ls hl => ?_)
            refine lv_goto (tgt := 46) hx hb dX3_openName_77 (by decide) ?_
            exact ih46  (r + 1) _ _ _ (by omega) (by omega) (gg_eq G rfl rfl (by first | rfl | (simp only [w_on, c54, c65, reduceIte]; done) | (simp [w_on, c54, c65, reduceIte]; done)) rfl) (lv_sub hl [1, 2, 0] rfl)
    exact K46 (nr - 0 + 1) 0 _ _ _ (by omega) (Nat.lt_succ_self _) (gg_eq G rfl rfl (by first | rfl | (simp only [w_on, c8, reduceIte]; done) | (simp [w_on, c8, reduceIte]; done)) rfl) (lv_sub hl [1, 2, 0] rfl)
  · skip
    have n8 := gn_nlt (X := n0) (Y := nn) rfl hnn (by omega) (by omega) c8
    exact gx_vr hx hb hr hlocks G hQ (by simp only [w_open, c8, reduceIte]) dX3_openName_11

set_option maxHeartbeats 4000000 in
set_option maxRecDepth 100000 in
theorem kX3_hasPoint (l : Launch) (D : va_G) (ad : Nat → Nat) (cy : Nat → ClassId) (I : gF) (J : gL) (a : gF) (b : gL) (sz : Nat) (nn nr : Nat) (hnn : I 1 7 = nI nn) (hnn2 : nn ≤ 5) (hnr : I 1 8 = nI nr) (hnr2 : nr ≤ 8) (h01 : I 3 8 = 0 ∨ I 3 8 = 1) : gMi l yX3_hasPoint wsX3_hasPoint ({ frames := 4, cells := 0, slots := 0, locals := 109 }) D ad cy I J a b sz [.ref (ad 3)] (fun r u => r = w_hp I a nn nr ∧ u = (w_hpI I a nn nr, J, w_hpA I a nn nr, b)) := by
  refine Met.ofW (cc := cX3_hasPoint) (maxL := 3) (ret := some .boolean) (by decide) rfl ?_
  intro p e s m args below meth c s₁ B hml hv
  obtain ⟨hargs, hsz, G⟩ := gx_begin hv
  subst hsz
  have hx := B.exec
  have hb := B.bytes
  have hr := B.returns
  have hts := atoms_spec (ws := wsX3_hasPoint) B.pre
  have hown : s.vm.findClass RX3 = some m.cls := findClass_of_methodNamed B.named
  have hlocks := B.notSynchronized
  have hinX1 : ∀ w ∈ wsX10, w ∈ wsX3_hasPoint := by decide +kernel
  have hinX3 : ∀ w ∈ wsX30, w ∈ wsX3_hasPoint := by decide +kernel
  have lk9 := hts (.fieldLink RX3 9 "ExactSimplex$WholeSearch" "point" "[I") (by decide +kernel)
  have lk15 := hts (.fieldLink RX3 15 "ExactSimplex$WholeSearch" "ends" "[I") (by decide +kernel)
  have lk32 := hts (.fieldLink RX3 32 "ExactSimplex$WholeSearch" "problem" "LExactSimplex$Problem;") (by decide +kernel)
  have lk36 := hts (.fieldLink RX3 36 "ExactSimplex$WholeSearch" "sought" "Z") (by decide +kernel)
  have lk40 := hts (.fieldLink RX3 40 "ExactSimplex$WholeSearch" "found" "Z") (by decide +kernel)
  have lk51 := hts (.fieldLink RX3 51 "ExactSimplex$Problem" "names" "I") (by decide +kernel)
  have hl := lv_entry ([.ref (ad 3)]) (n := 3) (Nat.le_of_ble_eq_true rfl)
  have hent := lg_entry_eq m ([.ref (ad 3)]) 3
  rw [← hargs] at hent
  rw [hent]
  clear hent
  generalize (lg_sl ([.ref (ad 3)]) ++ List.replicate (3 - (lg_sl ([.ref (ad 3)])).length) Slot.unset).toArray = ls at hl ⊢
  have hl : lv_has ls 3 [(0, .ref (ad 3))] := hl
  generalize hA : gA ad s.heap.size = A at G ⊢
  generalize hH : s.heap = H at G ⊢
  refine gx_q (fun Q hQ => ?_)
  have hST : mST = 1000000 := rfl
  refine lv_aload_n hx hb dX3_hasPoint_0 rfl (lv_at hl 0 rfl) ?_
  refine gx_get hx hb hts hinX3 hown G 3 (by decide) rfl rfl 9 (by decide) rfl lk36 rfl (v := .int (I 3 9)) rfl dX3_hasPoint_1 ?_
  refine lv_if_eq (tgt := 12) hx hb dX3_hasPoint_4 (by decide) (fun c4 => ?_) (fun c4 => ?_)
  · skip
    refine lv_aload_n hx hb dX3_hasPoint_12 rfl (lv_at hl 0 rfl) ?_
    refine lv_iconst (v := 0) hx hb dX3_hasPoint_13 (by decide) ?_
    refine gx_putI hx hb hts hinX3 tyX3 tyX3_ok nmX3 hown G 3 (by decide) rfl rfl 8 (by decide) rfl lk40 rfl rfl (tyX3_ok 8 (by decide)) (rfl) (rfl) dX3_hasPoint_14 (fun H locs G => ?_)
    refine lv_aload_n hx hb dX3_hasPoint_17 rfl (lv_at hl 0 rfl) ?_
    refine lv_iconst (v := 1) hx hb dX3_hasPoint_18 (by decide) ?_
    refine gx_putI hx hb hts hinX3 tyX3 tyX3_ok nmX3 hown G 3 (by decide) rfl rfl 9 (by decide) rfl lk36 rfl rfl (tyX3_ok 9 (by decide)) (rfl) (rfl) dX3_hasPoint_19 (fun H locs G => ?_)
    refine lv_aload_n hx hb dX3_hasPoint_22 rfl (lv_at hl 0 rfl) ?_
    refine gx_dVv (I1 := (gU (gU I 3 8 0) 3 9 1)) (J1 := J) (a1 := (w_wo a nn 9)) (b1 := b) (As := []) (rest := []) ⟨hx, hb, hml, hown, hts⟩ G 3 (kX3_weighOthers l D ad cy (gU (gU I 3 8 0) 3 9 1) J a b H.size nn hnn hnn2) (cwV 0 hts gX3_hasPoint_X3_weighOthers rfl rfl rfl (by decide +kernel) ⟨Nat.le_of_ble_eq_true rfl, Nat.le_of_ble_eq_true rfl⟩) (by decide) rfl rfl rfl rfl hl.1 rfl (Nat.le_of_ble_eq_true rfl) ⟨Nat.zero_le _, Nat.zero_le _⟩ dX3_hasPoint_23 (fun H locs G => ?_)
    refine lv_iconst (v := 0) hx hb dX3_hasPoint_26 (by decide) ?_
    refine lv_istore_n (lv' := [(1, .int 0), (0, .ref (ad 3))]) hx hb dX3_hasPoint_27 rfl hl (by decide) rfl (fun ls hl => ?_)
    refine lv_aload_n hx hb dX3_hasPoint_28 rfl (lv_at hl 1 rfl) ?_
    refine lv_iload_n hx hb dX3_hasPoint_29 rfl (lv_at hl 0 rfl) ?_
    refine gx_dVv (I1 := (gU (gU I 3 8 0) 3 9 1)) (J1 := J) (a1 := (w_open (gU (gU I 3 8 0) 3 9 1) (w_wo a nn 9) 0 nr)) (b1 := b) (As := [.int 0]) (rest := []) ⟨hx, hb, hml, hown, hts⟩ G 3 (kX3_openName l D ad cy (gU (gU I 3 8 0) 3 9 1) J (w_wo a nn 9) b H.size nn nr 0 hnn hnn2 hnr hnr2 (by decide)) (cwV 1 hts gX3_hasPoint_X3_openName rfl rfl rfl (by decide +kernel) ⟨Nat.le_of_ble_eq_true rfl, Nat.le_of_ble_eq_true rfl⟩) (by decide) rfl rfl rfl rfl hl.1 rfl (Nat.le_of_ble_eq_true rfl) ⟨Nat.zero_le _, Nat.zero_le _⟩ dX3_hasPoint_30 (fun H locs G => ?_)
    refine lv_iconst (v := 0) hx hb dX3_hasPoint_33 (by decide) ?_
    refine lv_istore_n (lv' := [(2, .int 0), (1, .int 0), (0, .ref (ad 3))]) hx hb dX3_hasPoint_34 rfl hl (by decide) rfl (fun ls hl => ?_)
    have K35 : ∀ (nf : Nat) (i dd : Nat) (I2 a2 : gF) (H : Heap) (locs : List Loc) (ls : Array Slot), (i ≤ mST) → (w_hpX I a nn nr = w_srch nn nr (mST - i) (dd, I2, a2)) → (I2 1 7 = nI nn) → (I2 1 8 = nI nr) → (I2 3 8 = 0 ∨ I2 3 8 = 1) → (dd ≤ nn + 1) → mST - i < nf → GG D ad cy A s I2 J a2 b H locs → lv_has ls 3 [(0, .ref (ad 3)), (1, .int (nI dd - 1)), (2, .int (nI i))] → W p l e ({ frames := 4, cells := 0, slots := 0, locals := 109 }) s m args below meth c H locs 0 0 Q (F0 m 35 ls []) := by
      intro nf
      induction nf with
      | zero => exact fun _ _ _ _ _ _ _ _ _ _ _ _ _ hz => absurd hz (Nat.not_lt_zero _)
      | succ nf ih =>
        intro i dd I2 a2 H locs ls h1 h2 h17 h18 h38 hdd hmeas G hl
        have ih35 := ih
        clear ih
        refine lv_iload_n hx hb dX3_hasPoint_35 rfl (lv_at hl 2 rfl) ?_
        refine lv_ldc hx hb hown (hts (.constant RX3 50 1000000) (by decide +kernel)) dX3_hasPoint_36 ?_
        refine lv_icmp_ge (tgt := 126) hx hb dX3_hasPoint_38 (by decide) (fun c38 => ?_) (fun c38 => ?_)
        · skip
          have n38 := gn_le (X := 1000000) (Y := i) rfl rfl (by omega) (by omega) c38
          have hres : w_hpX I a nn nr = (dd, I2, a2) := by
            rw [h2]
            rcases Nat.lt_or_ge i mST with hi | hi
            · have hk0 : dd = 0 := by
                rcases Nat.eq_zero_or_pos dd with h0 | h0
                · exact h0
                · refine absurd ?_ (show ¬ nI dd - 1 < 0 by rw [show dd = (dd - 1) + 1 by omega, nI_pred]; exact nI_pos (by omega))
                  first
                    | exact c42
                    | exact absurd n38 (by omega)
              rw [hk0]
              exact w_srch_0 nn nr I2 a2 _
            · rw [show mST - i = 0 by omega]
              rfl
          refine lv_aload_n hx hb dX3_hasPoint_126 rfl (lv_at hl 0 rfl) ?_
          refine gx_get hx hb hts hinX3 hown G 3 (by decide) rfl rfl 8 (by decide) rfl lk40 rfl (v := .int (I2 3 8)) rfl dX3_hasPoint_127 ?_
          exact gx_zr hx hb hr hlocks G hQ (z01 h38) ⟨by simp only [w_hp, hres, c4, reduceIte], by simp only [w_hpI, w_hpA, hres, c4, reduceIte]⟩ dX3_hasPoint_130
        · skip
          have n38 := gn_nle (X := 1000000) (Y := i) rfl rfl (by omega) (by omega) c38
          refine lv_iload_n hx hb dX3_hasPoint_41 rfl (lv_at hl 1 rfl) ?_
          refine lv_if_lt (tgt := 126) hx hb dX3_hasPoint_42 (by decide) (fun c42 => ?_) (fun c42 => ?_)
          · skip
            have hres : w_hpX I a nn nr = (dd, I2, a2) := by
              rw [h2]
              rcases Nat.lt_or_ge i mST with hi | hi
              · have hk0 : dd = 0 := by
                  rcases Nat.eq_zero_or_pos dd with h0 | h0
                  · exact h0
                  · refine absurd ?_ (show ¬ nI dd - 1 < 0 by rw [show dd = (dd - 1) + 1 by omega, nI_pred]; exact nI_pos (by omega))
                    first
                      | exact c42
                      | exact absurd n38 (by omega)
                rw [hk0]
                exact w_srch_0 nn nr I2 a2 _
              · rw [show mST - i = 0 by omega]
                rfl
            refine lv_aload_n hx hb dX3_hasPoint_126 rfl (lv_at hl 0 rfl) ?_
            refine gx_get hx hb hts hinX3 hown G 3 (by decide) rfl rfl 8 (by decide) rfl lk40 rfl (v := .int (I2 3 8)) rfl dX3_hasPoint_127 ?_
            exact gx_zr hx hb hr hlocks G hQ (z01 h38) ⟨by simp only [w_hp, hres, c4, reduceIte], by simp only [w_hpI, w_hpA, hres, c4, reduceIte]⟩ dX3_hasPoint_130
          · skip
            have hk0 : 0 < dd := by
              rcases Nat.eq_zero_or_pos dd with h0 | h0
              · subst h0
                exact absurd (by decide) c42
              · exact h0
            obtain ⟨d1, rfl⟩ : ∃ d1, dd = d1 + 1 := ⟨dd - 1, by omega⟩
            rw [nI_pred] at hl
            refine lv_iload_n hx hb dX3_hasPoint_45 rfl (lv_at hl 1 rfl) ?_
            refine lv_aload_n hx hb dX3_hasPoint_46 rfl (lv_at hl 0 rfl) ?_
            refine gx_get hx hb hts hinX3 hown G 3 (by decide) rfl rfl 0 (by decide) rfl lk32 rfl (v := .ref (ad 1)) rfl dX3_hasPoint_47 ?_
            refine gx_get hx hb hts hinX1 hown G 1 (by decide) rfl rfl 7 (by decide) rfl lk51 rfl (v := .int (I2 1 7)) rfl dX3_hasPoint_50 ?_
            refine lv_icmp_lt (tgt := 66) hx hb dX3_hasPoint_53 (by decide) (fun c53 => ?_) (fun c53 => ?_)
            · skip
              have n53 := gn_lt (X := d1) (Y := nn) rfl h17 (by omega) (by omega) c53
              refine lv_aload_n hx hb dX3_hasPoint_66 rfl (lv_at hl 0 rfl) ?_
              refine gx_get hx hb hts hinX3 hown G 3 (by decide) rfl rfl 1 (by decide) rfl lk9 rfl (v := .ref (ad 21)) rfl dX3_hasPoint_67 ?_
              refine lv_iload_n hx hb dX3_hasPoint_70 rfl (lv_at hl 1 rfl) ?_
              refine gx_iald hx hb G 21 (by decide) (rfl) (by decide) d1 rfl (by omega) dX3_hasPoint_71 ?_
              refine lv_aload_n hx hb dX3_hasPoint_72 rfl (lv_at hl 0 rfl) ?_
              refine gx_get hx hb hts hinX3 hown G 3 (by decide) rfl rfl 2 (by decide) rfl lk15 rfl (v := .ref (ad 22)) rfl dX3_hasPoint_73 ?_
              refine lv_iload_n hx hb dX3_hasPoint_76 rfl (lv_at hl 1 rfl) ?_
              refine gx_iald hx hb G 22 (by decide) (rfl) (by decide) d1 rfl (by omega) dX3_hasPoint_77 ?_
              refine lv_icmp_lt (tgt := 87) hx hb dX3_hasPoint_78 (by decide) (fun c78 => ?_) (fun c78 => ?_)
              · skip
                refine lv_aload_n hx hb dX3_hasPoint_87 rfl (lv_at hl 0 rfl) ?_
                refine gx_get hx hb hts hinX3 hown G 3 (by decide) rfl rfl 1 (by decide) rfl lk9 rfl (v := .ref (ad 21)) rfl dX3_hasPoint_88 ?_
                refine lv_iload_n hx hb dX3_hasPoint_91 rfl (lv_at hl 1 rfl) ?_
                refine lv_dup2_11 hx hb dX3_hasPoint_92 rfl rfl ?_
                refine gx_iald hx hb G 21 (by decide) (rfl) (by decide) d1 rfl (by omega) dX3_hasPoint_93 ?_
                refine lv_iconst (v := 1) hx hb dX3_hasPoint_94 (by decide) ?_
                refine lv_iadd hx hb dX3_hasPoint_95 ?_
                refine gx_iast hx hb G 21 (by decide) (rfl) (by decide) d1 rfl (by omega) dX3_hasPoint_96 (fun H locs G => ?_)
                refine lv_aload_n hx hb dX3_hasPoint_97 rfl (lv_at hl 0 rfl) ?_
                refine lv_iload_n hx hb dX3_hasPoint_98 rfl (lv_at hl 1 rfl) ?_
                refine gx_dVv (I1 := I2) (J1 := J) (a1 := (w_add (gU a2 21 d1 ((a2 21 d1) + 1)) d1 nr)) (b1 := b) (As := [.int (nI d1)]) (rest := []) ⟨hx, hb, hml, hown, hts⟩ G 3 (kX3_addUp l D ad cy I2 J (gU a2 21 d1 ((a2 21 d1) + 1)) b H.size d1 nr (by omega) h18 hnr2) (cwV 1 hts gX3_hasPoint_X3_addUp rfl rfl rfl (by decide +kernel) ⟨Nat.le_of_ble_eq_true rfl, Nat.le_of_ble_eq_true rfl⟩) (by decide) rfl rfl rfl rfl hl.1 rfl (Nat.le_of_ble_eq_true rfl) ⟨Nat.zero_le _, Nat.zero_le _⟩ dX3_hasPoint_99 (fun H locs G => ?_)
                refine lv_aload_n hx hb dX3_hasPoint_102 rfl (lv_at hl 0 rfl) ?_
                refine lv_iload_n hx hb dX3_hasPoint_103 rfl (lv_at hl 1 rfl) ?_
                refine lv_iconst (v := 1) hx hb dX3_hasPoint_104 (by decide) ?_
                refine lv_iadd hx hb dX3_hasPoint_105 ?_
                rw [nI_1]
                refine gx_dVi (v := (w_mbc I2 (w_add (gU a2 21 d1 ((a2 21 d1) + 1)) d1 nr) (d1 + 1))) (I1 := I2) (J1 := J) (a1 := (w_add (gU a2 21 d1 ((a2 21 d1) + 1)) d1 nr)) (b1 := b) (As := [.int (nI (d1 + 1))]) (rest := []) ⟨hx, hb, hml, hown, hts⟩ G 3 (kX3_mayBeCheaper l D ad cy I2 J (w_add (gU a2 21 d1 ((a2 21 d1) + 1)) d1 nr) b H.size (d1 + 1) (by omega)) (cwV 1 hts gX3_hasPoint_X3_mayBeCheaper rfl rfl rfl (by decide +kernel) ⟨Nat.le_of_ble_eq_true rfl, Nat.le_of_ble_eq_true rfl⟩) (by decide) rfl rfl rfl rfl hl.1 rfl (Nat.le_of_ble_eq_true rfl) ⟨Nat.zero_le _, Nat.zero_le _⟩ dX3_hasPoint_106 (fun H locs G => ?_)
                refine lv_if_eq (tgt := 120) hx hb dX3_hasPoint_109 (by decide) (fun c109 => ?_) (fun c109 => ?_)
                · skip
                  refine lv_iinc (v := (nI (i + 1))) (lv' := [(2, .int (nI (i + 1))), (0, .ref (ad 3)), (1, .int (nI d1))]) hx hb dX3_hasPoint_120 hl (k := 2) rfl (gn_add (X := i) (Y := 1) rfl rfl) (by decide) rfl (fun ls hl => ?_)
                  refine lv_goto (tgt := 35) hx hb dX3_hasPoint_123 (by decide) ?_
                  have q1 : nI d1 = nI (d1 + 1) - 1 := (nI_pred _).symm
                  rw [q1] at hl
                  exact ih35  (i + 1) (d1 + 1) I2 (w_add (gU a2 21 d1 ((a2 21 d1) + 1)) d1 nr) _ _ _ (by omega) (by rw [h2, w_srch_s nn nr d1 I2 a2 n38]; simp only [c38, c42, c53, c78, c109, reduceIte]) (by first | exact h17 | exact (w_tpI_k (by decide)).trans h17) (by first | exact h18 | exact (w_tpI_k (by decide)).trans h18) (by first | exact h38 | exact w_tpI_38 h38) (by omega) (by omega) G (lv_sub hl [1, 2, 0] rfl)
                · skip
                  refine lv_iinc (v := (nI (d1 + 1))) (lv' := [(1, .int (nI (d1 + 1))), (0, .ref (ad 3)), (2, .int (nI i))]) hx hb dX3_hasPoint_112 hl (k := 1) rfl (gn_add (X := d1) (Y := 1) rfl rfl) (by decide) rfl (fun ls hl => ?_)
                  refine lv_aload_n hx hb dX3_hasPoint_115 rfl (lv_at hl 1 rfl) ?_
                  refine lv_iload_n hx hb dX3_hasPoint_116 rfl (lv_at hl 0 rfl) ?_
                  refine gx_dVv (I1 := I2) (J1 := J) (a1 := (w_open I2 (w_add (gU a2 21 d1 ((a2 21 d1) + 1)) d1 nr) (d1 + 1) nr)) (b1 := b) (As := [.int (nI (d1 + 1))]) (rest := []) ⟨hx, hb, hml, hown, hts⟩ G 3 (kX3_openName l D ad cy I2 J (w_add (gU a2 21 d1 ((a2 21 d1) + 1)) d1 nr) b H.size nn nr (d1 + 1) h17 hnn2 h18 hnr2 (by omega)) (cwV 1 hts gX3_hasPoint_X3_openName rfl rfl rfl (by decide +kernel) ⟨Nat.le_of_ble_eq_true rfl, Nat.le_of_ble_eq_true rfl⟩) (by decide) rfl rfl rfl rfl hl.1 rfl (Nat.le_of_ble_eq_true rfl) ⟨Nat.zero_le _, Nat.zero_le _⟩ dX3_hasPoint_117 (fun H locs G => ?_)
                  refine lv_iinc (v := (nI (i + 1))) (lv' := [(2, .int (nI (i + 1))), (1, .int (nI (d1 + 1))), (0, .ref (ad 3))]) hx hb dX3_hasPoint_120 hl (k := 2) rfl (gn_add (X := i) (Y := 1) rfl rfl) (by decide) rfl (fun ls hl => ?_)
                  refine lv_goto (tgt := 35) hx hb dX3_hasPoint_123 (by decide) ?_
                  have q1 : nI (d1 + 1) = nI (d1 + 1 + 1) - 1 := (nI_pred _).symm
                  rw [q1] at hl
                  exact ih35  (i + 1) (d1 + 1 + 1) I2 (w_open I2 (w_add (gU a2 21 d1 ((a2 21 d1) + 1)) d1 nr) (d1 + 1) nr) _ _ _ (by omega) (by rw [h2, w_srch_s nn nr d1 I2 a2 n38]; simp only [c38, c42, c53, c78, c109, reduceIte]) (by first | exact h17 | exact (w_tpI_k (by decide)).trans h17) (by first | exact h18 | exact (w_tpI_k (by decide)).trans h18) (by first | exact h38 | exact w_tpI_38 h38) (by omega) (by omega) G (lv_sub hl [2, 1, 0] rfl)
              · skip
                obtain ⟨x_1, ex_1⟩ : ∃ z : Int32, z = (nI d1) + -1 := ⟨_, rfl⟩
                refine lv_iinc (v := x_1) (lv' := [(1, .int x_1), (0, .ref (ad 3)), (2, .int (nI i))]) hx hb dX3_hasPoint_81 hl (k := 1) rfl ex_1.symm (by decide) rfl (fun ls hl => ?_)
                refine lv_goto (tgt := 120) hx hb dX3_hasPoint_84 (by decide) ?_
                refine lv_iinc (v := (nI (i + 1))) (lv' := [(2, .int (nI (i + 1))), (1, .int x_1), (0, .ref (ad 3))]) hx hb dX3_hasPoint_120 hl (k := 2) rfl (gn_add (X := i) (Y := 1) rfl rfl) (by decide) rfl (fun ls hl => ?_)
                refine lv_goto (tgt := 35) hx hb dX3_hasPoint_123 (by decide) ?_
                have q1 : x_1 = nI d1 - 1 := by rw [ex_1]; exact gx_m1 _
                rw [q1] at hl
                exact ih35  (i + 1) d1 I2 a2 _ _ _ (by omega) (by rw [h2, w_srch_s nn nr d1 I2 a2 n38]; simp only [c38, c42, c53, c78, reduceIte]) (by first | exact h17 | exact (w_tpI_k (by decide)).trans h17) (by first | exact h18 | exact (w_tpI_k (by decide)).trans h18) (by first | exact h38 | exact w_tpI_38 h38) (by omega) (by omega) G (lv_sub hl [2, 1, 0] rfl)
            · skip
              have n53 := gn_nlt (X := d1) (Y := nn) rfl h17 (by omega) (by omega) c53
              refine lv_aload_n hx hb dX3_hasPoint_56 rfl (lv_at hl 0 rfl) ?_
              refine gx_dVv (I1 := (w_tpI I2 a2 nn nr)) (J1 := J) (a1 := (w_tpA I2 a2 nn nr)) (b1 := b) (As := []) (rest := []) ⟨hx, hb, hml, hown, hts⟩ G 3 (kX3_takePoint l D ad cy I2 J a2 b H.size nn nr h17 hnn2 h18 hnr2) (cwV 0 hts gX3_hasPoint_X3_takePoint rfl rfl rfl (by decide +kernel) ⟨Nat.le_of_ble_eq_true rfl, Nat.le_of_ble_eq_true rfl⟩) (by decide) rfl rfl rfl rfl hl.1 rfl (Nat.le_of_ble_eq_true rfl) ⟨Nat.zero_le _, Nat.zero_le _⟩ dX3_hasPoint_57 (fun H locs G => ?_)
              obtain ⟨x_2, ex_2⟩ : ∃ z : Int32, z = (nI d1) + -1 := ⟨_, rfl⟩
              refine lv_iinc (v := x_2) (lv' := [(1, .int x_2), (0, .ref (ad 3)), (2, .int (nI i))]) hx hb dX3_hasPoint_60 hl (k := 1) rfl ex_2.symm (by decide) rfl (fun ls hl => ?_)
              refine lv_goto (tgt := 120) hx hb dX3_hasPoint_63 (by decide) ?_
              refine lv_iinc (v := (nI (i + 1))) (lv' := [(2, .int (nI (i + 1))), (1, .int x_2), (0, .ref (ad 3))]) hx hb dX3_hasPoint_120 hl (k := 2) rfl (gn_add (X := i) (Y := 1) rfl rfl) (by decide) rfl (fun ls hl => ?_)
              refine lv_goto (tgt := 35) hx hb dX3_hasPoint_123 (by decide) ?_
              have q1 : x_2 = nI d1 - 1 := by rw [ex_2]; exact gx_m1 _
              rw [q1] at hl
              exact ih35  (i + 1) d1 (w_tpI I2 a2 nn nr) (w_tpA I2 a2 nn nr) _ _ _ (by omega) (by rw [h2, w_srch_s nn nr d1 I2 a2 n38]; simp only [c38, c42, c53, reduceIte]) (by first | exact h17 | exact (w_tpI_k (by decide)).trans h17) (by first | exact h18 | exact (w_tpI_k (by decide)).trans h18) (by first | exact h38 | exact w_tpI_38 h38) (by omega) (by omega) G (lv_sub hl [2, 1, 0] rfl)
    have q1 : 0 = nI 1 - 1 := rfl
    rw [q1] at hl
    exact K35 (mST - 0 + 1) 0 1 (gU (gU I 3 8 0) 3 9 1) (w_open (gU (gU I 3 8 0) 3 9 1) (w_wo a nn 9) 0 nr) _ _ _ (by omega) (rfl) (hnn) (hnr) (Or.inl rfl) (by omega) (Nat.lt_succ_self _) G (lv_sub hl [2, 1, 0] rfl)
  · skip
    refine lv_aload_n hx hb dX3_hasPoint_7 rfl (lv_at hl 0 rfl) ?_
    refine gx_get hx hb hts hinX3 hown G 3 (by decide) rfl rfl 8 (by decide) rfl lk40 rfl (v := .int (I 3 8)) rfl dX3_hasPoint_8 ?_
    exact gx_zr hx hb hr hlocks G hQ (z01 h01) ⟨by simp only [w_hp, c4, reduceIte], by simp only [w_hpI, w_hpA, c4, reduceIte]⟩ dX3_hasPoint_11
