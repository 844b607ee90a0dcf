/-! The reference: lowest, corners -/
theorem lv_chg {ls : Array Slot} {n i : Nat} {l : List (Nat × Value)} {v v' : Value} (h : lv_has ls n l) (k : Nat) (hk : l[k]? = some (i, v)) (e : v = v') : lv_has ls n (l.set k (i, v')) := by
  refine ⟨h.1, h.2.1, fun q hq => ?_⟩
  rcases List.mem_or_eq_of_mem_set hq with h1 | h1
  · exact h.2.2 q h1
  · subst h1
    subst e
    exact h.2.2 _ (List.mem_of_getElem? hk)
theorem l_rem (x y : Int64) (h : ¬ x = 0) : (y - y / x * x).toInt = y.toInt.tmod x.toInt := by
  have hx : x.toInt ≠ 0 := fun q => h (Int64.toInt_inj.mp (by rw [q]; rfl))
  have h1 : (y - y / x * x).toInt = (y.toInt - y.toInt.tdiv x.toInt * x.toInt).bmod (2 ^ 64) := by
    rw [Int64.toInt_sub, Int64.toInt_mul, Int64.toInt_div]
    simp only [Int.sub_bmod_bmod, Int.bmod_mul_bmod]
  have h2 : y.toInt - y.toInt.tdiv x.toInt * x.toInt = y.toInt.tmod x.toInt := by
    rw [Int.tmod_def, Int.mul_comm]
  have h3 : (y.toInt.tmod x.toInt).natAbs < x.toInt.natAbs := by
    rw [Int.natAbs_tmod]
    exact Nat.mod_lt _ (by omega)
  have h4 := Int64.toInt_lt x
  have h5 := Int64.le_toInt x
  rw [h1, h2]
  apply Int.bmod_eq_of_le
  · omega
  · omega
theorem l_rem_lt (x y : Int64) (h : ¬ x = 0) : (y - y / x * x).toInt.natAbs < x.toInt.natAbs := by
  have hx : x.toInt ≠ 0 := fun q => h (Int64.toInt_inj.mp (by rw [q]; rfl))
  rw [l_rem x y h, Int.natAbs_tmod]
  exact Nat.mod_lt _ (by omega)
def m_low : Nat → Int64 → Int64 → Int64
  | 0, _, y => y
  | n + 1, x, y => if x = 0 then y else m_low n (y - y / x * x) x
def mGC : Nat := 18446744073709551616
def m_ab (x : Int64) : Int64 := if 0 ≤ x then x else -x
def m_gd (x y : Int64) : Int64 := m_low mGC (m_ab x) y
def m_lowest (x y : Int64) (pt : Int32) : Int64 := if pt = 0 then x / m_gd x y else y / m_gd x y
theorem m_nab (x : Int64) : x.toInt.natAbs < mGC := by
  have h4 := Int64.toInt_lt x
  have h5 := Int64.le_toInt x
  have : mGC = 18446744073709551616 := rfl
  omega
theorem m_low_step {x2 y2 R : Int64} (hx : ¬ x2 = 0) (h : ∃ F, x2.toInt.natAbs < F ∧ R = m_low F x2 y2) : ∃ F, (y2 - y2 / x2 * x2).toInt.natAbs < F ∧ R = m_low F (y2 - y2 / x2 * x2) x2 := by
  obtain ⟨F, hF, e⟩ := h
  have hl := l_rem_lt x2 y2 hx
  obtain ⟨F1, rfl⟩ : ∃ F1, F = F1 + 1 := ⟨F - 1, by omega⟩
  refine ⟨F1, by omega, ?_⟩
  rw [e]
  show (if x2 = 0 then y2 else _) = _
  rw [if_neg hx]
theorem m_low_end {x2 y2 R : Int64} (hx : x2 = 0) (h : ∃ F, x2.toInt.natAbs < F ∧ R = m_low F x2 y2) : R = y2 := by
  obtain ⟨F, hF, e⟩ := h
  obtain ⟨F1, rfl⟩ : ∃ F1, F = F1 + 1 := ⟨F - 1, by omega⟩
  rw [e]
  show (if x2 = 0 then y2 else _) = _
  rw [if_pos hx]

set_option maxHeartbeats 4000000 in
set_option maxRecDepth 100000 in
theorem kX5_lowest (l : Launch) (D : va_G) (ad : Nat → Nat) (cy : Nat → ClassId) (I : gF) (J : gL) (a : gF) (b : gL) (sz : Nat) (x y : Int64) (pt : Int32) (hy : ¬ y = 0) : gMl l yX5_lowest wsX5_lowest ({ frames := 0, cells := 0, slots := 0, locals := 0 }) D ad cy I J a b sz [.long x, .long y, .int pt] (fun res u => res = m_lowest x y pt ∧ u = (I, J, a, b)) := by
  refine Met.ofW (cc := cX5_lowest) (maxL := 11) (ret := some .long) (by decide) rfl ?_
  intro p e s m args below meth c s₁ B hml hv
  obtain ⟨hargs, hsz, G⟩ := gx_begin hv
  subst hsz
  have hx := B.exec
  have hb := B.bytes
  have hr := B.returns
  have hts := atoms_spec (ws := wsX5_lowest) B.pre
  have hown : s.vm.findClass RX5 = some m.cls := findClass_of_methodNamed B.named
  have hlocks := B.notSynchronized
  have hl := lv_entry ([.long x, .long y, .int pt]) (n := 11) (Nat.le_of_ble_eq_true rfl)
  have hent := lg_entry_eq m ([.long x, .long y, .int pt]) 11
  rw [← hargs] at hent
  rw [hent]
  clear hent
  generalize (lg_sl ([.long x, .long y, .int pt]) ++ List.replicate (11 - (lg_sl ([.long x, .long y, .int pt])).length) Slot.unset).toArray = ls at hl ⊢
  have hl : lv_has ls 11 [(0, .long x), (2, .long y), (4, .int pt)] := hl
  generalize hA : gA ad s.heap.size = A at G ⊢
  generalize hH : s.heap = H at G ⊢
  refine gx_q (fun Q hQ => ?_)
  refine lv_lload_n hx hb dX5_lowest_0 rfl (lv_at hl 0 rfl) ?_
  refine lv_lconst (v := 0) hx hb dX5_lowest_1 (by decide) ?_
  refine gx_lc_ge (tgt := 11) hx hb dX5_lowest_2 dX5_lowest_3 (by decide) (fun c3 => ?_) (fun c3 => ?_)
  · skip
    refine lv_lload_n hx hb dX5_lowest_11 rfl (lv_at hl 0 rfl) ?_
    refine lv_lstore (lv' := [(5, .long x), (0, .long x), (2, .long y), (4, .int pt)]) hx hb dX5_lowest_12 hl (by decide) rfl (fun ls hl => ?_)
    refine lv_lload_n hx hb dX5_lowest_14 rfl (lv_at hl 2 rfl) ?_
    refine lv_lstore (lv' := [(7, .long y), (5, .long x), (0, .long x), (2, .long y), (4, .int pt)]) hx hb dX5_lowest_15 hl (by decide) rfl (fun ls hl => ?_)
    have K17 : ∀ (nf : Nat) (x2 y2 : Int64) (H : Heap) (locs : List Loc) (ls : Array Slot), (∃ F, x2.toInt.natAbs < F ∧ m_gd x y = m_low F x2 y2) → (¬ (x2 = 0 ∧ y2 = 0)) → x2.toInt.natAbs < nf → GG D ad cy A s I J a b H locs → lv_has ls 11 [(0, .long x), (2, .long y), (4, .int pt), (5, .long x2), (7, .long y2)] → W p l e ({ frames := 0, cells := 0, slots := 0, locals := 0 }) s m args below meth c H locs 0 0 Q (F0 m 17 ls []) := by
      intro nf
      induction nf with
      | zero => exact fun _ _ _ _ _ _ _ hz => absurd hz (Nat.not_lt_zero _)
      | succ nf ih =>
        intro x2 y2 H locs ls h2 h3 hmeas G hl
        have ih17 := ih
        clear ih
        refine lv_lload hx hb dX5_lowest_17 (lv_at hl 3 rfl) ?_
        refine lv_lconst (v := 0) hx hb dX5_lowest_19 (by decide) ?_
        refine gx_lc_eq (tgt := 42) hx hb dX5_lowest_20 dX5_lowest_21 (by decide) (fun c21 => ?_) (fun c21 => ?_)
        · skip
          refine lv_iload hx hb dX5_lowest_42 (lv_at hl 2 rfl) ?_
          refine lv_if_ne (tgt := 54) hx hb dX5_lowest_44 (by decide) (fun c44 => ?_) (fun c44 => ?_)
          · skip
            refine lv_lload_n hx hb dX5_lowest_54 rfl (lv_at hl 1 rfl) ?_
            refine lv_lload hx hb dX5_lowest_55 (lv_at hl 4 rfl) ?_
            refine lv_ldiv hx hb dX5_lowest_57 (fun q => h3 ⟨c21, q⟩) ?_
            exact gx_lr hx hb hr hlocks G hQ ⟨by unfold m_lowest; rw [m_low_end c21 h2]; (repeat (first | rw [if_pos c3] | rw [if_pos c21] | rw [if_neg c44])), rfl⟩ dX5_lowest_58
          · skip
            refine lv_lload_n hx hb dX5_lowest_47 rfl (lv_at hl 0 rfl) ?_
            refine lv_lload hx hb dX5_lowest_48 (lv_at hl 4 rfl) ?_
            refine lv_ldiv hx hb dX5_lowest_50 (fun q => h3 ⟨c21, q⟩) ?_
            refine lv_goto (tgt := 58) hx hb dX5_lowest_51 (by decide) ?_
            exact gx_lr hx hb hr hlocks G hQ ⟨by unfold m_lowest; rw [m_low_end c21 h2]; (repeat (first | rw [if_pos c3] | rw [if_pos c21] | rw [if_pos c44])), rfl⟩ dX5_lowest_58
        · skip
          refine lv_lload hx hb dX5_lowest_24 (lv_at hl 4 rfl) ?_
          refine lv_lload hx hb dX5_lowest_26 (lv_at hl 3 rfl) ?_
          refine lv_lrem hx hb dX5_lowest_28 (c21) ?_
          refine lv_lstore (lv' := [(9, .long (y2 - y2 / x2 * x2)), (0, .long x), (2, .long y), (4, .int pt), (5, .long x2), (7, .long y2)]) hx hb dX5_lowest_29 hl (by decide) rfl (fun ls hl => ?_)
          refine lv_lload hx hb dX5_lowest_31 (lv_at hl 4 rfl) ?_
          refine lv_lstore (lv' := [(7, .long x2), (9, .long (y2 - y2 / x2 * x2)), (0, .long x), (2, .long y), (4, .int pt), (5, .long x2)]) hx hb dX5_lowest_33 hl (by decide) rfl (fun ls hl => ?_)
          refine lv_lload hx hb dX5_lowest_35 (lv_at hl 1 rfl) ?_
          refine lv_lstore (lv' := [(5, .long (y2 - y2 / x2 * x2)), (7, .long x2), (9, .long (y2 - y2 / x2 * x2)), (0, .long x), (2, .long y), (4, .int pt)]) hx hb dX5_lowest_37 hl (by decide) rfl (fun ls hl => ?_)
          refine lv_goto (tgt := 17) hx hb dX5_lowest_39 (by decide) ?_
          exact ih17  (y2 - y2 / x2 * x2) x2 _ _ _ (m_low_step c21 h2) (fun q => c21 q.2) (by have := l_rem_lt x2 y2 c21; omega) G (lv_sub hl [3, 4, 5, 0, 1] rfl)
    have q5 : x = (m_ab x) := by unfold m_ab; (repeat (first | rw [if_pos c3]))
    have hl := lv_chg hl 1 rfl (congrArg Value.long q5)
    exact K17 ((m_ab x).toInt.natAbs + 1) (m_ab x) y _ _ _ (⟨mGC, m_nab _, rfl⟩) (fun q => hy q.2) (Nat.lt_succ_self _) G (lv_sub hl [2, 3, 4, 1, 0] rfl)
  · skip
    refine lv_lload_n hx hb dX5_lowest_6 rfl (lv_at hl 0 rfl) ?_
    refine lv_lneg hx hb dX5_lowest_7 ?_
    refine lv_goto (tgt := 12) hx hb dX5_lowest_8 (by decide) ?_
    refine lv_lstore (lv' := [(5, .long (-x)), (0, .long x), (2, .long y), (4, .int pt)]) hx hb dX5_lowest_12 hl (by decide) rfl (fun ls hl => ?_)
    refine lv_lload_n hx hb dX5_lowest_14 rfl (lv_at hl 2 rfl) ?_
    refine lv_lstore (lv' := [(7, .long y), (5, .long (-x)), (0, .long x), (2, .long y), (4, .int pt)]) hx hb dX5_lowest_15 hl (by decide) rfl (fun ls hl => ?_)
    have K17 : ∀ (nf : Nat) (x2 y2 : Int64) (H : Heap) (locs : List Loc) (ls : Array Slot), (∃ F, x2.toInt.natAbs < F ∧ m_gd x y = m_low F x2 y2) → (¬ (x2 = 0 ∧ y2 = 0)) → x2.toInt.natAbs < nf → GG D ad cy A s I J a b H locs → lv_has ls 11 [(0, .long x), (2, .long y), (4, .int pt), (5, .long x2), (7, .long y2)] → W p l e ({ frames := 0, cells := 0, slots := 0, locals := 0 }) s m args below meth c H locs 0 0 Q (F0 m 17 ls []) := by
      intro nf
      induction nf with
      | zero => exact fun _ _ _ _ _ _ _ hz => absurd hz (Nat.not_lt_zero _)
      | succ nf ih =>
        intro x2 y2 H locs ls h2 h3 hmeas G hl
        have ih17 := ih
        clear ih
        refine lv_lload hx hb dX5_lowest_17 (lv_at hl 3 rfl) ?_
        refine lv_lconst (v := 0) hx hb dX5_lowest_19 (by decide) ?_
        refine gx_lc_eq (tgt := 42) hx hb dX5_lowest_20 dX5_lowest_21 (by decide) (fun c21 => ?_) (fun c21 => ?_)
        · skip
          refine lv_iload hx hb dX5_lowest_42 (lv_at hl 2 rfl) ?_
          refine lv_if_ne (tgt := 54) hx hb dX5_lowest_44 (by decide) (fun c44 => ?_) (fun c44 => ?_)
          · skip
            refine lv_lload_n hx hb dX5_lowest_54 rfl (lv_at hl 1 rfl) ?_
            refine lv_lload hx hb dX5_lowest_55 (lv_at hl 4 rfl) ?_
            refine lv_ldiv hx hb dX5_lowest_57 (fun q => h3 ⟨c21, q⟩) ?_
            exact gx_lr hx hb hr hlocks G hQ ⟨by unfold m_lowest; rw [m_low_end c21 h2]; (repeat (first | rw [if_neg c3] | rw [if_pos c21] | rw [if_neg c44])), rfl⟩ dX5_lowest_58
          · skip
            refine lv_lload_n hx hb dX5_lowest_47 rfl (lv_at hl 0 rfl) ?_
            refine lv_lload hx hb dX5_lowest_48 (lv_at hl 4 rfl) ?_
            refine lv_ldiv hx hb dX5_lowest_50 (fun q => h3 ⟨c21, q⟩) ?_
            refine lv_goto (tgt := 58) hx hb dX5_lowest_51 (by decide) ?_
            exact gx_lr hx hb hr hlocks G hQ ⟨by unfold m_lowest; rw [m_low_end c21 h2]; (repeat (first | rw [if_neg c3] | rw [if_pos c21] | rw [if_pos c44])), rfl⟩ dX5_lowest_58
        · skip
          refine lv_lload hx hb dX5_lowest_24 (lv_at hl 4 rfl) ?_
          refine lv_lload hx hb dX5_lowest_26 (lv_at hl 3 rfl) ?_
          refine lv_lrem hx hb dX5_lowest_28 (c21) ?_
          refine lv_lstore (lv' := [(9, .long (y2 - y2 / x2 * x2)), (0, .long x), (2, .long y), (4, .int pt), (5, .long x2), (7, .long y2)]) hx hb dX5_lowest_29 hl (by decide) rfl (fun ls hl => ?_)
          refine lv_lload hx hb dX5_lowest_31 (lv_at hl 4 rfl) ?_
          refine lv_lstore (lv' := [(7, .long x2), (9, .long (y2 - y2 / x2 * x2)), (0, .long x), (2, .long y), (4, .int pt), (5, .long x2)]) hx hb dX5_lowest_33 hl (by decide) rfl (fun ls hl => ?_)
          refine lv_lload hx hb dX5_lowest_35 (lv_at hl 1 rfl) ?_
          refine lv_lstore (lv' := [(5, .long (y2 - y2 / x2 * x2)), (7, .long x2), (9, .long (y2 - y2 / x2 * x2)), (0, .long x), (2, .long y), (4, .int pt)]) hx hb dX5_lowest_37 hl (by decide) rfl (fun ls hl => ?_)
          refine lv_goto (tgt := 17) hx hb dX5_lowest_39 (by decide) ?_
          exact ih17  (y2 - y2 / x2 * x2) x2 _ _ _ (m_low_step c21 h2) (fun q => c21 q.2) (by have := l_rem_lt x2 y2 c21; omega) G (lv_sub hl [3, 4, 5, 0, 1] rfl)
    have q5 : -x = (m_ab x) := by unfold m_ab; (repeat (first | rw [if_neg c3]))
    have hl := lv_chg hl 1 rfl (congrArg Value.long q5)
    exact K17 ((m_ab x).toInt.natAbs + 1) (m_ab x) y _ _ _ (⟨mGC, m_nab _, rfl⟩) (fun q => hy q.2) (Nat.lt_succ_self _) G (lv_sub hl [2, 3, 4, 1, 0] rfl)
