/-! The class's own methods: answers (c_..) and states behind them (c_..S) -/
def q_within (v b : Int32) : Int32 := if v < -b then 0 else if b < v then 0 else 1
def q_span (lo hi : Int32) : Int32 := if q_within lo 100 = 0 then 0 else if q_within hi 100 = 0 then 0 else if hi < lo then 0 else 1
def q_z01 (v : Int32) : Int32 := if v = 0 then 1 else if v = 1 then 1 else 0
def q_fg (I : gF) : gF := gU (gU (gU (gU I 2 5 0) 2 7 0) 2 8 0) 3 9 0
def c_name (x : gS) (lo hi : Int32) : Int32 := if q_span lo hi = 0 then -2 else if x.1 1 7 < 5 then x.1 1 7 else -4
def c_nameS (x : gS) (lo hi : Int32) : gS := if q_span lo hi = 0 then x else (if x.1 1 7 < 5 then gU (q_fg x.1) 1 7 (x.1 1 7 + 1) else q_fg x.1, x.2.1, if x.1 1 7 < 5 then p_addNA x.2.2.1 (cN (x.1 1 7)) lo hi else x.2.2.1, x.2.2.2)
def c_span (x : gS) (v lo hi : Int32) : Int32 := if p_hasN x.1 v = 0 then -1 else if q_span lo hi = 0 then -2 else 1
def c_spanS (x : gS) (v lo hi : Int32) : gS := if p_hasN x.1 v = 0 then x else if q_span lo hi = 0 then x else (q_fg x.1, x.2.1, gU (gU x.2.2.1 6 (cN v) lo) 7 (cN v) hi, x.2.2.2)
def c_cost (x : gS) (v w : Int32) : Int32 := if p_hasN x.1 v = 0 then -1 else if q_within w 99 = 0 then -2 else x.2.2.1 8 (cN v)
def c_costS (x : gS) (v w : Int32) : gS := if p_hasN x.1 v = 0 then x else if q_within w 99 = 0 then x else (q_fg x.1, x.2.1, gU x.2.2.1 8 (cN v) w, x.2.2.2)
def c_row (x : gS) (se ri : Int32) : Int32 := if se < 0 then -2 else if 2 < se then -2 else if q_within ri 1000 = 0 then -2 else if x.1 1 8 < 8 then x.1 1 8 else -4
def c_rowS (x : gS) (se ri : Int32) : gS := if se < 0 then x else if 2 < se then x else if q_within ri 1000 = 0 then x else (if x.1 1 8 < 8 then gU (q_fg x.1) 1 8 (x.1 1 8 + 1) else q_fg x.1, x.2.1, if x.1 1 8 < 8 then p_addRA x.2.2.1 (cN (x.1 1 8)) se ri else x.2.2.1, x.2.2.2)
def c_right (x : gS) (r w : Int32) : Int32 := if p_hasR x.1 x.2.2.1 r = 0 then -1 else if q_within w 1000 = 0 then -2 else 1
def c_rightS (x : gS) (r w : Int32) : gS := if p_hasR x.1 x.2.2.1 r = 0 then x else if q_within w 1000 = 0 then x else (q_fg x.1, x.2.1, gU x.2.2.1 10 (cN r) w, x.2.2.2)
def c_factor (x : gS) (r v w : Int32) : Int32 := if p_hasR x.1 x.2.2.1 r = 0 then -1 else if p_hasN x.1 v = 0 then -1 else if q_within w 9 = 0 then -2 else 1
def c_factorS (x : gS) (r v w : Int32) : gS := if p_hasR x.1 x.2.2.1 r = 0 then x else if p_hasN x.1 v = 0 then x else if q_within w 9 = 0 then x else (q_fg x.1, x.2.1, gU x.2.2.1 (40 + cN r) (cN v) w, x.2.2.2)
def c_drop (x : gS) (r : Int32) : Int32 := if p_hasR x.1 x.2.2.1 r = 0 then -1 else p_cnt (gU x.2.2.1 12 (cN r) 0) (cN (x.1 1 8))
def c_dropS (x : gS) (r : Int32) : gS := if p_hasR x.1 x.2.2.1 r = 0 then x else (q_fg x.1, x.2.1, gU x.2.2.1 12 (cN r) 0, x.2.2.2)
def c_clear (x : gS) : Int32 := x.1 1 7
def c_clearS (x : gS) : gS := (gU (gU (q_fg x.1) 1 7 0) 1 8 0, x.2.1, x.2.2.1, x.2.2.2)
def h_r (x : gS) : Int32 := s_hp x.1 x.2.1 x.2.2.1 x.2.2.2 (cN (x.1 1 7)) (cN (x.1 1 8))
def hS (x : gS) : gS := (s_hpI x.1 x.2.1 x.2.2.1 x.2.2.2 (cN (x.1 1 7)) (cN (x.1 1 8)), s_hpJ x.1 x.2.1 x.2.2.1 x.2.2.2 (cN (x.1 1 7)) (cN (x.1 1 8)), s_hpA x.1 x.2.1 x.2.2.1 x.2.2.2 (cN (x.1 1 7)) (cN (x.1 1 8)), s_hpB x.1 x.2.1 x.2.2.1 x.2.2.2 (cN (x.1 1 7)) (cN (x.1 1 8)))
def fS (x : gS) : gS := (s_ffI x.1, s_ffJ x.1 x.2.1 x.2.2.1 x.2.2.2 (cN (x.1 1 7)) (cN (x.1 4 7)) (cN (x.1 4 8)), s_ffA x.1 x.2.1 x.2.2.1 x.2.2.2 (cN (x.1 1 7)) (cN (x.1 4 7)) (cN (x.1 4 8)), s_ffB x.1 x.2.1 x.2.2.1 x.2.2.2 (cN (x.1 1 7)) (cN (x.1 4 7)) (cN (x.1 4 8)))
def bS (x : gS) : gS := (s_brI x.1 x.2.1 x.2.2.1 x.2.2.2 (cN (x.1 1 7)) (cN (x.1 1 8)), s_brJ x.1 x.2.1 x.2.2.1 x.2.2.2 (cN (x.1 1 7)) (cN (x.1 1 8)), s_brA x.1 x.2.1 x.2.2.1 x.2.2.2 (cN (x.1 1 7)) (cN (x.1 1 8)), s_brB x.1 x.2.1 x.2.2.1 x.2.2.2 (cN (x.1 1 7)) (cN (x.1 1 8)))
def c_run (x : gS) : Int32 := if h_r x = 0 then 0 else 1
def c_least (x : gS) (pt : Int32) : Int64 := if q_z01 pt = 0 then -2 else if h_r x = 0 then -3 else s_part (s_sum (fS (hS x)).2.2.1 (fS (hS x)).2.2.2 (cN ((hS x).1 1 7))) ((fS (hS x)).2.1 2 4) pt
def c_leastS (x : gS) (pt : Int32) : gS := if q_z01 pt = 0 then x else if h_r x = 0 then hS x else fS (hS x)
def c_value (x : gS) (v pt : Int32) : Int64 := if p_hasN x.1 v = 0 then -1 else if q_z01 pt = 0 then -2 else if h_r x = 0 then -3 else s_part ((fS (hS x)).2.2.2 20 (cN v)) ((fS (hS x)).2.1 2 4) pt
def c_valueS (x : gS) (v pt : Int32) : gS := if p_hasN x.1 v = 0 then x else if q_z01 pt = 0 then x else if h_r x = 0 then hS x else fS (hS x)
def c_tight (x : gS) (r : Int32) : Int32 := if p_hasR x.1 x.2.2.1 r = 0 then -1 else if h_r x = 0 then -3 else if s_tsum (fS (hS x)).2.2.1 (fS (hS x)).2.2.2 (cN r) (cN ((hS x).1 1 7)) = ((fS (hS x)).2.2.1 10 (cN r)).toInt64 * (fS (hS x)).2.1 2 4 then 1 else 0
def c_tightS (x : gS) (r : Int32) : gS := if p_hasR x.1 x.2.2.1 r = 0 then x else if h_r x = 0 then hS x else fS (hS x)
/-- refusalOfEnd -/
def q_re (x : gS) (v sd pt : Int32) : Int32 := if p_hasN x.1 v = 0 then -1 else if q_z01 sd = 0 then -2 else if q_z01 pt = 0 then -2 else if h_r x = 0 then -3 else 0
def q_reS (x : gS) (v sd pt : Int32) : gS := if p_hasN x.1 v = 0 then x else if q_z01 sd = 0 then x else if q_z01 pt = 0 then x else hS x
def eS (x : gS) (n0 : Nat) (sd : Int32) : gS := (x.1, (s_ebX x.1 x.2.1 x.2.2.1 x.2.2.2 (cN (x.1 4 7)) (cN (x.1 4 8)) n0 sd).1, (s_ebX x.1 x.2.1 x.2.2.1 x.2.2.2 (cN (x.1 4 7)) (cN (x.1 4 8)) n0 sd).2.1, (s_ebX x.1 x.2.1 x.2.2.1 x.2.2.2 (cN (x.1 4 7)) (cN (x.1 4 8)) n0 sd).2.2)
def aS (x : gS) (n0 : Nat) (sd : Int32) : gS := (x.1, (s_endX x.1 x.2.1 (d_thaw x.2.2.1 (cN (x.1 4 8))) x.2.2.2 (cN (x.1 4 7)) (cN (x.1 4 8)) n0 (s_w sd)).1, (s_endX x.1 x.2.1 (d_thaw x.2.2.1 (cN (x.1 4 8))) x.2.2.2 (cN (x.1 4 7)) (cN (x.1 4 8)) n0 (s_w sd)).2.1, (s_endX x.1 x.2.1 (d_thaw x.2.2.1 (cN (x.1 4 8))) x.2.2.2 (cN (x.1 4 7)) (cN (x.1 4 8)) n0 (s_w sd)).2.2)
def c_reach (x : gS) (v sd pt : Int32) : Int64 := if q_re x v sd pt = 0 then s_eb (hS x).1 (hS x).2.1 (hS x).2.2.1 (hS x).2.2.2 (cN ((hS x).1 4 7)) (cN ((hS x).1 4 8)) (cN v) sd pt else (q_re x v sd pt).toInt64
def c_reachS (x : gS) (v sd pt : Int32) : gS := if q_re x v sd pt = 0 then eS (hS x) (cN v) sd else q_reS x v sd pt
def c_far (x : gS) (v sd pt : Int32) : Int64 := if q_re x v sd pt = 0 then s_end (hS x).1 (hS x).2.1 (d_thaw (hS x).2.2.1 (cN ((hS x).1 4 8))) (hS x).2.2.2 (cN ((hS x).1 4 7)) (cN ((hS x).1 4 8)) (cN v) (s_w sd) pt else (q_re x v sd pt).toInt64
def c_farS (x : gS) (v sd pt : Int32) : gS := if q_re x v sd pt = 0 then aS (hS x) (cN v) sd else q_reS x v sd pt
def q_brow (x : gS) (k : Int32) : Int32 := s_brow ((bS (hS x)).1 2 9) k (cN ((hS x).1 1 8)) 0 0
def c_barred (x : gS) (k : Int32) : Int32 := if h_r x = 0 then if 0 ≤ q_brow x k then q_brow x k else -1 else -3
def c_barredS (x : gS) : gS := if h_r x = 0 then bS (hS x) else hS x
def wS (x : gS) : gS := (w_hpI x.1 x.2.2.1 (cN (x.1 1 7)) (cN (x.1 1 8)), x.2.1, w_hpA x.1 x.2.2.1 (cN (x.1 1 7)) (cN (x.1 1 8)), x.2.2.2)
def q_rw (x : gS) : Int32 := if p_cw x.2.2.1 (cN (x.1 1 7)) ≤ 20000 then if w_hp x.1 x.2.2.1 (cN (x.1 1 7)) (cN (x.1 1 8)) = 0 then -3 else 0 else -4
def q_rwS (x : gS) : gS := if p_cw x.2.2.1 (cN (x.1 1 7)) ≤ 20000 then wS x else x
def c_whole (x : gS) : Int32 := if q_rw x = 0 then (q_rwS x).1 3 7 else q_rw x
def c_wholeValue (x : gS) (v : Int32) : Int32 := if p_hasN x.1 v = 0 then -1 else if q_rw x = 0 then (q_rwS x).2.2.1 23 (cN v) else q_rw x
def c_wholeValueS (x : gS) (v : Int32) : gS := if p_hasN x.1 v = 0 then x else q_rwS x
def c_isWhole (x : gS) : Int32 := if q_rw x = -4 then -4 else if q_rw x = 0 then 1 else 0
def c_told (x : gS) (w : Int32) : Int32 := if w = 0 then x.1 1 7 else if w = 1 then p_cnt x.2.2.1 (cN (x.1 1 8)) else if w = 2 then x.1 1 8 else -2
theorem q_re_0 {x : gS} {v sd pt : Int32} (h : q_re x v sd pt = 0) : ¬ p_hasN x.1 v = 0 ∧ q_reS x v sd pt = hS x := by
  unfold q_re at h
  unfold q_reS
  split at h
  · exact absurd h (by decide)
  · rename_i c1
    split at h
    · exact absurd h (by decide)
    · rename_i c2
      split at h
      · exact absurd h (by decide)
      · rename_i c3
        exact ⟨c1, by rw [if_neg c1, if_neg c2, if_neg c3]⟩

theorem i01n {P : Prop} [Decidable P] (c : ¬ (if P then (1 : Int32) else 0) = 0) : 1 = if P then (1 : Int32) else 0 := by
  by_cases h : P
  · rw [if_pos h]
  · exact absurd (if_neg h) c

set_option maxHeartbeats 4000000 in
set_option maxRecDepth 100000 in
theorem kX4_isWithin (l : Launch) (D : va_G) (ad : Nat → Nat) (cy : Nat → ClassId) (I : gF) (J : gL) (a : gF) (b : gL) (sz : Nat) (v w : Int32)  : gMi l yX4_isWithin wsX4_isWithin ({ frames := 0, cells := 0, slots := 0, locals := 0 }) D ad cy I J a b sz [.int v, .int w] (fun r u => r = q_within v w ∧ u = (I, J, a, b)) := by
  refine Met.ofW (cc := cX4_isWithin) (maxL := 2) (ret := some .boolean) (by decide) rfl ?_
  intro p e s m args below meth c s₁ B hml hv
  obtain ⟨hargs, hsz, G⟩ := gx_begin hv
  subst hsz
  have hx := B.exec
  have hb := B.bytes
  have hr := B.returns
  have hts := atoms_spec (ws := wsX4_isWithin) B.pre
  have hown : s.vm.findClass RX4 = some m.cls := findClass_of_methodNamed B.named
  have hlocks := B.notSynchronized
  have hl := lv_entry ([.int v, .int w]) (n := 2) (Nat.le_of_ble_eq_true rfl)
  have hent := lg_entry_eq m ([.int v, .int w]) 2
  rw [← hargs] at hent
  rw [hent]
  clear hent
  generalize (lg_sl ([.int v, .int w]) ++ List.replicate (2 - (lg_sl ([.int v, .int w])).length) Slot.unset).toArray = ls at hl ⊢
  have hl : lv_has ls 2 [(0, .int v), (1, .int w)] := hl
  generalize hA : gA ad s.heap.size = A at G ⊢
  generalize hH : s.heap = H at G ⊢
  refine gx_q (fun Q hQ => ?_)
  refine lv_iload_n hx hb dX4_isWithin_0 rfl (lv_at hl 0 rfl) ?_
  refine lv_iload_n hx hb dX4_isWithin_1 rfl (lv_at hl 1 rfl) ?_
  refine lv_ineg hx hb dX4_isWithin_2 ?_
  refine lv_icmp_lt (tgt := 15) hx hb dX4_isWithin_3 (by decide) (fun c3 => ?_) (fun c3 => ?_)
  · skip
    refine lv_iconst (v := 0) hx hb dX4_isWithin_15 (by decide) ?_
    exact gx_zr hx hb hr hlocks G hQ (rfl) ⟨by first | rfl | (simp only [q_within, c3, reduceIte]; done) | (simp [q_within, c3, reduceIte]; done), rfl⟩ dX4_isWithin_16
  · skip
    refine lv_iload_n hx hb dX4_isWithin_6 rfl (lv_at hl 0 rfl) ?_
    refine lv_iload_n hx hb dX4_isWithin_7 rfl (lv_at hl 1 rfl) ?_
    refine lv_icmp_gt (tgt := 15) hx hb dX4_isWithin_8 (by decide) (fun c8 => ?_) (fun c8 => ?_)
    · skip
      refine lv_iconst (v := 0) hx hb dX4_isWithin_15 (by decide) ?_
      exact gx_zr hx hb hr hlocks G hQ (rfl) ⟨by first | rfl | (simp only [q_within, c3, c8, reduceIte]; done) | (simp [q_within, c3, c8, reduceIte]; done), rfl⟩ dX4_isWithin_16
    · skip
      refine lv_iconst (v := 1) hx hb dX4_isWithin_11 (by decide) ?_
      refine lv_goto (tgt := 16) hx hb dX4_isWithin_12 (by decide) ?_
      exact gx_zr hx hb hr hlocks G hQ (rfl) ⟨by first | rfl | (simp only [q_within, c3, c8, reduceIte]; done) | (simp [q_within, c3, c8, reduceIte]; done), rfl⟩ dX4_isWithin_16

set_option maxHeartbeats 4000000 in
set_option maxRecDepth 100000 in
theorem kX4_isSpan (l : Launch) (D : va_G) (ad : Nat → Nat) (cy : Nat → ClassId) (I : gF) (J : gL) (a : gF) (b : gL) (sz : Nat) (lo hi : Int32)  : gMi l yX4_isSpan wsX4_isSpan ({ frames := 1, cells := 0, slots := 0, locals := 21 }) D ad cy I J a b sz [.int lo, .int hi] (fun r u => r = q_span lo hi ∧ u = (I, J, a, b)) := by
  refine Met.ofW (cc := cX4_isSpan) (maxL := 2) (ret := some .boolean) (by decide) rfl ?_
  intro p e s m args below meth c s₁ B hml hv
  obtain ⟨hargs, hsz, G⟩ := gx_begin hv
  subst hsz
  have hx := B.exec
  have hb := B.bytes
  have hr := B.returns
  have hts := atoms_spec (ws := wsX4_isSpan) B.pre
  have hown : s.vm.findClass RX4 = some m.cls := findClass_of_methodNamed B.named
  have hlocks := B.notSynchronized
  have hl := lv_entry ([.int lo, .int hi]) (n := 2) (Nat.le_of_ble_eq_true rfl)
  have hent := lg_entry_eq m ([.int lo, .int hi]) 2
  rw [← hargs] at hent
  rw [hent]
  clear hent
  generalize (lg_sl ([.int lo, .int hi]) ++ List.replicate (2 - (lg_sl ([.int lo, .int hi])).length) Slot.unset).toArray = ls at hl ⊢
  have hl : lv_has ls 2 [(0, .int lo), (1, .int hi)] := hl
  generalize hA : gA ad s.heap.size = A at G ⊢
  generalize hH : s.heap = H at G ⊢
  refine gx_q (fun Q hQ => ?_)
  refine lv_iload_n hx hb dX4_isSpan_0 rfl (lv_at hl 0 rfl) ?_
  refine lv_bipush (v := 100) hx hb dX4_isSpan_1 (by decide) ?_
  refine gx_dSi (v := (q_within lo 100)) (I1 := I) (J1 := J) (a1 := a) (b1 := b) (As := [.int lo, .int 100]) (rest := []) ⟨hx, hb, hml, hown, hts⟩ G (kX4_isWithin l D ad cy I J a b H.size lo 100) (va_cwS 2 hts gX4_isSpan_X4_isWithin rfl rfl rfl (by decide +kernel) ⟨Nat.le_of_ble_eq_true rfl, Nat.le_of_ble_eq_true rfl⟩) rfl hl.1 rfl (Nat.le_of_ble_eq_true rfl) ⟨Nat.zero_le _, Nat.zero_le _⟩ dX4_isSpan_3 (fun H locs G => ?_)
  refine lv_if_eq (tgt := 27) hx hb dX4_isSpan_6 (by decide) (fun c6 => ?_) (fun c6 => ?_)
  · skip
    refine lv_iconst (v := 0) hx hb dX4_isSpan_27 (by decide) ?_
    exact gx_zr hx hb hr hlocks G hQ (rfl) ⟨by first | rfl | (simp only [q_span, c6, reduceIte]; done) | (simp [q_span, c6, reduceIte]; done), rfl⟩ dX4_isSpan_28
  · skip
    refine lv_iload_n hx hb dX4_isSpan_9 rfl (lv_at hl 1 rfl) ?_
    refine lv_bipush (v := 100) hx hb dX4_isSpan_10 (by decide) ?_
    refine gx_dSi (v := (q_within hi 100)) (I1 := I) (J1 := J) (a1 := a) (b1 := b) (As := [.int hi, .int 100]) (rest := []) ⟨hx, hb, hml, hown, hts⟩ G (kX4_isWithin l D ad cy I J a b H.size hi 100) (va_cwS 2 hts gX4_isSpan_X4_isWithin rfl rfl rfl (by decide +kernel) ⟨Nat.le_of_ble_eq_true rfl, Nat.le_of_ble_eq_true rfl⟩) rfl hl.1 rfl (Nat.le_of_ble_eq_true rfl) ⟨Nat.zero_le _, Nat.zero_le _⟩ dX4_isSpan_12 (fun H locs G => ?_)
    refine lv_if_eq (tgt := 27) hx hb dX4_isSpan_15 (by decide) (fun c15 => ?_) (fun c15 => ?_)
    · skip
      refine lv_iconst (v := 0) hx hb dX4_isSpan_27 (by decide) ?_
      exact gx_zr hx hb hr hlocks G hQ (rfl) ⟨by first | rfl | (simp only [q_span, c6, c15, reduceIte]; done) | (simp [q_span, c6, c15, reduceIte]; done), rfl⟩ dX4_isSpan_28
    · skip
      refine lv_iload_n hx hb dX4_isSpan_18 rfl (lv_at hl 0 rfl) ?_
      refine lv_iload_n hx hb dX4_isSpan_19 rfl (lv_at hl 1 rfl) ?_
      refine lv_icmp_gt (tgt := 27) hx hb dX4_isSpan_20 (by decide) (fun c20 => ?_) (fun c20 => ?_)
      · skip
        refine lv_iconst (v := 0) hx hb dX4_isSpan_27 (by decide) ?_
        exact gx_zr hx hb hr hlocks G hQ (rfl) ⟨by first | rfl | (simp only [q_span, c6, c15, c20, reduceIte]; done) | (simp [q_span, c6, c15, c20, reduceIte]; done), rfl⟩ dX4_isSpan_28
      · skip
        refine lv_iconst (v := 1) hx hb dX4_isSpan_23 (by decide) ?_
        refine lv_goto (tgt := 28) hx hb dX4_isSpan_24 (by decide) ?_
        exact gx_zr hx hb hr hlocks G hQ (rfl) ⟨by first | rfl | (simp only [q_span, c6, c15, c20, reduceIte]; done) | (simp [q_span, c6, c15, c20, reduceIte]; done), rfl⟩ dX4_isSpan_28

set_option maxHeartbeats 4000000 in
set_option maxRecDepth 100000 in
theorem kX4_isZeroOrOne (l : Launch) (D : va_G) (ad : Nat → Nat) (cy : Nat → ClassId) (I : gF) (J : gL) (a : gF) (b : gL) (sz : Nat) (v : Int32)  : gMi l yX4_isZeroOrOne wsX4_isZeroOrOne ({ frames := 0, cells := 0, slots := 0, locals := 0 }) D ad cy I J a b sz [.int v] (fun r u => r = q_z01 v ∧ u = (I, J, a, b)) := by
  refine Met.ofW (cc := cX4_isZeroOrOne) (maxL := 1) (ret := some .boolean) (by decide) rfl ?_
  intro p e s m args below meth c s₁ B hml hv
  obtain ⟨hargs, hsz, G⟩ := gx_begin hv
  subst hsz
  have hx := B.exec
  have hb := B.bytes
  have hr := B.returns
  have hts := atoms_spec (ws := wsX4_isZeroOrOne) B.pre
  have hown : s.vm.findClass RX4 = some m.cls := findClass_of_methodNamed B.named
  have hlocks := B.notSynchronized
  have hl := lv_entry ([.int v]) (n := 1) (Nat.le_of_ble_eq_true rfl)
  have hent := lg_entry_eq m ([.int v]) 1
  rw [← hargs] at hent
  rw [hent]
  clear hent
  generalize (lg_sl ([.int v]) ++ List.replicate (1 - (lg_sl ([.int v])).length) Slot.unset).toArray = ls at hl ⊢
  have hl : lv_has ls 1 [(0, .int v)] := hl
  generalize hA : gA ad s.heap.size = A at G ⊢
  generalize hH : s.heap = H at G ⊢
  refine gx_q (fun Q hQ => ?_)
  refine lv_iload_n hx hb dX4_isZeroOrOne_0 rfl (lv_at hl 0 rfl) ?_
  refine lv_if_eq (tgt := 9) hx hb dX4_isZeroOrOne_1 (by decide) (fun c1 => ?_) (fun c1 => ?_)
  · skip
    refine lv_iconst (v := 1) hx hb dX4_isZeroOrOne_9 (by decide) ?_
    refine lv_goto (tgt := 14) hx hb dX4_isZeroOrOne_10 (by decide) ?_
    exact gx_zr hx hb hr hlocks G hQ (rfl) ⟨by first | rfl | (simp only [q_z01, c1, reduceIte]; done) | (simp [q_z01, c1, reduceIte]; done), rfl⟩ dX4_isZeroOrOne_14
  · skip
    refine lv_iload_n hx hb dX4_isZeroOrOne_4 rfl (lv_at hl 0 rfl) ?_
    refine lv_iconst (v := 1) hx hb dX4_isZeroOrOne_5 (by decide) ?_
    refine lv_icmp_ne (tgt := 13) hx hb dX4_isZeroOrOne_6 (by decide) (fun c6 => ?_) (fun c6 => ?_)
    · skip
      refine lv_iconst (v := 0) hx hb dX4_isZeroOrOne_13 (by decide) ?_
      exact gx_zr hx hb hr hlocks G hQ (rfl) ⟨by first | rfl | (simp only [q_z01, c1, c6, reduceIte]; done) | (simp [q_z01, c1, c6, reduceIte]; done), rfl⟩ dX4_isZeroOrOne_14
    · skip
      refine lv_iconst (v := 1) hx hb dX4_isZeroOrOne_9 (by decide) ?_
      refine lv_goto (tgt := 14) hx hb dX4_isZeroOrOne_10 (by decide) ?_
      exact gx_zr hx hb hr hlocks G hQ (rfl) ⟨by first | rfl | (simp only [q_z01, c1, c6, reduceIte]; done) | (simp [q_z01, c1, c6, reduceIte]; done), rfl⟩ dX4_isZeroOrOne_14

set_option maxHeartbeats 4000000 in
set_option maxRecDepth 100000 in
theorem kX4_forgetAnswers (l : Launch) (D : va_G) (ad : Nat → Nat) (cy : Nat → ClassId) (I : gF) (J : gL) (a : gF) (b : gL) (sz : Nat)   : gMv l yX4_forgetAnswers wsX4_forgetAnswers ({ frames := 1, cells := 0, slots := 0, locals := 20 }) D ad cy I J a b sz [.ref (ad 0)] (fun u => u = (q_fg I, J, a, b)) := by
  refine Met.ofW (cc := cX4_forgetAnswers) (maxL := 1) (ret := none) (by decide) rfl ?_
  intro p e s m args below meth c s₁ B hml hv
  obtain ⟨hargs, hsz, G⟩ := gx_begin hv
  subst hsz
  have hx := B.exec
  have hb := B.bytes
  have hr := B.returns
  have hts := atoms_spec (ws := wsX4_forgetAnswers) B.pre
  have hown : s.vm.findClass RX4 = some m.cls := findClass_of_methodNamed B.named
  have hlocks := B.notSynchronized
  have hinX4 : ∀ w ∈ wsX40, w ∈ wsX4_forgetAnswers := by decide +kernel
  have lk21 := hts (.fieldLink RX4 21 "ExactSimplex" "solver" "LExactSimplex$Solver;") (by decide +kernel)
  have lk28 := hts (.fieldLink RX4 28 "ExactSimplex" "search" "LExactSimplex$WholeSearch;") (by decide +kernel)
  have hl := lv_entry ([.ref (ad 0)]) (n := 1) (Nat.le_of_ble_eq_true rfl)
  have hent := lg_entry_eq m ([.ref (ad 0)]) 1
  rw [← hargs] at hent
  rw [hent]
  clear hent
  generalize (lg_sl ([.ref (ad 0)]) ++ List.replicate (1 - (lg_sl ([.ref (ad 0)])).length) Slot.unset).toArray = ls at hl ⊢
  have hl : lv_has ls 1 [(0, .ref (ad 0))] := hl
  generalize hA : gA ad s.heap.size = A at G ⊢
  generalize hH : s.heap = H at G ⊢
  refine gx_q (fun Q hQ => ?_)
  refine lv_aload_n hx hb dX4_forgetAnswers_0 rfl (lv_at hl 0 rfl) ?_
  refine gx_get hx hb hts hinX4 hown G 0 (by decide) rfl rfl 1 (by decide) rfl lk21 rfl (v := .ref (ad 2)) rfl dX4_forgetAnswers_1 ?_
  refine gx_dVv (I1 := (gU (gU (gU I 2 5 0) 2 7 0) 2 8 0)) (J1 := J) (a1 := a) (b1 := b) (As := []) (rest := []) ⟨hx, hb, hml, hown, hts⟩ G 2 (kX2_forget l D ad cy I J a b H.size ) (cwV 0 hts gX4_forgetAnswers_X2_forget rfl rfl rfl (by decide +kernel) ⟨Nat.le_of_ble_eq_true rfl, Nat.le_of_ble_eq_true rfl⟩) (by decide) rfl rfl rfl rfl hl.1 rfl (Nat.le_of_ble_eq_true rfl) ⟨Nat.zero_le _, Nat.zero_le _⟩ dX4_forgetAnswers_4 (fun H locs G => ?_)
  refine lv_aload_n hx hb dX4_forgetAnswers_7 rfl (lv_at hl 0 rfl) ?_
  refine gx_get hx hb hts hinX4 hown G 0 (by decide) rfl rfl 2 (by decide) rfl lk28 rfl (v := .ref (ad 3)) rfl dX4_forgetAnswers_8 ?_
  refine gx_dVv (I1 := (q_fg I)) (J1 := J) (a1 := a) (b1 := b) (As := []) (rest := []) ⟨hx, hb, hml, hown, hts⟩ G 3 (kX3_forget l D ad cy (gU (gU (gU I 2 5 0) 2 7 0) 2 8 0) J a b H.size ) (cwV 0 hts gX4_forgetAnswers_X3_forget rfl rfl rfl (by decide +kernel) ⟨Nat.le_of_ble_eq_true rfl, Nat.le_of_ble_eq_true rfl⟩) (by decide) rfl rfl rfl rfl hl.1 rfl (Nat.le_of_ble_eq_true rfl) ⟨Nat.zero_le _, Nat.zero_le _⟩ dX4_forgetAnswers_11 (fun H locs G => ?_)
  exact gx_vr hx hb hr hlocks G hQ (by first | rfl | (simp only [reduceIte]; done) | (simp [reduceIte]; done)) dX4_forgetAnswers_14

set_option maxHeartbeats 4000000 in
set_option maxRecDepth 100000 in
theorem kX4_name (l : Launch) (D : va_G) (ad : Nat → Nat) (cy : Nat → ClassId) (I : gF) (J : gL) (a : gF) (b : gL) (sz : Nat) (lo hi : Int32) (hok : cOK I a) : gMi l yX4_name wsX4_name ({ frames := 2, cells := 0, slots := 0, locals := 42 }) D ad cy I J a b sz [.ref (ad 0), .int lo, .int hi] (fun res u => res = c_name (I, J, a, b) lo hi ∧ u = c_nameS (I, J, a, b) lo hi) := by
  refine Met.ofW (cc := cX4_name) (maxL := 3) (ret := some .int) (by decide) rfl ?_
  intro p e s m args below meth c s₁ B hml hv
  obtain ⟨hargs, hsz, G⟩ := gx_begin hv
  subst hsz
  have hx := B.exec
  have hb := B.bytes
  have hr := B.returns
  have hts := atoms_spec (ws := wsX4_name) B.pre
  have hown : s.vm.findClass RX4 = some m.cls := findClass_of_methodNamed B.named
  have hlocks := B.notSynchronized
  have hinX4 : ∀ w ∈ wsX40, w ∈ wsX4_name := by decide +kernel
  have lk10 := hts (.fieldLink RX4 10 "ExactSimplex" "problem" "LExactSimplex$Problem;") (by decide +kernel)
  have hl := lv_entry ([.ref (ad 0), .int lo, .int hi]) (n := 3) (Nat.le_of_ble_eq_true rfl)
  have hent := lg_entry_eq m ([.ref (ad 0), .int lo, .int hi]) 3
  rw [← hargs] at hent
  rw [hent]
  clear hent
  generalize (lg_sl ([.ref (ad 0), .int lo, .int hi]) ++ List.replicate (3 - (lg_sl ([.ref (ad 0), .int lo, .int hi])).length) Slot.unset).toArray = ls at hl ⊢
  have hl : lv_has ls 3 [(0, .ref (ad 0)), (1, .int lo), (2, .int hi)] := hl
  generalize hA : gA ad s.heap.size = A at G ⊢
  generalize hH : s.heap = H at G ⊢
  refine gx_q (fun Q hQ => ?_)
  obtain ⟨⟨hnn, hnn2⟩, ⟨hnr, hnr2⟩, ⟨hnl, hnl2⟩, ⟨hnc, hnc2⟩, hbas, hout, h26, h38⟩ := id hok
  refine lv_iload_n hx hb dX4_name_0 rfl (lv_at hl 1 rfl) ?_
  refine lv_iload_n hx hb dX4_name_1 rfl (lv_at hl 2 rfl) ?_
  refine gx_dSi (v := (q_span lo hi)) (I1 := I) (J1 := J) (a1 := a) (b1 := b) (As := [.int lo, .int hi]) (rest := []) ⟨hx, hb, hml, hown, hts⟩ G (kX4_isSpan l D ad cy I J a b H.size lo hi) (va_cwS 2 hts gX4_name_X4_isSpan rfl rfl rfl (by decide +kernel) ⟨Nat.le_of_ble_eq_true rfl, Nat.le_of_ble_eq_true rfl⟩) rfl hl.1 rfl (Nat.le_of_ble_eq_true rfl) ⟨Nat.zero_le _, Nat.zero_le _⟩ dX4_name_2 (fun H locs G => ?_)
  refine lv_if_ne (tgt := 11) hx hb dX4_name_5 (by decide) (fun c5 => ?_) (fun c5 => ?_)
  · skip
    refine lv_aload_n hx hb dX4_name_11 rfl (lv_at hl 0 rfl) ?_
    refine gx_dVv (I1 := (q_fg I)) (J1 := J) (a1 := a) (b1 := b) (As := []) (rest := []) ⟨hx, hb, hml, hown, hts⟩ G 0 (kX4_forgetAnswers l D ad cy I J a b H.size ) (cwV 0 hts gX4_name_X4_forgetAnswers rfl rfl rfl (by decide +kernel) ⟨Nat.le_of_ble_eq_true rfl, Nat.le_of_ble_eq_true rfl⟩) (by decide) rfl rfl rfl rfl hl.1 rfl (Nat.le_of_ble_eq_true rfl) ⟨Nat.zero_le _, Nat.zero_le _⟩ dX4_name_12 (fun H locs G => ?_)
    refine lv_aload_n hx hb dX4_name_15 rfl (lv_at hl 0 rfl) ?_
    refine gx_get hx hb hts hinX4 hown G 0 (by decide) rfl rfl 0 (by decide) rfl lk10 rfl (v := .ref (ad 1)) rfl dX4_name_16 ?_
    refine lv_iload_n hx hb dX4_name_19 rfl (lv_at hl 1 rfl) ?_
    refine lv_iload_n hx hb dX4_name_20 rfl (lv_at hl 2 rfl) ?_
    refine gx_dVi (v := (if (q_fg I) 1 7 < 5 then (q_fg I) 1 7 else -4)) (I1 := (if (q_fg I) 1 7 < 5 then gU (q_fg I) 1 7 ((q_fg I) 1 7 + 1) else (q_fg I))) (J1 := J) (a1 := (if (q_fg I) 1 7 < 5 then p_addNA a (cN (I 1 7)) lo hi else a)) (b1 := b) (As := [.int lo, .int hi]) (rest := []) ⟨hx, hb, hml, hown, hts⟩ G 1 (kX1_addName l D ad cy (q_fg I) J a b H.size (cN (I 1 7)) lo hi hnn hnn2) (cwV 2 hts gX4_name_X1_addName rfl rfl rfl (by decide +kernel) ⟨Nat.le_of_ble_eq_true rfl, Nat.le_of_ble_eq_true rfl⟩) (by decide) rfl rfl rfl rfl hl.1 rfl (Nat.le_of_ble_eq_true rfl) ⟨Nat.zero_le _, Nat.zero_le _⟩ dX4_name_21 (fun H locs G => ?_)
    exact gx_ir hx hb hr hlocks G hQ ⟨by simp only [c_name, c5, reduceIte]; rfl, by simp only [c_nameS, c5, reduceIte]; rfl⟩ dX4_name_24
  · skip
    refine lv_bipush (v := -2) hx hb dX4_name_8 (by decide) ?_
    exact gx_ir hx hb hr hlocks G hQ ⟨by simp only [c_name, c5, reduceIte], by simp only [c_nameS, c5, reduceIte]⟩ dX4_name_10

set_option maxHeartbeats 4000000 in
set_option maxRecDepth 100000 in
theorem kX4_span (l : Launch) (D : va_G) (ad : Nat → Nat) (cy : Nat → ClassId) (I : gF) (J : gL) (a : gF) (b : gL) (sz : Nat) (v lo hi : Int32) (hok : cOK I a) : gMi l yX4_span wsX4_span ({ frames := 2, cells := 0, slots := 0, locals := 42 }) D ad cy I J a b sz [.ref (ad 0), .int v, .int lo, .int hi] (fun res u => res = c_span (I, J, a, b) v lo hi ∧ u = c_spanS (I, J, a, b) v lo hi) := by
  refine Met.ofW (cc := cX4_span) (maxL := 4) (ret := some .int) (by decide) rfl ?_
  intro p e s m args below meth c s₁ B hml hv
  obtain ⟨hargs, hsz, G⟩ := gx_begin hv
  subst hsz
  have hx := B.exec
  have hb := B.bytes
  have hr := B.returns
  have hts := atoms_spec (ws := wsX4_span) B.pre
  have hown : s.vm.findClass RX4 = some m.cls := findClass_of_methodNamed B.named
  have hlocks := B.notSynchronized
  have hinX1 : ∀ w ∈ wsX10, w ∈ wsX4_span := by decide +kernel
  have hinX4 : ∀ w ∈ wsX40, w ∈ wsX4_span := by decide +kernel
  have lk10 := hts (.fieldLink RX4 10 "ExactSimplex" "problem" "LExactSimplex$Problem;") (by decide +kernel)
  have lk47 := hts (.fieldLink RX4 47 "ExactSimplex$Problem" "lows" "[I") (by decide +kernel)
  have lk51 := hts (.fieldLink RX4 51 "ExactSimplex$Problem" "highs" "[I") (by decide +kernel)
  have hl := lv_entry ([.ref (ad 0), .int v, .int lo, .int hi]) (n := 4) (Nat.le_of_ble_eq_true rfl)
  have hent := lg_entry_eq m ([.ref (ad 0), .int v, .int lo, .int hi]) 4
  rw [← hargs] at hent
  rw [hent]
  clear hent
  generalize (lg_sl ([.ref (ad 0), .int v, .int lo, .int hi]) ++ List.replicate (4 - (lg_sl ([.ref (ad 0), .int v, .int lo, .int hi])).length) Slot.unset).toArray = ls at hl ⊢
  have hl : lv_has ls 4 [(0, .ref (ad 0)), (1, .int v), (2, .int lo), (3, .int hi)] := hl
  generalize hA : gA ad s.heap.size = A at G ⊢
  generalize hH : s.heap = H at G ⊢
  refine gx_q (fun Q hQ => ?_)
  obtain ⟨⟨hnn, hnn2⟩, ⟨hnr, hnr2⟩, ⟨hnl, hnl2⟩, ⟨hnc, hnc2⟩, hbas, hout, h26, h38⟩ := id hok
  refine lv_aload_n hx hb dX4_span_0 rfl (lv_at hl 0 rfl) ?_
  refine gx_get hx hb hts hinX4 hown G 0 (by decide) rfl rfl 0 (by decide) rfl lk10 rfl (v := .ref (ad 1)) rfl dX4_span_1 ?_
  refine lv_iload_n hx hb dX4_span_4 rfl (lv_at hl 1 rfl) ?_
  refine gx_dVi (v := (p_hasN I v)) (I1 := I) (J1 := J) (a1 := a) (b1 := b) (As := [.int v]) (rest := []) ⟨hx, hb, hml, hown, hts⟩ G 1 (kX1_hasName l D ad cy I J a b H.size v) (cwV 1 hts gX4_span_X1_hasName rfl rfl rfl (by decide +kernel) ⟨Nat.le_of_ble_eq_true rfl, Nat.le_of_ble_eq_true rfl⟩) (by decide) rfl rfl rfl rfl hl.1 rfl (Nat.le_of_ble_eq_true rfl) ⟨Nat.zero_le _, Nat.zero_le _⟩ dX4_span_5 (fun H locs G => ?_)
  refine lv_if_ne (tgt := 13) hx hb dX4_span_8 (by decide) (fun c8 => ?_) (fun c8 => ?_)
  · skip
    obtain ⟨j, hj, ej⟩ := p_hasN_ix hnn (by omega) c8
    have ecl : cN v = j := cN_of ej (by omega)
    refine lv_iload_n hx hb dX4_span_13 rfl (lv_at hl 2 rfl) ?_
    refine lv_iload_n hx hb dX4_span_14 rfl (lv_at hl 3 rfl) ?_
    refine gx_dSi (v := (q_span lo hi)) (I1 := I) (J1 := J) (a1 := a) (b1 := b) (As := [.int lo, .int hi]) (rest := []) ⟨hx, hb, hml, hown, hts⟩ G (kX4_isSpan l D ad cy I J a b H.size lo hi) (va_cwS 2 hts gX4_span_X4_isSpan rfl rfl rfl (by decide +kernel) ⟨Nat.le_of_ble_eq_true rfl, Nat.le_of_ble_eq_true rfl⟩) rfl hl.1 rfl (Nat.le_of_ble_eq_true rfl) ⟨Nat.zero_le _, Nat.zero_le _⟩ dX4_span_15 (fun H locs G => ?_)
    refine lv_if_ne (tgt := 24) hx hb dX4_span_18 (by decide) (fun c18 => ?_) (fun c18 => ?_)
    · skip
      refine lv_aload_n hx hb dX4_span_24 rfl (lv_at hl 0 rfl) ?_
      refine gx_dVv (I1 := (q_fg I)) (J1 := J) (a1 := a) (b1 := b) (As := []) (rest := []) ⟨hx, hb, hml, hown, hts⟩ G 0 (kX4_forgetAnswers l D ad cy I J a b H.size ) (cwV 0 hts gX4_span_X4_forgetAnswers rfl rfl rfl (by decide +kernel) ⟨Nat.le_of_ble_eq_true rfl, Nat.le_of_ble_eq_true rfl⟩) (by decide) rfl rfl rfl rfl hl.1 rfl (Nat.le_of_ble_eq_true rfl) ⟨Nat.zero_le _, Nat.zero_le _⟩ dX4_span_25 (fun H locs G => ?_)
      refine lv_aload_n hx hb dX4_span_28 rfl (lv_at hl 0 rfl) ?_
      refine gx_get hx hb hts hinX4 hown G 0 (by decide) rfl rfl 0 (by decide) rfl lk10 rfl (v := .ref (ad 1)) rfl dX4_span_29 ?_
      refine gx_get hx hb hts hinX1 hown G 1 (by decide) rfl rfl 0 (by decide) rfl lk47 rfl (v := .ref (ad 6)) rfl dX4_span_32 ?_
      refine lv_iload_n hx hb dX4_span_35 rfl (lv_at hl 1 rfl) ?_
      refine lv_iload_n hx hb dX4_span_36 rfl (lv_at hl 2 rfl) ?_
      refine gx_iast hx hb G 6 (by decide) (rfl) (by decide) j ej (by omega) dX4_span_37 (fun H locs G => ?_)
      refine lv_aload_n hx hb dX4_span_38 rfl (lv_at hl 0 rfl) ?_
      refine gx_get hx hb hts hinX4 hown G 0 (by decide) rfl rfl 0 (by decide) rfl lk10 rfl (v := .ref (ad 1)) rfl dX4_span_39 ?_
      refine gx_get hx hb hts hinX1 hown G 1 (by decide) rfl rfl 1 (by decide) rfl lk51 rfl (v := .ref (ad 7)) rfl dX4_span_42 ?_
      refine lv_iload_n hx hb dX4_span_45 rfl (lv_at hl 1 rfl) ?_
      refine lv_iload_n hx hb dX4_span_46 rfl (lv_at hl 3 rfl) ?_
      refine gx_iast hx hb G 7 (by decide) (rfl) (by decide) j ej (by omega) dX4_span_47 (fun H locs G => ?_)
      refine lv_iconst (v := 1) hx hb dX4_span_48 (by decide) ?_
      exact gx_ir hx hb hr hlocks G hQ ⟨by simp only [c_span, c8, ecl, c18, reduceIte], by simp only [c_spanS, c8, ecl, c18, reduceIte]⟩ dX4_span_49
    · skip
      refine lv_bipush (v := -2) hx hb dX4_span_21 (by decide) ?_
      exact gx_ir hx hb hr hlocks G hQ ⟨by simp only [c_span, c8, ecl, c18, reduceIte], by simp only [c_spanS, c8, ecl, c18, reduceIte]⟩ dX4_span_23
  · skip
    refine lv_iconst (v := -1) hx hb dX4_span_11 (by decide) ?_
    exact gx_ir hx hb hr hlocks G hQ ⟨by simp only [c_span, c8, reduceIte], by simp only [c_spanS, c8, reduceIte]⟩ dX4_span_12

set_option maxHeartbeats 4000000 in
set_option maxRecDepth 100000 in
theorem kX4_cost (l : Launch) (D : va_G) (ad : Nat → Nat) (cy : Nat → ClassId) (I : gF) (J : gL) (a : gF) (b : gL) (sz : Nat) (v w : Int32) (hok : cOK I a) : gMi l yX4_cost wsX4_cost ({ frames := 2, cells := 0, slots := 0, locals := 40 }) D ad cy I J a b sz [.ref (ad 0), .int v, .int w] (fun res u => res = c_cost (I, J, a, b) v w ∧ u = c_costS (I, J, a, b) v w) := by
  refine Met.ofW (cc := cX4_cost) (maxL := 4) (ret := some .int) (by decide) rfl ?_
  intro p e s m args below meth c s₁ B hml hv
  obtain ⟨hargs, hsz, G⟩ := gx_begin hv
  subst hsz
  have hx := B.exec
  have hb := B.bytes
  have hr := B.returns
  have hts := atoms_spec (ws := wsX4_cost) B.pre
  have hown : s.vm.findClass RX4 = some m.cls := findClass_of_methodNamed B.named
  have hlocks := B.notSynchronized
  have hinX1 : ∀ w ∈ wsX10, w ∈ wsX4_cost := by decide +kernel
  have hinX4 : ∀ w ∈ wsX40, w ∈ wsX4_cost := by decide +kernel
  have lk10 := hts (.fieldLink RX4 10 "ExactSimplex" "problem" "LExactSimplex$Problem;") (by decide +kernel)
  have lk57 := hts (.fieldLink RX4 57 "ExactSimplex$Problem" "costs" "[I") (by decide +kernel)
  have hl := lv_entry ([.ref (ad 0), .int v, .int w]) (n := 4) (Nat.le_of_ble_eq_true rfl)
  have hent := lg_entry_eq m ([.ref (ad 0), .int v, .int w]) 4
  rw [← hargs] at hent
  rw [hent]
  clear hent
  generalize (lg_sl ([.ref (ad 0), .int v, .int w]) ++ List.replicate (4 - (lg_sl ([.ref (ad 0), .int v, .int w])).length) Slot.unset).toArray = ls at hl ⊢
  have hl : lv_has ls 4 [(0, .ref (ad 0)), (1, .int v), (2, .int w)] := hl
  generalize hA : gA ad s.heap.size = A at G ⊢
  generalize hH : s.heap = H at G ⊢
  refine gx_q (fun Q hQ => ?_)
  obtain ⟨⟨hnn, hnn2⟩, ⟨hnr, hnr2⟩, ⟨hnl, hnl2⟩, ⟨hnc, hnc2⟩, hbas, hout, h26, h38⟩ := id hok
  refine lv_aload_n hx hb dX4_cost_0 rfl (lv_at hl 0 rfl) ?_
  refine gx_get hx hb hts hinX4 hown G 0 (by decide) rfl rfl 0 (by decide) rfl lk10 rfl (v := .ref (ad 1)) rfl dX4_cost_1 ?_
  refine lv_iload_n hx hb dX4_cost_4 rfl (lv_at hl 1 rfl) ?_
  refine gx_dVi (v := (p_hasN I v)) (I1 := I) (J1 := J) (a1 := a) (b1 := b) (As := [.int v]) (rest := []) ⟨hx, hb, hml, hown, hts⟩ G 1 (kX1_hasName l D ad cy I J a b H.size v) (cwV 1 hts gX4_cost_X1_hasName rfl rfl rfl (by decide +kernel) ⟨Nat.le_of_ble_eq_true rfl, Nat.le_of_ble_eq_true rfl⟩) (by decide) rfl rfl rfl rfl hl.1 rfl (Nat.le_of_ble_eq_true rfl) ⟨Nat.zero_le _, Nat.zero_le _⟩ dX4_cost_5 (fun H locs G => ?_)
  refine lv_if_ne (tgt := 13) hx hb dX4_cost_8 (by decide) (fun c8 => ?_) (fun c8 => ?_)
  · skip
    obtain ⟨j, hj, ej⟩ := p_hasN_ix hnn (by omega) c8
    have ecl : cN v = j := cN_of ej (by omega)
    refine lv_iload_n hx hb dX4_cost_13 rfl (lv_at hl 2 rfl) ?_
    refine lv_bipush (v := 99) hx hb dX4_cost_14 (by decide) ?_
    refine gx_dSi (v := (q_within w 99)) (I1 := I) (J1 := J) (a1 := a) (b1 := b) (As := [.int w, .int 99]) (rest := []) ⟨hx, hb, hml, hown, hts⟩ G (kX4_isWithin l D ad cy I J a b H.size w 99) (va_cwS 2 hts gX4_cost_X4_isWithin rfl rfl rfl (by decide +kernel) ⟨Nat.le_of_ble_eq_true rfl, Nat.le_of_ble_eq_true rfl⟩) rfl hl.1 rfl (Nat.le_of_ble_eq_true rfl) ⟨Nat.zero_le _, Nat.zero_le _⟩ dX4_cost_16 (fun H locs G => ?_)
    refine lv_if_ne (tgt := 25) hx hb dX4_cost_19 (by decide) (fun c19 => ?_) (fun c19 => ?_)
    · skip
      refine lv_aload_n hx hb dX4_cost_25 rfl (lv_at hl 0 rfl) ?_
      refine gx_dVv (I1 := (q_fg I)) (J1 := J) (a1 := a) (b1 := b) (As := []) (rest := []) ⟨hx, hb, hml, hown, hts⟩ G 0 (kX4_forgetAnswers l D ad cy I J a b H.size ) (cwV 0 hts gX4_cost_X4_forgetAnswers rfl rfl rfl (by decide +kernel) ⟨Nat.le_of_ble_eq_true rfl, Nat.le_of_ble_eq_true rfl⟩) (by decide) rfl rfl rfl rfl hl.1 rfl (Nat.le_of_ble_eq_true rfl) ⟨Nat.zero_le _, Nat.zero_le _⟩ dX4_cost_26 (fun H locs G => ?_)
      refine lv_aload_n hx hb dX4_cost_29 rfl (lv_at hl 0 rfl) ?_
      refine gx_get hx hb hts hinX4 hown G 0 (by decide) rfl rfl 0 (by decide) rfl lk10 rfl (v := .ref (ad 1)) rfl dX4_cost_30 ?_
      refine gx_get hx hb hts hinX1 hown G 1 (by decide) rfl rfl 2 (by decide) rfl lk57 rfl (v := .ref (ad 8)) rfl dX4_cost_33 ?_
      refine lv_iload_n hx hb dX4_cost_36 rfl (lv_at hl 1 rfl) ?_
      refine gx_iald hx hb G 8 (by decide) (rfl) (by decide) j ej (by omega) dX4_cost_37 ?_
      refine lv_istore_n (lv' := [(3, .int (a 8 j)), (0, .ref (ad 0)), (1, .int v), (2, .int w)]) hx hb dX4_cost_38 rfl hl (by decide) rfl (fun ls hl => ?_)
      refine lv_aload_n hx hb dX4_cost_39 rfl (lv_at hl 1 rfl) ?_
      refine gx_get hx hb hts hinX4 hown G 0 (by decide) rfl rfl 0 (by decide) rfl lk10 rfl (v := .ref (ad 1)) rfl dX4_cost_40 ?_
      refine gx_get hx hb hts hinX1 hown G 1 (by decide) rfl rfl 2 (by decide) rfl lk57 rfl (v := .ref (ad 8)) rfl dX4_cost_43 ?_
      refine lv_iload_n hx hb dX4_cost_46 rfl (lv_at hl 2 rfl) ?_
      refine lv_iload_n hx hb dX4_cost_47 rfl (lv_at hl 3 rfl) ?_
      refine gx_iast hx hb G 8 (by decide) (rfl) (by decide) j ej (by omega) dX4_cost_48 (fun H locs G => ?_)
      refine lv_iload_n hx hb dX4_cost_49 rfl (lv_at hl 0 rfl) ?_
      exact gx_ir hx hb hr hlocks G hQ ⟨by simp only [c_cost, c8, ecl, c19, reduceIte], by simp only [c_costS, c8, ecl, c19, reduceIte]⟩ dX4_cost_50
    · skip
      refine lv_bipush (v := -2) hx hb dX4_cost_22 (by decide) ?_
      exact gx_ir hx hb hr hlocks G hQ ⟨by simp only [c_cost, c8, ecl, c19, reduceIte], by simp only [c_costS, c8, ecl, c19, reduceIte]⟩ dX4_cost_24
  · skip
    refine lv_iconst (v := -1) hx hb dX4_cost_11 (by decide) ?_
    exact gx_ir hx hb hr hlocks G hQ ⟨by simp only [c_cost, c8, reduceIte], by simp only [c_costS, c8, reduceIte]⟩ dX4_cost_12

set_option maxHeartbeats 4000000 in
set_option maxRecDepth 100000 in
theorem kX4_row (l : Launch) (D : va_G) (ad : Nat → Nat) (cy : Nat → ClassId) (I : gF) (J : gL) (a : gF) (b : gL) (sz : Nat) (se ri : Int32) (hok : cOK I a) : gMi l yX4_row wsX4_row ({ frames := 2, cells := 0, slots := 0, locals := 40 }) D ad cy I J a b sz [.ref (ad 0), .int se, .int ri] (fun res u => res = c_row (I, J, a, b) se ri ∧ u = c_rowS (I, J, a, b) se ri) := by
  refine Met.ofW (cc := cX4_row) (maxL := 3) (ret := some .int) (by decide) rfl ?_
  intro p e s m args below meth c s₁ B hml hv
  obtain ⟨hargs, hsz, G⟩ := gx_begin hv
  subst hsz
  have hx := B.exec
  have hb := B.bytes
  have hr := B.returns
  have hts := atoms_spec (ws := wsX4_row) B.pre
  have hown : s.vm.findClass RX4 = some m.cls := findClass_of_methodNamed B.named
  have hlocks := B.notSynchronized
  have hinX4 : ∀ w ∈ wsX40, w ∈ wsX4_row := by decide +kernel
  have lk10 := hts (.fieldLink RX4 10 "ExactSimplex" "problem" "LExactSimplex$Problem;") (by decide +kernel)
  have hl := lv_entry ([.ref (ad 0), .int se, .int ri]) (n := 3) (Nat.le_of_ble_eq_true rfl)
  have hent := lg_entry_eq m ([.ref (ad 0), .int se, .int ri]) 3
  rw [← hargs] at hent
  rw [hent]
  clear hent
  generalize (lg_sl ([.ref (ad 0), .int se, .int ri]) ++ List.replicate (3 - (lg_sl ([.ref (ad 0), .int se, .int ri])).length) Slot.unset).toArray = ls at hl ⊢
  have hl : lv_has ls 3 [(0, .ref (ad 0)), (1, .int se), (2, .int ri)] := hl
  generalize hA : gA ad s.heap.size = A at G ⊢
  generalize hH : s.heap = H at G ⊢
  refine gx_q (fun Q hQ => ?_)
  obtain ⟨⟨hnn, hnn2⟩, ⟨hnr, hnr2⟩, ⟨hnl, hnl2⟩, ⟨hnc, hnc2⟩, hbas, hout, h26, h38⟩ := id hok
  refine lv_iload_n hx hb dX4_row_0 rfl (lv_at hl 1 rfl) ?_
  refine lv_if_lt (tgt := 19) hx hb dX4_row_1 (by decide) (fun c1 => ?_) (fun c1 => ?_)
  · skip
    refine lv_bipush (v := -2) hx hb dX4_row_19 (by decide) ?_
    exact gx_ir hx hb hr hlocks G hQ ⟨by simp only [c_row, c1, reduceIte], by simp only [c_rowS, c1, reduceIte]⟩ dX4_row_21
  · skip
    refine lv_iload_n hx hb dX4_row_4 rfl (lv_at hl 1 rfl) ?_
    refine lv_iconst (v := 2) hx hb dX4_row_5 (by decide) ?_
    refine lv_icmp_gt (tgt := 19) hx hb dX4_row_6 (by decide) (fun c6 => ?_) (fun c6 => ?_)
    · skip
      refine lv_bipush (v := -2) hx hb dX4_row_19 (by decide) ?_
      exact gx_ir hx hb hr hlocks G hQ ⟨by simp only [c_row, c1, c6, reduceIte], by simp only [c_rowS, c1, c6, reduceIte]⟩ dX4_row_21
    · skip
      refine lv_iload_n hx hb dX4_row_9 rfl (lv_at hl 2 rfl) ?_
      refine lv_sipush (v := 1000) hx hb dX4_row_10 (by decide) ?_
      refine gx_dSi (v := (q_within ri 1000)) (I1 := I) (J1 := J) (a1 := a) (b1 := b) (As := [.int ri, .int 1000]) (rest := []) ⟨hx, hb, hml, hown, hts⟩ G (kX4_isWithin l D ad cy I J a b H.size ri 1000) (va_cwS 2 hts gX4_row_X4_isWithin rfl rfl rfl (by decide +kernel) ⟨Nat.le_of_ble_eq_true rfl, Nat.le_of_ble_eq_true rfl⟩) rfl hl.1 rfl (Nat.le_of_ble_eq_true rfl) ⟨Nat.zero_le _, Nat.zero_le _⟩ dX4_row_13 (fun H locs G => ?_)
      refine lv_if_ne (tgt := 22) hx hb dX4_row_16 (by decide) (fun c16 => ?_) (fun c16 => ?_)
      · skip
        refine lv_aload_n hx hb dX4_row_22 rfl (lv_at hl 0 rfl) ?_
        refine gx_dVv (I1 := (q_fg I)) (J1 := J) (a1 := a) (b1 := b) (As := []) (rest := []) ⟨hx, hb, hml, hown, hts⟩ G 0 (kX4_forgetAnswers l D ad cy I J a b H.size ) (cwV 0 hts gX4_row_X4_forgetAnswers rfl rfl rfl (by decide +kernel) ⟨Nat.le_of_ble_eq_true rfl, Nat.le_of_ble_eq_true rfl⟩) (by decide) rfl rfl rfl rfl hl.1 rfl (Nat.le_of_ble_eq_true rfl) ⟨Nat.zero_le _, Nat.zero_le _⟩ dX4_row_23 (fun H locs G => ?_)
        refine lv_aload_n hx hb dX4_row_26 rfl (lv_at hl 0 rfl) ?_
        refine gx_get hx hb hts hinX4 hown G 0 (by decide) rfl rfl 0 (by decide) rfl lk10 rfl (v := .ref (ad 1)) rfl dX4_row_27 ?_
        refine lv_iload_n hx hb dX4_row_30 rfl (lv_at hl 1 rfl) ?_
        refine lv_iload_n hx hb dX4_row_31 rfl (lv_at hl 2 rfl) ?_
        refine gx_dVi (v := (if (q_fg I) 1 8 < 8 then (q_fg I) 1 8 else -4)) (I1 := (if (q_fg I) 1 8 < 8 then gU (q_fg I) 1 8 ((q_fg I) 1 8 + 1) else (q_fg I))) (J1 := J) (a1 := (if (q_fg I) 1 8 < 8 then p_addRA a (cN (I 1 8)) se ri else a)) (b1 := b) (As := [.int se, .int ri]) (rest := []) ⟨hx, hb, hml, hown, hts⟩ G 1 (kX1_addRow l D ad cy (q_fg I) J a b H.size (cN (I 1 8)) se ri hnr hnr2) (cwV 2 hts gX4_row_X1_addRow rfl rfl rfl (by decide +kernel) ⟨Nat.le_of_ble_eq_true rfl, Nat.le_of_ble_eq_true rfl⟩) (by decide) rfl rfl rfl rfl hl.1 rfl (Nat.le_of_ble_eq_true rfl) ⟨Nat.zero_le _, Nat.zero_le _⟩ dX4_row_32 (fun H locs G => ?_)
        exact gx_ir hx hb hr hlocks G hQ ⟨by simp only [c_row, c1, c6, c16, reduceIte]; rfl, by simp only [c_rowS, c1, c6, c16, reduceIte]; rfl⟩ dX4_row_35
      · skip
        refine lv_bipush (v := -2) hx hb dX4_row_19 (by decide) ?_
        exact gx_ir hx hb hr hlocks G hQ ⟨by simp only [c_row, c1, c6, c16, reduceIte], by simp only [c_rowS, c1, c6, c16, reduceIte]⟩ dX4_row_21

set_option maxHeartbeats 4000000 in
set_option maxRecDepth 100000 in
theorem kX4_right (l : Launch) (D : va_G) (ad : Nat → Nat) (cy : Nat → ClassId) (I : gF) (J : gL) (a : gF) (b : gL) (sz : Nat) (r w : Int32) (hok : cOK I a) : gMi l yX4_right wsX4_right ({ frames := 2, cells := 0, slots := 0, locals := 40 }) D ad cy I J a b sz [.ref (ad 0), .int r, .int w] (fun res u => res = c_right (I, J, a, b) r w ∧ u = c_rightS (I, J, a, b) r w) := by
  refine Met.ofW (cc := cX4_right) (maxL := 3) (ret := some .int) (by decide) rfl ?_
  intro p e s m args below meth c s₁ B hml hv
  obtain ⟨hargs, hsz, G⟩ := gx_begin hv
  subst hsz
  have hx := B.exec
  have hb := B.bytes
  have hr := B.returns
  have hts := atoms_spec (ws := wsX4_right) B.pre
  have hown : s.vm.findClass RX4 = some m.cls := findClass_of_methodNamed B.named
  have hlocks := B.notSynchronized
  have hinX1 : ∀ w ∈ wsX10, w ∈ wsX4_right := by decide +kernel
  have hinX4 : ∀ w ∈ wsX40, w ∈ wsX4_right := by decide +kernel
  have lk10 := hts (.fieldLink RX4 10 "ExactSimplex" "problem" "LExactSimplex$Problem;") (by decide +kernel)
  have lk66 := hts (.fieldLink RX4 66 "ExactSimplex$Problem" "rights" "[I") (by decide +kernel)
  have hl := lv_entry ([.ref (ad 0), .int r, .int w]) (n := 3) (Nat.le_of_ble_eq_true rfl)
  have hent := lg_entry_eq m ([.ref (ad 0), .int r, .int w]) 3
  rw [← hargs] at hent
  rw [hent]
  clear hent
  generalize (lg_sl ([.ref (ad 0), .int r, .int w]) ++ List.replicate (3 - (lg_sl ([.ref (ad 0), .int r, .int w])).length) Slot.unset).toArray = ls at hl ⊢
  have hl : lv_has ls 3 [(0, .ref (ad 0)), (1, .int r), (2, .int w)] := hl
  generalize hA : gA ad s.heap.size = A at G ⊢
  generalize hH : s.heap = H at G ⊢
  refine gx_q (fun Q hQ => ?_)
  obtain ⟨⟨hnn, hnn2⟩, ⟨hnr, hnr2⟩, ⟨hnl, hnl2⟩, ⟨hnc, hnc2⟩, hbas, hout, h26, h38⟩ := id hok
  refine lv_aload_n hx hb dX4_right_0 rfl (lv_at hl 0 rfl) ?_
  refine gx_get hx hb hts hinX4 hown G 0 (by decide) rfl rfl 0 (by decide) rfl lk10 rfl (v := .ref (ad 1)) rfl dX4_right_1 ?_
  refine lv_iload_n hx hb dX4_right_4 rfl (lv_at hl 1 rfl) ?_
  refine gx_dVi (v := (p_hasR I a r)) (I1 := I) (J1 := J) (a1 := a) (b1 := b) (As := [.int r]) (rest := []) ⟨hx, hb, hml, hown, hts⟩ G 1 (kX1_hasRow l D ad cy I J a b H.size (cN (I 1 8)) r hnr hnr2) (cwV 1 hts gX4_right_X1_hasRow rfl rfl rfl (by decide +kernel) ⟨Nat.le_of_ble_eq_true rfl, Nat.le_of_ble_eq_true rfl⟩) (by decide) rfl rfl rfl rfl hl.1 rfl (Nat.le_of_ble_eq_true rfl) ⟨Nat.zero_le _, Nat.zero_le _⟩ dX4_right_5 (fun H locs G => ?_)
  refine lv_if_ne (tgt := 13) hx hb dX4_right_8 (by decide) (fun c8 => ?_) (fun c8 => ?_)
  · skip
    obtain ⟨j, hj, ej⟩ := p_hasR_ix hnr (by omega) c8
    have eclj : cN r = j := cN_of ej (by omega)
    refine lv_iload_n hx hb dX4_right_13 rfl (lv_at hl 2 rfl) ?_
    refine lv_sipush (v := 1000) hx hb dX4_right_14 (by decide) ?_
    refine gx_dSi (v := (q_within w 1000)) (I1 := I) (J1 := J) (a1 := a) (b1 := b) (As := [.int w, .int 1000]) (rest := []) ⟨hx, hb, hml, hown, hts⟩ G (kX4_isWithin l D ad cy I J a b H.size w 1000) (va_cwS 2 hts gX4_right_X4_isWithin rfl rfl rfl (by decide +kernel) ⟨Nat.le_of_ble_eq_true rfl, Nat.le_of_ble_eq_true rfl⟩) rfl hl.1 rfl (Nat.le_of_ble_eq_true rfl) ⟨Nat.zero_le _, Nat.zero_le _⟩ dX4_right_17 (fun H locs G => ?_)
    refine lv_if_ne (tgt := 26) hx hb dX4_right_20 (by decide) (fun c20 => ?_) (fun c20 => ?_)
    · skip
      refine lv_aload_n hx hb dX4_right_26 rfl (lv_at hl 0 rfl) ?_
      refine gx_dVv (I1 := (q_fg I)) (J1 := J) (a1 := a) (b1 := b) (As := []) (rest := []) ⟨hx, hb, hml, hown, hts⟩ G 0 (kX4_forgetAnswers l D ad cy I J a b H.size ) (cwV 0 hts gX4_right_X4_forgetAnswers rfl rfl rfl (by decide +kernel) ⟨Nat.le_of_ble_eq_true rfl, Nat.le_of_ble_eq_true rfl⟩) (by decide) rfl rfl rfl rfl hl.1 rfl (Nat.le_of_ble_eq_true rfl) ⟨Nat.zero_le _, Nat.zero_le _⟩ dX4_right_27 (fun H locs G => ?_)
      refine lv_aload_n hx hb dX4_right_30 rfl (lv_at hl 0 rfl) ?_
      refine gx_get hx hb hts hinX4 hown G 0 (by decide) rfl rfl 0 (by decide) rfl lk10 rfl (v := .ref (ad 1)) rfl dX4_right_31 ?_
      refine gx_get hx hb hts hinX1 hown G 1 (by decide) rfl rfl 4 (by decide) rfl lk66 rfl (v := .ref (ad 10)) rfl dX4_right_34 ?_
      refine lv_iload_n hx hb dX4_right_37 rfl (lv_at hl 1 rfl) ?_
      refine lv_iload_n hx hb dX4_right_38 rfl (lv_at hl 2 rfl) ?_
      refine gx_iast hx hb G 10 (by decide) (rfl) (by decide) j ej (by omega) dX4_right_39 (fun H locs G => ?_)
      refine lv_iconst (v := 1) hx hb dX4_right_40 (by decide) ?_
      exact gx_ir hx hb hr hlocks G hQ ⟨by simp only [c_right, c8, eclj, c20, reduceIte], by simp only [c_rightS, c8, eclj, c20, reduceIte]⟩ dX4_right_41
    · skip
      refine lv_bipush (v := -2) hx hb dX4_right_23 (by decide) ?_
      exact gx_ir hx hb hr hlocks G hQ ⟨by simp only [c_right, c8, eclj, c20, reduceIte], by simp only [c_rightS, c8, eclj, c20, reduceIte]⟩ dX4_right_25
  · skip
    refine lv_iconst (v := -1) hx hb dX4_right_11 (by decide) ?_
    exact gx_ir hx hb hr hlocks G hQ ⟨by simp only [c_right, c8, reduceIte], by simp only [c_rightS, c8, reduceIte]⟩ dX4_right_12

set_option maxHeartbeats 4000000 in
set_option maxRecDepth 100000 in
theorem kX4_factor (l : Launch) (D : va_G) (ad : Nat → Nat) (cy : Nat → ClassId) (I : gF) (J : gL) (a : gF) (b : gL) (sz : Nat) (r v w : Int32) (hok : cOK I a) : gMi l yX4_factor wsX4_factor ({ frames := 2, cells := 0, slots := 0, locals := 40 }) D ad cy I J a b sz [.ref (ad 0), .int r, .int v, .int w] (fun res u => res = c_factor (I, J, a, b) r v w ∧ u = c_factorS (I, J, a, b) r v w) := by
  refine Met.ofW (cc := cX4_factor) (maxL := 4) (ret := some .int) (by decide) rfl ?_
  intro p e s m args below meth c s₁ B hml hv
  obtain ⟨hargs, hsz, G⟩ := gx_begin hv
  subst hsz
  have hx := B.exec
  have hb := B.bytes
  have hr := B.returns
  have hts := atoms_spec (ws := wsX4_factor) B.pre
  have hown : s.vm.findClass RX4 = some m.cls := findClass_of_methodNamed B.named
  have hlocks := B.notSynchronized
  have hinX1 : ∀ w ∈ wsX10, w ∈ wsX4_factor := by decide +kernel
  have hinX4 : ∀ w ∈ wsX40, w ∈ wsX4_factor := by decide +kernel
  have lk10 := hts (.fieldLink RX4 10 "ExactSimplex" "problem" "LExactSimplex$Problem;") (by decide +kernel)
  have lk69 := hts (.fieldLink RX4 69 "ExactSimplex$Problem" "factors" "[[I") (by decide +kernel)
  have hl := lv_entry ([.ref (ad 0), .int r, .int v, .int w]) (n := 4) (Nat.le_of_ble_eq_true rfl)
  have hent := lg_entry_eq m ([.ref (ad 0), .int r, .int v, .int w]) 4
  rw [← hargs] at hent
  rw [hent]
  clear hent
  generalize (lg_sl ([.ref (ad 0), .int r, .int v, .int w]) ++ List.replicate (4 - (lg_sl ([.ref (ad 0), .int r, .int v, .int w])).length) Slot.unset).toArray = ls at hl ⊢
  have hl : lv_has ls 4 [(0, .ref (ad 0)), (1, .int r), (2, .int v), (3, .int w)] := hl
  generalize hA : gA ad s.heap.size = A at G ⊢
  generalize hH : s.heap = H at G ⊢
  refine gx_q (fun Q hQ => ?_)
  obtain ⟨⟨hnn, hnn2⟩, ⟨hnr, hnr2⟩, ⟨hnl, hnl2⟩, ⟨hnc, hnc2⟩, hbas, hout, h26, h38⟩ := id hok
  refine lv_aload_n hx hb dX4_factor_0 rfl (lv_at hl 0 rfl) ?_
  refine gx_get hx hb hts hinX4 hown G 0 (by decide) rfl rfl 0 (by decide) rfl lk10 rfl (v := .ref (ad 1)) rfl dX4_factor_1 ?_
  refine lv_iload_n hx hb dX4_factor_4 rfl (lv_at hl 1 rfl) ?_
  refine gx_dVi (v := (p_hasR I a r)) (I1 := I) (J1 := J) (a1 := a) (b1 := b) (As := [.int r]) (rest := []) ⟨hx, hb, hml, hown, hts⟩ G 1 (kX1_hasRow l D ad cy I J a b H.size (cN (I 1 8)) r hnr hnr2) (cwV 1 hts gX4_factor_X1_hasRow rfl rfl rfl (by decide +kernel) ⟨Nat.le_of_ble_eq_true rfl, Nat.le_of_ble_eq_true rfl⟩) (by decide) rfl rfl rfl rfl hl.1 rfl (Nat.le_of_ble_eq_true rfl) ⟨Nat.zero_le _, Nat.zero_le _⟩ dX4_factor_5 (fun H locs G => ?_)
  refine lv_if_eq (tgt := 22) hx hb dX4_factor_8 (by decide) (fun c8 => ?_) (fun c8 => ?_)
  · skip
    refine lv_iconst (v := -1) hx hb dX4_factor_22 (by decide) ?_
    exact gx_ir hx hb hr hlocks G hQ ⟨by simp only [c_factor, c8, reduceIte], by simp only [c_factorS, c8, reduceIte]⟩ dX4_factor_23
  · skip
    obtain ⟨i, hi, ei⟩ := p_hasR_ix hnr (by omega) c8
    have ecli : cN r = i := cN_of ei (by omega)
    refine lv_aload_n hx hb dX4_factor_11 rfl (lv_at hl 0 rfl) ?_
    refine gx_get hx hb hts hinX4 hown G 0 (by decide) rfl rfl 0 (by decide) rfl lk10 rfl (v := .ref (ad 1)) rfl dX4_factor_12 ?_
    refine lv_iload_n hx hb dX4_factor_15 rfl (lv_at hl 2 rfl) ?_
    refine gx_dVi (v := (p_hasN I v)) (I1 := I) (J1 := J) (a1 := a) (b1 := b) (As := [.int v]) (rest := []) ⟨hx, hb, hml, hown, hts⟩ G 1 (kX1_hasName l D ad cy I J a b H.size v) (cwV 1 hts gX4_factor_X1_hasName rfl rfl rfl (by decide +kernel) ⟨Nat.le_of_ble_eq_true rfl, Nat.le_of_ble_eq_true rfl⟩) (by decide) rfl rfl rfl rfl hl.1 rfl (Nat.le_of_ble_eq_true rfl) ⟨Nat.zero_le _, Nat.zero_le _⟩ dX4_factor_16 (fun H locs G => ?_)
    refine lv_if_ne (tgt := 24) hx hb dX4_factor_19 (by decide) (fun c19 => ?_) (fun c19 => ?_)
    · skip
      obtain ⟨j, hj, ej⟩ := p_hasN_ix hnn (by omega) c19
      have ecl : cN v = j := cN_of ej (by omega)
      refine lv_iload_n hx hb dX4_factor_24 rfl (lv_at hl 3 rfl) ?_
      refine lv_bipush (v := 9) hx hb dX4_factor_25 (by decide) ?_
      refine gx_dSi (v := (q_within w 9)) (I1 := I) (J1 := J) (a1 := a) (b1 := b) (As := [.int w, .int 9]) (rest := []) ⟨hx, hb, hml, hown, hts⟩ G (kX4_isWithin l D ad cy I J a b H.size w 9) (va_cwS 2 hts gX4_factor_X4_isWithin rfl rfl rfl (by decide +kernel) ⟨Nat.le_of_ble_eq_true rfl, Nat.le_of_ble_eq_true rfl⟩) rfl hl.1 rfl (Nat.le_of_ble_eq_true rfl) ⟨Nat.zero_le _, Nat.zero_le _⟩ dX4_factor_27 (fun H locs G => ?_)
      refine lv_if_ne (tgt := 36) hx hb dX4_factor_30 (by decide) (fun c30 => ?_) (fun c30 => ?_)
      · skip
        refine lv_aload_n hx hb dX4_factor_36 rfl (lv_at hl 0 rfl) ?_
        refine gx_dVv (I1 := (q_fg I)) (J1 := J) (a1 := a) (b1 := b) (As := []) (rest := []) ⟨hx, hb, hml, hown, hts⟩ G 0 (kX4_forgetAnswers l D ad cy I J a b H.size ) (cwV 0 hts gX4_factor_X4_forgetAnswers rfl rfl rfl (by decide +kernel) ⟨Nat.le_of_ble_eq_true rfl, Nat.le_of_ble_eq_true rfl⟩) (by decide) rfl rfl rfl rfl hl.1 rfl (Nat.le_of_ble_eq_true rfl) ⟨Nat.zero_le _, Nat.zero_le _⟩ dX4_factor_37 (fun H locs G => ?_)
        refine lv_aload_n hx hb dX4_factor_40 rfl (lv_at hl 0 rfl) ?_
        refine gx_get hx hb hts hinX4 hown G 0 (by decide) rfl rfl 0 (by decide) rfl lk10 rfl (v := .ref (ad 1)) rfl dX4_factor_41 ?_
        refine gx_get hx hb hts hinX1 hown G 1 (by decide) rfl rfl 5 (by decide) rfl lk69 rfl (v := .ref (ad 11)) rfl dX4_factor_44 ?_
        refine lv_iload_n hx hb dX4_factor_47 rfl (lv_at hl 1 rfl) ?_
        refine gx_aald hx hb G 11 (by decide) rfl (Or.inl rfl) (by decide) i ei (by omega) dX4_factor_48 ?_
        refine lv_iload_n hx hb dX4_factor_49 rfl (lv_at hl 2 rfl) ?_
        refine lv_iload_n hx hb dX4_factor_50 rfl (lv_at hl 3 rfl) ?_
        refine gx_iast hx hb G (40 + i) (by omega) (gsh_F _ (by omega)) (by decide) j ej (by omega) dX4_factor_51 (fun H locs G => ?_)
        refine lv_iconst (v := 1) hx hb dX4_factor_52 (by decide) ?_
        exact gx_ir hx hb hr hlocks G hQ ⟨by simp only [c_factor, c8, ecli, c19, ecl, c30, reduceIte], by simp only [c_factorS, c8, ecli, c19, ecl, c30, reduceIte]⟩ dX4_factor_53
      · skip
        refine lv_bipush (v := -2) hx hb dX4_factor_33 (by decide) ?_
        exact gx_ir hx hb hr hlocks G hQ ⟨by simp only [c_factor, c8, ecli, c19, ecl, c30, reduceIte], by simp only [c_factorS, c8, ecli, c19, ecl, c30, reduceIte]⟩ dX4_factor_35
    · skip
      refine lv_iconst (v := -1) hx hb dX4_factor_22 (by decide) ?_
      exact gx_ir hx hb hr hlocks G hQ ⟨by simp only [c_factor, c8, ecli, c19, reduceIte], by simp only [c_factorS, c8, ecli, c19, reduceIte]⟩ dX4_factor_23

set_option maxHeartbeats 4000000 in
set_option maxRecDepth 100000 in
theorem kX4_drop (l : Launch) (D : va_G) (ad : Nat → Nat) (cy : Nat → ClassId) (I : gF) (J : gL) (a : gF) (b : gL) (sz : Nat) (r : Int32) (hok : cOK I a) : gMi l yX4_drop wsX4_drop ({ frames := 2, cells := 0, slots := 0, locals := 40 }) D ad cy I J a b sz [.ref (ad 0), .int r] (fun res u => res = c_drop (I, J, a, b) r ∧ u = c_dropS (I, J, a, b) r) := by
  refine Met.ofW (cc := cX4_drop) (maxL := 2) (ret := some .int) (by decide) rfl ?_
  intro p e s m args below meth c s₁ B hml hv
  obtain ⟨hargs, hsz, G⟩ := gx_begin hv
  subst hsz
  have hx := B.exec
  have hb := B.bytes
  have hr := B.returns
  have hts := atoms_spec (ws := wsX4_drop) B.pre
  have hown : s.vm.findClass RX4 = some m.cls := findClass_of_methodNamed B.named
  have hlocks := B.notSynchronized
  have hinX1 : ∀ w ∈ wsX10, w ∈ wsX4_drop := by decide +kernel
  have hinX4 : ∀ w ∈ wsX40, w ∈ wsX4_drop := by decide +kernel
  have lk10 := hts (.fieldLink RX4 10 "ExactSimplex" "problem" "LExactSimplex$Problem;") (by decide +kernel)
  have lk73 := hts (.fieldLink RX4 73 "ExactSimplex$Problem" "there" "[Z") (by decide +kernel)
  have hl := lv_entry ([.ref (ad 0), .int r]) (n := 2) (Nat.le_of_ble_eq_true rfl)
  have hent := lg_entry_eq m ([.ref (ad 0), .int r]) 2
  rw [← hargs] at hent
  rw [hent]
  clear hent
  generalize (lg_sl ([.ref (ad 0), .int r]) ++ List.replicate (2 - (lg_sl ([.ref (ad 0), .int r])).length) Slot.unset).toArray = ls at hl ⊢
  have hl : lv_has ls 2 [(0, .ref (ad 0)), (1, .int r)] := hl
  generalize hA : gA ad s.heap.size = A at G ⊢
  generalize hH : s.heap = H at G ⊢
  refine gx_q (fun Q hQ => ?_)
  obtain ⟨⟨hnn, hnn2⟩, ⟨hnr, hnr2⟩, ⟨hnl, hnl2⟩, ⟨hnc, hnc2⟩, hbas, hout, h26, h38⟩ := id hok
  refine lv_aload_n hx hb dX4_drop_0 rfl (lv_at hl 0 rfl) ?_
  refine gx_get hx hb hts hinX4 hown G 0 (by decide) rfl rfl 0 (by decide) rfl lk10 rfl (v := .ref (ad 1)) rfl dX4_drop_1 ?_
  refine lv_iload_n hx hb dX4_drop_4 rfl (lv_at hl 1 rfl) ?_
  refine gx_dVi (v := (p_hasR I a r)) (I1 := I) (J1 := J) (a1 := a) (b1 := b) (As := [.int r]) (rest := []) ⟨hx, hb, hml, hown, hts⟩ G 1 (kX1_hasRow l D ad cy I J a b H.size (cN (I 1 8)) r hnr hnr2) (cwV 1 hts gX4_drop_X1_hasRow rfl rfl rfl (by decide +kernel) ⟨Nat.le_of_ble_eq_true rfl, Nat.le_of_ble_eq_true rfl⟩) (by decide) rfl rfl rfl rfl hl.1 rfl (Nat.le_of_ble_eq_true rfl) ⟨Nat.zero_le _, Nat.zero_le _⟩ dX4_drop_5 (fun H locs G => ?_)
  refine lv_if_ne (tgt := 13) hx hb dX4_drop_8 (by decide) (fun c8 => ?_) (fun c8 => ?_)
  · skip
    obtain ⟨j, hj, ej⟩ := p_hasR_ix hnr (by omega) c8
    have eclj : cN r = j := cN_of ej (by omega)
    refine lv_aload_n hx hb dX4_drop_13 rfl (lv_at hl 0 rfl) ?_
    refine gx_dVv (I1 := (q_fg I)) (J1 := J) (a1 := a) (b1 := b) (As := []) (rest := []) ⟨hx, hb, hml, hown, hts⟩ G 0 (kX4_forgetAnswers l D ad cy I J a b H.size ) (cwV 0 hts gX4_drop_X4_forgetAnswers rfl rfl rfl (by decide +kernel) ⟨Nat.le_of_ble_eq_true rfl, Nat.le_of_ble_eq_true rfl⟩) (by decide) rfl rfl rfl rfl hl.1 rfl (Nat.le_of_ble_eq_true rfl) ⟨Nat.zero_le _, Nat.zero_le _⟩ dX4_drop_14 (fun H locs G => ?_)
    refine lv_aload_n hx hb dX4_drop_17 rfl (lv_at hl 0 rfl) ?_
    refine gx_get hx hb hts hinX4 hown G 0 (by decide) rfl rfl 0 (by decide) rfl lk10 rfl (v := .ref (ad 1)) rfl dX4_drop_18 ?_
    refine gx_get hx hb hts hinX1 hown G 1 (by decide) rfl rfl 6 (by decide) rfl lk73 rfl (v := .ref (ad 12)) rfl dX4_drop_21 ?_
    refine lv_iload_n hx hb dX4_drop_24 rfl (lv_at hl 1 rfl) ?_
    refine lv_iconst (v := 0) hx hb dX4_drop_25 (by decide) ?_
    refine gx_zast hx hb G 12 (by decide) (rfl) (by decide) j ej (by omega) (rfl) dX4_drop_26 (fun H locs G => ?_)
    refine lv_aload_n hx hb dX4_drop_27 rfl (lv_at hl 0 rfl) ?_
    refine gx_get hx hb hts hinX4 hown G 0 (by decide) rfl rfl 0 (by decide) rfl lk10 rfl (v := .ref (ad 1)) rfl dX4_drop_28 ?_
    refine gx_dVi (v := (p_cnt (gU a 12 j 0) (cN (I 1 8)))) (I1 := (q_fg I)) (J1 := J) (a1 := (gU a 12 j 0)) (b1 := b) (As := []) (rest := []) ⟨hx, hb, hml, hown, hts⟩ G 1 (kX1_countRows l D ad cy (q_fg I) J (gU a 12 j 0) b H.size (cN (I 1 8)) hnr hnr2) (cwV 0 hts gX4_drop_X1_countRows rfl rfl rfl (by decide +kernel) ⟨Nat.le_of_ble_eq_true rfl, Nat.le_of_ble_eq_true rfl⟩) (by decide) rfl rfl rfl rfl hl.1 rfl (Nat.le_of_ble_eq_true rfl) ⟨Nat.zero_le _, Nat.zero_le _⟩ dX4_drop_31 (fun H locs G => ?_)
    exact gx_ir hx hb hr hlocks G hQ ⟨by simp only [c_drop, c8, eclj, reduceIte], by simp only [c_dropS, c8, eclj, reduceIte]⟩ dX4_drop_34
  · skip
    refine lv_iconst (v := -1) hx hb dX4_drop_11 (by decide) ?_
    exact gx_ir hx hb hr hlocks G hQ ⟨by simp only [c_drop, c8, reduceIte], by simp only [c_dropS, c8, reduceIte]⟩ dX4_drop_12

set_option maxHeartbeats 4000000 in
set_option maxRecDepth 100000 in
theorem kX4_clear (l : Launch) (D : va_G) (ad : Nat → Nat) (cy : Nat → ClassId) (I : gF) (J : gL) (a : gF) (b : gL) (sz : Nat)  (hok : cOK I a) : gMi l yX4_clear wsX4_clear ({ frames := 2, cells := 0, slots := 0, locals := 40 }) D ad cy I J a b sz [.ref (ad 0)] (fun res u => res = c_clear (I, J, a, b)  ∧ u = c_clearS (I, J, a, b)) := by
  refine Met.ofW (cc := cX4_clear) (maxL := 2) (ret := some .int) (by decide) rfl ?_
  intro p e s m args below meth c s₁ B hml hv
  obtain ⟨hargs, hsz, G⟩ := gx_begin hv
  subst hsz
  have hx := B.exec
  have hb := B.bytes
  have hr := B.returns
  have hts := atoms_spec (ws := wsX4_clear) B.pre
  have hown : s.vm.findClass RX4 = some m.cls := findClass_of_methodNamed B.named
  have hlocks := B.notSynchronized
  have hinX1 : ∀ w ∈ wsX10, w ∈ wsX4_clear := by decide +kernel
  have hinX4 : ∀ w ∈ wsX40, w ∈ wsX4_clear := by decide +kernel
  have lk10 := hts (.fieldLink RX4 10 "ExactSimplex" "problem" "LExactSimplex$Problem;") (by decide +kernel)
  have lk81 := hts (.fieldLink RX4 81 "ExactSimplex$Problem" "names" "I") (by decide +kernel)
  have lk85 := hts (.fieldLink RX4 85 "ExactSimplex$Problem" "rows" "I") (by decide +kernel)
  have hl := lv_entry ([.ref (ad 0)]) (n := 2) (Nat.le_of_ble_eq_true rfl)
  have hent := lg_entry_eq m ([.ref (ad 0)]) 2
  rw [← hargs] at hent
  rw [hent]
  clear hent
  generalize (lg_sl ([.ref (ad 0)]) ++ List.replicate (2 - (lg_sl ([.ref (ad 0)])).length) Slot.unset).toArray = ls at hl ⊢
  have hl : lv_has ls 2 [(0, .ref (ad 0))] := hl
  generalize hA : gA ad s.heap.size = A at G ⊢
  generalize hH : s.heap = H at G ⊢
  refine gx_q (fun Q hQ => ?_)
  obtain ⟨⟨hnn, hnn2⟩, ⟨hnr, hnr2⟩, ⟨hnl, hnl2⟩, ⟨hnc, hnc2⟩, hbas, hout, h26, h38⟩ := id hok
  refine lv_aload_n hx hb dX4_clear_0 rfl (lv_at hl 0 rfl) ?_
  refine gx_dVv (I1 := (q_fg I)) (J1 := J) (a1 := a) (b1 := b) (As := []) (rest := []) ⟨hx, hb, hml, hown, hts⟩ G 0 (kX4_forgetAnswers l D ad cy I J a b H.size ) (cwV 0 hts gX4_clear_X4_forgetAnswers rfl rfl rfl (by decide +kernel) ⟨Nat.le_of_ble_eq_true rfl, Nat.le_of_ble_eq_true rfl⟩) (by decide) rfl rfl rfl rfl hl.1 rfl (Nat.le_of_ble_eq_true rfl) ⟨Nat.zero_le _, Nat.zero_le _⟩ dX4_clear_1 (fun H locs G => ?_)
  refine lv_aload_n hx hb dX4_clear_4 rfl (lv_at hl 0 rfl) ?_
  refine gx_get hx hb hts hinX4 hown G 0 (by decide) rfl rfl 0 (by decide) rfl lk10 rfl (v := .ref (ad 1)) rfl dX4_clear_5 ?_
  refine gx_get hx hb hts hinX1 hown G 1 (by decide) rfl rfl 7 (by decide) rfl lk81 rfl (v := .int ((q_fg I) 1 7)) rfl dX4_clear_8 ?_
  refine lv_istore_n (lv' := [(1, .int ((q_fg I) 1 7)), (0, .ref (ad 0))]) hx hb dX4_clear_11 rfl hl (by decide) rfl (fun ls hl => ?_)
  refine lv_aload_n hx hb dX4_clear_12 rfl (lv_at hl 1 rfl) ?_
  refine gx_get hx hb hts hinX4 hown G 0 (by decide) rfl rfl 0 (by decide) rfl lk10 rfl (v := .ref (ad 1)) rfl dX4_clear_13 ?_
  refine lv_iconst (v := 0) hx hb dX4_clear_16 (by decide) ?_
  refine gx_putI hx hb hts hinX1 tyX1 tyX1_ok nmX1 hown G 1 (by decide) rfl rfl 7 (by decide) rfl lk81 rfl rfl (tyX1_ok 7 (by decide)) (rfl) (rfl) dX4_clear_17 (fun H locs G => ?_)
  refine lv_aload_n hx hb dX4_clear_20 rfl (lv_at hl 1 rfl) ?_
  refine gx_get hx hb hts hinX4 hown G 0 (by decide) rfl rfl 0 (by decide) rfl lk10 rfl (v := .ref (ad 1)) rfl dX4_clear_21 ?_
  refine lv_iconst (v := 0) hx hb dX4_clear_24 (by decide) ?_
  refine gx_putI hx hb hts hinX1 tyX1 tyX1_ok nmX1 hown G 1 (by decide) rfl rfl 8 (by decide) rfl lk85 rfl rfl (tyX1_ok 8 (by decide)) (rfl) (rfl) dX4_clear_25 (fun H locs G => ?_)
  refine lv_iload_n hx hb dX4_clear_28 rfl (lv_at hl 0 rfl) ?_
  exact gx_ir hx hb hr hlocks G hQ ⟨rfl, rfl⟩ dX4_clear_29

set_option maxHeartbeats 4000000 in
set_option maxRecDepth 100000 in
theorem kX4_told (l : Launch) (D : va_G) (ad : Nat → Nat) (cy : Nat → ClassId) (I : gF) (J : gL) (a : gF) (b : gL) (sz : Nat) (w : Int32) (hok : cOK I a) : gMi l yX4_told wsX4_told ({ frames := 1, cells := 0, slots := 0, locals := 22 }) D ad cy I J a b sz [.ref (ad 0), .int w] (fun res u => res = c_told (I, J, a, b) w ∧ u = (I, J, a, b)) := by
  refine Met.ofW (cc := cX4_told) (maxL := 2) (ret := some .int) (by decide) rfl ?_
  intro p e s m args below meth c s₁ B hml hv
  obtain ⟨hargs, hsz, G⟩ := gx_begin hv
  subst hsz
  have hx := B.exec
  have hb := B.bytes
  have hr := B.returns
  have hts := atoms_spec (ws := wsX4_told) B.pre
  have hown : s.vm.findClass RX4 = some m.cls := findClass_of_methodNamed B.named
  have hlocks := B.notSynchronized
  have hinX1 : ∀ w ∈ wsX10, w ∈ wsX4_told := by decide +kernel
  have hinX4 : ∀ w ∈ wsX40, w ∈ wsX4_told := by decide +kernel
  have lk10 := hts (.fieldLink RX4 10 "ExactSimplex" "problem" "LExactSimplex$Problem;") (by decide +kernel)
  have lk81 := hts (.fieldLink RX4 81 "ExactSimplex$Problem" "names" "I") (by decide +kernel)
  have lk85 := hts (.fieldLink RX4 85 "ExactSimplex$Problem" "rows" "I") (by decide +kernel)
  have hl := lv_entry ([.ref (ad 0), .int w]) (n := 2) (Nat.le_of_ble_eq_true rfl)
  have hent := lg_entry_eq m ([.ref (ad 0), .int w]) 2
  rw [← hargs] at hent
  rw [hent]
  clear hent
  generalize (lg_sl ([.ref (ad 0), .int w]) ++ List.replicate (2 - (lg_sl ([.ref (ad 0), .int w])).length) Slot.unset).toArray = ls at hl ⊢
  have hl : lv_has ls 2 [(0, .ref (ad 0)), (1, .int w)] := hl
  generalize hA : gA ad s.heap.size = A at G ⊢
  generalize hH : s.heap = H at G ⊢
  refine gx_q (fun Q hQ => ?_)
  obtain ⟨⟨hnn, hnn2⟩, ⟨hnr, hnr2⟩, ⟨hnl, hnl2⟩, ⟨hnc, hnc2⟩, hbas, hout, h26, h38⟩ := id hok
  refine lv_iload_n hx hb dX4_told_0 rfl (lv_at hl 1 rfl) ?_
  refine lv_if_ne (tgt := 12) hx hb dX4_told_1 (by decide) (fun c1 => ?_) (fun c1 => ?_)
  · skip
    refine lv_iload_n hx hb dX4_told_12 rfl (lv_at hl 1 rfl) ?_
    refine lv_iconst (v := 1) hx hb dX4_told_13 (by decide) ?_
    refine lv_icmp_ne (tgt := 25) hx hb dX4_told_14 (by decide) (fun c14 => ?_) (fun c14 => ?_)
    · skip
      refine lv_iload_n hx hb dX4_told_25 rfl (lv_at hl 1 rfl) ?_
      refine lv_iconst (v := 2) hx hb dX4_told_26 (by decide) ?_
      refine lv_icmp_ne (tgt := 40) hx hb dX4_told_27 (by decide) (fun c27 => ?_) (fun c27 => ?_)
      · skip
        refine lv_bipush (v := -2) hx hb dX4_told_40 (by decide) ?_
        exact gx_ir hx hb hr hlocks G hQ ⟨by unfold c_told; rw [if_neg c1, if_neg c14]; first | rw [if_pos c27] | rw [if_neg c27], rfl⟩ dX4_told_42
      · skip
        refine lv_aload_n hx hb dX4_told_30 rfl (lv_at hl 0 rfl) ?_
        refine gx_get hx hb hts hinX4 hown G 0 (by decide) rfl rfl 0 (by decide) rfl lk10 rfl (v := .ref (ad 1)) rfl dX4_told_31 ?_
        refine gx_get hx hb hts hinX1 hown G 1 (by decide) rfl rfl 8 (by decide) rfl lk85 rfl (v := .int (I 1 8)) rfl dX4_told_34 ?_
        refine lv_goto (tgt := 42) hx hb dX4_told_37 (by decide) ?_
        exact gx_ir hx hb hr hlocks G hQ ⟨by unfold c_told; rw [if_neg c1, if_neg c14]; first | rw [if_pos c27] | rw [if_neg c27], rfl⟩ dX4_told_42
    · skip
      refine lv_aload_n hx hb dX4_told_17 rfl (lv_at hl 0 rfl) ?_
      refine gx_get hx hb hts hinX4 hown G 0 (by decide) rfl rfl 0 (by decide) rfl lk10 rfl (v := .ref (ad 1)) rfl dX4_told_18 ?_
      refine gx_dVi (v := (p_cnt a (cN (I 1 8)))) (I1 := I) (J1 := J) (a1 := a) (b1 := b) (As := []) (rest := []) ⟨hx, hb, hml, hown, hts⟩ G 1 (kX1_countRows l D ad cy I J a b H.size (cN (I 1 8)) hnr hnr2) (cwV 0 hts gX4_told_X1_countRows rfl rfl rfl (by decide +kernel) ⟨Nat.le_of_ble_eq_true rfl, Nat.le_of_ble_eq_true rfl⟩) (by decide) rfl rfl rfl rfl hl.1 rfl (Nat.le_of_ble_eq_true rfl) ⟨Nat.zero_le _, Nat.zero_le _⟩ dX4_told_21 (fun H locs G => ?_)
      exact gx_ir hx hb hr hlocks G hQ ⟨by unfold c_told; rw [if_neg c1, if_pos c14], rfl⟩ dX4_told_24
  · skip
    refine lv_aload_n hx hb dX4_told_4 rfl (lv_at hl 0 rfl) ?_
    refine gx_get hx hb hts hinX4 hown G 0 (by decide) rfl rfl 0 (by decide) rfl lk10 rfl (v := .ref (ad 1)) rfl dX4_told_5 ?_
    refine gx_get hx hb hts hinX1 hown G 1 (by decide) rfl rfl 7 (by decide) rfl lk81 rfl (v := .int (I 1 7)) rfl dX4_told_8 ?_
    exact gx_ir hx hb hr hlocks G hQ ⟨by simp only [c_told, c1, reduceIte], rfl⟩ dX4_told_11

set_option maxHeartbeats 4000000 in
set_option maxRecDepth 100000 in
theorem kX4_run (l : Launch) (D : va_G) (ad : Nat → Nat) (cy : Nat → ClassId) (I : gF) (J : gL) (a : gF) (b : gL) (sz : Nat)  (hok : cOK I a) : gMi l yX4_run wsX4_run ({ frames := 5, cells := 0, slots := 0, locals := 132 }) D ad cy I J a b sz [.ref (ad 0)] (fun res u => res = c_run (I, J, a, b)  ∧ u = hS (I, J, a, b)) := by
  refine Met.ofW (cc := cX4_run) (maxL := 1) (ret := some .int) (by decide) rfl ?_
  intro p e s m args below meth c s₁ B hml hv
  obtain ⟨hargs, hsz, G⟩ := gx_begin hv
  subst hsz
  have hx := B.exec
  have hb := B.bytes
  have hr := B.returns
  have hts := atoms_spec (ws := wsX4_run) B.pre
  have hown : s.vm.findClass RX4 = some m.cls := findClass_of_methodNamed B.named
  have hlocks := B.notSynchronized
  have hinX4 : ∀ w ∈ wsX40, w ∈ wsX4_run := by decide +kernel
  have lk21 := hts (.fieldLink RX4 21 "ExactSimplex" "solver" "LExactSimplex$Solver;") (by decide +kernel)
  have hl := lv_entry ([.ref (ad 0)]) (n := 1) (Nat.le_of_ble_eq_true rfl)
  have hent := lg_entry_eq m ([.ref (ad 0)]) 1
  rw [← hargs] at hent
  rw [hent]
  clear hent
  generalize (lg_sl ([.ref (ad 0)]) ++ List.replicate (1 - (lg_sl ([.ref (ad 0)])).length) Slot.unset).toArray = ls at hl ⊢
  have hl : lv_has ls 1 [(0, .ref (ad 0))] := hl
  generalize hA : gA ad s.heap.size = A at G ⊢
  generalize hH : s.heap = H at G ⊢
  refine gx_q (fun Q hQ => ?_)
  obtain ⟨⟨hnn, hnn2⟩, ⟨hnr, hnr2⟩, ⟨hnl, hnl2⟩, ⟨hnc, hnc2⟩, hbas, hout, h26, h38⟩ := id hok
  refine lv_aload_n hx hb dX4_run_0 rfl (lv_at hl 0 rfl) ?_
  refine gx_get hx hb hts hinX4 hown G 0 (by decide) rfl rfl 1 (by decide) rfl lk21 rfl (v := .ref (ad 2)) rfl dX4_run_1 ?_
  refine gx_dVi (v := (s_hp I J a b (cN (I 1 7)) (cN (I 1 8)))) (I1 := (s_hpI I J a b (cN (I 1 7)) (cN (I 1 8)))) (J1 := (s_hpJ I J a b (cN (I 1 7)) (cN (I 1 8)))) (a1 := (s_hpA I J a b (cN (I 1 7)) (cN (I 1 8)))) (b1 := (s_hpB I J a b (cN (I 1 7)) (cN (I 1 8)))) (As := []) (rest := []) ⟨hx, hb, hml, hown, hts⟩ G 2 (kX2_hasPoint l D ad cy I J a b H.size (cN (I 1 7)) (cN (I 1 8)) hnn hnn2 hnr hnr2 h26) (cwV 0 hts gX4_run_X2_hasPoint rfl rfl rfl (by decide +kernel) ⟨Nat.le_of_ble_eq_true rfl, Nat.le_of_ble_eq_true rfl⟩) (by decide) rfl rfl rfl rfl hl.1 rfl (Nat.le_of_ble_eq_true rfl) ⟨Nat.zero_le _, Nat.zero_le _⟩ dX4_run_4 (fun H locs G => ?_)
  have hok2 := s_hp_ok (J := J) (b := b) hok
  obtain ⟨⟨gnn, gnn2⟩, ⟨gnr, gnr2⟩, ⟨gnl, gnl2⟩, ⟨gnc, gnc2⟩, gbas, gout, g26, g38⟩ := id hok2
  refine lv_if_eq (tgt := 14) hx hb dX4_run_7 (by decide) (fun c7 => ?_) (fun c7 => ?_)
  · skip
    refine lv_iconst (v := 0) hx hb dX4_run_14 (by decide) ?_
    exact gx_ir hx hb hr hlocks G hQ ⟨by simp only [c_run, h_r, c7, reduceIte], rfl⟩ dX4_run_15
  · skip
    refine lv_iconst (v := 1) hx hb dX4_run_10 (by decide) ?_
    refine lv_goto (tgt := 15) hx hb dX4_run_11 (by decide) ?_
    exact gx_ir hx hb hr hlocks G hQ ⟨by simp only [c_run, h_r, c7, reduceIte], rfl⟩ dX4_run_15

set_option maxHeartbeats 4000000 in
set_option maxRecDepth 100000 in
theorem kX4_least (l : Launch) (D : va_G) (ad : Nat → Nat) (cy : Nat → ClassId) (I : gF) (J : gL) (a : gF) (b : gL) (sz : Nat) (pt : Int32) (hok : cOK I a) : gMl l yX4_least wsX4_least ({ frames := 6, cells := 0, slots := 0, locals := 156 }) D ad cy I J a b sz [.ref (ad 0), .int pt] (fun res u => res = c_least (I, J, a, b) pt ∧ u = c_leastS (I, J, a, b) pt) := by
  refine Met.ofW (cc := cX4_least) (maxL := 2) (ret := some .long) (by decide) rfl ?_
  intro p e s m args below meth c s₁ B hml hv
  obtain ⟨hargs, hsz, G⟩ := gx_begin hv
  subst hsz
  have hx := B.exec
  have hb := B.bytes
  have hr := B.returns
  have hts := atoms_spec (ws := wsX4_least) B.pre
  have hown : s.vm.findClass RX4 = some m.cls := findClass_of_methodNamed B.named
  have hlocks := B.notSynchronized
  have hinX4 : ∀ w ∈ wsX40, w ∈ wsX4_least := by decide +kernel
  have lk21 := hts (.fieldLink RX4 21 "ExactSimplex" "solver" "LExactSimplex$Solver;") (by decide +kernel)
  have hl := lv_entry ([.ref (ad 0), .int pt]) (n := 2) (Nat.le_of_ble_eq_true rfl)
  have hent := lg_entry_eq m ([.ref (ad 0), .int pt]) 2
  rw [← hargs] at hent
  rw [hent]
  clear hent
  generalize (lg_sl ([.ref (ad 0), .int pt]) ++ List.replicate (2 - (lg_sl ([.ref (ad 0), .int pt])).length) Slot.unset).toArray = ls at hl ⊢
  have hl : lv_has ls 2 [(0, .ref (ad 0)), (1, .int pt)] := hl
  generalize hA : gA ad s.heap.size = A at G ⊢
  generalize hH : s.heap = H at G ⊢
  refine gx_q (fun Q hQ => ?_)
  obtain ⟨⟨hnn, hnn2⟩, ⟨hnr, hnr2⟩, ⟨hnl, hnl2⟩, ⟨hnc, hnc2⟩, hbas, hout, h26, h38⟩ := id hok
  refine lv_iload_n hx hb dX4_least_0 rfl (lv_at hl 1 rfl) ?_
  refine gx_dSi (v := (q_z01 pt)) (I1 := I) (J1 := J) (a1 := a) (b1 := b) (As := [.int pt]) (rest := []) ⟨hx, hb, hml, hown, hts⟩ G (kX4_isZeroOrOne l D ad cy I J a b H.size pt) (va_cwS 1 hts gX4_least_X4_isZeroOrOne rfl rfl rfl (by decide +kernel) ⟨Nat.le_of_ble_eq_true rfl, Nat.le_of_ble_eq_true rfl⟩) rfl hl.1 rfl (Nat.le_of_ble_eq_true rfl) ⟨Nat.zero_le _, Nat.zero_le _⟩ dX4_least_1 (fun H locs G => ?_)
  refine lv_if_ne (tgt := 11) hx hb dX4_least_4 (by decide) (fun c4 => ?_) (fun c4 => ?_)
  · skip
    refine lv_aload_n hx hb dX4_least_11 rfl (lv_at hl 0 rfl) ?_
    refine gx_get hx hb hts hinX4 hown G 0 (by decide) rfl rfl 1 (by decide) rfl lk21 rfl (v := .ref (ad 2)) rfl dX4_least_12 ?_
    refine gx_dVi (v := (s_hp I J a b (cN (I 1 7)) (cN (I 1 8)))) (I1 := (s_hpI I J a b (cN (I 1 7)) (cN (I 1 8)))) (J1 := (s_hpJ I J a b (cN (I 1 7)) (cN (I 1 8)))) (a1 := (s_hpA I J a b (cN (I 1 7)) (cN (I 1 8)))) (b1 := (s_hpB I J a b (cN (I 1 7)) (cN (I 1 8)))) (As := []) (rest := []) ⟨hx, hb, hml, hown, hts⟩ G 2 (kX2_hasPoint l D ad cy I J a b H.size (cN (I 1 7)) (cN (I 1 8)) hnn hnn2 hnr hnr2 h26) (cwV 0 hts gX4_least_X2_hasPoint rfl rfl rfl (by decide +kernel) ⟨Nat.le_of_ble_eq_true rfl, Nat.le_of_ble_eq_true rfl⟩) (by decide) rfl rfl rfl rfl hl.1 rfl (Nat.le_of_ble_eq_true rfl) ⟨Nat.zero_le _, Nat.zero_le _⟩ dX4_least_15 (fun H locs G => ?_)
    have hok2 := s_hp_ok (J := J) (b := b) hok
    obtain ⟨⟨gnn, gnn2⟩, ⟨gnr, gnr2⟩, ⟨gnl, gnl2⟩, ⟨gnc, gnc2⟩, gbas, gout, g26, g38⟩ := id hok2
    refine lv_if_ne (tgt := 25) hx hb dX4_least_18 (by decide) (fun c18 => ?_) (fun c18 => ?_)
    · skip
      refine lv_aload_n hx hb dX4_least_25 rfl (lv_at hl 0 rfl) ?_
      refine gx_get hx hb hts hinX4 hown G 0 (by decide) rfl rfl 1 (by decide) rfl lk21 rfl (v := .ref (ad 2)) rfl dX4_least_26 ?_
      refine lv_iload_n hx hb dX4_least_29 rfl (lv_at hl 1 rfl) ?_
      refine gx_dVl (v := (s_part (s_sum (s_ffA (s_hpI I J a b (cN (I 1 7)) (cN (I 1 8))) (s_hpJ I J a b (cN (I 1 7)) (cN (I 1 8))) (s_hpA I J a b (cN (I 1 7)) (cN (I 1 8))) (s_hpB I J a b (cN (I 1 7)) (cN (I 1 8))) (cN ((s_hpI I J a b (cN (I 1 7)) (cN (I 1 8))) 1 7)) (cN ((s_hpI I J a b (cN (I 1 7)) (cN (I 1 8))) 4 7)) (cN ((s_hpI I J a b (cN (I 1 7)) (cN (I 1 8))) 4 8))) (s_ffB (s_hpI I J a b (cN (I 1 7)) (cN (I 1 8))) (s_hpJ I J a b (cN (I 1 7)) (cN (I 1 8))) (s_hpA I J a b (cN (I 1 7)) (cN (I 1 8))) (s_hpB I J a b (cN (I 1 7)) (cN (I 1 8))) (cN ((s_hpI I J a b (cN (I 1 7)) (cN (I 1 8))) 1 7)) (cN ((s_hpI I J a b (cN (I 1 7)) (cN (I 1 8))) 4 7)) (cN ((s_hpI I J a b (cN (I 1 7)) (cN (I 1 8))) 4 8))) (cN ((s_hpI I J a b (cN (I 1 7)) (cN (I 1 8))) 1 7))) ((s_ffJ (s_hpI I J a b (cN (I 1 7)) (cN (I 1 8))) (s_hpJ I J a b (cN (I 1 7)) (cN (I 1 8))) (s_hpA I J a b (cN (I 1 7)) (cN (I 1 8))) (s_hpB I J a b (cN (I 1 7)) (cN (I 1 8))) (cN ((s_hpI I J a b (cN (I 1 7)) (cN (I 1 8))) 1 7)) (cN ((s_hpI I J a b (cN (I 1 7)) (cN (I 1 8))) 4 7)) (cN ((s_hpI I J a b (cN (I 1 7)) (cN (I 1 8))) 4 8))) 2 4) pt)) (I1 := (s_ffI (s_hpI I J a b (cN (I 1 7)) (cN (I 1 8))))) (J1 := (s_ffJ (s_hpI I J a b (cN (I 1 7)) (cN (I 1 8))) (s_hpJ I J a b (cN (I 1 7)) (cN (I 1 8))) (s_hpA I J a b (cN (I 1 7)) (cN (I 1 8))) (s_hpB I J a b (cN (I 1 7)) (cN (I 1 8))) (cN ((s_hpI I J a b (cN (I 1 7)) (cN (I 1 8))) 1 7)) (cN ((s_hpI I J a b (cN (I 1 7)) (cN (I 1 8))) 4 7)) (cN ((s_hpI I J a b (cN (I 1 7)) (cN (I 1 8))) 4 8)))) (a1 := (s_ffA (s_hpI I J a b (cN (I 1 7)) (cN (I 1 8))) (s_hpJ I J a b (cN (I 1 7)) (cN (I 1 8))) (s_hpA I J a b (cN (I 1 7)) (cN (I 1 8))) (s_hpB I J a b (cN (I 1 7)) (cN (I 1 8))) (cN ((s_hpI I J a b (cN (I 1 7)) (cN (I 1 8))) 1 7)) (cN ((s_hpI I J a b (cN (I 1 7)) (cN (I 1 8))) 4 7)) (cN ((s_hpI I J a b (cN (I 1 7)) (cN (I 1 8))) 4 8)))) (b1 := (s_ffB (s_hpI I J a b (cN (I 1 7)) (cN (I 1 8))) (s_hpJ I J a b (cN (I 1 7)) (cN (I 1 8))) (s_hpA I J a b (cN (I 1 7)) (cN (I 1 8))) (s_hpB I J a b (cN (I 1 7)) (cN (I 1 8))) (cN ((s_hpI I J a b (cN (I 1 7)) (cN (I 1 8))) 1 7)) (cN ((s_hpI I J a b (cN (I 1 7)) (cN (I 1 8))) 4 7)) (cN ((s_hpI I J a b (cN (I 1 7)) (cN (I 1 8))) 4 8)))) (As := [.int pt]) (rest := []) ⟨hx, hb, hml, hown, hts⟩ G 2 (kX2_leastCost l D ad cy (s_hpI I J a b (cN (I 1 7)) (cN (I 1 8))) (s_hpJ I J a b (cN (I 1 7)) (cN (I 1 8))) (s_hpA I J a b (cN (I 1 7)) (cN (I 1 8))) (s_hpB I J a b (cN (I 1 7)) (cN (I 1 8))) H.size (cN ((s_hpI I J a b (cN (I 1 7)) (cN (I 1 8))) 1 7)) (cN ((s_hpI I J a b (cN (I 1 7)) (cN (I 1 8))) 4 7)) (cN ((s_hpI I J a b (cN (I 1 7)) (cN (I 1 8))) 4 8)) pt gnn gnn2 gnl gnl2 gnc gnc2 gbas gout) (cwV 1 hts gX4_least_X2_leastCost rfl rfl rfl (by decide +kernel) ⟨Nat.le_of_ble_eq_true rfl, Nat.le_of_ble_eq_true rfl⟩) (by decide) rfl rfl rfl rfl hl.1 rfl (Nat.le_of_ble_eq_true rfl) ⟨Nat.zero_le _, Nat.zero_le _⟩ dX4_least_30 (fun H locs G => ?_)
      exact gx_lr hx hb hr hlocks G hQ ⟨by simp only [c_least, h_r, hS, fS, bS, eS, aS, c4, c18, reduceIte], by simp only [c_leastS, h_r, hS, fS, bS, eS, aS, c4, c18, reduceIte]⟩ dX4_least_33
    · skip
      refine lv_ldc2 hx hb hown (hts (.constantLong RX4 97 (-3)) (by decide +kernel)) dX4_least_21 ?_
      exact gx_lr hx hb hr hlocks G hQ ⟨by simp only [c_least, h_r, hS, fS, bS, eS, aS, c4, c18, reduceIte], by simp only [c_leastS, h_r, hS, fS, bS, eS, aS, c4, c18, reduceIte]⟩ dX4_least_24
  · skip
    refine lv_ldc2 hx hb hown (hts (.constantLong RX4 95 (-2)) (by decide +kernel)) dX4_least_7 ?_
    exact gx_lr hx hb hr hlocks G hQ ⟨by simp only [c_least, h_r, hS, fS, bS, eS, aS, c4, reduceIte], by simp only [c_leastS, h_r, hS, fS, bS, eS, aS, c4, reduceIte]⟩ dX4_least_10

set_option maxHeartbeats 4000000 in
set_option maxRecDepth 100000 in
theorem kX4_value (l : Launch) (D : va_G) (ad : Nat → Nat) (cy : Nat → ClassId) (I : gF) (J : gL) (a : gF) (b : gL) (sz : Nat) (v pt : Int32) (hok : cOK I a) : gMl l yX4_value wsX4_value ({ frames := 6, cells := 0, slots := 0, locals := 154 }) D ad cy I J a b sz [.ref (ad 0), .int v, .int pt] (fun res u => res = c_value (I, J, a, b) v pt ∧ u = c_valueS (I, J, a, b) v pt) := by
  refine Met.ofW (cc := cX4_value) (maxL := 3) (ret := some .long) (by decide) rfl ?_
  intro p e s m args below meth c s₁ B hml hv
  obtain ⟨hargs, hsz, G⟩ := gx_begin hv
  subst hsz
  have hx := B.exec
  have hb := B.bytes
  have hr := B.returns
  have hts := atoms_spec (ws := wsX4_value) B.pre
  have hown : s.vm.findClass RX4 = some m.cls := findClass_of_methodNamed B.named
  have hlocks := B.notSynchronized
  have hinX4 : ∀ w ∈ wsX40, w ∈ wsX4_value := by decide +kernel
  have lk10 := hts (.fieldLink RX4 10 "ExactSimplex" "problem" "LExactSimplex$Problem;") (by decide +kernel)
  have lk21 := hts (.fieldLink RX4 21 "ExactSimplex" "solver" "LExactSimplex$Solver;") (by decide +kernel)
  have hl := lv_entry ([.ref (ad 0), .int v, .int pt]) (n := 3) (Nat.le_of_ble_eq_true rfl)
  have hent := lg_entry_eq m ([.ref (ad 0), .int v, .int pt]) 3
  rw [← hargs] at hent
  rw [hent]
  clear hent
  generalize (lg_sl ([.ref (ad 0), .int v, .int pt]) ++ List.replicate (3 - (lg_sl ([.ref (ad 0), .int v, .int pt])).length) Slot.unset).toArray = ls at hl ⊢
  have hl : lv_has ls 3 [(0, .ref (ad 0)), (1, .int v), (2, .int pt)] := hl
  generalize hA : gA ad s.heap.size = A at G ⊢
  generalize hH : s.heap = H at G ⊢
  refine gx_q (fun Q hQ => ?_)
  obtain ⟨⟨hnn, hnn2⟩, ⟨hnr, hnr2⟩, ⟨hnl, hnl2⟩, ⟨hnc, hnc2⟩, hbas, hout, h26, h38⟩ := id hok
  refine lv_aload_n hx hb dX4_value_0 rfl (lv_at hl 0 rfl) ?_
  refine gx_get hx hb hts hinX4 hown G 0 (by decide) rfl rfl 0 (by decide) rfl lk10 rfl (v := .ref (ad 1)) rfl dX4_value_1 ?_
  refine lv_iload_n hx hb dX4_value_4 rfl (lv_at hl 1 rfl) ?_
  refine gx_dVi (v := (p_hasN I v)) (I1 := I) (J1 := J) (a1 := a) (b1 := b) (As := [.int v]) (rest := []) ⟨hx, hb, hml, hown, hts⟩ G 1 (kX1_hasName l D ad cy I J a b H.size v) (cwV 1 hts gX4_value_X1_hasName rfl rfl rfl (by decide +kernel) ⟨Nat.le_of_ble_eq_true rfl, Nat.le_of_ble_eq_true rfl⟩) (by decide) rfl rfl rfl rfl hl.1 rfl (Nat.le_of_ble_eq_true rfl) ⟨Nat.zero_le _, Nat.zero_le _⟩ dX4_value_5 (fun H locs G => ?_)
  refine lv_if_ne (tgt := 15) hx hb dX4_value_8 (by decide) (fun c8 => ?_) (fun c8 => ?_)
  · skip
    obtain ⟨j, hj, ej⟩ := p_hasN_ix hnn (by omega) c8
    have ecl : cN v = j := cN_of ej (by omega)
    refine lv_iload_n hx hb dX4_value_15 rfl (lv_at hl 2 rfl) ?_
    refine gx_dSi (v := (q_z01 pt)) (I1 := I) (J1 := J) (a1 := a) (b1 := b) (As := [.int pt]) (rest := []) ⟨hx, hb, hml, hown, hts⟩ G (kX4_isZeroOrOne l D ad cy I J a b H.size pt) (va_cwS 1 hts gX4_value_X4_isZeroOrOne rfl rfl rfl (by decide +kernel) ⟨Nat.le_of_ble_eq_true rfl, Nat.le_of_ble_eq_true rfl⟩) rfl hl.1 rfl (Nat.le_of_ble_eq_true rfl) ⟨Nat.zero_le _, Nat.zero_le _⟩ dX4_value_16 (fun H locs G => ?_)
    refine lv_if_ne (tgt := 26) hx hb dX4_value_19 (by decide) (fun c19 => ?_) (fun c19 => ?_)
    · skip
      refine lv_aload_n hx hb dX4_value_26 rfl (lv_at hl 0 rfl) ?_
      refine gx_get hx hb hts hinX4 hown G 0 (by decide) rfl rfl 1 (by decide) rfl lk21 rfl (v := .ref (ad 2)) rfl dX4_value_27 ?_
      refine gx_dVi (v := (s_hp I J a b (cN (I 1 7)) (cN (I 1 8)))) (I1 := (s_hpI I J a b (cN (I 1 7)) (cN (I 1 8)))) (J1 := (s_hpJ I J a b (cN (I 1 7)) (cN (I 1 8)))) (a1 := (s_hpA I J a b (cN (I 1 7)) (cN (I 1 8)))) (b1 := (s_hpB I J a b (cN (I 1 7)) (cN (I 1 8)))) (As := []) (rest := []) ⟨hx, hb, hml, hown, hts⟩ G 2 (kX2_hasPoint l D ad cy I J a b H.size (cN (I 1 7)) (cN (I 1 8)) hnn hnn2 hnr hnr2 h26) (cwV 0 hts gX4_value_X2_hasPoint rfl rfl rfl (by decide +kernel) ⟨Nat.le_of_ble_eq_true rfl, Nat.le_of_ble_eq_true rfl⟩) (by decide) rfl rfl rfl rfl hl.1 rfl (Nat.le_of_ble_eq_true rfl) ⟨Nat.zero_le _, Nat.zero_le _⟩ dX4_value_30 (fun H locs G => ?_)
      have hok2 := s_hp_ok (J := J) (b := b) hok
      obtain ⟨⟨gnn, gnn2⟩, ⟨gnr, gnr2⟩, ⟨gnl, gnl2⟩, ⟨gnc, gnc2⟩, gbas, gout, g26, g38⟩ := id hok2
      refine lv_if_ne (tgt := 40) hx hb dX4_value_33 (by decide) (fun c33 => ?_) (fun c33 => ?_)
      · skip
        refine lv_aload_n hx hb dX4_value_40 rfl (lv_at hl 0 rfl) ?_
        refine gx_get hx hb hts hinX4 hown G 0 (by decide) rfl rfl 1 (by decide) rfl lk21 rfl (v := .ref (ad 2)) rfl dX4_value_41 ?_
        refine lv_iload_n hx hb dX4_value_44 rfl (lv_at hl 1 rfl) ?_
        refine lv_iload_n hx hb dX4_value_45 rfl (lv_at hl 2 rfl) ?_
        rw [ej]
        refine gx_dVl (v := (s_part ((s_ffB (s_hpI I J a b (cN (I 1 7)) (cN (I 1 8))) (s_hpJ I J a b (cN (I 1 7)) (cN (I 1 8))) (s_hpA I J a b (cN (I 1 7)) (cN (I 1 8))) (s_hpB I J a b (cN (I 1 7)) (cN (I 1 8))) (cN ((s_hpI I J a b (cN (I 1 7)) (cN (I 1 8))) 1 7)) (cN ((s_hpI I J a b (cN (I 1 7)) (cN (I 1 8))) 4 7)) (cN ((s_hpI I J a b (cN (I 1 7)) (cN (I 1 8))) 4 8))) 20 j) ((s_ffJ (s_hpI I J a b (cN (I 1 7)) (cN (I 1 8))) (s_hpJ I J a b (cN (I 1 7)) (cN (I 1 8))) (s_hpA I J a b (cN (I 1 7)) (cN (I 1 8))) (s_hpB I J a b (cN (I 1 7)) (cN (I 1 8))) (cN ((s_hpI I J a b (cN (I 1 7)) (cN (I 1 8))) 1 7)) (cN ((s_hpI I J a b (cN (I 1 7)) (cN (I 1 8))) 4 7)) (cN ((s_hpI I J a b (cN (I 1 7)) (cN (I 1 8))) 4 8))) 2 4) pt)) (I1 := (s_ffI (s_hpI I J a b (cN (I 1 7)) (cN (I 1 8))))) (J1 := (s_ffJ (s_hpI I J a b (cN (I 1 7)) (cN (I 1 8))) (s_hpJ I J a b (cN (I 1 7)) (cN (I 1 8))) (s_hpA I J a b (cN (I 1 7)) (cN (I 1 8))) (s_hpB I J a b (cN (I 1 7)) (cN (I 1 8))) (cN ((s_hpI I J a b (cN (I 1 7)) (cN (I 1 8))) 1 7)) (cN ((s_hpI I J a b (cN (I 1 7)) (cN (I 1 8))) 4 7)) (cN ((s_hpI I J a b (cN (I 1 7)) (cN (I 1 8))) 4 8)))) (a1 := (s_ffA (s_hpI I J a b (cN (I 1 7)) (cN (I 1 8))) (s_hpJ I J a b (cN (I 1 7)) (cN (I 1 8))) (s_hpA I J a b (cN (I 1 7)) (cN (I 1 8))) (s_hpB I J a b (cN (I 1 7)) (cN (I 1 8))) (cN ((s_hpI I J a b (cN (I 1 7)) (cN (I 1 8))) 1 7)) (cN ((s_hpI I J a b (cN (I 1 7)) (cN (I 1 8))) 4 7)) (cN ((s_hpI I J a b (cN (I 1 7)) (cN (I 1 8))) 4 8)))) (b1 := (s_ffB (s_hpI I J a b (cN (I 1 7)) (cN (I 1 8))) (s_hpJ I J a b (cN (I 1 7)) (cN (I 1 8))) (s_hpA I J a b (cN (I 1 7)) (cN (I 1 8))) (s_hpB I J a b (cN (I 1 7)) (cN (I 1 8))) (cN ((s_hpI I J a b (cN (I 1 7)) (cN (I 1 8))) 1 7)) (cN ((s_hpI I J a b (cN (I 1 7)) (cN (I 1 8))) 4 7)) (cN ((s_hpI I J a b (cN (I 1 7)) (cN (I 1 8))) 4 8)))) (As := [.int (nI j), .int pt]) (rest := []) ⟨hx, hb, hml, hown, hts⟩ G 2 (kX2_firstBestOf l D ad cy (s_hpI I J a b (cN (I 1 7)) (cN (I 1 8))) (s_hpJ I J a b (cN (I 1 7)) (cN (I 1 8))) (s_hpA I J a b (cN (I 1 7)) (cN (I 1 8))) (s_hpB I J a b (cN (I 1 7)) (cN (I 1 8))) H.size (cN ((s_hpI I J a b (cN (I 1 7)) (cN (I 1 8))) 1 7)) (cN ((s_hpI I J a b (cN (I 1 7)) (cN (I 1 8))) 4 7)) (cN ((s_hpI I J a b (cN (I 1 7)) (cN (I 1 8))) 4 8)) j pt gnn gnn2 gnl gnl2 gnc gnc2 gbas gout (by omega)) (cwV 2 hts gX4_value_X2_firstBestOf rfl rfl rfl (by decide +kernel) ⟨Nat.le_of_ble_eq_true rfl, Nat.le_of_ble_eq_true rfl⟩) (by decide) rfl rfl rfl rfl hl.1 rfl (Nat.le_of_ble_eq_true rfl) ⟨Nat.zero_le _, Nat.zero_le _⟩ dX4_value_46 (fun H locs G => ?_)
        exact gx_lr hx hb hr hlocks G hQ ⟨by simp only [c_value, h_r, hS, fS, bS, eS, aS, c8, ecl, c19, c33, reduceIte], by simp only [c_valueS, h_r, hS, fS, bS, eS, aS, c8, ecl, c19, c33, reduceIte]⟩ dX4_value_49
      · skip
        refine lv_ldc2 hx hb hown (hts (.constantLong RX4 97 (-3)) (by decide +kernel)) dX4_value_36 ?_
        exact gx_lr hx hb hr hlocks G hQ ⟨by simp only [c_value, h_r, hS, fS, bS, eS, aS, c8, ecl, c19, c33, reduceIte], by simp only [c_valueS, h_r, hS, fS, bS, eS, aS, c8, ecl, c19, c33, reduceIte]⟩ dX4_value_39
    · skip
      refine lv_ldc2 hx hb hown (hts (.constantLong RX4 95 (-2)) (by decide +kernel)) dX4_value_22 ?_
      exact gx_lr hx hb hr hlocks G hQ ⟨by simp only [c_value, h_r, hS, fS, bS, eS, aS, c8, ecl, c19, reduceIte], by simp only [c_valueS, h_r, hS, fS, bS, eS, aS, c8, ecl, c19, reduceIte]⟩ dX4_value_25
  · skip
    refine lv_ldc2 hx hb hown (hts (.constantLong RX4 103 (-1)) (by decide +kernel)) dX4_value_11 ?_
    exact gx_lr hx hb hr hlocks G hQ ⟨by simp only [c_value, h_r, hS, fS, bS, eS, aS, c8, reduceIte], by simp only [c_valueS, h_r, hS, fS, bS, eS, aS, c8, reduceIte]⟩ dX4_value_14

set_option maxHeartbeats 4000000 in
set_option maxRecDepth 100000 in
theorem kX4_tight (l : Launch) (D : va_G) (ad : Nat → Nat) (cy : Nat → ClassId) (I : gF) (J : gL) (a : gF) (b : gL) (sz : Nat) (r : Int32) (hok : cOK I a) : gMi l yX4_tight wsX4_tight ({ frames := 6, cells := 0, slots := 0, locals := 156 }) D ad cy I J a b sz [.ref (ad 0), .int r] (fun res u => res = c_tight (I, J, a, b) r ∧ u = c_tightS (I, J, a, b) r) := by
  refine Met.ofW (cc := cX4_tight) (maxL := 2) (ret := some .int) (by decide) rfl ?_
  intro p e s m args below meth c s₁ B hml hv
  obtain ⟨hargs, hsz, G⟩ := gx_begin hv
  subst hsz
  have hx := B.exec
  have hb := B.bytes
  have hr := B.returns
  have hts := atoms_spec (ws := wsX4_tight) B.pre
  have hown : s.vm.findClass RX4 = some m.cls := findClass_of_methodNamed B.named
  have hlocks := B.notSynchronized
  have hinX4 : ∀ w ∈ wsX40, w ∈ wsX4_tight := by decide +kernel
  have lk10 := hts (.fieldLink RX4 10 "ExactSimplex" "problem" "LExactSimplex$Problem;") (by decide +kernel)
  have lk21 := hts (.fieldLink RX4 21 "ExactSimplex" "solver" "LExactSimplex$Solver;") (by decide +kernel)
  have hl := lv_entry ([.ref (ad 0), .int r]) (n := 2) (Nat.le_of_ble_eq_true rfl)
  have hent := lg_entry_eq m ([.ref (ad 0), .int r]) 2
  rw [← hargs] at hent
  rw [hent]
  clear hent
  generalize (lg_sl ([.ref (ad 0), .int r]) ++ List.replicate (2 - (lg_sl ([.ref (ad 0), .int r])).length) Slot.unset).toArray = ls at hl ⊢
  have hl : lv_has ls 2 [(0, .ref (ad 0)), (1, .int r)] := hl
  generalize hA : gA ad s.heap.size = A at G ⊢
  generalize hH : s.heap = H at G ⊢
  refine gx_q (fun Q hQ => ?_)
  obtain ⟨⟨hnn, hnn2⟩, ⟨hnr, hnr2⟩, ⟨hnl, hnl2⟩, ⟨hnc, hnc2⟩, hbas, hout, h26, h38⟩ := id hok
  refine lv_aload_n hx hb dX4_tight_0 rfl (lv_at hl 0 rfl) ?_
  refine gx_get hx hb hts hinX4 hown G 0 (by decide) rfl rfl 0 (by decide) rfl lk10 rfl (v := .ref (ad 1)) rfl dX4_tight_1 ?_
  refine lv_iload_n hx hb dX4_tight_4 rfl (lv_at hl 1 rfl) ?_
  refine gx_dVi (v := (p_hasR I a r)) (I1 := I) (J1 := J) (a1 := a) (b1 := b) (As := [.int r]) (rest := []) ⟨hx, hb, hml, hown, hts⟩ G 1 (kX1_hasRow l D ad cy I J a b H.size (cN (I 1 8)) r hnr hnr2) (cwV 1 hts gX4_tight_X1_hasRow rfl rfl rfl (by decide +kernel) ⟨Nat.le_of_ble_eq_true rfl, Nat.le_of_ble_eq_true rfl⟩) (by decide) rfl rfl rfl rfl hl.1 rfl (Nat.le_of_ble_eq_true rfl) ⟨Nat.zero_le _, Nat.zero_le _⟩ dX4_tight_5 (fun H locs G => ?_)
  refine lv_if_ne (tgt := 13) hx hb dX4_tight_8 (by decide) (fun c8 => ?_) (fun c8 => ?_)
  · skip
    obtain ⟨j, hj, ej⟩ := p_hasR_ix hnr (by omega) c8
    have eclj : cN r = j := cN_of ej (by omega)
    refine lv_aload_n hx hb dX4_tight_13 rfl (lv_at hl 0 rfl) ?_
    refine gx_get hx hb hts hinX4 hown G 0 (by decide) rfl rfl 1 (by decide) rfl lk21 rfl (v := .ref (ad 2)) rfl dX4_tight_14 ?_
    refine gx_dVi (v := (s_hp I J a b (cN (I 1 7)) (cN (I 1 8)))) (I1 := (s_hpI I J a b (cN (I 1 7)) (cN (I 1 8)))) (J1 := (s_hpJ I J a b (cN (I 1 7)) (cN (I 1 8)))) (a1 := (s_hpA I J a b (cN (I 1 7)) (cN (I 1 8)))) (b1 := (s_hpB I J a b (cN (I 1 7)) (cN (I 1 8)))) (As := []) (rest := []) ⟨hx, hb, hml, hown, hts⟩ G 2 (kX2_hasPoint l D ad cy I J a b H.size (cN (I 1 7)) (cN (I 1 8)) hnn hnn2 hnr hnr2 h26) (cwV 0 hts gX4_tight_X2_hasPoint rfl rfl rfl (by decide +kernel) ⟨Nat.le_of_ble_eq_true rfl, Nat.le_of_ble_eq_true rfl⟩) (by decide) rfl rfl rfl rfl hl.1 rfl (Nat.le_of_ble_eq_true rfl) ⟨Nat.zero_le _, Nat.zero_le _⟩ dX4_tight_17 (fun H locs G => ?_)
    have hok2 := s_hp_ok (J := J) (b := b) hok
    obtain ⟨⟨gnn, gnn2⟩, ⟨gnr, gnr2⟩, ⟨gnl, gnl2⟩, ⟨gnc, gnc2⟩, gbas, gout, g26, g38⟩ := id hok2
    refine lv_if_ne (tgt := 26) hx hb dX4_tight_20 (by decide) (fun c20 => ?_) (fun c20 => ?_)
    · skip
      refine lv_aload_n hx hb dX4_tight_26 rfl (lv_at hl 0 rfl) ?_
      refine gx_get hx hb hts hinX4 hown G 0 (by decide) rfl rfl 1 (by decide) rfl lk21 rfl (v := .ref (ad 2)) rfl dX4_tight_27 ?_
      refine lv_iload_n hx hb dX4_tight_30 rfl (lv_at hl 1 rfl) ?_
      rw [ej]
      refine gx_dVi (v := (if s_tsum (s_ffA (s_hpI I J a b (cN (I 1 7)) (cN (I 1 8))) (s_hpJ I J a b (cN (I 1 7)) (cN (I 1 8))) (s_hpA I J a b (cN (I 1 7)) (cN (I 1 8))) (s_hpB I J a b (cN (I 1 7)) (cN (I 1 8))) (cN ((s_hpI I J a b (cN (I 1 7)) (cN (I 1 8))) 1 7)) (cN ((s_hpI I J a b (cN (I 1 7)) (cN (I 1 8))) 4 7)) (cN ((s_hpI I J a b (cN (I 1 7)) (cN (I 1 8))) 4 8))) (s_ffB (s_hpI I J a b (cN (I 1 7)) (cN (I 1 8))) (s_hpJ I J a b (cN (I 1 7)) (cN (I 1 8))) (s_hpA I J a b (cN (I 1 7)) (cN (I 1 8))) (s_hpB I J a b (cN (I 1 7)) (cN (I 1 8))) (cN ((s_hpI I J a b (cN (I 1 7)) (cN (I 1 8))) 1 7)) (cN ((s_hpI I J a b (cN (I 1 7)) (cN (I 1 8))) 4 7)) (cN ((s_hpI I J a b (cN (I 1 7)) (cN (I 1 8))) 4 8))) j (cN ((s_hpI I J a b (cN (I 1 7)) (cN (I 1 8))) 1 7)) = ((s_ffA (s_hpI I J a b (cN (I 1 7)) (cN (I 1 8))) (s_hpJ I J a b (cN (I 1 7)) (cN (I 1 8))) (s_hpA I J a b (cN (I 1 7)) (cN (I 1 8))) (s_hpB I J a b (cN (I 1 7)) (cN (I 1 8))) (cN ((s_hpI I J a b (cN (I 1 7)) (cN (I 1 8))) 1 7)) (cN ((s_hpI I J a b (cN (I 1 7)) (cN (I 1 8))) 4 7)) (cN ((s_hpI I J a b (cN (I 1 7)) (cN (I 1 8))) 4 8))) 10 j).toInt64 * (s_ffJ (s_hpI I J a b (cN (I 1 7)) (cN (I 1 8))) (s_hpJ I J a b (cN (I 1 7)) (cN (I 1 8))) (s_hpA I J a b (cN (I 1 7)) (cN (I 1 8))) (s_hpB I J a b (cN (I 1 7)) (cN (I 1 8))) (cN ((s_hpI I J a b (cN (I 1 7)) (cN (I 1 8))) 1 7)) (cN ((s_hpI I J a b (cN (I 1 7)) (cN (I 1 8))) 4 7)) (cN ((s_hpI I J a b (cN (I 1 7)) (cN (I 1 8))) 4 8))) 2 4 then 1 else 0)) (I1 := (s_ffI (s_hpI I J a b (cN (I 1 7)) (cN (I 1 8))))) (J1 := (s_ffJ (s_hpI I J a b (cN (I 1 7)) (cN (I 1 8))) (s_hpJ I J a b (cN (I 1 7)) (cN (I 1 8))) (s_hpA I J a b (cN (I 1 7)) (cN (I 1 8))) (s_hpB I J a b (cN (I 1 7)) (cN (I 1 8))) (cN ((s_hpI I J a b (cN (I 1 7)) (cN (I 1 8))) 1 7)) (cN ((s_hpI I J a b (cN (I 1 7)) (cN (I 1 8))) 4 7)) (cN ((s_hpI I J a b (cN (I 1 7)) (cN (I 1 8))) 4 8)))) (a1 := (s_ffA (s_hpI I J a b (cN (I 1 7)) (cN (I 1 8))) (s_hpJ I J a b (cN (I 1 7)) (cN (I 1 8))) (s_hpA I J a b (cN (I 1 7)) (cN (I 1 8))) (s_hpB I J a b (cN (I 1 7)) (cN (I 1 8))) (cN ((s_hpI I J a b (cN (I 1 7)) (cN (I 1 8))) 1 7)) (cN ((s_hpI I J a b (cN (I 1 7)) (cN (I 1 8))) 4 7)) (cN ((s_hpI I J a b (cN (I 1 7)) (cN (I 1 8))) 4 8)))) (b1 := (s_ffB (s_hpI I J a b (cN (I 1 7)) (cN (I 1 8))) (s_hpJ I J a b (cN (I 1 7)) (cN (I 1 8))) (s_hpA I J a b (cN (I 1 7)) (cN (I 1 8))) (s_hpB I J a b (cN (I 1 7)) (cN (I 1 8))) (cN ((s_hpI I J a b (cN (I 1 7)) (cN (I 1 8))) 1 7)) (cN ((s_hpI I J a b (cN (I 1 7)) (cN (I 1 8))) 4 7)) (cN ((s_hpI I J a b (cN (I 1 7)) (cN (I 1 8))) 4 8)))) (As := [.int (nI j)]) (rest := []) ⟨hx, hb, hml, hown, hts⟩ G 2 (kX2_isTight l D ad cy (s_hpI I J a b (cN (I 1 7)) (cN (I 1 8))) (s_hpJ I J a b (cN (I 1 7)) (cN (I 1 8))) (s_hpA I J a b (cN (I 1 7)) (cN (I 1 8))) (s_hpB I J a b (cN (I 1 7)) (cN (I 1 8))) H.size (cN ((s_hpI I J a b (cN (I 1 7)) (cN (I 1 8))) 1 7)) (cN ((s_hpI I J a b (cN (I 1 7)) (cN (I 1 8))) 4 7)) (cN ((s_hpI I J a b (cN (I 1 7)) (cN (I 1 8))) 4 8)) j gnn gnn2 gnl gnl2 gnc gnc2 gbas gout (by omega)) (cwV 1 hts gX4_tight_X2_isTight rfl rfl rfl (by decide +kernel) ⟨Nat.le_of_ble_eq_true rfl, Nat.le_of_ble_eq_true rfl⟩) (by decide) rfl rfl rfl rfl hl.1 rfl (Nat.le_of_ble_eq_true rfl) ⟨Nat.zero_le _, Nat.zero_le _⟩ dX4_tight_31 (fun H locs G => ?_)
      refine lv_if_eq (tgt := 41) hx hb dX4_tight_34 (by decide) (fun c34 => ?_) (fun c34 => ?_)
      · skip
        refine lv_iconst (v := 0) hx hb dX4_tight_41 (by decide) ?_
        exact gx_ir hx hb hr hlocks G hQ ⟨by simp only [c_tight, h_r, hS, fS, c8, c20, eclj, reduceIte]; first | exact c34.symm | exact i01n c34, by simp only [c_tightS, h_r, hS, fS, c8, c20, reduceIte]⟩ dX4_tight_42
      · skip
        refine lv_iconst (v := 1) hx hb dX4_tight_37 (by decide) ?_
        refine lv_goto (tgt := 42) hx hb dX4_tight_38 (by decide) ?_
        exact gx_ir hx hb hr hlocks G hQ ⟨by simp only [c_tight, h_r, hS, fS, c8, c20, eclj, reduceIte]; first | exact c34.symm | exact i01n c34, by simp only [c_tightS, h_r, hS, fS, c8, c20, reduceIte]⟩ dX4_tight_42
    · skip
      refine lv_bipush (v := -3) hx hb dX4_tight_23 (by decide) ?_
      exact gx_ir hx hb hr hlocks G hQ ⟨by simp only [c_tight, h_r, hS, fS, bS, eS, aS, c8, eclj, c20, reduceIte], by simp only [c_tightS, h_r, hS, fS, bS, eS, aS, c8, eclj, c20, reduceIte]⟩ dX4_tight_25
  · skip
    refine lv_iconst (v := -1) hx hb dX4_tight_11 (by decide) ?_
    exact gx_ir hx hb hr hlocks G hQ ⟨by simp only [c_tight, h_r, hS, fS, bS, eS, aS, c8, reduceIte], by simp only [c_tightS, h_r, hS, fS, bS, eS, aS, c8, reduceIte]⟩ dX4_tight_12

set_option maxHeartbeats 4000000 in
set_option maxRecDepth 100000 in
theorem kX4_barred (l : Launch) (D : va_G) (ad : Nat → Nat) (cy : Nat → ClassId) (I : gF) (J : gL) (a : gF) (b : gL) (sz : Nat) (k : Int32) (hok : cOK I a) : gMi l yX4_barred wsX4_barred ({ frames := 6, cells := 0, slots := 0, locals := 158 }) D ad cy I J a b sz [.ref (ad 0), .int k] (fun res u => res = c_barred (I, J, a, b) k ∧ u = c_barredS (I, J, a, b)) := by
  refine Met.ofW (cc := cX4_barred) (maxL := 3) (ret := some .int) (by decide) rfl ?_
  intro p e s m args below meth c s₁ B hml hv
  obtain ⟨hargs, hsz, G⟩ := gx_begin hv
  subst hsz
  have hx := B.exec
  have hb := B.bytes
  have hr := B.returns
  have hts := atoms_spec (ws := wsX4_barred) B.pre
  have hown : s.vm.findClass RX4 = some m.cls := findClass_of_methodNamed B.named
  have hlocks := B.notSynchronized
  have hinX4 : ∀ w ∈ wsX40, w ∈ wsX4_barred := by decide +kernel
  have lk21 := hts (.fieldLink RX4 21 "ExactSimplex" "solver" "LExactSimplex$Solver;") (by decide +kernel)
  have hl := lv_entry ([.ref (ad 0), .int k]) (n := 3) (Nat.le_of_ble_eq_true rfl)
  have hent := lg_entry_eq m ([.ref (ad 0), .int k]) 3
  rw [← hargs] at hent
  rw [hent]
  clear hent
  generalize (lg_sl ([.ref (ad 0), .int k]) ++ List.replicate (3 - (lg_sl ([.ref (ad 0), .int k])).length) Slot.unset).toArray = ls at hl ⊢
  have hl : lv_has ls 3 [(0, .ref (ad 0)), (1, .int k)] := hl
  generalize hA : gA ad s.heap.size = A at G ⊢
  generalize hH : s.heap = H at G ⊢
  refine gx_q (fun Q hQ => ?_)
  obtain ⟨⟨hnn, hnn2⟩, ⟨hnr, hnr2⟩, ⟨hnl, hnl2⟩, ⟨hnc, hnc2⟩, hbas, hout, h26, h38⟩ := id hok
  refine lv_aload_n hx hb dX4_barred_0 rfl (lv_at hl 0 rfl) ?_
  refine gx_get hx hb hts hinX4 hown G 0 (by decide) rfl rfl 1 (by decide) rfl lk21 rfl (v := .ref (ad 2)) rfl dX4_barred_1 ?_
  refine gx_dVi (v := (s_hp I J a b (cN (I 1 7)) (cN (I 1 8)))) (I1 := (s_hpI I J a b (cN (I 1 7)) (cN (I 1 8)))) (J1 := (s_hpJ I J a b (cN (I 1 7)) (cN (I 1 8)))) (a1 := (s_hpA I J a b (cN (I 1 7)) (cN (I 1 8)))) (b1 := (s_hpB I J a b (cN (I 1 7)) (cN (I 1 8)))) (As := []) (rest := []) ⟨hx, hb, hml, hown, hts⟩ G 2 (kX2_hasPoint l D ad cy I J a b H.size (cN (I 1 7)) (cN (I 1 8)) hnn hnn2 hnr hnr2 h26) (cwV 0 hts gX4_barred_X2_hasPoint rfl rfl rfl (by decide +kernel) ⟨Nat.le_of_ble_eq_true rfl, Nat.le_of_ble_eq_true rfl⟩) (by decide) rfl rfl rfl rfl hl.1 rfl (Nat.le_of_ble_eq_true rfl) ⟨Nat.zero_le _, Nat.zero_le _⟩ dX4_barred_4 (fun H locs G => ?_)
  have hok2 := s_hp_ok (J := J) (b := b) hok
  obtain ⟨⟨gnn, gnn2⟩, ⟨gnr, gnr2⟩, ⟨gnl, gnl2⟩, ⟨gnc, gnc2⟩, gbas, gout, g26, g38⟩ := id hok2
  refine lv_if_eq (tgt := 13) hx hb dX4_barred_7 (by decide) (fun c7 => ?_) (fun c7 => ?_)
  · skip
    refine lv_aload_n hx hb dX4_barred_13 rfl (lv_at hl 0 rfl) ?_
    refine gx_get hx hb hts hinX4 hown G 0 (by decide) rfl rfl 1 (by decide) rfl lk21 rfl (v := .ref (ad 2)) rfl dX4_barred_14 ?_
    refine lv_iload_n hx hb dX4_barred_17 rfl (lv_at hl 1 rfl) ?_
    refine gx_dVi (v := (s_brow ((s_brI (s_hpI I J a b (cN (I 1 7)) (cN (I 1 8))) (s_hpJ I J a b (cN (I 1 7)) (cN (I 1 8))) (s_hpA I J a b (cN (I 1 7)) (cN (I 1 8))) (s_hpB I J a b (cN (I 1 7)) (cN (I 1 8))) (cN ((s_hpI I J a b (cN (I 1 7)) (cN (I 1 8))) 1 7)) (cN ((s_hpI I J a b (cN (I 1 7)) (cN (I 1 8))) 1 8))) 2 9) k (cN ((s_hpI I J a b (cN (I 1 7)) (cN (I 1 8))) 1 8)) 0 0)) (I1 := (s_brI (s_hpI I J a b (cN (I 1 7)) (cN (I 1 8))) (s_hpJ I J a b (cN (I 1 7)) (cN (I 1 8))) (s_hpA I J a b (cN (I 1 7)) (cN (I 1 8))) (s_hpB I J a b (cN (I 1 7)) (cN (I 1 8))) (cN ((s_hpI I J a b (cN (I 1 7)) (cN (I 1 8))) 1 7)) (cN ((s_hpI I J a b (cN (I 1 7)) (cN (I 1 8))) 1 8)))) (J1 := (s_brJ (s_hpI I J a b (cN (I 1 7)) (cN (I 1 8))) (s_hpJ I J a b (cN (I 1 7)) (cN (I 1 8))) (s_hpA I J a b (cN (I 1 7)) (cN (I 1 8))) (s_hpB I J a b (cN (I 1 7)) (cN (I 1 8))) (cN ((s_hpI I J a b (cN (I 1 7)) (cN (I 1 8))) 1 7)) (cN ((s_hpI I J a b (cN (I 1 7)) (cN (I 1 8))) 1 8)))) (a1 := (s_brA (s_hpI I J a b (cN (I 1 7)) (cN (I 1 8))) (s_hpJ I J a b (cN (I 1 7)) (cN (I 1 8))) (s_hpA I J a b (cN (I 1 7)) (cN (I 1 8))) (s_hpB I J a b (cN (I 1 7)) (cN (I 1 8))) (cN ((s_hpI I J a b (cN (I 1 7)) (cN (I 1 8))) 1 7)) (cN ((s_hpI I J a b (cN (I 1 7)) (cN (I 1 8))) 1 8)))) (b1 := (s_brB (s_hpI I J a b (cN (I 1 7)) (cN (I 1 8))) (s_hpJ I J a b (cN (I 1 7)) (cN (I 1 8))) (s_hpA I J a b (cN (I 1 7)) (cN (I 1 8))) (s_hpB I J a b (cN (I 1 7)) (cN (I 1 8))) (cN ((s_hpI I J a b (cN (I 1 7)) (cN (I 1 8))) 1 7)) (cN ((s_hpI I J a b (cN (I 1 7)) (cN (I 1 8))) 1 8)))) (As := [.int k]) (rest := []) ⟨hx, hb, hml, hown, hts⟩ G 2 (kX2_barredRow l D ad cy (s_hpI I J a b (cN (I 1 7)) (cN (I 1 8))) (s_hpJ I J a b (cN (I 1 7)) (cN (I 1 8))) (s_hpA I J a b (cN (I 1 7)) (cN (I 1 8))) (s_hpB I J a b (cN (I 1 7)) (cN (I 1 8))) H.size (cN ((s_hpI I J a b (cN (I 1 7)) (cN (I 1 8))) 1 7)) (cN ((s_hpI I J a b (cN (I 1 7)) (cN (I 1 8))) 1 8)) k gnn gnn2 gnr gnr2) (cwV 1 hts gX4_barred_X2_barredRow rfl rfl rfl (by decide +kernel) ⟨Nat.le_of_ble_eq_true rfl, Nat.le_of_ble_eq_true rfl⟩) (by decide) rfl rfl rfl rfl hl.1 rfl (Nat.le_of_ble_eq_true rfl) ⟨Nat.zero_le _, Nat.zero_le _⟩ dX4_barred_18 (fun H locs G => ?_)
    refine lv_istore_n (lv' := [(2, .int (s_brow ((s_brI (s_hpI I J a b (cN (I 1 7)) (cN (I 1 8))) (s_hpJ I J a b (cN (I 1 7)) (cN (I 1 8))) (s_hpA I J a b (cN (I 1 7)) (cN (I 1 8))) (s_hpB I J a b (cN (I 1 7)) (cN (I 1 8))) (cN ((s_hpI I J a b (cN (I 1 7)) (cN (I 1 8))) 1 7)) (cN ((s_hpI I J a b (cN (I 1 7)) (cN (I 1 8))) 1 8))) 2 9) k (cN ((s_hpI I J a b (cN (I 1 7)) (cN (I 1 8))) 1 8)) 0 0)), (0, .ref (ad 0)), (1, .int k)]) hx hb dX4_barred_21 rfl hl (by decide) rfl (fun ls hl => ?_)
    refine lv_iload_n hx hb dX4_barred_22 rfl (lv_at hl 0 rfl) ?_
    refine lv_if_ge (tgt := 30) hx hb dX4_barred_23 (by decide) (fun c23 => ?_) (fun c23 => ?_)
    · skip
      refine lv_iload_n hx hb dX4_barred_30 rfl (lv_at hl 0 rfl) ?_
      exact gx_ir hx hb hr hlocks G hQ ⟨by simp only [c_barred, q_brow, h_r, hS, fS, bS, eS, aS, c7, c23, reduceIte], by simp only [c_barredS, h_r, hS, fS, bS, eS, aS, c7, c23, reduceIte]⟩ dX4_barred_31
    · skip
      refine lv_iconst (v := -1) hx hb dX4_barred_26 (by decide) ?_
      refine lv_goto (tgt := 31) hx hb dX4_barred_27 (by decide) ?_
      exact gx_ir hx hb hr hlocks G hQ ⟨by simp only [c_barred, q_brow, h_r, hS, fS, bS, eS, aS, c7, c23, reduceIte], by simp only [c_barredS, h_r, hS, fS, bS, eS, aS, c7, c23, reduceIte]⟩ dX4_barred_31
  · skip
    refine lv_bipush (v := -3) hx hb dX4_barred_10 (by decide) ?_
    exact gx_ir hx hb hr hlocks G hQ ⟨by simp only [c_barred, q_brow, h_r, hS, fS, bS, eS, aS, c7, reduceIte], by simp only [c_barredS, h_r, hS, fS, bS, eS, aS, c7, reduceIte]⟩ dX4_barred_12

set_option maxHeartbeats 4000000 in
set_option maxRecDepth 100000 in
theorem kX4_refusalOfEnd (l : Launch) (D : va_G) (ad : Nat → Nat) (cy : Nat → ClassId) (I : gF) (J : gL) (a : gF) (b : gL) (sz : Nat) (v sd pt : Int32) (hok : cOK I a) : gMi l yX4_refusalOfEnd wsX4_refusalOfEnd ({ frames := 5, cells := 0, slots := 0, locals := 132 }) D ad cy I J a b sz [.ref (ad 0), .int v, .int sd, .int pt] (fun res u => res = q_re (I, J, a, b) v sd pt ∧ u = q_reS (I, J, a, b) v sd pt) := by
  refine Met.ofW (cc := cX4_refusalOfEnd) (maxL := 4) (ret := some .int) (by decide) rfl ?_
  intro p e s m args below meth c s₁ B hml hv
  obtain ⟨hargs, hsz, G⟩ := gx_begin hv
  subst hsz
  have hx := B.exec
  have hb := B.bytes
  have hr := B.returns
  have hts := atoms_spec (ws := wsX4_refusalOfEnd) B.pre
  have hown : s.vm.findClass RX4 = some m.cls := findClass_of_methodNamed B.named
  have hlocks := B.notSynchronized
  have hinX4 : ∀ w ∈ wsX40, w ∈ wsX4_refusalOfEnd := by decide +kernel
  have lk10 := hts (.fieldLink RX4 10 "ExactSimplex" "problem" "LExactSimplex$Problem;") (by decide +kernel)
  have lk21 := hts (.fieldLink RX4 21 "ExactSimplex" "solver" "LExactSimplex$Solver;") (by decide +kernel)
  have hl := lv_entry ([.ref (ad 0), .int v, .int sd, .int pt]) (n := 4) (Nat.le_of_ble_eq_true rfl)
  have hent := lg_entry_eq m ([.ref (ad 0), .int v, .int sd, .int pt]) 4
  rw [← hargs] at hent
  rw [hent]
  clear hent
  generalize (lg_sl ([.ref (ad 0), .int v, .int sd, .int pt]) ++ List.replicate (4 - (lg_sl ([.ref (ad 0), .int v, .int sd, .int pt])).length) Slot.unset).toArray = ls at hl ⊢
  have hl : lv_has ls 4 [(0, .ref (ad 0)), (1, .int v), (2, .int sd), (3, .int pt)] := hl
  generalize hA : gA ad s.heap.size = A at G ⊢
  generalize hH : s.heap = H at G ⊢
  refine gx_q (fun Q hQ => ?_)
  obtain ⟨⟨hnn, hnn2⟩, ⟨hnr, hnr2⟩, ⟨hnl, hnl2⟩, ⟨hnc, hnc2⟩, hbas, hout, h26, h38⟩ := id hok
  refine lv_aload_n hx hb dX4_refusalOfEnd_0 rfl (lv_at hl 0 rfl) ?_
  refine gx_get hx hb hts hinX4 hown G 0 (by decide) rfl rfl 0 (by decide) rfl lk10 rfl (v := .ref (ad 1)) rfl dX4_refusalOfEnd_1 ?_
  refine lv_iload_n hx hb dX4_refusalOfEnd_4 rfl (lv_at hl 1 rfl) ?_
  refine gx_dVi (v := (p_hasN I v)) (I1 := I) (J1 := J) (a1 := a) (b1 := b) (As := [.int v]) (rest := []) ⟨hx, hb, hml, hown, hts⟩ G 1 (kX1_hasName l D ad cy I J a b H.size v) (cwV 1 hts gX4_refusalOfEnd_X1_hasName rfl rfl rfl (by decide +kernel) ⟨Nat.le_of_ble_eq_true rfl, Nat.le_of_ble_eq_true rfl⟩) (by decide) rfl rfl rfl rfl hl.1 rfl (Nat.le_of_ble_eq_true rfl) ⟨Nat.zero_le _, Nat.zero_le _⟩ dX4_refusalOfEnd_5 (fun H locs G => ?_)
  refine lv_if_ne (tgt := 13) hx hb dX4_refusalOfEnd_8 (by decide) (fun c8 => ?_) (fun c8 => ?_)
  · skip
    refine lv_iload_n hx hb dX4_refusalOfEnd_13 rfl (lv_at hl 2 rfl) ?_
    refine gx_dSi (v := (q_z01 sd)) (I1 := I) (J1 := J) (a1 := a) (b1 := b) (As := [.int sd]) (rest := []) ⟨hx, hb, hml, hown, hts⟩ G (kX4_isZeroOrOne l D ad cy I J a b H.size sd) (va_cwS 1 hts gX4_refusalOfEnd_X4_isZeroOrOne rfl rfl rfl (by decide +kernel) ⟨Nat.le_of_ble_eq_true rfl, Nat.le_of_ble_eq_true rfl⟩) rfl hl.1 rfl (Nat.le_of_ble_eq_true rfl) ⟨Nat.zero_le _, Nat.zero_le _⟩ dX4_refusalOfEnd_14 (fun H locs G => ?_)
    refine lv_if_eq (tgt := 27) hx hb dX4_refusalOfEnd_17 (by decide) (fun c17 => ?_) (fun c17 => ?_)
    · skip
      refine lv_bipush (v := -2) hx hb dX4_refusalOfEnd_27 (by decide) ?_
      exact gx_ir hx hb hr hlocks G hQ ⟨by simp only [q_re, h_r, hS, c8, c17, reduceIte], by simp only [q_reS, h_r, hS, c8, c17, reduceIte]⟩ dX4_refusalOfEnd_29
    · skip
      refine lv_iload_n hx hb dX4_refusalOfEnd_20 rfl (lv_at hl 3 rfl) ?_
      refine gx_dSi (v := (q_z01 pt)) (I1 := I) (J1 := J) (a1 := a) (b1 := b) (As := [.int pt]) (rest := []) ⟨hx, hb, hml, hown, hts⟩ G (kX4_isZeroOrOne l D ad cy I J a b H.size pt) (va_cwS 1 hts gX4_refusalOfEnd_X4_isZeroOrOne rfl rfl rfl (by decide +kernel) ⟨Nat.le_of_ble_eq_true rfl, Nat.le_of_ble_eq_true rfl⟩) rfl hl.1 rfl (Nat.le_of_ble_eq_true rfl) ⟨Nat.zero_le _, Nat.zero_le _⟩ dX4_refusalOfEnd_21 (fun H locs G => ?_)
      refine lv_if_ne (tgt := 30) hx hb dX4_refusalOfEnd_24 (by decide) (fun c24 => ?_) (fun c24 => ?_)
      · skip
        refine lv_aload_n hx hb dX4_refusalOfEnd_30 rfl (lv_at hl 0 rfl) ?_
        refine gx_get hx hb hts hinX4 hown G 0 (by decide) rfl rfl 1 (by decide) rfl lk21 rfl (v := .ref (ad 2)) rfl dX4_refusalOfEnd_31 ?_
        refine gx_dVi (v := (s_hp I J a b (cN (I 1 7)) (cN (I 1 8)))) (I1 := (s_hpI I J a b (cN (I 1 7)) (cN (I 1 8)))) (J1 := (s_hpJ I J a b (cN (I 1 7)) (cN (I 1 8)))) (a1 := (s_hpA I J a b (cN (I 1 7)) (cN (I 1 8)))) (b1 := (s_hpB I J a b (cN (I 1 7)) (cN (I 1 8)))) (As := []) (rest := []) ⟨hx, hb, hml, hown, hts⟩ G 2 (kX2_hasPoint l D ad cy I J a b H.size (cN (I 1 7)) (cN (I 1 8)) hnn hnn2 hnr hnr2 h26) (cwV 0 hts gX4_refusalOfEnd_X2_hasPoint rfl rfl rfl (by decide +kernel) ⟨Nat.le_of_ble_eq_true rfl, Nat.le_of_ble_eq_true rfl⟩) (by decide) rfl rfl rfl rfl hl.1 rfl (Nat.le_of_ble_eq_true rfl) ⟨Nat.zero_le _, Nat.zero_le _⟩ dX4_refusalOfEnd_34 (fun H locs G => ?_)
        have hok2 := s_hp_ok (J := J) (b := b) hok
        obtain ⟨⟨gnn, gnn2⟩, ⟨gnr, gnr2⟩, ⟨gnl, gnl2⟩, ⟨gnc, gnc2⟩, gbas, gout, g26, g38⟩ := id hok2
        refine lv_if_eq (tgt := 44) hx hb dX4_refusalOfEnd_37 (by decide) (fun c37 => ?_) (fun c37 => ?_)
        · skip
          refine lv_bipush (v := -3) hx hb dX4_refusalOfEnd_44 (by decide) ?_
          exact gx_ir hx hb hr hlocks G hQ ⟨by simp only [q_re, h_r, hS, c8, c17, c24, c37, reduceIte], by simp only [q_reS, h_r, hS, c8, c17, c24, c37, reduceIte]⟩ dX4_refusalOfEnd_46
        · skip
          refine lv_iconst (v := 0) hx hb dX4_refusalOfEnd_40 (by decide) ?_
          refine lv_goto (tgt := 46) hx hb dX4_refusalOfEnd_41 (by decide) ?_
          exact gx_ir hx hb hr hlocks G hQ ⟨by simp only [q_re, h_r, hS, c8, c17, c24, c37, reduceIte], by simp only [q_reS, h_r, hS, c8, c17, c24, c37, reduceIte]⟩ dX4_refusalOfEnd_46
      · skip
        refine lv_bipush (v := -2) hx hb dX4_refusalOfEnd_27 (by decide) ?_
        exact gx_ir hx hb hr hlocks G hQ ⟨by simp only [q_re, h_r, hS, c8, c17, c24, reduceIte], by simp only [q_reS, h_r, hS, c8, c17, c24, reduceIte]⟩ dX4_refusalOfEnd_29
  · skip
    refine lv_iconst (v := -1) hx hb dX4_refusalOfEnd_11 (by decide) ?_
    exact gx_ir hx hb hr hlocks G hQ ⟨by simp only [q_re, h_r, hS, c8, reduceIte], by simp only [q_reS, h_r, hS, c8, reduceIte]⟩ dX4_refusalOfEnd_12

set_option maxHeartbeats 4000000 in
set_option maxRecDepth 100000 in
theorem kX4_reach (l : Launch) (D : va_G) (ad : Nat → Nat) (cy : Nat → ClassId) (I : gF) (J : gL) (a : gF) (b : gL) (sz : Nat) (v sd pt : Int32) (hok : cOK I a) : gMl l yX4_reach wsX4_reach ({ frames := 6, cells := 0, slots := 0, locals := 155 }) D ad cy I J a b sz [.ref (ad 0), .int v, .int sd, .int pt] (fun res u => res = c_reach (I, J, a, b) v sd pt ∧ u = c_reachS (I, J, a, b) v sd pt) := by
  refine Met.ofW (cc := cX4_reach) (maxL := 5) (ret := some .long) (by decide) rfl ?_
  intro p e s m args below meth c s₁ B hml hv
  obtain ⟨hargs, hsz, G⟩ := gx_begin hv
  subst hsz
  have hx := B.exec
  have hb := B.bytes
  have hr := B.returns
  have hts := atoms_spec (ws := wsX4_reach) B.pre
  have hown : s.vm.findClass RX4 = some m.cls := findClass_of_methodNamed B.named
  have hlocks := B.notSynchronized
  have hinX4 : ∀ w ∈ wsX40, w ∈ wsX4_reach := by decide +kernel
  have lk21 := hts (.fieldLink RX4 21 "ExactSimplex" "solver" "LExactSimplex$Solver;") (by decide +kernel)
  have hl := lv_entry ([.ref (ad 0), .int v, .int sd, .int pt]) (n := 5) (Nat.le_of_ble_eq_true rfl)
  have hent := lg_entry_eq m ([.ref (ad 0), .int v, .int sd, .int pt]) 5
  rw [← hargs] at hent
  rw [hent]
  clear hent
  generalize (lg_sl ([.ref (ad 0), .int v, .int sd, .int pt]) ++ List.replicate (5 - (lg_sl ([.ref (ad 0), .int v, .int sd, .int pt])).length) Slot.unset).toArray = ls at hl ⊢
  have hl : lv_has ls 5 [(0, .ref (ad 0)), (1, .int v), (2, .int sd), (3, .int pt)] := hl
  generalize hA : gA ad s.heap.size = A at G ⊢
  generalize hH : s.heap = H at G ⊢
  refine gx_q (fun Q hQ => ?_)
  obtain ⟨⟨hnn, hnn2⟩, ⟨hnr, hnr2⟩, ⟨hnl, hnl2⟩, ⟨hnc, hnc2⟩, hbas, hout, h26, h38⟩ := id hok
  refine lv_aload_n hx hb dX4_reach_0 rfl (lv_at hl 0 rfl) ?_
  refine lv_iload_n hx hb dX4_reach_1 rfl (lv_at hl 1 rfl) ?_
  refine lv_iload_n hx hb dX4_reach_2 rfl (lv_at hl 2 rfl) ?_
  refine lv_iload_n hx hb dX4_reach_3 rfl (lv_at hl 3 rfl) ?_
  refine gx_dVi (v := (q_re (I, J, a, b) v sd pt)) (I1 := ((q_reS (I, J, a, b) v sd pt).1)) (J1 := ((q_reS (I, J, a, b) v sd pt).2.1)) (a1 := ((q_reS (I, J, a, b) v sd pt).2.2.1)) (b1 := ((q_reS (I, J, a, b) v sd pt).2.2.2)) (As := [.int v, .int sd, .int pt]) (rest := []) ⟨hx, hb, hml, hown, hts⟩ G 0 (kX4_refusalOfEnd l D ad cy I J a b H.size v sd pt hok) (cwV 3 hts gX4_reach_X4_refusalOfEnd rfl rfl rfl (by decide +kernel) ⟨Nat.le_of_ble_eq_true rfl, Nat.le_of_ble_eq_true rfl⟩) (by decide) rfl rfl rfl rfl hl.1 rfl (Nat.le_of_ble_eq_true rfl) ⟨Nat.zero_le _, Nat.zero_le _⟩ dX4_reach_4 (fun H locs G => ?_)
  refine lv_istore (lv' := [(4, .int (q_re (I, J, a, b) v sd pt)), (0, .ref (ad 0)), (1, .int v), (2, .int sd), (3, .int pt)]) hx hb dX4_reach_7 hl (by decide) rfl (fun ls hl => ?_)
  refine lv_iload hx hb dX4_reach_9 (lv_at hl 0 rfl) ?_
  refine lv_if_eq (tgt := 20) hx hb dX4_reach_11 (by decide) (fun c11 => ?_) (fun c11 => ?_)
  · skip
    obtain ⟨hq1, hq2⟩ := q_re_0 c11
    rw [hq2] at G
    obtain ⟨j, hj, ej⟩ := p_hasN_ix hnn (by omega) hq1
    have ecl : cN v = j := cN_of ej (by omega)
    have hok2 : cOK (hS (I, J, a, b)).1 (hS (I, J, a, b)).2.2.1 := s_hp_ok (J := J) (b := b) hok
    obtain ⟨⟨gnn, gnn2⟩, ⟨gnr, gnr2⟩, ⟨gnl, gnl2⟩, ⟨gnc, gnc2⟩, gbas, gout, g26, g38⟩ := id hok2
    refine lv_aload_n hx hb dX4_reach_20 rfl (lv_at hl 1 rfl) ?_
    refine gx_get hx hb hts hinX4 hown G 0 (by decide) rfl rfl 1 (by decide) rfl lk21 rfl (v := .ref (ad 2)) rfl dX4_reach_21 ?_
    refine lv_iload_n hx hb dX4_reach_24 rfl (lv_at hl 2 rfl) ?_
    refine lv_iload_n hx hb dX4_reach_25 rfl (lv_at hl 3 rfl) ?_
    refine lv_iload_n hx hb dX4_reach_26 rfl (lv_at hl 4 rfl) ?_
    rw [ej]
    refine gx_dVl (v := (s_eb ((hS (I, J, a, b)).1) ((hS (I, J, a, b)).2.1) ((hS (I, J, a, b)).2.2.1) ((hS (I, J, a, b)).2.2.2) (cN ((hS (I, J, a, b)).1 4 7)) (cN ((hS (I, J, a, b)).1 4 8)) j sd pt)) (I1 := ((hS (I, J, a, b)).1)) (J1 := ((s_ebX ((hS (I, J, a, b)).1) ((hS (I, J, a, b)).2.1) ((hS (I, J, a, b)).2.2.1) ((hS (I, J, a, b)).2.2.2) (cN ((hS (I, J, a, b)).1 4 7)) (cN ((hS (I, J, a, b)).1 4 8)) j sd).1)) (a1 := ((s_ebX ((hS (I, J, a, b)).1) ((hS (I, J, a, b)).2.1) ((hS (I, J, a, b)).2.2.1) ((hS (I, J, a, b)).2.2.2) (cN ((hS (I, J, a, b)).1 4 7)) (cN ((hS (I, J, a, b)).1 4 8)) j sd).2.1)) (b1 := ((s_ebX ((hS (I, J, a, b)).1) ((hS (I, J, a, b)).2.1) ((hS (I, J, a, b)).2.2.1) ((hS (I, J, a, b)).2.2.2) (cN ((hS (I, J, a, b)).1 4 7)) (cN ((hS (I, J, a, b)).1 4 8)) j sd).2.2)) (As := [.int (nI j), .int sd, .int pt]) (rest := []) ⟨hx, hb, hml, hown, hts⟩ G 2 (kX2_endAmongBest l D ad cy ((hS (I, J, a, b)).1) ((hS (I, J, a, b)).2.1) ((hS (I, J, a, b)).2.2.1) ((hS (I, J, a, b)).2.2.2) H.size (cN ((hS (I, J, a, b)).1 4 7)) (cN ((hS (I, J, a, b)).1 4 8)) j sd pt gnl gnl2 gnc gnc2 gbas gout (by omega)) (cwV 3 hts gX4_reach_X2_endAmongBest rfl rfl rfl (by decide +kernel) ⟨Nat.le_of_ble_eq_true rfl, Nat.le_of_ble_eq_true rfl⟩) (by decide) rfl rfl rfl rfl hl.1 rfl (Nat.le_of_ble_eq_true rfl) ⟨Nat.zero_le _, Nat.zero_le _⟩ dX4_reach_27 (fun H locs G => ?_)
    exact gx_lr hx hb hr hlocks G hQ ⟨by first | (unfold c_reach; rw [if_pos c11, ecl]; done) | (unfold c_reach; rw [if_neg c11]; done), by first | (unfold c_reachS; rw [if_pos c11, ecl]; rfl) | (unfold c_reachS; rw [if_neg c11]; done)⟩ dX4_reach_30
  · skip
    refine lv_iload hx hb dX4_reach_14 (lv_at hl 0 rfl) ?_
    refine lv_i2l (v := (q_re (I, J, a, b) v sd pt).toInt64) hx hb dX4_reach_16 rfl ?_
    refine lv_goto (tgt := 30) hx hb dX4_reach_17 (by decide) ?_
    exact gx_lr hx hb hr hlocks G hQ ⟨by first | (unfold c_reach; rw [if_pos c11, ecl]; done) | (unfold c_reach; rw [if_neg c11]; done), by first | (unfold c_reachS; rw [if_pos c11, ecl]; rfl) | (unfold c_reachS; rw [if_neg c11]; done)⟩ dX4_reach_30

set_option maxHeartbeats 4000000 in
set_option maxRecDepth 100000 in
theorem kX4_far (l : Launch) (D : va_G) (ad : Nat → Nat) (cy : Nat → ClassId) (I : gF) (J : gL) (a : gF) (b : gL) (sz : Nat) (v sd pt : Int32) (hok : cOK I a) : gMl l yX4_far wsX4_far ({ frames := 6, cells := 0, slots := 0, locals := 155 }) D ad cy I J a b sz [.ref (ad 0), .int v, .int sd, .int pt] (fun res u => res = c_far (I, J, a, b) v sd pt ∧ u = c_farS (I, J, a, b) v sd pt) := by
  refine Met.ofW (cc := cX4_far) (maxL := 5) (ret := some .long) (by decide) rfl ?_
  intro p e s m args below meth c s₁ B hml hv
  obtain ⟨hargs, hsz, G⟩ := gx_begin hv
  subst hsz
  have hx := B.exec
  have hb := B.bytes
  have hr := B.returns
  have hts := atoms_spec (ws := wsX4_far) B.pre
  have hown : s.vm.findClass RX4 = some m.cls := findClass_of_methodNamed B.named
  have hlocks := B.notSynchronized
  have hinX4 : ∀ w ∈ wsX40, w ∈ wsX4_far := by decide +kernel
  have lk21 := hts (.fieldLink RX4 21 "ExactSimplex" "solver" "LExactSimplex$Solver;") (by decide +kernel)
  have hl := lv_entry ([.ref (ad 0), .int v, .int sd, .int pt]) (n := 5) (Nat.le_of_ble_eq_true rfl)
  have hent := lg_entry_eq m ([.ref (ad 0), .int v, .int sd, .int pt]) 5
  rw [← hargs] at hent
  rw [hent]
  clear hent
  generalize (lg_sl ([.ref (ad 0), .int v, .int sd, .int pt]) ++ List.replicate (5 - (lg_sl ([.ref (ad 0), .int v, .int sd, .int pt])).length) Slot.unset).toArray = ls at hl ⊢
  have hl : lv_has ls 5 [(0, .ref (ad 0)), (1, .int v), (2, .int sd), (3, .int pt)] := hl
  generalize hA : gA ad s.heap.size = A at G ⊢
  generalize hH : s.heap = H at G ⊢
  refine gx_q (fun Q hQ => ?_)
  obtain ⟨⟨hnn, hnn2⟩, ⟨hnr, hnr2⟩, ⟨hnl, hnl2⟩, ⟨hnc, hnc2⟩, hbas, hout, h26, h38⟩ := id hok
  refine lv_aload_n hx hb dX4_far_0 rfl (lv_at hl 0 rfl) ?_
  refine lv_iload_n hx hb dX4_far_1 rfl (lv_at hl 1 rfl) ?_
  refine lv_iload_n hx hb dX4_far_2 rfl (lv_at hl 2 rfl) ?_
  refine lv_iload_n hx hb dX4_far_3 rfl (lv_at hl 3 rfl) ?_
  refine gx_dVi (v := (q_re (I, J, a, b) v sd pt)) (I1 := ((q_reS (I, J, a, b) v sd pt).1)) (J1 := ((q_reS (I, J, a, b) v sd pt).2.1)) (a1 := ((q_reS (I, J, a, b) v sd pt).2.2.1)) (b1 := ((q_reS (I, J, a, b) v sd pt).2.2.2)) (As := [.int v, .int sd, .int pt]) (rest := []) ⟨hx, hb, hml, hown, hts⟩ G 0 (kX4_refusalOfEnd l D ad cy I J a b H.size v sd pt hok) (cwV 3 hts gX4_far_X4_refusalOfEnd rfl rfl rfl (by decide +kernel) ⟨Nat.le_of_ble_eq_true rfl, Nat.le_of_ble_eq_true rfl⟩) (by decide) rfl rfl rfl rfl hl.1 rfl (Nat.le_of_ble_eq_true rfl) ⟨Nat.zero_le _, Nat.zero_le _⟩ dX4_far_4 (fun H locs G => ?_)
  refine lv_istore (lv' := [(4, .int (q_re (I, J, a, b) v sd pt)), (0, .ref (ad 0)), (1, .int v), (2, .int sd), (3, .int pt)]) hx hb dX4_far_7 hl (by decide) rfl (fun ls hl => ?_)
  refine lv_iload hx hb dX4_far_9 (lv_at hl 0 rfl) ?_
  refine lv_if_eq (tgt := 20) hx hb dX4_far_11 (by decide) (fun c11 => ?_) (fun c11 => ?_)
  · skip
    obtain ⟨hq1, hq2⟩ := q_re_0 c11
    rw [hq2] at G
    obtain ⟨j, hj, ej⟩ := p_hasN_ix hnn (by omega) hq1
    have ecl : cN v = j := cN_of ej (by omega)
    have hok2 : cOK (hS (I, J, a, b)).1 (hS (I, J, a, b)).2.2.1 := s_hp_ok (J := J) (b := b) hok
    obtain ⟨⟨gnn, gnn2⟩, ⟨gnr, gnr2⟩, ⟨gnl, gnl2⟩, ⟨gnc, gnc2⟩, gbas, gout, g26, g38⟩ := id hok2
    refine lv_aload_n hx hb dX4_far_20 rfl (lv_at hl 1 rfl) ?_
    refine gx_get hx hb hts hinX4 hown G 0 (by decide) rfl rfl 1 (by decide) rfl lk21 rfl (v := .ref (ad 2)) rfl dX4_far_21 ?_
    refine lv_iload_n hx hb dX4_far_24 rfl (lv_at hl 2 rfl) ?_
    refine lv_iload_n hx hb dX4_far_25 rfl (lv_at hl 3 rfl) ?_
    refine lv_iload_n hx hb dX4_far_26 rfl (lv_at hl 4 rfl) ?_
    rw [ej]
    refine gx_dVl (v := (s_end ((hS (I, J, a, b)).1) ((hS (I, J, a, b)).2.1) (d_thaw ((hS (I, J, a, b)).2.2.1) (cN ((hS (I, J, a, b)).1 4 8))) ((hS (I, J, a, b)).2.2.2) (cN ((hS (I, J, a, b)).1 4 7)) (cN ((hS (I, J, a, b)).1 4 8)) j (s_w sd) pt)) (I1 := ((hS (I, J, a, b)).1)) (J1 := ((s_endX ((hS (I, J, a, b)).1) ((hS (I, J, a, b)).2.1) (d_thaw ((hS (I, J, a, b)).2.2.1) (cN ((hS (I, J, a, b)).1 4 8))) ((hS (I, J, a, b)).2.2.2) (cN ((hS (I, J, a, b)).1 4 7)) (cN ((hS (I, J, a, b)).1 4 8)) j (s_w sd)).1)) (a1 := ((s_endX ((hS (I, J, a, b)).1) ((hS (I, J, a, b)).2.1) (d_thaw ((hS (I, J, a, b)).2.2.1) (cN ((hS (I, J, a, b)).1 4 8))) ((hS (I, J, a, b)).2.2.2) (cN ((hS (I, J, a, b)).1 4 7)) (cN ((hS (I, J, a, b)).1 4 8)) j (s_w sd)).2.1)) (b1 := ((s_endX ((hS (I, J, a, b)).1) ((hS (I, J, a, b)).2.1) (d_thaw ((hS (I, J, a, b)).2.2.1) (cN ((hS (I, J, a, b)).1 4 8))) ((hS (I, J, a, b)).2.2.2) (cN ((hS (I, J, a, b)).1 4 7)) (cN ((hS (I, J, a, b)).1 4 8)) j (s_w sd)).2.2)) (As := [.int (nI j), .int sd, .int pt]) (rest := []) ⟨hx, hb, hml, hown, hts⟩ G 2 (kX2_endAmongAll l D ad cy ((hS (I, J, a, b)).1) ((hS (I, J, a, b)).2.1) ((hS (I, J, a, b)).2.2.1) ((hS (I, J, a, b)).2.2.2) H.size (cN ((hS (I, J, a, b)).1 4 7)) (cN ((hS (I, J, a, b)).1 4 8)) j sd pt gnl gnl2 gnc gnc2 gbas gout (by omega)) (cwV 3 hts gX4_far_X2_endAmongAll rfl rfl rfl (by decide +kernel) ⟨Nat.le_of_ble_eq_true rfl, Nat.le_of_ble_eq_true rfl⟩) (by decide) rfl rfl rfl rfl hl.1 rfl (Nat.le_of_ble_eq_true rfl) ⟨Nat.zero_le _, Nat.zero_le _⟩ dX4_far_27 (fun H locs G => ?_)
    exact gx_lr hx hb hr hlocks G hQ ⟨by first | (unfold c_far; rw [if_pos c11, ecl]; done) | (unfold c_far; rw [if_neg c11]; done), by first | (unfold c_farS; rw [if_pos c11, ecl]; rfl) | (unfold c_farS; rw [if_neg c11]; done)⟩ dX4_far_30
  · skip
    refine lv_iload hx hb dX4_far_14 (lv_at hl 0 rfl) ?_
    refine lv_i2l (v := (q_re (I, J, a, b) v sd pt).toInt64) hx hb dX4_far_16 rfl ?_
    refine lv_goto (tgt := 30) hx hb dX4_far_17 (by decide) ?_
    exact gx_lr hx hb hr hlocks G hQ ⟨by first | (unfold c_far; rw [if_pos c11, ecl]; done) | (unfold c_far; rw [if_neg c11]; done), by first | (unfold c_farS; rw [if_pos c11, ecl]; rfl) | (unfold c_farS; rw [if_neg c11]; done)⟩ dX4_far_30

set_option maxHeartbeats 4000000 in
set_option maxRecDepth 100000 in
theorem kX4_refusalOfWhole (l : Launch) (D : va_G) (ad : Nat → Nat) (cy : Nat → ClassId) (I : gF) (J : gL) (a : gF) (b : gL) (sz : Nat)  (hok : cOK I a) : gMi l yX4_refusalOfWhole wsX4_refusalOfWhole ({ frames := 5, cells := 0, slots := 0, locals := 131 }) D ad cy I J a b sz [.ref (ad 0)] (fun res u => res = q_rw (I, J, a, b) ∧ u = q_rwS (I, J, a, b)) := by
  refine Met.ofW (cc := cX4_refusalOfWhole) (maxL := 1) (ret := some .int) (by decide) rfl ?_
  intro p e s m args below meth c s₁ B hml hv
  obtain ⟨hargs, hsz, G⟩ := gx_begin hv
  subst hsz
  have hx := B.exec
  have hb := B.bytes
  have hr := B.returns
  have hts := atoms_spec (ws := wsX4_refusalOfWhole) B.pre
  have hown : s.vm.findClass RX4 = some m.cls := findClass_of_methodNamed B.named
  have hlocks := B.notSynchronized
  have hinX4 : ∀ w ∈ wsX40, w ∈ wsX4_refusalOfWhole := by decide +kernel
  have lk10 := hts (.fieldLink RX4 10 "ExactSimplex" "problem" "LExactSimplex$Problem;") (by decide +kernel)
  have lk28 := hts (.fieldLink RX4 28 "ExactSimplex" "search" "LExactSimplex$WholeSearch;") (by decide +kernel)
  have hl := lv_entry ([.ref (ad 0)]) (n := 1) (Nat.le_of_ble_eq_true rfl)
  have hent := lg_entry_eq m ([.ref (ad 0)]) 1
  rw [← hargs] at hent
  rw [hent]
  clear hent
  generalize (lg_sl ([.ref (ad 0)]) ++ List.replicate (1 - (lg_sl ([.ref (ad 0)])).length) Slot.unset).toArray = ls at hl ⊢
  have hl : lv_has ls 1 [(0, .ref (ad 0))] := hl
  generalize hA : gA ad s.heap.size = A at G ⊢
  generalize hH : s.heap = H at G ⊢
  refine gx_q (fun Q hQ => ?_)
  obtain ⟨⟨hnn, hnn2⟩, ⟨hnr, hnr2⟩, ⟨hnl, hnl2⟩, ⟨hnc, hnc2⟩, hbas, hout, h26, h38⟩ := id hok
  refine lv_aload_n hx hb dX4_refusalOfWhole_0 rfl (lv_at hl 0 rfl) ?_
  refine gx_get hx hb hts hinX4 hown G 0 (by decide) rfl rfl 0 (by decide) rfl lk10 rfl (v := .ref (ad 1)) rfl dX4_refusalOfWhole_1 ?_
  refine gx_dVl (v := (p_cw a (cN (I 1 7)))) (I1 := I) (J1 := J) (a1 := a) (b1 := b) (As := []) (rest := []) ⟨hx, hb, hml, hown, hts⟩ G 1 (kX1_countWhole l D ad cy I J a b H.size (cN (I 1 7)) hnn hnn2) (cwV 0 hts gX4_refusalOfWhole_X1_countWhole rfl rfl rfl (by decide +kernel) ⟨Nat.le_of_ble_eq_true rfl, Nat.le_of_ble_eq_true rfl⟩) (by decide) rfl rfl rfl rfl hl.1 rfl (Nat.le_of_ble_eq_true rfl) ⟨Nat.zero_le _, Nat.zero_le _⟩ dX4_refusalOfWhole_4 (fun H locs G => ?_)
  refine lv_ldc2 hx hb hown (hts (.constantLong RX4 142 20000) (by decide +kernel)) dX4_refusalOfWhole_7 ?_
  refine gx_lc_le (tgt := 17) hx hb dX4_refusalOfWhole_10 dX4_refusalOfWhole_11 (by decide) (fun c11 => ?_) (fun c11 => ?_)
  · skip
    refine lv_aload_n hx hb dX4_refusalOfWhole_17 rfl (lv_at hl 0 rfl) ?_
    refine gx_get hx hb hts hinX4 hown G 0 (by decide) rfl rfl 2 (by decide) rfl lk28 rfl (v := .ref (ad 3)) rfl dX4_refusalOfWhole_18 ?_
    refine gx_dVi (v := (w_hp I a (cN (I 1 7)) (cN (I 1 8)))) (I1 := (w_hpI I a (cN (I 1 7)) (cN (I 1 8)))) (J1 := J) (a1 := (w_hpA I a (cN (I 1 7)) (cN (I 1 8)))) (b1 := b) (As := []) (rest := []) ⟨hx, hb, hml, hown, hts⟩ G 3 (kX3_hasPoint l D ad cy I J a b H.size (cN (I 1 7)) (cN (I 1 8)) hnn hnn2 hnr hnr2 h38) (cwV 0 hts gX4_refusalOfWhole_X3_hasPoint rfl rfl rfl (by decide +kernel) ⟨Nat.le_of_ble_eq_true rfl, Nat.le_of_ble_eq_true rfl⟩) (by decide) rfl rfl rfl rfl hl.1 rfl (Nat.le_of_ble_eq_true rfl) ⟨Nat.zero_le _, Nat.zero_le _⟩ dX4_refusalOfWhole_21 (fun H locs G => ?_)
    refine lv_if_eq (tgt := 31) hx hb dX4_refusalOfWhole_24 (by decide) (fun c24 => ?_) (fun c24 => ?_)
    · skip
      refine lv_bipush (v := -3) hx hb dX4_refusalOfWhole_31 (by decide) ?_
      exact gx_ir hx hb hr hlocks G hQ ⟨by simp only [q_rw, c11, c24, reduceIte], by simp only [q_rwS, wS, c11, c24, reduceIte]⟩ dX4_refusalOfWhole_33
    · skip
      refine lv_iconst (v := 0) hx hb dX4_refusalOfWhole_27 (by decide) ?_
      refine lv_goto (tgt := 33) hx hb dX4_refusalOfWhole_28 (by decide) ?_
      exact gx_ir hx hb hr hlocks G hQ ⟨by simp only [q_rw, c11, c24, reduceIte], by simp only [q_rwS, wS, c11, c24, reduceIte]⟩ dX4_refusalOfWhole_33
  · skip
    refine lv_bipush (v := -4) hx hb dX4_refusalOfWhole_14 (by decide) ?_
    exact gx_ir hx hb hr hlocks G hQ ⟨by simp only [q_rw, c11, reduceIte], by simp only [q_rwS, wS, c11, reduceIte]⟩ dX4_refusalOfWhole_16

set_option maxHeartbeats 4000000 in
set_option maxRecDepth 100000 in
theorem kX4_whole (l : Launch) (D : va_G) (ad : Nat → Nat) (cy : Nat → ClassId) (I : gF) (J : gL) (a : gF) (b : gL) (sz : Nat)  (hok : cOK I a) : gMi l yX4_whole wsX4_whole ({ frames := 6, cells := 0, slots := 0, locals := 151 }) D ad cy I J a b sz [.ref (ad 0)] (fun res u => res = c_whole (I, J, a, b)  ∧ u = q_rwS (I, J, a, b)) := by
  refine Met.ofW (cc := cX4_whole) (maxL := 2) (ret := some .int) (by decide) rfl ?_
  intro p e s m args below meth c s₁ B hml hv
  obtain ⟨hargs, hsz, G⟩ := gx_begin hv
  subst hsz
  have hx := B.exec
  have hb := B.bytes
  have hr := B.returns
  have hts := atoms_spec (ws := wsX4_whole) B.pre
  have hown : s.vm.findClass RX4 = some m.cls := findClass_of_methodNamed B.named
  have hlocks := B.notSynchronized
  have hinX4 : ∀ w ∈ wsX40, w ∈ wsX4_whole := by decide +kernel
  have lk28 := hts (.fieldLink RX4 28 "ExactSimplex" "search" "LExactSimplex$WholeSearch;") (by decide +kernel)
  have hl := lv_entry ([.ref (ad 0)]) (n := 2) (Nat.le_of_ble_eq_true rfl)
  have hent := lg_entry_eq m ([.ref (ad 0)]) 2
  rw [← hargs] at hent
  rw [hent]
  clear hent
  generalize (lg_sl ([.ref (ad 0)]) ++ List.replicate (2 - (lg_sl ([.ref (ad 0)])).length) Slot.unset).toArray = ls at hl ⊢
  have hl : lv_has ls 2 [(0, .ref (ad 0))] := hl
  generalize hA : gA ad s.heap.size = A at G ⊢
  generalize hH : s.heap = H at G ⊢
  refine gx_q (fun Q hQ => ?_)
  obtain ⟨⟨hnn, hnn2⟩, ⟨hnr, hnr2⟩, ⟨hnl, hnl2⟩, ⟨hnc, hnc2⟩, hbas, hout, h26, h38⟩ := id hok
  refine lv_aload_n hx hb dX4_whole_0 rfl (lv_at hl 0 rfl) ?_
  refine gx_dVi (v := (q_rw (I, J, a, b))) (I1 := ((q_rwS (I, J, a, b)).1)) (J1 := ((q_rwS (I, J, a, b)).2.1)) (a1 := ((q_rwS (I, J, a, b)).2.2.1)) (b1 := ((q_rwS (I, J, a, b)).2.2.2)) (As := []) (rest := []) ⟨hx, hb, hml, hown, hts⟩ G 0 (kX4_refusalOfWhole l D ad cy I J a b H.size hok) (cwV 0 hts gX4_whole_X4_refusalOfWhole rfl rfl rfl (by decide +kernel) ⟨Nat.le_of_ble_eq_true rfl, Nat.le_of_ble_eq_true rfl⟩) (by decide) rfl rfl rfl rfl hl.1 rfl (Nat.le_of_ble_eq_true rfl) ⟨Nat.zero_le _, Nat.zero_le _⟩ dX4_whole_1 (fun H locs G => ?_)
  refine lv_istore_n (lv' := [(1, .int (q_rw (I, J, a, b))), (0, .ref (ad 0))]) hx hb dX4_whole_4 rfl hl (by decide) rfl (fun ls hl => ?_)
  refine lv_iload_n hx hb dX4_whole_5 rfl (lv_at hl 0 rfl) ?_
  refine lv_if_eq (tgt := 13) hx hb dX4_whole_6 (by decide) (fun c6 => ?_) (fun c6 => ?_)
  · skip
    refine lv_aload_n hx hb dX4_whole_13 rfl (lv_at hl 1 rfl) ?_
    refine gx_get hx hb hts hinX4 hown G 0 (by decide) rfl rfl 2 (by decide) rfl lk28 rfl (v := .ref (ad 3)) rfl dX4_whole_14 ?_
    refine gx_dVi (v := ((q_rwS (I, J, a, b)).1 3 7)) (I1 := ((q_rwS (I, J, a, b)).1)) (J1 := ((q_rwS (I, J, a, b)).2.1)) (a1 := ((q_rwS (I, J, a, b)).2.2.1)) (b1 := ((q_rwS (I, J, a, b)).2.2.2)) (As := []) (rest := []) ⟨hx, hb, hml, hown, hts⟩ G 3 (kX3_leastCost l D ad cy ((q_rwS (I, J, a, b)).1) ((q_rwS (I, J, a, b)).2.1) ((q_rwS (I, J, a, b)).2.2.1) ((q_rwS (I, J, a, b)).2.2.2) H.size ) (cwV 0 hts gX4_whole_X3_leastCost rfl rfl rfl (by decide +kernel) ⟨Nat.le_of_ble_eq_true rfl, Nat.le_of_ble_eq_true rfl⟩) (by decide) rfl rfl rfl rfl hl.1 rfl (Nat.le_of_ble_eq_true rfl) ⟨Nat.zero_le _, Nat.zero_le _⟩ dX4_whole_17 (fun H locs G => ?_)
    exact gx_ir hx hb hr hlocks G hQ ⟨by first | (unfold c_whole; rw [if_pos c6]; done) | (unfold c_whole; rw [if_neg c6]; done), rfl⟩ dX4_whole_20
  · skip
    refine lv_iload_n hx hb dX4_whole_9 rfl (lv_at hl 0 rfl) ?_
    refine lv_goto (tgt := 20) hx hb dX4_whole_10 (by decide) ?_
    exact gx_ir hx hb hr hlocks G hQ ⟨by first | (unfold c_whole; rw [if_pos c6]; done) | (unfold c_whole; rw [if_neg c6]; done), rfl⟩ dX4_whole_20

set_option maxHeartbeats 4000000 in
set_option maxRecDepth 100000 in
theorem kX4_wholeValue (l : Launch) (D : va_G) (ad : Nat → Nat) (cy : Nat → ClassId) (I : gF) (J : gL) (a : gF) (b : gL) (sz : Nat) (v : Int32) (hok : cOK I a) : gMi l yX4_wholeValue wsX4_wholeValue ({ frames := 6, cells := 0, slots := 0, locals := 151 }) D ad cy I J a b sz [.ref (ad 0), .int v] (fun res u => res = c_wholeValue (I, J, a, b) v ∧ u = c_wholeValueS (I, J, a, b) v) := by
  refine Met.ofW (cc := cX4_wholeValue) (maxL := 3) (ret := some .int) (by decide) rfl ?_
  intro p e s m args below meth c s₁ B hml hv
  obtain ⟨hargs, hsz, G⟩ := gx_begin hv
  subst hsz
  have hx := B.exec
  have hb := B.bytes
  have hr := B.returns
  have hts := atoms_spec (ws := wsX4_wholeValue) B.pre
  have hown : s.vm.findClass RX4 = some m.cls := findClass_of_methodNamed B.named
  have hlocks := B.notSynchronized
  have hinX4 : ∀ w ∈ wsX40, w ∈ wsX4_wholeValue := by decide +kernel
  have lk10 := hts (.fieldLink RX4 10 "ExactSimplex" "problem" "LExactSimplex$Problem;") (by decide +kernel)
  have lk28 := hts (.fieldLink RX4 28 "ExactSimplex" "search" "LExactSimplex$WholeSearch;") (by decide +kernel)
  have hl := lv_entry ([.ref (ad 0), .int v]) (n := 3) (Nat.le_of_ble_eq_true rfl)
  have hent := lg_entry_eq m ([.ref (ad 0), .int v]) 3
  rw [← hargs] at hent
  rw [hent]
  clear hent
  generalize (lg_sl ([.ref (ad 0), .int v]) ++ List.replicate (3 - (lg_sl ([.ref (ad 0), .int v])).length) Slot.unset).toArray = ls at hl ⊢
  have hl : lv_has ls 3 [(0, .ref (ad 0)), (1, .int v)] := hl
  generalize hA : gA ad s.heap.size = A at G ⊢
  generalize hH : s.heap = H at G ⊢
  refine gx_q (fun Q hQ => ?_)
  obtain ⟨⟨hnn, hnn2⟩, ⟨hnr, hnr2⟩, ⟨hnl, hnl2⟩, ⟨hnc, hnc2⟩, hbas, hout, h26, h38⟩ := id hok
  refine lv_aload_n hx hb dX4_wholeValue_0 rfl (lv_at hl 0 rfl) ?_
  refine gx_get hx hb hts hinX4 hown G 0 (by decide) rfl rfl 0 (by decide) rfl lk10 rfl (v := .ref (ad 1)) rfl dX4_wholeValue_1 ?_
  refine lv_iload_n hx hb dX4_wholeValue_4 rfl (lv_at hl 1 rfl) ?_
  refine gx_dVi (v := (p_hasN I v)) (I1 := I) (J1 := J) (a1 := a) (b1 := b) (As := [.int v]) (rest := []) ⟨hx, hb, hml, hown, hts⟩ G 1 (kX1_hasName l D ad cy I J a b H.size v) (cwV 1 hts gX4_wholeValue_X1_hasName rfl rfl rfl (by decide +kernel) ⟨Nat.le_of_ble_eq_true rfl, Nat.le_of_ble_eq_true rfl⟩) (by decide) rfl rfl rfl rfl hl.1 rfl (Nat.le_of_ble_eq_true rfl) ⟨Nat.zero_le _, Nat.zero_le _⟩ dX4_wholeValue_5 (fun H locs G => ?_)
  refine lv_if_ne (tgt := 13) hx hb dX4_wholeValue_8 (by decide) (fun c8 => ?_) (fun c8 => ?_)
  · skip
    obtain ⟨j, hj, ej⟩ := p_hasN_ix hnn (by omega) c8
    have ecl : cN v = j := cN_of ej (by omega)
    refine lv_aload_n hx hb dX4_wholeValue_13 rfl (lv_at hl 0 rfl) ?_
    refine gx_dVi (v := (q_rw (I, J, a, b))) (I1 := ((q_rwS (I, J, a, b)).1)) (J1 := ((q_rwS (I, J, a, b)).2.1)) (a1 := ((q_rwS (I, J, a, b)).2.2.1)) (b1 := ((q_rwS (I, J, a, b)).2.2.2)) (As := []) (rest := []) ⟨hx, hb, hml, hown, hts⟩ G 0 (kX4_refusalOfWhole l D ad cy I J a b H.size hok) (cwV 0 hts gX4_wholeValue_X4_refusalOfWhole rfl rfl rfl (by decide +kernel) ⟨Nat.le_of_ble_eq_true rfl, Nat.le_of_ble_eq_true rfl⟩) (by decide) rfl rfl rfl rfl hl.1 rfl (Nat.le_of_ble_eq_true rfl) ⟨Nat.zero_le _, Nat.zero_le _⟩ dX4_wholeValue_14 (fun H locs G => ?_)
    refine lv_istore_n (lv' := [(2, .int (q_rw (I, J, a, b))), (0, .ref (ad 0)), (1, .int v)]) hx hb dX4_wholeValue_17 rfl hl (by decide) rfl (fun ls hl => ?_)
    refine lv_iload_n hx hb dX4_wholeValue_18 rfl (lv_at hl 0 rfl) ?_
    refine lv_if_eq (tgt := 26) hx hb dX4_wholeValue_19 (by decide) (fun c19 => ?_) (fun c19 => ?_)
    · skip
      refine lv_aload_n hx hb dX4_wholeValue_26 rfl (lv_at hl 1 rfl) ?_
      refine gx_get hx hb hts hinX4 hown G 0 (by decide) rfl rfl 2 (by decide) rfl lk28 rfl (v := .ref (ad 3)) rfl dX4_wholeValue_27 ?_
      refine lv_iload_n hx hb dX4_wholeValue_30 rfl (lv_at hl 2 rfl) ?_
      rw [ej]
      refine gx_dVi (v := ((q_rwS (I, J, a, b)).2.2.1 23 j)) (I1 := ((q_rwS (I, J, a, b)).1)) (J1 := ((q_rwS (I, J, a, b)).2.1)) (a1 := ((q_rwS (I, J, a, b)).2.2.1)) (b1 := ((q_rwS (I, J, a, b)).2.2.2)) (As := [.int (nI j)]) (rest := []) ⟨hx, hb, hml, hown, hts⟩ G 3 (kX3_firstBestOf l D ad cy ((q_rwS (I, J, a, b)).1) ((q_rwS (I, J, a, b)).2.1) ((q_rwS (I, J, a, b)).2.2.1) ((q_rwS (I, J, a, b)).2.2.2) H.size j (by omega)) (cwV 1 hts gX4_wholeValue_X3_firstBestOf rfl rfl rfl (by decide +kernel) ⟨Nat.le_of_ble_eq_true rfl, Nat.le_of_ble_eq_true rfl⟩) (by decide) rfl rfl rfl rfl hl.1 rfl (Nat.le_of_ble_eq_true rfl) ⟨Nat.zero_le _, Nat.zero_le _⟩ dX4_wholeValue_31 (fun H locs G => ?_)
      exact gx_ir hx hb hr hlocks G hQ ⟨by unfold c_wholeValue; rw [if_neg c8]; first | (rw [if_pos c19, ecl]; done) | (rw [if_neg c19]; done), by unfold c_wholeValueS; rw [if_neg c8]⟩ dX4_wholeValue_34
    · skip
      refine lv_iload_n hx hb dX4_wholeValue_22 rfl (lv_at hl 0 rfl) ?_
      refine lv_goto (tgt := 34) hx hb dX4_wholeValue_23 (by decide) ?_
      exact gx_ir hx hb hr hlocks G hQ ⟨by unfold c_wholeValue; rw [if_neg c8]; first | (rw [if_pos c19, ecl]; done) | (rw [if_neg c19]; done), by unfold c_wholeValueS; rw [if_neg c8]⟩ dX4_wholeValue_34
  · skip
    refine lv_iconst (v := -1) hx hb dX4_wholeValue_11 (by decide) ?_
    exact gx_ir hx hb hr hlocks G hQ ⟨by unfold c_wholeValue; rw [if_pos c8], by unfold c_wholeValueS; rw [if_pos c8]⟩ dX4_wholeValue_12

set_option maxHeartbeats 4000000 in
set_option maxRecDepth 100000 in
theorem kX4_isWhole (l : Launch) (D : va_G) (ad : Nat → Nat) (cy : Nat → ClassId) (I : gF) (J : gL) (a : gF) (b : gL) (sz : Nat)  (hok : cOK I a) : gMi l yX4_isWhole wsX4_isWhole ({ frames := 6, cells := 0, slots := 0, locals := 151 }) D ad cy I J a b sz [.ref (ad 0)] (fun res u => res = c_isWhole (I, J, a, b)  ∧ u = q_rwS (I, J, a, b)) := by
  refine Met.ofW (cc := cX4_isWhole) (maxL := 2) (ret := some .int) (by decide) rfl ?_
  intro p e s m args below meth c s₁ B hml hv
  obtain ⟨hargs, hsz, G⟩ := gx_begin hv
  subst hsz
  have hx := B.exec
  have hb := B.bytes
  have hr := B.returns
  have hts := atoms_spec (ws := wsX4_isWhole) B.pre
  have hown : s.vm.findClass RX4 = some m.cls := findClass_of_methodNamed B.named
  have hlocks := B.notSynchronized
  have hl := lv_entry ([.ref (ad 0)]) (n := 2) (Nat.le_of_ble_eq_true rfl)
  have hent := lg_entry_eq m ([.ref (ad 0)]) 2
  rw [← hargs] at hent
  rw [hent]
  clear hent
  generalize (lg_sl ([.ref (ad 0)]) ++ List.replicate (2 - (lg_sl ([.ref (ad 0)])).length) Slot.unset).toArray = ls at hl ⊢
  have hl : lv_has ls 2 [(0, .ref (ad 0))] := hl
  generalize hA : gA ad s.heap.size = A at G ⊢
  generalize hH : s.heap = H at G ⊢
  refine gx_q (fun Q hQ => ?_)
  obtain ⟨⟨hnn, hnn2⟩, ⟨hnr, hnr2⟩, ⟨hnl, hnl2⟩, ⟨hnc, hnc2⟩, hbas, hout, h26, h38⟩ := id hok
  refine lv_aload_n hx hb dX4_isWhole_0 rfl (lv_at hl 0 rfl) ?_
  refine gx_dVi (v := (q_rw (I, J, a, b))) (I1 := ((q_rwS (I, J, a, b)).1)) (J1 := ((q_rwS (I, J, a, b)).2.1)) (a1 := ((q_rwS (I, J, a, b)).2.2.1)) (b1 := ((q_rwS (I, J, a, b)).2.2.2)) (As := []) (rest := []) ⟨hx, hb, hml, hown, hts⟩ G 0 (kX4_refusalOfWhole l D ad cy I J a b H.size hok) (cwV 0 hts gX4_isWhole_X4_refusalOfWhole rfl rfl rfl (by decide +kernel) ⟨Nat.le_of_ble_eq_true rfl, Nat.le_of_ble_eq_true rfl⟩) (by decide) rfl rfl rfl rfl hl.1 rfl (Nat.le_of_ble_eq_true rfl) ⟨Nat.zero_le _, Nat.zero_le _⟩ dX4_isWhole_1 (fun H locs G => ?_)
  refine lv_istore_n (lv' := [(1, .int (q_rw (I, J, a, b))), (0, .ref (ad 0))]) hx hb dX4_isWhole_4 rfl hl (by decide) rfl (fun ls hl => ?_)
  refine lv_iload_n hx hb dX4_isWhole_5 rfl (lv_at hl 0 rfl) ?_
  refine lv_bipush (v := -4) hx hb dX4_isWhole_6 (by decide) ?_
  refine lv_icmp_ne (tgt := 14) hx hb dX4_isWhole_8 (by decide) (fun c8 => ?_) (fun c8 => ?_)
  · skip
    refine lv_iload_n hx hb dX4_isWhole_14 rfl (lv_at hl 0 rfl) ?_
    refine lv_if_ne (tgt := 22) hx hb dX4_isWhole_15 (by decide) (fun c15 => ?_) (fun c15 => ?_)
    · skip
      refine lv_iconst (v := 0) hx hb dX4_isWhole_22 (by decide) ?_
      exact gx_ir hx hb hr hlocks G hQ ⟨by unfold c_isWhole; rw [if_neg c8]; first | rw [if_pos c15] | rw [if_neg c15], rfl⟩ dX4_isWhole_23
    · skip
      refine lv_iconst (v := 1) hx hb dX4_isWhole_18 (by decide) ?_
      refine lv_goto (tgt := 23) hx hb dX4_isWhole_19 (by decide) ?_
      exact gx_ir hx hb hr hlocks G hQ ⟨by unfold c_isWhole; rw [if_neg c8]; first | rw [if_pos c15] | rw [if_neg c15], rfl⟩ dX4_isWhole_23
  · skip
    refine lv_bipush (v := -4) hx hb dX4_isWhole_11 (by decide) ?_
    exact gx_ir hx hb hr hlocks G hQ ⟨by unfold c_isWhole; rw [if_pos c8], rfl⟩ dX4_isWhole_13
