/-! Solver: a 19 goal, b 20 firstBest, J 2 4 firstBestUnder, I 2 5 pointSought, I 2 6 pointThere, I 2 7 firstBestKnown, I 2 8 barredKnown, I 2 9 barredSet -/
def s_aim (a : gF) (k w : Int32) : Nat → gF
  | 0 => a
  | n + 1 => if nI n = k then gU (s_aim a k w n) 19 n w else gU (s_aim a k w n) 19 n 0
theorem s_aim_k (a : gF) (k w : Int32) {c : Nat} (h : c ≠ 19) : ∀ n, s_aim a k w n c = a c
  | 0 => rfl
  | n + 1 => by
    unfold s_aim
    split <;> rw [gU_k h] <;> exact s_aim_k a k w h n
def s_all (a : gF) : Nat → Int32
  | 0 => 0
  | n + 1 => if a 12 n = 0 then s_all a n else s_all a n ||| ((1 : Int32) <<< (nI n &&& 31))
def s_gcd : Nat → Int64 → Int64 → Int64
  | 0, x, _ => x
  | n + 1, x, y => if y = 0 then x else s_gcd n y (x - x / y * y)
theorem s_gcd_s {i : Nat} (h : i < 200) (x y : Int64) : s_gcd (200 - i) x y = if y = 0 then x else s_gcd (200 - (i + 1)) y (x - x / y * y) := by
  rw [show 200 - i = (200 - (i + 1)) + 1 by omega]
  rfl
def s_abs (x : Int64) : Int64 := if 0 < x then x else -x
def s_gd (x y : Int64) : Int64 := s_gcd 200 (s_abs x) (s_abs y)
def s_part (x y : Int64) (pt : Int32) : Int64 := if s_gd x y = 0 then 0 else if pt = 0 then x / s_gd x y else y / s_gd x y
/-- a line more -/
def s_add (I a : gF) (b : gL) (kf nl nc : Nat) (sg ri : Int32) : gF × gF × gL := (gU I 4 7 (I 4 7 + 1), gU a 15 nl (I 4 8 + I 4 7), d_addB a b kf nl nc sg ri)
def s_rt (a : gF) (r0 : Nat) : Nat → Int32
  | 0 => a 10 r0
  | n + 1 => s_rt a r0 n - a (40 + r0) n * a 6 n
def s_row (I a : gF) (b : gL) (r0 nl nc : Nat) : gF × gF × gL :=
  if p_above a r0 = 0 then (if p_below a r0 = 0 then (I, a, b) else s_add I a b (40 + r0) nl nc (-1) (-s_rt a r0 nc))
  else (if p_below (gU a 15 nl (I 4 8 + I 4 7)) r0 = 0 then s_add I a b (40 + r0) nl nc 1 (s_rt a r0 nc)
    else s_add (gU I 4 7 (I 4 7 + 1)) (gU a 15 nl (I 4 8 + I 4 7)) (d_addB a b (40 + r0) nl nc 1 (s_rt a r0 nc)) (40 + r0) (nl + 1) nc (-1) (-s_rt a r0 nc))
def s_nl (a : gF) (r0 nl : Nat) : Nat := nl + (if p_above a r0 = 0 then 0 else 1) + (if p_below a r0 = 0 then 0 else 1)
theorem s_nl_le (a : gF) (r0 nl : Nat) : s_nl a r0 nl ≤ nl + 2 := by
  unfold s_nl
  split <;> split <;> omega
theorem p_below_15 (a : gF) (nl r0 : Nat) (x : Int32) : p_below (gU a 15 nl x) r0 = p_below a r0 := rfl
theorem s_row_I {I a : gF} {b : gL} {r0 nl nc : Nat} (h : I 4 7 = nI nl) : (s_row I a b r0 nl nc).1 4 7 = nI (s_nl a r0 nl) ∧ ∀ k j, (k ≠ 4 ∨ j ≠ 7) → (s_row I a b r0 nl nc).1 k j = I k j := by
  unfold s_row s_nl
  rw [p_below_15]
  by_cases h1 : p_above a r0 = 0 <;> by_cases h2 : p_below a r0 = 0 <;> simp only [h1, h2, reduceIte]
  · exact ⟨h, by intros; first | rfl | trivial⟩
  · exact ⟨by show I 4 7 + 1 = _; rw [h, nI_1], fun k j hk => gU_n hk⟩
  · exact ⟨by show I 4 7 + 1 = _; rw [h, nI_1], fun k j hk => gU_n hk⟩
  · exact ⟨by show (I 4 7 + 1) + 1 = _; rw [h, nI_1, nI_1], fun k j hk => (gU_n hk).trans (gU_n hk)⟩
def s_k0 (I : gF) (nn : Nat) : gF := gU (gU I 4 8 (nI nn)) 4 7 0
/-- the names' lines -/
def s_kn (I a : gF) (b : gL) (nn : Nat) : Nat → gF × gF × gL
  | 0 => (s_k0 I nn, d_thaw (d_ids a nn) nn, b)
  | n + 1 => s_add (s_kn I a b nn n).1 (s_aim (s_kn I a b nn n).2.1 (nI n) 1 5) (s_kn I a b nn n).2.2 19 n nn 1 ((s_aim (s_kn I a b nn n).2.1 (nI n) 1 5) 7 n - (s_aim (s_kn I a b nn n).2.1 (nI n) 1 5) 6 n)
theorem s_kn_I (I a : gF) (b : gL) (nn : Nat) : ∀ n, (s_kn I a b nn n).1 4 7 = nI n ∧ (s_kn I a b nn n).1 4 8 = nI nn ∧ ∀ k j, k ≠ 4 → (s_kn I a b nn n).1 k j = I k j
  | 0 => ⟨rfl, rfl, fun k j h => (gU_n (Or.inl h)).trans (gU_n (Or.inl h))⟩
  | n + 1 => by
    obtain ⟨h1, h2, h3⟩ := s_kn_I I a b nn n
    refine ⟨?_, h2, fun k j h => (gU_n (Or.inl h)).trans (h3 k j h)⟩
    show (s_kn I a b nn n).1 4 7 + 1 = _
    rw [h1, nI_1]
def s_bit (set : Int32) (n : Nat) : Int32 := set &&& ((1 : Int32) <<< (nI n &&& 31))
/-- the rows' lines, with how many lines there are -/
def s_kr (I a : gF) (b : gL) (nn : Nat) (set : Int32) : Nat → (gF × gF × gL) × Nat
  | 0 => (s_kn I a b nn nn, nn)
  | n + 1 => if s_bit set n = 0 then s_kr I a b nn set n else (s_row (s_kr I a b nn set n).1.1 (s_kr I a b nn set n).1.2.1 (s_kr I a b nn set n).1.2.2 n (s_kr I a b nn set n).2 nn, s_nl (s_kr I a b nn set n).1.2.1 n (s_kr I a b nn set n).2)
theorem s_kr_p {I a : gF} {b : gL} {nn n : Nat} {set : Int32} (h : set &&& ((1 : Int32) <<< (nI n &&& 31)) = 0) : s_kr I a b nn set (n + 1) = s_kr I a b nn set n := if_pos h
theorem s_kr_n {I a : gF} {b : gL} {nn n : Nat} {set : Int32} (h : ¬ set &&& ((1 : Int32) <<< (nI n &&& 31)) = 0) : s_kr I a b nn set (n + 1) = (s_row (s_kr I a b nn set n).1.1 (s_kr I a b nn set n).1.2.1 (s_kr I a b nn set n).1.2.2 n (s_kr I a b nn set n).2 nn, s_nl (s_kr I a b nn set n).1.2.1 n (s_kr I a b nn set n).2) := if_neg h
theorem s_kr_I (I a : gF) (b : gL) (nn : Nat) (set : Int32) : ∀ n, (s_kr I a b nn set n).1.1 4 7 = nI (s_kr I a b nn set n).2 ∧ (s_kr I a b nn set n).1.1 4 8 = nI nn ∧ (∀ k j, k ≠ 4 → (s_kr I a b nn set n).1.1 k j = I k j) ∧ (s_kr I a b nn set n).2 ≤ nn + 2 * n
  | 0 => ⟨(s_kn_I I a b nn nn).1, (s_kn_I I a b nn nn).2.1, (s_kn_I I a b nn nn).2.2, Nat.le_refl _⟩
  | n + 1 => by
    obtain ⟨h1, h2, h3, h4⟩ := s_kr_I I a b nn set n
    unfold s_kr
    split
    · exact ⟨h1, h2, h3, by omega⟩
    · obtain ⟨g1, g2⟩ := s_row_I (a := (s_kr I a b nn set n).1.2.1) (b := (s_kr I a b nn set n).1.2.2) (r0 := n) (nc := nn) h1
      refine ⟨g1, (g2 4 8 (Or.inr (by decide))).trans h2, fun k j h => (g2 k j (Or.inl h)).trans (h3 k j h), ?_⟩
      have := s_nl_le (s_kr I a b nn set n).1.2.1 n (s_kr I a b nn set n).2
      show s_nl _ _ _ ≤ _
      omega
/-- what canKeep finds: the answer and the state behind it -/
def s_kf (I : gF) (J : gL) (a : gF) (b : gL) (nn nr : Nat) (set : Int32) : Int32 × gL × gF × gL := d_find (s_kr I a b nn set nr).2 nn mPV (gU J 4 6 1, (s_kr I a b nn set nr).1.2.1, (s_kr I a b nn set nr).1.2.2)
def s_kI (I a : gF) (b : gL) (nn nr : Nat) (set : Int32) : gF := (s_kr I a b nn set nr).1.1
theorem d_find_01 (nl nc : Nat) : ∀ n x, (d_find nl nc n x).1 = 0 ∨ (d_find nl nc n x).1 = 1
  | 0, x => Or.inl rfl
  | n + 1, x => by
    unfold d_find
    split
    · split
      · exact d_find_01 nl nc n _
      · exact Or.inl rfl
    · exact Or.inr rfl
theorem z01 {x : Int32} (h : x = 0 ∨ x = 1) : narrow .boolean (.int x) = .int x := by
  rcases h with rfl | rfl <;> rfl
theorem z01f {x : Int32} (h : x = 0 ∨ x = 1) : fits .boolean (.int x) = true := by
  rcases h with rfl | rfl <;> rfl

def s_hp (I : gF) (J : gL) (a : gF) (b : gL) (nn nr : Nat) : Int32 := if I 2 5 = 0 then (s_kf I J a b nn nr (s_all a nr)).1 else I 2 6
def s_hpI (I : gF) (J : gL) (a : gF) (b : gL) (nn nr : Nat) : gF := if I 2 5 = 0 then gU (gU (s_kI I a b nn nr (s_all a nr)) 2 6 (s_kf I J a b nn nr (s_all a nr)).1) 2 5 1 else I
def s_hpJ (I : gF) (J : gL) (a : gF) (b : gL) (nn nr : Nat) : gL := if I 2 5 = 0 then (s_kf I J a b nn nr (s_all a nr)).2.1 else J
def s_hpA (I : gF) (J : gL) (a : gF) (b : gL) (nn nr : Nat) : gF := if I 2 5 = 0 then (s_kf I J a b nn nr (s_all a nr)).2.2.1 else a
def s_hpB (I : gF) (J : gL) (a : gF) (b : gL) (nn nr : Nat) : gL := if I 2 5 = 0 then (s_kf I J a b nn nr (s_all a nr)).2.2.2 else b

set_option maxHeartbeats 4000000 in
set_option maxRecDepth 100000 in
theorem kX2_forget (l : Launch) (D : va_G) (ad : Nat → Nat) (cy : Nat → ClassId) (I : gF) (J : gL) (a : gF) (b : gL) (sz : Nat)   : gMv l yX2_forget wsX2_forget ({ frames := 0, cells := 0, slots := 0, locals := 0 }) D ad cy I J a b sz [.ref (ad 2)] (fun u => u = (gU (gU (gU I 2 5 0) 2 7 0) 2 8 0, J, a, b)) := by
  refine Met.ofW (cc := cX2_forget) (maxL := 1) (ret := none) (by decide) rfl ?_
  intro p e s m args below meth c s₁ B hml hv
  obtain ⟨hargs, hsz, G⟩ := gx_begin hv
  subst hsz
  have hx := B.exec
  have hb := B.bytes
  have hr := B.returns
  have hts := atoms_spec (ws := wsX2_forget) B.pre
  have hown : s.vm.findClass RX2 = some m.cls := findClass_of_methodNamed B.named
  have hlocks := B.notSynchronized
  have hinX2 : ∀ w ∈ wsX20, w ∈ wsX2_forget := by decide +kernel
  have lk34 := hts (.fieldLink RX2 34 "ExactSimplex$Solver" "pointSought" "Z") (by decide +kernel)
  have lk38 := hts (.fieldLink RX2 38 "ExactSimplex$Solver" "firstBestKnown" "Z") (by decide +kernel)
  have lk41 := hts (.fieldLink RX2 41 "ExactSimplex$Solver" "barredKnown" "Z") (by decide +kernel)
  have hl := lv_entry ([.ref (ad 2)]) (n := 1) (Nat.le_of_ble_eq_true rfl)
  have hent := lg_entry_eq m ([.ref (ad 2)]) 1
  rw [← hargs] at hent
  rw [hent]
  clear hent
  generalize (lg_sl ([.ref (ad 2)]) ++ List.replicate (1 - (lg_sl ([.ref (ad 2)])).length) Slot.unset).toArray = ls at hl ⊢
  have hl : lv_has ls 1 [(0, .ref (ad 2))] := hl
  generalize hA : gA ad s.heap.size = A at G ⊢
  generalize hH : s.heap = H at G ⊢
  refine gx_q (fun Q hQ => ?_)
  refine lv_aload_n hx hb dX2_forget_0 rfl (lv_at hl 0 rfl) ?_
  refine lv_iconst (v := 0) hx hb dX2_forget_1 (by decide) ?_
  refine gx_putI hx hb hts hinX2 tyX2 tyX2_ok nmX2 hown G 2 (by decide) rfl rfl 5 (by decide) rfl lk34 rfl rfl (tyX2_ok 5 (by decide)) (rfl) (rfl) dX2_forget_2 (fun H locs G => ?_)
  refine lv_aload_n hx hb dX2_forget_5 rfl (lv_at hl 0 rfl) ?_
  refine lv_iconst (v := 0) hx hb dX2_forget_6 (by decide) ?_
  refine gx_putI hx hb hts hinX2 tyX2 tyX2_ok nmX2 hown G 2 (by decide) rfl rfl 7 (by decide) rfl lk38 rfl rfl (tyX2_ok 7 (by decide)) (rfl) (rfl) dX2_forget_7 (fun H locs G => ?_)
  refine lv_aload_n hx hb dX2_forget_10 rfl (lv_at hl 0 rfl) ?_
  refine lv_iconst (v := 0) hx hb dX2_forget_11 (by decide) ?_
  refine gx_putI hx hb hts hinX2 tyX2 tyX2_ok nmX2 hown G 2 (by decide) rfl rfl 8 (by decide) rfl lk41 rfl rfl (tyX2_ok 8 (by decide)) (rfl) (rfl) dX2_forget_12 (fun H locs G => ?_)
  exact gx_vr hx hb hr hlocks G hQ (by first | rfl | (simp only [reduceIte]; done) | (simp [reduceIte]; done)) dX2_forget_15

set_option maxHeartbeats 4000000 in
set_option maxRecDepth 100000 in
theorem kX2_aimAt (l : Launch) (D : va_G) (ad : Nat → Nat) (cy : Nat → ClassId) (I : gF) (J : gL) (a : gF) (b : gL) (sz : Nat) (k w : Int32)  : gMv l yX2_aimAt wsX2_aimAt ({ frames := 0, cells := 0, slots := 0, locals := 0 }) D ad cy I J a b sz [.ref (ad 2), .int k, .int w] (fun u => u = (I, J, s_aim a k w 5, b)) := by
  refine Met.ofW (cc := cX2_aimAt) (maxL := 4) (ret := none) (by decide) rfl ?_
  intro p e s m args below meth c s₁ B hml hv
  obtain ⟨hargs, hsz, G⟩ := gx_begin hv
  subst hsz
  have hx := B.exec
  have hb := B.bytes
  have hr := B.returns
  have hts := atoms_spec (ws := wsX2_aimAt) B.pre
  have hown : s.vm.findClass RX2 = some m.cls := findClass_of_methodNamed B.named
  have hlocks := B.notSynchronized
  have hinX2 : ∀ w ∈ wsX20, w ∈ wsX2_aimAt := by decide +kernel
  have lk18 := hts (.fieldLink RX2 18 "ExactSimplex$Solver" "goal" "[I") (by decide +kernel)
  have hl := lv_entry ([.ref (ad 2), .int k, .int w]) (n := 4) (Nat.le_of_ble_eq_true rfl)
  have hent := lg_entry_eq m ([.ref (ad 2), .int k, .int w]) 4
  rw [← hargs] at hent
  rw [hent]
  clear hent
  generalize (lg_sl ([.ref (ad 2), .int k, .int w]) ++ List.replicate (4 - (lg_sl ([.ref (ad 2), .int k, .int w])).length) Slot.unset).toArray = ls at hl ⊢
  have hl : lv_has ls 4 [(0, .ref (ad 2)), (1, .int k), (2, .int w)] := hl
  generalize hA : gA ad s.heap.size = A at G ⊢
  generalize hH : s.heap = H at G ⊢
  refine gx_q (fun Q hQ => ?_)
  refine lv_iconst (v := 0) hx hb dX2_aimAt_0 (by decide) ?_
  refine lv_istore_n (lv' := [(3, .int 0), (0, .ref (ad 2)), (1, .int k), (2, .int w)]) hx hb dX2_aimAt_1 rfl hl (by decide) rfl (fun ls hl => ?_)
  have K2 : ∀ (nf : Nat) (r : Nat) (H : Heap) (locs : List Loc) (ls : Array Slot), (r ≤ 5) → 5 - r < nf → GG D ad cy A s I J (s_aim a k w r) b H locs → lv_has ls 4 [(0, .ref (ad 2)), (1, .int k), (2, .int w), (3, .int (nI r))] → W p l e ({ frames := 0, cells := 0, slots := 0, locals := 0 }) s m args below meth c H locs 0 0 Q (F0 m 2 ls []) := by
    intro nf
    induction nf with
    | zero => exact fun _ _ _ _ _ hz => absurd hz (Nat.not_lt_zero _)
    | succ nf ih =>
      intro r H locs ls h1 hmeas G hl
      have ih2 := ih
      clear ih
      refine lv_iload_n hx hb dX2_aimAt_2 rfl (lv_at hl 3 rfl) ?_
      refine lv_iconst (v := 5) hx hb dX2_aimAt_3 (by decide) ?_
      refine lv_icmp_ge (tgt := 29) hx hb dX2_aimAt_4 (by decide) (fun c4 => ?_) (fun c4 => ?_)
      · skip
        have n4 := gn_le (X := 5) (Y := r) rfl rfl (by omega) (by omega) c4
        exact gx_vr hx hb hr hlocks G hQ (by rw [show r = 5 by omega]) dX2_aimAt_29
      · skip
        have n4 := gn_nle (X := 5) (Y := r) rfl rfl (by omega) (by omega) c4
        refine lv_aload_n hx hb dX2_aimAt_7 rfl (lv_at hl 0 rfl) ?_
        refine gx_get hx hb hts hinX2 hown G 2 (by decide) rfl rfl 2 (by decide) rfl lk18 rfl (v := .ref (ad 19)) rfl dX2_aimAt_8 ?_
        refine lv_iload_n hx hb dX2_aimAt_11 rfl (lv_at hl 3 rfl) ?_
        refine lv_iload_n hx hb dX2_aimAt_12 rfl (lv_at hl 3 rfl) ?_
        refine lv_iload_n hx hb dX2_aimAt_13 rfl (lv_at hl 1 rfl) ?_
        refine lv_icmp_ne (tgt := 21) hx hb dX2_aimAt_14 (by decide) (fun c14 => ?_) (fun c14 => ?_)
        · skip
          refine lv_iconst (v := 0) hx hb dX2_aimAt_21 (by decide) ?_
          refine gx_iast hx hb G 19 (by decide) (rfl) (by decide) r rfl (by omega) dX2_aimAt_22 (fun H locs G => ?_)
          refine lv_iinc (v := (nI (r + 1))) (lv' := [(3, .int (nI (r + 1))), (0, .ref (ad 2)), (1, .int k), (2, .int w)]) hx hb dX2_aimAt_23 hl (k := 3) rfl (gn_add (X := r) (Y := 1) rfl rfl) (by decide) rfl (fun ls hl => ?_)
          refine lv_goto (tgt := 2) hx hb dX2_aimAt_26 (by decide) ?_
          exact ih2  (r + 1) _ _ _ (by omega) (by omega) (gg_eq G rfl rfl (by first | rfl | (simp only [s_aim, c4, c14, reduceIte]; done) | (rw [show 5 = r by omega]; done) | (rw [show 5 = r by omega]; simp only [s_aim, c4, c14, reduceIte]; done) | (simp [s_aim, c4, c14, reduceIte]; done)) rfl) (lv_sub hl [1, 2, 3, 0] rfl)
        · skip
          refine lv_iload_n hx hb dX2_aimAt_17 rfl (lv_at hl 2 rfl) ?_
          refine lv_goto (tgt := 22) hx hb dX2_aimAt_18 (by decide) ?_
          refine gx_iast hx hb G 19 (by decide) (rfl) (by decide) r rfl (by omega) dX2_aimAt_22 (fun H locs G => ?_)
          refine lv_iinc (v := (nI (r + 1))) (lv' := [(3, .int (nI (r + 1))), (0, .ref (ad 2)), (1, .int k), (2, .int w)]) hx hb dX2_aimAt_23 hl (k := 3) rfl (gn_add (X := r) (Y := 1) rfl rfl) (by decide) rfl (fun ls hl => ?_)
          refine lv_goto (tgt := 2) hx hb dX2_aimAt_26 (by decide) ?_
          exact ih2  (r + 1) _ _ _ (by omega) (by omega) (gg_eq G rfl rfl (by first | rfl | (simp only [s_aim, c4, c14, reduceIte]; done) | (rw [show 5 = r by omega]; done) | (rw [show 5 = r by omega]; simp only [s_aim, c4, c14, reduceIte]; done) | (simp [s_aim, c4, c14, reduceIte]; done)) rfl) (lv_sub hl [1, 2, 3, 0] rfl)
  exact K2 (5 - 0 + 1) 0 _ _ _ (by omega) (Nat.lt_succ_self _) (gg_eq G rfl rfl (by first | rfl | (simp only [s_aim, reduceIte]; done) | (rw [show 5 = r by omega]; done) | (rw [show 5 = r by omega]; simp only [s_aim, reduceIte]; done) | (simp [s_aim, reduceIte]; done)) rfl) (lv_sub hl [1, 2, 3, 0] rfl)

set_option maxHeartbeats 4000000 in
set_option maxRecDepth 100000 in
theorem kX2_allRows (l : Launch) (D : va_G) (ad : Nat → Nat) (cy : Nat → ClassId) (I : gF) (J : gL) (a : gF) (b : gL) (sz : Nat) (nr : Nat) (hnr : I 1 8 = nI nr) (hnr2 : nr ≤ 8) : gMi l yX2_allRows wsX2_allRows ({ frames := 0, cells := 0, slots := 0, locals := 0 }) D ad cy I J a b sz [.ref (ad 2)] (fun r u => r = s_all a nr ∧ u = (I, J, a, b)) := by
  refine Met.ofW (cc := cX2_allRows) (maxL := 3) (ret := some .int) (by decide) rfl ?_
  intro p e s m args below meth c s₁ B hml hv
  obtain ⟨hargs, hsz, G⟩ := gx_begin hv
  subst hsz
  have hx := B.exec
  have hb := B.bytes
  have hr := B.returns
  have hts := atoms_spec (ws := wsX2_allRows) B.pre
  have hown : s.vm.findClass RX2 = some m.cls := findClass_of_methodNamed B.named
  have hlocks := B.notSynchronized
  have hinX1 : ∀ w ∈ wsX10, w ∈ wsX2_allRows := by decide +kernel
  have hinX2 : ∀ w ∈ wsX20, w ∈ wsX2_allRows := by decide +kernel
  have lk30 := hts (.fieldLink RX2 30 "ExactSimplex$Solver" "problem" "LExactSimplex$Problem;") (by decide +kernel)
  have lk91 := hts (.fieldLink RX2 91 "ExactSimplex$Problem" "rows" "I") (by decide +kernel)
  have lk122 := hts (.fieldLink RX2 122 "ExactSimplex$Problem" "there" "[Z") (by decide +kernel)
  have hl := lv_entry ([.ref (ad 2)]) (n := 3) (Nat.le_of_ble_eq_true rfl)
  have hent := lg_entry_eq m ([.ref (ad 2)]) 3
  rw [← hargs] at hent
  rw [hent]
  clear hent
  generalize (lg_sl ([.ref (ad 2)]) ++ List.replicate (3 - (lg_sl ([.ref (ad 2)])).length) Slot.unset).toArray = ls at hl ⊢
  have hl : lv_has ls 3 [(0, .ref (ad 2))] := hl
  generalize hA : gA ad s.heap.size = A at G ⊢
  generalize hH : s.heap = H at G ⊢
  refine gx_q (fun Q hQ => ?_)
  refine lv_iconst (v := 0) hx hb dX2_allRows_0 (by decide) ?_
  refine lv_istore_n (lv' := [(1, .int 0), (0, .ref (ad 2))]) hx hb dX2_allRows_1 rfl hl (by decide) rfl (fun ls hl => ?_)
  refine lv_iconst (v := 0) hx hb dX2_allRows_2 (by decide) ?_
  refine lv_istore_n (lv' := [(2, .int 0), (1, .int 0), (0, .ref (ad 2))]) hx hb dX2_allRows_3 rfl hl (by decide) rfl (fun ls hl => ?_)
  have K4 : ∀ (nf : Nat) (r : Nat) (H : Heap) (locs : List Loc) (ls : Array Slot), (r ≤ nr) → nr - r < nf → GG D ad cy A s I J a b H locs → lv_has ls 3 [(0, .ref (ad 2)), (1, .int (s_all a r)), (2, .int (nI r))] → W p l e ({ frames := 0, cells := 0, slots := 0, locals := 0 }) s m args below meth c H locs 0 0 Q (F0 m 4 ls []) := by
    intro nf
    induction nf with
    | zero => exact fun _ _ _ _ _ hz => absurd hz (Nat.not_lt_zero _)
    | succ nf ih =>
      intro r H locs ls h1 hmeas G hl
      have ih4 := ih
      clear ih
      refine lv_iload_n hx hb dX2_allRows_4 rfl (lv_at hl 2 rfl) ?_
      refine lv_aload_n hx hb dX2_allRows_5 rfl (lv_at hl 0 rfl) ?_
      refine gx_get hx hb hts hinX2 hown G 2 (by decide) rfl rfl 0 (by decide) rfl lk30 rfl (v := .ref (ad 1)) rfl dX2_allRows_6 ?_
      refine gx_get hx hb hts hinX1 hown G 1 (by decide) rfl rfl 8 (by decide) rfl lk91 rfl (v := .int (I 1 8)) rfl dX2_allRows_9 ?_
      refine lv_icmp_ge (tgt := 39) hx hb dX2_allRows_12 (by decide) (fun c12 => ?_) (fun c12 => ?_)
      · skip
        have n12 := gn_le (X := nr) (Y := r) hnr rfl (by omega) (by omega) c12
        refine lv_iload_n hx hb dX2_allRows_39 rfl (lv_at hl 1 rfl) ?_
        exact gx_ir hx hb hr hlocks G hQ ⟨by first | rfl | (simp only [s_all, c12, reduceIte]; done) | (rw [show nr = r by omega]; done) | (rw [show nr = r by omega]; simp only [s_all, c12, reduceIte]; done) | (simp [s_all, c12, reduceIte]; done), rfl⟩ dX2_allRows_40
      · skip
        have n12 := gn_nle (X := nr) (Y := r) hnr rfl (by omega) (by omega) c12
        refine lv_aload_n hx hb dX2_allRows_15 rfl (lv_at hl 0 rfl) ?_
        refine gx_get hx hb hts hinX2 hown G 2 (by decide) rfl rfl 0 (by decide) rfl lk30 rfl (v := .ref (ad 1)) rfl dX2_allRows_16 ?_
        refine gx_get hx hb hts hinX1 hown G 1 (by decide) rfl rfl 6 (by decide) rfl lk122 rfl (v := .ref (ad 12)) rfl dX2_allRows_19 ?_
        refine lv_iload_n hx hb dX2_allRows_22 rfl (lv_at hl 2 rfl) ?_
        refine gx_zald hx hb G 12 (by decide) (rfl) (by decide) r rfl (by omega) dX2_allRows_23 ?_
        refine lv_if_eq (tgt := 33) hx hb dX2_allRows_24 (by decide) (fun c24 => ?_) (fun c24 => ?_)
        · skip
          refine lv_iinc (v := (nI (r + 1))) (lv' := [(2, .int (nI (r + 1))), (0, .ref (ad 2)), (1, .int (s_all a r))]) hx hb dX2_allRows_33 hl (k := 2) rfl (gn_add (X := r) (Y := 1) rfl rfl) (by decide) rfl (fun ls hl => ?_)
          refine lv_goto (tgt := 4) hx hb dX2_allRows_36 (by decide) ?_
          have q1 : s_all a r = s_all a (r + 1) := by first | rfl | (simp only [s_all, c12, c24, reduceIte]; done) | (rw [show nr = r by omega]; done) | (rw [show nr = r by omega]; simp only [s_all, c12, c24, reduceIte]; done) | (simp [s_all, c12, c24, reduceIte]; done)
          rw [q1] at hl
          exact ih4  (r + 1) _ _ _ (by omega) (by omega) G (lv_sub hl [1, 2, 0] rfl)
        · skip
          refine lv_iload_n hx hb dX2_allRows_27 rfl (lv_at hl 1 rfl) ?_
          refine lv_iconst (v := 1) hx hb dX2_allRows_28 (by decide) ?_
          refine lv_iload_n hx hb dX2_allRows_29 rfl (lv_at hl 2 rfl) ?_
          refine lv_ishl hx hb dX2_allRows_30 ?_
          refine lv_ior hx hb dX2_allRows_31 ?_
          refine lv_topi (fun x_1 ex_1 => ?_)
          refine lv_istore_n (lv' := [(1, .int x_1), (0, .ref (ad 2)), (2, .int (nI r))]) hx hb dX2_allRows_32 rfl hl (by decide) rfl (fun ls hl => ?_)
          refine lv_iinc (v := (nI (r + 1))) (lv' := [(2, .int (nI (r + 1))), (1, .int x_1), (0, .ref (ad 2))]) hx hb dX2_allRows_33 hl (k := 2) rfl (gn_add (X := r) (Y := 1) rfl rfl) (by decide) rfl (fun ls hl => ?_)
          refine lv_goto (tgt := 4) hx hb dX2_allRows_36 (by decide) ?_
          have q1 : x_1 = s_all a (r + 1) := by rw [ex_1]; first | rfl | (simp only [s_all, c12, c24, reduceIte]; done) | (rw [show nr = r by omega]; done) | (rw [show nr = r by omega]; simp only [s_all, c12, c24, reduceIte]; done) | (simp [s_all, c12, c24, reduceIte]; done)
          rw [q1] at hl
          exact ih4  (r + 1) _ _ _ (by omega) (by omega) G (lv_sub hl [2, 1, 0] rfl)
  exact K4 (nr - 0 + 1) 0 _ _ _ (by omega) (Nat.lt_succ_self _) G (lv_sub hl [2, 1, 0] rfl)

set_option maxHeartbeats 4000000 in
set_option maxRecDepth 100000 in
theorem kX2_numeratorOf (l : Launch) (D : va_G) (ad : Nat → Nat) (cy : Nat → ClassId) (I : gF) (J : gL) (a : gF) (b : gL) (sz : Nat) (nl n0 : Nat) (hnl : I 4 7 = nI nl) (hnl2 : nl ≤ 21) (hn0 : n0 < 5) : gMl l yX2_numeratorOf wsX2_numeratorOf ({ frames := 1, cells := 0, slots := 0, locals := 22 }) D ad cy I J a b sz [.ref (ad 2), .int (nI n0)] (fun r u => r = (a 6 n0).toInt64 * J 4 6 + d_num a b (nI n0) nl 0 ∧ u = (I, J, a, b)) := by
  refine Met.ofW (cc := cX2_numeratorOf) (maxL := 2) (ret := some .long) (by decide) rfl ?_
  intro p e s m args below meth c s₁ B hml hv
  obtain ⟨hargs, hsz, G⟩ := gx_begin hv
  subst hsz
  have hx := B.exec
  have hb := B.bytes
  have hr := B.returns
  have hts := atoms_spec (ws := wsX2_numeratorOf) B.pre
  have hown : s.vm.findClass RX2 = some m.cls := findClass_of_methodNamed B.named
  have hlocks := B.notSynchronized
  have hinX1 : ∀ w ∈ wsX10, w ∈ wsX2_numeratorOf := by decide +kernel
  have hinX2 : ∀ w ∈ wsX20, w ∈ wsX2_numeratorOf := by decide +kernel
  have lk12 := hts (.fieldLink RX2 12 "ExactSimplex$Solver" "dictionary" "LExactSimplex$Dictionary;") (by decide +kernel)
  have lk30 := hts (.fieldLink RX2 30 "ExactSimplex$Solver" "problem" "LExactSimplex$Problem;") (by decide +kernel)
  have lk116 := hts (.fieldLink RX2 116 "ExactSimplex$Problem" "lows" "[I") (by decide +kernel)
  have hl := lv_entry ([.ref (ad 2), .int (nI n0)]) (n := 2) (Nat.le_of_ble_eq_true rfl)
  have hent := lg_entry_eq m ([.ref (ad 2), .int (nI n0)]) 2
  rw [← hargs] at hent
  rw [hent]
  clear hent
  generalize (lg_sl ([.ref (ad 2), .int (nI n0)]) ++ List.replicate (2 - (lg_sl ([.ref (ad 2), .int (nI n0)])).length) Slot.unset).toArray = ls at hl ⊢
  have hl : lv_has ls 2 [(0, .ref (ad 2)), (1, .int (nI n0))] := hl
  generalize hA : gA ad s.heap.size = A at G ⊢
  generalize hH : s.heap = H at G ⊢
  refine gx_q (fun Q hQ => ?_)
  refine lv_aload_n hx hb dX2_numeratorOf_0 rfl (lv_at hl 0 rfl) ?_
  refine gx_get hx hb hts hinX2 hown G 2 (by decide) rfl rfl 0 (by decide) rfl lk30 rfl (v := .ref (ad 1)) rfl dX2_numeratorOf_1 ?_
  refine gx_get hx hb hts hinX1 hown G 1 (by decide) rfl rfl 0 (by decide) rfl lk116 rfl (v := .ref (ad 6)) rfl dX2_numeratorOf_4 ?_
  refine lv_iload_n hx hb dX2_numeratorOf_7 rfl (lv_at hl 1 rfl) ?_
  refine gx_iald hx hb G 6 (by decide) (rfl) (by decide) n0 rfl (by omega) dX2_numeratorOf_8 ?_
  refine lv_i2l (v := (a 6 n0).toInt64) hx hb dX2_numeratorOf_9 rfl ?_
  refine lv_aload_n hx hb dX2_numeratorOf_10 rfl (lv_at hl 0 rfl) ?_
  refine gx_get hx hb hts hinX2 hown G 2 (by decide) rfl rfl 1 (by decide) rfl lk12 rfl (v := .ref (ad 4)) rfl dX2_numeratorOf_11 ?_
  refine gx_dVl (v := (J 4 6)) (I1 := I) (J1 := J) (a1 := a) (b1 := b) (As := []) (rest := [.long ((a 6 n0).toInt64)]) ⟨hx, hb, hml, hown, hts⟩ G 4 (kX0_denominator l D ad cy I J a b H.size ) (cwV 0 hts gX2_numeratorOf_X0_denominator rfl rfl rfl (by decide +kernel) ⟨Nat.le_of_ble_eq_true rfl, Nat.le_of_ble_eq_true rfl⟩) (by decide) rfl rfl rfl rfl hl.1 rfl (Nat.le_of_ble_eq_true rfl) ⟨Nat.zero_le _, Nat.zero_le _⟩ dX2_numeratorOf_14 (fun H locs G => ?_)
  refine lv_lmul hx hb dX2_numeratorOf_17 ?_
  refine lv_aload_n hx hb dX2_numeratorOf_18 rfl (lv_at hl 0 rfl) ?_
  refine gx_get hx hb hts hinX2 hown G 2 (by decide) rfl rfl 1 (by decide) rfl lk12 rfl (v := .ref (ad 4)) rfl dX2_numeratorOf_19 ?_
  refine lv_iload_n hx hb dX2_numeratorOf_22 rfl (lv_at hl 1 rfl) ?_
  refine gx_dVl (v := (d_num a b (nI n0) nl 0)) (I1 := I) (J1 := J) (a1 := a) (b1 := b) (As := [.int (nI n0)]) (rest := [.long (((a 6 n0).toInt64) * (J 4 6))]) ⟨hx, hb, hml, hown, hts⟩ G 4 (kX0_numerator l D ad cy I J a b H.size nl (nI n0) hnl hnl2) (cwV 1 hts gX2_numeratorOf_X0_numerator rfl rfl rfl (by decide +kernel) ⟨Nat.le_of_ble_eq_true rfl, Nat.le_of_ble_eq_true rfl⟩) (by decide) rfl rfl rfl rfl hl.1 rfl (Nat.le_of_ble_eq_true rfl) ⟨Nat.zero_le _, Nat.zero_le _⟩ dX2_numeratorOf_23 (fun H locs G => ?_)
  refine lv_ladd hx hb dX2_numeratorOf_26 ?_
  exact gx_lr hx hb hr hlocks G hQ ⟨by first | rfl | (simp only [reduceIte]; done) | (simp [reduceIte]; done), rfl⟩ dX2_numeratorOf_27

set_option maxHeartbeats 4000000 in
set_option maxRecDepth 100000 in
theorem kX2_greatestDivisor (l : Launch) (D : va_G) (ad : Nat → Nat) (cy : Nat → ClassId) (I : gF) (J : gL) (a : gF) (b : gL) (sz : Nat) (x y : Int64)  : gMl l yX2_greatestDivisor wsX2_greatestDivisor ({ frames := 1, cells := 0, slots := 0, locals := 40 }) D ad cy I J a b sz [.long x, .long y] (fun r u => r = s_gd x y ∧ u = (I, J, a, b)) := by
  refine Met.ofW (cc := cX2_greatestDivisor) (maxL := 11) (ret := some .long) (by decide) rfl ?_
  intro p e s m args below meth c s₁ B hml hv
  obtain ⟨hargs, hsz, G⟩ := gx_begin hv
  subst hsz
  have hx := B.exec
  have hb := B.bytes
  have hr := B.returns
  have hts := atoms_spec (ws := wsX2_greatestDivisor) B.pre
  have hown : s.vm.findClass RX2 = some m.cls := findClass_of_methodNamed B.named
  have hlocks := B.notSynchronized
  have hl := lv_entry ([.long x, .long y]) (n := 11) (Nat.le_of_ble_eq_true rfl)
  have hent := lg_entry_eq m ([.long x, .long y]) 11
  rw [← hargs] at hent
  rw [hent]
  clear hent
  generalize (lg_sl ([.long x, .long y]) ++ List.replicate (11 - (lg_sl ([.long x, .long y])).length) Slot.unset).toArray = ls at hl ⊢
  have hl : lv_has ls 11 [(0, .long x), (2, .long y)] := hl
  generalize hA : gA ad s.heap.size = A at G ⊢
  generalize hH : s.heap = H at G ⊢
  refine gx_q (fun Q hQ => ?_)
  refine lv_lload_n hx hb dX2_greatestDivisor_0 rfl (lv_at hl 0 rfl) ?_
  refine va_mabs_long hx hb (hml.trans hl.1.symm) hown (hts (.methodLink RX2 154 Lib.MathLoose.abs_long.x) (by decide +kernel)) (hts (.static Lib.MathLoose.abs_long.x) (by decide +kernel)) (hts (.initialized "java/lang/Math") (by decide +kernel)) (hts (.code Lib.MathLoose.abs_long.x Lib.MathLoose.abs_long.code 2 (some .long)) (by decide +kernel)) (Nat.le_of_ble_eq_true rfl) (Nat.le_of_ble_eq_true rfl) (Nat.zero_le _) (Nat.zero_le _) dX2_greatestDivisor_1 ?_
  refine lv_lstore (lv' := [(4, .long (if 0 < x then x else -x)), (0, .long x), (2, .long y)]) hx hb dX2_greatestDivisor_4 hl (by decide) rfl (fun ls hl => ?_)
  refine lv_lload_n hx hb dX2_greatestDivisor_6 rfl (lv_at hl 2 rfl) ?_
  refine va_mabs_long hx hb (hml.trans hl.1.symm) hown (hts (.methodLink RX2 154 Lib.MathLoose.abs_long.x) (by decide +kernel)) (hts (.static Lib.MathLoose.abs_long.x) (by decide +kernel)) (hts (.initialized "java/lang/Math") (by decide +kernel)) (hts (.code Lib.MathLoose.abs_long.x Lib.MathLoose.abs_long.code 2 (some .long)) (by decide +kernel)) (Nat.le_of_ble_eq_true rfl) (Nat.le_of_ble_eq_true rfl) (Nat.zero_le _) (Nat.zero_le _) dX2_greatestDivisor_7 ?_
  refine lv_lstore (lv' := [(6, .long (if 0 < y then y else -y)), (4, .long (if 0 < x then x else -x)), (0, .long x), (2, .long y)]) hx hb dX2_greatestDivisor_10 hl (by decide) rfl (fun ls hl => ?_)
  refine lv_iconst (v := 0) hx hb dX2_greatestDivisor_12 (by decide) ?_
  refine lv_istore (lv' := [(8, .int 0), (6, .long (if 0 < y then y else -y)), (4, .long (if 0 < x then x else -x)), (0, .long x), (2, .long y)]) hx hb dX2_greatestDivisor_13 hl (by decide) rfl (fun ls hl => ?_)
  have K15 : ∀ (nf : Nat) (i : Nat) (x2 y2 : Int64) (H : Heap) (locs : List Loc) (ls : Array Slot), (i ≤ 200) → (s_gd x y = s_gcd (200 - i) x2 y2) → 200 - i < nf → GG D ad cy A s I J a b H locs → lv_has ls 11 [(0, .long x), (2, .long y), (4, .long x2), (6, .long y2), (8, .int (nI i))] → W p l e ({ frames := 1, cells := 0, slots := 0, locals := 40 }) s m args below meth c H locs 0 0 Q (F0 m 15 ls []) := by
    intro nf
    induction nf with
    | zero => exact fun _ _ _ _ _ _ _ _ hz => absurd hz (Nat.not_lt_zero _)
    | succ nf ih =>
      intro i x2 y2 H locs ls h1 h2 hmeas G hl
      have ih15 := ih
      clear ih
      refine lv_iload hx hb dX2_greatestDivisor_15 (lv_at hl 4 rfl) ?_
      refine lv_sipush (v := 200) hx hb dX2_greatestDivisor_17 (by decide) ?_
      refine lv_icmp_ge (tgt := 51) hx hb dX2_greatestDivisor_20 (by decide) (fun c20 => ?_) (fun c20 => ?_)
      · skip
        have n20 := gn_le (X := 200) (Y := i) rfl rfl (by omega) (by omega) c20
        refine lv_lload hx hb dX2_greatestDivisor_51 (lv_at hl 2 rfl) ?_
        exact gx_lr hx hb hr hlocks G hQ ⟨by first | (rw [h2, s_gcd_s n20]; simp only [c20, reduceIte]; done) | (rw [h2, show 200 - i = 0 by omega]; rfl), rfl⟩ dX2_greatestDivisor_53
      · skip
        have n20 := gn_nle (X := 200) (Y := i) rfl rfl (by omega) (by omega) c20
        refine lv_lload hx hb dX2_greatestDivisor_23 (lv_at hl 3 rfl) ?_
        refine lv_lconst (v := 0) hx hb dX2_greatestDivisor_25 (by decide) ?_
        refine gx_lc_eq (tgt := 51) hx hb dX2_greatestDivisor_26 dX2_greatestDivisor_27 (by decide) (fun c27 => ?_) (fun c27 => ?_)
        · skip
          refine lv_lload hx hb dX2_greatestDivisor_51 (lv_at hl 2 rfl) ?_
          exact gx_lr hx hb hr hlocks G hQ ⟨by first | (rw [h2, s_gcd_s n20]; simp only [c20, c27, reduceIte]; done) | (rw [h2, show 200 - i = 0 by omega]; rfl), rfl⟩ dX2_greatestDivisor_53
        · skip
          refine lv_lload hx hb dX2_greatestDivisor_30 (lv_at hl 2 rfl) ?_
          refine lv_lload hx hb dX2_greatestDivisor_32 (lv_at hl 3 rfl) ?_
          refine lv_lrem hx hb dX2_greatestDivisor_34 (c27) ?_
          refine lv_lstore (lv' := [(9, .long (x2 - x2 / y2 * y2)), (0, .long x), (2, .long y), (4, .long x2), (6, .long y2), (8, .int (nI i))]) hx hb dX2_greatestDivisor_35 hl (by decide) rfl (fun ls hl => ?_)
          refine lv_lload hx hb dX2_greatestDivisor_37 (lv_at hl 4 rfl) ?_
          refine lv_lstore (lv' := [(4, .long y2), (9, .long (x2 - x2 / y2 * y2)), (0, .long x), (2, .long y), (6, .long y2), (8, .int (nI i))]) hx hb dX2_greatestDivisor_39 hl (by decide) rfl (fun ls hl => ?_)
          refine lv_lload hx hb dX2_greatestDivisor_41 (lv_at hl 1 rfl) ?_
          refine lv_lstore (lv' := [(6, .long (x2 - x2 / y2 * y2)), (4, .long y2), (9, .long (x2 - x2 / y2 * y2)), (0, .long x), (2, .long y), (8, .int (nI i))]) hx hb dX2_greatestDivisor_43 hl (by decide) rfl (fun ls hl => ?_)
          refine lv_iinc (v := (nI (i + 1))) (lv' := [(8, .int (nI (i + 1))), (6, .long (x2 - x2 / y2 * y2)), (4, .long y2), (9, .long (x2 - x2 / y2 * y2)), (0, .long x), (2, .long y)]) hx hb dX2_greatestDivisor_45 hl (k := 5) rfl (gn_add (X := i) (Y := 1) rfl rfl) (by decide) rfl (fun ls hl => ?_)
          refine lv_goto (tgt := 15) hx hb dX2_greatestDivisor_48 (by decide) ?_
          exact ih15  (i + 1) y2 (x2 - x2 / y2 * y2) _ _ _ (by omega) (by rw [h2, s_gcd_s n20]; simp only [c20, c27, reduceIte]) (by omega) G (lv_sub hl [4, 5, 2, 1, 0] rfl)
  exact K15 (200 - 0 + 1) 0 (if 0 < x then x else -x) (if 0 < y then y else -y) _ _ _ (by omega) (rfl) (Nat.lt_succ_self _) G (lv_sub hl [3, 4, 2, 1, 0] rfl)

set_option maxHeartbeats 4000000 in
set_option maxRecDepth 100000 in
theorem kX2_partOf (l : Launch) (D : va_G) (ad : Nat → Nat) (cy : Nat → ClassId) (I : gF) (J : gL) (a : gF) (b : gL) (sz : Nat) (x y : Int64) (pt : Int32)  : gMl l yX2_partOf wsX2_partOf ({ frames := 2, cells := 0, slots := 0, locals := 70 }) D ad cy I J a b sz [.long x, .long y, .int pt] (fun r u => r = s_part x y pt ∧ u = (I, J, a, b)) := by
  refine Met.ofW (cc := cX2_partOf) (maxL := 7) (ret := some .long) (by decide) rfl ?_
  intro p e s m args below meth c s₁ B hml hv
  obtain ⟨hargs, hsz, G⟩ := gx_begin hv
  subst hsz
  have hx := B.exec
  have hb := B.bytes
  have hr := B.returns
  have hts := atoms_spec (ws := wsX2_partOf) B.pre
  have hown : s.vm.findClass RX2 = some m.cls := findClass_of_methodNamed B.named
  have hlocks := B.notSynchronized
  have hl := lv_entry ([.long x, .long y, .int pt]) (n := 7) (Nat.le_of_ble_eq_true rfl)
  have hent := lg_entry_eq m ([.long x, .long y, .int pt]) 7
  rw [← hargs] at hent
  rw [hent]
  clear hent
  generalize (lg_sl ([.long x, .long y, .int pt]) ++ List.replicate (7 - (lg_sl ([.long x, .long y, .int pt])).length) Slot.unset).toArray = ls at hl ⊢
  have hl : lv_has ls 7 [(0, .long x), (2, .long y), (4, .int pt)] := hl
  generalize hA : gA ad s.heap.size = A at G ⊢
  generalize hH : s.heap = H at G ⊢
  refine gx_q (fun Q hQ => ?_)
  refine lv_lload_n hx hb dX2_partOf_0 rfl (lv_at hl 0 rfl) ?_
  refine lv_lload_n hx hb dX2_partOf_1 rfl (lv_at hl 1 rfl) ?_
  refine gx_dSl (v := (s_gd x y)) (I1 := I) (J1 := J) (a1 := a) (b1 := b) (As := [.long x, .long y]) (rest := []) ⟨hx, hb, hml, hown, hts⟩ G (kX2_greatestDivisor l D ad cy I J a b H.size x y) (va_cwS 2 hts gX2_partOf_X2_greatestDivisor rfl rfl rfl (by decide +kernel) ⟨Nat.le_of_ble_eq_true rfl, Nat.le_of_ble_eq_true rfl⟩) rfl hl.1 rfl (Nat.le_of_ble_eq_true rfl) ⟨Nat.zero_le _, Nat.zero_le _⟩ dX2_partOf_2 (fun H locs G => ?_)
  refine lv_lstore (lv' := [(5, .long (s_gd x y)), (0, .long x), (2, .long y), (4, .int pt)]) hx hb dX2_partOf_5 hl (by decide) rfl (fun ls hl => ?_)
  refine lv_lload hx hb dX2_partOf_7 (lv_at hl 0 rfl) ?_
  refine lv_lconst (v := 0) hx hb dX2_partOf_9 (by decide) ?_
  refine gx_lc_ne (tgt := 16) hx hb dX2_partOf_10 dX2_partOf_11 (by decide) (fun c11 => ?_) (fun c11 => ?_)
  · skip
    refine lv_iload hx hb dX2_partOf_16 (lv_at hl 3 rfl) ?_
    refine lv_if_ne (tgt := 28) hx hb dX2_partOf_18 (by decide) (fun c18 => ?_) (fun c18 => ?_)
    · skip
      refine lv_lload_n hx hb dX2_partOf_28 rfl (lv_at hl 2 rfl) ?_
      refine lv_lload hx hb dX2_partOf_29 (lv_at hl 0 rfl) ?_
      refine lv_ldiv hx hb dX2_partOf_31 (c11) ?_
      exact gx_lr hx hb hr hlocks G hQ ⟨by first | rfl | (simp only [s_part, c11, c18, reduceIte]; done) | (simp [s_part, c11, c18, reduceIte]; done), rfl⟩ dX2_partOf_32
    · skip
      refine lv_lload_n hx hb dX2_partOf_21 rfl (lv_at hl 1 rfl) ?_
      refine lv_lload hx hb dX2_partOf_22 (lv_at hl 0 rfl) ?_
      refine lv_ldiv hx hb dX2_partOf_24 (c11) ?_
      refine lv_goto (tgt := 32) hx hb dX2_partOf_25 (by decide) ?_
      exact gx_lr hx hb hr hlocks G hQ ⟨by first | rfl | (simp only [s_part, c11, c18, reduceIte]; done) | (simp [s_part, c11, c18, reduceIte]; done), rfl⟩ dX2_partOf_32
  · skip
    refine lv_lconst (v := 0) hx hb dX2_partOf_14 (by decide) ?_
    exact gx_lr hx hb hr hlocks G hQ ⟨by first | rfl | (simp only [s_part, c11, reduceIte]; done) | (simp [s_part, c11, reduceIte]; done), rfl⟩ dX2_partOf_15

set_option maxHeartbeats 4000000 in
set_option maxRecDepth 100000 in
theorem kX2_addRow (l : Launch) (D : va_G) (ad : Nat → Nat) (cy : Nat → ClassId) (I : gF) (J : gL) (a : gF) (b : gL) (sz : Nat) (nl nc r0 : Nat) (hnl : I 4 7 = nI nl) (hnl2 : nl + 2 ≤ 21) (hnc : I 4 8 = nI nc) (hnc2 : nc ≤ 5) (hnn : I 1 7 = nI nc) (hr8 : r0 < 8) : gMv l yX2_addRow wsX2_addRow ({ frames := 1, cells := 0, slots := 0, locals := 24 }) D ad cy I J a b sz [.ref (ad 2), .int (nI r0)] (fun u => u = ((s_row I a b r0 nl nc).1, J, (s_row I a b r0 nl nc).2.1, (s_row I a b r0 nl nc).2.2)) := by
  refine Met.ofW (cc := cX2_addRow) (maxL := 5) (ret := none) (by decide) rfl ?_
  intro p e s m args below meth c s₁ B hml hv
  obtain ⟨hargs, hsz, G⟩ := gx_begin hv
  subst hsz
  have hx := B.exec
  have hb := B.bytes
  have hr := B.returns
  have hts := atoms_spec (ws := wsX2_addRow) B.pre
  have hown : s.vm.findClass RX2 = some m.cls := findClass_of_methodNamed B.named
  have hlocks := B.notSynchronized
  have hinX1 : ∀ w ∈ wsX10, w ∈ wsX2_addRow := by decide +kernel
  have hinX2 : ∀ w ∈ wsX20, w ∈ wsX2_addRow := by decide +kernel
  have lk12 := hts (.fieldLink RX2 12 "ExactSimplex$Solver" "dictionary" "LExactSimplex$Dictionary;") (by decide +kernel)
  have lk30 := hts (.fieldLink RX2 30 "ExactSimplex$Solver" "problem" "LExactSimplex$Problem;") (by decide +kernel)
  have lk58 := hts (.fieldLink RX2 58 "ExactSimplex$Problem" "names" "I") (by decide +kernel)
  have lk71 := hts (.fieldLink RX2 71 "ExactSimplex$Problem" "factors" "[[I") (by decide +kernel)
  have lk75 := hts (.fieldLink RX2 75 "ExactSimplex$Problem" "rights" "[I") (by decide +kernel)
  have lk116 := hts (.fieldLink RX2 116 "ExactSimplex$Problem" "lows" "[I") (by decide +kernel)
  have hl := lv_entry ([.ref (ad 2), .int (nI r0)]) (n := 5) (Nat.le_of_ble_eq_true rfl)
  have hent := lg_entry_eq m ([.ref (ad 2), .int (nI r0)]) 5
  rw [← hargs] at hent
  rw [hent]
  clear hent
  generalize (lg_sl ([.ref (ad 2), .int (nI r0)]) ++ List.replicate (5 - (lg_sl ([.ref (ad 2), .int (nI r0)])).length) Slot.unset).toArray = ls at hl ⊢
  have hl : lv_has ls 5 [(0, .ref (ad 2)), (1, .int (nI r0))] := hl
  generalize hA : gA ad s.heap.size = A at G ⊢
  generalize hH : s.heap = H at G ⊢
  refine gx_q (fun Q hQ => ?_)
  refine lv_aload_n hx hb dX2_addRow_0 rfl (lv_at hl 0 rfl) ?_
  refine gx_get hx hb hts hinX2 hown G 2 (by decide) rfl rfl 0 (by decide) rfl lk30 rfl (v := .ref (ad 1)) rfl dX2_addRow_1 ?_
  refine gx_get hx hb hts hinX1 hown G 1 (by decide) rfl rfl 5 (by decide) rfl lk71 rfl (v := .ref (ad 11)) rfl dX2_addRow_4 ?_
  refine lv_iload_n hx hb dX2_addRow_7 rfl (lv_at hl 1 rfl) ?_
  refine gx_aald hx hb G 11 (by decide) rfl (Or.inl rfl) (by decide) r0 rfl (by omega) dX2_addRow_8 ?_
  refine lv_astore_n (lv' := [(2, .ref (ad (40 + r0))), (0, .ref (ad 2)), (1, .int (nI r0))]) hx hb dX2_addRow_9 rfl hl (by decide) rfl (fun ls hl => ?_)
  refine lv_aload_n hx hb dX2_addRow_10 rfl (lv_at hl 1 rfl) ?_
  refine gx_get hx hb hts hinX2 hown G 2 (by decide) rfl rfl 0 (by decide) rfl lk30 rfl (v := .ref (ad 1)) rfl dX2_addRow_11 ?_
  refine gx_get hx hb hts hinX1 hown G 1 (by decide) rfl rfl 4 (by decide) rfl lk75 rfl (v := .ref (ad 10)) rfl dX2_addRow_14 ?_
  refine lv_iload_n hx hb dX2_addRow_17 rfl (lv_at hl 2 rfl) ?_
  refine gx_iald hx hb G 10 (by decide) (rfl) (by decide) r0 rfl (by omega) dX2_addRow_18 ?_
  refine lv_topi (fun x_1 ex_1 => ?_)
  refine lv_istore_n (lv' := [(3, .int x_1), (2, .ref (ad (40 + r0))), (0, .ref (ad 2)), (1, .int (nI r0))]) hx hb dX2_addRow_19 rfl hl (by decide) rfl (fun ls hl => ?_)
  refine lv_iconst (v := 0) hx hb dX2_addRow_20 (by decide) ?_
  refine lv_istore (lv' := [(4, .int 0), (3, .int x_1), (2, .ref (ad (40 + r0))), (0, .ref (ad 2)), (1, .int (nI r0))]) hx hb dX2_addRow_21 hl (by decide) rfl (fun ls hl => ?_)
  have K23 : ∀ (nf : Nat) (r : Nat) (H : Heap) (locs : List Loc) (ls : Array Slot), (r ≤ nc) → nc - r < nf → GG D ad cy A s I J a b H locs → lv_has ls 5 [(0, .ref (ad 2)), (1, .int (nI r0)), (2, .ref (ad (40 + r0))), (3, .int (s_rt a r0 r)), (4, .int (nI r))] → W p l e ({ frames := 1, cells := 0, slots := 0, locals := 24 }) s m args below meth c H locs 0 0 Q (F0 m 23 ls []) := by
    intro nf
    induction nf with
    | zero => exact fun _ _ _ _ _ hz => absurd hz (Nat.not_lt_zero _)
    | succ nf ih =>
      intro r H locs ls h1 hmeas G hl
      have ih23 := ih
      clear ih
      refine lv_iload hx hb dX2_addRow_23 (lv_at hl 4 rfl) ?_
      refine lv_aload_n hx hb dX2_addRow_25 rfl (lv_at hl 0 rfl) ?_
      refine gx_get hx hb hts hinX2 hown G 2 (by decide) rfl rfl 0 (by decide) rfl lk30 rfl (v := .ref (ad 1)) rfl dX2_addRow_26 ?_
      refine gx_get hx hb hts hinX1 hown G 1 (by decide) rfl rfl 7 (by decide) rfl lk58 rfl (v := .int (I 1 7)) rfl dX2_addRow_29 ?_
      refine lv_icmp_ge (tgt := 59) hx hb dX2_addRow_32 (by decide) (fun c32 => ?_) (fun c32 => ?_)
      · skip
        have n32 := gn_le (X := nc) (Y := r) hnn rfl (by omega) (by omega) c32
        have hex : r = nc := by omega
        rw [hex] at hl
        refine lv_aload_n hx hb dX2_addRow_59 rfl (lv_at hl 0 rfl) ?_
        refine gx_get hx hb hts hinX2 hown G 2 (by decide) rfl rfl 0 (by decide) rfl lk30 rfl (v := .ref (ad 1)) rfl dX2_addRow_60 ?_
        refine lv_iload_n hx hb dX2_addRow_63 rfl (lv_at hl 1 rfl) ?_
        refine gx_dVi (v := (p_above a r0)) (I1 := I) (J1 := J) (a1 := a) (b1 := b) (As := [.int (nI r0)]) (rest := []) ⟨hx, hb, hml, hown, hts⟩ G 1 (kX1_limitsFromAbove l D ad cy I J a b H.size r0 hr8) (cwV 1 hts gX2_addRow_X1_limitsFromAbove rfl rfl rfl (by decide +kernel) ⟨Nat.le_of_ble_eq_true rfl, Nat.le_of_ble_eq_true rfl⟩) (by decide) rfl rfl rfl rfl hl.1 rfl (Nat.le_of_ble_eq_true rfl) ⟨Nat.zero_le _, Nat.zero_le _⟩ dX2_addRow_64 (fun H locs G => ?_)
        refine lv_if_eq (tgt := 80) hx hb dX2_addRow_67 (by decide) (fun c67 => ?_) (fun c67 => ?_)
        · skip
          refine lv_aload_n hx hb dX2_addRow_80 rfl (lv_at hl 0 rfl) ?_
          refine gx_get hx hb hts hinX2 hown G 2 (by decide) rfl rfl 0 (by decide) rfl lk30 rfl (v := .ref (ad 1)) rfl dX2_addRow_81 ?_
          refine lv_iload_n hx hb dX2_addRow_84 rfl (lv_at hl 1 rfl) ?_
          refine gx_dVi (v := (p_below a r0)) (I1 := I) (J1 := J) (a1 := a) (b1 := b) (As := [.int (nI r0)]) (rest := []) ⟨hx, hb, hml, hown, hts⟩ G 1 (kX1_limitsFromBelow l D ad cy I J a b H.size r0 hr8) (cwV 1 hts gX2_addRow_X1_limitsFromBelow rfl rfl rfl (by decide +kernel) ⟨Nat.le_of_ble_eq_true rfl, Nat.le_of_ble_eq_true rfl⟩) (by decide) rfl rfl rfl rfl hl.1 rfl (Nat.le_of_ble_eq_true rfl) ⟨Nat.zero_le _, Nat.zero_le _⟩ dX2_addRow_85 (fun H locs G => ?_)
          refine lv_if_eq (tgt := 102) hx hb dX2_addRow_88 (by decide) (fun c88 => ?_) (fun c88 => ?_)
          · skip
            exact gx_vr hx hb hr hlocks G hQ (by simp only [s_row, s_add, c32, c67, c88, reduceIte]) dX2_addRow_102
          · skip
            refine lv_aload_n hx hb dX2_addRow_91 rfl (lv_at hl 0 rfl) ?_
            refine gx_get hx hb hts hinX2 hown G 2 (by decide) rfl rfl 1 (by decide) rfl lk12 rfl (v := .ref (ad 4)) rfl dX2_addRow_92 ?_
            refine lv_aload_n hx hb dX2_addRow_95 rfl (lv_at hl 2 rfl) ?_
            refine lv_iconst (v := -1) hx hb dX2_addRow_96 (by decide) ?_
            refine lv_iload_n hx hb dX2_addRow_97 rfl (lv_at hl 3 rfl) ?_
            refine lv_ineg hx hb dX2_addRow_98 ?_
            refine gx_dVv (I1 := (gU I 4 7 (I 4 7 + 1))) (J1 := J) (a1 := (gU a 15 nl (I 4 8 + I 4 7))) (b1 := (d_addB a b (40 + r0) nl nc (-1) (-s_rt a r0 nc))) (As := [.ref (ad (40 + r0)), .int (-1), .int (-(s_rt a r0 nc))]) (rest := []) ⟨hx, hb, hml, hown, hts⟩ G 4 (kX0_addAtMost l D ad cy I J a b H.size nl nc (40 + r0) (-1) (-s_rt a r0 nc) hnl (by omega) hnc hnc2 (by omega) (gsh_F r0 hr8)) (cwV 3 hts gX2_addRow_X0_addAtMost rfl rfl rfl (by decide +kernel) ⟨Nat.le_of_ble_eq_true rfl, Nat.le_of_ble_eq_true rfl⟩) (by decide) rfl rfl rfl rfl hl.1 rfl (Nat.le_of_ble_eq_true rfl) ⟨Nat.zero_le _, Nat.zero_le _⟩ dX2_addRow_99 (fun H locs G => ?_)
            exact gx_vr hx hb hr hlocks G hQ (by simp only [s_row, s_add, c32, c67, c88, reduceIte]) dX2_addRow_102
        · skip
          refine lv_aload_n hx hb dX2_addRow_70 rfl (lv_at hl 0 rfl) ?_
          refine gx_get hx hb hts hinX2 hown G 2 (by decide) rfl rfl 1 (by decide) rfl lk12 rfl (v := .ref (ad 4)) rfl dX2_addRow_71 ?_
          refine lv_aload_n hx hb dX2_addRow_74 rfl (lv_at hl 2 rfl) ?_
          refine lv_iconst (v := 1) hx hb dX2_addRow_75 (by decide) ?_
          refine lv_iload_n hx hb dX2_addRow_76 rfl (lv_at hl 3 rfl) ?_
          refine gx_dVv (I1 := (gU I 4 7 (I 4 7 + 1))) (J1 := J) (a1 := (gU a 15 nl (I 4 8 + I 4 7))) (b1 := (d_addB a b (40 + r0) nl nc 1 (s_rt a r0 nc))) (As := [.ref (ad (40 + r0)), .int 1, .int (s_rt a r0 nc)]) (rest := []) ⟨hx, hb, hml, hown, hts⟩ G 4 (kX0_addAtMost l D ad cy I J a b H.size nl nc (40 + r0) 1 (s_rt a r0 nc) hnl (by omega) hnc hnc2 (by omega) (gsh_F r0 hr8)) (cwV 3 hts gX2_addRow_X0_addAtMost rfl rfl rfl (by decide +kernel) ⟨Nat.le_of_ble_eq_true rfl, Nat.le_of_ble_eq_true rfl⟩) (by decide) rfl rfl rfl rfl hl.1 rfl (Nat.le_of_ble_eq_true rfl) ⟨Nat.zero_le _, Nat.zero_le _⟩ dX2_addRow_77 (fun H locs G => ?_)
          refine lv_aload_n hx hb dX2_addRow_80 rfl (lv_at hl 0 rfl) ?_
          refine gx_get hx hb hts hinX2 hown G 2 (by decide) rfl rfl 0 (by decide) rfl lk30 rfl (v := .ref (ad 1)) rfl dX2_addRow_81 ?_
          refine lv_iload_n hx hb dX2_addRow_84 rfl (lv_at hl 1 rfl) ?_
          refine gx_dVi (v := (p_below (gU a 15 nl (I 4 8 + I 4 7)) r0)) (I1 := (gU I 4 7 (I 4 7 + 1))) (J1 := J) (a1 := (gU a 15 nl (I 4 8 + I 4 7))) (b1 := (d_addB a b (40 + r0) nl nc 1 (s_rt a r0 nc))) (As := [.int (nI r0)]) (rest := []) ⟨hx, hb, hml, hown, hts⟩ G 1 (kX1_limitsFromBelow l D ad cy (gU I 4 7 (I 4 7 + 1)) J (gU a 15 nl (I 4 8 + I 4 7)) (d_addB a b (40 + r0) nl nc 1 (s_rt a r0 nc)) H.size r0 hr8) (cwV 1 hts gX2_addRow_X1_limitsFromBelow rfl rfl rfl (by decide +kernel) ⟨Nat.le_of_ble_eq_true rfl, Nat.le_of_ble_eq_true rfl⟩) (by decide) rfl rfl rfl rfl hl.1 rfl (Nat.le_of_ble_eq_true rfl) ⟨Nat.zero_le _, Nat.zero_le _⟩ dX2_addRow_85 (fun H locs G => ?_)
          refine lv_if_eq (tgt := 102) hx hb dX2_addRow_88 (by decide) (fun c88 => ?_) (fun c88 => ?_)
          · skip
            exact gx_vr hx hb hr hlocks G hQ (by simp only [s_row, s_add, c32, c67, c88, reduceIte]) dX2_addRow_102
          · skip
            refine lv_aload_n hx hb dX2_addRow_91 rfl (lv_at hl 0 rfl) ?_
            refine gx_get hx hb hts hinX2 hown G 2 (by decide) rfl rfl 1 (by decide) rfl lk12 rfl (v := .ref (ad 4)) rfl dX2_addRow_92 ?_
            refine lv_aload_n hx hb dX2_addRow_95 rfl (lv_at hl 2 rfl) ?_
            refine lv_iconst (v := -1) hx hb dX2_addRow_96 (by decide) ?_
            refine lv_iload_n hx hb dX2_addRow_97 rfl (lv_at hl 3 rfl) ?_
            refine lv_ineg hx hb dX2_addRow_98 ?_
            refine gx_dVv (I1 := (gU (gU I 4 7 (I 4 7 + 1)) 4 7 ((gU I 4 7 (I 4 7 + 1)) 4 7 + 1))) (J1 := J) (a1 := (gU (gU a 15 nl (I 4 8 + I 4 7)) 15 (nl + 1) ((gU I 4 7 (I 4 7 + 1)) 4 8 + (gU I 4 7 (I 4 7 + 1)) 4 7))) (b1 := (d_addB (gU a 15 nl (I 4 8 + I 4 7)) (d_addB a b (40 + r0) nl nc 1 (s_rt a r0 nc)) (40 + r0) (nl + 1) nc (-1) (-s_rt a r0 nc))) (As := [.ref (ad (40 + r0)), .int (-1), .int (-(s_rt a r0 nc))]) (rest := []) ⟨hx, hb, hml, hown, hts⟩ G 4 (kX0_addAtMost l D ad cy (gU I 4 7 (I 4 7 + 1)) J (gU a 15 nl (I 4 8 + I 4 7)) (d_addB a b (40 + r0) nl nc 1 (s_rt a r0 nc)) H.size (nl + 1) nc (40 + r0) (-1) (-s_rt a r0 nc) (show I 4 7 + 1 = nI (nl + 1) by rw [hnl, nI_1]) (by omega) hnc hnc2 (by omega) (gsh_F r0 hr8)) (cwV 3 hts gX2_addRow_X0_addAtMost rfl rfl rfl (by decide +kernel) ⟨Nat.le_of_ble_eq_true rfl, Nat.le_of_ble_eq_true rfl⟩) (by decide) rfl rfl rfl rfl hl.1 rfl (Nat.le_of_ble_eq_true rfl) ⟨Nat.zero_le _, Nat.zero_le _⟩ dX2_addRow_99 (fun H locs G => ?_)
            exact gx_vr hx hb hr hlocks G hQ (by simp only [s_row, s_add, c32, c67, c88, reduceIte]) dX2_addRow_102
      · skip
        have n32 := gn_nle (X := nc) (Y := r) hnn rfl (by omega) (by omega) c32
        refine lv_iload_n hx hb dX2_addRow_35 rfl (lv_at hl 3 rfl) ?_
        refine lv_aload_n hx hb dX2_addRow_36 rfl (lv_at hl 2 rfl) ?_
        refine lv_iload hx hb dX2_addRow_37 (lv_at hl 4 rfl) ?_
        refine gx_iald hx hb G (40 + r0) (by omega) (gsh_F _ (by omega)) (by decide) r rfl (by omega) dX2_addRow_39 ?_
        refine lv_aload_n hx hb dX2_addRow_40 rfl (lv_at hl 0 rfl) ?_
        refine gx_get hx hb hts hinX2 hown G 2 (by decide) rfl rfl 0 (by decide) rfl lk30 rfl (v := .ref (ad 1)) rfl dX2_addRow_41 ?_
        refine gx_get hx hb hts hinX1 hown G 1 (by decide) rfl rfl 0 (by decide) rfl lk116 rfl (v := .ref (ad 6)) rfl dX2_addRow_44 ?_
        refine lv_iload hx hb dX2_addRow_47 (lv_at hl 4 rfl) ?_
        refine gx_iald hx hb G 6 (by decide) (rfl) (by decide) r rfl (by omega) dX2_addRow_49 ?_
        refine lv_imul hx hb dX2_addRow_50 ?_
        refine lv_isub hx hb dX2_addRow_51 ?_
        refine lv_topi (fun x_2 ex_2 => ?_)
        refine lv_istore_n (lv' := [(3, .int x_2), (0, .ref (ad 2)), (1, .int (nI r0)), (2, .ref (ad (40 + r0))), (4, .int (nI r))]) hx hb dX2_addRow_52 rfl hl (by decide) rfl (fun ls hl => ?_)
        refine lv_iinc (v := (nI (r + 1))) (lv' := [(4, .int (nI (r + 1))), (3, .int x_2), (0, .ref (ad 2)), (1, .int (nI r0)), (2, .ref (ad (40 + r0)))]) hx hb dX2_addRow_53 hl (k := 4) rfl (gn_add (X := r) (Y := 1) rfl rfl) (by decide) rfl (fun ls hl => ?_)
        refine lv_goto (tgt := 23) hx hb dX2_addRow_56 (by decide) ?_
        have q3 : x_2 = s_rt a r0 (r + 1) := by rw [ex_2]; first | rfl | (simp only [s_rt, c32, reduceIte]; done) | (simp [s_rt, c32, reduceIte]; done)
        rw [q3] at hl
        exact ih23  (r + 1) _ _ _ (by omega) (by omega) G (lv_sub hl [2, 3, 4, 1, 0] rfl)
  have q3 : x_1 = s_rt a r0 0 := by first | rfl | (rw [ex_1]; rfl)
  rw [q3] at hl
  exact K23 (nc - 0 + 1) 0 _ _ _ (by omega) (Nat.lt_succ_self _) G (lv_sub hl [3, 4, 2, 1, 0] rfl)

set_option maxHeartbeats 4000000 in
set_option maxRecDepth 100000 in
theorem kX2_canKeep (l : Launch) (D : va_G) (ad : Nat → Nat) (cy : Nat → ClassId) (I : gF) (J : gL) (a : gF) (b : gL) (sz : Nat) (nn nr : Nat) (set : Int32) (hnn : I 1 7 = nI nn) (hnn2 : nn ≤ 5) (hnr : I 1 8 = nI nr) (hnr2 : nr ≤ 8) : gMi l yX2_canKeep wsX2_canKeep ({ frames := 3, cells := 0, slots := 0, locals := 90 }) D ad cy I J a b sz [.ref (ad 2), .int set] (fun r u => r = (s_kf I J a b nn nr set).1 ∧ u = (s_kI I a b nn nr set, (s_kf I J a b nn nr set).2.1, (s_kf I J a b nn nr set).2.2.1, (s_kf I J a b nn nr set).2.2.2)) := by
  refine Met.ofW (cc := cX2_canKeep) (maxL := 3) (ret := some .boolean) (by decide) rfl ?_
  intro p e s m args below meth c s₁ B hml hv
  obtain ⟨hargs, hsz, G⟩ := gx_begin hv
  subst hsz
  have hx := B.exec
  have hb := B.bytes
  have hr := B.returns
  have hts := atoms_spec (ws := wsX2_canKeep) B.pre
  have hown : s.vm.findClass RX2 = some m.cls := findClass_of_methodNamed B.named
  have hlocks := B.notSynchronized
  have hinX1 : ∀ w ∈ wsX10, w ∈ wsX2_canKeep := by decide +kernel
  have hinX2 : ∀ w ∈ wsX20, w ∈ wsX2_canKeep := by decide +kernel
  have lk12 := hts (.fieldLink RX2 12 "ExactSimplex$Solver" "dictionary" "LExactSimplex$Dictionary;") (by decide +kernel)
  have lk18 := hts (.fieldLink RX2 18 "ExactSimplex$Solver" "goal" "[I") (by decide +kernel)
  have lk30 := hts (.fieldLink RX2 30 "ExactSimplex$Solver" "problem" "LExactSimplex$Problem;") (by decide +kernel)
  have lk58 := hts (.fieldLink RX2 58 "ExactSimplex$Problem" "names" "I") (by decide +kernel)
  have lk91 := hts (.fieldLink RX2 91 "ExactSimplex$Problem" "rows" "I") (by decide +kernel)
  have lk116 := hts (.fieldLink RX2 116 "ExactSimplex$Problem" "lows" "[I") (by decide +kernel)
  have lk130 := hts (.fieldLink RX2 130 "ExactSimplex$Problem" "highs" "[I") (by decide +kernel)
  have hl := lv_entry ([.ref (ad 2), .int set]) (n := 3) (Nat.le_of_ble_eq_true rfl)
  have hent := lg_entry_eq m ([.ref (ad 2), .int set]) 3
  rw [← hargs] at hent
  rw [hent]
  clear hent
  generalize (lg_sl ([.ref (ad 2), .int set]) ++ List.replicate (3 - (lg_sl ([.ref (ad 2), .int set])).length) Slot.unset).toArray = ls at hl ⊢
  have hl : lv_has ls 3 [(0, .ref (ad 2)), (1, .int set)] := hl
  generalize hA : gA ad s.heap.size = A at G ⊢
  generalize hH : s.heap = H at G ⊢
  refine gx_q (fun Q hQ => ?_)
  refine lv_aload_n hx hb dX2_canKeep_0 rfl (lv_at hl 0 rfl) ?_
  refine gx_get hx hb hts hinX2 hown G 2 (by decide) rfl rfl 1 (by decide) rfl lk12 rfl (v := .ref (ad 4)) rfl dX2_canKeep_1 ?_
  refine lv_aload_n hx hb dX2_canKeep_4 rfl (lv_at hl 0 rfl) ?_
  refine gx_get hx hb hts hinX2 hown G 2 (by decide) rfl rfl 0 (by decide) rfl lk30 rfl (v := .ref (ad 1)) rfl dX2_canKeep_5 ?_
  refine gx_get hx hb hts hinX1 hown G 1 (by decide) rfl rfl 7 (by decide) rfl lk58 rfl (v := .int (I 1 7)) rfl dX2_canKeep_8 ?_
  rw [hnn]
  refine gx_dVv (I1 := (s_k0 I nn)) (J1 := (gU J 4 6 1)) (a1 := (d_thaw (d_ids a nn) nn)) (b1 := b) (As := [.int (nI nn)]) (rest := []) ⟨hx, hb, hml, hown, hts⟩ G 4 (kX0_begin l D ad cy I J a b H.size nn hnn2) (cwV 1 hts gX2_canKeep_X0_begin rfl rfl rfl (by decide +kernel) ⟨Nat.le_of_ble_eq_true rfl, Nat.le_of_ble_eq_true rfl⟩) (by decide) rfl rfl rfl rfl hl.1 rfl (Nat.le_of_ble_eq_true rfl) ⟨Nat.zero_le _, Nat.zero_le _⟩ dX2_canKeep_11 (fun H locs G => ?_)
  refine lv_iconst (v := 0) hx hb dX2_canKeep_14 (by decide) ?_
  refine lv_istore_n (lv' := [(2, .int 0), (0, .ref (ad 2)), (1, .int set)]) hx hb dX2_canKeep_15 rfl hl (by decide) rfl (fun ls hl => ?_)
  have K16 : ∀ (nf : Nat) (r : Nat) (H : Heap) (locs : List Loc) (ls : Array Slot), (r ≤ nn) → nn - r < nf → GG D ad cy A s ((s_kn I a b nn r).1) (gU J 4 6 1) ((s_kn I a b nn r).2.1) ((s_kn I a b nn r).2.2) H locs → lv_has ls 3 [(0, .ref (ad 2)), (1, .int set), (2, .int (nI r))] → W p l e ({ frames := 3, cells := 0, slots := 0, locals := 90 }) s m args below meth c H locs 0 0 Q (F0 m 16 ls []) := by
    intro nf
    induction nf with
    | zero => exact fun _ _ _ _ _ hz => absurd hz (Nat.not_lt_zero _)
    | succ nf ih =>
      intro r H locs ls h1 hmeas G hl
      have ih16 := ih
      clear ih
      refine lv_iload_n hx hb dX2_canKeep_16 rfl (lv_at hl 2 rfl) ?_
      refine lv_aload_n hx hb dX2_canKeep_17 rfl (lv_at hl 0 rfl) ?_
      obtain ⟨g1, g2, g3⟩ := s_kn_I I a b nn r
      refine gx_get hx hb hts hinX2 hown G 2 (by decide) rfl rfl 0 (by decide) rfl lk30 rfl (v := .ref (ad 1)) rfl dX2_canKeep_18 ?_
      refine gx_get hx hb hts hinX1 hown G 1 (by decide) rfl rfl 7 (by decide) rfl lk58 rfl (v := .int (((s_kn I a b nn r).1) 1 7)) rfl dX2_canKeep_21 ?_
      rw [show (s_kn I a b nn r).1 1 7 = nI nn from (g3 1 7 (by decide)).trans hnn]
      refine lv_icmp_ge (tgt := 70) hx hb dX2_canKeep_24 (by decide) (fun c24 => ?_) (fun c24 => ?_)
      · skip
        have n24 := gn_le (X := nn) (Y := r) rfl rfl (by omega) (by omega) c24
        have hex : r = nn := by omega
        rw [hex] at hl
        rw [hex] at G
        refine lv_iconst (v := 0) hx hb dX2_canKeep_70 (by decide) ?_
        refine lv_istore_n (lv' := [(2, .int 0), (0, .ref (ad 2)), (1, .int set)]) hx hb dX2_canKeep_71 rfl hl (by decide) rfl (fun ls hl => ?_)
        have K72 : ∀ (nf : Nat) (q : Nat) (H : Heap) (locs : List Loc) (ls : Array Slot), (q ≤ nr) → nr - q < nf → GG D ad cy A s ((s_kr I a b nn set q).1.1) (gU J 4 6 1) ((s_kr I a b nn set q).1.2.1) ((s_kr I a b nn set q).1.2.2) H locs → lv_has ls 3 [(0, .ref (ad 2)), (1, .int set), (2, .int (nI q))] → W p l e ({ frames := 3, cells := 0, slots := 0, locals := 90 }) s m args below meth c H locs 0 0 Q (F0 m 72 ls []) := by
          intro nf
          induction nf with
          | zero => exact fun _ _ _ _ _ hz => absurd hz (Nat.not_lt_zero _)
          | succ nf ih =>
            intro q H locs ls h2 hmeas G hl
            have ih72 := ih
            clear ih
            refine lv_iload_n hx hb dX2_canKeep_72 rfl (lv_at hl 2 rfl) ?_
            refine lv_aload_n hx hb dX2_canKeep_73 rfl (lv_at hl 0 rfl) ?_
            obtain ⟨k1, k2, k3, k4⟩ := s_kr_I I a b nn set q
            refine gx_get hx hb hts hinX2 hown G 2 (by decide) rfl rfl 0 (by decide) rfl lk30 rfl (v := .ref (ad 1)) rfl dX2_canKeep_74 ?_
            refine gx_get hx hb hts hinX1 hown G 1 (by decide) rfl rfl 8 (by decide) rfl lk91 rfl (v := .int (((s_kr I a b nn set q).1.1) 1 8)) rfl dX2_canKeep_77 ?_
            rw [show (s_kr I a b nn set q).1.1 1 8 = nI nr from (k3 1 8 (by decide)).trans hnr]
            refine lv_icmp_ge (tgt := 102) hx hb dX2_canKeep_80 (by decide) (fun c80 => ?_) (fun c80 => ?_)
            · skip
              have n80 := gn_le (X := nr) (Y := q) rfl rfl (by omega) (by omega) c80
              have hex : q = nr := by omega
              rw [hex] at hl
              rw [hex] at G
              refine lv_aload_n hx hb dX2_canKeep_102 rfl (lv_at hl 0 rfl) ?_
              refine gx_get hx hb hts hinX2 hown G 2 (by decide) rfl rfl 1 (by decide) rfl lk12 rfl (v := .ref (ad 4)) rfl dX2_canKeep_103 ?_
              refine gx_dVi (v := ((s_kf I J a b nn nr set).1)) (I1 := ((s_kr I a b nn set nr).1.1)) (J1 := ((s_kf I J a b nn nr set).2.1)) (a1 := ((s_kf I J a b nn nr set).2.2.1)) (b1 := ((s_kf I J a b nn nr set).2.2.2)) (As := []) (rest := []) ⟨hx, hb, hml, hown, hts⟩ G 4 (kX0_findPoint l D ad cy ((s_kr I a b nn set nr).1.1) (gU J 4 6 1) ((s_kr I a b nn set nr).1.2.1) ((s_kr I a b nn set nr).1.2.2) H.size (s_kr I a b nn set nr).2 nn (s_kr_I I a b nn set nr).1 (by have := (s_kr_I I a b nn set nr).2.2.2; omega) (s_kr_I I a b nn set nr).2.1 hnn2) (cwV 0 hts gX2_canKeep_X0_findPoint rfl rfl rfl (by decide +kernel) ⟨Nat.le_of_ble_eq_true rfl, Nat.le_of_ble_eq_true rfl⟩) (by decide) rfl rfl rfl rfl hl.1 rfl (Nat.le_of_ble_eq_true rfl) ⟨Nat.zero_le _, Nat.zero_le _⟩ dX2_canKeep_106 (fun H locs G => ?_)
              exact gx_zr hx hb hr hlocks G hQ (z01 (d_find_01 _ _ _ _)) ⟨by first | rfl | (simp only [c80, reduceIte]; done) | (simp [c80, reduceIte]; done), rfl⟩ dX2_canKeep_109
            · skip
              have n80 := gn_nle (X := nr) (Y := q) rfl rfl (by omega) (by omega) c80
              refine lv_iload_n hx hb dX2_canKeep_83 rfl (lv_at hl 1 rfl) ?_
              refine lv_iconst (v := 1) hx hb dX2_canKeep_84 (by decide) ?_
              refine lv_iload_n hx hb dX2_canKeep_85 rfl (lv_at hl 2 rfl) ?_
              refine lv_ishl hx hb dX2_canKeep_86 ?_
              refine lv_iand hx hb dX2_canKeep_87 ?_
              refine lv_if_eq (tgt := 96) hx hb dX2_canKeep_88 (by decide) (fun c88 => ?_) (fun c88 => ?_)
              · skip
                refine lv_iinc (v := (nI (q + 1))) (lv' := [(2, .int (nI (q + 1))), (0, .ref (ad 2)), (1, .int set)]) hx hb dX2_canKeep_96 hl (k := 2) rfl (gn_add (X := q) (Y := 1) rfl rfl) (by decide) rfl (fun ls hl => ?_)
                refine lv_goto (tgt := 72) hx hb dX2_canKeep_99 (by decide) ?_
                exact ih72  (q + 1) _ _ _ (by omega) (by omega) (gg_eq G (by first | rw [s_kr_p c88] | rw [s_kr_n c88]) rfl (by first | rw [s_kr_p c88] | rw [s_kr_n c88]) (by first | rw [s_kr_p c88] | rw [s_kr_n c88])) (lv_sub hl [1, 2, 0] rfl)
              · skip
                refine lv_aload_n hx hb dX2_canKeep_91 rfl (lv_at hl 0 rfl) ?_
                refine lv_iload_n hx hb dX2_canKeep_92 rfl (lv_at hl 2 rfl) ?_
                refine gx_dVv (I1 := ((s_row ((s_kr I a b nn set q).1.1) ((s_kr I a b nn set q).1.2.1) ((s_kr I a b nn set q).1.2.2) q (s_kr I a b nn set q).2 nn).1)) (J1 := (gU J 4 6 1)) (a1 := ((s_row ((s_kr I a b nn set q).1.1) ((s_kr I a b nn set q).1.2.1) ((s_kr I a b nn set q).1.2.2) q (s_kr I a b nn set q).2 nn).2.1)) (b1 := ((s_row ((s_kr I a b nn set q).1.1) ((s_kr I a b nn set q).1.2.1) ((s_kr I a b nn set q).1.2.2) q (s_kr I a b nn set q).2 nn).2.2)) (As := [.int (nI q)]) (rest := []) ⟨hx, hb, hml, hown, hts⟩ G 2 (kX2_addRow l D ad cy ((s_kr I a b nn set q).1.1) (gU J 4 6 1) ((s_kr I a b nn set q).1.2.1) ((s_kr I a b nn set q).1.2.2) H.size (s_kr I a b nn set q).2 nn q k1 (by omega) k2 hnn2 ((k3 1 7 (by decide)).trans hnn) (by omega)) (cwV 1 hts gX2_canKeep_X2_addRow rfl rfl rfl (by decide +kernel) ⟨Nat.le_of_ble_eq_true rfl, Nat.le_of_ble_eq_true rfl⟩) (by decide) rfl rfl rfl rfl hl.1 rfl (Nat.le_of_ble_eq_true rfl) ⟨Nat.zero_le _, Nat.zero_le _⟩ dX2_canKeep_93 (fun H locs G => ?_)
                refine lv_iinc (v := (nI (q + 1))) (lv' := [(2, .int (nI (q + 1))), (0, .ref (ad 2)), (1, .int set)]) hx hb dX2_canKeep_96 hl (k := 2) rfl (gn_add (X := q) (Y := 1) rfl rfl) (by decide) rfl (fun ls hl => ?_)
                refine lv_goto (tgt := 72) hx hb dX2_canKeep_99 (by decide) ?_
                exact ih72  (q + 1) _ _ _ (by omega) (by omega) (gg_eq G (by first | rw [s_kr_p c88] | rw [s_kr_n c88]) rfl (by first | rw [s_kr_p c88] | rw [s_kr_n c88]) (by first | rw [s_kr_p c88] | rw [s_kr_n c88])) (lv_sub hl [1, 2, 0] rfl)
        exact K72 (nr - 0 + 1) 0 _ _ _ (by omega) (Nat.lt_succ_self _) (gg_eq G (rfl) rfl (rfl) (rfl)) (lv_sub hl [1, 2, 0] rfl)
      · skip
        have n24 := gn_nle (X := nn) (Y := r) rfl rfl (by omega) (by omega) c24
        refine lv_aload_n hx hb dX2_canKeep_27 rfl (lv_at hl 0 rfl) ?_
        refine lv_iload_n hx hb dX2_canKeep_28 rfl (lv_at hl 2 rfl) ?_
        refine lv_iconst (v := 1) hx hb dX2_canKeep_29 (by decide) ?_
        refine gx_dVv (I1 := ((s_kn I a b nn r).1)) (J1 := (gU J 4 6 1)) (a1 := (s_aim ((s_kn I a b nn r).2.1) (nI r) 1 5)) (b1 := ((s_kn I a b nn r).2.2)) (As := [.int (nI r), .int 1]) (rest := []) ⟨hx, hb, hml, hown, hts⟩ G 2 (kX2_aimAt l D ad cy ((s_kn I a b nn r).1) (gU J 4 6 1) ((s_kn I a b nn r).2.1) ((s_kn I a b nn r).2.2) H.size (nI r) 1) (cwV 2 hts gX2_canKeep_X2_aimAt rfl rfl rfl (by decide +kernel) ⟨Nat.le_of_ble_eq_true rfl, Nat.le_of_ble_eq_true rfl⟩) (by decide) rfl rfl rfl rfl hl.1 rfl (Nat.le_of_ble_eq_true rfl) ⟨Nat.zero_le _, Nat.zero_le _⟩ dX2_canKeep_30 (fun H locs G => ?_)
        refine lv_aload_n hx hb dX2_canKeep_33 rfl (lv_at hl 0 rfl) ?_
        refine gx_get hx hb hts hinX2 hown G 2 (by decide) rfl rfl 1 (by decide) rfl lk12 rfl (v := .ref (ad 4)) rfl dX2_canKeep_34 ?_
        refine lv_aload_n hx hb dX2_canKeep_37 rfl (lv_at hl 0 rfl) ?_
        refine gx_get hx hb hts hinX2 hown G 2 (by decide) rfl rfl 2 (by decide) rfl lk18 rfl (v := .ref (ad 19)) rfl dX2_canKeep_38 ?_
        refine lv_iconst (v := 1) hx hb dX2_canKeep_41 (by decide) ?_
        refine lv_aload_n hx hb dX2_canKeep_42 rfl (lv_at hl 0 rfl) ?_
        refine gx_get hx hb hts hinX2 hown G 2 (by decide) rfl rfl 0 (by decide) rfl lk30 rfl (v := .ref (ad 1)) rfl dX2_canKeep_43 ?_
        refine gx_get hx hb hts hinX1 hown G 1 (by decide) rfl rfl 1 (by decide) rfl lk130 rfl (v := .ref (ad 7)) rfl dX2_canKeep_46 ?_
        refine lv_iload_n hx hb dX2_canKeep_49 rfl (lv_at hl 2 rfl) ?_
        refine gx_iald hx hb G 7 (by decide) (rfl) (by decide) r rfl (by omega) dX2_canKeep_50 ?_
        refine lv_aload_n hx hb dX2_canKeep_51 rfl (lv_at hl 0 rfl) ?_
        refine gx_get hx hb hts hinX2 hown G 2 (by decide) rfl rfl 0 (by decide) rfl lk30 rfl (v := .ref (ad 1)) rfl dX2_canKeep_52 ?_
        refine gx_get hx hb hts hinX1 hown G 1 (by decide) rfl rfl 0 (by decide) rfl lk116 rfl (v := .ref (ad 6)) rfl dX2_canKeep_55 ?_
        refine lv_iload_n hx hb dX2_canKeep_58 rfl (lv_at hl 2 rfl) ?_
        refine gx_iald hx hb G 6 (by decide) (rfl) (by decide) r rfl (by omega) dX2_canKeep_59 ?_
        refine lv_isub hx hb dX2_canKeep_60 ?_
        refine gx_dVv (I1 := (gU ((s_kn I a b nn r).1) 4 7 (((s_kn I a b nn r).1) 4 7 + 1))) (J1 := (gU J 4 6 1)) (a1 := (gU (s_aim ((s_kn I a b nn r).2.1) (nI r) 1 5) 15 r (((s_kn I a b nn r).1) 4 8 + ((s_kn I a b nn r).1) 4 7))) (b1 := (d_addB (s_aim ((s_kn I a b nn r).2.1) (nI r) 1 5) ((s_kn I a b nn r).2.2) 19 r nn 1 ((s_aim ((s_kn I a b nn r).2.1) (nI r) 1 5) 7 r - (s_aim ((s_kn I a b nn r).2.1) (nI r) 1 5) 6 r))) (As := [.ref (ad 19), .int 1, .int (((s_aim ((s_kn I a b nn r).2.1) (nI r) 1 5) 7 r) - ((s_aim ((s_kn I a b nn r).2.1) (nI r) 1 5) 6 r))]) (rest := []) ⟨hx, hb, hml, hown, hts⟩ G 4 (kX0_addAtMost l D ad cy ((s_kn I a b nn r).1) (gU J 4 6 1) (s_aim ((s_kn I a b nn r).2.1) (nI r) 1 5) ((s_kn I a b nn r).2.2) H.size r nn 19 1 ((s_aim ((s_kn I a b nn r).2.1) (nI r) 1 5) 7 r - (s_aim ((s_kn I a b nn r).2.1) (nI r) 1 5) 6 r) g1 (by omega) g2 hnn2 (by decide) rfl) (cwV 3 hts gX2_canKeep_X0_addAtMost rfl rfl rfl (by decide +kernel) ⟨Nat.le_of_ble_eq_true rfl, Nat.le_of_ble_eq_true rfl⟩) (by decide) rfl rfl rfl rfl hl.1 rfl (Nat.le_of_ble_eq_true rfl) ⟨Nat.zero_le _, Nat.zero_le _⟩ dX2_canKeep_61 (fun H locs G => ?_)
        refine lv_iinc (v := (nI (r + 1))) (lv' := [(2, .int (nI (r + 1))), (0, .ref (ad 2)), (1, .int set)]) hx hb dX2_canKeep_64 hl (k := 2) rfl (gn_add (X := r) (Y := 1) rfl rfl) (by decide) rfl (fun ls hl => ?_)
        refine lv_goto (tgt := 16) hx hb dX2_canKeep_67 (by decide) ?_
        exact ih16  (r + 1) _ _ _ (by omega) (by omega) (gg_eq G (rfl) rfl (rfl) (rfl)) (lv_sub hl [1, 2, 0] rfl)
  exact K16 (nn - 0 + 1) 0 _ _ _ (by omega) (Nat.lt_succ_self _) (gg_eq G (rfl) rfl (rfl) (rfl)) (lv_sub hl [1, 2, 0] rfl)

set_option maxHeartbeats 4000000 in
set_option maxRecDepth 100000 in
theorem kX2_hasPoint (l : Launch) (D : va_G) (ad : Nat → Nat) (cy : Nat → ClassId) (I : gF) (J : gL) (a : gF) (b : gL) (sz : Nat) (nn nr : Nat) (hnn : I 1 7 = nI nn) (hnn2 : nn ≤ 5) (hnr : I 1 8 = nI nr) (hnr2 : nr ≤ 8) (h01 : I 2 6 = 0 ∨ I 2 6 = 1) : gMi l yX2_hasPoint wsX2_hasPoint ({ frames := 4, cells := 0, slots := 0, locals := 112 }) D ad cy I J a b sz [.ref (ad 2)] (fun r u => r = s_hp I J a b nn nr ∧ u = (s_hpI I J a b nn nr, s_hpJ I J a b nn nr, s_hpA I J a b nn nr, s_hpB I J a b nn nr)) := by
  refine Met.ofW (cc := cX2_hasPoint) (maxL := 1) (ret := some .boolean) (by decide) rfl ?_
  intro p e s m args below meth c s₁ B hml hv
  obtain ⟨hargs, hsz, G⟩ := gx_begin hv
  subst hsz
  have hx := B.exec
  have hb := B.bytes
  have hr := B.returns
  have hts := atoms_spec (ws := wsX2_hasPoint) B.pre
  have hown : s.vm.findClass RX2 = some m.cls := findClass_of_methodNamed B.named
  have hlocks := B.notSynchronized
  have hinX2 : ∀ w ∈ wsX20, w ∈ wsX2_hasPoint := by decide +kernel
  have lk34 := hts (.fieldLink RX2 34 "ExactSimplex$Solver" "pointSought" "Z") (by decide +kernel)
  have lk52 := hts (.fieldLink RX2 52 "ExactSimplex$Solver" "pointThere" "Z") (by decide +kernel)
  have hl := lv_entry ([.ref (ad 2)]) (n := 1) (Nat.le_of_ble_eq_true rfl)
  have hent := lg_entry_eq m ([.ref (ad 2)]) 1
  rw [← hargs] at hent
  rw [hent]
  clear hent
  generalize (lg_sl ([.ref (ad 2)]) ++ List.replicate (1 - (lg_sl ([.ref (ad 2)])).length) Slot.unset).toArray = ls at hl ⊢
  have hl : lv_has ls 1 [(0, .ref (ad 2))] := hl
  generalize hA : gA ad s.heap.size = A at G ⊢
  generalize hH : s.heap = H at G ⊢
  refine gx_q (fun Q hQ => ?_)
  refine lv_aload_n hx hb dX2_hasPoint_0 rfl (lv_at hl 0 rfl) ?_
  refine gx_get hx hb hts hinX2 hown G 2 (by decide) rfl rfl 5 (by decide) rfl lk34 rfl (v := .int (I 2 5)) rfl dX2_hasPoint_1 ?_
  refine lv_if_ne (tgt := 24) hx hb dX2_hasPoint_4 (by decide) (fun c4 => ?_) (fun c4 => ?_)
  · skip
    refine lv_aload_n hx hb dX2_hasPoint_24 rfl (lv_at hl 0 rfl) ?_
    refine gx_get hx hb hts hinX2 hown G 2 (by decide) rfl rfl 6 (by decide) rfl lk52 rfl (v := .int (I 2 6)) rfl dX2_hasPoint_25 ?_
    exact gx_zr hx hb hr hlocks G hQ (by first | exact z01 h01 | exact z01 (d_find_01 _ _ _ _)) ⟨by simp only [s_hp, c4, reduceIte], by simp only [s_hpI, s_hpJ, s_hpA, s_hpB, c4, reduceIte]⟩ dX2_hasPoint_28
  · skip
    refine lv_aload_n hx hb dX2_hasPoint_7 rfl (lv_at hl 0 rfl) ?_
    refine lv_aload_n hx hb dX2_hasPoint_8 rfl (lv_at hl 0 rfl) ?_
    refine lv_aload_n hx hb dX2_hasPoint_9 rfl (lv_at hl 0 rfl) ?_
    refine gx_dVi (v := (s_all a nr)) (I1 := I) (J1 := J) (a1 := a) (b1 := b) (As := []) (rest := [.ref (ad 2), .ref (ad 2)]) ⟨hx, hb, hml, hown, hts⟩ G 2 (kX2_allRows l D ad cy I J a b H.size nr hnr hnr2) (cwV 0 hts gX2_hasPoint_X2_allRows rfl rfl rfl (by decide +kernel) ⟨Nat.le_of_ble_eq_true rfl, Nat.le_of_ble_eq_true rfl⟩) (by decide) rfl rfl rfl rfl hl.1 rfl (Nat.le_of_ble_eq_true rfl) ⟨Nat.zero_le _, Nat.zero_le _⟩ dX2_hasPoint_10 (fun H locs G => ?_)
    refine gx_dVi (v := ((s_kf I J a b nn nr (s_all a nr)).1)) (I1 := (s_kI I a b nn nr (s_all a nr))) (J1 := ((s_kf I J a b nn nr (s_all a nr)).2.1)) (a1 := ((s_kf I J a b nn nr (s_all a nr)).2.2.1)) (b1 := ((s_kf I J a b nn nr (s_all a nr)).2.2.2)) (As := [.int (s_all a nr)]) (rest := [.ref (ad 2)]) ⟨hx, hb, hml, hown, hts⟩ G 2 (kX2_canKeep l D ad cy I J a b H.size nn nr (s_all a nr) hnn hnn2 hnr hnr2) (cwV 1 hts gX2_hasPoint_X2_canKeep rfl rfl rfl (by decide +kernel) ⟨Nat.le_of_ble_eq_true rfl, Nat.le_of_ble_eq_true rfl⟩) (by decide) rfl rfl rfl rfl hl.1 rfl (Nat.le_of_ble_eq_true rfl) ⟨Nat.zero_le _, Nat.zero_le _⟩ dX2_hasPoint_13 (fun H locs G => ?_)
    refine gx_putI hx hb hts hinX2 tyX2 tyX2_ok nmX2 hown G 2 (by decide) rfl rfl 6 (by decide) rfl lk52 rfl rfl (tyX2_ok 6 (by decide)) (z01 (d_find_01 _ _ _ _)) (z01f (d_find_01 _ _ _ _)) dX2_hasPoint_16 (fun H locs G => ?_)
    refine lv_aload_n hx hb dX2_hasPoint_19 rfl (lv_at hl 0 rfl) ?_
    refine lv_iconst (v := 1) hx hb dX2_hasPoint_20 (by decide) ?_
    refine gx_putI hx hb hts hinX2 tyX2 tyX2_ok nmX2 hown G 2 (by decide) rfl rfl 5 (by decide) rfl lk34 rfl rfl (tyX2_ok 5 (by decide)) (rfl) (rfl) dX2_hasPoint_21 (fun H locs G => ?_)
    refine lv_aload_n hx hb dX2_hasPoint_24 rfl (lv_at hl 0 rfl) ?_
    refine gx_get hx hb hts hinX2 hown G 2 (by decide) rfl rfl 6 (by decide) rfl lk52 rfl (v := .int ((s_kf I J a b nn nr (s_all a nr)).1)) rfl dX2_hasPoint_25 ?_
    exact gx_zr hx hb hr hlocks G hQ (by first | exact z01 h01 | exact z01 (d_find_01 _ _ _ _)) ⟨by simp only [s_hp, c4, reduceIte], by simp only [s_hpI, s_hpJ, s_hpA, s_hpB, c4, reduceIte]⟩ dX2_hasPoint_28
