/-! Solver: the best, the ends, the barred -/
theorem gx_m1 (x : Int32) : x + -1 = x - 1 := by rw [Int32.sub_eq_add_neg]
theorem d_freeze_k (a : gF) (b : gL) {c : Nat} (h : c ≠ 17) : ∀ n, d_freeze a b n c = a c
  | 0 => rfl
  | n + 1 => by
    unfold d_freeze
    split
    · exact d_freeze_k a b h n
    · rw [gU_k h]
      exact d_freeze_k a b h n
theorem d_thaw_k (a : gF) {c : Nat} (h : c ≠ 17) : ∀ n, d_thaw a n c = a c
  | 0 => rfl
  | n + 1 => by
    unfold d_thaw
    rw [gU_k h]
    exact d_thaw_k a h n
theorem nI_clamp_le (j : Nat) : (nI j).toNatClampNeg ≤ j := by
  have h : (nI j).toInt = (j : Int).bmod (2 ^ 32) := Int32.toInt_ofNat
  have h2 : (nI j).toNatClampNeg = (nI j).toInt.toNat := rfl
  rw [h2, h]
  simp only [Int.bmod]
  split <;> omega
theorem d_min_nat (I : gF) (kg nl nc : Nat) : ∀ n (x : gL × gF × gL), d_nat (x.2.1 15) nl → d_nat (x.2.1 16) nc → d_nat ((d_min I kg nl nc n x).2.1 15) nl ∧ d_nat ((d_min I kg nl nc n x).2.1 16) nc
  | 0, x, h1, h2 => ⟨h1, h2⟩
  | n + 1, x, h1, h2 => by
    unfold d_min
    split
    · rename_i c1
      split
      · rename_i c2
        obtain ⟨js, hjs, ejs⟩ := (d_fall_ix x.2.1 (d_slopes I x.1 x.2.1 x.2.2 kg nl nc) nc).resolve_left (gx_notneg c1)
        obtain ⟨jr, hjr, ejr⟩ := (d_stop_ix x.2.1 (d_slopes I x.1 x.2.1 x.2.2 kg nl nc) (d_fall x.2.1 (d_slopes I x.1 x.2.1 x.2.2 kg nl nc) nc).toNatClampNeg nl).resolve_left (gx_notneg c2)
        by_cases hb : nc < 2 ^ 31 ∧ nl < 2 ^ 31
        · apply d_min_nat
          · refine d_pA_15 ?_ h1 h2
            rw [gx_clamp ejs (by omega)]
            exact hjs
          · refine d_pA_16 ?_ h1 h2
            rw [gx_clamp ejr (by omega)]
            exact hjr
        · apply d_min_nat
          · refine d_pA_15 ?_ h1 h2
            rw [ejs]
            exact Nat.lt_of_le_of_lt (nI_clamp_le js) hjs
          · refine d_pA_16 ?_ h1 h2
            rw [ejr]
            exact Nat.lt_of_le_of_lt (nI_clamp_le jr) hjr
      · exact ⟨h1, h2⟩
    · exact ⟨h1, h2⟩
def s_k2b (I : gF) (J : gL) (a : gF) (b : gL) (nl nc : Nat) : gL × gF × gL := ((d_min I 8 nl nc mPV (J, a, b)).1, d_freeze (d_min I 8 nl nc mPV (J, a, b)).2.1 (d_min I 8 nl nc mPV (J, a, b)).2.2 nc, (d_min I 8 nl nc mPV (J, a, b)).2.2)
theorem s_k2b_nat (I : gF) (J : gL) (a : gF) (b : gL) (nl nc : Nat) (h1 : d_nat (a 15) nl) (h2 : d_nat (a 16) nc) : d_nat ((s_k2b I J a b nl nc).2.1 15) nl ∧ d_nat ((s_k2b I J a b nl nc).2.1 16) nc := by
  unfold s_k2b
  simp only [d_freeze_k _ _ (show 15 ≠ 17 by decide), d_freeze_k _ _ (show 16 ≠ 17 by decide)]
  exact d_min_nat I 8 nl nc mPV (J, a, b) h1 h2
def s_w (sd : Int32) : Int32 := if sd = 0 then 1 else -1
def s_endX (I : gF) (J : gL) (a : gF) (b : gL) (nl nc n0 : Nat) (w : Int32) : gL × gF × gL := d_min I 19 nl nc mPV (J, s_aim a (nI n0) w 5, b)
def s_end (I : gF) (J : gL) (a : gF) (b : gL) (nl nc n0 : Nat) (w pt : Int32) : Int64 := s_part (((s_endX I J a b nl nc n0 w).2.1 6 n0).toInt64 * (s_endX I J a b nl nc n0 w).1 4 6 + d_num (s_endX I J a b nl nc n0 w).2.1 (s_endX I J a b nl nc n0 w).2.2 (nI n0) nl 0) ((s_endX I J a b nl nc n0 w).1 4 6) pt
/-- the first best: the names one by one -/
def s_fb (I : gF) (J : gL) (a : gF) (b : gL) (nl nc : Nat) : Nat → gL × gF × gL
  | 0 => s_k2b I J (d_thaw a nc) b nl nc
  | n + 1 => ((s_endX I (s_fb I J a b nl nc n).1 (s_fb I J a b nl nc n).2.1 (s_fb I J a b nl nc n).2.2 nl nc n 1).1, d_freeze (s_endX I (s_fb I J a b nl nc n).1 (s_fb I J a b nl nc n).2.1 (s_fb I J a b nl nc n).2.2 nl nc n 1).2.1 (s_endX I (s_fb I J a b nl nc n).1 (s_fb I J a b nl nc n).2.1 (s_fb I J a b nl nc n).2.2 nl nc n 1).2.2 nc, (s_endX I (s_fb I J a b nl nc n).1 (s_fb I J a b nl nc n).2.1 (s_fb I J a b nl nc n).2.2 nl nc n 1).2.2)
theorem s_fb_s (I : gF) (J : gL) (a : gF) (b : gL) (nl nc n : Nat) : s_fb I J a b nl nc (n + 1) = ((d_min I 19 nl nc mPV ((s_fb I J a b nl nc n).1, s_aim (s_fb I J a b nl nc n).2.1 (nI n) 1 5, (s_fb I J a b nl nc n).2.2)).1, d_freeze (d_min I 19 nl nc mPV ((s_fb I J a b nl nc n).1, s_aim (s_fb I J a b nl nc n).2.1 (nI n) 1 5, (s_fb I J a b nl nc n).2.2)).2.1 (d_min I 19 nl nc mPV ((s_fb I J a b nl nc n).1, s_aim (s_fb I J a b nl nc n).2.1 (nI n) 1 5, (s_fb I J a b nl nc n).2.2)).2.2 nc, (d_min I 19 nl nc mPV ((s_fb I J a b nl nc n).1, s_aim (s_fb I J a b nl nc n).2.1 (nI n) 1 5, (s_fb I J a b nl nc n).2.2)).2.2) := by
  simp only [s_fb, s_endX]
theorem s_endX_nat (I : gF) (J : gL) (a : gF) (b : gL) (nl nc n0 : Nat) (w : Int32) (h1 : d_nat (a 15) nl) (h2 : d_nat (a 16) nc) : d_nat ((s_endX I J a b nl nc n0 w).2.1 15) nl ∧ d_nat ((s_endX I J a b nl nc n0 w).2.1 16) nc :=
  d_min_nat I 19 nl nc mPV _ (by show d_nat (s_aim a (nI n0) w 5 15) nl; rw [s_aim_k _ _ _ (by decide)]; exact h1) (by show d_nat (s_aim a (nI n0) w 5 16) nc; rw [s_aim_k _ _ _ (by decide)]; exact h2)
theorem s_fb_nat (I : gF) (J : gL) (a : gF) (b : gL) (nl nc : Nat) (h1 : d_nat (a 15) nl) (h2 : d_nat (a 16) nc) : ∀ n, d_nat ((s_fb I J a b nl nc n).2.1 15) nl ∧ d_nat ((s_fb I J a b nl nc n).2.1 16) nc
  | 0 => s_k2b_nat I J (d_thaw a nc) b nl nc (by rw [d_thaw_k _ (by decide)]; exact h1) (by rw [d_thaw_k _ (by decide)]; exact h2)
  | n + 1 => by
    obtain ⟨g1, g2⟩ := s_fb_nat I J a b nl nc h1 h2 n
    unfold s_fb
    simp only [d_freeze_k _ _ (show 15 ≠ 17 by decide), d_freeze_k _ _ (show 16 ≠ 17 by decide)]
    exact s_endX_nat I _ _ _ nl nc n 1 g1 g2
def s_fbB (J : gL) (a : gF) (b : gL) (nl : Nat) : Nat → gL
  | 0 => b
  | n + 1 => gU (s_fbB J a b nl n) 20 n ((a 6 n).toInt64 * J 4 6 + d_num a (s_fbB J a b nl n) (nI n) nl 0)
def s_ffI (I : gF) : gF := if I 2 7 = 0 then gU I 2 7 1 else I
def s_ffJ (I : gF) (J : gL) (a : gF) (b : gL) (nn nl nc : Nat) : gL := if I 2 7 = 0 then gU (s_fb I J a b nl nc nn).1 2 4 ((s_fb I J a b nl nc nn).1 4 6) else J
def s_ffA (I : gF) (J : gL) (a : gF) (b : gL) (nn nl nc : Nat) : gF := if I 2 7 = 0 then (s_fb I J a b nl nc nn).2.1 else a
def s_ffB (I : gF) (J : gL) (a : gF) (b : gL) (nn nl nc : Nat) : gL := if I 2 7 = 0 then s_fbB (s_fb I J a b nl nc nn).1 (s_fb I J a b nl nc nn).2.1 (s_fb I J a b nl nc nn).2.2 nl nn else b
theorem s_ffI_k {I : gF} {k j : Nat} (h : k ≠ 2 ∨ j ≠ 7) : s_ffI I k j = I k j := by
  unfold s_ffI
  split
  · exact gU_n h
  · rfl
def s_sum (a : gF) (b : gL) : Nat → Int64
  | 0 => 0
  | n + 1 => s_sum a b n + (a 8 n).toInt64 * b 20 n
def s_tsum (a : gF) (b : gL) (r0 : Nat) : Nat → Int64
  | 0 => 0
  | n + 1 => s_tsum a b r0 n + (a (40 + r0) n).toInt64 * b 20 n
def s_wo (set : Int32) (k : Nat) : Int32 := set &&& (((1 : Int32) <<< (nI k &&& 31)) ^^^ -1)
abbrev s_X : Type := Int32 × gF × gL × gF × gL
/-- canKeep over a state -/
def s_ck (nn nr : Nat) (set : Int32) (x : s_X) : Int32 := (s_kf x.2.1 x.2.2.1 x.2.2.2.1 x.2.2.2.2 nn nr set).1
def s_cx (nn nr : Nat) (set s2 : Int32) (x : s_X) : s_X := (s2, s_kI x.2.1 x.2.2.2.1 x.2.2.2.2 nn nr set, (s_kf x.2.1 x.2.2.1 x.2.2.2.1 x.2.2.2.2 nn nr set).2.1, (s_kf x.2.1 x.2.2.1 x.2.2.2.1 x.2.2.2.2 nn nr set).2.2.1, (s_kf x.2.1 x.2.2.1 x.2.2.2.1 x.2.2.2.2 nn nr set).2.2.2)
def s_bar (nn nr : Nat) : Nat → s_X → s_X
  | 0, x => x
  | k + 1, x => if s_wo x.1 k = x.1 then s_bar nn nr k x else if s_ck nn nr (s_wo x.1 k) x = 0 then s_bar nn nr k (s_cx nn nr (s_wo x.1 k) (s_wo x.1 k) x) else s_bar nn nr k (s_cx nn nr (s_wo x.1 k) x.1 x)
def s_fbar (I : gF) (J : gL) (a : gF) (b : gL) (nn nr : Nat) : s_X := s_bar nn nr nr (s_all a nr, I, J, a, b)
def s_brI (I : gF) (J : gL) (a : gF) (b : gL) (nn nr : Nat) : gF := if I 2 8 = 0 then gU (gU (s_fbar I J a b nn nr).2.1 2 9 (s_fbar I J a b nn nr).1) 2 8 1 else I
def s_brJ (I : gF) (J : gL) (a : gF) (b : gL) (nn nr : Nat) : gL := if I 2 8 = 0 then (s_fbar I J a b nn nr).2.2.1 else J
def s_brA (I : gF) (J : gL) (a : gF) (b : gL) (nn nr : Nat) : gF := if I 2 8 = 0 then (s_fbar I J a b nn nr).2.2.2.1 else a
def s_brB (I : gF) (J : gL) (a : gF) (b : gL) (nn nr : Nat) : gL := if I 2 8 = 0 then (s_fbar I J a b nn nr).2.2.2.2 else b
theorem s_kI_k {I a : gF} {b : gL} {nn nr k j : Nat} {set : Int32} (h : k ≠ 4) : s_kI I a b nn nr set k j = I k j := (s_kr_I I a b nn set nr).2.2.1 k j h
theorem s_bar_I (nn nr : Nat) {c j : Nat} (h : c ≠ 4) : ∀ k x, (s_bar nn nr k x).2.1 c j = x.2.1 c j
  | 0, x => rfl
  | k + 1, x => by
    unfold s_bar
    split
    · exact s_bar_I nn nr h k x
    · split
      · exact (s_bar_I nn nr h k _).trans (s_kI_k h)
      · exact (s_bar_I nn nr h k _).trans (s_kI_k h)
theorem s_brI_k {I : gF} {J : gL} {a : gF} {b : gL} {nn nr c j : Nat} (h4 : c ≠ 4) (h2 : c ≠ 2) : s_brI I J a b nn nr c j = I c j := by
  unfold s_brI
  split
  · exact (gU_n (Or.inl h2)).trans ((gU_n (Or.inl h2)).trans (s_bar_I nn nr h4 nr _))
  · rfl
def s_brow (set k : Int32) : Nat → Nat → Int32 → Int32
  | 0, _, _ => -1
  | n + 1, r, pl => if set &&& ((1 : Int32) <<< (nI r &&& 31)) = 0 then s_brow set k n (r + 1) pl else if pl = k then nI r else s_brow set k n (r + 1) (pl + 1)
theorem s_brow_s (set k : Int32) {n r : Nat} (h : r < n) (pl : Int32) : s_brow set k (n - r) r pl = if set &&& ((1 : Int32) <<< (nI r &&& 31)) = 0 then s_brow set k (n - (r + 1)) (r + 1) pl else if pl = k then nI r else s_brow set k (n - (r + 1)) (r + 1) (pl + 1) := by
  rw [show n - r = (n - (r + 1)) + 1 by omega]
  rfl

def s_ebX (I : gF) (J : gL) (a : gF) (b : gL) (nl nc n0 : Nat) (sd : Int32) : gL × gF × gL := s_endX I (s_k2b I J (d_thaw a nc) b nl nc).1 (s_k2b I J (d_thaw a nc) b nl nc).2.1 (s_k2b I J (d_thaw a nc) b nl nc).2.2 nl nc n0 (s_w sd)
def s_eb (I : gF) (J : gL) (a : gF) (b : gL) (nl nc n0 : Nat) (sd pt : Int32) : Int64 := s_end I (s_k2b I J (d_thaw a nc) b nl nc).1 (s_k2b I J (d_thaw a nc) b nl nc).2.1 (s_k2b I J (d_thaw a nc) b nl nc).2.2 nl nc n0 (s_w sd) pt

set_option maxHeartbeats 4000000 in
set_option maxRecDepth 100000 in
theorem kX2_keepToBest (l : Launch) (D : va_G) (ad : Nat → Nat) (cy : Nat → ClassId) (I : gF) (J : gL) (a : gF) (b : gL) (sz : Nat) (nl nc : Nat) (hnl : I 4 7 = nI nl) (hnl2 : nl ≤ 21) (hnc : I 4 8 = nI nc) (hnc2 : nc ≤ 5) (hbas : d_nat (a 15) nl) (hout : d_nat (a 16) nc) : gMv l yX2_keepToBest wsX2_keepToBest ({ frames := 3, cells := 0, slots := 0, locals := 91 }) D ad cy I J a b sz [.ref (ad 2)] (fun u => u = (I, (s_k2b I J a b nl nc).1, (s_k2b I J a b nl nc).2.1, (s_k2b I J a b nl nc).2.2)) := by
  refine Met.ofW (cc := cX2_keepToBest) (maxL := 1) (ret := none) (by decide) rfl ?_
  intro p e s m args below meth c s₁ B hml hv
  obtain ⟨hargs, hsz, G⟩ := gx_begin hv
  subst hsz
  have hx := B.exec
  have hb := B.bytes
  have hr := B.returns
  have hts := atoms_spec (ws := wsX2_keepToBest) B.pre
  have hown : s.vm.findClass RX2 = some m.cls := findClass_of_methodNamed B.named
  have hlocks := B.notSynchronized
  have hinX1 : ∀ w ∈ wsX10, w ∈ wsX2_keepToBest := by decide +kernel
  have hinX2 : ∀ w ∈ wsX20, w ∈ wsX2_keepToBest := by decide +kernel
  have lk12 := hts (.fieldLink RX2 12 "ExactSimplex$Solver" "dictionary" "LExactSimplex$Dictionary;") (by decide +kernel)
  have lk30 := hts (.fieldLink RX2 30 "ExactSimplex$Solver" "problem" "LExactSimplex$Problem;") (by decide +kernel)
  have lk64 := hts (.fieldLink RX2 64 "ExactSimplex$Problem" "costs" "[I") (by decide +kernel)
  have hl := lv_entry ([.ref (ad 2)]) (n := 1) (Nat.le_of_ble_eq_true rfl)
  have hent := lg_entry_eq m ([.ref (ad 2)]) 1
  rw [← hargs] at hent
  rw [hent]
  clear hent
  generalize (lg_sl ([.ref (ad 2)]) ++ List.replicate (1 - (lg_sl ([.ref (ad 2)])).length) Slot.unset).toArray = ls at hl ⊢
  have hl : lv_has ls 1 [(0, .ref (ad 2))] := hl
  generalize hA : gA ad s.heap.size = A at G ⊢
  generalize hH : s.heap = H at G ⊢
  refine gx_q (fun Q hQ => ?_)
  refine lv_aload_n hx hb dX2_keepToBest_0 rfl (lv_at hl 0 rfl) ?_
  refine gx_get hx hb hts hinX2 hown G 2 (by decide) rfl rfl 1 (by decide) rfl lk12 rfl (v := .ref (ad 4)) rfl dX2_keepToBest_1 ?_
  refine lv_aload_n hx hb dX2_keepToBest_4 rfl (lv_at hl 0 rfl) ?_
  refine gx_get hx hb hts hinX2 hown G 2 (by decide) rfl rfl 0 (by decide) rfl lk30 rfl (v := .ref (ad 1)) rfl dX2_keepToBest_5 ?_
  refine gx_get hx hb hts hinX1 hown G 1 (by decide) rfl rfl 2 (by decide) rfl lk64 rfl (v := .ref (ad 8)) rfl dX2_keepToBest_8 ?_
  refine gx_dVv (I1 := I) (J1 := ((d_min I 8 nl nc mPV (J, a, b)).1)) (a1 := ((d_min I 8 nl nc mPV (J, a, b)).2.1)) (b1 := ((d_min I 8 nl nc mPV (J, a, b)).2.2)) (As := [.ref (ad 8)]) (rest := []) ⟨hx, hb, hml, hown, hts⟩ G 4 (kX0_minimise l D ad cy I J a b H.size nl nc 8 hnl hnl2 hnc hnc2 (by decide) rfl (by decide) (by decide) hbas hout) (cwV 1 hts gX2_keepToBest_X0_minimise rfl rfl rfl (by decide +kernel) ⟨Nat.le_of_ble_eq_true rfl, Nat.le_of_ble_eq_true rfl⟩) (by decide) rfl rfl rfl rfl hl.1 rfl (Nat.le_of_ble_eq_true rfl) ⟨Nat.zero_le _, Nat.zero_le _⟩ dX2_keepToBest_11 (fun H locs G => ?_)
  refine lv_aload_n hx hb dX2_keepToBest_14 rfl (lv_at hl 0 rfl) ?_
  refine gx_get hx hb hts hinX2 hown G 2 (by decide) rfl rfl 1 (by decide) rfl lk12 rfl (v := .ref (ad 4)) rfl dX2_keepToBest_15 ?_
  refine gx_dVv (I1 := I) (J1 := ((d_min I 8 nl nc mPV (J, a, b)).1)) (a1 := (d_freeze ((d_min I 8 nl nc mPV (J, a, b)).2.1) ((d_min I 8 nl nc mPV (J, a, b)).2.2) nc)) (b1 := ((d_min I 8 nl nc mPV (J, a, b)).2.2)) (As := []) (rest := []) ⟨hx, hb, hml, hown, hts⟩ G 4 (kX0_freezeDear l D ad cy I ((d_min I 8 nl nc mPV (J, a, b)).1) ((d_min I 8 nl nc mPV (J, a, b)).2.1) ((d_min I 8 nl nc mPV (J, a, b)).2.2) H.size nc hnc hnc2) (cwV 0 hts gX2_keepToBest_X0_freezeDear rfl rfl rfl (by decide +kernel) ⟨Nat.le_of_ble_eq_true rfl, Nat.le_of_ble_eq_true rfl⟩) (by decide) rfl rfl rfl rfl hl.1 rfl (Nat.le_of_ble_eq_true rfl) ⟨Nat.zero_le _, Nat.zero_le _⟩ dX2_keepToBest_18 (fun H locs G => ?_)
  exact gx_vr hx hb hr hlocks G hQ (by first | rfl | (simp only [reduceIte]; done) | (simp [reduceIte]; done)) dX2_keepToBest_21

set_option maxHeartbeats 4000000 in
set_option maxRecDepth 100000 in
theorem kX2_endFromHere (l : Launch) (D : va_G) (ad : Nat → Nat) (cy : Nat → ClassId) (I : gF) (J : gL) (a : gF) (b : gL) (sz : Nat) (nl nc n0 : Nat) (sd pt : Int32) (hnl : I 4 7 = nI nl) (hnl2 : nl ≤ 21) (hnc : I 4 8 = nI nc) (hnc2 : nc ≤ 5) (hbas : d_nat (a 15) nl) (hout : d_nat (a 16) nc) (hn0 : n0 < 5) : gMl l yX2_endFromHere wsX2_endFromHere ({ frames := 3, cells := 0, slots := 0, locals := 96 }) D ad cy I J a b sz [.ref (ad 2), .int (nI n0), .int sd, .int pt] (fun r u => r = s_end I J a b nl nc n0 (s_w sd) pt ∧ u = (I, (s_endX I J a b nl nc n0 (s_w sd)).1, (s_endX I J a b nl nc n0 (s_w sd)).2.1, (s_endX I J a b nl nc n0 (s_w sd)).2.2)) := by
  refine Met.ofW (cc := cX2_endFromHere) (maxL := 4) (ret := some .long) (by decide) rfl ?_
  intro p e s m args below meth c s₁ B hml hv
  obtain ⟨hargs, hsz, G⟩ := gx_begin hv
  subst hsz
  have hx := B.exec
  have hb := B.bytes
  have hr := B.returns
  have hts := atoms_spec (ws := wsX2_endFromHere) B.pre
  have hown : s.vm.findClass RX2 = some m.cls := findClass_of_methodNamed B.named
  have hlocks := B.notSynchronized
  have hinX2 : ∀ w ∈ wsX20, w ∈ wsX2_endFromHere := by decide +kernel
  have lk12 := hts (.fieldLink RX2 12 "ExactSimplex$Solver" "dictionary" "LExactSimplex$Dictionary;") (by decide +kernel)
  have lk18 := hts (.fieldLink RX2 18 "ExactSimplex$Solver" "goal" "[I") (by decide +kernel)
  have hl := lv_entry ([.ref (ad 2), .int (nI n0), .int sd, .int pt]) (n := 4) (Nat.le_of_ble_eq_true rfl)
  have hent := lg_entry_eq m ([.ref (ad 2), .int (nI n0), .int sd, .int pt]) 4
  rw [← hargs] at hent
  rw [hent]
  clear hent
  generalize (lg_sl ([.ref (ad 2), .int (nI n0), .int sd, .int pt]) ++ List.replicate (4 - (lg_sl ([.ref (ad 2), .int (nI n0), .int sd, .int pt])).length) Slot.unset).toArray = ls at hl ⊢
  have hl : lv_has ls 4 [(0, .ref (ad 2)), (1, .int (nI n0)), (2, .int sd), (3, .int pt)] := hl
  generalize hA : gA ad s.heap.size = A at G ⊢
  generalize hH : s.heap = H at G ⊢
  refine gx_q (fun Q hQ => ?_)
  refine lv_aload_n hx hb dX2_endFromHere_0 rfl (lv_at hl 0 rfl) ?_
  refine lv_iload_n hx hb dX2_endFromHere_1 rfl (lv_at hl 1 rfl) ?_
  refine lv_iload_n hx hb dX2_endFromHere_2 rfl (lv_at hl 2 rfl) ?_
  refine lv_if_ne (tgt := 10) hx hb dX2_endFromHere_3 (by decide) (fun c3 => ?_) (fun c3 => ?_)
  · skip
    refine lv_iconst (v := -1) hx hb dX2_endFromHere_10 (by decide) ?_
    refine gx_dVv (I1 := I) (J1 := J) (a1 := (s_aim a (nI n0) (-1) 5)) (b1 := b) (As := [.int (nI n0), .int (-1)]) (rest := []) ⟨hx, hb, hml, hown, hts⟩ G 2 (kX2_aimAt l D ad cy I J a b H.size (nI n0) (-1)) (cwV 2 hts gX2_endFromHere_X2_aimAt rfl rfl rfl (by decide +kernel) ⟨Nat.le_of_ble_eq_true rfl, Nat.le_of_ble_eq_true rfl⟩) (by decide) rfl rfl rfl rfl hl.1 rfl (Nat.le_of_ble_eq_true rfl) ⟨Nat.zero_le _, Nat.zero_le _⟩ dX2_endFromHere_11 (fun H locs G => ?_)
    refine lv_aload_n hx hb dX2_endFromHere_14 rfl (lv_at hl 0 rfl) ?_
    refine gx_get hx hb hts hinX2 hown G 2 (by decide) rfl rfl 1 (by decide) rfl lk12 rfl (v := .ref (ad 4)) rfl dX2_endFromHere_15 ?_
    refine lv_aload_n hx hb dX2_endFromHere_18 rfl (lv_at hl 0 rfl) ?_
    refine gx_get hx hb hts hinX2 hown G 2 (by decide) rfl rfl 2 (by decide) rfl lk18 rfl (v := .ref (ad 19)) rfl dX2_endFromHere_19 ?_
    refine gx_dVv (I1 := I) (J1 := ((d_min I 19 nl nc mPV (J, s_aim a (nI n0) (-1) 5, b)).1)) (a1 := ((d_min I 19 nl nc mPV (J, s_aim a (nI n0) (-1) 5, b)).2.1)) (b1 := ((d_min I 19 nl nc mPV (J, s_aim a (nI n0) (-1) 5, b)).2.2)) (As := [.ref (ad 19)]) (rest := []) ⟨hx, hb, hml, hown, hts⟩ G 4 (kX0_minimise l D ad cy I J (s_aim a (nI n0) (-1) 5) b H.size nl nc 19 hnl hnl2 hnc hnc2 (by decide) rfl (by decide) (by decide) (by rw [s_aim_k _ _ _ (by decide)]; exact hbas) (by rw [s_aim_k _ _ _ (by decide)]; exact hout)) (cwV 1 hts gX2_endFromHere_X0_minimise rfl rfl rfl (by decide +kernel) ⟨Nat.le_of_ble_eq_true rfl, Nat.le_of_ble_eq_true rfl⟩) (by decide) rfl rfl rfl rfl hl.1 rfl (Nat.le_of_ble_eq_true rfl) ⟨Nat.zero_le _, Nat.zero_le _⟩ dX2_endFromHere_22 (fun H locs G => ?_)
    refine lv_aload_n hx hb dX2_endFromHere_25 rfl (lv_at hl 0 rfl) ?_
    refine lv_iload_n hx hb dX2_endFromHere_26 rfl (lv_at hl 1 rfl) ?_
    refine gx_dVl (v := ((((d_min I 19 nl nc mPV (J, s_aim a (nI n0) (-1) 5, b)).2.1) 6 n0).toInt64 * ((d_min I 19 nl nc mPV (J, s_aim a (nI n0) (-1) 5, b)).1) 4 6 + d_num ((d_min I 19 nl nc mPV (J, s_aim a (nI n0) (-1) 5, b)).2.1) ((d_min I 19 nl nc mPV (J, s_aim a (nI n0) (-1) 5, b)).2.2) (nI n0) nl 0)) (I1 := I) (J1 := ((d_min I 19 nl nc mPV (J, s_aim a (nI n0) (-1) 5, b)).1)) (a1 := ((d_min I 19 nl nc mPV (J, s_aim a (nI n0) (-1) 5, b)).2.1)) (b1 := ((d_min I 19 nl nc mPV (J, s_aim a (nI n0) (-1) 5, b)).2.2)) (As := [.int (nI n0)]) (rest := []) ⟨hx, hb, hml, hown, hts⟩ G 2 (kX2_numeratorOf l D ad cy I ((d_min I 19 nl nc mPV (J, s_aim a (nI n0) (-1) 5, b)).1) ((d_min I 19 nl nc mPV (J, s_aim a (nI n0) (-1) 5, b)).2.1) ((d_min I 19 nl nc mPV (J, s_aim a (nI n0) (-1) 5, b)).2.2) H.size nl n0 hnl hnl2 hn0) (cwV 1 hts gX2_endFromHere_X2_numeratorOf rfl rfl rfl (by decide +kernel) ⟨Nat.le_of_ble_eq_true rfl, Nat.le_of_ble_eq_true rfl⟩) (by decide) rfl rfl rfl rfl hl.1 rfl (Nat.le_of_ble_eq_true rfl) ⟨Nat.zero_le _, Nat.zero_le _⟩ dX2_endFromHere_27 (fun H locs G => ?_)
    refine lv_aload_n hx hb dX2_endFromHere_30 rfl (lv_at hl 0 rfl) ?_
    refine gx_get hx hb hts hinX2 hown G 2 (by decide) rfl rfl 1 (by decide) rfl lk12 rfl (v := .ref (ad 4)) rfl dX2_endFromHere_31 ?_
    refine gx_dVl (v := (((d_min I 19 nl nc mPV (J, s_aim a (nI n0) (-1) 5, b)).1) 4 6)) (I1 := I) (J1 := ((d_min I 19 nl nc mPV (J, s_aim a (nI n0) (-1) 5, b)).1)) (a1 := ((d_min I 19 nl nc mPV (J, s_aim a (nI n0) (-1) 5, b)).2.1)) (b1 := ((d_min I 19 nl nc mPV (J, s_aim a (nI n0) (-1) 5, b)).2.2)) (As := []) (rest := [.long ((((d_min I 19 nl nc mPV (J, s_aim a (nI n0) (-1) 5, b)).2.1) 6 n0).toInt64 * ((d_min I 19 nl nc mPV (J, s_aim a (nI n0) (-1) 5, b)).1) 4 6 + d_num ((d_min I 19 nl nc mPV (J, s_aim a (nI n0) (-1) 5, b)).2.1) ((d_min I 19 nl nc mPV (J, s_aim a (nI n0) (-1) 5, b)).2.2) (nI n0) nl 0)]) ⟨hx, hb, hml, hown, hts⟩ G 4 (kX0_denominator l D ad cy I ((d_min I 19 nl nc mPV (J, s_aim a (nI n0) (-1) 5, b)).1) ((d_min I 19 nl nc mPV (J, s_aim a (nI n0) (-1) 5, b)).2.1) ((d_min I 19 nl nc mPV (J, s_aim a (nI n0) (-1) 5, b)).2.2) H.size ) (cwV 0 hts gX2_endFromHere_X0_denominator rfl rfl rfl (by decide +kernel) ⟨Nat.le_of_ble_eq_true rfl, Nat.le_of_ble_eq_true rfl⟩) (by decide) rfl rfl rfl rfl hl.1 rfl (Nat.le_of_ble_eq_true rfl) ⟨Nat.zero_le _, Nat.zero_le _⟩ dX2_endFromHere_34 (fun H locs G => ?_)
    refine lv_iload_n hx hb dX2_endFromHere_37 rfl (lv_at hl 3 rfl) ?_
    refine gx_dSl (v := (s_part ((((d_min I 19 nl nc mPV (J, s_aim a (nI n0) (-1) 5, b)).2.1) 6 n0).toInt64 * ((d_min I 19 nl nc mPV (J, s_aim a (nI n0) (-1) 5, b)).1) 4 6 + d_num ((d_min I 19 nl nc mPV (J, s_aim a (nI n0) (-1) 5, b)).2.1) ((d_min I 19 nl nc mPV (J, s_aim a (nI n0) (-1) 5, b)).2.2) (nI n0) nl 0) (((d_min I 19 nl nc mPV (J, s_aim a (nI n0) (-1) 5, b)).1) 4 6) pt)) (I1 := I) (J1 := ((d_min I 19 nl nc mPV (J, s_aim a (nI n0) (-1) 5, b)).1)) (a1 := ((d_min I 19 nl nc mPV (J, s_aim a (nI n0) (-1) 5, b)).2.1)) (b1 := ((d_min I 19 nl nc mPV (J, s_aim a (nI n0) (-1) 5, b)).2.2)) (As := [.long ((((d_min I 19 nl nc mPV (J, s_aim a (nI n0) (-1) 5, b)).2.1) 6 n0).toInt64 * ((d_min I 19 nl nc mPV (J, s_aim a (nI n0) (-1) 5, b)).1) 4 6 + d_num ((d_min I 19 nl nc mPV (J, s_aim a (nI n0) (-1) 5, b)).2.1) ((d_min I 19 nl nc mPV (J, s_aim a (nI n0) (-1) 5, b)).2.2) (nI n0) nl 0), .long (((d_min I 19 nl nc mPV (J, s_aim a (nI n0) (-1) 5, b)).1) 4 6), .int pt]) (rest := []) ⟨hx, hb, hml, hown, hts⟩ G (kX2_partOf l D ad cy I ((d_min I 19 nl nc mPV (J, s_aim a (nI n0) (-1) 5, b)).1) ((d_min I 19 nl nc mPV (J, s_aim a (nI n0) (-1) 5, b)).2.1) ((d_min I 19 nl nc mPV (J, s_aim a (nI n0) (-1) 5, b)).2.2) H.size ((((d_min I 19 nl nc mPV (J, s_aim a (nI n0) (-1) 5, b)).2.1) 6 n0).toInt64 * ((d_min I 19 nl nc mPV (J, s_aim a (nI n0) (-1) 5, b)).1) 4 6 + d_num ((d_min I 19 nl nc mPV (J, s_aim a (nI n0) (-1) 5, b)).2.1) ((d_min I 19 nl nc mPV (J, s_aim a (nI n0) (-1) 5, b)).2.2) (nI n0) nl 0) (((d_min I 19 nl nc mPV (J, s_aim a (nI n0) (-1) 5, b)).1) 4 6) pt) (va_cwS 3 hts gX2_endFromHere_X2_partOf rfl rfl rfl (by decide +kernel) ⟨Nat.le_of_ble_eq_true rfl, Nat.le_of_ble_eq_true rfl⟩) rfl hl.1 rfl (Nat.le_of_ble_eq_true rfl) ⟨Nat.zero_le _, Nat.zero_le _⟩ dX2_endFromHere_38 (fun H locs G => ?_)
    exact gx_lr hx hb hr hlocks G hQ ⟨by simp only [s_end, s_endX, s_w, c3, reduceIte], by simp only [s_endX, s_w, c3, reduceIte]⟩ dX2_endFromHere_41
  · skip
    refine lv_iconst (v := 1) hx hb dX2_endFromHere_6 (by decide) ?_
    refine lv_goto (tgt := 11) hx hb dX2_endFromHere_7 (by decide) ?_
    refine gx_dVv (I1 := I) (J1 := J) (a1 := (s_aim a (nI n0) 1 5)) (b1 := b) (As := [.int (nI n0), .int 1]) (rest := []) ⟨hx, hb, hml, hown, hts⟩ G 2 (kX2_aimAt l D ad cy I J a b H.size (nI n0) (1)) (cwV 2 hts gX2_endFromHere_X2_aimAt rfl rfl rfl (by decide +kernel) ⟨Nat.le_of_ble_eq_true rfl, Nat.le_of_ble_eq_true rfl⟩) (by decide) rfl rfl rfl rfl hl.1 rfl (Nat.le_of_ble_eq_true rfl) ⟨Nat.zero_le _, Nat.zero_le _⟩ dX2_endFromHere_11 (fun H locs G => ?_)
    refine lv_aload_n hx hb dX2_endFromHere_14 rfl (lv_at hl 0 rfl) ?_
    refine gx_get hx hb hts hinX2 hown G 2 (by decide) rfl rfl 1 (by decide) rfl lk12 rfl (v := .ref (ad 4)) rfl dX2_endFromHere_15 ?_
    refine lv_aload_n hx hb dX2_endFromHere_18 rfl (lv_at hl 0 rfl) ?_
    refine gx_get hx hb hts hinX2 hown G 2 (by decide) rfl rfl 2 (by decide) rfl lk18 rfl (v := .ref (ad 19)) rfl dX2_endFromHere_19 ?_
    refine gx_dVv (I1 := I) (J1 := ((d_min I 19 nl nc mPV (J, s_aim a (nI n0) 1 5, b)).1)) (a1 := ((d_min I 19 nl nc mPV (J, s_aim a (nI n0) 1 5, b)).2.1)) (b1 := ((d_min I 19 nl nc mPV (J, s_aim a (nI n0) 1 5, b)).2.2)) (As := [.ref (ad 19)]) (rest := []) ⟨hx, hb, hml, hown, hts⟩ G 4 (kX0_minimise l D ad cy I J (s_aim a (nI n0) 1 5) b H.size nl nc 19 hnl hnl2 hnc hnc2 (by decide) rfl (by decide) (by decide) (by rw [s_aim_k _ _ _ (by decide)]; exact hbas) (by rw [s_aim_k _ _ _ (by decide)]; exact hout)) (cwV 1 hts gX2_endFromHere_X0_minimise rfl rfl rfl (by decide +kernel) ⟨Nat.le_of_ble_eq_true rfl, Nat.le_of_ble_eq_true rfl⟩) (by decide) rfl rfl rfl rfl hl.1 rfl (Nat.le_of_ble_eq_true rfl) ⟨Nat.zero_le _, Nat.zero_le _⟩ dX2_endFromHere_22 (fun H locs G => ?_)
    refine lv_aload_n hx hb dX2_endFromHere_25 rfl (lv_at hl 0 rfl) ?_
    refine lv_iload_n hx hb dX2_endFromHere_26 rfl (lv_at hl 1 rfl) ?_
    refine gx_dVl (v := ((((d_min I 19 nl nc mPV (J, s_aim a (nI n0) 1 5, b)).2.1) 6 n0).toInt64 * ((d_min I 19 nl nc mPV (J, s_aim a (nI n0) 1 5, b)).1) 4 6 + d_num ((d_min I 19 nl nc mPV (J, s_aim a (nI n0) 1 5, b)).2.1) ((d_min I 19 nl nc mPV (J, s_aim a (nI n0) 1 5, b)).2.2) (nI n0) nl 0)) (I1 := I) (J1 := ((d_min I 19 nl nc mPV (J, s_aim a (nI n0) 1 5, b)).1)) (a1 := ((d_min I 19 nl nc mPV (J, s_aim a (nI n0) 1 5, b)).2.1)) (b1 := ((d_min I 19 nl nc mPV (J, s_aim a (nI n0) 1 5, b)).2.2)) (As := [.int (nI n0)]) (rest := []) ⟨hx, hb, hml, hown, hts⟩ G 2 (kX2_numeratorOf l D ad cy I ((d_min I 19 nl nc mPV (J, s_aim a (nI n0) 1 5, b)).1) ((d_min I 19 nl nc mPV (J, s_aim a (nI n0) 1 5, b)).2.1) ((d_min I 19 nl nc mPV (J, s_aim a (nI n0) 1 5, b)).2.2) H.size nl n0 hnl hnl2 hn0) (cwV 1 hts gX2_endFromHere_X2_numeratorOf rfl rfl rfl (by decide +kernel) ⟨Nat.le_of_ble_eq_true rfl, Nat.le_of_ble_eq_true rfl⟩) (by decide) rfl rfl rfl rfl hl.1 rfl (Nat.le_of_ble_eq_true rfl) ⟨Nat.zero_le _, Nat.zero_le _⟩ dX2_endFromHere_27 (fun H locs G => ?_)
    refine lv_aload_n hx hb dX2_endFromHere_30 rfl (lv_at hl 0 rfl) ?_
    refine gx_get hx hb hts hinX2 hown G 2 (by decide) rfl rfl 1 (by decide) rfl lk12 rfl (v := .ref (ad 4)) rfl dX2_endFromHere_31 ?_
    refine gx_dVl (v := (((d_min I 19 nl nc mPV (J, s_aim a (nI n0) 1 5, b)).1) 4 6)) (I1 := I) (J1 := ((d_min I 19 nl nc mPV (J, s_aim a (nI n0) 1 5, b)).1)) (a1 := ((d_min I 19 nl nc mPV (J, s_aim a (nI n0) 1 5, b)).2.1)) (b1 := ((d_min I 19 nl nc mPV (J, s_aim a (nI n0) 1 5, b)).2.2)) (As := []) (rest := [.long ((((d_min I 19 nl nc mPV (J, s_aim a (nI n0) 1 5, b)).2.1) 6 n0).toInt64 * ((d_min I 19 nl nc mPV (J, s_aim a (nI n0) 1 5, b)).1) 4 6 + d_num ((d_min I 19 nl nc mPV (J, s_aim a (nI n0) 1 5, b)).2.1) ((d_min I 19 nl nc mPV (J, s_aim a (nI n0) 1 5, b)).2.2) (nI n0) nl 0)]) ⟨hx, hb, hml, hown, hts⟩ G 4 (kX0_denominator l D ad cy I ((d_min I 19 nl nc mPV (J, s_aim a (nI n0) 1 5, b)).1) ((d_min I 19 nl nc mPV (J, s_aim a (nI n0) 1 5, b)).2.1) ((d_min I 19 nl nc mPV (J, s_aim a (nI n0) 1 5, b)).2.2) H.size ) (cwV 0 hts gX2_endFromHere_X0_denominator rfl rfl rfl (by decide +kernel) ⟨Nat.le_of_ble_eq_true rfl, Nat.le_of_ble_eq_true rfl⟩) (by decide) rfl rfl rfl rfl hl.1 rfl (Nat.le_of_ble_eq_true rfl) ⟨Nat.zero_le _, Nat.zero_le _⟩ dX2_endFromHere_34 (fun H locs G => ?_)
    refine lv_iload_n hx hb dX2_endFromHere_37 rfl (lv_at hl 3 rfl) ?_
    refine gx_dSl (v := (s_part ((((d_min I 19 nl nc mPV (J, s_aim a (nI n0) 1 5, b)).2.1) 6 n0).toInt64 * ((d_min I 19 nl nc mPV (J, s_aim a (nI n0) 1 5, b)).1) 4 6 + d_num ((d_min I 19 nl nc mPV (J, s_aim a (nI n0) 1 5, b)).2.1) ((d_min I 19 nl nc mPV (J, s_aim a (nI n0) 1 5, b)).2.2) (nI n0) nl 0) (((d_min I 19 nl nc mPV (J, s_aim a (nI n0) 1 5, b)).1) 4 6) pt)) (I1 := I) (J1 := ((d_min I 19 nl nc mPV (J, s_aim a (nI n0) 1 5, b)).1)) (a1 := ((d_min I 19 nl nc mPV (J, s_aim a (nI n0) 1 5, b)).2.1)) (b1 := ((d_min I 19 nl nc mPV (J, s_aim a (nI n0) 1 5, b)).2.2)) (As := [.long ((((d_min I 19 nl nc mPV (J, s_aim a (nI n0) 1 5, b)).2.1) 6 n0).toInt64 * ((d_min I 19 nl nc mPV (J, s_aim a (nI n0) 1 5, b)).1) 4 6 + d_num ((d_min I 19 nl nc mPV (J, s_aim a (nI n0) 1 5, b)).2.1) ((d_min I 19 nl nc mPV (J, s_aim a (nI n0) 1 5, b)).2.2) (nI n0) nl 0), .long (((d_min I 19 nl nc mPV (J, s_aim a (nI n0) 1 5, b)).1) 4 6), .int pt]) (rest := []) ⟨hx, hb, hml, hown, hts⟩ G (kX2_partOf l D ad cy I ((d_min I 19 nl nc mPV (J, s_aim a (nI n0) 1 5, b)).1) ((d_min I 19 nl nc mPV (J, s_aim a (nI n0) 1 5, b)).2.1) ((d_min I 19 nl nc mPV (J, s_aim a (nI n0) 1 5, b)).2.2) H.size ((((d_min I 19 nl nc mPV (J, s_aim a (nI n0) 1 5, b)).2.1) 6 n0).toInt64 * ((d_min I 19 nl nc mPV (J, s_aim a (nI n0) 1 5, b)).1) 4 6 + d_num ((d_min I 19 nl nc mPV (J, s_aim a (nI n0) 1 5, b)).2.1) ((d_min I 19 nl nc mPV (J, s_aim a (nI n0) 1 5, b)).2.2) (nI n0) nl 0) (((d_min I 19 nl nc mPV (J, s_aim a (nI n0) 1 5, b)).1) 4 6) pt) (va_cwS 3 hts gX2_endFromHere_X2_partOf rfl rfl rfl (by decide +kernel) ⟨Nat.le_of_ble_eq_true rfl, Nat.le_of_ble_eq_true rfl⟩) rfl hl.1 rfl (Nat.le_of_ble_eq_true rfl) ⟨Nat.zero_le _, Nat.zero_le _⟩ dX2_endFromHere_38 (fun H locs G => ?_)
    exact gx_lr hx hb hr hlocks G hQ ⟨by simp only [s_end, s_endX, s_w, c3, reduceIte], by simp only [s_endX, s_w, c3, reduceIte]⟩ dX2_endFromHere_41

set_option maxHeartbeats 4000000 in
set_option maxRecDepth 100000 in
theorem kX2_endAmongBest (l : Launch) (D : va_G) (ad : Nat → Nat) (cy : Nat → ClassId) (I : gF) (J : gL) (a : gF) (b : gL) (sz : Nat) (nl nc n0 : Nat) (sd pt : Int32) (hnl : I 4 7 = nI nl) (hnl2 : nl ≤ 21) (hnc : I 4 8 = nI nc) (hnc2 : nc ≤ 5) (hbas : d_nat (a 15) nl) (hout : d_nat (a 16) nc) (hn0 : n0 < 5) : gMl l yX2_endAmongBest wsX2_endAmongBest ({ frames := 4, cells := 0, slots := 0, locals := 119 }) D ad cy I J a b sz [.ref (ad 2), .int (nI n0), .int sd, .int pt] (fun r u => r = s_eb I J a b nl nc n0 sd pt ∧ u = (I, (s_ebX I J a b nl nc n0 sd).1, (s_ebX I J a b nl nc n0 sd).2.1, (s_ebX I J a b nl nc n0 sd).2.2)) := by
  refine Met.ofW (cc := cX2_endAmongBest) (maxL := 4) (ret := some .long) (by decide) rfl ?_
  intro p e s m args below meth c s₁ B hml hv
  obtain ⟨hargs, hsz, G⟩ := gx_begin hv
  subst hsz
  have hx := B.exec
  have hb := B.bytes
  have hr := B.returns
  have hts := atoms_spec (ws := wsX2_endAmongBest) B.pre
  have hown : s.vm.findClass RX2 = some m.cls := findClass_of_methodNamed B.named
  have hlocks := B.notSynchronized
  have hinX2 : ∀ w ∈ wsX20, w ∈ wsX2_endAmongBest := by decide +kernel
  have lk12 := hts (.fieldLink RX2 12 "ExactSimplex$Solver" "dictionary" "LExactSimplex$Dictionary;") (by decide +kernel)
  have hl := lv_entry ([.ref (ad 2), .int (nI n0), .int sd, .int pt]) (n := 4) (Nat.le_of_ble_eq_true rfl)
  have hent := lg_entry_eq m ([.ref (ad 2), .int (nI n0), .int sd, .int pt]) 4
  rw [← hargs] at hent
  rw [hent]
  clear hent
  generalize (lg_sl ([.ref (ad 2), .int (nI n0), .int sd, .int pt]) ++ List.replicate (4 - (lg_sl ([.ref (ad 2), .int (nI n0), .int sd, .int pt])).length) Slot.unset).toArray = ls at hl ⊢
  have hl : lv_has ls 4 [(0, .ref (ad 2)), (1, .int (nI n0)), (2, .int sd), (3, .int pt)] := hl
  generalize hA : gA ad s.heap.size = A at G ⊢
  generalize hH : s.heap = H at G ⊢
  refine gx_q (fun Q hQ => ?_)
  refine lv_aload_n hx hb dX2_endAmongBest_0 rfl (lv_at hl 0 rfl) ?_
  refine gx_get hx hb hts hinX2 hown G 2 (by decide) rfl rfl 1 (by decide) rfl lk12 rfl (v := .ref (ad 4)) rfl dX2_endAmongBest_1 ?_
  refine gx_dVv (I1 := I) (J1 := J) (a1 := (d_thaw a nc)) (b1 := b) (As := []) (rest := []) ⟨hx, hb, hml, hown, hts⟩ G 4 (kX0_thawAll l D ad cy I J a b H.size nc hnc hnc2) (cwV 0 hts gX2_endAmongBest_X0_thawAll rfl rfl rfl (by decide +kernel) ⟨Nat.le_of_ble_eq_true rfl, Nat.le_of_ble_eq_true rfl⟩) (by decide) rfl rfl rfl rfl hl.1 rfl (Nat.le_of_ble_eq_true rfl) ⟨Nat.zero_le _, Nat.zero_le _⟩ dX2_endAmongBest_4 (fun H locs G => ?_)
  refine lv_aload_n hx hb dX2_endAmongBest_7 rfl (lv_at hl 0 rfl) ?_
  refine gx_dVv (I1 := I) (J1 := ((s_k2b I J (d_thaw a nc) b nl nc).1)) (a1 := ((s_k2b I J (d_thaw a nc) b nl nc).2.1)) (b1 := ((s_k2b I J (d_thaw a nc) b nl nc).2.2)) (As := []) (rest := []) ⟨hx, hb, hml, hown, hts⟩ G 2 (kX2_keepToBest l D ad cy I J (d_thaw a nc) b H.size nl nc hnl hnl2 hnc hnc2 (by rw [d_thaw_k _ (by decide)]; exact hbas) (by rw [d_thaw_k _ (by decide)]; exact hout)) (cwV 0 hts gX2_endAmongBest_X2_keepToBest rfl rfl rfl (by decide +kernel) ⟨Nat.le_of_ble_eq_true rfl, Nat.le_of_ble_eq_true rfl⟩) (by decide) rfl rfl rfl rfl hl.1 rfl (Nat.le_of_ble_eq_true rfl) ⟨Nat.zero_le _, Nat.zero_le _⟩ dX2_endAmongBest_8 (fun H locs G => ?_)
  refine lv_aload_n hx hb dX2_endAmongBest_11 rfl (lv_at hl 0 rfl) ?_
  refine lv_iload_n hx hb dX2_endAmongBest_12 rfl (lv_at hl 1 rfl) ?_
  refine lv_iload_n hx hb dX2_endAmongBest_13 rfl (lv_at hl 2 rfl) ?_
  refine lv_iload_n hx hb dX2_endAmongBest_14 rfl (lv_at hl 3 rfl) ?_
  refine gx_dVl (v := (s_eb I J a b nl nc n0 sd pt)) (I1 := I) (J1 := ((s_ebX I J a b nl nc n0 sd).1)) (a1 := ((s_ebX I J a b nl nc n0 sd).2.1)) (b1 := ((s_ebX I J a b nl nc n0 sd).2.2)) (As := [.int (nI n0), .int sd, .int pt]) (rest := []) ⟨hx, hb, hml, hown, hts⟩ G 2 (kX2_endFromHere l D ad cy I ((s_k2b I J (d_thaw a nc) b nl nc).1) ((s_k2b I J (d_thaw a nc) b nl nc).2.1) ((s_k2b I J (d_thaw a nc) b nl nc).2.2) H.size nl nc n0 sd pt hnl hnl2 hnc hnc2 (s_fb_nat I J a b nl nc hbas hout 0).1 (s_fb_nat I J a b nl nc hbas hout 0).2 hn0) (cwV 3 hts gX2_endAmongBest_X2_endFromHere rfl rfl rfl (by decide +kernel) ⟨Nat.le_of_ble_eq_true rfl, Nat.le_of_ble_eq_true rfl⟩) (by decide) rfl rfl rfl rfl hl.1 rfl (Nat.le_of_ble_eq_true rfl) ⟨Nat.zero_le _, Nat.zero_le _⟩ dX2_endAmongBest_15 (fun H locs G => ?_)
  exact gx_lr hx hb hr hlocks G hQ ⟨by first | rfl | (simp only [reduceIte]; done) | (simp [reduceIte]; done), rfl⟩ dX2_endAmongBest_18

set_option maxHeartbeats 4000000 in
set_option maxRecDepth 100000 in
theorem kX2_endAmongAll (l : Launch) (D : va_G) (ad : Nat → Nat) (cy : Nat → ClassId) (I : gF) (J : gL) (a : gF) (b : gL) (sz : Nat) (nl nc n0 : Nat) (sd pt : Int32) (hnl : I 4 7 = nI nl) (hnl2 : nl ≤ 21) (hnc : I 4 8 = nI nc) (hnc2 : nc ≤ 5) (hbas : d_nat (a 15) nl) (hout : d_nat (a 16) nc) (hn0 : n0 < 5) : gMl l yX2_endAmongAll wsX2_endAmongAll ({ frames := 4, cells := 0, slots := 0, locals := 119 }) D ad cy I J a b sz [.ref (ad 2), .int (nI n0), .int sd, .int pt] (fun r u => r = s_end I J (d_thaw a nc) b nl nc n0 (s_w sd) pt ∧ u = (I, (s_endX I J (d_thaw a nc) b nl nc n0 (s_w sd)).1, (s_endX I J (d_thaw a nc) b nl nc n0 (s_w sd)).2.1, (s_endX I J (d_thaw a nc) b nl nc n0 (s_w sd)).2.2)) := by
  refine Met.ofW (cc := cX2_endAmongAll) (maxL := 4) (ret := some .long) (by decide) rfl ?_
  intro p e s m args below meth c s₁ B hml hv
  obtain ⟨hargs, hsz, G⟩ := gx_begin hv
  subst hsz
  have hx := B.exec
  have hb := B.bytes
  have hr := B.returns
  have hts := atoms_spec (ws := wsX2_endAmongAll) B.pre
  have hown : s.vm.findClass RX2 = some m.cls := findClass_of_methodNamed B.named
  have hlocks := B.notSynchronized
  have hinX2 : ∀ w ∈ wsX20, w ∈ wsX2_endAmongAll := by decide +kernel
  have lk12 := hts (.fieldLink RX2 12 "ExactSimplex$Solver" "dictionary" "LExactSimplex$Dictionary;") (by decide +kernel)
  have hl := lv_entry ([.ref (ad 2), .int (nI n0), .int sd, .int pt]) (n := 4) (Nat.le_of_ble_eq_true rfl)
  have hent := lg_entry_eq m ([.ref (ad 2), .int (nI n0), .int sd, .int pt]) 4
  rw [← hargs] at hent
  rw [hent]
  clear hent
  generalize (lg_sl ([.ref (ad 2), .int (nI n0), .int sd, .int pt]) ++ List.replicate (4 - (lg_sl ([.ref (ad 2), .int (nI n0), .int sd, .int pt])).length) Slot.unset).toArray = ls at hl ⊢
  have hl : lv_has ls 4 [(0, .ref (ad 2)), (1, .int (nI n0)), (2, .int sd), (3, .int pt)] := hl
  generalize hA : gA ad s.heap.size = A at G ⊢
  generalize hH : s.heap = H at G ⊢
  refine gx_q (fun Q hQ => ?_)
  refine lv_aload_n hx hb dX2_endAmongAll_0 rfl (lv_at hl 0 rfl) ?_
  refine gx_get hx hb hts hinX2 hown G 2 (by decide) rfl rfl 1 (by decide) rfl lk12 rfl (v := .ref (ad 4)) rfl dX2_endAmongAll_1 ?_
  refine gx_dVv (I1 := I) (J1 := J) (a1 := (d_thaw a nc)) (b1 := b) (As := []) (rest := []) ⟨hx, hb, hml, hown, hts⟩ G 4 (kX0_thawAll l D ad cy I J a b H.size nc hnc hnc2) (cwV 0 hts gX2_endAmongAll_X0_thawAll rfl rfl rfl (by decide +kernel) ⟨Nat.le_of_ble_eq_true rfl, Nat.le_of_ble_eq_true rfl⟩) (by decide) rfl rfl rfl rfl hl.1 rfl (Nat.le_of_ble_eq_true rfl) ⟨Nat.zero_le _, Nat.zero_le _⟩ dX2_endAmongAll_4 (fun H locs G => ?_)
  refine lv_aload_n hx hb dX2_endAmongAll_7 rfl (lv_at hl 0 rfl) ?_
  refine lv_iload_n hx hb dX2_endAmongAll_8 rfl (lv_at hl 1 rfl) ?_
  refine lv_iload_n hx hb dX2_endAmongAll_9 rfl (lv_at hl 2 rfl) ?_
  refine lv_iload_n hx hb dX2_endAmongAll_10 rfl (lv_at hl 3 rfl) ?_
  refine gx_dVl (v := (s_end I J (d_thaw a nc) b nl nc n0 (s_w sd) pt)) (I1 := I) (J1 := ((s_endX I J (d_thaw a nc) b nl nc n0 (s_w sd)).1)) (a1 := ((s_endX I J (d_thaw a nc) b nl nc n0 (s_w sd)).2.1)) (b1 := ((s_endX I J (d_thaw a nc) b nl nc n0 (s_w sd)).2.2)) (As := [.int (nI n0), .int sd, .int pt]) (rest := []) ⟨hx, hb, hml, hown, hts⟩ G 2 (kX2_endFromHere l D ad cy I J (d_thaw a nc) b H.size nl nc n0 sd pt hnl hnl2 hnc hnc2 (by rw [d_thaw_k _ (by decide)]; exact hbas) (by rw [d_thaw_k _ (by decide)]; exact hout) hn0) (cwV 3 hts gX2_endAmongAll_X2_endFromHere rfl rfl rfl (by decide +kernel) ⟨Nat.le_of_ble_eq_true rfl, Nat.le_of_ble_eq_true rfl⟩) (by decide) rfl rfl rfl rfl hl.1 rfl (Nat.le_of_ble_eq_true rfl) ⟨Nat.zero_le _, Nat.zero_le _⟩ dX2_endAmongAll_11 (fun H locs G => ?_)
  exact gx_lr hx hb hr hlocks G hQ ⟨by first | rfl | (simp only [reduceIte]; done) | (simp [reduceIte]; done), rfl⟩ dX2_endAmongAll_14

set_option maxHeartbeats 4000000 in
set_option maxRecDepth 100000 in
theorem kX2_findFirstBest (l : Launch) (D : va_G) (ad : Nat → Nat) (cy : Nat → ClassId) (I : gF) (J : gL) (a : gF) (b : gL) (sz : Nat) (nn nl nc : Nat) (hnn : I 1 7 = nI nn) (hnn2 : nn ≤ 5) (hnl : I 4 7 = nI nl) (hnl2 : nl ≤ 21) (hnc : I 4 8 = nI nc) (hnc2 : nc ≤ 5) (hbas : d_nat (a 15) nl) (hout : d_nat (a 16) nc) : gMv l yX2_findFirstBest wsX2_findFirstBest ({ frames := 4, cells := 0, slots := 0, locals := 111 }) D ad cy I J a b sz [.ref (ad 2)] (fun u => u = (s_ffI I, s_ffJ I J a b nn nl nc, s_ffA I J a b nn nl nc, s_ffB I J a b nn nl nc)) := by
  refine Met.ofW (cc := cX2_findFirstBest) (maxL := 2) (ret := none) (by decide) rfl ?_
  intro p e s m args below meth c s₁ B hml hv
  obtain ⟨hargs, hsz, G⟩ := gx_begin hv
  subst hsz
  have hx := B.exec
  have hb := B.bytes
  have hr := B.returns
  have hts := atoms_spec (ws := wsX2_findFirstBest) B.pre
  have hown : s.vm.findClass RX2 = some m.cls := findClass_of_methodNamed B.named
  have hlocks := B.notSynchronized
  have hinX1 : ∀ w ∈ wsX10, w ∈ wsX2_findFirstBest := by decide +kernel
  have hinX2 : ∀ w ∈ wsX20, w ∈ wsX2_findFirstBest := by decide +kernel
  have lk12 := hts (.fieldLink RX2 12 "ExactSimplex$Solver" "dictionary" "LExactSimplex$Dictionary;") (by decide +kernel)
  have lk18 := hts (.fieldLink RX2 18 "ExactSimplex$Solver" "goal" "[I") (by decide +kernel)
  have lk22 := hts (.fieldLink RX2 22 "ExactSimplex$Solver" "firstBest" "[J") (by decide +kernel)
  have lk26 := hts (.fieldLink RX2 26 "ExactSimplex$Solver" "firstBestUnder" "J") (by decide +kernel)
  have lk30 := hts (.fieldLink RX2 30 "ExactSimplex$Solver" "problem" "LExactSimplex$Problem;") (by decide +kernel)
  have lk38 := hts (.fieldLink RX2 38 "ExactSimplex$Solver" "firstBestKnown" "Z") (by decide +kernel)
  have lk58 := hts (.fieldLink RX2 58 "ExactSimplex$Problem" "names" "I") (by decide +kernel)
  have hl := lv_entry ([.ref (ad 2)]) (n := 2) (Nat.le_of_ble_eq_true rfl)
  have hent := lg_entry_eq m ([.ref (ad 2)]) 2
  rw [← hargs] at hent
  rw [hent]
  clear hent
  generalize (lg_sl ([.ref (ad 2)]) ++ List.replicate (2 - (lg_sl ([.ref (ad 2)])).length) Slot.unset).toArray = ls at hl ⊢
  have hl : lv_has ls 2 [(0, .ref (ad 2))] := hl
  generalize hA : gA ad s.heap.size = A at G ⊢
  generalize hH : s.heap = H at G ⊢
  refine gx_q (fun Q hQ => ?_)
  refine lv_aload_n hx hb dX2_findFirstBest_0 rfl (lv_at hl 0 rfl) ?_
  refine gx_get hx hb hts hinX2 hown G 2 (by decide) rfl rfl 7 (by decide) rfl lk38 rfl (v := .int (I 2 7)) rfl dX2_findFirstBest_1 ?_
  refine lv_if_eq (tgt := 8) hx hb dX2_findFirstBest_4 (by decide) (fun c4 => ?_) (fun c4 => ?_)
  · skip
    refine lv_aload_n hx hb dX2_findFirstBest_8 rfl (lv_at hl 0 rfl) ?_
    refine gx_get hx hb hts hinX2 hown G 2 (by decide) rfl rfl 1 (by decide) rfl lk12 rfl (v := .ref (ad 4)) rfl dX2_findFirstBest_9 ?_
    refine gx_dVv (I1 := I) (J1 := J) (a1 := (d_thaw a nc)) (b1 := b) (As := []) (rest := []) ⟨hx, hb, hml, hown, hts⟩ G 4 (kX0_thawAll l D ad cy I J a b H.size nc hnc hnc2) (cwV 0 hts gX2_findFirstBest_X0_thawAll rfl rfl rfl (by decide +kernel) ⟨Nat.le_of_ble_eq_true rfl, Nat.le_of_ble_eq_true rfl⟩) (by decide) rfl rfl rfl rfl hl.1 rfl (Nat.le_of_ble_eq_true rfl) ⟨Nat.zero_le _, Nat.zero_le _⟩ dX2_findFirstBest_12 (fun H locs G => ?_)
    refine lv_aload_n hx hb dX2_findFirstBest_15 rfl (lv_at hl 0 rfl) ?_
    refine gx_dVv (I1 := I) (J1 := ((s_k2b I J (d_thaw a nc) b nl nc).1)) (a1 := ((s_k2b I J (d_thaw a nc) b nl nc).2.1)) (b1 := ((s_k2b I J (d_thaw a nc) b nl nc).2.2)) (As := []) (rest := []) ⟨hx, hb, hml, hown, hts⟩ G 2 (kX2_keepToBest l D ad cy I J (d_thaw a nc) b H.size nl nc hnl hnl2 hnc hnc2 (by rw [d_thaw_k _ (by decide)]; exact hbas) (by rw [d_thaw_k _ (by decide)]; exact hout)) (cwV 0 hts gX2_findFirstBest_X2_keepToBest rfl rfl rfl (by decide +kernel) ⟨Nat.le_of_ble_eq_true rfl, Nat.le_of_ble_eq_true rfl⟩) (by decide) rfl rfl rfl rfl hl.1 rfl (Nat.le_of_ble_eq_true rfl) ⟨Nat.zero_le _, Nat.zero_le _⟩ dX2_findFirstBest_16 (fun H locs G => ?_)
    refine lv_iconst (v := 0) hx hb dX2_findFirstBest_19 (by decide) ?_
    refine lv_istore_n (lv' := [(1, .int 0), (0, .ref (ad 2))]) hx hb dX2_findFirstBest_20 rfl hl (by decide) rfl (fun ls hl => ?_)
    have K21 : ∀ (nf : Nat) (r : Nat) (H : Heap) (locs : List Loc) (ls : Array Slot), (r ≤ nn) → nn - r < nf → GG D ad cy A s I ((s_fb I J a b nl nc r).1) ((s_fb I J a b nl nc r).2.1) ((s_fb I J a b nl nc r).2.2) H locs → lv_has ls 2 [(0, .ref (ad 2)), (1, .int (nI r))] → W p l e ({ frames := 4, cells := 0, slots := 0, locals := 111 }) s m args below meth c H locs 0 0 Q (F0 m 21 ls []) := by
      intro nf
      induction nf with
      | zero => exact fun _ _ _ _ _ hz => absurd hz (Nat.not_lt_zero _)
      | succ nf ih =>
        intro r H locs ls h1 hmeas G hl
        have ih21 := ih
        clear ih
        refine lv_iload_n hx hb dX2_findFirstBest_21 rfl (lv_at hl 1 rfl) ?_
        refine lv_aload_n hx hb dX2_findFirstBest_22 rfl (lv_at hl 0 rfl) ?_
        refine gx_get hx hb hts hinX2 hown G 2 (by decide) rfl rfl 0 (by decide) rfl lk30 rfl (v := .ref (ad 1)) rfl dX2_findFirstBest_23 ?_
        refine gx_get hx hb hts hinX1 hown G 1 (by decide) rfl rfl 7 (by decide) rfl lk58 rfl (v := .int (I 1 7)) rfl dX2_findFirstBest_26 ?_
        refine lv_icmp_ge (tgt := 62) hx hb dX2_findFirstBest_29 (by decide) (fun c29 => ?_) (fun c29 => ?_)
        · skip
          have n29 := gn_le (X := nn) (Y := r) hnn rfl (by omega) (by omega) c29
          have hex : r = nn := by omega
          rw [hex] at hl
          rw [hex] at G
          refine lv_iconst (v := 0) hx hb dX2_findFirstBest_62 (by decide) ?_
          refine lv_istore_n (lv' := [(1, .int 0), (0, .ref (ad 2))]) hx hb dX2_findFirstBest_63 rfl hl (by decide) rfl (fun ls hl => ?_)
          have K64 : ∀ (nf : Nat) (q : Nat) (H : Heap) (locs : List Loc) (ls : Array Slot), (q ≤ nn) → nn - q < nf → GG D ad cy A s I ((s_fb I J a b nl nc nn).1) ((s_fb I J a b nl nc nn).2.1) (s_fbB (s_fb I J a b nl nc nn).1 (s_fb I J a b nl nc nn).2.1 (s_fb I J a b nl nc nn).2.2 nl q) H locs → lv_has ls 2 [(0, .ref (ad 2)), (1, .int (nI q))] → W p l e ({ frames := 4, cells := 0, slots := 0, locals := 111 }) s m args below meth c H locs 0 0 Q (F0 m 64 ls []) := by
            intro nf
            induction nf with
            | zero => exact fun _ _ _ _ _ hz => absurd hz (Nat.not_lt_zero _)
            | succ nf ih =>
              intro q H locs ls h2 hmeas G hl
              have ih64 := ih
              clear ih
              refine lv_iload_n hx hb dX2_findFirstBest_64 rfl (lv_at hl 1 rfl) ?_
              refine lv_aload_n hx hb dX2_findFirstBest_65 rfl (lv_at hl 0 rfl) ?_
              refine gx_get hx hb hts hinX2 hown G 2 (by decide) rfl rfl 0 (by decide) rfl lk30 rfl (v := .ref (ad 1)) rfl dX2_findFirstBest_66 ?_
              refine gx_get hx hb hts hinX1 hown G 1 (by decide) rfl rfl 7 (by decide) rfl lk58 rfl (v := .int (I 1 7)) rfl dX2_findFirstBest_69 ?_
              refine lv_icmp_ge (tgt := 92) hx hb dX2_findFirstBest_72 (by decide) (fun c72 => ?_) (fun c72 => ?_)
              · skip
                have n72 := gn_le (X := nn) (Y := q) hnn rfl (by omega) (by omega) c72
                have hex : q = nn := by omega
                rw [hex] at hl
                rw [hex] at G
                refine lv_aload_n hx hb dX2_findFirstBest_92 rfl (lv_at hl 0 rfl) ?_
                refine lv_aload_n hx hb dX2_findFirstBest_93 rfl (lv_at hl 0 rfl) ?_
                refine gx_get hx hb hts hinX2 hown G 2 (by decide) rfl rfl 1 (by decide) rfl lk12 rfl (v := .ref (ad 4)) rfl dX2_findFirstBest_94 ?_
                refine gx_dVl (v := (((s_fb I J a b nl nc nn).1) 4 6)) (I1 := I) (J1 := ((s_fb I J a b nl nc nn).1)) (a1 := ((s_fb I J a b nl nc nn).2.1)) (b1 := (s_fbB (s_fb I J a b nl nc nn).1 (s_fb I J a b nl nc nn).2.1 (s_fb I J a b nl nc nn).2.2 nl nn)) (As := []) (rest := [.ref (ad 2)]) ⟨hx, hb, hml, hown, hts⟩ G 4 (kX0_denominator l D ad cy I ((s_fb I J a b nl nc nn).1) ((s_fb I J a b nl nc nn).2.1) (s_fbB (s_fb I J a b nl nc nn).1 (s_fb I J a b nl nc nn).2.1 (s_fb I J a b nl nc nn).2.2 nl nn) H.size ) (cwV 0 hts gX2_findFirstBest_X0_denominator rfl rfl rfl (by decide +kernel) ⟨Nat.le_of_ble_eq_true rfl, Nat.le_of_ble_eq_true rfl⟩) (by decide) rfl rfl rfl rfl hl.1 rfl (Nat.le_of_ble_eq_true rfl) ⟨Nat.zero_le _, Nat.zero_le _⟩ dX2_findFirstBest_97 (fun H locs G => ?_)
                refine gx_putJ hx hb hts hinX2 tyX2 tyX2_ok nmX2 hown G 2 (by decide) rfl rfl 4 (by decide) rfl lk26 rfl rfl (tyX2_ok 4 (by decide)) dX2_findFirstBest_100 (fun H locs G => ?_)
                refine lv_aload_n hx hb dX2_findFirstBest_103 rfl (lv_at hl 0 rfl) ?_
                refine lv_iconst (v := 1) hx hb dX2_findFirstBest_104 (by decide) ?_
                refine gx_putI hx hb hts hinX2 tyX2 tyX2_ok nmX2 hown G 2 (by decide) rfl rfl 7 (by decide) rfl lk38 rfl rfl (tyX2_ok 7 (by decide)) (rfl) (rfl) dX2_findFirstBest_105 (fun H locs G => ?_)
                exact gx_vr hx hb hr hlocks G hQ (by simp only [s_ffI, s_ffJ, s_ffA, s_ffB, c4, c29, c72, reduceIte]) dX2_findFirstBest_108
              · skip
                have n72 := gn_nle (X := nn) (Y := q) hnn rfl (by omega) (by omega) c72
                refine lv_aload_n hx hb dX2_findFirstBest_75 rfl (lv_at hl 0 rfl) ?_
                refine gx_get hx hb hts hinX2 hown G 2 (by decide) rfl rfl 3 (by decide) rfl lk22 rfl (v := .ref (ad 20)) rfl dX2_findFirstBest_76 ?_
                refine lv_iload_n hx hb dX2_findFirstBest_79 rfl (lv_at hl 1 rfl) ?_
                refine lv_aload_n hx hb dX2_findFirstBest_80 rfl (lv_at hl 0 rfl) ?_
                refine lv_iload_n hx hb dX2_findFirstBest_81 rfl (lv_at hl 1 rfl) ?_
                refine gx_dVl (v := ((((s_fb I J a b nl nc nn).2.1) 6 q).toInt64 * ((s_fb I J a b nl nc nn).1) 4 6 + d_num ((s_fb I J a b nl nc nn).2.1) (s_fbB (s_fb I J a b nl nc nn).1 (s_fb I J a b nl nc nn).2.1 (s_fb I J a b nl nc nn).2.2 nl q) (nI q) nl 0)) (I1 := I) (J1 := ((s_fb I J a b nl nc nn).1)) (a1 := ((s_fb I J a b nl nc nn).2.1)) (b1 := (s_fbB (s_fb I J a b nl nc nn).1 (s_fb I J a b nl nc nn).2.1 (s_fb I J a b nl nc nn).2.2 nl q)) (As := [.int (nI q)]) (rest := [.int (nI q), .ref (ad 20)]) ⟨hx, hb, hml, hown, hts⟩ G 2 (kX2_numeratorOf l D ad cy I ((s_fb I J a b nl nc nn).1) ((s_fb I J a b nl nc nn).2.1) (s_fbB (s_fb I J a b nl nc nn).1 (s_fb I J a b nl nc nn).2.1 (s_fb I J a b nl nc nn).2.2 nl q) H.size nl q hnl hnl2 (by omega)) (cwV 1 hts gX2_findFirstBest_X2_numeratorOf rfl rfl rfl (by decide +kernel) ⟨Nat.le_of_ble_eq_true rfl, Nat.le_of_ble_eq_true rfl⟩) (by decide) rfl rfl rfl rfl hl.1 rfl (Nat.le_of_ble_eq_true rfl) ⟨Nat.zero_le _, Nat.zero_le _⟩ dX2_findFirstBest_82 (fun H locs G => ?_)
                refine gx_last hx hb G 20 (by decide) (rfl) (by decide) q rfl (by omega) dX2_findFirstBest_85 (fun H locs G => ?_)
                refine lv_iinc (v := (nI (q + 1))) (lv' := [(1, .int (nI (q + 1))), (0, .ref (ad 2))]) hx hb dX2_findFirstBest_86 hl (k := 1) rfl (gn_add (X := q) (Y := 1) rfl rfl) (by decide) rfl (fun ls hl => ?_)
                refine lv_goto (tgt := 64) hx hb dX2_findFirstBest_89 (by decide) ?_
                exact ih64  (q + 1) _ _ _ (by omega) (by omega) (gg_eq G rfl rfl rfl (by simp only [s_fbB])) (lv_sub hl [1, 0] rfl)
          exact K64 (nn - 0 + 1) 0 _ _ _ (by omega) (Nat.lt_succ_self _) (gg_eq G rfl rfl rfl (by simp only [s_fbB])) (lv_sub hl [1, 0] rfl)
        · skip
          have n29 := gn_nle (X := nn) (Y := r) hnn rfl (by omega) (by omega) c29
          refine lv_aload_n hx hb dX2_findFirstBest_32 rfl (lv_at hl 0 rfl) ?_
          refine lv_iload_n hx hb dX2_findFirstBest_33 rfl (lv_at hl 1 rfl) ?_
          refine lv_iconst (v := 1) hx hb dX2_findFirstBest_34 (by decide) ?_
          refine gx_dVv (I1 := I) (J1 := ((s_fb I J a b nl nc r).1)) (a1 := (s_aim ((s_fb I J a b nl nc r).2.1) (nI r) 1 5)) (b1 := ((s_fb I J a b nl nc r).2.2)) (As := [.int (nI r), .int 1]) (rest := []) ⟨hx, hb, hml, hown, hts⟩ G 2 (kX2_aimAt l D ad cy I ((s_fb I J a b nl nc r).1) ((s_fb I J a b nl nc r).2.1) ((s_fb I J a b nl nc r).2.2) H.size (nI r) 1) (cwV 2 hts gX2_findFirstBest_X2_aimAt rfl rfl rfl (by decide +kernel) ⟨Nat.le_of_ble_eq_true rfl, Nat.le_of_ble_eq_true rfl⟩) (by decide) rfl rfl rfl rfl hl.1 rfl (Nat.le_of_ble_eq_true rfl) ⟨Nat.zero_le _, Nat.zero_le _⟩ dX2_findFirstBest_35 (fun H locs G => ?_)
          refine lv_aload_n hx hb dX2_findFirstBest_38 rfl (lv_at hl 0 rfl) ?_
          refine gx_get hx hb hts hinX2 hown G 2 (by decide) rfl rfl 1 (by decide) rfl lk12 rfl (v := .ref (ad 4)) rfl dX2_findFirstBest_39 ?_
          refine lv_aload_n hx hb dX2_findFirstBest_42 rfl (lv_at hl 0 rfl) ?_
          refine gx_get hx hb hts hinX2 hown G 2 (by decide) rfl rfl 2 (by decide) rfl lk18 rfl (v := .ref (ad 19)) rfl dX2_findFirstBest_43 ?_
          refine gx_dVv (I1 := I) (J1 := ((d_min I 19 nl nc mPV ((s_fb I J a b nl nc r).1, s_aim (s_fb I J a b nl nc r).2.1 (nI r) 1 5, (s_fb I J a b nl nc r).2.2)).1)) (a1 := ((d_min I 19 nl nc mPV ((s_fb I J a b nl nc r).1, s_aim (s_fb I J a b nl nc r).2.1 (nI r) 1 5, (s_fb I J a b nl nc r).2.2)).2.1)) (b1 := ((d_min I 19 nl nc mPV ((s_fb I J a b nl nc r).1, s_aim (s_fb I J a b nl nc r).2.1 (nI r) 1 5, (s_fb I J a b nl nc r).2.2)).2.2)) (As := [.ref (ad 19)]) (rest := []) ⟨hx, hb, hml, hown, hts⟩ G 4 (kX0_minimise l D ad cy I ((s_fb I J a b nl nc r).1) (s_aim ((s_fb I J a b nl nc r).2.1) (nI r) 1 5) ((s_fb I J a b nl nc r).2.2) H.size nl nc 19 hnl hnl2 hnc hnc2 (by decide) rfl (by decide) (by decide) (by rw [s_aim_k _ _ _ (by decide)]; exact (s_fb_nat I J a b nl nc hbas hout r).1) (by rw [s_aim_k _ _ _ (by decide)]; exact (s_fb_nat I J a b nl nc hbas hout r).2)) (cwV 1 hts gX2_findFirstBest_X0_minimise rfl rfl rfl (by decide +kernel) ⟨Nat.le_of_ble_eq_true rfl, Nat.le_of_ble_eq_true rfl⟩) (by decide) rfl rfl rfl rfl hl.1 rfl (Nat.le_of_ble_eq_true rfl) ⟨Nat.zero_le _, Nat.zero_le _⟩ dX2_findFirstBest_46 (fun H locs G => ?_)
          refine lv_aload_n hx hb dX2_findFirstBest_49 rfl (lv_at hl 0 rfl) ?_
          refine gx_get hx hb hts hinX2 hown G 2 (by decide) rfl rfl 1 (by decide) rfl lk12 rfl (v := .ref (ad 4)) rfl dX2_findFirstBest_50 ?_
          refine gx_dVv (I1 := I) (J1 := ((d_min I 19 nl nc mPV ((s_fb I J a b nl nc r).1, s_aim (s_fb I J a b nl nc r).2.1 (nI r) 1 5, (s_fb I J a b nl nc r).2.2)).1)) (a1 := (d_freeze ((d_min I 19 nl nc mPV ((s_fb I J a b nl nc r).1, s_aim (s_fb I J a b nl nc r).2.1 (nI r) 1 5, (s_fb I J a b nl nc r).2.2)).2.1) ((d_min I 19 nl nc mPV ((s_fb I J a b nl nc r).1, s_aim (s_fb I J a b nl nc r).2.1 (nI r) 1 5, (s_fb I J a b nl nc r).2.2)).2.2) nc)) (b1 := ((d_min I 19 nl nc mPV ((s_fb I J a b nl nc r).1, s_aim (s_fb I J a b nl nc r).2.1 (nI r) 1 5, (s_fb I J a b nl nc r).2.2)).2.2)) (As := []) (rest := []) ⟨hx, hb, hml, hown, hts⟩ G 4 (kX0_freezeDear l D ad cy I ((d_min I 19 nl nc mPV ((s_fb I J a b nl nc r).1, s_aim (s_fb I J a b nl nc r).2.1 (nI r) 1 5, (s_fb I J a b nl nc r).2.2)).1) ((d_min I 19 nl nc mPV ((s_fb I J a b nl nc r).1, s_aim (s_fb I J a b nl nc r).2.1 (nI r) 1 5, (s_fb I J a b nl nc r).2.2)).2.1) ((d_min I 19 nl nc mPV ((s_fb I J a b nl nc r).1, s_aim (s_fb I J a b nl nc r).2.1 (nI r) 1 5, (s_fb I J a b nl nc r).2.2)).2.2) H.size nc hnc hnc2) (cwV 0 hts gX2_findFirstBest_X0_freezeDear rfl rfl rfl (by decide +kernel) ⟨Nat.le_of_ble_eq_true rfl, Nat.le_of_ble_eq_true rfl⟩) (by decide) rfl rfl rfl rfl hl.1 rfl (Nat.le_of_ble_eq_true rfl) ⟨Nat.zero_le _, Nat.zero_le _⟩ dX2_findFirstBest_53 (fun H locs G => ?_)
          refine lv_iinc (v := (nI (r + 1))) (lv' := [(1, .int (nI (r + 1))), (0, .ref (ad 2))]) hx hb dX2_findFirstBest_56 hl (k := 1) rfl (gn_add (X := r) (Y := 1) rfl rfl) (by decide) rfl (fun ls hl => ?_)
          refine lv_goto (tgt := 21) hx hb dX2_findFirstBest_59 (by decide) ?_
          exact ih21  (r + 1) _ _ _ (by omega) (by omega) (gg_eq G rfl (by rw [s_fb_s]) (by rw [s_fb_s]) (by rw [s_fb_s])) (lv_sub hl [1, 0] rfl)
    exact K21 (nn - 0 + 1) 0 _ _ _ (by omega) (Nat.lt_succ_self _) (gg_eq G rfl (by simp only [s_fb]) (by simp only [s_fb]) (by simp only [s_fb])) (lv_sub hl [1, 0] rfl)
  · skip
    exact gx_vr hx hb hr hlocks G hQ (by simp only [s_ffI, s_ffJ, s_ffA, s_ffB, c4, reduceIte]) dX2_findFirstBest_7

set_option maxHeartbeats 4000000 in
set_option maxRecDepth 100000 in
theorem kX2_leastCost (l : Launch) (D : va_G) (ad : Nat → Nat) (cy : Nat → ClassId) (I : gF) (J : gL) (a : gF) (b : gL) (sz : Nat) (nn nl nc : Nat) (pt : Int32) (hnn : I 1 7 = nI nn) (hnn2 : nn ≤ 5) (hnl : I 4 7 = nI nl) (hnl2 : nl ≤ 21) (hnc : I 4 8 = nI nc) (hnc2 : nc ≤ 5) (hbas : d_nat (a 15) nl) (hout : d_nat (a 16) nc) : gMl l yX2_leastCost wsX2_leastCost ({ frames := 5, cells := 0, slots := 0, locals := 132 }) D ad cy I J a b sz [.ref (ad 2), .int pt] (fun r u => r = s_part (s_sum (s_ffA I J a b nn nl nc) (s_ffB I J a b nn nl nc) nn) (s_ffJ I J a b nn nl nc 2 4) pt ∧ u = (s_ffI I, s_ffJ I J a b nn nl nc, s_ffA I J a b nn nl nc, s_ffB I J a b nn nl nc)) := by
  refine Met.ofW (cc := cX2_leastCost) (maxL := 5) (ret := some .long) (by decide) rfl ?_
  intro p e s m args below meth c s₁ B hml hv
  obtain ⟨hargs, hsz, G⟩ := gx_begin hv
  subst hsz
  have hx := B.exec
  have hb := B.bytes
  have hr := B.returns
  have hts := atoms_spec (ws := wsX2_leastCost) B.pre
  have hown : s.vm.findClass RX2 = some m.cls := findClass_of_methodNamed B.named
  have hlocks := B.notSynchronized
  have hinX1 : ∀ w ∈ wsX10, w ∈ wsX2_leastCost := by decide +kernel
  have hinX2 : ∀ w ∈ wsX20, w ∈ wsX2_leastCost := by decide +kernel
  have lk22 := hts (.fieldLink RX2 22 "ExactSimplex$Solver" "firstBest" "[J") (by decide +kernel)
  have lk26 := hts (.fieldLink RX2 26 "ExactSimplex$Solver" "firstBestUnder" "J") (by decide +kernel)
  have lk30 := hts (.fieldLink RX2 30 "ExactSimplex$Solver" "problem" "LExactSimplex$Problem;") (by decide +kernel)
  have lk58 := hts (.fieldLink RX2 58 "ExactSimplex$Problem" "names" "I") (by decide +kernel)
  have lk64 := hts (.fieldLink RX2 64 "ExactSimplex$Problem" "costs" "[I") (by decide +kernel)
  have hl := lv_entry ([.ref (ad 2), .int pt]) (n := 5) (Nat.le_of_ble_eq_true rfl)
  have hent := lg_entry_eq m ([.ref (ad 2), .int pt]) 5
  rw [← hargs] at hent
  rw [hent]
  clear hent
  generalize (lg_sl ([.ref (ad 2), .int pt]) ++ List.replicate (5 - (lg_sl ([.ref (ad 2), .int pt])).length) Slot.unset).toArray = ls at hl ⊢
  have hl : lv_has ls 5 [(0, .ref (ad 2)), (1, .int pt)] := hl
  generalize hA : gA ad s.heap.size = A at G ⊢
  generalize hH : s.heap = H at G ⊢
  refine gx_q (fun Q hQ => ?_)
  refine lv_aload_n hx hb dX2_leastCost_0 rfl (lv_at hl 0 rfl) ?_
  refine gx_dVv (I1 := (s_ffI I)) (J1 := (s_ffJ I J a b nn nl nc)) (a1 := (s_ffA I J a b nn nl nc)) (b1 := (s_ffB I J a b nn nl nc)) (As := []) (rest := []) ⟨hx, hb, hml, hown, hts⟩ G 2 (kX2_findFirstBest l D ad cy I J a b H.size nn nl nc hnn hnn2 hnl hnl2 hnc hnc2 hbas hout) (cwV 0 hts gX2_leastCost_X2_findFirstBest rfl rfl rfl (by decide +kernel) ⟨Nat.le_of_ble_eq_true rfl, Nat.le_of_ble_eq_true rfl⟩) (by decide) rfl rfl rfl rfl hl.1 rfl (Nat.le_of_ble_eq_true rfl) ⟨Nat.zero_le _, Nat.zero_le _⟩ dX2_leastCost_1 (fun H locs G => ?_)
  refine lv_lconst (v := 0) hx hb dX2_leastCost_4 (by decide) ?_
  refine lv_lstore_n (lv' := [(2, .long 0), (0, .ref (ad 2)), (1, .int pt)]) hx hb dX2_leastCost_5 rfl hl (by decide) rfl (fun ls hl => ?_)
  refine lv_iconst (v := 0) hx hb dX2_leastCost_6 (by decide) ?_
  refine lv_istore (lv' := [(4, .int 0), (2, .long 0), (0, .ref (ad 2)), (1, .int pt)]) hx hb dX2_leastCost_7 hl (by decide) rfl (fun ls hl => ?_)
  have K9 : ∀ (nf : Nat) (r : Nat) (H : Heap) (locs : List Loc) (ls : Array Slot), (r ≤ nn) → nn - r < nf → GG D ad cy A s (s_ffI I) (s_ffJ I J a b nn nl nc) (s_ffA I J a b nn nl nc) (s_ffB I J a b nn nl nc) H locs → lv_has ls 5 [(0, .ref (ad 2)), (1, .int pt), (2, .long (s_sum (s_ffA I J a b nn nl nc) (s_ffB I J a b nn nl nc) r)), (4, .int (nI r))] → W p l e ({ frames := 5, cells := 0, slots := 0, locals := 132 }) s m args below meth c H locs 0 0 Q (F0 m 9 ls []) := by
    intro nf
    induction nf with
    | zero => exact fun _ _ _ _ _ hz => absurd hz (Nat.not_lt_zero _)
    | succ nf ih =>
      intro r H locs ls h1 hmeas G hl
      have ih9 := ih
      clear ih
      refine lv_iload hx hb dX2_leastCost_9 (lv_at hl 3 rfl) ?_
      refine lv_aload_n hx hb dX2_leastCost_11 rfl (lv_at hl 0 rfl) ?_
      refine gx_get hx hb hts hinX2 hown G 2 (by decide) rfl rfl 0 (by decide) rfl lk30 rfl (v := .ref (ad 1)) rfl dX2_leastCost_12 ?_
      refine gx_get hx hb hts hinX1 hown G 1 (by decide) rfl rfl 7 (by decide) rfl lk58 rfl (v := .int ((s_ffI I) 1 7)) rfl dX2_leastCost_15 ?_
      refine lv_icmp_ge (tgt := 49) hx hb dX2_leastCost_18 (by decide) (fun c18 => ?_) (fun c18 => ?_)
      · skip
        have n18 := gn_le (X := nn) (Y := r) ((s_ffI_k (Or.inl (by decide))).trans hnn) rfl (by omega) (by omega) c18
        have hex : r = nn := by omega
        rw [hex] at hl
        refine lv_lload_n hx hb dX2_leastCost_49 rfl (lv_at hl 2 rfl) ?_
        refine lv_aload_n hx hb dX2_leastCost_50 rfl (lv_at hl 0 rfl) ?_
        refine gx_get hx hb hts hinX2 hown G 2 (by decide) rfl rfl 4 (by decide) rfl lk26 rfl (v := .long ((s_ffJ I J a b nn nl nc) 2 4)) rfl dX2_leastCost_51 ?_
        refine lv_iload_n hx hb dX2_leastCost_54 rfl (lv_at hl 1 rfl) ?_
        refine gx_dSl (v := (s_part (s_sum (s_ffA I J a b nn nl nc) (s_ffB I J a b nn nl nc) nn) (s_ffJ I J a b nn nl nc 2 4) pt)) (I1 := (s_ffI I)) (J1 := (s_ffJ I J a b nn nl nc)) (a1 := (s_ffA I J a b nn nl nc)) (b1 := (s_ffB I J a b nn nl nc)) (As := [.long (s_sum (s_ffA I J a b nn nl nc) (s_ffB I J a b nn nl nc) nn), .long ((s_ffJ I J a b nn nl nc) 2 4), .int pt]) (rest := []) ⟨hx, hb, hml, hown, hts⟩ G (kX2_partOf l D ad cy (s_ffI I) (s_ffJ I J a b nn nl nc) (s_ffA I J a b nn nl nc) (s_ffB I J a b nn nl nc) H.size (s_sum (s_ffA I J a b nn nl nc) (s_ffB I J a b nn nl nc) nn) (s_ffJ I J a b nn nl nc 2 4) pt) (va_cwS 3 hts gX2_leastCost_X2_partOf rfl rfl rfl (by decide +kernel) ⟨Nat.le_of_ble_eq_true rfl, Nat.le_of_ble_eq_true rfl⟩) rfl hl.1 rfl (Nat.le_of_ble_eq_true rfl) ⟨Nat.zero_le _, Nat.zero_le _⟩ dX2_leastCost_55 (fun H locs G => ?_)
        exact gx_lr hx hb hr hlocks G hQ ⟨by first | rfl | (simp only [s_sum, c18, reduceIte]; done) | (simp [s_sum, c18, reduceIte]; done), rfl⟩ dX2_leastCost_58
      · skip
        have n18 := gn_nle (X := nn) (Y := r) ((s_ffI_k (Or.inl (by decide))).trans hnn) rfl (by omega) (by omega) c18
        refine lv_lload_n hx hb dX2_leastCost_21 rfl (lv_at hl 2 rfl) ?_
        refine lv_aload_n hx hb dX2_leastCost_22 rfl (lv_at hl 0 rfl) ?_
        refine gx_get hx hb hts hinX2 hown G 2 (by decide) rfl rfl 0 (by decide) rfl lk30 rfl (v := .ref (ad 1)) rfl dX2_leastCost_23 ?_
        refine gx_get hx hb hts hinX1 hown G 1 (by decide) rfl rfl 2 (by decide) rfl lk64 rfl (v := .ref (ad 8)) rfl dX2_leastCost_26 ?_
        refine lv_iload hx hb dX2_leastCost_29 (lv_at hl 3 rfl) ?_
        refine gx_iald hx hb G 8 (by decide) (rfl) (by decide) r rfl (by omega) dX2_leastCost_31 ?_
        refine lv_i2l (v := ((s_ffA I J a b nn nl nc) 8 r).toInt64) hx hb dX2_leastCost_32 rfl ?_
        refine lv_aload_n hx hb dX2_leastCost_33 rfl (lv_at hl 0 rfl) ?_
        refine gx_get hx hb hts hinX2 hown G 2 (by decide) rfl rfl 3 (by decide) rfl lk22 rfl (v := .ref (ad 20)) rfl dX2_leastCost_34 ?_
        refine lv_iload hx hb dX2_leastCost_37 (lv_at hl 3 rfl) ?_
        refine gx_lald hx hb G 20 (by decide) (rfl) (by decide) r rfl (by omega) dX2_leastCost_39 ?_
        refine lv_lmul hx hb dX2_leastCost_40 ?_
        refine lv_ladd hx hb dX2_leastCost_41 ?_
        refine lv_topl (fun x_1 ex_1 => ?_)
        refine lv_lstore_n (lv' := [(2, .long x_1), (0, .ref (ad 2)), (1, .int pt), (4, .int (nI r))]) hx hb dX2_leastCost_42 rfl hl (by decide) rfl (fun ls hl => ?_)
        refine lv_iinc (v := (nI (r + 1))) (lv' := [(4, .int (nI (r + 1))), (2, .long x_1), (0, .ref (ad 2)), (1, .int pt)]) hx hb dX2_leastCost_43 hl (k := 3) rfl (gn_add (X := r) (Y := 1) rfl rfl) (by decide) rfl (fun ls hl => ?_)
        refine lv_goto (tgt := 9) hx hb dX2_leastCost_46 (by decide) ?_
        have q2 : x_1 = s_sum (s_ffA I J a b nn nl nc) (s_ffB I J a b nn nl nc) (r + 1) := by rw [ex_1]; first | rfl | (simp only [s_sum, c18, reduceIte]; done) | (simp [s_sum, c18, reduceIte]; done)
        rw [q2] at hl
        exact ih9  (r + 1) _ _ _ (by omega) (by omega) G (lv_sub hl [2, 3, 1, 0] rfl)
  exact K9 (nn - 0 + 1) 0 _ _ _ (by omega) (Nat.lt_succ_self _) G (lv_sub hl [2, 3, 1, 0] rfl)

set_option maxHeartbeats 4000000 in
set_option maxRecDepth 100000 in
theorem kX2_firstBestOf (l : Launch) (D : va_G) (ad : Nat → Nat) (cy : Nat → ClassId) (I : gF) (J : gL) (a : gF) (b : gL) (sz : Nat) (nn nl nc n0 : Nat) (pt : Int32) (hnn : I 1 7 = nI nn) (hnn2 : nn ≤ 5) (hnl : I 4 7 = nI nl) (hnl2 : nl ≤ 21) (hnc : I 4 8 = nI nc) (hnc2 : nc ≤ 5) (hbas : d_nat (a 15) nl) (hout : d_nat (a 16) nc) (hn0 : n0 < 5) : gMl l yX2_firstBestOf wsX2_firstBestOf ({ frames := 5, cells := 0, slots := 0, locals := 132 }) D ad cy I J a b sz [.ref (ad 2), .int (nI n0), .int pt] (fun r u => r = s_part (s_ffB I J a b nn nl nc 20 n0) (s_ffJ I J a b nn nl nc 2 4) pt ∧ u = (s_ffI I, s_ffJ I J a b nn nl nc, s_ffA I J a b nn nl nc, s_ffB I J a b nn nl nc)) := by
  refine Met.ofW (cc := cX2_firstBestOf) (maxL := 3) (ret := some .long) (by decide) rfl ?_
  intro p e s m args below meth c s₁ B hml hv
  obtain ⟨hargs, hsz, G⟩ := gx_begin hv
  subst hsz
  have hx := B.exec
  have hb := B.bytes
  have hr := B.returns
  have hts := atoms_spec (ws := wsX2_firstBestOf) B.pre
  have hown : s.vm.findClass RX2 = some m.cls := findClass_of_methodNamed B.named
  have hlocks := B.notSynchronized
  have hinX2 : ∀ w ∈ wsX20, w ∈ wsX2_firstBestOf := by decide +kernel
  have lk22 := hts (.fieldLink RX2 22 "ExactSimplex$Solver" "firstBest" "[J") (by decide +kernel)
  have lk26 := hts (.fieldLink RX2 26 "ExactSimplex$Solver" "firstBestUnder" "J") (by decide +kernel)
  have hl := lv_entry ([.ref (ad 2), .int (nI n0), .int pt]) (n := 3) (Nat.le_of_ble_eq_true rfl)
  have hent := lg_entry_eq m ([.ref (ad 2), .int (nI n0), .int pt]) 3
  rw [← hargs] at hent
  rw [hent]
  clear hent
  generalize (lg_sl ([.ref (ad 2), .int (nI n0), .int pt]) ++ List.replicate (3 - (lg_sl ([.ref (ad 2), .int (nI n0), .int pt])).length) Slot.unset).toArray = ls at hl ⊢
  have hl : lv_has ls 3 [(0, .ref (ad 2)), (1, .int (nI n0)), (2, .int pt)] := hl
  generalize hA : gA ad s.heap.size = A at G ⊢
  generalize hH : s.heap = H at G ⊢
  refine gx_q (fun Q hQ => ?_)
  refine lv_aload_n hx hb dX2_firstBestOf_0 rfl (lv_at hl 0 rfl) ?_
  refine gx_dVv (I1 := (s_ffI I)) (J1 := (s_ffJ I J a b nn nl nc)) (a1 := (s_ffA I J a b nn nl nc)) (b1 := (s_ffB I J a b nn nl nc)) (As := []) (rest := []) ⟨hx, hb, hml, hown, hts⟩ G 2 (kX2_findFirstBest l D ad cy I J a b H.size nn nl nc hnn hnn2 hnl hnl2 hnc hnc2 hbas hout) (cwV 0 hts gX2_firstBestOf_X2_findFirstBest rfl rfl rfl (by decide +kernel) ⟨Nat.le_of_ble_eq_true rfl, Nat.le_of_ble_eq_true rfl⟩) (by decide) rfl rfl rfl rfl hl.1 rfl (Nat.le_of_ble_eq_true rfl) ⟨Nat.zero_le _, Nat.zero_le _⟩ dX2_firstBestOf_1 (fun H locs G => ?_)
  refine lv_aload_n hx hb dX2_firstBestOf_4 rfl (lv_at hl 0 rfl) ?_
  refine gx_get hx hb hts hinX2 hown G 2 (by decide) rfl rfl 3 (by decide) rfl lk22 rfl (v := .ref (ad 20)) rfl dX2_firstBestOf_5 ?_
  refine lv_iload_n hx hb dX2_firstBestOf_8 rfl (lv_at hl 1 rfl) ?_
  refine gx_lald hx hb G 20 (by decide) (rfl) (by decide) n0 rfl (by omega) dX2_firstBestOf_9 ?_
  refine lv_aload_n hx hb dX2_firstBestOf_10 rfl (lv_at hl 0 rfl) ?_
  refine gx_get hx hb hts hinX2 hown G 2 (by decide) rfl rfl 4 (by decide) rfl lk26 rfl (v := .long ((s_ffJ I J a b nn nl nc) 2 4)) rfl dX2_firstBestOf_11 ?_
  refine lv_iload_n hx hb dX2_firstBestOf_14 rfl (lv_at hl 2 rfl) ?_
  refine gx_dSl (v := (s_part (s_ffB I J a b nn nl nc 20 n0) (s_ffJ I J a b nn nl nc 2 4) pt)) (I1 := (s_ffI I)) (J1 := (s_ffJ I J a b nn nl nc)) (a1 := (s_ffA I J a b nn nl nc)) (b1 := (s_ffB I J a b nn nl nc)) (As := [.long ((s_ffB I J a b nn nl nc) 20 n0), .long ((s_ffJ I J a b nn nl nc) 2 4), .int pt]) (rest := []) ⟨hx, hb, hml, hown, hts⟩ G (kX2_partOf l D ad cy (s_ffI I) (s_ffJ I J a b nn nl nc) (s_ffA I J a b nn nl nc) (s_ffB I J a b nn nl nc) H.size (s_ffB I J a b nn nl nc 20 n0) (s_ffJ I J a b nn nl nc 2 4) pt) (va_cwS 3 hts gX2_firstBestOf_X2_partOf rfl rfl rfl (by decide +kernel) ⟨Nat.le_of_ble_eq_true rfl, Nat.le_of_ble_eq_true rfl⟩) rfl hl.1 rfl (Nat.le_of_ble_eq_true rfl) ⟨Nat.zero_le _, Nat.zero_le _⟩ dX2_firstBestOf_15 (fun H locs G => ?_)
  exact gx_lr hx hb hr hlocks G hQ ⟨by first | rfl | (simp only [reduceIte]; done) | (simp [reduceIte]; done), rfl⟩ dX2_firstBestOf_18

set_option maxHeartbeats 4000000 in
set_option maxRecDepth 100000 in
theorem kX2_isTight (l : Launch) (D : va_G) (ad : Nat → Nat) (cy : Nat → ClassId) (I : gF) (J : gL) (a : gF) (b : gL) (sz : Nat) (nn nl nc r0 : Nat) (hnn : I 1 7 = nI nn) (hnn2 : nn ≤ 5) (hnl : I 4 7 = nI nl) (hnl2 : nl ≤ 21) (hnc : I 4 8 = nI nc) (hnc2 : nc ≤ 5) (hbas : d_nat (a 15) nl) (hout : d_nat (a 16) nc) (hr8 : r0 < 8) : gMi l yX2_isTight wsX2_isTight ({ frames := 5, cells := 0, slots := 0, locals := 132 }) D ad cy I J a b sz [.ref (ad 2), .int (nI r0)] (fun r u => r = (if s_tsum (s_ffA I J a b nn nl nc) (s_ffB I J a b nn nl nc) r0 nn = (s_ffA I J a b nn nl nc 10 r0).toInt64 * s_ffJ I J a b nn nl nc 2 4 then 1 else 0) ∧ u = (s_ffI I, s_ffJ I J a b nn nl nc, s_ffA I J a b nn nl nc, s_ffB I J a b nn nl nc)) := by
  refine Met.ofW (cc := cX2_isTight) (maxL := 5) (ret := some .boolean) (by decide) rfl ?_
  intro p e s m args below meth c s₁ B hml hv
  obtain ⟨hargs, hsz, G⟩ := gx_begin hv
  subst hsz
  have hx := B.exec
  have hb := B.bytes
  have hr := B.returns
  have hts := atoms_spec (ws := wsX2_isTight) B.pre
  have hown : s.vm.findClass RX2 = some m.cls := findClass_of_methodNamed B.named
  have hlocks := B.notSynchronized
  have hinX1 : ∀ w ∈ wsX10, w ∈ wsX2_isTight := by decide +kernel
  have hinX2 : ∀ w ∈ wsX20, w ∈ wsX2_isTight := by decide +kernel
  have lk22 := hts (.fieldLink RX2 22 "ExactSimplex$Solver" "firstBest" "[J") (by decide +kernel)
  have lk26 := hts (.fieldLink RX2 26 "ExactSimplex$Solver" "firstBestUnder" "J") (by decide +kernel)
  have lk30 := hts (.fieldLink RX2 30 "ExactSimplex$Solver" "problem" "LExactSimplex$Problem;") (by decide +kernel)
  have lk58 := hts (.fieldLink RX2 58 "ExactSimplex$Problem" "names" "I") (by decide +kernel)
  have lk71 := hts (.fieldLink RX2 71 "ExactSimplex$Problem" "factors" "[[I") (by decide +kernel)
  have lk75 := hts (.fieldLink RX2 75 "ExactSimplex$Problem" "rights" "[I") (by decide +kernel)
  have hl := lv_entry ([.ref (ad 2), .int (nI r0)]) (n := 5) (Nat.le_of_ble_eq_true rfl)
  have hent := lg_entry_eq m ([.ref (ad 2), .int (nI r0)]) 5
  rw [← hargs] at hent
  rw [hent]
  clear hent
  generalize (lg_sl ([.ref (ad 2), .int (nI r0)]) ++ List.replicate (5 - (lg_sl ([.ref (ad 2), .int (nI r0)])).length) Slot.unset).toArray = ls at hl ⊢
  have hl : lv_has ls 5 [(0, .ref (ad 2)), (1, .int (nI r0))] := hl
  generalize hA : gA ad s.heap.size = A at G ⊢
  generalize hH : s.heap = H at G ⊢
  refine gx_q (fun Q hQ => ?_)
  refine lv_aload_n hx hb dX2_isTight_0 rfl (lv_at hl 0 rfl) ?_
  refine gx_dVv (I1 := (s_ffI I)) (J1 := (s_ffJ I J a b nn nl nc)) (a1 := (s_ffA I J a b nn nl nc)) (b1 := (s_ffB I J a b nn nl nc)) (As := []) (rest := []) ⟨hx, hb, hml, hown, hts⟩ G 2 (kX2_findFirstBest l D ad cy I J a b H.size nn nl nc hnn hnn2 hnl hnl2 hnc hnc2 hbas hout) (cwV 0 hts gX2_isTight_X2_findFirstBest rfl rfl rfl (by decide +kernel) ⟨Nat.le_of_ble_eq_true rfl, Nat.le_of_ble_eq_true rfl⟩) (by decide) rfl rfl rfl rfl hl.1 rfl (Nat.le_of_ble_eq_true rfl) ⟨Nat.zero_le _, Nat.zero_le _⟩ dX2_isTight_1 (fun H locs G => ?_)
  refine lv_lconst (v := 0) hx hb dX2_isTight_4 (by decide) ?_
  refine lv_lstore_n (lv' := [(2, .long 0), (0, .ref (ad 2)), (1, .int (nI r0))]) hx hb dX2_isTight_5 rfl hl (by decide) rfl (fun ls hl => ?_)
  refine lv_iconst (v := 0) hx hb dX2_isTight_6 (by decide) ?_
  refine lv_istore (lv' := [(4, .int 0), (2, .long 0), (0, .ref (ad 2)), (1, .int (nI r0))]) hx hb dX2_isTight_7 hl (by decide) rfl (fun ls hl => ?_)
  have K9 : ∀ (nf : Nat) (r : Nat) (H : Heap) (locs : List Loc) (ls : Array Slot), (r ≤ nn) → nn - r < nf → GG D ad cy A s (s_ffI I) (s_ffJ I J a b nn nl nc) (s_ffA I J a b nn nl nc) (s_ffB I J a b nn nl nc) H locs → lv_has ls 5 [(0, .ref (ad 2)), (1, .int (nI r0)), (2, .long (s_tsum (s_ffA I J a b nn nl nc) (s_ffB I J a b nn nl nc) r0 r)), (4, .int (nI r))] → W p l e ({ frames := 5, cells := 0, slots := 0, locals := 132 }) s m args below meth c H locs 0 0 Q (F0 m 9 ls []) := by
    intro nf
    induction nf with
    | zero => exact fun _ _ _ _ _ hz => absurd hz (Nat.not_lt_zero _)
    | succ nf ih =>
      intro r H locs ls h1 hmeas G hl
      have ih9 := ih
      clear ih
      refine lv_iload hx hb dX2_isTight_9 (lv_at hl 3 rfl) ?_
      refine lv_aload_n hx hb dX2_isTight_11 rfl (lv_at hl 0 rfl) ?_
      refine gx_get hx hb hts hinX2 hown G 2 (by decide) rfl rfl 0 (by decide) rfl lk30 rfl (v := .ref (ad 1)) rfl dX2_isTight_12 ?_
      refine gx_get hx hb hts hinX1 hown G 1 (by decide) rfl rfl 7 (by decide) rfl lk58 rfl (v := .int ((s_ffI I) 1 7)) rfl dX2_isTight_15 ?_
      refine lv_icmp_ge (tgt := 51) hx hb dX2_isTight_18 (by decide) (fun c18 => ?_) (fun c18 => ?_)
      · skip
        have n18 := gn_le (X := nn) (Y := r) ((s_ffI_k (Or.inl (by decide))).trans hnn) rfl (by omega) (by omega) c18
        have hex : r = nn := by omega
        rw [hex] at hl
        refine lv_lload_n hx hb dX2_isTight_51 rfl (lv_at hl 2 rfl) ?_
        refine lv_aload_n hx hb dX2_isTight_52 rfl (lv_at hl 0 rfl) ?_
        refine gx_get hx hb hts hinX2 hown G 2 (by decide) rfl rfl 0 (by decide) rfl lk30 rfl (v := .ref (ad 1)) rfl dX2_isTight_53 ?_
        refine gx_get hx hb hts hinX1 hown G 1 (by decide) rfl rfl 4 (by decide) rfl lk75 rfl (v := .ref (ad 10)) rfl dX2_isTight_56 ?_
        refine lv_iload_n hx hb dX2_isTight_59 rfl (lv_at hl 1 rfl) ?_
        refine gx_iald hx hb G 10 (by decide) (rfl) (by decide) r0 rfl (by omega) dX2_isTight_60 ?_
        refine lv_i2l (v := ((s_ffA I J a b nn nl nc) 10 r0).toInt64) hx hb dX2_isTight_61 rfl ?_
        refine lv_aload_n hx hb dX2_isTight_62 rfl (lv_at hl 0 rfl) ?_
        refine gx_get hx hb hts hinX2 hown G 2 (by decide) rfl rfl 4 (by decide) rfl lk26 rfl (v := .long ((s_ffJ I J a b nn nl nc) 2 4)) rfl dX2_isTight_63 ?_
        refine lv_lmul hx hb dX2_isTight_66 ?_
        refine gx_lc_ne (tgt := 75) hx hb dX2_isTight_67 dX2_isTight_68 (by decide) (fun c68 => ?_) (fun c68 => ?_)
        · skip
          refine lv_iconst (v := 0) hx hb dX2_isTight_75 (by decide) ?_
          exact gx_zr hx hb hr hlocks G hQ (rfl) ⟨by simp only [c18, c68, reduceIte], rfl⟩ dX2_isTight_76
        · skip
          refine lv_iconst (v := 1) hx hb dX2_isTight_71 (by decide) ?_
          refine lv_goto (tgt := 76) hx hb dX2_isTight_72 (by decide) ?_
          exact gx_zr hx hb hr hlocks G hQ (rfl) ⟨by simp only [c18, c68, reduceIte], rfl⟩ dX2_isTight_76
      · skip
        have n18 := gn_nle (X := nn) (Y := r) ((s_ffI_k (Or.inl (by decide))).trans hnn) rfl (by omega) (by omega) c18
        refine lv_lload_n hx hb dX2_isTight_21 rfl (lv_at hl 2 rfl) ?_
        refine lv_aload_n hx hb dX2_isTight_22 rfl (lv_at hl 0 rfl) ?_
        refine gx_get hx hb hts hinX2 hown G 2 (by decide) rfl rfl 0 (by decide) rfl lk30 rfl (v := .ref (ad 1)) rfl dX2_isTight_23 ?_
        refine gx_get hx hb hts hinX1 hown G 1 (by decide) rfl rfl 5 (by decide) rfl lk71 rfl (v := .ref (ad 11)) rfl dX2_isTight_26 ?_
        refine lv_iload_n hx hb dX2_isTight_29 rfl (lv_at hl 1 rfl) ?_
        refine gx_aald hx hb G 11 (by decide) rfl (Or.inl rfl) (by decide) r0 rfl (by omega) dX2_isTight_30 ?_
        refine lv_iload hx hb dX2_isTight_31 (lv_at hl 3 rfl) ?_
        refine gx_iald hx hb G (40 + r0) (by omega) (gsh_F _ (by omega)) (by decide) r rfl (by omega) dX2_isTight_33 ?_
        refine lv_i2l (v := ((s_ffA I J a b nn nl nc) (40 + r0) r).toInt64) hx hb dX2_isTight_34 rfl ?_
        refine lv_aload_n hx hb dX2_isTight_35 rfl (lv_at hl 0 rfl) ?_
        refine gx_get hx hb hts hinX2 hown G 2 (by decide) rfl rfl 3 (by decide) rfl lk22 rfl (v := .ref (ad 20)) rfl dX2_isTight_36 ?_
        refine lv_iload hx hb dX2_isTight_39 (lv_at hl 3 rfl) ?_
        refine gx_lald hx hb G 20 (by decide) (rfl) (by decide) r rfl (by omega) dX2_isTight_41 ?_
        refine lv_lmul hx hb dX2_isTight_42 ?_
        refine lv_ladd hx hb dX2_isTight_43 ?_
        refine lv_topl (fun x_1 ex_1 => ?_)
        refine lv_lstore_n (lv' := [(2, .long x_1), (0, .ref (ad 2)), (1, .int (nI r0)), (4, .int (nI r))]) hx hb dX2_isTight_44 rfl hl (by decide) rfl (fun ls hl => ?_)
        refine lv_iinc (v := (nI (r + 1))) (lv' := [(4, .int (nI (r + 1))), (2, .long x_1), (0, .ref (ad 2)), (1, .int (nI r0))]) hx hb dX2_isTight_45 hl (k := 3) rfl (gn_add (X := r) (Y := 1) rfl rfl) (by decide) rfl (fun ls hl => ?_)
        refine lv_goto (tgt := 9) hx hb dX2_isTight_48 (by decide) ?_
        have q2 : x_1 = s_tsum (s_ffA I J a b nn nl nc) (s_ffB I J a b nn nl nc) r0 (r + 1) := by rw [ex_1]; first | rfl | (simp only [s_tsum, c18, reduceIte]; done) | (simp [s_tsum, c18, reduceIte]; done)
        rw [q2] at hl
        exact ih9  (r + 1) _ _ _ (by omega) (by omega) G (lv_sub hl [2, 3, 1, 0] rfl)
  exact K9 (nn - 0 + 1) 0 _ _ _ (by omega) (Nat.lt_succ_self _) G (lv_sub hl [2, 3, 1, 0] rfl)

set_option maxHeartbeats 4000000 in
set_option maxRecDepth 100000 in
theorem kX2_findBarred (l : Launch) (D : va_G) (ad : Nat → Nat) (cy : Nat → ClassId) (I : gF) (J : gL) (a : gF) (b : gL) (sz : Nat) (nn nr : Nat) (hnn : I 1 7 = nI nn) (hnn2 : nn ≤ 5) (hnr : I 1 8 = nI nr) (hnr2 : nr ≤ 8) : gMv l yX2_findBarred wsX2_findBarred ({ frames := 4, cells := 0, slots := 0, locals := 112 }) D ad cy I J a b sz [.ref (ad 2)] (fun u => u = (s_brI I J a b nn nr, s_brJ I J a b nn nr, s_brA I J a b nn nr, s_brB I J a b nn nr)) := by
  refine Met.ofW (cc := cX2_findBarred) (maxL := 4) (ret := none) (by decide) rfl ?_
  intro p e s m args below meth c s₁ B hml hv
  obtain ⟨hargs, hsz, G⟩ := gx_begin hv
  subst hsz
  have hx := B.exec
  have hb := B.bytes
  have hr := B.returns
  have hts := atoms_spec (ws := wsX2_findBarred) B.pre
  have hown : s.vm.findClass RX2 = some m.cls := findClass_of_methodNamed B.named
  have hlocks := B.notSynchronized
  have hinX1 : ∀ w ∈ wsX10, w ∈ wsX2_findBarred := by decide +kernel
  have hinX2 : ∀ w ∈ wsX20, w ∈ wsX2_findBarred := by decide +kernel
  have lk30 := hts (.fieldLink RX2 30 "ExactSimplex$Solver" "problem" "LExactSimplex$Problem;") (by decide +kernel)
  have lk41 := hts (.fieldLink RX2 41 "ExactSimplex$Solver" "barredKnown" "Z") (by decide +kernel)
  have lk91 := hts (.fieldLink RX2 91 "ExactSimplex$Problem" "rows" "I") (by decide +kernel)
  have lk94 := hts (.fieldLink RX2 94 "ExactSimplex$Solver" "barredSet" "I") (by decide +kernel)
  have hl := lv_entry ([.ref (ad 2)]) (n := 4) (Nat.le_of_ble_eq_true rfl)
  have hent := lg_entry_eq m ([.ref (ad 2)]) 4
  rw [← hargs] at hent
  rw [hent]
  clear hent
  generalize (lg_sl ([.ref (ad 2)]) ++ List.replicate (4 - (lg_sl ([.ref (ad 2)])).length) Slot.unset).toArray = ls at hl ⊢
  have hl : lv_has ls 4 [(0, .ref (ad 2))] := hl
  generalize hA : gA ad s.heap.size = A at G ⊢
  generalize hH : s.heap = H at G ⊢
  refine gx_q (fun Q hQ => ?_)
  refine lv_aload_n hx hb dX2_findBarred_0 rfl (lv_at hl 0 rfl) ?_
  refine gx_get hx hb hts hinX2 hown G 2 (by decide) rfl rfl 8 (by decide) rfl lk41 rfl (v := .int (I 2 8)) rfl dX2_findBarred_1 ?_
  refine lv_if_eq (tgt := 8) hx hb dX2_findBarred_4 (by decide) (fun c4 => ?_) (fun c4 => ?_)
  · skip
    refine lv_aload_n hx hb dX2_findBarred_8 rfl (lv_at hl 0 rfl) ?_
    refine gx_dVi (v := (s_all a nr)) (I1 := I) (J1 := J) (a1 := a) (b1 := b) (As := []) (rest := []) ⟨hx, hb, hml, hown, hts⟩ G 2 (kX2_allRows l D ad cy I J a b H.size nr hnr hnr2) (cwV 0 hts gX2_findBarred_X2_allRows rfl rfl rfl (by decide +kernel) ⟨Nat.le_of_ble_eq_true rfl, Nat.le_of_ble_eq_true rfl⟩) (by decide) rfl rfl rfl rfl hl.1 rfl (Nat.le_of_ble_eq_true rfl) ⟨Nat.zero_le _, Nat.zero_le _⟩ dX2_findBarred_9 (fun H locs G => ?_)
    refine lv_istore_n (lv' := [(1, .int (s_all a nr)), (0, .ref (ad 2))]) hx hb dX2_findBarred_12 rfl hl (by decide) rfl (fun ls hl => ?_)
    refine lv_aload_n hx hb dX2_findBarred_13 rfl (lv_at hl 1 rfl) ?_
    refine gx_get hx hb hts hinX2 hown G 2 (by decide) rfl rfl 0 (by decide) rfl lk30 rfl (v := .ref (ad 1)) rfl dX2_findBarred_14 ?_
    refine gx_get hx hb hts hinX1 hown G 1 (by decide) rfl rfl 8 (by decide) rfl lk91 rfl (v := .int (I 1 8)) rfl dX2_findBarred_17 ?_
    refine lv_iconst (v := 1) hx hb dX2_findBarred_20 (by decide) ?_
    refine lv_isub hx hb dX2_findBarred_21 ?_
    refine lv_istore_n (lv' := [(2, .int ((I 1 8) - 1)), (1, .int (s_all a nr)), (0, .ref (ad 2))]) hx hb dX2_findBarred_22 rfl hl (by decide) rfl (fun ls hl => ?_)
    have K23 : ∀ (nf : Nat) (k : Nat) (set : Int32) (I2 : gF) (J2 : gL) (a2 : gF) (b2 : gL) (H : Heap) (locs : List Loc) (ls : Array Slot), (k ≤ nr) → (s_fbar I J a b nn nr = s_bar nn nr k (set, I2, J2, a2, b2)) → (I2 1 7 = nI nn) → (I2 1 8 = nI nr) → k < nf → GG D ad cy A s I2 J2 a2 b2 H locs → lv_has ls 4 [(0, .ref (ad 2)), (1, .int set), (2, .int (nI k - 1))] → W p l e ({ frames := 4, cells := 0, slots := 0, locals := 112 }) s m args below meth c H locs 0 0 Q (F0 m 23 ls []) := by
      intro nf
      induction nf with
      | zero => exact fun _ _ _ _ _ _ _ _ _ _ _ _ _ hz => absurd hz (Nat.not_lt_zero _)
      | succ nf ih =>
        intro k set I2 J2 a2 b2 H locs ls h1 h2 h17 h18 hmeas G hl
        have ih23 := ih
        clear ih
        refine lv_iload_n hx hb dX2_findBarred_23 rfl (lv_at hl 2 rfl) ?_
        refine lv_if_lt (tgt := 56) hx hb dX2_findBarred_24 (by decide) (fun c24 => ?_) (fun c24 => ?_)
        · skip
          have hk0 : k = 0 := by
            rcases Nat.eq_zero_or_pos k with h0 | h0
            · exact h0
            · exact absurd c24 (by rw [show k = (k - 1) + 1 by omega, nI_pred]; exact nI_pos (by omega))
          subst hk0
          refine lv_aload_n hx hb dX2_findBarred_56 rfl (lv_at hl 0 rfl) ?_
          refine lv_iload_n hx hb dX2_findBarred_57 rfl (lv_at hl 1 rfl) ?_
          refine gx_putI hx hb hts hinX2 tyX2 tyX2_ok nmX2 hown G 2 (by decide) rfl rfl 9 (by decide) rfl lk94 rfl rfl (tyX2_ok 9 (by decide)) (rfl) (rfl) dX2_findBarred_58 (fun H locs G => ?_)
          refine lv_aload_n hx hb dX2_findBarred_61 rfl (lv_at hl 0 rfl) ?_
          refine lv_iconst (v := 1) hx hb dX2_findBarred_62 (by decide) ?_
          refine gx_putI hx hb hts hinX2 tyX2 tyX2_ok nmX2 hown G 2 (by decide) rfl rfl 8 (by decide) rfl lk41 rfl rfl (tyX2_ok 8 (by decide)) (rfl) (rfl) dX2_findBarred_63 (fun H locs G => ?_)
          exact gx_vr hx hb hr hlocks G hQ (by simp only [s_brI, s_brJ, s_brA, s_brB, c4, reduceIte, h2, s_bar]) dX2_findBarred_66
        · skip
          have hk0 : 0 < k := by
            rcases Nat.eq_zero_or_pos k with h0 | h0
            · subst h0
              exact absurd (by decide) c24
            · exact h0
          obtain ⟨k1, rfl⟩ : ∃ k1, k = k1 + 1 := ⟨k - 1, by omega⟩
          rw [nI_pred] at hl
          refine lv_iload_n hx hb dX2_findBarred_27 rfl (lv_at hl 1 rfl) ?_
          refine lv_iconst (v := 1) hx hb dX2_findBarred_28 (by decide) ?_
          refine lv_iload_n hx hb dX2_findBarred_29 rfl (lv_at hl 2 rfl) ?_
          refine lv_ishl hx hb dX2_findBarred_30 ?_
          refine lv_iconst (v := -1) hx hb dX2_findBarred_31 (by decide) ?_
          refine lv_ixor hx hb dX2_findBarred_32 ?_
          refine lv_iand hx hb dX2_findBarred_33 ?_
          refine lv_istore_n (lv' := [(3, .int (set &&& ((1 <<< ((nI k1) &&& 31)) ^^^ (-1)))), (0, .ref (ad 2)), (1, .int set), (2, .int (nI k1))]) hx hb dX2_findBarred_34 rfl hl (by decide) rfl (fun ls hl => ?_)
          refine lv_iload_n hx hb dX2_findBarred_35 rfl (lv_at hl 0 rfl) ?_
          refine lv_iload_n hx hb dX2_findBarred_36 rfl (lv_at hl 2 rfl) ?_
          refine lv_icmp_eq (tgt := 50) hx hb dX2_findBarred_37 (by decide) (fun c37 => ?_) (fun c37 => ?_)
          · skip
            obtain ⟨x_1, ex_1⟩ : ∃ z : Int32, z = (nI k1) + -1 := ⟨_, rfl⟩
            refine lv_iinc (v := x_1) (lv' := [(2, .int x_1), (3, .int (set &&& ((1 <<< ((nI k1) &&& 31)) ^^^ (-1)))), (0, .ref (ad 2)), (1, .int set)]) hx hb dX2_findBarred_50 hl (k := 3) rfl ex_1.symm (by decide) rfl (fun ls hl => ?_)
            refine lv_goto (tgt := 23) hx hb dX2_findBarred_53 (by decide) ?_
            have q2 : x_1 = nI k1 - 1 := by rw [ex_1]; exact gx_m1 _
            rw [q2] at hl
            exact ih23  k1 set I2 J2 a2 b2 _ _ _ (by omega) (by rw [h2]; first | (have g37 : s_wo set k1 = set := c37; simp only [s_bar, g37, reduceIte]; done) | (have g37 : ¬ s_wo set k1 = set := c37; simp only [s_bar, s_ck, s_cx, g37, c45, reduceIte]; done)) (by first | exact h17 | exact (s_kI_k (by decide)).trans h17) (by first | exact h18 | exact (s_kI_k (by decide)).trans h18) (by omega) G (lv_sub hl [2, 3, 0] rfl)
          · skip
            refine lv_aload_n hx hb dX2_findBarred_40 rfl (lv_at hl 1 rfl) ?_
            refine lv_iload_n hx hb dX2_findBarred_41 rfl (lv_at hl 0 rfl) ?_
            refine gx_dVi (v := ((s_kf I2 J2 a2 b2 nn nr (s_wo set k1)).1)) (I1 := (s_kI I2 a2 b2 nn nr (s_wo set k1))) (J1 := ((s_kf I2 J2 a2 b2 nn nr (s_wo set k1)).2.1)) (a1 := ((s_kf I2 J2 a2 b2 nn nr (s_wo set k1)).2.2.1)) (b1 := ((s_kf I2 J2 a2 b2 nn nr (s_wo set k1)).2.2.2)) (As := [.int (set &&& ((1 <<< ((nI k1) &&& 31)) ^^^ (-1)))]) (rest := []) ⟨hx, hb, hml, hown, hts⟩ G 2 (kX2_canKeep l D ad cy I2 J2 a2 b2 H.size nn nr (s_wo set k1) h17 hnn2 h18 hnr2) (cwV 1 hts gX2_findBarred_X2_canKeep rfl rfl rfl (by decide +kernel) ⟨Nat.le_of_ble_eq_true rfl, Nat.le_of_ble_eq_true rfl⟩) (by decide) rfl rfl rfl rfl hl.1 rfl (Nat.le_of_ble_eq_true rfl) ⟨Nat.zero_le _, Nat.zero_le _⟩ dX2_findBarred_42 (fun H locs G => ?_)
            refine lv_if_ne (tgt := 50) hx hb dX2_findBarred_45 (by decide) (fun c45 => ?_) (fun c45 => ?_)
            · skip
              obtain ⟨x_2, ex_2⟩ : ∃ z : Int32, z = (nI k1) + -1 := ⟨_, rfl⟩
              refine lv_iinc (v := x_2) (lv' := [(2, .int x_2), (3, .int (set &&& ((1 <<< ((nI k1) &&& 31)) ^^^ (-1)))), (0, .ref (ad 2)), (1, .int set)]) hx hb dX2_findBarred_50 hl (k := 3) rfl ex_2.symm (by decide) rfl (fun ls hl => ?_)
              refine lv_goto (tgt := 23) hx hb dX2_findBarred_53 (by decide) ?_
              have q2 : x_2 = nI k1 - 1 := by rw [ex_2]; exact gx_m1 _
              rw [q2] at hl
              exact ih23  k1 set (s_kI I2 a2 b2 nn nr (s_wo set k1)) ((s_kf I2 J2 a2 b2 nn nr (s_wo set k1)).2.1) ((s_kf I2 J2 a2 b2 nn nr (s_wo set k1)).2.2.1) ((s_kf I2 J2 a2 b2 nn nr (s_wo set k1)).2.2.2) _ _ _ (by omega) (by rw [h2]; first | (have g37 : s_wo set k1 = set := c37; simp only [s_bar, g37, reduceIte]; done) | (have g37 : ¬ s_wo set k1 = set := c37; simp only [s_bar, s_ck, s_cx, g37, c45, reduceIte]; done)) (by first | exact h17 | exact (s_kI_k (by decide)).trans h17) (by first | exact h18 | exact (s_kI_k (by decide)).trans h18) (by omega) G (lv_sub hl [2, 3, 0] rfl)
            · skip
              refine lv_iload_n hx hb dX2_findBarred_48 rfl (lv_at hl 0 rfl) ?_
              refine lv_istore_n (lv' := [(1, .int (set &&& ((1 <<< ((nI k1) &&& 31)) ^^^ (-1)))), (3, .int (set &&& ((1 <<< ((nI k1) &&& 31)) ^^^ (-1)))), (0, .ref (ad 2)), (2, .int (nI k1))]) hx hb dX2_findBarred_49 rfl hl (by decide) rfl (fun ls hl => ?_)
              obtain ⟨x_3, ex_3⟩ : ∃ z : Int32, z = (nI k1) + -1 := ⟨_, rfl⟩
              refine lv_iinc (v := x_3) (lv' := [(2, .int x_3), (1, .int (set &&& ((1 <<< ((nI k1) &&& 31)) ^^^ (-1)))), (3, .int (set &&& ((1 <<< ((nI k1) &&& 31)) ^^^ (-1)))), (0, .ref (ad 2))]) hx hb dX2_findBarred_50 hl (k := 3) rfl ex_3.symm (by decide) rfl (fun ls hl => ?_)
              refine lv_goto (tgt := 23) hx hb dX2_findBarred_53 (by decide) ?_
              have q1 : set &&& ((1 <<< ((nI k1) &&& 31)) ^^^ (-1)) = (s_wo set k1) := by first | rfl | (simp only [c24, c37, c45, reduceIte]; done) | (simp [c24, c37, c45, reduceIte]; done)
              rw [q1] at hl
              have q2 : x_3 = nI k1 - 1 := by rw [ex_3]; exact gx_m1 _
              rw [q2] at hl
              exact ih23  k1 (s_wo set k1) (s_kI I2 a2 b2 nn nr (s_wo set k1)) ((s_kf I2 J2 a2 b2 nn nr (s_wo set k1)).2.1) ((s_kf I2 J2 a2 b2 nn nr (s_wo set k1)).2.2.1) ((s_kf I2 J2 a2 b2 nn nr (s_wo set k1)).2.2.2) _ _ _ (by omega) (by rw [h2]; first | (have g37 : s_wo set k1 = set := c37; simp only [s_bar, g37, reduceIte]; done) | (have g37 : ¬ s_wo set k1 = set := c37; simp only [s_bar, s_ck, s_cx, g37, c45, reduceIte]; done)) (by first | exact h17 | exact (s_kI_k (by decide)).trans h17) (by first | exact h18 | exact (s_kI_k (by decide)).trans h18) (by omega) G (lv_sub hl [3, 1, 0] rfl)
    have q2 : (I 1 8) - 1 = nI nr - 1 := by rw [hnr]
    rw [q2] at hl
    exact K23 (nr + 1) nr (s_all a nr) I J a b _ _ _ (by omega) (rfl) (hnn) (hnr) (Nat.lt_succ_self _) G (lv_sub hl [2, 1, 0] rfl)
  · skip
    exact gx_vr hx hb hr hlocks G hQ (by simp only [s_brI, s_brJ, s_brA, s_brB, c4, reduceIte]) dX2_findBarred_7

set_option maxHeartbeats 4000000 in
set_option maxRecDepth 100000 in
theorem kX2_barredRow (l : Launch) (D : va_G) (ad : Nat → Nat) (cy : Nat → ClassId) (I : gF) (J : gL) (a : gF) (b : gL) (sz : Nat) (nn nr : Nat) (kk : Int32) (hnn : I 1 7 = nI nn) (hnn2 : nn ≤ 5) (hnr : I 1 8 = nI nr) (hnr2 : nr ≤ 8) : gMi l yX2_barredRow wsX2_barredRow ({ frames := 5, cells := 0, slots := 0, locals := 135 }) D ad cy I J a b sz [.ref (ad 2), .int kk] (fun r u => r = s_brow (s_brI I J a b nn nr 2 9) kk nr 0 0 ∧ u = (s_brI I J a b nn nr, s_brJ I J a b nn nr, s_brA I J a b nn nr, s_brB I J a b nn nr)) := by
  refine Met.ofW (cc := cX2_barredRow) (maxL := 4) (ret := some .int) (by decide) rfl ?_
  intro p e s m args below meth c s₁ B hml hv
  obtain ⟨hargs, hsz, G⟩ := gx_begin hv
  subst hsz
  have hx := B.exec
  have hb := B.bytes
  have hr := B.returns
  have hts := atoms_spec (ws := wsX2_barredRow) B.pre
  have hown : s.vm.findClass RX2 = some m.cls := findClass_of_methodNamed B.named
  have hlocks := B.notSynchronized
  have hinX1 : ∀ w ∈ wsX10, w ∈ wsX2_barredRow := by decide +kernel
  have hinX2 : ∀ w ∈ wsX20, w ∈ wsX2_barredRow := by decide +kernel
  have lk30 := hts (.fieldLink RX2 30 "ExactSimplex$Solver" "problem" "LExactSimplex$Problem;") (by decide +kernel)
  have lk91 := hts (.fieldLink RX2 91 "ExactSimplex$Problem" "rows" "I") (by decide +kernel)
  have lk94 := hts (.fieldLink RX2 94 "ExactSimplex$Solver" "barredSet" "I") (by decide +kernel)
  have hl := lv_entry ([.ref (ad 2), .int kk]) (n := 4) (Nat.le_of_ble_eq_true rfl)
  have hent := lg_entry_eq m ([.ref (ad 2), .int kk]) 4
  rw [← hargs] at hent
  rw [hent]
  clear hent
  generalize (lg_sl ([.ref (ad 2), .int kk]) ++ List.replicate (4 - (lg_sl ([.ref (ad 2), .int kk])).length) Slot.unset).toArray = ls at hl ⊢
  have hl : lv_has ls 4 [(0, .ref (ad 2)), (1, .int kk)] := hl
  generalize hA : gA ad s.heap.size = A at G ⊢
  generalize hH : s.heap = H at G ⊢
  refine gx_q (fun Q hQ => ?_)
  refine lv_aload_n hx hb dX2_barredRow_0 rfl (lv_at hl 0 rfl) ?_
  refine gx_dVv (I1 := (s_brI I J a b nn nr)) (J1 := (s_brJ I J a b nn nr)) (a1 := (s_brA I J a b nn nr)) (b1 := (s_brB I J a b nn nr)) (As := []) (rest := []) ⟨hx, hb, hml, hown, hts⟩ G 2 (kX2_findBarred l D ad cy I J a b H.size nn nr hnn hnn2 hnr hnr2) (cwV 0 hts gX2_barredRow_X2_findBarred rfl rfl rfl (by decide +kernel) ⟨Nat.le_of_ble_eq_true rfl, Nat.le_of_ble_eq_true rfl⟩) (by decide) rfl rfl rfl rfl hl.1 rfl (Nat.le_of_ble_eq_true rfl) ⟨Nat.zero_le _, Nat.zero_le _⟩ dX2_barredRow_1 (fun H locs G => ?_)
  refine lv_iconst (v := 0) hx hb dX2_barredRow_4 (by decide) ?_
  refine lv_istore_n (lv' := [(2, .int 0), (0, .ref (ad 2)), (1, .int kk)]) hx hb dX2_barredRow_5 rfl hl (by decide) rfl (fun ls hl => ?_)
  refine lv_iconst (v := 0) hx hb dX2_barredRow_6 (by decide) ?_
  refine lv_istore_n (lv' := [(3, .int 0), (2, .int 0), (0, .ref (ad 2)), (1, .int kk)]) hx hb dX2_barredRow_7 rfl hl (by decide) rfl (fun ls hl => ?_)
  have K8 : ∀ (nf : Nat) (r : Nat) (pl : Int32) (H : Heap) (locs : List Loc) (ls : Array Slot), (r ≤ nr) → (s_brow (s_brI I J a b nn nr 2 9) kk nr 0 0 = s_brow (s_brI I J a b nn nr 2 9) kk (nr - r) r pl) → nr - r < nf → GG D ad cy A s (s_brI I J a b nn nr) (s_brJ I J a b nn nr) (s_brA I J a b nn nr) (s_brB I J a b nn nr) H locs → lv_has ls 4 [(0, .ref (ad 2)), (1, .int kk), (2, .int pl), (3, .int (nI r))] → W p l e ({ frames := 5, cells := 0, slots := 0, locals := 135 }) s m args below meth c H locs 0 0 Q (F0 m 8 ls []) := by
    intro nf
    induction nf with
    | zero => exact fun _ _ _ _ _ _ _ hz => absurd hz (Nat.not_lt_zero _)
    | succ nf ih =>
      intro r pl H locs ls h1 h2 hmeas G hl
      have ih8 := ih
      clear ih
      refine lv_iload_n hx hb dX2_barredRow_8 rfl (lv_at hl 3 rfl) ?_
      refine lv_aload_n hx hb dX2_barredRow_9 rfl (lv_at hl 0 rfl) ?_
      refine gx_get hx hb hts hinX2 hown G 2 (by decide) rfl rfl 0 (by decide) rfl lk30 rfl (v := .ref (ad 1)) rfl dX2_barredRow_10 ?_
      refine gx_get hx hb hts hinX1 hown G 1 (by decide) rfl rfl 8 (by decide) rfl lk91 rfl (v := .int ((s_brI I J a b nn nr) 1 8)) rfl dX2_barredRow_13 ?_
      refine lv_icmp_ge (tgt := 46) hx hb dX2_barredRow_16 (by decide) (fun c16 => ?_) (fun c16 => ?_)
      · skip
        have n16 := gn_le (X := nr) (Y := r) ((s_brI_k (by decide) (by decide)).trans hnr) rfl (by omega) (by omega) c16
        refine lv_iconst (v := -1) hx hb dX2_barredRow_46 (by decide) ?_
        exact gx_ir hx hb hr hlocks G hQ ⟨by rw [h2, show nr - r = 0 by omega]; rfl, rfl⟩ dX2_barredRow_47
      · skip
        have n16 := gn_nle (X := nr) (Y := r) ((s_brI_k (by decide) (by decide)).trans hnr) rfl (by omega) (by omega) c16
        refine lv_aload_n hx hb dX2_barredRow_19 rfl (lv_at hl 0 rfl) ?_
        refine gx_get hx hb hts hinX2 hown G 2 (by decide) rfl rfl 9 (by decide) rfl lk94 rfl (v := .int ((s_brI I J a b nn nr) 2 9)) rfl dX2_barredRow_20 ?_
        refine lv_iconst (v := 1) hx hb dX2_barredRow_23 (by decide) ?_
        refine lv_iload_n hx hb dX2_barredRow_24 rfl (lv_at hl 3 rfl) ?_
        refine lv_ishl hx hb dX2_barredRow_25 ?_
        refine lv_iand hx hb dX2_barredRow_26 ?_
        refine lv_if_eq (tgt := 40) hx hb dX2_barredRow_27 (by decide) (fun c27 => ?_) (fun c27 => ?_)
        · skip
          refine lv_iinc (v := (nI (r + 1))) (lv' := [(3, .int (nI (r + 1))), (0, .ref (ad 2)), (1, .int kk), (2, .int pl)]) hx hb dX2_barredRow_40 hl (k := 3) rfl (gn_add (X := r) (Y := 1) rfl rfl) (by decide) rfl (fun ls hl => ?_)
          refine lv_goto (tgt := 8) hx hb dX2_barredRow_43 (by decide) ?_
          exact ih8  (r + 1) pl _ _ _ (by omega) (by rw [h2, s_brow_s _ _ n16]; simp only [c16, c27, reduceIte]) (by omega) G (lv_sub hl [1, 2, 3, 0] rfl)
        · skip
          refine lv_iload_n hx hb dX2_barredRow_30 rfl (lv_at hl 2 rfl) ?_
          refine lv_iload_n hx hb dX2_barredRow_31 rfl (lv_at hl 1 rfl) ?_
          refine lv_icmp_ne (tgt := 37) hx hb dX2_barredRow_32 (by decide) (fun c32 => ?_) (fun c32 => ?_)
          · skip
            obtain ⟨x_1, ex_1⟩ : ∃ z : Int32, z = pl + 1 := ⟨_, rfl⟩
            refine lv_iinc (v := x_1) (lv' := [(2, .int x_1), (0, .ref (ad 2)), (1, .int kk), (3, .int (nI r))]) hx hb dX2_barredRow_37 hl (k := 2) rfl ex_1.symm (by decide) rfl (fun ls hl => ?_)
            refine lv_iinc (v := (nI (r + 1))) (lv' := [(3, .int (nI (r + 1))), (2, .int x_1), (0, .ref (ad 2)), (1, .int kk)]) hx hb dX2_barredRow_40 hl (k := 3) rfl (gn_add (X := r) (Y := 1) rfl rfl) (by decide) rfl (fun ls hl => ?_)
            refine lv_goto (tgt := 8) hx hb dX2_barredRow_43 (by decide) ?_
            have q2 : x_1 = (pl + 1) := ex_1
            rw [q2] at hl
            exact ih8  (r + 1) (pl + 1) _ _ _ (by omega) (by rw [h2, s_brow_s _ _ n16]; simp only [c16, c27, c32, reduceIte]) (by omega) G (lv_sub hl [2, 3, 1, 0] rfl)
          · skip
            refine lv_iload_n hx hb dX2_barredRow_35 rfl (lv_at hl 3 rfl) ?_
            exact gx_ir hx hb hr hlocks G hQ ⟨by rw [h2, s_brow_s _ _ n16]; simp only [c16, c27, c32, reduceIte], rfl⟩ dX2_barredRow_36
  exact K8 (nr - 0 + 1) 0 0 _ _ _ (by omega) (rfl) (Nat.lt_succ_self _) G (lv_sub hl [2, 3, 1, 0] rfl)
