/-! THE MATHEMATICS, 25: whole numbers: the search from its beginning -/
def ma_fl (ln : Nat) (a a' : gF) : Prop := ∀ K j, j ≠ ln ∨ K < 69 ∨ 87 ≤ K → a' K j = a K j
theorem ma_fl_t {ln : Nat} {a a' a'' : gF} (h1 : ma_fl ln a a') (h2 : ma_fl ln a' a'') : ma_fl ln a a'' := fun K j h => (h2 K j h).trans (h1 K j h)
theorem ma_wwt {a : gF} {ln nm : Nat} (hl : ln < 9) : (w_wt a ln nm).toInt = ma_W a ln nm := by
  unfold w_wt ma_W
  have e8 : (8 : Int32) = nI 8 := rfl
  by_cases q : ln = 8
  · rw [if_pos q, if_pos (by rw [q]; rfl)]
  · rw [if_neg q, if_neg (by rw [e8, nI_eq (by omega) (by omega)]; exact q)]
theorem ma_st2f {a : gF} {ln k : Nat} (hk : k < 5) : ma_fl ln a (w_st2 a ln k) ∧ (∀ K j, K ≠ 75 + k → K ≠ 81 + k → w_st2 a ln k K j = a K j) := by
  unfold w_st2 w_st1
  refine ⟨fun K j h => ?_, fun K j h1 h2 => ?_⟩
  · rw [gU_n (by omega), gU_n (by omega)]
  · rw [gU_n (by omega), gU_n (by omega)]
theorem ma_win_f {a : gF} {ln nn : Nat} (hn : nn ≤ 5) : ∀ m, m ≤ nn → ma_fl ln a (w_in a ln nn m) ∧ (∀ K j, (K < 75 ∨ 87 ≤ K) → w_in a ln nn m K j = a K j) ∧ (∀ e, e + m < nn ∨ nn ≤ e → e ≤ nn → ∀ j, w_in a ln nn m (75 + e) j = a (75 + e) j ∧ w_in a ln nn m (81 + e) j = a (81 + e) j)
  | 0, _ => ⟨fun _ _ _ => rfl, fun _ _ _ => rfl, fun _ _ _ _ => ⟨rfl, rfl⟩⟩
  | m + 1, hm => by
    obtain ⟨i1, i2, i3⟩ := ma_win_f (a := a) (ln := ln) hn m (by omega)
    have e : w_in a ln nn (m + 1) = w_st2 (w_in a ln nn m) ln (nn - 1 - m) := rfl
    obtain ⟨s1, s2⟩ := ma_st2f (a := w_in a ln nn m) (ln := ln) (k := nn - 1 - m) (by omega)
    rw [e]
    refine ⟨ma_fl_t i1 s1, fun K j h => ?_, fun e he hen j => ?_⟩
    · rw [s2 K j (by omega) (by omega), i2 K j h]
    · obtain ⟨q1, q2⟩ := i3 e (by omega) hen j
      rw [s2 (75 + e) j (by omega) (by omega), s2 (81 + e) j (by omega) (by omega)]
      exact ⟨q1, q2⟩
theorem ma_win {nn nr ln : Nat} {a : gF} (hd : ma_dat nn nr a) (hl : ma_rel nr ln) (h75 : (a (75 + nn) ln).toInt = 0) (h81 : (a (81 + nn) ln).toInt = 0) : ∀ m, m ≤ nn → ∀ e, nn ≤ e + m → e ≤ nn → (w_in a ln nn m (75 + e) ln).toInt = ma_tl (ma_lm a ln) nn e ∧ (w_in a ln nn m (81 + e) ln).toInt = ma_tl (ma_mm a ln) nn e
  | 0, _, e, h1, h2 => by
    have : e = nn := by omega
    subst this
    have e1 : ma_tl (ma_lm a ln) e e = 0 := by unfold ma_tl; omega
    have e2 : ma_tl (ma_mm a ln) e e = 0 := by unfold ma_tl; omega
    rw [e1, e2]
    exact ⟨h75, h81⟩
  | m + 1, hm, e, h1, h2 => by
    have ih := ma_win hd hl h75 h81 m (by omega)
    have d1 := hd.1
    have d2 := hd.2.1
    have hln : ln < 9 := by
      rcases hl with w | w <;> omega
    obtain ⟨f1, f2, f3⟩ := ma_win_f (a := a) (ln := ln) (nn := nn) d1 m (by omega)
    have er : w_in a ln nn (m + 1) = w_st2 (w_in a ln nn m) ln (nn - 1 - m) := rfl
    obtain ⟨s1, s2⟩ := ma_st2f (a := w_in a ln nn m) (ln := ln) (k := nn - 1 - m) (by omega)
    rw [er]
    by_cases g : e = nn - 1 - m
    · subst g
      have hk : nn - 1 - m < nn := by omega
      obtain ⟨t1, t2⟩ := ih (nn - 1 - m + 1) (by omega) (by omega)
      have wt : (w_wt (w_in a ln nn m) ln (nn - 1 - m)).toInt = ma_W a ln (nn - 1 - m) := by
        rw [ma_wwt hln]
        unfold ma_W
        rw [f2 8 _ (by omega), f2 (40 + ln) _ (by omega)]
      have c6 : w_in a ln nn m 6 (nn - 1 - m) = a 6 (nn - 1 - m) := f2 6 _ (by omega)
      have c7 : w_in a ln nn m 7 (nn - 1 - m) = a 7 (nn - 1 - m) := f2 7 _ (by omega)
      have wb := ma_W_b hd hl hk
      have dk := hd.2.2.1 _ hk
      have m6 := ma_mb wb (show (a 6 (nn - 1 - m)).toInt.natAbs ≤ 100 by omega)
      have m7 := ma_mb wb (show (a 7 (nn - 1 - m)).toInt.natAbs ≤ 100 by omega)
      have p6 : (w_wt (w_in a ln nn m) ln (nn - 1 - m) * w_in a ln nn m 6 (nn - 1 - m)).toInt = ma_W a ln (nn - 1 - m) * (a 6 (nn - 1 - m)).toInt := ma_mul3 wt (by rw [c6]) (by omega)
      have p7 : (w_wt (w_in a ln nn m) ln (nn - 1 - m) * w_in a ln nn m 7 (nn - 1 - m)).toInt = ma_W a ln (nn - 1 - m) * (a 7 (nn - 1 - m)).toInt := ma_mul3 wt (by rw [c7]) (by omega)
      have bl : (ma_tl (ma_lm a ln) nn (nn - 1 - m + 1)).natAbs ≤ 99000 := ma_sm_b d1 (by omega) (fun i hi => (ma_lm_b hd hl hi).1)
      have bm : (ma_tl (ma_mm a ln) nn (nn - 1 - m + 1)).natAbs ≤ 99000 := ma_sm_b d1 (by omega) (fun i hi => (ma_lm_b hd hl hi).2)
      have hmin : (if w_wt (w_in a ln nn m) ln (nn - 1 - m) * w_in a ln nn m 7 (nn - 1 - m) < w_wt (w_in a ln nn m) ln (nn - 1 - m) * w_in a ln nn m 6 (nn - 1 - m) then w_wt (w_in a ln nn m) ln (nn - 1 - m) * w_in a ln nn m 7 (nn - 1 - m) else w_wt (w_in a ln nn m) ln (nn - 1 - m) * w_in a ln nn m 6 (nn - 1 - m)).toInt = ma_lm a ln (nn - 1 - m) := by
        unfold ma_lm
        split
        · next q =>
          rw [Int32.lt_iff_toInt_lt, p6, p7] at q
          rw [p7]
          omega
        · next q =>
          rw [Int32.lt_iff_toInt_lt, p6, p7] at q
          rw [p6]
          omega
      have hmax : (if w_wt (w_in a ln nn m) ln (nn - 1 - m) * w_in a ln nn m 6 (nn - 1 - m) < w_wt (w_in a ln nn m) ln (nn - 1 - m) * w_in a ln nn m 7 (nn - 1 - m) then w_wt (w_in a ln nn m) ln (nn - 1 - m) * w_in a ln nn m 7 (nn - 1 - m) else w_wt (w_in a ln nn m) ln (nn - 1 - m) * w_in a ln nn m 6 (nn - 1 - m)).toInt = ma_mm a ln (nn - 1 - m) := by
        unfold ma_mm
        split
        · next q =>
          rw [Int32.lt_iff_toInt_lt, p6, p7] at q
          rw [p7]
          omega
        · next q =>
          rw [Int32.lt_iff_toInt_lt, p6, p7] at q
          rw [p6]
          omega
      have lb := ma_lm_b hd hl hk
      unfold w_st2 w_st1
      refine ⟨?_, ?_⟩
      · rw [gU_n (by omega), gU_s, ma_tl_s, Int.add_comm]
        exact ma_add3 t1 hmin (by omega)
      · rw [gU_s, gU_n (by omega), ma_tl_s, Int.add_comm]
        exact ma_add3 t2 hmax (by omega)
    · rw [s2 (75 + e) ln (by omega) (by omega), s2 (81 + e) ln (by omega) (by omega)]
      exact ih e (by omega) h2
theorem ma_wwo {nn nr : Nat} {a : gF} (hd : ma_dat nn nr a) : ∀ n, n ≤ 9 → (∀ K j, (K < 69 ∨ 87 ≤ K) → w_wo a nn n K j = a K j) ∧ (∀ ln, ln < n → ma_rel nr ln → w_wo a nn n 69 ln = 0 ∧ ∀ e, e ≤ nn → (w_wo a nn n (75 + e) ln).toInt = ma_tl (ma_lm a ln) nn e ∧ (w_wo a nn n (81 + e) ln).toInt = ma_tl (ma_mm a ln) nn e)
  | 0, _ => ⟨fun _ _ _ => rfl, fun ln h => by omega⟩
  | n + 1, hn => by
    obtain ⟨i1, i2⟩ := ma_wwo hd n (by omega)
    have d1 := hd.1
    have d2 := hd.2.1
    have e : w_wo a nn (n + 1) = w_in (w_wo0 (w_wo a nn n) nn n) n nn nn := rfl
    have z : ∀ K j, w_wo0 (w_wo a nn n) nn n K j = if (K = 69 ∨ K = 75 + nn ∨ K = 81 + nn) ∧ j = n then 0 else w_wo a nn n K j := by
      intro K j
      unfold w_wo0
      by_cases h1 : K = 81 + nn ∧ j = n
      · obtain ⟨rfl, rfl⟩ := h1
        rw [gU_s, if_pos (by omega)]
      · rw [gU_n (by omega)]
        by_cases h2 : K = 75 + nn ∧ j = n
        · obtain ⟨rfl, rfl⟩ := h2
          rw [gU_s, if_pos (by omega)]
        · rw [gU_n (by omega)]
          by_cases h3 : K = 69 + 0 ∧ j = n
          · obtain ⟨rfl, rfl⟩ := h3
            rw [gU_s, if_pos (by omega)]
          · rw [gU_n (by omega), if_neg (by omega)]
    obtain ⟨f1, f2, f3⟩ := ma_win_f (a := w_wo0 (w_wo a nn n) nn n) (ln := n) (nn := nn) d1 nn (Nat.le_refl _)
    rw [e]
    have cell : ∀ K j, (K < 69 ∨ 87 ≤ K) → w_wo0 (w_wo a nn n) nn n K j = a K j := fun K j h => by rw [z, if_neg (by omega)]; exact i1 K j h
    refine ⟨fun K j h => by rw [f1 K j (by omega)]; exact cell K j h, fun ln hl hr => ?_⟩
    by_cases g : ln = n
    · subst g
      have s6 : ma_sm6 a (w_wo0 (w_wo a nn ln) nn ln) := ⟨fun j => cell 6 j (by omega), fun j => cell 7 j (by omega), fun j => cell 8 j (by omega), fun j => cell 9 j (by omega), fun j => cell 10 j (by omega), fun j => cell 12 j (by omega), fun r hr j => cell (40 + r) j (by omega)⟩
      have W := ma_win (ma_dat_c s6 hd) hr (by rw [z, if_pos (by omega)]; rfl) (by rw [z, if_pos (by omega)]; rfl) nn (Nat.le_refl _)
      have eW : ∀ i, ma_W (w_wo0 (w_wo a nn ln) nn ln) ln i = ma_W a ln i := by
        intro i
        unfold ma_W
        rw [cell 8 i (by omega), cell (40 + ln) i (by omega)]
      have el : ma_lm (w_wo0 (w_wo a nn ln) nn ln) ln = ma_lm a ln := funext (fun i => by unfold ma_lm; rw [eW, cell 6 i (by omega), cell 7 i (by omega)])
      have em : ma_mm (w_wo0 (w_wo a nn ln) nn ln) ln = ma_mm a ln := funext (fun i => by unfold ma_mm; rw [eW, cell 6 i (by omega), cell 7 i (by omega)])
      rw [el, em] at W
      refine ⟨?_, fun e he => W e (by omega) he⟩
      rw [f2 69 ln (by omega), z, if_pos (by omega)]
    · obtain ⟨q1, q2⟩ := i2 ln (by omega) hr
      refine ⟨?_, fun e he => ?_⟩
      · rw [f1 69 ln (Or.inl g), z, if_neg (by omega)]; exact q1
      · rw [f1 (75 + e) ln (Or.inl g), f1 (81 + e) ln (Or.inl g), z, if_neg (by omega), z, if_neg (by omega)]
        exact q2 e he
/-- how many rows of whole numbers there are -/
def ma_cnt5 (a : gF) : Nat → Nat
  | 0 => 1
  | n + 1 => ma_cnt5 a n * ma_sz a n
def ma_Pr (a : gF) (nn : Nat) : Nat → Nat
  | 0 => 1
  | m + 1 => ma_sz a (nn - 1 - m) * ma_Pr a nn m
theorem ma_Pr_c (a : gF) (nn : Nat) : ∀ m, m ≤ nn → ma_cnt5 a (nn - m) * ma_Pr a nn m = ma_cnt5 a nn
  | 0, _ => Nat.mul_one _
  | m + 1, hm => by
    have ih := ma_Pr_c a nn m (by omega)
    have e : nn - m = (nn - (m + 1)) + 1 := by omega
    have e2 : nn - 1 - m = nn - (m + 1) := by omega
    rw [e] at ih
    show ma_cnt5 a (nn - (m + 1)) * (ma_sz a (nn - 1 - m) * ma_Pr a nn m) = _
    rw [e2, ← ih]
    show _ = ma_cnt5 a (nn - (m + 1)) * ma_sz a (nn - (m + 1)) * ma_Pr a nn m
    rw [Nat.mul_assoc]
theorem ma_T_b {nn nr : Nat} {a : gF} (hd : ma_dat nn nr a) : ∀ m, m ≤ nn → 1 ≤ ma_Pr a nn m ∧ ma_T a nn m ≤ 1 + 2 * m * ma_Pr a nn m
  | 0, _ => ⟨Nat.le_refl _, Nat.le_refl _⟩
  | m + 1, hm => by
    obtain ⟨i1, i2⟩ := ma_T_b hd m (by omega)
    have ds := hd.2.2.1 (nn - 1 - m) (by omega)
    have hs : 1 ≤ ma_sz a (nn - 1 - m) := by unfold ma_sz; omega
    have eP : ma_Pr a nn (m + 1) = ma_sz a (nn - 1 - m) * ma_Pr a nn m := rfl
    have eT : ma_T a nn (m + 1) = ma_sz a (nn - 1 - m) * (1 + ma_T a nn m) + 1 := rfl
    have h1 : 1 * 1 ≤ ma_sz a (nn - 1 - m) * ma_Pr a nn m := Nat.mul_le_mul hs i1
    have h2 : ma_sz a (nn - 1 - m) * 1 ≤ ma_sz a (nn - 1 - m) * ma_Pr a nn m := Nat.mul_le_mul_left _ i1
    have h3 : ma_sz a (nn - 1 - m) * (1 + ma_T a nn m) ≤ ma_sz a (nn - 1 - m) * (2 + 2 * m * ma_Pr a nn m) := Nat.mul_le_mul_left _ (by omega)
    have h4 : ma_sz a (nn - 1 - m) * (2 + 2 * m * ma_Pr a nn m) = 2 * ma_sz a (nn - 1 - m) + 2 * m * (ma_sz a (nn - 1 - m) * ma_Pr a nn m) := by grind
    have h5 : 2 * (m + 1) * (ma_sz a (nn - 1 - m) * ma_Pr a nn m) = 2 * m * (ma_sz a (nn - 1 - m) * ma_Pr a nn m) + 2 * (ma_sz a (nn - 1 - m) * ma_Pr a nn m) := by grind
    rw [eP, eT, h5]
    exact ⟨by omega, by omega⟩
theorem ma_pcw {nn nr : Nat} {a : gF} (hd : ma_dat nn nr a) : ∀ n, n ≤ nn → (p_cw a n).toInt = (ma_cnt5 a n : Int) ∧ ma_cnt5 a n ≤ 201 ^ n
  | 0, _ => ⟨rfl, Nat.le_refl _⟩
  | n + 1, hn => by
    obtain ⟨i1, i2⟩ := ma_pcw hd n (by omega)
    have d := hd.2.2.1 n (by omega)
    have d1 := hd.1
    have hs : (a 7 n - a 6 n + 1).toInt64.toInt = (ma_sz a n : Int) := by
      have h1 : (1 : Int32).toInt = 1 := rfl
      rw [Int32.toInt_toInt64, ma_add3 (ma_sub3 rfl rfl (by omega)) h1 (by omega)]
      unfold ma_sz
      omega
    have hsz : ma_sz a n ≤ 201 := by unfold ma_sz; omega
    have hm : ma_cnt5 a n * ma_sz a n ≤ 201 ^ n * 201 := Nat.mul_le_mul i2 hsz
    have hp : 201 ^ n ≤ 201 ^ 5 := Nat.pow_le_pow_right (by decide) (by omega)
    refine ⟨?_, hm⟩
    show (p_cw a n * (a 7 n - a 6 n + 1).toInt64).toInt = ((ma_cnt5 a n * ma_sz a n : Nat) : Int)
    rw [ma_mul i1 hs (by rw [← Int.natCast_mul, Int.natAbs_natCast]; have : (201 : Nat) ^ 5 * 201 ≤ 9000000000000000000 := by decide
                         have := Nat.mul_le_mul_right 201 hp; omega)]
    rw [Int.natCast_mul]
/-- search.hasPoint, sought anew -/
theorem ma_hpX {nn nr : Nat} {I a : gF} (hd : ma_dat nn nr a) (h7 : I 1 7 = nI nn) (h8 : I 1 8 = nI nr) (hc : ma_cnt5 a nn ≤ 20000) : ma_SE nn nr (gU (gU I 3 8 0) 3 9 1) a (w_hpX I a nn nr).2.1 (w_hpX I a nn nr).2.2 := by
  obtain ⟨o1, o2⟩ := ma_wwo hd 9 (Nat.le_refl _)
  have d1 := hd.1
  have d2 := hd.2.1
  have hrel : ∀ ln, ma_rel nr ln → ln < 9 := fun ln hl => by rcases hl with w | w <;> omega
  have hI7 : gU (gU I 3 8 0) 3 9 1 1 7 = nI nn := by rw [gU_n (by omega), gU_n (by omega)]; exact h7
  have hI8 : gU (gU I 3 8 0) 3 9 1 1 8 = nI nr := by rw [gU_n (by omega), gU_n (by omega)]; exact h8
  have hI38 : gU (gU I 3 8 0) 3 9 1 3 8 = 0 := by rw [gU_n (by omega), gU_s]
  have hT : ma_T a nn nn ≤ 200001 := by
    obtain ⟨t1, t2⟩ := ma_T_b hd nn (Nat.le_refl _)
    have t3 := ma_Pr_c a nn nn (Nat.le_refl _)
    rw [Nat.sub_self] at t3
    have t3 : 1 * ma_Pr a nn nn = ma_cnt5 a nn := t3
    rw [Nat.one_mul] at t3
    rw [t3] at t2
    have : 2 * nn * ma_cnt5 a nn ≤ 10 * 20000 := Nat.mul_le_mul (by omega) hc
    omega
  unfold w_hpX
  generalize gU (gU I 3 8 0) 3 9 1 = I1 at *
  have hfuel : 200001 < mST := by unfold mST; decide
  generalize mST = fuel at *
  generalize hA : w_wo a nn 9 = A at *
  have cell : ∀ K j, (K < 69 ∨ 87 ≤ K) → A K j = a K j := o1
  by_cases h0 : nn = 0
  · subst h0
    have ho : w_open I1 A 0 nr = A := by
      unfold w_open
      rw [hI7, if_neg (nI_nlt (Nat.le_refl _) (by omega))]
    rw [ho]
    refine ma_srch hd hI7 hI8 fuel 1 I1 A (by show 0 + (if 0 < 0 then _ else 1) < fuel; rw [if_neg (by omega)]; omega) ⟨⟨fun _ _ _ => rfl, fun k j _ _ _ h => cell k j h, by omega⟩, fun e he ln hl => ?_, fun e he ln hl => (o2 ln (hrel ln hl) hl).2 e he, fun e _ h => by omega, fun e _ h => by omega, Or.inl hI38, fun w => by rw [hI38] at w; exact absurd w (by decide), fun Q hQ => ⟨Q, hQ, ma_pq_r, Or.inl (Or.inr ⟨rfl, fun i h => by omega⟩)⟩⟩
    have : e = 0 := by omega
    subst this
    show (A 69 ln).toInt = 0
    rw [(o2 ln (hrel ln hl) hl).1]
    rfl
  · have hn0 : 0 < nn := by omega
    have s6 : ma_sm6 a A := ⟨fun j => cell 6 j (by omega), fun j => cell 7 j (by omega), fun j => cell 8 j (by omega), fun j => cell 9 j (by omega), fun j => cell 10 j (by omega), fun j => cell 12 j (by omega), fun r hr j => cell (40 + r) j (by omega)⟩
    have eW : ∀ ln i, ln < 9 → ma_W A ln i = ma_W a ln i := fun ln i h => by
      unfold ma_W
      rw [cell 8 i (by omega), cell (40 + ln) i (by omega)]
    have elm : ∀ ln, ma_rel nr ln → ma_lm A ln = ma_lm a ln ∧ ma_mm A ln = ma_mm a ln := fun ln hl => by
      constructor <;> funext i
      · unfold ma_lm; rw [eW ln i (hrel ln hl), cell 6 i (by omega), cell 7 i (by omega)]
      · unfold ma_mm; rw [eW ln i (hrel ln hl), cell 6 i (by omega), cell 7 i (by omega)]
    have z69 : ∀ ln, ma_rel nr ln → (A (69 + 0) ln).toInt = 0 := fun ln hl => by
      show (A 69 ln).toInt = 0
      rw [(o2 ln (hrel ln hl) hl).1]
      rfl
    have hx : ma_cx nn nr 0 I1 A := by
      refine ⟨ma_dat_c s6 hd, hn0, hI8, hI7, fun ln hl => ⟨by rw [z69 ln hl]; decide, ?_, ?_⟩, Or.inl hI38, fun w => by rw [hI38] at w; exact absurd w (by decide)⟩
      · rw [(elm ln hl).1]; exact ((o2 ln (hrel ln hl) hl).2 1 (by omega)).1
      · rw [(elm ln hl).2]; exact ((o2 ln (hrel ln hl) hl).2 1 (by omega)).2
    obtain ⟨p1, p2, p3, p4, p5⟩ := ma_open hx
    generalize w_open I1 A 0 nr = c at *
    have cc : ∀ K j, ¬ ((K = 21 ∨ K = 22) ∧ j = 0) → c K j = A K j := p1
    have muC : ma_mu c nn 1 < fuel := by
      show 0 + (if 0 < nn then ((c 7 0).toInt - (c 21 0).toInt).toNat * (1 + ma_T c nn (nn - (0 + 1))) + 1 else 1) < fuel
      rw [if_pos hn0]
      have eTc : ∀ m, ma_T c nn m = ma_T a nn m := by
        intro m
        induction m with
        | zero => rfl
        | succ m ih =>
          show ma_sz c (nn - 1 - m) * (1 + ma_T c nn m) + 1 = ma_sz a (nn - 1 - m) * (1 + ma_T a nn m) + 1
          rw [ih]
          unfold ma_sz
          rw [cc 7 _ (by omega), cc 6 _ (by omega), cell 7 _ (by omega), cell 6 _ (by omega)]
      have hTs := ma_T_s a nn 0 hn0
      rw [Nat.sub_zero] at hTs
      rw [eTc]
      have hle : ((c 7 0).toInt - (c 21 0).toInt).toNat ≤ ma_sz a 0 := by
        unfold ma_sz
        have q1 := p2.1
        rw [cc 6 0 (by omega), cell 6 0 (by omega)] at q1
        rw [cc 7 0 (by omega), cell 7 0 (by omega)]
        omega
      have := Nat.mul_le_mul_right (1 + ma_T a nn (nn - (0 + 1))) hle
      omega
    have rowT : ∀ P, ma_WC nn nr a P → ∀ r, r < nr → A 12 r ≠ 0 → ma_rc nn A 0 r (P 0) := by
      intro P hW r hr hR
      have hl : ma_rel nr r := Or.inl hr
      have hrow := hW.2 r hr (by show a 12 r ≠ 0; rw [← cell 12 r (by omega)]; exact hR)
      have t1 := ma_tl_W hd (ln := r) (show 0 + 1 ≤ nn by omega) hW.1
      have tw : ∀ i, ma_W a r i = (a (40 + r) i).toInt := fun i => if_neg (by omega)
      have t5 : ma_sm (fun i => ma_fa a r i * P i) nn = ma_sm (fun i => ma_W a r i * P i) nn := ma_sm_congr (fun i hi => by rw [tw i])
      have t6 : ma_sm (fun i => ma_W a r i * P i) (0 + 1) = (a (40 + r) 0).toInt * P 0 := by
        show 0 + ma_W a r 0 * P 0 = _
        rw [tw]
        omega
      unfold ma_rc
      rw [(elm r hl).1, (elm r hl).2, z69 r hl, cell 9 r (by omega), cell 10 r (by omega), cell (40 + r) 0 (by omega)]
      unfold ma_tl at t1 ⊢
      refine ⟨fun g => ?_, fun g => ?_⟩
      · have h1 : ma_sm (fun i => ma_fa a r i * P i) nn ≤ (a 10 r).toInt := hrow.1 g
        omega
      · have h1 : (a 10 r).toInt ≤ ma_sm (fun i => ma_fa a r i * P i) nn := hrow.2 g
        rw [Int.neg_mul]
        omega
    refine ma_srch hd hI7 hI8 fuel 1 I1 c muC ⟨⟨fun _ _ _ => rfl, fun k j q1 q2 _ h => by rw [cc k j (by omega)]; exact cell k j h, by omega⟩, fun e he ln hl => ?_, fun e he ln hl => ?_, fun e he hen => ?_, fun e he _ => by omega, Or.inl hI38, fun w => by rw [hI38] at w; exact absurd w (by decide), fun Q hQ => ?_⟩
    · have : e = 0 := by omega
      subst this
      rw [cc (69 + 0) ln (by omega), z69 ln hl]
      rfl
    · rw [cc (75 + e) ln (by omega), cc (81 + e) ln (by omega)]
      exact (o2 ln (hrel ln hl) hl).2 e he
    · have : e = 0 := by omega
      rw [this]; exact p2
    · have hcd : ma_cd nn nr I1 A 0 (Q 0) := by
        refine ⟨?_, rowT Q hQ, fun w => by rw [hI38] at w; exact absurd w (by decide)⟩
        rw [cell 6 0 (by omega), cell 7 0 (by omega)]
        exact hQ.1 0 hn0
      by_cases hl : 0 + 1 = nn
      · obtain ⟨v', r1, r2⟩ := p5 hl (Q 0) hcd
        have hv := p3 v' r1
        rw [cell 8 0 (by omega)] at r2
        refine ⟨fun i => if i = 0 then v' else Q i, ⟨fun i hi => ?_, fun r hr hR => ?_⟩, ?_, Or.inl (Or.inl ⟨0, by omega, hn0, fun i h => by omega, by show ma_Rg c 0 (if 0 = 0 then v' else Q 0); rw [if_pos rfl]; exact r1⟩)⟩
        · have : i = 0 := by omega
          subst this
          show (a 6 0).toInt ≤ (if 0 = 0 then v' else Q 0) ∧ (if 0 = 0 then v' else Q 0) ≤ (a 7 0).toInt
          rw [if_pos rfl, ← cell 6 0 (by omega), ← cell 7 0 (by omega)]
          exact hv.1
        · have hrl : ma_rel nr r := Or.inl hr
          have hcr := hv.2.1 r hr (by rw [cell 12 r (by omega)]; exact hR)
          unfold ma_rc at hcr
          rw [(elm r hrl).1, (elm r hrl).2, z69 r hrl, cell 9 r (by omega), cell 10 r (by omega), cell (40 + r) 0 (by omega), hl] at hcr
          unfold ma_tl at hcr
          have es : ma_sm (fun i => ma_fa a r i * (if i = 0 then v' else Q i)) nn = (a (40 + r) 0).toInt * v' := by
            rw [← hl]
            show 0 + ma_fa a r 0 * (if 0 = 0 then v' else Q 0) = _
            rw [if_pos rfl]
            show 0 + (a (40 + r) 0).toInt * v' = _
            omega
          refine ⟨fun g => ?_, fun g => ?_⟩
          · have h1 := hcr.1 g
            show ma_sm (fun i => ma_fa a r i * (if i = 0 then v' else Q i)) nn ≤ (a 10 r).toInt
            omega
          · have h1 := hcr.2 g
            rw [Int.neg_mul] at h1
            show (a 10 r).toInt ≤ ma_sm (fun i => ma_fa a r i * (if i = 0 then v' else Q i)) nn
            omega
        · have ec : ∀ X : Nat → Int, ma_cost nn (ma_ci a 8) X = (a 8 0).toInt * X 0 := fun X => by
            unfold ma_cost
            rw [← hl]
            show 0 + (a 8 0).toInt * X 0 = _
            omega
          unfold ma_pq
          rw [ec, ec Q]
          show (a 8 0).toInt * (if 0 = 0 then v' else Q 0) < _ ∨ ((a 8 0).toInt * (if 0 = 0 then v' else Q 0) = _ ∧ _)
          rw [if_pos rfl]
          rcases r2 with r2 | ⟨r2, r3⟩
          · exact Or.inl r2
          · refine Or.inr ⟨r2, ?_⟩
            by_cases g : v' = Q 0
            · refine Or.inl (fun i hi => ?_)
              have : i = 0 := by omega
              subst this
              show (if 0 = 0 then v' else Q 0) = Q 0
              rw [if_pos rfl]; exact g
            · refine Or.inr ⟨0, hn0, fun j hj => by omega, ?_⟩
              show (if 0 = 0 then v' else Q 0) < Q 0
              rw [if_pos rfl]
              omega
      · exact ⟨Q, hQ, ma_pq_r, Or.inl (Or.inl ⟨0, by omega, hn0, fun i h => by omega, p4 hl _ hcd⟩)⟩
