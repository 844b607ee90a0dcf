/-! THE MATHEMATICS, 21: what the solver's questions answer -/
theorem ma_DI_bb {nc nl : Nat} {V : Nat → Nat → Int} {J J' : gL} {a : gF} {b b' : gL} (D : ma_DI nc nl V J a b) (hJ : J' 4 6 = J 4 6) (h : ∀ k j, k = 14 ∨ (48 ≤ k ∧ k < 69) → b' k j = b k j) : ma_DI nc nl V J' a b' := by
  have n2 := D.1.2.1
  obtain ⟨q1, q2, q3, q4, q5, q6, q7, q8⟩ := D
  exact ⟨q1, q2, by rw [hJ]; exact q3, q4, q5, fun r hr s hs => by rw [h _ _ (by omega)]; exact q6 r hr s hs, fun r hr => by rw [h _ _ (by omega)]; exact q7 r hr, q8⟩
/-- what the solver's questions may change -/
def ma_fq (x y : gS) : Prop := (∀ k j, k ≠ 2 → ¬ (k = 4 ∧ j = 7) → ¬ (k = 4 ∧ j = 8) → y.1 k j = x.1 k j) ∧ (∀ k j, ¬ (k = 4 ∧ j = 6) → ¬ (k = 2 ∧ j = 4) → y.2.1 k j = x.2.1 k j) ∧ (∀ k j, k ≠ 15 → k ≠ 16 → k ≠ 17 → k ≠ 19 → y.2.2.1 k j = x.2.2.1 k j) ∧ (∀ k j, k ≠ 14 → k ≠ 18 → k ≠ 20 → (k < 48 ∨ 69 ≤ k) → y.2.2.2 k j = x.2.2.2 k j)
theorem ma_fq_r (x : gS) : ma_fq x x := ⟨fun _ _ _ _ _ => rfl, fun _ _ _ _ => rfl, fun _ _ _ _ _ _ => rfl, fun _ _ _ _ _ _ => rfl⟩
theorem ma_fq_t {x y z : gS} (h1 : ma_fq x y) (h2 : ma_fq y z) : ma_fq x z := ⟨fun k j q1 q2 q3 => (h2.1 k j q1 q2 q3).trans (h1.1 k j q1 q2 q3), fun k j q1 q2 => (h2.2.1 k j q1 q2).trans (h1.2.1 k j q1 q2), fun k j q1 q2 q3 q4 => (h2.2.2.1 k j q1 q2 q3 q4).trans (h1.2.2.1 k j q1 q2 q3 q4), fun k j q1 q2 q3 q4 => (h2.2.2.2 k j q1 q2 q3 q4).trans (h1.2.2.2 k j q1 q2 q3 q4)⟩
theorem ma_fq_h {nn nr : Nat} {x : gS} (H : ma_CI nn nr x) : ma_fq x (hS x) := by
  obtain ⟨-, f, -, -, -⟩ := ma_hS H
  refine ⟨fun k j q1 q2 q3 => ?_, fun k j q1 _ => f.2.1 k j q1, f.2.2.1, fun k j q1 q2 _ q4 => f.2.2.2 k j q1 q2 q4⟩
  have := f.1 k j q2 q3
  have this : (if k = 2 ∧ (j = 5 ∨ j = 6) then x.1 k j else (hS x).1 k j) = x.1 k j := this
  rw [if_neg (by omega)] at this
  exact this
theorem ma_CI_D {nn nr : Nat} {x : gS} (H : ma_CI nn nr x) {J' : gL} {a' : gF} {b' : gL} (hO : ma_OKD nn nr x.1 J' a' b') (h5 : x.1 2 5 = 1) (h6 : x.1 2 6 = 1) (s6 : ma_sm6 x.2.2.1 a') (hb : ∀ i, b' 20 i = x.2.2.2 20 i) (hJ : J' 2 4 = x.2.1 2 4) : ma_CI nn nr (x.1, J', a', b') := by
  obtain ⟨c1, c2, hd, hk, c6, hf, hbp, hbr⟩ := H
  obtain ⟨V, nl, v1, v2, v3, v4, v5⟩ := id hO
  refine ⟨c1, c2, ma_dat_c s6 hd, ma_dk_of v4 v1 v2, c6, Or.inr ⟨h5, Or.inl ⟨h6, hO⟩⟩, ?_, ?_⟩
  · rcases hbp with q | q
    · exact Or.inl q
    · exact Or.inr ⟨q.1, ma_BP_c hd.2.1 s6 hb hJ q.2⟩
  · rcases hbr with q | q
    · exact Or.inl q
    · refine Or.inr ⟨q.1, ?_⟩
      show x.1 2 9 = ma_gr (ma_Fec nn nr a') nr (s_all a' nr)
      rw [ma_sall_c s6.2.2.2.2.2.1, ma_gr_c (ma_Fec_c hd.2.1 s6)]
      exact q.2
theorem ma_fy_6 {x y : ma_X} (h : ma_fy x y) : ma_sm6 x.2.1 y.2.1 := ⟨fun j => h.2.1 6 j (by omega) (by omega) (by omega) (by omega), fun j => h.2.1 7 j (by omega) (by omega) (by omega) (by omega), fun j => h.2.1 8 j (by omega) (by omega) (by omega) (by omega), fun j => h.2.1 9 j (by omega) (by omega) (by omega) (by omega), fun j => h.2.1 10 j (by omega) (by omega) (by omega) (by omega), fun j => h.2.1 12 j (by omega) (by omega) (by omega) (by omega), fun r hr j => h.2.1 (40 + r) j (by omega) (by omega) (by omega) (by omega)⟩
/-- findFirstBest -/
theorem ma_fS {nn nr : Nat} {x : gS} (H : ma_CI nn nr x) (h5 : x.1 2 5 = 1) (hO : ma_OKD nn nr x.1 x.2.1 x.2.2.1 x.2.2.2) (h6 : x.1 2 6 = 1) : ma_CI nn nr (fS x) ∧ ma_BP nn nr (fS x).2.1 (fS x).2.2.1 (fS x).2.2.2 ∧ ma_fq x (fS x) := by
  obtain ⟨c1, c2, hd, hk, c6, hf, hbp, hbr⟩ := id H
  have hnn : cN (x.1 1 7) = nn := by rw [c1]; exact ma_cN (by have := hd.1; omega)
  by_cases h7 : x.1 2 7 = 0
  · obtain ⟨V, nl, v1, v2, C, D, fe⟩ := hO
    have hl : cN (x.1 4 7) = nl := by rw [v1]; exact ma_cN (by have := D.1.2.1; omega)
    have hc : cN (x.1 4 8) = nn := by rw [v2]; exact ma_cN (by have := hd.1; omega)
    obtain ⟨W, w1, w2, w3, w4, w5, w6⟩ := ma_fb (I := x.1) C D fe v2 (fun _ => rfl) (fun i hi => (hd.2.2.1 i hi).2.2.2) nn (Nat.le_refl _)
    have e : fS x = (gU x.1 2 7 1, gU (s_fb x.1 x.2.1 x.2.2.1 x.2.2.2 nl nn nn).1 2 4 ((s_fb x.1 x.2.1 x.2.2.1 x.2.2.2 nl nn nn).1 4 6), (s_fb x.1 x.2.1 x.2.2.1 x.2.2.2 nl nn nn).2.1, s_fbB (s_fb x.1 x.2.1 x.2.2.1 x.2.2.2 nl nn nn).1 (s_fb x.1 x.2.1 x.2.2.1 x.2.2.2 nl nn nn).2.1 (s_fb x.1 x.2.1 x.2.2.1 x.2.2.2 nl nn nn).2.2 nl nn) := by
      unfold fS s_ffI s_ffJ s_ffA s_ffB
      rw [hnn, hl, hc, if_pos h7, if_pos h7, if_pos h7, if_pos h7]
    generalize s_fb x.1 x.2.1 x.2.2.1 x.2.2.2 nl nn nn = y at *
    have s6 := ma_fy_6 w2
    have s6 : ma_sm6 x.2.2.1 y.2.1 := s6
    have hR : ∀ r, r < nr → (x.2.2.1 12 r ≠ 0 ↔ y.2.1 12 r ≠ 0) := fun r _ => by rw [s6.2.2.2.2.2.1]
    have C' := ma_CD_c hd.2.1 s6 hR C
    have Dy : ma_DX nn nl V (y.1, y.2.1, y.2.2) := w1.1
    have D' : ma_DX nn nl V (gU y.1 2 4 (y.1 4 6), y.2.1, s_fbB y.1 y.2.1 y.2.2 nl nn) := ma_DI_bb (J := y.1) (J' := gU y.1 2 4 (y.1 4 6)) (b := y.2.2) (b' := s_fbB y.1 y.2.1 y.2.2 nl nn) Dy (gU_n (by omega)) (fun k j h => by rw [ma_fbB, if_neg (by omega)])
    obtain ⟨z1, z2, z3⟩ := ma_pY_z w1.1
    have bp : ma_BP nn nr (gU y.1 2 4 (y.1 4 6)) y.2.1 (s_fbB y.1 y.2.1 y.2.2 nl nn) := by
      obtain ⟨t, T⟩ := ma_corner w1.1 C'
      have eF : ∀ X, ma_FC nn nr y.2.1 (fun r => y.2.1 12 r ≠ 0) X ↔ ma_FC nn nr x.2.2.1 (fun r => x.2.2.1 12 r ≠ 0) X := fun X => (ma_fs_c hd.2.1 s6).trans (ma_fs_R hR).symm
      have eM : ∀ X, ma_MC nn nr y.2.1 (fun r => y.2.1 12 r ≠ 0) X ↔ ma_MC nn nr x.2.2.1 (fun r => x.2.2.1 12 r ≠ 0) X := by
        intro X
        unfold ma_MC
        constructor
        · intro w X' hX'
          have := w X' ((eF X').mpr hX')
          rw [ma_cost_c s6.2.2.1, ma_cost_c s6.2.2.1] at this
          exact this
        · intro w X' hX'
          rw [ma_cost_c s6.2.2.1, ma_cost_c s6.2.2.1]
          exact w X' ((eF X').mp hX')
      obtain ⟨g1, g2⟩ := w5 _ w4 w3
      refine ⟨ma_pY nn V y, t, (eF _).mpr w4, T, fun i hi => ?_, ?_, (ma_pY_b w1.1).2, (eM _).mpr g1, fun X h1 h2 => g2 X ((eF X).mp h1) ((eM X).mp h2)⟩
      · rw [ma_fbB, if_pos ⟨rfl, hi⟩]
        have := hd.2.2.1 i hi
        exact ma_numOf C w1.1 hi (s6.1 i) (by omega)
      · rw [gU_s, z2]
        exact w1.1.2.2.1
    have oo : ma_OKD nn nr (gU x.1 2 7 1) (gU y.1 2 4 (y.1 4 6)) y.2.1 (s_fbB y.1 y.2.1 y.2.2 nl nn) := ⟨V, nl, by rw [gU_n (by omega)]; exact v1, by rw [gU_n (by omega)]; exact v2, C', D', w1.2.1⟩
    rw [e]
    have fq : ma_fq x (gU x.1 2 7 1, gU y.1 2 4 (y.1 4 6), y.2.1, s_fbB y.1 y.2.1 y.2.2 nl nn) := by
      refine ⟨fun k j q1 _ _ => gU_n (by omega), fun k j q1 q2 => ?_, fun k j q1 q2 q3 q4 => w2.2.1 k j q1 q2 q3 q4, fun k j q1 q2 q3 q4 => ?_⟩
      · show gU y.1 2 4 (y.1 4 6) k j = _
        rw [gU_n (by omega)]
        exact w2.1 k j q1
      · show s_fbB y.1 y.2.1 y.2.2 nl nn k j = _
        rw [ma_fbB, if_neg (by omega)]
        exact w2.2.2 k j q1 q2 q4
    refine ⟨⟨?_, ?_, ma_dat_c s6 hd, ma_dk_of D' ((gU_n (f := x.1) (k := 2) (j := 7) (v := 1) (by omega)).trans v1) ((gU_n (f := x.1) (k := 2) (j := 7) (v := 1) (by omega)).trans v2), ?_, ?_, Or.inr ⟨gU_s (f := x.1) (k := 2) (j := 7), bp⟩, ?_⟩, bp, fq⟩
    · show gU x.1 2 7 1 1 7 = _
      rw [gU_n (by omega)]; exact c1
    · show gU x.1 2 7 1 1 8 = _
      rw [gU_n (by omega)]; exact c2
    · show gU x.1 2 7 1 2 6 = 0 ∨ gU x.1 2 7 1 2 6 = 1
      rw [gU_n (by omega)]; exact c6
    · refine Or.inr ⟨?_, Or.inl ⟨?_, oo⟩⟩
      · show gU x.1 2 7 1 2 5 = 1
        rw [gU_n (by omega)]; exact h5
      · show gU x.1 2 7 1 2 6 = 1
        rw [gU_n (by omega)]; exact h6
    · show gU x.1 2 7 1 2 8 = 0 ∨ (gU x.1 2 7 1 2 8 = 1 ∧ gU x.1 2 7 1 2 9 = ma_gr (ma_Fec nn nr y.2.1) nr (s_all y.2.1 nr))
      rw [gU_n (by omega), gU_n (by omega), ma_sall_c s6.2.2.2.2.2.1, ma_gr_c (ma_Fec_c hd.2.1 s6)]
      exact hbr
  · have e : fS x = x := by
      unfold fS s_ffI s_ffJ s_ffA s_ffB
      rw [if_neg h7, if_neg h7, if_neg h7, if_neg h7]
    rw [e]
    rcases hbp with q | q
    · exact absurd q h7
    · exact ⟨H, q.2, ma_fq_r x⟩
/-- an end of a name, as the class tells it: over a face W -/
def ma_EN (nn nr : Nat) (a : gF) (W : (Nat → Int) → Prop) (n0 : Nat) (w : Int) (N U : Int) : Prop := ∃ Y t, ma_FC nn nr a (fun r => a 12 r ≠ 0) Y ∧ ma_cor nn (ma_C nn (ma_ci a 6) (ma_ci a 7) (ma_ci a 10) (ma_fa a)) (ma_th nn nr (fun r => a 12 r ≠ 0)) t Y ∧ W Y ∧ N = Y n0 ∧ U = Y 5 ∧ Y 5 ≤ 7085880 ∧ ∀ X, ma_FC nn nr a (fun r => a 12 r ≠ 0) X → W X → w * Y n0 * X 5 ≤ w * X n0 * Y 5
theorem ma_sw {sd : Int32} : s_w sd = 1 ∨ s_w sd = -1 := by
  unfold s_w
  split
  · exact Or.inl rfl
  · exact Or.inr rfl
theorem ma_en1 {nn nr nl n0 : Nat} {V : Nat → Nat → Int} {x : gS} {J : gL} {a : gF} {b : gL} {sd : Int32} {W : (Nat → Int) → Prop} (H : ma_CI nn nr x) (h5 : x.1 2 5 = 1) (h6 : x.1 2 6 = 1) (v1 : x.1 4 7 = nI nl) (v2 : x.1 4 8 = nI nn) (C : ma_CD nn nr x.2.2.1 (fun r => x.2.2.1 12 r ≠ 0) nl V) (F : ma_FS nn nr nl V x.2.2.1 (fun r => x.2.2.1 12 r ≠ 0) (J, a, b) W) (fy : ma_fy (x.2.1, x.2.2.1, x.2.2.2) (J, a, b)) (h0 : n0 < nn) :
    ma_CI nn nr (x.1, (s_endX x.1 J a b nl nn n0 (s_w sd)).1, (s_endX x.1 J a b nl nn n0 (s_w sd)).2.1, (s_endX x.1 J a b nl nn n0 (s_w sd)).2.2) ∧ ma_fq x (x.1, (s_endX x.1 J a b nl nn n0 (s_w sd)).1, (s_endX x.1 J a b nl nn n0 (s_w sd)).2.1, (s_endX x.1 J a b nl nn n0 (s_w sd)).2.2) ∧ ma_EN nn nr x.2.2.1 W n0 (s_w sd).toInt (((s_endX x.1 J a b nl nn n0 (s_w sd)).2.1 6 n0).toInt64 * (s_endX x.1 J a b nl nn n0 (s_w sd)).1 4 6 + d_num (s_endX x.1 J a b nl nn n0 (s_w sd)).2.1 (s_endX x.1 J a b nl nn n0 (s_w sd)).2.2 (nI n0) nl 0).toInt ((s_endX x.1 J a b nl nn n0 (s_w sd)).1 4 6).toInt := by
  obtain ⟨m1, m2, m3, m4, m5, -⟩ := ma_end (I := x.1) C F v2 h0 (ma_sw (sd := sd))
  have hd := H.2.2.1
  generalize s_endX x.1 J a b nl nn n0 (s_w sd) = y at *
  have fy' := ma_fy_t fy m2
  have s6 : ma_sm6 x.2.2.1 y.2.1 := ma_fy_6 fy'
  have hR : ∀ r, r < nr → (x.2.2.1 12 r ≠ 0 ↔ y.2.1 12 r ≠ 0) := fun r _ => by rw [s6.2.2.2.2.2.1]
  have C' := ma_CD_c hd.2.1 s6 hR C
  obtain ⟨z1, z2, z3⟩ := ma_pY_z m1.1
  refine ⟨ma_CI_D H ⟨V, nl, v1, v2, C', m1.1, m1.2.1⟩ h5 h6 s6 (fun i => fy'.2.2 20 i (by omega) (by omega) (by omega)) (fy'.1 2 4 (by omega)), ⟨fun _ _ _ _ _ => rfl, fun k j q1 _ => fy'.1 k j q1, fun k j q1 q2 q3 q4 => fy'.2.1 k j q1 q2 q3 q4, fun k j q1 q2 _ q4 => fy'.2.2 k j q1 q2 q4⟩, ?_⟩
  obtain ⟨t, T⟩ := ma_corner m1.1 C
  have hl := hd.2.2.1 n0 h0
  refine ⟨ma_pY nn V y, t, m3, T, m4, ?_, ?_, (ma_pY_b m1.1).2, m5⟩
  · exact ma_numOf C m1.1 h0 (s6.1 n0) (by omega)
  · rw [z2]
    exact m1.1.2.2.1
theorem ma_aS {nn nr n0 : Nat} {x : gS} {sd pt : Int32} (H : ma_CI nn nr x) (h5 : x.1 2 5 = 1) (h6 : x.1 2 6 = 1) (hO : ma_OKD nn nr x.1 x.2.1 x.2.2.1 x.2.2.2) (h0 : n0 < nn) : ma_CI nn nr (aS x n0 sd) ∧ ma_fq x (aS x n0 sd) ∧ ∃ N U : Int64, s_end x.1 x.2.1 (d_thaw x.2.2.1 (cN (x.1 4 8))) x.2.2.2 (cN (x.1 4 7)) (cN (x.1 4 8)) n0 (s_w sd) pt = s_part N U pt ∧ ma_EN nn nr x.2.2.1 (fun _ => True) n0 (s_w sd).toInt N.toInt U.toInt := by
  obtain ⟨V, nl, v1, v2, C, D, fe⟩ := hO
  have hl : cN (x.1 4 7) = nl := by rw [v1]; exact ma_cN (by have := D.1.2.1; omega)
  have hc : cN (x.1 4 8) = nn := by rw [v2]; exact ma_cN (by have := D.1.1; omega)
  obtain ⟨q1, q2, q3⟩ := ma_en1 (sd := sd) H h5 h6 v1 v2 C (ma_FS_thaw (nr := nr) (a0 := x.2.2.1) (R := fun r => x.2.2.1 12 r ≠ 0) D fe) (ma_fy_a (fun k j h _ => by rw [ma_thaw, if_neg (by omega)])) h0
  unfold aS
  rw [hl, hc]
  exact ⟨q1, q2, _, _, rfl, q3⟩
theorem ma_eS {nn nr n0 : Nat} {x : gS} {sd pt : Int32} (H : ma_CI nn nr x) (h5 : x.1 2 5 = 1) (h6 : x.1 2 6 = 1) (hO : ma_OKD nn nr x.1 x.2.1 x.2.2.1 x.2.2.2) (h0 : n0 < nn) : ma_CI nn nr (eS x n0 sd) ∧ ma_fq x (eS x n0 sd) ∧ ∃ N U : Int64, s_eb x.1 x.2.1 x.2.2.1 x.2.2.2 (cN (x.1 4 7)) (cN (x.1 4 8)) n0 sd pt = s_part N U pt ∧ ma_EN nn nr x.2.2.1 (ma_MC nn nr x.2.2.1 (fun r => x.2.2.1 12 r ≠ 0)) n0 (s_w sd).toInt N.toInt U.toInt := by
  obtain ⟨V, nl, v1, v2, C, D, fe⟩ := hO
  have hd := H.2.2.1
  have hl : cN (x.1 4 7) = nl := by rw [v1]; exact ma_cN (by have := D.1.2.1; omega)
  have hc : cN (x.1 4 8) = nn := by rw [v2]; exact ma_cN (by have := D.1.1; omega)
  obtain ⟨k1, k2, -⟩ := ma_k2b (I := x.1) C (ma_FS_thaw (nr := nr) (a0 := x.2.2.1) (R := fun r => x.2.2.1 12 r ≠ 0) D fe) v2 (fun j => by rw [ma_thaw, if_neg (by omega)]) (fun i hi => (hd.2.2.1 i hi).2.2.2)
  obtain ⟨q1, q2, q3⟩ := ma_en1 (sd := sd) (J := (s_k2b x.1 x.2.1 (d_thaw x.2.2.1 nn) x.2.2.2 nl nn).1) (a := (s_k2b x.1 x.2.1 (d_thaw x.2.2.1 nn) x.2.2.2 nl nn).2.1) (b := (s_k2b x.1 x.2.1 (d_thaw x.2.2.1 nn) x.2.2.2 nl nn).2.2) H h5 h6 v1 v2 C k1 (ma_fy_t (ma_fy_a (fun k j h _ => by rw [ma_thaw, if_neg (by omega)])) k2) h0
  unfold eS s_ebX s_eb
  rw [hl, hc]
  exact ⟨q1, q2, _, _, rfl, q3⟩
/-- findBarred -/
theorem ma_bar {nn nr : Nat} {I0 : gF} {J0 : gL} {a0 : gF} {b0 : gL} (hd : ma_dat nn nr a0) : ∀ k, k ≤ nr → ∀ X : s_X, ma_fw I0 X.2.1 J0 X.2.2.1 a0 X.2.2.2.1 b0 X.2.2.2.2 → ma_dk X.2.1 X.2.2.2.1 → ma_isS X.1 → (s_bar nn nr k X).1 = ma_gr (ma_Fec nn nr a0) k X.1 ∧ ma_fw I0 (s_bar nn nr k X).2.1 J0 (s_bar nn nr k X).2.2.1 a0 (s_bar nn nr k X).2.2.2.1 b0 (s_bar nn nr k X).2.2.2.2 ∧ ma_dk (s_bar nn nr k X).2.1 (s_bar nn nr k X).2.2.2.1
  | 0, _, X, hf, hk, _ => ⟨rfl, hf, hk⟩
  | k + 1, hn, X, hf, hk, hS => by
    have e : s_bar nn nr (k + 1) X = if s_wo X.1 k = X.1 then s_bar nn nr k X else if s_ck nn nr (s_wo X.1 k) X = 0 then s_bar nn nr k (s_cx nn nr (s_wo X.1 k) (s_wo X.1 k) X) else s_bar nn nr k (s_cx nn nr (s_wo X.1 k) X.1 X) := rfl
    have hr8 := hd.2.1
    obtain ⟨w1, w2, w3⟩ := ma_S_wo hS (show k < 8 by omega)
    by_cases h : s_wo X.1 k = X.1
    · rw [e, if_pos h, ma_gr_n (fun q => q.1 (w3.mp h))]
      exact ma_bar hd k (by omega) X hf hk hS
    · rw [e, if_neg h]
      have s6 := ma_fw_6 hf
      obtain ⟨f1, f2, f3⟩ := ma_ckS (I := X.2.1) (J := X.2.2.1) (b := X.2.2.2.2) (set := s_wo X.1 k) (ma_dat_c s6 hd)
      have hb : m_bt X.1 k ≠ 0 := fun q => h (w3.mpr q)
      by_cases hc : s_ck nn nr (s_wo X.1 k) X = 0
      · rw [if_pos hc]
        have hc : (s_kf X.2.1 X.2.2.1 X.2.2.2.1 X.2.2.2.2 nn nr (s_wo X.1 k)).1 = 0 := hc
        have no : ¬ ma_Fec nn nr a0 (s_wo X.1 k) := by
          rcases f3 with ⟨q, -⟩ | ⟨-, q⟩
          · rw [hc] at q; exact absurd q (by decide)
          · rintro ⟨Z, hZ⟩
            exact q Z ((ma_fs_c hr8 s6).mpr hZ)
        rw [ma_gr_y ⟨hb, no⟩]
        exact ma_bar hd k (by omega) (s_cx nn nr (s_wo X.1 k) (s_wo X.1 k) X) (ma_fw_t hf f1) f2 w1
      · rw [if_neg hc]
        have hc : ¬ (s_kf X.2.1 X.2.2.1 X.2.2.2.1 X.2.2.2.2 nn nr (s_wo X.1 k)).1 = 0 := hc
        have yes : ma_Fec nn nr a0 (s_wo X.1 k) := by
          rcases f3 with ⟨-, -, Z, hZ⟩ | ⟨q, -⟩
          · exact ⟨Z, (ma_fs_c hr8 s6).mp hZ⟩
          · exact absurd q hc
        rw [ma_gr_n (fun q => q.2 yes)]
        exact ma_bar hd k (by omega) (s_cx nn nr (s_wo X.1 k) X.1 X) (ma_fw_t hf f1) f2 hS
theorem ma_bS {nn nr : Nat} {x : gS} (H : ma_CI nn nr x) (h5 : x.1 2 5 = 1) (h6 : x.1 2 6 = 0) : ma_CI nn nr (bS x) ∧ ma_fq x (bS x) ∧ (bS x).1 2 9 = ma_gr (ma_Fec nn nr x.2.2.1) nr (s_all x.2.2.1 nr) := by
  obtain ⟨c1, c2, hd, hk, c6, hf, hbp, hbr⟩ := id H
  have hnn : cN (x.1 1 7) = nn := by rw [c1]; exact ma_cN (by have := hd.1; omega)
  have hnr : cN (x.1 1 8) = nr := by rw [c2]; exact ma_cN (by have := hd.2.1; omega)
  have hr8 := hd.2.1
  by_cases h8 : x.1 2 8 = 0
  · obtain ⟨a1, a2, a3⟩ := ma_sall_S (a := x.2.2.1) hr8
    obtain ⟨q1, q2, q3⟩ := ma_bar (I0 := x.1) (J0 := x.2.1) (b0 := x.2.2.2) hd nr (Nat.le_refl _) (s_all x.2.2.1 nr, x.1, x.2.1, x.2.2.1, x.2.2.2) ⟨fun _ _ _ _ => rfl, fun _ _ _ => rfl, fun _ _ _ _ _ _ => rfl, fun _ _ _ _ _ => rfl⟩ hk a1
    have e : bS x = (gU (gU (s_fbar x.1 x.2.1 x.2.2.1 x.2.2.2 nn nr).2.1 2 9 (s_fbar x.1 x.2.1 x.2.2.1 x.2.2.2 nn nr).1) 2 8 1, (s_fbar x.1 x.2.1 x.2.2.1 x.2.2.2 nn nr).2.2.1, (s_fbar x.1 x.2.1 x.2.2.1 x.2.2.2 nn nr).2.2.2.1, (s_fbar x.1 x.2.1 x.2.2.1 x.2.2.2 nn nr).2.2.2.2) := by
      unfold bS s_brI s_brJ s_brA s_brB
      rw [hnn, hnr, if_pos h8, if_pos h8, if_pos h8, if_pos h8]
    have e2 : s_bar nn nr nr (s_all x.2.2.1 nr, x.1, x.2.1, x.2.2.1, x.2.2.2) = s_fbar x.1 x.2.1 x.2.2.1 x.2.2.2 nn nr := rfl
    rw [e2] at q1 q2 q3
    generalize s_fbar x.1 x.2.1 x.2.2.1 x.2.2.2 nn nr = y at *
    have s6 := ma_fw_6 q2
    have io : ∀ k j, ¬ (k = 2 ∧ (j = 8 ∨ j = 9)) → gU (gU y.2.1 2 9 y.1) 2 8 1 k j = y.2.1 k j := fun k j h => by rw [gU_n (by omega), gU_n (by omega)]
    have ik : ∀ k j, ¬ (k = 2 ∧ (j = 8 ∨ j = 9)) → ¬ (k = 4 ∧ j = 7) → ¬ (k = 4 ∧ j = 8) → gU (gU y.2.1 2 9 y.1) 2 8 1 k j = x.1 k j := fun k j h1 h2 h3 => by rw [io k j h1, q2.1 k j h2 h3]
    have i29 : gU (gU y.2.1 2 9 y.1) 2 8 1 2 9 = y.1 := by rw [gU_n (by omega), gU_s]
    rw [e]
    refine ⟨⟨?_, ?_, ma_dat_c s6 hd, ?_, ?_, ?_, ?_, Or.inr ⟨gU_s (f := gU y.2.1 2 9 y.1) (k := 2) (j := 8), ?_⟩⟩, ⟨fun k j g1 g2 g3 => ik k j (by omega) g2 g3, fun k j g1 _ => q2.2.1 k j g1, q2.2.2.1, fun k j g1 g2 _ g4 => q2.2.2.2 k j g1 g2 g4⟩, ?_⟩
    · show gU (gU y.2.1 2 9 y.1) 2 8 1 1 7 = _
      rw [ik 1 7 (by omega) (by omega) (by omega)]; exact c1
    · show gU (gU y.2.1 2 9 y.1) 2 8 1 1 8 = _
      rw [ik 1 8 (by omega) (by omega) (by omega)]; exact c2
    · show ma_dk (gU (gU y.2.1 2 9 y.1) 2 8 1) y.2.2.2.1
      unfold ma_dk at q3 ⊢
      rw [io 4 7 (by omega), io 4 8 (by omega)]
      exact q3
    · show gU (gU y.2.1 2 9 y.1) 2 8 1 2 6 = 0 ∨ gU (gU y.2.1 2 9 y.1) 2 8 1 2 6 = 1
      rw [ik 2 6 (by omega) (by omega) (by omega)]; exact c6
    · refine Or.inr ⟨?_, Or.inr ⟨?_, fun X hX => ?_⟩⟩
      · show gU (gU y.2.1 2 9 y.1) 2 8 1 2 5 = 1
        rw [ik 2 5 (by omega) (by omega) (by omega)]; exact h5
      · show gU (gU y.2.1 2 9 y.1) 2 8 1 2 6 = 0
        rw [ik 2 6 (by omega) (by omega) (by omega)]; exact h6
      · rcases hf with w | ⟨-, w | w⟩
        · rw [h5] at w; exact absurd w (by decide)
        · rw [h6] at w; exact absurd w.1 (by decide)
        · have := (ma_fs_c hr8 s6).mp hX
          exact w.2 X ((ma_fs_R (fun r _ => by rw [s6.2.2.2.2.2.1])).mp this)
    · show gU (gU y.2.1 2 9 y.1) 2 8 1 2 7 = 0 ∨ (gU (gU y.2.1 2 9 y.1) 2 8 1 2 7 = 1 ∧ _)
      rw [ik 2 7 (by omega) (by omega) (by omega)]
      rcases hbp with w | w
      · exact Or.inl w
      · exact Or.inr ⟨w.1, ma_BP_c hr8 s6 (fun i => q2.2.2.2 20 i (by omega) (by omega) (by omega)) (q2.2.1 2 4 (by omega)) w.2⟩
    · show gU (gU y.2.1 2 9 y.1) 2 8 1 2 9 = ma_gr (ma_Fec nn nr y.2.2.2.1) nr (s_all y.2.2.2.1 nr)
      rw [i29, ma_sall_c s6.2.2.2.2.2.1, ma_gr_c (ma_Fec_c hr8 s6)]
      exact q1
    · show gU (gU y.2.1 2 9 y.1) 2 8 1 2 9 = _
      rw [i29]
      exact q1
  · have e : bS x = x := by
      unfold bS s_brI s_brJ s_brA s_brB
      rw [if_neg h8, if_neg h8, if_neg h8, if_neg h8]
    rw [e]
    rcases hbr with q | q
    · exact absurd q h8
    · exact ⟨H, ma_fq_r x, q.2⟩
