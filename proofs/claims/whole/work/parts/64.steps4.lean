/-! THE MATHEMATICS, 30: the calls that change the problem -/
theorem ma_within {v b : Int32} {B : Int} (hb : b.toInt = B) (hB : 0 ≤ B ∧ B ≤ 100000) : (q_within v b = 0 ∧ (v.toInt < -B ∨ B < v.toInt)) ∨ (¬ q_within v b = 0 ∧ -B ≤ v.toInt ∧ v.toInt ≤ B) := by
  have hn : (-b).toInt = -B := ma_neg3 hb (by omega)
  unfold q_within
  by_cases h1 : v < -b
  · rw [if_pos h1]
    rw [Int32.lt_iff_toInt_lt, hn] at h1
    exact Or.inl ⟨rfl, Or.inl h1⟩
  · rw [if_neg h1]
    rw [Int32.lt_iff_toInt_lt, hn] at h1
    by_cases h2 : b < v
    · rw [if_pos h2]
      rw [Int32.lt_iff_toInt_lt, hb] at h2
      exact Or.inl ⟨rfl, Or.inr h2⟩
    · rw [if_neg h2]
      rw [Int32.lt_iff_toInt_lt, hb] at h2
      exact Or.inr ⟨by decide, by omega, by omega⟩
theorem ma_spanE {lo hi : Int32} : (q_span lo hi = 0 ∧ m_span lo hi = 0) ∨ (¬ q_span lo hi = 0 ∧ ¬ m_span lo hi = 0 ∧ -100 ≤ lo.toInt ∧ lo.toInt ≤ hi.toInt ∧ hi.toInt ≤ 100) := by
  have w1 := ma_within (v := lo) (b := 100) (B := 100) rfl (by omega)
  have w2 := ma_within (v := hi) (b := 100) (B := 100) rfl (by omega)
  have l1 : lo < -100 ↔ lo.toInt < -100 := by rw [Int32.lt_iff_toInt_lt]; rfl
  have l2 : 100 < hi ↔ 100 < hi.toInt := by rw [Int32.lt_iff_toInt_lt]; rfl
  have l3 : hi < lo ↔ hi.toInt < lo.toInt := Int32.lt_iff_toInt_lt
  unfold q_span m_span
  rcases w1 with ⟨a1, a2⟩ | ⟨a1, a2, a3⟩
  · rw [if_pos a1]
    refine Or.inl ⟨rfl, ?_⟩
    by_cases q1 : lo < -100
    · rw [if_pos q1]
    · rw [if_neg q1]
      by_cases q2 : 100 < hi
      · rw [if_pos q2]
      · rw [if_neg q2, if_pos (l3.mpr (by rw [l1] at q1; rw [l2] at q2; omega))]
  · rw [if_neg a1, if_neg (show ¬ lo < -100 from fun w => by rw [l1] at w; omega)]
    rcases w2 with ⟨b1, b2⟩ | ⟨b1, b2, b3⟩
    · rw [if_pos b1]
      refine Or.inl ⟨rfl, ?_⟩
      by_cases q2 : 100 < hi
      · rw [if_pos q2]
      · rw [if_neg q2, if_pos (l3.mpr (by rw [l2] at q2; omega))]
    · rw [if_neg b1, if_neg (show ¬ 100 < hi from fun w => by rw [l2] at w; omega)]
      by_cases q3 : hi < lo
      · rw [if_pos q3]; exact Or.inl ⟨rfl, rfl⟩
      · rw [if_neg q3]
        rw [l3] at q3
        exact Or.inr ⟨by decide, by decide, by omega, by omega, by omega⟩
/-- a state whose caches are forgotten -/
theorem ma_IV0 {nn nr : Nat} {x y : gS} (H : ma_IV nn nr x) {nn' nr' : Nat} (h17 : y.1 1 7 = nI nn') (h18 : y.1 1 8 = nI nr') (h50 : y.1 5 0 = nI nn') (h51 : y.1 5 1 = nI nr') (h4 : ∀ j, y.1 4 j = x.1 4 j) (h15 : ∀ j, y.2.2.1 15 j = x.2.2.1 15 j) (h16 : ∀ j, y.2.2.1 16 j = x.2.2.1 16 j) (h26 : y.1 2 6 = x.1 2 6) (h38 : y.1 3 8 = x.1 3 8) (h25 : y.1 2 5 = 0) (h27 : y.1 2 7 = 0) (h28 : y.1 2 8 = 0) (h39 : y.1 3 9 = 0) (hd : ma_dat nn' nr' y.2.2.1) (hE : ma_EQ nn' nr' y.2.2.1) (hK : y.1 5 9 = 0 ∨ (y.1 5 9 = 1 ∧ ma_KN nn' nr' y)) : ma_INV y := by
  refine ⟨nn', nr', ⟨h17, h18, hd, ?_, by rw [h26]; exact H.1.2.2.2.2.1, Or.inl h25, Or.inl h27, Or.inl h28⟩, h50, h51, hE, hK, by rw [h38]; exact H.2.2.2.2.2.1, Or.inl h39⟩
  have e15 : y.2.2.1 15 = x.2.2.1 15 := funext h15
  have e16 : y.2.2.1 16 = x.2.2.1 16 := funext h16
  have hk := H.1.2.2.2.1
  unfold ma_dk at hk ⊢
  rw [h4 7, h4 8, e15, e16]
  exact hk
theorem ma_fg (I : gF) (k j : Nat) : q_fg I k j = if (k = 2 ∧ (j = 5 ∨ j = 7 ∨ j = 8)) ∨ (k = 3 ∧ j = 9) then 0 else I k j := by
  unfold q_fg gU
  by_cases h1 : k = 3 ∧ j = 9
  · rw [if_pos h1, if_pos (Or.inr h1)]
  · rw [if_neg h1]
    by_cases h2 : k = 2 ∧ j = 8
    · rw [if_pos h2, if_pos (by omega)]
    · rw [if_neg h2]
      by_cases h3 : k = 2 ∧ j = 7
      · rw [if_pos h3, if_pos (by omega)]
      · rw [if_neg h3]
        by_cases h4 : k = 2 ∧ j = 5
        · rw [if_pos h4, if_pos (by omega)]
        · rw [if_neg h4, if_neg (by omega)]
theorem ma_wipN {a : gF} {mn : Nat} (hmn : mn < 5) : ∀ n, ∀ k j, m_wipN a mn n k j = if k = 32 ∧ j < 5 * n ∧ j % 5 = mn then 0 else a k j
  | 0, k, j => by
    rw [if_neg (by omega)]
    rfl
  | n + 1, k, j => by
    show gU (m_wipN a mn n) 32 ((5 * n) + mn) 0 k j = _
    by_cases h : k = 32 ∧ j = 5 * n + mn
    · obtain ⟨rfl, rfl⟩ := h
      rw [gU_s, if_pos (by omega)]
    · rw [gU_n (by omega), ma_wipN hmn n]
      by_cases h2 : k = 32 ∧ j < 5 * n ∧ j % 5 = mn
      · rw [if_pos h2, if_pos (by omega)]
      · rw [if_neg h2, if_neg (by omega)]
theorem ma_wipR {a : gF} {mr : Nat} : ∀ n, ∀ k j, m_wipR a mr n k j = if k = 32 ∧ 5 * mr ≤ j ∧ j < 5 * mr + n then 0 else a k j
  | 0, k, j => by
    rw [if_neg (by omega)]
    rfl
  | n + 1, k, j => by
    show gU (m_wipR a mr n) 32 ((5 * mr) + n) 0 k j = _
    by_cases h : k = 32 ∧ j = 5 * mr + n
    · obtain ⟨rfl, rfl⟩ := h
      rw [gU_s, if_pos (by omega)]
    · rw [gU_n (by omega), ma_wipR n]
      by_cases h2 : k = 32 ∧ 5 * mr ≤ j ∧ j < 5 * mr + n
      · rw [if_pos h2, if_pos (by omega)]
      · rw [if_neg h2, if_neg (by omega)]
theorem ma_wipe {a : gF} {nr : Nat} : ∀ n, ∀ k j, p_wipe a nr n k j = if k = 40 + nr ∧ j < n then 0 else a k j
  | 0, k, j => by
    rw [if_neg (by omega)]
    rfl
  | n + 1, k, j => by
    show gU (p_wipe a nr n) (40 + nr) n 0 k j = _
    by_cases h : k = 40 + nr ∧ j = n
    · obtain ⟨rfl, rfl⟩ := h
      rw [gU_s, if_pos (by omega)]
    · rw [gU_n (by omega), ma_wipe n]
      by_cases h2 : k = 40 + nr ∧ j < n
      · rw [if_pos h2, if_pos (by omega)]
      · rw [if_neg h2, if_neg (by omega)]
theorem ma_st_clear {x : gS} (H : ma_INV x) : ma_OM (c_clearS x) ∧ c_clear x = m_clear (c_clearS x) ∧ ma_INV (m_clearS (c_clearS x)) := by
  have hOM := ma_IV_OM H
  obtain ⟨nn, nr, H⟩ := H
  have I1 : ∀ k j, (c_clearS x).1 k j = if k = 1 ∧ (j = 7 ∨ j = 8) then 0 else q_fg x.1 k j := by
    intro k j
    show gU (gU (q_fg x.1) 1 7 0) 1 8 0 k j = _
    unfold gU
    by_cases h1 : k = 1 ∧ j = 8
    · rw [if_pos h1, if_pos (by omega)]
    · rw [if_neg h1]
      by_cases h2 : k = 1 ∧ j = 7
      · rw [if_pos h2, if_pos (by omega)]
      · rw [if_neg h2, if_neg (by omega)]
  have I2 : ∀ k j, (m_clearS (c_clearS x)).1 k j = if k = 5 ∧ (j = 0 ∨ j = 1 ∨ j = 9) then 0 else (c_clearS x).1 k j := by
    intro k j
    show gU (gU (gU (c_clearS x).1 5 0 0) 5 1 0) 5 9 0 k j = _
    rw [gU, gU, gU]
    by_cases h1 : k = 5 ∧ j = 9
    · rw [if_pos h1, if_pos (by omega)]
    · rw [if_neg h1]
      by_cases h2 : k = 5 ∧ j = 1
      · rw [if_pos h2, if_pos (by omega)]
      · rw [if_neg h2]
        by_cases h3 : k = 5 ∧ j = 0
        · rw [if_pos h3, if_pos (by omega)]
        · rw [if_neg h3, if_neg (by omega)]
  have e5 : ∀ j, (c_clearS x).1 5 j = x.1 5 j := fun j => by rw [I1, if_neg (by omega), ma_fg, if_neg (by omega)]
  refine ⟨by unfold ma_OM at hOM ⊢; rw [e5, e5]; exact hOM, ?_, ?_⟩
  · unfold c_clear m_clear
    rw [e5, H.1.1, H.2.1]
  · have rd : ∀ k j, ¬ (k = 5 ∧ (j = 0 ∨ j = 1 ∨ j = 9)) → ¬ (k = 1 ∧ (j = 7 ∨ j = 8)) → ¬ ((k = 2 ∧ (j = 5 ∨ j = 7 ∨ j = 8)) ∨ (k = 3 ∧ j = 9)) → (m_clearS (c_clearS x)).1 k j = x.1 k j := fun k j h1 h2 h3 => by rw [I2, if_neg h1, I1, if_neg h2, ma_fg, if_neg h3]
    refine ma_IV0 H (nn' := 0) (nr' := 0) ?_ ?_ ?_ ?_ (fun j => rd 4 j (by omega) (by omega) (by omega)) (fun _ => rfl) (fun _ => rfl) (rd 2 6 (by omega) (by omega) (by omega)) (rd 3 8 (by omega) (by omega) (by omega)) ?_ ?_ ?_ ?_ ⟨by omega, by omega, fun i h => by omega, fun r h => by omega⟩ ⟨fun i h => by omega, fun r h => by omega⟩ (Or.inl ?_)
    · rw [I2, if_neg (by omega), I1, if_pos (by omega)]; rfl
    · rw [I2, if_neg (by omega), I1, if_pos (by omega)]; rfl
    · rw [I2, if_pos (by omega)]; rfl
    · rw [I2, if_pos (by omega)]; rfl
    · rw [I2, if_neg (by omega), I1, if_neg (by omega), ma_fg, if_pos (by omega)]
    · rw [I2, if_neg (by omega), I1, if_neg (by omega), ma_fg, if_pos (by omega)]
    · rw [I2, if_neg (by omega), I1, if_neg (by omega), ma_fg, if_pos (by omega)]
    · rw [I2, if_neg (by omega), I1, if_neg (by omega), ma_fg, if_pos (by omega)]
    · rw [I2, if_pos (by omega)]
/-- a call that sets one number of class and reference alike -/
theorem ma_set {nn nr : Nat} {x : gS} (H : ma_IV nn nr x) {A1 A2 : gF} (h15 : ∀ j, A2 15 j = x.2.2.1 15 j) (h16 : ∀ j, A2 16 j = x.2.2.1 16 j) (hd : ma_dat nn nr A2) (hE : ma_EQ nn nr A2) : ma_OM (q_fg x.1, x.2.1, A1, x.2.2.2) ∧ ma_INV (gU (q_fg x.1) 5 9 0, x.2.1, A2, x.2.2.2) := by
  have hOM := ma_IV_OM ⟨nn, nr, H⟩
  have rd : ∀ k j, ¬ (k = 5 ∧ j = 9) → gU (q_fg x.1) 5 9 0 k j = q_fg x.1 k j := fun k j h => gU_n (by omega)
  have rf : ∀ k j, ¬ ((k = 2 ∧ (j = 5 ∨ j = 7 ∨ j = 8)) ∨ (k = 3 ∧ j = 9)) → q_fg x.1 k j = x.1 k j := fun k j h => by rw [ma_fg, if_neg h]
  refine ⟨?_, ?_⟩
  · unfold ma_OM at hOM ⊢
    show q_fg x.1 5 0 = nI (cN (q_fg x.1 5 0)) ∧ cN (q_fg x.1 5 0) ≤ 5 ∧ q_fg x.1 5 1 = nI (cN (q_fg x.1 5 1)) ∧ cN (q_fg x.1 5 1) ≤ 8
    rw [rf 5 0 (by omega), rf 5 1 (by omega)]
    exact hOM
  · refine ma_IV0 (x := x) (y := (gU (q_fg x.1) 5 9 0, x.2.1, A2, x.2.2.2)) H (nn' := nn) (nr' := nr) ?_ ?_ ?_ ?_ (fun j => ?_) h15 h16 ?_ ?_ ?_ ?_ ?_ ?_ hd hE (Or.inl (gU_s (f := q_fg x.1) (k := 5) (j := 9)))
    · exact (rd 1 7 (by omega)).trans ((rf 1 7 (by omega)).trans H.1.1)
    · exact (rd 1 8 (by omega)).trans ((rf 1 8 (by omega)).trans H.1.2.1)
    · exact (rd 5 0 (by omega)).trans ((rf 5 0 (by omega)).trans H.2.1)
    · exact (rd 5 1 (by omega)).trans ((rf 5 1 (by omega)).trans H.2.2.1)
    · exact (rd 4 j (by omega)).trans (rf 4 j (by omega))
    · exact (rd 2 6 (by omega)).trans (rf 2 6 (by omega))
    · exact (rd 3 8 (by omega)).trans (rf 3 8 (by omega))
    · exact (rd 2 5 (by omega)).trans (by rw [ma_fg, if_pos (by omega)])
    · exact (rd 2 7 (by omega)).trans (by rw [ma_fg, if_pos (by omega)])
    · exact (rd 2 8 (by omega)).trans (by rw [ma_fg, if_pos (by omega)])
    · exact (rd 3 9 (by omega)).trans (by rw [ma_fg, if_pos (by omega)])
theorem ma_fgN (I : gF) (v : Int32) : m_isN (q_fg I) v = m_isN I v := by
  have e : q_fg I 5 0 = I 5 0 := by rw [ma_fg, if_neg (by omega)]
  unfold m_isN
  rw [e]
theorem ma_fgR (I a : gF) (v : Int32) : m_isR (q_fg I) a v = m_isR I a v := by
  have e : q_fg I 5 1 = I 5 1 := by rw [ma_fg, if_neg (by omega)]
  unfold m_isR
  rw [e]
theorem ma_st_span {x : gS} (H : ma_INV x) (v lo hi : Int32) : ma_OM (c_spanS x v lo hi) ∧ c_span x v lo hi = m_sp (c_spanS x v lo hi) v lo hi ∧ ma_INV (m_spS (c_spanS x v lo hi) v lo hi) := by
  have hOM := ma_IV_OM H
  have H0 := H
  obtain ⟨nn, nr, H⟩ := H
  obtain ⟨v1, v2⟩ := ma_isN H v
  unfold c_span c_spanS m_sp m_spS
  by_cases q0 : p_hasN x.1 v = 0
  · have q1 : m_isN x.1 v = 0 := by rw [← v1]; exact q0
    simp only [if_pos q0, if_pos q1]
    exact ⟨hOM, trivial, H0⟩
  · have q1 : ¬ m_isN x.1 v = 0 := by rw [← v1]; exact q0
    obtain ⟨n1, n2⟩ := v2 q0
    rcases ma_spanE (lo := lo) (hi := hi) with ⟨s1, s2⟩ | ⟨s1, s2, s3, s4, s5⟩
    · simp only [if_neg q0, if_pos s1, if_neg q1, if_pos s2]
      exact ⟨hOM, trivial, H0⟩
    · simp only [if_neg q0, if_neg s1, ma_fgN, if_neg q1, if_neg s2]
      have hd := H.1.2.2.1
      have hE := H.2.2.2.1
      have rd : ∀ k j, gU (gU (gU (gU x.2.2.1 6 (cN v) lo) 7 (cN v) hi) 27 (cN v) lo) 28 (cN v) hi k j = if k = 28 ∧ j = cN v then hi else if k = 27 ∧ j = cN v then lo else if k = 7 ∧ j = cN v then hi else if k = 6 ∧ j = cN v then lo else x.2.2.1 k j := fun k j => rfl
      generalize gU (gU (gU (gU x.2.2.1 6 (cN v) lo) 7 (cN v) hi) 27 (cN v) lo) 28 (cN v) hi = A at *
      have ro : ∀ k j, k ≠ 28 → k ≠ 27 → k ≠ 7 → k ≠ 6 → A k j = x.2.2.1 k j := fun k j h1 h2 h3 h4 => by rw [rd, if_neg (by omega), if_neg (by omega), if_neg (by omega), if_neg (by omega)]
      have r6 : ∀ j, A 6 j = if j = cN v then lo else x.2.2.1 6 j := fun j => by rw [rd, if_neg (by omega), if_neg (by omega), if_neg (by omega)]; simp
      have r7 : ∀ j, A 7 j = if j = cN v then hi else x.2.2.1 7 j := fun j => by rw [rd, if_neg (by omega), if_neg (by omega)]; simp
      have r27 : ∀ j, A 27 j = if j = cN v then lo else x.2.2.1 27 j := fun j => by rw [rd, if_neg (by omega)]; simp
      have r28 : ∀ j, A 28 j = if j = cN v then hi else x.2.2.1 28 j := fun j => by rw [rd]; simp
      have hd' : ma_dat nn nr A := by
        refine ⟨hd.1, hd.2.1, fun i hi2 => ?_, fun r hr => ?_⟩
        · rw [r6, r7, ro 8 i (by omega) (by omega) (by omega) (by omega)]
          by_cases g : i = cN v
          · rw [if_pos g, if_pos g]
            exact ⟨s3, s4, s5, (hd.2.2.1 i hi2).2.2.2⟩
          · rw [if_neg g, if_neg g]; exact hd.2.2.1 i hi2
        · rw [ro 10 r (by omega) (by omega) (by omega) (by omega), ro 9 r (by omega) (by omega) (by omega) (by omega)]
          exact ⟨(hd.2.2.2 r hr).1, (hd.2.2.2 r hr).2.1, fun i hi2 => by rw [ro (40 + r) i (by omega) (by omega) (by omega) (by omega)]; exact (hd.2.2.2 r hr).2.2 i hi2⟩
      have hE' : ma_EQ nn nr A := by
        refine ⟨fun i hi2 => ?_, fun r hr => ?_⟩
        · rw [r27, r28, r6, r7, ro 29 i (by omega) (by omega) (by omega) (by omega), ro 8 i (by omega) (by omega) (by omega) (by omega)]
          by_cases g : i = cN v
          · simp only [if_pos g]
            exact ⟨trivial, trivial, (hE.1 i hi2).2.2⟩
          · simp only [if_neg g]; exact hE.1 i hi2
        · rw [ro 30 r (by omega) (by omega) (by omega) (by omega), ro 9 r (by omega) (by omega) (by omega) (by omega), ro 31 r (by omega) (by omega) (by omega) (by omega), ro 10 r (by omega) (by omega) (by omega) (by omega), ro 33 r (by omega) (by omega) (by omega) (by omega), ro 12 r (by omega) (by omega) (by omega) (by omega)]
          obtain ⟨e1, e2, e3, e4, e5⟩ := hE.2 r hr
          exact ⟨e1, e2, e3, fun i hi2 => by rw [ro 32 _ (by omega) (by omega) (by omega) (by omega), ro (40 + r) i (by omega) (by omega) (by omega) (by omega)]; exact e4 i hi2, fun i g1 g2 => by rw [ro (40 + r) i (by omega) (by omega) (by omega) (by omega)]; exact e5 i g1 g2⟩
      obtain ⟨m1, m2⟩ := ma_set (A1 := gU (gU x.2.2.1 6 (cN v) lo) 7 (cN v) hi) (A2 := A) H (fun j => ro 15 j (by omega) (by omega) (by omega) (by omega)) (fun j => ro 16 j (by omega) (by omega) (by omega) (by omega)) hd' hE'
      exact ⟨m1, trivial, m2⟩
