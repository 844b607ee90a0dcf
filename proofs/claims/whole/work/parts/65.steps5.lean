/-! THE MATHEMATICS, 31: the calls that change the problem, the rest -/
/-- class and reference arrays that differ from before in some cells alone -/
theorem ma_dE {nn nr : Nat} {a A : gF} (hd : ma_dat nn nr a) (hE : ma_EQ nn nr a) (h8 : ∀ i, i < nn → A 6 i = a 6 i ∧ A 7 i = a 7 i ∧ A 27 i = a 27 i ∧ A 28 i = a 28 i ∧ A 29 i = A 8 i ∧ (A 8 i).toInt.natAbs ≤ 99) (hr : ∀ r, r < nr → A 9 r = a 9 r ∧ A 30 r = a 30 r ∧ A 31 r = A 10 r ∧ (A 10 r).toInt.natAbs ≤ 1000 ∧ A 33 r = A 12 r ∧ (∀ i, i < nn → A 32 (5 * r + i) = A (40 + r) i ∧ (A (40 + r) i).toInt.natAbs ≤ 9) ∧ ∀ i, nn ≤ i → i < 5 → A (40 + r) i = 0) : ma_dat nn nr A ∧ ma_EQ nn nr A := by
  refine ⟨⟨hd.1, hd.2.1, fun i hi => ?_, fun r h => ?_⟩, ⟨fun i hi => ?_, fun r h => ?_⟩⟩
  · obtain ⟨e1, e2, e3, e4, e5, e6⟩ := h8 i hi
    rw [e1, e2]
    have := hd.2.2.1 i hi
    exact ⟨this.1, this.2.1, this.2.2.1, e6⟩
  · obtain ⟨e1, e2, e3, e4, e5, e6, e7⟩ := hr r h
    rw [e1]
    exact ⟨e4, (hd.2.2.2 r h).2.1, fun i hi => (e6 i hi).2⟩
  · obtain ⟨e1, e2, e3, e4, e5, e6⟩ := h8 i hi
    rw [e1, e2, e3, e4]
    exact ⟨(hE.1 i hi).1, (hE.1 i hi).2.1, e5⟩
  · obtain ⟨e1, e2, e3, e4, e5, e6, e7⟩ := hr r h
    rw [e1, e2]
    exact ⟨(hE.2 r h).1, e3, e5, fun i hi => (e6 i hi).1, e7⟩
theorem ma_st_cost {x : gS} (H : ma_INV x) (v w : Int32) : ma_OM (c_costS x v w) ∧ c_cost x v w = m_co (c_costS x v w) v w ∧ ma_INV (m_coS (c_costS x v w) v w) := by
  have hOM := ma_IV_OM H
  have H0 := H
  obtain ⟨nn, nr, H⟩ := H
  obtain ⟨v1, v2⟩ := ma_isN H v
  have l1 : w < -99 ↔ w.toInt < -99 := by rw [Int32.lt_iff_toInt_lt]; rfl
  have l2 : w ≤ 99 ↔ w.toInt ≤ 99 := by rw [Int32.le_iff_toInt_le]; rfl
  unfold c_cost c_costS m_co m_coS
  by_cases q0 : p_hasN x.1 v = 0
  · have q1 : m_isN x.1 v = 0 := by rw [← v1]; exact q0
    simp only [if_pos q0, if_pos q1]
    exact ⟨hOM, trivial, H0⟩
  · have q1 : ¬ m_isN x.1 v = 0 := by rw [← v1]; exact q0
    obtain ⟨n1, n2⟩ := v2 q0
    rcases ma_within (v := w) (b := 99) (B := 99) rfl (by omega) with ⟨s1, s2⟩ | ⟨s1, s2, s3⟩
    · simp only [if_neg q0, if_pos s1, if_neg q1]
      by_cases g : w < -99
      · simp only [if_pos g]
        exact ⟨hOM, trivial, H0⟩
      · have g2 : ¬ w ≤ 99 := fun z => by rw [l2] at z; rw [l1] at g; omega
        simp only [if_neg g, if_neg g2]
        exact ⟨hOM, trivial, H0⟩
    · have g : ¬ w < -99 := fun z => by rw [l1] at z; omega
      have g2 : w ≤ 99 := l2.mpr s3
      simp only [if_neg q0, if_neg s1, ma_fgN, if_neg q1, if_neg g, if_pos g2]
      have hd := H.1.2.2.1
      have hE := H.2.2.2.1
      have e29 : gU x.2.2.1 8 (cN v) w 29 (cN v) = x.2.2.1 8 (cN v) := by rw [gU_n (by omega)]; exact (hE.1 _ n1).2.2
      rw [e29]
      have rd : ∀ k j, gU (gU x.2.2.1 8 (cN v) w) 29 (cN v) w k j = if k = 29 ∧ j = cN v then w else if k = 8 ∧ j = cN v then w else x.2.2.1 k j := fun k j => rfl
      generalize gU (gU x.2.2.1 8 (cN v) w) 29 (cN v) w = A at *
      have ro : ∀ k j, k ≠ 29 → k ≠ 8 → A k j = x.2.2.1 k j := fun k j h1 h2 => by rw [rd, if_neg (by omega), if_neg (by omega)]
      have r8 : ∀ j, A 8 j = if j = cN v then w else x.2.2.1 8 j := fun j => by rw [rd, if_neg (by omega)]; simp
      have r29 : ∀ j, A 29 j = if j = cN v then w else x.2.2.1 29 j := fun j => by rw [rd]; simp
      obtain ⟨hd', hE'⟩ := ma_dE (A := A) hd hE (fun i hi => by
        rw [ro 6 i (by omega) (by omega), ro 7 i (by omega) (by omega), ro 27 i (by omega) (by omega), ro 28 i (by omega) (by omega), r8, r29]
        by_cases z : i = cN v
        · simp only [if_pos z]
          exact ⟨trivial, trivial, trivial, trivial, trivial, by omega⟩
        · simp only [if_neg z]
          exact ⟨trivial, trivial, trivial, trivial, (hE.1 i hi).2.2, (hd.2.2.1 i hi).2.2.2⟩) (fun r hr => by
        rw [ro 9 r (by omega) (by omega), ro 30 r (by omega) (by omega), ro 31 r (by omega) (by omega), ro 10 r (by omega) (by omega), ro 33 r (by omega) (by omega), ro 12 r (by omega) (by omega)]
        obtain ⟨e1, e2, e3, e4, e5⟩ := hE.2 r hr
        exact ⟨rfl, rfl, e2, (hd.2.2.2 r hr).1, e3, fun i hi => by rw [ro 32 _ (by omega) (by omega), ro (40 + r) i (by omega) (by omega)]; exact ⟨e4 i hi, (hd.2.2.2 r hr).2.2 i hi⟩, fun i z1 z2 => by rw [ro (40 + r) i (by omega) (by omega)]; exact e5 i z1 z2⟩)
      obtain ⟨m1, m2⟩ := ma_set (A1 := gU x.2.2.1 8 (cN v) w) (A2 := A) H (fun j => ro 15 j (by omega) (by omega)) (fun j => ro 16 j (by omega) (by omega)) hd' hE'
      exact ⟨m1, rfl, m2⟩
theorem ma_RtR {nn nr : Nat} {x : gS} (H : ma_IV nn nr x) (A : gF) (h33 : ∀ j, A 33 j = x.2.2.1 33 j) (v : Int32) : m_isR x.1 A v = m_isR x.1 x.2.2.1 v := by
  unfold m_isR
  rw [h33]
theorem ma_st_right {x : gS} (H : ma_INV x) (v w : Int32) : ma_OM (c_rightS x v w) ∧ c_right x v w = m_right (c_rightS x v w) v w ∧ ma_INV (m_rightS (c_rightS x v w) v w) := by
  have hOM := ma_IV_OM H
  have H0 := H
  obtain ⟨nn, nr, H⟩ := H
  obtain ⟨v1, v2⟩ := ma_isR H v
  have l1 : w < -1000 ↔ w.toInt < -1000 := by rw [Int32.lt_iff_toInt_lt]; rfl
  have l2 : w ≤ 1000 ↔ w.toInt ≤ 1000 := by rw [Int32.le_iff_toInt_le]; rfl
  unfold c_right c_rightS m_right m_rightS
  by_cases q0 : p_hasR x.1 x.2.2.1 v = 0
  · have q1 : m_isR x.1 x.2.2.1 v = 0 := by rw [← v1]; exact q0
    simp only [if_pos q0, if_pos q1]
    exact ⟨hOM, trivial, H0⟩
  · have q1 : ¬ m_isR x.1 x.2.2.1 v = 0 := by rw [← v1]; exact q0
    obtain ⟨n1, n2, -⟩ := v2 q0
    rcases ma_within (v := w) (b := 1000) (B := 1000) rfl (by omega) with ⟨s1, s2⟩ | ⟨s1, s2, s3⟩
    · simp only [if_neg q0, if_pos s1, if_neg q1]
      by_cases g : w < -1000
      · simp only [if_pos g]
        exact ⟨hOM, trivial, H0⟩
      · have g2 : ¬ w ≤ 1000 := fun z => by rw [l2] at z; rw [l1] at g; omega
        simp only [if_neg g, if_neg g2]
        exact ⟨hOM, trivial, H0⟩
    · have g : ¬ w < -1000 := fun z => by rw [l1] at z; omega
      have g2 : w ≤ 1000 := l2.mpr s3
      have q3 : ¬ m_isR x.1 (gU x.2.2.1 10 (cN v) w) v = 0 := by rw [ma_RtR H _ (fun j => gU_n (by omega))]; exact q1
      simp only [if_neg q0, if_neg s1, ma_fgR, if_neg q3, if_neg g, if_pos g2]
      have hd := H.1.2.2.1
      have hE := H.2.2.2.1
      have rd : ∀ k j, gU (gU x.2.2.1 10 (cN v) w) 31 (cN v) w k j = if k = 31 ∧ j = cN v then w else if k = 10 ∧ j = cN v then w else x.2.2.1 k j := fun k j => rfl
      generalize gU (gU x.2.2.1 10 (cN v) w) 31 (cN v) w = A at *
      have ro : ∀ k j, k ≠ 31 → k ≠ 10 → A k j = x.2.2.1 k j := fun k j h1 h2 => by rw [rd, if_neg (by omega), if_neg (by omega)]
      have r10 : ∀ j, A 10 j = if j = cN v then w else x.2.2.1 10 j := fun j => by rw [rd, if_neg (by omega)]; simp
      have r31 : ∀ j, A 31 j = if j = cN v then w else x.2.2.1 31 j := fun j => by rw [rd]; simp
      obtain ⟨hd', hE'⟩ := ma_dE (A := A) hd hE (fun i hi => by
        rw [ro 6 i (by omega) (by omega), ro 7 i (by omega) (by omega), ro 27 i (by omega) (by omega), ro 28 i (by omega) (by omega), ro 29 i (by omega) (by omega), ro 8 i (by omega) (by omega)]
        exact ⟨rfl, rfl, rfl, rfl, (hE.1 i hi).2.2, (hd.2.2.1 i hi).2.2.2⟩) (fun r hr => by
        rw [ro 9 r (by omega) (by omega), ro 30 r (by omega) (by omega), r31, r10, ro 33 r (by omega) (by omega), ro 12 r (by omega) (by omega)]
        obtain ⟨e1, e2, e3, e4, e5⟩ := hE.2 r hr
        refine ⟨rfl, rfl, ?_, ?_, e3, fun i hi => by rw [ro 32 _ (by omega) (by omega), ro (40 + r) i (by omega) (by omega)]; exact ⟨e4 i hi, (hd.2.2.2 r hr).2.2 i hi⟩, fun i z1 z2 => by rw [ro (40 + r) i (by omega) (by omega)]; exact e5 i z1 z2⟩
        · by_cases z : r = cN v
          · simp only [if_pos z]
          · simp only [if_neg z]; exact e2
        · by_cases z : r = cN v
          · simp only [if_pos z]; omega
          · simp only [if_neg z]; exact (hd.2.2.2 r hr).1)
      obtain ⟨m1, m2⟩ := ma_set (A1 := gU x.2.2.1 10 (cN v) w) (A2 := A) H (fun j => ro 15 j (by omega) (by omega)) (fun j => ro 16 j (by omega) (by omega)) hd' hE'
      exact ⟨m1, trivial, m2⟩
theorem ma_st_factor {x : gS} (H : ma_INV x) (r0 v w : Int32) : ma_OM (c_factorS x r0 v w) ∧ c_factor x r0 v w = m_factor (c_factorS x r0 v w) r0 v w ∧ ma_INV (m_factorS (c_factorS x r0 v w) r0 v w) := by
  have hOM := ma_IV_OM H
  have H0 := H
  obtain ⟨nn, nr, H⟩ := H
  obtain ⟨v1, v2⟩ := ma_isR H r0
  obtain ⟨u1, u2⟩ := ma_isN H v
  have l1 : w < -9 ↔ w.toInt < -9 := by rw [Int32.lt_iff_toInt_lt]; rfl
  have l2 : w ≤ 9 ↔ w.toInt ≤ 9 := by rw [Int32.le_iff_toInt_le]; rfl
  unfold c_factor c_factorS m_factor m_factorS
  by_cases q0 : p_hasR x.1 x.2.2.1 r0 = 0
  · have q1 : m_isR x.1 x.2.2.1 r0 = 0 := by rw [← v1]; exact q0
    simp only [if_pos q0, if_pos q1]
    exact ⟨hOM, trivial, H0⟩
  · have q1 : ¬ m_isR x.1 x.2.2.1 r0 = 0 := by rw [← v1]; exact q0
    by_cases p0 : p_hasN x.1 v = 0
    · have p1 : m_isN x.1 v = 0 := by rw [← u1]; exact p0
      simp only [if_neg q0, if_neg q1, if_pos p0, if_pos p1]
      exact ⟨hOM, trivial, H0⟩
    · have p1 : ¬ m_isN x.1 v = 0 := by rw [← u1]; exact p0
      obtain ⟨n1, n2, -⟩ := v2 q0
      obtain ⟨t1, t2⟩ := u2 p0
      have d1 := H.1.2.2.1.1
      have d2 := H.1.2.2.1.2.1
      rcases ma_within (v := w) (b := 9) (B := 9) rfl (by omega) with ⟨s1, s2⟩ | ⟨s1, s2, s3⟩
      · simp only [if_neg q0, if_pos s1, if_neg q1, if_neg p0, if_neg p1]
        by_cases g : w < -9
        · simp only [if_pos g]
          exact ⟨hOM, trivial, H0⟩
        · have g2 : ¬ w ≤ 9 := fun z => by rw [l2] at z; rw [l1] at g; omega
          simp only [if_neg g, if_neg g2]
          exact ⟨hOM, trivial, H0⟩
      · have g : ¬ w < -9 := fun z => by rw [l1] at z; omega
        have g2 : w ≤ 9 := l2.mpr s3
        have q3 : ¬ m_isR x.1 (gU x.2.2.1 (40 + cN r0) (cN v) w) r0 = 0 := by rw [ma_RtR H _ (fun j => gU_n (by omega))]; exact q1
        simp only [if_neg q0, if_neg s1, ma_fgR, ma_fgN, if_neg q3, if_neg p0, if_neg p1, if_neg g, if_pos g2]
        have hd := H.1.2.2.1
        have hE := H.2.2.2.1
        have rd : ∀ k j, gU (gU x.2.2.1 (40 + cN r0) (cN v) w) 32 ((5 * cN r0) + cN v) w k j = if k = 32 ∧ j = 5 * cN r0 + cN v then w else if k = 40 + cN r0 ∧ j = cN v then w else x.2.2.1 k j := fun k j => rfl
        generalize gU (gU x.2.2.1 (40 + cN r0) (cN v) w) 32 ((5 * cN r0) + cN v) w = A at *
        have ro : ∀ k j, k ≠ 32 → k < 40 → A k j = x.2.2.1 k j := fun k j h1 h2 => by rw [rd, if_neg (by omega), if_neg (by omega)]
        obtain ⟨hd', hE'⟩ := ma_dE (A := A) hd hE (fun i hi => by
          rw [ro 6 i (by omega) (by omega), ro 7 i (by omega) (by omega), ro 27 i (by omega) (by omega), ro 28 i (by omega) (by omega), ro 29 i (by omega) (by omega), ro 8 i (by omega) (by omega)]
          exact ⟨rfl, rfl, rfl, rfl, (hE.1 i hi).2.2, (hd.2.2.1 i hi).2.2.2⟩) (fun r hr => by
          rw [ro 9 r (by omega) (by omega), ro 30 r (by omega) (by omega), ro 31 r (by omega) (by omega), ro 10 r (by omega) (by omega), ro 33 r (by omega) (by omega), ro 12 r (by omega) (by omega)]
          obtain ⟨e1, e2, e3, e4, e5⟩ := hE.2 r hr
          refine ⟨rfl, rfl, e2, (hd.2.2.2 r hr).1, e3, fun i hi => ?_, fun i z1 z2 => ?_⟩
          · rw [rd 32, rd (40 + r)]
            by_cases z : r = cN r0 ∧ i = cN v
            · obtain ⟨rfl, rfl⟩ := z
              rw [if_pos ⟨rfl, rfl⟩, if_neg (by omega), if_pos ⟨rfl, rfl⟩]
              exact ⟨rfl, by omega⟩
            · rw [if_neg (by omega), if_neg (by omega), if_neg (by omega), if_neg (by omega)]
              exact ⟨e4 i hi, (hd.2.2.2 r hr).2.2 i hi⟩
          · rw [rd (40 + r), if_neg (by omega), if_neg (by omega)]
            exact e5 i z1 z2)
        obtain ⟨m1, m2⟩ := ma_set (A1 := gU x.2.2.1 (40 + cN r0) (cN v) w) (A2 := A) H (fun j => ro 15 j (by omega) (by omega)) (fun j => ro 16 j (by omega) (by omega)) hd' hE'
        exact ⟨m1, trivial, m2⟩
theorem ma_cnt_c1 {a a' : gF} (h : ∀ j, a' 33 j = a 12 j) : ∀ n, m_cnt a' n = p_cnt a n
  | 0 => rfl
  | n + 1 => by
    show (if a' 33 n = 0 then m_cnt a' n + 0 else m_cnt a' n + 1) = (if a 12 n = 0 then p_cnt a n else p_cnt a n + 1)
    rw [ma_cnt_c1 h n, h n, Int32.add_zero]
theorem ma_cnt_c2 {a a' : gF} : ∀ n, (∀ j, j < n → a' 33 j = a 12 j) → m_cnt a' n = p_cnt a n
  | 0, _ => rfl
  | n + 1, h => by
    show (if a' 33 n = 0 then m_cnt a' n + 0 else m_cnt a' n + 1) = (if a 12 n = 0 then p_cnt a n else p_cnt a n + 1)
    rw [ma_cnt_c2 n (fun j hj => h j (by omega)), h n (by omega), Int32.add_zero]
theorem ma_st_drop {x : gS} (H : ma_INV x) (v : Int32) : ma_OM (c_dropS x v) ∧ c_drop x v = m_drop (c_dropS x v) v ∧ ma_INV (m_dropS (c_dropS x v) v) := by
  have hOM := ma_IV_OM H
  have H0 := H
  obtain ⟨nn, nr, H⟩ := H
  obtain ⟨v1, v2⟩ := ma_isR H v
  obtain ⟨c1, c2, c3, c4⟩ := ma_IV_n H
  unfold c_drop c_dropS m_drop m_dropS
  by_cases q0 : p_hasR x.1 x.2.2.1 v = 0
  · have q1 : m_isR x.1 x.2.2.1 v = 0 := by rw [← v1]; exact q0
    simp only [if_pos q0, if_pos q1]
    exact ⟨hOM, trivial, H0⟩
  · have q1 : ¬ m_isR x.1 x.2.2.1 v = 0 := by rw [← v1]; exact q0
    obtain ⟨n1, n2, -⟩ := v2 q0
    have q3 : ¬ m_isR x.1 (gU x.2.2.1 12 (cN v) 0) v = 0 := by rw [ma_RtR H _ (fun j => gU_n (by omega))]; exact q1
    simp only [if_neg q0, ma_fgR, if_neg q3]
    have hd := H.1.2.2.1
    have hE := H.2.2.2.1
    have rd : ∀ k j, gU (gU x.2.2.1 12 (cN v) 0) 33 (cN v) 0 k j = if k = 33 ∧ j = cN v then 0 else if k = 12 ∧ j = cN v then 0 else x.2.2.1 k j := fun k j => rfl
    have e51 : q_fg x.1 5 1 = x.1 5 1 := by rw [ma_fg, if_neg (by omega)]
    have hcnt : p_cnt (gU x.2.2.1 12 (cN v) 0) (cN (x.1 1 8)) = m_cnt (gU (gU x.2.2.1 12 (cN v) 0) 33 (cN v) 0) (cN (q_fg x.1 5 1)) := by
      rw [e51, c2, c4]
      refine (ma_cnt_c2 nr (fun j hj => ?_)).symm
      rw [rd]
      by_cases z : j = cN v
      · rw [if_pos ⟨rfl, z⟩, z, gU_s]
      · rw [if_neg (by omega), if_neg (by omega), gU_n (by omega)]
        exact (hE.2 j hj).2.2.1
    generalize gU (gU x.2.2.1 12 (cN v) 0) 33 (cN v) 0 = A at *
    have ro : ∀ k j, k ≠ 33 → k ≠ 12 → A k j = x.2.2.1 k j := fun k j h1 h2 => by rw [rd, if_neg (by omega), if_neg (by omega)]
    obtain ⟨hd', hE'⟩ := ma_dE (A := A) hd hE (fun i hi => by
      rw [ro 6 i (by omega) (by omega), ro 7 i (by omega) (by omega), ro 27 i (by omega) (by omega), ro 28 i (by omega) (by omega), ro 29 i (by omega) (by omega), ro 8 i (by omega) (by omega)]
      exact ⟨rfl, rfl, rfl, rfl, (hE.1 i hi).2.2, (hd.2.2.1 i hi).2.2.2⟩) (fun r hr => by
      rw [ro 9 r (by omega) (by omega), ro 30 r (by omega) (by omega), ro 31 r (by omega) (by omega), ro 10 r (by omega) (by omega)]
      obtain ⟨e1, e2, e3, e4, e5⟩ := hE.2 r hr
      refine ⟨rfl, rfl, e2, (hd.2.2.2 r hr).1, ?_, fun i hi => by rw [ro 32 _ (by omega) (by omega), ro (40 + r) i (by omega) (by omega)]; exact ⟨e4 i hi, (hd.2.2.2 r hr).2.2 i hi⟩, fun i z1 z2 => by rw [ro (40 + r) i (by omega) (by omega)]; exact e5 i z1 z2⟩
      rw [rd 33, rd 12]
      by_cases z : r = cN v
      · rw [if_pos ⟨rfl, z⟩, if_neg (by omega), if_pos ⟨rfl, z⟩]
      · rw [if_neg (by omega), if_neg (by omega), if_neg (by omega), if_neg (by omega)]
        exact e3)
    obtain ⟨m1, m2⟩ := ma_set (A1 := gU x.2.2.1 12 (cN v) 0) (A2 := A) H (fun j => ro 15 j (by omega) (by omega)) (fun j => ro 16 j (by omega) (by omega)) hd' hE'
    exact ⟨m1, hcnt, m2⟩
theorem ma_st_name {x : gS} (H : ma_INV x) (lo hi : Int32) : ma_OM (c_nameS x lo hi) ∧ c_name x lo hi = m_name (c_nameS x lo hi) lo hi ∧ ma_INV (m_nameS (c_nameS x lo hi) lo hi) := by
  have hOM := ma_IV_OM H
  have H0 := H
  obtain ⟨nn, nr, H⟩ := H
  obtain ⟨c1, c2, c3, c4⟩ := ma_IV_n H
  have hd := H.1.2.2.1
  have hE := H.2.2.2.1
  have d1 := hd.1
  have d2 := hd.2.1
  have fg5 : ∀ j, q_fg x.1 5 j = x.1 5 j := fun j => by rw [ma_fg, if_neg (by omega)]
  unfold c_name c_nameS m_name m_nameS
  rcases ma_spanE (lo := lo) (hi := hi) with ⟨s1, s2⟩ | ⟨s1, s2, s3, s4, s5⟩
  · simp only [if_pos s1, if_pos s2]
    exact ⟨hOM, trivial, H0⟩
  · have e5 : (5 : Int32) = nI 5 := rfl
    by_cases hn : nn < 5
    · have g1 : x.1 1 7 < 5 := by rw [H.1.1, e5]; exact nI_lt hn (by omega)
      have f50 : gU (q_fg x.1) 1 7 (x.1 1 7 + 1) 5 0 = nI nn := by rw [gU_n (by omega), fg5]; exact H.2.1
      have f51 : gU (q_fg x.1) 1 7 (x.1 1 7 + 1) 5 1 = nI nr := by rw [gU_n (by omega), fg5]; exact H.2.2.1
      have g2 : ¬ gU (q_fg x.1) 1 7 (x.1 1 7 + 1) 5 0 = 5 := by rw [f50, e5, nI_eq (by omega) (by omega)]; omega
      simp only [if_neg s1, if_pos g1, if_neg s2, if_neg g2]
      rw [f50, c3, ma_cN (show nn < 2 ^ 31 by omega)]
      have hOM' : ma_OM (gU (q_fg x.1) 1 7 (x.1 1 7 + 1), x.2.1, p_addNA x.2.2.1 nn lo hi, x.2.2.2) := by
        unfold ma_OM at hOM ⊢
        show gU (q_fg x.1) 1 7 (x.1 1 7 + 1) 5 0 = nI (cN (gU (q_fg x.1) 1 7 (x.1 1 7 + 1) 5 0)) ∧ cN (gU (q_fg x.1) 1 7 (x.1 1 7 + 1) 5 0) ≤ 5 ∧ gU (q_fg x.1) 1 7 (x.1 1 7 + 1) 5 1 = nI (cN (gU (q_fg x.1) 1 7 (x.1 1 7 + 1) 5 1)) ∧ cN (gU (q_fg x.1) 1 7 (x.1 1 7 + 1) 5 1) ≤ 8
        rw [f50, f51, ma_cN (show nn < 2 ^ 31 by omega), ma_cN (show nr < 2 ^ 31 by omega)]
        exact ⟨rfl, d1, rfl, d2⟩
      refine ⟨hOM', ?_, ?_⟩
      · rw [H.1.1, nI_1, nI_pred]
      · have rd : ∀ k j, m_wipN (gU (gU (gU (p_addNA x.2.2.1 nn lo hi) 27 nn lo) 28 nn hi) 29 nn 0) nn 8 k j = if k = 32 ∧ j < 40 ∧ j % 5 = nn then 0 else if k = 29 ∧ j = nn then 0 else if k = 28 ∧ j = nn then hi else if k = 27 ∧ j = nn then lo else if k = 8 ∧ j = nn then 0 else if k = 7 ∧ j = nn then hi else if k = 6 ∧ j = nn then lo else x.2.2.1 k j := fun k j => by
          rw [ma_wipN hn 8 k j]
          rfl
        generalize m_wipN (gU (gU (gU (p_addNA x.2.2.1 nn lo hi) 27 nn lo) 28 nn hi) 29 nn 0) nn 8 = A at *
        have ro : ∀ k j, k ≠ 32 → ¬ ((k = 29 ∨ k = 28 ∨ k = 27 ∨ k = 8 ∨ k = 7 ∨ k = 6) ∧ j = nn) → A k j = x.2.2.1 k j := fun k j h1 h2 => by rw [rd, if_neg (by omega), if_neg (by omega), if_neg (by omega), if_neg (by omega), if_neg (by omega), if_neg (by omega), if_neg (by omega)]
        have a6 : A 6 nn = lo := by rw [rd, if_neg (by omega), if_neg (by omega), if_neg (by omega), if_neg (by omega), if_neg (by omega), if_neg (by omega), if_pos ⟨rfl, rfl⟩]
        have a7 : A 7 nn = hi := by rw [rd, if_neg (by omega), if_neg (by omega), if_neg (by omega), if_neg (by omega), if_neg (by omega), if_pos ⟨rfl, rfl⟩]
        have a8 : A 8 nn = 0 := by rw [rd, if_neg (by omega), if_neg (by omega), if_neg (by omega), if_neg (by omega), if_pos ⟨rfl, rfl⟩]
        have a27 : A 27 nn = lo := by rw [rd, if_neg (by omega), if_neg (by omega), if_neg (by omega), if_pos ⟨rfl, rfl⟩]
        have a28 : A 28 nn = hi := by rw [rd, if_neg (by omega), if_neg (by omega), if_pos ⟨rfl, rfl⟩]
        have a29 : A 29 nn = 0 := by rw [rd, if_neg (by omega), if_pos ⟨rfl, rfl⟩]
        have a32 : ∀ r, r < 8 → A 32 (5 * r + nn) = 0 := fun r hr => by rw [rd, if_pos ⟨rfl, by omega, by omega⟩]
        have a32' : ∀ r i, i < nn → A 32 (5 * r + i) = x.2.2.1 32 (5 * r + i) := fun r i hi => by rw [rd, if_neg (by omega), if_neg (by omega), if_neg (by omega), if_neg (by omega), if_neg (by omega), if_neg (by omega), if_neg (by omega)]
        have e50 : gU (gU (gU (q_fg x.1) 1 7 (x.1 1 7 + 1)) 5 0 (nI nn + 1)) 5 9 0 5 0 = nI (nn + 1) := by rw [gU_n (by omega), gU_s, nI_1]
        refine ma_IV0 (x := x) (y := (gU (gU (gU (q_fg x.1) 1 7 (x.1 1 7 + 1)) 5 0 (nI nn + 1)) 5 9 0, x.2.1, A, x.2.2.2)) H (nn' := nn + 1) (nr' := nr) ?_ ?_ e50 ?_ (fun j => ?_) (fun j => ro 15 j (by omega) (by omega)) (fun j => ro 16 j (by omega) (by omega)) ?_ ?_ ?_ ?_ ?_ ?_ ⟨by omega, d2, fun i hi2 => ?_, fun r hr => ?_⟩ ⟨fun i hi2 => ?_, fun r hr => ?_⟩ (Or.inl (gU_s (f := gU (gU (q_fg x.1) 1 7 (x.1 1 7 + 1)) 5 0 (nI nn + 1)) (k := 5) (j := 9)))
        · show gU (gU (gU (q_fg x.1) 1 7 (x.1 1 7 + 1)) 5 0 (nI nn + 1)) 5 9 0 1 7 = _
          rw [gU_n (by omega), gU_n (by omega), gU_s, H.1.1, nI_1]
        · show gU (gU (gU (q_fg x.1) 1 7 (x.1 1 7 + 1)) 5 0 (nI nn + 1)) 5 9 0 1 8 = _
          rw [gU_n (by omega), gU_n (by omega), gU_n (by omega), ma_fg, if_neg (by omega)]; exact H.1.2.1
        · show gU (gU (gU (q_fg x.1) 1 7 (x.1 1 7 + 1)) 5 0 (nI nn + 1)) 5 9 0 5 1 = _
          rw [gU_n (by omega), gU_n (by omega)]; exact f51
        · show gU (gU (gU (q_fg x.1) 1 7 (x.1 1 7 + 1)) 5 0 (nI nn + 1)) 5 9 0 4 j = _
          rw [gU_n (by omega), gU_n (by omega), gU_n (by omega), ma_fg, if_neg (by omega)]
        · show gU (gU (gU (q_fg x.1) 1 7 (x.1 1 7 + 1)) 5 0 (nI nn + 1)) 5 9 0 2 6 = _
          rw [gU_n (by omega), gU_n (by omega), gU_n (by omega), ma_fg, if_neg (by omega)]
        · show gU (gU (gU (q_fg x.1) 1 7 (x.1 1 7 + 1)) 5 0 (nI nn + 1)) 5 9 0 3 8 = _
          rw [gU_n (by omega), gU_n (by omega), gU_n (by omega), ma_fg, if_neg (by omega)]
        · show gU (gU (gU (q_fg x.1) 1 7 (x.1 1 7 + 1)) 5 0 (nI nn + 1)) 5 9 0 2 5 = _
          rw [gU_n (by omega), gU_n (by omega), gU_n (by omega), ma_fg, if_pos (by omega)]
        · show gU (gU (gU (q_fg x.1) 1 7 (x.1 1 7 + 1)) 5 0 (nI nn + 1)) 5 9 0 2 7 = _
          rw [gU_n (by omega), gU_n (by omega), gU_n (by omega), ma_fg, if_pos (by omega)]
        · show gU (gU (gU (q_fg x.1) 1 7 (x.1 1 7 + 1)) 5 0 (nI nn + 1)) 5 9 0 2 8 = _
          rw [gU_n (by omega), gU_n (by omega), gU_n (by omega), ma_fg, if_pos (by omega)]
        · show gU (gU (gU (q_fg x.1) 1 7 (x.1 1 7 + 1)) 5 0 (nI nn + 1)) 5 9 0 3 9 = _
          rw [gU_n (by omega), gU_n (by omega), gU_n (by omega), ma_fg, if_pos (by omega)]
        · by_cases z : i = nn
          · show -100 ≤ (A 6 i).toInt ∧ (A 6 i).toInt ≤ (A 7 i).toInt ∧ (A 7 i).toInt ≤ 100 ∧ (A 8 i).toInt.natAbs ≤ 99
            rw [z, a6, a7, a8]
            exact ⟨s3, s4, s5, by decide⟩
          · show -100 ≤ (A 6 i).toInt ∧ (A 6 i).toInt ≤ (A 7 i).toInt ∧ (A 7 i).toInt ≤ 100 ∧ (A 8 i).toInt.natAbs ≤ 99
            rw [ro 6 i (by omega) (by omega), ro 7 i (by omega) (by omega), ro 8 i (by omega) (by omega)]
            exact hd.2.2.1 i (by omega)
        · show (A 10 r).toInt.natAbs ≤ 1000 ∧ (A 9 r = 0 ∨ A 9 r = 1 ∨ A 9 r = 2) ∧ ∀ i, i < nn + 1 → (A (40 + r) i).toInt.natAbs ≤ 9
          rw [ro 10 r (by omega) (by omega), ro 9 r (by omega) (by omega)]
          refine ⟨(hd.2.2.2 r hr).1, (hd.2.2.2 r hr).2.1, fun i hi2 => ?_⟩
          rw [ro (40 + r) i (by omega) (by omega)]
          by_cases z : i = nn
          · rw [(hE.2 r hr).2.2.2.2 i (by omega) (by omega)]; decide
          · exact (hd.2.2.2 r hr).2.2 i (by omega)
        · show A 27 i = A 6 i ∧ A 28 i = A 7 i ∧ A 29 i = A 8 i
          by_cases z : i = nn
          · rw [z, a6, a7, a8, a27, a28, a29]; exact ⟨rfl, rfl, rfl⟩
          · rw [ro 27 i (by omega) (by omega), ro 6 i (by omega) (by omega), ro 28 i (by omega) (by omega), ro 7 i (by omega) (by omega), ro 29 i (by omega) (by omega), ro 8 i (by omega) (by omega)]
            exact hE.1 i (by omega)
        · show A 30 r = A 9 r ∧ A 31 r = A 10 r ∧ A 33 r = A 12 r ∧ (∀ i, i < nn + 1 → A 32 (5 * r + i) = A (40 + r) i) ∧ ∀ i, nn + 1 ≤ i → i < 5 → A (40 + r) i = 0
          rw [ro 30 r (by omega) (by omega), ro 9 r (by omega) (by omega), ro 31 r (by omega) (by omega), ro 10 r (by omega) (by omega), ro 33 r (by omega) (by omega), ro 12 r (by omega) (by omega)]
          obtain ⟨e1, e2, e3, e4, e5⟩ := hE.2 r hr
          refine ⟨e1, e2, e3, fun i hi2 => ?_, fun i z1 z2 => by rw [ro (40 + r) i (by omega) (by omega)]; exact e5 i (by omega) z2⟩
          rw [ro (40 + r) i (by omega) (by omega)]
          by_cases z : i = nn
          · rw [z, a32 r (by omega), e5 nn (Nat.le_refl _) hn]
          · rw [a32' r i (by omega)]; exact e4 i (by omega)
    · have h5 : nn = 5 := by omega
      subst h5
      have g1 : ¬ x.1 1 7 < 5 := by rw [H.1.1]; decide
      have g2 : q_fg x.1 5 0 = 5 := by rw [fg5, H.2.1]; rfl
      simp only [if_neg s1, if_neg g1, if_neg s2, if_pos g2]
      have rf : ∀ k j, ¬ ((k = 2 ∧ (j = 5 ∨ j = 7 ∨ j = 8)) ∨ (k = 3 ∧ j = 9)) → q_fg x.1 k j = x.1 k j := fun k j h => by rw [ma_fg, if_neg h]
      refine ⟨?_, trivial, ?_⟩
      · unfold ma_OM at hOM ⊢
        show q_fg x.1 5 0 = nI (cN (q_fg x.1 5 0)) ∧ cN (q_fg x.1 5 0) ≤ 5 ∧ q_fg x.1 5 1 = nI (cN (q_fg x.1 5 1)) ∧ cN (q_fg x.1 5 1) ≤ 8
        rw [fg5, fg5]; exact hOM
      · refine ma_IV0 (x := x) (y := (q_fg x.1, x.2.1, x.2.2.1, x.2.2.2)) H (nn' := 5) (nr' := nr) ((rf 1 7 (by omega)).trans H.1.1) ((rf 1 8 (by omega)).trans H.1.2.1) ((fg5 0).trans H.2.1) ((fg5 1).trans H.2.2.1) (fun j => rf 4 j (by omega)) (fun _ => rfl) (fun _ => rfl) (rf 2 6 (by omega)) (rf 3 8 (by omega)) ?_ ?_ ?_ ?_ hd hE ?_
        · show q_fg x.1 2 5 = 0
          rw [ma_fg, if_pos (by omega)]
        · show q_fg x.1 2 7 = 0
          rw [ma_fg, if_pos (by omega)]
        · show q_fg x.1 2 8 = 0
          rw [ma_fg, if_pos (by omega)]
        · show q_fg x.1 3 9 = 0
          rw [ma_fg, if_pos (by omega)]
        · show q_fg x.1 5 9 = 0 ∨ (q_fg x.1 5 9 = 1 ∧ _)
          rw [fg5]
          rcases H.2.2.2.2.1 with q | q
          · exact Or.inl q
          · exact Or.inr ⟨q.1, ma_KN_c (y := (q_fg x.1, x.2.1, x.2.2.1, x.2.2.2)) (fun j _ => fg5 j) (fun _ => rfl) (fun _ _ _ _ => rfl) (fun _ _ _ _ => rfl) q.2⟩
