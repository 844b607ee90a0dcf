/-! THE MATHEMATICS, 32: a new row; the beginning -/
theorem ma_st_row {x : gS} (H : ma_INV x) (se ri : Int32) : ma_OM (c_rowS x se ri) ∧ c_row x se ri = m_row (c_rowS x se ri) se ri ∧ ma_INV (m_rowS (c_rowS x se ri) se ri) := by
  have hOM := ma_IV_OM H
  have H0 := H
  obtain ⟨nn, nr, H⟩ := H
  obtain ⟨c1, c2, c3, c4⟩ := ma_IV_n H
  have hd := H.1.2.2.1
  have hE := H.2.2.2.1
  have d1 := hd.1
  have d2 := hd.2.1
  have fg5 : ∀ j, q_fg x.1 5 j = x.1 5 j := fun j => by rw [ma_fg, if_neg (by omega)]
  have l1 : ri < -1000 ↔ ri.toInt < -1000 := by rw [Int32.lt_iff_toInt_lt]; rfl
  have l2 : ri ≤ 1000 ↔ ri.toInt ≤ 1000 := by rw [Int32.le_iff_toInt_le]; rfl
  unfold c_row c_rowS m_row m_rowS
  by_cases a1 : se < 0
  · simp only [if_pos a1]
    exact ⟨hOM, trivial, H0⟩
  · by_cases a2 : 2 < se
    · simp only [if_neg a1, if_pos a2]
      exact ⟨hOM, trivial, H0⟩
    · rcases ma_within (v := ri) (b := 1000) (B := 1000) rfl (by omega) with ⟨s1, s2⟩ | ⟨s1, s2, s3⟩
      · simp only [if_neg a1, if_neg a2, if_pos s1]
        by_cases g : ri < -1000
        · simp only [if_pos g]
          exact ⟨hOM, trivial, H0⟩
        · have g2 : ¬ ri ≤ 1000 := fun z => by rw [l2] at z; rw [l1] at g; omega
          simp only [if_neg g, if_neg g2]
          exact ⟨hOM, trivial, H0⟩
      · have g : ¬ ri < -1000 := fun z => by rw [l1] at z; omega
        have g2 : ri ≤ 1000 := l2.mpr s3
        have hse : se = 0 ∨ se = 1 ∨ se = 2 := by
          have b1 : 0 ≤ se.toInt := Int.not_lt.mp (fun z => a1 (by rw [Int32.lt_iff_toInt_lt]; exact z))
          have b2 : se.toInt ≤ 2 := Int.not_lt.mp (fun z => a2 (by rw [Int32.lt_iff_toInt_lt]; exact z))
          have z0 : (0 : Int32).toInt = 0 := rfl
          have z1 : (1 : Int32).toInt = 1 := rfl
          have z2 : (2 : Int32).toInt = 2 := rfl
          by_cases w0 : se.toInt = 0
          · exact Or.inl (Int32.toInt_inj.mp (by rw [w0, z0]))
          · by_cases w1 : se.toInt = 1
            · exact Or.inr (Or.inl (Int32.toInt_inj.mp (by rw [w1, z1])))
            · exact Or.inr (Or.inr (Int32.toInt_inj.mp (by rw [z2]; omega)))
        have e8 : (8 : Int32) = nI 8 := rfl
        by_cases hn : nr < 8
        · have g1 : x.1 1 8 < 8 := by rw [H.1.2.1, e8]; exact nI_lt hn (by omega)
          have f50 : gU (q_fg x.1) 1 8 (x.1 1 8 + 1) 5 0 = nI nn := by rw [gU_n (by omega), fg5]; exact H.2.1
          have f51 : gU (q_fg x.1) 1 8 (x.1 1 8 + 1) 5 1 = nI nr := by rw [gU_n (by omega), fg5]; exact H.2.2.1
          have g3 : ¬ gU (q_fg x.1) 1 8 (x.1 1 8 + 1) 5 1 = 8 := by rw [f51, e8, nI_eq (by omega) (by omega)]; omega
          simp only [if_neg a1, if_neg a2, if_neg s1, if_pos g1, if_neg g, if_pos g2, if_neg g3]
          rw [f51, c4, ma_cN (show nr < 2 ^ 31 by omega)]
          refine ⟨?_, ?_, ?_⟩
          · unfold ma_OM
            show gU (q_fg x.1) 1 8 (x.1 1 8 + 1) 5 0 = nI (cN (gU (q_fg x.1) 1 8 (x.1 1 8 + 1) 5 0)) ∧ cN (gU (q_fg x.1) 1 8 (x.1 1 8 + 1) 5 0) ≤ 5 ∧ gU (q_fg x.1) 1 8 (x.1 1 8 + 1) 5 1 = nI (cN (gU (q_fg x.1) 1 8 (x.1 1 8 + 1) 5 1)) ∧ cN (gU (q_fg x.1) 1 8 (x.1 1 8 + 1) 5 1) ≤ 8
            rw [f50, f51, ma_cN (show nn < 2 ^ 31 by omega), ma_cN (show nr < 2 ^ 31 by omega)]
            exact ⟨rfl, d1, rfl, d2⟩
          · rw [H.1.2.1, nI_1, nI_pred]
          · have rd : ∀ k j, m_wipR (gU (gU (gU (p_addRA x.2.2.1 nr se ri) 30 nr se) 31 nr ri) 33 nr 1) nr 5 k j = if k = 32 ∧ 5 * nr ≤ j ∧ j < 5 * nr + 5 then 0 else if k = 33 ∧ j = nr then 1 else if k = 31 ∧ j = nr then ri else if k = 30 ∧ j = nr then se else if k = 40 + nr ∧ j < 5 then 0 else if k = 12 ∧ j = nr then 1 else if k = 10 ∧ j = nr then ri else if k = 9 ∧ j = nr then se else x.2.2.1 k j := fun k j => by
              rw [ma_wipR 5 k j]
              by_cases z : k = 32 ∧ 5 * nr ≤ j ∧ j < 5 * nr + 5
              · rw [if_pos z, if_pos z]
              · rw [if_neg z, if_neg z]
                by_cases z1 : k = 33 ∧ j = nr
                · obtain ⟨rfl, rfl⟩ := z1
                  rw [gU_s, if_pos ⟨rfl, rfl⟩]
                · rw [gU_n (by omega), if_neg z1]
                  by_cases z2 : k = 31 ∧ j = nr
                  · obtain ⟨rfl, rfl⟩ := z2
                    rw [gU_s, if_pos ⟨rfl, rfl⟩]
                  · rw [gU_n (by omega), if_neg z2]
                    by_cases z3 : k = 30 ∧ j = nr
                    · obtain ⟨rfl, rfl⟩ := z3
                      rw [gU_s, if_pos ⟨rfl, rfl⟩]
                    · rw [gU_n (by omega), if_neg z3]
                      unfold p_addRA
                      rw [ma_wipe 5 k j]
                      rfl
            generalize m_wipR (gU (gU (gU (p_addRA x.2.2.1 nr se ri) 30 nr se) 31 nr ri) 33 nr 1) nr 5 = A at *
            have ro : ∀ k j, k ≠ 32 → ¬ ((k = 33 ∨ k = 31 ∨ k = 30 ∨ k = 12 ∨ k = 10 ∨ k = 9) ∧ j = nr) → ¬ (k = 40 + nr ∧ j < 5) → A k j = x.2.2.1 k j := fun k j h1 h2 h3 => by rw [rd, if_neg (by omega), if_neg (by omega), if_neg (by omega), if_neg (by omega), if_neg (by omega), if_neg (by omega), if_neg (by omega), if_neg (by omega)]
            have r9 : A 9 nr = se := by rw [rd, if_neg (by omega), if_neg (by omega), if_neg (by omega), if_neg (by omega), if_neg (by omega), if_neg (by omega), if_neg (by omega), if_pos ⟨rfl, rfl⟩]
            have r10 : A 10 nr = ri := by rw [rd, if_neg (by omega), if_neg (by omega), if_neg (by omega), if_neg (by omega), if_neg (by omega), if_neg (by omega), if_pos ⟨rfl, rfl⟩]
            have r12 : A 12 nr = 1 := by rw [rd, if_neg (by omega), if_neg (by omega), if_neg (by omega), if_neg (by omega), if_neg (by omega), if_pos ⟨rfl, rfl⟩]
            have r40 : ∀ j, j < 5 → A (40 + nr) j = 0 := fun j hj => by rw [rd, if_neg (by omega), if_neg (by omega), if_neg (by omega), if_neg (by omega), if_pos ⟨rfl, hj⟩]
            have r30 : A 30 nr = se := by rw [rd, if_neg (by omega), if_neg (by omega), if_neg (by omega), if_pos ⟨rfl, rfl⟩]
            have r31 : A 31 nr = ri := by rw [rd, if_neg (by omega), if_neg (by omega), if_pos ⟨rfl, rfl⟩]
            have r33 : A 33 nr = 1 := by rw [rd, if_neg (by omega), if_pos ⟨rfl, rfl⟩]
            have r32 : ∀ i, i < 5 → A 32 (5 * nr + i) = 0 := fun i hi => by rw [rd, if_pos ⟨rfl, by omega, by omega⟩]
            have r32' : ∀ r i, r < nr → i < 5 → A 32 (5 * r + i) = x.2.2.1 32 (5 * r + i) := fun r i hr hi => by rw [rd, if_neg (by omega), if_neg (by omega), if_neg (by omega), if_neg (by omega), if_neg (by omega), if_neg (by omega), if_neg (by omega), if_neg (by omega)]
            refine ma_IV0 (x := x) (y := (gU (gU (gU (q_fg x.1) 1 8 (x.1 1 8 + 1)) 5 1 (nI nr + 1)) 5 9 0, x.2.1, A, x.2.2.2)) H (nn' := nn) (nr' := nr + 1) ?_ ?_ ?_ ?_ (fun j => ?_) (fun j => ro 15 j (by omega) (by omega) (by omega)) (fun j => ro 16 j (by omega) (by omega) (by omega)) ?_ ?_ ?_ ?_ ?_ ?_ ⟨d1, by omega, fun i hi2 => ?_, fun r hr => ?_⟩ ⟨fun i hi2 => ?_, fun r hr => ?_⟩ (Or.inl (gU_s (f := gU (gU (q_fg x.1) 1 8 (x.1 1 8 + 1)) 5 1 (nI nr + 1)) (k := 5) (j := 9)))
            · show gU (gU (gU (q_fg x.1) 1 8 (x.1 1 8 + 1)) 5 1 (nI nr + 1)) 5 9 0 1 7 = _
              rw [gU_n (by omega), gU_n (by omega), gU_n (by omega), ma_fg, if_neg (by omega)]; exact H.1.1
            · show gU (gU (gU (q_fg x.1) 1 8 (x.1 1 8 + 1)) 5 1 (nI nr + 1)) 5 9 0 1 8 = _
              rw [gU_n (by omega), gU_n (by omega), gU_s, H.1.2.1, nI_1]
            · show gU (gU (gU (q_fg x.1) 1 8 (x.1 1 8 + 1)) 5 1 (nI nr + 1)) 5 9 0 5 0 = _
              rw [gU_n (by omega), gU_n (by omega)]; exact f50
            · show gU (gU (gU (q_fg x.1) 1 8 (x.1 1 8 + 1)) 5 1 (nI nr + 1)) 5 9 0 5 1 = _
              rw [gU_n (by omega), gU_s, nI_1]
            · show gU (gU (gU (q_fg x.1) 1 8 (x.1 1 8 + 1)) 5 1 (nI nr + 1)) 5 9 0 4 j = _
              rw [gU_n (by omega), gU_n (by omega), gU_n (by omega), ma_fg, if_neg (by omega)]
            · show gU (gU (gU (q_fg x.1) 1 8 (x.1 1 8 + 1)) 5 1 (nI nr + 1)) 5 9 0 2 6 = _
              rw [gU_n (by omega), gU_n (by omega), gU_n (by omega), ma_fg, if_neg (by omega)]
            · show gU (gU (gU (q_fg x.1) 1 8 (x.1 1 8 + 1)) 5 1 (nI nr + 1)) 5 9 0 3 8 = _
              rw [gU_n (by omega), gU_n (by omega), gU_n (by omega), ma_fg, if_neg (by omega)]
            · show gU (gU (gU (q_fg x.1) 1 8 (x.1 1 8 + 1)) 5 1 (nI nr + 1)) 5 9 0 2 5 = _
              rw [gU_n (by omega), gU_n (by omega), gU_n (by omega), ma_fg, if_pos (by omega)]
            · show gU (gU (gU (q_fg x.1) 1 8 (x.1 1 8 + 1)) 5 1 (nI nr + 1)) 5 9 0 2 7 = _
              rw [gU_n (by omega), gU_n (by omega), gU_n (by omega), ma_fg, if_pos (by omega)]
            · show gU (gU (gU (q_fg x.1) 1 8 (x.1 1 8 + 1)) 5 1 (nI nr + 1)) 5 9 0 2 8 = _
              rw [gU_n (by omega), gU_n (by omega), gU_n (by omega), ma_fg, if_pos (by omega)]
            · show gU (gU (gU (q_fg x.1) 1 8 (x.1 1 8 + 1)) 5 1 (nI nr + 1)) 5 9 0 3 9 = _
              rw [gU_n (by omega), gU_n (by omega), gU_n (by omega), ma_fg, if_pos (by omega)]
            · show -100 ≤ (A 6 i).toInt ∧ (A 6 i).toInt ≤ (A 7 i).toInt ∧ (A 7 i).toInt ≤ 100 ∧ (A 8 i).toInt.natAbs ≤ 99
              rw [ro 6 i (by omega) (by omega) (by omega), ro 7 i (by omega) (by omega) (by omega), ro 8 i (by omega) (by omega) (by omega)]
              exact hd.2.2.1 i hi2
            · show (A 10 r).toInt.natAbs ≤ 1000 ∧ (A 9 r = 0 ∨ A 9 r = 1 ∨ A 9 r = 2) ∧ ∀ i, i < nn → (A (40 + r) i).toInt.natAbs ≤ 9
              by_cases z : r = nr
              · rw [z, r10, r9]
                exact ⟨by omega, hse, fun i hi2 => by rw [r40 i (by omega)]; decide⟩
              · rw [ro 10 r (by omega) (by omega) (by omega), ro 9 r (by omega) (by omega) (by omega)]
                exact ⟨(hd.2.2.2 r (by omega)).1, (hd.2.2.2 r (by omega)).2.1, fun i hi2 => by rw [ro (40 + r) i (by omega) (by omega) (by omega)]; exact (hd.2.2.2 r (by omega)).2.2 i hi2⟩
            · show A 27 i = A 6 i ∧ A 28 i = A 7 i ∧ A 29 i = A 8 i
              rw [ro 27 i (by omega) (by omega) (by omega), ro 6 i (by omega) (by omega) (by omega), ro 28 i (by omega) (by omega) (by omega), ro 7 i (by omega) (by omega) (by omega), ro 29 i (by omega) (by omega) (by omega), ro 8 i (by omega) (by omega) (by omega)]
              exact hE.1 i hi2
            · show A 30 r = A 9 r ∧ A 31 r = A 10 r ∧ A 33 r = A 12 r ∧ (∀ i, i < nn → A 32 (5 * r + i) = A (40 + r) i) ∧ ∀ i, nn ≤ i → i < 5 → A (40 + r) i = 0
              by_cases z : r = nr
              · rw [z, r30, r9, r31, r10, r33, r12]
                exact ⟨rfl, rfl, rfl, fun i hi2 => by rw [r32 i (by omega), r40 i (by omega)], fun i _ z2 => r40 i z2⟩
              · rw [ro 30 r (by omega) (by omega) (by omega), ro 9 r (by omega) (by omega) (by omega), ro 31 r (by omega) (by omega) (by omega), ro 10 r (by omega) (by omega) (by omega), ro 33 r (by omega) (by omega) (by omega), ro 12 r (by omega) (by omega) (by omega)]
                obtain ⟨e1, e2, e3, e4, e5⟩ := hE.2 r (by omega)
                exact ⟨e1, e2, e3, fun i hi2 => by rw [r32' r i (by omega) (by omega), ro (40 + r) i (by omega) (by omega) (by omega)]; exact e4 i hi2, fun i z1 z2 => by rw [ro (40 + r) i (by omega) (by omega) (by omega)]; exact e5 i z1 z2⟩
        · have h5 : nr = 8 := by omega
          subst h5
          have g1 : ¬ x.1 1 8 < 8 := by rw [H.1.2.1]; decide
          have g3 : q_fg x.1 5 1 = 8 := by rw [fg5, H.2.2.1]; rfl
          simp only [if_neg a1, if_neg a2, if_neg s1, if_neg g1, if_neg g, if_pos g2, if_pos g3]
          have rf : ∀ k j, ¬ ((k = 2 ∧ (j = 5 ∨ j = 7 ∨ j = 8)) ∨ (k = 3 ∧ j = 9)) → q_fg x.1 k j = x.1 k j := fun k j h => by rw [ma_fg, if_neg h]
          refine ⟨?_, trivial, ?_⟩
          · unfold ma_OM at hOM ⊢
            show q_fg x.1 5 0 = nI (cN (q_fg x.1 5 0)) ∧ cN (q_fg x.1 5 0) ≤ 5 ∧ q_fg x.1 5 1 = nI (cN (q_fg x.1 5 1)) ∧ cN (q_fg x.1 5 1) ≤ 8
            rw [fg5, fg5]; exact hOM
          · refine ma_IV0 (x := x) (y := (q_fg x.1, x.2.1, x.2.2.1, x.2.2.2)) H (nn' := nn) (nr' := 8) ((rf 1 7 (by omega)).trans H.1.1) ((rf 1 8 (by omega)).trans H.1.2.1) ((fg5 0).trans H.2.1) ((fg5 1).trans H.2.2.1) (fun j => rf 4 j (by omega)) (fun _ => rfl) (fun _ => rfl) (rf 2 6 (by omega)) (rf 3 8 (by omega)) ?_ ?_ ?_ ?_ hd hE ?_
            · show q_fg x.1 2 5 = 0
              rw [ma_fg, if_pos (by omega)]
            · show q_fg x.1 2 7 = 0
              rw [ma_fg, if_pos (by omega)]
            · show q_fg x.1 2 8 = 0
              rw [ma_fg, if_pos (by omega)]
            · show q_fg x.1 3 9 = 0
              rw [ma_fg, if_pos (by omega)]
            · show q_fg x.1 5 9 = 0 ∨ (q_fg x.1 5 9 = 1 ∧ _)
              rw [fg5]
              rcases H.2.2.2.2.1 with q | q
              · exact Or.inl q
              · exact Or.inr ⟨q.1, ma_KN_c (y := (q_fg x.1, x.2.1, x.2.2.1, x.2.2.2)) (fun j _ => fg5 j) (fun _ => rfl) (fun _ _ _ _ => rfl) (fun _ _ _ _ => rfl) q.2⟩
theorem ma_start0 : ma_INV (zI, zJ, zI, zL) := by
  refine ⟨0, 0, ⟨rfl, rfl, ⟨by omega, by omega, fun i h => by omega, fun r h => by omega⟩, ⟨⟨rfl, by decide⟩, ⟨rfl, by decide⟩, fun r h => ?_, fun r h => ?_⟩, Or.inl rfl, Or.inl rfl, Or.inl rfl, Or.inl rfl⟩, rfl, rfl, ⟨fun i h => by omega, fun r h => by omega⟩, Or.inl rfl, Or.inl rfl, Or.inl rfl⟩
  · exact absurd h (by show ¬ r < 0; omega)
  · exact absurd h (by show ¬ r < 0; omega)
