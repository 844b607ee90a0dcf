/-! THE MATHEMATICS, 6: the class's pivot is the pivot of determinants -/
theorem ma_swL {b : gL} {i r s : Nat} {p q dv : Int64} (hir : i ≠ r) (hs : s < 5) : ∀ n, n ≤ 5 → ∀ k j, d_swL b i r s p q dv n k j = if k = 48 + i ∧ j < n ∧ j ≠ s then (p * b (48 + i) j - q * b (48 + r) j) / dv else b k j
  | 0, _, k, j => by
    rw [if_neg (by omega)]
    rfl
  | n + 1, hn, k, j => by
    have ih := ma_swL (b := b) (p := p) (q := q) (dv := dv) hir hs n (by omega)
    show (if nI n = nI s then d_swL b i r s p q dv n else gU (d_swL b i r s p q dv n) (48 + i) n ((p * d_swL b i r s p q dv n (48 + i) n - q * d_swL b i r s p q dv n (48 + r) n) / dv)) k j = _
    by_cases e : n = s
    · rw [if_pos (by rw [e]), ih]
      by_cases h : k = 48 + i ∧ j < n ∧ j ≠ s
      · rw [if_pos h, if_pos (by omega)]
      · rw [if_neg h, if_neg (by omega)]
    · rw [if_neg (by rw [nI_eq (by omega) (by omega)]; exact e)]
      by_cases h : k = 48 + i ∧ j = n
      · obtain ⟨rfl, rfl⟩ := h
        rw [gU_s, if_pos (by omega), ih, ih, if_neg (by omega), if_neg (by omega)]
      · rw [gU_n (by omega), ih]
        by_cases h2 : k = 48 + i ∧ j < n ∧ j ≠ s
        · rw [if_pos h2, if_pos (by omega)]
        · rw [if_neg h2, if_neg (by omega)]
/-- a line that is swept: its numbers -/
theorem ma_swF {b : gL} {nc i r s : Nat} {p q dv : Int64} (hir : i ≠ r) (hs : s < nc) (hnc : nc ≤ 5) (k j : Nat) : d_swF b nc i r s p q dv k j = if k = 48 + i ∧ j = s then (if 0 ≤ p then -q else q) else if k = 14 ∧ j = i then (p * b 14 i - q * b 14 r) / dv else if k = 48 + i ∧ j < nc ∧ j ≠ s then (p * b (48 + i) j - q * b (48 + r) j) / dv else b k j := by
  have hL := ma_swL (b := b) (p := p) (q := q) (dv := dv) hir (show s < 5 by omega) nc hnc
  have hR : ∀ k j, d_swR b nc i r s p q dv k j = if k = 14 ∧ j = i then (p * b 14 i - q * b 14 r) / dv else if k = 48 + i ∧ j < nc ∧ j ≠ s then (p * b (48 + i) j - q * b (48 + r) j) / dv else b k j := by
    intro k j
    unfold d_swR
    by_cases h : k = 14 ∧ j = i
    · obtain ⟨rfl, rfl⟩ := h
      rw [gU_s, if_pos ⟨rfl, rfl⟩, hL, hL, if_neg (by omega), if_neg (by omega)]
    · rw [gU_n (by omega), if_neg h, hL]
  unfold d_swF
  by_cases hp : 0 ≤ p
  · rw [if_pos hp, if_pos hp]
    by_cases h : k = 48 + i ∧ j = s
    · obtain ⟨rfl, rfl⟩ := h
      rw [gU_s, if_pos ⟨rfl, rfl⟩]
    · rw [gU_n (by omega), if_neg h, hR]
  · rw [if_neg hp, if_neg hp]
    by_cases h : k = 48 + i ∧ j = s
    · obtain ⟨rfl, rfl⟩ := h
      rw [gU_s, if_pos ⟨rfl, rfl⟩]
    · rw [gU_n (by omega), if_neg h, hR]
theorem ma_sweep {b : gL} {nc i r s : Nat} {dv : Int64} (hir : i ≠ r) (hs : s < nc) (hnc : nc ≤ 5) {d : Int} (hdv : dv.toInt = d) (hd : d ≠ 0) (z : Nat → Int) (zr : Int)
    (hb : ∀ j, j < nc → (b (48 + i) j).toInt.natAbs ≤ 7085880 ∧ (b (48 + r) j).toInt.natAbs ≤ 7085880) (hR : (b 14 i).toInt.natAbs ≤ 42515280000 ∧ (b 14 r).toInt.natAbs ≤ 42515280000)
    (hz : ∀ j, j < nc → j ≠ s → (b (48 + r) s).toInt * (b (48 + i) j).toInt - (b (48 + i) s).toInt * (b (48 + r) j).toInt = d * z j) (hzs : z s = if 0 ≤ (b (48 + r) s).toInt then -(b (48 + i) s).toInt else (b (48 + i) s).toInt) (hzr : (b (48 + r) s).toInt * (b 14 i).toInt - (b (48 + i) s).toInt * (b 14 r).toInt = d * zr)
    (hzb : ∀ j, j < nc → (z j).natAbs ≤ 7085880) (hzrb : zr.natAbs ≤ 42515280000) :
    (∀ j, j < nc → (d_sweep b nc i r s dv (48 + i) j).toInt = z j) ∧ (d_sweep b nc i r s dv 14 i).toInt = zr ∧ ∀ k j, k ≠ 48 + i → ¬ (k = 14 ∧ j = i) → d_sweep b nc i r s dv k j = b k j := by
  have main : (∀ j, j < nc → (d_swF b nc i r s (b (48 + r) s) (b (48 + i) s) dv (48 + i) j).toInt = z j) ∧ (d_swF b nc i r s (b (48 + r) s) (b (48 + i) s) dv 14 i).toInt = zr ∧ ∀ k j, k ≠ 48 + i → ¬ (k = 14 ∧ j = i) → d_swF b nc i r s (b (48 + r) s) (b (48 + i) s) dv k j = b k j := by
    have s1 := hb s hs
    refine ⟨fun j hj => ?_, ?_, fun k j h1 h2 => ?_⟩
    · rw [ma_swF hir hs hnc]
      by_cases e : j = s
      · subst e
        rw [if_pos ⟨rfl, rfl⟩, hzs]
        by_cases hp : 0 ≤ b (48 + r) j
        · rw [if_pos hp, if_pos (ma_l0.mp hp)]
          exact ma_neg rfl (by omega)
        · rw [if_neg hp, if_neg (fun q => hp (ma_l0.mpr q))]
      · have j1 := hb j hj
        rw [if_neg (by omega), if_neg (by omega), if_pos ⟨rfl, hj, e⟩]
        have m1 := ma_mb s1.2 j1.1
        have m2 := ma_mb s1.1 j1.2
        refine ma_div (d := d) ?_ hdv hd (by have := hzb j hj; omega)
        rw [← hz j hj e]
        exact ma_sub (ma_mul rfl rfl (by omega)) (ma_mul rfl rfl (by omega)) (by omega)
    · rw [ma_swF hir hs hnc, if_neg (by omega), if_pos ⟨rfl, rfl⟩]
      have m1 := ma_mb s1.2 hR.1
      have m2 := ma_mb s1.1 hR.2
      refine ma_div (d := d) ?_ hdv hd (by omega)
      rw [← hzr]
      exact ma_sub (ma_mul rfl rfl (by omega)) (ma_mul rfl rfl (by omega)) (by omega)
    · rw [ma_swF hir hs hnc, if_neg (by omega), if_neg h2, if_neg (by omega)]
  unfold d_sweep
  rw [if_neg (fun q => hd (by rw [← hdv, q]; rfl))]
  by_cases h1 : b (48 + i) s = 0
  · rw [if_pos h1]
    by_cases h2 : b (48 + r) s = dv
    · rw [if_pos h2]
      have e1 : (b (48 + i) s).toInt = 0 := ma_e0.mp h1
      have e2 : (b (48 + r) s).toInt = d := by rw [h2, hdv]
      rw [e1, e2] at hzr
      refine ⟨fun j hj => ?_, ?_, fun k j _ _ => rfl⟩
      · by_cases e : j = s
        · subst e
          rw [hzs, e1]
          split <;> rfl
        · have := hz j hj e
          rw [e1, e2] at this
          exact Int.eq_of_mul_eq_mul_left hd (by omega)
      · exact Int.eq_of_mul_eq_mul_left hd (by omega)
    · rw [if_neg h2]
      exact main
  · rw [if_neg h1]
    exact main
theorem ma_sweeps {b : gL} {nc nl r s : Nat} {dv : Int64} (hnl : nl ≤ 21) (hr : r < nl) (hs : s < nc) (hnc : nc ≤ 5) {d : Int} (hdv : dv.toInt = d) (hd : d ≠ 0) (z : Nat → Nat → Int) (zr : Nat → Int)
    (hb : ∀ i, i < nl → ∀ j, j < nc → (b (48 + i) j).toInt.natAbs ≤ 7085880) (hR : ∀ i, i < nl → (b 14 i).toInt.natAbs ≤ 42515280000)
    (hz : ∀ i, i < nl → i ≠ r → ∀ j, j < nc → j ≠ s → (b (48 + r) s).toInt * (b (48 + i) j).toInt - (b (48 + i) s).toInt * (b (48 + r) j).toInt = d * z i j) (hzs : ∀ i, i < nl → i ≠ r → z i s = if 0 ≤ (b (48 + r) s).toInt then -(b (48 + i) s).toInt else (b (48 + i) s).toInt) (hzr : ∀ i, i < nl → i ≠ r → (b (48 + r) s).toInt * (b 14 i).toInt - (b (48 + i) s).toInt * (b 14 r).toInt = d * zr i)
    (hzb : ∀ i, i < nl → ∀ j, j < nc → (z i j).natAbs ≤ 7085880) (hzrb : ∀ i, i < nl → (zr i).natAbs ≤ 42515280000) :
    ∀ n, n ≤ nl → (∀ i, i < n → i ≠ r → ∀ j, j < nc → (d_sweeps b nc r s dv n (48 + i) j).toInt = z i j) ∧ (∀ i, i < n → i ≠ r → (d_sweeps b nc r s dv n 14 i).toInt = zr i) ∧ ∀ k j, (∀ i, i < n → i ≠ r → k ≠ 48 + i ∧ ¬ (k = 14 ∧ j = i)) → d_sweeps b nc r s dv n k j = b k j
  | 0, _ => ⟨fun i h => by omega, fun i h => by omega, fun k j _ => rfl⟩
  | n + 1, hn => by
    obtain ⟨i1, i2, i3⟩ := ma_sweeps hnl hr hs hnc hdv hd z zr hb hR hz hzs hzr hzb hzrb n (by omega)
    have e0 : d_sweeps b nc r s dv (n + 1) = if nI n = nI r then d_sweeps b nc r s dv n else d_sweep (d_sweeps b nc r s dv n) nc n r s dv := rfl
    by_cases e : n = r
    · rw [e0, if_pos (by rw [e])]
      refine ⟨fun i hi hir j hj => i1 i (by omega) hir j hj, fun i hi hir => i2 i (by omega) hir, fun k j h => i3 k j (fun i hi hir => h i (by omega) hir)⟩
    · rw [e0, if_neg (by rw [nI_eq (by omega) (by omega)]; exact e)]
      have rn : ∀ j, d_sweeps b nc r s dv n (48 + n) j = b (48 + n) j := fun j => i3 _ _ (fun i hi _ => by omega)
      have rr : ∀ j, d_sweeps b nc r s dv n (48 + r) j = b (48 + r) j := fun j => i3 _ _ (fun i hi _ => by omega)
      have r14 : d_sweeps b nc r s dv n 14 n = b 14 n := i3 _ _ (fun i hi _ => by omega)
      have r14r : d_sweeps b nc r s dv n 14 r = b 14 r := i3 _ _ (fun i hi _ => by omega)
      obtain ⟨w1, w2, w3⟩ := ma_sweep (b := d_sweeps b nc r s dv n) (nc := nc) (i := n) (r := r) (s := s) (dv := dv) e hs hnc hdv hd (z n) (zr n) (fun j hj => by rw [rn, rr]; exact ⟨hb n (by omega) j hj, hb r hr j hj⟩) (by rw [r14, r14r]; exact ⟨hR n (by omega), hR r hr⟩) (fun j hj hjs => by rw [rr, rr, rn, rn]; exact hz n (by omega) e j hj hjs) (by rw [rr, rn]; exact hzs n (by omega) e) (by rw [rr, rn, r14, r14r]; exact hzr n (by omega) e) (hzb n (by omega)) (hzrb n (by omega))
      refine ⟨fun i hi hir j hj => ?_, fun i hi hir => ?_, fun k j h => ?_⟩
      · by_cases q : i = n
        · subst q
          exact w1 j hj
        · rw [w3 _ _ (by omega) (by omega)]
          exact i1 i (by omega) hir j hj
      · by_cases q : i = n
        · subst q
          exact w2
        · rw [w3 _ _ (by omega) (by omega)]
          exact i2 i (by omega) hir
      · have := h n (by omega) e
        rw [w3 _ _ this.1 this.2]
        exact i3 k j (fun i hi hir => h i (by omega) hir)
theorem ma_turnL {b : gL} {r : Nat} : ∀ n k j, d_turnL b r n k j = if k = 48 + r ∧ j < n then - b k j else b k j
  | 0, k, j => by
    rw [if_neg (by omega)]
    rfl
  | n + 1, k, j => by
    show gU (d_turnL b r n) (48 + r) n (-(d_turnL b r n (48 + r) n)) k j = _
    by_cases h : k = 48 + r ∧ j = n
    · obtain ⟨rfl, rfl⟩ := h
      rw [gU_s, ma_turnL, if_neg (by omega), if_pos (by omega)]
    · rw [gU_n (by omega), ma_turnL]
      by_cases h2 : k = 48 + r ∧ j < n
      · rw [if_pos h2, if_pos (by omega)]
      · rw [if_neg h2, if_neg (by omega)]
theorem ma_turn {b : gL} {r nc k j : Nat} : d_turn b r nc k j = if (k = 48 + r ∧ j < nc) ∨ (k = 14 ∧ j = r) then - b k j else b k j := by
  unfold d_turn
  by_cases h : k = 14 ∧ j = r
  · obtain ⟨rfl, rfl⟩ := h
    rw [gU_s, ma_turnL, if_neg (by omega), if_pos (by omega)]
  · rw [gU_n (by omega), ma_turnL]
    by_cases h2 : k = 48 + r ∧ j < nc
    · rw [if_pos h2, if_pos (by omega)]
    · rw [if_neg h2, if_neg (by omega)]
/-- the table behind a pivot -/
theorem ma_pB {J b : gL} {nc nl r s : Nat} (hnl : nl ≤ 21) (hr : r < nl) (hs : s < nc) (hnc : nc ≤ 5) {P U : Int} (hP : (b (48 + r) s).toInt = P) (hP0 : P ≠ 0) (hU : (J 4 6).toInt = U) (hU0 : 0 < U) (hUb : U.natAbs ≤ 7085880) (z : Nat → Nat → Int) (zr : Nat → Int)
    (hb : ∀ i, i < nl → ∀ j, j < nc → (b (48 + i) j).toInt.natAbs ≤ 7085880) (hR : ∀ i, i < nl → (b 14 i).toInt.natAbs ≤ 42515280000)
    (hz : ∀ i, i < nl → i ≠ r → ∀ j, j < nc → j ≠ s → ma_t P * (P * (b (48 + i) j).toInt - (b (48 + i) s).toInt * (b (48 + r) j).toInt) = U * z i j) (hzs : ∀ i, i < nl → i ≠ r → z i s = - (ma_t P * (b (48 + i) s).toInt)) (hzr : ∀ i, i < nl → i ≠ r → ma_t P * (P * (b 14 i).toInt - (b (48 + i) s).toInt * (b 14 r).toInt) = U * zr i)
    (hzb : ∀ i, i < nl → ∀ j, j < nc → (z i j).natAbs ≤ 7085880) (hzrb : ∀ i, i < nl → (zr i).natAbs ≤ 42515280000) :
    (∀ i, i < nl → i ≠ r → ∀ j, j < nc → (d_pB J b nl nc r s (48 + i) j).toInt = z i j) ∧ (∀ i, i < nl → i ≠ r → (d_pB J b nl nc r s 14 i).toInt = zr i) ∧ (∀ j, j < nc → j ≠ s → (d_pB J b nl nc r s (48 + r) j).toInt = ma_t P * (b (48 + r) j).toInt) ∧ (d_pB J b nl nc r s (48 + r) s).toInt = ma_t P * U ∧ (d_pB J b nl nc r s 14 r).toInt = ma_t P * (b 14 r).toInt ∧ (∀ k j, k ≠ 14 → (k < 48 ∨ 69 ≤ k) → d_pB J b nl nc r s k j = b k j) ∧ (d_pJ J b r s 4 6).toInt = ma_t P * P := by
  have hp0 : b (48 + r) s ≠ 0 := fun q => hP0 (by rw [← hP]; exact ma_e0.mp q)
  have hdv : (d_dv J b r s).toInt = ma_t P * U := by
    unfold d_dv
    by_cases h : 0 ≤ b (48 + r) s
    · have := ma_l0.mp h
      rw [if_pos h, hU, ma_t, if_pos (by omega)]
      omega
    · have : ¬ 0 ≤ (b (48 + r) s).toInt := fun q => h (ma_l0.mpr q)
      rw [if_neg h, ma_neg hU (by omega), ma_t, if_neg (by omega)]
      omega
  have hd0 : ma_t P * U ≠ 0 := by
    rcases ma_t_c P with q | q <;> rw [q] <;> omega
  have hdv0 : d_dv J b r s ≠ 0 := fun q => hd0 (by rw [← hdv]; exact ma_e0.mp q)
  have tt : ma_t P * ma_t P = 1 := by rcases ma_t_c P with q | q <;> rw [q] <;> rfl
  obtain ⟨w1, w2, w3⟩ := ma_sweeps (b := b) (dv := d_dv J b r s) hnl hr hs hnc hdv hd0 z zr hb hR
    (fun i hi hir j hj hjs => by
      have := hz i hi hir j hj hjs
      rw [hP, Int.mul_assoc, ← this, ← Int.mul_assoc, tt, Int.one_mul])
    (fun i hi hir => by
      rw [hzs i hi hir, hP, ma_t]
      split <;> split <;> omega)
    (fun i hi hir => by
      have := hzr i hi hir
      rw [hP, Int.mul_assoc, ← this, ← Int.mul_assoc, tt, Int.one_mul]) hzb hzrb nl (Nat.le_refl _)
  have rr : ∀ j, d_sweeps b nc r s (d_dv J b r s) nl (48 + r) j = b (48 + r) j := fun j => w3 _ _ (fun i hi hir => by omega)
  have r14 : d_sweeps b nc r s (d_dv J b r s) nl 14 r = b 14 r := w3 _ _ (fun i hi hir => by omega)
  have hJ : (d_pJ J b r s 4 6).toInt = ma_t P * P := by
    unfold d_pJ
    rw [if_neg hp0, if_neg hdv0, gU_s]
    by_cases h : 0 < b (48 + r) s
    · have := ma_p0.mp h
      rw [if_pos h, hP, ma_t, if_pos (by omega)]
      omega
    · have : ¬ 0 < (b (48 + r) s).toInt := fun q => h (ma_p0.mpr q)
      have hb' := hb r hr s hs
      rw [if_neg h, ma_neg hP (by omega), ma_t, if_neg (by omega)]
      omega
  by_cases hp : 0 ≤ b (48 + r) s
  · have e : d_pB J b nl nc r s = gU (d_sweeps b nc r s (d_dv J b r s) nl) (48 + r) s (d_dv J b r s) := by
      unfold d_pB
      rw [if_neg hp0, if_neg hdv0, if_pos hp]
    have t1 : ma_t P = 1 := by
      have := ma_l0.mp hp
      rw [ma_t, if_pos (by omega)]
    rw [e]
    refine ⟨fun i hi hir j hj => ?_, fun i hi hir => ?_, fun j hj hjs => ?_, ?_, ?_, fun k j h1 h2 => ?_, hJ⟩
    · rw [gU_n (by omega)]; exact w1 i hi hir j hj
    · rw [gU_n (by omega)]; exact w2 i hi hir
    · rw [gU_n (by omega), rr, t1, Int.one_mul]
    · rw [gU_s, hdv]
    · rw [gU_n (by omega), r14, t1, Int.one_mul]
    · rw [gU_n (by omega)]
      exact w3 k j (fun i hi hir => by omega)
  · have e : d_pB J b nl nc r s = gU (d_turn (d_sweeps b nc r s (d_dv J b r s) nl) r nc) (48 + r) s (d_dv J b r s) := by
      unfold d_pB
      rw [if_neg hp0, if_neg hdv0, if_neg hp]
    have t1 : ma_t P = -1 := by
      have : ¬ 0 ≤ (b (48 + r) s).toInt := fun q => hp (ma_l0.mpr q)
      rw [ma_t, if_neg (by omega)]
    rw [e]
    refine ⟨fun i hi hir j hj => ?_, fun i hi hir => ?_, fun j hj hjs => ?_, ?_, ?_, fun k j h1 h2 => ?_, hJ⟩
    · rw [gU_n (by omega), ma_turn, if_neg (by omega)]; exact w1 i hi hir j hj
    · rw [gU_n (by omega), ma_turn, if_neg (by omega)]; exact w2 i hi hir
    · have hb' := hb r hr j hj
      rw [gU_n (by omega), ma_turn, if_pos (Or.inl ⟨rfl, hj⟩), rr, t1, ma_neg rfl (by omega)]
      omega
    · rw [gU_s, hdv]
    · have hb' := hR r hr
      rw [gU_n (by omega), ma_turn, if_pos (Or.inr ⟨rfl, rfl⟩), r14, t1, ma_neg rfl (by omega)]
      omega
    · rw [gU_n (by omega), ma_turn, if_neg (by omega)]
      exact w3 k j (fun i hi hir => by omega)
