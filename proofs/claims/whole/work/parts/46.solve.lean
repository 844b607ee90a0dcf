/-! THE MATHEMATICS, 12: the reference's solve -/
theorem ma_swp {b : gL} {k p : Nat} : ∀ n, n ≤ 6 → ∀ i j, j < 6 → m_sw b k p n 87 (6 * i + j) = if j < n then (if i = k then b 87 (6 * p + j) else if i = p then b 87 (6 * k + j) else b 87 (6 * i + j)) else b 87 (6 * i + j)
  | 0, _, i, j, _ => by
    rw [if_neg (by omega)]
    rfl
  | n + 1, hn, i, j, hj => by
    have ih := ma_swp (b := b) (k := k) (p := p) n (by omega)
    show gU (gU (m_sw b k p n) 87 ((6 * k) + n) (m_sw b k p n 87 ((6 * p) + n))) 87 ((6 * p) + n) (m_sw b k p n 87 ((6 * k) + n)) 87 (6 * i + j) = _
    have e1 : m_sw b k p n 87 (6 * p + n) = b 87 (6 * p + n) := by rw [ih p n (by omega), if_neg (by omega)]
    have e2 : m_sw b k p n 87 (6 * k + n) = b 87 (6 * k + n) := by rw [ih k n (by omega), if_neg (by omega)]
    rw [e1, e2]
    by_cases h : j = n
    · subst h
      rw [if_pos (by omega)]
      by_cases h1 : i = p
      · subst h1
        rw [gU_s]
        by_cases h2 : i = k
        · rw [if_pos h2, h2]
        · rw [if_neg h2, if_pos rfl]
      · rw [gU_n (by omega)]
        by_cases h2 : i = k
        · subst h2
          rw [gU_s, if_pos rfl]
        · rw [gU_n (by omega), if_neg h2, if_neg h1, ih i j hj, if_neg (by omega)]
    · rw [gU_n (by omega), gU_n (by omega), ih i j hj]
      by_cases h2 : j < n
      · rw [if_pos h2, if_pos (show j < n + 1 by omega)]
      · rw [if_neg h2, if_neg (show ¬ j < n + 1 by omega)]
theorem ma_swp_f {b : gL} {k p : Nat} : ∀ n K j, K ≠ 87 → m_sw b k p n K j = b K j
  | 0, _, _, _ => rfl
  | n + 1, K, j, h => by
    show gU (gU (m_sw b k p n) 87 ((6 * k) + n) (m_sw b k p n 87 ((6 * p) + n))) 87 ((6 * p) + n) (m_sw b k p n 87 ((6 * k) + n)) K j = _
    rw [gU_n (by omega), gU_n (by omega), ma_swp_f n K j h]
theorem ma_el1 {b : gL} {i k : Nat} {pv q bf : Int64} (hik : i ≠ k) : ∀ n, n ≤ 6 → ∀ i' j, j < 6 → m_el1 b i k pv q bf n 87 (6 * i' + j) = if i' = i ∧ j < n then (pv * b 87 (6 * i + j) - q * b 87 (6 * k + j)) / bf else b 87 (6 * i' + j)
  | 0, _, i', j, _ => by
    rw [if_neg (by omega)]
    rfl
  | n + 1, hn, i', j, hj => by
    have ih := ma_el1 (b := b) (pv := pv) (q := q) (bf := bf) hik n (by omega)
    show gU (m_el1 b i k pv q bf n) 87 ((6 * i) + n) ((pv * m_el1 b i k pv q bf n 87 ((6 * i) + n) - q * m_el1 b i k pv q bf n 87 ((6 * k) + n)) / bf) 87 (6 * i' + j) = _
    have e1 : m_el1 b i k pv q bf n 87 (6 * i + n) = b 87 (6 * i + n) := by rw [ih i n (by omega), if_neg (by omega)]
    have e2 : m_el1 b i k pv q bf n 87 (6 * k + n) = b 87 (6 * k + n) := by rw [ih k n (by omega), if_neg (by omega)]
    rw [e1, e2]
    by_cases h : i' = i ∧ j = n
    · obtain ⟨rfl, rfl⟩ := h
      rw [gU_s, if_pos (by omega)]
    · rw [gU_n (by omega), ih i' j hj]
      by_cases h2 : i' = i ∧ j < n
      · rw [if_pos h2, if_pos (by omega)]
      · rw [if_neg h2, if_neg (by omega)]
theorem ma_el1_f {b : gL} {i k : Nat} {pv q bf : Int64} : ∀ n K j, K ≠ 87 → m_el1 b i k pv q bf n K j = b K j
  | 0, _, _, _ => rfl
  | n + 1, K, j, h => by
    show gU (m_el1 b i k pv q bf n) 87 ((6 * i) + n) _ K j = _
    rw [gU_n (by omega), ma_el1_f n K j h]
theorem ma_el {b : gL} {k mn : Nat} {pv bf : Int64} (hk : k < 5) (hmn : mn ≤ 5) : ∀ n, n ≤ mn → ∀ i' j, j < 6 → m_el b k pv bf mn n 87 (6 * i' + j) = if i' < n ∧ i' ≠ k ∧ j < mn + 1 then (pv * b 87 (6 * i' + j) - b 87 (6 * i' + k) * b 87 (6 * k + j)) / bf else b 87 (6 * i' + j)
  | 0, _, i', j, _ => by
    rw [if_neg (by omega)]
    rfl
  | n + 1, hn, i', j, hj => by
    have ih := ma_el (b := b) (pv := pv) (bf := bf) hk hmn n (by omega)
    show m_elI (m_el b k pv bf mn n) n k pv (m_el b k pv bf mn n 87 ((6 * n) + k)) bf (mn + 1) 87 (6 * i' + j) = _
    unfold m_elI
    by_cases h : n = k
    · rw [if_pos (by rw [h]), ih i' j hj]
      by_cases h2 : i' < n ∧ i' ≠ k ∧ j < mn + 1
      · rw [if_pos h2, if_pos (by omega)]
      · rw [if_neg h2, if_neg (by omega)]
    · rw [if_neg (by rw [nI_eq (by omega) (by omega)]; exact h), ma_el1 h _ (by omega) i' j hj]
      have e1 : ∀ j, j < 6 → m_el b k pv bf mn n 87 (6 * n + j) = b 87 (6 * n + j) := fun j hj => by rw [ih n j hj, if_neg (by omega)]
      have e2 : ∀ j, j < 6 → m_el b k pv bf mn n 87 (6 * k + j) = b 87 (6 * k + j) := fun j hj => by rw [ih k j hj, if_neg (by omega)]
      rw [e1 j hj, e2 j hj, e1 k (by omega)]
      by_cases h1 : i' = n ∧ j < mn + 1
      · rw [if_pos h1, if_pos (by omega), h1.1]
      · rw [if_neg h1, ih i' j hj]
        by_cases h2 : i' < n ∧ i' ≠ k ∧ j < mn + 1
        · rw [if_pos h2, if_pos (by omega)]
        · rw [if_neg h2, if_neg (by omega)]
theorem ma_el_f {b : gL} {k mn : Nat} {pv bf : Int64} : ∀ n K j, K ≠ 87 → m_el b k pv bf mn n K j = b K j
  | 0, _, _, _ => rfl
  | n + 1, K, j, h => by
    show m_elI (m_el b k pv bf mn n) n k pv (m_el b k pv bf mn n 87 ((6 * n) + k)) bf (mn + 1) K j = _
    unfold m_elI
    split
    · exact ma_el_f n K j h
    · rw [ma_el1_f _ _ _ h, ma_el_f n K j h]
theorem ma_pvs {b : gL} {k : Nat} : ∀ n p, p ≤ m_pv b k n p ∧ m_pv b k n p ≤ p + n ∧ (m_pv b k n p < p + n → ¬ b 87 (6 * m_pv b k n p + k) = 0) ∧ ∀ q, p ≤ q → q < m_pv b k n p → b 87 (6 * q + k) = 0
  | 0, p => ⟨Nat.le_refl _, Nat.le_refl _, fun h => absurd h (Nat.lt_irrefl _), fun q h1 h2 => by have h2 : q < p := h2; omega⟩
  | n + 1, p => by
    have e : m_pv b k (n + 1) p = if b 87 ((6 * p) + k) = 0 then m_pv b k n (p + 1) else p := rfl
    by_cases h : b 87 (6 * p + k) = 0
    · rw [e, if_pos h]
      obtain ⟨i1, i2, i3, i4⟩ := ma_pvs (b := b) (k := k) n (p + 1)
      refine ⟨by omega, by omega, fun q => i3 (by omega), fun q h1 h2 => ?_⟩
      by_cases h3 : q = p
      · rw [h3]; exact h
      · exact i4 q (by omega) h2
    · rw [e, if_neg h]
      exact ⟨Nat.le_refl _, by omega, fun _ => h, fun q h1 h2 => by omega⟩
/-- what solve keeps at its step k: o the rows by which all is told, W the rows that wait -/
def ma_SI (mn : Nat) (F : Nat → Nat → Int) (k : Nat) (bf : Int64) (b : gL) (o W : Nat → Nat → Int) : Prop :=
  (ma_sp o ∧ ma_D 6 o ≠ 0 ∧ bf.toInt = ma_D 6 o) ∧ (∀ s, s < 6 → k ≤ s → o s = ma_e s) ∧ (∀ s, s < 6 → ma_bd (o s)) ∧ (∀ i, i < mn → ma_bd (W i)) ∧
  (∀ i, k ≤ i → i < mn → (∀ j, k ≤ j → j < mn → (b 87 (6 * i + j)).toInt = ma_K o j (W i)) ∧ (b 87 (6 * i + mn)).toInt = - ma_K o 5 (W i)) ∧
  (∀ i, i < k → (∀ j, k ≤ j → j < mn → (b 87 (6 * i + j)).toInt = - ma_K o j (ma_e i)) ∧ (b 87 (6 * i + mn)).toInt = ma_K o 5 (ma_e i)) ∧
  (∀ i, i < mn → (∃ s, s < k ∧ o s = F i) ∨ ∃ q, k ≤ q ∧ q < mn ∧ W q = F i) ∧ (∀ s, s < k → ∃ i, i < mn ∧ o s = F i) ∧ (∀ q, q < mn → ∃ i, i < mn ∧ W q = F i)
theorem ma_Ks {o : Nat → Nat → Int} {s : Nat} {v : Nat → Int} (hs : s < 5) (h5 : o 5 = ma_e 5) (h : ∀ i, i < 6 → ma_bd (o i)) (hv : ma_bd v) : (ma_K o s v).natAbs ≤ 7085880 := by
  rw [← ma_k_abs]
  exact ma_k_small hs h5 h hv
theorem ma_Kb {o : Nat → Nat → Int} {s : Nat} {v : Nat → Int} (h : ∀ i, i < 6 → ma_bd (o i)) (hv : ma_bd v) : (ma_K o s v).natAbs ≤ 42515280000 := by
  rw [← ma_k_abs]
  exact ma_k_big h hv
/-- a number of the eliminated matrix -/
theorem ma_elv {x y z w d : Int64} {X Y Z W0 R D0 : Int} (hx : x.toInt = X) (hy : y.toInt = Y) (hz : z.toInt = Z) (hw : w.toInt = W0) (hd : d.toInt = D0) (h0 : D0 ≠ 0) (bX : X.natAbs ≤ 7085880) (bY : Y.natAbs ≤ 42515280000) (bZ : Z.natAbs ≤ 7085880) (bW : W0.natAbs ≤ 42515280000) (bR : R.natAbs ≤ 42515280000) (h : X * Y - Z * W0 = D0 * R) : ((x * y - z * w) / d).toInt = R := by
  have m1 := ma_mb bX bY
  have m2 := ma_mb bZ bW
  refine ma_div (d := D0) ?_ hd h0 (by omega)
  rw [← h]
  exact ma_sub (ma_mul hx hy (by omega)) (ma_mul hz hw (by omega)) (by omega)
theorem ma_SI_step {mn : Nat} (hmn : mn ≤ 5) {F : Nat → Nat → Int} {k : Nat} {bf : Int64} {b : gL} {o W : Nat → Nat → Int} (S : ma_SI mn F k bf b o W) (hk : k < mn) {p : Nat} (hkp : k ≤ p) (hp : p < mn) (hne : ¬ b 87 (6 * p + k) = 0) :
    ma_SI mn F (k + 1) (m_sw b k p (mn + 1) 87 ((6 * k) + k)) (m_el (m_sw b k p (mn + 1)) k (m_sw b k p (mn + 1) 87 ((6 * k) + k)) bf mn mn) (ma_rw o k (W p)) (fun i => if i = p then W k else W i) := by
  obtain ⟨⟨s1, s2, s3⟩, s4, s5, s6, s7, s8, s9, s10, s11⟩ := S
  have o5 : o 5 = ma_e 5 := s4 5 (by omega) (by omega)
  have ok : o k = ma_e k := s4 k (by omega) (by omega)
  have swv : ∀ i j, j < mn + 1 → m_sw b k p (mn + 1) 87 (6 * i + j) = if i = k then b 87 (6 * p + j) else if i = p then b 87 (6 * k + j) else b 87 (6 * i + j) := fun i j hj => by
    rw [ma_swp (mn + 1) (by omega) i j (by omega), if_pos hj]
  have vkk : (m_sw b k p (mn + 1) 87 (6 * k + k)).toInt = ma_K o k (W p) := by
    rw [swv k k (by omega), if_pos rfl]
    exact (s7 p hkp hp).1 k (Nat.le_refl _) hk
  have pne : ma_K o k (W p) ≠ 0 := by
    intro q
    apply hne
    rw [ma_e0, (s7 p hkp hp).1 k (Nat.le_refl _) hk]
    exact q
  have bWp : ma_bd (W p) := s6 p hp
  have nbd : ∀ s, s < 6 → ma_bd (ma_rw o k (W p) s) := ma_rw_bd s5 bWp
  have no5 : ma_rw o k (W p) 5 = ma_e 5 := by rw [ma_rw_n (by omega), o5]
  have plu : ∀ j, j < 6 → j ≠ k → ∀ v, ma_D 6 o * ma_K (ma_rw o k (W p)) j v = ma_K o j v * ma_K o k (W p) - ma_K o k v * ma_K o j (W p) := fun j hj hjk v => ma_plu s1 (W p) v (by omega) hj (fun q => hjk q.symm)
  have elv : ∀ i j, i < mn → i ≠ k → j < mn + 1 → m_el (m_sw b k p (mn + 1)) k (m_sw b k p (mn + 1) 87 (6 * k + k)) bf mn mn 87 (6 * i + j) = (m_sw b k p (mn + 1) 87 (6 * k + k) * m_sw b k p (mn + 1) 87 (6 * i + j) - m_sw b k p (mn + 1) 87 (6 * i + k) * m_sw b k p (mn + 1) 87 (6 * k + j)) / bf := fun i j hi hik hj => by
    rw [ma_el (by omega) hmn mn (Nat.le_refl _) i j (by omega), if_pos ⟨hi, hik, hj⟩]
  have elk : ∀ j, j < 6 → m_el (m_sw b k p (mn + 1)) k (m_sw b k p (mn + 1) 87 (6 * k + k)) bf mn mn 87 (6 * k + j) = m_sw b k p (mn + 1) 87 (6 * k + j) := fun j hj => by
    rw [ma_el (by omega) hmn mn (Nat.le_refl _) k j hj, if_neg (by omega)]
  -- rows of the swapped matrix
  have wk : ∀ j, k ≤ j → j < mn → (m_sw b k p (mn + 1) 87 (6 * k + j)).toInt = ma_K o j (W p) := fun j h1 h2 => by
    rw [swv k j (by omega), if_pos rfl]; exact (s7 p hkp hp).1 j h1 h2
  have wk5 : (m_sw b k p (mn + 1) 87 (6 * k + mn)).toInt = - ma_K o 5 (W p) := by
    rw [swv k mn (by omega), if_pos rfl]; exact (s7 p hkp hp).2
  have wi : ∀ i, k < i → i < mn → (∀ j, k ≤ j → j < mn → (m_sw b k p (mn + 1) 87 (6 * i + j)).toInt = ma_K o j ((fun i => if i = p then W k else W i) i)) ∧ (m_sw b k p (mn + 1) 87 (6 * i + mn)).toInt = - ma_K o 5 ((fun i => if i = p then W k else W i) i) := by
    intro i h1 h2
    refine ⟨fun j h3 h4 => ?_, ?_⟩
    · rw [swv i j (by omega), if_neg (by omega)]
      show _ = ma_K o j (if i = p then W k else W i)
      by_cases e : i = p
      · rw [if_pos e, if_pos e]; exact (s7 k (Nat.le_refl _) hk).1 j h3 h4
      · rw [if_neg e, if_neg e]; exact (s7 i (by omega) h2).1 j h3 h4
    · rw [swv i mn (by omega), if_neg (by omega)]
      show _ = - ma_K o 5 (if i = p then W k else W i)
      by_cases e : i = p
      · rw [if_pos e, if_pos e]; exact (s7 k (Nat.le_refl _) hk).2
      · rw [if_neg e, if_neg e]; exact (s7 i (by omega) h2).2
  have wl : ∀ i, i < k → (∀ j, k ≤ j → j < mn → (m_sw b k p (mn + 1) 87 (6 * i + j)).toInt = - ma_K o j (ma_e i)) ∧ (m_sw b k p (mn + 1) 87 (6 * i + mn)).toInt = ma_K o 5 (ma_e i) := by
    intro i h1
    refine ⟨fun j h3 h4 => ?_, ?_⟩
    · rw [swv i j (by omega), if_neg (by omega), if_neg (by omega)]; exact (s8 i h1).1 j h3 h4
    · rw [swv i mn (by omega), if_neg (by omega), if_neg (by omega)]; exact (s8 i h1).2
  have bW' : ∀ i, i < mn → ma_bd ((fun i => if i = p then W k else W i) i) := by
    intro i hi
    show ma_bd (if i = p then W k else W i)
    split
    · exact s6 k hk
    · exact s6 i hi
  refine ⟨⟨ma_sp_rw s1 s2 _ (by omega), pne, vkk⟩, fun s h1 h2 => ?_, nbd, bW', fun i h1 h2 => ⟨fun j h3 h4 => ?_, ?_⟩, fun i h1 => ⟨fun j h3 h4 => ?_, ?_⟩, fun i hi => ?_, fun s hs => ?_, fun q hq => ?_⟩
  · rw [ma_rw_n (by omega)]
    exact s4 s h1 (by omega)
  · rw [elv i j h2 (by omega) (by omega)]
    obtain ⟨w1, w2⟩ := wi i (by omega) h2
    refine ma_elv vkk (w1 j (by omega) h4) (w1 k (by omega) hk) (wk j (by omega) h4) s3 s2 (ma_Ks (by omega) o5 s5 bWp) (ma_Kb s5 (bW' i h2)) (ma_Ks (by omega) o5 s5 (bW' i h2)) (ma_Kb s5 bWp) (ma_Kb nbd (bW' i h2)) ?_
    rw [plu j (by omega) (by omega)]
    grind
  · rw [elv i mn h2 (by omega) (by omega)]
    obtain ⟨w1, w2⟩ := wi i (by omega) h2
    have q1 := ma_Kb (s := 5) s5 (bW' i h2)
    have q2 := ma_Kb (s := 5) s5 bWp
    have q3 := ma_Kb (s := 5) nbd (bW' i h2)
    refine ma_elv vkk w2 (w1 k (by omega) hk) wk5 s3 s2 (ma_Ks (by omega) o5 s5 bWp) (by omega) (ma_Ks (by omega) o5 s5 (bW' i h2)) (by omega) (by omega) ?_
    rw [Int.mul_neg (ma_D 6 o), plu 5 (by omega) (by omega)]
    grind
  · by_cases e : i = k
    · subst e
      rw [elk j (by omega), wk j (by omega) h4]
      have := plu j (by omega) (by omega) (ma_e i)
      have k1 : ma_K o j (ma_e i) = 0 := by rw [← ok]; exact ma_K_z (by omega) (by omega) (by omega)
      have k2 : ma_K o i (ma_e i) = ma_D 6 o := by rw [← ok]; exact ma_K_o
      rw [k1, k2, Int.zero_mul, Int.zero_sub, ← Int.mul_neg] at this
      have := Int.eq_of_mul_eq_mul_left s2 this
      omega
    · rw [elv i j (by omega) e (by omega)]
      obtain ⟨w1, w2⟩ := wl i (by omega)
      have q1 := ma_Kb (s := j) s5 (ma_bd_e (i := i))
      have q2 := ma_Ks (s := k) (by omega) o5 s5 (ma_bd_e (i := i))
      have q3 := ma_Kb (s := j) nbd (ma_bd_e (i := i))
      refine ma_elv vkk (w1 j (by omega) h4) (w1 k (by omega) hk) (wk j (by omega) h4) s3 s2 (ma_Ks (by omega) o5 s5 bWp) (by omega) (by omega) (ma_Kb s5 bWp) (by omega) ?_
      rw [Int.mul_neg (ma_D 6 o), plu j (by omega) (by omega)]
      grind
  · by_cases e : i = k
    · subst e
      rw [elk mn (by omega), wk5]
      have := plu 5 (by omega) (by omega) (ma_e i)
      have k1 : ma_K o 5 (ma_e i) = 0 := by rw [← ok]; exact ma_K_z (by omega) (by omega) (by omega)
      have k2 : ma_K o i (ma_e i) = ma_D 6 o := by rw [← ok]; exact ma_K_o
      rw [k1, k2, Int.zero_mul, Int.zero_sub, ← Int.mul_neg] at this
      have := Int.eq_of_mul_eq_mul_left s2 this
      omega
    · rw [elv i mn (by omega) e (by omega)]
      obtain ⟨w1, w2⟩ := wl i (by omega)
      have q1 := ma_Kb (s := 5) s5 (ma_bd_e (i := i))
      have q2 := ma_Ks (s := k) (by omega) o5 s5 (ma_bd_e (i := i))
      have q4 := ma_Kb (s := 5) s5 bWp
      refine ma_elv vkk w2 (w1 k (by omega) hk) wk5 s3 s2 (ma_Ks (by omega) o5 s5 bWp) q1 (by omega) (by omega) (ma_Kb nbd (ma_bd_e (i := i))) ?_
      rw [plu 5 (by omega) (by omega)]
      grind
  · rcases s9 i hi with ⟨s, h1, h2⟩ | ⟨q, h1, h2, h3⟩
    · refine Or.inl ⟨s, by omega, ?_⟩
      rw [ma_rw_n (by omega)]
      exact h2
    · by_cases e : q = p
      · refine Or.inl ⟨k, by omega, ?_⟩
        rw [ma_rw_s, ← e]
        exact h3
      · by_cases e2 : q = k
        · refine Or.inr ⟨p, by omega, hp, ?_⟩
          show (if p = p then W k else W p) = F i
          rw [if_pos rfl, ← e2]
          exact h3
        · refine Or.inr ⟨q, by omega, h2, ?_⟩
          show (if q = p then W k else W q) = F i
          rw [if_neg e]
          exact h3
  · by_cases e : s = k
    · rw [e, ma_rw_s]
      exact s11 p hp
    · rw [ma_rw_n e]
      exact s10 s (by omega)
  · show ∃ i, i < mn ∧ (if q = p then W k else W q) = F i
    split
    · exact s11 k hk
    · exact s11 q hq
theorem ma_sol {mn : Nat} (hmn : mn ≤ 5) {F : Nat → Nat → Int} : ∀ n k bf b o W, n + k = mn → ma_SI mn F k bf b o W → (∀ K j, K ≠ 87 → (m_sol mn n k bf b).2.2 K j = b K j) ∧ (((m_sol mn n k bf b).1 = 1 ∧ ∃ o', ma_SI mn F mn (m_sol mn n k bf b).2.1 (m_sol mn n k bf b).2.2 o' W ∨ ∃ W', ma_SI mn F mn (m_sol mn n k bf b).2.1 (m_sol mn n k bf b).2.2 o' W') ∨ ((m_sol mn n k bf b).1 = 0 ∧ ∃ X : Nat → Int, X 5 = 0 ∧ ma_zr mn X ∧ (∃ c, c < mn ∧ X c ≠ 0) ∧ ∀ i, i < mn → ma_dot (F i) X = 0))
  | 0, k, bf, b, o, W, hk, S => by
    have hk : k = mn := by omega
    subst hk
    exact ⟨fun _ _ _ => rfl, Or.inl ⟨rfl, o, Or.inl S⟩⟩
  | n + 1, k, bf, b, o, W, hk, S => by
    have e : m_sol mn (n + 1) k bf b = if m_pv b k (mn - k) k = mn then (0, bf, b) else m_sol mn n (k + 1) (m_sw b k (m_pv b k (mn - k) k) (mn + 1) 87 ((6 * k) + k)) (m_el (m_sw b k (m_pv b k (mn - k) k) (mn + 1)) k (m_sw b k (m_pv b k (mn - k) k) (mn + 1) 87 ((6 * k) + k)) bf mn mn) := rfl
    obtain ⟨p1, p2, p3, p4⟩ := ma_pvs (b := b) (k := k) (mn - k) k
    by_cases h : m_pv b k (mn - k) k = mn
    · rw [e, if_pos h]
      refine ⟨fun _ _ _ => rfl, Or.inr ⟨rfl, ma_Y o k, ?_, fun i h1 h2 => ?_, ⟨k, by omega, ?_⟩, fun i hi => ?_⟩⟩
      all_goals obtain ⟨⟨s1, s2, s3⟩, s4, s5, s6, s7, s8, s9, s10, s11⟩ := S
      · show ma_K o k (ma_e 5) = 0
        rw [← s4 5 (by omega) (by omega)]
        exact ma_K_z (by omega) (by omega) (by omega)
      · show ma_K o k (ma_e i) = 0
        rw [← s4 i (by omega) (by omega)]
        exact ma_K_z (by omega) (by omega) (by omega)
      · show ma_K o k (ma_e k) ≠ 0
        have := s4 k (by omega) (by omega)
        rw [← this, ma_K_o]
        exact s2
      · rw [ma_dot_Y (by omega)]
        rcases s9 i hi with ⟨s, h1, h2⟩ | ⟨q, h1, h2, h3⟩
        · rw [← h2]
          exact ma_K_z (by omega) (by omega) (by omega)
        · rw [← h3, ← (s7 q h1 h2).1 k (Nat.le_refl _) (by omega)]
          exact ma_e0.mp (p4 q h1 (by omega))
    · rw [e, if_neg h]
      have St := ma_SI_step hmn S (by omega) p1 (by omega) (p3 (by omega))
      obtain ⟨i1, i2⟩ := ma_sol hmn n (k + 1) _ _ _ _ (by omega) St
      refine ⟨fun K j hK => ?_, ?_⟩
      · rw [i1 K j hK, ma_el_f _ _ _ hK, ma_swp_f _ _ _ hK]
      · rcases i2 with ⟨q, o', q2⟩ | q
        · refine Or.inl ⟨q, o', Or.inr ?_⟩
          rcases q2 with q2 | ⟨W', q2⟩
          · exact ⟨_, q2⟩
          · exact ⟨W', q2⟩
        · exact Or.inr q
theorem ma_mx1 {a : gF} {b : gL} {i : Nat} : ∀ n, n ≤ 6 → ∀ i' j, j < 6 → m_mx1 a b i n 87 (6 * i' + j) = if i' = i ∧ j < n then m_part a (cN (a 88 i)) j else b 87 (6 * i' + j)
  | 0, _, i', j, _ => by
    rw [if_neg (by omega)]
    rfl
  | n + 1, hn, i', j, hj => by
    show gU (m_mx1 a b i n) 87 ((6 * i) + n) (m_part a (cN (a 88 i)) n) 87 (6 * i' + j) = _
    by_cases h : i' = i ∧ j = n
    · obtain ⟨rfl, rfl⟩ := h
      rw [gU_s, if_pos (by omega)]
    · rw [gU_n (by omega), ma_mx1 n (by omega) i' j hj]
      by_cases h2 : i' = i ∧ j < n
      · rw [if_pos h2, if_pos (by omega)]
      · rw [if_neg h2, if_neg (by omega)]
theorem ma_mx1_f {a : gF} {b : gL} {i : Nat} : ∀ n K j, K ≠ 87 → m_mx1 a b i n K j = b K j
  | 0, _, _, _ => rfl
  | n + 1, K, j, h => by
    show gU (m_mx1 a b i n) 87 ((6 * i) + n) _ K j = _
    rw [gU_n (by omega), ma_mx1_f n K j h]
theorem ma_mx {a : gF} {b : gL} {mn : Nat} (hmn : mn ≤ 5) : ∀ n, n ≤ mn → ∀ i' j, j < 6 → m_mx a b mn n 87 (6 * i' + j) = if i' < n ∧ j < mn then m_part a (cN (a 88 i')) j else if i' < n ∧ j = mn then m_part a (cN (a 88 i')) 5 else b 87 (6 * i' + j)
  | 0, _, i', j, _ => by
    rw [if_neg (by omega), if_neg (by omega)]
    rfl
  | n + 1, hn, i', j, hj => by
    show gU (m_mx1 a (m_mx a b mn n) n mn) 87 ((6 * n) + mn) (m_part a (cN (a 88 n)) 5) 87 (6 * i' + j) = _
    by_cases h : i' = n ∧ j = mn
    · obtain ⟨rfl, rfl⟩ := h
      rw [gU_s, if_neg (by omega), if_pos (by omega)]
    · rw [gU_n (by omega), ma_mx1 mn (by omega) i' j hj]
      by_cases h2 : i' = n ∧ j < mn
      · rw [if_pos h2, if_pos (by omega), h2.1]
      · rw [if_neg h2, ma_mx hmn n (by omega) i' j hj]
        by_cases h3 : i' < n ∧ j < mn
        · rw [if_pos h3, if_pos (by omega)]
        · rw [if_neg h3, if_neg (show ¬ (i' < n + 1 ∧ j < mn) by omega)]
          by_cases h4 : i' < n ∧ j = mn
          · rw [if_pos h4, if_pos (by omega)]
          · rw [if_neg h4, if_neg (by omega)]
theorem ma_mx_f {a : gF} {b : gL} {mn : Nat} : ∀ n K j, K ≠ 87 → m_mx a b mn n K j = b K j
  | 0, _, _, _ => rfl
  | n + 1, K, j, h => by
    show gU (m_mx1 a (m_mx a b mn n) n mn) 87 ((6 * n) + mn) _ K j = _
    rw [gU_n (by omega), ma_mx1_f _ _ _ h, ma_mx_f n K j h]
theorem ma_ovs {b : gL} {mn : Nat} : ∀ n K j, m_ov b mn n K j = if K = 89 ∧ j < n then b 87 (6 * j + mn) else b K j
  | 0, K, j => by
    rw [if_neg (by omega)]
    rfl
  | n + 1, K, j => by
    show gU (m_ov b mn n) 89 n (m_ov b mn n 87 ((6 * n) + mn)) K j = _
    have e : m_ov b mn n 87 (6 * n + mn) = b 87 (6 * n + mn) := by rw [ma_ovs, if_neg (by omega)]
    rw [e]
    by_cases h : K = 89 ∧ j = n
    · obtain ⟨rfl, rfl⟩ := h
      rw [gU_s, if_pos (by omega)]
    · rw [gU_n (by omega), ma_ovs]
      by_cases h2 : K = 89 ∧ j < n
      · rw [if_pos h2, if_pos (by omega)]
      · rw [if_neg h2, if_neg (by omega)]
theorem ma_ngs {b : gL} : ∀ n K j, m_ng b n K j = if K = 89 ∧ j < n then - b 89 j else b K j
  | 0, K, j => by
    rw [if_neg (by omega)]
    rfl
  | n + 1, K, j => by
    show gU (m_ng b n) 89 n (- m_ng b n 89 n) K j = _
    have e : m_ng b n 89 n = b 89 n := by rw [ma_ngs, if_neg (by omega)]
    rw [e]
    by_cases h : K = 89 ∧ j = n
    · obtain ⟨rfl, rfl⟩ := h
      rw [gU_s, if_pos (by omega)]
    · rw [gU_n (by omega), ma_ngs]
      by_cases h2 : K = 89 ∧ j < n
      · rw [if_pos h2, if_pos (by omega)]
      · rw [if_neg h2, if_neg (by omega)]
/-- the reference's condition c -/
def ma_F (a : gF) (mn c : Nat) : Nat → Int := ma_fm mn (fun j => (m_part a c j).toInt) (-(m_part a c 5).toInt)
theorem ma_solve {J : gL} {a : gF} {b : gL} {mn : Nat} (hmn : mn ≤ 5) (hb : ∀ i, i < mn → ma_bd (ma_F a mn (cN (a 88 i)))) :
    (∀ K j, ¬ (K = 5 ∧ j = 23) → m_sJ J a b mn K j = J K j) ∧ (∀ K j, K ≠ 87 → K ≠ 89 → m_sB a b mn K j = b K j) ∧ (((m_s0 a b mn).1 = 1 ∧ ∃ o, ma_sp o ∧ ma_D 6 o ≠ 0 ∧ (∀ s, s < 6 → mn ≤ s → o s = ma_e s) ∧ (∀ s, s < 6 → ma_bd (o s)) ∧ (∀ i, i < mn → ∃ s, s < mn ∧ o s = ma_F a mn (cN (a 88 i))) ∧ (∀ s, s < mn → ∃ i, i < mn ∧ o s = ma_F a mn (cN (a 88 i))) ∧ (m_sJ J a b mn 5 23).toInt = ma_u o ∧ ∀ i, i < mn → (m_sB a b mn 89 i).toInt = ma_k o 5 (ma_e i)) ∨ ((m_s0 a b mn).1 = 0 ∧ ∃ X : Nat → Int, X 5 = 0 ∧ ma_zr mn X ∧ (∃ c, c < mn ∧ X c ≠ 0) ∧ ∀ i, i < mn → ma_dot (ma_F a mn (cN (a 88 i))) X = 0)) := by
  have S0 : ma_SI mn (fun i => ma_F a mn (cN (a 88 i))) 0 1 (m_mx a b mn mn) ma_e (fun i => ma_F a mn (cN (a 88 i))) := by
    refine ⟨⟨ma_sp_e, by rw [ma_D_e]; decide, by rw [ma_D_e]; rfl⟩, fun s _ _ => rfl, fun s _ => ma_bd_e, hb, fun i _ hi => ⟨fun j _ hj => ?_, ?_⟩, fun i h => by omega, fun i hi => Or.inr ⟨i, by omega, hi, rfl⟩, fun s h => by omega, fun q hq => ⟨q, hq, rfl⟩⟩
    · rw [ma_mx hmn mn (Nat.le_refl _) i j (by omega), if_pos ⟨hi, hj⟩, ma_K_e (by omega)]
      show _ = ma_fm mn _ _ j
      unfold ma_fm
      rw [if_neg (by omega), if_pos hj]
    · rw [ma_mx hmn mn (Nat.le_refl _) i mn (by omega), if_neg (by omega), if_pos ⟨hi, rfl⟩, ma_K_e (by omega)]
      show _ = - ma_fm mn _ _ 5
      unfold ma_fm
      rw [if_pos rfl]
      omega
  obtain ⟨f1, f2⟩ := ma_sol hmn mn 0 1 (m_mx a b mn mn) _ _ (by omega) S0
  have hm : m_s0 a b mn = m_sol mn mn 0 1 (m_mx a b mn mn) := rfl
  rw [← hm] at f1 f2
  have f1' : ∀ K j, K ≠ 87 → (m_s0 a b mn).2.2 K j = b K j := fun K j h => by rw [f1 K j h, ma_mx_f _ _ _ h]
  have hJ : ∀ K j, ¬ (K = 5 ∧ j = 23) → m_sJ J a b mn K j = J K j := by
    intro K j h
    unfold m_sJ
    split
    · rfl
    · split
      · rw [gU_n (by omega)]
      · rw [gU_n (by omega), gU_n (by omega)]
  have hB : ∀ K j, K ≠ 87 → K ≠ 89 → m_sB a b mn K j = b K j := by
    intro K j h1 h2
    unfold m_sB
    split
    · exact f1' K j h1
    · split
      · rw [ma_ovs, if_neg (by omega)]; exact f1' K j h1
      · rw [ma_ngs, if_neg (by omega), ma_ovs, if_neg (by omega)]; exact f1' K j h1
  refine ⟨hJ, hB, ?_⟩
  rcases f2 with ⟨q, o, q2⟩ | q
  · refine Or.inl ⟨q, o, ?_⟩
    obtain ⟨W', S⟩ : ∃ W', ma_SI mn (fun i => ma_F a mn (cN (a 88 i))) mn (m_s0 a b mn).2.1 (m_s0 a b mn).2.2 o W' := by
      rcases q2 with q2 | q2
      · exact ⟨_, q2⟩
      · exact q2
    obtain ⟨⟨s1, s2, s3⟩, s4, s5, s6, s7, s8, s9, s10, s11⟩ := S
    have hne : ¬ (m_s0 a b mn).1 = 0 := by rw [q]; decide
    have o5 : o 5 = ma_e 5 := s4 5 (by omega) (by omega)
    have bu : (ma_D 6 o).natAbs ≤ 7085880 := ma_D_small o5 (fun s hs => s5 s (by omega))
    refine ⟨s1, s2, s4, s5, fun i hi => ?_, s10, ?_, fun i hi => ?_⟩
    · rcases s9 i hi with ⟨s, h1, h2⟩ | ⟨q, h1, h2, h3⟩
      · exact ⟨s, h1, h2⟩
      · omega
    · unfold m_sJ
      rw [if_neg hne]
      by_cases h : 0 ≤ (m_s0 a b mn).2.1
      · rw [if_pos h, gU_s, s3]
        have := ma_l0.mp h
        unfold ma_u ma_s
        rw [if_pos (by omega)]
        omega
      · rw [if_neg h, gU_s, ma_neg s3 (by omega)]
        have := Int.not_le.mp (fun w => h (ma_l0.mpr w))
        unfold ma_u ma_s
        rw [if_neg (by omega)]
        omega
    · have v := (s8 i hi).2
      have bv := ma_Kb (s := 5) s5 (ma_bd_e (i := i))
      unfold m_sB
      rw [if_neg hne]
      by_cases h : 0 ≤ (m_s0 a b mn).2.1
      · rw [if_pos h, ma_ovs, if_pos ⟨rfl, hi⟩, v]
        have := ma_l0.mp h
        unfold ma_k ma_s
        rw [if_pos (by omega)]
        omega
      · rw [if_neg h, ma_ngs, if_pos ⟨rfl, hi⟩, ma_ovs, if_pos ⟨rfl, hi⟩, ma_neg v (by omega)]
        have := Int.not_le.mp (fun w => h (ma_l0.mpr w))
        unfold ma_k ma_s
        rw [if_neg (by omega)]
        omega
  · exact Or.inr q
