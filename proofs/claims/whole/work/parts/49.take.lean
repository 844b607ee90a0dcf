/-! THE MATHEMATICS, 15: the reference's take -/
theorem ma_cmp {x y z w : Int64} {X Y Z W : Int} (hx : x.toInt = X) (hy : y.toInt = Y) (hz : z.toInt = Z) (hw : w.toInt = W) (b1 : (X * W).natAbs ≤ 9000000000000000000) (b2 : (Z * Y).natAbs ≤ 9000000000000000000) : (m_cmp x y z w = -1 ∧ X * W < Z * Y) ∨ (m_cmp x y z w = 0 ∧ X * W = Z * Y) ∨ (m_cmp x y z w = 1 ∧ Z * Y < X * W) := by
  have m1 := ma_mul hz hy b2
  have m2 := ma_mul hx hw b1
  unfold m_cmp
  by_cases h1 : z * y ≤ x * w
  · rw [if_pos h1]
    rw [Int64.le_iff_toInt_le, m1, m2] at h1
    by_cases h2 : x * w ≤ z * y
    · rw [if_pos h2]
      rw [Int64.le_iff_toInt_le, m1, m2] at h2
      exact Or.inr (Or.inl ⟨rfl, by omega⟩)
    · rw [if_neg h2]
      rw [Int64.le_iff_toInt_le, m1, m2] at h2
      exact Or.inr (Or.inr ⟨rfl, by omega⟩)
  · rw [if_neg h1]
    rw [Int64.le_iff_toInt_le, m1, m2] at h1
    exact Or.inl ⟨rfl, by omega⟩
/-- a point's numbers are small -/
def ma_sb (mn : Nat) (X : Nat → Int) : Prop := 0 < X 5 ∧ X 5 ≤ 7085880 ∧ ∀ i, i < mn → (X i).natAbs ≤ 708588000
/-- no later than another, name by name -/
def ma_lx (n : Nat) (P : Nat → Int) (p : Int) (Q : Nat → Int) (q : Int) : Prop := (∀ i, i < n → P i * q = Q i * p) ∨ ∃ i, i < n ∧ (∀ j, j < i → P j * q = Q j * p) ∧ P i * q < Q i * p
theorem ma_fre {a b c d e f : Int} (hb : 0 < b) (hd : 0 < d) (hf : 0 < f) (h1 : a * d = c * b) (h2 : c * f = e * d) : a * f = e * b :=
  Int.le_antisymm (ma_fr hb hd hf (Int.le_of_eq h1) (Int.le_of_eq h2)) (ma_fr hf hd hb (Int.le_of_eq h2.symm) (Int.le_of_eq h1.symm))
theorem ma_lx_t {n : Nat} {P Q R : Nat → Int} {p q r : Int} (hp : 0 < p) (hq : 0 < q) (hr : 0 < r) (h1 : ma_lx n P p Q q) (h2 : ma_lx n Q q R r) : ma_lx n P p R r := by
  rcases h1 with h1 | ⟨i, i1, i2, i3⟩
  · rcases h2 with h2 | ⟨j, j1, j2, j3⟩
    · exact Or.inl (fun i hi => ma_fre hp hq hr (h1 i hi) (h2 i hi))
    · exact Or.inr ⟨j, j1, fun k hk => ma_fre hp hq hr (h1 k (by omega)) (j2 k hk), ma_fr2 hp hq hr (Int.le_of_eq (h1 j j1)) j3⟩
  · rcases h2 with h2 | ⟨j, j1, j2, j3⟩
    · exact Or.inr ⟨i, i1, fun k hk => ma_fre hp hq hr (i2 k hk) (h2 k (by omega)), ma_fr1 hp hq hr i3 (Int.le_of_eq (h2 i i1))⟩
    · rcases Nat.lt_trichotomy i j with w | w | w
      · exact Or.inr ⟨i, i1, fun k hk => ma_fre hp hq hr (i2 k hk) (j2 k (by omega)), ma_fr1 hp hq hr i3 (Int.le_of_eq (j2 i w))⟩
      · subst w
        exact Or.inr ⟨i, i1, fun k hk => ma_fre hp hq hr (i2 k hk) (j2 k hk), ma_fr1 hp hq hr i3 (Int.le_of_lt j3)⟩
      · exact Or.inr ⟨j, j1, fun k hk => ma_fre hp hq hr (i2 k (by omega)) (j2 k hk), ma_fr2 hp hq hr (Int.le_of_eq (i2 j w)) j3⟩
theorem ma_lx_r {n : Nat} {P : Nat → Int} {p : Int} : ma_lx n P p P p := Or.inl (fun _ _ => rfl)
theorem ma_lx_a {n : Nat} {P Q : Nat → Int} {p q : Int} (h1 : ma_lx n P p Q q) (h2 : ma_lx n Q q P p) : ∀ i, i < n → P i * q = Q i * p := by
  rcases h1 with h1 | ⟨i, i1, i2, i3⟩
  · exact h1
  · exfalso
    rcases h2 with h2 | ⟨j, j1, j2, j3⟩
    · have := h2 i i1
      omega
    · rcases Nat.lt_trichotomy i j with w | w | w
      · have := j2 i w
        omega
      · subst w
        omega
      · have := i2 j w
        omega
def ma_fu (I : gF) (J b : gL) (j : Nat) : Prop := I 5 24 = 0 ∨ (j % 2 = 0 ∧ ¬ 0 ≤ m_cmp (b 89 (j / 2)) (J 5 23) (b 37 j) (b 38 j)) ∨ (j % 2 = 1 ∧ ¬ m_cmp (b 89 (j / 2)) (J 5 23) (b 37 j) (b 38 j) ≤ 0)
theorem ma_fu1 {I : gF} {J b : gL} {i s : Nat} (hi : i < 5) (hs : s < 2) : (ma_fu I J b (2 * i + s) ∧ m_fs I J b i s = m_fu J b i (2 * i + s)) ∨ (¬ ma_fu I J b (2 * i + s) ∧ m_fs I J b i s = b) := by
  have e1 : (2 * i + s) / 2 = i := by omega
  have e2 : (2 * i + s) % 2 = s := by omega
  unfold ma_fu m_fs
  rw [e1, e2]
  have z0 : (0 : Int32) = nI 0 := rfl
  by_cases h : I 5 24 = 0
  · rw [if_pos h]
    exact Or.inl ⟨Or.inl h, rfl⟩
  · rw [if_neg h]
    by_cases h2 : s = 0
    · rw [if_pos (by rw [h2]; rfl)]
      by_cases h3 : 0 ≤ m_cmp (b 89 i) (J 5 23) (b 37 (2 * i + s)) (b 38 (2 * i + s))
      · rw [if_pos h3]
        refine Or.inr ⟨fun q => ?_, rfl⟩
        rcases q with q | q | q
        · exact h q
        · exact q.2 h3
        · omega
      · rw [if_neg h3]
        exact Or.inl ⟨Or.inr (Or.inl ⟨h2, h3⟩), rfl⟩
    · rw [if_neg (by rw [z0, nI_eq (by omega) (by omega)]; exact h2)]
      by_cases h3 : m_cmp (b 89 i) (J 5 23) (b 37 (2 * i + s)) (b 38 (2 * i + s)) ≤ 0
      · rw [if_pos h3]
        refine Or.inr ⟨fun q => ?_, rfl⟩
        rcases q with q | q | q
        · exact h q
        · exact h2 q.1
        · exact q.2 h3
      · rw [if_neg h3]
        exact Or.inl ⟨Or.inr (Or.inr ⟨by omega, h3⟩), rfl⟩
theorem ma_fuc {I : gF} {J b b' : gL} {j : Nat} (h1 : ∀ k, b' 89 k = b 89 k) (h2 : b' 37 j = b 37 j) (h3 : b' 38 j = b 38 j) : ma_fu I J b' j ↔ ma_fu I J b j := by
  unfold ma_fu
  rw [h1, h2, h3]
/-- one name's two sides -/
theorem ma_fu2 {I : gF} {J b : gL} {i : Nat} (hi : i < 5) : (∀ K j, K ≠ 37 → K ≠ 38 → m_fr I J b i 2 K j = b K j) ∧ (∀ K j, j ≠ 2 * i → j ≠ 2 * i + 1 → m_fr I J b i 2 K j = b K j) ∧ (∀ j, j = 2 * i ∨ j = 2 * i + 1 → (ma_fu I J b j ∧ m_fr I J b i 2 37 j = b 89 (j / 2) ∧ m_fr I J b i 2 38 j = J 5 23) ∨ (¬ ma_fu I J b j ∧ m_fr I J b i 2 37 j = b 37 j ∧ m_fr I J b i 2 38 j = b 38 j)) := by
  have e : m_fr I J b i 2 = m_fs I J (m_fs I J b i 0) i 1 := rfl
  have up : ∀ (B : gL) (k K j : Nat), m_fu J B i k K j = if K = 38 ∧ j = k then J 5 23 else if K = 37 ∧ j = k then B 89 i else B K j := by
    intro B k K j
    unfold m_fu
    by_cases h : K = 38 ∧ j = k
    · obtain ⟨rfl, rfl⟩ := h
      rw [gU_s, if_pos ⟨rfl, rfl⟩]
    · rw [gU_n (by omega), if_neg h]
      by_cases h2 : K = 37 ∧ j = k
      · obtain ⟨rfl, rfl⟩ := h2
        rw [gU_s, if_pos ⟨rfl, rfl⟩]
      · rw [gU_n (by omega), if_neg h2]
  have c1 := ma_fu1 (I := I) (J := J) (b := b) hi (show 0 < 2 by omega)
  have c2 := ma_fu1 (I := I) (J := J) (b := m_fs I J b i 0) hi (show 1 < 2 by omega)
  have f1 : ∀ K j, (K ≠ 37 ∧ K ≠ 38) ∨ j ≠ 2 * i → m_fs I J b i 0 K j = b K j := by
    intro K j h
    rcases c1 with ⟨-, q⟩ | ⟨-, q⟩
    · rw [q, up, if_neg (by omega), if_neg (by omega)]
    · rw [q]
  have f2 : ∀ K j, (K ≠ 37 ∧ K ≠ 38) ∨ j ≠ 2 * i + 1 → m_fs I J (m_fs I J b i 0) i 1 K j = m_fs I J b i 0 K j := by
    intro K j h
    rcases c2 with ⟨-, q⟩ | ⟨-, q⟩
    · rw [q, up, if_neg (by omega), if_neg (by omega)]
    · rw [q]
  rw [e]
  refine ⟨fun K j h1 h2 => ?_, fun K j h1 h2 => ?_, fun j hj => ?_⟩
  · rw [f2 K j (Or.inl ⟨h1, h2⟩), f1 K j (Or.inl ⟨h1, h2⟩)]
  · rw [f2 K j (Or.inr h2), f1 K j (Or.inr h1)]
  · rcases hj with hj | hj
    · subst hj
      rw [f2 37 _ (Or.inr (by omega)), f2 38 _ (Or.inr (by omega))]
      have e2 : (2 * i) / 2 = i := by omega
      rw [e2]
      rcases c1 with ⟨q1, q2⟩ | ⟨q1, q2⟩
      · refine Or.inl ⟨q1, ?_, ?_⟩
        · rw [q2, up, if_neg (by omega), if_pos ⟨rfl, rfl⟩]
        · rw [q2, up, if_pos ⟨rfl, rfl⟩]
      · refine Or.inr ⟨q1, ?_, ?_⟩ <;> rw [q2]
    · subst hj
      have e2 : (2 * i + 1) / 2 = i := by omega
      rw [e2]
      have hc : ma_fu I J (m_fs I J b i 0) (2 * i + 1) ↔ ma_fu I J b (2 * i + 1) := ma_fuc (fun k => f1 89 k (Or.inl ⟨by omega, by omega⟩)) (f1 37 _ (Or.inr (by omega))) (f1 38 _ (Or.inr (by omega)))
      rcases c2 with ⟨q1, q2⟩ | ⟨q1, q2⟩
      · refine Or.inl ⟨hc.mp q1, ?_, ?_⟩
        · rw [q2, up, if_neg (by omega), if_pos ⟨rfl, rfl⟩, f1 89 i (Or.inl ⟨by omega, by omega⟩)]
        · rw [q2, up, if_pos ⟨rfl, rfl⟩]
      · refine Or.inr ⟨fun q => q1 (hc.mpr q), ?_, ?_⟩
        · rw [q2]; exact f1 37 _ (Or.inr (by omega))
        · rw [q2]; exact f1 38 _ (Or.inr (by omega))
theorem ma_fu3 {I : gF} {J b : gL} {a : gF} : ∀ n, n ≤ 5 → (∀ K j, K ≠ 37 → K ≠ 38 → (m_t1 I J a b n).2 K j = b K j) ∧ (∀ K j, 2 * n ≤ j → (m_t1 I J a b n).2 K j = b K j) ∧ (∀ j, j < 2 * n → (ma_fu I J b j ∧ (m_t1 I J a b n).2 37 j = b 89 (j / 2) ∧ (m_t1 I J a b n).2 38 j = J 5 23) ∨ (¬ ma_fu I J b j ∧ (m_t1 I J a b n).2 37 j = b 37 j ∧ (m_t1 I J a b n).2 38 j = b 38 j))
  | 0, _ => ⟨fun _ _ _ _ => rfl, fun _ _ _ => rfl, fun j h => by omega⟩
  | n + 1, hn => by
    obtain ⟨i1, i2, i3⟩ := ma_fu3 (I := I) (J := J) (b := b) (a := a) n (by omega)
    obtain ⟨g1, g2, g3⟩ := ma_fu2 (I := I) (J := J) (b := (m_t1 I J a b n).2) (show n < 5 by omega)
    have e : (m_t1 I J a b (n + 1)).2 = m_fr I J ((m_t1 I J a b n).2) n 2 := rfl
    rw [e]
    refine ⟨fun K j h1 h2 => ?_, fun K j h => ?_, fun j hj => ?_⟩
    · rw [g1 K j h1 h2, i1 K j h1 h2]
    · rw [g2 K j (by omega) (by omega), i2 K j (by omega)]
    · by_cases h : j < 2 * n
      · rw [g2 37 j (by omega) (by omega), g2 38 j (by omega) (by omega)]
        exact i3 j h
      · have hc : ma_fu I J ((m_t1 I J a b n).2) j ↔ ma_fu I J b j := ma_fuc (fun k => i1 89 k (by omega) (by omega)) (i2 37 j (by omega)) (i2 38 j (by omega))
        rcases g3 j (by omega) with ⟨q1, q2, q3⟩ | ⟨q1, q2, q3⟩
        · exact Or.inl ⟨hc.mp q1, by rw [q2, i1 89 _ (by omega) (by omega)], q3⟩
        · exact Or.inr ⟨fun q => q1 (hc.mpr q), by rw [q2, i2 37 j (by omega)], by rw [q3, i2 38 j (by omega)]⟩
def ma_ru (cv : Int32) (J b : gL) (j : Nat) : Prop := ¬ 0 ≤ cv ∨ (j % 2 = 0 ∧ ¬ 0 ≤ m_cmp (b 89 (j / 2)) (J 5 23) (b 35 j) (b 36 j)) ∨ (j % 2 = 1 ∧ ¬ m_cmp (b 89 (j / 2)) (J 5 23) (b 35 j) (b 36 j) ≤ 0)
theorem ma_ru1 {cv : Int32} {J b : gL} {i s : Nat} (hi : i < 5) (hs : s < 2) : (ma_ru cv J b (2 * i + s) ∧ m_rs cv J b i s = m_ru J b i (2 * i + s)) ∨ (¬ ma_ru cv J b (2 * i + s) ∧ m_rs cv J b i s = b) := by
  have e1 : (2 * i + s) / 2 = i := by omega
  have e2 : (2 * i + s) % 2 = s := by omega
  unfold ma_ru m_rs
  rw [e1, e2]
  have z0 : (0 : Int32) = nI 0 := rfl
  by_cases h : ¬ 0 ≤ cv
  · rw [if_neg h]
    exact Or.inl ⟨Or.inl h, rfl⟩
  · rw [if_pos (Classical.not_not.mp h)]
    by_cases h2 : s = 0
    · rw [if_pos (by rw [h2]; rfl)]
      by_cases h3 : 0 ≤ m_cmp (b 89 i) (J 5 23) (b 35 (2 * i + s)) (b 36 (2 * i + s))
      · rw [if_pos h3]
        refine Or.inr ⟨fun q => ?_, rfl⟩
        rcases q with q | q | q
        · exact h q
        · exact q.2 h3
        · omega
      · rw [if_neg h3]
        exact Or.inl ⟨Or.inr (Or.inl ⟨h2, h3⟩), rfl⟩
    · rw [if_neg (by rw [z0, nI_eq (by omega) (by omega)]; exact h2)]
      by_cases h3 : m_cmp (b 89 i) (J 5 23) (b 35 (2 * i + s)) (b 36 (2 * i + s)) ≤ 0
      · rw [if_pos h3]
        refine Or.inr ⟨fun q => ?_, rfl⟩
        rcases q with q | q | q
        · exact h q
        · exact h2 q.1
        · exact q.2 h3
      · rw [if_neg h3]
        exact Or.inl ⟨Or.inr (Or.inr ⟨by omega, h3⟩), rfl⟩
theorem ma_ruc {cv : Int32} {J b b' : gL} {j : Nat} (h1 : ∀ k, b' 89 k = b 89 k) (h2 : b' 35 j = b 35 j) (h3 : b' 36 j = b 36 j) : ma_ru cv J b' j ↔ ma_ru cv J b j := by
  unfold ma_ru
  rw [h1, h2, h3]
/-- one name's two sides -/
theorem ma_ru2 {cv : Int32} {J b : gL} {i : Nat} (hi : i < 5) : (∀ K j, K ≠ 35 → K ≠ 36 → m_rr cv J b i 2 K j = b K j) ∧ (∀ K j, j ≠ 2 * i → j ≠ 2 * i + 1 → m_rr cv J b i 2 K j = b K j) ∧ (∀ j, j = 2 * i ∨ j = 2 * i + 1 → (ma_ru cv J b j ∧ m_rr cv J b i 2 35 j = b 89 (j / 2) ∧ m_rr cv J b i 2 36 j = J 5 23) ∨ (¬ ma_ru cv J b j ∧ m_rr cv J b i 2 35 j = b 35 j ∧ m_rr cv J b i 2 36 j = b 36 j)) := by
  have e : m_rr cv J b i 2 = m_rs cv J (m_rs cv J b i 0) i 1 := rfl
  have up : ∀ (B : gL) (k K j : Nat), m_ru J B i k K j = if K = 36 ∧ j = k then J 5 23 else if K = 35 ∧ j = k then B 89 i else B K j := by
    intro B k K j
    unfold m_ru
    by_cases h : K = 36 ∧ j = k
    · obtain ⟨rfl, rfl⟩ := h
      rw [gU_s, if_pos ⟨rfl, rfl⟩]
    · rw [gU_n (by omega), if_neg h]
      by_cases h2 : K = 35 ∧ j = k
      · obtain ⟨rfl, rfl⟩ := h2
        rw [gU_s, if_pos ⟨rfl, rfl⟩]
      · rw [gU_n (by omega), if_neg h2]
  have c1 := ma_ru1 (cv := cv) (J := J) (b := b) hi (show 0 < 2 by omega)
  have c2 := ma_ru1 (cv := cv) (J := J) (b := m_rs cv J b i 0) hi (show 1 < 2 by omega)
  have f1 : ∀ K j, (K ≠ 35 ∧ K ≠ 36) ∨ j ≠ 2 * i → m_rs cv J b i 0 K j = b K j := by
    intro K j h
    rcases c1 with ⟨-, q⟩ | ⟨-, q⟩
    · rw [q, up, if_neg (by omega), if_neg (by omega)]
    · rw [q]
  have f2 : ∀ K j, (K ≠ 35 ∧ K ≠ 36) ∨ j ≠ 2 * i + 1 → m_rs cv J (m_rs cv J b i 0) i 1 K j = m_rs cv J b i 0 K j := by
    intro K j h
    rcases c2 with ⟨-, q⟩ | ⟨-, q⟩
    · rw [q, up, if_neg (by omega), if_neg (by omega)]
    · rw [q]
  rw [e]
  refine ⟨fun K j h1 h2 => ?_, fun K j h1 h2 => ?_, fun j hj => ?_⟩
  · rw [f2 K j (Or.inl ⟨h1, h2⟩), f1 K j (Or.inl ⟨h1, h2⟩)]
  · rw [f2 K j (Or.inr h2), f1 K j (Or.inr h1)]
  · rcases hj with hj | hj
    · subst hj
      rw [f2 35 _ (Or.inr (by omega)), f2 36 _ (Or.inr (by omega))]
      have e2 : (2 * i) / 2 = i := by omega
      rw [e2]
      rcases c1 with ⟨q1, q2⟩ | ⟨q1, q2⟩
      · refine Or.inl ⟨q1, ?_, ?_⟩
        · rw [q2, up, if_neg (by omega), if_pos ⟨rfl, rfl⟩]
        · rw [q2, up, if_pos ⟨rfl, rfl⟩]
      · refine Or.inr ⟨q1, ?_, ?_⟩ <;> rw [q2]
    · subst hj
      have e2 : (2 * i + 1) / 2 = i := by omega
      rw [e2]
      have hc : ma_ru cv J (m_rs cv J b i 0) (2 * i + 1) ↔ ma_ru cv J b (2 * i + 1) := ma_ruc (fun k => f1 89 k (Or.inl ⟨by omega, by omega⟩)) (f1 35 _ (Or.inr (by omega))) (f1 36 _ (Or.inr (by omega)))
      rcases c2 with ⟨q1, q2⟩ | ⟨q1, q2⟩
      · refine Or.inl ⟨hc.mp q1, ?_, ?_⟩
        · rw [q2, up, if_neg (by omega), if_pos ⟨rfl, rfl⟩, f1 89 i (Or.inl ⟨by omega, by omega⟩)]
        · rw [q2, up, if_pos ⟨rfl, rfl⟩]
      · refine Or.inr ⟨fun q => q1 (hc.mpr q), ?_, ?_⟩
        · rw [q2]; exact f1 35 _ (Or.inr (by omega))
        · rw [q2]; exact f1 36 _ (Or.inr (by omega))
theorem ma_ru3 {cv : Int32} {J b : gL} : ∀ n, n ≤ 5 → (∀ K j, K ≠ 35 → K ≠ 36 → m_t2 cv J b n K j = b K j) ∧ (∀ K j, 2 * n ≤ j → m_t2 cv J b n K j = b K j) ∧ (∀ j, j < 2 * n → (ma_ru cv J b j ∧ m_t2 cv J b n 35 j = b 89 (j / 2) ∧ m_t2 cv J b n 36 j = J 5 23) ∨ (¬ ma_ru cv J b j ∧ m_t2 cv J b n 35 j = b 35 j ∧ m_t2 cv J b n 36 j = b 36 j))
  | 0, _ => ⟨fun _ _ _ _ => rfl, fun _ _ _ => rfl, fun j h => by omega⟩
  | n + 1, hn => by
    obtain ⟨i1, i2, i3⟩ := ma_ru3 (cv := cv) (J := J) (b := b)  n (by omega)
    obtain ⟨g1, g2, g3⟩ := ma_ru2 (cv := cv) (J := J) (b := m_t2 cv J b n) (show n < 5 by omega)
    have e : m_t2 cv J b (n + 1) = m_rr cv J (m_t2 cv J b n) n 2 := rfl
    rw [e]
    refine ⟨fun K j h1 h2 => ?_, fun K j h => ?_, fun j hj => ?_⟩
    · rw [g1 K j h1 h2, i1 K j h1 h2]
    · rw [g2 K j (by omega) (by omega), i2 K j (by omega)]
    · by_cases h : j < 2 * n
      · rw [g2 35 j (by omega) (by omega), g2 36 j (by omega) (by omega)]
        exact i3 j h
      · have hc : ma_ru cv J (m_t2 cv J b n) j ↔ ma_ru cv J b j := ma_ruc (fun k => i1 89 k (by omega) (by omega)) (i2 35 j (by omega)) (i2 36 j (by omega))
        rcases g3 j (by omega) with ⟨q1, q2, q3⟩ | ⟨q1, q2, q3⟩
        · exact Or.inl ⟨hc.mp q1, by rw [q2, i1 89 _ (by omega) (by omega)], q3⟩
        · exact Or.inr ⟨fun q => q1 (hc.mpr q), by rw [q2, i2 35 j (by omega)], by rw [q3, i2 36 j (by omega)]⟩
theorem ma_fi_f {J b : gL} {f : Int32} (hf : ¬ f = 0) : ∀ n i, m_fi J b n i f = f
  | 0, _ => rfl
  | n + 1, i => by
    show (if f = 0 then _ else f) = f
    rw [if_neg hf]
theorem ma_fi {J b : gL} {X P : Nat → Int} {U p : Int} (hU : (J 5 23).toInt = U) (hp : (J 5 14).toInt = p) : ∀ n i, (∀ j, i ≤ j → j < i + n → (b 89 j).toInt = X j ∧ (b 34 j).toInt = P j ∧ (X j * p).natAbs ≤ 9000000000000000000 ∧ (P j * U).natAbs ≤ 9000000000000000000) → (¬ 0 ≤ m_fi J b n i 0 ∧ ∃ j, i ≤ j ∧ j < i + n ∧ (∀ k, i ≤ k → k < j → X k * p = P k * U) ∧ X j * p < P j * U) ∨ (0 ≤ m_fi J b n i 0 ∧ ((∀ k, i ≤ k → k < i + n → X k * p = P k * U) ∨ ∃ j, i ≤ j ∧ j < i + n ∧ (∀ k, i ≤ k → k < j → X k * p = P k * U) ∧ P j * U < X j * p))
  | 0, i, _ => Or.inr ⟨by show (0 : Int32) ≤ 0; decide, Or.inl (fun k h1 h2 => by omega)⟩
  | n + 1, i, h => by
    have e : m_fi J b (n + 1) i 0 = m_fi J b n (i + 1) (m_cmp (b 89 i) (J 5 23) (b 34 i) (J 5 14)) := rfl
    rw [e]
    obtain ⟨h1, h2, h3, h4⟩ := h i (by omega) (by omega)
    rcases ma_cmp h1 hU h2 hp h3 h4 with ⟨c, q⟩ | ⟨c, q⟩ | ⟨c, q⟩
    · rw [c, ma_fi_f (by decide)]
      exact Or.inl ⟨by decide, i, by omega, by omega, fun k a1 a2 => by omega, q⟩
    · rw [c]
      rcases ma_fi hU hp n (i + 1) (fun j a1 a2 => h j (by omega) (by omega)) with ⟨g, j, j1, j2, j3, j4⟩ | ⟨g, w⟩
      · refine Or.inl ⟨g, j, by omega, by omega, fun k a1 a2 => ?_, j4⟩
        by_cases e2 : k = i
        · rw [e2]; exact q
        · exact j3 k (by omega) a2
      · refine Or.inr ⟨g, ?_⟩
        rcases w with w | ⟨j, j1, j2, j3, j4⟩
        · refine Or.inl (fun k a1 a2 => ?_)
          by_cases e2 : k = i
          · rw [e2]; exact q
          · exact w k (by omega) (by omega)
        · refine Or.inr ⟨j, by omega, by omega, fun k a1 a2 => ?_, j4⟩
          by_cases e2 : k = i
          · rw [e2]; exact q
          · exact j3 k (by omega) a2
    · rw [c, ma_fi_f (by decide)]
      exact Or.inr ⟨by decide, Or.inr ⟨i, by omega, by omega, fun k a1 a2 => by omega, q⟩⟩
theorem ma_cpb {b : gL} : ∀ n K j, m_cpb b n K j = if K = 34 ∧ j < n then b 89 j else b K j
  | 0, K, j => by
    rw [if_neg (by omega)]
    rfl
  | n + 1, K, j => by
    show gU (m_cpb b n) 34 n (m_cpb b n 89 n) K j = _
    have e : m_cpb b n 89 n = b 89 n := by rw [ma_cpb, if_neg (by omega)]
    rw [e]
    by_cases h : K = 34 ∧ j = n
    · obtain ⟨rfl, rfl⟩ := h
      rw [gU_s, if_pos (by omega)]
    · rw [gU_n (by omega), ma_cpb]
      by_cases h2 : K = 34 ∧ j < n
      · rw [if_pos h2, if_pos (by omega)]
      · rw [if_neg h2, if_neg (by omega)]
def ma_cost (mn : Nat) (co X : Nat → Int) : Int := ma_sm (fun i => co i * X i) mn
/-- the extremes among a set of points: place j of a table of fractions -/
def ma_ex (S : (Nat → Int) → Prop) (j : Nat) (p q : Int) : Prop := (∃ X, S X ∧ p = X (j / 2) ∧ q = X 5) ∧ (∀ X, S X → (j % 2 = 0 → p * X 5 ≤ X (j / 2) * q) ∧ (j % 2 = 1 → X (j / 2) * q ≤ p * X 5))
theorem ma_ex_1 {S : (Nat → Int) → Prop} {X : Nat → Int} (h : ∀ Y, S Y → Y = X) (hX : S X) (j : Nat) : ma_ex S j (X (j / 2)) (X 5) :=
  ⟨⟨X, hX, rfl, rfl⟩, fun Y hY => by rw [h Y hY]; exact ⟨fun _ => Int.le_refl _, fun _ => Int.le_refl _⟩⟩
theorem ma_ex_u {S S' : (Nat → Int) → Prop} {X : Nat → Int} {j : Nat} {p q p' q' : Int} (hS : ∀ Y, S' Y ↔ S Y ∨ Y = X) (hpos : ∀ Y, S Y → 0 < Y 5) (hX : 0 < X 5) (h : ma_ex S j p q) (hu : ((j % 2 = 0 ∧ X (j / 2) * q < p * X 5 ∨ j % 2 = 1 ∧ p * X 5 < X (j / 2) * q) ∧ p' = X (j / 2) ∧ q' = X 5) ∨ ((j % 2 = 0 → p * X 5 ≤ X (j / 2) * q) ∧ (j % 2 = 1 → X (j / 2) * q ≤ p * X 5) ∧ p' = p ∧ q' = q)) : ma_ex S' j p' q' := by
  obtain ⟨⟨Y, y1, y2, y3⟩, h2⟩ := h
  have hq : 0 < q := by rw [y3]; exact hpos Y y1
  rcases hu with ⟨u1, u2, u3⟩ | ⟨u1, u2, u3, u4⟩
  · refine ⟨⟨X, (hS X).mpr (Or.inr rfl), u2, u3⟩, fun Z hZ => ?_⟩
    rw [u2, u3]
    rcases (hS Z).mp hZ with w | w
    · have hz := hpos Z w
      obtain ⟨m1, m2⟩ := h2 Z w
      refine ⟨fun e => ?_, fun e => ?_⟩
      · rcases u1 with u1 | u1
        · exact Int.le_of_lt (ma_fr1 hX hq hz u1.2 (m1 e))
        · omega
      · rcases u1 with u1 | u1
        · omega
        · exact Int.le_of_lt (ma_fr2 hz hq hX (m2 e) u1.2)
    · rw [w]
      exact ⟨fun _ => Int.le_refl _, fun _ => Int.le_refl _⟩
  · refine ⟨⟨Y, (hS Y).mpr (Or.inl y1), by rw [u3]; exact y2, by rw [u4]; exact y3⟩, fun Z hZ => ?_⟩
    rw [u3, u4]
    rcases (hS Z).mp hZ with w | w
    · exact h2 Z w
    · rw [w]
      exact ⟨u1, u2⟩
/-- what take has gathered of the points seen -/
def ma_Acc (mn : Nat) (co : Nat → Int) (S : (Nat → Int) → Prop) (I : gF) (J b : gL) : Prop :=
  (∀ X, S X → ma_sb mn X) ∧ ((I 5 24 = 0 ∧ ∀ X, ¬ S X) ∨ (I 5 24 = 1 ∧
   (∀ j, j < 2 * mn → ma_ex S j (b 37 j).toInt (b 38 j).toInt) ∧
   ((∃ X, S X ∧ (J 5 11).toInt = ma_cost mn co X ∧ (J 5 12).toInt = X 5) ∧ (∀ X, S X → (J 5 11).toInt * X 5 ≤ ma_cost mn co X * (J 5 12).toInt)) ∧
   (∀ j, j < 2 * mn → ma_ex (fun X => S X ∧ ma_cost mn co X * (J 5 12).toInt = (J 5 11).toInt * X 5) j (b 35 j).toInt (b 36 j).toInt) ∧
   ((∃ X, (S X ∧ ma_cost mn co X * (J 5 12).toInt = (J 5 11).toInt * X 5) ∧ (∀ i, i < mn → (b 34 i).toInt = X i) ∧ (J 5 14).toInt = X 5) ∧ (∀ X, S X → ma_cost mn co X * (J 5 12).toInt = (J 5 11).toInt * X 5 → ma_lx mn (fun i => (b 34 i).toInt) (J 5 14).toInt X (X 5)))))
theorem ma_lx_c {n : Nat} {P P' Q : Nat → Int} {p q : Int} (h : ∀ i, i < n → P i = P' i) (hl : ma_lx n P p Q q) : ma_lx n P' p Q q := by
  rcases hl with h1 | ⟨i, i1, i2, i3⟩
  · exact Or.inl (fun i hi => by rw [← h i hi]; exact h1 i hi)
  · exact Or.inr ⟨i, i1, fun j hj => by rw [← h j (by omega)]; exact i2 j hj, by rw [← h i i1]; exact i3⟩
theorem ma_cost_b {mn : Nat} {co X : Nat → Int} (hmn : mn ≤ 5) (hc : ∀ i, i < mn → (co i).natAbs ≤ 99) (hX : ∀ i, i < mn → (X i).natAbs ≤ 708588000) : (ma_cost mn co X).natAbs ≤ 350751060000 := by
  have : (ma_cost mn co X).natAbs ≤ mn * 70150212000 := ma_sm_abs (fun i hi => ma_mb (hc i hi) (hX i hi))
  omega
theorem ma_t1c {I : gF} {J : gL} {a : gF} {b : gL} {mn : Nat} {X : Nat → Int} (hmn : mn ≤ 5) (hc : ∀ i, i < mn → (a 29 i).toInt.natAbs ≤ 99) (hX : ∀ i, i < mn → (b 89 i).toInt = X i ∧ (X i).natAbs ≤ 708588000) : ∀ n, n ≤ mn → (m_t1 I J a b n).1.toInt = ma_sm (fun i => (a 29 i).toInt * X i) n ∧ (ma_sm (fun i => (a 29 i).toInt * X i) n).natAbs ≤ n * 70150212000
  | 0, _ => ⟨rfl, by simp [ma_sm]⟩
  | n + 1, hn => by
    obtain ⟨i1, i2⟩ := ma_t1c hmn hc hX n (by omega)
    obtain ⟨f1, -, -⟩ := ma_fu3 (I := I) (J := J) (b := b) (a := a) n (by omega)
    have m0 := ma_mb (hc n (by omega)) (hX n (by omega)).2
    have m1 : ((a 29 n).toInt64 * (m_t1 I J a b n).2 89 n).toInt = (a 29 n).toInt * X n := by
      rw [f1 89 n (by omega) (by omega)]
      exact ma_mul (Int32.toInt_toInt64 _) (hX n (by omega)).1 (by omega)
    have b2 : (ma_sm (fun i => (a 29 i).toInt * X i) n + (a 29 n).toInt * X n).natAbs ≤ (n + 1) * 70150212000 := by omega
    refine ⟨?_, b2⟩
    show ((m_t1 I J a b n).1 + (a 29 n).toInt64 * (m_t1 I J a b n).2 89 n).toInt = ma_sm (fun i => (a 29 i).toInt * X i) n + (a 29 n).toInt * X n
    exact ma_add i1 m1 (by omega)
theorem ma_take_f {I : gF} {J : gL} {a : gF} {b : gL} {mn : Nat} (hmn : mn ≤ 5) : (∀ K j, ¬ (K = 5 ∧ (j = 11 ∨ j = 12 ∨ j = 14)) → m_tJ I J a b mn K j = J K j) ∧ (∀ K j, (K < 34 ∨ 38 < K) → m_tB I J a b mn K j = b K j) := by
  constructor
  · intro K j h
    unfold m_tJ
    split
    · split
      · rw [gU_n (by omega), gU_n (by omega)]
      · rw [gU_n (by omega), gU_n (by omega), gU_n (by omega)]
    · rfl
  · intro K j h
    have h1 := (ma_fu3 (I := I) (J := J) (b := b) (a := a) mn hmn).1 K j (by omega) (by omega)
    have h2 := (ma_ru3 (cv := m_tk0 I J a b mn) (J := J) (b := (m_t1 I J a b mn).2) mn hmn).1 K j (by omega) (by omega)
    unfold m_tB
    split
    · split
      · show m_t2 _ _ _ mn K j = _
        rw [h2, h1]
      · rw [ma_cpb, if_neg (by omega)]
        show m_t2 _ _ _ mn K j = _
        rw [h2, h1]
    · exact h1
theorem ma_take {I : gF} {J : gL} {a : gF} {b : gL} {mn : Nat} {S S' : (Nat → Int) → Prop} (hmn : mn ≤ 5) (hc : ∀ i, i < mn → (a 29 i).toInt.natAbs ≤ 99) (A : ma_Acc mn (ma_ci a 29) S I J b) (hX : ma_sb mn (ma_mX J b mn)) (hS : ∀ Y, S' Y ↔ S Y ∨ Y = ma_mX J b mn) : ma_Acc mn (ma_ci a 29) S' (m_tI I) (m_tJ I J a b mn) (m_tB I J a b mn) := by
  obtain ⟨A0, A1⟩ := A
  have hX5 : (J 5 23).toInt = ma_mX J b mn 5 := ma_mX_5.symm
  have hXi : ∀ i, i < mn → (b 89 i).toInt = ma_mX J b mn i := fun i hi => (ma_mX_i hmn hi).symm
  generalize ma_mX J b mn = X at *
  have hmem : S' X := (hS X).mpr (Or.inr rfl)
  have hSb : ∀ Y, S' Y → ma_sb mn Y := by
    intro Y hY
    rcases (hS Y).mp hY with w | w
    · exact A0 Y w
    · rw [w]; exact hX
  obtain ⟨x1, x2, x3⟩ := hX
  obtain ⟨c1, c2⟩ := ma_t1c (I := I) (J := J) hmn hc (fun i hi => ⟨hXi i hi, x3 i hi⟩) mn (Nat.le_refl _)
  have c1 : (m_t1 I J a b mn).1.toInt = ma_cost mn (ma_ci a 29) X := c1
  have cb : (ma_cost mn (ma_ci a 29) X).natAbs ≤ 350751060000 := ma_cost_b hmn hc x3
  obtain ⟨F1, F2, F3⟩ := ma_fu3 (I := I) (J := J) (b := b) (a := a) mn hmn
  have e89 : ∀ k, (m_t1 I J a b mn).2 89 k = b 89 k := fun k => F1 89 k (by omega) (by omega)
  refine ⟨hSb, Or.inr ⟨gU_s, ?_⟩⟩
  -- the far ends
  have far : ∀ j, j < 2 * mn → ma_ex S' j ((m_t1 I J a b mn).2 37 j).toInt ((m_t1 I J a b mn).2 38 j).toInt := by
    intro j hj
    have hj2 : j / 2 < mn := by omega
    rcases A1 with ⟨z0, zS⟩ | ⟨z1, zF, -⟩
    · rcases F3 j hj with ⟨-, q1, q2⟩ | ⟨q, -⟩
      · rw [q1, q2, hXi _ hj2, hX5]
        refine ma_ex_1 (fun Y hY => ?_) hmem j
        rcases (hS Y).mp hY with w | w
        · exact absurd w (zS Y)
        · exact w
      · exact absurd (Or.inl z0) q
    · have E := zF j hj
      obtain ⟨⟨Y, y1, y2, y3⟩, -⟩ := id E
      obtain ⟨s1, s2, s3⟩ := A0 Y y1
      have bq : (b 38 j).toInt.natAbs ≤ 7085880 := by omega
      have bp : (b 37 j).toInt.natAbs ≤ 708588000 := by rw [y2]; exact s3 _ hj2
      have m1 := ma_mb (x3 _ hj2) bq
      have m2 := ma_mb bp (show (X 5).natAbs ≤ 7085880 by omega)
      have cm := ma_cmp (hXi _ hj2) hX5 (rfl : (b 37 j).toInt = _) (rfl : (b 38 j).toInt = _) (by omega) (by omega)
      refine ma_ex_u hS (fun Y hY => (A0 Y hY).1) x1 E ?_
      rcases F3 j hj with ⟨q0, q1, q2⟩ | ⟨q0, q1, q2⟩
      · refine Or.inl ⟨?_, by rw [q1, hXi _ hj2], by rw [q2, hX5]⟩
        rcases q0 with q0 | ⟨q0, q3⟩ | ⟨q0, q3⟩
        · rw [z1] at q0; exact absurd q0 (by decide)
        · rcases cm with ⟨w1, w2⟩ | ⟨w1, w2⟩ | ⟨w1, w2⟩
          · exact Or.inl ⟨q0, w2⟩
          · rw [w1] at q3; exact absurd (by decide) q3
          · rw [w1] at q3; exact absurd (by decide) q3
        · rcases cm with ⟨w1, w2⟩ | ⟨w1, w2⟩ | ⟨w1, w2⟩
          · rw [w1] at q3; exact absurd (by decide) q3
          · rw [w1] at q3; exact absurd (by decide) q3
          · exact Or.inr ⟨q0, w2⟩
      · refine Or.inr ⟨fun e => ?_, fun e => ?_, by rw [q1], by rw [q2]⟩
        · rcases cm with ⟨w1, w2⟩ | ⟨w1, w2⟩ | ⟨w1, w2⟩
          · exact absurd (Or.inr (Or.inl ⟨e, by rw [w1]; decide⟩)) q0
          · omega
          · omega
        · rcases cm with ⟨w1, w2⟩ | ⟨w1, w2⟩ | ⟨w1, w2⟩
          · omega
          · omega
          · exact absurd (Or.inr (Or.inr ⟨e, by rw [w1]; decide⟩)) q0
  -- which cost
  have tk : (m_tk0 I J a b mn = -1 ∧ ∀ Y, S Y → ma_cost mn (ma_ci a 29) X * Y 5 < ma_cost mn (ma_ci a 29) Y * X 5) ∨ (I 5 24 = 1 ∧ m_tk0 I J a b mn = 0 ∧ ma_cost mn (ma_ci a 29) X * (J 5 12).toInt = (J 5 11).toInt * X 5) ∨ (I 5 24 = 1 ∧ m_tk0 I J a b mn = 1 ∧ (J 5 11).toInt * X 5 < ma_cost mn (ma_ci a 29) X * (J 5 12).toInt) := by
    rcases A1 with ⟨z0, zS⟩ | ⟨z1, -, ⟨⟨Y, y1, y2, y3⟩, zC⟩, -⟩
    · refine Or.inl ⟨?_, fun Y hY => absurd hY (zS Y)⟩
      unfold m_tk0 m_tc
      rw [if_pos z0]
    · obtain ⟨s1, s2, s3⟩ := A0 Y y1
      have yb := ma_cost_b (co := ma_ci a 29) hmn hc s3
      have m1 := ma_mb cb (show (J 5 12).toInt.natAbs ≤ 7085880 by omega)
      have m2 := ma_mb (show (J 5 11).toInt.natAbs ≤ 350751060000 by rw [y2]; exact yb) (show (X 5).natAbs ≤ 7085880 by omega)
      have e : m_tk0 I J a b mn = m_cmp (m_t1 I J a b mn).1 (J 5 23) (J 5 11) (J 5 12) := by
        unfold m_tk0 m_tc
        rw [if_neg (by rw [z1]; decide)]
      rw [e]
      rcases ma_cmp c1 hX5 (rfl : (J 5 11).toInt = _) (rfl : (J 5 12).toInt = _) (by omega) (by omega) with ⟨w1, w2⟩ | ⟨w1, w2⟩ | ⟨w1, w2⟩
      · refine Or.inl ⟨w1, fun Z hZ => ?_⟩
        exact ma_fr1 x1 (show 0 < (J 5 12).toInt by omega) (A0 Z hZ).1 w2 (zC Z hZ)
      · exact Or.inr (Or.inl ⟨z1, w1, w2⟩)
      · exact Or.inr (Or.inr ⟨z1, w1, w2⟩)
  rcases tk with ⟨t0, tS⟩ | ⟨z1, t0, tE⟩ | ⟨z1, t0, tE⟩
  · -- the first, or a cheaper one
    obtain ⟨R1, R2, R3⟩ := ma_ru3 (cv := m_tk0 I J a b mn) (J := J) (b := (m_t1 I J a b mn).2) mn hmn
    have tk1 : m_tk1 I J a b mn = -1 := by
      unfold m_tk1 m_f0
      rw [t0, if_neg (by decide), ma_fi_f (by decide)]
    have eJ : m_tJ I J a b mn = gU (gU (gU J 5 14 (J 5 23)) 5 11 (m_t1 I J a b mn).1) 5 12 (J 5 23) := by
      unfold m_tJ
      rw [t0, if_pos (by decide), tk1, if_neg (by decide)]
    have eB : m_tB I J a b mn = m_cpb (m_tk2 I J a b mn) mn := by
      unfold m_tB
      rw [t0, if_pos (by decide), tk1, if_neg (by decide)]
    have j11 : (m_tJ I J a b mn 5 11).toInt = ma_cost mn (ma_ci a 29) X := by rw [eJ, gU_n (by omega), gU_s]; exact c1
    have j12 : (m_tJ I J a b mn 5 12).toInt = X 5 := by rw [eJ, gU_s]; exact hX5
    have j14 : (m_tJ I J a b mn 5 14).toInt = X 5 := by rw [eJ, gU_n (by omega), gU_n (by omega), gU_s]; exact hX5
    have bo : ∀ K j, K ≠ 34 → m_tB I J a b mn K j = m_t2 (m_tk0 I J a b mn) J (m_t1 I J a b mn).2 mn K j := fun K j h => by rw [eB, ma_cpb, if_neg (by omega)]; rfl
    have b34 : ∀ i, i < mn → (m_tB I J a b mn 34 i).toInt = X i := fun i hi => by
      rw [eB, ma_cpb, if_pos ⟨rfl, hi⟩]
      show (m_t2 _ _ _ mn 89 i).toInt = _
      rw [R1 89 i (by omega) (by omega), e89, hXi i hi]
    have only : ∀ Y, S' Y ∧ ma_cost mn (ma_ci a 29) Y * X 5 = ma_cost mn (ma_ci a 29) X * Y 5 → Y = X := by
      rintro Y ⟨y1, y2⟩
      rcases (hS Y).mp y1 with w | w
      · have := tS Y w
        omega
      · exact w
    rw [j11, j12, j14]
    refine ⟨fun j hj => ?_, ⟨⟨X, hmem, rfl, rfl⟩, fun Y hY => ?_⟩, fun j hj => ?_, ⟨X, ⟨hmem, rfl⟩, b34, rfl⟩, fun Y hY hm => ?_⟩
    · rw [bo 37 j (by omega), bo 38 j (by omega), R1 37 j (by omega) (by omega), R1 38 j (by omega) (by omega)]
      exact far j hj
    · rcases (hS Y).mp hY with w | w
      · exact Int.le_of_lt (tS Y w)
      · rw [w]; exact Int.le_refl _
    · rw [bo 35 j (by omega), bo 36 j (by omega)]
      rcases R3 j hj with ⟨-, q1, q2⟩ | ⟨q, -⟩
      · rw [q1, q2, e89, hXi _ (by omega), hX5]
        exact ma_ex_1 only ⟨hmem, rfl⟩ j
      · exact absurd (Or.inl (by rw [t0]; decide)) q
    · rw [only Y ⟨hY, hm⟩]
      exact ma_lx_c (fun i hi => (b34 i hi).symm) ma_lx_r
  · -- one more of the same cost
    rcases A1 with ⟨z0, -⟩ | ⟨-, -, ⟨⟨Y0, y1, y2, y3⟩, zC⟩, zR, ⟨B0, ⟨b0, b1⟩, b2, b3⟩, zL⟩
    · rw [z0] at z1; exact absurd z1 (by decide)
    obtain ⟨R1, R2, R3⟩ := ma_ru3 (cv := m_tk0 I J a b mn) (J := J) (b := (m_t1 I J a b mn).2) mn hmn
    obtain ⟨s1, s2, s3⟩ := A0 Y0 y1
    obtain ⟨s4, s5, s6⟩ := A0 B0 b0
    have d12 : 0 < (J 5 12).toInt := by omega
    have d14 : 0 < (J 5 14).toInt := by omega
    have same : ∀ Y, 0 < Y 5 → (ma_cost mn (ma_ci a 29) Y * X 5 = ma_cost mn (ma_ci a 29) X * Y 5 ↔ ma_cost mn (ma_ci a 29) Y * (J 5 12).toInt = (J 5 11).toInt * Y 5) := by
      intro Y hY
      constructor
      · intro h; exact ma_fre hY x1 d12 h tE
      · intro h; exact ma_fre hY d12 x1 h tE.symm
    have j11 : (m_tJ I J a b mn 5 11).toInt = ma_cost mn (ma_ci a 29) X := by
      unfold m_tJ
      rw [t0, if_pos (by decide)]
      split
      · rw [gU_n (by omega), gU_s]; exact c1
      · rw [gU_n (by omega), gU_s]; exact c1
    have j12 : (m_tJ I J a b mn 5 12).toInt = X 5 := by
      unfold m_tJ
      rw [t0, if_pos (by decide)]
      split
      · rw [gU_s]; exact hX5
      · rw [gU_s]; exact hX5
    have bo : ∀ K j, K ≠ 34 → m_tB I J a b mn K j = m_t2 (m_tk0 I J a b mn) J (m_t1 I J a b mn).2 mn K j := fun K j h => by
      unfold m_tB
      rw [if_pos (by rw [t0]; decide)]
      split
      · rfl
      · rw [ma_cpb, if_neg (by omega)]; rfl
    have e34 : ∀ i, m_tk2 I J a b mn 34 i = b 34 i := fun i => by
      show m_t2 _ _ _ mn 34 i = _
      rw [R1 34 i (by omega) (by omega), F1 34 i (by omega) (by omega)]
    have e89' : ∀ i, m_tk2 I J a b mn 89 i = b 89 i := fun i => by
      show m_t2 _ _ _ mn 89 i = _
      rw [R1 89 i (by omega) (by omega), e89]
    have Sm : ∀ Y, (S' Y ∧ ma_cost mn (ma_ci a 29) Y * X 5 = ma_cost mn (ma_ci a 29) X * Y 5) ↔ (S Y ∧ ma_cost mn (ma_ci a 29) Y * (J 5 12).toInt = (J 5 11).toInt * Y 5) ∨ Y = X := by
      intro Y
      constructor
      · rintro ⟨h1, h2⟩
        rcases (hS Y).mp h1 with w | w
        · exact Or.inl ⟨w, (same Y (A0 Y w).1).mp h2⟩
        · exact Or.inr w
      · rintro (⟨h1, h2⟩ | w)
        · exact ⟨(hS Y).mpr (Or.inl h1), (same Y (A0 Y h1).1).mpr h2⟩
        · rw [w]; exact ⟨hmem, rfl⟩
    have fi := ma_fi (J := J) (b := m_tk2 I J a b mn) (X := X) (P := fun i => (b 34 i).toInt) hX5 (rfl : (J 5 14).toInt = _) mn 0 (fun j _ hj => by
      have m1 := ma_mb (x3 j (by omega)) (show (J 5 14).toInt.natAbs ≤ 7085880 by omega)
      have m2 := ma_mb (show (b 34 j).toInt.natAbs ≤ 708588000 by rw [b2 j (by omega)]; exact s6 j (by omega)) (show (X 5).natAbs ≤ 7085880 by omega)
      exact ⟨by rw [e89', hXi j (by omega)], by rw [e34], by omega, by show ((b 34 j).toInt * X 5).natAbs ≤ _; omega⟩)
    have tk1 : m_tk1 I J a b mn = m_fi J (m_tk2 I J a b mn) mn 0 0 := by
      unfold m_tk1 m_f0
      rw [t0, if_pos (by decide)]
    rw [← tk1] at fi
    rw [j11, j12]
    have reach : ∀ j, j < 2 * mn → ma_ex (fun Y => S' Y ∧ ma_cost mn (ma_ci a 29) Y * X 5 = ma_cost mn (ma_ci a 29) X * Y 5) j (m_tB I J a b mn 35 j).toInt (m_tB I J a b mn 36 j).toInt := by
      intro j hj
      have hj2 : j / 2 < mn := by omega
      rw [bo 35 j (by omega), bo 36 j (by omega)]
      have E := zR j hj
      obtain ⟨⟨Y, ⟨w1, -⟩, w2, w3⟩, -⟩ := id E
      obtain ⟨r1, r2, r3⟩ := A0 Y w1
      have bq : (b 36 j).toInt.natAbs ≤ 7085880 := by omega
      have bp : (b 35 j).toInt.natAbs ≤ 708588000 := by rw [w2]; exact r3 _ hj2
      have m1 := ma_mb (x3 _ hj2) bq
      have m2 := ma_mb bp (show (X 5).natAbs ≤ 7085880 by omega)
      have cm := ma_cmp (hXi _ hj2) hX5 (rfl : (b 35 j).toInt = _) (rfl : (b 36 j).toInt = _) (by omega) (by omega)
      have o35 : (m_t1 I J a b mn).2 35 j = b 35 j := F1 35 j (by omega) (by omega)
      have o36 : (m_t1 I J a b mn).2 36 j = b 36 j := F1 36 j (by omega) (by omega)
      refine ma_ex_u Sm (fun Y hY => (A0 Y hY.1).1) x1 E ?_
      rcases R3 j hj with ⟨q0, q1, q2⟩ | ⟨q0, q1, q2⟩
      · refine Or.inl ⟨?_, by rw [q1, e89, hXi _ hj2], by rw [q2, hX5]⟩
        rcases q0 with q0 | ⟨q0, q3⟩ | ⟨q0, q3⟩
        · rw [t0] at q0; exact absurd (by decide) q0
        · rw [e89, o35, o36] at q3
          rcases cm with ⟨w1, w2⟩ | ⟨w1, w2⟩ | ⟨w1, w2⟩
          · exact Or.inl ⟨q0, w2⟩
          · rw [w1] at q3; exact absurd (by decide) q3
          · rw [w1] at q3; exact absurd (by decide) q3
        · rw [e89, o35, o36] at q3
          rcases cm with ⟨w1, w2⟩ | ⟨w1, w2⟩ | ⟨w1, w2⟩
          · rw [w1] at q3; exact absurd (by decide) q3
          · rw [w1] at q3; exact absurd (by decide) q3
          · exact Or.inr ⟨q0, w2⟩
      · refine Or.inr ⟨fun e => ?_, fun e => ?_, by rw [q1, o35], by rw [q2, o36]⟩
        · rcases cm with ⟨w1, w2⟩ | ⟨w1, w2⟩ | ⟨w1, w2⟩
          · exact absurd (Or.inr (Or.inl ⟨e, by rw [e89, o35, o36, w1]; decide⟩)) q0
          · omega
          · omega
        · rcases cm with ⟨w1, w2⟩ | ⟨w1, w2⟩ | ⟨w1, w2⟩
          · omega
          · omega
          · exact absurd (Or.inr (Or.inr ⟨e, by rw [e89, o35, o36, w1]; decide⟩)) q0
    refine ⟨fun j hj => ?_, ⟨⟨X, hmem, rfl, rfl⟩, fun Y hY => ?_⟩, reach, ?_⟩
    · rw [bo 37 j (by omega), bo 38 j (by omega), R1 37 j (by omega) (by omega), R1 38 j (by omega) (by omega)]
      exact far j hj
    · rcases (hS Y).mp hY with w | w
      · exact ma_fr x1 d12 (A0 Y w).1 (Int.le_of_eq tE) (zC Y w)
      · rw [w]; exact Int.le_refl _
    · rcases fi with ⟨f1, jj, g1, g2, g3, g4⟩ | ⟨f1, g⟩
      · -- earlier than the best so far
        have eJ : m_tJ I J a b mn = gU (gU (gU J 5 14 (J 5 23)) 5 11 (m_t1 I J a b mn).1) 5 12 (J 5 23) := by
          unfold m_tJ
          rw [t0, if_pos (by decide), if_neg f1]
        have eB : m_tB I J a b mn = m_cpb (m_tk2 I J a b mn) mn := by
          unfold m_tB
          rw [t0, if_pos (by decide), if_neg f1]
        have j14 : (m_tJ I J a b mn 5 14).toInt = X 5 := by rw [eJ, gU_n (by omega), gU_n (by omega), gU_s]; exact hX5
        have b34 : ∀ i, i < mn → (m_tB I J a b mn 34 i).toInt = X i := fun i hi => by
          rw [eB, ma_cpb, if_pos ⟨rfl, hi⟩, e89', hXi i hi]
        rw [j14]
        refine ⟨⟨X, ⟨hmem, rfl⟩, b34, rfl⟩, fun Y hY hm => ?_⟩
        refine ma_lx_c (fun i hi => (b34 i hi).symm) ?_
        rcases (Sm Y).mp ⟨hY, hm⟩ with ⟨w1, w2⟩ | w
        · have l1 : ma_lx mn X (X 5) (fun i => (b 34 i).toInt) (J 5 14).toInt := Or.inr ⟨jj, by omega, fun k hk => g3 k (by omega) hk, g4⟩
          exact ma_lx_t x1 d14 (A0 Y w1).1 l1 (zL Y w1 w2)
        · rw [w]; exact ma_lx_r
      · have eJ : m_tJ I J a b mn = gU (gU J 5 11 (m_t1 I J a b mn).1) 5 12 (J 5 23) := by
          unfold m_tJ
          rw [t0, if_pos (by decide), if_pos f1]
        have eB : m_tB I J a b mn = m_tk2 I J a b mn := by
          unfold m_tB
          rw [t0, if_pos (by decide), if_pos f1]
        have j14 : m_tJ I J a b mn 5 14 = J 5 14 := by rw [eJ, gU_n (by omega), gU_n (by omega)]
        have b34 : ∀ i, m_tB I J a b mn 34 i = b 34 i := fun i => by rw [eB, e34]
        have el : (fun i => (m_tB I J a b mn 34 i).toInt) = (fun i => (b 34 i).toInt) := by
          funext i
          rw [b34]
        rw [j14, el]
        have sb := (Sm B0).mpr (Or.inl ⟨b0, b1⟩)
        refine ⟨⟨B0, sb, fun i hi => by rw [b34]; exact b2 i hi, b3⟩, fun Y hY hm => ?_⟩
        rcases (Sm Y).mp ⟨hY, hm⟩ with ⟨w1, w2⟩ | w
        · exact zL Y w1 w2
        · rw [w]
          rcases g with g | ⟨jj, g1, g2, g3, g4⟩
          · exact Or.inl (fun i hi => (g i (by omega) (by omega)).symm)
          · exact Or.inr ⟨jj, by omega, fun k hk => (g3 k (by omega) hk).symm, g4⟩
  · -- a dearer one
    rcases A1 with ⟨z0, -⟩ | ⟨-, -, ⟨⟨Y0, y1, y2, y3⟩, zC⟩, zR, ⟨B0, ⟨b0, b1⟩, b2, b3⟩, zL⟩
    · rw [z0] at z1; exact absurd z1 (by decide)
    have eJ : m_tJ I J a b mn = J := by
      unfold m_tJ
      rw [t0, if_neg (by decide)]
    have eB : m_tB I J a b mn = (m_t1 I J a b mn).2 := by
      unfold m_tB
      rw [t0, if_neg (by decide)]
    have Sm : ∀ Y, (S' Y ∧ ma_cost mn (ma_ci a 29) Y * (J 5 12).toInt = (J 5 11).toInt * Y 5) ↔ (S Y ∧ ma_cost mn (ma_ci a 29) Y * (J 5 12).toInt = (J 5 11).toInt * Y 5) := by
      intro Y
      constructor
      · rintro ⟨h1, h2⟩
        rcases (hS Y).mp h1 with w | w
        · exact ⟨w, h2⟩
        · rw [w] at h2; omega
      · rintro ⟨h1, h2⟩
        exact ⟨(hS Y).mpr (Or.inl h1), h2⟩
    rw [eJ, eB]
    refine ⟨far, ⟨⟨Y0, (hS Y0).mpr (Or.inl y1), y2, y3⟩, fun Y hY => ?_⟩, fun j hj => ?_, ?_⟩
    · rcases (hS Y).mp hY with w | w
      · exact zC Y w
      · rw [w]; exact Int.le_of_lt tE
    · rw [F1 35 j (by omega) (by omega), F1 36 j (by omega) (by omega)]
      obtain ⟨⟨Y, w1, w2, w3⟩, w4⟩ := zR j hj
      exact ⟨⟨Y, (Sm Y).mpr w1, w2, w3⟩, fun Z hZ => w4 Z ((Sm Z).mp hZ)⟩
    · have el : (fun i => ((m_t1 I J a b mn).2 34 i).toInt) = (fun i => (b 34 i).toInt) := by
        funext i
        rw [F1 34 i (by omega) (by omega)]
      rw [el]
      refine ⟨⟨B0, (Sm B0).mpr ⟨b0, b1⟩, fun i hi => by rw [F1 34 i (by omega) (by omega)]; exact b2 i hi, b3⟩, fun Y hY hm => ?_⟩
      obtain ⟨w1, w2⟩ := (Sm Y).mp ⟨hY, hm⟩
      exact zL Y w1 w2
