/-! THE MATHEMATICS, 22: whole numbers: the reference goes through all of them -/
def ma_WF (nn nr : Nat) (lo hi se ri : Nat → Int) (fa : Nat → Nat → Int) (R : Nat → Prop) (P : Nat → Int) : Prop := (∀ i, i < nn → lo i ≤ P i ∧ P i ≤ hi i) ∧ ∀ r, r < nr → R r → (se r ≠ 2 → ma_sm (fun i => fa r i * P i) nn ≤ ri r) ∧ (se r ≠ 0 → ri r ≤ ma_sm (fun i => fa r i * P i) nn)
def ma_lt (n : Nat) (P Q : Nat → Int) : Prop := ∃ i, i < n ∧ (∀ j, j < i → P j = Q j) ∧ P i < Q i
/-- cheaper, or as cheap and no later -/
def ma_pq (n : Nat) (co P Q : Nat → Int) : Prop := ma_cost n co P < ma_cost n co Q ∨ (ma_cost n co P = ma_cost n co Q ∧ ((∀ i, i < n → P i = Q i) ∨ ma_lt n P Q))
theorem ma_lt_t {n : Nat} {P Q R : Nat → Int} (h1 : ma_lt n P Q) (h2 : ma_lt n Q R) : ma_lt n P R := by
  obtain ⟨i, i1, i2, i3⟩ := h1
  obtain ⟨j, j1, j2, j3⟩ := h2
  rcases Nat.lt_trichotomy i j with w | w | w
  · exact ⟨i, i1, fun k hk => (i2 k hk).trans (j2 k (by omega)), by rw [← j2 i w]; exact i3⟩
  · subst w
    exact ⟨i, i1, fun k hk => (i2 k hk).trans (j2 k hk), by omega⟩
  · exact ⟨j, j1, fun k hk => (i2 k (by omega)).trans (j2 k hk), by rw [i2 j w]; exact j3⟩
theorem ma_lt_e {n : Nat} {P Q R : Nat → Int} (h1 : ∀ i, i < n → P i = Q i) (h2 : ma_lt n Q R) : ma_lt n P R := by
  obtain ⟨j, j1, j2, j3⟩ := h2
  exact ⟨j, j1, fun k hk => (h1 k (by omega)).trans (j2 k hk), by rw [h1 j j1]; exact j3⟩
theorem ma_lt_e2 {n : Nat} {P Q R : Nat → Int} (h1 : ma_lt n P Q) (h2 : ∀ i, i < n → Q i = R i) : ma_lt n P R := by
  obtain ⟨j, j1, j2, j3⟩ := h1
  exact ⟨j, j1, fun k hk => (j2 k hk).trans (h2 k (by omega)), by rw [← h2 j j1]; exact j3⟩
theorem ma_lt_irr {n : Nat} {P : Nat → Int} (h : ma_lt n P P) : False := by
  obtain ⟨i, -, -, h⟩ := h
  omega
theorem ma_lt_tri {P Q : Nat → Int} : ∀ n, (∀ i, i < n → P i = Q i) ∨ ma_lt n P Q ∨ ma_lt n Q P
  | 0 => Or.inl (fun i h => by omega)
  | n + 1 => by
    rcases ma_lt_tri (P := P) (Q := Q) n with h | ⟨i, i1, i2, i3⟩ | ⟨i, i1, i2, i3⟩
    · rcases Int.lt_trichotomy (P n) (Q n) with w | w | w
      · exact Or.inr (Or.inl ⟨n, by omega, h, w⟩)
      · refine Or.inl (fun i hi => ?_)
        by_cases e : i = n
        · rw [e]; exact w
        · exact h i (by omega)
      · exact Or.inr (Or.inr ⟨n, by omega, fun j hj => (h j hj).symm, w⟩)
    · exact Or.inr (Or.inl ⟨i, by omega, i2, i3⟩)
    · exact Or.inr (Or.inr ⟨i, by omega, i2, i3⟩)
theorem ma_pq_r {n : Nat} {co P : Nat → Int} : ma_pq n co P P := Or.inr ⟨rfl, Or.inl (fun _ _ => rfl)⟩
theorem ma_pq_t {n : Nat} {co P Q R : Nat → Int} (h1 : ma_pq n co P Q) (h2 : ma_pq n co Q R) : ma_pq n co P R := by
  rcases h1 with h1 | ⟨h1, g1⟩
  · rcases h2 with h2 | ⟨h2, -⟩
    · exact Or.inl (by omega)
    · exact Or.inl (by omega)
  · rcases h2 with h2 | ⟨h2, g2⟩
    · exact Or.inl (by omega)
    · refine Or.inr ⟨by omega, ?_⟩
      rcases g1 with g1 | g1
      · rcases g2 with g2 | g2
        · exact Or.inl (fun i hi => (g1 i hi).trans (g2 i hi))
        · exact Or.inr (ma_lt_e g1 g2)
      · rcases g2 with g2 | g2
        · exact Or.inr (ma_lt_e2 g1 g2)
        · exact Or.inr (ma_lt_t g1 g2)
theorem ma_pq_a {n : Nat} {co P Q : Nat → Int} (h1 : ma_pq n co P Q) (h2 : ma_pq n co Q P) : ma_cost n co P = ma_cost n co Q ∧ ∀ i, i < n → P i = Q i := by
  rcases h1 with h1 | ⟨h1, g1⟩
  · rcases h2 with h2 | ⟨h2, -⟩ <;> omega
  · refine ⟨h1, ?_⟩
    rcases g1 with g1 | g1
    · exact g1
    · rcases h2 with h2 | ⟨-, g2⟩
      · omega
      · rcases g2 with g2 | g2
        · exact fun i hi => (g2 i hi).symm
        · exact (ma_lt_irr (ma_lt_t g1 g2)).elim
abbrev ma_WM (mn mr : Nat) (a : gF) : (Nat → Int) → Prop := ma_WF mn mr (ma_ci a 27) (ma_ci a 28) (ma_ci a 30) (ma_ci a 31) (ma_fm2 a) (fun r => a 33 r ≠ 0)
theorem ma_mws {a : gF} {mn mr r : Nat} (hd : ma_datM mn mr a) (hr : r < mr) (hb : ∀ i, i < mn → (a 90 i).toInt.natAbs ≤ 100) : ∀ n, n ≤ mn → (m_ws a r n).toInt = -(a 31 r).toInt + ma_sm (fun i => (a 32 (5 * r + i)).toInt * (a 90 i).toInt) n ∧ (-(a 31 r).toInt + ma_sm (fun i => (a 32 (5 * r + i)).toInt * (a 90 i).toInt) n).natAbs ≤ 1000 + n * 900
  | 0, _ => by
    have b1 := (hd.2.2.2 r hr).1
    have n1 : (-a 31 r).toInt = -(a 31 r).toInt := ma_neg3 rfl (by omega)
    refine ⟨?_, ?_⟩
    · show (-a 31 r).toInt = _ + 0
      rw [n1]
      omega
    · show (_ + (0 : Int)).natAbs ≤ _
      omega
  | n + 1, hn => by
    obtain ⟨i1, i2⟩ := ma_mws hd hr hb n (by omega)
    have f1 := (hd.2.2.2 r hr).2.2 n (by omega)
    have m0 := ma_mb f1 (hb n (by omega))
    have m1 : (a 32 (5 * r + n) * a 90 n).toInt = (a 32 (5 * r + n)).toInt * (a 90 n).toInt := ma_mul3 rfl rfl (by omega)
    have d1 := hd.1
    have b2 : (-(a 31 r).toInt + (ma_sm (fun i => (a 32 (5 * r + i)).toInt * (a 90 i).toInt) n + (a 32 (5 * r + n)).toInt * (a 90 n).toInt)).natAbs ≤ 1000 + (n + 1) * 900 := by omega
    refine ⟨?_, b2⟩
    show (m_ws a r n + a 32 (5 * r + n) * a 90 n).toInt = -(a 31 r).toInt + (ma_sm (fun i => (a 32 (5 * r + i)).toInt * (a 90 i).toInt) n + (a 32 (5 * r + n)).toInt * (a 90 n).toInt)
    rw [ma_add3 i1 m1 (by omega)]
    omega
theorem ma_l03 {x : Int32} : 0 ≤ x ↔ 0 ≤ x.toInt := by rw [Int32.le_iff_toInt_le]; rfl
theorem ma_p03 {x : Int32} : 0 < x ↔ 0 < x.toInt := by rw [Int32.lt_iff_toInt_lt]; rfl
theorem ma_h0 {s T nx : Int32} (hs : s = 0 ∨ s = 1 ∨ s = 2) (hx : nx = 0 ∨ nx = 1) : (m_h0 s T nx = 0 ∨ m_h0 s T nx = 1) ∧ (m_h0 s T nx = 1 ↔ ((s.toInt ≠ 2 → T.toInt ≤ 0) ∧ (s.toInt ≠ 0 → 0 ≤ T.toInt)) ∧ nx = 1) := by
  have z0 : (0 : Int32).toInt = 0 := rfl
  have z1 : (1 : Int32).toInt = 1 := rfl
  have z2 : (2 : Int32).toInt = 2 := rfl
  unfold m_h0 m_h1 m_h2
  rcases hs with q | q | q
  · rw [q, if_pos rfl, z0]
    by_cases h : 0 < T
    · rw [if_pos h]
      have := ma_p03.mp h
      exact ⟨Or.inl rfl, ⟨fun w => absurd w (by decide), fun w => by have := w.1.1 (by decide); omega⟩⟩
    · rw [if_neg h, if_neg (by decide), if_neg (by decide)]
      have := Int.not_lt.mp (fun w => h (ma_p03.mpr w))
      exact ⟨hx, ⟨fun w => ⟨⟨fun _ => this, fun c => absurd rfl c⟩, w⟩, fun w => w.2⟩⟩
  · rw [q, if_neg (by decide), if_pos rfl, z1]
    by_cases h : T = 0
    · rw [if_pos h, if_neg (by decide)]
      have := ma_e03.mp h
      exact ⟨hx, ⟨fun w => ⟨⟨fun _ => by omega, fun _ => by omega⟩, w⟩, fun w => w.2⟩⟩
    · rw [if_neg h]
      exact ⟨Or.inl rfl, ⟨fun w => absurd w (by decide), fun w => absurd (ma_e03.mpr (Int.le_antisymm (w.1.1 (by decide)) (w.1.2 (by decide)))) h⟩⟩
  · rw [q, if_neg (by decide), if_neg (by decide), if_pos rfl, z2]
    by_cases h : 0 ≤ T
    · rw [if_pos h]
      have := ma_l03.mp h
      exact ⟨hx, ⟨fun w => ⟨⟨fun c => absurd rfl c, fun _ => this⟩, w⟩, fun w => w.2⟩⟩
    · rw [if_neg h]
      have := fun w => h (ma_l03.mpr w)
      exact ⟨Or.inl rfl, ⟨fun w => absurd w (by decide), fun w => absurd (w.1.2 (by decide)) this⟩⟩
theorem ma_mkw {a : gF} {mn mr : Nat} (hd : ma_datM mn mr a) (hb : ∀ i, i < mn → (a 90 i).toInt.natAbs ≤ 100) : ∀ n r, r + n ≤ mr → (m_kw a mn n r = 0 ∨ m_kw a mn n r = 1) ∧ (m_kw a mn n r = 1 ↔ ∀ q, r ≤ q → q < r + n → a 33 q ≠ 0 → ((a 30 q).toInt ≠ 2 → ma_sm (fun i => (a 32 (5 * q + i)).toInt * (a 90 i).toInt) mn ≤ (a 31 q).toInt) ∧ ((a 30 q).toInt ≠ 0 → (a 31 q).toInt ≤ ma_sm (fun i => (a 32 (5 * q + i)).toInt * (a 90 i).toInt) mn))
  | 0, r, _ => ⟨Or.inr rfl, ⟨fun _ q h1 h2 => by omega, fun _ => rfl⟩⟩
  | n + 1, r, hn => by
    obtain ⟨i0, i1⟩ := ma_mkw hd hb n (r + 1) (by omega)
    obtain ⟨t1, -⟩ := ma_mws hd (show r < mr by omega) hb mn (Nat.le_refl _)
    have e : m_kw a mn (n + 1) r = if a 33 r = 0 then m_kw a mn n (r + 1) else m_h0 (a 30 r) (m_ws a r mn) (m_kw a mn n (r + 1)) := rfl
    rw [e]
    by_cases hb2 : a 33 r = 0
    · rw [if_pos hb2]
      refine ⟨i0, ⟨fun q w h3 h4 h6 => ?_, fun q => i1.mpr (fun w h3 h4 => q w (by omega) (by omega))⟩⟩
      by_cases h5 : w = r
      · rw [h5] at h6; exact absurd hb2 h6
      · exact i1.mp q w (by omega) (by omega) h6
    · rw [if_neg hb2]
      obtain ⟨g1, g2⟩ := ma_h0 (T := m_ws a r mn) (hd.2.2.2 r (by omega)).2.1 i0
      rw [t1] at g2
      have hrow : ((a 30 r).toInt ≠ 2 → -(a 31 r).toInt + ma_sm (fun i => (a 32 (5 * r + i)).toInt * (a 90 i).toInt) mn ≤ 0) ∧ ((a 30 r).toInt ≠ 0 → 0 ≤ -(a 31 r).toInt + ma_sm (fun i => (a 32 (5 * r + i)).toInt * (a 90 i).toInt) mn) ↔ ((a 30 r).toInt ≠ 2 → ma_sm (fun i => (a 32 (5 * r + i)).toInt * (a 90 i).toInt) mn ≤ (a 31 r).toInt) ∧ ((a 30 r).toInt ≠ 0 → (a 31 r).toInt ≤ ma_sm (fun i => (a 32 (5 * r + i)).toInt * (a 90 i).toInt) mn) := by
        constructor
        · intro h
          exact ⟨fun q => by have := h.1 q; omega, fun q => by have := h.2 q; omega⟩
        · intro h
          exact ⟨fun q => by have := h.1 q; omega, fun q => by have := h.2 q; omega⟩
      refine ⟨g1, ⟨fun q w h3 h4 h6 => ?_, fun q => g2.mpr ⟨hrow.mpr (q r (by omega) (by omega) hb2), i1.mpr (fun w h3 h4 => q w (by omega) (by omega))⟩⟩⟩
      by_cases h5 : w = r
      · rw [h5]
        exact hrow.mp (g2.mp q).1
      · exact i1.mp (g2.mp q).2 w (by omega) (by omega) h6
theorem ma_mwc {a : gF} {mn : Nat} (hmn : mn ≤ 5) (hc : ∀ i, i < mn → (a 29 i).toInt.natAbs ≤ 99) (hb : ∀ i, i < mn → (a 90 i).toInt.natAbs ≤ 100) : ∀ n, n ≤ mn → (m_wc a n).toInt = ma_sm (fun i => (a 29 i).toInt * (a 90 i).toInt) n ∧ (ma_sm (fun i => (a 29 i).toInt * (a 90 i).toInt) n).natAbs ≤ n * 9900
  | 0, _ => ⟨rfl, by simp [ma_sm]⟩
  | n + 1, hn => by
    obtain ⟨i1, i2⟩ := ma_mwc hmn hc hb n (by omega)
    have m0 := ma_mb (hc n (by omega)) (hb n (by omega))
    have m1 : (a 29 n * a 90 n).toInt = (a 29 n).toInt * (a 90 n).toInt := ma_mul3 rfl rfl (by omega)
    have b2 : (ma_sm (fun i => (a 29 i).toInt * (a 90 i).toInt) n + (a 29 n).toInt * (a 90 n).toInt).natAbs ≤ (n + 1) * 9900 := by omega
    refine ⟨?_, b2⟩
    show (m_wc a n + a 29 n * a 90 n).toInt = ma_sm (fun i => (a 29 i).toInt * (a 90 i).toInt) n + (a 29 n).toInt * (a 90 n).toInt
    exact ma_add3 i1 m1 (by omega)
theorem ma_mwb {a : gF} : ∀ n K j, m_wb a n K j = if K = 91 ∧ j < n then a 90 j else a K j
  | 0, K, j => by
    rw [if_neg (by omega)]
    rfl
  | n + 1, K, j => by
    show gU (m_wb a n) 91 n (m_wb a n 90 n) K j = _
    have e : m_wb a n 90 n = a 90 n := by rw [ma_mwb, if_neg (by omega)]
    rw [e]
    by_cases h : K = 91 ∧ j = n
    · obtain ⟨rfl, rfl⟩ := h
      rw [gU_s, if_pos (by omega)]
    · rw [gU_n (by omega), ma_mwb]
      by_cases h2 : K = 91 ∧ j < n
      · rw [if_pos h2, if_pos (by omega)]
      · rw [if_neg h2, if_neg (by omega)]
theorem ma_mw0 {a : gF} : ∀ n K j, m_w0 a n K j = if K = 90 ∧ j < n then a 27 j else a K j
  | 0, K, j => by
    rw [if_neg (by omega)]
    rfl
  | n + 1, K, j => by
    show gU (m_w0 a n) 90 n (m_w0 a n 27 n) K j = _
    have e : m_w0 a n 27 n = a 27 n := by rw [ma_mw0, if_neg (by omega)]
    rw [e]
    by_cases h : K = 90 ∧ j = n
    · obtain ⟨rfl, rfl⟩ := h
      rw [gU_s, if_pos (by omega)]
    · rw [gU_n (by omega), ma_mw0]
      by_cases h2 : K = 90 ∧ j < n
      · rw [if_pos h2, if_pos (by omega)]
      · rw [if_neg h2, if_neg (by omega)]
theorem ma_mod1 : ∀ n (a : gF), (m_od n a).1 ≤ n ∧ (∀ i, (m_od n a).1 ≤ i → i < n → a 90 i = a 28 i ∧ (m_od n a).2 90 i = a 27 i) ∧ (∀ i, i < (m_od n a).1 ∨ n ≤ i → (m_od n a).2 90 i = a 90 i) ∧ (∀ K j, K ≠ 90 → (m_od n a).2 K j = a K j) ∧ (0 < (m_od n a).1 → a 90 ((m_od n a).1 - 1) ≠ a 28 ((m_od n a).1 - 1))
  | 0, a => ⟨Nat.le_refl _, fun i _ h => by omega, fun _ _ => rfl, fun _ _ _ => rfl, fun h => absurd h (Nat.lt_irrefl _)⟩
  | n + 1, a => by
    have e : m_od (n + 1) a = if a 90 n = a 28 n then m_od n (gU a 90 n (a 27 n)) else (n + 1, a) := rfl
    by_cases h : a 90 n = a 28 n
    · rw [e, if_pos h]
      obtain ⟨i1, i2, i3, i4, i5⟩ := ma_mod1 n (gU a 90 n (a 27 n))
      refine ⟨by omega, fun i h1 h2 => ?_, fun i hi => ?_, fun K j hK => ?_, fun h1 => ?_⟩
      · by_cases q : i = n
        · rw [q, i3 n (Or.inr (Nat.le_refl _)), gU_s]
          exact ⟨h, rfl⟩
        · obtain ⟨w1, w2⟩ := i2 i h1 (by omega)
          rw [gU_n (by omega), gU_n (by omega)] at w1
          rw [gU_n (by omega)] at w2
          exact ⟨w1, w2⟩
      · rw [i3 i (by omega), gU_n (by omega)]
      · rw [i4 K j hK, gU_n (by omega)]
      · have := i5 h1
        rw [gU_n (by omega), gU_n (by omega)] at this
        exact this
    · rw [e, if_neg h]
      exact ⟨Nat.le_refl _, fun i h1 h2 => by omega, fun _ _ => rfl, fun _ _ _ => rfl, fun _ => h⟩
/-- the next row of whole numbers -/
theorem ma_mnw {mn mr : Nat} {a : gF} (hd : ma_datM mn mr a) (hb : ∀ i, i < mn → (a 27 i).toInt ≤ (a 90 i).toInt ∧ (a 90 i).toInt ≤ (a 28 i).toInt) :
    (∀ K j, K ≠ 90 → (m_nw mn a).2 K j = a K j) ∧ (((m_nw mn a).1 = 0 ∧ ∀ Q : Nat → Int, (∀ i, i < mn → Q i ≤ (a 28 i).toInt) → (∀ i, i < mn → Q i = (a 90 i).toInt) ∨ ma_lt mn Q (fun i => (a 90 i).toInt)) ∨ (0 < (m_nw mn a).1 ∧ (∀ i, i < mn → (a 27 i).toInt ≤ ((m_nw mn a).2 90 i).toInt ∧ ((m_nw mn a).2 90 i).toInt ≤ (a 28 i).toInt) ∧ m_mv (m_nw mn a).2 mn < m_mv a mn ∧ (ma_lt mn (fun i => (a 90 i).toInt) (fun i => ((m_nw mn a).2 90 i).toInt)) ∧ ∀ Q : Nat → Int, (∀ i, i < mn → (a 27 i).toInt ≤ Q i ∧ Q i ≤ (a 28 i).toInt) → ma_lt mn Q (fun i => ((m_nw mn a).2 90 i).toInt) → (∀ i, i < mn → Q i = (a 90 i).toInt) ∨ ma_lt mn Q (fun i => (a 90 i).toInt))) := by
  obtain ⟨o1, o2, o3, o4, o5⟩ := ma_mod1 mn a
  unfold m_nw
  by_cases h : (m_od mn a).1 = 0
  · rw [if_pos h]
    refine ⟨o4, Or.inl ⟨h, fun Q hQ => ?_⟩⟩
    rcases ma_lt_tri (P := Q) (Q := fun i => (a 90 i).toInt) mn with w | w | ⟨i, w1, w2, w3⟩
    · exact Or.inl w
    · exact Or.inr w
    · exfalso
      have := hQ i w1
      have e := (o2 i (by omega) w1).1
      have w3 : (a 90 i).toInt < Q i := w3
      rw [e] at w3
      omega
  · rw [if_neg h]
    have hk := o5 (by omega)
    generalize hod : m_od mn a = w at *
    obtain ⟨k, a'⟩ := w
    obtain ⟨k, rfl⟩ : ∃ m, k = m + 1 := ⟨k - 1, by have h : ¬ k = 0 := h; omega⟩
    have o1 : k + 1 ≤ mn := o1
    have o2 : ∀ i, k + 1 ≤ i → i < mn → a 90 i = a 28 i ∧ a' 90 i = a 27 i := o2
    have o3 : ∀ i, i < k + 1 ∨ mn ≤ i → a' 90 i = a 90 i := o3
    have o4 : ∀ K j, K ≠ 90 → a' K j = a K j := o4
    have hk : a 90 k ≠ a 28 k := hk
    show (∀ K j, K ≠ 90 → gU a' 90 k (a' 90 k + 1) K j = a K j) ∧ _
    have bk := hb k (by omega)
    have dk := hd.2.2.1 k (by omega)
    have hlt : (a 90 k).toInt < (a 28 k).toInt := by
      rcases Int.lt_or_eq_of_le bk.2 with q | q
      · exact q
      · exact absurd (Int32.toInt_inj.mp q) hk
    have vk : (gU a' 90 k (a' 90 k + 1) 90 k).toInt = (a 90 k).toInt + 1 := by
      rw [gU_s, o3 k (Or.inl (by omega))]
      exact ma_add3 rfl (rfl : (1 : Int32).toInt = 1) (by omega)
    have vl : ∀ i, i < k → gU a' 90 k (a' 90 k + 1) 90 i = a 90 i := fun i hi => by rw [gU_n (by omega), o3 i (Or.inl (by omega))]
    have vg : ∀ i, k < i → i < mn → gU a' 90 k (a' 90 k + 1) 90 i = a 27 i := fun i hi h2 => by rw [gU_n (by omega), (o2 i (by omega) h2).2]
    have oc : ∀ K j, K ≠ 90 → gU a' 90 k (a' 90 k + 1) K j = a K j := fun K j hK => by rw [gU_n (by omega), o4 K j hK]
    refine ⟨oc, Or.inr ⟨by show 0 < k + 1; omega, fun i hi => ?_, ?_, ⟨k, by omega, fun j hj => by show (a 90 j).toInt = (gU a' 90 k (a' 90 k + 1) 90 j).toInt; rw [vl j hj], by show (a 90 k).toInt < (gU a' 90 k (a' 90 k + 1) 90 k).toInt; omega⟩, fun Q hQ hL => ?_⟩⟩
    · show (a 27 i).toInt ≤ (gU a' 90 k (a' 90 k + 1) 90 i).toInt ∧ (gU a' 90 k (a' 90 k + 1) 90 i).toInt ≤ (a 28 i).toInt
      rcases Nat.lt_trichotomy i k with q | q | q
      · rw [vl i q]; exact hb i hi
      · rw [q, vk]; omega
      · rw [vg i q hi]
        have := hd.2.2.1 i hi
        omega
    · show m_mv (gU a' 90 k (a' 90 k + 1)) mn < m_mv a mn
      have pre : ∀ n, n ≤ k → m_mv (gU a' 90 k (a' 90 k + 1)) n = m_mv a n := by
        intro n
        induction n with
        | zero => intro _; rfl
        | succ n ih =>
          intro hn
          show m_mv (gU a' 90 k (a' 90 k + 1)) n * 201 + m_rem (gU a' 90 k (a' 90 k + 1)) n = m_mv a n * 201 + m_rem a n
          rw [ih (by omega)]
          unfold m_rem
          rw [vl n (by omega), oc 28 n (by omega)]
      have post : ∀ n, k + 1 + n ≤ mn → m_mv (gU a' 90 k (a' 90 k + 1)) (k + 1 + n) + 1 ≤ m_mv a (k + 1 + n) := by
        intro n
        induction n with
        | zero =>
          intro _
          show m_mv (gU a' 90 k (a' 90 k + 1)) k * 201 + m_rem (gU a' 90 k (a' 90 k + 1)) k + 1 ≤ m_mv a k * 201 + m_rem a k
          rw [pre k (Nat.le_refl _)]
          unfold m_rem
          rw [vk, oc 28 k (by omega)]
          omega
        | succ n ih =>
          intro hn
          have ih := ih (by omega)
          show m_mv (gU a' 90 k (a' 90 k + 1)) (k + 1 + n) * 201 + m_rem (gU a' 90 k (a' 90 k + 1)) (k + 1 + n) + 1 ≤ m_mv a (k + 1 + n) * 201 + m_rem a (k + 1 + n)
          have r1 : m_rem (gU a' 90 k (a' 90 k + 1)) (k + 1 + n) ≤ 200 := by
            unfold m_rem
            rw [vg _ (by omega) (by omega), oc 28 _ (by omega)]
            have := hd.2.2.1 (k + 1 + n) (by omega)
            omega
          have : (m_mv (gU a' 90 k (a' 90 k + 1)) (k + 1 + n) + 1) * 201 ≤ m_mv a (k + 1 + n) * 201 := Nat.mul_le_mul_right _ ih
          omega
      have := post (mn - (k + 1)) (by omega)
      have e : k + 1 + (mn - (k + 1)) = mn := by omega
      rw [e] at this
      omega
    · have hL : ma_lt mn Q (fun i => (gU a' 90 k (a' 90 k + 1) 90 i).toInt) := hL
      obtain ⟨i, i1, i2, i3⟩ := hL
      have i2 : ∀ j, j < i → Q j = (gU a' 90 k (a' 90 k + 1) 90 j).toInt := i2
      have i3 : Q i < (gU a' 90 k (a' 90 k + 1) 90 i).toInt := i3
      rcases Nat.lt_trichotomy i k with q | q | q
      · refine Or.inr ⟨i, i1, fun j hj => ?_, ?_⟩
        · show Q j = (a 90 j).toInt
          rw [i2 j hj, vl j (by omega)]
        · show Q i < (a 90 i).toInt
          rw [vl i q] at i3
          exact i3
      · subst q
        rw [vk] at i3
        have pre : ∀ j, j < i → Q j = (a 90 j).toInt := fun j hj => by rw [i2 j hj, vl j hj]
        by_cases e : Q i = (a 90 i).toInt
        · rcases ma_lt_tri (P := Q) (Q := fun i => (a 90 i).toInt) mn with w | w | ⟨m, m1, m2, m3⟩
          · exact Or.inl w
          · exact Or.inr w
          · exfalso
            have m3 : (a 90 m).toInt < Q m := m3
            have hm : i < m := by
              apply Classical.byContradiction
              intro hn
              by_cases q2 : m = i
              · rw [q2] at m3; omega
              · have := pre m (by omega)
                omega
            rw [(o2 m (by omega) m1).1] at m3
            have := (hQ m m1).2
            omega
        · exact Or.inr ⟨i, i1, pre, by show Q i < (a 90 i).toInt; omega⟩
      · exfalso
        rw [vg i q i1] at i3
        have := (hQ i i1).1
        omega
/-- what findWhole has seen: all rows of numbers before this one -/
def ma_RI (mn mr : Nat) (I0 a0 : gF) (f : Int32) (I a : gF) (pr : (Nat → Int) → Prop) : Prop := (∀ k j, ¬ (k = 5 ∧ j = 27) → I k j = I0 k j) ∧ (∀ k j, k ≠ 90 → k ≠ 91 → a k j = a0 k j) ∧ ((f = 0 ∧ ∀ Q, ma_WM mn mr a0 Q → ¬ pr Q) ∨ (f = 1 ∧ ma_WM mn mr a0 (fun i => (a 91 i).toInt) ∧ pr (fun i => (a 91 i).toInt) ∧ (I 5 27).toInt = ma_cost mn (ma_ci a0 29) (fun i => (a 91 i).toInt) ∧ ∀ Q, ma_WM mn mr a0 Q → pr Q → ma_pq mn (ma_ci a0 29) (fun i => (a 91 i).toInt) Q))
theorem ma_WM_e {mn mr : Nat} {a : gF} {P Q : Nat → Int} (h : ∀ i, i < mn → P i = Q i) (hP : ma_WM mn mr a P) : ma_WM mn mr a Q := by
  refine ⟨fun i hi => by rw [← h i hi]; exact hP.1 i hi, fun r hr hR => ?_⟩
  have e : ma_sm (fun i => ma_fm2 a r i * Q i) mn = ma_sm (fun i => ma_fm2 a r i * P i) mn := ma_sm_congr (fun i hi => by rw [h i hi])
  rw [e]
  exact hP.2 r hr hR
theorem ma_cost_e {n : Nat} {co P Q : Nat → Int} (h : ∀ i, i < n → P i = Q i) : ma_cost n co P = ma_cost n co Q := ma_sm_congr (fun i hi => by rw [h i hi])
theorem ma_mtw {mn mr : Nat} {I0 a0 : gF} {f : Int32} {I a : gF} (hd : ma_datM mn mr a0) (hb : ∀ i, i < mn → (a0 27 i).toInt ≤ (a 90 i).toInt ∧ (a 90 i).toInt ≤ (a0 28 i).toInt) (L : ma_RI mn mr I0 a0 f I a (fun Q => ma_lt mn Q (fun i => (a 90 i).toInt))) :
    ma_RI mn mr I0 a0 (m_tw mn mr (f, I, a)).1 (m_tw mn mr (f, I, a)).2.1 (m_tw mn mr (f, I, a)).2.2 (fun Q => (∀ i, i < mn → Q i = (a 90 i).toInt) ∨ ma_lt mn Q (fun i => (a 90 i).toInt)) ∧ ∀ i, (m_tw mn mr (f, I, a)).2.2 90 i = a 90 i := by
  obtain ⟨l1, l2, l3⟩ := L
  have ea : ∀ k, k ≠ 90 → k ≠ 91 → a k = a0 k := fun k h1 h2 => funext (fun j => l2 k j h1 h2)
  have hd' : ma_datM mn mr a := by
    unfold ma_datM at hd ⊢
    rw [ea 27 (by omega) (by omega), ea 28 (by omega) (by omega), ea 29 (by omega) (by omega), ea 30 (by omega) (by omega), ea 31 (by omega) (by omega), ea 32 (by omega) (by omega)]
    exact hd
  have hb1 : ∀ i, i < mn → (a 90 i).toInt.natAbs ≤ 100 := fun i hi => by
    have := hd.2.2.1 i hi
    have := hb i hi
    omega
  obtain ⟨k0, k1⟩ := ma_mkw hd' hb1 mr 0 (by omega)
  have hwf : m_kw a mn mr 0 = 1 ↔ ma_WM mn mr a0 (fun i => (a 90 i).toInt) := by
    rw [k1, ea 30 (by omega) (by omega), ea 31 (by omega) (by omega), ea 32 (by omega) (by omega), ea 33 (by omega) (by omega)]
    constructor
    · intro h
      exact ⟨hb, fun r hr hR => h r (by omega) (by omega) hR⟩
    · intro h q h1 h2 h3
      exact h.2 q (by omega) h3
  obtain ⟨c1, -⟩ := ma_mwc hd.1 (fun i hi => (hd'.2.2.1 i hi).2.2.2) hb1 mn (Nat.le_refl _)
  have c1 : (m_wc a mn).toInt = ma_cost mn (ma_ci a0 29) (fun i => (a 90 i).toInt) := by
    rw [c1, ea 29 (by omega) (by omega)]
    rfl
  have up : ma_WM mn mr a0 (fun i => (a 90 i).toInt) → (∀ Q, ma_WM mn mr a0 Q → ma_lt mn Q (fun i => (a 90 i).toInt) → ma_cost mn (ma_ci a0 29) (fun i => (a 90 i).toInt) < ma_cost mn (ma_ci a0 29) Q) → ma_RI mn mr I0 a0 1 (gU I 5 27 (m_wc a mn)) (m_wb a mn) (fun Q => (∀ i, i < mn → Q i = (a 90 i).toInt) ∨ ma_lt mn Q (fun i => (a 90 i).toInt)) ∧ ∀ i, m_wb a mn 90 i = a 90 i := by
    intro hW hQ
    have e91 : ∀ i, i < mn → (m_wb a mn 91 i).toInt = (a 90 i).toInt := fun i hi => by rw [ma_mwb, if_pos ⟨rfl, hi⟩]
    refine ⟨⟨fun k j h => by rw [gU_n (by omega)]; exact l1 k j h, fun k j h1 h2 => by rw [ma_mwb, if_neg (by omega)]; exact l2 k j h1 h2, Or.inr ⟨rfl, ma_WM_e (fun i hi => (e91 i hi).symm) hW, Or.inl e91, ?_, fun Q h1 h2 => ?_⟩⟩, fun i => by rw [ma_mwb, if_neg (by omega)]⟩
    · rw [gU_s, c1]
      exact ma_cost_e (fun i hi => (e91 i hi).symm)
    · have ec : ma_cost mn (ma_ci a0 29) (fun i => (m_wb a mn 91 i).toInt) = ma_cost mn (ma_ci a0 29) (fun i => (a 90 i).toInt) := ma_cost_e e91
      rcases h2 with h2 | h2
      · exact Or.inr ⟨by rw [ec]; exact ma_cost_e (fun i hi => (h2 i hi).symm), Or.inl (fun i hi => (e91 i hi).trans (h2 i hi).symm)⟩
      · exact Or.inl (by rw [ec]; exact hQ Q h1 h2)
  unfold m_tw
  show ma_RI mn mr I0 a0 (if m_kw a mn mr 0 = 0 then (f, I, a) else if f = 0 then (1, gU I 5 27 (m_wc a mn), m_wb a mn) else if I 5 27 ≤ m_wc a mn then (f, I, a) else (1, gU I 5 27 (m_wc a mn), m_wb a mn)).1 (if m_kw a mn mr 0 = 0 then (f, I, a) else if f = 0 then (1, gU I 5 27 (m_wc a mn), m_wb a mn) else if I 5 27 ≤ m_wc a mn then (f, I, a) else (1, gU I 5 27 (m_wc a mn), m_wb a mn)).2.1 (if m_kw a mn mr 0 = 0 then (f, I, a) else if f = 0 then (1, gU I 5 27 (m_wc a mn), m_wb a mn) else if I 5 27 ≤ m_wc a mn then (f, I, a) else (1, gU I 5 27 (m_wc a mn), m_wb a mn)).2.2 _ ∧ ∀ i, (if m_kw a mn mr 0 = 0 then (f, I, a) else if f = 0 then (1, gU I 5 27 (m_wc a mn), m_wb a mn) else if I 5 27 ≤ m_wc a mn then (f, I, a) else (1, gU I 5 27 (m_wc a mn), m_wb a mn)).2.2 90 i = a 90 i
  by_cases h0 : m_kw a mn mr 0 = 0
  · rw [if_pos h0]
    have no : ¬ ma_WM mn mr a0 (fun i => (a 90 i).toInt) := fun w => by
      have := hwf.mpr w
      rw [h0] at this
      exact absurd this (by decide)
    refine ⟨⟨l1, l2, ?_⟩, fun _ => rfl⟩
    rcases l3 with ⟨q1, q2⟩ | ⟨q1, q2, q3, q4, q5⟩
    · refine Or.inl ⟨q1, fun Q hQ w => ?_⟩
      rcases w with w | w
      · exact no (ma_WM_e w hQ)
      · exact q2 Q hQ w
    · refine Or.inr ⟨q1, q2, Or.inr q3, q4, fun Q hQ w => ?_⟩
      rcases w with w | w
      · exact absurd (ma_WM_e w hQ) no
      · exact q5 Q hQ w
  · rw [if_neg h0]
    have hW := hwf.mp (k0.resolve_left h0)
    by_cases hf : f = 0
    · rw [if_pos hf]
      rcases l3 with ⟨q1, q2⟩ | ⟨q1, -⟩
      · exact up hW (fun Q h1 h2 => absurd h2 (q2 Q h1))
      · rw [hf] at q1; exact absurd q1 (by decide)
    · rw [if_neg hf]
      rcases l3 with ⟨q1, q2⟩ | ⟨q1, q2, q3, q4, q5⟩
      · exact absurd q1 hf
      · by_cases hc : I 5 27 ≤ m_wc a mn
        · rw [if_pos hc]
          rw [Int32.le_iff_toInt_le, q4, c1] at hc
          refine ⟨⟨l1, l2, Or.inr ⟨q1, q2, Or.inr q3, q4, fun Q hQ w => ?_⟩⟩, fun _ => rfl⟩
          show ma_pq mn (ma_ci a0 29) (fun i => (a 91 i).toInt) Q
          rcases w with w | w
          · have ec : ma_cost mn (ma_ci a0 29) Q = ma_cost mn (ma_ci a0 29) (fun i => (a 90 i).toInt) := ma_cost_e w
            rcases Int.lt_or_eq_of_le hc with w2 | w2
            · exact Or.inl (by omega)
            · exact Or.inr ⟨by omega, Or.inr (ma_lt_e2 q3 (fun i hi => (w i hi).symm))⟩
          · exact q5 Q hQ w
        · rw [if_neg hc]
          rw [Int32.le_iff_toInt_le, q4, c1] at hc
          refine up hW (fun Q h1 h2 => ?_)
          have := q5 Q h1 h2
          rcases this with w | ⟨w, -⟩
          · omega
          · omega
theorem ma_mfw {mn mr : Nat} {I0 a0 : gF} (hd : ma_datM mn mr a0) : ∀ n f I a, m_mv a mn < n → (∀ i, i < mn → (a0 27 i).toInt ≤ (a 90 i).toInt ∧ (a 90 i).toInt ≤ (a0 28 i).toInt) → ma_RI mn mr I0 a0 f I a (fun Q => ma_lt mn Q (fun i => (a 90 i).toInt)) → ∀ k, ma_RI mn mr I0 a0 (m_fw mn mr n (k + 1, f, I, a)).1 (m_fw mn mr n (k + 1, f, I, a)).2.1 (m_fw mn mr n (k + 1, f, I, a)).2.2 (fun Q => ∀ i, i < mn → Q i ≤ (a0 28 i).toInt)
  | 0, f, I, a, h, _, _, _ => by omega
  | n + 1, f, I, a, hm, hb, L, k => by
    obtain ⟨t1, t2⟩ := ma_mtw hd hb L
    have e : m_fw mn mr (n + 1) (k + 1, f, I, a) = m_fw mn mr n ((m_nw mn (m_tw mn mr (f, I, a)).2.2).1, (m_tw mn mr (f, I, a)).1, (m_tw mn mr (f, I, a)).2.1, (m_nw mn (m_tw mn mr (f, I, a)).2.2).2) := rfl
    rw [e]
    generalize m_tw mn mr (f, I, a) = y at *
    obtain ⟨f', I', a'⟩ := y
    have t1 : ma_RI mn mr I0 a0 f' I' a' (fun Q => (∀ i, i < mn → Q i = (a 90 i).toInt) ∨ ma_lt mn Q (fun i => (a 90 i).toInt)) := t1
    have t2 : ∀ i, a' 90 i = a 90 i := t2
    show ma_RI mn mr I0 a0 (m_fw mn mr n ((m_nw mn a').1, f', I', (m_nw mn a').2)).1 (m_fw mn mr n ((m_nw mn a').1, f', I', (m_nw mn a').2)).2.1 (m_fw mn mr n ((m_nw mn a').1, f', I', (m_nw mn a').2)).2.2 _
    obtain ⟨l1, l2, l3⟩ := t1
    have ea : ∀ k, k ≠ 90 → k ≠ 91 → a' k = a0 k := fun k h1 h2 => funext (fun j => l2 k j h1 h2)
    have hd' : ma_datM mn mr a' := by
      unfold ma_datM at hd ⊢
      rw [ea 27 (by omega) (by omega), ea 28 (by omega) (by omega), ea 29 (by omega) (by omega), ea 30 (by omega) (by omega), ea 31 (by omega) (by omega), ea 32 (by omega) (by omega)]
      exact hd
    have e90 : (fun i => (a' 90 i).toInt) = (fun i => (a 90 i).toInt) := funext (fun i => by rw [t2])
    obtain ⟨n1, n2⟩ := ma_mnw hd' (fun i hi => by rw [t2, ea 27 (by omega) (by omega), ea 28 (by omega) (by omega)]; exact hb i hi)
    rw [ea 27 (by omega) (by omega), ea 28 (by omega) (by omega)] at n2
    simp only [t2] at n2
    have emv : m_mv a' mn = m_mv a mn := by
      have : ∀ n, m_mv a' n = m_mv a n := by
        intro n
        induction n with
        | zero => rfl
        | succ n ih =>
          show m_mv a' n * 201 + m_rem a' n = m_mv a n * 201 + m_rem a n
          rw [ih]
          unfold m_rem
          rw [t2, ea 28 (by omega) (by omega), ← L.2.1 28 n (by omega) (by omega)]
      exact this mn
    rw [emv] at n2
    have frA : ∀ k j, k ≠ 90 → k ≠ 91 → (m_nw mn a').2 k j = a0 k j := fun k j h1 h2 => by rw [n1 k j h1]; exact l2 k j h1 h2
    have e91 : ∀ i, (m_nw mn a').2 91 i = a' 91 i := fun i => n1 91 i (by omega)
    have e91' : (fun i => ((m_nw mn a').2 91 i).toInt) = (fun i => (a' 91 i).toInt) := funext (fun i => by rw [e91])
    rcases n2 with ⟨k0, all⟩ | ⟨k0, bx, mv, up, sc⟩
    · have ef : m_fw mn mr n ((m_nw mn a').1, f', I', (m_nw mn a').2) = (f', I', (m_nw mn a').2) := by
        rw [k0]
        cases n <;> rfl
      rw [ef]
      refine ⟨l1, frA, ?_⟩
      show (f' = 0 ∧ _) ∨ (f' = 1 ∧ ma_WM mn mr a0 (fun i => ((m_nw mn a').2 91 i).toInt) ∧ _)
      rcases l3 with ⟨q1, q2⟩ | ⟨q1, q2, q3, q4, q5⟩
      · refine Or.inl ⟨q1, fun Q hQ hh => ?_⟩
        exact q2 Q hQ (all Q hh)
      · refine Or.inr ⟨q1, ?_, ?_, ?_, fun Q hQ hh => ?_⟩
        · rw [e91']; exact q2
        · show ∀ i, i < mn → ((m_nw mn a').2 91 i).toInt ≤ (a0 28 i).toInt
          intro i hi
          rw [e91]
          exact (q2.1 i hi).2
        · show (I' 5 27).toInt = ma_cost mn (ma_ci a0 29) (fun i => ((m_nw mn a').2 91 i).toInt)
          rw [e91']; exact q4
        · show ma_pq mn (ma_ci a0 29) (fun i => ((m_nw mn a').2 91 i).toInt) Q
          rw [e91']
          exact q5 Q hQ (all Q hh)
    · obtain ⟨k', hk'⟩ : ∃ m, (m_nw mn a').1 = m + 1 := ⟨(m_nw mn a').1 - 1, by omega⟩
      rw [hk']
      refine ma_mfw hd n f' I' (m_nw mn a').2 (by omega) bx ⟨l1, frA, ?_⟩ k'
      rcases l3 with ⟨q1, q2⟩ | ⟨q1, q2, q3, q4, q5⟩
      · refine Or.inl ⟨q1, fun Q hQ hh => ?_⟩
        exact q2 Q hQ (sc Q hQ.1 hh)
      · refine Or.inr ⟨q1, by rw [e91']; exact q2, ?_, by rw [e91']; exact q4, fun Q hQ hh => ?_⟩
        · rw [e91']
          rcases q3 with q3 | q3
          · exact ma_lt_e q3 up
          · exact ma_lt_t q3 up
        · rw [e91']
          exact q5 Q hQ (sc Q hQ.1 hh)
theorem ma_findWhole {mn mr : Nat} {I a : gF} (hd : ma_datM mn mr a) : (∀ k j, ¬ (k = 5 ∧ j = 27) → (m_fwX I a mn mr).2.1 k j = I k j) ∧ (∀ k j, k ≠ 90 → k ≠ 91 → (m_fwX I a mn mr).2.2 k j = a k j) ∧ (((m_fwX I a mn mr).1 = 0 ∧ ∀ Q, ¬ ma_WM mn mr a Q) ∨ ((m_fwX I a mn mr).1 = 1 ∧ ma_WM mn mr a (fun i => ((m_fwX I a mn mr).2.2 91 i).toInt) ∧ ((m_fwX I a mn mr).2.1 5 27).toInt = ma_cost mn (ma_ci a 29) (fun i => ((m_fwX I a mn mr).2.2 91 i).toInt) ∧ ∀ Q, ma_WM mn mr a Q → ma_pq mn (ma_ci a 29) (fun i => ((m_fwX I a mn mr).2.2 91 i).toInt) Q)) := by
  have h90 : ∀ i, i < mn → m_w0 a mn 90 i = a 27 i := fun i hi => by rw [ma_mw0, if_pos ⟨rfl, hi⟩]
  have ho : ∀ k j, k ≠ 90 → m_w0 a mn k j = a k j := fun k j h => by rw [ma_mw0, if_neg (by omega)]
  have hmv : m_mv (m_w0 a mn) mn < mWF := by
    have : ∀ n, n ≤ mn → m_mv (m_w0 a mn) n < 201 ^ n := by
      intro n
      induction n with
      | zero => intro _; exact Nat.zero_lt_one
      | succ n ih =>
        intro hn
        have ih := ih (by omega)
        show m_mv (m_w0 a mn) n * 201 + m_rem (m_w0 a mn) n < 201 ^ n * 201
        have r1 : m_rem (m_w0 a mn) n ≤ 200 := by
          unfold m_rem
          rw [h90 n (by omega), ho 28 n (by omega)]
          have := hd.2.2.1 n (by omega)
          omega
        have : (m_mv (m_w0 a mn) n + 1) * 201 ≤ 201 ^ n * 201 := Nat.mul_le_mul_right _ ih
        omega
    have h1 := this mn (Nat.le_refl _)
    have h2 : 201 ^ mn ≤ 201 ^ 5 := Nat.pow_le_pow_right (by decide) hd.1
    have h3 : (201 : Nat) ^ 5 < mWF := by unfold mWF; decide
    omega
  have e : m_fwX I a mn mr = m_fw mn mr mWF (0 + 1, 0, I, m_w0 a mn) := rfl
  generalize mWF = fuel at *
  have K := ma_mfw (I0 := I) hd fuel 0 I (m_w0 a mn) hmv (fun i hi => by
    rw [h90 i hi]
    have := hd.2.2.1 i hi
    omega) ⟨fun _ _ _ => rfl, fun k j h1 _ => ho k j h1, Or.inl ⟨rfl, fun Q hQ ⟨i, i1, _, i3⟩ => by
      have i3 : Q i < (m_w0 a mn 90 i).toInt := i3
      rw [h90 i i1] at i3
      have : (a 27 i).toInt ≤ Q i := (hQ.1 i i1).1
      omega⟩⟩ 0
  rw [← e] at K
  obtain ⟨k1, k2, k3⟩ := K
  refine ⟨k1, k2, ?_⟩
  rcases k3 with ⟨q1, q2⟩ | ⟨q1, q2, -, q4, q5⟩
  · exact Or.inl ⟨q1, fun Q hQ => q2 Q hQ (fun i hi => (hQ.1 i hi).2)⟩
  · exact Or.inr ⟨q1, q2, q4, fun Q hQ => q5 Q hQ (fun i hi => (hQ.1 i hi).2)⟩
