/-! The reference: findWhole, whole, wholeValue, isWhole -/
def m_w0 (a : gF) : Nat → gF
  | 0 => a
  | i + 1 => gU (m_w0 a i) 90 i (m_w0 a i 27 i)
def m_wc (a : gF) : Nat → Int32
  | 0 => 0
  | i + 1 => m_wc a i + a 29 i * a 90 i
def m_wb (a : gF) : Nat → gF
  | 0 => a
  | i + 1 => gU (m_wb a i) 91 i (m_wb a i 90 i)
/-- the row of whole numbers behind this one: the place that grows, counted from 1 (0: there is none) -/
def m_od : Nat → gF → Nat × gF
  | 0, a => (0, a)
  | k + 1, a => if a 90 k = a 28 k then m_od k (gU a 90 k (a 27 k)) else (k + 1, a)
abbrev m_F : Type := Int32 × gF × gF
def m_tw (mn mr : Nat) (x : m_F) : m_F := if m_kw x.2.2 mn mr 0 = 0 then x else if x.1 = 0 then (1, gU x.2.1 5 27 (m_wc x.2.2 mn), m_wb x.2.2 mn) else if x.2.1 5 27 ≤ m_wc x.2.2 mn then x else (1, gU x.2.1 5 27 (m_wc x.2.2 mn), m_wb x.2.2 mn)
def m_nw (mn : Nat) (a : gF) : Nat × gF := if (m_od mn a).1 = 0 then m_od mn a else ((m_od mn a).1, gU (m_od mn a).2 90 ((m_od mn a).1 - 1) ((m_od mn a).2 90 ((m_od mn a).1 - 1) + 1))
def m_fw (mn mr : Nat) : Nat → Nat × m_F → m_F
  | 0, x => x.2
  | n + 1, (0, x) => x
  | n + 1, (k + 1, x) => m_fw mn mr n ((m_nw mn (m_tw mn mr x).2.2).1, (m_tw mn mr x).1, (m_tw mn mr x).2.1, (m_nw mn (m_tw mn mr x).2.2).2)
def m_in (a : gF) (mn : Nat) : Prop := ∀ i, i < mn → -100 ≤ (a 27 i).toInt ∧ (a 27 i).toInt ≤ (a 90 i).toInt ∧ (a 90 i).toInt ≤ (a 28 i).toInt ∧ (a 28 i).toInt ≤ 100
def m_sps (a : gF) (mn : Nat) : Prop := ∀ i, i < mn → -100 ≤ (a 27 i).toInt ∧ (a 27 i).toInt ≤ (a 28 i).toInt ∧ (a 28 i).toInt ≤ 100
def m_rem (a : gF) (i : Nat) : Nat := ((a 28 i).toInt - (a 90 i).toInt).toNat
def m_mv (a : gF) : Nat → Nat
  | 0 => 0
  | i + 1 => m_mv a i * 201 + m_rem a i
theorem m_mv_k {a a2 : gF} : ∀ d, (∀ i, i < d → a2 90 i = a 90 i ∧ a2 28 i = a 28 i) → m_mv a2 d = m_mv a d
  | 0, _ => rfl
  | d + 1, h => by
    unfold m_mv m_rem
    rw [m_mv_k d (fun i hi => h i (by omega)), (h d (by omega)).1, (h d (by omega)).2]
theorem m_in_k {a a2 : gF} {mn : Nat} (h : m_in a mn) (h1 : a2 27 = a 27) (h2 : a2 28 = a 28) (h3 : a2 90 = a 90) : m_in a2 mn := by
  intro i hi
  rw [h1, h2, h3]
  exact h i hi
theorem m_od_k : ∀ k a, (∀ c, c ≠ 90 → (m_od k a).2 c = a c) ∧ (∀ i, k ≤ i → (m_od k a).2 90 i = a 90 i) ∧ (m_od k a).1 ≤ k
  | 0, a => ⟨fun _ _ => rfl, fun _ _ => rfl, Nat.le_refl 0⟩
  | k + 1, a => by
    unfold m_od
    split
    · obtain ⟨h1, h2, h3⟩ := m_od_k k (gU a 90 k (a 27 k))
      exact ⟨fun c hc => (h1 c hc).trans (gU_k hc), fun i hi => (h2 i (by omega)).trans (gU_n (Or.inr (by omega))), by omega⟩
    · exact ⟨fun _ _ => rfl, fun _ _ => rfl, Nat.le_refl _⟩
theorem m_od_in {mn : Nat} : ∀ k a, k ≤ mn → m_in a mn → m_in (m_od k a).2 mn
  | 0, a, _, h => h
  | k + 1, a, hk, h => by
    unfold m_od
    split
    · apply m_od_in k _ (by omega)
      intro i hi
      rw [gU_k (show 27 ≠ 90 by decide), gU_k (show 28 ≠ 90 by decide)]
      by_cases e : i = k
      · subst e
        rw [gU_s]
        have := h i hi
        omega
      · rw [gU_n (Or.inr e)]
        exact h i hi
    · exact h
theorem i32_add1 {x : Int32} (h1 : -1000 ≤ x.toInt) (h2 : x.toInt ≤ 1000) : (x + 1).toInt = x.toInt + 1 := by
  rw [Int32.toInt_add]
  have : (1 : Int32).toInt = 1 := rfl
  rw [this]
  apply Int.bmod_eq_of_le <;> omega
theorem m_od_lt {mn : Nat} : ∀ k a, k ≤ mn → m_in a mn → ∀ t, (m_od k a).1 = t + 1 → m_in (gU (m_od k a).2 90 t ((m_od k a).2 90 t + 1)) mn ∧ t < k ∧ m_mv (gU (m_od k a).2 90 t ((m_od k a).2 90 t + 1)) k < m_mv a k
  | 0, a, _, _, t, h => absurd h (by simp [m_od])
  | k + 1, a, hk, hin, t, h => by
    by_cases e : a 90 k = a 28 k
    · have ho : m_od (k + 1) a = m_od k (gU a 90 k (a 27 k)) := by
        show (if a 90 k = a 28 k then _ else _) = _
        rw [if_pos e]
      rw [ho] at h ⊢
      have hin1 : m_in (gU a 90 k (a 27 k)) mn := by
        intro i hi
        rw [gU_k (show 27 ≠ 90 by decide), gU_k (show 28 ≠ 90 by decide)]
        by_cases e2 : i = k
        · subst e2
          rw [gU_s]
          have := hin i hi
          omega
        · rw [gU_n (Or.inr e2)]
          exact hin i hi
      obtain ⟨g1, g2, g3⟩ := m_od_lt k _ (by omega) hin1 t h
      refine ⟨g1, by omega, ?_⟩
      have hm : m_mv (gU a 90 k (a 27 k)) k = m_mv a k := m_mv_k k (fun i hi => ⟨gU_n (Or.inr (by omega)), by rw [gU_k (by decide)]⟩)
      rw [hm] at g3
      have hb := g1 k (by omega)
      show m_mv _ k * 201 + m_rem _ k < m_mv a k * 201 + m_rem a k
      have hr : m_rem (gU (m_od k (gU a 90 k (a 27 k))).2 90 t ((m_od k (gU a 90 k (a 27 k))).2 90 t + 1)) k ≤ 200 := by
        unfold m_rem
        omega
      omega
    · have ho : m_od (k + 1) a = (k + 1, a) := by
        show (if a 90 k = a 28 k then _ else _) = _
        rw [if_neg e]
      rw [ho] at h ⊢
      obtain rfl : k = t := by
        have h9 : k + 1 = t + 1 := h
        omega
      have hb := hin k (by omega)
      have hne : (a 90 k).toInt ≠ (a 28 k).toInt := fun q => e (Int32.toInt_inj.mp q)
      have h1 := i32_add1 (x := a 90 k) (by omega) (by omega)
      refine ⟨?_, by omega, ?_⟩
      · intro i hi
        show -100 ≤ (gU a 90 k (a 90 k + 1) 27 i).toInt ∧ (gU a 90 k (a 90 k + 1) 27 i).toInt ≤ (gU a 90 k (a 90 k + 1) 90 i).toInt ∧ (gU a 90 k (a 90 k + 1) 90 i).toInt ≤ (gU a 90 k (a 90 k + 1) 28 i).toInt ∧ (gU a 90 k (a 90 k + 1) 28 i).toInt ≤ 100
        rw [gU_k (show 27 ≠ 90 by decide), gU_k (show 28 ≠ 90 by decide)]
        by_cases e2 : i = k
        · subst e2
          rw [gU_s]
          omega
        · rw [gU_n (Or.inr e2)]
          exact hin i hi
      · have hm : m_mv (gU a 90 k (a 90 k + 1)) k = m_mv a k := m_mv_k k (fun i hi => ⟨gU_n (Or.inr (by omega)), by rw [gU_k (by decide)]⟩)
        show m_mv (gU a 90 k (a 90 k + 1)) k * 201 + m_rem (gU a 90 k (a 90 k + 1)) k < m_mv a k * 201 + m_rem a k
        rw [hm]
        unfold m_rem
        rw [gU_k (show 28 ≠ 90 by decide), gU_s]
        omega
theorem m_wb_k (a : gF) {c : Nat} (h : c ≠ 91) : ∀ n, m_wb a n c = a c
  | 0 => rfl
  | n + 1 => (gU_k h).trans (m_wb_k a h n)
theorem m_w0_k (a : gF) : ∀ n, (∀ c, c ≠ 90 → m_w0 a n c = a c) ∧ ∀ i, i < n → m_w0 a n 90 i = a 27 i
  | 0 => ⟨fun _ _ => rfl, fun i hi => absurd hi (Nat.not_lt_zero i)⟩
  | n + 1 => by
    obtain ⟨h1, h2⟩ := m_w0_k a n
    refine ⟨fun c hc => (gU_k hc).trans (h1 c hc), fun i hi => ?_⟩
    show gU (m_w0 a n) 90 n (m_w0 a n 27 n) 90 i = _
    by_cases e : i = n
    · subst e
      rw [gU_s, h1 27 (by decide)]
    · rw [gU_n (Or.inr e)]
      exact h2 i (by omega)
theorem m_w0_in {a : gF} {mn : Nat} (h : m_sps a mn) : m_in (m_w0 a mn) mn := by
  intro i hi
  obtain ⟨h1, h2⟩ := m_w0_k a mn
  rw [h2 i hi, h1 27 (by decide), h1 28 (by decide)]
  have := h i hi
  omega
theorem m_tw_in {mn mr : Nat} {x : m_F} (h : m_in x.2.2 mn) : m_in (m_tw mn mr x).2.2 mn ∧ m_mv (m_tw mn mr x).2.2 mn = m_mv x.2.2 mn ∧ (∀ k j, (k ≠ 5 ∨ j ≠ 27) → (m_tw mn mr x).2.1 k j = x.2.1 k j) ∧ ((x.1 = 0 ∨ x.1 = 1) → ((m_tw mn mr x).1 = 0 ∨ (m_tw mn mr x).1 = 1)) := by
  have hb : m_in (m_wb x.2.2 mn) mn ∧ m_mv (m_wb x.2.2 mn) mn = m_mv x.2.2 mn := ⟨m_in_k h (m_wb_k _ (by decide) _) (m_wb_k _ (by decide) _) (m_wb_k _ (by decide) _), m_mv_k mn (fun i _ => ⟨by rw [m_wb_k _ (by decide)], by rw [m_wb_k _ (by decide)]⟩)⟩
  unfold m_tw
  repeat' split
  · exact ⟨h, rfl, fun _ _ _ => rfl, id⟩
  · exact ⟨hb.1, hb.2, fun _ _ q => gU_n q, fun _ => Or.inr rfl⟩
  · exact ⟨h, rfl, fun _ _ _ => rfl, id⟩
  · exact ⟨hb.1, hb.2, fun _ _ q => gU_n q, fun _ => Or.inr rfl⟩
def m_ms (kk : Nat) (a : gF) (mn : Nat) : Nat := if kk = 0 then 0 else m_mv a mn + 1
theorem m_nw_ok {mn : Nat} {a : gF} (h : m_in a mn) : m_in (m_nw mn a).2 mn ∧ m_ms (m_nw mn a).1 (m_nw mn a).2 mn < m_mv a mn + 1 ∧ (m_nw mn a).1 ≤ mn := by
  have hk := m_od_k mn a
  unfold m_nw
  split
  · rename_i c
    refine ⟨m_od_in mn a (Nat.le_refl mn) h, ?_, hk.2.2⟩
    unfold m_ms
    rw [if_pos c]
    omega
  · rename_i c
    obtain ⟨t, et⟩ : ∃ t, (m_od mn a).1 = t + 1 := ⟨(m_od mn a).1 - 1, by omega⟩
    obtain ⟨g1, g2, g3⟩ := m_od_lt mn a (Nat.le_refl mn) h t et
    rw [et, show t + 1 - 1 = t by omega]
    refine ⟨g1, ?_, by omega⟩
    show (if t + 1 = 0 then 0 else m_mv (gU (m_od mn a).2 90 t ((m_od mn a).2 90 t + 1)) mn + 1) < _
    rw [if_neg (by omega)]
    omega
def mWF : Nat := 1000000000000000
theorem m_mv_lt {mn : Nat} {a : gF} (hin : m_in a mn) : ∀ d, d ≤ mn → m_mv a d < 201 ^ d
  | 0, _ => Nat.lt_succ_self 0
  | d + 1, hd => by
    have h1 := m_mv_lt hin d (by omega)
    have h2 := hin d (by omega)
    have h3 : m_rem a d ≤ 200 := by
      unfold m_rem
      omega
    show m_mv a d * 201 + m_rem a d < _
    rw [Nat.pow_succ]
    omega
theorem m_fw_step {mn mr k : Nat} {x R : m_F} (hin : m_in x.2.2 mn) (h : ∃ F, m_ms (k + 1) x.2.2 mn < F ∧ R = m_fw mn mr F (k + 1, x)) : ∃ F, m_ms (m_nw mn (m_tw mn mr x).2.2).1 (m_nw mn (m_tw mn mr x).2.2).2 mn < F ∧ R = m_fw mn mr F ((m_nw mn (m_tw mn mr x).2.2).1, (m_tw mn mr x).1, (m_tw mn mr x).2.1, (m_nw mn (m_tw mn mr x).2.2).2) := by
  obtain ⟨F, hF, e⟩ := h
  obtain ⟨F1, rfl⟩ : ∃ F1, F = F1 + 1 := ⟨F - 1, by omega⟩
  obtain ⟨t1, t2, -, -⟩ := m_tw_in (mr := mr) hin
  obtain ⟨-, n2, -⟩ := m_nw_ok t1
  unfold m_ms at hF
  rw [if_neg (by omega)] at hF
  exact ⟨F1, by omega, e⟩
theorem m_fw_end {mn mr : Nat} {x R : m_F} (h : ∃ F, m_ms 0 x.2.2 mn < F ∧ R = m_fw mn mr F (0, x)) : R = x := by
  obtain ⟨F, hF, e⟩ := h
  obtain ⟨F1, rfl⟩ : ∃ F1, F = F1 + 1 := ⟨F - 1, by omega⟩
  exact e
def m_fwX (I a : gF) (mn mr : Nat) : m_F := m_fw mn mr mWF (1, 0, I, m_w0 a mn)
