/-! THE MATHEMATICS, 13: the point where the dictionary stands is a corner -/
/-- the members of a set of numbers, in order -/
theorem ma_sort (b : Nat → Bool) : ∀ M, ∃ t : Nat → Nat, (∀ i, i < ma_cnt b M → t i < M ∧ b (t i) = true) ∧ (∀ i j, i < j → j < ma_cnt b M → t i < t j) ∧ (∀ m, m < M → b m = true → ∃ i, i < ma_cnt b M ∧ t i = m)
  | 0 => ⟨fun _ => 0, fun i h => by exact absurd h (Nat.not_lt_zero _), fun i j _ h => by exact absurd h (Nat.not_lt_zero _), fun m h => by omega⟩
  | M + 1 => by
    obtain ⟨t, h1, h2, h3⟩ := ma_sort b M
    have e : ma_cnt b (M + 1) = ma_cnt b M + (if b M then 1 else 0) := rfl
    by_cases hb : b M = true
    · rw [if_pos hb] at e
      rw [e]
      refine ⟨fun i => if i < ma_cnt b M then t i else M, fun i hi => ?_, fun i j hij hj => ?_, fun m hm hbm => ?_⟩
      · show (if i < ma_cnt b M then t i else M) < M + 1 ∧ b (if i < ma_cnt b M then t i else M) = true
        by_cases q : i < ma_cnt b M
        · rw [if_pos q]
          have := h1 i q
          exact ⟨by omega, this.2⟩
        · rw [if_neg q]
          exact ⟨by omega, hb⟩
      · show (if i < ma_cnt b M then t i else M) < (if j < ma_cnt b M then t j else M)
        rw [if_pos (by omega)]
        by_cases q : j < ma_cnt b M
        · rw [if_pos q]
          exact h2 i j hij q
        · rw [if_neg q]
          exact (h1 i (by omega)).1
      · by_cases q : m = M
        · refine ⟨ma_cnt b M, by omega, ?_⟩
          show (if ma_cnt b M < ma_cnt b M then _ else M) = m
          rw [if_neg (by omega)]
          exact q.symm
        · obtain ⟨i, g1, g2⟩ := h3 m (by omega) hbm
          refine ⟨i, by omega, ?_⟩
          show (if i < ma_cnt b M then t i else M) = m
          rw [if_pos g1]
          exact g2
    · rw [if_neg hb] at e
      rw [e, Nat.add_zero]
      refine ⟨t, fun i hi => ?_, h2, fun m hm hbm => ?_⟩
      · have := h1 i hi
        exact ⟨by omega, this.2⟩
      · by_cases q : m = M
        · rw [q] at hbm; exact absurd hbm hb
        · exact h3 m (by omega) hbm
/-- a corner: as many conditions as names hold there, and no way leads out of them all -/
def ma_cor (nn : Nat) (C : Nat → Nat → Int) (T : Nat → Prop) (t : Nat → Nat) (X : Nat → Int) : Prop := (∀ i, i < nn → T (t i)) ∧ (∀ i j, i < j → j < nn → t i < t j) ∧ (∀ i, i < nn → ma_dot (C (t i)) X = 0) ∧ (∀ Z : Nat → Int, Z 5 = 0 → ma_zr nn Z → (∀ i, i < nn → ma_dot (C (t i)) Z = 0) → ∀ i, i < nn → Z i = 0)
theorem ma_dot_c {u v X : Nat → Int} (h : ∀ i, u i = v i) : ma_dot u X = ma_dot v X := ma_sm_congr (fun i _ => by rw [h i])
theorem ma_dot_neg {u v X : Nat → Int} (h : ∀ i, u i = - v i) : ma_dot u X = - ma_dot v X := by
  have : ma_dot u X = (-1) * ma_dot v X := by
    unfold ma_dot
    rw [← ma_sm_mul]
    exact ma_sm_congr (fun i _ => by rw [h i]; grind)
  omega
theorem ma_corner {nn nr nl : Nat} {V : Nat → Nat → Int} {x : ma_X} {a : gF} {R : Nat → Prop} (D : ma_DX nn nl V x) (Cd : ma_CD nn nr a R nl V) : ∃ t, ma_cor nn (ma_C nn (ma_ci a 6) (ma_ci a 7) (ma_ci a 10) (ma_fa a)) (ma_th nn nr R) t (ma_pY nn V x) := by
  have n1 := D.1.1
  have hO : ∀ s, s < nn → ma_Oa x.2.1 s < nn + nl := fun s hs => (D.2.2.2.1 s hs).2
  have hu := (ma_DI_LP D).1
  -- the condition of each column
  have hch : ∀ s, ∃ c, s < nn → ma_th nn nr R c ∧ ((∀ i, V (ma_Oa x.2.1 s) i = ma_C nn (ma_ci a 6) (ma_ci a 7) (ma_ci a 10) (ma_fa a) c i) ∨ (∀ i, V (ma_Oa x.2.1 s) i = - ma_C nn (ma_ci a 6) (ma_ci a 7) (ma_ci a 10) (ma_fa a) c i)) := by
    intro s
    by_cases hs : s < nn
    · obtain ⟨c, h1, h2⟩ := Cd.2.2.2.2.1 _ (hO s hs)
      exact ⟨c, fun _ => ⟨h1, h2⟩⟩
    · exact ⟨0, fun h => absurd h hs⟩
  obtain ⟨cc, hcc⟩ := Classical.axiomOfChoice hch
  have dotz : ∀ s, s < nn → ∀ X, ma_dot (ma_C nn (ma_ci a 6) (ma_ci a 7) (ma_ci a 10) (ma_fa a) (cc s)) X = 0 ↔ ma_dot (V (ma_Oa x.2.1 s)) X = 0 := by
    intro s hs X
    rcases (hcc s hs).2 with h | h
    · rw [ma_dot_c h]
    · rw [ma_dot_neg h]
      omega
  have inj : ∀ s s', s < nn → s' < nn → cc s = cc s' → s = s' := by
    intro s s' hs hs' he
    apply Classical.byContradiction
    intro hne
    have k1 := ma_kO D (s := s) (s' := s) (by omega) hs
    have k2 := ma_kO D (s := s) (s' := s') (by omega) hs'
    rw [if_pos rfl] at k1
    rw [if_neg (fun q => hne q.symm)] at k2
    have e1 : ma_dot (V (ma_Oa x.2.1 s)) (fun i => ma_kx nn V x s (ma_e i)) = ma_kx nn V x s (V (ma_Oa x.2.1 s)) := (ma_DI_LP D).2.2.1 s (by omega) _
    have e2 : ma_dot (V (ma_Oa x.2.1 s')) (fun i => ma_kx nn V x s (ma_e i)) = ma_kx nn V x s (V (ma_Oa x.2.1 s')) := (ma_DI_LP D).2.2.1 s (by omega) _
    have z2 := (dotz s' hs' (fun i => ma_kx nn V x s (ma_e i))).mpr (by rw [e2, k2])
    rw [← he] at z2
    have z1 := (dotz s hs (fun i => ma_kx nn V x s (ma_e i))).mp z2
    rw [e1, k1] at z1
    omega
  have hcnt : ma_cnt (ma_has cc nn) 18 = nn := ma_cnt_has (fun s hs => (hcc s hs).1.1) inj
  obtain ⟨t, t1, t2, t3⟩ := ma_sort (ma_has cc nn) 18
  rw [hcnt] at t1 t2 t3
  have back : ∀ i, i < nn → ∃ s, s < nn ∧ cc s = t i := fun i hi => ma_has_iff.mp (t1 i hi).2
  have forth : ∀ s, s < nn → ∃ i, i < nn ∧ t i = cc s := fun s hs => t3 _ (hcc s hs).1.1 (ma_has_iff.mpr ⟨s, hs, rfl⟩)
  refine ⟨t, fun i hi => ?_, t2, fun i hi => ?_, fun Z h5 hz hall i hi => ?_⟩
  · obtain ⟨s, s1, s2⟩ := back i hi
    rw [← s2]
    exact (hcc s s1).1
  · obtain ⟨s, s1, s2⟩ := back i hi
    rw [← s2]
    refine (dotz s s1 _).mpr ?_
    rw [ma_pY_dot D, ma_kO D (by omega) s1, if_neg (by omega)]
  · have h := ma_tell D (ma_e i) hz
    rw [h5, Int.mul_zero, ma_sm_zero (fun s hs => ?_), ma_e_dot (by omega)] at h
    · rcases Int.mul_eq_zero.mp h with q | q
      · omega
      · exact q
    · obtain ⟨q, q1, q2⟩ := forth s hs
      have := hall q q1
      rw [q2] at this
      rw [(dotz s hs Z).mp this]
      omega
/-- the same point, over another denominator -/
def ma_eq (X Y : Nat → Int) : Prop := ∀ i, i < 5 → X i * Y 5 = Y i * X 5
theorem ma_sm_eq {X Y f : Nat → Int} {n : Nat} (hn : n ≤ 5) (h : ma_eq X Y) : ma_sm (fun i => f i * X i) n * Y 5 = ma_sm (fun i => f i * Y i) n * X 5 := by
  rw [Int.mul_comm, ← ma_sm_mul, Int.mul_comm, ← ma_sm_mul]
  exact ma_sm_congr (fun i hi => by
    have := h i (by omega)
    have e1 : Y 5 * (f i * X i) = f i * (X i * Y 5) := by grind
    rw [e1, this]
    grind)
theorem ma_fs_eq {nn nr : Nat} {lo hi se ri : Nat → Int} {fa : Nat → Nat → Int} {R : Nat → Prop} {X Y : Nat → Int} (hn : nn ≤ 5) (h : ma_eq X Y) (hX : ma_fs nn nr lo hi se ri fa R X) (h5 : 0 < Y 5) (hz : ma_zr nn Y) : ma_fs nn nr lo hi se ri fa R Y := by
  obtain ⟨⟨x1, x2, x3⟩, x4⟩ := hX
  have tr : ∀ {p q c : Int}, p * Y 5 = q * X 5 → (c * X 5 ≤ p ↔ c * Y 5 ≤ q) ∧ (p ≤ c * X 5 ↔ q ≤ c * Y 5) := by
    intro p q c hpq
    have e1 : c * X 5 * Y 5 = c * Y 5 * X 5 := by grind
    refine ⟨⟨fun w => ?_, fun w => ?_⟩, ⟨fun w => ?_, fun w => ?_⟩⟩
    · have := Int.mul_le_mul_of_nonneg_right w (Int.le_of_lt h5)
      exact Int.le_of_mul_le_mul_right (show c * Y 5 * X 5 ≤ q * X 5 by omega) x1
    · have := Int.mul_le_mul_of_nonneg_right w (Int.le_of_lt x1)
      exact Int.le_of_mul_le_mul_right (show c * X 5 * Y 5 ≤ p * Y 5 by omega) h5
    · have := Int.mul_le_mul_of_nonneg_right w (Int.le_of_lt h5)
      exact Int.le_of_mul_le_mul_right (show q * X 5 ≤ c * Y 5 * X 5 by omega) x1
    · have := Int.mul_le_mul_of_nonneg_right w (Int.le_of_lt x1)
      exact Int.le_of_mul_le_mul_right (show p * Y 5 ≤ c * X 5 * Y 5 by omega) h5
  refine ⟨⟨h5, hz, fun i hi => ?_⟩, fun r hr hR => ?_⟩
  · have e := h i (by omega)
    exact ⟨(tr e).1.mp (x3 i hi).1, (tr e).2.mp (x3 i hi).2⟩
  · have e := ma_sm_eq (f := fa r) hn h
    obtain ⟨k1, k2⟩ := x4 r hr hR
    exact ⟨fun q => (tr e).2.mp (k1 q), fun q => (tr e).1.mp (k2 q)⟩
