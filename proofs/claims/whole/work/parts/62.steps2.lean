/-! THE MATHEMATICS, 28: the calls that ask: one answer, and what holds is kept -/
theorem ma_z01 {v : Int32} : (q_z01 v = 0 ∧ v ≠ 0 ∧ v ≠ 1) ∨ (¬ q_z01 v = 0 ∧ (v = 0 ∨ v = 1)) := by
  unfold q_z01
  by_cases h : v = 0
  · rw [if_pos h]; exact Or.inr ⟨by decide, Or.inl h⟩
  · rw [if_neg h]
    by_cases h2 : v = 1
    · rw [if_pos h2]; exact Or.inr ⟨by decide, Or.inr h2⟩
    · rw [if_neg h2]; exact Or.inl ⟨rfl, h, h2⟩
theorem ma_cor_c {nn nr : Nat} {a a' : gF} {R R' : Nat → Prop} {t : Nat → Nat} {Y : Nat → Int} (hr : nr ≤ 8) (h : ma_sm6 a a') (hR : ∀ r, r < nr → (R r ↔ R' r)) (T : ma_cor nn (ma_C nn (ma_ci a 6) (ma_ci a 7) (ma_ci a 10) (ma_fa a)) (ma_th nn nr R) t Y) : ma_cor nn (ma_C nn (ma_ci a' 6) (ma_ci a' 7) (ma_ci a' 10) (ma_fa a')) (ma_th nn nr R') t Y := by
  have eC : ∀ c, ma_C nn (ma_ci a' 6) (ma_ci a' 7) (ma_ci a' 10) (ma_fa a') c = ma_C nn (ma_ci a 6) (ma_ci a 7) (ma_ci a 10) (ma_fa a) c := by
    intro c
    have e6 : ma_ci a' 6 = ma_ci a 6 := funext (fun i => by show (a' 6 i).toInt = _; rw [h.1])
    have e7 : ma_ci a' 7 = ma_ci a 7 := funext (fun i => by show (a' 7 i).toInt = _; rw [h.2.1])
    have e10 : ma_ci a' 10 = ma_ci a 10 := funext (fun i => by show (a' 10 i).toInt = _; rw [h.2.2.2.2.1])
    rw [e6, e7, e10]
    unfold ma_C
    by_cases q : c < 8
    · rw [if_pos q, if_pos q]
      exact ma_fm_c (fun s _ => by show (a' (40 + c) s).toInt = _; rw [h.2.2.2.2.2.2 c q]) rfl
    · rw [if_neg q, if_neg q]
  obtain ⟨t1, t2, t3, t4⟩ := T
  exact ⟨fun i hi => (ma_th_R hR).mp (t1 i hi), t2, fun i hi => by rw [eC]; exact t3 i hi, fun Z z1 z2 z3 => t4 Z z1 z2 (fun i hi => by rw [← eC]; exact z3 i hi)⟩
theorem ma_st_run {x : gS} (H : ma_INV x) : ma_INV (hS x) ∧ c_run x = m_run (hS x) ∧ ma_INV (kS (hS x)) := by
  obtain ⟨nn, nr, H⟩ := H
  obtain ⟨h1, h2, h3, h4, h5, h6⟩ := ma_hE H
  obtain ⟨k1, k2, k3, -⟩ := ma_IV_k h1
  have s6 := ma_sm6_t (ma_fq_6 (ma_fq_h H.1)) k3
  have e := h6 _ k1 k2 s6
  refine ⟨⟨nn, nr, h1⟩, ?_, ⟨nn, nr, k1⟩⟩
  unfold c_run m_run
  by_cases q : h_r x = 0
  · rw [if_pos q, if_pos (e.mpr q)]
  · rw [if_neg q, if_neg (fun w => q (e.mp w))]
/-- what stands behind hasPoint and findFirstBest -/
theorem ma_fE {nn nr : Nat} {x : gS} (H : ma_IV nn nr x) (hh : ¬ h_r x = 0) : ma_IV nn nr (fS (hS x)) ∧ (∀ y : gS, ma_IV nn nr y → ma_KN nn nr y → ma_aC (fS (hS x)) y → ¬ y.1 5 10 = 0 ∧ (∀ pt, s_part (s_sum (fS (hS x)).2.2.1 (fS (hS x)).2.2.2 nn) ((fS (hS x)).2.1 2 4) pt = m_lowest (y.2.1 5 11) (y.2.1 5 12) pt) ∧ (∀ i pt, i < nn → s_part ((fS (hS x)).2.2.2 20 i) ((fS (hS x)).2.1 2 4) pt = m_lowest (y.2.2.2 34 i) (y.2.1 5 14) pt) ∧ (∀ r, r < nr → (s_tsum (fS (hS x)).2.2.1 (fS (hS x)).2.2.2 r nn = ((fS (hS x)).2.2.1 10 r).toInt64 * (fS (hS x)).2.1 2 4 ↔ m_tsum y r nn = 0))) := by
  obtain ⟨h1, h2, h3, h4, h5, h6⟩ := ma_hE H
  have hr1 := h2.resolve_left hh
  obtain ⟨f1, f2, f3⟩ := ma_fS h1.1 h3 (h5 hr1) (by rw [h4]; exact hr1)
  refine ⟨ma_IV_fq h1 f1 f3, fun y Y K ac => ?_⟩
  have s6 := ma_aC_6 ac
  have s6' : ma_sm6 x.2.2.1 y.2.2.1 := ma_sm6_t (ma_fq_6 (ma_fq_h H.1)) (ma_sm6_t (ma_fq_6 f3) s6)
  have hhy : ¬ y.1 5 10 = 0 := fun w => hh ((h6 y Y K s6').mp w)
  have hd := Y.1.2.2.1
  have hr8 := hd.2.1
  have B : ma_BP nn nr y.2.1 y.2.2.1 y.2.2.2 := ma_BP_c hr8 s6 (fun i => ac.2.2.2 20 i (by omega)) (ac.2.1 2 4 (by omega)) f2
  obtain ⟨b1, b2, b3, -, -⟩ := ma_bestE hd Y.2.2.2.1 K hhy B
  have e24 : y.2.1 2 4 = (fS (hS x)).2.1 2 4 := ac.2.1 2 4 (by omega)
  have e20 : ∀ i, y.2.2.2 20 i = (fS (hS x)).2.2.2 20 i := fun i => ac.2.2.2 20 i (by omega)
  have es : ∀ n, s_sum y.2.2.1 y.2.2.2 n = s_sum (fS (hS x)).2.2.1 (fS (hS x)).2.2.2 n := by
    intro n
    induction n with
    | zero => rfl
    | succ n ih =>
      show s_sum y.2.2.1 y.2.2.2 n + (y.2.2.1 8 n).toInt64 * y.2.2.2 20 n = s_sum (fS (hS x)).2.2.1 (fS (hS x)).2.2.2 n + ((fS (hS x)).2.2.1 8 n).toInt64 * (fS (hS x)).2.2.2 20 n
      rw [ih, e20, s6.2.2.1]
  have et : ∀ r, r < 8 → ∀ n, s_tsum y.2.2.1 y.2.2.2 r n = s_tsum (fS (hS x)).2.2.1 (fS (hS x)).2.2.2 r n := by
    intro r hr n
    induction n with
    | zero => rfl
    | succ n ih =>
      show s_tsum y.2.2.1 y.2.2.2 r n + (y.2.2.1 (40 + r) n).toInt64 * y.2.2.2 20 n = s_tsum (fS (hS x)).2.2.1 (fS (hS x)).2.2.2 r n + ((fS (hS x)).2.2.1 (40 + r) n).toInt64 * (fS (hS x)).2.2.2 20 n
      rw [ih, e20, s6.2.2.2.2.2.2 r hr]
  rw [e24, es] at b1
  refine ⟨hhy, b1, fun i pt hi => ?_, fun r hr => ?_⟩
  · have := b2 i pt hi
    rw [e24, e20] at this
    exact this
  · have := b3 r hr Y.2.1
    rw [e24, et r (by omega), s6.2.2.2.2.1] at this
    exact this
theorem ma_nnF {nn nr : Nat} {x : gS} (H : ma_IV nn nr x) : cN ((hS x).1 1 7) = nn ∧ cN ((hS x).1 1 8) = nr := by
  obtain ⟨h1, -⟩ := ma_hE H
  obtain ⟨-, -, n3, n4⟩ := ma_IV_n h1
  exact ⟨n3, n4⟩
theorem ma_st_least {x : gS} (H : ma_INV x) (pt : Int32) : ma_INV (c_leastS x pt) ∧ c_least x pt = m_least (c_leastS x pt) pt ∧ ma_INV (m_leastS (c_leastS x pt) pt) := by
  obtain ⟨nn, nr, H⟩ := H
  obtain ⟨h1, h2, h3, h4, h5, h6⟩ := ma_hE H
  unfold c_least c_leastS m_least m_leastS
  by_cases q : q_z01 pt = 0
  · simp only [if_pos q]
    exact ⟨⟨nn, nr, H⟩, trivial, ⟨nn, nr, H⟩⟩
  · simp only [if_neg q]
    by_cases q2 : h_r x = 0
    · simp only [if_pos q2]
      obtain ⟨k1, k2, k3, -⟩ := ma_IV_k h1
      have s6 := ma_sm6_t (ma_fq_6 (ma_fq_h H.1)) k3
      exact ⟨⟨nn, nr, h1⟩, by rw [if_pos ((h6 _ k1 k2 s6).mpr q2)], ⟨nn, nr, k1⟩⟩
    · simp only [if_neg q2]
      obtain ⟨f1, f2⟩ := ma_fE H q2
      obtain ⟨k1, k2, k3, k4⟩ := ma_IV_k f1
      obtain ⟨g1, g2, -, -⟩ := f2 _ k1 k2 k4
      refine ⟨⟨nn, nr, f1⟩, ?_, ⟨nn, nr, k1⟩⟩
      rw [if_neg g1, (ma_nnF H).1]
      exact g2 pt
theorem ma_st_value {x : gS} (H : ma_INV x) (v pt : Int32) : ma_INV (c_valueS x v pt) ∧ c_value x v pt = m_value (c_valueS x v pt) v pt ∧ ma_INV (m_valueS (c_valueS x v pt) v pt) := by
  obtain ⟨nn, nr, H⟩ := H
  obtain ⟨h1, h2, h3, h4, h5, h6⟩ := ma_hE H
  obtain ⟨v1, v2⟩ := ma_isN H v
  unfold c_value c_valueS m_value m_valueS
  by_cases q0 : p_hasN x.1 v = 0
  · have q1 : m_isN x.1 v = 0 := by rw [← v1]; exact q0
    simp only [if_pos q0, if_pos q1]
    exact ⟨⟨nn, nr, H⟩, trivial, ⟨nn, nr, H⟩⟩
  · have vv := v2 q0
    by_cases q : q_z01 pt = 0
    · have q1 : ¬ m_isN x.1 v = 0 := by rw [← v1]; exact q0
      simp only [if_pos q, if_neg q0, if_neg q1]
      exact ⟨⟨nn, nr, H⟩, trivial, ⟨nn, nr, H⟩⟩
    · simp only [if_neg q, if_neg q0]
      by_cases q2 : h_r x = 0
      · have q1 : ¬ m_isN (hS x).1 v = 0 := by rw [← (ma_isN h1 v).1]; unfold p_hasN; rw [h1.1.1]; unfold p_hasN at q0; rw [H.1.1] at q0; exact q0
        simp only [if_pos q2, if_neg q1]
        obtain ⟨k1, k2, k3, -⟩ := ma_IV_k h1
        have s6 := ma_sm6_t (ma_fq_6 (ma_fq_h H.1)) k3
        exact ⟨⟨nn, nr, h1⟩, by rw [if_pos ((h6 _ k1 k2 s6).mpr q2)], ⟨nn, nr, k1⟩⟩
      · obtain ⟨f1, f2⟩ := ma_fE H q2
        have q1 : ¬ m_isN (fS (hS x)).1 v = 0 := by rw [← (ma_isN f1 v).1]; unfold p_hasN; rw [f1.1.1]; unfold p_hasN at q0; rw [H.1.1] at q0; exact q0
        simp only [if_neg q2, if_neg q1]
        obtain ⟨k1, k2, k3, k4⟩ := ma_IV_k f1
        obtain ⟨g1, -, g3, -⟩ := f2 _ k1 k2 k4
        refine ⟨⟨nn, nr, f1⟩, ?_, ⟨nn, nr, k1⟩⟩
        rw [if_neg g1]
        exact g3 (cN v) pt vv.1
theorem ma_st_tight {x : gS} (H : ma_INV x) (r : Int32) : ma_INV (c_tightS x r) ∧ c_tight x r = m_tight (c_tightS x r) r ∧ ma_INV (m_tightS (c_tightS x r) r) := by
  obtain ⟨nn, nr, H⟩ := H
  obtain ⟨h1, h2, h3, h4, h5, h6⟩ := ma_hE H
  obtain ⟨v1, v2⟩ := ma_isR H r
  have tr : ∀ y : gS, ma_IV nn nr y → ma_sm6 x.2.2.1 y.2.2.1 → p_hasR y.1 y.2.2.1 r = p_hasR x.1 x.2.2.1 r := by
    intro y Y s6
    unfold p_hasR
    rw [Y.1.2.1, H.1.2.1, s6.2.2.2.2.2.1]
  unfold c_tight c_tightS m_tight m_tightS
  by_cases q0 : p_hasR x.1 x.2.2.1 r = 0
  · have q1 : m_isR x.1 x.2.2.1 r = 0 := by rw [← v1]; exact q0
    simp only [if_pos q0, if_pos q1]
    exact ⟨⟨nn, nr, H⟩, trivial, ⟨nn, nr, H⟩⟩
  · have vv := v2 q0
    simp only [if_neg q0]
    by_cases q2 : h_r x = 0
    · have q1 : ¬ m_isR (hS x).1 (hS x).2.2.1 r = 0 := by rw [← (ma_isR h1 r).1, tr _ h1 (ma_fq_6 (ma_fq_h H.1))]; exact q0
      simp only [if_pos q2, if_neg q1]
      obtain ⟨k1, k2, k3, -⟩ := ma_IV_k h1
      have s6 := ma_sm6_t (ma_fq_6 (ma_fq_h H.1)) k3
      exact ⟨⟨nn, nr, h1⟩, by rw [if_pos ((h6 _ k1 k2 s6).mpr q2)], ⟨nn, nr, k1⟩⟩
    · obtain ⟨f1, f2⟩ := ma_fE H q2
      have hr1 := h2.resolve_left q2
      obtain ⟨-, -, fq⟩ := ma_fS h1.1 h3 (h5 hr1) (by rw [h4]; exact hr1)
      have q1 : ¬ m_isR (fS (hS x)).1 (fS (hS x)).2.2.1 r = 0 := by rw [← (ma_isR f1 r).1, tr _ f1 (ma_sm6_t (ma_fq_6 (ma_fq_h H.1)) (ma_fq_6 fq))]; exact q0
      simp only [if_neg q2, if_neg q1]
      obtain ⟨k1, k2, k3, k4⟩ := ma_IV_k f1
      obtain ⟨g1, -, -, g4⟩ := f2 _ k1 k2 k4
      refine ⟨⟨nn, nr, f1⟩, ?_, ⟨nn, nr, k1⟩⟩
      rw [if_neg g1, (ma_nnF H).1, (ma_IV_n f1).1]
      have := g4 (cN r) vv.1
      by_cases w : s_tsum (fS (hS x)).2.2.1 (fS (hS x)).2.2.2 (cN r) nn = ((fS (hS x)).2.2.1 10 (cN r)).toInt64 * (fS (hS x)).2.1 2 4
      · rw [if_pos w, if_pos (this.mp w)]
      · rw [if_neg w, if_neg (fun z => w (this.mpr z))]
theorem ma_re {nn nr : Nat} {x : gS} (H : ma_IV nn nr x) (v sd pt : Int32) : (q_re x v sd pt = -1 ∧ q_reS x v sd pt = x ∧ m_isN x.1 v = 0) ∨ (q_re x v sd pt = -2 ∧ q_reS x v sd pt = x ∧ ¬ m_isN x.1 v = 0 ∧ (q_z01 sd = 0 ∨ q_z01 pt = 0)) ∨ (q_re x v sd pt = -3 ∧ q_reS x v sd pt = hS x ∧ ¬ p_hasN x.1 v = 0 ∧ ¬ q_z01 sd = 0 ∧ ¬ q_z01 pt = 0 ∧ h_r x = 0) ∨ (q_re x v sd pt = 0 ∧ ¬ p_hasN x.1 v = 0 ∧ ¬ q_z01 sd = 0 ∧ ¬ q_z01 pt = 0 ∧ ¬ h_r x = 0) := by
  obtain ⟨v1, -⟩ := ma_isN H v
  unfold q_re q_reS
  by_cases q0 : p_hasN x.1 v = 0
  · rw [if_pos q0, if_pos q0]
    exact Or.inl ⟨rfl, rfl, by rw [← v1]; exact q0⟩
  · rw [if_neg q0, if_neg q0]
    have q1 : ¬ m_isN x.1 v = 0 := by rw [← v1]; exact q0
    by_cases q2 : q_z01 sd = 0
    · rw [if_pos q2, if_pos q2]
      exact Or.inr (Or.inl ⟨rfl, rfl, q1, Or.inl q2⟩)
    · rw [if_neg q2, if_neg q2]
      by_cases q3 : q_z01 pt = 0
      · rw [if_pos q3, if_pos q3]
        exact Or.inr (Or.inl ⟨rfl, rfl, q1, Or.inr q3⟩)
      · rw [if_neg q3, if_neg q3]
        by_cases q4 : h_r x = 0
        · rw [if_pos q4]
          exact Or.inr (Or.inr (Or.inl ⟨rfl, rfl, q0, q2, q3, q4⟩))
        · rw [if_neg q4]
          exact Or.inr (Or.inr (Or.inr ⟨rfl, q0, q2, q3, q4⟩))
theorem ma_pN {nn nr : Nat} {x y : gS} (H : ma_IV nn nr x) (Y : ma_IV nn nr y) {v : Int32} (h : ¬ p_hasN x.1 v = 0) : ¬ m_isN y.1 v = 0 := by
  rw [← (ma_isN Y v).1]
  unfold p_hasN at h ⊢
  rw [Y.1.1]
  rw [H.1.1] at h
  exact h
theorem ma_st_reach {x : gS} (H : ma_INV x) (v sd pt : Int32) : ma_INV (c_reachS x v sd pt) ∧ c_reach x v sd pt = m_reach (c_reachS x v sd pt) v sd pt ∧ ma_INV (m_reachS (c_reachS x v sd pt) v sd pt) := by
  obtain ⟨nn, nr, H⟩ := H
  obtain ⟨h1, h2, h3, h4, h5, h6⟩ := ma_hE H
  unfold c_reach c_reachS
  rcases ma_re H v sd pt with ⟨r1, r2, r3⟩ | ⟨r1, r2, r3, r4⟩ | ⟨r1, r2, r3, r4, r5, r6⟩ | ⟨r1, r3, r4, r5, r6⟩
  · rw [r1, r2, if_neg (by decide), if_neg (by decide)]
    unfold m_reach m_reachS
    rw [if_pos r3, if_pos r3]
    exact ⟨⟨nn, nr, H⟩, rfl, ⟨nn, nr, H⟩⟩
  · rw [r1, r2, if_neg (by decide), if_neg (by decide)]
    unfold m_reach m_reachS
    rw [if_neg r3, if_neg r3]
    rcases r4 with r4 | r4
    · rw [if_pos r4, if_pos r4]
      exact ⟨⟨nn, nr, H⟩, rfl, ⟨nn, nr, H⟩⟩
    · by_cases q : q_z01 sd = 0
      · rw [if_pos q, if_pos q]
        exact ⟨⟨nn, nr, H⟩, rfl, ⟨nn, nr, H⟩⟩
      · rw [if_neg q, if_neg q, if_pos r4, if_pos r4]
        exact ⟨⟨nn, nr, H⟩, rfl, ⟨nn, nr, H⟩⟩
  · rw [r1, r2, if_neg (by decide), if_neg (by decide)]
    have q1 := ma_pN H h1 r3
    unfold m_reach m_reachS
    rw [if_neg q1, if_neg q1, if_neg r4, if_neg r4, if_neg r5, if_neg r5]
    obtain ⟨k1, k2, k3, -⟩ := ma_IV_k h1
    have s6 := ma_sm6_t (ma_fq_6 (ma_fq_h H.1)) k3
    rw [if_pos ((h6 _ k1 k2 s6).mpr r6)]
    exact ⟨⟨nn, nr, h1⟩, rfl, ⟨nn, nr, k1⟩⟩
  · rw [r1, if_pos rfl, if_pos rfl]
    have hr1 := h2.resolve_left r6
    have vv := (ma_isN H v).2 r3
    have zs := (ma_z01 (v := sd)).resolve_left (fun w => r4 w.1)
    obtain ⟨e1, e2, N, U, e3, e4⟩ := ma_eS (sd := sd) (pt := pt) h1.1 h3 (by rw [h4]; exact hr1) (h5 hr1) vv.1
    have I1 := ma_IV_fq h1 e1 e2
    obtain ⟨k1, k2, k3, k4⟩ := ma_IV_k I1
    have q1 := ma_pN H I1 r3
    unfold m_reach m_reachS
    rw [if_neg q1, if_neg q1, if_neg r4, if_neg r4, if_neg r5, if_neg r5]
    have s6 := ma_sm6_t (ma_fq_6 (ma_fq_h H.1)) (ma_sm6_t (ma_fq_6 e2) k3)
    have hh : ¬ (kS (eS (hS x) (cN v) sd)).1 5 10 = 0 := fun w => r6 ((h6 _ k1 k2 s6).mp w)
    rw [if_neg hh, e3]
    refine ⟨⟨nn, nr, I1⟩, ?_, ⟨nn, nr, k1⟩⟩
    refine ma_reachE k1.1.2.2.1 k1.2.2.2.1 k2 hh vv.1 zs.2 ?_
    have s7 := ma_sm6_t (ma_fq_6 e2) k3
    have hr8 := k1.1.2.2.1.2.1
    obtain ⟨Y, t, y1, y2, y3, y4, y5, y6, y7⟩ := e4
    have hR : ∀ r, r < nr → ((hS x).2.2.1 12 r ≠ 0 ↔ (kS (eS (hS x) (cN v) sd)).2.2.1 12 r ≠ 0) := fun r _ => by rw [s7.2.2.2.2.2.1]
    have eF : ∀ X, ma_FC nn nr (kS (eS (hS x) (cN v) sd)).2.2.1 (fun r => (kS (eS (hS x) (cN v) sd)).2.2.1 12 r ≠ 0) X ↔ ma_FC nn nr (hS x).2.2.1 (fun r => (hS x).2.2.1 12 r ≠ 0) X := fun X => (ma_fs_c hr8 s7).trans (ma_fs_R hR).symm
    have eM : ∀ X, ma_MC nn nr (kS (eS (hS x) (cN v) sd)).2.2.1 (fun r => (kS (eS (hS x) (cN v) sd)).2.2.1 12 r ≠ 0) X ↔ ma_MC nn nr (hS x).2.2.1 (fun r => (hS x).2.2.1 12 r ≠ 0) X := by
      intro X
      unfold ma_MC
      constructor
      · intro w X' hX'
        have := w X' ((eF X').mpr hX')
        rw [ma_cost_c s7.2.2.1, ma_cost_c s7.2.2.1] at this
        exact this
      · intro w X' hX'
        rw [ma_cost_c s7.2.2.1, ma_cost_c s7.2.2.1]
        exact w X' ((eF X').mp hX')
    exact ⟨Y, t, (eF Y).mpr y1, ma_cor_c hr8 s7 hR y2, (eM Y).mpr y3, y4, y5, y6, fun X x1 x2 => y7 X ((eF X).mp x1) ((eM X).mp x2)⟩
theorem ma_st_far {x : gS} (H : ma_INV x) (v sd pt : Int32) : ma_INV (c_farS x v sd pt) ∧ c_far x v sd pt = m_far (c_farS x v sd pt) v sd pt ∧ ma_INV (m_reachS (c_farS x v sd pt) v sd pt) := by
  obtain ⟨nn, nr, H⟩ := H
  obtain ⟨h1, h2, h3, h4, h5, h6⟩ := ma_hE H
  unfold c_far c_farS
  rcases ma_re H v sd pt with ⟨r1, r2, r3⟩ | ⟨r1, r2, r3, r4⟩ | ⟨r1, r2, r3, r4, r5, r6⟩ | ⟨r1, r3, r4, r5, r6⟩
  · rw [r1, r2, if_neg (by decide), if_neg (by decide)]
    unfold m_far m_reachS
    rw [if_pos r3, if_pos r3]
    exact ⟨⟨nn, nr, H⟩, rfl, ⟨nn, nr, H⟩⟩
  · rw [r1, r2, if_neg (by decide), if_neg (by decide)]
    unfold m_far m_reachS
    rw [if_neg r3, if_neg r3]
    rcases r4 with r4 | r4
    · rw [if_pos r4, if_pos r4]
      exact ⟨⟨nn, nr, H⟩, rfl, ⟨nn, nr, H⟩⟩
    · by_cases q : q_z01 sd = 0
      · rw [if_pos q, if_pos q]
        exact ⟨⟨nn, nr, H⟩, rfl, ⟨nn, nr, H⟩⟩
      · rw [if_neg q, if_neg q, if_pos r4, if_pos r4]
        exact ⟨⟨nn, nr, H⟩, rfl, ⟨nn, nr, H⟩⟩
  · rw [r1, r2, if_neg (by decide), if_neg (by decide)]
    have q1 := ma_pN H h1 r3
    unfold m_far m_reachS
    rw [if_neg q1, if_neg q1, if_neg r4, if_neg r4, if_neg r5, if_neg r5]
    obtain ⟨k1, k2, k3, -⟩ := ma_IV_k h1
    have s6 := ma_sm6_t (ma_fq_6 (ma_fq_h H.1)) k3
    rw [if_pos ((h6 _ k1 k2 s6).mpr r6)]
    exact ⟨⟨nn, nr, h1⟩, rfl, ⟨nn, nr, k1⟩⟩
  · rw [r1, if_pos rfl, if_pos rfl]
    have hr1 := h2.resolve_left r6
    have vv := (ma_isN H v).2 r3
    have zs := (ma_z01 (v := sd)).resolve_left (fun w => r4 w.1)
    obtain ⟨e1, e2, N, U, e3, e4⟩ := ma_aS (sd := sd) (pt := pt) h1.1 h3 (by rw [h4]; exact hr1) (h5 hr1) vv.1
    have I1 := ma_IV_fq h1 e1 e2
    obtain ⟨k1, k2, k3, k4⟩ := ma_IV_k I1
    have q1 := ma_pN H I1 r3
    unfold m_far m_reachS
    rw [if_neg q1, if_neg q1, if_neg r4, if_neg r4, if_neg r5, if_neg r5]
    have s6 := ma_sm6_t (ma_fq_6 (ma_fq_h H.1)) (ma_sm6_t (ma_fq_6 e2) k3)
    have hh : ¬ (kS (aS (hS x) (cN v) sd)).1 5 10 = 0 := fun w => r6 ((h6 _ k1 k2 s6).mp w)
    rw [if_neg hh, e3]
    refine ⟨⟨nn, nr, I1⟩, ?_, ⟨nn, nr, k1⟩⟩
    refine ma_farE k1.1.2.2.1 k1.2.2.2.1 k2 hh vv.1 zs.2 ?_
    have s7 := ma_sm6_t (ma_fq_6 e2) k3
    have hr8 := k1.1.2.2.1.2.1
    obtain ⟨Y, t, y1, y2, y3, y4, y5, y6, y7⟩ := e4
    have hR : ∀ r, r < nr → ((hS x).2.2.1 12 r ≠ 0 ↔ (kS (aS (hS x) (cN v) sd)).2.2.1 12 r ≠ 0) := fun r _ => by rw [s7.2.2.2.2.2.1]
    have eF : ∀ X, ma_FC nn nr (kS (aS (hS x) (cN v) sd)).2.2.1 (fun r => (kS (aS (hS x) (cN v) sd)).2.2.1 12 r ≠ 0) X ↔ ma_FC nn nr (hS x).2.2.1 (fun r => (hS x).2.2.1 12 r ≠ 0) X := fun X => (ma_fs_c hr8 s7).trans (ma_fs_R hR).symm
    exact ⟨Y, t, (eF Y).mpr y1, ma_cor_c hr8 s7 hR y2, trivial, y4, y5, y6, fun X x1 x2 => y7 X ((eF X).mp x1) trivial⟩
