/-! THE MATHEMATICS, 26: class and reference hold one problem, and find the same -/
def ma_EQ (nn nr : Nat) (a : gF) : Prop := (∀ i, i < nn → a 27 i = a 6 i ∧ a 28 i = a 7 i ∧ a 29 i = a 8 i) ∧ (∀ r, r < nr → a 30 r = a 9 r ∧ a 31 r = a 10 r ∧ a 33 r = a 12 r ∧ (∀ i, i < nn → a 32 (5 * r + i) = a (40 + r) i) ∧ ∀ i, nn ≤ i → i < 5 → a (40 + r) i = 0)
def ma_WI (nn nr : Nat) (I a : gF) : Prop := (I 3 8 = 0 ∧ ∀ Q, ¬ ma_WC nn nr a Q) ∨ (I 3 8 = 1 ∧ ma_WC nn nr a (ma_fb1 a) ∧ (I 3 7).toInt = ma_cost nn (ma_ci a 8) (ma_fb1 a) ∧ ∀ Q, ma_WC nn nr a Q → ma_pq nn (ma_ci a 8) (ma_fb1 a) Q)
def ma_IV (nn nr : Nat) (x : gS) : Prop := ma_CI nn nr x ∧ x.1 5 0 = nI nn ∧ x.1 5 1 = nI nr ∧ ma_EQ nn nr x.2.2.1 ∧ (x.1 5 9 = 0 ∨ (x.1 5 9 = 1 ∧ ma_KN nn nr x)) ∧ (x.1 3 8 = 0 ∨ x.1 3 8 = 1) ∧ (x.1 3 9 = 0 ∨ (x.1 3 9 = 1 ∧ ma_WI nn nr x.1 x.2.2.1))
theorem ma_dM {nn nr : Nat} {a : gF} (hd : ma_dat nn nr a) (hE : ma_EQ nn nr a) : ma_datM nn nr a := by
  obtain ⟨d1, d2, d3, d4⟩ := hd
  refine ⟨d1, d2, fun i hi => ?_, fun r hr => ?_⟩
  · obtain ⟨e1, e2, e3⟩ := hE.1 i hi
    rw [e1, e2, e3]; exact d3 i hi
  · obtain ⟨e1, e2, e3, e4, -⟩ := hE.2 r hr
    rw [e1, e2]
    exact ⟨(d4 r hr).1, (d4 r hr).2.1, fun i hi => by rw [e4 i hi]; exact (d4 r hr).2.2 i hi⟩
theorem ma_FEC {nn nr : Nat} {a : gF} (hE : ma_EQ nn nr a) {set : Int32} {R : Nat → Prop} (hR : ∀ r, r < nr → (m_bt set r ≠ 0 ↔ R r)) {X : Nat → Int} : ma_FE nn nr a set X ↔ ma_FC nn nr a R X := by
  have hp : ma_pt nn (ma_ci a 27) (ma_ci a 28) X ↔ ma_pt nn (ma_ci a 6) (ma_ci a 7) X := by
    have e : ∀ i, i < nn → (a 27 i).toInt = (a 6 i).toInt ∧ (a 28 i).toInt = (a 7 i).toInt := fun i hi => by
      obtain ⟨e1, e2, -⟩ := hE.1 i hi
      rw [e1, e2]; exact ⟨rfl, rfl⟩
    constructor
    · rintro ⟨h1, h2, h3⟩
      exact ⟨h1, h2, fun i hi => by have := h3 i hi; unfold ma_ci at this ⊢; rw [(e i hi).1, (e i hi).2] at this; exact this⟩
    · rintro ⟨h1, h2, h3⟩
      exact ⟨h1, h2, fun i hi => by have := h3 i hi; unfold ma_ci at this ⊢; rw [(e i hi).1, (e i hi).2]; exact this⟩
  have hr : ∀ r, r < nr → (ma_kr1 nn (ma_ci a 30 r) (ma_ci a 31 r) (ma_fm2 a r) X ↔ ma_kr1 nn (ma_ci a 9 r) (ma_ci a 10 r) (ma_fa a r) X) := by
    intro r hr
    obtain ⟨e1, e2, e3, e4, -⟩ := hE.2 r hr
    have es : ma_sm (fun i => ma_fm2 a r i * X i) nn = ma_sm (fun i => ma_fa a r i * X i) nn := ma_sm_congr (fun i hi => by show (a 32 (5 * r + i)).toInt * _ = (a (40 + r) i).toInt * _; rw [e4 i hi])
    unfold ma_kr1 ma_ci
    rw [es, e1, e2]
  constructor
  · rintro ⟨h1, h2⟩
    exact ⟨hp.mp h1, fun r hr2 hR2 => (hr r hr2).mp (h2 r hr2 ((hR r hr2).mpr hR2))⟩
  · rintro ⟨h1, h2⟩
    exact ⟨hp.mpr h1, fun r hr2 hR2 => (hr r hr2).mpr (h2 r hr2 ((hR r hr2).mp hR2))⟩
theorem ma_corC {nn nr : Nat} {a : gF} (hE : ma_EQ nn nr a) {set : Int32} {R : Nat → Prop} (hR : ∀ r, r < nr → (m_bt set r ≠ 0 ↔ R r)) {t : Nat → Nat} {X : Nat → Int} (h : ma_cor nn (ma_C nn (ma_ci a 6) (ma_ci a 7) (ma_ci a 10) (ma_fa a)) (ma_th nn nr R) t X) : ma_cor nn (ma_CM nn a) (ma_TH nn nr set) t X := by
  obtain ⟨h1, h2, h3, h4⟩ := h
  have eC : ∀ i, i < nn → ma_CM nn a (t i) = ma_C nn (ma_ci a 6) (ma_ci a 7) (ma_ci a 10) (ma_fa a) (t i) := by
    intro i hi
    obtain ⟨c1, c2, c3⟩ := h1 i hi
    unfold ma_CM ma_C
    by_cases q : t i < 8
    · rw [if_pos q, if_pos q]
      obtain ⟨e1, e2, e3, e4, -⟩ := hE.2 (t i) (c2 q).1
      refine ma_fm_c (fun s hs => ?_) ?_
      · show (a 32 (5 * t i + s)).toInt = (a (40 + t i) s).toInt
        rw [e4 s hs]
      · show -(a 31 (t i)).toInt = -(a 10 (t i)).toInt
        rw [e2]
    · rw [if_neg q, if_neg q]
      have c3 := c3 (by omega)
      by_cases q2 : t i < 13
      · rw [if_pos q2, if_pos q2]
        obtain ⟨e1, e2, -⟩ := hE.1 (t i - 8) (by omega)
        refine ma_fm_c (fun _ _ => rfl) ?_
        show -(a 27 (t i - 8)).toInt = -(a 6 (t i - 8)).toInt
        rw [e1]
      · rw [if_neg q2, if_neg q2]
        obtain ⟨e1, e2, -⟩ := hE.1 (t i - 13) (by omega)
        refine ma_fm_c (fun _ _ => rfl) ?_
        show -(a 28 (t i - 13)).toInt = -(a 7 (t i - 13)).toInt
        rw [e2]
  exact ⟨fun i hi => (ma_th_R (fun r hr => (hR r hr).symm)).mp (h1 i hi), h2, fun i hi => by rw [eC i hi]; exact h3 i hi, fun Z z1 z2 z3 => h4 Z z1 z2 (fun i hi => by rw [← eC i hi]; exact z3 i hi)⟩
theorem ma_allE {nn nr : Nat} {a : gF} (hE : ma_EQ nn nr a) : ∀ n, n ≤ nr → m_all a n = s_all a n
  | 0, _ => rfl
  | n + 1, hn => by
    show (if a 33 n = 0 then m_all a n ||| 0 else m_all a n ||| ((1 : Int32) <<< (nI n &&& 31))) = (if a 12 n = 0 then s_all a n else s_all a n ||| ((1 : Int32) <<< (nI n &&& 31)))
    rw [ma_allE hE n (by omega), (hE.2 n (by omega)).2.2.1, Int32.or_zero]
theorem ma_allR {nn nr : Nat} {a : gF} (hr : nr ≤ 8) (hE : ma_EQ nn nr a) : ∀ r, r < nr → (m_bt (m_all a nr) r ≠ 0 ↔ a 12 r ≠ 0) := by
  intro r h
  rw [(ma_all_S (a := a) hr).2 r (by omega), (hE.2 r h).2.2.1]
  exact ⟨fun w => w.2, fun w => ⟨h, w⟩⟩
theorem ma_costE {nn nr : Nat} {a : gF} (hE : ma_EQ nn nr a) (X : Nat → Int) : ma_cost nn (ma_ci a 29) X = ma_cost nn (ma_ci a 8) X := ma_sm_congr (fun i hi => by show (a 29 i).toInt * _ = (a 8 i).toInt * _; rw [(hE.1 i hi).2.2])
theorem ma_hasE {nn nr : Nat} {x : gS} (hd : ma_dat nn nr x.2.2.1) (hE : ma_EQ nn nr x.2.2.1) (K : ma_KN nn nr x) : (x.1 5 10 ≠ 0 ↔ ∃ X, ma_FC nn nr x.2.2.1 (fun r => x.2.2.1 12 r ≠ 0) X) := by
  obtain ⟨S, s1, s2, -, s4, -⟩ := K
  have hR := ma_allR hd.2.1 hE
  rw [s1]
  constructor
  · rintro ⟨X, hX⟩
    exact ⟨X, (ma_FEC hE hR).mp (s2 X hX)⟩
  · rintro ⟨X, hX⟩
    obtain ⟨t, Y, y1, y2⟩ := ma_exc (ma_dM hd hE) (ma_all_S (a := x.2.2.1) hd.2.1).1 ⟨X, (ma_FEC hE hR).mpr hX⟩
    obtain ⟨Z, z1, -⟩ := s4 t Y y1 y2
    exact ⟨Z, z1⟩
/-- a corner that the class tells is among those that the reference has seen -/
def ma_SN (nn nr : Nat) (x : gS) (S : (Nat → Int) → Prop) : Prop := (∀ X, S X → ma_FC nn nr x.2.2.1 (fun r => x.2.2.1 12 r ≠ 0) X ∧ ma_sb nn X) ∧ (∀ t Y, ma_FC nn nr x.2.2.1 (fun r => x.2.2.1 12 r ≠ 0) Y → ma_cor nn (ma_C nn (ma_ci x.2.2.1 6) (ma_ci x.2.2.1 7) (ma_ci x.2.2.1 10) (ma_fa x.2.2.1)) (ma_th nn nr (fun r => x.2.2.1 12 r ≠ 0)) t Y → ∃ Z, S Z ∧ ma_eq Y Z) ∧ ma_Acc nn (ma_ci x.2.2.1 8) S x.1 x.2.1 x.2.2.2 ∧ ∃ X, S X
theorem ma_SN_of {nn nr : Nat} {x : gS} (hd : ma_dat nn nr x.2.2.1) (hE : ma_EQ nn nr x.2.2.1) (K : ma_KN nn nr x) (hh : x.1 5 10 ≠ 0) : ∃ S, ma_SN nn nr x S := by
  obtain ⟨S, s1, s2, s3, s4, -⟩ := K
  have hR := ma_allR hd.2.1 hE
  have A := s3 hh
  have A' : ma_Acc nn (ma_ci x.2.2.1 8) S x.1 x.2.1 x.2.2.2 := by
    have e : ∀ X, ma_cost nn (ma_ci x.2.2.1 29) X = ma_cost nn (ma_ci x.2.2.1 8) X := ma_costE hE
    unfold ma_Acc at A ⊢
    simp only [e] at A
    exact A
  exact ⟨S, fun X hX => ⟨(ma_FEC hE hR).mp (s2 X hX), A.1 X hX⟩, fun t Y y1 y2 => s4 t Y ((ma_FEC hE hR).mpr y1) (ma_corC hE hR y2), A', s1.mp hh⟩
theorem ma_sbC {nn nr : Nat} {a : gF} {R : Nat → Prop} {X : Nat → Int} (hd : ma_dat nn nr a) (hX : ma_FC nn nr a R X) (h5 : X 5 ≤ 7085880) : ma_sb nn X := by
  obtain ⟨⟨x1, x2, x3⟩, -⟩ := hX
  refine ⟨x1, h5, fun i hi => ?_⟩
  have d := hd.2.2.1 i hi
  obtain ⟨l1, l2⟩ := x3 i hi
  have l1 : (a 6 i).toInt * X 5 ≤ X i := l1
  have l2 : X i ≤ (a 7 i).toInt * X 5 := l2
  have m1 : (-100) * X 5 ≤ (a 6 i).toInt * X 5 := Int.mul_le_mul_of_nonneg_right (by omega) (by omega)
  have m2 : (a 7 i).toInt * X 5 ≤ 100 * X 5 := Int.mul_le_mul_of_nonneg_right (by omega) (by omega)
  omega
/-- the seen points' lowest cost is the lowest of all -/
theorem ma_mcE {nn nr : Nat} {x : gS} {S : (Nat → Int) → Prop} (hd : ma_dat nn nr x.2.2.1) (hn : nn ≤ 5) (N : ma_SN nn nr x S) {t : Nat → Nat} {Y : Nat → Int} (y1 : ma_FC nn nr x.2.2.1 (fun r => x.2.2.1 12 r ≠ 0) Y) (y2 : ma_cor nn (ma_C nn (ma_ci x.2.2.1 6) (ma_ci x.2.2.1 7) (ma_ci x.2.2.1 10) (ma_fa x.2.2.1)) (ma_th nn nr (fun r => x.2.2.1 12 r ≠ 0)) t Y) (y3 : ma_MC nn nr x.2.2.1 (fun r => x.2.2.1 12 r ≠ 0) Y) : x.1 5 24 = 1 ∧ 0 < (x.2.1 5 12).toInt ∧ (x.2.1 5 12).toInt ≤ 7085880 ∧ (x.2.1 5 11).toInt.natAbs ≤ 1000000000000 ∧ ma_cost nn (ma_ci x.2.2.1 8) Y * (x.2.1 5 12).toInt = (x.2.1 5 11).toInt * Y 5 ∧ (∀ X, S X → (ma_cost nn (ma_ci x.2.2.1 8) X * (x.2.1 5 12).toInt = (x.2.1 5 11).toInt * X 5 ↔ ma_MC nn nr x.2.2.1 (fun r => x.2.2.1 12 r ≠ 0) X)) := by
  obtain ⟨n1, n2, ⟨a0, a1⟩, X1, hX1⟩ := N
  rcases a1 with ⟨-, q⟩ | ⟨i1, -, ⟨⟨X0, x1, x2, x3⟩, cm⟩, -⟩
  · exact absurd hX1 (q X1)
  · obtain ⟨Z, z1, z2⟩ := n2 t Y y1 y2
    obtain ⟨f0, sb0⟩ := n1 X0 x1
    have p12 : 0 < (x.2.1 5 12).toInt := by rw [x3]; exact sb0.1
    have hZ := (n1 Z z1).2.1
    have hY := y1.1.1
    have k1 : ma_cost nn (ma_ci x.2.2.1 8) Y * (x.2.1 5 12).toInt ≤ (x.2.1 5 11).toInt * Y 5 := by rw [x2, x3]; exact y3 X0 f0
    have k2 : ma_cost nn (ma_ci x.2.2.1 8) Y * Z 5 = ma_cost nn (ma_ci x.2.2.1 8) Z * Y 5 := ma_sm_eq hn z2
    have k3 : (x.2.1 5 11).toInt * Y 5 ≤ ma_cost nn (ma_ci x.2.2.1 8) Y * (x.2.1 5 12).toInt := ma_fr p12 hZ hY (cm Z z1) (Int.le_of_eq k2.symm)
    have k4 : ma_cost nn (ma_ci x.2.2.1 8) Y * (x.2.1 5 12).toInt = (x.2.1 5 11).toInt * Y 5 := Int.le_antisymm k1 k3
    refine ⟨i1, p12, by rw [x3]; exact sb0.2.1, ?_, k4, fun X hX => ⟨fun h X' hX' => ?_, fun h => ?_⟩⟩
    · rw [x2]
      have := ma_cost_b (co := ma_ci x.2.2.1 8) hn (fun i hi => (hd.2.2.1 i hi).2.2.2) sb0.2.2
      omega
    · have hX5 := (n1 X hX).2.1
      have e1 : ma_cost nn (ma_ci x.2.2.1 8) X * Y 5 = ma_cost nn (ma_ci x.2.2.1 8) Y * X 5 := ma_fre hX5 p12 hY h k4.symm
      exact ma_fr hX5 hY hX'.1.1 (Int.le_of_eq e1) (y3 X' hX')
    · have hX5 := (n1 X hX).2.1
      have e1 := h Y y1
      have e2 := y3 X (n1 X hX).1
      have e3 : ma_cost nn (ma_ci x.2.2.1 8) X * Y 5 = ma_cost nn (ma_ci x.2.2.1 8) Y * X 5 := Int.le_antisymm e1 e2
      exact ma_fre hX5 hY p12 e3 k4
theorem ma_endE {nn nr n0 : Nat} {x : gS} {W : (Nat → Int) → Prop} {N U : Int64} {p q : Int64} {sd pt : Int32} {T : (Nat → Int) → Prop} (hd : ma_dat nn nr x.2.2.1) (h0 : n0 < nn) (hsd : sd = 0 ∨ sd = 1) (E : ma_EN nn nr x.2.2.1 W n0 (s_w sd).toInt N.toInt U.toInt) (hT : ∀ X, T X → ma_FC nn nr x.2.2.1 (fun r => x.2.2.1 12 r ≠ 0) X ∧ ma_sb nn X ∧ W X) (hC : ∀ t Y, ma_FC nn nr x.2.2.1 (fun r => x.2.2.1 12 r ≠ 0) Y → ma_cor nn (ma_C nn (ma_ci x.2.2.1 6) (ma_ci x.2.2.1 7) (ma_ci x.2.2.1 10) (ma_fa x.2.2.1)) (ma_th nn nr (fun r => x.2.2.1 12 r ≠ 0)) t Y → W Y → ∃ Z, T Z ∧ ma_eq Y Z) (hn : nn ≤ 5) (hx : ma_ex T (2 * n0 + cN sd) p.toInt q.toInt) : s_part N U pt = m_lowest p q pt := by
  obtain ⟨Y, t, y1, y2, y3, y4, y5, y6, y7⟩ := E
  obtain ⟨⟨X, x1, x2, x3⟩, xm⟩ := hx
  obtain ⟨f1, f2, f3⟩ := hT X x1
  obtain ⟨Z, z1, z2⟩ := hC t Y y1 y2 y3
  obtain ⟨g1, g2, -⟩ := hT Z z1
  have hcd : cN sd = 0 ∧ sd = 0 ∨ cN sd = 1 ∧ sd = 1 := by
    rcases hsd with w | w <;> rw [w]
    · exact Or.inl ⟨rfl, rfl⟩
    · exact Or.inr ⟨rfl, rfl⟩
  have hdiv : (2 * n0 + cN sd) / 2 = n0 := by rcases hcd with w | w <;> rw [w.1] <;> omega
  rw [hdiv] at x2 xm
  have hZeq := z2 n0 (by omega)
  have hYsb : (Y n0).natAbs ≤ 708588000 := (ma_sbC hd y1 y6).2.2 n0 h0
  have key : N.toInt * q.toInt = p.toInt * U.toInt := by
    rw [y4, y5, x2, x3]
    have c1 := y7 X f1 f3
    rcases hcd with ⟨w1, w2⟩ | ⟨w1, w2⟩
    · have e : (s_w sd).toInt = 1 := by rw [w2]; rfl
      rw [e, Int.one_mul, Int.one_mul] at c1
      have c2 := (xm Z z1).1 (by omega)
      rw [x2, x3] at c2
      have c3 := ma_fr f2.1 g2.1 y1.1.1 c2 (Int.le_of_eq hZeq.symm)
      exact Int.le_antisymm c1 c3
    · have e : (s_w sd).toInt = -1 := by rw [w2]; rfl
      rw [e] at c1
      have c1' : X n0 * Y 5 ≤ Y n0 * X 5 := by
        have e1 : -1 * Y n0 * X 5 = -(Y n0 * X 5) := by grind
        have e2 : -1 * X n0 * Y 5 = -(X n0 * Y 5) := by grind
        omega
      have c2 := (xm Z z1).2 (by omega)
      rw [x2, x3] at c2
      have c3 := ma_fr y1.1.1 g2.1 f2.1 (Int.le_of_eq hZeq) c2
      exact Int.le_antisymm c3 c1'
  refine ma_low rfl rfl rfl rfl (by rw [y4]; omega) (by rw [x2]; have := f2.2.2 n0 h0; omega) (by rw [y5]; exact y1.1.1) (by rw [y5]; exact y6) (by rw [x3]; exact f2.1) (by rw [x3]; exact f2.2.1) key
theorem ma_sumE {a : gF} {b : gL} {Y : Nat → Int} {nn k : Nat} (hn : nn ≤ 5) (hw : ∀ i, i < nn → (a k i).toInt.natAbs ≤ 99) (hb : ∀ i, i < nn → (b 20 i).toInt = Y i ∧ (Y i).natAbs ≤ 708588000) : ∀ n, n ≤ nn → ∀ s : Nat → Int64, s 0 = 0 → (∀ m, s (m + 1) = s m + (a k m).toInt64 * b 20 m) → (s n).toInt = ma_sm (fun i => (a k i).toInt * Y i) n ∧ (ma_sm (fun i => (a k i).toInt * Y i) n).natAbs ≤ n * 70150212000
  | 0, _, s, h0, _ => ⟨by rw [h0]; rfl, by simp [ma_sm]⟩
  | n + 1, hn2, s, h0, hs => by
    obtain ⟨i1, i2⟩ := ma_sumE hn hw hb n (by omega) s h0 hs
    have m0 := ma_mb (hw n (by omega)) (hb n (by omega)).2
    have m1 : ((a k n).toInt64 * b 20 n).toInt = (a k n).toInt * Y n := ma_mul (Int32.toInt_toInt64 _) (hb n (by omega)).1 (by omega)
    have b2 : (ma_sm (fun i => (a k i).toInt * Y i) n + (a k n).toInt * Y n).natAbs ≤ (n + 1) * 70150212000 := by omega
    refine ⟨?_, b2⟩
    rw [hs n]
    show (s n + (a k n).toInt64 * b 20 n).toInt = ma_sm (fun i => (a k i).toInt * Y i) n + (a k n).toInt * Y n
    exact ma_add i1 m1 (by omega)
/-- least, value, tight: the first best point of both -/
theorem ma_bestE {nn nr : Nat} {x : gS} (hd : ma_dat nn nr x.2.2.1) (hE : ma_EQ nn nr x.2.2.1) (K : ma_KN nn nr x) (hh : x.1 5 10 ≠ 0) (B : ma_BP nn nr x.2.1 x.2.2.1 x.2.2.2) : (∀ pt, s_part (s_sum x.2.2.1 x.2.2.2 nn) (x.2.1 2 4) pt = m_lowest (x.2.1 5 11) (x.2.1 5 12) pt) ∧ (∀ i pt, i < nn → s_part (x.2.2.2 20 i) (x.2.1 2 4) pt = m_lowest (x.2.2.2 34 i) (x.2.1 5 14) pt) ∧ (∀ r, r < nr → x.1 5 0 = nI nn → (s_tsum x.2.2.1 x.2.2.2 r nn = (x.2.2.1 10 r).toInt64 * x.2.1 2 4 ↔ m_tsum x r nn = 0)) ∧ ¬ x.2.1 5 12 = 0 ∧ ¬ x.2.1 5 14 = 0 := by
  obtain ⟨S, N⟩ := ma_SN_of hd hE K hh
  obtain ⟨Y, t, y1, y2, y3, y4, y5, y6, y7⟩ := B
  have hn := hd.1
  obtain ⟨m1, m2, m3, m4, m5, m6⟩ := ma_mcE hd hn N y1 y2 y6
  have ysb := ma_sbC hd y1 y5
  have cb := ma_cost_b (co := ma_ci x.2.2.1 8) hn (fun i hi => (hd.2.2.1 i hi).2.2.2) ysb.2.2
  obtain ⟨c1, -⟩ := ma_sumE (a := x.2.2.1) (b := x.2.2.2) (k := 8) hn (fun i hi => (hd.2.2.1 i hi).2.2.2) (fun i hi => ⟨y3 i hi, ysb.2.2 i hi⟩) nn (Nat.le_refl _) (s_sum x.2.2.1 x.2.2.2) rfl (fun _ => rfl)
  have c1 : (s_sum x.2.2.1 x.2.2.2 nn).toInt = ma_cost nn (ma_ci x.2.2.1 8) Y := c1
  obtain ⟨n1, n2, ⟨a0, a1⟩, X1, hX1⟩ := id N
  rcases a1 with ⟨-, q⟩ | ⟨-, -, -, -, ⟨B0, ⟨b1, b2⟩, b3, b4⟩, b5⟩
  · exact absurd hX1 (q X1)
  · obtain ⟨Z, z1, z2⟩ := n2 t Y y1 y2
    obtain ⟨fB, sB⟩ := n1 B0 b1
    obtain ⟨fZ, sZ⟩ := n1 Z z1
    have hY5 := y1.1.1
    have l1 : ma_lx nn Y (Y 5) B0 (B0 5) := y7 B0 fB ((m6 B0 b1).mp b2)
    have mZ : ma_cost nn (ma_ci x.2.2.1 8) Z * (x.2.1 5 12).toInt = (x.2.1 5 11).toInt * Z 5 := by
      have k2 : ma_cost nn (ma_ci x.2.2.1 8) Y * Z 5 = ma_cost nn (ma_ci x.2.2.1 8) Z * Y 5 := ma_sm_eq hn z2
      exact ma_fre sZ.1 hY5 m2 k2.symm m5
    have l2 : ma_lx nn B0 (B0 5) Z (Z 5) := by
      have := b5 Z z1 mZ
      rw [b4] at this
      exact ma_lx_c (fun i hi => b3 i hi) this
    have l3 : ma_lx nn Z (Z 5) Y (Y 5) := Or.inl (fun i hi => (z2 i (by omega)).symm)
    have eq1 := ma_lx_a l1 (ma_lx_t sB.1 sZ.1 hY5 l2 l3)
    have p14 : 0 < (x.2.1 5 14).toInt := by rw [b4]; exact sB.1
    refine ⟨fun pt => ?_, fun i pt hi => ?_, fun r hr h50 => ?_, fun w => ?_, fun w => ?_⟩
    · exact ma_low c1 y4 rfl rfl (by omega) m4 hY5 y5 m2 m3 m5
    · refine ma_low (y3 i hi) y4 (b3 i hi) b4 (by have := ysb.2.2 i hi; omega) (by have := sB.2.2 i hi; omega) hY5 y5 sB.1 sB.2.1 (eq1 i hi)
    · have fr : ∀ i, i < nn → (x.2.2.1 (40 + r) i).toInt.natAbs ≤ 99 := fun i hi => by have := (hd.2.2.2 r hr).2.2 i hi; omega
      have rr := (hd.2.2.2 r hr).1
      obtain ⟨t1, t2⟩ := ma_sumE (a := x.2.2.1) (b := x.2.2.2) (k := 40 + r) hn fr (fun i hi => ⟨y3 i hi, ysb.2.2 i hi⟩) nn (Nat.le_refl _) (s_tsum x.2.2.1 x.2.2.2 r) rfl (fun _ => rfl)
      have hm0 := ma_mb rr (show (Y 5).natAbs ≤ 7085880 by omega)
      have hm : ((x.2.2.1 10 r).toInt64 * x.2.1 2 4).toInt = (x.2.2.1 10 r).toInt * Y 5 := ma_mul (Int32.toInt_toInt64 _) y4 (by omega)
      obtain ⟨e1, e2, e3, e4, -⟩ := hE.2 r hr
      have nr1 : (-x.2.2.1 31 r).toInt = -(x.2.2.1 10 r).toInt := by rw [e2]; exact ma_neg3 rfl (by omega)
      -- the reference's sum
      have tsum : ∀ n, n ≤ nn → (m_tsum x r n).toInt = (if nn = 0 then -(x.2.2.1 10 r).toInt else -(x.2.2.1 10 r).toInt * B0 5) + ma_sm (fun i => (x.2.2.1 (40 + r) i).toInt * B0 i) n ∧ ((if nn = 0 then -(x.2.2.1 10 r).toInt else -(x.2.2.1 10 r).toInt * B0 5) + ma_sm (fun i => (x.2.2.1 (40 + r) i).toInt * B0 i) n).natAbs ≤ 7085880000 + n * 70150212000 := by
        intro n
        induction n with
        | zero =>
          intro _
          have hmb := ma_mb (show (-(x.2.2.1 10 r).toInt).natAbs ≤ 1000 by omega) (show (B0 5).natAbs ≤ 7085880 by have := sB.1; have := sB.2.1; omega)
          have z0 : x.1 5 0 = 0 ↔ nn = 0 := by
            rw [h50]
            constructor
            · intro w
              apply Classical.byContradiction
              intro w2
              exact nI_ne0 (by omega) (by omega) w
            · intro w; rw [w]; rfl
          by_cases g : nn = 0
          · rw [if_pos g]
            refine ⟨?_, ?_⟩
            · show (if x.1 5 0 = 0 then (-x.2.2.1 31 r).toInt64 else (-x.2.2.1 31 r).toInt64 * x.2.1 5 14).toInt = _ + 0
              rw [if_pos (z0.mpr g), Int32.toInt_toInt64, nr1]
              omega
            · show (_ + (0 : Int)).natAbs ≤ _
              omega
          · rw [if_neg g]
            refine ⟨?_, ?_⟩
            · show (if x.1 5 0 = 0 then (-x.2.2.1 31 r).toInt64 else (-x.2.2.1 31 r).toInt64 * x.2.1 5 14).toInt = _ + 0
              rw [if_neg (fun w => g (z0.mp w)), ma_mul (by rw [Int32.toInt_toInt64, nr1]) b4 (by omega)]
              omega
            · show (_ + (0 : Int)).natAbs ≤ _
              omega
        | succ n ih =>
          intro hn2
          obtain ⟨i1, i2⟩ := ih (by omega)
          have m0 := ma_mb (fr n (by omega)) (sB.2.2 n (by omega))
          have q1 : ((x.2.2.1 32 (5 * r + n)).toInt64 * x.2.2.2 34 n).toInt = (x.2.2.1 (40 + r) n).toInt * B0 n := ma_mul (by rw [Int32.toInt_toInt64, e4 n (by omega)]) (b3 n (by omega)) (by omega)
          have b2' : ((if nn = 0 then -(x.2.2.1 10 r).toInt else -(x.2.2.1 10 r).toInt * B0 5) + (ma_sm (fun i => (x.2.2.1 (40 + r) i).toInt * B0 i) n + (x.2.2.1 (40 + r) n).toInt * B0 n)).natAbs ≤ 7085880000 + (n + 1) * 70150212000 := by omega
          refine ⟨?_, b2'⟩
          show (m_tsum x r n + (x.2.2.1 32 (5 * r + n)).toInt64 * x.2.2.2 34 n).toInt = (if nn = 0 then -(x.2.2.1 10 r).toInt else -(x.2.2.1 10 r).toInt * B0 5) + (ma_sm (fun i => (x.2.2.1 (40 + r) i).toInt * B0 i) n + (x.2.2.1 (40 + r) n).toInt * B0 n)
          rw [ma_add i1 q1 (by omega)]
          omega
      obtain ⟨u1, -⟩ := tsum nn (Nat.le_refl _)
      rw [← Int64.toInt_inj, t1, hm, ma_e0, u1]
      by_cases g : nn = 0
      · subst g
        rw [if_pos rfl]
        show (0 : Int) = (x.2.2.1 10 r).toInt * Y 5 ↔ -(x.2.2.1 10 r).toInt + 0 = 0
        constructor
        · intro w
          rcases Int.mul_eq_zero.mp w.symm with w | w <;> omega
        · intro w
          have : (x.2.2.1 10 r).toInt = 0 := by omega
          rw [this]
          omega
      · rw [if_neg g, Int.neg_mul]
        have es : ma_sm (fun i => (x.2.2.1 (40 + r) i).toInt * Y i) nn * B0 5 = ma_sm (fun i => (x.2.2.1 (40 + r) i).toInt * B0 i) nn * Y 5 := by
          rw [Int.mul_comm, ← ma_sm_mul, Int.mul_comm, ← ma_sm_mul]
          exact ma_sm_congr (fun i hi => by
            have := eq1 i hi
            have e1 : B0 5 * ((x.2.2.1 (40 + r) i).toInt * Y i) = (x.2.2.1 (40 + r) i).toInt * (Y i * B0 5) := by grind
            rw [e1, this]
            grind)
        generalize ma_sm (fun i => (x.2.2.1 (40 + r) i).toInt * Y i) nn = A at *
        generalize ma_sm (fun i => (x.2.2.1 (40 + r) i).toInt * B0 i) nn = C at *
        generalize (x.2.2.1 10 r).toInt = rt at *
        have hB5 := sB.1
        constructor
        · intro w
          rw [w] at es
          have : Y 5 * (rt * B0 5) = Y 5 * C := by
            have e1 : Y 5 * (rt * B0 5) = rt * Y 5 * B0 5 := by grind
            rw [e1, es]
            grind
          have := Int.eq_of_mul_eq_mul_left (by omega) this
          omega
        · intro w
          have hC : C = rt * B0 5 := by omega
          rw [hC] at es
          have : B0 5 * A = B0 5 * (rt * Y 5) := by
            have e1 : B0 5 * A = A * B0 5 := Int.mul_comm _ _
            rw [e1, es]
            grind
          exact Int.eq_of_mul_eq_mul_left (by omega) this
    · have := ma_e0.mp w
      omega
    · have := ma_e0.mp w
      omega
/-- no denominator that the reference tells is 0 -/
theorem ma_nzE {nn nr : Nat} {x : gS} (hd : ma_dat nn nr x.2.2.1) (hE : ma_EQ nn nr x.2.2.1) (K : ma_KN nn nr x) : m_nz x nn := by
  intro hh
  obtain ⟨S, n1, n2, ⟨a0, a1⟩, X1, hX1⟩ := ma_SN_of hd hE K hh
  rcases a1 with ⟨-, q⟩ | ⟨-, f, ⟨⟨X0, x1, x2, x3⟩, -⟩, rch, ⟨B0, ⟨b1, b2⟩, b3, b4⟩, b5⟩
  · exact absurd hX1 (q X1)
  · refine ⟨fun w => ?_, fun _ w => ?_, fun k hk => ⟨fun w => ?_, fun w => ?_⟩⟩
    · have := ma_e0.mp w
      have := (a0 X0 x1).1
      omega
    · have := ma_e0.mp w
      have := (a0 B0 b1).1
      omega
    · obtain ⟨⟨X, q1, -, q3⟩, -⟩ := rch k hk
      have := ma_e0.mp w
      have := (a0 X q1.1).1
      omega
    · obtain ⟨⟨X, q1, -, q3⟩, -⟩ := f k hk
      have := ma_e0.mp w
      have := (a0 X q1).1
      omega
theorem ma_farE {nn nr n0 : Nat} {x : gS} {N U : Int64} {sd pt : Int32} (hd : ma_dat nn nr x.2.2.1) (hE : ma_EQ nn nr x.2.2.1) (K : ma_KN nn nr x) (hh : x.1 5 10 ≠ 0) (h0 : n0 < nn) (hsd : sd = 0 ∨ sd = 1) (E : ma_EN nn nr x.2.2.1 (fun _ => True) n0 (s_w sd).toInt N.toInt U.toInt) : s_part N U pt = m_lowest (x.2.2.2 37 ((2 * n0) + cN sd)) (x.2.2.2 38 ((2 * n0) + cN sd)) pt := by
  obtain ⟨S, n1, n2, ⟨a0, a1⟩, X1, hX1⟩ := ma_SN_of hd hE K hh
  rcases a1 with ⟨-, q⟩ | ⟨-, f, -⟩
  · exact absurd hX1 (q X1)
  · have hc : cN sd ≤ 1 := by rcases hsd with w | w <;> rw [w] <;> decide
    exact ma_endE hd h0 hsd E (fun X hX => ⟨(n1 X hX).1, (n1 X hX).2, trivial⟩) (fun t Y y1 y2 _ => n2 t Y y1 y2) hd.1 (f _ (by omega))
theorem ma_reachE {nn nr n0 : Nat} {x : gS} {N U : Int64} {sd pt : Int32} (hd : ma_dat nn nr x.2.2.1) (hE : ma_EQ nn nr x.2.2.1) (K : ma_KN nn nr x) (hh : x.1 5 10 ≠ 0) (h0 : n0 < nn) (hsd : sd = 0 ∨ sd = 1) (E : ma_EN nn nr x.2.2.1 (ma_MC nn nr x.2.2.1 (fun r => x.2.2.1 12 r ≠ 0)) n0 (s_w sd).toInt N.toInt U.toInt) : s_part N U pt = m_lowest (x.2.2.2 35 ((2 * n0) + cN sd)) (x.2.2.2 36 ((2 * n0) + cN sd)) pt := by
  obtain ⟨S, N'⟩ := ma_SN_of hd hE K hh
  obtain ⟨n1, n2, ⟨a0, a1⟩, X1, hX1⟩ := id N'
  rcases a1 with ⟨-, q⟩ | ⟨-, -, -, rch, -⟩
  · exact absurd hX1 (q X1)
  · have hc : cN sd ≤ 1 := by rcases hsd with w | w <;> rw [w] <;> decide
    obtain ⟨Y, t, y1, y2, y3, -⟩ := id E
    obtain ⟨m1, m2, m3, m4, m5, m6⟩ := ma_mcE hd hd.1 N' y1 y2 y3
    refine ma_endE hd h0 hsd E (fun X hX => ⟨(n1 X hX.1).1, (n1 X hX.1).2, (m6 X hX.1).mp hX.2⟩) (fun t Y y1 y2 y3 => ?_) hd.1 (rch _ (by omega))
    obtain ⟨Z, z1, z2⟩ := n2 t Y y1 y2
    have k2 : ma_cost nn (ma_ci x.2.2.1 8) Y * Z 5 = ma_cost nn (ma_ci x.2.2.1 8) Z * Y 5 := ma_sm_eq hd.1 z2
    have mY := (ma_mcE hd hd.1 N' y1 y2 y3).2.2.2.2.1
    exact ⟨Z, ⟨z1, ma_fre (n1 Z z1).2.1 y1.1.1 m2 k2.symm mY⟩, z2⟩
