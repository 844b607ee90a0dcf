/-! THE MATHEMATICS, 19: the first best point, and how far names reach -/
def ma_fy (x y : ma_X) : Prop := (∀ k j, ¬ (k = 4 ∧ j = 6) → y.1 k j = x.1 k j) ∧ (∀ k j, k ≠ 15 → k ≠ 16 → k ≠ 17 → k ≠ 19 → y.2.1 k j = x.2.1 k j) ∧ (∀ k j, k ≠ 14 → k ≠ 18 → (k < 48 ∨ 69 ≤ k) → y.2.2 k j = x.2.2 k j)
theorem ma_fy_t {x y z : ma_X} (h1 : ma_fy x y) (h2 : ma_fy y z) : ma_fy x z := ⟨fun k j h => (h2.1 k j h).trans (h1.1 k j h), fun k j a1 a2 a3 a4 => (h2.2.1 k j a1 a2 a3 a4).trans (h1.2.1 k j a1 a2 a3 a4), fun k j a1 a2 a3 => (h2.2.2 k j a1 a2 a3).trans (h1.2.2 k j a1 a2 a3)⟩
theorem ma_fy_x {x y : ma_X} (h : ma_fx x y) : ma_fy x y := ⟨h.1, fun k j a1 a2 _ _ => h.2.1 k j a1 a2, h.2.2⟩
theorem ma_fy_a {J : gL} {a a' : gF} {b : gL} (h : ∀ k j, k ≠ 17 → k ≠ 19 → a' k j = a k j) : ma_fy (J, a, b) (J, a', b) := ⟨fun _ _ _ => rfl, fun k j _ _ a3 a4 => h k j a3 a4, fun _ _ _ _ _ => rfl⟩
theorem ma_freeze_f (a : gF) (b : gL) : ∀ n k j, k ≠ 17 → d_freeze a b n k j = a k j
  | 0, _, _, _ => rfl
  | n + 1, k, j, h => by
    show (if b 18 n ≤ 0 then d_freeze a b n else gU (d_freeze a b n) 17 n 1) k j = _
    split
    · exact ma_freeze_f a b n k j h
    · rw [gU_n (by omega)]
      exact ma_freeze_f a b n k j h
/-- all columns thawed: the face is the whole -/
theorem ma_FS_thaw {nn nr nl : Nat} {V : Nat → Nat → Int} {a0 : gF} {R : Nat → Prop} {J : gL} {a : gF} {b : gL} (D : ma_DX nn nl V (J, a, b)) (fe : ma_fe nn nl V (J, a, b)) : ma_FS nn nr nl V a0 R (J, d_thaw a nn, b) (fun _ => True) := by
  have F : ma_FS nn nr nl V a0 R (J, a, b) (fun X => ∀ s, s < nn → ¬ a 17 s = 0 → ma_dot (V (ma_Oa a s)) X = 0) := ⟨D, fe, fun X _ => Iff.rfl⟩
  refine (ma_FS_a F (fun j => by rw [ma_thaw, if_neg (by omega)]) (fun j => by rw [ma_thaw, if_neg (by omega)]) (fun X _ => ⟨fun _ s hs hz => ?_, fun _ => trivial⟩)).1
  rw [ma_thaw, if_pos ⟨rfl, hs⟩] at hz
  exact absurd rfl hz
def ma_MC (nn nr : Nat) (a : gF) (R : Nat → Prop) (X : Nat → Int) : Prop := ∀ X', ma_FC nn nr a R X' → ma_cost nn (ma_ci a 8) X * X' 5 ≤ ma_cost nn (ma_ci a 8) X' * X 5
theorem ma_cost_c {nn : Nat} {a a' : gF} {X : Nat → Int} (h : ∀ j, a' 8 j = a 8 j) : ma_cost nn (ma_ci a' 8) X = ma_cost nn (ma_ci a 8) X := ma_sm_congr (fun i _ => by show (a' 8 i).toInt * _ = (a 8 i).toInt * _; rw [h])
/-- keepToBest: the face of the cheapest points -/
theorem ma_k2b {nn nr nl : Nat} {V : Nat → Nat → Int} {a0 : gF} {R : Nat → Prop} {I : gF} {J : gL} {a : gF} {b : gL} (C : ma_CD nn nr a0 R nl V) (F : ma_FS nn nr nl V a0 R (J, a, b) (fun _ => True)) (hI : I 4 8 = nI nn) (h8 : ∀ j, a 8 j = a0 8 j) (hc : ∀ i, i < nn → (a0 8 i).toInt.natAbs ≤ 99) : ma_FS nn nr nl V a0 R (s_k2b I J a b nl nn) (ma_MC nn nr a0 R) ∧ ma_fy (J, a, b) (s_k2b I J a b nl nn) ∧ ma_MC nn nr a0 R (ma_pY nn V (s_k2b I J a b nl nn)) := by
  have hn := F.1.1.1
  obtain ⟨m1, m2, m3, m4, m5, m6⟩ := ma_minF (n := mPV) (I := I) (kg := 8) C F (by unfold mPV; decide) hI (by decide) (by decide) (fun i hi => by show (a 8 i).toInt.natAbs ≤ 99; rw [h8]; exact hc i hi)
  have eg : ∀ X, ma_dot (ma_gl a 8 nn) X = ma_cost nn (ma_ci a0 8) X := fun X => by rw [ma_gl_cost hn, ma_cost_c h8]
  have e0 : s_k2b I J a b nl nn = ((d_min I 8 nl nn mPV (J, a, b)).1, d_freeze (d_min I 8 nl nn mPV (J, a, b)).2.1 (d_min I 8 nl nn mPV (J, a, b)).2.2 nn, (d_min I 8 nl nn mPV (J, a, b)).2.2) := rfl
  generalize d_min I 8 nl nn mPV (J, a, b) = y at *
  have m5 : ∀ X, ma_FC nn nr a0 R X → True → ma_cost nn (ma_ci a0 8) (ma_pY nn V y) * X 5 ≤ ma_cost nn (ma_ci a0 8) X * ma_pY nn V y 5 := fun X hX w => by
    have := m5 X hX w
    have this : ma_dot (ma_gl a 8 nn) (ma_pY nn V y) * X 5 ≤ ma_dot (ma_gl a 8 nn) X * ma_pY nn V y 5 := this
    rw [eg, eg] at this
    exact this
  have hY5 := m3.1.1
  have hMC : ∀ X, ma_FC nn nr a0 R X → (ma_MC nn nr a0 R X ↔ (True ∧ ma_dot (ma_gl a 8 nn) X * ma_pY nn V y 5 = ma_dot (ma_gl a 8 nn) (ma_pY nn V y) * X 5)) := by
    intro X hX
    rw [eg, eg]
    constructor
    · intro h
      exact ⟨trivial, Int.le_antisymm (h _ m3) (m5 X hX trivial)⟩
    · rintro ⟨-, h⟩ X' hX'
      exact ma_fr hX.1.1 hY5 hX'.1.1 (Int.le_of_eq h) (m5 X' hX' trivial)
  obtain ⟨q1, q2⟩ := ma_FS_a (J := y.1) (a := y.2.1) (a' := d_freeze y.2.1 y.2.2 nn) (b := y.2.2) m1 (fun j => ma_freeze_f _ _ _ _ _ (by omega)) (fun j => ma_freeze_f _ _ _ _ _ (by omega)) (W' := fun X => ∀ s, s < nn → ¬ d_freeze y.2.1 y.2.2 nn 17 s = 0 → ma_dot (V (ma_Oa y.2.1 s)) X = 0) (fun X _ => Iff.rfl)
  rw [e0]
  refine ⟨⟨m6.1, m6.2.1, fun X hX => by rw [hMC X hX]; exact m6.2.2 X hX⟩, ma_fy_t (ma_fy_x m2) (ma_fy_a (fun k j h _ => ma_freeze_f _ _ _ _ _ h)), ?_⟩
  have e1 : ma_pY nn V (y.1, d_freeze y.2.1 y.2.2 nn, y.2.2) = ma_pY nn V y := q2
  rw [e1]
  exact (hMC _ m3).mpr ⟨trivial, rfl⟩
/-- the ends of a name among the points of a face -/
theorem ma_end {nn nr nl n0 : Nat} {V : Nat → Nat → Int} {a0 : gF} {R : Nat → Prop} {I : gF} {J : gL} {a : gF} {b : gL} {w : Int32} {W : (Nat → Int) → Prop} (C : ma_CD nn nr a0 R nl V) (F : ma_FS nn nr nl V a0 R (J, a, b) W) (hI : I 4 8 = nI nn) (h0 : n0 < nn) (hw : w = 1 ∨ w = -1) :
    ma_FS nn nr nl V a0 R (s_endX I J a b nl nn n0 w) W ∧ ma_fy (J, a, b) (s_endX I J a b nl nn n0 w) ∧ ma_FC nn nr a0 R (ma_pY nn V (s_endX I J a b nl nn n0 w)) ∧ W (ma_pY nn V (s_endX I J a b nl nn n0 w)) ∧ (∀ X, ma_FC nn nr a0 R X → W X → w.toInt * ma_pY nn V (s_endX I J a b nl nn n0 w) n0 * X 5 ≤ w.toInt * X n0 * ma_pY nn V (s_endX I J a b nl nn n0 w) 5) ∧
    ma_FS nn nr nl V a0 R ((s_endX I J a b nl nn n0 w).1, d_freeze (s_endX I J a b nl nn n0 w).2.1 (s_endX I J a b nl nn n0 w).2.2 nn, (s_endX I J a b nl nn n0 w).2.2) (fun X => W X ∧ w.toInt * X n0 * ma_pY nn V (s_endX I J a b nl nn n0 w) 5 = w.toInt * ma_pY nn V (s_endX I J a b nl nn n0 w) n0 * X 5) := by
  have hn := F.1.1.1
  have hA : ∀ k j, k ≠ 19 → s_aim a (nI n0) w 5 k j = a k j := fun k j h => by rw [ma_aim, if_neg (by omega)]
  have F' := (ma_FS_a (a' := s_aim a (nI n0) w 5) (W' := W) F (fun j => hA 15 j (by omega)) (fun j => hA 16 j (by omega)) (fun X hX => by
    rw [F.2.2 X hX]
    show (∀ s, s < nn → ¬ a 17 s = 0 → _) ↔ _
    constructor
    · intro h s hs hz; rw [hA 17 s (by omega)] at hz; exact h s hs hz
    · intro h s hs hz; exact h s hs (by rw [hA 17 s (by omega)]; exact hz))).1
  have hw1 : w.toInt.natAbs ≤ 99 := by rcases hw with q | q <;> rw [q] <;> decide
  obtain ⟨m1, m2, m3, m4, m5, m6⟩ := ma_minF (n := mPV) (I := I) (kg := 19) C F' (by unfold mPV; decide) hI (by decide) (by decide) ((ma_gl_aim (a := a) (w := w) hn h0 (fun _ => 0)).2 hw1)
  have eg : ∀ X, ma_dot (ma_gl (s_aim a (nI n0) w 5) 19 nn) X = w.toInt * X n0 := fun X => (ma_gl_aim hn h0 X).1
  have e0 : s_endX I J a b nl nn n0 w = d_min I 19 nl nn mPV (J, s_aim a (nI n0) w 5, b) := rfl
  rw [e0]
  generalize d_min I 19 nl nn mPV (J, s_aim a (nI n0) w 5, b) = y at *
  refine ⟨m1, ma_fy_t (ma_fy_a (fun k j _ h => hA k j h)) (ma_fy_x m2), m3, m4, fun X hX hW => ?_, ?_⟩
  · have := m5 X hX hW
    have this : ma_dot (ma_gl (s_aim a (nI n0) w 5) 19 nn) (ma_pY nn V y) * X 5 ≤ ma_dot (ma_gl (s_aim a (nI n0) w 5) 19 nn) X * ma_pY nn V y 5 := this
    rw [eg, eg] at this
    exact this
  · refine ⟨m6.1, m6.2.1, fun X hX => ?_⟩
    show (W X ∧ w.toInt * X n0 * ma_pY nn V y 5 = w.toInt * ma_pY nn V y n0 * X 5) ↔ _
    rw [← eg X, ← eg (ma_pY nn V y)]
    exact m6.2.2 X hX
theorem ma_fb {nn nr nl : Nat} {V : Nat → Nat → Int} {a0 : gF} {R : Nat → Prop} {I : gF} {J : gL} {a : gF} {b : gL} (C : ma_CD nn nr a0 R nl V) (D : ma_DX nn nl V (J, a, b)) (fe : ma_fe nn nl V (J, a, b)) (hI : I 4 8 = nI nn) (h8 : ∀ j, a 8 j = a0 8 j) (hc : ∀ i, i < nn → (a0 8 i).toInt.natAbs ≤ 99) : ∀ n, n ≤ nn → ∃ W : (Nat → Int) → Prop, ma_FS nn nr nl V a0 R (s_fb I J a b nl nn n) W ∧ ma_fy (J, a, b) (s_fb I J a b nl nn n) ∧ W (ma_pY nn V (s_fb I J a b nl nn n)) ∧ ma_FC nn nr a0 R (ma_pY nn V (s_fb I J a b nl nn n)) ∧ (∀ X, ma_FC nn nr a0 R X → W X → ma_MC nn nr a0 R X ∧ ∀ X', ma_FC nn nr a0 R X' → ma_MC nn nr a0 R X' → ma_lx n X (X 5) X' (X' 5)) ∧ (∀ X X', ma_FC nn nr a0 R X → ma_FC nn nr a0 R X' → W X → ma_MC nn nr a0 R X' → (∀ i, i < n → X i * X' 5 = X' i * X 5) → W X')
  | 0, _ => by
    obtain ⟨q1, q2, q3⟩ := ma_k2b (I := I) C (ma_FS_thaw (a0 := a0) (nr := nr) (R := R) D fe) hI (fun j => by rw [ma_thaw, if_neg (by omega)]; exact h8 j) hc
    have fy : ma_fy (J, a, b) (s_fb I J a b nl nn 0) := ma_fy_t (ma_fy_a (fun k j h _ => by rw [ma_thaw, if_neg (by omega)])) q2
    exact ⟨_, q1, fy, q3, ma_yes q1.1 C q1.2.1, fun X _ h => ⟨h, fun X' _ _ => Or.inl (fun i hi => by omega)⟩, fun X X' _ _ _ h _ => h⟩
  | n + 1, hn => by
    obtain ⟨W, i1, i2, i3, i4, i5, i6⟩ := ma_fb C D fe hI h8 hc n (by omega)
    have e0 : s_fb I J a b nl nn (n + 1) = ((s_endX I (s_fb I J a b nl nn n).1 (s_fb I J a b nl nn n).2.1 (s_fb I J a b nl nn n).2.2 nl nn n 1).1, d_freeze (s_endX I (s_fb I J a b nl nn n).1 (s_fb I J a b nl nn n).2.1 (s_fb I J a b nl nn n).2.2 nl nn n 1).2.1 (s_endX I (s_fb I J a b nl nn n).1 (s_fb I J a b nl nn n).2.1 (s_fb I J a b nl nn n).2.2 nl nn n 1).2.2 nn, (s_endX I (s_fb I J a b nl nn n).1 (s_fb I J a b nl nn n).2.1 (s_fb I J a b nl nn n).2.2 nl nn n 1).2.2) := rfl
    obtain ⟨m1, m2, m3, m4, m5, m6⟩ := ma_end (I := I) (n0 := n) (w := 1) C (J := (s_fb I J a b nl nn n).1) (a := (s_fb I J a b nl nn n).2.1) (b := (s_fb I J a b nl nn n).2.2) i1 hI (by omega) (Or.inl rfl)
    rw [e0]
    generalize s_endX I (s_fb I J a b nl nn n).1 (s_fb I J a b nl nn n).2.1 (s_fb I J a b nl nn n).2.2 nl nn n 1 = y at *
    have w1 : (1 : Int32).toInt = 1 := rfl
    rw [w1] at m5 m6
    have e1 : ma_pY nn V (y.1, d_freeze y.2.1 y.2.2 nn, y.2.2) = ma_pY nn V y := (ma_FS_a (J := y.1) (a := y.2.1) (a' := d_freeze y.2.1 y.2.2 nn) (b := y.2.2) m1 (fun j => ma_freeze_f _ _ _ _ _ (by omega)) (fun j => ma_freeze_f _ _ _ _ _ (by omega)) (W' := fun X => ∀ s, s < nn → ¬ d_freeze y.2.1 y.2.2 nn 17 s = 0 → ma_dot (V (ma_Oa y.2.1 s)) X = 0) (fun X _ => Iff.rfl)).2
    have hY5 := m3.1.1
    refine ⟨_, m6, ma_fy_t (ma_fy_t i2 m2) (ma_fy_a (fun k j h _ => ma_freeze_f _ _ _ _ _ h)), ?_, ?_, fun X hX hW => ?_, fun X X' hX hX' hW hMC he => ?_⟩
    · rw [e1]; exact ⟨m4, rfl⟩
    · rw [e1]; exact m3
    · obtain ⟨k1, k2⟩ := i5 X hX hW.1
      refine ⟨k1, fun X' hX' hM => ?_⟩
      rcases k2 X' hX' hM with g | ⟨i, g1, g2, g3⟩
      · have hW' := i6 X X' hX hX' hW.1 hM g
        have l1 := m5 X' hX' hW'
        have l2 := hW.2
        rw [Int.one_mul, Int.one_mul] at l1 l2
        have l3 := ma_fr hX.1.1 hY5 hX'.1.1 (Int.le_of_eq l2) l1
        by_cases q : X n * X' 5 = X' n * X 5
        · refine Or.inl (fun i hi => ?_)
          by_cases q2 : i = n
          · rw [q2]; exact q
          · exact g i (by omega)
        · exact Or.inr ⟨n, by omega, fun j hj => g j hj, Int.lt_iff_le_and_ne.mpr ⟨l3, q⟩⟩
      · exact Or.inr ⟨i, by omega, g2, g3⟩
    · have hW' := i6 X X' hX hX' hW.1 hMC (fun i hi => he i (by omega))
      refine ⟨hW', ?_⟩
      have l2 := hW.2
      rw [Int.one_mul, Int.one_mul] at l2 ⊢
      exact ma_fre hX'.1.1 hX.1.1 hY5 (he n (by omega)).symm l2
theorem ma_num_c {a : gF} {b b' : gL} {v : Int32} (h : ∀ j, b' 14 j = b 14 j) : ∀ n r, d_num a b' v n r = d_num a b v n r
  | 0, _ => rfl
  | n + 1, r => by
    show (if a 15 r = v then b' 14 r else d_num a b' v n (r + 1)) = (if a 15 r = v then b 14 r else d_num a b v n (r + 1))
    rw [h r, ma_num_c h n (r + 1)]
theorem ma_fbB {J : gL} {a : gF} {b : gL} {nl : Nat} : ∀ n k j, s_fbB J a b nl n k j = if k = 20 ∧ j < n then (a 6 j).toInt64 * J 4 6 + d_num a b (nI j) nl 0 else b k j
  | 0, k, j => by
    rw [if_neg (by omega)]
    rfl
  | n + 1, k, j => by
    show gU (s_fbB J a b nl n) 20 n ((a 6 n).toInt64 * J 4 6 + d_num a (s_fbB J a b nl n) (nI n) nl 0) k j = _
    rw [ma_num_c (fun j => by rw [ma_fbB n 14 j, if_neg (by omega)])]
    by_cases h : k = 20 ∧ j = n
    · obtain ⟨rfl, rfl⟩ := h
      rw [gU_s, if_pos (show 20 = 20 ∧ j < j + 1 by omega)]
    · rw [gU_n (by omega), ma_fbB n k j]
      by_cases h2 : k = 20 ∧ j < n
      · rw [if_pos h2, if_pos (show k = 20 ∧ j < n + 1 by omega)]
      · rw [if_neg h2, if_neg (show ¬ (k = 20 ∧ j < n + 1) by omega)]
/-! the numbers in lowest terms -/
theorem ma_mod {x y : Int64} {p q : Nat} (hx : x.toInt = (p : Int)) (hy : y.toInt = (q : Int)) (hq : 0 < q) (hp : p ≤ 9000000000000000000) : (x - x / y * y).toInt = ((p % q : Nat) : Int) := by
  have hd : (x / y).toInt = ((p / q : Nat) : Int) := by
    have h1 : p / q ≤ p := Nat.div_le_self p q
    rw [Int64.toInt_div, hx, hy]
    have e : Int.tdiv (p : Int) (q : Int) = ((p / q : Nat) : Int) := rfl
    rw [e]
    exact ma_bm (by rw [Int.natAbs_natCast]; exact Nat.le_trans h1 hp)
  have hle : p / q * q ≤ p := Nat.div_mul_le_self p q
  have hm : (x / y * y).toInt = ((p / q * q : Nat) : Int) := by
    have := ma_mul hd hy (by rw [← Int.natCast_mul]; omega)
    rw [this, ← Int.natCast_mul]
  have hs := ma_sub hx hm (by omega)
  rw [hs]
  have : p % q = p - p / q * q := by
    have h2 := Nat.div_add_mod p q
    have h3 : q * (p / q) = p / q * q := Nat.mul_comm _ _
    omega
  omega
theorem ma_sgcd : ∀ k n x y (p q : Nat), 2 * k ≤ n → x.toInt = (p : Int) → y.toInt = (q : Int) → p ≤ 9000000000000000000 → q < 2 ^ k → q ≤ 9000000000000000000 → (s_gcd n x y).toInt = ((Nat.gcd p q : Nat) : Int)
  | 0, n, x, y, p, q, _, hx, hy, _, hq, _ => by
    have q0 : q = 0 := by
      have : q < 1 := hq
      omega
    subst q0
    have y0 : y = 0 := ma_e0.mpr hy
    subst y0
    cases n with
    | zero =>
      show x.toInt = _
      rw [hx, Nat.gcd_zero_right]
    | succ n =>
      show (if (0 : Int64) = 0 then x else _).toInt = _
      rw [if_pos rfl, hx, Nat.gcd_zero_right]
  | k + 1, n, x, y, p, q, hn, hx, hy, hp, hq, hq2 => by
    obtain ⟨n, rfl⟩ : ∃ m, n = m + 1 := ⟨n - 1, by omega⟩
    show (if y = 0 then x else s_gcd n y (x - x / y * y)).toInt = _
    by_cases h0 : y = 0
    · rw [if_pos h0]
      have : q = 0 := by
        have := ma_e0.mp h0
        omega
      rw [this, Nat.gcd_zero_right]
      exact hx
    · rw [if_neg h0]
      have hqp : 0 < q := by
        apply Classical.byContradiction
        intro w
        exact h0 (ma_e0.mpr (by omega))
      have hr := ma_mod hx hy hqp hp
      have hrl : p % q < q := Nat.mod_lt _ hqp
      obtain ⟨n, rfl⟩ : ∃ m, n = m + 1 := ⟨n - 1, by omega⟩
      show (if (x - x / y * y) = 0 then y else s_gcd n (x - x / y * y) (y - y / (x - x / y * y) * (x - x / y * y))).toInt = _
      have g1 : Nat.gcd p q = Nat.gcd q (p % q) := by rw [Nat.gcd_comm p q, Nat.gcd_rec q p, Nat.gcd_comm]
      by_cases h1 : (x - x / y * y) = 0
      · rw [if_pos h1, g1]
        have : p % q = 0 := by
          have := ma_e0.mp h1
          omega
        rw [this, Nat.gcd_zero_right]
        exact hy
      · rw [if_neg h1]
        have hrp : 0 < p % q := by
          apply Classical.byContradiction
          intro w
          exact h1 (ma_e0.mpr (by omega))
        have hr2 := ma_mod hy hr hrp (by omega)
        have hlt : q % (p % q) < 2 ^ k := by
          have hpw : 2 ^ (k + 1) = 2 ^ k * 2 := Nat.pow_succ ..
          have h3 : q % (p % q) < p % q := Nat.mod_lt _ hrp
          by_cases hh : 2 * (p % q) ≤ q
          · omega
          · have : q % (p % q) = q - p % q := by
              rw [Nat.mod_eq_sub_mod (by omega), Nat.mod_eq_of_lt (by omega)]
            omega
        have g2 : Nat.gcd q (p % q) = Nat.gcd (p % q) (q % (p % q)) := by rw [Nat.gcd_comm q, Nat.gcd_rec (p % q) q, Nat.gcd_comm]
        have h5 : q % (p % q) < p % q := Nat.mod_lt _ hrp
        rw [g1, g2]
        exact ma_sgcd k n _ _ _ _ (by omega) hr hr2 (by omega) hlt (by omega)
theorem ma_mlow : ∀ n x y (p q : Nat), p < n → x.toInt = (p : Int) → y.toInt = (q : Int) → p ≤ 9000000000000000000 → q ≤ 9000000000000000000 → (m_low n x y).toInt = ((Nat.gcd p q : Nat) : Int)
  | 0, x, y, p, q, h, _, _, _, _ => by omega
  | n + 1, x, y, p, q, h, hx, hy, hp, hq => by
    show (if x = 0 then y else m_low n (y - y / x * x) x).toInt = _
    by_cases h0 : x = 0
    · rw [if_pos h0]
      have : p = 0 := by
        have := ma_e0.mp h0
        omega
      rw [this, Nat.gcd_zero_left]
      exact hy
    · rw [if_neg h0]
      have hpp : 0 < p := by
        apply Classical.byContradiction
        intro w
        exact h0 (ma_e0.mpr (by omega))
      have hr := ma_mod hy hx hpp hq
      have hlt := Nat.mod_lt q hpp
      rw [Nat.gcd_rec p q]
      exact ma_mlow n _ _ _ _ (by omega) hr hx (by omega) hp
theorem ma_low_u {N p : Int} {U q : Nat} (hU : 0 < U) (hq : 0 < q) (h : N * (q : Int) = p * (U : Int)) : N.tdiv (Nat.gcd N.natAbs U : Nat) = p.tdiv (Nat.gcd p.natAbs q : Nat) ∧ U / Nat.gcd N.natAbs U = q / Nat.gcd p.natAbs q := by
  have hg : 0 < Nat.gcd N.natAbs U := Nat.gcd_pos_of_pos_right _ hU
  have hh : 0 < Nat.gcd p.natAbs q := Nat.gcd_pos_of_pos_right _ hq
  obtain ⟨n', hn'⟩ := Nat.gcd_dvd_left N.natAbs U
  obtain ⟨u', hu'⟩ := Nat.gcd_dvd_right N.natAbs U
  obtain ⟨p', hp'⟩ := Nat.gcd_dvd_left p.natAbs q
  obtain ⟨q', hq'⟩ := Nat.gcd_dvd_right p.natAbs q
  have c1 : Nat.Coprime n' u' := by
    have := Nat.coprime_div_gcd_div_gcd (m := N.natAbs) (n := U) hg
    rw [Nat.div_eq_of_eq_mul_right hg hn', Nat.div_eq_of_eq_mul_right hg hu'] at this
    exact this
  have c2 : Nat.Coprime p' q' := by
    have := Nat.coprime_div_gcd_div_gcd (m := p.natAbs) (n := q) hh
    rw [Nat.div_eq_of_eq_mul_right hh hp', Nat.div_eq_of_eq_mul_right hh hq'] at this
    exact this
  generalize Nat.gcd N.natAbs U = g at *
  generalize Nat.gcd p.natAbs q = k at *
  have habs : N.natAbs * q = p.natAbs * U := by
    have := congrArg Int.natAbs h
    rw [Int.natAbs_mul, Int.natAbs_mul] at this
    exact this
  have hx : n' * q' = p' * u' := by
    have e1 : (g * k) * (n' * q') = (g * k) * (p' * u') := by
      have a1 : (g * k) * (n' * q') = (g * n') * (k * q') := by grind
      have a2 : (g * k) * (p' * u') = (k * p') * (g * u') := by grind
      rw [a1, a2, ← hn', ← hq', ← hp', ← hu']
      exact habs
    exact Nat.eq_of_mul_eq_mul_left (Nat.mul_pos hg hh) e1
  have d1 : u' ∣ q' := by
    have : u' ∣ n' * q' := ⟨p', by rw [hx]; exact Nat.mul_comm _ _⟩
    exact Nat.Coprime.dvd_of_dvd_mul_left c1.symm this
  have d2 : q' ∣ u' := by
    have : q' ∣ p' * u' := ⟨n', by rw [← hx]; exact Nat.mul_comm _ _⟩
    exact Nat.Coprime.dvd_of_dvd_mul_left c2.symm this
  have eu : u' = q' := Nat.dvd_antisymm d1 d2
  have q0 : 0 < q' := by
    apply Nat.pos_of_ne_zero
    intro w
    rw [w, Nat.mul_zero] at hq'
    omega
  have en : n' = p' := by
    rw [eu] at hx
    exact Nat.eq_of_mul_eq_mul_right q0 hx
  refine ⟨?_, ?_⟩
  · have s1 : N = (g : Int) * (if 0 ≤ N then (n' : Int) else -(n' : Int)) := by
      have : (N.natAbs : Int) = (g : Int) * (n' : Int) := by rw [hn']; exact Int.natCast_mul _ _
      split
      · omega
      · rw [Int.mul_neg]; omega
    have s2 : p = (k : Int) * (if 0 ≤ p then (p' : Int) else -(p' : Int)) := by
      have : (p.natAbs : Int) = (k : Int) * (p' : Int) := by rw [hp']; exact Int.natCast_mul _ _
      split
      · omega
      · rw [Int.mul_neg]; omega
    have sgn : (0 ≤ N ↔ 0 ≤ p) := by
      constructor
      · intro w
        apply Classical.byContradiction
        intro w2
        have := Int.mul_nonneg w (show (0 : Int) ≤ q by omega)
        have := Int.mul_neg_of_neg_of_pos (show p < 0 by omega) (show (0 : Int) < U by omega)
        omega
      · intro w
        apply Classical.byContradiction
        intro w2
        have := Int.mul_nonneg w (show (0 : Int) ≤ U by omega)
        have := Int.mul_neg_of_neg_of_pos (show N < 0 by omega) (show (0 : Int) < q by omega)
        omega
    have t1 : N.tdiv (g : Int) = if 0 ≤ N then (n' : Int) else -(n' : Int) := by
      generalize (if 0 ≤ N then (n' : Int) else -(n' : Int)) = z at *
      rw [s1]
      exact Int.mul_tdiv_cancel_left z (by omega)
    have t2 : p.tdiv (k : Int) = if 0 ≤ p then (p' : Int) else -(p' : Int) := by
      generalize (if 0 ≤ p then (p' : Int) else -(p' : Int)) = z at *
      rw [s2]
      exact Int.mul_tdiv_cancel_left z (by omega)
    rw [t1, t2, en]
    by_cases w : 0 ≤ N
    · rw [if_pos w, if_pos (sgn.mp w)]
    · rw [if_neg w, if_neg (fun q => w (sgn.mpr q))]
  · rw [hu', hq', Nat.mul_div_cancel_left _ hg, Nat.mul_div_cancel_left _ hh, eu]
/-- the class's part and the reference's lowest of one number are alike -/
theorem ma_low {x y z w : Int64} {N p U q : Int} {pt : Int32} (hx : x.toInt = N) (hy : y.toInt = U) (hz : z.toInt = p) (hw : w.toInt = q) (bN : N.natAbs ≤ 1000000000000) (bp : p.natAbs ≤ 1000000000000) (hU : 0 < U) (bU : U ≤ 7085880) (hq : 0 < q) (bq : q ≤ 7085880) (h : N * q = p * U) : s_part x y pt = m_lowest z w pt := by
  have hU' : ((U.toNat : Nat) : Int) = U := Int.toNat_of_nonneg (by omega)
  have hq' : ((q.toNat : Nat) : Int) = q := Int.toNat_of_nonneg (by omega)
  have ax : (s_abs x).toInt = ((N.natAbs : Nat) : Int) := by
    unfold s_abs
    by_cases c : 0 < x
    · rw [if_pos c, hx]
      have := ma_p0.mp c
      omega
    · rw [if_neg c, ma_neg hx (by omega)]
      have := Int.not_lt.mp (fun q => c (ma_p0.mpr q))
      omega
  have ay : (s_abs y).toInt = ((U.toNat : Nat) : Int) := by
    unfold s_abs
    rw [if_pos (ma_p0.mpr (by omega)), hy, hU']
  have az : (m_ab z).toInt = ((p.natAbs : Nat) : Int) := by
    unfold m_ab
    by_cases c : 0 ≤ z
    · rw [if_pos c, hz]
      have := ma_l0.mp c
      omega
    · rw [if_neg c, ma_neg hz (by omega)]
      have := Int.not_le.mp (fun q => c (ma_l0.mpr q))
      omega
  have g1 : (s_gd x y).toInt = ((Nat.gcd N.natAbs U.toNat : Nat) : Int) := ma_sgcd 40 200 _ _ _ _ (by decide) ax ay (by omega) (by omega) (by omega)
  have g2 : (m_gd z w).toInt = ((Nat.gcd p.natAbs q.toNat : Nat) : Int) := by
    unfold m_gd
    exact ma_mlow mGC _ _ _ _ (by unfold mGC; omega) az (by rw [hw, hq']) (by omega) (by omega)
  obtain ⟨r1, r2⟩ := ma_low_u (N := N) (p := p) (U := U.toNat) (q := q.toNat) (by omega) (by omega) (by rw [hU', hq']; exact h)
  have gp : 0 < Nat.gcd N.natAbs U.toNat := Nat.gcd_pos_of_pos_right _ (by omega)
  have gb : Nat.gcd N.natAbs U.toNat ≤ U.toNat := Nat.le_of_dvd (by omega) (Nat.gcd_dvd_right _ _)
  have hp2 : 0 < Nat.gcd p.natAbs q.toNat := Nat.gcd_pos_of_pos_right _ (by omega)
  have e0 : ¬ s_gd x y = 0 := fun w => by
    have := ma_e0.mp w
    omega
  have ab : ∀ (A : Int) (G : Nat), 0 < G → A.natAbs ≤ 1000000000000 → (A.tdiv (G : Int)).natAbs ≤ 1000000000000 := by
    intro A G hG hA
    rw [Int.natAbs_tdiv]
    exact Nat.le_trans (Nat.div_le_self _ _) hA
  unfold s_part m_lowest
  rw [if_neg e0]
  by_cases hp : pt = 0
  · rw [if_pos hp, if_pos hp, ← Int64.toInt_inj, Int64.toInt_div, Int64.toInt_div, hx, g1, hz, g2, r1]
  · rw [if_neg hp, if_neg hp, ← Int64.toInt_inj, Int64.toInt_div, Int64.toInt_div, hy, g1, hw, g2]
    have t1 : U.tdiv ((Nat.gcd N.natAbs U.toNat : Nat) : Int) = ((U.toNat / Nat.gcd N.natAbs U.toNat : Nat) : Int) := by
      conv => lhs; rw [← hU']
      rfl
    have t2 : q.tdiv ((Nat.gcd p.natAbs q.toNat : Nat) : Int) = ((q.toNat / Nat.gcd p.natAbs q.toNat : Nat) : Int) := by
      conv => lhs; rw [← hq']
      rfl
    rw [t1, t2, r2]
