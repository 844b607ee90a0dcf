/-! THE MATHEMATICS, 20: what the class's solver holds between calls -/
/-- cells of the problem stay -/
def ma_sm6 (a a' : gF) : Prop := (∀ j, a' 6 j = a 6 j) ∧ (∀ j, a' 7 j = a 7 j) ∧ (∀ j, a' 8 j = a 8 j) ∧ (∀ j, a' 9 j = a 9 j) ∧ (∀ j, a' 10 j = a 10 j) ∧ (∀ j, a' 12 j = a 12 j) ∧ (∀ r, r < 8 → ∀ j, a' (40 + r) j = a (40 + r) j)
theorem ma_sm6_r (a : gF) : ma_sm6 a a := ⟨fun _ => rfl, fun _ => rfl, fun _ => rfl, fun _ => rfl, fun _ => rfl, fun _ => rfl, fun _ _ _ => rfl⟩
theorem ma_sm6_t {a a' a'' : gF} (h1 : ma_sm6 a a') (h2 : ma_sm6 a' a'') : ma_sm6 a a'' := ⟨fun j => (h2.1 j).trans (h1.1 j), fun j => (h2.2.1 j).trans (h1.2.1 j), fun j => (h2.2.2.1 j).trans (h1.2.2.1 j), fun j => (h2.2.2.2.1 j).trans (h1.2.2.2.1 j), fun j => (h2.2.2.2.2.1 j).trans (h1.2.2.2.2.1 j), fun j => (h2.2.2.2.2.2.1 j).trans (h1.2.2.2.2.2.1 j), fun r hr j => (h2.2.2.2.2.2.2 r hr j).trans (h1.2.2.2.2.2.2 r hr j)⟩
theorem ma_fs_c {nn nr : Nat} {a a' : gF} {R : Nat → Prop} {X : Nat → Int} (hr : nr ≤ 8) (h : ma_sm6 a a') : ma_FC nn nr a' R X ↔ ma_FC nn nr a R X := by
  obtain ⟨h6, h7, -, h9, h10, -, hf⟩ := h
  have e6 : ma_ci a' 6 = ma_ci a 6 := funext (fun i => by show (a' 6 i).toInt = _; rw [h6])
  have e7 : ma_ci a' 7 = ma_ci a 7 := funext (fun i => by show (a' 7 i).toInt = _; rw [h7])
  have e9 : ma_ci a' 9 = ma_ci a 9 := funext (fun i => by show (a' 9 i).toInt = _; rw [h9])
  have e10 : ma_ci a' 10 = ma_ci a 10 := funext (fun i => by show (a' 10 i).toInt = _; rw [h10])
  unfold ma_FC
  rw [e6, e7, e9, e10]
  have ef : ∀ r, r < nr → ma_fa a' r = ma_fa a r := fun r hr2 => funext (fun i => by show (a' (40 + r) i).toInt = _; rw [hf r (by omega)])
  constructor
  · exact fun w => ⟨w.1, fun r hr2 hR => by have := w.2 r hr2 hR; rw [ef r hr2] at this; exact this⟩
  · exact fun w => ⟨w.1, fun r hr2 hR => by rw [ef r hr2]; exact w.2 r hr2 hR⟩
theorem ma_CD_c {nn nr nl : Nat} {a a' : gF} {R R' : Nat → Prop} {V : Nat → Nat → Int} (hr : nr ≤ 8) (h : ma_sm6 a a') (hR : ∀ r, r < nr → (R r ↔ R' r)) (C : ma_CD nn nr a R nl V) : ma_CD nn nr a' R' nl V := by
  obtain ⟨c1, c2, c3, c4, c5, c6⟩ := C
  obtain ⟨h6, h7, -, h9, h10, -, hf⟩ := id h
  have e6 : ma_ci a' 6 = ma_ci a 6 := funext (fun i => by show (a' 6 i).toInt = _; rw [h6])
  have e7 : ma_ci a' 7 = ma_ci a 7 := funext (fun i => by show (a' 7 i).toInt = _; rw [h7])
  have e10 : ma_ci a' 10 = ma_ci a 10 := funext (fun i => by show (a' 10 i).toInt = _; rw [h10])
  refine ⟨c1, c2, c3, fun X hz h5 => ?_, fun j hj => ?_, fun i hi => by rw [c6 i hi, h6]⟩
  · rw [c4 X hz h5, ma_fs_R hR]
    exact (ma_fs_c hr h).symm
  · obtain ⟨c, t1, t2⟩ := c5 j hj
    refine ⟨c, (ma_th_R hR).mp t1, ?_⟩
    have eC : ma_C nn (ma_ci a' 6) (ma_ci a' 7) (ma_ci a' 10) (ma_fa a') c = ma_C nn (ma_ci a 6) (ma_ci a 7) (ma_ci a 10) (ma_fa a) c := by
      rw [e6, e7, e10]
      unfold ma_C
      by_cases q : c < 8
      · rw [if_pos q, if_pos q]
        exact ma_fm_c (fun s _ => by show (a' (40 + c) s).toInt = _; rw [hf c q]) rfl
      · rw [if_neg q, if_neg q]
    rw [eC]
    exact t2
theorem ma_dat_c {nn nr : Nat} {a a' : gF} (h : ma_sm6 a a') (hd : ma_dat nn nr a) : ma_dat nn nr a' := by
  obtain ⟨h6, h7, h8, h9, h10, -, hf⟩ := h
  obtain ⟨d1, d2, d3, d4⟩ := hd
  refine ⟨d1, d2, fun i hi => by rw [h6, h7, h8]; exact d3 i hi, fun r hr => ⟨by rw [h10]; exact (d4 r hr).1, by rw [h9]; exact (d4 r hr).2.1, fun i hi => by rw [hf r (by omega)]; exact (d4 r hr).2.2 i hi⟩⟩
/-- what the class's contracts want of the dictionary -/
def ma_dk (I a : gF) : Prop := cNat (I 4 7) 21 ∧ cNat (I 4 8) 5 ∧ d_nat (a 15) (cN (I 4 7)) ∧ d_nat (a 16) (cN (I 4 8))
theorem ma_cN {n : Nat} (h : n < 2 ^ 31) : cN (nI n) = n := nI_clamp h
theorem ma_dk_of {nn nl : Nat} {V : Nat → Nat → Int} {I : gF} {J : gL} {a : gF} {b : gL} (D : ma_DX nn nl V (J, a, b)) (h7 : I 4 7 = nI nl) (h8 : I 4 8 = nI nn) : ma_dk I a := by
  obtain ⟨⟨n1, n2, n3⟩, -, -, dO, dB, -⟩ := D
  have e7 : cN (I 4 7) = nl := by rw [h7, ma_cN (by omega)]
  have e8 : cN (I 4 8) = nn := by rw [h8, ma_cN (by omega)]
  refine ⟨⟨by rw [e7]; exact h7, by rw [e7]; exact n2⟩, ⟨by rw [e8]; exact h8, by rw [e8]; exact n1⟩, fun r hr => ?_, fun s hs => ?_⟩
  · rw [e7] at hr
    exact ⟨_, (dB r hr).1, by have := (dB r hr).2; omega⟩
  · rw [e8] at hs
    exact ⟨_, (dO s hs).1, by have := (dO s hs).2; omega⟩
/-- a dictionary that stands at a point of the problem -/
def ma_OKD (nn nr : Nat) (I : gF) (J : gL) (a : gF) (b : gL) : Prop := ∃ V nl, I 4 7 = nI nl ∧ I 4 8 = nI nn ∧ ma_CD nn nr a (fun r => a 12 r ≠ 0) nl V ∧ ma_DX nn nl V (J, a, b) ∧ ma_fe nn nl V (J, a, b)
def ma_fw (I I' : gF) (J J' : gL) (a a' : gF) (b b' : gL) : Prop := (∀ k j, ¬ (k = 4 ∧ j = 7) → ¬ (k = 4 ∧ j = 8) → I' k j = I k j) ∧ (∀ k j, ¬ (k = 4 ∧ j = 6) → J' k j = J k j) ∧ (∀ k j, k ≠ 15 → k ≠ 16 → k ≠ 17 → k ≠ 19 → a' k j = a k j) ∧ (∀ k j, k ≠ 14 → k ≠ 18 → (k < 48 ∨ 69 ≤ k) → b' k j = b k j)
theorem ma_fw_t {I I' I'' : gF} {J J' J'' : gL} {a a' a'' : gF} {b b' b'' : gL} (h1 : ma_fw I I' J J' a a' b b') (h2 : ma_fw I' I'' J' J'' a' a'' b' b'') : ma_fw I I'' J J'' a a'' b b'' := ⟨fun k j q1 q2 => (h2.1 k j q1 q2).trans (h1.1 k j q1 q2), fun k j q => (h2.2.1 k j q).trans (h1.2.1 k j q), fun k j q1 q2 q3 q4 => (h2.2.2.1 k j q1 q2 q3 q4).trans (h1.2.2.1 k j q1 q2 q3 q4), fun k j q1 q2 q3 => (h2.2.2.2 k j q1 q2 q3).trans (h1.2.2.2 k j q1 q2 q3)⟩
theorem ma_fw_6 {I I' : gF} {J J' : gL} {a a' : gF} {b b' : gL} (h : ma_fw I I' J J' a a' b b') : ma_sm6 a a' := ⟨fun j => h.2.2.1 6 j (by omega) (by omega) (by omega) (by omega), fun j => h.2.2.1 7 j (by omega) (by omega) (by omega) (by omega), fun j => h.2.2.1 8 j (by omega) (by omega) (by omega) (by omega), fun j => h.2.2.1 9 j (by omega) (by omega) (by omega) (by omega), fun j => h.2.2.1 10 j (by omega) (by omega) (by omega) (by omega), fun j => h.2.2.1 12 j (by omega) (by omega) (by omega) (by omega), fun r hr j => h.2.2.1 (40 + r) j (by omega) (by omega) (by omega) (by omega)⟩
theorem ma_ckS {I a : gF} {J b : gL} {nn nr : Nat} {set : Int32} (hd : ma_dat nn nr a) : ma_fw I (s_kI I a b nn nr set) J (s_kf I J a b nn nr set).2.1 a (s_kf I J a b nn nr set).2.2.1 b (s_kf I J a b nn nr set).2.2.2 ∧ ma_dk (s_kI I a b nn nr set) (s_kf I J a b nn nr set).2.2.1 ∧ (((s_kf I J a b nn nr set).1 = 1 ∧ (∃ V nl, s_kI I a b nn nr set 4 7 = nI nl ∧ s_kI I a b nn nr set 4 8 = nI nn ∧ ma_CD nn nr a (fun r => s_bit set r ≠ 0) nl V ∧ ma_DX nn nl V (s_kf I J a b nn nr set).2 ∧ ma_fe nn nl V (s_kf I J a b nn nr set).2) ∧ ∃ X, ma_FC nn nr a (fun r => s_bit set r ≠ 0) X) ∨ ((s_kf I J a b nn nr set).1 = 0 ∧ ∀ X, ¬ ma_FC nn nr a (fun r => s_bit set r ≠ 0) X)) := by
  obtain ⟨k1, k2, k3, k4, k5, k6, k7⟩ := ma_kr (I := I) (b := b) (set := set) hd nr (Nat.le_refl _)
  obtain ⟨V, C, D, fx, K⟩ := ma_keep (I := I) (J := J) (b := b) (set := set) (n := mPV) hd (by unfold mPV; decide)
  have e : s_kf I J a b nn nr set = d_find (s_kr I a b nn set nr).2 nn mPV (gU J 4 6 1, (s_kr I a b nn set nr).1.2.1, (s_kr I a b nn set nr).1.2.2) := rfl
  rw [← e] at D fx K
  have h7 : s_kI I a b nn nr set 4 7 = nI (s_kr I a b nn set nr).2 := k1.1
  have h8 : s_kI I a b nn nr set 4 8 = nI nn := k1.2.1
  refine ⟨⟨k5.2.2, fun k j h => ?_, fun k j q1 q2 q3 q4 => ?_, fun k j q1 q2 q3 => ?_⟩, ma_dk_of (J := (s_kf I J a b nn nr set).2.1) (b := (s_kf I J a b nn nr set).2.2.2) D h7 h8, ?_⟩
  · rw [fx.1 k j h]
    exact gU_n (by omega)
  · rw [fx.2.1 k j q1 q2]
    exact k5.1 k j q1 q2 q3 q4
  · rw [fx.2.2 k j q1 q2 q3]
    exact k5.2.1 k j q1 q3
  · rcases K with ⟨⟨q1, q2⟩, q3⟩ | ⟨q1, q2⟩
    · exact Or.inl ⟨q1, ⟨V, _, h7, h8, C, D, q2⟩, q3⟩
    · exact Or.inr ⟨q1, q2⟩
theorem ma_sall {a : gF} : ∀ n, s_all a n = m_all (fun _ j => a 12 j) n
  | 0 => rfl
  | n + 1 => by
    show (if a 12 n = 0 then s_all a n else s_all a n ||| ((1 : Int32) <<< (nI n &&& 31))) = (if a 12 n = 0 then m_all (fun _ j => a 12 j) n ||| 0 else m_all (fun _ j => a 12 j) n ||| ((1 : Int32) <<< (nI n &&& 31)))
    rw [ma_sall n, Int32.or_zero]
theorem ma_sall_S {a : gF} {nr : Nat} (hr : nr ≤ 8) : ma_isS (s_all a nr) ∧ (∀ r, r < 8 → (m_bt (s_all a nr) r ≠ 0 ↔ (r < nr ∧ a 12 r ≠ 0))) ∧ (∀ r, r < nr → (s_bit (s_all a nr) r ≠ 0 ↔ a 12 r ≠ 0)) := by
  rw [ma_sall]
  obtain ⟨h1, h2⟩ := ma_all_S (a := fun _ j => a 12 j) hr
  refine ⟨h1, h2, fun r hr2 => ?_⟩
  rw [(ma_S_bt h1 (by omega)).2, h2 r (by omega)]
  exact ⟨fun w => w.2, fun w => ⟨hr2, w⟩⟩
/-- the class's caches of points -/
def ma_fc1 (nn nr : Nat) (I : gF) (J : gL) (a : gF) (b : gL) : Prop := I 2 5 = 0 ∨ (I 2 5 = 1 ∧ ((I 2 6 = 1 ∧ ma_OKD nn nr I J a b) ∨ (I 2 6 = 0 ∧ ∀ X, ¬ ma_FC nn nr a (fun r => a 12 r ≠ 0) X)))
/-- the first best point, told by firstBest -/
def ma_BP (nn nr : Nat) (J : gL) (a : gF) (b : gL) : Prop := ∃ Y t, ma_FC nn nr a (fun r => a 12 r ≠ 0) Y ∧ ma_cor nn (ma_C nn (ma_ci a 6) (ma_ci a 7) (ma_ci a 10) (ma_fa a)) (ma_th nn nr (fun r => a 12 r ≠ 0)) t Y ∧ (∀ i, i < nn → (b 20 i).toInt = Y i) ∧ (J 2 4).toInt = Y 5 ∧ Y 5 ≤ 7085880 ∧ ma_MC nn nr a (fun r => a 12 r ≠ 0) Y ∧ ∀ X, ma_FC nn nr a (fun r => a 12 r ≠ 0) X → ma_MC nn nr a (fun r => a 12 r ≠ 0) X → ma_lx nn Y (Y 5) X (X 5)
def ma_Fec (nn nr : Nat) (a : gF) : Int32 → Prop := fun set => ∃ X, ma_FC nn nr a (fun r => s_bit set r ≠ 0) X
def ma_CI (nn nr : Nat) (x : gS) : Prop := x.1 1 7 = nI nn ∧ x.1 1 8 = nI nr ∧ ma_dat nn nr x.2.2.1 ∧ ma_dk x.1 x.2.2.1 ∧ (x.1 2 6 = 0 ∨ x.1 2 6 = 1) ∧ ma_fc1 nn nr x.1 x.2.1 x.2.2.1 x.2.2.2 ∧ (x.1 2 7 = 0 ∨ (x.1 2 7 = 1 ∧ ma_BP nn nr x.2.1 x.2.2.1 x.2.2.2)) ∧ (x.1 2 8 = 0 ∨ (x.1 2 8 = 1 ∧ x.1 2 9 = ma_gr (ma_Fec nn nr x.2.2.1) nr (s_all x.2.2.1 nr)))
theorem ma_OKD_pt {nn nr : Nat} {I : gF} {J : gL} {a : gF} {b : gL} (h : ma_OKD nn nr I J a b) : ∃ X, ma_FC nn nr a (fun r => a 12 r ≠ 0) X := by
  obtain ⟨V, nl, -, -, C, D, fe⟩ := h
  exact ⟨_, ma_yes D C fe⟩
theorem ma_FC_R {nn nr : Nat} {a : gF} {set : Int32} (h : ∀ r, r < nr → (s_bit set r ≠ 0 ↔ a 12 r ≠ 0)) {X : Nat → Int} : ma_FC nn nr a (fun r => s_bit set r ≠ 0) X ↔ ma_FC nn nr a (fun r => a 12 r ≠ 0) X := ma_fs_R h
theorem ma_gr_c {Fe Fe' : Int32 → Prop} (h : ∀ s, Fe s ↔ Fe' s) : ∀ k s, ma_gr Fe k s = ma_gr Fe' k s
  | 0, _ => rfl
  | k + 1, s => by
    by_cases q : m_bt s k ≠ 0 ∧ ¬ Fe (s_wo s k)
    · rw [ma_gr_y q, ma_gr_y ⟨q.1, fun w => q.2 ((h _).mpr w)⟩]
      exact ma_gr_c h k _
    · rw [ma_gr_n q, ma_gr_n (fun w => q ⟨w.1, fun w2 => w.2 ((h _).mp w2)⟩)]
      exact ma_gr_c h k _
theorem ma_BP_c {nn nr : Nat} {J J' : gL} {a a' : gF} {b b' : gL} (hr : nr ≤ 8) (h : ma_sm6 a a') (hb : ∀ i, b' 20 i = b 20 i) (hJ : J' 2 4 = J 2 4) (B : ma_BP nn nr J a b) : ma_BP nn nr J' a' b' := by
  obtain ⟨Y, t, y1, y2, y3, y4, y5, y6, y7⟩ := B
  have hR : ∀ r, r < nr → (a 12 r ≠ 0 ↔ a' 12 r ≠ 0) := fun r _ => by rw [h.2.2.2.2.2.1]
  have eF : ∀ X, ma_FC nn nr a' (fun r => a' 12 r ≠ 0) X ↔ ma_FC nn nr a (fun r => a 12 r ≠ 0) X := fun X => (ma_fs_c hr h).trans (ma_fs_R hR).symm
  have eM : ∀ X, ma_MC nn nr a' (fun r => a' 12 r ≠ 0) X ↔ ma_MC nn nr a (fun r => a 12 r ≠ 0) X := by
    intro X
    unfold ma_MC
    constructor
    · intro w X' hX'
      have := w X' ((eF X').mpr hX')
      rw [ma_cost_c h.2.2.1, ma_cost_c h.2.2.1] at this
      exact this
    · intro w X' hX'
      rw [ma_cost_c h.2.2.1, ma_cost_c h.2.2.1]
      exact w X' ((eF X').mp hX')
  refine ⟨Y, t, (eF Y).mpr y1, ?_, fun i hi => by rw [hb]; exact y3 i hi, by rw [hJ]; exact y4, y5, (eM Y).mpr y6, fun X h1 h2 => y7 X ((eF X).mp h1) ((eM X).mp h2)⟩
  have eC : ∀ c, ma_C nn (ma_ci a' 6) (ma_ci a' 7) (ma_ci a' 10) (ma_fa a') c = ma_C nn (ma_ci a 6) (ma_ci a 7) (ma_ci a 10) (ma_fa a) c := by
    intro c
    have e6 : ma_ci a' 6 = ma_ci a 6 := funext (fun i => by show (a' 6 i).toInt = _; rw [h.1])
    have e7 : ma_ci a' 7 = ma_ci a 7 := funext (fun i => by show (a' 7 i).toInt = _; rw [h.2.1])
    have e10 : ma_ci a' 10 = ma_ci a 10 := funext (fun i => by show (a' 10 i).toInt = _; rw [h.2.2.2.2.1])
    rw [e6, e7, e10]
    unfold ma_C
    by_cases q : c < 8
    · rw [if_pos q, if_pos q]
      exact ma_fm_c (fun s _ => by show (a' (40 + c) s).toInt = _; rw [h.2.2.2.2.2.2 c q]) rfl
    · rw [if_neg q, if_neg q]
  obtain ⟨t1, t2, t3, t4⟩ := y2
  exact ⟨fun i hi => (ma_th_R hR).mp (t1 i hi), t2, fun i hi => by rw [eC]; exact t3 i hi, fun Z z1 z2 z3 => t4 Z z1 z2 (fun i hi => by rw [← eC]; exact z3 i hi)⟩
theorem ma_Fec_c {nn nr : Nat} {a a' : gF} (hr : nr ≤ 8) (h : ma_sm6 a a') (s : Int32) : ma_Fec nn nr a' s ↔ ma_Fec nn nr a s := by
  unfold ma_Fec
  constructor
  · rintro ⟨X, hX⟩; exact ⟨X, (ma_fs_c hr h).mp hX⟩
  · rintro ⟨X, hX⟩; exact ⟨X, (ma_fs_c hr h).mpr hX⟩
theorem ma_sall_c {a a' : gF} (h : ∀ j, a' 12 j = a 12 j) : ∀ n, s_all a' n = s_all a n
  | 0 => rfl
  | n + 1 => by
    show (if a' 12 n = 0 then s_all a' n else s_all a' n ||| ((1 : Int32) <<< (nI n &&& 31))) = (if a 12 n = 0 then s_all a n else s_all a n ||| ((1 : Int32) <<< (nI n &&& 31)))
    rw [ma_sall_c h n, h n]
/-- hasPoint -/
theorem ma_hS {nn nr : Nat} {x : gS} (H : ma_CI nn nr x) : ma_CI nn nr (hS x) ∧ ma_fw x.1 (fun k j => if k = 2 ∧ (j = 5 ∨ j = 6) then x.1 k j else (hS x).1 k j) x.2.1 (hS x).2.1 x.2.2.1 (hS x).2.2.1 x.2.2.2 (hS x).2.2.2 ∧ (hS x).1 2 5 = 1 ∧ h_r x = (hS x).1 2 6 ∧ ((h_r x = 1 ∧ ma_OKD nn nr (hS x).1 (hS x).2.1 (hS x).2.2.1 (hS x).2.2.2) ∨ (h_r x = 0 ∧ ∀ X, ¬ ma_FC nn nr x.2.2.1 (fun r => x.2.2.1 12 r ≠ 0) X)) := by
  obtain ⟨h1, h2, hd, hk, h6, hf, hb, hbr⟩ := H
  have hnn : cN (x.1 1 7) = nn := by rw [h1]; exact ma_cN (by have := hd.1; omega)
  have hnr : cN (x.1 1 8) = nr := by rw [h2]; exact ma_cN (by have := hd.2.1; omega)
  have hr8 := hd.2.1
  unfold hS h_r s_hpI s_hpJ s_hpA s_hpB s_hp
  rw [hnn, hnr]
  by_cases h0 : x.1 2 5 = 0
  · simp only [if_pos h0]
    obtain ⟨f1, f2, f3⟩ := ma_ckS (I := x.1) (J := x.2.1) (b := x.2.2.2) (set := s_all x.2.2.1 nr) hd
    obtain ⟨a1, a2, a3⟩ := ma_sall_S (a := x.2.2.1) hr8
    generalize s_kI x.1 x.2.2.1 x.2.2.2 nn nr (s_all x.2.2.1 nr) = I' at *
    generalize s_kf x.1 x.2.1 x.2.2.1 x.2.2.2 nn nr (s_all x.2.2.1 nr) = y at *
    have s6 := ma_fw_6 f1
    have i25 : gU (gU I' 2 6 y.1) 2 5 1 2 5 = 1 := gU_s
    have i26 : gU (gU I' 2 6 y.1) 2 5 1 2 6 = y.1 := by rw [gU_n (by omega), gU_s]
    have io : ∀ k j, ¬ (k = 2 ∧ (j = 5 ∨ j = 6)) → gU (gU I' 2 6 y.1) 2 5 1 k j = I' k j := fun k j h => by rw [gU_n (by omega), gU_n (by omega)]
    have hR : ∀ r, r < nr → (s_bit (s_all x.2.2.1 nr) r ≠ 0 ↔ y.2.2.1 12 r ≠ 0) := fun r hr => by rw [a3 r hr, s6.2.2.2.2.2.1]
    have main : (y.1 = 1 ∧ ma_OKD nn nr (gU (gU I' 2 6 y.1) 2 5 1) y.2.1 y.2.2.1 y.2.2.2) ∨ (y.1 = 0 ∧ ∀ X, ¬ ma_FC nn nr x.2.2.1 (fun r => x.2.2.1 12 r ≠ 0) X) := by
      rcases f3 with ⟨q1, ⟨V, nl, v1, v2, v3, v4, v5⟩, -⟩ | ⟨q1, q2⟩
      · exact Or.inl ⟨q1, V, nl, by rw [io 4 7 (by omega)]; exact v1, by rw [io 4 8 (by omega)]; exact v2, ma_CD_c hr8 s6 hR v3, v4, v5⟩
      · exact Or.inr ⟨q1, fun X hX => q2 X ((ma_fs_R a3).mpr hX)⟩
    refine ⟨⟨?_, ?_, ma_dat_c s6 hd, ?_, ?_, ?_, ?_, ?_⟩, ?_, i25, i26.symm, main⟩
    · show gU (gU I' 2 6 y.1) 2 5 1 1 7 = _
      rw [io 1 7 (by omega), f1.1 1 7 (by omega) (by omega)]; exact h1
    · show gU (gU I' 2 6 y.1) 2 5 1 1 8 = _
      rw [io 1 8 (by omega), f1.1 1 8 (by omega) (by omega)]; exact h2
    · show ma_dk (gU (gU I' 2 6 y.1) 2 5 1) y.2.2.1
      unfold ma_dk at f2 ⊢
      rw [io 4 7 (by omega), io 4 8 (by omega)]
      exact f2
    · show gU (gU I' 2 6 y.1) 2 5 1 2 6 = 0 ∨ gU (gU I' 2 6 y.1) 2 5 1 2 6 = 1
      rw [i26]
      rcases main with q | q
      · exact Or.inr q.1
      · exact Or.inl q.1
    · refine Or.inr ⟨i25, ?_⟩
      show (gU (gU I' 2 6 y.1) 2 5 1 2 6 = 1 ∧ _) ∨ (gU (gU I' 2 6 y.1) 2 5 1 2 6 = 0 ∧ _)
      rw [i26]
      rcases main with q | q
      · exact Or.inl q
      · refine Or.inr ⟨q.1, fun X hX => q.2 X ?_⟩
        have := (ma_fs_c hr8 s6).mp hX
        exact (ma_fs_R (fun r _ => by rw [s6.2.2.2.2.2.1])).mp this
    · show gU (gU I' 2 6 y.1) 2 5 1 2 7 = 0 ∨ (gU (gU I' 2 6 y.1) 2 5 1 2 7 = 1 ∧ _)
      rw [io 2 7 (by omega), f1.1 2 7 (by omega) (by omega)]
      rcases hb with q | q
      · exact Or.inl q
      · exact Or.inr ⟨q.1, ma_BP_c hr8 s6 (fun i => f1.2.2.2 20 i (by omega) (by omega) (by omega)) (f1.2.1 2 4 (by omega)) q.2⟩
    · show gU (gU I' 2 6 y.1) 2 5 1 2 8 = 0 ∨ (gU (gU I' 2 6 y.1) 2 5 1 2 8 = 1 ∧ gU (gU I' 2 6 y.1) 2 5 1 2 9 = ma_gr (ma_Fec nn nr y.2.2.1) nr (s_all y.2.2.1 nr))
      rw [io 2 8 (by omega), f1.1 2 8 (by omega) (by omega), io 2 9 (by omega), f1.1 2 9 (by omega) (by omega), ma_sall_c s6.2.2.2.2.2.1, ma_gr_c (ma_Fec_c hr8 s6)]
      exact hbr
    · refine ⟨fun k j q1 q2 => ?_, f1.2.1, f1.2.2.1, f1.2.2.2⟩
      show (if k = 2 ∧ (j = 5 ∨ j = 6) then x.1 k j else gU (gU I' 2 6 y.1) 2 5 1 k j) = x.1 k j
      split
      · rfl
      · next w => rw [io k j w, f1.1 k j q1 q2]
  · simp only [if_neg h0]
    have hf' := hf
    rcases hf with q | ⟨q, w⟩
    · exact absurd q h0
    · refine ⟨⟨h1, h2, hd, hk, h6, hf', hb, hbr⟩, ⟨fun k j _ _ => ?_, fun _ _ _ => rfl, fun _ _ _ _ _ _ => rfl, fun _ _ _ _ _ => rfl⟩, q, trivial, w⟩
      show (if k = 2 ∧ (j = 5 ∨ j = 6) then x.1 k j else x.1 k j) = x.1 k j
      split <;> rfl
