/-! THE MATHEMATICS, 14: the reference's conditions, and keeps -/
/-- the numbers of the reference's problem are within the document's bounds -/
def ma_datM (mn mr : Nat) (a : gF) : Prop := mn ≤ 5 ∧ mr ≤ 8 ∧ (∀ i, i < mn → -100 ≤ (a 27 i).toInt ∧ (a 27 i).toInt ≤ (a 28 i).toInt ∧ (a 28 i).toInt ≤ 100 ∧ (a 29 i).toInt.natAbs ≤ 99) ∧ (∀ r, r < mr → (a 31 r).toInt.natAbs ≤ 1000 ∧ (a 30 r = 0 ∨ a 30 r = 1 ∨ a 30 r = 2) ∧ ∀ i, i < mn → (a 32 (5 * r + i)).toInt.natAbs ≤ 9)
abbrev ma_fm2 (a : gF) : Nat → Nat → Int := fun r i => (a 32 (5 * r + i)).toInt
abbrev ma_CM (mn : Nat) (a : gF) : Nat → Nat → Int := ma_C mn (ma_ci a 27) (ma_ci a 28) (ma_ci a 31) (ma_fm2 a)
theorem ma_part0 {a : gF} {c j : Nat} (hc : c < 18) (hj : j < 6) : (m_part a c j).toInt = if c < 8 then (if j = 5 then (a 31 c).toInt else (a 32 (5 * c + j)).toInt) else if j = 5 then (if c < 13 then (a 27 (c - 8)).toInt else (a 28 (c - 13)).toInt) else if j = (c - 8) % 5 then 1 else 0 := by
  unfold m_part
  have e8 : (8 : Int32) = nI 8 := rfl
  have e13 : (13 : Int32) = nI 13 := rfl
  have e5 : (5 : Int32) = nI 5 := rfl
  rw [e8, e13, e5]
  by_cases h : c < 8
  · rw [if_pos h, if_neg (by rw [nI_leI (by omega) (by omega)]; omega)]
    by_cases h5 : j = 5
    · rw [if_pos h5, if_pos (by rw [h5]), Int32.toInt_toInt64]
    · rw [if_neg h5, if_neg (by rw [nI_eq (by omega) (by omega)]; exact h5), Int32.toInt_toInt64]
  · rw [if_neg h, if_pos (by rw [nI_leI (by omega) (by omega)]; omega)]
    by_cases h5 : j = 5
    · rw [if_pos h5, if_pos (by rw [h5])]
      by_cases h13 : c < 13
      · rw [if_pos h13, if_neg (by rw [nI_leI (by omega) (by omega)]; omega), Int32.toInt_toInt64]
        have : (c - 8) % 5 = c - 8 := by omega
        rw [this]
      · rw [if_neg h13, if_pos (by rw [nI_leI (by omega) (by omega)]; omega), Int32.toInt_toInt64]
        have : (c - 8) % 5 = c - 13 := by omega
        rw [this]
    · rw [if_neg h5, if_neg (by rw [nI_eq (by omega) (by omega)]; exact h5)]
      by_cases h2 : j = (c - 8) % 5
      · rw [if_pos h2, if_pos (by rw [h2])]
        rfl
      · rw [if_neg h2, if_neg (by rw [nI_eq (by omega) (by omega)]; exact h2)]
        rfl
theorem ma_F_C {a : gF} {mn c : Nat} (hmn : mn ≤ 5) (hc : c < 18) : ma_F a mn c = ma_CM mn a c := by
  unfold ma_F ma_CM ma_C
  rw [ma_part0 hc (by omega)]
  by_cases h : c < 8
  · rw [if_pos h, if_pos h, if_pos rfl]
    refine ma_fm_c (fun s hs => ?_) rfl
    rw [ma_part0 hc (by omega), if_pos h, if_neg (by omega)]
  · rw [if_neg h, if_neg h, if_pos rfl]
    by_cases h13 : c < 13
    · rw [if_pos h13, if_pos h13]
      refine ma_fm_c (fun s hs => ?_) rfl
      rw [ma_part0 hc (by omega), if_neg h, if_neg (by omega)]
      have : (c - 8) % 5 = c - 8 := by omega
      rw [this]
      rfl
    · rw [if_neg h13, if_neg h13]
      refine ma_fm_c (fun s hs => ?_) rfl
      rw [ma_part0 hc (by omega), if_neg h, if_neg (by omega)]
      have : (c - 8) % 5 = c - 13 := by omega
      rw [this]
      rfl
theorem ma_F_bd {a : gF} {mn mr c : Nat} {R : Nat → Prop} (hd : ma_datM mn mr a) (hc : ma_th mn mr R c) : ma_bd (ma_CM mn a c) := by
  obtain ⟨d1, d2, d3, d4⟩ := hd
  obtain ⟨c1, c2, c3⟩ := hc
  unfold ma_CM ma_C
  by_cases h : c < 8
  · rw [if_pos h]
    have := d4 c (c2 h).1
    refine ma_fm_bd (fun s hs => this.2.2 s hs) ?_
    show (-(a 31 c).toInt).natAbs ≤ 1000
    omega
  · rw [if_neg h]
    have c3 := c3 (by omega)
    by_cases h13 : c < 13
    · rw [if_pos h13]
      have := d3 (c - 8) (by omega)
      refine ma_fm_bd (fun s _ => by unfold ma_e; split <;> decide) ?_
      show (-(a 27 (c - 8)).toInt).natAbs ≤ 1000
      omega
    · rw [if_neg h13]
      have := d3 (c - 13) (by omega)
      refine ma_fm_bd (fun s _ => by unfold ma_e; split <;> decide) ?_
      show (-(a 28 (c - 13)).toInt).natAbs ≤ 1000
      omega
/-- the point that solve has found -/
def ma_mX (J : gL) (b : gL) (mn : Nat) : Nat → Int := fun i => if i = 5 then (J 5 23).toInt else if i < mn then (b 89 i).toInt else 0
theorem ma_mX_z {J b : gL} {mn : Nat} : ma_zr mn (ma_mX J b mn) := fun i h1 h2 => by
  unfold ma_mX
  rw [if_neg (by omega), if_neg (by omega)]
theorem ma_mX_i {J b : gL} {mn i : Nat} (hmn : mn ≤ 5) (hi : i < mn) : ma_mX J b mn i = (b 89 i).toInt := by
  unfold ma_mX
  rw [if_neg (by omega), if_pos hi]
theorem ma_mX_5 {J b : gL} {mn : Nat} : ma_mX J b mn 5 = (J 5 23).toInt := if_pos rfl
theorem ma_kp1 {J : gL} {a : gF} {b : gL} {mn : Nat} (hd : ∀ i, i < mn → (a 27 i).toInt.natAbs ≤ 100 ∧ (a 28 i).toInt.natAbs ≤ 100) (hU : (J 5 23).toInt.natAbs ≤ 7085880) : ∀ n i, i + n ≤ mn → (m_kp1 J a b n i = 0 ∨ m_kp1 J a b n i = 1) ∧ (m_kp1 J a b n i = 1 ↔ ∀ q, i ≤ q → q < i + n → (a 27 q).toInt * (J 5 23).toInt ≤ (b 89 q).toInt ∧ (b 89 q).toInt ≤ (a 28 q).toInt * (J 5 23).toInt)
  | 0, i, _ => ⟨Or.inr rfl, ⟨fun _ q h1 h2 => by omega, fun _ => rfl⟩⟩
  | n + 1, i, hn => by
    obtain ⟨i0, i1⟩ := ma_kp1 (J := J) (b := b) hd hU n (i + 1) (by omega)
    have b1 := hd i (by omega)
    have m1 : ((a 27 i).toInt64 * J 5 23).toInt = (a 27 i).toInt * (J 5 23).toInt := ma_mul (Int32.toInt_toInt64 _) rfl (by have := ma_mb b1.1 hU; omega)
    have m2 : ((a 28 i).toInt64 * J 5 23).toInt = (a 28 i).toInt * (J 5 23).toInt := ma_mul (Int32.toInt_toInt64 _) rfl (by have := ma_mb b1.2 hU; omega)
    have e : m_kp1 J a b (n + 1) i = if b 89 i < (a 27 i).toInt64 * J 5 23 then 0 else if b 89 i ≤ (a 28 i).toInt64 * J 5 23 then m_kp1 J a b n (i + 1) else 0 := rfl
    rw [e]
    by_cases h1 : b 89 i < (a 27 i).toInt64 * J 5 23
    · rw [if_pos h1]
      rw [Int64.lt_iff_toInt_lt, m1] at h1
      refine ⟨Or.inl rfl, ⟨fun q => absurd q (by decide), fun q => ?_⟩⟩
      have := (q i (by omega) (by omega)).1
      omega
    · rw [if_neg h1]
      rw [Int64.lt_iff_toInt_lt, m1] at h1
      by_cases h2 : b 89 i ≤ (a 28 i).toInt64 * J 5 23
      · rw [if_pos h2]
        rw [Int64.le_iff_toInt_le, m2] at h2
        refine ⟨i0, ⟨fun q w h3 h4 => ?_, fun q => i1.mpr (fun w h3 h4 => q w (by omega) (by omega))⟩⟩
        by_cases h5 : w = i
        · rw [h5]
          exact ⟨by omega, h2⟩
        · exact i1.mp q w (by omega) (by omega)
      · rw [if_neg h2]
        rw [Int64.le_iff_toInt_le, m2] at h2
        refine ⟨Or.inl rfl, ⟨fun q => absurd q (by decide), fun q => ?_⟩⟩
        have := (q i (by omega) (by omega)).2
        omega
theorem ma_mks {J : gL} {a : gF} {b : gL} {mn mr r : Nat} (hd : ma_datM mn mr a) (hr : r < mr) (hU : (J 5 23).toInt.natAbs ≤ 7085880) (hO : ∀ i, i < mn → (b 89 i).toInt.natAbs ≤ 42515280000) : ∀ n, n ≤ mn → (m_ks J a b r n).toInt = -((a 31 r).toInt * (J 5 23).toInt) + ma_sm (fun i => (a 32 (5 * r + i)).toInt * (b 89 i).toInt) n ∧ (-((a 31 r).toInt * (J 5 23).toInt) + ma_sm (fun i => (a 32 (5 * r + i)).toInt * (b 89 i).toInt) n).natAbs ≤ 7085880000 + n * 382637520000
  | 0, _ => by
    have b1 := (hd.2.2.2 r hr).1
    have n1 : (-a 31 r).toInt = -(a 31 r).toInt := ma_neg3 rfl (by omega)
    have m0 := ma_mb b1 hU
    have m1 : ((-a 31 r).toInt64 * J 5 23).toInt = -(a 31 r).toInt * (J 5 23).toInt := ma_mul (by rw [Int32.toInt_toInt64, n1]) rfl (by rw [Int.neg_mul]; omega)
    rw [Int.neg_mul] at m1
    refine ⟨?_, ?_⟩
    · show ((-a 31 r).toInt64 * J 5 23).toInt = _ + 0
      rw [m1]
      omega
    · show (_ + (0 : Int)).natAbs ≤ _
      omega
  | n + 1, hn => by
    obtain ⟨i1, i2⟩ := ma_mks hd hr hU hO n (by omega)
    have f1 := (hd.2.2.2 r hr).2.2 n (by omega)
    have m0 := ma_mb f1 (hO n (by omega))
    have m1 : ((a 32 (5 * r + n)).toInt64 * b 89 n).toInt = (a 32 (5 * r + n)).toInt * (b 89 n).toInt := ma_mul (Int32.toInt_toInt64 _) rfl (by omega)
    have d1 := hd.1
    have b2 : (-((a 31 r).toInt * (J 5 23).toInt) + (ma_sm (fun i => (a 32 (5 * r + i)).toInt * (b 89 i).toInt) n + (a 32 (5 * r + n)).toInt * (b 89 n).toInt)).natAbs ≤ 7085880000 + (n + 1) * 382637520000 := by omega
    refine ⟨?_, b2⟩
    show (m_ks J a b r n + (a 32 (5 * r + n)).toInt64 * b 89 n).toInt = -((a 31 r).toInt * (J 5 23).toInt) + (ma_sm (fun i => (a 32 (5 * r + i)).toInt * (b 89 i).toInt) n + (a 32 (5 * r + n)).toInt * (b 89 n).toInt)
    rw [ma_add i1 m1 (by omega)]
    omega
theorem ma_g0 {s : Int32} {T : Int64} {nx : Int32} (hs : s = 0 ∨ s = 1 ∨ s = 2) (hx : nx = 0 ∨ nx = 1) : (m_g0 s T nx = 0 ∨ m_g0 s T nx = 1) ∧ (m_g0 s T nx = 1 ↔ ((s.toInt ≠ 2 → T.toInt ≤ 0) ∧ (s.toInt ≠ 0 → 0 ≤ T.toInt)) ∧ nx = 1) := by
  have z0 : (0 : Int32).toInt = 0 := rfl
  have z1 : (1 : Int32).toInt = 1 := rfl
  have z2 : (2 : Int32).toInt = 2 := rfl
  unfold m_g0 m_g1 m_g2
  rcases hs with q | q | q
  · rw [q, if_pos rfl, z0]
    by_cases h : 0 < T
    · rw [if_pos h]
      have := ma_p0.mp h
      exact ⟨Or.inl rfl, ⟨fun w => absurd w (by decide), fun w => by have := w.1.1 (by decide); omega⟩⟩
    · rw [if_neg h, if_neg (by decide), if_neg (by decide)]
      have := Int.not_lt.mp (fun w => h (ma_p0.mpr w))
      exact ⟨hx, ⟨fun w => ⟨⟨fun _ => this, fun c => absurd rfl c⟩, w⟩, fun w => w.2⟩⟩
  · rw [q, if_neg (by decide), if_pos rfl, z1]
    by_cases h : T = 0
    · rw [if_pos h, if_neg (by decide)]
      have := ma_e0.mp h
      exact ⟨hx, ⟨fun w => ⟨⟨fun _ => by omega, fun _ => by omega⟩, w⟩, fun w => w.2⟩⟩
    · rw [if_neg h]
      exact ⟨Or.inl rfl, ⟨fun w => absurd w (by decide), fun w => absurd (ma_e0.mpr (Int.le_antisymm (w.1.1 (by decide)) (w.1.2 (by decide)))) h⟩⟩
  · rw [q, if_neg (by decide), if_neg (by decide), if_pos rfl, z2]
    by_cases h : 0 ≤ T
    · rw [if_pos h]
      have := ma_l0.mp h
      exact ⟨hx, ⟨fun w => ⟨⟨fun c => absurd rfl c, fun _ => this⟩, w⟩, fun w => w.2⟩⟩
    · rw [if_neg h]
      have := fun w => h (ma_l0.mpr w)
      exact ⟨Or.inl rfl, ⟨fun w => absurd w (by decide), fun w => absurd (w.1.2 (by decide)) this⟩⟩
theorem ma_kp2 {J : gL} {a : gF} {b : gL} {mn mr : Nat} {set : Int32} (hd : ma_datM mn mr a) (hU : (J 5 23).toInt.natAbs ≤ 7085880) (hO : ∀ i, i < mn → (b 89 i).toInt.natAbs ≤ 42515280000) : ∀ n r, r + n ≤ mr → (m_kp2 J a b set mn n r = 0 ∨ m_kp2 J a b set mn n r = 1) ∧ (m_kp2 J a b set mn n r = 1 ↔ ∀ q, r ≤ q → q < r + n → m_bt set q ≠ 0 → ma_kr1 mn (a 30 q).toInt (a 31 q).toInt (ma_fm2 a q) (ma_mX J b mn))
  | 0, r, _ => ⟨Or.inr rfl, ⟨fun _ q h1 h2 => by omega, fun _ => rfl⟩⟩
  | n + 1, r, hn => by
    obtain ⟨i0, i1⟩ := ma_kp2 (set := set) hd hU hO n (r + 1) (by omega)
    obtain ⟨t1, -⟩ := ma_mks hd (show r < mr by omega) hU hO mn (Nat.le_refl _)
    have e : m_kp2 J a b set mn (n + 1) r = if m_bt set r = 0 then m_kp2 J a b set mn n (r + 1) else m_g0 (a 30 r) (m_ks J a b r mn) (m_kp2 J a b set mn n (r + 1)) := rfl
    rw [e]
    by_cases hb : m_bt set r = 0
    · rw [if_pos hb]
      refine ⟨i0, ⟨fun q w h3 h4 h6 => ?_, fun q => i1.mpr (fun w h3 h4 => q w (by omega) (by omega))⟩⟩
      by_cases h5 : w = r
      · rw [h5] at h6; exact absurd hb h6
      · exact i1.mp q w (by omega) (by omega) h6
    · rw [if_neg hb]
      obtain ⟨g1, g2⟩ := ma_g0 (T := m_ks J a b r mn) (hd.2.2.2 r (by omega)).2.1 i0
      have hrow : ((a 30 r).toInt ≠ 2 → (m_ks J a b r mn).toInt ≤ 0) ∧ ((a 30 r).toInt ≠ 0 → 0 ≤ (m_ks J a b r mn).toInt) ↔ ma_kr1 mn (a 30 r).toInt (a 31 r).toInt (ma_fm2 a r) (ma_mX J b mn) := by
        have es : ma_sm (fun i => ma_fm2 a r i * ma_mX J b mn i) mn = ma_sm (fun i => (a 32 (5 * r + i)).toInt * (b 89 i).toInt) mn := ma_sm_congr (fun i hi => by rw [ma_mX_i hd.1 hi])
        unfold ma_kr1
        rw [es, ma_mX_5, t1]
        constructor
        · intro h
          exact ⟨fun q => by have := h.1 q; omega, fun q => by have := h.2 q; omega⟩
        · intro h
          exact ⟨fun q => by have := h.1 q; omega, fun q => by have := h.2 q; omega⟩
      refine ⟨g1, ⟨fun q w h3 h4 h6 => ?_, fun q => g2.mpr ⟨hrow.mpr (q r (by omega) (by omega) hb), i1.mpr (fun w h3 h4 => q w (by omega) (by omega))⟩⟩⟩
      by_cases h5 : w = r
      · rw [h5]
        exact hrow.mp (g2.mp q).1
      · exact i1.mp (g2.mp q).2 w (by omega) (by omega) h6
theorem ma_mkeeps {J : gL} {a : gF} {b : gL} {mn mr : Nat} {set : Int32} (hd : ma_datM mn mr a) (hU0 : 0 < (J 5 23).toInt) (hU : (J 5 23).toInt.natAbs ≤ 7085880) (hO : ∀ i, i < mn → (b 89 i).toInt.natAbs ≤ 42515280000) : (m_keeps J a b set mn mr = 0 ∨ m_keeps J a b set mn mr = 1) ∧ (m_keeps J a b set mn mr = 1 ↔ ma_fs mn mr (ma_ci a 27) (ma_ci a 28) (ma_ci a 30) (ma_ci a 31) (ma_fm2 a) (fun r => m_bt set r ≠ 0) (ma_mX J b mn)) := by
  obtain ⟨p0, p1⟩ := ma_kp1 (J := J) (a := a) (b := b) (mn := mn) (fun i hi => by have := hd.2.2.1 i hi; omega) hU mn 0 (by omega)
  obtain ⟨q0, q1⟩ := ma_kp2 (set := set) hd hU hO mr 0 (by omega)
  unfold m_keeps
  have spans : m_kp1 J a b mn 0 = 1 ↔ ma_pt mn (ma_ci a 27) (ma_ci a 28) (ma_mX J b mn) := by
    rw [p1]
    constructor
    · intro h
      refine ⟨by rw [ma_mX_5]; exact hU0, ma_mX_z, fun i hi => ?_⟩
      rw [ma_mX_5, ma_mX_i hd.1 hi]
      exact h i (by omega) (by omega)
    · intro h q h1 h2
      have := h.2.2 q (by omega)
      rw [ma_mX_5, ma_mX_i hd.1 (by omega)] at this
      exact this
  by_cases h : m_kp1 J a b mn 0 = 0
  · rw [if_pos h]
    refine ⟨Or.inl rfl, ⟨fun w => absurd w (by decide), fun w => ?_⟩⟩
    have := spans.mpr w.1
    rw [h] at this
    exact absurd this (by decide)
  · rw [if_neg h]
    have h1 := p0.resolve_left h
    refine ⟨q0, ⟨fun w => ⟨spans.mp h1, fun r hr hR => q1.mp w r (by omega) (by omega) hR⟩, fun w => q1.mpr (fun r _ hr hR => w.2 r (by omega) hR)⟩⟩
/-- conditions that stand, and the next of them -/
theorem ma_mthere {I : gF} {set : Int32} {mn mr c : Nat} (hI : I 5 0 = nI mn) (hmn : mn ≤ 5) (hs : ∀ r, r < 8 → m_bt set r ≠ 0 → r < mr) (hb : ∀ r, r < 8 → m_bt set r = 0 ∨ m_bt set r = 1) (hc : c < 18) : (m_there I set c ≠ 0 ↔ ma_th mn mr (fun r => m_bt set r ≠ 0) c) := by
  unfold m_there ma_th
  have e8 : (8 : Int32) = nI 8 := rfl
  rw [hI, e8]
  by_cases h : c < 8
  · rw [if_neg (by rw [nI_leI (by omega) (by omega)]; omega)]
    show (if m_bt set c = 1 then (1 : Int32) else 0) ≠ 0 ↔ _
    rcases hb c h with q | q
    · rw [q, if_neg (by decide)]
      constructor
      · intro w; exact absurd rfl w
      · rintro ⟨-, w, -⟩
        exact absurd q (w h).2
    · rw [q, if_pos rfl]
      have hne : m_bt set c ≠ 0 := by rw [q]; decide
      exact ⟨fun _ => ⟨hc, fun _ => ⟨hs c h hne, hne⟩, fun w => by omega⟩, fun _ => by decide⟩
  · rw [if_pos (by rw [nI_leI (by omega) (by omega)]; omega)]
    by_cases h2 : (c - 8) % 5 < mn
    · rw [if_neg (by rw [nI_leI (by omega) (by omega)]; omega)]
      exact ⟨fun _ => ⟨hc, fun w => absurd w h, fun _ => h2⟩, fun _ => by decide⟩
    · rw [if_pos (by rw [nI_leI (by omega) (by omega)]; omega)]
      exact ⟨fun w => absurd rfl w, fun w => absurd (w.2.2 (by omega)) h2⟩
theorem ma_aft {I : gF} {set : Int32} : ∀ n k, k ≤ m_aft I set n k ∧ m_aft I set n k ≤ k + n ∧ (m_aft I set n k < k + n → m_there I set (m_aft I set n k) ≠ 0) ∧ ∀ q, k ≤ q → q < m_aft I set n k → m_there I set q = 0
  | 0, k => ⟨Nat.le_refl _, Nat.le_refl _, fun h => absurd h (Nat.lt_irrefl _), fun q h1 h2 => by have h2 : q < k := h2; omega⟩
  | n + 1, k => by
    have e : m_aft I set (n + 1) k = if m_there I set k = 0 then m_aft I set n (k + 1) else k := rfl
    by_cases h : m_there I set k = 0
    · rw [e, if_pos h]
      obtain ⟨i1, i2, i3, i4⟩ := ma_aft (I := I) (set := set) n (k + 1)
      refine ⟨by omega, by omega, fun q => i3 (by omega), fun q h1 h2 => ?_⟩
      by_cases h3 : q = k
      · rw [h3]; exact h
      · exact i4 q (by omega) h2
    · rw [e, if_neg h]
      exact ⟨Nat.le_refl _, by omega, fun _ => h, fun q h1 h2 => by omega⟩
