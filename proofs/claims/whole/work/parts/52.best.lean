/-! THE MATHEMATICS, 18: what the class finds among the points -/
abbrev ma_FC (nn nr : Nat) (a : gF) (R : Nat → Prop) : (Nat → Int) → Prop := ma_fs nn nr (ma_ci a 6) (ma_ci a 7) (ma_ci a 9) (ma_ci a 10) (ma_fa a) R
theorem ma_DI_a {nc nl : Nat} {V : Nat → Nat → Int} {J : gL} {a a' : gF} {b : gL} (D : ma_DI nc nl V J a b) (h15 : ∀ j, a' 15 j = a 15 j) (h16 : ∀ j, a' 16 j = a 16 j) : ma_DI nc nl V J a' b ∧ ma_Oa a' = ma_Oa a := by
  have eO : ma_Oa a' = ma_Oa a := funext (fun s => by unfold ma_Oa; rw [h16])
  have eB : ma_Ba a' = ma_Ba a := funext (fun s => by unfold ma_Ba; rw [h15])
  have eo : ma_oo nc V a' = ma_oo nc V a := by unfold ma_oo; rw [eO]
  refine ⟨?_, eO⟩
  unfold ma_DI
  rw [eo, eO, eB]
  obtain ⟨q1, q2, q3, q4, q5, q6⟩ := D
  exact ⟨q1, q2, q3, fun s hs => by rw [h16]; exact q4 s hs, fun r hr => by rw [h15]; exact q5 r hr, q6⟩
/-- a dictionary at a point, and the face of points where its frozen columns are 0 -/
def ma_FS (nn nr nl : Nat) (V : Nat → Nat → Int) (a0 : gF) (R : Nat → Prop) (y : ma_X) (W : (Nat → Int) → Prop) : Prop := ma_DX nn nl V y ∧ ma_fe nn nl V y ∧ (∀ X, ma_FC nn nr a0 R X → (W X ↔ ∀ s, s < nn → ¬ y.2.1 17 s = 0 → ma_dot (V (ma_Oa y.2.1 s)) X = 0))
theorem ma_FS_a {nn nr nl : Nat} {V : Nat → Nat → Int} {a0 : gF} {R : Nat → Prop} {J : gL} {a a' : gF} {b : gL} {W W' : (Nat → Int) → Prop} (F : ma_FS nn nr nl V a0 R (J, a, b) W) (h15 : ∀ j, a' 15 j = a 15 j) (h16 : ∀ j, a' 16 j = a 16 j) (hW : ∀ X, ma_FC nn nr a0 R X → (W' X ↔ ∀ s, s < nn → ¬ a' 17 s = 0 → ma_dot (V (ma_Oa a s)) X = 0)) : ma_FS nn nr nl V a0 R (J, a', b) W' ∧ ma_pY nn V (J, a', b) = ma_pY nn V (J, a, b) := by
  obtain ⟨D, eO⟩ := ma_DI_a F.1 h15 h16
  have eo : ma_oo nn V a' = ma_oo nn V a := by unfold ma_oo; rw [eO]
  refine ⟨⟨D, fun j hj => ?_, fun X hX => ?_⟩, ?_⟩
  · show 0 ≤ ma_k (ma_oo nn V a') 5 (V j)
    rw [eo]
    exact F.2.1 j hj
  · rw [hW X hX]
    show _ ↔ ∀ s, s < nn → ¬ a' 17 s = 0 → ma_dot (V (ma_Oa a' s)) X = 0
    rw [eO]
  · funext i
    show ma_k (ma_oo nn V a') 5 (ma_e i) = ma_k (ma_oo nn V a) 5 (ma_e i)
    rw [eo]
theorem ma_sm_z {f : Nat → Int} : ∀ {n : Nat}, (∀ i, i < n → 0 ≤ f i) → ma_sm f n = 0 → ∀ i, i < n → f i = 0
  | 0, _, _, i, hi => by omega
  | n + 1, h, hz, i, hi => by
    have h1 := ma_sm_nn (n := n) (fun i hi => h i (by omega))
    have h2 := h n (by omega)
    have hz : ma_sm f n + f n = 0 := hz
    by_cases e : i = n
    · rw [e]; omega
    · exact ma_sm_z (n := n) (fun i hi => h i (by omega)) (by omega) i (by omega)
/-- minimise over a face -/
theorem ma_minF {nn nr nl n : Nat} {V : Nat → Nat → Int} {a0 : gF} {R : Nat → Prop} {x : ma_X} {W : (Nat → Int) → Prop} {I : gF} {kg : Nat} (C : ma_CD nn nr a0 R nl V) (F : ma_FS nn nr nl V a0 R x W) (hn : 65780 ≤ n) (hI : I 4 8 = nI nn) (hk1 : kg ≠ 15) (hk2 : kg ≠ 16) (hg : ∀ i, i < nn → (x.2.1 kg i).toInt.natAbs ≤ 99) :
    ma_FS nn nr nl V a0 R (d_min I kg nl nn n x) W ∧ ma_fx x (d_min I kg nl nn n x) ∧ ma_FC nn nr a0 R (ma_pY nn V (d_min I kg nl nn n x)) ∧ W (ma_pY nn V (d_min I kg nl nn n x)) ∧ (∀ X, ma_FC nn nr a0 R X → W X → ma_dot (ma_gl x.2.1 kg nn) (ma_pY nn V (d_min I kg nl nn n x)) * X 5 ≤ ma_dot (ma_gl x.2.1 kg nn) X * ma_pY nn V (d_min I kg nl nn n x) 5) ∧
    ma_FS nn nr nl V a0 R ((d_min I kg nl nn n x).1, d_freeze (d_min I kg nl nn n x).2.1 (d_min I kg nl nn n x).2.2 nn, (d_min I kg nl nn n x).2.2) (fun X => W X ∧ ma_dot (ma_gl x.2.1 kg nn) X * ma_pY nn V (d_min I kg nl nn n x) 5 = ma_dot (ma_gl x.2.1 kg nn) (ma_pY nn V (d_min I kg nl nn n x)) * X 5) := by
  obtain ⟨D, fe, fa⟩ := F
  obtain ⟨m1, m2, m3, m4, m5, m6⟩ := ma_min_s (n := n) D C.1 C.2.1 C.2.2.1 hn hI hk1 hk2 hg fe
  have yFC := ma_yes m1 C m3
  have f17 : ∀ s, (d_min I kg nl nn n x).2.1 17 s = x.2.1 17 s := fun s => m2.2.1 17 s (by decide) (by decide)
  have fa' : ∀ X, ma_FC nn nr a0 R X → (W X ↔ ∀ s, s < nn → ¬ (d_min I kg nl nn n x).2.1 17 s = 0 → ma_dot (V (ma_Oa (d_min I kg nl nn n x).2.1 s)) X = 0) := by
    intro X hX
    rw [fa X hX]
    constructor
    · intro h s hs hz
      rw [f17] at hz
      rw [m6 s hs hz]
      exact h s hs hz
    · intro h s hs hz
      rw [← m6 s hs hz]
      exact h s hs (by rw [f17]; exact hz)
  have FS' : ma_FS nn nr nl V a0 R (d_min I kg nl nn n x) W := ⟨m1, m3, fa'⟩
  have kO := fun s hs => ma_kO m1 (s := 5) (s' := s) (by omega) hs
  have n1 := m1.1.1
  have yW : W (ma_pY nn V (d_min I kg nl nn n x)) := (fa' _ yFC).mpr (fun s hs _ => by rw [ma_pY_dot m1, kO s hs, if_neg (by omega)])
  obtain ⟨z1, z2, z3⟩ := ma_pY_z m1
  have hterm : ∀ X, ma_FC nn nr a0 R X → W X → ∀ s, s < nn → 0 ≤ ma_kx nn V (d_min I kg nl nn n x) s (ma_gl x.2.1 kg nn) * ma_dot (V (ma_Oa (d_min I kg nl nn n x).2.1 s)) X := by
    intro X hX hW s hs
    by_cases hz : x.2.1 17 s = 0
    · exact Int.mul_nonneg (m5 s hs hz) ((C.2.2.2.1 X hX.1.2.1 hX.1.1).mpr hX _ (m1.2.2.2.1 s hs).2)
    · rw [(fa' X hX).mp hW s hs (by rw [f17]; exact hz)]
      omega
  have tell : ∀ X, ma_FC nn nr a0 R X → ma_dot (ma_gl x.2.1 kg nn) X * ma_pY nn V (d_min I kg nl nn n x) 5 = ma_sm (fun s => ma_kx nn V (d_min I kg nl nn n x) s (ma_gl x.2.1 kg nn) * ma_dot (V (ma_Oa (d_min I kg nl nn n x).2.1 s)) X) nn + ma_dot (ma_gl x.2.1 kg nn) (ma_pY nn V (d_min I kg nl nn n x)) * X 5 := by
    intro X hX
    rw [z2, Int.mul_comm, ma_tell m1 _ hX.1.2.1, ma_pY_dot m1]
  refine ⟨FS', m2, yFC, yW, fun X hX hW => ?_, ?_⟩
  · have h1 := tell X hX
    have h2 := ma_sm_nn (hterm X hX hW)
    omega
  · have hfz : ∀ m k j, d_freeze (d_min I kg nl nn n x).2.1 (d_min I kg nl nn n x).2.2 m k j = if k = 17 ∧ j < m ∧ ¬ (d_min I kg nl nn n x).2.2 18 j ≤ 0 then 1 else (d_min I kg nl nn n x).2.1 k j := by
      intro m
      induction m with
      | zero => intro k j; rw [if_neg (by omega)]; rfl
      | succ m ih =>
        intro k j
        show (if (d_min I kg nl nn n x).2.2 18 m ≤ 0 then d_freeze (d_min I kg nl nn n x).2.1 (d_min I kg nl nn n x).2.2 m else gU (d_freeze (d_min I kg nl nn n x).2.1 (d_min I kg nl nn n x).2.2 m) 17 m 1) k j = _
        by_cases hb : (d_min I kg nl nn n x).2.2 18 m ≤ 0
        · rw [if_pos hb, ih]
          by_cases hj : j = m
          · rw [hj, if_neg (by omega), if_neg (fun q => q.2.2 hb)]
          · by_cases h2 : k = 17 ∧ j < m ∧ ¬ (d_min I kg nl nn n x).2.2 18 j ≤ 0
            · rw [if_pos h2, if_pos ⟨h2.1, by omega, h2.2.2⟩]
            · rw [if_neg h2, if_neg (fun q => h2 ⟨q.1, by omega, q.2.2⟩)]
        · rw [if_neg hb]
          by_cases h : k = 17 ∧ j = m
          · obtain ⟨rfl, rfl⟩ := h
            rw [gU_s, if_pos ⟨rfl, by omega, hb⟩]
          · rw [gU_n (by omega), ih]
            by_cases h2 : k = 17 ∧ j < m ∧ ¬ (d_min I kg nl nn n x).2.2 18 j ≤ 0
            · rw [if_pos h2, if_pos ⟨h2.1, by omega, h2.2.2⟩]
            · rw [if_neg h2, if_neg (fun q => h2 ⟨q.1, by omega, q.2.2⟩)]
    refine (ma_FS_a (J := (d_min I kg nl nn n x).1) (b := (d_min I kg nl nn n x).2.2) FS' (fun j => by rw [hfz, if_neg (by omega)]) (fun j => by rw [hfz, if_neg (by omega)]) (fun X hX => ?_)).1
    constructor
    · rintro ⟨hW, he⟩ s hs hz
      rw [hfz] at hz
      by_cases hb : (d_min I kg nl nn n x).2.2 18 s ≤ 0
      · rw [if_neg (fun q => q.2.2 hb)] at hz
        exact (fa' X hX).mp hW s hs hz
      · have hpos := Int.not_le.mp (fun q => hb (ma_l0'.mpr q))
        rw [m4 s hs] at hpos
        have h1 := tell X hX
        have h2 := ma_sm_z (hterm X hX hW) (by omega) s hs
        rcases Int.mul_eq_zero.mp h2 with q | q
        · omega
        · exact q
    · intro h
      have hW : W X := (fa' X hX).mpr (fun s hs hz => h s hs (by
        rw [hfz]
        split
        · decide
        · exact hz))
      refine ⟨hW, ?_⟩
      rw [tell X hX, ma_sm_zero (fun s hs => ?_), Int.zero_add]
      by_cases hz : x.2.1 17 s = 0
      · by_cases hb : (d_min I kg nl nn n x).2.2 18 s ≤ 0
        · have hle := ma_l0'.mp hb
          rw [m4 s hs] at hle
          have := m5 s hs hz
          have e : ma_kx nn V (d_min I kg nl nn n x) s (ma_gl x.2.1 kg nn) = 0 := by omega
          rw [e]
          omega
        · rw [h s hs (by rw [hfz, if_pos ⟨rfl, hs, hb⟩]; decide)]
          omega
      · rw [(fa' X hX).mp hW s hs (by rw [f17]; exact hz)]
        omega
theorem ma_num {nn nl : Nat} {V : Nat → Nat → Int} {y : ma_X} (D : ma_DX nn nl V y) {v : Nat} (hv : v < nn) : (d_num y.2.1 y.2.2 (nI v) nl 0).toInt = ma_kx nn V y 5 (V v) := by
  have n2 := D.1.2.1
  have dB := D.2.2.2.2.1
  have dr := D.2.2.2.2.2.2.1
  have n1 := D.1.1
  have key : ∀ n r, r + n = nl → (∃ r', r ≤ r' ∧ r' < nl ∧ ma_Ba y.2.1 r' = v ∧ d_num y.2.1 y.2.2 (nI v) n r = y.2.2 14 r') ∨ ((∀ r', r ≤ r' → r' < nl → ma_Ba y.2.1 r' ≠ v) ∧ d_num y.2.1 y.2.2 (nI v) n r = 0) := by
    intro n
    induction n with
    | zero => intro r hr; exact Or.inr ⟨fun r' h1 h2 => by omega, rfl⟩
    | succ n ih =>
      intro r hr
      have e : d_num y.2.1 y.2.2 (nI v) (n + 1) r = if y.2.1 15 r = nI v then y.2.2 14 r else d_num y.2.1 y.2.2 (nI v) n (r + 1) := rfl
      have hb := dB r (by omega)
      by_cases h : y.2.1 15 r = nI v
      · refine Or.inl ⟨r, Nat.le_refl _, by omega, ?_, by rw [e, if_pos h]⟩
        rw [hb.1, nI_eq (by omega) (by omega)] at h
        exact h
      · rw [e, if_neg h]
        rw [hb.1, nI_eq (by omega) (by omega)] at h
        rcases ih (r + 1) (by omega) with ⟨r', a1, a2, a3, a4⟩ | ⟨a1, a2⟩
        · exact Or.inl ⟨r', by omega, a2, a3, a4⟩
        · refine Or.inr ⟨fun r' h1 h2 => ?_, a2⟩
          by_cases q : r' = r
          · rw [q]; exact h
          · exact a1 r' (by omega) h2
  rcases key nl 0 (by omega) with ⟨r', a1, a2, a3, a4⟩ | ⟨a1, a2⟩
  · rw [a4, dr r' a2, a3]
    rfl
  · rw [a2]
    rcases D.2.2.2.2.2.2.2.1 v (by omega) with ⟨s, s1, s2⟩ | ⟨r, r1, r2⟩
    · rw [← s2, ma_kO D (by omega) s1, if_neg (by omega)]
      rfl
    · exact absurd r2 (a1 r (by omega) r1)
theorem ma_pY_b {nn nl : Nat} {V : Nat → Nat → Int} {y : ma_X} (D : ma_DX nn nl V y) : (∀ i, (ma_pY nn V y i).natAbs ≤ 42515280000) ∧ ma_pY nn V y 5 ≤ 7085880 := by
  have obd := ma_oo_bd D
  refine ⟨fun i => ma_k_big obd ma_bd_e, ?_⟩
  rw [(ma_pY_z D).2.1]
  have := ma_u_small (ma_oo_5 (V := V) (a := y.2.1) D.1.1) obd
  omega
theorem ma_numOf {nn nr nl : Nat} {V : Nat → Nat → Int} {a0 : gF} {R : Nat → Prop} {y : ma_X} (C : ma_CD nn nr a0 R nl V) (D : ma_DX nn nl V y) {v : Nat} (hv : v < nn) (h6 : y.2.1 6 v = a0 6 v) (hlo : (a0 6 v).toInt.natAbs ≤ 100) : ((y.2.1 6 v).toInt64 * y.1 4 6 + d_num y.2.1 y.2.2 (nI v) nl 0).toInt = ma_pY nn V y v := by
  have n1 := D.1.1
  obtain ⟨z1, z2, z3⟩ := ma_pY_z D
  obtain ⟨b1, b2⟩ := ma_pY_b D
  have hU : (y.1 4 6).toInt = ma_pY nn V y 5 := by rw [z2]; exact D.2.2.1
  have hnum := ma_num D hv
  have hV := C.2.2.2.2.2 v hv
  have e1 : ma_kx nn V y 5 (V v) = ma_pY nn V y v - (a0 6 v).toInt * ma_pY nn V y 5 := by
    rw [← ma_pY_dot D, hV, ma_fm_dot n1, ma_sm_congr (g := fun s => if s = v then ma_pY nn V y v else 0) (fun s _ => by
      unfold ma_e
      by_cases q : s = v
      · rw [if_pos q, if_pos q, q]; omega
      · rw [if_neg q, if_neg q]; omega), ma_sm_one hv, Int.neg_mul]
    omega
  have m0 := ma_mb hlo (show (ma_pY nn V y 5).natAbs ≤ 7085880 by omega)
  have m1 : ((y.2.1 6 v).toInt64 * y.1 4 6).toInt = (a0 6 v).toInt * ma_pY nn V y 5 := ma_mul (by rw [Int32.toInt_toInt64, h6]) hU (by omega)
  have bv := b1 v
  rw [ma_add m1 hnum (by rw [e1]; omega), e1]
  omega
theorem ma_gl_aim {a : gF} {n0 nn : Nat} {w : Int32} (hn : nn ≤ 5) (h0 : n0 < nn) (X : Nat → Int) : ma_dot (ma_gl (s_aim a (nI n0) w 5) 19 nn) X = w.toInt * X n0 ∧ (w.toInt.natAbs ≤ 99 → ∀ i, i < nn → ((s_aim a (nI n0) w 5) 19 i).toInt.natAbs ≤ 99) := by
  have e : ∀ i, i < 5 → s_aim a (nI n0) w 5 19 i = if i = n0 then w else 0 := by
    intro i hi
    rw [ma_aim, if_pos ⟨rfl, hi⟩]
    by_cases q : i = n0
    · rw [if_pos q, if_pos (by rw [q])]
    · rw [if_neg q, if_neg (by rw [nI_eq (by omega) (by omega)]; exact q)]
  constructor
  · have e2 : ∀ c, ma_gl (s_aim a (nI n0) w 5) 19 nn c = w.toInt * ma_e n0 c := by
      intro c
      unfold ma_gl
      rw [ma_sm_congr (g := fun i => if i = n0 then w.toInt * ma_e n0 c else 0) (fun i hi => ?_), ma_sm_one h0]
      rw [e i (by omega)]
      by_cases q : i = n0
      · rw [if_pos q, if_pos q, q]
      · rw [if_neg q, if_neg q]
        show (0 : Int) * _ = 0
        omega
    have : ma_dot (ma_gl (s_aim a (nI n0) w 5) 19 nn) X = w.toInt * ma_dot (ma_e n0) X := by
      unfold ma_dot
      rw [← ma_sm_mul]
      exact ma_sm_congr (fun i _ => by rw [e2 i]; grind)
    rw [this, ma_e_dot (by omega)]
  · intro hw i hi
    rw [e i (by omega)]
    split
    · exact hw
    · decide
theorem ma_gl_cost {a : gF} {nn : Nat} (hn : nn ≤ 5) (X : Nat → Int) : ma_dot (ma_gl a 8 nn) X = ma_cost nn (ma_ci a 8) X := by
  have e : ma_dot (ma_gl a 8 nn) X = ma_sm (fun c => ma_sm (fun i => (a 8 i).toInt * ma_e i c * X c) nn) 6 := by
    unfold ma_dot ma_gl
    refine ma_sm_congr (fun c _ => ?_)
    rw [Int.mul_comm, ← ma_sm_mul]
    exact ma_sm_congr (fun i _ => by grind)
  rw [e, ma_sm_comm (fun c i => (a 8 i).toInt * ma_e i c * X c)]
  unfold ma_cost
  refine ma_sm_congr (fun i hi => ?_)
  rw [ma_sm_congr (g := fun c => if c = i then (a 8 i).toInt * X i else 0) (fun c _ => ?_), ma_sm_one (by omega)]
  unfold ma_e
  by_cases q : c = i
  · rw [if_pos q, if_pos q, q, Int.mul_one]
  · rw [if_neg q, if_neg q, Int.mul_zero, Int.zero_mul]
