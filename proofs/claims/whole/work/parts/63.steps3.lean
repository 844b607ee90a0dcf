/-! THE MATHEMATICS, 29: barred, whole, told -/
theorem ma_gr_cS {Fe Fe' : Int32 → Prop} (h : ∀ s, ma_isS s → (Fe s ↔ Fe' s)) : ∀ k, k ≤ 8 → ∀ s, ma_isS s → ma_gr Fe k s = ma_gr Fe' k s
  | 0, _, _, _ => rfl
  | k + 1, hk, s, hS => by
    have w := (ma_S_wo hS (show k < 8 by omega)).1
    by_cases q : m_bt s k ≠ 0 ∧ ¬ Fe (s_wo s k)
    · rw [ma_gr_y q, ma_gr_y ⟨q.1, fun z => q.2 ((h _ w).mpr z)⟩]
      exact ma_gr_cS h k (by omega) _ w
    · rw [ma_gr_n q, ma_gr_n (fun z => q ⟨z.1, fun z2 => z.2 ((h _ w).mp z2)⟩)]
      exact ma_gr_cS h k (by omega) _ hS
theorem ma_gr_up {Fe : Int32 → Prop} {s : Int32} {nr : Nat} (h : ∀ r, nr ≤ r → r < 8 → m_bt s r = 0) : ∀ d, nr + d ≤ 8 → ma_gr Fe (nr + d) s = ma_gr Fe nr s
  | 0, _ => rfl
  | d + 1, hd => by
    show ma_gr Fe (nr + d + 1) s = _
    rw [ma_gr_n (fun q => q.1 (h (nr + d) (by omega) (by omega))), ma_gr_up h d (by omega)]
theorem ma_gr_sub {Fe : Int32 → Prop} : ∀ k, k ≤ 8 → ∀ s, ma_isS s → ∀ r, r < 8 → m_bt (ma_gr Fe k s) r ≠ 0 → m_bt s r ≠ 0
  | 0, _, _, _, _, _, h => h
  | k + 1, hk, s, hS, r, hr, h => by
    obtain ⟨w1, w2, -⟩ := ma_S_wo hS (show k < 8 by omega)
    by_cases q : m_bt s k ≠ 0 ∧ ¬ Fe (s_wo s k)
    · rw [ma_gr_y q] at h
      exact ((w2 r hr).mp (ma_gr_sub k (by omega) _ w1 r hr h)).1
    · rw [ma_gr_n q] at h
      exact ma_gr_sub k (by omega) _ hS r hr h
theorem ma_brow {a : gF} {set k : Int32} {nr : Nat} (hS : ma_isS set) (hr : nr ≤ 8) (hz : ∀ r, r < 8 → m_bt set r ≠ 0 → r < nr) (ha : ∀ r, r < 8 → (a 39 r ≠ 0 ↔ m_bt set r ≠ 0)) : ∀ n r pl m, r + n = 8 → (r + m = nr ∨ (m = 0 ∧ nr ≤ r)) → m_brow a k n r pl = s_brow set k m r pl ∧ (s_brow set k m r pl = -1 ∨ 0 ≤ s_brow set k m r pl)
  | 0, r, pl, m, h1, h2 => by
    have : m = 0 := by omega
    subst this
    exact ⟨rfl, Or.inl rfl⟩
  | n + 1, r, pl, m, h1, h2 => by
    have e : m_brow a k (n + 1) r pl = if a 39 r = 0 then m_brow a k n (r + 1) pl else if pl = k then nI r else m_brow a k n (r + 1) (pl + 1) := rfl
    obtain ⟨-, b2⟩ := ma_S_bt hS (show r < 8 by omega)
    have har := ha r (by omega)
    cases m with
    | zero =>
      have hb : m_bt set r = 0 := Classical.byContradiction (fun w => by have := hz r (by omega) w; omega)
      have h0 : a 39 r = 0 := Classical.byContradiction (fun w => har.mp w hb)
      rw [e, if_pos h0]
      have := ma_brow (k := k) hS hr hz ha n (r + 1) pl 0 (by omega) (Or.inr ⟨rfl, by omega⟩)
      exact this
    | succ m =>
      have e2 : s_brow set k (m + 1) r pl = if s_bit set r = 0 then s_brow set k m (r + 1) pl else if pl = k then nI r else s_brow set k m (r + 1) (pl + 1) := rfl
      rw [e, e2]
      by_cases hb : m_bt set r = 0
      · have h0 : a 39 r = 0 := Classical.byContradiction (fun w => har.mp w hb)
        have h1' : s_bit set r = 0 := Classical.byContradiction (fun w => b2.mp w hb)
        rw [if_pos h0, if_pos h1']
        exact ma_brow hS hr hz ha n (r + 1) pl m (by omega) (by omega)
      · rw [if_neg (har.mpr hb), if_neg (b2.mpr hb)]
        by_cases hp : pl = k
        · rw [if_pos hp, if_pos hp]
          exact ⟨rfl, Or.inr (nI_pos' (by omega))⟩
        · rw [if_neg hp, if_neg hp]
          exact ma_brow hS hr hz ha n (r + 1) (pl + 1) m (by omega) (by omega)
theorem ma_st_barred {x : gS} (H : ma_INV x) (k : Int32) : ma_INV (c_barredS x) ∧ c_barred x k = m_barred (c_barredS x) k ∧ ma_INV (kS (c_barredS x)) := by
  obtain ⟨nn, nr, H⟩ := H
  obtain ⟨h1, h2, h3, h4, h5, h6⟩ := ma_hE H
  unfold c_barred c_barredS m_barred
  by_cases q : h_r x = 0
  · rw [if_pos q, if_pos q]
    obtain ⟨b1, b2, b3⟩ := ma_bS h1.1 h3 (by rw [h4]; exact q)
    have I1 := ma_IV_fq h1 b1 b2
    obtain ⟨k1, k2, k3, k4⟩ := ma_IV_k I1
    have s7 := ma_sm6_t (ma_fq_6 b2) k3
    have s6 := ma_sm6_t (ma_fq_6 (ma_fq_h H.1)) s7
    have hh : (kS (bS (hS x))).1 5 10 = 0 := (h6 _ k1 k2 s6).mpr q
    rw [if_pos hh]
    refine ⟨⟨nn, nr, I1⟩, ?_, ⟨nn, nr, k1⟩⟩
    have hd := k1.1.2.2.1
    have hr8 := hd.2.1
    have hE := k1.2.2.2.1
    obtain ⟨S, -, -, -, -, s5⟩ := k2
    have s5 := s5 hh
    obtain ⟨aS, aB⟩ := ma_all_S (a := (kS (bS (hS x))).2.2.1) hr8
    -- the two sets
    have eset : (bS (hS x)).1 2 9 = ma_gr (ma_Fe nn nr (kS (bS (hS x))).2.2.1) 8 (m_all (kS (bS (hS x))).2.2.1 nr) := by
      rw [b3]
      have e8 : nr + (8 - nr) = 8 := by omega
      have up := ma_gr_up (Fe := ma_Fe nn nr (kS (bS (hS x))).2.2.1) (s := m_all (kS (bS (hS x))).2.2.1 nr) (nr := nr) (fun r g1 g2 => Classical.byContradiction (fun w => by have := ((aB r g2).mp w).1; omega)) (8 - nr) (by omega)
      rw [e8] at up
      rw [up, ma_allE hE nr (Nat.le_refl _), ma_sall_c s7.2.2.2.2.2.1, ma_gr_c (fun s => (ma_Fec_c hr8 s7 s).symm)]
      refine ma_gr_cS (fun s hs => ?_) nr hr8 _ (ma_sall_S (a := (hS x).2.2.1) hr8).1
      unfold ma_Fec ma_Fe
      constructor
      · rintro ⟨X, hX⟩
        exact ⟨X, (ma_FEC hE (fun r hr => ((ma_S_bt hs (by omega)).2).symm)).mpr hX⟩
      · rintro ⟨X, hX⟩
        exact ⟨X, (ma_FEC hE (fun r hr => ((ma_S_bt hs (by omega)).2).symm)).mp hX⟩
    unfold q_brow
    rw [(ma_nnF H).2, eset]
    have gS := ma_gr_S (Fe := ma_Fe nn nr (kS (bS (hS x))).2.2.1) 8 (Nat.le_refl _) _ aS
    obtain ⟨w1, w2⟩ := ma_brow (a := (kS (bS (hS x))).2.2.1) (k := k) gS hr8 (fun r hr w => ((aB r hr).mp (ma_gr_sub 8 (Nat.le_refl _) _ aS r hr w)).1) s5 8 0 0 nr (by omega) (Or.inl (by omega))
    rw [w1]
    rcases w2 with w2 | w2
    · rw [w2, if_neg (by decide)]
    · rw [if_pos w2]
  · rw [if_neg q, if_neg q]
    obtain ⟨k1, k2, k3, -⟩ := ma_IV_k h1
    have s6 := ma_sm6_t (ma_fq_6 (ma_fq_h H.1)) k3
    refine ⟨⟨nn, nr, h1⟩, ?_, ⟨nn, nr, k1⟩⟩
    rw [if_neg (fun w => q ((h6 _ k1 k2 s6).mp w))]
theorem ma_WMC {nn nr : Nat} {a : gF} (hE : ma_EQ nn nr a) (Q : Nat → Int) : ma_WM nn nr a Q ↔ ma_WC nn nr a Q := by
  have e : ∀ i, i < nn → (a 27 i).toInt = (a 6 i).toInt ∧ (a 28 i).toInt = (a 7 i).toInt := fun i hi => by
    obtain ⟨e1, e2, -⟩ := hE.1 i hi
    rw [e1, e2]; exact ⟨rfl, rfl⟩
  have es : ∀ r, r < nr → ma_sm (fun i => ma_fm2 a r i * Q i) nn = ma_sm (fun i => ma_fa a r i * Q i) nn := fun r hr => ma_sm_congr (fun i hi => by show (a 32 (5 * r + i)).toInt * _ = (a (40 + r) i).toInt * _; rw [(hE.2 r hr).2.2.2.1 i hi])
  constructor
  · rintro ⟨w1, w2⟩
    refine ⟨fun i hi => ?_, fun r hr hR => ?_⟩
    · have := w1 i hi
      unfold ma_ci at this ⊢
      rw [(e i hi).1, (e i hi).2] at this
      exact this
    · have := w2 r hr (by show a 33 r ≠ 0; rw [(hE.2 r hr).2.2.1]; exact hR)
      unfold ma_ci at this ⊢
      rw [es r hr, (hE.2 r hr).1, (hE.2 r hr).2.1] at this
      exact this
  · rintro ⟨w1, w2⟩
    refine ⟨fun i hi => ?_, fun r hr hR => ?_⟩
    · have := w1 i hi
      unfold ma_ci at this ⊢
      rw [(e i hi).1, (e i hi).2]
      exact this
    · have hR : a 33 r ≠ 0 := hR
      rw [(hE.2 r hr).2.2.1] at hR
      have := w2 r hr hR
      unfold ma_ci at this ⊢
      rw [es r hr, (hE.2 r hr).1, (hE.2 r hr).2.1]
      exact this
theorem ma_cwE {nn nr : Nat} {a : gF} (hE : ma_EQ nn nr a) : ∀ n, n ≤ nn → m_cw a n = p_cw a n
  | 0, _ => rfl
  | n + 1, hn => by
    show m_cw a n * (a 28 n - a 27 n + 1).toInt64 = p_cw a n * (a 7 n - a 6 n + 1).toInt64
    obtain ⟨e1, e2, -⟩ := hE.1 n (by omega)
    rw [ma_cwE hE n (by omega), e1, e2]
/-- search.hasPoint -/
theorem ma_wS {nn nr : Nat} {x : gS} (H : ma_IV nn nr x) (hc : p_cw x.2.2.1 nn ≤ 20000) : ma_IV nn nr (wS x) ∧ ma_WI nn nr (wS x).1 (wS x).2.2.1 ∧ w_hp x.1 x.2.2.1 nn nr = (wS x).1 3 8 ∧ ma_sm6 x.2.2.1 (wS x).2.2.1 := by
  obtain ⟨n1, n2, n3, n4⟩ := ma_IV_n H
  obtain ⟨h1, h2, h3, h4, h5, h6, h7⟩ := id H
  have hd := h1.2.2.1
  have hr8 := hd.2.1
  unfold wS w_hp w_hpI w_hpA
  rw [n3, n4]
  by_cases q : x.1 3 9 = 0
  · simp only [if_pos q]
    have hcn : ma_cnt5 x.2.2.1 nn ≤ 20000 := by
      rw [Int64.le_iff_toInt_le, (ma_pcw hd nn (Nat.le_refl _)).1] at hc
      have hc : (ma_cnt5 x.2.2.1 nn : Int) ≤ 20000 := hc
      omega
    obtain ⟨e1, e2, e3⟩ := ma_hpX hd h1.1 h1.2.1 hcn
    generalize w_hpX x.1 x.2.2.1 nn nr = y at *
    have eI : ∀ k j, ¬ (k = 3 ∧ (j = 7 ∨ j = 8 ∨ j = 9)) → y.2.1 k j = x.1 k j := fun k j h => by rw [e1 k j (by omega), gU_n (by omega), gU_n (by omega)]
    have i39 : y.2.1 3 9 = 1 := by rw [e1 3 9 (by omega), gU_s]
    have ac : ma_aC x (y.2.1, x.2.1, y.2.2, x.2.2.2) := ⟨fun k j q1 q2 => eI k j (by omega), fun _ _ _ => rfl, fun k j q => e2 k j (by omega) (by omega) (by omega) (by omega), fun _ _ _ => rfl⟩
    have s6 : ma_sm6 x.2.2.1 y.2.2 := ma_aC_6 ac
    have WI : ma_WI nn nr y.2.1 y.2.2 := by
      unfold ma_WI
      rw [ma_cost_c s6.2.2.1]
      rcases e3 with ⟨g1, g2⟩ | ⟨g1, g2, g3, g4⟩
      · exact Or.inl ⟨g1, fun Q hQ => g2 Q ((ma_WC_c hr8 s6 Q).mp hQ)⟩
      · refine Or.inr ⟨g1, (ma_WC_c hr8 s6 _).mpr g2, g3, fun Q hQ => ?_⟩
        have := g4 Q ((ma_WC_c hr8 s6 Q).mp hQ)
        unfold ma_pq at this ⊢
        rw [ma_cost_c s6.2.2.1, ma_cost_c s6.2.2.1]
        exact this
    have h38 : y.2.1 3 8 = 0 ∨ y.2.1 3 8 = 1 := by
      rcases e3 with g | g
      · exact Or.inl g.1
      · exact Or.inr g.1
    refine ⟨⟨ma_CI_c ac h1, by show y.2.1 5 0 = _; rw [eI 5 0 (by omega)]; exact h2, by show y.2.1 5 1 = _; rw [eI 5 1 (by omega)]; exact h3, ma_EQ_c hr8 s6 (fun k j g1 g2 => e2 k j (by omega) (by omega) (by omega) (by omega)) h4, ?_, h38, Or.inr ⟨i39, WI⟩⟩, WI, trivial, s6⟩
    show y.2.1 5 9 = 0 ∨ (y.2.1 5 9 = 1 ∧ _)
    rw [eI 5 9 (by omega)]
    rcases h5 with g | g
    · exact Or.inl g
    · exact Or.inr ⟨g.1, ma_KN_c (y := (y.2.1, x.2.1, y.2.2, x.2.2.2)) (fun j _ => eI 5 j (by omega)) (fun _ => rfl) (fun k j g1 g2 => e2 k j (by omega) (by omega) (by omega) (by omega)) (fun _ _ _ _ => rfl) g.2⟩
  · simp only [if_neg q]
    rcases h7 with g | g
    · exact absurd g q
    · exact ⟨H, g.2, trivial, ma_sm6_r _⟩
/-- findWhole -/
theorem ma_mfS {nn nr : Nat} {x : gS} (H : ma_IV nn nr x) : ma_IV nn nr (m_fS x) ∧ (ma_WI nn nr x.1 x.2.2.1 → (m_fr0 x = 0 ↔ x.1 3 8 = 0) ∧ (x.1 3 8 = 1 → (m_fS x).1 5 27 = x.1 3 7 ∧ ∀ i, i < nn → (m_fS x).2.2.1 91 i = x.2.2.1 23 i)) := by
  obtain ⟨n1, n2, n3, n4⟩ := ma_IV_n H
  obtain ⟨h1, h2, h3, h4, h5, h6, h7⟩ := id H
  have hd := h1.2.2.1
  have hr8 := hd.2.1
  obtain ⟨f1, f2, f3⟩ := ma_findWhole (I := x.1) (ma_dM hd h4)
  unfold m_fS m_fr0
  rw [n1, n2]
  generalize m_fwX x.1 x.2.2.1 nn nr = y at *
  have ac : ma_aC x (y.2.1, x.2.1, y.2.2, x.2.2.2) := ⟨fun k j q1 q2 => f1 k j (by omega), fun _ _ _ => rfl, fun k j q => f2 k j (by omega) (by omega), fun _ _ _ => rfl⟩
  have s6 : ma_sm6 x.2.2.1 y.2.2 := ma_aC_6 ac
  refine ⟨⟨ma_CI_c ac h1, by show y.2.1 5 0 = _; rw [f1 5 0 (by omega)]; exact h2, by show y.2.1 5 1 = _; rw [f1 5 1 (by omega)]; exact h3, ma_EQ_c hr8 s6 (fun k j g1 g2 => f2 k j (by omega) (by omega)) h4, ?_, by show y.2.1 3 8 = 0 ∨ y.2.1 3 8 = 1; rw [f1 3 8 (by omega)]; exact h6, ?_⟩, fun W => ?_⟩
  · show y.2.1 5 9 = 0 ∨ (y.2.1 5 9 = 1 ∧ _)
    rw [f1 5 9 (by omega)]
    rcases h5 with g | g
    · exact Or.inl g
    · exact Or.inr ⟨g.1, ma_KN_c (y := (y.2.1, x.2.1, y.2.2, x.2.2.2)) (fun j gj => f1 5 j (by omega)) (fun _ => rfl) (fun k j g1 g2 => f2 k j (by omega) (by omega)) (fun _ _ _ _ => rfl) g.2⟩
  · show y.2.1 3 9 = 0 ∨ (y.2.1 3 9 = 1 ∧ _)
    rw [f1 3 9 (by omega)]
    rcases h7 with g | g
    · exact Or.inl g
    · exact Or.inr ⟨g.1, ma_WI_c hr8 s6 (f1 3 7 (by omega)) (f1 3 8 (by omega)) (fun j => f2 23 j (by omega) (by omega)) g.2⟩
  · have eco := ma_costE h4
    rcases W with ⟨w1, w2⟩ | ⟨w1, w2, w3, w4⟩
    · have no : y.1 = 0 := by
        rcases f3 with g | g
        · exact g.1
        · exact absurd ((ma_WMC h4 _).mp g.2.1) (w2 _)
      exact ⟨⟨fun _ => w1, fun _ => no⟩, fun g => by rw [w1] at g; exact absurd g (by decide)⟩
    · rcases f3 with g | ⟨g1, g2, g3, g4⟩
      · exact absurd ((ma_WMC h4 _).mpr w2) (g.2 _)
      · have p1 := g4 _ ((ma_WMC h4 _).mpr w2)
        have p2 := w4 _ ((ma_WMC h4 _).mp g2)
        have p1' : ma_pq nn (ma_ci x.2.2.1 8) (fun i => (y.2.2 91 i).toInt) (ma_fb1 x.2.2.1) := by
          unfold ma_pq at p1 ⊢
          rw [eco, eco] at p1
          exact p1
        obtain ⟨a1, a2⟩ := ma_pq_a p1' p2
        refine ⟨⟨fun z => by rw [g1] at z; exact absurd z (by decide), fun z => by rw [w1] at z; exact absurd z (by decide)⟩, fun _ => ⟨?_, fun i hi => ?_⟩⟩
        · show y.2.1 5 27 = x.1 3 7
          rw [← Int32.toInt_inj, g3, w3, eco]
          exact a1
        · show y.2.2 91 i = x.2.2.1 23 i
          exact Int32.toInt_inj.mp (a2 i hi)
theorem ma_lgE {nn nr : Nat} {x : gS} (H : ma_IV nn nr x) : (m_lg x = 0 ↔ p_cw x.2.2.1 nn ≤ 20000) := by
  obtain ⟨n1, -, -, -⟩ := ma_IV_n H
  unfold m_lg m_large
  rw [n1, ma_cwE H.2.2.2.1 nn (Nat.le_refl _)]
  by_cases q : p_cw x.2.2.1 nn ≤ 20000
  · rw [if_pos q]; exact ⟨fun _ => q, fun _ => rfl⟩
  · rw [if_neg q]; exact ⟨fun w => absurd w (by decide), fun w => absurd w q⟩
theorem ma_pcw_c {a a' : gF} (h6 : ∀ j, a' 6 j = a 6 j) (h7 : ∀ j, a' 7 j = a 7 j) : ∀ n, p_cw a' n = p_cw a n
  | 0 => rfl
  | n + 1 => by
    show p_cw a' n * (a' 7 n - a' 6 n + 1).toInt64 = p_cw a n * (a 7 n - a 6 n + 1).toInt64
    rw [ma_pcw_c h6 h7 n, h6, h7]
/-- the three calls of whole numbers, in one -/
theorem ma_wE {nn nr : Nat} {x : gS} (H : ma_IV nn nr x) : ma_IV nn nr (q_rwS x) ∧ ma_IV nn nr (if m_lg (q_rwS x) = 0 then m_fS (q_rwS x) else q_rwS x) ∧ ((q_rw x = -4 ∧ ¬ m_lg (q_rwS x) = 0) ∨ (q_rw x = -3 ∧ m_lg (q_rwS x) = 0 ∧ m_fr0 (q_rwS x) = 0) ∨ (q_rw x = 0 ∧ m_lg (q_rwS x) = 0 ∧ ¬ m_fr0 (q_rwS x) = 0 ∧ (m_fS (q_rwS x)).1 5 27 = (q_rwS x).1 3 7 ∧ ∀ i, i < nn → (m_fS (q_rwS x)).2.2.1 91 i = (q_rwS x).2.2.1 23 i)) := by
  obtain ⟨-, -, n3, n4⟩ := ma_IV_n H
  unfold q_rw q_rwS
  rw [n3, n4]
  by_cases q : p_cw x.2.2.1 nn ≤ 20000
  · simp only [if_pos q]
    obtain ⟨w1, w2, w3, w4⟩ := ma_wS H q
    obtain ⟨f1, f2⟩ := ma_mfS w1
    obtain ⟨f3, f4⟩ := f2 w2
    have hlg : m_lg (wS x) = 0 := (ma_lgE w1).mpr (by rw [ma_pcw_c w4.1 w4.2.1]; exact q)
    rw [if_pos hlg, w3]
    refine ⟨w1, f1, ?_⟩
    by_cases g : (wS x).1 3 8 = 0
    · rw [if_pos g]
      exact Or.inr (Or.inl ⟨rfl, hlg, f3.mpr g⟩)
    · rw [if_neg g]
      have g1 := w1.2.2.2.2.2.1.resolve_left g
      exact Or.inr (Or.inr ⟨rfl, hlg, fun w => g (f3.mp w), (f4 g1).1, (f4 g1).2⟩)
  · simp only [if_neg q]
    have hlg : ¬ m_lg x = 0 := fun w => q ((ma_lgE H).mp w)
    rw [if_neg hlg]
    exact ⟨H, H, Or.inl ⟨trivial, hlg⟩⟩
theorem ma_st_whole {x : gS} (H : ma_INV x) : ma_INV (q_rwS x) ∧ c_whole x = m_whole (q_rwS x) ∧ ma_INV (m_wholeS (q_rwS x)) := by
  obtain ⟨nn, nr, H⟩ := H
  obtain ⟨w1, w2, w3⟩ := ma_wE H
  refine ⟨⟨nn, nr, w1⟩, ?_, ⟨nn, nr, w2⟩⟩
  unfold c_whole m_whole
  rcases w3 with ⟨a1, a2⟩ | ⟨a1, a2, a3⟩ | ⟨a1, a2, a3, a4, -⟩
  · rw [a1, if_neg (by decide), if_neg a2]
  · rw [a1, if_neg (by decide), if_pos a2, if_pos a3]
  · rw [a1, if_pos rfl, if_pos a2, if_neg a3, a4]
theorem ma_st_isWhole {x : gS} (H : ma_INV x) : ma_INV (q_rwS x) ∧ c_isWhole x = m_isW (q_rwS x) ∧ ma_INV (m_wholeS (q_rwS x)) := by
  obtain ⟨nn, nr, H⟩ := H
  obtain ⟨w1, w2, w3⟩ := ma_wE H
  refine ⟨⟨nn, nr, w1⟩, ?_, ⟨nn, nr, w2⟩⟩
  unfold c_isWhole m_isW
  rcases w3 with ⟨a1, a2⟩ | ⟨a1, a2, a3⟩ | ⟨a1, a2, a3, -, -⟩
  · rw [a1, if_pos rfl, if_neg a2]
  · rw [a1, if_neg (by decide), if_neg (by decide), if_pos a2, if_pos a3]
  · rw [a1, if_neg (by decide), if_pos rfl, if_pos a2, if_neg a3]
theorem ma_st_wv {x : gS} (H : ma_INV x) (v : Int32) : ma_INV (c_wholeValueS x v) ∧ c_wholeValue x v = m_wv (c_wholeValueS x v) v ∧ ma_INV (m_wvS (c_wholeValueS x v) v) := by
  obtain ⟨nn, nr, H⟩ := H
  obtain ⟨v1, v2⟩ := ma_isN H v
  unfold c_wholeValue c_wholeValueS m_wv m_wvS
  by_cases q0 : p_hasN x.1 v = 0
  · have q1 : m_isN x.1 v = 0 := by rw [← v1]; exact q0
    simp only [if_pos q0, if_pos q1]
    exact ⟨⟨nn, nr, H⟩, trivial, ⟨nn, nr, H⟩⟩
  · simp only [if_neg q0]
    obtain ⟨w1, w2, w3⟩ := ma_wE H
    have q1 := ma_pN H w1 q0
    rw [if_neg q1, if_neg q1]
    refine ⟨⟨nn, nr, w1⟩, ?_, ⟨nn, nr, w2⟩⟩
    rcases w3 with ⟨a1, a2⟩ | ⟨a1, a2, a3⟩ | ⟨a1, a2, a3, -, a5⟩
    · rw [a1, if_neg (by decide), if_neg a2]
    · rw [a1, if_neg (by decide), if_pos a2, if_pos a3]
    · rw [a1, if_pos rfl, if_pos a2, if_neg a3, a5 _ (v2 q0).1]
theorem ma_cntE {nn nr : Nat} {a : gF} (hE : ma_EQ nn nr a) : ∀ n, n ≤ nr → m_cnt a n = p_cnt a n
  | 0, _ => rfl
  | n + 1, hn => by
    show (if a 33 n = 0 then m_cnt a n + 0 else m_cnt a n + 1) = (if a 12 n = 0 then p_cnt a n else p_cnt a n + 1)
    rw [ma_cntE hE n (by omega), (hE.2 n (by omega)).2.2.1, Int32.add_zero]
theorem ma_st_told {x : gS} (H : ma_INV x) (w : Int32) : c_told x w = m_told x w := by
  obtain ⟨nn, nr, H⟩ := H
  obtain ⟨n1, n2, n3, n4⟩ := ma_IV_n H
  unfold c_told m_told
  rw [n2, n4, H.1.1, H.1.2.1, H.2.1, H.2.2.1, ma_cntE H.2.2.2.1 nr (Nat.le_refl _)]
