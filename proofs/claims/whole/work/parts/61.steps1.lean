/-! THE MATHEMATICS, 27: what holds between calls, kept by the calls that only ask -/
def ma_aC (x y : gS) : Prop := (∀ k j, k < 5 → k ≠ 3 → y.1 k j = x.1 k j) ∧ (∀ k j, k < 5 → y.2.1 k j = x.2.1 k j) ∧ (∀ k j, (k < 21 ∨ (40 ≤ k ∧ k < 69)) → y.2.2.1 k j = x.2.2.1 k j) ∧ (∀ k j, (k < 27 ∨ (40 ≤ k ∧ k < 87)) → y.2.2.2 k j = x.2.2.2 k j)
theorem ma_aC_6 {x y : gS} (h : ma_aC x y) : ma_sm6 x.2.2.1 y.2.2.1 := ⟨fun j => h.2.2.1 6 j (by omega), fun j => h.2.2.1 7 j (by omega), fun j => h.2.2.1 8 j (by omega), fun j => h.2.2.1 9 j (by omega), fun j => h.2.2.1 10 j (by omega), fun j => h.2.2.1 12 j (by omega), fun r hr j => h.2.2.1 (40 + r) j (by omega)⟩
theorem ma_CI_c {nn nr : Nat} {x y : gS} (h : ma_aC x y) (H : ma_CI nn nr x) : ma_CI nn nr y := by
  have s6 := ma_aC_6 h
  obtain ⟨c1, c2, hd, hk, c6, hf, hbp, hbr⟩ := H
  have hI : ∀ k j, k < 5 → k ≠ 3 → y.1 k j = x.1 k j := h.1
  have hr8 := hd.2.1
  have e15 : y.2.2.1 15 = x.2.2.1 15 := funext (fun j => h.2.2.1 15 j (by omega))
  have e16 : y.2.2.1 16 = x.2.2.1 16 := funext (fun j => h.2.2.1 16 j (by omega))
  have hR : ∀ r, r < nr → (x.2.2.1 12 r ≠ 0 ↔ y.2.2.1 12 r ≠ 0) := fun r _ => by rw [s6.2.2.2.2.2.1]
  have hFC : ∀ X, ma_FC nn nr y.2.2.1 (fun r => y.2.2.1 12 r ≠ 0) X → ma_FC nn nr x.2.2.1 (fun r => x.2.2.1 12 r ≠ 0) X := fun X hX => (ma_fs_R hR).mpr ((ma_fs_c hr8 s6).mp hX)
  refine ⟨by rw [hI 1 7 (by omega) (by omega)]; exact c1, by rw [hI 1 8 (by omega) (by omega)]; exact c2, ma_dat_c s6 hd, ?_, by rw [hI 2 6 (by omega) (by omega)]; exact c6, ?_, ?_, ?_⟩
  · unfold ma_dk at hk ⊢
    rw [hI 4 7 (by omega) (by omega), hI 4 8 (by omega) (by omega), e15, e16]
    exact hk
  · unfold ma_fc1 at hf ⊢
    rw [hI 2 5 (by omega) (by omega), hI 2 6 (by omega) (by omega)]
    rcases hf with q | ⟨q, w⟩
    · exact Or.inl q
    · refine Or.inr ⟨q, ?_⟩
      rcases w with ⟨w1, V, nl, v1, v2, C, D, fe⟩ | ⟨w1, w2⟩
      · refine Or.inl ⟨w1, V, nl, by rw [hI 4 7 (by omega) (by omega)]; exact v1, by rw [hI 4 8 (by omega) (by omega)]; exact v2, ma_CD_c hr8 s6 hR C, ?_, ?_⟩
        · have D1 := (ma_DI_a (a' := y.2.2.1) D (fun j => congrFun e15 j) (fun j => congrFun e16 j)).1
          exact ma_DI_bb (J := x.2.1) (J' := y.2.1) (b := x.2.2.2) (b' := y.2.2.2) D1 (h.2.1 4 6 (by omega)) (fun k j g => h.2.2.2 k j (by omega))
        · have eO : ma_Oa y.2.2.1 = ma_Oa x.2.2.1 := funext (fun s => by unfold ma_Oa; rw [e16])
          intro j hj
          have := fe j hj
          show 0 ≤ ma_k (ma_o nn V (ma_Oa y.2.2.1)) 5 (V j)
          rw [eO]
          exact this
      · exact Or.inr ⟨w1, fun X hX => w2 X (hFC X hX)⟩
  · rw [hI 2 7 (by omega) (by omega)]
    rcases hbp with q | q
    · exact Or.inl q
    · exact Or.inr ⟨q.1, ma_BP_c hr8 s6 (fun i => h.2.2.2 20 i (by omega)) (h.2.1 2 4 (by omega)) q.2⟩
  · rw [hI 2 8 (by omega) (by omega), hI 2 9 (by omega) (by omega), ma_sall_c s6.2.2.2.2.2.1, ma_gr_c (ma_Fec_c hr8 s6)]
    exact hbr
theorem ma_WC_c {nn nr : Nat} {a a' : gF} (hr : nr ≤ 8) (h : ma_sm6 a a') (Q : Nat → Int) : ma_WC nn nr a' Q ↔ ma_WC nn nr a Q := by
  obtain ⟨h6, h7, -, h9, h10, h12, hf⟩ := h
  have e6 : ma_ci a' 6 = ma_ci a 6 := funext (fun i => by show (a' 6 i).toInt = _; rw [h6])
  have e7 : ma_ci a' 7 = ma_ci a 7 := funext (fun i => by show (a' 7 i).toInt = _; rw [h7])
  have e9 : ma_ci a' 9 = ma_ci a 9 := funext (fun i => by show (a' 9 i).toInt = _; rw [h9])
  have e10 : ma_ci a' 10 = ma_ci a 10 := funext (fun i => by show (a' 10 i).toInt = _; rw [h10])
  have ef : ∀ r, r < nr → ma_fa a' r = ma_fa a r := fun r hr2 => funext (fun i => by show (a' (40 + r) i).toInt = _; rw [hf r (by omega)])
  unfold ma_WC ma_WF
  rw [e6, e7, e9, e10]
  constructor
  · exact fun w => ⟨w.1, fun r hr2 hR => by have := w.2 r hr2 (by show a' 12 r ≠ 0; rw [h12]; exact hR); rw [ef r hr2] at this; exact this⟩
  · exact fun w => ⟨w.1, fun r hr2 hR => by rw [ef r hr2]; exact w.2 r hr2 (by have hR : a' 12 r ≠ 0 := hR; rw [h12] at hR; exact hR)⟩
theorem ma_WI_c {nn nr : Nat} {I I' a a' : gF} (hr : nr ≤ 8) (h : ma_sm6 a a') (h37 : I' 3 7 = I 3 7) (h38 : I' 3 8 = I 3 8) (h23 : ∀ j, a' 23 j = a 23 j) (W : ma_WI nn nr I a) : ma_WI nn nr I' a' := by
  have e23 : ma_fb1 a' = ma_fb1 a := funext (fun i => by show (a' 23 i).toInt = _; rw [h23])
  unfold ma_WI at W ⊢
  rw [h37, h38, e23, ma_cost_c h.2.2.1]
  rcases W with ⟨q1, q2⟩ | ⟨q1, q2, q3, q4⟩
  · exact Or.inl ⟨q1, fun Q hQ => q2 Q ((ma_WC_c hr h Q).mp hQ)⟩
  · refine Or.inr ⟨q1, (ma_WC_c hr h _).mpr q2, q3, fun Q hQ => ?_⟩
    have := q4 Q ((ma_WC_c hr h Q).mp hQ)
    unfold ma_pq at this ⊢
    rw [ma_cost_c h.2.2.1, ma_cost_c h.2.2.1]
    exact this
theorem ma_KN_c {nn nr : Nat} {x y : gS} (hI : ∀ j, j ≠ 27 → y.1 5 j = x.1 5 j) (hJ : ∀ j, y.2.1 5 j = x.2.1 5 j) (ha : ∀ k j, 27 ≤ k → k < 40 → y.2.2.1 k j = x.2.2.1 k j) (hb : ∀ k j, 34 ≤ k → k < 39 → y.2.2.2 k j = x.2.2.2 k j) (K : ma_KN nn nr x) : ma_KN nn nr y := by
  have ea : ∀ k, 27 ≤ k → k < 40 → y.2.2.1 k = x.2.2.1 k := fun k h1 h2 => funext (fun j => ha k j h1 h2)
  have eb : ∀ k, 34 ≤ k → k < 39 → y.2.2.2 k = x.2.2.2 k := fun k h1 h2 => funext (fun j => hb k j h1 h2)
  have eall : m_all y.2.2.1 nr = m_all x.2.2.1 nr := ma_all_c (fun r => ha 33 r (by omega) (by omega)) nr
  have eFE : ∀ set, ma_FE nn nr y.2.2.1 set = ma_FE nn nr x.2.2.1 set := fun set => by
    unfold ma_FE ma_ci ma_fm2
    rw [ea 27 (by omega) (by omega), ea 28 (by omega) (by omega), ea 30 (by omega) (by omega), ea 31 (by omega) (by omega), ea 32 (by omega) (by omega)]
  have eCM : ma_CM nn y.2.2.1 = ma_CM nn x.2.2.1 := by
    unfold ma_CM ma_ci ma_fm2
    rw [ea 27 (by omega) (by omega), ea 28 (by omega) (by omega), ea 31 (by omega) (by omega), ea 32 (by omega) (by omega)]
  have eFe : ma_Fe nn nr y.2.2.1 = ma_Fe nn nr x.2.2.1 := by
    funext set
    unfold ma_Fe
    rw [eFE]
  have e29 : ma_ci y.2.2.1 29 = ma_ci x.2.2.1 29 := by
    unfold ma_ci
    rw [ea 29 (by omega) (by omega)]
  obtain ⟨S, s1, s2, s3, s4, s5⟩ := K
  refine ⟨S, by rw [hI 10 (by omega)]; exact s1, by rw [eall, eFE]; exact s2, ?_, by rw [eall, eFE, eCM]; exact s4, ?_⟩
  · intro h
    rw [hI 10 (by omega)] at h
    have A := s3 h
    unfold ma_Acc at A ⊢
    rw [e29, hI 24 (by omega), hJ 11, hJ 12, hJ 14, eb 34 (by omega) (by omega), eb 35 (by omega) (by omega), eb 36 (by omega) (by omega), eb 37 (by omega) (by omega), eb 38 (by omega) (by omega)]
    exact A
  · intro h r hr
    rw [hI 10 (by omega)] at h
    rw [ha 39 r (by omega) (by omega), eall, eFe]
    exact s5 h r hr
theorem ma_EQ_c {nn nr : Nat} {a a' : gF} (hr : nr ≤ 8) (h : ma_sm6 a a') (hm : ∀ k j, 27 ≤ k → k < 34 → a' k j = a k j) (E : ma_EQ nn nr a) : ma_EQ nn nr a' := by
  obtain ⟨h6, h7, h8, h9, h10, h12, hf⟩ := h
  refine ⟨fun i hi => ?_, fun r hr2 => ?_⟩
  · rw [hm 27 i (by omega) (by omega), hm 28 i (by omega) (by omega), hm 29 i (by omega) (by omega), h6, h7, h8]
    exact E.1 i hi
  · obtain ⟨e1, e2, e3, e4, e5⟩ := E.2 r hr2
    rw [hm 30 r (by omega) (by omega), hm 31 r (by omega) (by omega), hm 33 r (by omega) (by omega), h9, h10, h12]
    exact ⟨e1, e2, e3, fun i hi => by rw [hm 32 _ (by omega) (by omega), hf r (by omega)]; exact e4 i hi, fun i h1 h2 => by rw [hf r (by omega)]; exact e5 i h1 h2⟩
theorem ma_fq_6 {x y : gS} (h : ma_fq x y) : ma_sm6 x.2.2.1 y.2.2.1 := ⟨fun j => h.2.2.1 6 j (by omega) (by omega) (by omega) (by omega), fun j => h.2.2.1 7 j (by omega) (by omega) (by omega) (by omega), fun j => h.2.2.1 8 j (by omega) (by omega) (by omega) (by omega), fun j => h.2.2.1 9 j (by omega) (by omega) (by omega) (by omega), fun j => h.2.2.1 10 j (by omega) (by omega) (by omega) (by omega), fun j => h.2.2.1 12 j (by omega) (by omega) (by omega) (by omega), fun r hr j => h.2.2.1 (40 + r) j (by omega) (by omega) (by omega) (by omega)⟩
/-- behind a question of the solver -/
theorem ma_IV_fq {nn nr : Nat} {x y : gS} (H : ma_IV nn nr x) (C : ma_CI nn nr y) (f : ma_fq x y) : ma_IV nn nr y := by
  obtain ⟨h1, h2, h3, h4, h5, h6, h7⟩ := H
  have s6 := ma_fq_6 f
  have hr8 := h1.2.2.1.2.1
  have hI : ∀ k j, k ≠ 2 → k ≠ 4 → y.1 k j = x.1 k j := fun k j q1 q2 => f.1 k j q1 (by omega) (by omega)
  refine ⟨C, by rw [hI 5 0 (by omega) (by omega)]; exact h2, by rw [hI 5 1 (by omega) (by omega)]; exact h3, ma_EQ_c hr8 s6 (fun k j q1 q2 => f.2.2.1 k j (by omega) (by omega) (by omega) (by omega)) h4, ?_, by rw [hI 3 8 (by omega) (by omega)]; exact h6, ?_⟩
  · rw [hI 5 9 (by omega) (by omega)]
    rcases h5 with q | q
    · exact Or.inl q
    · exact Or.inr ⟨q.1, ma_KN_c (fun j _ => hI 5 j (by omega) (by omega)) (fun j => f.2.1 5 j (by omega) (by omega)) (fun k j q1 q2 => f.2.2.1 k j (by omega) (by omega) (by omega) (by omega)) (fun k j q1 q2 => f.2.2.2 k j (by omega) (by omega) (by omega) (by omega)) q.2⟩
  · rw [hI 3 9 (by omega) (by omega)]
    rcases h7 with q | q
    · exact Or.inl q
    · exact Or.inr ⟨q.1, ma_WI_c hr8 s6 (hI 3 7 (by omega) (by omega)) (hI 3 8 (by omega) (by omega)) (fun j => f.2.2.1 23 j (by omega) (by omega) (by omega) (by omega)) q.2⟩
theorem ma_IV_n {nn nr : Nat} {x : gS} (H : ma_IV nn nr x) : cN (x.1 5 0) = nn ∧ cN (x.1 5 1) = nr ∧ cN (x.1 1 7) = nn ∧ cN (x.1 1 8) = nr := by
  obtain ⟨h1, h2, h3, -⟩ := H
  have d1 := h1.2.2.1.1
  have d2 := h1.2.2.1.2.1
  rw [h2, h3, h1.1, h1.2.1]
  exact ⟨ma_cN (by omega), ma_cN (by omega), ma_cN (by omega), ma_cN (by omega)⟩
/-- behind know -/
theorem ma_IV_k {nn nr : Nat} {x : gS} (H : ma_IV nn nr x) : ma_IV nn nr (kS x) ∧ ma_KN nn nr (kS x) ∧ ma_sm6 x.2.2.1 (kS x).2.2.1 ∧ ma_aC x (kS x) := by
  obtain ⟨n1, n2, -, -⟩ := ma_IV_n H
  obtain ⟨h1, h2, h3, h4, h5, h6, h7⟩ := H
  have hd := h1.2.2.1
  have hr8 := hd.2.1
  obtain ⟨k1, k2, k3⟩ := ma_know (ma_dM hd h4) h2 h5
  have e : kS x = m_know x nn nr := by unfold kS; rw [n1, n2]
  rw [e]
  have ac : ma_aC x (m_know x nn nr) := ⟨fun k j q1 q2 => k3.1 k j (by omega), fun k j q => k3.2.1 k j (by omega), fun k j q => k3.2.2.1 k j (by omega) (by omega), fun k j q => k3.2.2.2 k j (by omega) (by omega) (by omega)⟩
  have s6 := ma_aC_6 ac
  have hI : ∀ j, j ≠ 9 → j ≠ 10 → j ≠ 24 → (m_know x nn nr).1 5 j = x.1 5 j := fun j q1 q2 q3 => k3.1 5 j (by omega)
  refine ⟨⟨ma_CI_c ac h1, by rw [hI 0 (by omega) (by omega) (by omega)]; exact h2, by rw [hI 1 (by omega) (by omega) (by omega)]; exact h3, ma_EQ_c hr8 s6 (fun k j q1 q2 => k3.2.2.1 k j (by omega) (by omega)) h4, Or.inr ⟨k2, k1⟩, by rw [k3.1 3 8 (by omega)]; exact h6, ?_⟩, k1, s6, ac⟩
  rw [k3.1 3 9 (by omega)]
  rcases h7 with q | q
  · exact Or.inl q
  · exact Or.inr ⟨q.1, ma_WI_c hr8 s6 (k3.1 3 7 (by omega)) (k3.1 3 8 (by omega)) (fun j => k3.2.2.1 23 j (by omega) (by omega)) q.2⟩
def ma_INV (x : gS) : Prop := ∃ nn nr, ma_IV nn nr x
theorem ma_IV_cOK {x : gS} (H : ma_INV x) : cOK x.1 x.2.2.1 := by
  obtain ⟨nn, nr, H⟩ := H
  obtain ⟨-, -, n3, n4⟩ := ma_IV_n H
  obtain ⟨h1, h2, h3, h4, h5, h6, h7⟩ := H
  obtain ⟨c1, c2, hd, hk, c6, -⟩ := h1
  exact ⟨⟨by rw [n3]; exact c1, by rw [n3]; exact hd.1⟩, ⟨by rw [n4]; exact c2, by rw [n4]; exact hd.2.1⟩, hk.1, hk.2.1, hk.2.2.1, hk.2.2.2, c6, h6⟩
def ma_OM (x : gS) : Prop := x.1 5 0 = nI (cN (x.1 5 0)) ∧ cN (x.1 5 0) ≤ 5 ∧ x.1 5 1 = nI (cN (x.1 5 1)) ∧ cN (x.1 5 1) ≤ 8
theorem ma_IV_OM {x : gS} (H : ma_INV x) : ma_OM x := by
  obtain ⟨nn, nr, H⟩ := H
  obtain ⟨n1, n2, -, -⟩ := ma_IV_n H
  have hd := H.1.2.2.1
  unfold ma_OM
  rw [n1, n2]
  exact ⟨H.2.1, hd.1, H.2.2.1, hd.2.1⟩
theorem ma_IV_nz {x : gS} (H : ma_INV x) : m_nz (kS x) (cN (x.1 5 0)) := by
  obtain ⟨nn, nr, H⟩ := H
  obtain ⟨n1, -, -, -⟩ := ma_IV_n H
  obtain ⟨k1, k2, -, -⟩ := ma_IV_k H
  rw [n1]
  exact ma_nzE k1.1.2.2.1 k1.2.2.2.1 k2
theorem ma_IV_sps {x : gS} (H : ma_INV x) : m_sps x.2.2.1 (cN (x.1 5 0)) := by
  obtain ⟨nn, nr, H⟩ := H
  obtain ⟨n1, -, -, -⟩ := ma_IV_n H
  rw [n1]
  intro i hi
  have := (ma_dM H.1.2.2.1 H.2.2.2.1).2.2.1 i hi
  exact ⟨this.1, this.2.1, this.2.2.1⟩
theorem ma_isN {nn nr : Nat} {x : gS} (H : ma_IV nn nr x) (v : Int32) : p_hasN x.1 v = m_isN x.1 v ∧ (¬ p_hasN x.1 v = 0 → cN v < nn ∧ v = nI (cN v)) := by
  have h1 := H.1.1
  have h2 := H.2.1
  have hn := H.1.2.2.1.1
  unfold p_hasN m_isN
  rw [h1, h2]
  refine ⟨rfl, fun h => ?_⟩
  by_cases q : v < 0
  · rw [if_pos q] at h; exact absurd rfl h
  · rw [if_neg q] at h
    obtain ⟨j, j1, j2⟩ := nI_of q
    by_cases q2 : nI nn ≤ v
    · rw [if_pos q2] at h; exact absurd rfl h
    · rw [j2, nI_leI (by omega) j1] at q2
      rw [j2, ma_cN j1]
      exact ⟨by omega, rfl⟩
theorem ma_isR {nn nr : Nat} {x : gS} (H : ma_IV nn nr x) (v : Int32) : p_hasR x.1 x.2.2.1 v = m_isR x.1 x.2.2.1 v ∧ (¬ p_hasR x.1 x.2.2.1 v = 0 → cN v < nr ∧ v = nI (cN v) ∧ x.2.2.1 12 (cN v) ≠ 0) := by
  have h1 := H.1.2.1
  have h2 := H.2.2.1
  have hn := H.1.2.2.1.2.1
  have hE := H.2.2.2.1
  unfold p_hasR m_isR
  rw [h1, h2]
  by_cases q : v < 0
  · rw [if_pos q, if_pos q]
    exact ⟨rfl, fun h => absurd rfl h⟩
  · rw [if_neg q, if_neg q]
    obtain ⟨j, j1, j2⟩ := nI_of q
    by_cases q2 : nI nr ≤ v
    · rw [if_pos q2, if_pos q2]
      exact ⟨rfl, fun h => absurd rfl h⟩
    · rw [if_neg q2, if_neg q2]
      rw [j2, nI_leI (by omega) j1] at q2
      have e : x.2.2.1 33 (cN v) = x.2.2.1 12 (cN v) := by
        rw [j2, ma_cN j1]
        exact (hE.2 j (by omega)).2.2.1
      rw [e]
      refine ⟨rfl, fun h => ?_⟩
      refine ⟨by rw [j2, ma_cN j1]; omega, by rw [j2, ma_cN j1], fun w => h ?_⟩
      have w : x.2.2.1 12 v.toNatClampNeg = 0 := w
      rw [if_pos w]
/-- hasPoint, and what the reference knows of it -/
theorem ma_hE {nn nr : Nat} {x : gS} (H : ma_IV nn nr x) : ma_IV nn nr (hS x) ∧ (h_r x = 0 ∨ h_r x = 1) ∧ (hS x).1 2 5 = 1 ∧ (hS x).1 2 6 = h_r x ∧ (h_r x = 1 → ma_OKD nn nr (hS x).1 (hS x).2.1 (hS x).2.2.1 (hS x).2.2.2) ∧ (∀ y : gS, ma_IV nn nr y → ma_KN nn nr y → ma_sm6 x.2.2.1 y.2.2.1 → (y.1 5 10 = 0 ↔ h_r x = 0)) := by
  obtain ⟨c1, c2, c3, c4, c5⟩ := ma_hS H.1
  have hr8 := H.1.2.2.1.2.1
  refine ⟨ma_IV_fq H c1 (ma_fq_h H.1), ?_, c3, c4.symm, fun h => ?_, fun y Y K s6 => ?_⟩
  · rcases c5 with q | q
    · exact Or.inr q.1
    · exact Or.inl q.1
  · rcases c5 with q | q
    · exact q.2
    · rw [q.1] at h; exact absurd h (by decide)
  · have hh := ma_hasE Y.1.2.2.1 Y.2.2.2.1 K
    have hR : ∀ r, r < nr → (x.2.2.1 12 r ≠ 0 ↔ y.2.2.1 12 r ≠ 0) := fun r _ => by rw [s6.2.2.2.2.2.1]
    have eF : ∀ X, ma_FC nn nr y.2.2.1 (fun r => y.2.2.1 12 r ≠ 0) X ↔ ma_FC nn nr x.2.2.1 (fun r => x.2.2.1 12 r ≠ 0) X := fun X => (ma_fs_c hr8 s6).trans (ma_fs_R hR).symm
    rcases c5 with ⟨q1, q2⟩ | ⟨q1, q2⟩
    · rw [q1]
      refine ⟨fun w => ?_, fun w => absurd w (by decide)⟩
      exfalso
      obtain ⟨X, hX⟩ := ma_OKD_pt q2
      refine hh.mpr ⟨X, (eF X).mpr ?_⟩ w
      have s6h := ma_fq_6 (ma_fq_h H.1)
      exact (ma_fs_R (fun r _ => by rw [s6h.2.2.2.2.2.1])).mp ((ma_fs_c hr8 s6h).mp hX)
    · rw [q1]
      refine ⟨fun _ => rfl, fun _ => ?_⟩
      apply Classical.byContradiction
      intro w
      obtain ⟨X, hX⟩ := hh.mp w
      exact q2 X ((eF X).mp hX)
