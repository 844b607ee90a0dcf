/-! THE MATHEMATICS, 16: the reference goes through all corners -/
abbrev ma_FE (mn mr : Nat) (a : gF) (set : Int32) : (Nat → Int) → Prop := ma_fs mn mr (ma_ci a 27) (ma_ci a 28) (ma_ci a 30) (ma_ci a 31) (ma_fm2 a) (fun r => m_bt set r ≠ 0)
abbrev ma_TH (mn mr : Nat) (set : Int32) : Nat → Prop := ma_th mn mr (fun r => m_bt set r ≠ 0)
theorem ma_a88 {a a0 : gF} (h : ∀ k j, k ≠ 88 → a k j = a0 k j) (mn mr : Nat) (set : Int32) : ma_CM mn a = ma_CM mn a0 ∧ ma_FE mn mr a set = ma_FE mn mr a0 set ∧ (ma_datM mn mr a ↔ ma_datM mn mr a0) ∧ ma_ci a 29 = ma_ci a0 29 := by
  have e : ∀ k, k ≠ 88 → a k = a0 k := fun k hk => funext (fun j => h k j hk)
  unfold ma_CM ma_FE ma_datM ma_ci ma_fm2
  rw [e 27 (by omega), e 28 (by omega), e 29 (by omega), e 30 (by omega), e 31 (by omega), e 32 (by omega)]
  exact ⟨rfl, rfl, Iff.rfl, rfl⟩
/-- a row of conditions that is still to come -/
def ma_tc (dd : Nat) (a : gF) (t : Nat → Nat) : Prop := ∃ e, e < dd ∧ (∀ i, i < e → a 88 i = nI (t i)) ∧ ∃ q, a 88 e + 1 = nI q ∧ q ≤ 18 ∧ q ≤ t e
def ma_fr4 (x y : gS) : Prop := (∀ k j, ¬ (k = 5 ∧ j = 24) → y.1 k j = x.1 k j) ∧ (∀ k j, ¬ (k = 5 ∧ (j = 11 ∨ j = 12 ∨ j = 14 ∨ j = 23)) → y.2.1 k j = x.2.1 k j) ∧ (∀ k j, k ≠ 88 → y.2.2.1 k j = x.2.2.1 k j) ∧ (∀ k j, (k < 34 ∨ 38 < k) → k ≠ 87 → k ≠ 89 → y.2.2.2 k j = x.2.2.2 k j)
theorem ma_fr4_r (x : gS) : ma_fr4 x x := ⟨fun _ _ _ => rfl, fun _ _ _ => rfl, fun _ _ _ => rfl, fun _ _ _ _ _ => rfl⟩
theorem ma_fr4_t {x y z : gS} (h1 : ma_fr4 x y) (h2 : ma_fr4 y z) : ma_fr4 x z := ⟨fun k j h => (h2.1 k j h).trans (h1.1 k j h), fun k j h => (h2.2.1 k j h).trans (h1.2.1 k j h), fun k j h => (h2.2.2.1 k j h).trans (h1.2.2.1 k j h), fun k j a1 a2 a3 => (h2.2.2.2 k j a1 a2 a3).trans (h1.2.2.2 k j a1 a2 a3)⟩
/-- what is known behind the corners gone through: S the points seen -/
def ma_LI (mn mr : Nat) (set al : Int32) (x0 : gS) (dd : Nat) (f : Int32) (x : gS) (S : (Nat → Int) → Prop) : Prop :=
  ma_fr4 x0 x ∧ dd ≤ mn ∧ (∀ i, i + 1 < dd → ∃ k, x.2.2.1 88 i = nI k ∧ ma_TH mn mr set k) ∧ (∀ d, dd = d + 1 → ∃ q, x.2.2.1 88 d + 1 = nI q ∧ q ≤ 18) ∧ (f = 0 ∨ f = 1) ∧ (f ≠ 0 ↔ ∃ X, S X) ∧ (∀ X, S X → ma_FE mn mr x0.2.2.1 set X) ∧ (al = 0 → ∀ X, ¬ S X) ∧ (al ≠ 0 → ma_Acc mn (ma_ci x0.2.2.1 29) S x.1 x.2.1 x.2.2.2) ∧ (∀ t, ¬ ma_tc dd x.2.2.1 t → ∀ X, ma_FE mn mr x0.2.2.1 set X → ma_cor mn (ma_CM mn x0.2.2.1) (ma_TH mn mr set) t X → ∃ Y, S Y ∧ ma_eq X Y)
/-- what corners answers -/
def ma_CP (mn mr : Nat) (set al : Int32) (x0 : gS) (y : Int32 × gS) : Prop :=
  ma_fr4 x0 y.2 ∧ (y.1 = 0 ∨ y.1 = 1) ∧ (al = 0 → (y.1 = 1 ∧ ∃ X, ma_FE mn mr x0.2.2.1 set X) ∨ (y.1 = 0 ∧ ∀ t X, ma_FE mn mr x0.2.2.1 set X → ¬ ma_cor mn (ma_CM mn x0.2.2.1) (ma_TH mn mr set) t X)) ∧ (al ≠ 0 → ∃ S : (Nat → Int) → Prop, (y.1 ≠ 0 ↔ ∃ X, S X) ∧ (∀ X, S X → ma_FE mn mr x0.2.2.1 set X) ∧ ma_Acc mn (ma_ci x0.2.2.1 29) S y.2.1 y.2.2.1 y.2.2.2.2 ∧ ∀ t X, ma_FE mn mr x0.2.2.1 set X → ma_cor mn (ma_CM mn x0.2.2.1) (ma_TH mn mr set) t X → ∃ Y, S Y ∧ ma_eq X Y)
theorem ma_nx {I a : gF} {set : Int32} {mn mr d q : Nat} (hI : I 5 0 = nI mn) (hmn : mn ≤ 5) (hs : ∀ r, r < 8 → m_bt set r ≠ 0 → r < mr) (hb : ∀ r, r < 8 → m_bt set r = 0 ∨ m_bt set r = 1) (hq : a 88 d + 1 = nI q) (hq2 : q ≤ 18) : q ≤ m_nx I a set d ∧ m_nx I a set d ≤ 18 ∧ (m_nx I a set d < 18 → ma_TH mn mr set (m_nx I a set d)) ∧ ∀ c, q ≤ c → c < m_nx I a set d → ¬ ma_TH mn mr set c := by
  have e : m_nx I a set d = m_aft I set (18 - q) q := by
    unfold m_nx
    rw [hq]
    show m_aft I set (18 - (nI q).toNatClampNeg) (nI q).toNatClampNeg = _
    rw [nI_clamp (by omega)]
  rw [e]
  obtain ⟨h1, h2, h3, h4⟩ := ma_aft (I := I) (set := set) (18 - q) q
  refine ⟨h1, by omega, fun h => (ma_mthere hI hmn hs hb h).mp (h3 (by omega)), fun c g1 g2 => ?_⟩
  intro hT
  exact (ma_mthere hI hmn hs hb (by omega)).mpr hT (h4 c g1 g2)
theorem ma_sb_of {mn mr : Nat} {a : gF} {set : Int32} {X : Nat → Int} (hd : ma_datM mn mr a) (hX : ma_FE mn mr a set X) (h5 : X 5 ≤ 7085880) : ma_sb mn X := by
  obtain ⟨⟨x1, x2, x3⟩, -⟩ := hX
  refine ⟨x1, h5, fun i hi => ?_⟩
  have d := hd.2.2.1 i hi
  obtain ⟨l1, l2⟩ := x3 i hi
  have l1 : (a 27 i).toInt * X 5 ≤ X i := l1
  have l2 : X i ≤ (a 28 i).toInt * X 5 := l2
  have m1 : (-100) * X 5 ≤ (a 27 i).toInt * X 5 := Int.mul_le_mul_of_nonneg_right (by omega) (by omega)
  have m2 : (a 28 i).toInt * X 5 ≤ 100 * X 5 := Int.mul_le_mul_of_nonneg_right (by omega) (by omega)
  omega
/-- a leaf: the conditions picked are solved -/
theorem ma_leaf {mn mr : Nat} {set : Int32} {J : gL} {a : gF} {b : gL} (hd : ma_datM mn mr a) (hp : ∀ i, i < mn → ∃ k, a 88 i = nI k ∧ ma_TH mn mr set k) :
    (∀ K j, ¬ (K = 5 ∧ j = 23) → m_sJ J a b mn K j = J K j) ∧ (∀ K j, K ≠ 87 → K ≠ 89 → m_sB a b mn K j = b K j) ∧
    (((m_s0 a b mn).1 = 0 ∧ ∀ t X, (∀ i, i < mn → a 88 i = nI (t i)) → ¬ ma_cor mn (ma_CM mn a) (ma_TH mn mr set) t X) ∨
     (¬ (m_s0 a b mn).1 = 0 ∧ (m_keeps (m_sJ J a b mn) a (m_sB a b mn) set mn mr = 0 ∨ m_keeps (m_sJ J a b mn) a (m_sB a b mn) set mn mr = 1) ∧ (m_keeps (m_sJ J a b mn) a (m_sB a b mn) set mn mr = 1 ↔ ma_FE mn mr a set (ma_mX (m_sJ J a b mn) (m_sB a b mn) mn)) ∧ (ma_mX (m_sJ J a b mn) (m_sB a b mn) mn 5 ≤ 7085880) ∧ ∀ t X, (∀ i, i < mn → a 88 i = nI (t i)) → ma_FE mn mr a set X → ma_cor mn (ma_CM mn a) (ma_TH mn mr set) t X → ma_eq X (ma_mX (m_sJ J a b mn) (m_sB a b mn) mn) ∧ ma_FE mn mr a set (ma_mX (m_sJ J a b mn) (m_sB a b mn) mn))) := by
  have hmn := hd.1
  have hpk : ∀ i, i < mn → cN (a 88 i) < 18 ∧ ma_F a mn (cN (a 88 i)) = ma_CM mn a (cN (a 88 i)) ∧ ma_bd (ma_F a mn (cN (a 88 i))) := by
    intro i hi
    obtain ⟨k, k1, k2⟩ := hp i hi
    have e : cN (a 88 i) = k := by
      rw [k1]
      exact nI_clamp (by have := k2.1; omega)
    rw [e, ma_F_C hmn k2.1]
    exact ⟨k2.1, rfl, ma_F_bd hd k2⟩
  have htau : ∀ t : Nat → Nat, (∀ i, i < mn → a 88 i = nI (t i)) → ∀ X, ma_cor mn (ma_CM mn a) (ma_TH mn mr set) t X → ∀ i, i < mn → cN (a 88 i) = t i := by
    intro t ht X hX i hi
    rw [ht i hi]
    exact nI_clamp (by have := (hX.1 i hi).1; omega)
  obtain ⟨f1, f2, f3⟩ := ma_solve (J := J) (b := b) hmn (fun i hi => (hpk i hi).2.2)
  refine ⟨f1, f2, ?_⟩
  rcases f3 with ⟨g0, o, o1, o2, o3, o4, o5, o6, o7, o8⟩ | ⟨g0, Z, z1, z2, ⟨c, z3, z4⟩, z5⟩
  · refine Or.inr ⟨by rw [g0]; decide, ?_⟩
    have p5 : o 5 = ma_e 5 := o3 5 (by omega) hmn
    have ub : (ma_u o).natAbs ≤ 7085880 := ma_u_small p5 o4
    have u0 := ma_u_pos o2
    obtain ⟨k0, k1⟩ := ma_mkeeps (J := m_sJ J a b mn) (b := m_sB a b mn) (set := set) hd (by rw [o7]; exact u0) (by rw [o7]; exact ub) (fun i hi => by rw [o8 i hi]; exact ma_k_big o4 ma_bd_e)
    refine ⟨k0, k1, by rw [ma_mX_5, o7]; omega, fun t X ht hX hc => ?_⟩
    have hz := hX.1.2.1
    have key : ∀ i, i < mn → ma_u o * X i = ma_k o 5 (ma_e i) * X 5 := by
      intro i hi
      have h := (ma_LP_of o1 o2).2.1 (ma_e i) X
      rw [ma_e_dot (by omega)] at h
      rw [h, ma_sm_congr (g := fun s => if s = 5 then ma_k o 5 (ma_e i) * X 5 else 0) (fun s hs => ?_), ma_sm_one (by decide)]
      by_cases h5 : s = 5
      · rw [if_pos h5, h5, p5, ma_e_dot (by omega)]
      · rw [if_neg h5]
        by_cases hm : s < mn
        · obtain ⟨q, q1, q2⟩ := o6 s hm
          have := hc.2.2.1 q q1
          rw [← htau t ht X hc q q1, ← (hpk q q1).2.1, ← q2] at this
          rw [this]
          omega
        · rw [o3 s hs (by omega), ma_e_dot hs, hz s (by omega) (by omega)]
          omega
    have heq : ma_eq X (ma_mX (m_sJ J a b mn) (m_sB a b mn) mn) := by
      intro i hi
      rw [ma_mX_5, o7]
      by_cases hm : i < mn
      · rw [ma_mX_i hmn hm, o8 i hm, Int.mul_comm]
        exact key i hm
      · rw [hz i (by omega) hi, ma_mX_z i (by omega) hi]
        omega
    exact ⟨heq, ma_fs_eq hmn heq hX (by rw [ma_mX_5, o7]; exact u0) ma_mX_z⟩
  · refine Or.inl ⟨g0, fun t X ht hc => ?_⟩
    refine z4 (hc.2.2.2 Z z1 z2 (fun i hi => ?_) c z3)
    have := z5 i hi
    rw [(hpk i hi).2.1, htau t ht X hc i hi] at this
    exact this
theorem ma_mu_c {a a' : gF} : ∀ n, (∀ i, i < n → a' 88 i = a 88 i) → m_mu a' n = m_mu a n
  | 0, _ => rfl
  | n + 1, h => by
    show m_mu a' n + (19 - cN (a' 88 n + 1)) * 20 ^ (5 - n) = m_mu a n + (19 - cN (a 88 n + 1)) * 20 ^ (5 - n)
    rw [ma_mu_c n (fun i hi => h i (by omega)), h n (by omega)]
theorem ma_mu_s {a : gF} {d q : Nat} (hq : a 88 d + 1 = nI q) (h : q ≤ 19) : m_mu a (d + 1) = m_mu a d + (19 - q) * 20 ^ (5 - d) := by
  show m_mu a d + (19 - cN (a 88 d + 1)) * 20 ^ (5 - d) = _
  rw [hq]
  have : cN (nI q) = q := nI_clamp (by omega)
  rw [this]
theorem ma_corL {mn mr : Nat} {set al : Int32} {x0 : gS} (hd : ma_datM mn mr x0.2.2.1) (hI : x0.1 5 0 = nI mn) (h0 : 0 < mn) (hs : ∀ r, r < 8 → m_bt set r ≠ 0 → r < mr) (hb : ∀ r, r < 8 → m_bt set r = 0 ∨ m_bt set r = 1) : ∀ n dd f x S, m_mu x.2.2.1 dd < n → ma_LI mn mr set al x0 dd f x S → ma_CP mn mr set al x0 (m_cor mn mr set al n (dd, f, x))
  | 0, dd, f, x, S, h, _ => by omega
  | n + 1, 0, f, x, S, _, L => by
    obtain ⟨l1, l2, l3, l4, l5, l6, l7, l8, l9, l10⟩ := L
    show ma_CP mn mr set al x0 (f, x)
    have all : ∀ t, ¬ ma_tc 0 x.2.2.1 t := fun t ⟨e, h, _⟩ => by omega
    refine ⟨l1, l5, fun ha => ?_, fun ha => ⟨S, l6, l7, l9 ha, fun t X hX hc => l10 t (all t) X hX hc⟩⟩
    rcases l5 with q | q
    · refine Or.inr ⟨q, fun t X hX hc => ?_⟩
      obtain ⟨Y, y1, -⟩ := l10 t (all t) X hX hc
      exact l8 ha Y y1
    · exfalso
      obtain ⟨X, hX⟩ := l6.mp (by rw [q]; decide)
      exact l8 ha X hX
  | n + 1, d + 1, f, x, S, hmu, L => by
    obtain ⟨l1, l2, l3, l4, l5, l6, l7, l8, l9, l10⟩ := L
    have hmn := hd.1
    have hI' : x.1 5 0 = nI mn := by rw [l1.1 5 0 (by omega)]; exact hI
    obtain ⟨q, q1, q2⟩ := l4 d rfl
    obtain ⟨n1, n2, n3, n4⟩ := ma_nx (a := x.2.2.1) (d := d) hI' hmn hs hb q1 q2
    have e : m_cor mn mr set al (n + 1) (d + 1, f, x) = if nI (m_nx x.1 x.2.2.1 set d) ≤ 17 then if x.1 5 0 ≤ nI d + 1 then if (m_s0 (m_cA x set d).2.2.1 x.2.2.2 mn).1 = 0 then m_cor mn mr set al n (d + 1, f, m_cS mn (m_cA x set d)) else if m_keeps (m_cS mn (m_cA x set d)).2.1 (m_cA x set d).2.2.1 (m_cS mn (m_cA x set d)).2.2.2 set mn mr = 0 then m_cor mn mr set al n (d + 1, f, m_cS mn (m_cA x set d)) else if al = 0 then (1, m_cS mn (m_cA x set d)) else m_cor mn mr set al n (d + 1, 1, m_cT mn (m_cS mn (m_cA x set d))) else m_cor mn mr set al n (d + 1 + 1, f, m_cP x set d) else m_cor mn mr set al n (d, f, m_cA x set d) := rfl
    have mu0 := ma_mu_s q1 (by omega)
    have e17 : (17 : Int32) = nI 17 := rfl
    -- the stack behind this step
    have a88 : ∀ v k j, k ≠ 88 → gU x.2.2.1 88 d v k j = x0.2.2.1 k j := fun v k j h => by rw [gU_n (by omega)]; exact l1.2.2.1 k j h
    have pre : ∀ v i, i < d → gU x.2.2.1 88 d v 88 i = x.2.2.1 88 i := fun v i h => gU_n (by omega)
    have pow1 : 1 ≤ 20 ^ (5 - d) := Nat.pos_of_ne_zero (by exact Nat.ne_of_gt (Nat.pow_pos (by decide)))
    by_cases hk : m_nx x.1 x.2.2.1 set d ≤ 17
    · rw [e, if_pos (by rw [e17, nI_leI (by omega) (by omega)]; exact hk)]
      have hT := n3 (by omega)
      by_cases hleaf : mn ≤ d + 1
      · have hdm : d + 1 = mn := by omega
        rw [if_pos (by rw [hI', nI_1, nI_leI (by omega) (by omega)]; exact hleaf)]
        -- a whole row of conditions
        have hA : (m_cA x set d).2.2.1 = gU x.2.2.1 88 d (nI (m_nx x.1 x.2.2.1 set d)) := rfl
        have hAf : ma_fr4 x0 (m_cA x set d) := ⟨l1.1, l1.2.1, fun k j h => a88 _ k j h, l1.2.2.2⟩
        obtain ⟨E1, E2, E3, E4⟩ := ma_a88 (a := (m_cA x set d).2.2.1) (a0 := x0.2.2.1) hAf.2.2.1 mn mr set
        have hp : ∀ i, i < mn → ∃ k, (m_cA x set d).2.2.1 88 i = nI k ∧ ma_TH mn mr set k := by
          intro i hi
          rw [hA]
          by_cases w : i = d
          · rw [w, gU_s]
            exact ⟨_, rfl, hT⟩
          · rw [pre _ i (by omega)]
            exact l3 i (by omega)
        obtain ⟨j1, j2, j3⟩ := ma_leaf (J := x.2.1) (b := x.2.2.2) (E3.mpr hd) hp
        rw [E1, E2] at j3
        have hSf : ma_fr4 x0 (m_cS mn (m_cA x set d)) := by
          refine ma_fr4_t hAf ⟨fun _ _ _ => rfl, fun k j h => j1 k j (by omega), fun _ _ _ => rfl, fun k j h1 h2 h3 => j2 k j h2 h3⟩
        have nmu : m_mu (gU x.2.2.1 88 d (nI (m_nx x.1 x.2.2.1 set d))) (d + 1) < n := by
          have w := ma_mu_s (a := gU x.2.2.1 88 d (nI (m_nx x.1 x.2.2.1 set d))) (d := d) (q := m_nx x.1 x.2.2.1 set d + 1) (by rw [gU_s, nI_1]) (by omega)
          rw [w, ma_mu_c d (pre _)]
          rw [mu0] at hmu
          have : (19 - (m_nx x.1 x.2.2.1 set d + 1)) * 20 ^ (5 - d) + 20 ^ (5 - d) ≤ (19 - q) * 20 ^ (5 - d) := by
            rw [← Nat.succ_mul]
            exact Nat.mul_le_mul_right _ (by omega)
          omega
        -- what is done is done, but for this one
        have done : ∀ t, ¬ ma_tc (d + 1) (gU x.2.2.1 88 d (nI (m_nx x.1 x.2.2.1 set d))) t → (∀ i, i < mn → ma_TH mn mr set (t i)) → ¬ ma_tc (d + 1) x.2.2.1 t ∨ ∀ i, i < mn → (m_cA x set d).2.2.1 88 i = nI (t i) := by
          intro t h1 hTt
          by_cases h2 : ma_tc (d + 1) x.2.2.1 t
          · refine Or.inr ?_
            obtain ⟨e1, e2, e3, q', e4, e5, e6⟩ := h2
            by_cases w : e1 = d
            · subst w
              have : q' = q := by
                rw [q1, nI_eq (by omega) (by omega)] at e4
                omega
              subst this
              have ge : m_nx x.1 x.2.2.1 set e1 ≤ t e1 := by
                apply Classical.byContradiction
                intro hlt
                exact n4 (t e1) e6 (by omega) (hTt e1 (by omega))
              have le : t e1 ≤ m_nx x.1 x.2.2.1 set e1 := by
                apply Classical.byContradiction
                intro hlt
                refine h1 ⟨e1, by omega, fun i hi => by rw [pre _ i hi]; exact e3 i hi, m_nx x.1 x.2.2.1 set e1 + 1, by rw [gU_s, nI_1], by omega, by omega⟩
              intro i hi
              rw [hA]
              by_cases w2 : i = e1
              · rw [w2, gU_s]
                have : m_nx x.1 x.2.2.1 set e1 = t e1 := by omega
                rw [this]
              · rw [pre _ i (by omega)]
                exact e3 i (by omega)
            · exfalso
              exact h1 ⟨e1, e2, fun i hi => by rw [pre _ i (by omega)]; exact e3 i hi, q', by rw [pre _ e1 (by omega)]; exact e4, e5, e6⟩
          · exact Or.inl h2
        have L3 : ∀ i, i + 1 < d + 1 → ∃ k, gU x.2.2.1 88 d (nI (m_nx x.1 x.2.2.1 set d)) 88 i = nI k ∧ ma_TH mn mr set k := fun i hi => by
          rw [pre _ i (by omega)]
          exact l3 i hi
        have L4 : ∀ d', d + 1 = d' + 1 → ∃ q, gU x.2.2.1 88 d (nI (m_nx x.1 x.2.2.1 set d)) 88 d' + 1 = nI q ∧ q ≤ 18 := fun d' hd' => by
          have : d' = d := by omega
          rw [this, gU_s, nI_1]
          exact ⟨_, rfl, by omega⟩
        rcases j3 with ⟨g0, g1⟩ | ⟨g0, g1, g2, g3, g4⟩
        · rw [if_pos g0]
          refine ma_corL hd hI h0 hs hb n (d + 1) f (m_cS mn (m_cA x set d)) S nmu ⟨hSf, l2, L3, L4, l5, l6, l7, l8, fun ha => ?_, fun t ht X hX hc => ?_⟩
          · have A := l9 ha
            have eA : ∀ k j, (k < 34 ∨ 38 < k) ∨ (34 ≤ k ∧ k ≤ 38) → k ≠ 87 → k ≠ 89 → m_sB (m_cA x set d).2.2.1 x.2.2.2 mn k j = x.2.2.2 k j := fun k j _ h2 h3 => j2 k j h2 h3
            show ma_Acc mn (ma_ci x0.2.2.1 29) S x.1 (m_sJ x.2.1 (m_cA x set d).2.2.1 x.2.2.2 mn) (m_sB (m_cA x set d).2.2.1 x.2.2.2 mn)
            unfold ma_Acc at A ⊢
            have f34 : m_sB (m_cA x set d).2.2.1 x.2.2.2 mn 34 = x.2.2.2 34 := funext (fun j => j2 34 j (by omega) (by omega))
            have f35 : m_sB (m_cA x set d).2.2.1 x.2.2.2 mn 35 = x.2.2.2 35 := funext (fun j => j2 35 j (by omega) (by omega))
            have f36 : m_sB (m_cA x set d).2.2.1 x.2.2.2 mn 36 = x.2.2.2 36 := funext (fun j => j2 36 j (by omega) (by omega))
            have f37 : m_sB (m_cA x set d).2.2.1 x.2.2.2 mn 37 = x.2.2.2 37 := funext (fun j => j2 37 j (by omega) (by omega))
            have f38 : m_sB (m_cA x set d).2.2.1 x.2.2.2 mn 38 = x.2.2.2 38 := funext (fun j => j2 38 j (by omega) (by omega))
            rw [f34, f35, f36, f37, f38, j1 5 11 (by omega), j1 5 12 (by omega), j1 5 14 (by omega)]
            exact A
          · rcases done t ht hc.1 with w | w
            · exact l10 t w X hX hc
            · exact absurd hc (g1 t X w)
        · rw [if_neg g0]
          have hAcc : al ≠ 0 → ma_Acc mn (ma_ci x0.2.2.1 29) S x.1 (m_sJ x.2.1 (m_cA x set d).2.2.1 x.2.2.2 mn) (m_sB (m_cA x set d).2.2.1 x.2.2.2 mn) := by
            intro ha
            have A := l9 ha
            unfold ma_Acc at A ⊢
            have f34 : m_sB (m_cA x set d).2.2.1 x.2.2.2 mn 34 = x.2.2.2 34 := funext (fun j => j2 34 j (by omega) (by omega))
            have f35 : m_sB (m_cA x set d).2.2.1 x.2.2.2 mn 35 = x.2.2.2 35 := funext (fun j => j2 35 j (by omega) (by omega))
            have f36 : m_sB (m_cA x set d).2.2.1 x.2.2.2 mn 36 = x.2.2.2 36 := funext (fun j => j2 36 j (by omega) (by omega))
            have f37 : m_sB (m_cA x set d).2.2.1 x.2.2.2 mn 37 = x.2.2.2 37 := funext (fun j => j2 37 j (by omega) (by omega))
            have f38 : m_sB (m_cA x set d).2.2.1 x.2.2.2 mn 38 = x.2.2.2 38 := funext (fun j => j2 38 j (by omega) (by omega))
            rw [f34, f35, f36, f37, f38, j1 5 11 (by omega), j1 5 12 (by omega), j1 5 14 (by omega)]
            exact A
          by_cases hkp : m_keeps (m_cS mn (m_cA x set d)).2.1 (m_cA x set d).2.2.1 (m_cS mn (m_cA x set d)).2.2.2 set mn mr = 0
          · rw [if_pos hkp]
            refine ma_corL hd hI h0 hs hb n (d + 1) f (m_cS mn (m_cA x set d)) S nmu ⟨hSf, l2, L3, L4, l5, l6, l7, l8, hAcc, fun t ht X hX hc => ?_⟩
            rcases done t ht hc.1 with w | w
            · exact l10 t w X hX hc
            · exfalso
              have w2 := g2.mpr (g4 t X w hX hc).2
              have hkp : m_keeps (m_sJ x.2.1 (m_cA x set d).2.2.1 x.2.2.2 mn) (m_cA x set d).2.2.1 (m_sB (m_cA x set d).2.2.1 x.2.2.2 mn) set mn mr = 0 := hkp
              rw [hkp] at w2
              exact absurd w2 (by decide)
          · rw [if_neg hkp]
            have hFE : ma_FE mn mr x0.2.2.1 set (ma_mX (m_sJ x.2.1 (m_cA x set d).2.2.1 x.2.2.2 mn) (m_sB (m_cA x set d).2.2.1 x.2.2.2 mn) mn) := g2.mp (g1.resolve_left hkp)
            by_cases ha : al = 0
            · rw [if_pos ha]
              exact ⟨hSf, Or.inr rfl, fun _ => Or.inl ⟨rfl, _, hFE⟩, fun w => absurd ha w⟩
            · rw [if_neg ha]
              obtain ⟨tJ, tB⟩ := ma_take_f (I := x.1) (J := m_sJ x.2.1 (m_cA x set d).2.2.1 x.2.2.2 mn) (a := (m_cA x set d).2.2.1) (b := m_sB (m_cA x set d).2.2.1 x.2.2.2 mn) (mn := mn) hmn
              refine ma_corL hd hI h0 hs hb n (d + 1) 1 (m_cT mn (m_cS mn (m_cA x set d))) (fun Y => S Y ∨ Y = ma_mX (m_sJ x.2.1 (m_cA x set d).2.2.1 x.2.2.2 mn) (m_sB (m_cA x set d).2.2.1 x.2.2.2 mn) mn) nmu ⟨?_, l2, L3, L4, Or.inr rfl, ⟨fun _ => ⟨_, Or.inr rfl⟩, fun _ => by decide⟩, fun X hX => ?_, fun w => absurd w ha, fun _ => ?_, fun t ht X hX hc => ?_⟩
              · refine ma_fr4_t hSf ⟨fun k j h => gU_n (by omega), fun k j h => tJ k j (by omega), fun _ _ _ => rfl, fun k j h1 h2 h3 => tB k j h1⟩
              · rcases hX with w | w
                · exact l7 X w
                · rw [w]; exact hFE
              · have hc29 : ∀ i, i < mn → ((m_cA x set d).2.2.1 29 i).toInt.natAbs ≤ 99 := fun i hi => ((E3.mpr hd).2.2.1 i hi).2.2.2
                have A := hAcc ha
                rw [← E4] at A ⊢
                exact ma_take hmn hc29 A (ma_sb_of hd hFE g3) (fun Y => Iff.rfl)
              · rcases done t ht hc.1 with w | w
                · obtain ⟨Y, y1, y2⟩ := l10 t w X hX hc
                  exact ⟨Y, Or.inl y1, y2⟩
                · exact ⟨_, Or.inr rfl, (g4 t X w hX hc).1⟩
      · rw [if_neg (by rw [hI', nI_1, nI_leI (by omega) (by omega)]; exact hleaf)]
        have hP : (m_cP x set d).2.2.1 = gU (gU x.2.2.1 88 d (nI (m_nx x.1 x.2.2.1 set d))) 88 (d + 1) (nI (m_nx x.1 x.2.2.1 set d)) := rfl
        have pd : (m_cP x set d).2.2.1 88 d = nI (m_nx x.1 x.2.2.1 set d) := by rw [hP, gU_n (by omega), gU_s]
        have pd1 : (m_cP x set d).2.2.1 88 (d + 1) = nI (m_nx x.1 x.2.2.1 set d) := by rw [hP, gU_s]
        have pp : ∀ i, i < d → (m_cP x set d).2.2.1 88 i = x.2.2.1 88 i := fun i hi => by rw [hP, gU_n (by omega), gU_n (by omega)]
        have nmu : m_mu (m_cP x set d).2.2.1 (d + 1 + 1) < n := by
          have w1 := ma_mu_s (a := (m_cP x set d).2.2.1) (d := d + 1) (q := m_nx x.1 x.2.2.1 set d + 1) (by rw [pd1, nI_1]) (by omega)
          have w2 := ma_mu_s (a := (m_cP x set d).2.2.1) (d := d) (q := m_nx x.1 x.2.2.1 set d + 1) (by rw [pd, nI_1]) (by omega)
          rw [w1, w2, ma_mu_c d pp]
          rw [mu0] at hmu
          have e5 : 5 - d = (5 - (d + 1)) + 1 := by omega
          rw [e5, Nat.pow_succ] at hmu ⊢
          have pw : 1 ≤ 20 ^ (5 - (d + 1)) := Nat.pos_of_ne_zero (by exact Nat.ne_of_gt (Nat.pow_pos (by decide)))
          generalize 20 ^ (5 - (d + 1)) = P at *
          have k1 : (19 - (m_nx x.1 x.2.2.1 set d + 1)) * (P * 20) + (P * 20) ≤ (19 - q) * (P * 20) := by
            rw [← Nat.succ_mul]
            exact Nat.mul_le_mul_right _ (by omega)
          have k2 : (19 - (m_nx x.1 x.2.2.1 set d + 1)) * P ≤ 19 * P := Nat.mul_le_mul_right _ (by omega)
          omega
        refine ma_corL hd hI h0 hs hb n (d + 1 + 1) f (m_cP x set d) S nmu ⟨⟨l1.1, l1.2.1, fun k j h => by rw [hP, gU_n (by omega), gU_n (by omega)]; exact l1.2.2.1 k j h, l1.2.2.2⟩, by omega, fun i hi => ?_, fun d' hd' => ?_, l5, l6, l7, l8, l9, fun t ht X hX hc => ?_⟩
        · by_cases w : i = d
          · rw [w, pd]
            exact ⟨_, rfl, hT⟩
          · rw [pp i (by omega)]
            exact l3 i (by omega)
        · have : d' = d + 1 := by omega
          rw [this, pd1, nI_1]
          exact ⟨_, rfl, by omega⟩
        · refine l10 t (fun h2 => ht ?_) X hX hc
          obtain ⟨e1, e2, e3, q', e4, e5, e6⟩ := h2
          by_cases w : e1 = d
          · subst w
            have : q' = q := by
              rw [q1, nI_eq (by omega) (by omega)] at e4
              omega
            subst this
            have ge : m_nx x.1 x.2.2.1 set e1 ≤ t e1 := by
              apply Classical.byContradiction
              intro hlt
              exact n4 (t e1) e6 (by omega) (hc.1 e1 (by omega))
            by_cases w2 : m_nx x.1 x.2.2.1 set e1 = t e1
            · have inc := hc.2.1 e1 (e1 + 1) (by omega) (by omega)
              refine ⟨e1 + 1, by omega, fun i hi => ?_, m_nx x.1 x.2.2.1 set e1 + 1, by rw [pd1, nI_1], by omega, by omega⟩
              by_cases w3 : i = e1
              · rw [w3, pd, w2]
              · rw [pp i (by omega)]
                exact e3 i (by omega)
            · exact ⟨e1, by omega, fun i hi => by rw [pp i hi]; exact e3 i hi, m_nx x.1 x.2.2.1 set e1 + 1, by rw [pd, nI_1], by omega, by omega⟩
          · exact ⟨e1, by omega, fun i hi => by rw [pp i (by omega)]; exact e3 i hi, q', by rw [pp e1 (by omega)]; exact e4, e5, e6⟩
    · rw [e, if_neg (by rw [e17, nI_leI (by omega) (by omega)]; exact hk)]
      have hA : (m_cA x set d).2.2.1 = gU x.2.2.1 88 d (nI (m_nx x.1 x.2.2.1 set d)) := rfl
      have nmu : m_mu (m_cA x set d).2.2.1 d < n := by
        rw [hA, ma_mu_c d (pre _)]
        rw [mu0] at hmu
        have : 1 * 1 ≤ (19 - q) * 20 ^ (5 - d) := Nat.mul_le_mul (by omega) pow1
        omega
      refine ma_corL hd hI h0 hs hb n d f (m_cA x set d) S nmu ⟨⟨l1.1, l1.2.1, fun k j h => a88 _ k j h, l1.2.2.2⟩, by omega, fun i hi => ?_, fun d' hd' => ?_, l5, l6, l7, l8, l9, fun t ht X hX hc => ?_⟩
      · rw [hA, pre _ i (by omega)]
        exact l3 i (by omega)
      · obtain ⟨k, k1, k2⟩ := l3 d' (by omega)
        rw [hA, pre _ d' (by omega), k1, nI_1]
        exact ⟨_, rfl, by have := k2.1; omega⟩
      · refine l10 t (fun h2 => ht ?_) X hX hc
        obtain ⟨e1, e2, e3, q', e4, e5, e6⟩ := h2
        by_cases w : e1 = d
        · exfalso
          subst w
          have : q' = q := by
            rw [q1, nI_eq (by omega) (by omega)] at e4
            omega
          subst this
          have hTt := hc.1 e1 (by omega)
          exact n4 (t e1) e6 (by have := hTt.1; omega) hTt
        · exact ⟨e1, by omega, fun i hi => by rw [hA, pre _ i (by omega)]; exact e3 i hi, q', by rw [hA, pre _ e1 (by omega)]; exact e4, e5, e6⟩
