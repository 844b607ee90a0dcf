/-! THE MATHEMATICS, 24: whole numbers: the class's search ends, and in what -/
abbrev ma_WC (nn nr : Nat) (a : gF) : (Nat → Int) → Prop := ma_WF nn nr (ma_ci a 6) (ma_ci a 7) (ma_ci a 9) (ma_ci a 10) (ma_fa a) (fun r => a 12 r ≠ 0)
abbrev ma_pt1 (a : gF) : Nat → Int := fun i => (a 21 i).toInt
abbrev ma_fb1 (a : gF) : Nat → Int := fun i => (a 23 i).toInt
def ma_ct (nn dd : Nat) (a : gF) (P : Nat → Int) : Prop := (∃ e, e < dd ∧ e < nn ∧ (∀ i, i < e → P i = ma_pt1 a i) ∧ ma_Rg a e (P e)) ∨ (dd = nn + 1 ∧ ∀ i, i < nn → P i = ma_pt1 a i)
def ma_sz (a : gF) (e : Nat) : Nat := ((a 7 e).toInt - (a 6 e).toInt + 1).toNat
def ma_T (a : gF) (nn : Nat) : Nat → Nat
  | 0 => 1
  | m + 1 => ma_sz a (nn - 1 - m) * (1 + ma_T a nn m) + 1
def ma_mu (a : gF) (nn : Nat) : Nat → Nat
  | 0 => 0
  | e + 1 => ma_mu a nn e + (if e < nn then ((a 7 e).toInt - (a 21 e).toInt).toNat * (1 + ma_T a nn (nn - (e + 1))) + 1 else 1)
/-- what stands while the search goes -/
def ma_SV (nn nr : Nat) (I0 a0 : gF) (dd : Nat) (I a : gF) : Prop :=
  ((∀ k j, ¬ (k = 3 ∧ (j = 7 ∨ j = 8)) → I k j = I0 k j) ∧ (∀ k j, k ≠ 21 → k ≠ 22 → k ≠ 23 → (k < 69 ∨ 87 ≤ k) → a k j = a0 k j) ∧ dd ≤ nn + 1) ∧
  (∀ e, e < dd → ∀ ln, ma_rel nr ln → (a (69 + e) ln).toInt = ma_sm (fun i => ma_W a0 ln i * ma_pt1 a i) e) ∧
  (∀ e, e ≤ nn → ∀ ln, ma_rel nr ln → (a (75 + e) ln).toInt = ma_tl (ma_lm a0 ln) nn e ∧ (a (81 + e) ln).toInt = ma_tl (ma_mm a0 ln) nn e) ∧
  (∀ e, e < dd → e < nn → ma_pb a e) ∧ (∀ e, e + 1 < dd → e < nn → (a0 6 e).toInt ≤ ma_pt1 a e ∧ ma_pt1 a e ≤ (a0 7 e).toInt) ∧
  (I 3 8 = 0 ∨ I 3 8 = 1) ∧ (I 3 8 = 1 → ma_WC nn nr a0 (ma_fb1 a) ∧ (I 3 7).toInt = ma_cost nn (ma_ci a0 8) (ma_fb1 a) ∧ ∀ P, ma_ct nn dd a P → ma_lt nn (ma_fb1 a) P) ∧
  (∀ Q, ma_WC nn nr a0 Q → ∃ P, ma_WC nn nr a0 P ∧ ma_pq nn (ma_ci a0 8) P Q ∧ (ma_ct nn dd a P ∨ (I 3 8 = 1 ∧ ∀ i, i < nn → P i = ma_fb1 a i)))
/-- what the search ends in -/
def ma_SE (nn nr : Nat) (I0 a0 : gF) (I a : gF) : Prop := (∀ k j, ¬ (k = 3 ∧ (j = 7 ∨ j = 8)) → I k j = I0 k j) ∧ (∀ k j, k ≠ 21 → k ≠ 22 → k ≠ 23 → (k < 69 ∨ 87 ≤ k) → a k j = a0 k j) ∧ ((I 3 8 = 0 ∧ ∀ Q, ¬ ma_WC nn nr a0 Q) ∨ (I 3 8 = 1 ∧ ma_WC nn nr a0 (ma_fb1 a) ∧ (I 3 7).toInt = ma_cost nn (ma_ci a0 8) (ma_fb1 a) ∧ ∀ Q, ma_WC nn nr a0 Q → ma_pq nn (ma_ci a0 8) (ma_fb1 a) Q))
theorem ma_wkp {nn nr : Nat} {I a0 a : gF} (hd : ma_dat nn nr a0) (h8 : I 1 8 = nI nr) (hc : ∀ k j, k ≠ 21 → k ≠ 22 → k ≠ 23 → (k < 69 ∨ 87 ≤ k) → a k j = a0 k j) {P : Nat → Int} (hP : ∀ i, i < nn → (P i).natAbs ≤ 100) (hs : ∀ r, r < nr → (a (69 + nn) r).toInt = ma_sm (fun i => ma_W a0 r i * P i) nn) : ∀ n r, r + n ≤ nr → (w_kp I a nn n r = 0 ∨ w_kp I a nn n r = 1) ∧ (w_kp I a nn n r = 1 ↔ ∀ q, r ≤ q → q < r + n → a0 12 q ≠ 0 → ((a0 9 q).toInt ≠ 2 → ma_sm (fun i => ma_W a0 q i * P i) nn ≤ (a0 10 q).toInt) ∧ ((a0 9 q).toInt ≠ 0 → (a0 10 q).toInt ≤ ma_sm (fun i => ma_W a0 q i * P i) nn))
  | 0, r, _ => ⟨Or.inr rfl, ⟨fun _ q h1 h2 => by omega, fun _ => rfl⟩⟩
  | n + 1, r, hn => by
    obtain ⟨i0, i1⟩ := ma_wkp hd h8 hc hP hs n (r + 1) (by omega)
    have d1 := hd.1
    have d2 := hd.2.1
    have d4 := hd.2.2.2 r (by omega)
    have hh := ma_hasR (I := I) (a := a) h8 d2 (show r < nr by omega)
    rw [hc 12 r (by omega) (by omega) (by omega) (by omega)] at hh
    obtain ⟨ab, be⟩ := ma_above_i (a := a0) (r := r) d4.2.1
    have eab := ma_above_c (a := a0) (a' := a) (r := r) (hc 9 r (by omega) (by omega) (by omega) (by omega))
    have hsr := hs r (by omega)
    have hb : (ma_sm (fun i => ma_W a0 r i * P i) nn).natAbs ≤ nn * 9900 := ma_sm_abs (fun i hi => ma_mb (ma_W_b hd (Or.inl (by omega)) hi) (hP i hi))
    have hov : (a (69 + nn) r - a 10 r).toInt = ma_sm (fun i => ma_W a0 r i * P i) nn - (a0 10 r).toInt := by
      rw [hc 10 r (by omega) (by omega) (by omega) (by omega)]
      exact ma_sub3 hsr rfl (by omega)
    have e : w_kp I a nn (n + 1) r = if p_hasR I a (nI r) = 0 then w_kp I a nn n (r + 1) else if a (69 + nn) r - a 10 r ≤ 0 then (if 0 ≤ a (69 + nn) r - a 10 r then w_kp I a nn n (r + 1) else if p_below a r = 0 then w_kp I a nn n (r + 1) else 0) else if p_above a r = 0 then (if 0 ≤ a (69 + nn) r - a 10 r then w_kp I a nn n (r + 1) else if p_below a r = 0 then w_kp I a nn n (r + 1) else 0) else 0 := rfl
    have le0 : a (69 + nn) r - a 10 r ≤ 0 ↔ ma_sm (fun i => ma_W a0 r i * P i) nn ≤ (a0 10 r).toInt := by
      rw [Int32.le_iff_toInt_le, hov]
      show _ ≤ (0 : Int) ↔ _
      omega
    have ge0 : 0 ≤ a (69 + nn) r - a 10 r ↔ (a0 10 r).toInt ≤ ma_sm (fun i => ma_W a0 r i * P i) nn := by
      rw [ma_l03, hov]
      omega
    -- the row itself
    have key : ∀ z : Int32, (z = 0 ∨ z = 1) → ((if p_hasR I a (nI r) = 0 then z else if a (69 + nn) r - a 10 r ≤ 0 then (if 0 ≤ a (69 + nn) r - a 10 r then z else if p_below a r = 0 then z else 0) else if p_above a r = 0 then (if 0 ≤ a (69 + nn) r - a 10 r then z else if p_below a r = 0 then z else 0) else 0) = 0 ∨ (if p_hasR I a (nI r) = 0 then z else if a (69 + nn) r - a 10 r ≤ 0 then (if 0 ≤ a (69 + nn) r - a 10 r then z else if p_below a r = 0 then z else 0) else if p_above a r = 0 then (if 0 ≤ a (69 + nn) r - a 10 r then z else if p_below a r = 0 then z else 0) else 0) = 1) ∧ ((if p_hasR I a (nI r) = 0 then z else if a (69 + nn) r - a 10 r ≤ 0 then (if 0 ≤ a (69 + nn) r - a 10 r then z else if p_below a r = 0 then z else 0) else if p_above a r = 0 then (if 0 ≤ a (69 + nn) r - a 10 r then z else if p_below a r = 0 then z else 0) else 0) = 1 ↔ (a0 12 r ≠ 0 → ((a0 9 r).toInt ≠ 2 → ma_sm (fun i => ma_W a0 r i * P i) nn ≤ (a0 10 r).toInt) ∧ ((a0 9 r).toInt ≠ 0 → (a0 10 r).toInt ≤ ma_sm (fun i => ma_W a0 r i * P i) nn)) ∧ z = 1) := by
      intro z hz
      by_cases q : p_hasR I a (nI r) = 0
      · rw [if_pos q]
        exact ⟨hz, ⟨fun w => ⟨fun g => absurd (hh.mp q) g, w⟩, fun w => w.2⟩⟩
      · rw [if_neg q]
        have alive : a0 12 r ≠ 0 := fun g => q (hh.mpr g)
        rw [eab.1, eab.2]
        by_cases q1 : a (69 + nn) r - a 10 r ≤ 0
        · rw [if_pos q1]
          by_cases q2 : 0 ≤ a (69 + nn) r - a 10 r
          · rw [if_pos q2]
            exact ⟨hz, ⟨fun w => ⟨fun _ => ⟨fun _ => le0.mp q1, fun _ => ge0.mp q2⟩, w⟩, fun w => w.2⟩⟩
          · rw [if_neg q2]
            by_cases q3 : p_below a0 r = 0
            · rw [if_pos q3]
              exact ⟨hz, ⟨fun w => ⟨fun _ => ⟨fun _ => le0.mp q1, fun g => absurd q3 (be.mpr g)⟩, w⟩, fun w => w.2⟩⟩
            · rw [if_neg q3]
              exact ⟨Or.inl rfl, ⟨fun w => absurd w (by decide), fun w => absurd (ge0.mpr ((w.1 alive).2 (be.mp q3))) q2⟩⟩
        · rw [if_neg q1]
          by_cases q3 : p_above a0 r = 0
          · rw [if_pos q3]
            have hnb : ¬ (a0 9 r).toInt ≠ 2 := fun g => ab.mpr g q3
            by_cases q2 : 0 ≤ a (69 + nn) r - a 10 r
            · rw [if_pos q2]
              exact ⟨hz, ⟨fun w => ⟨fun _ => ⟨fun g => absurd g hnb, fun _ => ge0.mp q2⟩, w⟩, fun w => w.2⟩⟩
            · exfalso
              rw [le0] at q1
              rw [ge0] at q2
              omega
          · rw [if_neg q3]
            exact ⟨Or.inl rfl, ⟨fun w => absurd w (by decide), fun w => absurd (le0.mpr ((w.1 alive).1 (ab.mp q3))) q1⟩⟩
    rw [e]
    obtain ⟨k0, k1⟩ := key _ i0
    refine ⟨k0, k1.trans ⟨fun w q h1 h2 h3 => ?_, fun w => ⟨fun h3 => w r (by omega) (by omega) h3, i1.mpr (fun q h1 h2 => w q (by omega) (by omega))⟩⟩⟩
    by_cases g : q = r
    · rw [g] at h3 ⊢; exact w.1 h3
    · exact i1.mp w.2 q (by omega) (by omega) h3
theorem ma_wcp {a : gF} : ∀ n K j, w_cp a n K j = if K = 23 ∧ j < n then a 21 j else a K j
  | 0, K, j => by
    rw [if_neg (by omega)]
    rfl
  | n + 1, K, j => by
    show gU (w_cp a n) 23 n (w_cp a n 21 n) K j = _
    have e : w_cp a n 21 n = a 21 n := by rw [ma_wcp, if_neg (by omega)]
    rw [e]
    by_cases h : K = 23 ∧ j = n
    · obtain ⟨rfl, rfl⟩ := h
      rw [gU_s, if_pos (by omega)]
    · rw [gU_n (by omega), ma_wcp]
      by_cases h2 : K = 23 ∧ j < n
      · rw [if_pos h2, if_pos (by omega)]
      · rw [if_neg h2, if_neg (by omega)]
theorem ma_mu_c1 {a a' : gF} {nn : Nat} (h7 : ∀ e, a' 7 e = a 7 e) (h6 : ∀ e, a' 6 e = a 6 e) : ∀ n, (∀ e, e < n → e < nn → a' 21 e = a 21 e) → ma_mu a' nn n = ma_mu a nn n := by
  have hT : ∀ m, ma_T a' nn m = ma_T a nn m := by
    intro m
    induction m with
    | zero => rfl
    | succ m ih =>
      show ma_sz a' (nn - 1 - m) * (1 + ma_T a' nn m) + 1 = ma_sz a (nn - 1 - m) * (1 + ma_T a nn m) + 1
      rw [ih]
      unfold ma_sz
      rw [h7, h6]
  intro n
  induction n with
  | zero => intro _; rfl
  | succ n ih =>
    intro h
    show ma_mu a' nn n + (if n < nn then _ else 1) = ma_mu a nn n + (if n < nn then _ else 1)
    rw [ih (fun e h1 h2 => h e (by omega) h2)]
    by_cases q : n < nn
    · rw [if_pos q, if_pos q, hT, h7, h n (by omega) q]
    · rw [if_neg q, if_neg q]
theorem ma_psum {nn nr : Nat} {a0 : gF} (hd : ma_dat nn nr a0) {ln : Nat} (hl : ma_rel nr ln) {P : Nat → Int} {e : Nat} (he : e ≤ nn) (hP : ∀ i, i < e → (P i).natAbs ≤ 100) : (ma_sm (fun i => ma_W a0 ln i * P i) e).natAbs ≤ 49500 := by
  have h1 : (ma_sm (fun i => ma_W a0 ln i * P i) e).natAbs ≤ e * 9900 := ma_sm_abs (fun i hi => ma_mb (ma_W_b hd hl (by omega)) (hP i hi))
  have d1 := hd.1
  omega
theorem ma_tl_W {nn nr : Nat} {a0 : gF} (hd : ma_dat nn nr a0) {ln e : Nat} (he : e ≤ nn) {P : Nat → Int} (hP : ∀ i, i < nn → (a0 6 i).toInt ≤ P i ∧ P i ≤ (a0 7 i).toInt) : ma_tl (ma_lm a0 ln) nn e ≤ ma_tl (fun i => ma_W a0 ln i * P i) nn e ∧ ma_tl (fun i => ma_W a0 ln i * P i) nn e ≤ ma_tl (ma_mm a0 ln) nn e :=
  ⟨ma_tl_le nn he (fun i _ h2 => (ma_box (hP i h2).1 (hP i h2).2).1), ma_tl_le nn he (fun i _ h2 => (ma_box (hP i h2).1 (hP i h2).2).2)⟩
theorem ma_T_s (a : gF) (nn e : Nat) (he : e < nn) : ma_T a nn (nn - e) = ma_sz a e * (1 + ma_T a nn (nn - (e + 1))) + 1 := by
  obtain ⟨m, hm⟩ : ∃ m, nn - e = m + 1 := ⟨nn - e - 1, by omega⟩
  have e1 : nn - (e + 1) = m := by omega
  have e2 : nn - 1 - m = e := by omega
  rw [hm, e1]
  show ma_sz a (nn - 1 - m) * (1 + ma_T a nn m) + 1 = _
  rw [e2]
theorem ma_T_p (a : gF) (nn : Nat) : ∀ m, 1 ≤ ma_T a nn m
  | 0 => Nat.le_refl _
  | m + 1 => by
    show 1 ≤ ma_sz a (nn - 1 - m) * (1 + ma_T a nn m) + 1
    omega
theorem ma_srch {nn nr : Nat} {I0 a0 : gF} (hd : ma_dat nn nr a0) (h7 : I0 1 7 = nI nn) (h8 : I0 1 8 = nI nr) : ∀ n dd I a, ma_mu a nn dd < n → ma_SV nn nr I0 a0 dd I a → ma_SE nn nr I0 a0 (w_srch nn nr n (dd, I, a)).2.1 (w_srch nn nr n (dd, I, a)).2.2
  | 0, dd, I, a, h, _ => by omega
  | n + 1, 0, I, a, _, V => by
    obtain ⟨⟨v1, v2, -⟩, -, -, -, -, v6, v7, v8⟩ := V
    show ma_SE nn nr I0 a0 I a
    have noct : ∀ P, ¬ ma_ct nn 0 a P := by
      rintro P (⟨e, e1, -⟩ | ⟨e1, -⟩) <;> omega
    refine ⟨v1, v2, ?_⟩
    rcases v6 with q | q
    · refine Or.inl ⟨q, fun Q hQ => ?_⟩
      obtain ⟨P, -, -, p3 | p3⟩ := v8 Q hQ
      · exact noct P p3
      · rw [q] at p3; exact absurd p3.1 (by decide)
    · obtain ⟨w1, w2, -⟩ := v7 q
      refine Or.inr ⟨q, w1, w2, fun Q hQ => ?_⟩
      obtain ⟨P, p1, p2, p3 | p3⟩ := v8 Q hQ
      · exact absurd p3 (noct P)
      · exact ma_pq_t (Or.inr ⟨ma_cost_e (fun i hi => (p3.2 i hi).symm), Or.inl (fun i hi => (p3.2 i hi).symm)⟩) p2
  | n + 1, d + 1, I, a, hmu, V => by
    obtain ⟨⟨v1, v2, v3⟩, v4, v5, vp, vq, v6, v7, v8⟩ := V
    have d1 := hd.1
    have d2 := hd.2.1
    have hI7 : I 1 7 = nI nn := by rw [v1 1 7 (by omega)]; exact h7
    have hI8 : I 1 8 = nI nr := by rw [v1 1 8 (by omega)]; exact h8
    have eqn : w_srch nn nr (n + 1) (d + 1, I, a) = if nI d < I 1 7 then if a 21 d < a 22 d then if w_mbc I (w_add (gU a 21 d (a 21 d + 1)) d nr) (d + 1) = 0 then w_srch nn nr n (d + 1, I, w_add (gU a 21 d (a 21 d + 1)) d nr) else w_srch nn nr n (d + 1 + 1, I, w_open I (w_add (gU a 21 d (a 21 d + 1)) d nr) (d + 1) nr) else w_srch nn nr n (d, I, a) else w_srch nn nr n (d, w_tpI I a nn nr, w_tpA I a nn nr) := rfl
    have mu0 : ma_mu a nn (d + 1) = ma_mu a nn d + (if d < nn then ((a 7 d).toInt - (a 21 d).toInt).toNat * (1 + ma_T a nn (nn - (d + 1))) + 1 else 1) := rfl
    by_cases hdn : d < nn
    · rw [eqn, hI7, if_pos (nI_lt hdn (by omega))]
      rw [if_pos hdn] at mu0
      obtain ⟨p1, p2, p3, p4⟩ := vp d (by omega) hdn
      have c6 : a 6 d = a0 6 d := v2 6 d (by omega) (by omega) (by omega) (by omega)
      have c7 : a 7 d = a0 7 d := v2 7 d (by omega) (by omega) (by omega) (by omega)
      have dd3 := hd.2.2.1 d hdn
      by_cases hlt : a 21 d < a 22 d
      · rw [if_pos hlt]
        rw [Int32.lt_iff_toInt_lt] at hlt
        have ep : (a 21 d + 1).toInt = (a 21 d).toInt + 1 := ma_add3 rfl (rfl : (1 : Int32).toInt = 1) (by rw [c6] at p1; omega)
        -- the state with one more
        have A1 : ∀ K j, w_add (gU a 21 d (a 21 d + 1)) d nr K j = if K = 69 + (d + 1) ∧ j = 8 then gU a 21 d (a 21 d + 1) (69 + d) 8 + gU a 21 d (a 21 d + 1) 8 d * gU a 21 d (a 21 d + 1) 21 d else if K = 69 + (d + 1) ∧ j < nr then gU a 21 d (a 21 d + 1) (69 + d) j + gU a 21 d (a 21 d + 1) (40 + j) d * gU a 21 d (a 21 d + 1) 21 d else gU a 21 d (a 21 d + 1) K j := fun K j => ma_wadd d2 K j
        generalize w_add (gU a 21 d (a 21 d + 1)) d nr = b at *
        have b21 : b 21 d = a 21 d + 1 := by rw [A1, if_neg (by omega), if_neg (by omega), gU_s]
        have bo : ∀ K j, ¬ (K = 21 ∧ j = d) → ¬ K = 69 + (d + 1) → b K j = a K j := fun K j h1 h2 => by rw [A1, if_neg (by omega), if_neg (by omega), gU_n (by omega)]
        have b21' : ∀ i, i ≠ d → b 21 i = a 21 i := fun i hi => bo 21 i (by omega) (by omega)
        have bpt : ∀ i, i < d → ma_pt1 b i = ma_pt1 a i := fun i hi => by show (b 21 i).toInt = _; rw [b21' i (by omega)]
        have bptd : ma_pt1 b d = (a 21 d).toInt + 1 := by show (b 21 d).toInt = _; rw [b21, ep]
        have bv2 : ∀ k j, k ≠ 21 → k ≠ 22 → k ≠ 23 → (k < 69 ∨ 87 ≤ k) → b k j = a0 k j := fun k j h1 h2 h3 h4 => by rw [bo k j (by omega) (by omega)]; exact v2 k j h1 h2 h3 h4
        have bin : (a0 6 d).toInt ≤ ma_pt1 b d ∧ ma_pt1 b d ≤ (a0 7 d).toInt := by
          rw [bptd]
          rw [c6] at p1
          rw [c7] at p3
          omega
        have bq : ∀ e, e < d + 1 → (a0 6 e).toInt ≤ ma_pt1 b e ∧ ma_pt1 b e ≤ (a0 7 e).toInt := by
          intro e he
          by_cases g : e = d
          · rw [g]; exact bin
          · rw [bpt e (by omega)]
            exact vq e (by omega) (by omega)
        have babs : ∀ e, e < d + 1 → (ma_pt1 b e).natAbs ≤ 100 := fun e he => by
          have := bq e he
          have := hd.2.2.1 e (by omega)
          omega
        have bsum : ∀ e, e < d + 2 → ∀ ln, ma_rel nr ln → (b (69 + e) ln).toInt = ma_sm (fun i => ma_W a0 ln i * ma_pt1 b i) e := by
          intro e he ln hl
          by_cases g : e = d + 1
          · subst g
            have hs := v4 d (by omega) ln hl
            have hpre : ma_sm (fun i => ma_W a0 ln i * ma_pt1 b i) d = ma_sm (fun i => ma_W a0 ln i * ma_pt1 a i) d := ma_sm_congr (fun i hi => by rw [bpt i hi])
            have hw := ma_W_b hd hl hdn
            have m0 := ma_mb hw (babs d (by omega))
            have s0 := ma_psum hd hl (show d ≤ nn by omega) (fun i hi => babs i (by omega))
            rw [hpre] at s0
            show (b (69 + (d + 1)) ln).toInt = ma_sm (fun i => ma_W a0 ln i * ma_pt1 b i) d + ma_W a0 ln d * ma_pt1 b d
            rw [hpre, A1]
            by_cases g8 : ln = 8
            · subst g8
              rw [if_pos ⟨rfl, rfl⟩, gU_n (by omega), gU_n (by omega), gU_s, v2 8 d (by omega) (by omega) (by omega) (by omega)]
              have ew : ma_W a0 8 d = (a0 8 d).toInt := if_pos rfl
              rw [ew] at m0 hw ⊢
              rw [bptd] at m0 ⊢
              exact ma_add3 hs (ma_mul3 rfl ep (by omega)) (by omega)
            · have hln : ln < nr := by
                rcases hl with w | w
                · exact w
                · exact absurd w g8
              rw [if_neg (by omega), if_pos ⟨rfl, hln⟩, gU_n (by omega), gU_n (by omega), gU_s, v2 (40 + ln) d (by omega) (by omega) (by omega) (by omega)]
              have ew : ma_W a0 ln d = (a0 (40 + ln) d).toInt := if_neg g8
              rw [ew] at m0 hw ⊢
              rw [bptd] at m0 ⊢
              exact ma_add3 hs (ma_mul3 rfl ep (by omega)) (by omega)
          · rw [bo (69 + e) ln (by omega) (by omega), v4 e (by omega) ln hl]
            exact ma_sm_congr (fun i hi => by rw [bpt i (by omega)])
        have blm : ∀ e, e ≤ nn → ∀ ln, ma_rel nr ln → (b (75 + e) ln).toInt = ma_tl (ma_lm a0 ln) nn e ∧ (b (81 + e) ln).toInt = ma_tl (ma_mm a0 ln) nn e := fun e he ln hl => by
          rw [bo (75 + e) ln (by omega) (by omega), bo (81 + e) ln (by omega) (by omega)]
          exact v5 e he ln hl
        have b23 : ma_fb1 b = ma_fb1 a := funext (fun i => by show (b 23 i).toInt = (a 23 i).toInt; rw [bo 23 i (by omega) (by omega)])
        have b22 : ∀ i, b 22 i = a 22 i := fun i => bo 22 i (by omega) (by omega)
        have bpb : ∀ e, e < d + 1 → e < nn → ma_pb b e := by
          intro e he hen
          obtain ⟨q1, q2, q3, q4⟩ := vp e (by omega) hen
          unfold ma_pb
          rw [bo 6 e (by omega) (by omega), bo 7 e (by omega) (by omega), b22 e]
          by_cases g : e = d
          · subst g
            rw [b21, ep]
            refine ⟨by omega, by omega, q3, q4⟩
          · rw [b21' e g]
            exact ⟨q1, q2, q3, q4⟩
        -- what was to come: now, or below this number, or past
        have split : ∀ P, ma_ct nn (d + 1) a P → ma_ct nn (d + 1) b P ∨ (∀ i, i < d + 1 → P i = ma_pt1 b i) := by
          rintro P (⟨e, e1, e2, e3, e4⟩ | ⟨e1, -⟩)
          · by_cases g : e = d
            · subst g
              unfold ma_Rg at e4
              by_cases g2 : P e = ma_pt1 b e
              · refine Or.inr (fun i hi => ?_)
                by_cases g3 : i = e
                · rw [g3]; exact g2
                · rw [bpt i (by omega)]; exact e3 i (by omega)
              · refine Or.inl (Or.inl ⟨e, e1, e2, fun i hi => by rw [bpt i hi]; exact e3 i hi, ?_⟩)
                unfold ma_Rg
                rw [b22]
                have : (b 21 e).toInt = (a 21 e).toInt + 1 := bptd
                have g2 : P e ≠ (b 21 e).toInt := g2
                omega
            · refine Or.inl (Or.inl ⟨e, e1, e2, fun i hi => by rw [bpt i (by omega)]; exact e3 i hi, ?_⟩)
              unfold ma_Rg
              rw [b22, b21' e g]
              exact e4
          · omega
        have back : ∀ P, ma_ct nn (d + 1) b P → ma_ct nn (d + 1) a P := by
          rintro P (⟨e, e1, e2, e3, e4⟩ | ⟨e1, -⟩)
          · refine Or.inl ⟨e, e1, e2, fun i hi => by rw [← bpt i (by omega)]; exact e3 i hi, ?_⟩
            unfold ma_Rg at e4 ⊢
            rw [b22] at e4
            by_cases g : e = d
            · subst g
              have : (b 21 e).toInt = (a 21 e).toInt + 1 := bptd
              omega
            · rw [b21' e g] at e4
              exact e4
          · omega
        have ctP : ∀ P, (∀ i, i < d + 1 → P i = ma_pt1 b i) → ma_ct nn (d + 1) a P := by
          intro P hP
          refine Or.inl ⟨d, by omega, hdn, fun i hi => by rw [hP i (by omega), bpt i hi], ?_⟩
          unfold ma_Rg
          have := hP d (by omega)
          rw [bptd] at this
          rw [this]
          omega
        -- the cost of a point below this number
        have costP : ∀ P, ma_WC nn nr a0 P → (∀ i, i < d + 1 → P i = ma_pt1 b i) → (b (69 + (d + 1)) 8).toInt + ma_tl (ma_lm a0 8) nn (d + 1) ≤ ma_cost nn (ma_ci a0 8) P := by
          intro P hW hP
          have t1 := (ma_tl_W hd (ln := 8) (show d + 1 ≤ nn by omega) hW.1).1
          have t2 := bsum (d + 1) (by omega) 8 (Or.inr rfl)
          have t3 : ma_sm (fun i => ma_W a0 8 i * ma_pt1 b i) (d + 1) = ma_sm (fun i => ma_W a0 8 i * P i) (d + 1) := ma_sm_congr (fun i hi => by rw [hP i hi])
          have t4 : ma_cost nn (ma_ci a0 8) P = ma_sm (fun i => ma_W a0 8 i * P i) nn := ma_sm_congr (fun i hi => by show (a0 8 i).toInt * _ = (if 8 = 8 then (a0 8 i).toInt else _) * _; rw [if_pos rfl])
          unfold ma_tl at t1 ⊢
          omega
        have mb : (w_mbc I b (d + 1) = 0 ∧ I 3 8 = 1 ∧ (I 3 7).toInt ≤ (b (69 + (d + 1)) 8).toInt + ma_tl (ma_lm a0 8) nn (d + 1)) ∨ (¬ w_mbc I b (d + 1) = 0) := by
          unfold w_mbc
          by_cases g : I 3 8 = 0
          · rw [if_pos g]; exact Or.inr (by decide)
          · rw [if_neg g]
            have t2 := bsum (d + 1) (by omega) 8 (Or.inr rfl)
            have t3 := (blm (d + 1) (by omega) 8 (Or.inr rfl)).1
            have s0 := ma_psum hd (Or.inr rfl : ma_rel nr 8) (show d + 1 ≤ nn by omega) (fun i hi => babs i hi)
            have tb : (ma_tl (ma_lm a0 8) nn (d + 1)).natAbs ≤ 99000 := ma_sm_b d1 (by omega) (fun i hi => (ma_lm_b hd (Or.inr rfl) hi).1)
            have es : (b (69 + (d + 1)) 8 + b (75 + (d + 1)) 8).toInt = (b (69 + (d + 1)) 8).toInt + ma_tl (ma_lm a0 8) nn (d + 1) := ma_add3 rfl t3 (by rw [t2]; omega)
            by_cases g2 : I 3 7 ≤ b (69 + (d + 1)) 8 + b (75 + (d + 1)) 8
            · rw [if_pos g2]
              rw [Int32.le_iff_toInt_le, es] at g2
              exact Or.inl ⟨rfl, v6.resolve_left g, g2⟩
            · rw [if_neg g2]; exact Or.inr (by decide)
        have muT : ma_mu b nn d = ma_mu a nn d := ma_mu_c1 (fun e => bo 7 e (by omega) (by omega)) (fun e => bo 6 e (by omega) (by omega)) d (fun e h1 _ => b21' e (by omega))
        have eT : ∀ m, ma_T b nn m = ma_T a nn m := by
          intro m
          induction m with
          | zero => rfl
          | succ m ih =>
            show ma_sz b (nn - 1 - m) * (1 + ma_T b nn m) + 1 = ma_sz a (nn - 1 - m) * (1 + ma_T a nn m) + 1
            rw [ih]
            unfold ma_sz
            rw [bo 7 _ (by omega) (by omega), bo 6 _ (by omega) (by omega)]
        have muB : ma_mu b nn (d + 1) + (1 + ma_T a nn (nn - (d + 1))) ≤ ma_mu a nn (d + 1) := by
          show ma_mu b nn d + (if d < nn then ((b 7 d).toInt - (b 21 d).toInt).toNat * (1 + ma_T b nn (nn - (d + 1))) + 1 else 1) + _ ≤ _
          rw [if_pos hdn, mu0, muT, eT, bo 7 d (by omega) (by omega)]
          have hb1 : (b 21 d).toInt = (a 21 d).toInt + 1 := bptd
          rw [hb1]
          have hr : ((a 7 d).toInt - ((a 21 d).toInt + 1)).toNat + 1 = ((a 7 d).toInt - (a 21 d).toInt).toNat := by omega
          rw [← hr, Nat.add_mul, Nat.one_mul]
          omega
        rcases mb with ⟨m0, m1, m2⟩ | m0
        · rw [if_pos m0]
          obtain ⟨w1, w2, w3⟩ := v7 m1
          refine ma_srch hd h7 h8 n (d + 1) I b (by omega) ⟨⟨v1, bv2, v3⟩, fun e he => bsum e (by omega), blm, bpb, fun e he _ => bq e (by omega), v6, fun _ => ?_, fun Q hQ => ?_⟩
          · rw [b23]
            exact ⟨w1, w2, fun P hP => w3 P (back P hP)⟩
          · rw [b23]
            obtain ⟨P, q1, q2, q3⟩ := v8 Q hQ
            rcases q3 with q3 | q3
            · rcases split P q3 with q4 | q4
              · exact ⟨P, q1, q2, Or.inl q4⟩
              · have hc := costP P q1 q4
                have hl := w3 P q3
                refine ⟨ma_fb1 a, w1, ma_pq_t ?_ q2, Or.inr ⟨m1, fun _ _ => rfl⟩⟩
                by_cases g : ma_cost nn (ma_ci a0 8) (ma_fb1 a) = ma_cost nn (ma_ci a0 8) P
                · exact Or.inr ⟨g, Or.inr hl⟩
                · exact Or.inl (by omega)
            · exact ⟨P, q1, q2, Or.inr q3⟩
        · rw [if_neg m0]
          by_cases hlast : d + 1 = nn
          · -- all names are set
            have ho : w_open I b (d + 1) nr = b := by
              unfold w_open
              rw [hI7, if_neg (nI_nlt (by omega) (by omega))]
            rw [ho]
            have mu2 : ma_mu b nn (d + 1 + 1) = ma_mu b nn (d + 1) + 1 := by
              show ma_mu b nn (d + 1) + (if d + 1 < nn then _ else 1) = _
              rw [if_neg (by omega)]
            have hT1 := ma_T_p a nn (nn - (d + 1))
            have pend : ∀ P, ma_ct nn (d + 1 + 1) b P → ma_ct nn (d + 1) a P := by
              rintro P (⟨e, e1, e2, e3, e4⟩ | ⟨-, e2⟩)
              · exact back P (Or.inl ⟨e, by omega, e2, e3, e4⟩)
              · exact ctP P (fun i hi => e2 i (by omega))
            refine ma_srch hd h7 h8 n (d + 1 + 1) I b (by omega) ⟨⟨v1, bv2, by omega⟩, bsum, blm, fun e he hen => bpb e (by omega) hen, fun e he hen => bq e (by omega), v6, fun g => ?_, fun Q hQ => ?_⟩
            · obtain ⟨w1, w2, w3⟩ := v7 g
              rw [b23]
              exact ⟨w1, w2, fun P hP => w3 P (pend P hP)⟩
            · rw [b23]
              obtain ⟨P, q1, q2, q3⟩ := v8 Q hQ
              rcases q3 with q3 | q3
              · rcases split P q3 with q4 | q4
                · rcases q4 with ⟨e, e1, e2, e3, e4⟩ | ⟨e1, -⟩
                  · exact ⟨P, q1, q2, Or.inl (Or.inl ⟨e, by omega, e2, e3, e4⟩)⟩
                  · omega
                · exact ⟨P, q1, q2, Or.inl (Or.inr ⟨by omega, fun i hi => q4 i (by omega)⟩)⟩
              · exact ⟨P, q1, q2, Or.inr q3⟩
          · -- the next name is opened
            have hd1 : d + 1 < nn := by omega
            have cb : ∀ k, k ≠ 21 → k ≠ 22 → k ≠ 23 → (k < 69 ∨ 87 ≤ k) → b k = a0 k := fun k h1 h2 h3 h4 => funext (fun j => bv2 k j h1 h2 h3 h4)
            have hdb : ma_dat nn nr b := by
              have s6 : ma_sm6 a0 b := ⟨fun j => bv2 6 j (by omega) (by omega) (by omega) (by omega), fun j => bv2 7 j (by omega) (by omega) (by omega) (by omega), fun j => bv2 8 j (by omega) (by omega) (by omega) (by omega), fun j => bv2 9 j (by omega) (by omega) (by omega) (by omega), fun j => bv2 10 j (by omega) (by omega) (by omega) (by omega), fun j => bv2 12 j (by omega) (by omega) (by omega) (by omega), fun r hr j => bv2 (40 + r) j (by omega) (by omega) (by omega) (by omega)⟩
              exact ma_dat_c s6 hd
            have eW : ∀ ln, ma_rel nr ln → ∀ i, ma_W b ln i = ma_W a0 ln i := by
              intro ln hl i
              unfold ma_W
              by_cases g : ln = 8
              · rw [if_pos g, if_pos g, cb 8 (by omega) (by omega) (by omega) (by omega)]
              · have : ln < nr := by
                  rcases hl with w | w
                  · exact w
                  · exact absurd w g
                rw [if_neg g, if_neg g, cb (40 + ln) (by omega) (by omega) (by omega) (by omega)]
            have elm : ∀ ln, ma_rel nr ln → ma_lm b ln = ma_lm a0 ln ∧ ma_mm b ln = ma_mm a0 ln := by
              intro ln hl
              constructor <;> funext i
              · unfold ma_lm
                rw [eW ln hl, cb 6 (by omega) (by omega) (by omega) (by omega), cb 7 (by omega) (by omega) (by omega) (by omega)]
              · unfold ma_mm
                rw [eW ln hl, cb 6 (by omega) (by omega) (by omega) (by omega), cb 7 (by omega) (by omega) (by omega) (by omega)]
            have hx : ma_cx nn nr (d + 1) I b := by
              refine ⟨hdb, hd1, hI8, hI7, fun ln hl => ⟨?_, ?_, ?_⟩, v6, fun g => ?_⟩
              · rw [bsum (d + 1) (by omega) ln hl]
                have := ma_psum hd hl (show d + 1 ≤ nn by omega) (fun i hi => babs i hi)
                omega
              · rw [(elm ln hl).1]; exact (blm (d + 2) (by omega) ln hl).1
              · rw [(elm ln hl).2]; exact (blm (d + 2) (by omega) ln hl).2
              · obtain ⟨w1, w2, -⟩ := v7 g
                rw [w2]
                have : (ma_cost nn (ma_ci a0 8) (ma_fb1 a)).natAbs ≤ nn * 9900 := ma_sm_abs (fun i hi => ma_mb (hd.2.2.1 i hi).2.2.2 (by
                  have := w1.1 i hi
                  have t1 : (a0 6 i).toInt ≤ (a 23 i).toInt := this.1
                  have t2 : (a 23 i).toInt ≤ (a0 7 i).toInt := this.2
                  have := hd.2.2.1 i hi
                  show ((a 23 i).toInt).natAbs ≤ 100
                  omega))
                omega
            obtain ⟨o1, o2, o3, o4, o5⟩ := ma_open hx
            generalize w_open I b (d + 1) nr = c at *
            have cc : ∀ K j, ¬ ((K = 21 ∨ K = 22) ∧ j = d + 1) → c K j = b K j := o1
            have cpt : ∀ i, i < d + 1 → ma_pt1 c i = ma_pt1 b i := fun i hi => by show (c 21 i).toInt = (b 21 i).toInt; rw [cc 21 i (by omega)]
            have c23 : ma_fb1 c = ma_fb1 a := by
              rw [← b23]
              exact funext (fun i => by show (c 23 i).toInt = (b 23 i).toInt; rw [cc 23 i (by omega)])
            have muC : ma_mu c nn (d + 1 + 1) ≤ ma_mu b nn (d + 1) + ma_T a nn (nn - (d + 1)) := by
              show ma_mu c nn (d + 1) + (if d + 1 < nn then ((c 7 (d + 1)).toInt - (c 21 (d + 1)).toInt).toNat * (1 + ma_T c nn (nn - (d + 1 + 1))) + 1 else 1) ≤ _
              rw [if_pos hd1, ma_mu_c1 (a := b) (fun e => cc 7 e (by omega)) (fun e => cc 6 e (by omega)) (d + 1) (fun e h1 _ => cc 21 e (by omega))]
              have eTc : ∀ m, ma_T c nn m = ma_T a nn m := by
                intro m
                rw [← eT m]
                induction m with
                | zero => rfl
                | succ m ih =>
                  show ma_sz c (nn - 1 - m) * (1 + ma_T c nn m) + 1 = ma_sz b (nn - 1 - m) * (1 + ma_T b nn m) + 1
                  rw [ih]
                  unfold ma_sz
                  rw [cc 7 _ (by omega), cc 6 _ (by omega)]
              rw [eTc, ma_T_s a nn (d + 1) hd1]
              have hle : ((c 7 (d + 1)).toInt - (c 21 (d + 1)).toInt).toNat ≤ ma_sz a (d + 1) := by
                unfold ma_sz
                have q1 := o2.1
                rw [cc 6 (d + 1) (by omega), bo 6 _ (by omega) (by omega)] at q1
                rw [cc 7 (d + 1) (by omega), bo 7 _ (by omega) (by omega)]
                omega
              have := Nat.mul_le_mul_right (1 + ma_T a nn (nn - (d + 1 + 1))) hle
              omega
            -- a row of the problem, for a point below this number
            have rowT : ∀ P, ma_WC nn nr a0 P → (∀ i, i < d + 1 → P i = ma_pt1 b i) → ∀ r, r < nr → b 12 r ≠ 0 → ma_rc nn b (d + 1) r (P (d + 1)) := by
              intro P hW hP r hr hR
              have hl : ma_rel nr r := Or.inl hr
              have hrow := hW.2 r hr (by show a0 12 r ≠ 0; rw [← bv2 12 r (by omega) (by omega) (by omega) (by omega)]; exact hR)
              have t2 := bsum (d + 1) (by omega) r hl
              have t3 : ma_sm (fun i => ma_W a0 r i * ma_pt1 b i) (d + 1) = ma_sm (fun i => ma_W a0 r i * P i) (d + 1) := ma_sm_congr (fun i hi => by rw [hP i hi])
              have t1 := ma_tl_W hd (ln := r) (show d + 1 + 1 ≤ nn by omega) hW.1
              have tw : ∀ i, ma_W a0 r i = (a0 (40 + r) i).toInt := fun i => if_neg (by omega)
              have t5 : ma_sm (fun i => ma_fa a0 r i * P i) nn = ma_sm (fun i => ma_W a0 r i * P i) nn := ma_sm_congr (fun i hi => by rw [tw i])
              have t6 : ma_sm (fun i => ma_W a0 r i * P i) (d + 1 + 1) = ma_sm (fun i => ma_W a0 r i * P i) (d + 1) + (a0 (40 + r) (d + 1)).toInt * P (d + 1) := by
                show ma_sm (fun i => ma_W a0 r i * P i) (d + 1) + ma_W a0 r (d + 1) * P (d + 1) = _
                rw [tw]
              unfold ma_rc
              rw [(elm r hl).1, (elm r hl).2, t2, t3, bv2 9 r (by omega) (by omega) (by omega) (by omega), bv2 10 r (by omega) (by omega) (by omega) (by omega), bv2 (40 + r) (d + 1) (by omega) (by omega) (by omega) (by omega)]
              unfold ma_tl at t1 ⊢
              refine ⟨fun g => ?_, fun g => ?_⟩
              · have h1 : ma_sm (fun i => ma_fa a0 r i * P i) nn ≤ (a0 10 r).toInt := hrow.1 g
                omega
              · have h1 : (a0 10 r).toInt ≤ ma_sm (fun i => ma_fa a0 r i * P i) nn := hrow.2 g
                rw [Int.neg_mul]
                omega
            -- the condition at the last name is exact
            have exact1 : ∀ P, ma_WC nn nr a0 P → (∀ i, i < d + 1 → P i = ma_pt1 b i) → d + 1 + 1 = nn → ∀ v', ma_cd nn nr I b (d + 1) v' → ma_WC nn nr a0 (fun i => if i = d + 1 then v' else P i) := by
              intro P hW hP hn v' hv
              obtain ⟨hv1, hv2, -⟩ := hv
              refine ⟨fun i hi => ?_, fun r hr hR => ?_⟩
              · show (a0 6 i).toInt ≤ (if i = d + 1 then v' else P i) ∧ (if i = d + 1 then v' else P i) ≤ (a0 7 i).toInt
                by_cases g : i = d + 1
                · rw [if_pos g, g, ← bv2 6 (d + 1) (by omega) (by omega) (by omega) (by omega), ← bv2 7 (d + 1) (by omega) (by omega) (by omega) (by omega)]
                  exact hv1
                · rw [if_neg g]; exact hW.1 i hi
              · have hl : ma_rel nr r := Or.inl hr
                have hc := hv2 r hr (by rw [bv2 12 r (by omega) (by omega) (by omega) (by omega)]; exact hR)
                have t2 := bsum (d + 1) (by omega) r hl
                have tw : ∀ i, ma_W a0 r i = (a0 (40 + r) i).toInt := fun i => if_neg (by omega)
                have t3 : ma_sm (fun i => ma_W a0 r i * ma_pt1 b i) (d + 1) = ma_sm (fun i => ma_fa a0 r i * (if i = d + 1 then v' else P i)) (d + 1) := ma_sm_congr (fun i hi => by rw [if_neg (by omega), hP i hi, tw i])
                have t6 : ma_sm (fun i => ma_fa a0 r i * (if i = d + 1 then v' else P i)) nn = ma_sm (fun i => ma_fa a0 r i * (if i = d + 1 then v' else P i)) (d + 1) + (a0 (40 + r) (d + 1)).toInt * v' := by
                  rw [← hn]
                  show ma_sm (fun i => ma_fa a0 r i * (if i = d + 1 then v' else P i)) (d + 1) + ma_fa a0 r (d + 1) * (if d + 1 = d + 1 then v' else P (d + 1)) = _
                  rw [if_pos rfl]
                unfold ma_rc at hc
                rw [(elm r hl).1, (elm r hl).2, t2, t3, bv2 9 r (by omega) (by omega) (by omega) (by omega), bv2 10 r (by omega) (by omega) (by omega) (by omega), bv2 (40 + r) (d + 1) (by omega) (by omega) (by omega) (by omega), hn] at hc
                unfold ma_tl at hc
                refine ⟨fun g => ?_, fun g => ?_⟩
                · have h1 := hc.1 g
                  show ma_sm (fun i => ma_fa a0 r i * (if i = d + 1 then v' else P i)) nn ≤ (a0 10 r).toInt
                  omega
                · have h1 := hc.2 g
                  rw [Int.neg_mul] at h1
                  show (a0 10 r).toInt ≤ ma_sm (fun i => ma_fa a0 r i * (if i = d + 1 then v' else P i)) nn
                  omega
            have ctC : ∀ P, (∀ i, i < d + 1 → P i = ma_pt1 b i) → ma_Rg c (d + 1) (P (d + 1)) → ma_ct nn (d + 1 + 1) c P := fun P hP hR => Or.inl ⟨d + 1, by omega, hd1, fun i hi => by rw [cpt i hi]; exact hP i hi, hR⟩
            have upC : ∀ P, ma_ct nn (d + 1) b P → ma_ct nn (d + 1 + 1) c P := by
              rintro P (⟨e, e1, e2, e3, e4⟩ | ⟨e1, -⟩)
              · refine Or.inl ⟨e, by omega, e2, fun i hi => by rw [cpt i (by omega)]; exact e3 i hi, ?_⟩
                unfold ma_Rg at e4 ⊢
                rw [cc 21 e (by omega), cc 22 e (by omega)]
                exact e4
              · omega
            have dnC : ∀ P, ma_ct nn (d + 1 + 1) c P → ma_ct nn (d + 1) a P := by
              rintro P (⟨e, e1, e2, e3, e4⟩ | ⟨e1, -⟩)
              · by_cases g : e = d + 1
                · subst g
                  exact ctP P (fun i hi => by rw [← cpt i hi]; exact e3 i hi)
                · refine back P (Or.inl ⟨e, by omega, e2, fun i hi => by rw [← cpt i (by omega)]; exact e3 i hi, ?_⟩)
                  unfold ma_Rg at e4 ⊢
                  rw [cc 21 e (by omega), cc 22 e (by omega)] at e4
                  exact e4
              · omega
            refine ma_srch hd h7 h8 n (d + 1 + 1) I c (by omega) ⟨⟨v1, fun k j q1 q2 q3 q4 => by rw [cc k j (by omega)]; exact bv2 k j q1 q2 q3 q4, by omega⟩, fun e he ln hl => ?_, fun e he ln hl => ?_, fun e he hen => ?_, fun e he hen => ?_, v6, fun g => ?_, fun Q hQ => ?_⟩
            · rw [cc (69 + e) ln (by omega), bsum e (by omega) ln hl]
              exact ma_sm_congr (fun i hi => by rw [cpt i (by omega)])
            · rw [cc (75 + e) ln (by omega), cc (81 + e) ln (by omega)]
              exact blm e he ln hl
            · by_cases g : e = d + 1
              · rw [g]; exact o2
              · have := bpb e (by omega) hen
                unfold ma_pb at this ⊢
                rw [cc 6 e (by omega), cc 7 e (by omega), cc 21 e (by omega), cc 22 e (by omega)]
                exact this
            · rw [cpt e (by omega)]
              exact bq e (by omega)
            · obtain ⟨w1, w2, w3⟩ := v7 g
              rw [c23]
              exact ⟨w1, w2, fun P hP => w3 P (dnC P hP)⟩
            · rw [c23]
              obtain ⟨P, q1, q2, q3⟩ := v8 Q hQ
              rcases q3 with q3 | q3
              · rcases split P q3 with q4 | q4
                · exact ⟨P, q1, q2, Or.inl (upC P q4)⟩
                · have box : (b 6 (d + 1)).toInt ≤ P (d + 1) ∧ P (d + 1) ≤ (b 7 (d + 1)).toInt := by
                    rw [bv2 6 (d + 1) (by omega) (by omega) (by omega) (by omega), bv2 7 (d + 1) (by omega) (by omega) (by omega) (by omega)]
                    exact q1.1 (d + 1) hd1
                  have rows := rowT P q1 q4
                  by_cases hcost : I 3 8 = 1 → (b 8 (d + 1)).toInt * P (d + 1) ≤ (I 3 7).toInt - 1 - (b (69 + (d + 1)) 8).toInt - ma_tl (ma_lm b 8) nn (d + 1 + 1)
                  · have hcd : ma_cd nn nr I b (d + 1) (P (d + 1)) := ⟨box, rows, hcost⟩
                    by_cases hl : d + 1 + 1 = nn
                    · obtain ⟨v', r1, r2⟩ := o5 hl (P (d + 1)) hcd
                      have hW' := exact1 P q1 q4 hl v' (o3 v' r1)
                      refine ⟨fun i => if i = d + 1 then v' else P i, hW', ma_pq_t ?_ q2, Or.inl (ctC _ (fun i hi => by show (if i = d + 1 then v' else P i) = _; rw [if_neg (by omega)]; exact q4 i hi) (by show ma_Rg c (d + 1) (if d + 1 = d + 1 then v' else P (d + 1)); rw [if_pos rfl]; exact r1))⟩
                      have ec : ∀ X : Nat → Int, ma_cost nn (ma_ci a0 8) X = ma_sm (fun i => ma_ci a0 8 i * X i) (d + 1) + (a0 8 (d + 1)).toInt * X (d + 1) := fun X => by
                        unfold ma_cost
                        rw [← hl]
                        rfl
                      have e1 : ma_sm (fun i => ma_ci a0 8 i * (if i = d + 1 then v' else P i)) (d + 1) = ma_sm (fun i => ma_ci a0 8 i * P i) (d + 1) := ma_sm_congr (fun i hi => by rw [if_neg (by omega)])
                      rw [bv2 8 (d + 1) (by omega) (by omega) (by omega) (by omega)] at r2
                      unfold ma_pq
                      rw [ec, ec P]
                      show ma_sm (fun i => ma_ci a0 8 i * (if i = d + 1 then v' else P i)) (d + 1) + (a0 8 (d + 1)).toInt * (if d + 1 = d + 1 then v' else P (d + 1)) < _ ∨ (ma_sm (fun i => ma_ci a0 8 i * (if i = d + 1 then v' else P i)) (d + 1) + (a0 8 (d + 1)).toInt * (if d + 1 = d + 1 then v' else P (d + 1)) = _ ∧ _)
                      rw [if_pos rfl, e1]
                      rcases r2 with r2 | ⟨r2, r3⟩
                      · exact Or.inl (by omega)
                      · refine Or.inr ⟨by omega, ?_⟩
                        by_cases g : v' = P (d + 1)
                        · refine Or.inl (fun i hi => ?_)
                          show (if i = d + 1 then v' else P i) = P i
                          by_cases g2 : i = d + 1
                          · rw [if_pos g2, g2]; exact g
                          · rw [if_neg g2]
                        · refine Or.inr ⟨d + 1, hd1, fun j hj => ?_, ?_⟩
                          · show (if j = d + 1 then v' else P j) = P j
                            rw [if_neg (by omega)]
                          · show (if d + 1 = d + 1 then v' else P (d + 1)) < P (d + 1)
                            rw [if_pos rfl]
                            omega
                    · exact ⟨P, q1, q2, Or.inl (ctC P q4 (o4 hl _ hcd))⟩
                  · -- too dear
                    have hf : I 3 8 = 1 := Classical.byContradiction (fun g => hcost (fun w => absurd w g))
                    have hno : ¬ (b 8 (d + 1)).toInt * P (d + 1) ≤ (I 3 7).toInt - 1 - (b (69 + (d + 1)) 8).toInt - ma_tl (ma_lm b 8) nn (d + 1 + 1) := fun w => hcost (fun _ => w)
                    obtain ⟨w1, w2, w3⟩ := v7 hf
                    refine ⟨ma_fb1 a, w1, ma_pq_t ?_ q2, Or.inr ⟨hf, fun _ _ => rfl⟩⟩
                    have hl8 : ma_rel nr 8 := Or.inr rfl
                    rw [(elm 8 hl8).1, bv2 8 (d + 1) (by omega) (by omega) (by omega) (by omega), bsum (d + 1) (by omega) 8 hl8] at hno
                    have t1 := (ma_tl_W hd (ln := 8) (show d + 1 + 1 ≤ nn by omega) q1.1).1
                    have tw : ∀ i, ma_W a0 8 i = (a0 8 i).toInt := fun i => if_pos rfl
                    have t3 : ma_sm (fun i => ma_W a0 8 i * ma_pt1 b i) (d + 1) = ma_sm (fun i => ma_W a0 8 i * P i) (d + 1) := ma_sm_congr (fun i hi => by rw [q4 i hi])
                    have t4 : ma_cost nn (ma_ci a0 8) P = ma_sm (fun i => ma_W a0 8 i * P i) nn := ma_sm_congr (fun i hi => by rw [tw i])
                    have t6 : ma_sm (fun i => ma_W a0 8 i * P i) (d + 1 + 1) = ma_sm (fun i => ma_W a0 8 i * P i) (d + 1) + (a0 8 (d + 1)).toInt * P (d + 1) := by
                      show ma_sm (fun i => ma_W a0 8 i * P i) (d + 1) + ma_W a0 8 (d + 1) * P (d + 1) = _
                      rw [tw]
                    unfold ma_tl at t1 hno
                    have hge : ma_cost nn (ma_ci a0 8) (ma_fb1 a) ≤ ma_cost nn (ma_ci a0 8) P := by omega
                    by_cases g : ma_cost nn (ma_ci a0 8) (ma_fb1 a) = ma_cost nn (ma_ci a0 8) P
                    · exact Or.inr ⟨g, Or.inr (w3 P q3)⟩
                    · exact Or.inl (by omega)
              · exact ⟨P, q1, q2, Or.inr q3⟩
      · rw [if_neg hlt]
        rw [Int32.lt_iff_toInt_lt] at hlt
        have drop : ∀ P, ma_ct nn (d + 1) a P → ma_ct nn d a P := by
          rintro P (⟨e, e1, e2, e3, e4⟩ | ⟨e1, -⟩)
          · by_cases g : e = d
            · subst g
              unfold ma_Rg at e4
              omega
            · exact Or.inl ⟨e, by omega, e2, e3, e4⟩
          · omega
        have up : ∀ P, ma_ct nn d a P → ma_ct nn (d + 1) a P := by
          rintro P (⟨e, e1, e2, e3, e4⟩ | ⟨e1, -⟩)
          · exact Or.inl ⟨e, by omega, e2, e3, e4⟩
          · omega
        refine ma_srch hd h7 h8 n d I a (by omega) ⟨⟨v1, v2, by omega⟩, fun e he => v4 e (by omega), v5, fun e he => vp e (by omega), fun e he => vq e (by omega), v6, fun g => ?_, fun Q hQ => ?_⟩
        · obtain ⟨w1, w2, w3⟩ := v7 g
          exact ⟨w1, w2, fun P hP => w3 P (up P hP)⟩
        · obtain ⟨P, q1, q2, q3⟩ := v8 Q hQ
          rcases q3 with q3 | q3
          · exact ⟨P, q1, q2, Or.inl (drop P q3)⟩
          · exact ⟨P, q1, q2, Or.inr q3⟩
    · have hdm : d = nn := by omega
      subst hdm
      rw [eqn, hI7, if_neg (nI_nlt (Nat.le_refl _) (by omega))]
      rw [if_neg hdn] at mu0
      have hbx : ∀ i, i < d → (a0 6 i).toInt ≤ ma_pt1 a i ∧ ma_pt1 a i ≤ (a0 7 i).toInt := fun i hi => vq i (by omega) hi
      have habs : ∀ i, i < d → (ma_pt1 a i).natAbs ≤ 100 := fun i hi => by
        have := hbx i hi
        have := hd.2.2.1 i hi
        omega
      obtain ⟨k0, k1⟩ := ma_wkp (I := I) hd hI8 v2 (P := ma_pt1 a) habs (fun r hr => v4 d (by omega) r (Or.inl hr)) nr 0 (by omega)
      have hwf : w_kp I a d nr 0 = 1 ↔ ma_WC d nr a0 (ma_pt1 a) := by
        rw [k1]
        have tw : ∀ r, r < nr → ∀ i, ma_W a0 r i = ma_fa a0 r i := fun r hr i => if_neg (by omega)
        constructor
        · intro h
          refine ⟨hbx, fun r hr hR => ?_⟩
          have := h r (by omega) (by omega) hR
          have es : ma_sm (fun i => ma_fa a0 r i * ma_pt1 a i) d = ma_sm (fun i => ma_W a0 r i * ma_pt1 a i) d := ma_sm_congr (fun i _ => by rw [tw r hr i])
          rw [es]
          exact this
        · intro h r _ hr hR
          have hr : r < nr := by omega
          have := h.2 r hr hR
          have es : ma_sm (fun i => ma_fa a0 r i * ma_pt1 a i) d = ma_sm (fun i => ma_W a0 r i * ma_pt1 a i) d := ma_sm_congr (fun i _ => by rw [tw r hr i])
          rw [es] at this
          exact this
      have s8 := v4 d (by omega) 8 (Or.inr rfl)
      have ec : (a (69 + d) 8).toInt = ma_cost d (ma_ci a0 8) (ma_pt1 a) := by
        rw [s8]
        exact ma_sm_congr (fun i _ => by show (if 8 = 8 then (a0 8 i).toInt else _) * _ = _; rw [if_pos rfl])
      have l8 : (a (75 + d) 8).toInt = 0 := by
        rw [(v5 d (Nat.le_refl _) 8 (Or.inr rfl)).1]
        unfold ma_tl
        omega
      have s8b := ma_psum hd (Or.inr rfl : ma_rel nr 8) (Nat.le_refl d) (fun i hi => habs i hi)
      have mb : (w_mbc I a d = 0 ∧ I 3 8 = 1 ∧ (I 3 7).toInt ≤ ma_cost d (ma_ci a0 8) (ma_pt1 a)) ∨ (¬ w_mbc I a d = 0 ∧ (I 3 8 = 1 → ma_cost d (ma_ci a0 8) (ma_pt1 a) < (I 3 7).toInt)) := by
        unfold w_mbc
        by_cases g : I 3 8 = 0
        · rw [if_pos g]; exact Or.inr ⟨by decide, fun w => by rw [g] at w; exact absurd w (by decide)⟩
        · rw [if_neg g]
          have es : (a (69 + d) 8 + a (75 + d) 8).toInt = ma_cost d (ma_ci a0 8) (ma_pt1 a) + 0 := ma_add3 ec l8 (by rw [← ec, s8]; omega)
          by_cases g2 : I 3 7 ≤ a (69 + d) 8 + a (75 + d) 8
          · rw [if_pos g2]
            rw [Int32.le_iff_toInt_le, es] at g2
            exact Or.inl ⟨rfl, v6.resolve_left g, by omega⟩
          · rw [if_neg g2]
            rw [Int32.le_iff_toInt_le, es] at g2
            exact Or.inr ⟨by decide, fun _ => by omega⟩
      have drop : ∀ P, ma_ct d (d + 1) a P → ma_ct d d a P ∨ ∀ i, i < d → P i = ma_pt1 a i := by
        rintro P (⟨e, e1, e2, e3, e4⟩ | ⟨-, e2⟩)
        · exact Or.inl (Or.inl ⟨e, e2, e2, e3, e4⟩)
        · exact Or.inr e2
      have up : ∀ P, ma_ct d d a P → ma_ct d (d + 1) a P := by
        rintro P (⟨e, e1, e2, e3, e4⟩ | ⟨e1, -⟩)
        · exact Or.inl ⟨e, by omega, e2, e3, e4⟩
        · omega
      have ctp : ma_ct d (d + 1) a (ma_pt1 a) := Or.inr ⟨rfl, fun _ _ => rfl⟩
      have ltp : ∀ P, ma_ct d d a P → ma_lt d (ma_pt1 a) P := by
        rintro P (⟨e, e1, e2, e3, e4⟩ | ⟨e1, -⟩)
        · exact ⟨e, e2, fun j hj => (e3 j hj).symm, e4.1⟩
        · omega
      have stay : (w_tpI I a d nr = I ∧ w_tpA I a d nr = a) → (∀ P, ma_WC d nr a0 P → (∀ i, i < d → P i = ma_pt1 a i) → I 3 8 = 1 ∧ ma_pq d (ma_ci a0 8) (ma_fb1 a) P) → ma_SE d nr I0 a0 (w_srch d nr n (d, w_tpI I a d nr, w_tpA I a d nr)).2.1 (w_srch d nr n (d, w_tpI I a d nr, w_tpA I a d nr)).2.2 := by
        rintro ⟨e1, e2⟩ hst
        rw [e1, e2]
        refine ma_srch hd h7 h8 n d I a (by omega) ⟨⟨v1, v2, by omega⟩, fun e he => v4 e (by omega), v5, fun e he => vp e (by omega), fun e he => vq e (by omega), v6, fun g => ?_, fun Q hQ => ?_⟩
        · obtain ⟨w1, w2, w3⟩ := v7 g
          exact ⟨w1, w2, fun P hP => w3 P (up P hP)⟩
        · obtain ⟨P, q1, q2, q3⟩ := v8 Q hQ
          rcases q3 with q3 | q3
          · rcases drop P q3 with q4 | q4
            · exact ⟨P, q1, q2, Or.inl q4⟩
            · obtain ⟨g1, g2⟩ := hst P q1 q4
              exact ⟨ma_fb1 a, (v7 g1).1, ma_pq_t g2 q2, Or.inr ⟨g1, fun _ _ => rfl⟩⟩
          · exact ⟨P, q1, q2, Or.inr q3⟩
      by_cases hk : w_kp I a d nr 0 = 0
      · refine stay ⟨by unfold w_tpI; rw [if_pos hk], by unfold w_tpA; rw [if_pos hk]⟩ (fun P hP he => ?_)
        exfalso
        have hWp : ma_WC d nr a0 (ma_pt1 a) := by
          refine ⟨hbx, fun r hr hR => ?_⟩
          have es : ma_sm (fun i => ma_fa a0 r i * ma_pt1 a i) d = ma_sm (fun i => ma_fa a0 r i * P i) d := ma_sm_congr (fun i hi => by rw [he i hi])
          rw [es]
          exact hP.2 r hr hR
        have := hwf.mpr hWp
        rw [hk] at this
        exact absurd this (by decide)
      · have hW := hwf.mp (k0.resolve_left hk)
        rcases mb with ⟨m0, m1, m2⟩ | ⟨m0, m1⟩
        · refine stay ⟨by unfold w_tpI; rw [if_neg hk, if_pos m0], by unfold w_tpA; rw [if_neg hk, if_pos m0]⟩ (fun P hP he => ⟨m1, ?_⟩)
          obtain ⟨w1, w2, w3⟩ := v7 m1
          have hc : ma_cost d (ma_ci a0 8) P = ma_cost d (ma_ci a0 8) (ma_pt1 a) := ma_cost_e he
          have hl := w3 _ ctp
          by_cases g : ma_cost d (ma_ci a0 8) (ma_fb1 a) = ma_cost d (ma_ci a0 8) P
          · exact Or.inr ⟨g, Or.inr (ma_lt_e2 hl (fun i hi => (he i hi).symm))⟩
          · exact Or.inl (by omega)
        · have eI : w_tpI I a d nr = gU (gU I 3 8 1) 3 7 (a (69 + d) 8) := by unfold w_tpI; rw [if_neg hk, if_neg m0]
          have eA : w_tpA I a d nr = w_cp a d := by unfold w_tpA; rw [if_neg hk, if_neg m0]
          rw [eI, eA]
          have co : ∀ K j, ¬ (K = 23 ∧ j < d) → w_cp a d K j = a K j := fun K j h => by rw [ma_wcp, if_neg h]
          have c23 : ∀ i, i < d → ma_fb1 (w_cp a d) i = ma_pt1 a i := fun i hi => by show (w_cp a d 23 i).toInt = _; rw [ma_wcp, if_pos ⟨rfl, hi⟩]
          have cpt : ma_pt1 (w_cp a d) = ma_pt1 a := funext (fun i => by show (w_cp a d 21 i).toInt = _; rw [co 21 i (by omega)])
          have eRg : ∀ e v, ma_Rg (w_cp a d) e v ↔ ma_Rg a e v := fun e v => by unfold ma_Rg; rw [co 21 e (by omega), co 22 e (by omega)]
          have ect : ∀ P, ma_ct d d (w_cp a d) P ↔ ma_ct d d a P := by
            intro P
            unfold ma_ct
            rw [cpt]
            constructor
            · rintro (⟨e, e1, e2, e3, e4⟩ | w)
              · exact Or.inl ⟨e, e1, e2, e3, (eRg e _).mp e4⟩
              · exact Or.inr w
            · rintro (⟨e, e1, e2, e3, e4⟩ | w)
              · exact Or.inl ⟨e, e1, e2, e3, (eRg e _).mpr e4⟩
              · exact Or.inr w
          have i38 : gU (gU I 3 8 1) 3 7 (a (69 + d) 8) 3 8 = 1 := by rw [gU_n (by omega), gU_s]
          have i37 : gU (gU I 3 8 1) 3 7 (a (69 + d) 8) 3 7 = a (69 + d) 8 := gU_s
          have hWb : ma_WC d nr a0 (ma_fb1 (w_cp a d)) := by
            refine ⟨fun i hi => by rw [c23 i hi]; exact hW.1 i hi, fun r hr hR => ?_⟩
            have es : ma_sm (fun i => ma_fa a0 r i * ma_fb1 (w_cp a d) i) d = ma_sm (fun i => ma_fa a0 r i * ma_pt1 a i) d := ma_sm_congr (fun i hi => by rw [c23 i hi])
            rw [es]
            exact hW.2 r hr hR
          have hcb : ma_cost d (ma_ci a0 8) (ma_fb1 (w_cp a d)) = ma_cost d (ma_ci a0 8) (ma_pt1 a) := ma_cost_e c23
          have muE : ma_mu (w_cp a d) d d = ma_mu a d d := ma_mu_c1 (fun e => co 7 e (by omega)) (fun e => co 6 e (by omega)) d (fun e _ _ => co 21 e (by omega))
          refine ma_srch hd h7 h8 n d _ (w_cp a d) (by rw [muE]; omega) ⟨⟨fun k j h => by rw [gU_n (by omega), gU_n (by omega)]; exact v1 k j h, fun k j q1 q2 q3 q4 => by rw [co k j (by omega)]; exact v2 k j q1 q2 q3 q4, by omega⟩, fun e he ln hl => ?_, fun e he ln hl => ?_, fun e he hen => ?_, fun e he hen => ?_, Or.inr i38, fun _ => ⟨hWb, ?_, fun P hP => ?_⟩, fun Q hQ => ?_⟩
          · rw [co (69 + e) ln (by omega), cpt]
            exact v4 e (by omega) ln hl
          · rw [co (75 + e) ln (by omega), co (81 + e) ln (by omega)]
            exact v5 e he ln hl
          · have := vp e (by omega) hen
            unfold ma_pb at this ⊢
            rw [co 6 e (by omega), co 7 e (by omega), co 21 e (by omega), co 22 e (by omega)]
            exact this
          · rw [cpt]
            exact vq e (by omega) hen
          · rw [i37, hcb]; exact ec
          · exact ma_lt_e c23 (ltp P ((ect P).mp hP))
          · obtain ⟨P, q1, q2, q3⟩ := v8 Q hQ
            have toB : ma_pq d (ma_ci a0 8) (ma_fb1 (w_cp a d)) P → ∃ P, ma_WC d nr a0 P ∧ ma_pq d (ma_ci a0 8) P Q ∧ (ma_ct d d (w_cp a d) P ∨ (gU (gU I 3 8 1) 3 7 (a (69 + d) 8) 3 8 = 1 ∧ ∀ i, i < d → P i = ma_fb1 (w_cp a d) i)) := fun w => ⟨_, hWb, ma_pq_t w q2, Or.inr ⟨i38, fun _ _ => rfl⟩⟩
            rcases q3 with q3 | ⟨q3, q4⟩
            · rcases drop P q3 with q4 | q4
              · exact ⟨P, q1, q2, Or.inl ((ect P).mpr q4)⟩
              · exact toB (Or.inr ⟨hcb.trans (ma_cost_e (fun i hi => (q4 i hi).symm)), Or.inl (fun i hi => (c23 i hi).trans (q4 i hi).symm)⟩)
            · refine toB (Or.inl ?_)
              have := m1 q3
              rw [(v7 q3).2.1] at this
              rw [hcb, ma_cost_e q4]
              exact this
