/-! THE MATHEMATICS, 7: what the class's dictionary keeps -/
def ma_Oa (a : gF) : Nat → Nat := fun s => (a 16 s).toNatClampNeg
def ma_Ba (a : gF) : Nat → Nat := fun r => (a 15 r).toNatClampNeg
abbrev ma_oo (nc : Nat) (V : Nat → Nat → Int) (a : gF) : Nat → Nat → Int := ma_o nc V (ma_Oa a)
def ma_DI (nc nl : Nat) (V : Nat → Nat → Int) (J : gL) (a : gF) (b : gL) : Prop :=
  (nc ≤ 5 ∧ nl ≤ 21 ∧ ∀ j, j < nc + nl → ma_bd (V j)) ∧ (ma_sp (ma_oo nc V a) ∧ ma_D 6 (ma_oo nc V a) ≠ 0) ∧ (J 4 6).toInt = ma_u (ma_oo nc V a) ∧
  (∀ s, s < nc → a 16 s = nI (ma_Oa a s) ∧ ma_Oa a s < nc + nl) ∧ (∀ r, r < nl → a 15 r = nI (ma_Ba a r) ∧ ma_Ba a r < nc + nl) ∧
  (∀ r, r < nl → ∀ s, s < nc → (b (48 + r) s).toInt = - ma_k (ma_oo nc V a) s (V (ma_Ba a r))) ∧ (∀ r, r < nl → (b 14 r).toInt = ma_k (ma_oo nc V a) 5 (V (ma_Ba a r))) ∧
  (∀ j, j < nc + nl → (∃ s, s < nc ∧ ma_Oa a s = j) ∨ (∃ r, r < nl ∧ ma_Ba a r = j)) ∧ (∀ r s, r < nl → s < nc → ma_Ba a r ≠ ma_Oa a s) ∧ (∀ r r', r < nl → r' < nl → ma_Ba a r = ma_Ba a r' → r = r')
theorem ma_oo_bd {nc nl : Nat} {V : Nat → Nat → Int} {J : gL} {a : gF} {b : gL} (D : ma_DI nc nl V J a b) : ∀ i, i < 6 → ma_bd (ma_oo nc V a i) := by
  intro i hi
  by_cases e : i < nc
  · rw [ma_oo, ma_o_in e]
    exact D.1.2.2 _ (D.2.2.2.1 i e).2
  · rw [ma_oo, ma_o_out (by omega)]
    exact ma_bd_e
theorem ma_oo_5 {nc : Nat} {V : Nat → Nat → Int} {a : gF} (h : nc ≤ 5) : ma_oo nc V a 5 = ma_e 5 := ma_o_out h
theorem ma_t_neg {p : Int} (h : p ≠ 0) : ma_t (-p) = - ma_t p := by
  unfold ma_t
  split <;> split <;> omega
theorem ma_DI_LP {nc nl : Nat} {V : Nat → Nat → Int} {J : gL} {a : gF} {b : gL} (D : ma_DI nc nl V J a b) : ma_LP (ma_u (ma_oo nc V a)) (ma_k (ma_oo nc V a)) (ma_oo nc V a) := ma_LP_of D.2.1.1 D.2.1.2
theorem ma_DI_piv {nc nl : Nat} {V : Nat → Nat → Int} {J : gL} {a : gF} {b : gL} (D : ma_DI nc nl V J a b) {r s : Nat} (hr : r < nl) (hs : s < nc) (hp : ma_k (ma_oo nc V a) s (V (ma_Ba a r)) ≠ 0) :
    ma_DI nc nl V (d_pJ J b r s) (d_pA J a b r s) (d_pB J b nl nc r s) ∧ ma_oo nc V (d_pA J a b r s) = ma_rw (ma_oo nc V a) s (V (ma_Ba a r)) ∧ ma_Oa (d_pA J a b r s) = (fun s' => if s' = s then ma_Ba a r else ma_Oa a s') ∧ (∀ k j, k ≠ 15 → k ≠ 16 → d_pA J a b r s k j = a k j) ∧ (∀ k j, k ≠ 14 → (k < 48 ∨ 69 ≤ k) → d_pB J b nl nc r s k j = b k j) ∧ (∀ k j, ¬ (k = 4 ∧ j = 6) → d_pJ J b r s k j = J k j) := by
  have Lp := ma_DI_LP D
  have obd := ma_oo_bd D
  obtain ⟨⟨n1, n2, n3⟩, ⟨sp, d0⟩, du, dO, dB, dt, dr, dc, dd, di⟩ := D
  have o5 : ma_oo nc V a 5 = ma_e 5 := ma_oo_5 n1
  have hBr := dB r hr
  have hP : (b (48 + r) s).toInt = - ma_k (ma_oo nc V a) s (V (ma_Ba a r)) := dt r hr s hs
  have hP0 : - ma_k (ma_oo nc V a) s (V (ma_Ba a r)) ≠ 0 := by omega
  have hp0 : b (48 + r) s ≠ 0 := fun q => hP0 (by rw [← hP]; exact ma_e0.mp q)
  have hUs : (ma_u (ma_oo nc V a)).natAbs ≤ 7085880 := ma_u_small o5 obd
  have hU0 := ma_u_pos d0
  have hd0 : d_dv J b r s ≠ 0 := by
    unfold d_dv
    intro q
    split at q
    · have := ma_e0.mp q
      omega
    · have h3 := ma_e0.mp q
      rw [ma_neg du (by omega)] at h3
      omega
  have eA : d_pA J a b r s = gU (gU a 15 r (a 16 s)) 16 s (a 15 r) := by
    unfold d_pA
    rw [if_neg hp0, if_neg hd0]
  have eO : ma_Oa (d_pA J a b r s) = (fun s' => if s' = s then ma_Ba a r else ma_Oa a s') := by
    funext s'
    rw [eA]
    unfold ma_Oa ma_Ba
    by_cases e : s' = s
    · rw [if_pos e, e, gU_s]
    · rw [if_neg e, gU_n (by omega), gU_n (by omega)]
  have eB : ma_Ba (d_pA J a b r s) = (fun r' => if r' = r then ma_Oa a s else ma_Ba a r') := by
    funext r'
    rw [eA]
    unfold ma_Oa ma_Ba
    by_cases e : r' = r
    · rw [if_pos e, e, gU_n (by omega), gU_s]
    · rw [if_neg e, gU_n (by omega), gU_n (by omega)]
  have eo : ma_oo nc V (d_pA J a b r s) = ma_rw (ma_oo nc V a) s (V (ma_Ba a r)) := by
    funext s'
    unfold ma_oo ma_o ma_rw
    rw [eO]
    by_cases e : s' = s
    · subst e
      rw [if_pos hs, if_pos rfl]
      show V (if s' = s' then ma_Ba a r else ma_Oa a s') = _
      rw [if_pos rfl]
    · show (if s' < nc then V (if s' = s then ma_Ba a r else ma_Oa a s') else ma_e s') = if s' = s then V (ma_Ba a r) else (if s' < nc then V (ma_Oa a s') else ma_e s')
      rw [if_neg e, if_neg e]
  have nbd : ∀ i, i < 6 → ma_bd (ma_rw (ma_oo nc V a) s (V (ma_Ba a r)) i) := ma_rw_bd obd (n3 _ hBr.2)
  have no5 : ma_rw (ma_oo nc V a) s (V (ma_Ba a r)) 5 = ma_e 5 := by rw [ma_rw_n (by omega), o5]
  have nsp : ma_sp (ma_rw (ma_oo nc V a) s (V (ma_Ba a r))) := ma_sp_rw sp d0 _ (by omega)
  have nd0 := ma_piv_0 hp
  have tt : ma_t (ma_k (ma_oo nc V a) s (V (ma_Ba a r))) * ma_t (ma_k (ma_oo nc V a) s (V (ma_Ba a r))) = 1 := by rcases ma_t_c (ma_k (ma_oo nc V a) s (V (ma_Ba a r))) with q | q <;> rw [q] <;> rfl
  obtain ⟨q1, q2, q3, q4, q5, q6, q7⟩ := ma_pB (J := J) (b := b) n2 hr hs n1 hP hP0 du hU0 hUs (fun i j => - ma_k (ma_rw (ma_oo nc V a) s (V (ma_Ba a r))) j (V (ma_Ba a i))) (fun i => ma_k (ma_rw (ma_oo nc V a) s (V (ma_Ba a r))) 5 (V (ma_Ba a i)))
    (fun i hi j hj => by
      rw [dt i hi j hj]
      have := ma_k_small (s := j) (v := V (ma_Ba a i)) (by omega) o5 obd (n3 _ (dB i hi).2)
      omega)
    (fun i hi => by
      rw [dr i hi]
      exact ma_k_big obd (n3 _ (dB i hi).2))
    (fun i hi hir j hj hjs => by
      rw [dt i hi j hj, dt i hi s hs, dt r hr j hj, ma_t_neg hp]
      have := ma_piv_j sp (show s < 6 by omega) (show j < 6 by omega) (fun q => hjs q.symm) hp (V (ma_Ba a i))
      show _ = ma_u (ma_oo nc V a) * -ma_k _ j (V (ma_Ba a i))
      rw [Int.mul_neg (ma_u (ma_oo nc V a)), this]
      generalize ma_t (ma_k (ma_oo nc V a) s (V (ma_Ba a r))) = tq
      grind)
    (fun i hi hir => by
      show -ma_k _ s (V (ma_Ba a i)) = _
      rw [dt i hi s hs, ma_t_neg hp, ma_piv_s hp]
      grind)
    (fun i hi hir => by
      rw [dr i hi, dt i hi s hs, dr r hr, ma_t_neg hp]
      have := ma_piv_j sp (show s < 6 by omega) (show 5 < 6 by omega) (by omega) hp (V (ma_Ba a i))
      show _ = ma_u (ma_oo nc V a) * ma_k _ 5 (V (ma_Ba a i))
      rw [this]
      generalize ma_t (ma_k (ma_oo nc V a) s (V (ma_Ba a r))) = tq
      grind)
    (fun i hi j hj => by
      have := ma_k_small (s := j) (v := V (ma_Ba a i)) (by omega) no5 nbd (n3 _ (dB i hi).2)
      show (-ma_k _ j (V (ma_Ba a i))).natAbs ≤ _
      omega)
    (fun i hi => ma_k_big nbd (n3 _ (dB i hi).2))
  have hos : ma_oo nc V a s = V (ma_Oa a s) := ma_o_in hs
  have hkj : ∀ j, j < 6 → j ≠ s → ma_k (ma_rw (ma_oo nc V a) s (V (ma_Ba a r))) j (V (ma_Oa a s)) = - (ma_t (ma_k (ma_oo nc V a) s (V (ma_Ba a r))) * ma_k (ma_oo nc V a) j (V (ma_Ba a r))) := by
    intro j hj hjs
    have h := ma_piv_j sp (show s < 6 by omega) hj (fun q => hjs q.symm) hp (V (ma_Oa a s))
    have h1 := Lp.2.2.2 j s hj (by omega)
    have h2 := Lp.2.2.2 s s (by omega) (by omega)
    rw [if_neg (fun q => hjs q.symm), hos] at h1
    rw [if_pos rfl, hos] at h2
    rw [h1, h2, Int.zero_mul, Int.zero_sub] at h
    have h3 : ma_u (ma_oo nc V a) * ma_k (ma_rw (ma_oo nc V a) s (V (ma_Ba a r))) j (V (ma_Oa a s)) = ma_u (ma_oo nc V a) * (- (ma_t (ma_k (ma_oo nc V a) s (V (ma_Ba a r))) * ma_k (ma_oo nc V a) j (V (ma_Ba a r)))) := by
      rw [h]
      grind
    exact Int.eq_of_mul_eq_mul_left (by omega) h3
  have hks : ma_k (ma_rw (ma_oo nc V a) s (V (ma_Ba a r))) s (V (ma_Oa a s)) = ma_t (ma_k (ma_oo nc V a) s (V (ma_Ba a r))) * ma_u (ma_oo nc V a) := by
    have h2 := Lp.2.2.2 s s (by omega) (by omega)
    rw [if_pos rfl, hos] at h2
    rw [ma_piv_s hp, h2]
  refine ⟨⟨⟨n1, n2, n3⟩, ?_, ?_, ?_, ?_, ?_, ?_, ?_, ?_, ?_⟩, eo, eO, ?_, ?_, ?_⟩
  · rw [eo]
    exact ⟨nsp, nd0⟩
  · rw [eo, q7, ma_t_neg hp, ma_piv_u hp]
    grind
  · intro s' hs'
    rw [eO]
    show d_pA J a b r s 16 s' = nI (if s' = s then ma_Ba a r else ma_Oa a s') ∧ (if s' = s then ma_Ba a r else ma_Oa a s') < nc + nl
    rw [eA]
    by_cases e : s' = s
    · rw [if_pos e, e, gU_s]
      exact hBr
    · rw [if_neg e, gU_n (by omega), gU_n (by omega)]
      exact dO s' hs'
  · intro r' hr'
    rw [eB]
    show d_pA J a b r s 15 r' = nI (if r' = r then ma_Oa a s else ma_Ba a r') ∧ (if r' = r then ma_Oa a s else ma_Ba a r') < nc + nl
    rw [eA]
    by_cases e : r' = r
    · rw [if_pos e, e, gU_n (by omega), gU_s]
      exact dO s hs
    · rw [if_neg e, gU_n (by omega), gU_n (by omega)]
      exact dB r' hr'
  · intro r' hr' s' hs'
    rw [eo, eB]
    show _ = - ma_k _ s' (V (if r' = r then ma_Oa a s else ma_Ba a r'))
    by_cases e : r' = r
    · rw [if_pos e, e]
      by_cases e2 : s' = s
      · rw [e2, q4, hks, ma_t_neg hp]
        grind
      · rw [q3 s' hs' e2, hkj s' (by omega) e2, dt r hr s' hs', ma_t_neg hp]
        grind
    · rw [if_neg e]
      exact q1 r' hr' e s' hs'
  · intro r' hr'
    rw [eo, eB]
    show _ = ma_k _ 5 (V (if r' = r then ma_Oa a s else ma_Ba a r'))
    by_cases e : r' = r
    · rw [if_pos e, e, q5, hkj 5 (by omega) (by omega), dr r hr, ma_t_neg hp]
      grind
    · rw [if_neg e]
      exact q2 r' hr' e
  · intro j hj
    rw [eO, eB]
    rcases dc j hj with ⟨s', g1, g2⟩ | ⟨r', g1, g2⟩
    · by_cases e : s' = s
      · refine Or.inr ⟨r, hr, ?_⟩
        show (if r = r then ma_Oa a s else ma_Ba a r) = j
        rw [if_pos rfl, ← e]
        exact g2
      · refine Or.inl ⟨s', g1, ?_⟩
        show (if s' = s then ma_Ba a r else ma_Oa a s') = j
        rw [if_neg e]
        exact g2
    · by_cases e : r' = r
      · refine Or.inl ⟨s, hs, ?_⟩
        show (if s = s then ma_Ba a r else ma_Oa a s) = j
        rw [if_pos rfl, ← e]
        exact g2
      · refine Or.inr ⟨r', g1, ?_⟩
        show (if r' = r then ma_Oa a s else ma_Ba a r') = j
        rw [if_neg e]
        exact g2
  · intro r' s' hr' hs'
    rw [eO, eB]
    show (if r' = r then ma_Oa a s else ma_Ba a r') ≠ (if s' = s then ma_Ba a r else ma_Oa a s')
    by_cases e : r' = r
    · rw [if_pos e]
      by_cases e2 : s' = s
      · rw [if_pos e2]
        exact fun q => dd r s hr hs q.symm
      · rw [if_neg e2]
        exact fun q => e2 (ma_LP_inj n1 Lp hs' hs q.symm)
    · rw [if_neg e]
      by_cases e2 : s' = s
      · rw [if_pos e2]
        exact fun q => e (di r' r hr' hr q)
      · rw [if_neg e2]
        exact dd r' s' hr' hs'
  · intro r1 r2 h1 h2
    rw [eB]
    show (if r1 = r then ma_Oa a s else ma_Ba a r1) = (if r2 = r then ma_Oa a s else ma_Ba a r2) → r1 = r2
    by_cases e : r1 = r
    · rw [if_pos e]
      by_cases e2 : r2 = r
      · intro _; omega
      · rw [if_neg e2]
        exact fun q => absurd q.symm (dd r2 s h2 hs)
    · rw [if_neg e]
      by_cases e2 : r2 = r
      · rw [if_pos e2]
        exact fun q => absurd q (dd r1 s h1 hs)
      · rw [if_neg e2]
        exact di r1 r2 h1 h2
  · intro k j h1 h2
    rw [eA, gU_n (by omega), gU_n (by omega)]
  · exact q6
  · intro k j h
    unfold d_pJ
    rw [if_neg hp0, if_neg hd0, gU_n (by omega)]
/-- a choice by turns: the first that nothing goes before -/
theorem ma_pick {G : Nat → Int32} {C : Nat → Prop} {Le : Nat → Nat → Prop} {M : Nat} (h0 : G 0 = -1) (hn : ∀ n, n < M → ¬ C n → G (n + 1) = G n) (hf : ∀ n, n < M → C n → G n = -1 → G (n + 1) = nI n) (hs : ∀ n, n < M → C n → ∀ o, o < n → C o → G n = nI o → (Le o n ∧ G (n + 1) = G n) ∨ (Le n o ∧ G (n + 1) = nI n)) (hr : ∀ x, Le x x) (ht : ∀ x y z, x < M → y < M → z < M → C x → C y → C z → Le x y → Le y z → Le x z) : ∀ n, n ≤ M → (G n = -1 ∧ ∀ r, r < n → ¬ C r) ∨ ∃ r, r < n ∧ G n = nI r ∧ C r ∧ ∀ r', r' < n → C r' → Le r r'
  | 0, _ => Or.inl ⟨h0, fun r h => by omega⟩
  | n + 1, hb => by
    have ih := ma_pick h0 hn hf hs hr ht n (by omega)
    by_cases hc : C n
    · rcases ih with ⟨g, hz⟩ | ⟨r, r1, r2, r3, r4⟩
      · refine Or.inr ⟨n, by omega, hf n (by omega) hc g, hc, fun r' h1 h2 => ?_⟩
        by_cases e : r' = n
        · rw [e]; exact hr n
        · exact absurd h2 (hz r' (by omega))
      · rcases hs n (by omega) hc r r1 r3 r2 with ⟨l1, l2⟩ | ⟨l1, l2⟩
        · refine Or.inr ⟨r, by omega, l2.trans r2, r3, fun r' h1 h2 => ?_⟩
          by_cases e : r' = n
          · rw [e]; exact l1
          · exact r4 r' (by omega) h2
        · refine Or.inr ⟨n, by omega, l2, hc, fun r' h1 h2 => ?_⟩
          by_cases e : r' = n
          · rw [e]; exact hr n
          · exact ht n r r' (by omega) (by omega) (by omega) hc r3 h2 l1 (r4 r' (by omega) h2)
    · rw [hn n (by omega) hc]
      rcases ih with ⟨g, hz⟩ | ⟨r, r1, r2, r3, r4⟩
      · refine Or.inl ⟨g, fun r h => ?_⟩
        by_cases e : r = n
        · rw [e]; exact hc
        · exact hz r (by omega)
      · refine Or.inr ⟨r, by omega, r2, r3, fun r' h1 h2 => ?_⟩
        by_cases e : r' = n
        · rw [e] at h2; exact absurd h2 hc
        · exact r4 r' (by omega) h2
/-- the same by keys -/
theorem ma_pickK {G : Nat → Int32} {C : Nat → Prop} {key : Nat → Int32} (h0 : G 0 = -1) (hn : ∀ n, ¬ C n → G (n + 1) = G n) (hc : ∀ n, C n → G (n + 1) = if G n < 0 then nI n else if key (G n).toNatClampNeg ≤ key n then G n else nI n) : ∀ n, n ≤ 1000 → (G n = -1 ∧ ∀ r, r < n → ¬ C r) ∨ ∃ r, r < n ∧ G n = nI r ∧ C r ∧ ∀ r', r' < n → C r' → key r ≤ key r' :=
  ma_pick (M := 1000) (Le := fun x y => key x ≤ key y) h0 (fun n _ => hn n) (fun n _ h g => by rw [hc n h, g]; rfl) (fun n hb h o ho _ g => by
    rw [hc n h, if_neg (by rw [g]; exact nI_pos (by omega)), g, nI_clamp (by omega)]
    by_cases q : key o ≤ key n
    · rw [if_pos q]; exact Or.inl ⟨q, rfl⟩
    · rw [if_neg q]
      exact Or.inr ⟨(Int32.le_total (key o) (key n)).resolve_left q, rfl⟩) (fun x => Int32.le_refl _) (fun x y z _ _ _ _ _ _ h1 h2 => Int32.le_trans h1 h2)
theorem ma_broken (a : gF) (b : gL) : ∀ n, n ≤ 1000 → (d_broken a b n = -1 ∧ ∀ r, r < n → ¬ ¬ 0 ≤ b 14 r) ∨ ∃ r, r < n ∧ d_broken a b n = nI r ∧ ¬ 0 ≤ b 14 r ∧ ∀ r', r' < n → ¬ 0 ≤ b 14 r' → a 15 r ≤ a 15 r' :=
  ma_pickK (G := d_broken a b) (C := fun r => ¬ 0 ≤ b 14 r) (key := a 15) rfl (fun n h => by
    show (if 0 ≤ b 14 n then _ else _) = _
    rw [if_pos (Classical.not_not.mp h)]) (fun n h => by
    show (if 0 ≤ b 14 n then _ else _) = _
    rw [if_neg h])
theorem ma_mend (a : gF) (b : gL) (r : Nat) : ∀ n, n ≤ 1000 → (d_mend a b r n = -1 ∧ ∀ s, s < n → ¬ ¬ 0 ≤ b (48 + r) s) ∨ ∃ s, s < n ∧ d_mend a b r n = nI s ∧ ¬ 0 ≤ b (48 + r) s ∧ ∀ s', s' < n → ¬ 0 ≤ b (48 + r) s' → a 16 s ≤ a 16 s' :=
  ma_pickK (G := d_mend a b r) (C := fun s => ¬ 0 ≤ b (48 + r) s) (key := a 16) rfl (fun n h => by
    show (if 0 ≤ b (48 + r) n then _ else _) = _
    rw [if_pos (Classical.not_not.mp h)]) (fun n h => by
    show (if 0 ≤ b (48 + r) n then _ else _) = _
    rw [if_neg h])
theorem ma_fall (a : gF) (b : gL) : ∀ n, n ≤ 1000 → (d_fall a b n = -1 ∧ ∀ s, s < n → ¬ (a 17 s = 0 ∧ ¬ 0 ≤ b 18 s)) ∨ ∃ s, s < n ∧ d_fall a b n = nI s ∧ (a 17 s = 0 ∧ ¬ 0 ≤ b 18 s) ∧ ∀ s', s' < n → (a 17 s' = 0 ∧ ¬ 0 ≤ b 18 s') → a 16 s ≤ a 16 s' :=
  ma_pickK (G := d_fall a b) (C := fun s => a 17 s = 0 ∧ ¬ 0 ≤ b 18 s) (key := a 16) rfl (fun n h => by
    show (if a 17 n = 0 then if 0 ≤ b 18 n then _ else _ else _) = _
    by_cases q : a 17 n = 0
    · rw [if_pos q, if_pos (Classical.not_not.mp (fun w => h ⟨q, w⟩))]
    · rw [if_neg q]) (fun n h => by
    show (if a 17 n = 0 then if 0 ≤ b 18 n then _ else _ else _) = _
    rw [if_pos h.1, if_neg h.2])
