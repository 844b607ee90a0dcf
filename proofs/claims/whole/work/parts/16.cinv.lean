/-! What stays true of the class's state: its counts are small natural numbers, the dictionary's variables are numbered -/
def cN (x : Int32) : Nat := x.toNatClampNeg
theorem cN_n {n : Nat} (h : n < 2 ^ 31) : cN (nI n) = n := nI_clamp h
theorem cN_of {x : Int32} {n : Nat} (h : x = nI n) (hn : n < 2 ^ 31) : cN x = n := by rw [h]; exact nI_clamp hn
def cNat (x : Int32) (m : Nat) : Prop := x = nI (cN x) ∧ cN x ≤ m
theorem cNat_of {x : Int32} {n m : Nat} (h : x = nI n) (hn : n ≤ m) (hm : m < 2 ^ 31) : cNat x m := by
  have e := cN_of h (by omega)
  exact ⟨by rw [e]; exact h, by omega⟩
def cOK (I a : gF) : Prop := cNat (I 1 7) 5 ∧ cNat (I 1 8) 8 ∧ cNat (I 4 7) 21 ∧ cNat (I 4 8) 5 ∧ d_nat (a 15) (cN (I 4 7)) ∧ d_nat (a 16) (cN (I 4 8)) ∧ (I 2 6 = 0 ∨ I 2 6 = 1) ∧ (I 3 8 = 0 ∨ I 3 8 = 1)
theorem d_nat_add {a : gF} {nl v : Nat} {x : Int32} (h : d_nat (a 15) nl) (hx : x = nI v) (hv : v < 100) : d_nat (gU a 15 nl x 15) (nl + 1) := by
  intro r hr
  by_cases e : r = nl
  · subst e
    rw [gU_s]
    exact ⟨v, hx, hv⟩
  · rw [gU_n (Or.inr e)]
    exact h r (by omega)
theorem s_row_nat {I a : gF} {b : gL} {r0 nl nc : Nat} (h7 : I 4 7 = nI nl) (h8 : I 4 8 = nI nc) (hb : nl + nc + 2 < 100) (h : d_nat (a 15) nl) : d_nat ((s_row I a b r0 nl nc).2.1 15) (s_nl a r0 nl) ∧ ∀ k, k ≠ 15 → (s_row I a b r0 nl nc).2.1 k = a k := by
  have e1 : I 4 8 + I 4 7 = nI (nc + nl) := by rw [h7, h8, nI_add]
  unfold s_row s_nl
  rw [p_below_15]
  by_cases c1 : p_above a r0 = 0 <;> by_cases c2 : p_below a r0 = 0 <;> simp only [c1, c2, reduceIte]
  · exact ⟨h, by intros; first | rfl | trivial⟩
  · exact ⟨d_nat_add h e1 (by omega), fun k hk => gU_k hk⟩
  · exact ⟨d_nat_add h e1 (by omega), fun k hk => gU_k hk⟩
  · refine ⟨d_nat_add (d_nat_add h e1 (by omega)) (v := nc + (nl + 1)) ?_ (by omega), fun k hk => (gU_k hk).trans (gU_k hk)⟩
    show I 4 8 + (I 4 7 + 1) = _
    rw [h7, h8, nI_1, nI_add]
theorem d_ids_16 (a : gF) : ∀ n, n ≤ 5 → d_nat (d_ids a n 16) n ∧ ∀ k, k ≠ 16 → d_ids a n k = a k
  | 0, _ => ⟨fun r hr => absurd hr (Nat.not_lt_zero r), fun _ _ => rfl⟩
  | n + 1, hn => by
    obtain ⟨h1, h2⟩ := d_ids_16 a n (by omega)
    refine ⟨fun r hr => ?_, fun k hk => (gU_k hk).trans (h2 k hk)⟩
    show ∃ v, gU (d_ids a n) 16 n (nI n) 16 r = nI v ∧ v < 100
    by_cases e : r = n
    · subst e
      rw [gU_s]
      exact ⟨r, rfl, by omega⟩
    · rw [gU_n (Or.inr e)]
      exact h1 r (by omega)
theorem s_kn_nat (I a : gF) (b : gL) {nn : Nat} (hn : nn ≤ 5) : ∀ n, n ≤ nn → d_nat ((s_kn I a b nn n).2.1 15) n ∧ d_nat ((s_kn I a b nn n).2.1 16) nn
  | 0, _ => by
    refine ⟨fun r hr => absurd hr (Nat.not_lt_zero r), ?_⟩
    show d_nat (d_thaw (d_ids a nn) nn 16) nn
    rw [d_thaw_k _ (by decide)]
    exact (d_ids_16 a nn hn).1
  | n + 1, h => by
    obtain ⟨h1, h2⟩ := s_kn_nat I a b hn n (by omega)
    obtain ⟨g1, g2, -⟩ := s_kn_I I a b nn n
    refine ⟨?_, ?_⟩
    · show d_nat (gU (s_aim _ _ _ 5) 15 n _ 15) (n + 1)
      refine d_nat_add (v := nn + n) ?_ (by rw [g1, g2, nI_add]) (by omega)
      rw [s_aim_k _ _ _ (by decide)]
      exact h1
    · have e : (s_kn I a b nn (n + 1)).2.1 16 = (s_aim (s_kn I a b nn n).2.1 (nI n) 1 5) 16 := by
        simp only [s_kn, s_add]
        exact gU_k (by decide)
      rw [e, s_aim_k _ _ _ (by decide)]
      exact h2
theorem s_kr_nat (I a : gF) (b : gL) {nn : Nat} (set : Int32) (hn : nn ≤ 5) : ∀ n, n ≤ 8 → d_nat ((s_kr I a b nn set n).1.2.1 15) (s_kr I a b nn set n).2 ∧ d_nat ((s_kr I a b nn set n).1.2.1 16) nn
  | 0, _ => s_kn_nat I a b hn nn (Nat.le_refl nn)
  | n + 1, h => by
    obtain ⟨h1, h2⟩ := s_kr_nat I a b set hn n (by omega)
    obtain ⟨g1, g2, -, g4⟩ := s_kr_I I a b nn set n
    unfold s_kr
    split
    · exact ⟨h1, h2⟩
    · obtain ⟨k1, k2⟩ := s_row_nat (b := (s_kr I a b nn set n).1.2.2) (r0 := n) g1 g2 (by omega) h1
      refine ⟨k1, ?_⟩
      show d_nat ((s_row _ _ _ n _ nn).2.1 16) nn
      rw [k2 16 (by decide)]
      exact h2
theorem d_find_nat (nl nc : Nat) : ∀ n (x : gL × gF × gL), d_nat (x.2.1 15) nl → d_nat (x.2.1 16) nc → d_nat ((d_find nl nc n x).2.2.1 15) nl ∧ d_nat ((d_find nl nc n x).2.2.1 16) nc
  | 0, x, h1, h2 => ⟨h1, h2⟩
  | n + 1, x, h1, h2 => by
    unfold d_find
    split
    · rename_i c1
      split
      · rename_i c2
        obtain ⟨jr, hjr, ejr⟩ := (d_broken_ix x.2.1 x.2.2 nl).resolve_left (gx_notneg c1)
        obtain ⟨js, hjs, ejs⟩ := (d_mend_ix x.2.1 x.2.2 (d_broken x.2.1 x.2.2 nl).toNatClampNeg nc).resolve_left (gx_notneg c2)
        apply d_find_nat
        · refine d_pA_15 ?_ h1 h2
          rw [ejs]
          exact Nat.lt_of_le_of_lt (nI_clamp_le js) hjs
        · refine d_pA_16 ?_ h1 h2
          rw [ejr]
          exact Nat.lt_of_le_of_lt (nI_clamp_le jr) hjr
      · exact ⟨h1, h2⟩
    · exact ⟨h1, h2⟩
/-- canKeep leaves all in order -/
theorem s_keep_ok {I : gF} {J : gL} {a : gF} {b : gL} {nn nr : Nat} {set : Int32} (h17 : I 1 7 = nI nn) (hnn : nn ≤ 5) (hnr : nr ≤ 8) (hok : cOK I a) : cOK (s_kI I a b nn nr set) (s_kf I J a b nn nr set).2.2.1 := by
  obtain ⟨k1, k2, k3, k4, k5, k6, k7, k8⟩ := hok
  obtain ⟨g1, g2, g3, g4⟩ := s_kr_I I a b nn set nr
  obtain ⟨m1, m2⟩ := s_kr_nat I a b set hnn nr hnr
  obtain ⟨f1, f2⟩ := d_find_nat (s_kr I a b nn set nr).2 nn mPV (gU J 4 6 1, (s_kr I a b nn set nr).1.2.1, (s_kr I a b nn set nr).1.2.2) m1 m2
  have e1 : s_kI I a b nn nr set 4 7 = nI (s_kr I a b nn set nr).2 := g1
  have e2 : s_kI I a b nn nr set 4 8 = nI nn := g2
  have c1 := cN_of e1 (by omega)
  have c2 := cN_of e2 (by omega)
  refine ⟨?_, ?_, cNat_of e1 (by omega) (by decide), cNat_of e2 (by omega) (by decide), ?_, ?_, ?_, ?_⟩
  · rw [s_kI_k (by decide)]; exact k1
  · rw [s_kI_k (by decide)]; exact k2
  · rw [c1]; exact f1
  · rw [c2]; exact f2
  · rw [s_kI_k (by decide)]; exact k7
  · rw [s_kI_k (by decide)]; exact k8
abbrev s_hpT (I : gF) (J : gL) (a : gF) (b : gL) : gS := (s_hpI I J a b (cN (I 1 7)) (cN (I 1 8)), s_hpJ I J a b (cN (I 1 7)) (cN (I 1 8)), s_hpA I J a b (cN (I 1 7)) (cN (I 1 8)), s_hpB I J a b (cN (I 1 7)) (cN (I 1 8)))
theorem s_hp_ok {I : gF} {J : gL} {a : gF} {b : gL} (hok : cOK I a) : cOK (s_hpI I J a b (cN (I 1 7)) (cN (I 1 8))) (s_hpA I J a b (cN (I 1 7)) (cN (I 1 8))) := by
  unfold s_hpI s_hpA
  split
  · have h := s_keep_ok (J := J) (b := b) (set := s_all a (cN (I 1 8))) hok.1.1 hok.1.2 hok.2.1.2 hok
    obtain ⟨k1, k2, k3, k4, k5, k6, k7, k8⟩ := h
    exact ⟨k1, k2, k3, k4, k5, k6, d_find_01 _ _ _ _, k8⟩
  · exact hok
theorem p_hasN_ix {I : gF} {nn : Nat} {v : Int32} (h : I 1 7 = nI nn) (hn : nn < 2 ^ 31) (hp : ¬ p_hasN I v = 0) : ∃ j, j < nn ∧ v = nI j := by
  unfold p_hasN at hp
  split at hp
  · exact absurd rfl hp
  · rename_i c1
    split at hp
    · exact absurd rfl hp
    · rename_i c2
      obtain ⟨j, hj, ej⟩ := nI_of c1
      exact ⟨j, gn_nle (X := nn) (Y := j) h ej hn hj c2, ej⟩
theorem p_hasR_ix {I a : gF} {nr : Nat} {v : Int32} (h : I 1 8 = nI nr) (hn : nr < 2 ^ 31) (hp : ¬ p_hasR I a v = 0) : ∃ j, j < nr ∧ v = nI j := by
  unfold p_hasR at hp
  split at hp
  · exact absurd rfl hp
  · rename_i c1
    split at hp
    · exact absurd rfl hp
    · rename_i c2
      obtain ⟨j, hj, ej⟩ := nI_of c1
      exact ⟨j, gn_nle (X := nr) (Y := j) h ej hn hj c2, ej⟩
