/-! The reference: corners -/
theorem m_kp1_01 (J : gL) (a : gF) (b : gL) : ∀ n i, m_kp1 J a b n i = 0 ∨ m_kp1 J a b n i = 1
  | 0, _ => Or.inr rfl
  | n + 1, i => by
    have h := m_kp1_01 J a b n (i + 1)
    unfold m_kp1
    repeat' split
    all_goals first | exact h | exact Or.inl rfl
theorem m_kp2_01 (J : gL) (a : gF) (b : gL) (set : Int32) (mn : Nat) : ∀ n r, m_kp2 J a b set mn n r = 0 ∨ m_kp2 J a b set mn n r = 1
  | 0, _ => Or.inr rfl
  | n + 1, r => by
    have h := m_kp2_01 J a b set mn n (r + 1)
    unfold m_kp2 m_g0 m_g1 m_g2
    repeat' split
    all_goals first | exact h | exact Or.inl rfl
theorem m_keeps_01 (J : gL) (a : gF) (b : gL) (set : Int32) (mn mr : Nat) : m_keeps J a b set mn mr = 0 ∨ m_keeps J a b set mn mr = 1 := by
  unfold m_keeps
  split
  · exact Or.inl rfl
  · exact m_kp2_01 J a b set mn mr 0
theorem m_aft_ge (I : gF) (set : Int32) : ∀ n k, k ≤ m_aft I set n k ∧ m_aft I set n k ≤ k + n
  | 0, k => ⟨Nat.le_refl k, Nat.le_refl k⟩
  | n + 1, k => by
    obtain ⟨h1, h2⟩ := m_aft_ge I set n (k + 1)
    unfold m_aft
    split
    · exact ⟨by omega, by omega⟩
    · exact ⟨by omega, by omega⟩
def m_nx (I a : gF) (set : Int32) (d : Nat) : Nat := m_aft I set (18 - cN (a 88 d + 1)) (cN (a 88 d + 1))
abbrev m_C : Type := Nat × Int32 × gS
def m_cS (mn : Nat) (x : gS) : gS := (x.1, m_sJ x.2.1 x.2.2.1 x.2.2.2 mn, x.2.2.1, m_sB x.2.2.1 x.2.2.2 mn)
def m_cT (mn : Nat) (x : gS) : gS := (m_tI x.1, m_tJ x.1 x.2.1 x.2.2.1 x.2.2.2 mn, x.2.2.1, m_tB x.1 x.2.1 x.2.2.1 x.2.2.2 mn)
def m_cA (x : gS) (set : Int32) (d : Nat) : gS := (x.1, x.2.1, gU x.2.2.1 88 d (nI (m_nx x.1 x.2.2.1 set d)), x.2.2.2)
def m_cP (x : gS) (set : Int32) (d : Nat) : gS := (x.1, x.2.1, gU (gU x.2.2.1 88 d (nI (m_nx x.1 x.2.2.1 set d))) 88 (d + 1) (nI (m_nx x.1 x.2.2.1 set d)), x.2.2.2)
/-- the corners one by one: how deep + 1, found so far, the state -/
def m_cor (mn mr : Nat) (set al : Int32) : Nat → m_C → Int32 × gS
  | 0, x => x.2
  | n + 1, (0, f, x) => (f, x)
  | n + 1, (d + 1, f, x) => if nI (m_nx x.1 x.2.2.1 set d) ≤ 17 then if x.1 5 0 ≤ nI d + 1 then if (m_s0 (m_cA x set d).2.2.1 x.2.2.2 mn).1 = 0 then m_cor mn mr set al n (d + 1, f, m_cS mn (m_cA x set d)) else if m_keeps (m_cS mn (m_cA x set d)).2.1 (m_cA x set d).2.2.1 (m_cS mn (m_cA x set d)).2.2.2 set mn mr = 0 then m_cor mn mr set al n (d + 1, f, m_cS mn (m_cA x set d)) else if al = 0 then (1, m_cS mn (m_cA x set d)) else m_cor mn mr set al n (d + 1, 1, m_cT mn (m_cS mn (m_cA x set d))) else m_cor mn mr set al n (d + 1 + 1, f, m_cP x set d) else m_cor mn mr set al n (d, f, m_cA x set d)
/-- a number that falls with each step of the search -/
def m_mu (a : gF) : Nat → Nat
  | 0 => 0
  | d + 1 => m_mu a d + (19 - cN (a 88 d + 1)) * 20 ^ (5 - d)
theorem m_mu_k {a a2 : gF} : ∀ d, (∀ i, i < d → a2 88 i = a 88 i) → m_mu a2 d = m_mu a d
  | 0, _ => rfl
  | d + 1, h => by
    unfold m_mu
    rw [m_mu_k d (fun i hi => h i (by omega)), h d (by omega)]
/-- what is known of the picks at depth d (d + 1 of them) -/
def m_pk (a : gF) (dd : Nat) : Prop := (∀ i, i + 1 < dd → ∃ k, a 88 i = nI k ∧ k < 18) ∧ (∀ d, dd = d + 1 → ∃ q, a 88 d + 1 = nI q ∧ q ≤ 18)
theorem m_pow (d : Nat) (h : d + 1 ≤ 5) : 20 ^ (5 - d) = 20 * 20 ^ (5 - (d + 1)) := by
  rw [show 5 - d = (5 - (d + 1)) + 1 by omega, Nat.pow_succ, Nat.mul_comm]
theorem m_mu_A {a : gF} {d q nx : Nat} (hq : a 88 d + 1 = nI q) (hq2 : q ≤ 18) (hn : q ≤ nx) (hn2 : nx ≤ 18) : m_mu (gU a 88 d (nI nx)) (d + 1) + 20 ^ (5 - d) ≤ m_mu a (d + 1) ∧ m_mu (gU a 88 d (nI nx)) d = m_mu a d := by
  have e0 : m_mu (gU a 88 d (nI nx)) d = m_mu a d := m_mu_k d (fun i hi => gU_n (Or.inr (by omega)))
  refine ⟨?_, e0⟩
  unfold m_mu
  rw [e0, gU_s, nI_1, cN_n (by omega), cN_of hq (by omega)]
  have h1 : (19 - (nx + 1) + 1) * 20 ^ (5 - d) ≤ (19 - q) * 20 ^ (5 - d) := Nat.mul_le_mul_right _ (by omega)
  rw [Nat.succ_mul] at h1
  omega
theorem m_mu_P {a : gF} {d q nx : Nat} (hq : a 88 d + 1 = nI q) (hq2 : q ≤ 18) (hn : q ≤ nx) (hn2 : nx ≤ 17) (hd : d + 1 < 5) : m_mu (gU (gU a 88 d (nI nx)) 88 (d + 1) (nI nx)) (d + 1 + 1) < m_mu a (d + 1) := by
  obtain ⟨h1, -⟩ := m_mu_A (a := a) hq hq2 hn (by omega)
  have e0 : m_mu (gU (gU a 88 d (nI nx)) 88 (d + 1) (nI nx)) (d + 1) = m_mu (gU a 88 d (nI nx)) (d + 1) := m_mu_k (d + 1) (fun i hi => gU_n (Or.inr (by omega)))
  show m_mu (gU (gU a 88 d (nI nx)) 88 (d + 1) (nI nx)) (d + 1) + (19 - cN (gU (gU a 88 d (nI nx)) 88 (d + 1) (nI nx) 88 (d + 1) + 1)) * 20 ^ (5 - (d + 1)) < _
  rw [e0, gU_s, nI_1, cN_n (by omega)]
  have h2 : (19 - (nx + 1)) * 20 ^ (5 - (d + 1)) ≤ 18 * 20 ^ (5 - (d + 1)) := Nat.mul_le_mul_right _ (by omega)
  have h3 := m_pow d (by omega)
  have h4 : 0 < 20 ^ (5 - (d + 1)) := Nat.pow_pos (by decide)
  omega
theorem m_pk_A {a : gF} {d nx : Nat} (h : m_pk a (d + 1)) (hn : nx ≤ 17) : m_pk (gU a 88 d (nI nx)) (d + 1) := by
  refine ⟨fun i hi => ?_, fun d2 e => ?_⟩
  · rw [gU_n (Or.inr (by omega))]
    exact h.1 i hi
  · obtain rfl : d = d2 := by omega
    rw [gU_s]
    exact ⟨nx + 1, nI_1 nx, by omega⟩
theorem m_pk_P {a : gF} {d nx : Nat} (h : m_pk a (d + 1)) (hn : nx ≤ 17) : m_pk (gU (gU a 88 d (nI nx)) 88 (d + 1) (nI nx)) (d + 1 + 1) := by
  refine ⟨fun i hi => ?_, fun d2 e => ?_⟩
  · rw [gU_n (Or.inr (by omega))]
    by_cases e : i = d
    · subst e
      rw [gU_s]
      exact ⟨nx, rfl, by omega⟩
    · rw [gU_n (Or.inr e)]
      exact h.1 i (by omega)
  · obtain rfl : d + 1 = d2 := by omega
    rw [gU_s]
    exact ⟨nx + 1, nI_1 nx, by omega⟩
theorem m_pk_B {a : gF} {d nx : Nat} (h : m_pk a (d + 1)) : m_pk (gU a 88 d (nI nx)) d := by
  refine ⟨fun i hi => ?_, fun d2 e => ?_⟩
  · rw [gU_n (Or.inr (by omega))]
    exact h.1 i (by omega)
  · rw [gU_n (Or.inr (by omega))]
    obtain ⟨k, e1, hk⟩ := h.1 d2 (by omega)
    exact ⟨k + 1, by rw [e1, nI_1], by omega⟩
theorem m_pk_S {a : gF} {d nx mn : Nat} (h : m_pk a (d + 1)) (hn : nx ≤ 17) (hm : mn ≤ d + 1) : m_pick (gU a 88 d (nI nx)) mn := by
  intro i hi
  by_cases e : i = d
  · subst e
    rw [gU_s]
    exact ⟨nx, rfl, by omega⟩
  · rw [gU_n (Or.inr e)]
    exact h.1 i (by omega)
def mCF : Nat := 1000000000000
theorem m_mu_lt : ∀ (a : gF) (d : Nat), d ≤ 5 → m_mu a d < 20 ^ 8 := by
  have h : ∀ (a : gF) (d : Nat), d ≤ 5 → m_mu a d ≤ d * (19 * 20 ^ 5) := by
    intro a d
    induction d with
    | zero => intro _; exact Nat.le_refl 0
    | succ d ih =>
      intro hd
      have h1 := ih (by omega)
      have h2 : (19 - cN (a 88 d + 1)) * 20 ^ (5 - d) ≤ 19 * 20 ^ 5 := Nat.mul_le_mul (by omega) (Nat.pow_le_pow_right (by decide) (by omega))
      show m_mu a d + _ ≤ _
      rw [Nat.succ_mul]
      omega
  intro a d hd
  have h1 := h a d hd
  have h2 : d * (19 * 20 ^ 5) ≤ 5 * (19 * 20 ^ 5) := Nat.mul_le_mul_right _ hd
  have h3 : 5 * (19 * 20 ^ 5) < 20 ^ 8 := by decide
  omega
/-- a step: the fuel is enough for what is left -/
theorem m_cor_step {mn mr : Nat} {set al : Int32} {d : Nat} {f : Int32} {x : gS} {R : Int32 × gS} (h : ∃ F, m_mu x.2.2.1 (d + 1) < F ∧ R = m_cor mn mr set al F (d + 1, f, x)) : ∃ F, m_mu x.2.2.1 (d + 1) ≤ F ∧ R = if nI (m_nx x.1 x.2.2.1 set d) ≤ 17 then if x.1 5 0 ≤ nI d + 1 then if (m_s0 (m_cA x set d).2.2.1 x.2.2.2 mn).1 = 0 then m_cor mn mr set al F (d + 1, f, m_cS mn (m_cA x set d)) else if m_keeps (m_cS mn (m_cA x set d)).2.1 (m_cA x set d).2.2.1 (m_cS mn (m_cA x set d)).2.2.2 set mn mr = 0 then m_cor mn mr set al F (d + 1, f, m_cS mn (m_cA x set d)) else if al = 0 then (1, m_cS mn (m_cA x set d)) else m_cor mn mr set al F (d + 1, 1, m_cT mn (m_cS mn (m_cA x set d))) else m_cor mn mr set al F (d + 1 + 1, f, m_cP x set d) else m_cor mn mr set al F (d, f, m_cA x set d) := by
  obtain ⟨F, hF, e⟩ := h
  obtain ⟨F1, rfl⟩ : ∃ F1, F = F1 + 1 := ⟨F - 1, by omega⟩
  exact ⟨F1, by omega, e⟩
theorem m_cor_end {mn mr : Nat} {set al : Int32} {f : Int32} {x : gS} {R : Int32 × gS} (h : ∃ F, m_mu x.2.2.1 0 < F ∧ R = m_cor mn mr set al F (0, f, x)) : R = (f, x) := by
  obtain ⟨F, hF, e⟩ := h
  obtain ⟨F1, rfl⟩ : ∃ F1, F = F1 + 1 := ⟨F - 1, by omega⟩
  exact e
def m_c0 (x : gS) (set al : Int32) (mn mr : Nat) : Int32 × gS := if m_keeps (gU x.2.1 5 23 1) (gU x.2.2.1 88 0 (-1)) x.2.2.2 set mn mr = 0 then (m_keeps (gU x.2.1 5 23 1) (gU x.2.2.1 88 0 (-1)) x.2.2.2 set mn mr, (x.1, gU x.2.1 5 23 1, gU x.2.2.1 88 0 (-1), x.2.2.2)) else if al = 0 then (m_keeps (gU x.2.1 5 23 1) (gU x.2.2.1 88 0 (-1)) x.2.2.2 set mn mr, (x.1, gU x.2.1 5 23 1, gU x.2.2.1 88 0 (-1), x.2.2.2)) else (m_keeps (gU x.2.1 5 23 1) (gU x.2.2.1 88 0 (-1)) x.2.2.2 set mn mr, m_cT mn (x.1, gU x.2.1 5 23 1, gU x.2.2.1 88 0 (-1), x.2.2.2))
def m_cc (x : gS) (set al : Int32) (mn mr : Nat) : Int32 × gS := m_cor mn mr set al mCF (1, 0, (x.1, x.2.1, gU x.2.2.1 88 0 (-1), x.2.2.2))
def m_corners (x : gS) (set al : Int32) (mn mr : Nat) : Int32 × gS := if x.1 5 0 = 0 then m_c0 x set al mn mr else m_cc x set al mn mr

set_option maxHeartbeats 4000000 in
set_option maxRecDepth 100000 in
theorem kX5_corners (l : Launch) (D : va_G) (ad : Nat → Nat) (cy : Nat → ClassId) (I : gF) (J : gL) (a : gF) (b : gL) (sz : Nat) (mn mr : Nat) (set al : Int32) (hmn : I 5 0 = nI mn) (hmn2 : mn ≤ 5) (hmr : I 5 1 = nI mr) (hmr2 : mr ≤ 8) : gMi l yX5_corners wsX5_corners ({ frames := 2, cells := 0, slots := 0, locals := 58 }) D ad cy I J a b sz [.ref (ad 5), .int set, .int al] (fun res u => res = (m_corners (I, J, a, b) set al mn mr).1 ∧ u = (m_corners (I, J, a, b) set al mn mr).2) := by
  refine Met.ofW (cc := cX5_corners) (maxL := 5) (ret := some .boolean) (by decide) rfl ?_
  intro p e s m args below meth c s₁ B hml hv
  obtain ⟨hargs, hsz, G⟩ := gx_begin hv
  subst hsz
  have hx := B.exec
  have hb := B.bytes
  have hr := B.returns
  have hts := atoms_spec (ws := wsX5_corners) B.pre
  have hown : s.vm.findClass RX5 = some m.cls := findClass_of_methodNamed B.named
  have hlocks := B.notSynchronized
  have hinX5 : ∀ w ∈ wsX50, w ∈ wsX5_corners := by decide +kernel
  have lk54 := hts (.fieldLink RX5 54 "ExactSimplexModel" "pick" "[I") (by decide +kernel)
  have lk66 := hts (.fieldLink RX5 66 "ExactSimplexModel" "names" "I") (by decide +kernel)
  have lk74 := hts (.fieldLink RX5 74 "ExactSimplexModel" "under" "J") (by decide +kernel)
  have hl := lv_entry ([.ref (ad 5), .int set, .int al]) (n := 5) (Nat.le_of_ble_eq_true rfl)
  have hent := lg_entry_eq m ([.ref (ad 5), .int set, .int al]) 5
  rw [← hargs] at hent
  rw [hent]
  clear hent
  generalize (lg_sl ([.ref (ad 5), .int set, .int al]) ++ List.replicate (5 - (lg_sl ([.ref (ad 5), .int set, .int al])).length) Slot.unset).toArray = ls at hl ⊢
  have hl : lv_has ls 5 [(0, .ref (ad 5)), (1, .int set), (2, .int al)] := hl
  generalize hA : gA ad s.heap.size = A at G ⊢
  generalize hH : s.heap = H at G ⊢
  refine gx_q (fun Q hQ => ?_)
  have hCF : mCF = 1000000000000 := rfl
  refine lv_iconst (v := 0) hx hb dX5_corners_0 (by decide) ?_
  refine lv_istore_n (lv' := [(3, .int 0), (0, .ref (ad 5)), (1, .int set), (2, .int al)]) hx hb dX5_corners_1 rfl hl (by decide) rfl (fun ls hl => ?_)
  refine lv_iconst (v := 0) hx hb dX5_corners_2 (by decide) ?_
  refine lv_istore (lv' := [(4, .int 0), (3, .int 0), (0, .ref (ad 5)), (1, .int set), (2, .int al)]) hx hb dX5_corners_3 hl (by decide) rfl (fun ls hl => ?_)
  refine lv_aload_n hx hb dX5_corners_5 rfl (lv_at hl 2 rfl) ?_
  refine gx_get hx hb hts hinX5 hown G 5 (by decide) rfl rfl 21 (by decide) rfl lk54 rfl (v := .ref (ad 88)) rfl dX5_corners_6 ?_
  refine lv_iconst (v := 0) hx hb dX5_corners_9 (by decide) ?_
  refine lv_iconst (v := -1) hx hb dX5_corners_10 (by decide) ?_
  refine gx_iast hx hb G 88 (by decide) (rfl) (by decide) 0 rfl (by omega) dX5_corners_11 (fun H locs G => ?_)
  refine lv_aload_n hx hb dX5_corners_12 rfl (lv_at hl 2 rfl) ?_
  refine gx_get hx hb hts hinX5 hown G 5 (by decide) rfl rfl 0 (by decide) rfl lk66 rfl (v := .int (I 5 0)) rfl dX5_corners_13 ?_
  refine lv_if_ne (tgt := 44) hx hb dX5_corners_16 (by decide) (fun c16 => ?_) (fun c16 => ?_)
  · skip
    have n16 := gn_neq (X := mn) (Y := 0) hmn rfl (by omega) (by omega) c16
    have K44 : ∀ (nf : Nat) (dd : Nat) (f : Int32) (I2 : gF) (J2 : gL) (a2 : gF) (b2 : gL) (H : Heap) (locs : List Loc) (ls : Array Slot), (∃ F, m_mu a2 dd < F ∧ m_cc (I, J, a, b) set al mn mr = m_cor mn mr set al F (dd, f, (I2, J2, a2, b2))) → (m_pk a2 dd) → (dd ≤ mn) → (I2 5 0 = nI mn) → (I2 5 1 = nI mr) → (f = 0 ∨ f = 1) → m_mu a2 dd < nf → GG D ad cy A s I2 J2 a2 b2 H locs → lv_has ls 5 [(0, .ref (ad 5)), (1, .int set), (2, .int al), (3, .int f), (4, .int (nI dd - 1))] → W p l e ({ frames := 2, cells := 0, slots := 0, locals := 58 }) s m args below meth c H locs 0 0 Q (F0 m 44 ls []) := by
      intro nf
      induction nf with
      | zero => exact fun _ _ _ _ _ _ _ _ _ _ _ _ _ _ _ hz => absurd hz (Nat.not_lt_zero _)
      | succ nf ih =>
        intro dd f I2 J2 a2 b2 H locs ls h2 hpk hdd h50 h51 hf01 hmeas G hl
        have ih44 := ih
        clear ih
        refine lv_iload hx hb dX5_corners_44 (lv_at hl 4 rfl) ?_
        refine lv_if_lt (tgt := 149) hx hb dX5_corners_46 (by decide) (fun c46 => ?_) (fun c46 => ?_)
        · skip
          have hk0 : dd = 0 := by
            rcases Nat.eq_zero_or_pos dd with h0 | h0
            · exact h0
            · exact absurd c46 (by rw [show dd = (dd - 1) + 1 by omega, nI_pred]; exact nI_pos (by omega))
          subst hk0
          have hres := m_cor_end (x := (I2, J2, a2, b2)) h2
          refine lv_iload_n hx hb dX5_corners_149 rfl (lv_at hl 3 rfl) ?_
          exact gx_zr hx hb hr hlocks G hQ (z01 hf01) ⟨by unfold m_corners; rw [if_neg c16, hres], by unfold m_corners; rw [if_neg c16, hres]⟩ dX5_corners_150
        · skip
          have hk0 : 0 < dd := by
            rcases Nat.eq_zero_or_pos dd with h0 | h0
            · subst h0
              exact absurd (by decide) c46
            · exact h0
          obtain ⟨d1, rfl⟩ : ∃ d1, dd = d1 + 1 := ⟨dd - 1, by omega⟩
          rw [nI_pred] at hl
          obtain ⟨q0, eq0, hq0⟩ := hpk.2 d1 rfl
          obtain ⟨nx, enx⟩ : ∃ z, z = m_nx I2 a2 set d1 := ⟨_, rfl⟩
          have enx2 : m_aft I2 set (18 - q0) q0 = nx := by rw [enx]; unfold m_nx; rw [cN_of eq0 (by omega)]
          have hnx1 : q0 ≤ nx := by rw [← enx2]; exact (m_aft_ge I2 set _ _).1
          have hnx2 : nx ≤ 18 := by have := (m_aft_ge I2 set (18 - q0) q0).2; omega
          refine lv_aload_n hx hb dX5_corners_49 rfl (lv_at hl 0 rfl) ?_
          refine gx_get hx hb hts hinX5 hown G 5 (by decide) rfl rfl 21 (by decide) rfl lk54 rfl (v := .ref (ad 88)) rfl dX5_corners_50 ?_
          refine lv_iload hx hb dX5_corners_53 (lv_at hl 4 rfl) ?_
          refine lv_aload_n hx hb dX5_corners_55 rfl (lv_at hl 0 rfl) ?_
          refine lv_aload_n hx hb dX5_corners_56 rfl (lv_at hl 0 rfl) ?_
          refine gx_get hx hb hts hinX5 hown G 5 (by decide) rfl rfl 21 (by decide) rfl lk54 rfl (v := .ref (ad 88)) rfl dX5_corners_57 ?_
          refine lv_iload hx hb dX5_corners_60 (lv_at hl 4 rfl) ?_
          refine gx_iald hx hb G 88 (by decide) (rfl) (by decide) d1 rfl (by omega) dX5_corners_62 ?_
          refine lv_iload_n hx hb dX5_corners_63 rfl (lv_at hl 1 rfl) ?_
          refine gx_dVi (v := (nI (m_aft I2 set (18 - q0) q0))) (I1 := I2) (J1 := J2) (a1 := a2) (b1 := b2) (As := [.int (a2 88 d1), .int set]) (rest := [.int (nI d1), .ref (ad 88)]) ⟨hx, hb, hml, hown, hts⟩ G 5 (kX5_after l D ad cy I2 J2 a2 b2 H.size (a2 88 d1) set q0 eq0 hq0) (cwV 2 hts gX5_corners_X5_after rfl rfl rfl (by decide +kernel) ⟨Nat.le_of_ble_eq_true rfl, Nat.le_of_ble_eq_true rfl⟩) (by decide) rfl rfl rfl rfl hl.1 rfl (Nat.le_of_ble_eq_true rfl) ⟨Nat.zero_le _, Nat.zero_le _⟩ dX5_corners_64 (fun H locs G => ?_)
          rw [enx2]
          refine gx_iast hx hb G 88 (by decide) (rfl) (by decide) d1 rfl (by omega) dX5_corners_67 (fun H locs G => ?_)
          refine lv_aload_n hx hb dX5_corners_68 rfl (lv_at hl 0 rfl) ?_
          refine gx_get hx hb hts hinX5 hown G 5 (by decide) rfl rfl 21 (by decide) rfl lk54 rfl (v := .ref (ad 88)) rfl dX5_corners_69 ?_
          refine lv_iload hx hb dX5_corners_72 (lv_at hl 4 rfl) ?_
          refine gx_iald hx hb G 88 (by decide) (rfl) (by decide) d1 rfl (by omega) dX5_corners_74 ?_
          rw [gU_s]
          refine lv_bipush (v := 17) hx hb dX5_corners_75 (by decide) ?_
          refine lv_icmp_le (tgt := 86) hx hb dX5_corners_77 (by decide) (fun c77 => ?_) (fun c77 => ?_)
          · skip
            have n77 := gn_le (X := nx) (Y := 17) rfl rfl (by omega) (by omega) c77
            refine lv_iload hx hb dX5_corners_86 (lv_at hl 4 rfl) ?_
            refine lv_iconst (v := 1) hx hb dX5_corners_88 (by decide) ?_
            refine lv_iadd hx hb dX5_corners_89 ?_
            refine lv_aload_n hx hb dX5_corners_90 rfl (lv_at hl 0 rfl) ?_
            refine gx_get hx hb hts hinX5 hown G 5 (by decide) rfl rfl 0 (by decide) rfl lk66 rfl (v := .int (I2 5 0)) rfl dX5_corners_91 ?_
            refine lv_icmp_ge (tgt := 119) hx hb dX5_corners_94 (by decide) (fun c94 => ?_) (fun c94 => ?_)
            · skip
              have n94 := gn_le (X := mn) (Y := d1 + 1) h50 (gn_add rfl rfl) (by omega) (by omega) c94
              refine lv_aload_n hx hb dX5_corners_119 rfl (lv_at hl 0 rfl) ?_
              refine gx_dVi (v := ((m_s0 (gU a2 88 d1 (nI nx)) b2 mn).1)) (I1 := I2) (J1 := (m_sJ J2 (gU a2 88 d1 (nI nx)) b2 mn)) (a1 := (gU a2 88 d1 (nI nx))) (b1 := (m_sB (gU a2 88 d1 (nI nx)) b2 mn)) (As := []) (rest := []) ⟨hx, hb, hml, hown, hts⟩ G 5 (kX5_solve l D ad cy I2 J2 (gU a2 88 d1 (nI nx)) b2 H.size mn h50 hmn2 (m_pk_S hpk (by omega) (by omega))) (cwV 0 hts gX5_corners_X5_solve rfl rfl rfl (by decide +kernel) ⟨Nat.le_of_ble_eq_true rfl, Nat.le_of_ble_eq_true rfl⟩) (by decide) rfl rfl rfl rfl hl.1 rfl (Nat.le_of_ble_eq_true rfl) ⟨Nat.zero_le _, Nat.zero_le _⟩ dX5_corners_120 (fun H locs G => ?_)
              refine lv_if_eq (tgt := 44) hx hb dX5_corners_123 (by decide) (fun c123 => ?_) (fun c123 => ?_)
              · skip
                have q4 : nI d1 = nI (d1 + 1) - 1 := (nI_pred _).symm
                have hl := lv_chg hl 4 rfl (congrArg Value.int q4)
                exact ih44  (d1 + 1) f I2 (m_sJ J2 (gU a2 88 d1 (nI nx)) b2 mn) (gU a2 88 d1 (nI nx)) (m_sB (gU a2 88 d1 (nI nx)) b2 mn) _ _ _ (by first | exact (by obtain ⟨F, hF, eF⟩ := m_cor_step (x := (I2, J2, a2, b2)) h2; refine ⟨F, Nat.lt_of_lt_of_le (show m_mu (gU a2 88 d1 (nI nx)) (d1 + 1) < m_mu a2 (d1 + 1) by have := (m_mu_A eq0 hq0 hnx1 hnx2).1; have : 0 < 20 ^ (5 - d1) := Nat.pow_pos (by decide); omega) hF, eF.trans ?_⟩; simp only [m_cS, m_cT, m_cA, m_cP, ← enx]; (repeat (first | rw [if_neg c16] | rw [if_neg c46] | rw [if_pos c77] | rw [if_pos c94] | rw [if_pos c123]))) | exact (by obtain ⟨F, hF, eF⟩ := m_cor_step (x := (I2, J2, a2, b2)) h2; refine ⟨F, Nat.lt_of_lt_of_le (m_mu_P eq0 hq0 hnx1 (by omega) (by omega)) hF, eF.trans ?_⟩; simp only [m_cS, m_cT, m_cA, m_cP, ← enx]; (repeat (first | rw [if_neg c16] | rw [if_neg c46] | rw [if_pos c77] | rw [if_pos c94] | rw [if_pos c123]))) | exact (by obtain ⟨F, hF, eF⟩ := m_cor_step (x := (I2, J2, a2, b2)) h2; refine ⟨F, Nat.lt_of_lt_of_le (show m_mu (gU a2 88 d1 (nI nx)) d1 < m_mu a2 (d1 + 1) by have h9 := m_mu_A eq0 hq0 hnx1 hnx2; have : m_mu a2 (d1 + 1) = m_mu a2 d1 + (19 - cN (a2 88 d1 + 1)) * 20 ^ (5 - d1) := rfl; rw [h9.2, this, cN_of eq0 (by omega)]; have h8 : 1 * 20 ^ (5 - d1) ≤ (19 - q0) * 20 ^ (5 - d1) := Nat.mul_le_mul_right _ (by omega); have : 0 < 20 ^ (5 - d1) := Nat.pow_pos (by decide); omega) hF, eF.trans ?_⟩; simp only [m_cS, m_cT, m_cA, m_cP, ← enx]; (repeat (first | rw [if_neg c16] | rw [if_neg c46] | rw [if_pos c77] | rw [if_pos c94] | rw [if_pos c123])))) (by first | exact m_pk_A hpk (by omega) | exact m_pk_P hpk (by omega) | exact m_pk_B hpk) (by omega) (h50) (h51) (by first | exact hf01 | exact Or.inr rfl) (by first | (have h9 := (m_mu_A eq0 hq0 hnx1 hnx2).1; have : 0 < 20 ^ (5 - d1) := Nat.pow_pos (by decide); omega) | (have h9 := m_mu_P eq0 hq0 hnx1 (by omega) (by omega); omega) | (have h9 := m_mu_A eq0 hq0 hnx1 hnx2; have h7 : m_mu a2 (d1 + 1) = m_mu a2 d1 + (19 - cN (a2 88 d1 + 1)) * 20 ^ (5 - d1) := rfl; rw [cN_of eq0 (by omega)] at h7; have h8 : 1 * 20 ^ (5 - d1) ≤ (19 - q0) * 20 ^ (5 - d1) := Nat.mul_le_mul_right _ (by omega); have : 0 < 20 ^ (5 - d1) := Nat.pow_pos (by decide); rw [h9.2]; omega)) G (lv_sub hl [0, 1, 2, 3, 4] rfl)
              · skip
                refine lv_aload_n hx hb dX5_corners_126 rfl (lv_at hl 0 rfl) ?_
                refine lv_iload_n hx hb dX5_corners_127 rfl (lv_at hl 1 rfl) ?_
                refine gx_dVi (v := (m_keeps (m_sJ J2 (gU a2 88 d1 (nI nx)) b2 mn) (gU a2 88 d1 (nI nx)) (m_sB (gU a2 88 d1 (nI nx)) b2 mn) set mn mr)) (I1 := I2) (J1 := (m_sJ J2 (gU a2 88 d1 (nI nx)) b2 mn)) (a1 := (gU a2 88 d1 (nI nx))) (b1 := (m_sB (gU a2 88 d1 (nI nx)) b2 mn)) (As := [.int set]) (rest := []) ⟨hx, hb, hml, hown, hts⟩ G 5 (kX5_keeps l D ad cy I2 (m_sJ J2 (gU a2 88 d1 (nI nx)) b2 mn) (gU a2 88 d1 (nI nx)) (m_sB (gU a2 88 d1 (nI nx)) b2 mn) H.size mn mr set h50 hmn2 h51 hmr2) (cwV 1 hts gX5_corners_X5_keeps rfl rfl rfl (by decide +kernel) ⟨Nat.le_of_ble_eq_true rfl, Nat.le_of_ble_eq_true rfl⟩) (by decide) rfl rfl rfl rfl hl.1 rfl (Nat.le_of_ble_eq_true rfl) ⟨Nat.zero_le _, Nat.zero_le _⟩ dX5_corners_128 (fun H locs G => ?_)
                refine lv_if_eq (tgt := 44) hx hb dX5_corners_131 (by decide) (fun c131 => ?_) (fun c131 => ?_)
                · skip
                  have q4 : nI d1 = nI (d1 + 1) - 1 := (nI_pred _).symm
                  have hl := lv_chg hl 4 rfl (congrArg Value.int q4)
                  exact ih44  (d1 + 1) f I2 (m_sJ J2 (gU a2 88 d1 (nI nx)) b2 mn) (gU a2 88 d1 (nI nx)) (m_sB (gU a2 88 d1 (nI nx)) b2 mn) _ _ _ (by first | exact (by obtain ⟨F, hF, eF⟩ := m_cor_step (x := (I2, J2, a2, b2)) h2; refine ⟨F, Nat.lt_of_lt_of_le (show m_mu (gU a2 88 d1 (nI nx)) (d1 + 1) < m_mu a2 (d1 + 1) by have := (m_mu_A eq0 hq0 hnx1 hnx2).1; have : 0 < 20 ^ (5 - d1) := Nat.pow_pos (by decide); omega) hF, eF.trans ?_⟩; simp only [m_cS, m_cT, m_cA, m_cP, ← enx]; (repeat (first | rw [if_neg c16] | rw [if_neg c46] | rw [if_pos c77] | rw [if_pos c94] | rw [if_neg c123] | rw [if_pos c131]))) | exact (by obtain ⟨F, hF, eF⟩ := m_cor_step (x := (I2, J2, a2, b2)) h2; refine ⟨F, Nat.lt_of_lt_of_le (m_mu_P eq0 hq0 hnx1 (by omega) (by omega)) hF, eF.trans ?_⟩; simp only [m_cS, m_cT, m_cA, m_cP, ← enx]; (repeat (first | rw [if_neg c16] | rw [if_neg c46] | rw [if_pos c77] | rw [if_pos c94] | rw [if_neg c123] | rw [if_pos c131]))) | exact (by obtain ⟨F, hF, eF⟩ := m_cor_step (x := (I2, J2, a2, b2)) h2; refine ⟨F, Nat.lt_of_lt_of_le (show m_mu (gU a2 88 d1 (nI nx)) d1 < m_mu a2 (d1 + 1) by have h9 := m_mu_A eq0 hq0 hnx1 hnx2; have : m_mu a2 (d1 + 1) = m_mu a2 d1 + (19 - cN (a2 88 d1 + 1)) * 20 ^ (5 - d1) := rfl; rw [h9.2, this, cN_of eq0 (by omega)]; have h8 : 1 * 20 ^ (5 - d1) ≤ (19 - q0) * 20 ^ (5 - d1) := Nat.mul_le_mul_right _ (by omega); have : 0 < 20 ^ (5 - d1) := Nat.pow_pos (by decide); omega) hF, eF.trans ?_⟩; simp only [m_cS, m_cT, m_cA, m_cP, ← enx]; (repeat (first | rw [if_neg c16] | rw [if_neg c46] | rw [if_pos c77] | rw [if_pos c94] | rw [if_neg c123] | rw [if_pos c131])))) (by first | exact m_pk_A hpk (by omega) | exact m_pk_P hpk (by omega) | exact m_pk_B hpk) (by omega) (h50) (h51) (by first | exact hf01 | exact Or.inr rfl) (by first | (have h9 := (m_mu_A eq0 hq0 hnx1 hnx2).1; have : 0 < 20 ^ (5 - d1) := Nat.pow_pos (by decide); omega) | (have h9 := m_mu_P eq0 hq0 hnx1 (by omega) (by omega); omega) | (have h9 := m_mu_A eq0 hq0 hnx1 hnx2; have h7 : m_mu a2 (d1 + 1) = m_mu a2 d1 + (19 - cN (a2 88 d1 + 1)) * 20 ^ (5 - d1) := rfl; rw [cN_of eq0 (by omega)] at h7; have h8 : 1 * 20 ^ (5 - d1) ≤ (19 - q0) * 20 ^ (5 - d1) := Nat.mul_le_mul_right _ (by omega); have : 0 < 20 ^ (5 - d1) := Nat.pow_pos (by decide); rw [h9.2]; omega)) G (lv_sub hl [0, 1, 2, 3, 4] rfl)
                · skip
                  refine lv_iconst (v := 1) hx hb dX5_corners_134 (by decide) ?_
                  refine lv_istore_n (lv' := [(3, .int 1), (0, .ref (ad 5)), (1, .int set), (2, .int al), (4, .int (nI d1))]) hx hb dX5_corners_135 rfl hl (by decide) rfl (fun ls hl => ?_)
                  refine lv_iload_n hx hb dX5_corners_136 rfl (lv_at hl 3 rfl) ?_
                  refine lv_if_ne (tgt := 142) hx hb dX5_corners_137 (by decide) (fun c137 => ?_) (fun c137 => ?_)
                  · skip
                    refine lv_aload_n hx hb dX5_corners_142 rfl (lv_at hl 1 rfl) ?_
                    refine gx_dVv (I1 := (m_tI I2)) (J1 := (m_tJ I2 (m_sJ J2 (gU a2 88 d1 (nI nx)) b2 mn) (gU a2 88 d1 (nI nx)) (m_sB (gU a2 88 d1 (nI nx)) b2 mn) mn)) (a1 := (gU a2 88 d1 (nI nx))) (b1 := (m_tB I2 (m_sJ J2 (gU a2 88 d1 (nI nx)) b2 mn) (gU a2 88 d1 (nI nx)) (m_sB (gU a2 88 d1 (nI nx)) b2 mn) mn)) (As := []) (rest := []) ⟨hx, hb, hml, hown, hts⟩ G 5 (kX5_take l D ad cy I2 (m_sJ J2 (gU a2 88 d1 (nI nx)) b2 mn) (gU a2 88 d1 (nI nx)) (m_sB (gU a2 88 d1 (nI nx)) b2 mn) H.size mn h50 hmn2) (cwV 0 hts gX5_corners_X5_take rfl rfl rfl (by decide +kernel) ⟨Nat.le_of_ble_eq_true rfl, Nat.le_of_ble_eq_true rfl⟩) (by decide) rfl rfl rfl rfl hl.1 rfl (Nat.le_of_ble_eq_true rfl) ⟨Nat.zero_le _, Nat.zero_le _⟩ dX5_corners_143 (fun H locs G => ?_)
                    refine lv_goto (tgt := 44) hx hb dX5_corners_146 (by decide) ?_
                    have q4 : nI d1 = nI (d1 + 1) - 1 := (nI_pred _).symm
                    have hl := lv_chg hl 4 rfl (congrArg Value.int q4)
                    exact ih44  (d1 + 1) 1 (m_tI I2) (m_tJ I2 (m_sJ J2 (gU a2 88 d1 (nI nx)) b2 mn) (gU a2 88 d1 (nI nx)) (m_sB (gU a2 88 d1 (nI nx)) b2 mn) mn) (gU a2 88 d1 (nI nx)) (m_tB I2 (m_sJ J2 (gU a2 88 d1 (nI nx)) b2 mn) (gU a2 88 d1 (nI nx)) (m_sB (gU a2 88 d1 (nI nx)) b2 mn) mn) _ _ _ (by first | exact (by obtain ⟨F, hF, eF⟩ := m_cor_step (x := (I2, J2, a2, b2)) h2; refine ⟨F, Nat.lt_of_lt_of_le (show m_mu (gU a2 88 d1 (nI nx)) (d1 + 1) < m_mu a2 (d1 + 1) by have := (m_mu_A eq0 hq0 hnx1 hnx2).1; have : 0 < 20 ^ (5 - d1) := Nat.pow_pos (by decide); omega) hF, eF.trans ?_⟩; simp only [m_cS, m_cT, m_cA, m_cP, ← enx]; (repeat (first | rw [if_neg c16] | rw [if_neg c46] | rw [if_pos c77] | rw [if_pos c94] | rw [if_neg c123] | rw [if_neg c131] | rw [if_neg c137]))) | exact (by obtain ⟨F, hF, eF⟩ := m_cor_step (x := (I2, J2, a2, b2)) h2; refine ⟨F, Nat.lt_of_lt_of_le (m_mu_P eq0 hq0 hnx1 (by omega) (by omega)) hF, eF.trans ?_⟩; simp only [m_cS, m_cT, m_cA, m_cP, ← enx]; (repeat (first | rw [if_neg c16] | rw [if_neg c46] | rw [if_pos c77] | rw [if_pos c94] | rw [if_neg c123] | rw [if_neg c131] | rw [if_neg c137]))) | exact (by obtain ⟨F, hF, eF⟩ := m_cor_step (x := (I2, J2, a2, b2)) h2; refine ⟨F, Nat.lt_of_lt_of_le (show m_mu (gU a2 88 d1 (nI nx)) d1 < m_mu a2 (d1 + 1) by have h9 := m_mu_A eq0 hq0 hnx1 hnx2; have : m_mu a2 (d1 + 1) = m_mu a2 d1 + (19 - cN (a2 88 d1 + 1)) * 20 ^ (5 - d1) := rfl; rw [h9.2, this, cN_of eq0 (by omega)]; have h8 : 1 * 20 ^ (5 - d1) ≤ (19 - q0) * 20 ^ (5 - d1) := Nat.mul_le_mul_right _ (by omega); have : 0 < 20 ^ (5 - d1) := Nat.pow_pos (by decide); omega) hF, eF.trans ?_⟩; simp only [m_cS, m_cT, m_cA, m_cP, ← enx]; (repeat (first | rw [if_neg c16] | rw [if_neg c46] | rw [if_pos c77] | rw [if_pos c94] | rw [if_neg c123] | rw [if_neg c131] | rw [if_neg c137])))) (by first | exact m_pk_A hpk (by omega) | exact m_pk_P hpk (by omega) | exact m_pk_B hpk) (by omega) (h50) (h51) (by first | exact hf01 | exact Or.inr rfl) (by first | (have h9 := (m_mu_A eq0 hq0 hnx1 hnx2).1; have : 0 < 20 ^ (5 - d1) := Nat.pow_pos (by decide); omega) | (have h9 := m_mu_P eq0 hq0 hnx1 (by omega) (by omega); omega) | (have h9 := m_mu_A eq0 hq0 hnx1 hnx2; have h7 : m_mu a2 (d1 + 1) = m_mu a2 d1 + (19 - cN (a2 88 d1 + 1)) * 20 ^ (5 - d1) := rfl; rw [cN_of eq0 (by omega)] at h7; have h8 : 1 * 20 ^ (5 - d1) ≤ (19 - q0) * 20 ^ (5 - d1) := Nat.mul_le_mul_right _ (by omega); have : 0 < 20 ^ (5 - d1) := Nat.pow_pos (by decide); rw [h9.2]; omega)) G (lv_sub hl [1, 2, 3, 0, 4] rfl)
                  · skip
                    refine lv_iconst (v := 1) hx hb dX5_corners_140 (by decide) ?_
                    exact gx_zr hx hb hr hlocks G hQ (rfl) ⟨by unfold m_corners; rw [if_neg c16]; obtain ⟨F, hF, eF⟩ := m_cor_step (x := (I2, J2, a2, b2)) h2; rw [eF]; simp only [m_cS, m_cT, m_cA, m_cP, ← enx]; (repeat (first | rw [if_neg c16] | rw [if_neg c46] | rw [if_pos c77] | rw [if_pos c94] | rw [if_neg c123] | rw [if_neg c131] | rw [if_pos c137])), by unfold m_corners; rw [if_neg c16]; obtain ⟨F, hF, eF⟩ := m_cor_step (x := (I2, J2, a2, b2)) h2; rw [eF]; simp only [m_cS, m_cT, m_cA, m_cP, ← enx]; (repeat (first | rw [if_neg c16] | rw [if_neg c46] | rw [if_pos c77] | rw [if_pos c94] | rw [if_neg c123] | rw [if_neg c131] | rw [if_pos c137]))⟩ dX5_corners_141
            · skip
              have n94 := gn_nle (X := mn) (Y := d1 + 1) h50 (gn_add rfl rfl) (by omega) (by omega) c94
              refine lv_aload_n hx hb dX5_corners_97 rfl (lv_at hl 0 rfl) ?_
              refine gx_get hx hb hts hinX5 hown G 5 (by decide) rfl rfl 21 (by decide) rfl lk54 rfl (v := .ref (ad 88)) rfl dX5_corners_98 ?_
              refine lv_iload hx hb dX5_corners_101 (lv_at hl 4 rfl) ?_
              refine lv_iconst (v := 1) hx hb dX5_corners_103 (by decide) ?_
              refine lv_iadd hx hb dX5_corners_104 ?_
              refine lv_aload_n hx hb dX5_corners_105 rfl (lv_at hl 0 rfl) ?_
              refine gx_get hx hb hts hinX5 hown G 5 (by decide) rfl rfl 21 (by decide) rfl lk54 rfl (v := .ref (ad 88)) rfl dX5_corners_106 ?_
              refine lv_iload hx hb dX5_corners_109 (lv_at hl 4 rfl) ?_
              refine gx_iald hx hb G 88 (by decide) (rfl) (by decide) d1 rfl (by omega) dX5_corners_111 ?_
              rw [gU_s]
              refine gx_iast hx hb G 88 (by decide) (rfl) (by decide) (d1 + 1) (gn_add rfl rfl) (by omega) dX5_corners_112 (fun H locs G => ?_)
              refine lv_iinc (v := (nI (d1 + 1))) (lv' := [(4, .int (nI (d1 + 1))), (0, .ref (ad 5)), (1, .int set), (2, .int al), (3, .int f)]) hx hb dX5_corners_113 hl (k := 4) rfl (gn_add (X := d1) (Y := 1) rfl rfl) (by decide) rfl (fun ls hl => ?_)
              refine lv_goto (tgt := 44) hx hb dX5_corners_116 (by decide) ?_
              have q4 : nI (d1 + 1) = nI (d1 + 1 + 1) - 1 := (nI_pred _).symm
              have hl := lv_chg hl 0 rfl (congrArg Value.int q4)
              exact ih44  (d1 + 1 + 1) f I2 J2 (gU (gU a2 88 d1 (nI nx)) 88 (d1 + 1) (nI nx)) b2 _ _ _ (by first | exact (by obtain ⟨F, hF, eF⟩ := m_cor_step (x := (I2, J2, a2, b2)) h2; refine ⟨F, Nat.lt_of_lt_of_le (show m_mu (gU a2 88 d1 (nI nx)) (d1 + 1) < m_mu a2 (d1 + 1) by have := (m_mu_A eq0 hq0 hnx1 hnx2).1; have : 0 < 20 ^ (5 - d1) := Nat.pow_pos (by decide); omega) hF, eF.trans ?_⟩; simp only [m_cS, m_cT, m_cA, m_cP, ← enx]; (repeat (first | rw [if_neg c16] | rw [if_neg c46] | rw [if_pos c77] | rw [if_neg c94]))) | exact (by obtain ⟨F, hF, eF⟩ := m_cor_step (x := (I2, J2, a2, b2)) h2; refine ⟨F, Nat.lt_of_lt_of_le (m_mu_P eq0 hq0 hnx1 (by omega) (by omega)) hF, eF.trans ?_⟩; simp only [m_cS, m_cT, m_cA, m_cP, ← enx]; (repeat (first | rw [if_neg c16] | rw [if_neg c46] | rw [if_pos c77] | rw [if_neg c94]))) | exact (by obtain ⟨F, hF, eF⟩ := m_cor_step (x := (I2, J2, a2, b2)) h2; refine ⟨F, Nat.lt_of_lt_of_le (show m_mu (gU a2 88 d1 (nI nx)) d1 < m_mu a2 (d1 + 1) by have h9 := m_mu_A eq0 hq0 hnx1 hnx2; have : m_mu a2 (d1 + 1) = m_mu a2 d1 + (19 - cN (a2 88 d1 + 1)) * 20 ^ (5 - d1) := rfl; rw [h9.2, this, cN_of eq0 (by omega)]; have h8 : 1 * 20 ^ (5 - d1) ≤ (19 - q0) * 20 ^ (5 - d1) := Nat.mul_le_mul_right _ (by omega); have : 0 < 20 ^ (5 - d1) := Nat.pow_pos (by decide); omega) hF, eF.trans ?_⟩; simp only [m_cS, m_cT, m_cA, m_cP, ← enx]; (repeat (first | rw [if_neg c16] | rw [if_neg c46] | rw [if_pos c77] | rw [if_neg c94])))) (by first | exact m_pk_A hpk (by omega) | exact m_pk_P hpk (by omega) | exact m_pk_B hpk) (by omega) (h50) (h51) (by first | exact hf01 | exact Or.inr rfl) (by first | (have h9 := (m_mu_A eq0 hq0 hnx1 hnx2).1; have : 0 < 20 ^ (5 - d1) := Nat.pow_pos (by decide); omega) | (have h9 := m_mu_P eq0 hq0 hnx1 (by omega) (by omega); omega) | (have h9 := m_mu_A eq0 hq0 hnx1 hnx2; have h7 : m_mu a2 (d1 + 1) = m_mu a2 d1 + (19 - cN (a2 88 d1 + 1)) * 20 ^ (5 - d1) := rfl; rw [cN_of eq0 (by omega)] at h7; have h8 : 1 * 20 ^ (5 - d1) ≤ (19 - q0) * 20 ^ (5 - d1) := Nat.mul_le_mul_right _ (by omega); have : 0 < 20 ^ (5 - d1) := Nat.pow_pos (by decide); rw [h9.2]; omega)) G (lv_sub hl [1, 2, 3, 4, 0] rfl)
          · skip
            have n77 := gn_nle (X := nx) (Y := 17) rfl rfl (by omega) (by omega) c77
            obtain ⟨x_1, ex_1⟩ : ∃ z : Int32, z = (nI d1) + -1 := ⟨_, rfl⟩
            refine lv_iinc (v := x_1) (lv' := [(4, .int x_1), (0, .ref (ad 5)), (1, .int set), (2, .int al), (3, .int f)]) hx hb dX5_corners_80 hl (k := 4) rfl ex_1.symm (by decide) rfl (fun ls hl => ?_)
            refine lv_goto (tgt := 44) hx hb dX5_corners_83 (by decide) ?_
            have q4 : x_1 = nI d1 - 1 := by rw [ex_1]; exact gx_m1 _
            have hl := lv_chg hl 0 rfl (congrArg Value.int q4)
            exact ih44  d1 f I2 J2 (gU a2 88 d1 (nI nx)) b2 _ _ _ (by first | exact (by obtain ⟨F, hF, eF⟩ := m_cor_step (x := (I2, J2, a2, b2)) h2; refine ⟨F, Nat.lt_of_lt_of_le (show m_mu (gU a2 88 d1 (nI nx)) (d1 + 1) < m_mu a2 (d1 + 1) by have := (m_mu_A eq0 hq0 hnx1 hnx2).1; have : 0 < 20 ^ (5 - d1) := Nat.pow_pos (by decide); omega) hF, eF.trans ?_⟩; simp only [m_cS, m_cT, m_cA, m_cP, ← enx]; (repeat (first | rw [if_neg c16] | rw [if_neg c46] | rw [if_neg c77]))) | exact (by obtain ⟨F, hF, eF⟩ := m_cor_step (x := (I2, J2, a2, b2)) h2; refine ⟨F, Nat.lt_of_lt_of_le (m_mu_P eq0 hq0 hnx1 (by omega) (by omega)) hF, eF.trans ?_⟩; simp only [m_cS, m_cT, m_cA, m_cP, ← enx]; (repeat (first | rw [if_neg c16] | rw [if_neg c46] | rw [if_neg c77]))) | exact (by obtain ⟨F, hF, eF⟩ := m_cor_step (x := (I2, J2, a2, b2)) h2; refine ⟨F, Nat.lt_of_lt_of_le (show m_mu (gU a2 88 d1 (nI nx)) d1 < m_mu a2 (d1 + 1) by have h9 := m_mu_A eq0 hq0 hnx1 hnx2; have : m_mu a2 (d1 + 1) = m_mu a2 d1 + (19 - cN (a2 88 d1 + 1)) * 20 ^ (5 - d1) := rfl; rw [h9.2, this, cN_of eq0 (by omega)]; have h8 : 1 * 20 ^ (5 - d1) ≤ (19 - q0) * 20 ^ (5 - d1) := Nat.mul_le_mul_right _ (by omega); have : 0 < 20 ^ (5 - d1) := Nat.pow_pos (by decide); omega) hF, eF.trans ?_⟩; simp only [m_cS, m_cT, m_cA, m_cP, ← enx]; (repeat (first | rw [if_neg c16] | rw [if_neg c46] | rw [if_neg c77])))) (by first | exact m_pk_A hpk (by omega) | exact m_pk_P hpk (by omega) | exact m_pk_B hpk) (by omega) (h50) (h51) (by first | exact hf01 | exact Or.inr rfl) (by first | (have h9 := (m_mu_A eq0 hq0 hnx1 hnx2).1; have : 0 < 20 ^ (5 - d1) := Nat.pow_pos (by decide); omega) | (have h9 := m_mu_P eq0 hq0 hnx1 (by omega) (by omega); omega) | (have h9 := m_mu_A eq0 hq0 hnx1 hnx2; have h7 : m_mu a2 (d1 + 1) = m_mu a2 d1 + (19 - cN (a2 88 d1 + 1)) * 20 ^ (5 - d1) := rfl; rw [cN_of eq0 (by omega)] at h7; have h8 : 1 * 20 ^ (5 - d1) ≤ (19 - q0) * 20 ^ (5 - d1) := Nat.mul_le_mul_right _ (by omega); have : 0 < 20 ^ (5 - d1) := Nat.pow_pos (by decide); rw [h9.2]; omega)) G (lv_sub hl [1, 2, 3, 4, 0] rfl)
    have q4 : 0 = nI 1 - 1 := rfl
    have hl := lv_chg hl 0 rfl (congrArg Value.int q4)
    exact K44 (m_mu (gU a 88 0 (-1)) 1 + 1) 1 0 I J (gU a 88 0 (-1)) b _ _ _ (⟨mCF, by have := m_mu_lt (gU a 88 0 (-1)) 1 (by decide); omega, rfl⟩) (⟨fun i hi => absurd hi (by omega), fun d e => ⟨0, by rw [show d = 0 by omega, gU_s]; decide, by decide⟩⟩) (by omega) (hmn) (hmr) (Or.inl rfl) (Nat.lt_succ_self _) G (lv_sub hl [2, 3, 4, 1, 0] rfl)
  · skip
    have n16 := gn_eq (X := mn) (Y := 0) hmn rfl (by omega) (by omega) c16
    refine lv_aload_n hx hb dX5_corners_19 rfl (lv_at hl 2 rfl) ?_
    refine lv_lconst (v := 1) hx hb dX5_corners_20 (by decide) ?_
    refine gx_putJ hx hb hts hinX5 tyX5 tyX5_ok nmX5 hown G 5 (by decide) rfl rfl 23 (by decide) rfl lk74 rfl rfl (tyX5_ok 23 (by decide)) dX5_corners_21 (fun H locs G => ?_)
    refine lv_aload_n hx hb dX5_corners_24 rfl (lv_at hl 2 rfl) ?_
    refine lv_iload_n hx hb dX5_corners_25 rfl (lv_at hl 3 rfl) ?_
    refine gx_dVi (v := (m_keeps (gU J 5 23 1) (gU a 88 0 (-1)) b set mn mr)) (I1 := I) (J1 := (gU J 5 23 1)) (a1 := (gU a 88 0 (-1))) (b1 := b) (As := [.int set]) (rest := []) ⟨hx, hb, hml, hown, hts⟩ G 5 (kX5_keeps l D ad cy I (gU J 5 23 1) (gU a 88 0 (-1)) b H.size mn mr set hmn hmn2 hmr hmr2) (cwV 1 hts gX5_corners_X5_keeps rfl rfl rfl (by decide +kernel) ⟨Nat.le_of_ble_eq_true rfl, Nat.le_of_ble_eq_true rfl⟩) (by decide) rfl rfl rfl rfl hl.1 rfl (Nat.le_of_ble_eq_true rfl) ⟨Nat.zero_le _, Nat.zero_le _⟩ dX5_corners_26 (fun H locs G => ?_)
    refine lv_istore_n (lv' := [(3, .int (m_keeps (gU J 5 23 1) (gU a 88 0 (-1)) b set mn mr)), (4, .int 0), (0, .ref (ad 5)), (1, .int set), (2, .int al)]) hx hb dX5_corners_29 rfl hl (by decide) rfl (fun ls hl => ?_)
    refine lv_iload_n hx hb dX5_corners_30 rfl (lv_at hl 0 rfl) ?_
    refine lv_if_eq (tgt := 42) hx hb dX5_corners_31 (by decide) (fun c31 => ?_) (fun c31 => ?_)
    · skip
      refine lv_iload_n hx hb dX5_corners_42 rfl (lv_at hl 0 rfl) ?_
      exact gx_zr hx hb hr hlocks G hQ (z01 (m_keeps_01 _ _ _ _ _ _)) ⟨by unfold m_corners; rw [if_pos c16]; unfold m_c0; (repeat (first | rw [if_pos c16] | rw [if_pos c31])); (try rfl), by unfold m_corners; rw [if_pos c16]; unfold m_c0; (repeat (first | rw [if_pos c16] | rw [if_pos c31])); (try rfl)⟩ dX5_corners_43
    · skip
      refine lv_iload_n hx hb dX5_corners_34 rfl (lv_at hl 4 rfl) ?_
      refine lv_if_eq (tgt := 42) hx hb dX5_corners_35 (by decide) (fun c35 => ?_) (fun c35 => ?_)
      · skip
        refine lv_iload_n hx hb dX5_corners_42 rfl (lv_at hl 0 rfl) ?_
        exact gx_zr hx hb hr hlocks G hQ (z01 (m_keeps_01 _ _ _ _ _ _)) ⟨by unfold m_corners; rw [if_pos c16]; unfold m_c0; (repeat (first | rw [if_pos c16] | rw [if_neg c31] | rw [if_pos c35])); (try rfl), by unfold m_corners; rw [if_pos c16]; unfold m_c0; (repeat (first | rw [if_pos c16] | rw [if_neg c31] | rw [if_pos c35])); (try rfl)⟩ dX5_corners_43
      · skip
        refine lv_aload_n hx hb dX5_corners_38 rfl (lv_at hl 2 rfl) ?_
        refine gx_dVv (I1 := (m_tI I)) (J1 := (m_tJ I (gU J 5 23 1) (gU a 88 0 (-1)) b mn)) (a1 := (gU a 88 0 (-1))) (b1 := (m_tB I (gU J 5 23 1) (gU a 88 0 (-1)) b mn)) (As := []) (rest := []) ⟨hx, hb, hml, hown, hts⟩ G 5 (kX5_take l D ad cy I (gU J 5 23 1) (gU a 88 0 (-1)) b H.size mn hmn hmn2) (cwV 0 hts gX5_corners_X5_take rfl rfl rfl (by decide +kernel) ⟨Nat.le_of_ble_eq_true rfl, Nat.le_of_ble_eq_true rfl⟩) (by decide) rfl rfl rfl rfl hl.1 rfl (Nat.le_of_ble_eq_true rfl) ⟨Nat.zero_le _, Nat.zero_le _⟩ dX5_corners_39 (fun H locs G => ?_)
        refine lv_iload_n hx hb dX5_corners_42 rfl (lv_at hl 0 rfl) ?_
        exact gx_zr hx hb hr hlocks G hQ (z01 (m_keeps_01 _ _ _ _ _ _)) ⟨by unfold m_corners; rw [if_pos c16]; unfold m_c0; (repeat (first | rw [if_pos c16] | rw [if_neg c31] | rw [if_neg c35])); (try rfl), by unfold m_corners; rw [if_pos c16]; unfold m_c0; (repeat (first | rw [if_pos c16] | rw [if_neg c31] | rw [if_neg c35])); (try rfl)⟩ dX5_corners_43
