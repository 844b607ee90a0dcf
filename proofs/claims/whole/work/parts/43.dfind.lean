/-! THE MATHEMATICS, 9: findPoint and minimise do what they are for -/
abbrev ma_X : Type := gL × gF × gL
def ma_DX (nc nl : Nat) (V : Nat → Nat → Int) (x : ma_X) : Prop := ma_DI nc nl V x.1 x.2.1 x.2.2
def ma_kx (nc : Nat) (V : Nat → Nat → Int) (x : ma_X) : Nat → (Nat → Int) → Int := ma_k (ma_oo nc V x.2.1)
def ma_fx (x y : ma_X) : Prop := (∀ k j, ¬ (k = 4 ∧ j = 6) → y.1 k j = x.1 k j) ∧ (∀ k j, k ≠ 15 → k ≠ 16 → y.2.1 k j = x.2.1 k j) ∧ (∀ k j, k ≠ 14 → k ≠ 18 → (k < 48 ∨ 69 ≤ k) → y.2.2 k j = x.2.2 k j)
theorem ma_fx_r (x : ma_X) : ma_fx x x := ⟨fun _ _ _ => rfl, fun _ _ _ _ => rfl, fun _ _ _ _ _ => rfl⟩
theorem ma_fx_t {x y z : ma_X} (h1 : ma_fx x y) (h2 : ma_fx y z) : ma_fx x z := ⟨fun k j h => (h2.1 k j h).trans (h1.1 k j h), fun k j a1 a2 => (h2.2.1 k j a1 a2).trans (h1.2.1 k j a1 a2), fun k j a1 a2 a3 => (h2.2.2 k j a1 a2 a3).trans (h1.2.2 k j a1 a2 a3)⟩
def ma_fe (nc nl : Nat) (V : Nat → Nat → Int) (x : ma_X) : Prop := ∀ j, j < nc + nl → 0 ≤ ma_kx nc V x 5 (V j)
def ma_pv (nl nc r s : Nat) (x : ma_X) : ma_X := (d_pJ x.1 x.2.2 r s, d_pA x.1 x.2.1 x.2.2 r s, d_pB x.1 x.2.2 nl nc r s)
def ma_it (f : ma_X → ma_X) (x : ma_X) : Nat → ma_X
  | 0 => x
  | c + 1 => f (ma_it f x c)
theorem ma_it_s (f : ma_X → ma_X) (x : ma_X) : ∀ c, ma_it f (f x) c = ma_it f x (c + 1)
  | 0 => rfl
  | c + 1 => by
    show f (ma_it f (f x) c) = f (ma_it f x (c + 1))
    rw [ma_it_s f x c]
def ma_fr0 (nl : Nat) (x : ma_X) : Nat := (d_broken x.2.1 x.2.2 nl).toNatClampNeg
def ma_fs0 (nl nc : Nat) (x : ma_X) : Nat := (d_mend x.2.1 x.2.2 (ma_fr0 nl x) nc).toNatClampNeg
def ma_fgo (nl nc : Nat) (x : ma_X) : Prop := 0 ≤ d_broken x.2.1 x.2.2 nl ∧ 0 ≤ d_mend x.2.1 x.2.2 (ma_fr0 nl x) nc
def ma_fst (nl nc : Nat) (x : ma_X) : ma_X := ma_pv nl nc (ma_fr0 nl x) (ma_fs0 nl nc x) x
theorem ma_find_it (nl nc : Nat) : ∀ n x, (∀ c, c < n → ma_fgo nl nc (ma_it (ma_fst nl nc) x c)) ∨ ∃ c, c < n ∧ (∀ c', c' < c → ma_fgo nl nc (ma_it (ma_fst nl nc) x c')) ∧ ¬ ma_fgo nl nc (ma_it (ma_fst nl nc) x c) ∧ d_find nl nc n x = (if 0 ≤ d_broken (ma_it (ma_fst nl nc) x c).2.1 (ma_it (ma_fst nl nc) x c).2.2 nl then 0 else 1, ma_it (ma_fst nl nc) x c)
  | 0, x => Or.inl (fun c h => by omega)
  | n + 1, x => by
    by_cases hg : ma_fgo nl nc x
    · have e : d_find nl nc (n + 1) x = d_find nl nc n (ma_fst nl nc x) := by
        show (if 0 ≤ d_broken x.2.1 x.2.2 nl then if 0 ≤ d_mend x.2.1 x.2.2 (ma_fr0 nl x) nc then _ else _ else _) = _
        rw [if_pos hg.1, if_pos hg.2]
        rfl
      rcases ma_find_it nl nc n (ma_fst nl nc x) with h | ⟨c, h1, h2, h3, h4⟩
      · refine Or.inl (fun c hc => ?_)
        cases c with
        | zero => exact hg
        | succ c =>
          rw [← ma_it_s]
          exact h c (by omega)
      · refine Or.inr ⟨c + 1, by omega, fun c' hc' => ?_, ?_, ?_⟩
        · cases c' with
          | zero => exact hg
          | succ c' =>
            rw [← ma_it_s]
            exact h2 c' (by omega)
        · rw [← ma_it_s]
          exact h3
        · rw [e, ← ma_it_s]
          exact h4
    · refine Or.inr ⟨0, by omega, fun c' hc' => by omega, hg, ?_⟩
      show (if 0 ≤ d_broken x.2.1 x.2.2 nl then if 0 ≤ d_mend x.2.1 x.2.2 (ma_fr0 nl x) nc then _ else _ else _) = (if 0 ≤ d_broken x.2.1 x.2.2 nl then 0 else 1, x)
      by_cases h1 : 0 ≤ d_broken x.2.1 x.2.2 nl
      · rw [if_pos h1, if_pos h1, if_neg (fun h2 => hg ⟨h1, h2⟩)]
      · rw [if_neg h1, if_neg h1]
theorem ma_kO {nc nl : Nat} {V : Nat → Nat → Int} {x : ma_X} (D : ma_DX nc nl V x) {s s' : Nat} (h1 : s < 6) (h2 : s' < nc) : ma_kx nc V x s (V (ma_Oa x.2.1 s')) = if s' = s then ma_u (ma_oo nc V x.2.1) else 0 := by
  have n1 := D.1.1
  have := (ma_DI_LP D).2.2.2 s s' h1 (by omega)
  rw [ma_oo, ma_o_in h2] at this
  exact this
/-- where no line is broken, or what a broken line is -/
theorem ma_broken_s {nc nl : Nat} {V : Nat → Nat → Int} {x : ma_X} (D : ma_DX nc nl V x) : (¬ 0 ≤ d_broken x.2.1 x.2.2 nl ∧ ma_fe nc nl V x) ∨ (0 ≤ d_broken x.2.1 x.2.2 nl ∧ ma_fr0 nl x < nl ∧ ma_kx nc V x 5 (V (ma_Ba x.2.1 (ma_fr0 nl x))) < 0 ∧ ∀ j, j < ma_Ba x.2.1 (ma_fr0 nl x) → j < nc + nl → 0 ≤ ma_kx nc V x 5 (V j)) := by
  obtain ⟨⟨n1, n2, n3⟩, ⟨sp, d0⟩, du, dO, dB, dt, dr, dc, dd, di⟩ := D
  have D' : ma_DX nc nl V x := ⟨⟨n1, n2, n3⟩, ⟨sp, d0⟩, du, dO, dB, dt, dr, dc, dd, di⟩
  have out0 : ∀ s, s < nc → ma_kx nc V x 5 (V (ma_Oa x.2.1 s)) = 0 := fun s hs => by rw [ma_kO D' (by omega) hs, if_neg (by omega)]
  rcases ma_broken x.2.1 x.2.2 nl (by omega) with ⟨g, h⟩ | ⟨r, h1, h2, h3, h4⟩
  · refine Or.inl ⟨by rw [g]; decide, fun j hj => ?_⟩
    rcases dc j hj with ⟨s, a1, a2⟩ | ⟨r, a1, a2⟩
    · rw [← a2, out0 s a1]
      exact Int.le_refl _
    · have := ma_l0.mp (Classical.not_not.mp (h r a1))
      rw [dr r a1, a2] at this
      exact this
  · have er : ma_fr0 nl x = r := by
      unfold ma_fr0
      rw [h2, nI_clamp (by omega)]
    refine Or.inr ⟨by rw [h2]; exact nI_pos' (by omega), by rw [er]; exact h1, ?_, fun j hj hjN => ?_⟩
    · rw [er]
      have := fun q => h3 (ma_l0.mpr q)
      rw [dr r h1] at this
      exact Int.not_le.mp this
    · rw [er] at hj
      rcases dc j hjN with ⟨s, a1, a2⟩ | ⟨r', a1, a2⟩
      · rw [← a2, out0 s a1]
        exact Int.le_refl _
      · apply Classical.byContradiction
        intro hneg
        have q := h4 r' a1 (fun w => hneg (by
          have := ma_l0.mp w
          rw [dr r' a1, a2] at this
          exact this))
        rw [(dB r h1).1, (dB r' a1).1, nI_leI (by have := (dB r h1).2; omega) (by have := (dB r' a1).2; omega)] at q
        omega
theorem ma_mend_s {nc nl : Nat} {V : Nat → Nat → Int} {x : ma_X} (D : ma_DX nc nl V x) {r : Nat} (hr : r < nl) : (¬ 0 ≤ d_mend x.2.1 x.2.2 r nc ∧ ∀ s, s < nc → ma_kx nc V x s (V (ma_Ba x.2.1 r)) ≤ 0) ∨ ∃ s, 0 ≤ d_mend x.2.1 x.2.2 r nc ∧ (d_mend x.2.1 x.2.2 r nc).toNatClampNeg = s ∧ s < nc ∧ 0 < ma_kx nc V x s (V (ma_Ba x.2.1 r)) ∧ ∀ s', s' < nc → ma_Oa x.2.1 s' < ma_Oa x.2.1 s → ma_kx nc V x s' (V (ma_Ba x.2.1 r)) ≤ 0 := by
  obtain ⟨⟨n1, n2, n3⟩, ⟨sp, d0⟩, du, dO, dB, dt, dr, dc, dd, di⟩ := D
  rcases ma_mend x.2.1 x.2.2 r nc (by omega) with ⟨g, h⟩ | ⟨s, h1, h2, h3, h4⟩
  · refine Or.inl ⟨by rw [g]; decide, fun s hs => ?_⟩
    have := ma_l0.mp (Classical.not_not.mp (h s hs))
    rw [dt r hr s hs] at this
    show ma_k _ s _ ≤ 0
    omega
  · refine Or.inr ⟨s, by rw [h2]; exact nI_pos' (by omega), by rw [h2, nI_clamp (by omega)], h1, ?_, fun s' hs' hlt => ?_⟩
    · have := fun q => h3 (ma_l0.mpr q)
      rw [dt r hr s h1] at this
      have := Int.not_le.mp this
      show 0 < ma_k _ s _
      omega
    · apply Classical.byContradiction
      intro hneg
      have q := h4 s' hs' (fun w => hneg (by
        have := ma_l0.mp w
        rw [dt r hr s' hs'] at this
        show ma_k _ s' _ ≤ 0
        omega))
      rw [(dO s h1).1, (dO s' hs').1, nI_leI (by have := (dO s h1).2; omega) (by have := (dO s' hs').2; omega)] at q
      omega
theorem ma_fx_pv {nc nl : Nat} {V : Nat → Nat → Int} {x : ma_X} (D : ma_DX nc nl V x) {r s : Nat} (hr : r < nl) (hs : s < nc) (hp : ma_kx nc V x s (V (ma_Ba x.2.1 r)) ≠ 0) : ma_DX nc nl V (ma_pv nl nc r s x) ∧ ma_oo nc V (ma_pv nl nc r s x).2.1 = ma_rw (ma_oo nc V x.2.1) s (V (ma_Ba x.2.1 r)) ∧ (∀ s', ma_Oa (ma_pv nl nc r s x).2.1 s' = if s' = s then ma_Ba x.2.1 r else ma_Oa x.2.1 s') ∧ ma_fx x (ma_pv nl nc r s x) := by
  obtain ⟨q1, q2, q3, q4, q5, q6⟩ := ma_DI_piv D hr hs hp
  exact ⟨q1, q2, fun s' => congrFun q3 s', q6, q4, fun k j h1 _ h3 => q5 k j h1 h3⟩
theorem ma_find_s {nc nl n : Nat} {V : Nat → Nat → Int} {x : ma_X} (D : ma_DX nc nl V x) (hN : nc + nl ≤ 26) (hn : 65780 ≤ n) : ma_DX nc nl V (d_find nl nc n x).2 ∧ ma_fx x (d_find nl nc n x).2 ∧ (((d_find nl nc n x).1 = 1 ∧ ma_fe nc nl V (d_find nl nc n x).2) ∨ ((d_find nl nc n x).1 = 0 ∧ ∃ t, t < nc + nl ∧ ma_kx nc V (d_find nl nc n x).2 5 (V t) < 0 ∧ ∀ s, s < nc → ma_kx nc V (d_find nl nc n x).2 s (V t) ≤ 0)) := by
  have n1 := D.1.1
  have step : ∀ y : ma_X, ma_DX nc nl V y → ma_fgo nl nc y → ma_fr0 nl y < nl ∧ ma_fs0 nl nc y < nc ∧ ma_kx nc V y 5 (V (ma_Ba y.2.1 (ma_fr0 nl y))) < 0 ∧ (∀ j, j < ma_Ba y.2.1 (ma_fr0 nl y) → j < nc + nl → 0 ≤ ma_kx nc V y 5 (V j)) ∧ 0 < ma_kx nc V y (ma_fs0 nl nc y) (V (ma_Ba y.2.1 (ma_fr0 nl y))) ∧ (∀ s', s' < nc → ma_Oa y.2.1 s' < ma_Oa y.2.1 (ma_fs0 nl nc y) → ma_kx nc V y s' (V (ma_Ba y.2.1 (ma_fr0 nl y))) ≤ 0) ∧ ma_DX nc nl V (ma_fst nl nc y) ∧ (∀ s', ma_Oa (ma_fst nl nc y).2.1 s' = if s' = ma_fs0 nl nc y then ma_Ba y.2.1 (ma_fr0 nl y) else ma_Oa y.2.1 s') ∧ ma_fx y (ma_fst nl nc y) := by
    intro y Dy hg
    rcases ma_broken_s Dy with ⟨b1, -⟩ | ⟨-, b2, b3, b4⟩
    · exact absurd hg.1 b1
    · rcases ma_mend_s Dy b2 with ⟨c1, -⟩ | ⟨s, -, c2, c3, c4, c5⟩
      · exact absurd hg.2 c1
      · have es : ma_fs0 nl nc y = s := c2
        obtain ⟨p1, p2, p3, p4⟩ := ma_fx_pv Dy b2 c3 (by omega)
        rw [ma_fst, es]
        exact ⟨b2, c3, b3, b4, c4, c5, p1, p3, p4⟩
  have all : ∀ c, (∀ c', c' < c → ma_fgo nl nc (ma_it (ma_fst nl nc) x c')) → ma_DX nc nl V (ma_it (ma_fst nl nc) x c) ∧ ma_fx x (ma_it (ma_fst nl nc) x c) := by
    intro c
    induction c with
    | zero => intro _; exact ⟨D, ma_fx_r x⟩
    | succ c ih =>
      intro h
      obtain ⟨i1, i2⟩ := ih (fun c' hc' => h c' (by omega))
      obtain ⟨-, -, -, -, -, -, s7, -, s9⟩ := step _ i1 (h c (by omega))
      exact ⟨s7, ma_fx_t i2 s9⟩
  rcases ma_find_it nl nc n x with h | ⟨c, h1, h2, h3, h4⟩
  · exfalso
    have hA : ∀ c, c ≤ n → ma_DX nc nl V (ma_it (ma_fst nl nc) x c) := fun c hc => (all c (fun c' hc' => h c' (by omega))).1
    have R : ma_run nc (nc + nl) n V (fun c => ma_u (ma_oo nc V (ma_it (ma_fst nl nc) x c).2.1)) (fun c => ma_kx nc V (ma_it (ma_fst nl nc) x c)) (fun c => ma_Oa (ma_it (ma_fst nl nc) x c).2.1) (fun c => ma_fs0 nl nc (ma_it (ma_fst nl nc) x c)) (fun c => ma_Ba (ma_it (ma_fst nl nc) x c).2.1 (ma_fr0 nl (ma_it (ma_fst nl nc) x c))) := by
      refine ⟨fun c hc => ma_DI_LP (hA c hc), fun c hc s hs => ((hA c hc).2.2.2.1 s hs).2, fun c hc => ?_⟩
      obtain ⟨t1, t2, -, -, -, -, -, t8, -⟩ := step _ (hA c (by omega)) (h c hc)
      refine ⟨t2, fun s hs => t8 s, fun s hs => ?_⟩
      exact fun q => (hA c (by omega)).2.2.2.2.2.2.2.2.1 _ s t1 hs q.symm
    have := ma_dual_run n1 R (fun c hc => by
      obtain ⟨-, -, t3, t4, t5, t6, -, -, -⟩ := step _ (hA c (by omega)) (h c hc)
      exact ⟨t3, t4, t5, t6⟩)
    have hb := ma_ch_b nc n1 (nc + nl) hN
    omega
  · obtain ⟨i1, i2⟩ := all c h2
    rw [h4]
    refine ⟨i1, i2, ?_⟩
    rcases ma_broken_s i1 with ⟨b1, b0⟩ | ⟨b1, b2, b3, b4⟩
    · rw [if_neg b1]
      exact Or.inl ⟨rfl, b0⟩
    · rw [if_pos b1]
      rcases ma_mend_s i1 b2 with ⟨c1, c2⟩ | ⟨s, c0, c2, c3, c4, c5⟩
      · exact Or.inr ⟨rfl, _, (i1.2.2.2.2.1 _ b2).2, b3, c2⟩
      · exact absurd ⟨b1, c0⟩ h3
/-! minimise -/
def ma_ms (I : gF) (kg nl nc : Nat) (x : ma_X) : ma_X := (x.1, x.2.1, d_slopes I x.1 x.2.1 x.2.2 kg nl nc)
def ma_ms0 (I : gF) (kg nl nc : Nat) (x : ma_X) : Nat := (d_fall (ma_ms I kg nl nc x).2.1 (ma_ms I kg nl nc x).2.2 nc).toNatClampNeg
def ma_mr0 (I : gF) (kg nl nc : Nat) (x : ma_X) : Nat := (d_stop (ma_ms I kg nl nc x).2.1 (ma_ms I kg nl nc x).2.2 (ma_ms0 I kg nl nc x) nl).toNatClampNeg
def ma_mgo (I : gF) (kg nl nc : Nat) (x : ma_X) : Prop := 0 ≤ d_fall (ma_ms I kg nl nc x).2.1 (ma_ms I kg nl nc x).2.2 nc ∧ 0 ≤ d_stop (ma_ms I kg nl nc x).2.1 (ma_ms I kg nl nc x).2.2 (ma_ms0 I kg nl nc x) nl
def ma_mst (I : gF) (kg nl nc : Nat) (x : ma_X) : ma_X := ma_pv nl nc (ma_mr0 I kg nl nc x) (ma_ms0 I kg nl nc x) (ma_ms I kg nl nc x)
theorem ma_min_it (I : gF) (kg nl nc : Nat) : ∀ n x, (∀ c, c < n → ma_mgo I kg nl nc (ma_it (ma_mst I kg nl nc) x c)) ∨ ∃ c, c < n ∧ (∀ c', c' < c → ma_mgo I kg nl nc (ma_it (ma_mst I kg nl nc) x c')) ∧ ¬ ma_mgo I kg nl nc (ma_it (ma_mst I kg nl nc) x c) ∧ d_min I kg nl nc n x = ma_ms I kg nl nc (ma_it (ma_mst I kg nl nc) x c)
  | 0, x => Or.inl (fun c h => by omega)
  | n + 1, x => by
    by_cases hg : ma_mgo I kg nl nc x
    · have e : d_min I kg nl nc (n + 1) x = d_min I kg nl nc n (ma_mst I kg nl nc x) := by
        show (if 0 ≤ d_fall (ma_ms I kg nl nc x).2.1 (ma_ms I kg nl nc x).2.2 nc then if 0 ≤ d_stop (ma_ms I kg nl nc x).2.1 (ma_ms I kg nl nc x).2.2 (ma_ms0 I kg nl nc x) nl then _ else _ else _) = _
        rw [if_pos hg.1, if_pos hg.2]
        rfl
      rcases ma_min_it I kg nl nc n (ma_mst I kg nl nc x) with h | ⟨c, h1, h2, h3, h4⟩
      · refine Or.inl (fun c hc => ?_)
        cases c with
        | zero => exact hg
        | succ c =>
          rw [← ma_it_s]
          exact h c (by omega)
      · refine Or.inr ⟨c + 1, by omega, fun c' hc' => ?_, ?_, ?_⟩
        · cases c' with
          | zero => exact hg
          | succ c' =>
            rw [← ma_it_s]
            exact h2 c' (by omega)
        · rw [← ma_it_s]
          exact h3
        · rw [e, ← ma_it_s]
          exact h4
    · refine Or.inr ⟨0, by omega, fun c' hc' => by omega, hg, ?_⟩
      show (if 0 ≤ d_fall (ma_ms I kg nl nc x).2.1 (ma_ms I kg nl nc x).2.2 nc then if 0 ≤ d_stop (ma_ms I kg nl nc x).2.1 (ma_ms I kg nl nc x).2.2 (ma_ms0 I kg nl nc x) nl then _ else ma_ms I kg nl nc x else ma_ms I kg nl nc x) = ma_ms I kg nl nc x
      by_cases h1 : 0 ≤ d_fall (ma_ms I kg nl nc x).2.1 (ma_ms I kg nl nc x).2.2 nc
      · rw [if_pos h1, if_neg (fun h2 => hg ⟨h1, h2⟩)]
      · rw [if_neg h1]
theorem ma_DI_b {nc nl : Nat} {V : Nat → Nat → Int} {J : gL} {a : gF} {b b' : gL} (D : ma_DI nc nl V J a b) (h : ∀ k j, k ≠ 18 → b' k j = b k j) : ma_DI nc nl V J a b' := by
  obtain ⟨q1, q2, q3, q4, q5, q6, q7, q8⟩ := D
  exact ⟨q1, q2, q3, q4, q5, fun r hr s hs => by rw [h _ _ (by omega)]; exact q6 r hr s hs, fun r hr => by rw [h _ _ (by omega)]; exact q7 r hr, q8⟩
theorem ma_ms_D {nc nl : Nat} {V : Nat → Nat → Int} {I : gF} {kg : Nat} {x : ma_X} (D : ma_DX nc nl V x) : ma_DX nc nl V (ma_ms I kg nl nc x) ∧ ma_fx x (ma_ms I kg nl nc x) :=
  ⟨ma_DI_b D (fun k j h => ma_slf _ _ _ _ _ _ _ _ _ h), fun _ _ _ => rfl, fun _ _ _ _ => rfl, fun k j _ h _ => ma_slf _ _ _ _ _ _ _ _ _ h⟩
theorem ma_tab {nc nl : Nat} {V : Nat → Nat → Int} {x : ma_X} (D : ma_DX nc nl V x) {r s : Nat} (hr : r < nl) (hs : s < nc) : (x.2.2 (48 + r) s).toInt = - ma_kx nc V x s (V (ma_Ba x.2.1 r)) ∧ (x.2.2 14 r).toInt = ma_kx nc V x 5 (V (ma_Ba x.2.1 r)) ∧ (x.2.2 (48 + r) s).toInt.natAbs ≤ 7085880 ∧ (x.2.2 14 r).toInt.natAbs ≤ 42515280000 := by
  have obd := ma_oo_bd D
  obtain ⟨⟨n1, n2, n3⟩, ⟨sp, d0⟩, du, dO, dB, dt, dr, dc, dd, di⟩ := D
  refine ⟨dt r hr s hs, dr r hr, ?_, ?_⟩
  · rw [dt r hr s hs]
    have := ma_k_small (s := s) (v := V (ma_Ba x.2.1 r)) (by omega) (ma_oo_5 (V := V) (a := x.2.1) n1) obd (n3 _ (dB r hr).2)
    omega
  · rw [dr r hr]
    exact ma_k_big obd (n3 _ (dB r hr).2)
/-- one step of minimise -/
theorem ma_min_st {nc nl : Nat} {V : Nat → Nat → Int} {I : gF} {kg : Nat} {x : ma_X} (D : ma_DX nc nl V x) (hV : ma_VN nc V) (hl : nc ≤ nl) (hI : I 4 8 = nI nc) (hg : ∀ i, i < nc → (x.2.1 kg i).toInt.natAbs ≤ 99) (hf : ma_fe nc nl V x) :
    (¬ ma_mgo I kg nl nc x ∧ ∀ s, s < nc → x.2.1 17 s = 0 → 0 ≤ ma_kx nc V x s (ma_gl x.2.1 kg nc)) ∨ (ma_mgo I kg nl nc x ∧ ma_mr0 I kg nl nc x < nl ∧ ma_ms0 I kg nl nc x < nc ∧ x.2.1 17 (ma_ms0 I kg nl nc x) = 0 ∧ ma_kx nc V x (ma_ms0 I kg nl nc x) (ma_gl x.2.1 kg nc) < 0 ∧ (∀ s, s < nc → x.2.1 17 s = 0 → ma_Oa x.2.1 s < ma_Oa x.2.1 (ma_ms0 I kg nl nc x) → 0 ≤ ma_kx nc V x s (ma_gl x.2.1 kg nc)) ∧ ma_kx nc V x (ma_ms0 I kg nl nc x) (V (ma_Ba x.2.1 (ma_mr0 I kg nl nc x))) < 0 ∧ (∀ j, j < nc + nl → ma_kx nc V x (ma_ms0 I kg nl nc x) (V j) < 0 → ma_kx nc V x 5 (V (ma_Ba x.2.1 (ma_mr0 I kg nl nc x))) * (- ma_kx nc V x (ma_ms0 I kg nl nc x) (V j)) < ma_kx nc V x 5 (V j) * (- ma_kx nc V x (ma_ms0 I kg nl nc x) (V (ma_Ba x.2.1 (ma_mr0 I kg nl nc x)))) ∨ (ma_kx nc V x 5 (V (ma_Ba x.2.1 (ma_mr0 I kg nl nc x))) * (- ma_kx nc V x (ma_ms0 I kg nl nc x) (V j)) = ma_kx nc V x 5 (V j) * (- ma_kx nc V x (ma_ms0 I kg nl nc x) (V (ma_Ba x.2.1 (ma_mr0 I kg nl nc x)))) ∧ ma_Ba x.2.1 (ma_mr0 I kg nl nc x) ≤ j))) := by
  have hsl : ∀ s, s < nc → (d_slopes I x.1 x.2.1 x.2.2 kg nl nc 18 s).toInt = ma_kx nc V x s (ma_gl x.2.1 kg nc) := ma_slopes D hV hI hg
  have Dm := (ma_ms_D (I := I) (kg := kg) D).1
  have n1 := D.1.1
  have n2 := D.1.2.1
  have dO := D.2.2.2.1
  have dB := D.2.2.2.2.1
  have dc := D.2.2.2.2.2.2.2.1
  rcases ma_fall (ma_ms I kg nl nc x).2.1 (ma_ms I kg nl nc x).2.2 nc (by omega) with ⟨g, h⟩ | ⟨s, h1, h2, h3, h4⟩
  · refine Or.inl ⟨fun q => by have := q.1; rw [g] at this; exact absurd this (by decide), fun s hs hz => ?_⟩
    have := Classical.not_not.mp (fun q => h s hs ⟨hz, q⟩)
    have := ma_l0.mp this
    rw [← hsl s hs]
    exact this
  · have es : ma_ms0 I kg nl nc x = s := by
      unfold ma_ms0
      rw [h2, nI_clamp (by omega)]
    have hneg : ma_kx nc V x s (ma_gl x.2.1 kg nc) < 0 := by
      have := Int.not_le.mp (fun q => h3.2 (ma_l0.mpr q))
      rw [← hsl s h1]
      exact this
    have htab : ∀ r, r < nl → _ := fun r hr => ma_tab Dm hr h1
    rcases ma_stop (a := (ma_ms I kg nl nc x).2.1) (b := (ma_ms I kg nl nc x).2.2) (s := s) n2 (fun i hi => (htab i hi).2.2.1) (fun i hi => (htab i hi).2.2.2) nl (Nat.le_refl _) with ⟨g, h⟩ | ⟨r, r1, r2, r3, r4⟩
    · exfalso
      have hk : ∀ j, j < nc + nl → 0 ≤ ma_kx nc V x s (V j) := by
        intro j hj
        rcases dc j hj with ⟨s', a1, a2⟩ | ⟨r, a1, a2⟩
        · rw [← a2, ma_kO D (by omega) a1]
          split
          · exact Int.le_of_lt (ma_DI_LP D).1
          · exact Int.le_refl _
        · have := ma_l0'.mp (Classical.not_not.mp (h r a1))
          rw [(htab r a1).1] at this
          have e : ma_Ba (ma_ms I kg nl nc x).2.1 r = j := a2
          rw [e] at this
          have : 0 ≤ ma_kx nc V (ma_ms I kg nl nc x) s (V j) := by omega
          exact this
      have hz : ma_kx nc V x s (ma_gl x.2.1 kg nc) = 0 := by
        unfold ma_kx ma_gl
        rw [ma_k_sum (by omega)]
        refine ma_sm_zero (fun i hi => ?_)
        obtain ⟨v1, v2⟩ := ma_k_V D hV (show s < 5 by omega) hi
        have k1 := hk i (by omega)
        have k2 := hk (nc + i) (by omega)
        unfold ma_kx at k1 k2
        rw [v1] at k1
        rw [v2] at k2
        have : ma_k (ma_oo nc V x.2.1) s (ma_e i) = 0 := by omega
        rw [this]
        omega
      omega
    · have er : ma_mr0 I kg nl nc x = r := by
        unfold ma_mr0
        rw [es, r2, nI_clamp (by omega)]
      refine Or.inr ⟨⟨by rw [h2]; exact nI_pos' (by omega), by rw [es, r2]; exact nI_pos' (by omega)⟩, ?_⟩
      rw [es, er]
      have hpos : ma_kx nc V x s (V (ma_Ba x.2.1 r)) < 0 := by
        have := Int.not_le.mp (fun q => r3 (ma_l0'.mpr q))
        rw [(htab r r1).1] at this
        have : 0 < - ma_kx nc V x s (V (ma_Ba x.2.1 r)) := this
        omega
      refine ⟨r1, h1, h3.1, hneg, fun s' hs' hz hlt => ?_, hpos, fun j hj hjn => ?_⟩
      · apply Classical.byContradiction
        intro hn
        have q := h4 s' hs' ⟨hz, fun w => hn (by rw [← hsl s' hs']; exact ma_l0.mp w)⟩
        have q : x.2.1 16 s ≤ x.2.1 16 s' := q
        rw [(dO s h1).1, (dO s' hs').1, nI_leI (by have := (dO s h1).2; omega) (by have := (dO s' hs').2; omega)] at q
        omega
      · rcases dc j hj with ⟨s', a1, a2⟩ | ⟨r', a1, a2⟩
        · exfalso
          rw [← a2, ma_kO D (by omega) a1] at hjn
          have := (ma_DI_LP D).1
          split at hjn <;> omega
        · have hc : ¬ (ma_ms I kg nl nc x).2.2 (48 + r') s ≤ 0 := by
            intro q
            have := ma_l0'.mp q
            rw [(htab r' a1).1] at this
            have e : ma_Ba (ma_ms I kg nl nc x).2.1 r' = j := a2
            rw [e] at this
            have : - ma_kx nc V x s (V j) ≤ 0 := this
            omega
          obtain ⟨l1, l2⟩ := r4 r' a1 hc
          rw [(htab r r1).1, (htab r r1).2.1, (htab r' a1).1, (htab r' a1).2.1] at l1 l2
          have e : ma_Ba (ma_ms I kg nl nc x).2.1 r' = j := a2
          rw [e] at l1 l2
          have l1 : ma_kx nc V x 5 (V (ma_Ba x.2.1 r)) * (- ma_kx nc V x s (V j)) ≤ ma_kx nc V x 5 (V j) * (- ma_kx nc V x s (V (ma_Ba x.2.1 r))) := l1
          by_cases q : ma_kx nc V x 5 (V (ma_Ba x.2.1 r)) * (- ma_kx nc V x s (V j)) = ma_kx nc V x 5 (V j) * (- ma_kx nc V x s (V (ma_Ba x.2.1 r)))
          · refine Or.inr ⟨q, ?_⟩
            have w := l2 q
            have w : x.2.1 15 r ≤ x.2.1 15 r' := w
            rw [(dB r r1).1, (dB r' a1).1, nI_leI (by have := (dB r r1).2; omega) (by have := (dB r' a1).2; omega), a2] at w
            exact w
          · exact Or.inl (Int.lt_iff_le_and_ne.mpr ⟨l1, q⟩)
theorem ma_min_s {nc nl n : Nat} {V : Nat → Nat → Int} {I : gF} {kg : Nat} {x : ma_X} (D : ma_DX nc nl V x) (hV : ma_VN nc V) (hl : nc ≤ nl) (hN : nc + nl ≤ 26) (hn : 65780 ≤ n) (hI : I 4 8 = nI nc) (hk1 : kg ≠ 15) (hk2 : kg ≠ 16) (hg : ∀ i, i < nc → (x.2.1 kg i).toInt.natAbs ≤ 99) (hf : ma_fe nc nl V x) :
    ma_DX nc nl V (d_min I kg nl nc n x) ∧ ma_fx x (d_min I kg nl nc n x) ∧ ma_fe nc nl V (d_min I kg nl nc n x) ∧ (∀ s, s < nc → ((d_min I kg nl nc n x).2.2 18 s).toInt = ma_kx nc V (d_min I kg nl nc n x) s (ma_gl x.2.1 kg nc)) ∧ (∀ s, s < nc → x.2.1 17 s = 0 → 0 ≤ ma_kx nc V (d_min I kg nl nc n x) s (ma_gl x.2.1 kg nc)) ∧ (∀ s, s < nc → ¬ x.2.1 17 s = 0 → ma_Oa (d_min I kg nl nc n x).2.1 s = ma_Oa x.2.1 s) := by
  have n1 := D.1.1
  have hgl : ∀ y : ma_X, ma_fx x y → ma_gl y.2.1 kg nc = ma_gl x.2.1 kg nc := by
    intro y hy
    funext c
    unfold ma_gl
    exact ma_sm_congr (fun i _ => by rw [hy.2.1 kg i hk1 hk2])
  have step : ∀ y : ma_X, ma_DX nc nl V y → ma_fx x y → ma_fe nc nl V y → ma_mgo I kg nl nc y → ma_mr0 I kg nl nc y < nl ∧ ma_ms0 I kg nl nc y < nc ∧ x.2.1 17 (ma_ms0 I kg nl nc y) = 0 ∧ ma_kx nc V y (ma_ms0 I kg nl nc y) (ma_gl x.2.1 kg nc) < 0 ∧ (∀ s, s < nc → x.2.1 17 s = 0 → ma_Oa y.2.1 s < ma_Oa y.2.1 (ma_ms0 I kg nl nc y) → 0 ≤ ma_kx nc V y s (ma_gl x.2.1 kg nc)) ∧ ma_kx nc V y (ma_ms0 I kg nl nc y) (V (ma_Ba y.2.1 (ma_mr0 I kg nl nc y))) < 0 ∧ (∀ j, j < nc + nl → ma_kx nc V y (ma_ms0 I kg nl nc y) (V j) < 0 → ma_kx nc V y 5 (V (ma_Ba y.2.1 (ma_mr0 I kg nl nc y))) * (- ma_kx nc V y (ma_ms0 I kg nl nc y) (V j)) < ma_kx nc V y 5 (V j) * (- ma_kx nc V y (ma_ms0 I kg nl nc y) (V (ma_Ba y.2.1 (ma_mr0 I kg nl nc y)))) ∨ (ma_kx nc V y 5 (V (ma_Ba y.2.1 (ma_mr0 I kg nl nc y))) * (- ma_kx nc V y (ma_ms0 I kg nl nc y) (V j)) = ma_kx nc V y 5 (V j) * (- ma_kx nc V y (ma_ms0 I kg nl nc y) (V (ma_Ba y.2.1 (ma_mr0 I kg nl nc y)))) ∧ ma_Ba y.2.1 (ma_mr0 I kg nl nc y) ≤ j)) ∧ ma_DX nc nl V (ma_mst I kg nl nc y) ∧ (∀ s', ma_Oa (ma_mst I kg nl nc y).2.1 s' = if s' = ma_ms0 I kg nl nc y then ma_Ba y.2.1 (ma_mr0 I kg nl nc y) else ma_Oa y.2.1 s') ∧ ma_fx x (ma_mst I kg nl nc y) ∧ ma_fe nc nl V (ma_mst I kg nl nc y) := by
    intro y Dy hy hfy hgo
    have hz17 : ∀ s, y.2.1 17 s = x.2.1 17 s := fun s => hy.2.1 17 s (by decide) (by decide)
    rcases ma_min_st (I := I) (kg := kg) Dy hV hl hI (fun i hi => by rw [hy.2.1 kg i hk1 hk2]; exact hg i hi) hfy with ⟨q, -⟩ | ⟨-, q1, q2, q3, q4, q5, q6, q7⟩
    · exact absurd hgo q
    · rw [hgl y hy] at q4 q5
      rw [hz17] at q3
      obtain ⟨Dm, Fm⟩ := ma_ms_D (I := I) (kg := kg) Dy
      obtain ⟨p1, p2, p3, p4⟩ := ma_fx_pv (x := ma_ms I kg nl nc y) Dm q1 q2 (Int.ne_of_lt q6)
      refine ⟨q1, q2, q3, q4, fun s hs hz => q5 s hs (by rw [hz17]; exact hz), q6, q7, p1, p3, ma_fx_t (ma_fx_t hy Fm) p4, fun j hj => ?_⟩
      show 0 ≤ ma_k (ma_oo nc V (ma_mst I kg nl nc y).2.1) 5 (V j)
      have e : ma_oo nc V (ma_mst I kg nl nc y).2.1 = ma_rw (ma_oo nc V y.2.1) (ma_ms0 I kg nl nc y) (V (ma_Ba y.2.1 (ma_mr0 I kg nl nc y))) := p2
      rw [e]
      have h := ma_piv_j Dy.2.1.1 (show ma_ms0 I kg nl nc y < 6 by omega) (show 5 < 6 by omega) (by omega) (Int.ne_of_lt q6) (V j)
      have ht : ma_t (ma_kx nc V y (ma_ms0 I kg nl nc y) (V (ma_Ba y.2.1 (ma_mr0 I kg nl nc y)))) = -1 := if_neg (by omega)
      have ht : ma_t (ma_k (ma_oo nc V y.2.1) (ma_ms0 I kg nl nc y) (V (ma_Ba y.2.1 (ma_mr0 I kg nl nc y)))) = -1 := ht
      rw [ht] at h
      have hj5 : 0 ≤ ma_k (ma_oo nc V y.2.1) 5 (V j) := hfy j hj
      have ht5 : 0 ≤ ma_k (ma_oo nc V y.2.1) 5 (V (ma_Ba y.2.1 (ma_mr0 I kg nl nc y))) := hfy _ (Dy.2.2.2.2.1 _ q1).2
      have hu := ma_u_pos Dy.2.1.2
      have q7j := q7 j hj
      unfold ma_kx at q6 q7j
      generalize ma_k (ma_oo nc V y.2.1) 5 (V j) = A at *
      generalize ma_k (ma_oo nc V y.2.1) 5 (V (ma_Ba y.2.1 (ma_mr0 I kg nl nc y))) = B at *
      generalize ma_k (ma_oo nc V y.2.1) (ma_ms0 I kg nl nc y) (V j) = C at *
      generalize ma_k (ma_oo nc V y.2.1) (ma_ms0 I kg nl nc y) (V (ma_Ba y.2.1 (ma_mr0 I kg nl nc y))) = P at *
      generalize ma_u (ma_oo nc V y.2.1) = U at *
      generalize ma_k (ma_rw (ma_oo nc V y.2.1) (ma_ms0 I kg nl nc y) (V (ma_Ba y.2.1 (ma_mr0 I kg nl nc y)))) 5 (V j) = Z at *
      have h2 : U * Z = A * (-P) - B * (-C) := by rw [h]; grind
      have h3 : 0 ≤ U * Z := by
        by_cases hC : C < 0
        · rcases q7j hC with w | ⟨w, -⟩
          · omega
          · omega
        · have w1 : 0 ≤ A * (-P) := Int.mul_nonneg hj5 (by omega)
          have w2 : 0 ≤ B * C := Int.mul_nonneg ht5 (by omega)
          rw [Int.mul_neg B C] at h2
          omega
      apply Classical.byContradiction
      intro hneg
      have := Int.mul_neg_of_pos_of_neg hu (show Z < 0 by omega)
      omega
  have all : ∀ c, (∀ c', c' < c → ma_mgo I kg nl nc (ma_it (ma_mst I kg nl nc) x c')) → ma_DX nc nl V (ma_it (ma_mst I kg nl nc) x c) ∧ ma_fx x (ma_it (ma_mst I kg nl nc) x c) ∧ ma_fe nc nl V (ma_it (ma_mst I kg nl nc) x c) ∧ (∀ s, s < nc → ¬ x.2.1 17 s = 0 → ma_Oa (ma_it (ma_mst I kg nl nc) x c).2.1 s = ma_Oa x.2.1 s) := by
    intro c
    induction c with
    | zero => intro _; exact ⟨D, ma_fx_r x, hf, fun _ _ _ => rfl⟩
    | succ c ih =>
      intro h
      obtain ⟨i1, i2, i3, i4⟩ := ih (fun c' hc' => h c' (by omega))
      obtain ⟨-, -, s3, -, -, -, -, s8, s9, s10, s11⟩ := step _ i1 i2 i3 (h c (by omega))
      refine ⟨s8, s10, s11, fun s hs hz => ?_⟩
      have : ma_Oa (ma_mst I kg nl nc (ma_it (ma_mst I kg nl nc) x c)).2.1 s = ma_Oa x.2.1 s := by
        rw [s9 s, if_neg (fun (q : s = _) => hz (q ▸ s3))]
        exact i4 s hs hz
      exact this
  rcases ma_min_it I kg nl nc n x with h | ⟨c, h1, h2, h3, h4⟩
  · exfalso
    have hA : ∀ c, c ≤ n → _ := fun c hc => all c (fun c' hc' => h c' (by omega))
    have R : ma_run nc (nc + nl) n V (fun c => ma_u (ma_oo nc V (ma_it (ma_mst I kg nl nc) x c).2.1)) (fun c => ma_kx nc V (ma_it (ma_mst I kg nl nc) x c)) (fun c => ma_Oa (ma_it (ma_mst I kg nl nc) x c).2.1) (fun c => ma_ms0 I kg nl nc (ma_it (ma_mst I kg nl nc) x c)) (fun c => ma_Ba (ma_it (ma_mst I kg nl nc) x c).2.1 (ma_mr0 I kg nl nc (ma_it (ma_mst I kg nl nc) x c))) := by
      refine ⟨fun c hc => ma_DI_LP (hA c hc).1, fun c hc s hs => ((hA c hc).1.2.2.2.1 s hs).2, fun c hc => ?_⟩
      obtain ⟨a1, a2, a3, a4⟩ := hA c (by omega)
      obtain ⟨t1, t2, -, -, -, -, -, -, t9, -, -⟩ := step _ a1 a2 a3 (h c hc)
      refine ⟨t2, fun s hs => t9 s, fun s hs => ?_⟩
      exact fun q => a1.2.2.2.2.2.2.2.2.1 _ s t1 hs q.symm
    have := ma_primal_run n1 R (ma_gl x.2.1 kg nc) (fun s => ¬ x.2.1 17 s = 0) (fun c hc => (hA c hc).2.2.1) (fun c hc => by
      obtain ⟨a1, a2, a3, a4⟩ := hA c (by omega)
      obtain ⟨t1, t2, t3, t4, t5, t6, t7, -, -, -, -⟩ := step _ a1 a2 a3 (h c hc)
      exact ⟨fun q => q t3, t4, fun s hs hz => t5 s hs (Classical.not_not.mp hz), t6, t7⟩)
    have hb := ma_ch_b nc n1 (nc + nl) hN
    omega
  · obtain ⟨i1, i2, i3, i4⟩ := all c h2
    obtain ⟨Dm, Fm⟩ := ma_ms_D (I := I) (kg := kg) i1
    rw [h4]
    have hgy : ∀ i, i < nc → ((ma_it (ma_mst I kg nl nc) x c).2.1 kg i).toInt.natAbs ≤ 99 := fun i hi => by rw [i2.2.1 kg i hk1 hk2]; exact hg i hi
    refine ⟨Dm, ma_fx_t i2 Fm, i3, fun s hs => ?_, fun s hs hz => ?_, i4⟩
    · have := ma_slopes i1 hV hI hgy s hs
      rw [hgl _ i2] at this
      exact this
    · rcases ma_min_st (I := I) (kg := kg) i1 hV hl hI hgy i3 with ⟨-, q⟩ | ⟨q, -⟩
      · have := q s hs (by rw [i2.2.1 17 s (by decide) (by decide)]; exact hz)
        rw [hgl _ i2] at this
        exact this
      · exact absurd q h3
