/-! THE MATHEMATICS, 11: points, rows, and what canKeep answers -/
/-- a row of numbers before the names, and one before the denominator -/
def ma_fm (nn : Nat) (f : Nat → Int) (r : Int) : Nat → Int := fun c => if c = 5 then r else if c < nn then f c else 0
theorem ma_sm_six {nn : Nat} (hn : nn ≤ 5) (g : Nat → Int) : ma_sm (fun k => if k < nn then g k else 0) 6 = ma_sm g nn := by
  have e : (6 : Nat) = nn + (6 - nn) := by omega
  rw [e, ma_sm_pre (6 - nn) (fun i h1 h2 => if_neg (by omega))]
  exact ma_sm_congr (fun i hi => if_pos hi)
theorem ma_fm_dot {nn : Nat} (hn : nn ≤ 5) (f : Nat → Int) (r : Int) (X : Nat → Int) : ma_dot (ma_fm nn f r) X = ma_sm (fun i => f i * X i) nn + r * X 5 := by
  unfold ma_dot
  rw [ma_sm_congr (g := fun i => (if i < nn then f i * X i else 0) + (if i = 5 then r * X 5 else 0)) (fun i hi => ?_), ma_sm_add, ma_sm_one (by decide)]
  · congr 1
    have e : (6 : Nat) = nn + (6 - nn) := by omega
    rw [e, ma_sm_pre (6 - nn) (fun i h1 h2 => if_neg (by omega))]
    exact ma_sm_congr (fun i hi => if_pos hi)
  · unfold ma_fm
    by_cases h5 : i = 5
    · rw [if_pos h5, if_neg (by omega), if_pos h5, h5]
      omega
    · rw [if_neg h5, if_neg h5]
      by_cases h : i < nn
      · rw [if_pos h, if_pos h]
        omega
      · rw [if_neg h, if_neg h]
        omega
theorem ma_fm_bd {nn : Nat} {f : Nat → Int} {r : Int} (hf : ∀ s, s < nn → (f s).natAbs ≤ 9) (hr : r.natAbs ≤ 1000) : ma_bd (ma_fm nn f r) := by
  refine ⟨fun c hc => ?_, ?_⟩
  · unfold ma_fm
    rw [if_neg (by omega)]
    by_cases h : c < nn
    · rw [if_pos h]; exact hf c h
    · rw [if_neg h]; decide
  · unfold ma_fm
    rw [if_pos rfl]
    exact hr
def ma_zr (nn : Nat) (X : Nat → Int) : Prop := ∀ i, nn ≤ i → i < 5 → X i = 0
def ma_pt (nn : Nat) (lo hi X : Nat → Int) : Prop := 0 < X 5 ∧ ma_zr nn X ∧ ∀ i, i < nn → lo i * X 5 ≤ X i ∧ X i ≤ hi i * X 5
def ma_kr1 (nn : Nat) (se ri : Int) (f X : Nat → Int) : Prop := (se ≠ 2 → ma_sm (fun i => f i * X i) nn ≤ ri * X 5) ∧ (se ≠ 0 → ri * X 5 ≤ ma_sm (fun i => f i * X i) nn)
/-- a point that keeps the spans and the rows of a set -/
def ma_fs (nn nr : Nat) (lo hi se ri : Nat → Int) (fa : Nat → Nat → Int) (R : Nat → Prop) (X : Nat → Int) : Prop := ma_pt nn lo hi X ∧ ∀ r, r < nr → R r → ma_kr1 nn (se r) (ri r) (fa r) X
def ma_C (nn : Nat) (lo hi ri : Nat → Int) (fa : Nat → Nat → Int) (c : Nat) : Nat → Int := if c < 8 then ma_fm nn (fa c) (-ri c) else if c < 13 then ma_fm nn (ma_e (c - 8)) (-lo (c - 8)) else ma_fm nn (ma_e (c - 13)) (-hi (c - 13))
def ma_th (nn nr : Nat) (R : Nat → Prop) (c : Nat) : Prop := c < 18 ∧ (c < 8 → c < nr ∧ R c) ∧ (8 ≤ c → (c - 8) % 5 < nn)
abbrev ma_ci (a : gF) (k : Nat) : Nat → Int := fun i => (a k i).toInt
abbrev ma_fa (a : gF) : Nat → Nat → Int := fun r i => (a (40 + r) i).toInt
/-- the dictionary speaks of the problem -/
def ma_CD (nn nr : Nat) (a : gF) (R : Nat → Prop) (nl : Nat) (V : Nat → Nat → Int) : Prop := ma_VN nn V ∧ nn ≤ nl ∧ nn + nl ≤ 26 ∧ (∀ X, ma_zr nn X → 0 < X 5 → ((∀ j, j < nn + nl → 0 ≤ ma_dot (V j) X) ↔ ma_fs nn nr (ma_ci a 6) (ma_ci a 7) (ma_ci a 9) (ma_ci a 10) (ma_fa a) R X)) ∧ (∀ j, j < nn + nl → ∃ c, ma_th nn nr R c ∧ ((∀ i, V j i = ma_C nn (ma_ci a 6) (ma_ci a 7) (ma_ci a 10) (ma_fa a) c i) ∨ (∀ i, V j i = - ma_C nn (ma_ci a 6) (ma_ci a 7) (ma_ci a 10) (ma_fa a) c i))) ∧ (∀ i, i < nn → V i = ma_fm nn (ma_e i) (-(a 6 i).toInt))
def ma_V (a : gF) (b : gL) (nn : Nat) : Nat → Nat → Int := fun j => if j < nn then ma_fm nn (ma_e j) (-(a 6 j).toInt) else ma_fm nn (fun s => -(b (48 + (j - nn)) s).toInt) ((b 14 (j - nn)).toInt + ma_sm (fun s => (b (48 + (j - nn)) s).toInt * (a 6 s).toInt) nn)
theorem ma_V_ln {a : gF} {b : gL} {nn l : Nat} {f : Nat → Int} {r : Int} (h : ma_ln b nn l f r) : ma_V a b nn (nn + l) = ma_fm nn (fun s => - f s) (r + ma_sm (fun s => f s * (a 6 s).toInt) nn) := by
  unfold ma_V
  rw [if_neg (by omega), Nat.add_sub_cancel_left, h.2, ma_sm_congr (fun s hs => by rw [h.1 s hs])]
  funext c
  unfold ma_fm
  by_cases h5 : c = 5
  · rw [if_pos h5, if_pos h5]
  · rw [if_neg h5, if_neg h5]
    by_cases hc : c < nn
    · rw [if_pos hc, if_pos hc]
      show -(b (48 + l) c).toInt = - f c
      rw [h.1 c hc]
    · rw [if_neg hc, if_neg hc]
theorem ma_fm_e {nn i : Nat} {r : Int} (hn : nn ≤ 5) (hi : i < nn) (x : Int) : ma_fm nn (fun s => x * ma_e i s) r = fun c => x * ma_e i c + r * ma_e 5 c := by
  funext c
  unfold ma_fm ma_e
  by_cases h5 : c = 5
  · rw [if_pos h5, if_neg (by omega), if_pos h5]
    omega
  · rw [if_neg h5, if_neg h5]
    by_cases hc : c < nn
    · rw [if_pos hc]
      show x * (if c = i then 1 else 0) = x * (if c = i then 1 else 0) + r * 0
      omega
    · rw [if_neg hc, if_neg (by omega)]
      omega
theorem ma_fm_c {nn : Nat} {f g : Nat → Int} {r q : Int} (h : ∀ s, s < nn → f s = g s) (e : r = q) : ma_fm nn f r = ma_fm nn g q := by
  funext c
  unfold ma_fm
  rw [e]
  by_cases h5 : c = 5
  · rw [if_pos h5, if_pos h5]
  · rw [if_neg h5, if_neg h5]
    by_cases hc : c < nn
    · rw [if_pos hc, if_pos hc, h c hc]
    · rw [if_neg hc, if_neg hc]
theorem ma_fm_neg {nn : Nat} {f : Nat → Int} {r : Int} (c : Nat) : ma_fm nn (fun s => - f s) (-r) c = - ma_fm nn f r c := by
  unfold ma_fm
  split
  · rfl
  · split <;> rfl
theorem ma_above_i {a : gF} {r : Nat} (h : a 9 r = 0 ∨ a 9 r = 1 ∨ a 9 r = 2) : (p_above a r ≠ 0 ↔ (a 9 r).toInt ≠ 2) ∧ (p_below a r ≠ 0 ↔ (a 9 r).toInt ≠ 0) := by
  unfold p_above p_below
  rcases h with q | q | q <;> rw [q] <;> decide
/-- the beginning: names outside, lines in the basis -/
theorem ma_o_start {a : gF} {b : gL} {nn : Nat} (hn : nn ≤ 5) : ∀ k, k ≤ nn → ma_D 6 (fun s => if s < k then ma_V a b nn s else ma_e s) = 1 ∧ ma_sp (fun s => if s < k then ma_V a b nn s else ma_e s)
  | 0, _ => by
    have e : (fun s => if s < 0 then ma_V a b nn s else ma_e s) = ma_e := by
      funext s
      rw [if_neg (by omega)]
    rw [e]
    exact ⟨ma_D_e, ma_sp_e⟩
  | k + 1, hk => by
    obtain ⟨i1, i2⟩ := ma_o_start (a := a) (b := b) hn k (by omega)
    have e : (fun s => if s < k + 1 then ma_V a b nn s else ma_e s) = ma_rw (fun s => if s < k then ma_V a b nn s else ma_e s) k (ma_V a b nn k) := by
      funext s
      unfold ma_rw
      by_cases h : s = k
      · rw [if_pos (by omega), if_pos h, h]
      · rw [if_neg h]
        show _ = if s < k then ma_V a b nn s else ma_e s
        by_cases h2 : s < k
        · rw [if_pos (by omega), if_pos h2]
        · rw [if_neg (by omega), if_neg h2]
    rw [e]
    refine ⟨?_, ma_sp_rw i2 (by omega) _ (by omega)⟩
    have hV : ma_V a b nn k = fun c => 1 * ma_e k c + (-(a 6 k).toInt) * ma_e 5 c := by
      have := ma_fm_e (r := -(a 6 k).toInt) hn (show k < nn by omega) 1
      rw [← this]
      unfold ma_V
      rw [if_pos (by omega)]
      exact ma_fm_c (fun s _ => by omega) rfl
    show ma_K _ k (ma_V a b nn k) = 1
    rw [hV, ma_K_lin (by omega)]
    have k1 := ma_K_o (o := fun s => if s < k then ma_V a b nn s else ma_e s) (s := k)
    have k2 := ma_K_z (o := fun s => if s < k then ma_V a b nn s else ma_e s) (s := k) (k := 5) (by omega) (by omega) (by omega)
    simp only [if_neg (show ¬ k < k by omega), if_neg (show ¬ 5 < k by omega)] at k1 k2
    rw [k1, k2, i1]
    omega
theorem ma_start {a : gF} {nn nl : Nat} {J : gL} {I' a' : gF} {b' : gL} (hn : nn ≤ 5) (hl : nl ≤ 21) (hB : ma_BI nn nl (I', a', b')) (hJ : J 4 6 = 1) (hbd : ∀ j, j < nn + nl → ma_bd (ma_V a b' nn j)) : ma_DI nn nl (ma_V a b' nn) J a' b' := by
  obtain ⟨b1, b2, b3, b4⟩ := hB
  have b3 : ∀ l, l < nl → a' 15 l = nI (nn + l) := b3
  have b4 : ∀ s, s < nn → a' 16 s = nI s ∧ a' 17 s = 0 := b4
  have hO : ∀ s, s < nn → ma_Oa a' s = s := fun s hs => by unfold ma_Oa; rw [(b4 s hs).1, nI_clamp (by omega)]
  have hBa : ∀ l, l < nl → ma_Ba a' l = nn + l := fun l h => by unfold ma_Ba; rw [b3 l h, nI_clamp (by omega)]
  have eo : ma_oo nn (ma_V a b' nn) a' = (fun s => if s < nn then ma_V a b' nn s else ma_e s) := by
    funext s
    unfold ma_oo ma_o
    by_cases h : s < nn
    · rw [if_pos h, if_pos h, hO s h]
    · rw [if_neg h, if_neg h]
  obtain ⟨s1, s2⟩ := ma_o_start (a := a) (b := b') hn nn (Nat.le_refl _)
  have hs1 : ma_s (fun s => if s < nn then ma_V a b' nn s else ma_e s) = 1 := by
    unfold ma_s
    rw [s1]
    rfl
  have hcoef : ∀ l, l < nl → ∀ s, s < 6 → ma_k (ma_oo nn (ma_V a b' nn) a') s (ma_V a b' nn (nn + l)) = if s = 5 then (b' 14 l).toInt else if s < nn then -(b' (48 + l) s).toInt else 0 := by
    intro l hl2 s hs
    rw [eo]
    unfold ma_k
    rw [hs1, Int.one_mul, ma_K_coef (x := fun s => if s = 5 then (b' 14 l).toInt else if s < nn then -(b' (48 + l) s).toInt else 0) hs (fun c hc => ?_), s1, Int.mul_one]
    have e1 : ma_V a b' nn (nn + l) c = ma_fm nn (fun s => -(b' (48 + l) s).toInt) ((b' 14 l).toInt + ma_sm (fun s => (b' (48 + l) s).toInt * (a 6 s).toInt) nn) c := by
      unfold ma_V
      rw [if_neg (by omega), Nat.add_sub_cancel_left]
    have e2 : ma_sm (fun k => (if k = 5 then (b' 14 l).toInt else if k < nn then -(b' (48 + l) k).toInt else 0) * (if k < nn then ma_V a b' nn k else ma_e k) c) 6 = ma_sm (fun k => (if k < nn then (-(b' (48 + l) k).toInt) * (1 * ma_e k c + (-(a 6 k).toInt) * ma_e 5 c) else 0) + (if k = 5 then (b' 14 l).toInt * ma_e 5 c else 0)) 6 := by
      refine ma_sm_congr (fun k hk => ?_)
      by_cases h5 : k = 5
      · rw [if_pos h5, if_neg (by omega), if_neg (by omega), if_pos h5, h5]
        omega
      · rw [if_neg h5, if_neg h5]
        by_cases hk2 : k < nn
        · rw [if_pos hk2, if_pos hk2, if_pos hk2]
          have : ma_V a b' nn k c = 1 * ma_e k c + (-(a 6 k).toInt) * ma_e 5 c := by
            have q := ma_fm_e (r := -(a 6 k).toInt) hn hk2 1
            have q2 := congrFun q c
            rw [← q2]
            unfold ma_V
            rw [if_pos hk2]
            exact congrFun (ma_fm_c (fun s _ => by omega) rfl) c
          rw [this]
          omega
        · rw [if_neg hk2, if_neg hk2, if_neg hk2]
          omega
    have e3 : ma_sm (fun k => if k < nn then (-(b' (48 + l) k).toInt) * (1 * ma_e k c + (-(a 6 k).toInt) * ma_e 5 c) else 0) 6 = ma_sm (fun k => (if k = c then -(b' (48 + l) c).toInt else 0) + ma_e 5 c * ((b' (48 + l) k).toInt * (a 6 k).toInt)) nn := by
      rw [ma_sm_six hn]
      refine ma_sm_congr (fun k hk => ?_)
      by_cases h : k = c
      · have : ma_e k c = 1 := if_pos h.symm
        rw [if_pos h, this, h]
        grind
      · have : ma_e k c = 0 := if_neg (fun q => h q.symm)
        rw [if_neg h, this]
        grind
    have e4 : ma_sm (fun k => if k = 5 then (b' 14 l).toInt * ma_e 5 c else 0) 6 = (b' 14 l).toInt * ma_e 5 c := ma_sm_one (by decide)
    rw [e1]
    refine Eq.trans ?_ e2.symm
    rw [ma_sm_add, e3, e4, ma_sm_add, ma_sm_mul]
    unfold ma_fm
    by_cases h5 : c = 5
    · have : ma_e 5 c = 1 := if_pos h5
      rw [if_pos h5, this, ma_sm_zero (f := fun k => if k = c then -(b' (48 + l) c).toInt else 0) (fun i hi => if_neg (by omega))]
      omega
    · have : ma_e 5 c = 0 := if_neg h5
      rw [if_neg h5, this]
      by_cases hcn : c < nn
      · rw [if_pos hcn, ma_sm_one hcn]
        show -(b' (48 + l) c).toInt = _
        omega
      · rw [if_neg hcn, ma_sm_zero (f := fun k => if k = c then -(b' (48 + l) c).toInt else 0) (fun i hi => if_neg (by omega))]
        omega
  refine ⟨⟨hn, hl, hbd⟩, ?_, ?_, fun s hs => ?_, fun r hr => ?_, fun r hr s hs => ?_, fun r hr => ?_, fun j hj => ?_, fun r s hr hs => ?_, fun r r' h1 h2 => ?_⟩
  · rw [eo]
    exact ⟨s2, by omega⟩
  · rw [eo, hJ]
    unfold ma_u
    rw [hs1, s1]
    rfl
  · rw [hO s hs]
    exact ⟨(b4 s hs).1, by omega⟩
  · rw [hBa r hr]
    exact ⟨b3 r hr, by omega⟩
  · rw [hBa r hr, hcoef r hr s (by omega), if_neg (by omega), if_pos hs]
    omega
  · rw [hBa r hr, hcoef r hr 5 (by omega), if_pos rfl]
  · by_cases h : j < nn
    · exact Or.inl ⟨j, h, hO j h⟩
    · exact Or.inr ⟨j - nn, by omega, by rw [hBa _ (by omega)]; omega⟩
  · rw [hBa r hr, hO s hs]
    omega
  · rw [hBa r h1, hBa r' h2]
    omega
theorem ma_CD_of {I a : gF} {b : gL} {nn nr : Nat} {set : Int32} (hd : ma_dat nn nr a) : ma_CD nn nr a (fun r => s_bit set r ≠ 0) (s_kr I a b nn set nr).2 (ma_V a (s_kr I a b nn set nr).1.2.2 nn) ∧ (∀ j, j < nn + (s_kr I a b nn set nr).2 → ma_bd (ma_V a (s_kr I a b nn set nr).1.2.2 nn j)) := by
  obtain ⟨-, k2, k3, k4, -, k6, k7⟩ := ma_kr (I := I) (b := b) (set := set) hd nr (Nat.le_refl _)
  obtain ⟨d1, d2, d3, d4⟩ := hd
  generalize (s_kr I a b nn set nr).2 = nl at *
  generalize (s_kr I a b nn set nr).1.2.2 = xb at *
  have vN : ∀ i, i < nn → ma_V a xb nn i = ma_fm nn (ma_e i) (-(a 6 i).toInt) := fun i hi => if_pos hi
  have vH : ∀ i, i < nn → ma_V a xb nn (nn + i) = ma_fm nn (fun s => - ma_e i s) ((a 7 i).toInt) := by
    intro i hi
    rw [ma_V_ln (k4 i hi)]
    refine ma_fm_c (fun _ _ => rfl) ?_
    rw [ma_sm_congr (g := fun s => if s = i then (a 6 i).toInt else 0) (fun s hs => by
      unfold ma_e
      by_cases h : s = i
      · rw [if_pos h, if_pos h, h]; omega
      · rw [if_neg h, if_neg h]; omega), ma_sm_one hi]
    omega
  have vA : ∀ l r, ma_La a xb nn l r → ma_V a xb nn (nn + l) = ma_fm nn (fun s => -(a (40 + r) s).toInt) ((a 10 r).toInt) := by
    intro l r h
    rw [ma_V_ln h.2]
    exact ma_fm_c (fun _ _ => rfl) (by omega)
  have vB : ∀ l r, ma_Lb a xb nn l r → ma_V a xb nn (nn + l) = ma_fm nn (fun s => (a (40 + r) s).toInt) (-(a 10 r).toInt) := by
    intro l r h
    rw [ma_V_ln h.2]
    refine ma_fm_c (fun _ _ => by omega) ?_
    have : ma_sm (fun s => -(a (40 + r) s).toInt * (a 6 s).toInt) nn = (-1) * ma_sm (fun s => (a (40 + r) s).toInt * (a 6 s).toInt) nn := by
      rw [← ma_sm_mul]
      exact ma_sm_congr (fun s _ => by grind)
    rw [this]
    omega
  have cases : ∀ j, j < nn + nl → (j < nn) ∨ (∃ i, i < nn ∧ j = nn + i) ∨ (∃ l r, nn ≤ l ∧ l < nl ∧ j = nn + l ∧ r < nr ∧ s_bit set r ≠ 0 ∧ (ma_La a xb nn l r ∨ ma_Lb a xb nn l r)) := by
    intro j hj
    by_cases h1 : j < nn
    · exact Or.inl h1
    · by_cases h2 : j < nn + nn
      · exact Or.inr (Or.inl ⟨j - nn, by omega, by omega⟩)
      · obtain ⟨r, q1, q2, q3⟩ := k6 (j - nn) (by omega) (by omega)
        exact Or.inr (Or.inr ⟨j - nn, r, by omega, by omega, by omega, q1, q2, q3⟩)
  refine ⟨⟨fun i hi => ⟨⟨-(a 6 i).toInt, fun c => ?_⟩, ⟨(a 7 i).toInt, fun c => ?_⟩⟩, k2, by omega, fun X hz h5 => ⟨fun h => ⟨⟨h5, hz, fun i hi => ⟨?_, ?_⟩⟩, fun r hr hR => ⟨fun hs => ?_, fun hs => ?_⟩⟩, fun h j hj => ?_⟩, fun j hj => ?_, vN⟩, fun j hj => ?_⟩
  · rw [vN i hi]
    have q := congrFun (ma_fm_e (r := -(a 6 i).toInt) d1 hi 1) c
    rw [← q]
    exact congrFun (ma_fm_c (fun s _ => by omega) rfl) c
  · rw [vH i hi]
    have q := congrFun (ma_fm_e (r := (a 7 i).toInt) d1 hi (-1)) c
    rw [← q]
    exact congrFun (ma_fm_c (fun s _ => by omega) rfl) c
  · have := h i (by omega)
    rw [vN i hi, ma_fm_dot d1] at this
    rw [ma_sm_congr (g := fun s => if s = i then X i else 0) (fun s hs => by
      unfold ma_e
      by_cases h : s = i
      · rw [if_pos h, if_pos h, h]; omega
      · rw [if_neg h, if_neg h]; omega), ma_sm_one hi] at this
    show (a 6 i).toInt * X 5 ≤ X i
    rw [Int.neg_mul] at this
    omega
  · have := h (nn + i) (by omega)
    rw [vH i hi, ma_fm_dot d1] at this
    rw [ma_sm_congr (g := fun s => if s = i then - X i else 0) (fun s hs => by
      unfold ma_e
      by_cases h : s = i
      · rw [if_pos h, if_pos h, h]; omega
      · rw [if_neg h, if_neg h]; omega), ma_sm_one hi] at this
    show X i ≤ (a 7 i).toInt * X 5
    omega
  · obtain ⟨l, q1, q2, q3⟩ := (k7 r hr hR).1 ((ma_above_i (d4 r hr).2.1).1.mpr hs)
    have := h (nn + l) (by omega)
    rw [vA l r q3, ma_fm_dot d1, ma_sm_congr (g := fun s => (-1) * ((a (40 + r) s).toInt * X s)) (fun s _ => by grind), ma_sm_mul] at this
    show ma_sm (fun i => (a (40 + r) i).toInt * X i) nn ≤ (a 10 r).toInt * X 5
    omega
  · obtain ⟨l, q1, q2, q3⟩ := (k7 r hr hR).2 ((ma_above_i (d4 r hr).2.1).2.mpr hs)
    have := h (nn + l) (by omega)
    rw [vB l r q3, ma_fm_dot d1, Int.neg_mul] at this
    show (a 10 r).toInt * X 5 ≤ ma_sm (fun i => (a (40 + r) i).toInt * X i) nn
    omega
  · rcases cases j hj with q | ⟨i, q1, q2⟩ | ⟨l, r, q1, q2, q3, q4, q5, q6⟩
    · rw [vN j q, ma_fm_dot d1, ma_sm_congr (g := fun s => if s = j then X j else 0) (fun s hs => by
        unfold ma_e
        by_cases h : s = j
        · rw [if_pos h, if_pos h, h]; omega
        · rw [if_neg h, if_neg h]; omega), ma_sm_one q, Int.neg_mul]
      have : (a 6 j).toInt * X 5 ≤ X j := (h.1.2.2 j q).1
      omega
    · rw [q2, vH i q1, ma_fm_dot d1, ma_sm_congr (g := fun s => if s = i then - X i else 0) (fun s hs => by
        unfold ma_e
        by_cases h : s = i
        · rw [if_pos h, if_pos h, h]; omega
        · rw [if_neg h, if_neg h]; omega), ma_sm_one q1]
      have : X i ≤ (a 7 i).toInt * X 5 := (h.1.2.2 i q1).2
      omega
    · rw [q3]
      have hr := h.2 r q4 q5
      rcases q6 with q6 | q6
      · rw [vA l r q6, ma_fm_dot d1, ma_sm_congr (g := fun s => (-1) * ((a (40 + r) s).toInt * X s)) (fun s _ => by grind), ma_sm_mul]
        have : ma_sm (fun i => (a (40 + r) i).toInt * X i) nn ≤ (a 10 r).toInt * X 5 := hr.1 ((ma_above_i (d4 r q4).2.1).1.mp q6.1)
        omega
      · rw [vB l r q6, ma_fm_dot d1, Int.neg_mul]
        have : (a 10 r).toInt * X 5 ≤ ma_sm (fun i => (a (40 + r) i).toInt * X i) nn := hr.2 ((ma_above_i (d4 r q4).2.1).2.mp q6.1)
        omega
  · rcases cases j hj with q | ⟨i, q1, q2⟩ | ⟨l, r, q1, q2, q3, q4, q5, q6⟩
    · refine ⟨8 + j, ⟨by omega, fun w => by omega, fun _ => by omega⟩, Or.inl (fun i => ?_)⟩
      rw [vN j q]
      unfold ma_C
      rw [if_neg (by omega), if_pos (by omega), Nat.add_sub_cancel_left]
    · refine ⟨13 + i, ⟨by omega, fun w => by omega, fun _ => by omega⟩, Or.inr (fun c => ?_)⟩
      rw [q2, vH i q1]
      unfold ma_C
      rw [if_neg (by omega), if_neg (by omega), Nat.add_sub_cancel_left, ← ma_fm_neg]
      exact congrFun (ma_fm_c (fun _ _ => rfl) (by show (a 7 i).toInt = - -(a 7 i).toInt; omega)) c
    · rcases q6 with q6 | q6
      · refine ⟨r, ⟨by omega, fun _ => ⟨q4, q5⟩, fun w => by omega⟩, Or.inr (fun c => ?_)⟩
        rw [q3, vA l r q6]
        unfold ma_C
        rw [if_pos (by omega), ← ma_fm_neg]
        exact congrFun (ma_fm_c (fun _ _ => rfl) (by show (a 10 r).toInt = - -(a 10 r).toInt; omega)) c
      · refine ⟨r, ⟨by omega, fun _ => ⟨q4, q5⟩, fun w => by omega⟩, Or.inl (fun c => ?_)⟩
        rw [q3, vB l r q6]
        unfold ma_C
        rw [if_pos (by omega)]
  · rcases cases j hj with q | ⟨i, q1, q2⟩ | ⟨l, r, q1, q2, q3, q4, q5, q6⟩
    · rw [vN j q]
      have := d3 j q
      exact ma_fm_bd (fun s _ => by unfold ma_e; split <;> decide) (by omega)
    · rw [q2, vH i q1]
      have := d3 i q1
      exact ma_fm_bd (fun s _ => by unfold ma_e; split <;> decide) (by omega)
    · rw [q3]
      have w := d4 r q4
      rcases q6 with q6 | q6
      · rw [vA l r q6]
        exact ma_fm_bd (fun s hs => by have := w.2.2 s hs; omega) w.1
      · rw [vB l r q6]
        exact ma_fm_bd (fun s hs => w.2.2 s hs) (by have := w.1; omega)
/-- the point where a dictionary stands -/
def ma_pY (nc : Nat) (V : Nat → Nat → Int) (x : ma_X) : Nat → Int := fun i => ma_kx nc V x 5 (ma_e i)
theorem ma_pY_dot {nc nl : Nat} {V : Nat → Nat → Int} {x : ma_X} (D : ma_DX nc nl V x) (v : Nat → Int) : ma_dot v (ma_pY nc V x) = ma_kx nc V x 5 v := (ma_DI_LP D).2.2.1 5 (by decide) v
theorem ma_pY_z {nc nl : Nat} {V : Nat → Nat → Int} {x : ma_X} (D : ma_DX nc nl V x) : ma_zr nc (ma_pY nc V x) ∧ ma_pY nc V x 5 = ma_u (ma_oo nc V x.2.1) ∧ 0 < ma_pY nc V x 5 := by
  have n1 := D.1.1
  have Lp := ma_DI_LP D
  have e5 : ma_pY nc V x 5 = ma_u (ma_oo nc V x.2.1) := by
    have := Lp.2.2.2 5 5 (by decide) (by decide)
    rw [if_pos rfl, ma_oo_5 n1] at this
    exact this
  refine ⟨fun i h1 h2 => ?_, e5, by rw [e5]; exact Lp.1⟩
  have := Lp.2.2.2 5 i (by decide) (by omega)
  rw [if_neg (by omega), ma_oo, ma_o_out h1] at this
  exact this
/-- a row over a point, by what the dictionary tells -/
theorem ma_tell {nc nl : Nat} {V : Nat → Nat → Int} {x : ma_X} (D : ma_DX nc nl V x) (v : Nat → Int) {X : Nat → Int} (hz : ma_zr nc X) : ma_u (ma_oo nc V x.2.1) * ma_dot v X = ma_sm (fun s => ma_kx nc V x s v * ma_dot (V (ma_Oa x.2.1 s)) X) nc + ma_kx nc V x 5 v * X 5 := by
  have n1 := D.1.1
  rw [(ma_DI_LP D).2.1 v X, ma_sm_congr (g := fun s => (if s < nc then ma_kx nc V x s v * ma_dot (V (ma_Oa x.2.1 s)) X else 0) + (if s = 5 then ma_kx nc V x 5 v * X 5 else 0)) (fun s hs => ?_), ma_sm_add, ma_sm_one (by decide)]
  · congr 1
    have e : (6 : Nat) = nc + (6 - nc) := by omega
    rw [e, ma_sm_pre (6 - nc) (fun i h1 h2 => if_neg (by omega))]
    exact ma_sm_congr (fun i hi => if_pos hi)
  · by_cases h : s < nc
    · rw [if_pos h, if_neg (by omega), ma_oo, ma_o_in h]
      show _ = _ + 0
      rw [Int.add_zero]
      rfl
    · rw [if_neg h, ma_oo, ma_o_out (by omega), ma_e_dot hs]
      by_cases h5 : s = 5
      · rw [if_pos h5, h5, Int.zero_add]
        rfl
      · rw [if_neg h5, hz s (by omega) (by omega)]
        omega
theorem ma_sm_nn {f : Nat → Int} : ∀ {n : Nat}, (∀ i, i < n → 0 ≤ f i) → 0 ≤ ma_sm f n
  | 0, _ => by simp [ma_sm]
  | n + 1, h => by
    have h1 := ma_sm_nn (n := n) (fun i hi => h i (by omega))
    have h2 := h n (by omega)
    show 0 ≤ ma_sm f n + f n
    omega
theorem ma_no {nn nr nl : Nat} {V : Nat → Nat → Int} {x : ma_X} {a : gF} {R : Nat → Prop} (D : ma_DX nn nl V x) (C : ma_CD nn nr a R nl V) {t : Nat} (ht : t < nn + nl) (h5 : ma_kx nn V x 5 (V t) < 0) (hs : ∀ s, s < nn → ma_kx nn V x s (V t) ≤ 0) : ∀ X, ¬ ma_fs nn nr (ma_ci a 6) (ma_ci a 7) (ma_ci a 9) (ma_ci a 10) (ma_fa a) R X := by
  intro X hX
  have hz := hX.1.2.1
  have hp := hX.1.1
  have hV := (C.2.2.2.1 X hz hp).mpr hX
  have h := ma_tell D (V t) hz
  have h1 : ma_sm (fun s => ma_kx nn V x s (V t) * ma_dot (V (ma_Oa x.2.1 s)) X) nn ≤ 0 := ma_sm_le (fun s hs2 => ma_np (hs s hs2) (hV _ (D.2.2.2.1 s hs2).2))
  have h2 : ma_kx nn V x 5 (V t) * X 5 < 0 := Int.mul_neg_of_neg_of_pos h5 hp
  have h3 : 0 ≤ ma_u (ma_oo nn V x.2.1) * ma_dot (V t) X := Int.mul_nonneg (Int.le_of_lt (ma_DI_LP D).1) (hV t ht)
  omega
theorem ma_yes {nn nr nl : Nat} {V : Nat → Nat → Int} {x : ma_X} {a : gF} {R : Nat → Prop} (D : ma_DX nn nl V x) (C : ma_CD nn nr a R nl V) (hf : ma_fe nn nl V x) : ma_fs nn nr (ma_ci a 6) (ma_ci a 7) (ma_ci a 9) (ma_ci a 10) (ma_fa a) R (ma_pY nn V x) := by
  obtain ⟨z1, z2, z3⟩ := ma_pY_z D
  exact (C.2.2.2.1 _ z1 z3).mp (fun j hj => by rw [ma_pY_dot D]; exact hf j hj)
/-- canKeep -/
theorem ma_keep {I a : gF} {J b : gL} {nn nr n : Nat} {set : Int32} (hd : ma_dat nn nr a) (hn : 65780 ≤ n) :
    ∃ V, ma_CD nn nr a (fun r => s_bit set r ≠ 0) (s_kr I a b nn set nr).2 V ∧ ma_DX nn (s_kr I a b nn set nr).2 V (d_find (s_kr I a b nn set nr).2 nn n (gU J 4 6 1, (s_kr I a b nn set nr).1.2.1, (s_kr I a b nn set nr).1.2.2)).2 ∧ ma_fx (gU J 4 6 1, (s_kr I a b nn set nr).1.2.1, (s_kr I a b nn set nr).1.2.2) (d_find (s_kr I a b nn set nr).2 nn n (gU J 4 6 1, (s_kr I a b nn set nr).1.2.1, (s_kr I a b nn set nr).1.2.2)).2 ∧ ((((d_find (s_kr I a b nn set nr).2 nn n (gU J 4 6 1, (s_kr I a b nn set nr).1.2.1, (s_kr I a b nn set nr).1.2.2)).1 = 1 ∧ ma_fe nn (s_kr I a b nn set nr).2 V (d_find (s_kr I a b nn set nr).2 nn n (gU J 4 6 1, (s_kr I a b nn set nr).1.2.1, (s_kr I a b nn set nr).1.2.2)).2) ∧ ∃ X, ma_fs nn nr (ma_ci a 6) (ma_ci a 7) (ma_ci a 9) (ma_ci a 10) (ma_fa a) (fun r => s_bit set r ≠ 0) X) ∨ ((d_find (s_kr I a b nn set nr).2 nn n (gU J 4 6 1, (s_kr I a b nn set nr).1.2.1, (s_kr I a b nn set nr).1.2.2)).1 = 0 ∧ ∀ X, ¬ ma_fs nn nr (ma_ci a 6) (ma_ci a 7) (ma_ci a 9) (ma_ci a 10) (ma_fa a) (fun r => s_bit set r ≠ 0) X)) := by
  obtain ⟨k1, k2, k3, k4, k5, k6, k7⟩ := ma_kr (I := I) (b := b) (set := set) hd nr (Nat.le_refl _)
  obtain ⟨C, hbd⟩ := ma_CD_of (I := I) (b := b) (set := set) hd
  have d1 := hd.1
  have d2 := hd.2.1
  have S := ma_start (J := gU J 4 6 1) (a := a) d1 (show (s_kr I a b nn set nr).2 ≤ 21 by omega) k1 gU_s hbd
  obtain ⟨f1, f2, f3⟩ := ma_find_s (x := (gU J 4 6 1, (s_kr I a b nn set nr).1.2.1, (s_kr I a b nn set nr).1.2.2)) S (by omega) hn
  refine ⟨_, C, f1, f2, ?_⟩
  rcases f3 with ⟨q1, q2⟩ | ⟨q1, t, t1, t2, t3⟩
  · exact Or.inl ⟨⟨q1, q2⟩, _, ma_yes f1 C q2⟩
  · exact Or.inr ⟨q1, ma_no f1 C t1 t2 t3⟩
