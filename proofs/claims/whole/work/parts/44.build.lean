/-! THE MATHEMATICS, 10: the dictionary as canKeep begins it -/
theorem ma_bm32 {x : Int} (h : x.natAbs ≤ 2000000000) : x.bmod (2 ^ 32) = x := Int.bmod_eq_of_le (by omega) (by omega)
theorem ma_mul3 {x y : Int32} {p q : Int} (hx : x.toInt = p) (hy : y.toInt = q) (h : (p * q).natAbs ≤ 2000000000) : (x * y).toInt = p * q := by
  rw [Int32.toInt_mul, hx, hy, ma_bm32 h]
theorem ma_sub3 {x y : Int32} {p q : Int} (hx : x.toInt = p) (hy : y.toInt = q) (h : (p - q).natAbs ≤ 2000000000) : (x - y).toInt = p - q := by
  rw [Int32.toInt_sub, hx, hy, ma_bm32 h]
theorem ma_add3 {x y : Int32} {p q : Int} (hx : x.toInt = p) (hy : y.toInt = q) (h : (p + q).natAbs ≤ 2000000000) : (x + y).toInt = p + q := by
  rw [Int32.toInt_add, hx, hy, ma_bm32 h]
theorem ma_neg3 {x : Int32} {p : Int} (hx : x.toInt = p) (h : p.natAbs ≤ 2000000000) : (-x).toInt = -p := by
  rw [Int32.toInt_neg, hx, ma_bm32 (by omega)]
theorem ma_e03 {x : Int32} : x = 0 ↔ x.toInt = 0 := by rw [← Int32.toInt_inj]; rfl
/-- a line of the dictionary at its beginning -/
def ma_ln (b : gL) (nn l : Nat) (f : Nat → Int) (r : Int) : Prop := (∀ s, s < nn → (b (48 + l) s).toInt = f s) ∧ (b 14 l).toInt = r
def ma_bf (I I' a a' : gF) (b b' : gL) : Prop := (∀ k j, k ≠ 15 → k ≠ 16 → k ≠ 17 → k ≠ 19 → a' k j = a k j) ∧ (∀ k j, k ≠ 14 → (k < 48 ∨ 69 ≤ k) → b' k j = b k j) ∧ (∀ k j, ¬ (k = 4 ∧ j = 7) → ¬ (k = 4 ∧ j = 8) → I' k j = I k j)
theorem ma_bf_t {I I' I'' a a' a'' : gF} {b b' b'' : gL} (h1 : ma_bf I I' a a' b b') (h2 : ma_bf I' I'' a' a'' b' b'') : ma_bf I I'' a a'' b b'' := ⟨fun k j q1 q2 q3 q4 => (h2.1 k j q1 q2 q3 q4).trans (h1.1 k j q1 q2 q3 q4), fun k j q1 q2 => (h2.2.1 k j q1 q2).trans (h1.2.1 k j q1 q2), fun k j q1 q2 => (h2.2.2 k j q1 q2).trans (h1.2.2 k j q1 q2)⟩
/-- what stands while lines are added: how many, and which variables -/
def ma_BI (nn nl : Nat) (x : gF × gF × gL) : Prop := x.1 4 7 = nI nl ∧ x.1 4 8 = nI nn ∧ (∀ l, l < nl → x.2.1 15 l = nI (nn + l)) ∧ (∀ s, s < nn → x.2.1 16 s = nI s ∧ x.2.1 17 s = 0)
theorem ma_addL {a : gF} {b : gL} {kf nl : Nat} {sg : Int32} : ∀ n k j, d_addL a b kf nl sg n k j = if k = 48 + nl ∧ j < n then (sg * a kf j).toInt64 else b k j
  | 0, k, j => by
    rw [if_neg (by omega)]
    rfl
  | n + 1, k, j => by
    show gU (d_addL a b kf nl sg n) (48 + nl) n (sg * a kf n).toInt64 k j = _
    by_cases h : k = 48 + nl ∧ j = n
    · obtain ⟨rfl, rfl⟩ := h
      rw [gU_s, if_pos (by omega)]
    · rw [gU_n (by omega), ma_addL]
      by_cases h2 : k = 48 + nl ∧ j < n
      · rw [if_pos h2, if_pos (by omega)]
      · rw [if_neg h2, if_neg (by omega)]
theorem ma_add1 {I a : gF} {b : gL} {nn nl kf : Nat} {sg ri : Int32} {e r : Int} (f : Nat → Int) (hB : ma_BI nn nl (I, a, b)) (hl : nl < 21) (he : sg.toInt = e) (he2 : e = 1 ∨ e = -1) (hf : ∀ s, s < nn → (a kf s).toInt = f s ∧ (f s).natAbs ≤ 9) (hr : ri.toInt = r) :
    ma_BI nn (nl + 1) (s_add I a b kf nl nn sg ri) ∧ ma_ln (s_add I a b kf nl nn sg ri).2.2 nn nl (fun s => e * f s) r ∧ (∀ l g q, l < nl → ma_ln b nn l g q → ma_ln (s_add I a b kf nl nn sg ri).2.2 nn l g q) ∧ ma_bf I (s_add I a b kf nl nn sg ri).1 a (s_add I a b kf nl nn sg ri).2.1 b (s_add I a b kf nl nn sg ri).2.2 := by
  have hb : ∀ k j, (s_add I a b kf nl nn sg ri).2.2 k j = if k = 14 ∧ j = nl then ri.toInt64 else if k = 48 + nl ∧ j < nn then (sg * a kf j).toInt64 else b k j := by
    intro k j
    show gU (d_addL a b kf nl sg nn) 14 nl ri.toInt64 k j = _
    by_cases h : k = 14 ∧ j = nl
    · obtain ⟨rfl, rfl⟩ := h
      rw [gU_s, if_pos ⟨rfl, rfl⟩]
    · rw [gU_n (by omega), if_neg h, ma_addL]
  obtain ⟨b1, b2, b3, b4⟩ := hB
  refine ⟨⟨?_, ?_, fun l hl2 => ?_, fun s hs => ?_⟩, ⟨fun s hs => ?_, ?_⟩, fun l g q hl2 h => ⟨fun s hs => ?_, ?_⟩, fun k j q1 q2 q3 q4 => ?_, fun k j q1 q2 => ?_, fun k j q1 q2 => ?_⟩
  · show gU I 4 7 (I 4 7 + 1) 4 7 = _
    rw [gU_s]
    have b1 : I 4 7 = nI nl := b1
    rw [b1, nI_1]
  · show gU I 4 7 (I 4 7 + 1) 4 8 = _
    rw [gU_n (by omega)]
    exact b2
  · show gU a 15 nl (I 4 8 + I 4 7) 15 l = _
    by_cases h : l = nl
    · rw [h, gU_s]
      have b1 : I 4 7 = nI nl := b1
      have b2 : I 4 8 = nI nn := b2
      rw [b1, b2, nI_add]
    · rw [gU_n (by omega)]
      exact b3 l (by omega)
  · show gU a 15 nl (I 4 8 + I 4 7) 16 s = _ ∧ gU a 15 nl (I 4 8 + I 4 7) 17 s = _
    rw [gU_n (by omega), gU_n (by omega)]
    exact b4 s hs
  · rw [hb, if_neg (by omega), if_pos ⟨rfl, hs⟩, Int32.toInt_toInt64]
    obtain ⟨f1, f2⟩ := hf s hs
    exact ma_mul3 he f1 (by rcases he2 with q | q <;> rw [q] <;> omega)
  · rw [hb, if_pos ⟨rfl, rfl⟩, Int32.toInt_toInt64]
    exact hr
  · rw [hb, if_neg (by omega), if_neg (by omega)]
    exact h.1 s hs
  · rw [hb, if_neg (by omega), if_neg (by omega)]
    exact h.2
  · show gU a 15 nl (I 4 8 + I 4 7) k j = _
    rw [gU_n (by omega)]
  · rw [hb, if_neg (by omega), if_neg (by omega)]
  · show gU I 4 7 (I 4 7 + 1) k j = _
    rw [gU_n (by omega)]
theorem ma_ids {a : gF} : ∀ n k j, d_ids a n k j = if k = 16 ∧ j < n then nI j else a k j
  | 0, k, j => by
    rw [if_neg (by omega)]
    rfl
  | n + 1, k, j => by
    show gU (d_ids a n) 16 n (nI n) k j = _
    by_cases h : k = 16 ∧ j = n
    · obtain ⟨rfl, rfl⟩ := h
      rw [gU_s, if_pos (by omega)]
    · rw [gU_n (by omega), ma_ids]
      by_cases h2 : k = 16 ∧ j < n
      · rw [if_pos h2, if_pos (by omega)]
      · rw [if_neg h2, if_neg (by omega)]
theorem ma_thaw {a : gF} : ∀ n k j, d_thaw a n k j = if k = 17 ∧ j < n then 0 else a k j
  | 0, k, j => by
    rw [if_neg (by omega)]
    rfl
  | n + 1, k, j => by
    show gU (d_thaw a n) 17 n 0 k j = _
    by_cases h : k = 17 ∧ j = n
    · obtain ⟨rfl, rfl⟩ := h
      rw [gU_s, if_pos (by omega)]
    · rw [gU_n (by omega), ma_thaw]
      by_cases h2 : k = 17 ∧ j < n
      · rw [if_pos h2, if_pos (by omega)]
      · rw [if_neg h2, if_neg (by omega)]
theorem ma_aim {a : gF} {x w : Int32} : ∀ n k j, s_aim a x w n k j = if k = 19 ∧ j < n then (if nI j = x then w else 0) else a k j
  | 0, k, j => by
    rw [if_neg (by omega)]
    rfl
  | n + 1, k, j => by
    have e : s_aim a x w (n + 1) = gU (s_aim a x w n) 19 n (if nI n = x then w else 0) := by
      show (if nI n = x then gU (s_aim a x w n) 19 n w else gU (s_aim a x w n) 19 n 0) = _
      split <;> rfl
    rw [e]
    by_cases h : k = 19 ∧ j = n
    · obtain ⟨rfl, rfl⟩ := h
      rw [gU_s, if_pos (show 19 = 19 ∧ j < j + 1 by omega)]
    · rw [gU_n (by omega), ma_aim]
      by_cases h2 : k = 19 ∧ j < n
      · rw [if_pos h2, if_pos (show k = 19 ∧ j < n + 1 by omega)]
      · rw [if_neg h2, if_neg (show ¬ (k = 19 ∧ j < n + 1) by omega)]
/-- the numbers of a problem are within the document's bounds -/
def ma_dat (nn nr : Nat) (a : gF) : Prop := nn ≤ 5 ∧ nr ≤ 8 ∧ (∀ i, i < nn → -100 ≤ (a 6 i).toInt ∧ (a 6 i).toInt ≤ (a 7 i).toInt ∧ (a 7 i).toInt ≤ 100 ∧ (a 8 i).toInt.natAbs ≤ 99) ∧ (∀ r, r < nr → (a 10 r).toInt.natAbs ≤ 1000 ∧ (a 9 r = 0 ∨ a 9 r = 1 ∨ a 9 r = 2) ∧ ∀ i, i < nn → (a (40 + r) i).toInt.natAbs ≤ 9)
def ma_lo (a : gF) (nn : Nat) (f : Nat → Int) : Int := ma_sm (fun i => f i * (a 6 i).toInt) nn
theorem ma_rt {a : gF} {nn nr r : Nat} (hd : ma_dat nn nr a) (hr : r < nr) : ∀ n, n ≤ nn → (s_rt a r n).toInt = (a 10 r).toInt - ma_sm (fun i => (a (40 + r) i).toInt * (a 6 i).toInt) n ∧ (ma_sm (fun i => (a (40 + r) i).toInt * (a 6 i).toInt) n).natAbs ≤ n * 900
  | 0, _ => ⟨by show (a 10 r).toInt = _ - 0; omega, Nat.le_refl _⟩
  | n + 1, hn => by
    obtain ⟨i1, i2⟩ := ma_rt hd hr n (by omega)
    obtain ⟨d1, d2, d3, d4⟩ := hd
    have l1 := d3 n (by omega)
    have f1 := (d4 r hr).2.2 n (by omega)
    have r1 := (d4 r hr).1
    have m1 := ma_mb f1 (show (a 6 n).toInt.natAbs ≤ 100 by omega)
    have m2 : (a (40 + r) n * a 6 n).toInt = (a (40 + r) n).toInt * (a 6 n).toInt := ma_mul3 rfl rfl (by omega)
    have b2 : (ma_sm (fun i => (a (40 + r) i).toInt * (a 6 i).toInt) n + (a (40 + r) n).toInt * (a 6 n).toInt).natAbs ≤ (n + 1) * 900 := by omega
    refine ⟨?_, b2⟩
    show (s_rt a r n - a (40 + r) n * a 6 n).toInt = (a 10 r).toInt - (ma_sm (fun i => (a (40 + r) i).toInt * (a 6 i).toInt) n + (a (40 + r) n).toInt * (a 6 n).toInt)
    rw [ma_sub3 i1 m2 (by omega)]
    omega
theorem ma_s_rt_congr {a a' : gF} {r : Nat} (h1 : a' 10 r = a 10 r) (h2 : ∀ i, a' (40 + r) i = a (40 + r) i) (h3 : ∀ i, a' 6 i = a 6 i) : ∀ n, s_rt a' r n = s_rt a r n
  | 0 => h1
  | n + 1 => by
    show s_rt a' r n - a' (40 + r) n * a' 6 n = s_rt a r n - a (40 + r) n * a 6 n
    rw [ma_s_rt_congr h1 h2 h3 n, h2, h3]
theorem ma_kn {I a : gF} {b : gL} {nn nr : Nat} (hd : ma_dat nn nr a) : ∀ n, n ≤ nn → ma_BI nn n (s_kn I a b nn n) ∧ (∀ l, l < n → ma_ln (s_kn I a b nn n).2.2 nn l (ma_e l) ((a 7 l).toInt - (a 6 l).toInt)) ∧ ma_bf I (s_kn I a b nn n).1 a (s_kn I a b nn n).2.1 b (s_kn I a b nn n).2.2
  | 0, _ => by
    have e : s_kn I a b nn 0 = (gU (gU I 4 8 (nI nn)) 4 7 0, d_thaw (d_ids a nn) nn, b) := rfl
    rw [e]
    refine ⟨⟨gU_s (f := gU I 4 8 (nI nn)) (k := 4) (j := 7), ?_, fun l h => by omega, fun s hs => ⟨?_, ?_⟩⟩, fun l h => by omega, fun k j q1 q2 q3 q4 => ?_, fun _ _ _ _ => rfl, fun k j q1 q2 => ?_⟩
    · show gU (gU I 4 8 (nI nn)) 4 7 0 4 8 = _
      rw [gU_n (by omega), gU_s]
    · show d_thaw (d_ids a nn) nn 16 s = _
      rw [ma_thaw, if_neg (by omega), ma_ids, if_pos ⟨rfl, hs⟩]
    · show d_thaw (d_ids a nn) nn 17 s = _
      rw [ma_thaw, if_pos ⟨rfl, hs⟩]
    · show d_thaw (d_ids a nn) nn k j = _
      rw [ma_thaw, if_neg (by omega), ma_ids, if_neg (by omega)]
    · show gU (gU I 4 8 (nI nn)) 4 7 0 k j = _
      rw [gU_n (by omega), gU_n (by omega)]
  | n + 1, hn => by
    obtain ⟨i1, i2, i3⟩ := ma_kn (I := I) (b := b) hd n (by omega)
    obtain ⟨d1, d2, d3, d4⟩ := hd
    have hA : ∀ k j, k ≠ 19 → s_aim (s_kn I a b nn n).2.1 (nI n) 1 5 k j = (s_kn I a b nn n).2.1 k j := fun k j h => by rw [ma_aim, if_neg (by omega)]
    have e7 : s_aim (s_kn I a b nn n).2.1 (nI n) 1 5 7 n = a 7 n := by rw [hA _ _ (by omega), i3.1 _ _ (by omega) (by omega) (by omega) (by omega)]
    have e6 : s_aim (s_kn I a b nn n).2.1 (nI n) 1 5 6 n = a 6 n := by rw [hA _ _ (by omega), i3.1 _ _ (by omega) (by omega) (by omega) (by omega)]
    have hB : ma_BI nn n ((s_kn I a b nn n).1, s_aim (s_kn I a b nn n).2.1 (nI n) 1 5, (s_kn I a b nn n).2.2) := by
      refine ⟨i1.1, i1.2.1, fun l hl => ?_, fun s hs => ?_⟩
      · show s_aim (s_kn I a b nn n).2.1 (nI n) 1 5 15 l = _
        rw [hA _ _ (by omega)]
        exact i1.2.2.1 l hl
      · show s_aim (s_kn I a b nn n).2.1 (nI n) 1 5 16 s = _ ∧ s_aim (s_kn I a b nn n).2.1 (nI n) 1 5 17 s = _
        rw [hA _ _ (by omega), hA _ _ (by omega)]
        exact i1.2.2.2 s hs
    have l1 := d3 n (by omega)
    obtain ⟨q1, q2, q3, q4⟩ := ma_add1 (kf := 19) (sg := 1) (ri := s_aim (s_kn I a b nn n).2.1 (nI n) 1 5 7 n - s_aim (s_kn I a b nn n).2.1 (nI n) 1 5 6 n) (e := 1) (r := (a 7 n).toInt - (a 6 n).toInt) (ma_e n) hB (by omega) rfl (Or.inl rfl) (fun s hs => by
      rw [ma_aim, if_pos ⟨rfl, by omega⟩]
      unfold ma_e
      by_cases q : s = n
      · rw [if_pos (by rw [q]), if_pos q]
        exact ⟨rfl, by decide⟩
      · rw [if_neg (by rw [nI_eq (by omega) (by omega)]; exact q), if_neg q]
        exact ⟨rfl, by decide⟩) (by
      rw [e7, e6]
      exact ma_sub3 rfl rfl (by omega))
    refine ⟨q1, fun l hl => ?_, ma_bf_t i3 (ma_bf_t ⟨fun k j a1 a2 a3 a4 => hA k j a4, fun _ _ _ _ => rfl, fun _ _ _ _ => rfl⟩ q4)⟩
    by_cases h : l = n
    · subst h
      refine ⟨fun s hs => ?_, q2.2⟩
      have this : _ = 1 * ma_e l s := q2.1 s hs
      rw [Int.one_mul] at this
      exact this
    · exact q3 l _ _ (by omega) (i2 l (by omega))
/-- the lines of the rows in a set -/
def ma_La (a : gF) (b : gL) (nn l r : Nat) : Prop := p_above a r ≠ 0 ∧ ma_ln b nn l (fun s => (a (40 + r) s).toInt) ((a 10 r).toInt - ma_sm (fun i => (a (40 + r) i).toInt * (a 6 i).toInt) nn)
def ma_Lb (a : gF) (b : gL) (nn l r : Nat) : Prop := p_below a r ≠ 0 ∧ ma_ln b nn l (fun s => -(a (40 + r) s).toInt) (-((a 10 r).toInt - ma_sm (fun i => (a (40 + r) i).toInt * (a 6 i).toInt) nn))
theorem ma_above_c {a a' : gF} {r : Nat} (h : a' 9 r = a 9 r) : p_above a' r = p_above a r ∧ p_below a' r = p_below a r := by
  unfold p_above p_below
  rw [h]
  exact ⟨rfl, rfl⟩
theorem ma_rowS {I a : gF} {b : gL} {nn nr nl r : Nat} {x : gF × gF × gL} (hd : ma_dat nn nr a) (hr : r < nr) (hB : ma_BI nn nl x) (hl : nl + 1 < 21) (hf : ma_bf I x.1 a x.2.1 b x.2.2) :
    ma_BI nn (s_nl x.2.1 r nl) (s_row x.1 x.2.1 x.2.2 r nl nn) ∧ nl ≤ s_nl x.2.1 r nl ∧ s_nl x.2.1 r nl ≤ nl + 2 ∧ (∀ l g q, l < nl → ma_ln x.2.2 nn l g q → ma_ln (s_row x.1 x.2.1 x.2.2 r nl nn).2.2 nn l g q) ∧ ma_bf I (s_row x.1 x.2.1 x.2.2 r nl nn).1 a (s_row x.1 x.2.1 x.2.2 r nl nn).2.1 b (s_row x.1 x.2.1 x.2.2 r nl nn).2.2 ∧ (∀ l, nl ≤ l → l < s_nl x.2.1 r nl → ma_La a (s_row x.1 x.2.1 x.2.2 r nl nn).2.2 nn l r ∨ ma_Lb a (s_row x.1 x.2.1 x.2.2 r nl nn).2.2 nn l r) ∧ (p_above a r ≠ 0 → ∃ l, nl ≤ l ∧ l < s_nl x.2.1 r nl ∧ ma_La a (s_row x.1 x.2.1 x.2.2 r nl nn).2.2 nn l r) ∧ (p_below a r ≠ 0 → ∃ l, nl ≤ l ∧ l < s_nl x.2.1 r nl ∧ ma_Lb a (s_row x.1 x.2.1 x.2.2 r nl nn).2.2 nn l r) := by
  obtain ⟨xI, xa, xb⟩ := x
  have h9 : xa 9 r = a 9 r := hf.1 9 r (by omega) (by omega) (by omega) (by omega)
  have h10 : xa 10 r = a 10 r := hf.1 10 r (by omega) (by omega) (by omega) (by omega)
  have h6 : ∀ i, xa 6 i = a 6 i := fun i => hf.1 6 i (by omega) (by omega) (by omega) (by omega)
  have h40 : ∀ i, xa (40 + r) i = a (40 + r) i := fun i => hf.1 (40 + r) i (by omega) (by omega) (by omega) (by omega)
  have ert : s_rt xa r nn = s_rt a r nn := ma_s_rt_congr h10 h40 h6 nn
  obtain ⟨t1, t2⟩ := ma_rt hd hr nn (Nat.le_refl _)
  obtain ⟨eA, eB⟩ := ma_above_c (a := a) (a' := xa) h9
  obtain ⟨d1, d2, d3, d4⟩ := hd
  have hfa : ∀ s, s < nn → (xa (40 + r) s).toInt = (a (40 + r) s).toInt ∧ ((a (40 + r) s).toInt).natAbs ≤ 9 := fun s hs => ⟨by rw [h40], (d4 r hr).2.2 s hs⟩
  have r1 := (d4 r hr).1
  have hB : ma_BI nn nl (xI, xa, xb) := hB
  show ma_BI nn (s_nl xa r nl) (s_row xI xa xb r nl nn) ∧ _ ∧ _ ∧ _ ∧ _ ∧ _ ∧ _ ∧ _
  by_cases cA : p_above a r = 0
  · by_cases cB : p_below a r = 0
    · exfalso
      unfold p_above at cA
      unfold p_below at cB
      rcases (d4 r hr).2.1 with q | q | q <;> rw [q] at cA cB <;> revert cA cB <;> decide
    · have en : s_nl xa r nl = nl + 1 := by unfold s_nl; rw [eA, eB, if_pos cA, if_neg cB]
      have es : s_row xI xa xb r nl nn = s_add xI xa xb (40 + r) nl nn (-1) (-s_rt xa r nn) := by unfold s_row; rw [eA, eB, if_pos cA, if_neg cB]
      obtain ⟨q1, q2, q3, q4⟩ := ma_add1 (kf := 40 + r) (sg := -1) (ri := -s_rt xa r nn) (e := -1) (r := -((a 10 r).toInt - ma_sm (fun i => (a (40 + r) i).toInt * (a 6 i).toInt) nn)) (fun s => (a (40 + r) s).toInt) hB (by omega) (by decide) (Or.inr rfl) hfa (by
        rw [ert]
        exact ma_neg3 t1 (by omega))
      have hL : ma_Lb a (s_add xI xa xb (40 + r) nl nn (-1) (-s_rt xa r nn)).2.2 nn nl r := ⟨cB, fun s hs => by
        have := q2.1 s hs
        rw [this]
        show (-1 : Int) * (a (40 + r) s).toInt = -(a (40 + r) s).toInt
        omega, q2.2⟩
      rw [en, es]
      refine ⟨q1, by omega, by omega, q3, ma_bf_t hf q4, fun l h1 h2 => ?_, fun h => absurd cA h, fun _ => ⟨nl, by omega, by omega, hL⟩⟩
      have : l = nl := by omega
      rw [this]
      exact Or.inr hL
  · obtain ⟨q1, q2, q3, q4⟩ := ma_add1 (kf := 40 + r) (sg := 1) (ri := s_rt xa r nn) (e := 1) (r := (a 10 r).toInt - ma_sm (fun i => (a (40 + r) i).toInt * (a 6 i).toInt) nn) (fun s => (a (40 + r) s).toInt) hB (by omega) (by decide) (Or.inl rfl) hfa (by rw [ert]; exact t1)
    have eB2 : p_below (gU xa 15 nl (xI 4 8 + xI 4 7)) r = p_below a r := (ma_above_c (a := a) (by rw [gU_n (by omega), h9])).2
    have hL : ma_La a (s_add xI xa xb (40 + r) nl nn 1 (s_rt xa r nn)).2.2 nn nl r := ⟨cA, fun s hs => by
      have := q2.1 s hs
      rw [this]
      show (1 : Int) * (a (40 + r) s).toInt = (a (40 + r) s).toInt
      omega, q2.2⟩
    by_cases cB : p_below a r = 0
    · have en : s_nl xa r nl = nl + 1 := by unfold s_nl; rw [eA, eB, if_neg cA, if_pos cB]
      have es : s_row xI xa xb r nl nn = s_add xI xa xb (40 + r) nl nn 1 (s_rt xa r nn) := by unfold s_row; rw [eA, if_neg cA, eB2, if_pos cB]
      rw [en, es]
      refine ⟨q1, by omega, by omega, q3, ma_bf_t hf q4, fun l h1 h2 => ?_, fun _ => ⟨nl, by omega, by omega, hL⟩, fun h => absurd cB h⟩
      have : l = nl := by omega
      rw [this]
      exact Or.inl hL
    · have en : s_nl xa r nl = nl + 1 + 1 := by unfold s_nl; rw [eA, eB, if_neg cA, if_neg cB]
      have es : s_row xI xa xb r nl nn = s_add (s_add xI xa xb (40 + r) nl nn 1 (s_rt xa r nn)).1 (s_add xI xa xb (40 + r) nl nn 1 (s_rt xa r nn)).2.1 (s_add xI xa xb (40 + r) nl nn 1 (s_rt xa r nn)).2.2 (40 + r) (nl + 1) nn (-1) (-s_rt xa r nn) := by
        unfold s_row
        rw [eA, if_neg cA, eB2, if_neg cB]
        rfl
      have h40' : ∀ i, (s_add xI xa xb (40 + r) nl nn 1 (s_rt xa r nn)).2.1 (40 + r) i = a (40 + r) i := fun i => (q4.1 (40 + r) i (by omega) (by omega) (by omega) (by omega)).trans (h40 i)
      obtain ⟨w1, w2, w3, w4⟩ := ma_add1 (I := (s_add xI xa xb (40 + r) nl nn 1 (s_rt xa r nn)).1) (a := (s_add xI xa xb (40 + r) nl nn 1 (s_rt xa r nn)).2.1) (b := (s_add xI xa xb (40 + r) nl nn 1 (s_rt xa r nn)).2.2) (kf := 40 + r) (sg := -1) (ri := -s_rt xa r nn) (e := -1) (r := -((a 10 r).toInt - ma_sm (fun i => (a (40 + r) i).toInt * (a 6 i).toInt) nn)) (fun s => (a (40 + r) s).toInt) q1 (by omega) (by decide) (Or.inr rfl) (fun s hs => ⟨by rw [h40'], (d4 r hr).2.2 s hs⟩) (by
        rw [ert]
        exact ma_neg3 t1 (by omega))
      have hL2 : ma_Lb a (s_row xI xa xb r nl nn).2.2 nn (nl + 1) r := by
        rw [es]
        exact ⟨cB, fun s hs => by
          have := w2.1 s hs
          rw [this]
          show (-1 : Int) * (a (40 + r) s).toInt = -(a (40 + r) s).toInt
          omega, w2.2⟩
      have hL1 : ma_La a (s_row xI xa xb r nl nn).2.2 nn nl r := by
        rw [es]
        exact ⟨cA, w3 nl _ _ (by omega) hL.2⟩
      rw [en]
      refine ⟨by rw [es]; exact w1, by omega, by omega, fun l g q h1 h2 => ?_, ?_, fun l h1 h2 => ?_, fun _ => ⟨nl, by omega, by omega, hL1⟩, fun _ => ⟨nl + 1, by omega, by omega, hL2⟩⟩
      · rw [es]
        exact w3 l g q (by omega) (q3 l g q h1 h2)
      · rw [es]
        exact ma_bf_t hf (ma_bf_t q4 w4)
      · by_cases q : l = nl
        · rw [q]; exact Or.inl hL1
        · have : l = nl + 1 := by omega
          rw [this]; exact Or.inr hL2
theorem ma_kr {I a : gF} {b : gL} {nn nr : Nat} {set : Int32} (hd : ma_dat nn nr a) : ∀ n, n ≤ nr → ma_BI nn (s_kr I a b nn set n).2 (s_kr I a b nn set n).1 ∧ nn ≤ (s_kr I a b nn set n).2 ∧ (s_kr I a b nn set n).2 ≤ nn + 2 * n ∧ (∀ l, l < nn → ma_ln (s_kr I a b nn set n).1.2.2 nn l (ma_e l) ((a 7 l).toInt - (a 6 l).toInt)) ∧ ma_bf I (s_kr I a b nn set n).1.1 a (s_kr I a b nn set n).1.2.1 b (s_kr I a b nn set n).1.2.2 ∧ (∀ l, nn ≤ l → l < (s_kr I a b nn set n).2 → ∃ r, r < n ∧ s_bit set r ≠ 0 ∧ (ma_La a (s_kr I a b nn set n).1.2.2 nn l r ∨ ma_Lb a (s_kr I a b nn set n).1.2.2 nn l r)) ∧ (∀ r, r < n → s_bit set r ≠ 0 → (p_above a r ≠ 0 → ∃ l, nn ≤ l ∧ l < (s_kr I a b nn set n).2 ∧ ma_La a (s_kr I a b nn set n).1.2.2 nn l r) ∧ (p_below a r ≠ 0 → ∃ l, nn ≤ l ∧ l < (s_kr I a b nn set n).2 ∧ ma_Lb a (s_kr I a b nn set n).1.2.2 nn l r))
  | 0, _ => by
    obtain ⟨i1, i2, i3⟩ := ma_kn (I := I) (b := b) hd nn (Nat.le_refl _)
    refine ⟨i1, Nat.le_refl _, Nat.le_refl _, i2, i3, fun l h1 h2 => ?_, fun r h => by omega⟩
    have h2 : l < nn := h2
    omega
  | n + 1, hn => by
    obtain ⟨i1, i2, i3, i4, i5, i6, i7⟩ := ma_kr (I := I) (b := b) (set := set) hd n (by omega)
    have d1 := hd.1
    have d2 := hd.2.1
    have e : s_kr I a b nn set (n + 1) = if s_bit set n = 0 then s_kr I a b nn set n else (s_row (s_kr I a b nn set n).1.1 (s_kr I a b nn set n).1.2.1 (s_kr I a b nn set n).1.2.2 n (s_kr I a b nn set n).2 nn, s_nl (s_kr I a b nn set n).1.2.1 n (s_kr I a b nn set n).2) := rfl
    by_cases hb : s_bit set n = 0
    · rw [e, if_pos hb]
      refine ⟨i1, i2, by omega, i4, i5, fun l h1 h2 => ?_, fun r h1 h2 => ?_⟩
      · obtain ⟨r, q1, q2, q3⟩ := i6 l h1 h2
        exact ⟨r, by omega, q2, q3⟩
      · by_cases q : r = n
        · rw [q] at h2; exact absurd hb h2
        · exact i7 r (by omega) h2
    · rw [e, if_neg hb]
      obtain ⟨w1, w2, w3, w4, w5, w6, w7, w8⟩ := ma_rowS (I := I) (b := b) hd (show n < nr by omega) i1 (by omega) i5
      have up1 : ∀ l r, l < (s_kr I a b nn set n).2 → ma_La a (s_kr I a b nn set n).1.2.2 nn l r → ma_La a (s_row (s_kr I a b nn set n).1.1 (s_kr I a b nn set n).1.2.1 (s_kr I a b nn set n).1.2.2 n (s_kr I a b nn set n).2 nn).2.2 nn l r := fun l r h1 h2 => ⟨h2.1, w4 l _ _ h1 h2.2⟩
      have up2 : ∀ l r, l < (s_kr I a b nn set n).2 → ma_Lb a (s_kr I a b nn set n).1.2.2 nn l r → ma_Lb a (s_row (s_kr I a b nn set n).1.1 (s_kr I a b nn set n).1.2.1 (s_kr I a b nn set n).1.2.2 n (s_kr I a b nn set n).2 nn).2.2 nn l r := fun l r h1 h2 => ⟨h2.1, w4 l _ _ h1 h2.2⟩
      refine ⟨w1, by show nn ≤ s_nl _ _ _; omega, by show s_nl _ _ _ ≤ _; omega, fun l hl => w4 l _ _ (by omega) (i4 l hl), w5, fun l h1 h2 => ?_, fun r h1 h2 => ?_⟩
      · by_cases q : l < (s_kr I a b nn set n).2
        · obtain ⟨r, q1, q2, q3⟩ := i6 l h1 q
          refine ⟨r, by omega, q2, ?_⟩
          rcases q3 with q3 | q3
          · exact Or.inl (up1 l r q q3)
          · exact Or.inr (up2 l r q q3)
        · exact ⟨n, by omega, hb, w6 l (by omega) h2⟩
      · by_cases q : r = n
        · rw [q]
          refine ⟨fun h => ?_, fun h => ?_⟩
          · obtain ⟨l, a1, a2, a3⟩ := w7 h
            exact ⟨l, by omega, a2, a3⟩
          · obtain ⟨l, a1, a2, a3⟩ := w8 h
            exact ⟨l, by omega, a2, a3⟩
        · obtain ⟨j1, j2⟩ := i7 r (by omega) h2
          refine ⟨fun h => ?_, fun h => ?_⟩
          · obtain ⟨l, a1, a2, a3⟩ := j1 h
            exact ⟨l, a1, by show l < s_nl _ _ _; omega, up1 l r a2 a3⟩
          · obtain ⟨l, a1, a2, a3⟩ := j2 h
            exact ⟨l, a1, by show l < s_nl _ _ _; omega, up2 l r a2 a3⟩
