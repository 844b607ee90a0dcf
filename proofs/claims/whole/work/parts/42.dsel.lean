/-! THE MATHEMATICS, 8: the column that falls, the line that stops it, the slopes -/
/-- x stops no later than y -/
def ma_Le (a : gF) (b : gL) (s x y : Nat) : Prop := (b 14 x).toInt * (b (48 + y) s).toInt ≤ (b 14 y).toInt * (b (48 + x) s).toInt ∧ ((b 14 x).toInt * (b (48 + y) s).toInt = (b 14 y).toInt * (b (48 + x) s).toInt → a 15 x ≤ a 15 y)
theorem ma_stop {a : gF} {b : gL} {s nl : Nat} (hnl : nl ≤ 21) (hb : ∀ i, i < nl → (b (48 + i) s).toInt.natAbs ≤ 7085880) (hR : ∀ i, i < nl → (b 14 i).toInt.natAbs ≤ 42515280000) : ∀ n, n ≤ nl → (d_stop a b s n = -1 ∧ ∀ r, r < n → ¬ ¬ b (48 + r) s ≤ 0) ∨ ∃ r, r < n ∧ d_stop a b s n = nI r ∧ ¬ b (48 + r) s ≤ 0 ∧ ∀ r', r' < n → ¬ b (48 + r') s ≤ 0 → ma_Le a b s r r' := by
  refine ma_pick (G := d_stop a b s) (M := nl) (C := fun r => ¬ b (48 + r) s ≤ 0) (Le := ma_Le a b s) rfl (fun n _ h => ?_) (fun n _ h g => ?_) (fun n hn h o ho hco g => ?_) (fun x => ⟨Int.le_refl _, fun _ => Int32.le_refl _⟩) (fun x y z _ _ _ hx hy hz l1 l2 => ?_)
  · show (if b (48 + n) s ≤ 0 then _ else _) = _
    rw [if_pos (Classical.not_not.mp h)]
  · show (if b (48 + n) s ≤ 0 then _ else if d_stop a b s n < 0 then nI n else _) = _
    rw [if_neg h, g]
    rfl
  · have e : d_stop a b s (n + 1) = if d_stops a b n o s = 0 then d_stop a b s n else nI n := by
      show (if b (48 + n) s ≤ 0 then _ else if d_stop a b s n < 0 then nI n else if d_stops a b n (d_stop a b s n).toNatClampNeg s = 0 then _ else _) = _
      rw [if_neg h, if_neg (by rw [g]; exact nI_pos (by omega)), g, nI_clamp (by omega)]
    rw [e]
    have m1 : (b 14 n * b (48 + o) s).toInt = (b 14 n).toInt * (b (48 + o) s).toInt := ma_mul rfl rfl (by have := ma_mb (hR n (by omega)) (hb o (by omega)); omega)
    have m2 : (b 14 o * b (48 + n) s).toInt = (b 14 o).toInt * (b (48 + n) s).toInt := ma_mul rfl rfl (by have := ma_mb (hR o (by omega)) (hb n (by omega)); omega)
    unfold d_stops
    by_cases c1 : b 14 n * b (48 + o) s < b 14 o * b (48 + n) s
    · rw [if_pos c1]
      rw [Int64.lt_iff_toInt_lt, m1, m2] at c1
      refine Or.inr ⟨⟨by omega, fun q => by omega⟩, ?_⟩
      rw [if_neg (by decide)]
    · rw [if_neg c1]
      rw [Int64.lt_iff_toInt_lt, m1, m2] at c1
      by_cases c2 : b 14 n * b (48 + o) s = b 14 o * b (48 + n) s
      · rw [if_pos c2]
        rw [← Int64.toInt_inj, m1, m2] at c2
        by_cases c3 : a 15 o ≤ a 15 n
        · rw [if_pos c3, if_pos rfl]
          exact Or.inl ⟨⟨by omega, fun _ => c3⟩, rfl⟩
        · rw [if_neg c3, if_neg (by decide)]
          exact Or.inr ⟨⟨by omega, fun _ => (Int32.le_total (a 15 o) (a 15 n)).resolve_left c3⟩, rfl⟩
      · rw [if_neg c2, if_pos rfl]
        rw [← Int64.toInt_inj, m1, m2] at c2
        exact Or.inl ⟨⟨by omega, fun q => by omega⟩, rfl⟩
  · have px : 0 < (b (48 + x) s).toInt := Int.not_le.mp (fun q => hx (ma_l0'.mpr q))
    have py : 0 < (b (48 + y) s).toInt := Int.not_le.mp (fun q => hy (ma_l0'.mpr q))
    have pz : 0 < (b (48 + z) s).toInt := Int.not_le.mp (fun q => hz (ma_l0'.mpr q))
    refine ⟨ma_fr px py pz l1.1 l2.1, fun q => ?_⟩
    by_cases e1 : (b 14 x).toInt * (b (48 + y) s).toInt = (b 14 y).toInt * (b (48 + x) s).toInt
    · by_cases e2 : (b 14 y).toInt * (b (48 + z) s).toInt = (b 14 z).toInt * (b (48 + y) s).toInt
      · exact Int32.le_trans (l1.2 e1) (l2.2 e2)
      · have := ma_fr2 px py pz l1.1 (Int.lt_iff_le_and_ne.mpr ⟨l2.1, e2⟩)
        omega
    · have := ma_fr1 px py pz (Int.lt_iff_le_and_ne.mpr ⟨l1.1, e1⟩) l2.1
      omega
theorem ma_sm_comm (F : Nat → Nat → Int) (m : Nat) : ∀ n, ma_sm (fun i => ma_sm (fun j => F i j) m) n = ma_sm (fun j => ma_sm (fun i => F i j) n) m
  | 0 => (ma_sm_zero (fun _ _ => rfl)).symm
  | n + 1 => by
    show ma_sm (fun i => ma_sm (fun j => F i j) m) n + ma_sm (fun j => F n j) m = ma_sm (fun j => ma_sm (fun i => F i j) n + F n j) m
    rw [ma_sm_comm F m n, ma_sm_add]
theorem ma_part {nc nl : Nat} {O B : Nat → Nat} (hO : ∀ s, s < nc → O s < nc + nl) (hB : ∀ r, r < nl → B r < nc + nl) (hc : ∀ j, j < nc + nl → (∃ s, s < nc ∧ O s = j) ∨ (∃ r, r < nl ∧ B r = j)) (hd : ∀ r s, r < nl → s < nc → B r ≠ O s) (hi : ∀ r r', r < nl → r' < nl → B r = B r' → r = r') (hj : ∀ s s', s < nc → s' < nc → O s = O s' → s = s') (f : Nat → Int) : ma_sm f (nc + nl) = ma_sm (fun s => f (O s)) nc + ma_sm (fun r => f (B r)) nl := by
  have e1 : ma_sm f (nc + nl) = ma_sm (fun j => ma_sm (fun s => if O s = j then f j else 0) nc + ma_sm (fun r => if B r = j then f j else 0) nl) (nc + nl) := by
    refine ma_sm_congr (fun j hj0 => ?_)
    rcases hc j hj0 with ⟨s, q1, q2⟩ | ⟨r, q1, q2⟩
    · rw [ma_sm_congr (f := fun s => if O s = j then f j else 0) (g := fun s' => if s' = s then f j else 0) (fun s' h => ?_), ma_sm_one q1, ma_sm_zero (f := fun r => if B r = j then f j else 0) (fun r h => if_neg (fun w => hd r s h q1 (by rw [w, q2])))]
      · omega
      · by_cases e : s' = s
        · rw [if_pos e, if_pos (by rw [e]; exact q2)]
        · rw [if_neg e, if_neg (fun w => e (hj s' s h q1 (by rw [w, q2])))]
    · rw [ma_sm_congr (f := fun r => if B r = j then f j else 0) (g := fun r' => if r' = r then f j else 0) (fun r' h => ?_), ma_sm_one q1, ma_sm_zero (f := fun s => if O s = j then f j else 0) (fun s h => if_neg (fun w => hd r s q1 h (by rw [w, q2])))]
      · omega
      · by_cases e : r' = r
        · rw [if_pos e, if_pos (by rw [e]; exact q2)]
        · rw [if_neg e, if_neg (fun w => e (hi r' r h q1 (by rw [w, q2])))]
  rw [e1, ma_sm_add, ma_sm_comm (fun j s => if O s = j then f j else 0), ma_sm_comm (fun j r => if B r = j then f j else 0)]
  congr 1
  · refine ma_sm_congr (fun s hs => ?_)
    rw [ma_sm_congr (g := fun j => if j = O s then f (O s) else 0) (fun j _ => ?_), ma_sm_one (hO s hs)]
    by_cases e : O s = j
    · rw [if_pos e, if_pos e.symm, e]
    · rw [if_neg e, if_neg (fun q => e q.symm)]
  · refine ma_sm_congr (fun r hr => ?_)
    rw [ma_sm_congr (g := fun j => if j = B r then f (B r) else 0) (fun j _ => ?_), ma_sm_one (hB r hr)]
    by_cases e : B r = j
    · rw [if_pos e, if_pos e.symm, e]
    · rw [if_neg e, if_neg (fun q => e q.symm)]
theorem ma_sl1 (I : gF) (J : gL) (a : gF) (b : gL) (kg : Nat) : ∀ n k j, d_sl1 I J a b kg n k j = if k = 18 ∧ j < n then (if I 4 8 ≤ a 16 j then 0 else (a kg (a 16 j).toNatClampNeg).toInt64 * J 4 6) else b k j
  | 0, k, j => by
    rw [if_neg (by omega)]
    rfl
  | n + 1, k, j => by
    have e : d_sl1 I J a b kg (n + 1) = gU (d_sl1 I J a b kg n) 18 n (if I 4 8 ≤ a 16 n then 0 else (a kg (a 16 n).toNatClampNeg).toInt64 * J 4 6) := by
      show (if I 4 8 ≤ a 16 n then gU (d_sl1 I J a b kg n) 18 n 0 else gU (d_sl1 I J a b kg n) 18 n ((a kg (a 16 n).toNatClampNeg).toInt64 * J 4 6)) = _
      split <;> rfl
    rw [e]
    by_cases h : k = 18 ∧ j = n
    · obtain ⟨rfl, rfl⟩ := h
      rw [gU_s, if_pos (show 18 = 18 ∧ j < j + 1 by omega)]
    · rw [gU_n (by omega), ma_sl1]
      by_cases h2 : k = 18 ∧ j < n
      · rw [if_pos h2, if_pos (show k = 18 ∧ j < n + 1 by omega)]
      · rw [if_neg h2, if_neg (show ¬ (k = 18 ∧ j < n + 1) by omega)]
theorem ma_sl2 (b : gL) (r : Nat) (w : Int32) : ∀ n k j, d_sl2 b r w n k j = if k = 18 ∧ j < n then b 18 j - w.toInt64 * b (48 + r) j else b k j
  | 0, k, j => by
    rw [if_neg (by omega)]
    rfl
  | n + 1, k, j => by
    show gU (d_sl2 b r w n) 18 n (d_sl2 b r w n 18 n - w.toInt64 * d_sl2 b r w n (48 + r) n) k j = _
    by_cases h : k = 18 ∧ j = n
    · obtain ⟨rfl, rfl⟩ := h
      rw [gU_s, if_pos (by omega), ma_sl2, ma_sl2, if_neg (by omega), if_neg (by omega)]
    · rw [gU_n (by omega), ma_sl2]
      by_cases h2 : k = 18 ∧ j < n
      · rw [if_pos h2, if_pos (by omega)]
      · rw [if_neg h2, if_neg (by omega)]
theorem ma_sl4f (I a : gF) (b : gL) (kg nc : Nat) : ∀ n k j, k ≠ 18 → d_sl4 I a b kg nc n k j = b k j
  | 0, _, _, _ => rfl
  | n + 1, k, j, h => by
    have hI : ∀ w, d_slI (d_sl4 I a b kg nc n) n w nc k j = b k j := by
      intro w
      unfold d_slI
      split
      · exact ma_sl4f I a b kg nc n k j h
      · rw [ma_sl2, if_neg (by omega)]
        exact ma_sl4f I a b kg nc n k j h
    show (if I 4 8 ≤ a 15 n then d_slI (d_sl4 I a b kg nc n) n 0 nc else d_slI (d_sl4 I a b kg nc n) n (a kg (a 15 n).toNatClampNeg) nc) k j = _
    split
    · exact hI _
    · exact hI _
theorem ma_slf (I : gF) (J : gL) (a : gF) (b : gL) (kg nl nc k j : Nat) (h : k ≠ 18) : d_slopes I J a b kg nl nc k j = b k j := by
  unfold d_slopes
  rw [ma_sl4f _ _ _ _ _ _ _ _ h, ma_sl1, if_neg (by omega)]
/-- names counted from their low ends, and what they have to spare -/
def ma_VN (nc : Nat) (V : Nat → Nat → Int) : Prop := ∀ i, i < nc → (∃ lo : Int, ∀ c, V i c = 1 * ma_e i c + lo * ma_e 5 c) ∧ (∃ hi : Int, ∀ c, V (nc + i) c = (-1) * ma_e i c + hi * ma_e 5 c)
def ma_gl (a : gF) (kg nc : Nat) : Nat → Int := fun c => ma_sm (fun i => (a kg i).toInt * ma_e i c) nc
theorem ma_k_5 {nc nl : Nat} {V : Nat → Nat → Int} {J : gL} {a : gF} {b : gL} (D : ma_DI nc nl V J a b) {s : Nat} (hs : s < 5) : ma_k (ma_oo nc V a) s (ma_e 5) = 0 := by
  have := (ma_DI_LP D).2.2.2 s 5 (by omega) (by omega)
  rw [if_neg (by omega), ma_oo_5 D.1.1] at this
  exact this
theorem ma_k_V {nc nl : Nat} {V : Nat → Nat → Int} {J : gL} {a : gF} {b : gL} (D : ma_DI nc nl V J a b) (hV : ma_VN nc V) {s i : Nat} (hs : s < 5) (hi : i < nc) : ma_k (ma_oo nc V a) s (V i) = ma_k (ma_oo nc V a) s (ma_e i) ∧ ma_k (ma_oo nc V a) s (V (nc + i)) = - ma_k (ma_oo nc V a) s (ma_e i) := by
  obtain ⟨⟨lo, h1⟩, ⟨hi, h2⟩⟩ := hV i hi
  constructor
  · rw [ma_k_congr (fun c _ => h1 c), ma_k_lin (by omega), ma_k_5 D hs]
    omega
  · rw [ma_k_congr (fun c _ => h2 c), ma_k_lin (by omega), ma_k_5 D hs]
    omega
theorem ma_k_sum {o : Nat → Nat → Int} {s : Nat} (hs : s < 6) (x : Nat → Int) (w : Nat → Nat → Int) (m : Nat) : ma_k o s (fun c => ma_sm (fun k => x k * w k c) m) = ma_sm (fun k => x k * ma_k o s (w k)) m := by
  unfold ma_k
  rw [ma_K_sum hs, ← ma_sm_mul]
  exact ma_sm_congr (fun k _ => by grind)
theorem ma_sm_pre {f : Nat → Int} {n : Nat} : ∀ m, (∀ i, n ≤ i → i < n + m → f i = 0) → ma_sm f (n + m) = ma_sm f n
  | 0, _ => rfl
  | m + 1, h => by
    show ma_sm f (n + m) + f (n + m) = _
    rw [ma_sm_pre m (fun i a1 a2 => h i a1 (by omega)), h _ (by omega) (by omega)]
    omega
theorem ma_slopes {nc nl : Nat} {V : Nat → Nat → Int} {I : gF} {J : gL} {a : gF} {b : gL} (D : ma_DI nc nl V J a b) (hV : ma_VN nc V) (hI : I 4 8 = nI nc) {kg : Nat} (hg : ∀ i, i < nc → (a kg i).toInt.natAbs ≤ 99) : ∀ s, s < nc → (d_slopes I J a b kg nl nc 18 s).toInt = ma_k (ma_oo nc V a) s (ma_gl a kg nc) := by
  intro s hs
  have Lp := ma_DI_LP D
  have obd := ma_oo_bd D
  have Dk := D
  obtain ⟨⟨n1, n2, n3⟩, ⟨sp, d0⟩, du, dO, dB, dt, dr, dc, dd, di⟩ := D
  have o5 : ma_oo nc V a 5 = ma_e 5 := ma_oo_5 n1
  have hUs : (ma_u (ma_oo nc V a)).natAbs ≤ 7085880 := ma_u_small o5 obd
  have cO : ∀ s, s < nc → (I 4 8 ≤ a 16 s ↔ nc ≤ ma_Oa a s) := fun s hs => by rw [hI, (dO s hs).1, nI_leI (by omega) (by have := (dO s hs).2; omega)]
  have cB : ∀ r, r < nl → (I 4 8 ≤ a 15 r ↔ nc ≤ ma_Ba a r) := fun r hr => by rw [hI, (dB r hr).1, nI_leI (by omega) (by have := (dB r hr).2; omega)]
  have key : ∀ n, n ≤ nl → (d_sl4 I a (d_sl1 I J a b kg nc) kg nc n 18 s).toInt = (if ma_Oa a s < nc then (a kg (ma_Oa a s)).toInt * ma_u (ma_oo nc V a) else 0) + ma_sm (fun r => if ma_Ba a r < nc then (a kg (ma_Ba a r)).toInt * ma_k (ma_oo nc V a) s (V (ma_Ba a r)) else 0) n ∧ ((if ma_Oa a s < nc then (a kg (ma_Oa a s)).toInt * ma_u (ma_oo nc V a) else 0) + ma_sm (fun r => if ma_Ba a r < nc then (a kg (ma_Ba a r)).toInt * ma_k (ma_oo nc V a) s (V (ma_Ba a r)) else 0) n).natAbs ≤ 701502120 * (n + 1) := by
    intro n
    induction n with
    | zero =>
      intro _
      have b1 : ((if ma_Oa a s < nc then (a kg (ma_Oa a s)).toInt * ma_u (ma_oo nc V a) else 0) + 0).natAbs ≤ 701502120 := by
        split
        · next q =>
          have := ma_mb (hg _ q) hUs
          omega
        · decide
      refine ⟨?_, b1⟩
      show (d_sl1 I J a b kg nc 18 s).toInt = _ + 0
      rw [ma_sl1, if_pos ⟨rfl, hs⟩]
      by_cases q : ma_Oa a s < nc
      · rw [if_pos q] at b1 ⊢
        rw [if_neg (fun w => by have := (cO s hs).mp w; omega)]
        have := ma_mul (x := (a kg (ma_Oa a s)).toInt64) (Int32.toInt_toInt64 _) du (by omega)
        show ((a kg (ma_Oa a s)).toInt64 * J 4 6).toInt = _
        omega
      · rw [if_neg q, if_pos ((cO s hs).mpr (by omega))]
        rfl
    | succ n ih =>
      intro hn
      obtain ⟨i1, i2⟩ := ih (by omega)
      have hk : (ma_k (ma_oo nc V a) s (V (ma_Ba a n))).natAbs ≤ 7085880 := ma_k_small (by omega) o5 obd (n3 _ (dB n (by omega)).2)
      have b2 : ((if ma_Oa a s < nc then (a kg (ma_Oa a s)).toInt * ma_u (ma_oo nc V a) else 0) + (ma_sm (fun r => if ma_Ba a r < nc then (a kg (ma_Ba a r)).toInt * ma_k (ma_oo nc V a) s (V (ma_Ba a r)) else 0) n + (if ma_Ba a n < nc then (a kg (ma_Ba a n)).toInt * ma_k (ma_oo nc V a) s (V (ma_Ba a n)) else 0))).natAbs ≤ 701502120 * (n + 1 + 1) := by
        have : (if ma_Ba a n < nc then (a kg (ma_Ba a n)).toInt * ma_k (ma_oo nc V a) s (V (ma_Ba a n)) else 0).natAbs ≤ 701502120 := by
          split
          · next q => exact ma_mb (hg _ q) hk
          · decide
        omega
      refine ⟨?_, b2⟩
      show (d_sl4 I a (d_sl1 I J a b kg nc) kg nc (n + 1) 18 s).toInt = _ + (ma_sm _ n + (if ma_Ba a n < nc then _ else 0))
      have e : d_sl4 I a (d_sl1 I J a b kg nc) kg nc (n + 1) = if I 4 8 ≤ a 15 n then d_slI (d_sl4 I a (d_sl1 I J a b kg nc) kg nc n) n 0 nc else d_slI (d_sl4 I a (d_sl1 I J a b kg nc) kg nc n) n (a kg (a 15 n).toNatClampNeg) nc := rfl
      rw [e]
      by_cases q : ma_Ba a n < nc
      · rw [if_neg (fun w => by have := (cB n (by omega)).mp w; omega), if_pos q]
        rw [if_pos q] at b2
        show (d_slI _ n (a kg (ma_Ba a n)) nc 18 s).toInt = _
        unfold d_slI
        by_cases w0 : a kg (ma_Ba a n) = 0
        · rw [if_pos w0, w0, i1]
          show _ = _ + (_ + 0 * _)
          omega
        · rw [if_neg w0, ma_sl2, if_pos ⟨rfl, hs⟩]
          have et : d_sl4 I a (d_sl1 I J a b kg nc) kg nc n (48 + n) s = b (48 + n) s := by rw [ma_sl4f _ _ _ _ _ _ _ _ (by omega), ma_sl1, if_neg (by omega)]
          rw [et]
          have m1 : ((a kg (ma_Ba a n)).toInt64 * b (48 + n) s).toInt = (a kg (ma_Ba a n)).toInt * - ma_k (ma_oo nc V a) s (V (ma_Ba a n)) := ma_mul (Int32.toInt_toInt64 _) (dt n (by omega) s hs) (by have := ma_mb (hg _ q) (show (- ma_k (ma_oo nc V a) s (V (ma_Ba a n))).natAbs ≤ 7085880 by omega); omega)
          rw [Int.mul_neg] at m1
          have := ma_sub i1 m1 (by omega)
          omega
      · rw [if_pos ((cB n (by omega)).mpr (by omega)), if_neg q]
        unfold d_slI
        rw [if_pos rfl, i1]
        omega
  have h1 := (key nl (Nat.le_refl _)).1
  have e0 : (d_slopes I J a b kg nl nc 18 s) = d_sl4 I a (d_sl1 I J a b kg nc) kg nc nl 18 s := rfl
  rw [e0, h1]
  have hp := ma_part (fun s hs => (dO s hs).2) (fun r hr => (dB r hr).2) dc dd di (fun s s' a1 a2 a3 => ma_LP_inj n1 Lp a1 a2 a3) (fun j => if j < nc then (a kg j).toInt * ma_k (ma_oo nc V a) s (V j) else 0)
  rw [ma_sm_pre nl (fun i a1 a2 => if_neg (by omega))] at hp
  have e1 : ma_k (ma_oo nc V a) s (ma_gl a kg nc) = ma_sm (fun j => if j < nc then (a kg j).toInt * ma_k (ma_oo nc V a) s (V j) else 0) nc := by
    unfold ma_gl
    rw [ma_k_sum (by omega)]
    exact ma_sm_congr (fun i hi => by rw [if_pos hi, (ma_k_V Dk hV (by omega) hi).1])
  rw [e1, hp]
  congr 1
  rw [ma_sm_congr (g := fun s' => if s' = s then (if ma_Oa a s < nc then (a kg (ma_Oa a s)).toInt * ma_u (ma_oo nc V a) else 0) else 0) (fun s' hs' => ?_), ma_sm_one hs]
  have := Lp.2.2.2 s s' (by omega) (by omega)
  rw [ma_oo, ma_o_in hs'] at this
  show (if ma_Oa a s' < nc then (a kg (ma_Oa a s')).toInt * ma_k (ma_oo nc V a) s (V (ma_Oa a s')) else 0) = _
  rw [this]
  by_cases e : s' = s
  · subst e
    rw [if_pos rfl, if_pos rfl]
  · rw [if_neg e, if_neg e]
    split <;> omega
