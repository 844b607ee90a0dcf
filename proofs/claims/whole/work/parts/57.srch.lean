/-! THE MATHEMATICS, 23: whole numbers: the class's search -/
theorem ma_xor {x y : Int32} : 0 ≤ x ^^^ y ↔ (0 ≤ x.toInt ↔ 0 ≤ y.toInt) := by
  have e : ∀ z : Int32, 0 ≤ z.toInt ↔ z.toBitVec.msb = false := by
    intro z
    rw [BitVec.msb_eq_toInt]
    show 0 ≤ z.toBitVec.toInt ↔ _
    rw [decide_eq_false_iff_not]
    omega
  rw [ma_l03, e, e x, e y, Int32.toBitVec_xor, BitVec.msb_xor]
  cases x.toBitVec.msb <;> cases y.toBitVec.msb <;> decide
theorem ma_fdiv {x y : Int32} {X Y : Int} (hx : x.toInt = X) (hy : y.toInt = Y) (h0 : 0 < Y) (hb : X.natAbs ≤ 1000000000) : (f_div x y).toInt = X / Y := by
  have hd : (x / y).toInt = X.tdiv Y := by
    rw [Int32.toInt_div, hx, hy]
    refine ma_bm32 ?_
    rw [Int.natAbs_tdiv]
    exact Nat.le_trans (Nat.div_le_self _ _) (by omega)
  have hab : (X.tdiv Y).natAbs ≤ 1000000000 := by
    rw [Int.natAbs_tdiv]
    exact Nat.le_trans (Nat.div_le_self _ _) hb
  have hmb : (X.tdiv Y * Y).natAbs ≤ 1000000000 := by
    rw [Int.natAbs_mul, Int.natAbs_tdiv]
    exact Nat.le_trans (Nat.div_mul_le_self _ _) hb
  have hm : (x / y * y).toInt = X.tdiv Y * Y := ma_mul3 hd hy (by omega)
  have key := Int.tdiv_eq_ediv (a := X) (b := Y)
  have hsg : Y.sign = 1 := Int.sign_eq_one_of_pos h0
  rw [hsg] at key
  unfold f_div
  by_cases hp : 0 ≤ x ^^^ y
  · rw [if_pos hp, hd]
    rw [ma_xor, hx, hy] at hp
    rw [if_pos (Or.inl (hp.mpr (by omega)))] at key
    omega
  · rw [if_neg hp]
    rw [ma_xor, hx, hy] at hp
    have hneg : ¬ 0 ≤ X := fun w => hp ⟨fun _ => by omega, fun _ => w⟩
    by_cases hq : x / y * y = x
    · rw [if_pos hq, hd]
      rw [← Int32.toInt_inj, hm, hx] at hq
      rw [if_pos (Or.inr ⟨X.tdiv Y, by rw [Int.mul_comm]; exact hq.symm⟩)] at key
      omega
    · rw [if_neg hq]
      rw [← Int32.toInt_inj, hm, hx] at hq
      have hnd : ¬ (0 ≤ X ∨ Y ∣ X) := by
        rintro (w | w)
        · exact hneg w
        · exact hq (Int.tdiv_mul_cancel w)
      rw [if_neg hnd] at key
      have h1 : (1 : Int32).toInt = 1 := rfl
      generalize X.tdiv Y = t at *
      generalize X / Y = q at *
      rw [ma_sub3 hd h1 (by omega)]
      omega
/-- the numbers that are left for a name -/
def ma_Rg (a : gF) (n0 : Nat) (v : Int) : Prop := (a 21 n0).toInt < v ∧ v ≤ (a 22 n0).toInt
def ma_fn (n0 : Nat) (a a' : gF) : Prop := ∀ K j, ¬ ((K = 21 ∨ K = 22) ∧ j = n0) → a' K j = a K j
theorem ma_fn_t {n0 : Nat} {a a' a'' : gF} (h1 : ma_fn n0 a a') (h2 : ma_fn n0 a' a'') : ma_fn n0 a a'' := fun K j h => (h2 K j h).trans (h1 K j h)
def ma_pb (a : gF) (n0 : Nat) : Prop := (a 6 n0).toInt - 1 ≤ (a 21 n0).toInt ∧ (a 21 n0).toInt ≤ 2000000 ∧ (a 22 n0).toInt ≤ (a 7 n0).toInt ∧ -2000000 ≤ (a 22 n0).toInt
theorem ma_nar {a : gF} {n0 : Nat} {f rm : Int32} {F M : Int} (hf : f.toInt = F) (hm : rm.toInt = M) (bF : F.natAbs ≤ 99) (bM : M.natAbs ≤ 1000000) (hlo : -100 ≤ (a 6 n0).toInt ∧ (a 6 n0).toInt ≤ 100 ∧ (a 6 n0).toInt ≤ (a 7 n0).toInt) (hp : ma_pb a n0) : ma_fn n0 a (w_nar a n0 f rm) ∧ ma_pb (w_nar a n0 f rm) n0 ∧ ∀ v, ma_Rg (w_nar a n0 f rm) n0 v ↔ ma_Rg a n0 v ∧ F * v ≤ M := by
  obtain ⟨p1, p2, p3, p4⟩ := hp
  have up21 : ∀ w : Int32, ma_fn n0 a (gU a 21 n0 w) := fun w K j h => gU_n (by omega)
  have up22 : ∀ w : Int32, ma_fn n0 a (gU a 22 n0 w) := fun w K j h => gU_n (by omega)
  unfold w_nar
  by_cases h1 : f ≤ 0
  · rw [if_pos h1]
    rw [Int32.le_iff_toInt_le, hf] at h1
    have h1 : F ≤ 0 := h1
    by_cases h2 : 0 ≤ f
    · rw [if_pos h2]
      have h2 := ma_l03.mp h2
      rw [hf] at h2
      have F0 : F = 0 := by omega
      rw [F0]
      by_cases h3 : 0 ≤ rm
      · rw [if_pos h3]
        have h3 := ma_l03.mp h3
        refine ⟨fun _ _ _ => rfl, ⟨p1, p2, p3, p4⟩, fun v => ⟨fun w => ⟨w, by omega⟩, fun w => w.1⟩⟩
      · rw [if_neg h3]
        have h3 := Int.not_le.mp (fun w => h3 (ma_l03.mpr w))
        have e22 : (gU a 22 n0 (a 6 n0 - 1) 22 n0).toInt = (a 6 n0).toInt - 1 := by
          rw [gU_s]
          exact ma_sub3 rfl (rfl : (1 : Int32).toInt = 1) (by omega)
        have e21 : gU a 22 n0 (a 6 n0 - 1) 21 n0 = a 21 n0 := gU_n (by omega)
        refine ⟨up22 _, ⟨?_, ?_, ?_, ?_⟩, fun v => ?_⟩
        · rw [e21, gU_n (by omega)]; exact p1
        · rw [e21]; exact p2
        · rw [e22, gU_n (by omega)]
          omega
        · rw [e22]; omega
        · unfold ma_Rg
          rw [e21, e22]
          constructor
          · rintro ⟨w1, w2⟩; omega
          · rintro ⟨-, w⟩; omega
    · rw [if_neg h2]
      have h2 := Int.not_le.mp (fun w => h2 (ma_l03.mpr w))
      rw [hf] at h2
      have hnf : (-f).toInt = -F := ma_neg3 hf (by omega)
      have hdv := ma_fdiv hm hnf (by omega) (by omega)
      have hdb : (M / -F).natAbs ≤ 1000001 := by
        have := Int.natAbs_ediv_le_natAbs M (-F)
        omega
      have hq : (-f_div rm (-f) - 1).toInt = -(M / -F) - 1 := ma_sub3 (ma_neg3 hdv (by omega)) (rfl : (1 : Int32).toInt = 1) (by omega)
      have e22 : ∀ w : Int32, gU a 21 n0 w 22 n0 = a 22 n0 := fun w => gU_n (by omega)
      have iff : ∀ v : Int, F * v ≤ M ↔ -(M / -F) - 1 < v := by
        intro v
        have e : F * v = (-v) * (-F) := by grind
        rw [e, ← Int.le_ediv_iff_mul_le (by omega)]
        omega
      by_cases h3 : a 21 n0 < -f_div rm (-f) - 1
      · rw [if_pos h3]
        rw [Int32.lt_iff_toInt_lt, hq] at h3
        refine ⟨up21 _, ⟨?_, ?_, ?_, ?_⟩, fun v => ?_⟩
        · rw [gU_s, hq, gU_n (by omega)]; omega
        · rw [gU_s, hq]; omega
        · rw [e22, gU_n (by omega)]; exact p3
        · rw [e22]; exact p4
        · unfold ma_Rg
          rw [gU_s, hq, e22, iff]
          omega
      · rw [if_neg h3]
        rw [Int32.lt_iff_toInt_lt, hq] at h3
        refine ⟨up21 _, ⟨?_, ?_, ?_, ?_⟩, fun v => ?_⟩
        · rw [gU_s, gU_n (by omega)]; exact p1
        · rw [gU_s]; exact p2
        · rw [e22, gU_n (by omega)]; exact p3
        · rw [e22]; exact p4
        · unfold ma_Rg
          rw [gU_s, e22, iff]
          omega
  · rw [if_neg h1]
    rw [Int32.le_iff_toInt_le, hf] at h1
    have h1 : ¬ F ≤ 0 := h1
    have hdv := ma_fdiv hm hf (by omega) (by omega)
    have hdb : (M / F).natAbs ≤ 1000001 := by
      have := Int.natAbs_ediv_le_natAbs M F
      omega
    have e21 : ∀ w : Int32, gU a 22 n0 w 21 n0 = a 21 n0 := fun w => gU_n (by omega)
    have iff : ∀ v : Int, F * v ≤ M ↔ v ≤ M / F := by
      intro v
      rw [Int.le_ediv_iff_mul_le (by omega), Int.mul_comm]
    by_cases h3 : f_div rm f < a 22 n0
    · rw [if_pos h3]
      rw [Int32.lt_iff_toInt_lt, hdv] at h3
      refine ⟨up22 _, ⟨?_, ?_, ?_, ?_⟩, fun v => ?_⟩
      · rw [e21, gU_n (by omega)]; exact p1
      · rw [e21]; exact p2
      · rw [gU_s, hdv, gU_n (by omega)]; omega
      · rw [gU_s, hdv]; omega
      · unfold ma_Rg
        rw [gU_s, hdv, e21, iff]
        omega
    · rw [if_neg h3]
      rw [Int32.lt_iff_toInt_lt, hdv] at h3
      refine ⟨up22 _, ⟨?_, ?_, ?_, ?_⟩, fun v => ?_⟩
      · rw [e21, gU_n (by omega)]; exact p1
      · rw [e21]; exact p2
      · rw [gU_s, gU_n (by omega)]; exact p3
      · rw [gU_s]; exact p4
      · unfold ma_Rg
        rw [gU_s, e21, iff]
        omega
abbrev ma_W (a : gF) (ln i : Nat) : Int := if ln = 8 then (a 8 i).toInt else (a (40 + ln) i).toInt
def ma_rel (nr ln : Nat) : Prop := ln < nr ∨ ln = 8
/-- the sum from e on -/
def ma_tl (f : Nat → Int) (n e : Nat) : Int := ma_sm f n - ma_sm f e
theorem ma_tl_s {f : Nat → Int} {n e : Nat} : ma_tl f n e = f e + ma_tl f n (e + 1) := by
  show ma_sm f n - ma_sm f e = f e + (ma_sm f n - (ma_sm f e + f e))
  omega
theorem ma_tl_le {f g : Nat → Int} {e : Nat} : ∀ n, e ≤ n → (∀ i, e ≤ i → i < n → f i ≤ g i) → ma_tl f n e ≤ ma_tl g n e
  | 0, h, _ => by
    have : e = 0 := by omega
    subst this
    exact Int.le_refl _
  | n + 1, h, hfg => by
    by_cases q : e = n + 1
    · subst q
      unfold ma_tl
      omega
    · have := ma_tl_le n (by omega) (fun i h1 h2 => hfg i h1 (by omega))
      have h2 := hfg n (by omega) (by omega)
      unfold ma_tl at this ⊢
      show ma_sm f n + f n - ma_sm f e ≤ ma_sm g n + g n - ma_sm g e
      omega
theorem ma_sm_b {f : Nat → Int} {B : Nat} {n e : Nat} (hn : n ≤ 5) (he : e ≤ n) (h : ∀ i, i < n → (f i).natAbs ≤ B) : (ma_tl f n e).natAbs ≤ 10 * B := by
  have h1 : (ma_sm f n).natAbs ≤ n * B := ma_sm_abs h
  have h2 : (ma_sm f e).natAbs ≤ e * B := ma_sm_abs (fun i hi => h i (by omega))
  have h3 : n * B ≤ 5 * B := Nat.mul_le_mul_right _ hn
  have h4 : e * B ≤ 5 * B := Nat.mul_le_mul_right _ (by omega)
  unfold ma_tl
  omega
def ma_lm (a : gF) (ln : Nat) : Nat → Int := fun i => min (ma_W a ln i * (a 6 i).toInt) (ma_W a ln i * (a 7 i).toInt)
def ma_mm (a : gF) (ln : Nat) : Nat → Int := fun i => max (ma_W a ln i * (a 6 i).toInt) (ma_W a ln i * (a 7 i).toInt)
theorem ma_W_b {nn nr : Nat} {a : gF} (hd : ma_dat nn nr a) {ln : Nat} (hl : ma_rel nr ln) {i : Nat} (hi : i < nn) : (ma_W a ln i).natAbs ≤ 99 := by
  unfold ma_W
  by_cases q : ln = 8
  · rw [if_pos q]; exact (hd.2.2.1 i hi).2.2.2
  · rw [if_neg q]
    rcases hl with w | w
    · have := (hd.2.2.2 ln w).2.2 i hi
      omega
    · exact absurd w q
theorem ma_box {x l h v : Int} (h1 : l ≤ v) (h2 : v ≤ h) : min (x * l) (x * h) ≤ x * v ∧ x * v ≤ max (x * l) (x * h) := by
  rcases Int.le_total 0 x with q | q
  · have a1 := Int.mul_le_mul_of_nonneg_left h1 q
    have a2 := Int.mul_le_mul_of_nonneg_left h2 q
    omega
  · have a1 := Int.mul_le_mul_of_nonneg_left h1 (show 0 ≤ -x by omega)
    have a2 := Int.mul_le_mul_of_nonneg_left h2 (show 0 ≤ -x by omega)
    rw [Int.neg_mul, Int.neg_mul] at a1 a2
    omega
theorem ma_lm_b {nn nr : Nat} {a : gF} (hd : ma_dat nn nr a) {ln : Nat} (hl : ma_rel nr ln) {i : Nat} (hi : i < nn) : (ma_lm a ln i).natAbs ≤ 9900 ∧ (ma_mm a ln i).natAbs ≤ 9900 := by
  have w := ma_W_b hd hl hi
  have d := hd.2.2.1 i hi
  have m1 := ma_mb w (show (a 6 i).toInt.natAbs ≤ 100 by omega)
  have m2 := ma_mb w (show (a 7 i).toInt.natAbs ≤ 100 by omega)
  unfold ma_lm ma_mm
  omega
/-- what openName needs of the sums -/
def ma_cx (nn nr n0 : Nat) (I a : gF) : Prop := ma_dat nn nr a ∧ n0 < nn ∧ I 1 8 = nI nr ∧ I 1 7 = nI nn ∧ (∀ ln, ma_rel nr ln → (a (69 + n0) ln).toInt.natAbs ≤ 100000 ∧ (a (75 + (n0 + 1)) ln).toInt = ma_tl (ma_lm a ln) nn (n0 + 1) ∧ (a (81 + (n0 + 1)) ln).toInt = ma_tl (ma_mm a ln) nn (n0 + 1)) ∧ (I 3 8 = 0 ∨ I 3 8 = 1) ∧ (I 3 8 = 1 → (I 3 7).toInt.natAbs ≤ 100000)
def ma_rc (nn : Nat) (a : gF) (n0 r : Nat) (v : Int) : Prop := ((a 9 r).toInt ≠ 2 → (a (40 + r) n0).toInt * v ≤ (a 10 r).toInt - (a (69 + n0) r).toInt - ma_tl (ma_lm a r) nn (n0 + 1)) ∧ ((a 9 r).toInt ≠ 0 → -(a (40 + r) n0).toInt * v ≤ ma_tl (ma_mm a r) nn (n0 + 1) - ((a 10 r).toInt - (a (69 + n0) r).toInt))
theorem ma_tlb {nn nr n0 : Nat} {a : gF} (hd : ma_dat nn nr a) (h0 : n0 < nn) {ln : Nat} (hl : ma_rel nr ln) : (ma_tl (ma_lm a ln) nn (n0 + 1)).natAbs ≤ 99000 ∧ (ma_tl (ma_mm a ln) nn (n0 + 1)).natAbs ≤ 99000 :=
  ⟨ma_sm_b hd.1 (by omega) (fun i hi => (ma_lm_b hd hl hi).1), ma_sm_b hd.1 (by omega) (fun i hi => (ma_lm_b hd hl hi).2)⟩
theorem ma_nbr {nn nr n0 r : Nat} {I a b : gF} (hx : ma_cx nn nr n0 I a) (hr : r < nr) (hf : ma_fn n0 a b) (hp : ma_pb b n0) : ma_fn n0 a (w_nbr b n0 r) ∧ ma_pb (w_nbr b n0 r) n0 ∧ ∀ v, ma_Rg (w_nbr b n0 r) n0 v ↔ ma_Rg b n0 v ∧ ma_rc nn a n0 r v := by
  obtain ⟨hd, h0, -, -, hs, -, -⟩ := hx
  have hl : ma_rel nr r := Or.inl hr
  obtain ⟨s1, s2, s3⟩ := hs r hl
  obtain ⟨t1, t2⟩ := ma_tlb hd h0 hl
  have d1 := hd.1
  have d2 := hd.2.1
  have d3 := hd.2.2.1 n0 h0
  have d4 := hd.2.2.2 r hr
  have f9 := d4.2.2 n0 h0
  have cell : ∀ K j, K ≠ 21 → K ≠ 22 → b K j = a K j := fun K j h1 h2 => hf K j (by omega)
  have hlo : -100 ≤ (b 6 n0).toInt ∧ (b 6 n0).toInt ≤ 100 ∧ (b 6 n0).toInt ≤ (b 7 n0).toInt := by
    rw [cell 6 n0 (by omega) (by omega), cell 7 n0 (by omega) (by omega)]
    omega
  obtain ⟨ab, be⟩ := ma_above_i (a := a) (r := r) d4.2.1
  have eab : p_above b r = p_above a r := (ma_above_c (cell 9 r (by omega) (by omega))).1
  have hopen : (b 10 r - b (69 + n0) r).toInt = (a 10 r).toInt - (a (69 + n0) r).toInt := by
    rw [cell 10 r (by omega) (by omega), cell (69 + n0) r (by omega) (by omega)]
    exact ma_sub3 rfl rfl (by omega)
  -- from above
  have step1 : ma_fn n0 a (w_nb1 b n0 r) ∧ ma_pb (w_nb1 b n0 r) n0 ∧ ∀ v, ma_Rg (w_nb1 b n0 r) n0 v ↔ ma_Rg b n0 v ∧ ((a 9 r).toInt ≠ 2 → (a (40 + r) n0).toInt * v ≤ (a 10 r).toInt - (a (69 + n0) r).toInt - ma_tl (ma_lm a r) nn (n0 + 1)) := by
    unfold w_nb1
    by_cases q : p_above b r = 0
    · rw [if_pos q]
      rw [eab] at q
      have : ¬ (a 9 r).toInt ≠ 2 := fun w => ab.mpr w q
      exact ⟨hf, hp, fun v => ⟨fun w => ⟨w, fun w2 => absurd w2 this⟩, fun w => w.1⟩⟩
    · rw [if_neg q]
      rw [eab] at q
      have hq := ab.mp q
      have hroom : (b 10 r - b (69 + n0) r - b (75 + (n0 + 1)) r).toInt = (a 10 r).toInt - (a (69 + n0) r).toInt - ma_tl (ma_lm a r) nn (n0 + 1) := by
        have h75 : (b (75 + (n0 + 1)) r).toInt = ma_tl (ma_lm a r) nn (n0 + 1) := by rw [cell _ r (by omega) (by omega)]; exact s2
        exact ma_sub3 hopen h75 (by omega)
      obtain ⟨n1, n2, n3⟩ := ma_nar (a := b) (n0 := n0) (f := b (40 + r) n0) (F := (a (40 + r) n0).toInt) (by rw [cell _ n0 (by omega) (by omega)]) hroom (by omega) (by omega) hlo hp
      refine ⟨ma_fn_t hf n1, n2, fun v => ?_⟩
      rw [n3 v]
      exact ⟨fun w => ⟨w.1, fun _ => w.2⟩, fun w => ⟨w.1, w.2 hq⟩⟩
  obtain ⟨u1, u2, u3⟩ := step1
  have cell2 : ∀ K j, K ≠ 21 → K ≠ 22 → w_nb1 b n0 r K j = a K j := fun K j h1 h2 => u1 K j (by omega)
  have ebe : p_below (w_nb1 b n0 r) r = p_below a r := (ma_above_c (cell2 9 r (by omega) (by omega))).2
  unfold w_nbr
  by_cases q : p_below (w_nb1 b n0 r) r = 0
  · rw [if_pos q]
    rw [ebe] at q
    have hn : ¬ (a 9 r).toInt ≠ 0 := fun w => be.mpr w q
    refine ⟨u1, u2, fun v => ?_⟩
    rw [u3 v]
    exact ⟨fun w => ⟨w.1, w.2, fun w2 => absurd w2 hn⟩, fun w => ⟨w.1, w.2.1⟩⟩
  · rw [if_neg q]
    rw [ebe] at q
    have hq := be.mp q
    have hlo2 : -100 ≤ (w_nb1 b n0 r 6 n0).toInt ∧ (w_nb1 b n0 r 6 n0).toInt ≤ 100 ∧ (w_nb1 b n0 r 6 n0).toInt ≤ (w_nb1 b n0 r 7 n0).toInt := by
      rw [cell2 6 n0 (by omega) (by omega), cell2 7 n0 (by omega) (by omega)]
      omega
    have hroom : (w_nb1 b n0 r (81 + (n0 + 1)) r - (b 10 r - b (69 + n0) r)).toInt = ma_tl (ma_mm a r) nn (n0 + 1) - ((a 10 r).toInt - (a (69 + n0) r).toInt) := by
      have h81 : (w_nb1 b n0 r (81 + (n0 + 1)) r).toInt = ma_tl (ma_mm a r) nn (n0 + 1) := by rw [cell2 _ r (by omega) (by omega)]; exact s3
      exact ma_sub3 h81 hopen (by omega)
    have hnf : (-b (40 + r) n0).toInt = -(a (40 + r) n0).toInt := by
      rw [cell _ n0 (by omega) (by omega)]
      exact ma_neg3 rfl (by omega)
    obtain ⟨n1, n2, n3⟩ := ma_nar (a := w_nb1 b n0 r) (n0 := n0) hnf hroom (by omega) (by omega) hlo2 u2
    refine ⟨ma_fn_t u1 n1, n2, fun v => ?_⟩
    rw [n3 v, u3 v]
    exact ⟨fun w => ⟨w.1.1, w.1.2, fun _ => w.2⟩, fun w => ⟨⟨w.1, w.2.1⟩, w.2.2 hq⟩⟩
theorem ma_hasR {I a : gF} {nr r : Nat} (hI : I 1 8 = nI nr) (h8 : nr ≤ 8) (hr : r < nr) : p_hasR I a (nI r) = 0 ↔ a 12 r = 0 := by
  unfold p_hasR
  rw [if_neg (nI_pos (by omega)), hI, if_neg (by rw [nI_leI (by omega) (by omega)]; omega), nI_clamp (by omega)]
  by_cases q : a 12 r = 0
  · rw [if_pos q]; exact ⟨fun _ => q, fun _ => rfl⟩
  · rw [if_neg q]; exact ⟨fun w => absurd w (by decide), fun w => absurd w q⟩
theorem ma_on {nn nr n0 : Nat} {I a b : gF} (hx : ma_cx nn nr n0 I a) (hf : ma_fn n0 a b) (hp : ma_pb b n0) : ∀ n, n ≤ nr → ma_fn n0 a (w_on I b n0 n) ∧ ma_pb (w_on I b n0 n) n0 ∧ ∀ v, ma_Rg (w_on I b n0 n) n0 v ↔ ma_Rg b n0 v ∧ ∀ r, r < n → a 12 r ≠ 0 → ma_rc nn a n0 r v
  | 0, _ => ⟨hf, hp, fun v => ⟨fun w => ⟨w, fun r h => by omega⟩, fun w => w.1⟩⟩
  | n + 1, hn => by
    obtain ⟨i1, i2, i3⟩ := ma_on hx hf hp n (by omega)
    have e : w_on I b n0 (n + 1) = if p_hasR I (w_on I b n0 n) (nI n) = 0 then w_on I b n0 n else w_nbr (w_on I b n0 n) n0 n := rfl
    have h12 : w_on I b n0 n 12 n = a 12 n := i1 12 n (by omega)
    have hh := ma_hasR (I := I) (a := w_on I b n0 n) hx.2.2.1 hx.1.2.1 (show n < nr by omega)
    rw [h12] at hh
    rw [e]
    by_cases q : p_hasR I (w_on I b n0 n) (nI n) = 0
    · rw [if_pos q]
      refine ⟨i1, i2, fun v => ?_⟩
      rw [i3 v]
      refine ⟨fun w => ⟨w.1, fun r h1 h2 => ?_⟩, fun w => ⟨w.1, fun r h1 h2 => w.2 r (by omega) h2⟩⟩
      by_cases g : r = n
      · rw [g] at h2; exact absurd (hh.mp q) h2
      · exact w.2 r (by omega) h2
    · rw [if_neg q]
      obtain ⟨n1, n2, n3⟩ := ma_nbr hx (show n < nr by omega) i1 i2
      refine ⟨n1, n2, fun v => ?_⟩
      rw [n3 v, i3 v]
      refine ⟨fun w => ⟨w.1.1, fun r h1 h2 => ?_⟩, fun w => ⟨⟨w.1, fun r h1 h2 => w.2 r (by omega) h2⟩, w.2 n (by omega) (fun g => q (hh.mpr g))⟩⟩
      by_cases g : r = n
      · rw [g]; exact w.2
      · exact w.1.2 r (by omega) h2
def ma_cd (nn nr : Nat) (I a : gF) (n0 : Nat) (v : Int) : Prop := ((a 6 n0).toInt ≤ v ∧ v ≤ (a 7 n0).toInt) ∧ (∀ r, r < nr → a 12 r ≠ 0 → ma_rc nn a n0 r v) ∧ (I 3 8 = 1 → (a 8 n0).toInt * v ≤ (I 3 7).toInt - 1 - (a (69 + n0) 8).toInt - ma_tl (ma_lm a 8) nn (n0 + 1))
theorem ma_op2 {nn nr n0 : Nat} {I a : gF} (hx : ma_cx nn nr n0 I a) : ma_fn n0 a (w_op2 I a n0 nr) ∧ ma_pb (w_op2 I a n0 nr) n0 ∧ ∀ v, ma_Rg (w_op2 I a n0 nr) n0 v ↔ ma_cd nn nr I a n0 v := by
  obtain ⟨hd, h0, h8, h7, hs, hf, hb⟩ := id hx
  have d3 := hd.2.2.1 n0 h0
  have d1 := hd.1
  -- the span
  have b1 : ma_fn n0 a (gU (gU a 21 n0 (a 6 n0 - 1)) 22 n0 (a 7 n0)) := fun K j h => by rw [gU_n (by omega), gU_n (by omega)]
  have e21 : (gU (gU a 21 n0 (a 6 n0 - 1)) 22 n0 (a 7 n0) 21 n0).toInt = (a 6 n0).toInt - 1 := by
    rw [gU_n (by omega), gU_s]
    exact ma_sub3 rfl (rfl : (1 : Int32).toInt = 1) (by omega)
  have e22 : gU (gU a 21 n0 (a 6 n0 - 1)) 22 n0 (a 7 n0) 22 n0 = a 7 n0 := gU_s
  have b2 : ma_pb (gU (gU a 21 n0 (a 6 n0 - 1)) 22 n0 (a 7 n0)) n0 := by
    refine ⟨?_, ?_, ?_, ?_⟩
    · rw [e21, b1 6 n0 (by omega)]; exact Int.le_refl _
    · rw [e21]; omega
    · rw [e22, b1 7 n0 (by omega)]; exact Int.le_refl _
    · rw [e22]; omega
  obtain ⟨o1, o2, o3⟩ := ma_on hx b1 b2 nr (Nat.le_refl _)
  have e1 : w_on I (gU (gU a 21 n0 (a 6 n0 - 1)) 22 n0 (a 7 n0)) n0 nr = w_op1 I a n0 nr := rfl
  rw [e1] at o1 o2 o3
  have o3' : ∀ v, ma_Rg (w_op1 I a n0 nr) n0 v ↔ ((a 6 n0).toInt ≤ v ∧ v ≤ (a 7 n0).toInt) ∧ (∀ r, r < nr → a 12 r ≠ 0 → ma_rc nn a n0 r v) := by
    intro v
    rw [o3 v]
    unfold ma_Rg
    rw [e21, e22]
    constructor
    · rintro ⟨w1, w2⟩; exact ⟨by omega, w2⟩
    · rintro ⟨w1, w2⟩; exact ⟨by omega, w2⟩
  unfold w_op2
  by_cases q : I 3 8 = 0
  · rw [if_pos q]
    refine ⟨o1, o2, fun v => ?_⟩
    rw [o3' v]
    exact ⟨fun w => ⟨w.1, w.2, fun g => by rw [q] at g; exact absurd g (by decide)⟩, fun w => ⟨w.1, w.2.1⟩⟩
  · rw [if_neg q]
    have hf1 := hf.resolve_left q
    have hbb := hb hf1
    have hl : ma_rel nr 8 := Or.inr rfl
    obtain ⟨s1, s2, s3⟩ := hs 8 hl
    obtain ⟨t1, t2⟩ := ma_tlb hd h0 hl
    have cell : ∀ K j, K ≠ 21 → K ≠ 22 → w_op1 I a n0 nr K j = a K j := fun K j h1 h2 => o1 K j (by omega)
    have hroom : (I 3 7 - 1 - w_op1 I a n0 nr (69 + n0) 8 - w_op1 I a n0 nr (75 + (n0 + 1)) 8).toInt = (I 3 7).toInt - 1 - (a (69 + n0) 8).toInt - ma_tl (ma_lm a 8) nn (n0 + 1) := by
      rw [cell (69 + n0) 8 (by omega) (by omega), cell (75 + (n0 + 1)) 8 (by omega) (by omega)]
      exact ma_sub3 (ma_sub3 (ma_sub3 rfl (rfl : (1 : Int32).toInt = 1) (by omega)) rfl (by omega)) s2 (by omega)
    obtain ⟨n1, n2, n3⟩ := ma_nar (a := w_op1 I a n0 nr) (n0 := n0) (f := w_op1 I a n0 nr 8 n0) (F := (a 8 n0).toInt) (by rw [cell 8 n0 (by omega) (by omega)]) hroom (by omega) (by omega) (by rw [cell 6 n0 (by omega) (by omega), cell 7 n0 (by omega) (by omega)]; omega) o2
    refine ⟨ma_fn_t o1 n1, n2, fun v => ?_⟩
    rw [n3 v, o3' v]
    exact ⟨fun w => ⟨w.1.1, w.1.2, fun _ => w.2⟩, fun w => ⟨⟨w.1, w.2.1⟩, w.2.2 hf1⟩⟩
theorem ma_open {nn nr n0 : Nat} {I a : gF} (hx : ma_cx nn nr n0 I a) : ma_fn n0 a (w_open I a n0 nr) ∧ ma_pb (w_open I a n0 nr) n0 ∧ (∀ v, ma_Rg (w_open I a n0 nr) n0 v → ma_cd nn nr I a n0 v) ∧ (n0 + 1 ≠ nn → ∀ v, ma_cd nn nr I a n0 v → ma_Rg (w_open I a n0 nr) n0 v) ∧ (n0 + 1 = nn → ∀ v, ma_cd nn nr I a n0 v → ∃ v', ma_Rg (w_open I a n0 nr) n0 v' ∧ ((a 8 n0).toInt * v' < (a 8 n0).toInt * v ∨ ((a 8 n0).toInt * v' = (a 8 n0).toInt * v ∧ v' ≤ v))) := by
  obtain ⟨o1, o2, o3⟩ := ma_op2 hx
  obtain ⟨hd, h0, -, h7, -, -, -⟩ := id hx
  have d1 := hd.1
  have d3 := hd.2.2.1 n0 h0
  unfold w_open
  rw [h7, if_pos (nI_lt h0 (by omega))]
  obtain ⟨m, rfl⟩ : ∃ m, nn = m + 1 := ⟨nn - 1, by omega⟩
  rw [nI_pred]
  by_cases q : n0 = m
  · rw [if_pos (by rw [q])]
    have e8 : w_op2 I a n0 nr 8 n0 = a 8 n0 := o1 8 n0 (by omega)
    obtain ⟨p1, p2, p3, p4⟩ := o2
    have e6 : w_op2 I a n0 nr 6 n0 = a 6 n0 := o1 6 n0 (by omega)
    have e7 : w_op2 I a n0 nr 7 n0 = a 7 n0 := o1 7 n0 (by omega)
    rw [e6] at p1
    rw [e7] at p3
    unfold w_kc
    rw [e8]
    by_cases hc : 0 ≤ a 8 n0
    · rw [if_pos hc]
      have hc := ma_l03.mp hc
      have ep : (w_op2 I a n0 nr 21 n0 + 1).toInt = (w_op2 I a n0 nr 21 n0).toInt + 1 := ma_add3 rfl (rfl : (1 : Int32).toInt = 1) (by omega)
      have e22 : (gU (w_op2 I a n0 nr) 22 n0 (if w_op2 I a n0 nr 21 n0 + 1 < w_op2 I a n0 nr 22 n0 then w_op2 I a n0 nr 21 n0 + 1 else w_op2 I a n0 nr 22 n0) 22 n0).toInt = min ((w_op2 I a n0 nr 21 n0).toInt + 1) (w_op2 I a n0 nr 22 n0).toInt := by
        rw [gU_s]
        by_cases g : w_op2 I a n0 nr 21 n0 + 1 < w_op2 I a n0 nr 22 n0
        · rw [if_pos g]
          rw [Int32.lt_iff_toInt_lt, ep] at g
          rw [ep]
          omega
        · rw [if_neg g]
          rw [Int32.lt_iff_toInt_lt, ep] at g
          omega
      generalize (if w_op2 I a n0 nr 21 n0 + 1 < w_op2 I a n0 nr 22 n0 then w_op2 I a n0 nr 21 n0 + 1 else w_op2 I a n0 nr 22 n0) = z at *
      have e21 : gU (w_op2 I a n0 nr) 22 n0 z 21 n0 = w_op2 I a n0 nr 21 n0 := gU_n (by omega)
      refine ⟨ma_fn_t o1 (fun K j h => gU_n (by omega)), ⟨?_, ?_, ?_, ?_⟩, fun v hv => ?_, fun w => absurd (by omega) w, fun _ v hv => ?_⟩
      · rw [e21, gU_n (by omega), e6]; exact p1
      · rw [e21]; exact p2
      · rw [e22, gU_n (by omega), e7]; omega
      · rw [e22]; omega
      · refine (o3 v).mp ?_
        unfold ma_Rg at hv ⊢
        rw [e21, e22] at hv
        omega
      · have hv := (o3 v).mpr hv
        unfold ma_Rg at hv
        refine ⟨(w_op2 I a n0 nr 21 n0).toInt + 1, ?_, ?_⟩
        · unfold ma_Rg
          rw [e21, e22]
          omega
        · have := Int.mul_le_mul_of_nonneg_left (show (w_op2 I a n0 nr 21 n0).toInt + 1 ≤ v by omega) hc
          omega
    · rw [if_neg hc]
      have hc := Int.not_le.mp (fun w => hc (ma_l03.mpr w))
      have ep : (w_op2 I a n0 nr 22 n0 - 1).toInt = (w_op2 I a n0 nr 22 n0).toInt - 1 := ma_sub3 rfl (rfl : (1 : Int32).toInt = 1) (by omega)
      have e21 : (gU (w_op2 I a n0 nr) 21 n0 (if w_op2 I a n0 nr 21 n0 < w_op2 I a n0 nr 22 n0 - 1 then w_op2 I a n0 nr 22 n0 - 1 else w_op2 I a n0 nr 21 n0) 21 n0).toInt = max ((w_op2 I a n0 nr 22 n0).toInt - 1) (w_op2 I a n0 nr 21 n0).toInt := by
        rw [gU_s]
        by_cases g : w_op2 I a n0 nr 21 n0 < w_op2 I a n0 nr 22 n0 - 1
        · rw [if_pos g]
          rw [Int32.lt_iff_toInt_lt, ep] at g
          rw [ep]
          omega
        · rw [if_neg g]
          rw [Int32.lt_iff_toInt_lt, ep] at g
          omega
      generalize (if w_op2 I a n0 nr 21 n0 < w_op2 I a n0 nr 22 n0 - 1 then w_op2 I a n0 nr 22 n0 - 1 else w_op2 I a n0 nr 21 n0) = z at *
      have e22 : gU (w_op2 I a n0 nr) 21 n0 z 22 n0 = w_op2 I a n0 nr 22 n0 := gU_n (by omega)
      refine ⟨ma_fn_t o1 (fun K j h => gU_n (by omega)), ⟨?_, ?_, ?_, ?_⟩, fun v hv => ?_, fun w => absurd (by omega) w, fun _ v hv => ?_⟩
      · rw [e21, gU_n (by omega), e6]; omega
      · rw [e21]; omega
      · rw [e22, gU_n (by omega), e7]; exact p3
      · rw [e22]; exact p4
      · refine (o3 v).mp ?_
        unfold ma_Rg at hv ⊢
        rw [e21, e22] at hv
        omega
      · have hv := (o3 v).mpr hv
        unfold ma_Rg at hv
        refine ⟨(w_op2 I a n0 nr 22 n0).toInt, ?_, ?_⟩
        · unfold ma_Rg
          rw [e21, e22]
          omega
        · by_cases g : v = (w_op2 I a n0 nr 22 n0).toInt
          · rw [g]; exact Or.inr ⟨rfl, Int.le_refl _⟩
          · left
            have := Int.mul_lt_mul_of_pos_left (show v < (w_op2 I a n0 nr 22 n0).toInt by omega) (show 0 < -(a 8 n0).toInt by omega)
            rw [Int.neg_mul, Int.neg_mul] at this
            omega
  · rw [if_neg (by rw [nI_eq (by omega) (by omega)]; exact q)]
    exact ⟨o1, o2, fun v hv => (o3 v).mp hv, fun _ v hv => (o3 v).mpr hv, fun w => absurd (by omega) q⟩
theorem ma_au {a : gF} {n0 : Nat} : ∀ n, n ≤ 8 → ∀ K j, w_au a n0 n K j = if K = 69 + (n0 + 1) ∧ j < n then a (69 + n0) j + a (40 + j) n0 * a 21 n0 else a K j
  | 0, _, K, j => by
    rw [if_neg (by omega)]
    rfl
  | n + 1, hn, K, j => by
    have ih := ma_au (a := a) (n0 := n0) n (by omega)
    show gU (w_au a n0 n) (69 + (n0 + 1)) n (w_au a n0 n (69 + n0) n + w_au a n0 n (40 + n) n0 * w_au a n0 n 21 n0) K j = _
    rw [ih (69 + n0) n, if_neg (by omega), ih (40 + n) n0, if_neg (by omega), ih 21 n0, if_neg (by omega)]
    by_cases h : K = 69 + (n0 + 1) ∧ j = n
    · obtain ⟨rfl, rfl⟩ := h
      rw [gU_s, if_pos (by omega)]
    · rw [gU_n (by omega), ih]
      by_cases h2 : K = 69 + (n0 + 1) ∧ j < n
      · rw [if_pos h2, if_pos (by omega)]
      · rw [if_neg h2, if_neg (by omega)]
theorem ma_wadd {a : gF} {n0 nr : Nat} (hr : nr ≤ 8) (K j : Nat) : w_add a n0 nr K j = if K = 69 + (n0 + 1) ∧ j = 8 then a (69 + n0) 8 + a 8 n0 * a 21 n0 else if K = 69 + (n0 + 1) ∧ j < nr then a (69 + n0) j + a (40 + j) n0 * a 21 n0 else a K j := by
  unfold w_add
  rw [ma_au nr hr (69 + n0) 8, if_neg (by omega), ma_au nr hr 8 n0, if_neg (by omega), ma_au nr hr 21 n0, if_neg (by omega)]
  by_cases h : K = 69 + (n0 + 1) ∧ j = 8
  · obtain ⟨rfl, rfl⟩ := h
    rw [gU_s, if_pos ⟨rfl, rfl⟩]
  · rw [gU_n (by omega), if_neg h, ma_au nr hr]
