/-! THE MATHEMATICS, 1: sums, determinants by rows, and what they keep: linear, alternating, bounded -/
def ma_sm (f : Nat → Int) : Nat → Int
  | 0 => 0
  | n + 1 => ma_sm f n + f n
theorem ma_sm_congr {f g : Nat → Int} : ∀ {n : Nat}, (∀ i, i < n → f i = g i) → ma_sm f n = ma_sm g n
  | 0, _ => rfl
  | n + 1, h => by
    show ma_sm f n + f n = ma_sm g n + g n
    rw [ma_sm_congr (n := n) (fun i hi => h i (Nat.lt_succ_of_lt hi)), h n (Nat.lt_succ_self n)]
theorem ma_sm_lin (f g : Nat → Int) (x y : Int) : ∀ n, ma_sm (fun i => x * f i + y * g i) n = x * ma_sm f n + y * ma_sm g n
  | 0 => by simp [ma_sm]
  | n + 1 => by
    show ma_sm (fun i => x * f i + y * g i) n + (x * f n + y * g n) = x * (ma_sm f n + f n) + y * (ma_sm g n + g n)
    rw [ma_sm_lin f g x y n, Int.mul_add, Int.mul_add]
    omega
theorem ma_sm_mul (f : Nat → Int) (x : Int) : ∀ n, ma_sm (fun i => x * f i) n = x * ma_sm f n
  | 0 => by simp [ma_sm]
  | n + 1 => by
    show ma_sm (fun i => x * f i) n + x * f n = x * (ma_sm f n + f n)
    rw [ma_sm_mul f x n, Int.mul_add]
theorem ma_sm_add (f g : Nat → Int) : ∀ n, ma_sm (fun i => f i + g i) n = ma_sm f n + ma_sm g n
  | 0 => by simp [ma_sm]
  | n + 1 => by
    show ma_sm (fun i => f i + g i) n + (f n + g n) = (ma_sm f n + f n) + (ma_sm g n + g n)
    rw [ma_sm_add f g n]
    omega
theorem ma_sm_zero {f : Nat → Int} : ∀ {n : Nat}, (∀ i, i < n → f i = 0) → ma_sm f n = 0
  | 0, _ => rfl
  | n + 1, h => by
    show ma_sm f n + f n = 0
    rw [ma_sm_zero (n := n) (fun i hi => h i (Nat.lt_succ_of_lt hi)), h n (Nat.lt_succ_self n)]
    rfl
theorem ma_sm_one {s : Nat} {x : Int} : ∀ {n : Nat}, s < n → ma_sm (fun j => if j = s then x else 0) n = x
  | 0, h => by omega
  | n + 1, h => by
    show ma_sm (fun j => if j = s then x else 0) n + (if n = s then x else 0) = x
    by_cases e : n = s
    · rw [if_pos e, ma_sm_zero (fun i hi => if_neg (by omega))]
      omega
    · rw [if_neg e, ma_sm_one (n := n) (by omega)]
      omega
/-- two sums whose terms cancel -/
theorem ma_sm2 (F : Nat → Nat → Int) : ∀ m, (∀ j c, c < j → j ≤ m → F j c = - F c (j - 1)) → ma_sm (fun j => ma_sm (fun c => F j c) m) (m + 1) = 0
  | 0, _ => by simp [ma_sm]
  | m + 1, h => by
    have ih := ma_sm2 F m (fun j c hc hj => h j c hc (by omega))
    show ma_sm (fun j => ma_sm (fun c => F j c) m + F j m) (m + 1) + ma_sm (fun c => F (m + 1) c) (m + 1) = 0
    rw [ma_sm_add, ih]
    have : ma_sm (fun c => F (m + 1) c) (m + 1) = ma_sm (fun c => (-1) * F c m) (m + 1) := ma_sm_congr (fun c hc => by
      have := h (m + 1) c hc (Nat.le_refl _)
      rw [this, Nat.add_sub_cancel]
      omega)
    rw [this, ma_sm_mul]
    omega
def ma_sk (j c : Nat) : Nat := if c < j then c else c + 1
def ma_sg (j k : Nat) : Int := if (j + k) % 2 = 0 then 1 else -1
def ma_D : Nat → (Nat → Nat → Int) → Int
  | 0, _ => 1
  | k + 1, a => ma_sm (fun j => ma_sg j k * a k j * ma_D k (fun i c => a i (ma_sk j c))) (k + 1)
def ma_rw (a : Nat → Nat → Int) (i : Nat) (v : Nat → Int) : Nat → Nat → Int := fun i' => if i' = i then v else a i'
theorem ma_rw_s {a : Nat → Nat → Int} {i : Nat} {v : Nat → Int} : ma_rw a i v i = v := if_pos rfl
theorem ma_rw_n {a : Nat → Nat → Int} {i k : Nat} {v : Nat → Int} (h : k ≠ i) : ma_rw a i v k = a k := if_neg h
theorem ma_rw_rw {a : Nat → Nat → Int} {i : Nat} {u v : Nat → Int} : ma_rw (ma_rw a i u) i v = ma_rw a i v := by
  funext k
  unfold ma_rw
  split <;> rfl
theorem ma_rw_c {a : Nat → Nat → Int} {i j : Nat} {u v : Nat → Int} (h : i ≠ j) : ma_rw (ma_rw a i u) j v = ma_rw (ma_rw a j v) i u := by
  funext k
  unfold ma_rw
  by_cases e : k = j
  · rw [if_pos e, if_neg (by omega), if_pos e]
  · rw [if_neg e]
    by_cases e2 : k = i
    · rw [if_pos e2, if_pos e2]
    · rw [if_neg e2, if_neg e2, if_neg e]
theorem ma_rw_self {a : Nat → Nat → Int} {i : Nat} : ma_rw a i (a i) = a := by
  funext k
  unfold ma_rw
  split
  · next h => rw [h]
  · rfl
theorem ma_min_rw {a : Nat → Nat → Int} {i j : Nat} {u : Nat → Int} : (fun i' c => ma_rw a i u i' (ma_sk j c)) = ma_rw (fun i' c => a i' (ma_sk j c)) i (fun c => u (ma_sk j c)) := by
  funext i' c
  unfold ma_rw
  split <;> rfl
theorem ma_sk_lt {j c n : Nat} (h : c < n) : ma_sk j c < n + 1 := by
  unfold ma_sk
  split <;> omega
theorem ma_D_congr : ∀ (n : Nat) (a a' : Nat → Nat → Int), (∀ i, i < n → ∀ c, c < n → a i c = a' i c) → ma_D n a = ma_D n a'
  | 0, _, _, _ => rfl
  | n + 1, a, a', h => by
    unfold ma_D
    refine ma_sm_congr (fun j hj => ?_)
    rw [h n (Nat.lt_succ_self n) j hj, ma_D_congr n _ (fun i c => a' i (ma_sk j c)) (fun i hi c hc => h i (Nat.lt_succ_of_lt hi) _ (ma_sk_lt hc))]
theorem ma_D_lin : ∀ (n : Nat) (a : Nat → Nat → Int) (i : Nat) (u v : Nat → Int) (x y : Int), i < n → ma_D n (ma_rw a i (fun c => x * u c + y * v c)) = x * ma_D n (ma_rw a i u) + y * ma_D n (ma_rw a i v)
  | 0, _, _, _, _, _, _, h => by omega
  | n + 1, a, i, u, v, x, y, h => by
    show ma_sm _ (n + 1) = x * ma_sm _ (n + 1) + y * ma_sm _ (n + 1)
    rw [← ma_sm_lin]
    refine ma_sm_congr (fun j hj => ?_)
    simp only [ma_min_rw]
    by_cases e : i = n
    · subst e
      simp only [ma_rw_s]
      have e1 : ∀ w : Nat → Int, ma_D i (ma_rw (fun i' c => a i' (ma_sk j c)) i w) = ma_D i (fun i' c => a i' (ma_sk j c)) := fun w => ma_D_congr i _ _ (fun k hk c _ => by rw [ma_rw_n (by omega)])
      rw [e1, e1, e1]
      generalize ma_D i (fun i' c => a i' (ma_sk j c)) = d
      generalize ma_sg j i = g
      grind
    · simp only [ma_rw_n (show n ≠ i by omega)]
      rw [ma_D_lin n _ i (fun c => u (ma_sk j c)) (fun c => v (ma_sk j c)) x y (by omega)]
      generalize ma_D n (ma_rw (fun i' c => a i' (ma_sk j c)) i (fun c => u (ma_sk j c))) = d1
      generalize ma_D n (ma_rw (fun i' c => a i' (ma_sk j c)) i (fun c => v (ma_sk j c))) = d2
      generalize ma_sg j n * a n j = g
      grind
/-- two rows change places, where equal rows give 0 -/
theorem ma_swap_of {n : Nat} (H : ∀ (a : Nat → Nat → Int) (i j : Nat), i < j → j < n → (∀ c, a i c = a j c) → ma_D n a = 0) (a : Nat → Nat → Int) (i j : Nat) (u v : Nat → Int) (hi : i < n) (hj : j < n) (hij : i ≠ j) : ma_D n (ma_rw (ma_rw a i u) j v) = - ma_D n (ma_rw (ma_rw a i v) j u) := by
  have Z : ∀ w : Nat → Int, ma_D n (ma_rw (ma_rw a i w) j w) = 0 := by
    intro w
    rcases Nat.lt_or_gt_of_ne hij with h | h
    · exact H _ i j h hj (fun c => by rw [ma_rw_n hij, ma_rw_s, ma_rw_s])
    · exact H _ j i h hi (fun c => by rw [ma_rw_s, ma_rw_n hij, ma_rw_s])
  have h0 := Z (fun c => 1 * u c + 1 * v c)
  rw [ma_D_lin n _ j u v 1 1 hj, ma_rw_c hij, ma_D_lin n _ i u v 1 1 hi, ma_rw_c (a := a) (i := i) (j := j) (v := v) hij, ma_D_lin n _ i u v 1 1 hi] at h0
  rw [← ma_rw_c hij, ← ma_rw_c hij, ← ma_rw_c hij, ← ma_rw_c hij, Z u, Z v] at h0
  omega
theorem ma_sg2 {j c m : Nat} (h : c < j) : ma_sg j (m + 1) * ma_sg c m = - (ma_sg c (m + 1) * ma_sg (j - 1) m) := by
  unfold ma_sg
  repeat' split
  all_goals first | rfl | (exfalso; omega)
theorem ma_sk2 {j c x : Nat} (h : c < j) : ma_sk j (ma_sk c x) = ma_sk c (ma_sk (j - 1) x) := by
  unfold ma_sk
  repeat' split
  all_goals first | rfl | omega
/-- the last two rows are equal -/
theorem ma_alt2 (m : Nat) (a : Nat → Nat → Int) (h : ∀ c, a m c = a (m + 1) c) : ma_D (m + 2) a = 0 := by
  show ma_sm (fun j => ma_sg j (m + 1) * a (m + 1) j * ma_sm (fun c => ma_sg c m * a m (ma_sk j c) * ma_D m (fun i x => a i (ma_sk j (ma_sk c x)))) (m + 1)) (m + 2) = 0
  rw [← ma_sm2 (fun j c => ma_sg j (m + 1) * a (m + 1) j * (ma_sg c m * a m (ma_sk j c) * ma_D m (fun i x => a i (ma_sk j (ma_sk c x))))) (m + 1) ?_]
  · refine ma_sm_congr (fun j hj => ?_)
    rw [ma_sm_mul]
  · intro j c hc hj
    have e1 : ma_sk j c = c := if_pos hc
    have e2 : ma_sk c (j - 1) = j := by unfold ma_sk; rw [if_neg (by omega)]; omega
    have e3 : (fun (i x : Nat) => a i (ma_sk j (ma_sk c x))) = (fun i x => a i (ma_sk c (ma_sk (j - 1) x))) := by
      funext i x
      rw [ma_sk2 hc]
    simp only [e1, e2, e3, h]
    generalize ma_D m (fun i x => a i (ma_sk c (ma_sk (j - 1) x))) = d
    have e4 := ma_sg2 (m := m) hc
    generalize ma_sg j (m + 1) = g1 at *
    generalize ma_sg c m = g2 at *
    generalize ma_sg c (m + 1) = g3 at *
    generalize ma_sg (j - 1) m = g4 at *
    generalize a (m + 1) j = p
    generalize a (m + 1) c = q
    have : g1 * p * (g2 * q * d) = (g1 * g2) * (p * q * d) := by grind
    rw [this, e4]
    grind
theorem ma_D_alt : ∀ (n : Nat) (a : Nat → Nat → Int) (i j : Nat), i < j → j < n → (∀ c, a i c = a j c) → ma_D n a = 0
  | 0, _, _, _, _, h, _ => by omega
  | n + 1, a, i, j, hij, hj, h => by
    by_cases e : j = n
    · subst e
      obtain ⟨m, rfl⟩ : ∃ m, j = m + 1 := ⟨j - 1, by omega⟩
      by_cases e1 : i = m
      · subst e1
        exact ma_alt2 i a h
      · have hz : ma_D (m + 2) (ma_rw (ma_rw a i (a m)) m (a i)) = 0 := ma_alt2 m _ (fun c => by
          rw [ma_rw_s, ma_rw_n (by omega), ma_rw_n (by omega)]
          exact h c)
        have hs : ma_D (m + 2) a = (-1) * ma_D (m + 2) (ma_rw (ma_rw a i (a m)) m (a i)) := by
          show ma_sm _ (m + 2) = (-1) * ma_sm _ (m + 2)
          rw [← ma_sm_mul]
          refine ma_sm_congr (fun j hj => ?_)
          rw [ma_rw_n (show m + 1 ≠ m by omega), ma_rw_n (show m + 1 ≠ i by omega)]
          have e2 : (fun i' c => a i' (ma_sk j c)) = ma_rw (ma_rw (fun i' c => a i' (ma_sk j c)) i (fun c => a i (ma_sk j c))) m (fun c => a m (ma_sk j c)) := by
            have q1 : ma_rw (fun i' c => a i' (ma_sk j c)) i (fun c => a i (ma_sk j c)) = (fun i' c => a i' (ma_sk j c)) := ma_rw_self (a := fun i' c => a i' (ma_sk j c))
            rw [q1]
            exact (ma_rw_self (a := fun i' c => a i' (ma_sk j c))).symm
          rw [e2, ma_swap_of (ma_D_alt (m + 1)) _ i m _ _ (by omega) (by omega) e1]
          rw [ma_min_rw, ma_min_rw]
          grind
        rw [hs, hz]
        rfl
    · unfold ma_D
      refine ma_sm_zero (fun k hk => ?_)
      have q : ma_D n (fun i c => a i (ma_sk k c)) = 0 := ma_D_alt n (fun i c => a i (ma_sk k c)) i j hij (by omega) (fun c => h _)
      rw [q]
      omega
theorem ma_D_swap {n : Nat} (a : Nat → Nat → Int) (i j : Nat) (u v : Nat → Int) (hi : i < n) (hj : j < n) (hij : i ≠ j) : ma_D n (ma_rw (ma_rw a i u) j v) = - ma_D n (ma_rw (ma_rw a i v) j u) := ma_swap_of (ma_D_alt n) a i j u v hi hj hij
theorem ma_D_eq {n : Nat} (a : Nat → Nat → Int) (i j : Nat) (hi : i < n) (hj : j < n) (hij : i ≠ j) (h : ∀ c, a i c = a j c) : ma_D n a = 0 := by
  rcases Nat.lt_or_gt_of_ne hij with q | q
  · exact ma_D_alt n a i j q hj h
  · exact ma_D_alt n a j i q hi (fun c => (h c).symm)
/-- a row that is a sum of rows -/
theorem ma_D_sum {n : Nat} (a : Nat → Nat → Int) (i : Nat) (hi : i < n) (x : Nat → Int) (w : Nat → Nat → Int) : ∀ m, ma_D n (ma_rw a i (fun c => ma_sm (fun s => x s * w s c) m)) = ma_sm (fun s => x s * ma_D n (ma_rw a i (w s))) m
  | 0 => by
    have := ma_D_lin n a i (fun _ => 0) (fun _ => 0) 0 0 hi
    simpa [ma_sm] using this
  | m + 1 => by
    have := ma_D_lin n a i (fun c => ma_sm (fun s => x s * w s c) m) (w m) 1 (x m) hi
    have e : (fun c => ma_sm (fun s => x s * w s c) (m + 1)) = (fun c => 1 * ma_sm (fun s => x s * w s c) m + x m * w m c) := by
      funext c
      show ma_sm (fun s => x s * w s c) m + x m * w m c = _
      omega
    rw [e, this, ma_D_sum a i hi x w m]
    show _ = ma_sm (fun s => x s * ma_D n (ma_rw a i (w s))) m + x m * ma_D n (ma_rw a i (w m))
    omega
theorem ma_sm_abs {f : Nat → Int} {B : Nat} : ∀ {n : Nat}, (∀ i, i < n → (f i).natAbs ≤ B) → (ma_sm f n).natAbs ≤ n * B
  | 0, _ => by simp [ma_sm]
  | n + 1, h => by
    have h1 := ma_sm_abs (n := n) (fun i hi => h i (Nat.lt_succ_of_lt hi))
    have h2 := h n (Nat.lt_succ_self n)
    show (ma_sm f n + f n).natAbs ≤ (n + 1) * B
    rw [Nat.add_mul]
    have := Int.natAbs_add_le (ma_sm f n) (f n)
    omega
def ma_fac : Nat → Nat
  | 0 => 1
  | n + 1 => (n + 1) * ma_fac n
theorem ma_sg_abs (j k : Nat) : (ma_sg j k).natAbs = 1 := by
  unfold ma_sg
  split <;> rfl
theorem ma_D_b9 : ∀ (n : Nat) (a : Nat → Nat → Int), (∀ i, i < n → ∀ c, c < n → (a i c).natAbs ≤ 9) → (ma_D n a).natAbs ≤ ma_fac n * 9 ^ n
  | 0, _, _ => by simp [ma_D, ma_fac]
  | n + 1, a, h => by
    show (ma_sm _ (n + 1)).natAbs ≤ (n + 1) * ma_fac n * 9 ^ (n + 1)
    have : (n + 1) * ma_fac n * 9 ^ (n + 1) = (n + 1) * (9 * (ma_fac n * 9 ^ n)) := by rw [Nat.pow_succ]; grind
    rw [this]
    refine ma_sm_abs (fun j hj => ?_)
    rw [Int.natAbs_mul, Int.natAbs_mul, ma_sg_abs, Nat.one_mul]
    exact Nat.mul_le_mul (h n (Nat.lt_succ_self n) j hj) (ma_D_b9 n _ (fun i hi c hc => h i (Nat.lt_succ_of_lt hi) _ (ma_sk_lt hc)))
theorem ma_D_bK {K : Nat} : ∀ (n : Nat) (a : Nat → Nat → Int), (∀ i, i ≤ n → ∀ c, c < n → (a i c).natAbs ≤ 9) → (∀ i, i ≤ n → (a i n).natAbs ≤ K) → (ma_D (n + 1) a).natAbs ≤ ma_fac (n + 1) * (9 ^ n * K)
  | 0, a, _, h2 => by
    have e : ma_D 1 a = a 0 0 := by simp [ma_D, ma_sm, ma_sg]
    rw [e]
    have := h2 0 (Nat.le_refl 0)
    simp [ma_fac]
    omega
  | n + 1, a, h, h2 => by
    show (ma_sm _ (n + 2)).natAbs ≤ (n + 2) * ma_fac (n + 1) * (9 ^ (n + 1) * K)
    rw [Nat.mul_assoc]
    refine ma_sm_abs (fun j hj => ?_)
    rw [Int.natAbs_mul, Int.natAbs_mul, ma_sg_abs, Nat.one_mul]
    by_cases e : j = n + 1
    · subst e
      have q1 := h2 (n + 1) (Nat.le_refl _)
      have q2 := ma_D_b9 (n + 1) (fun i c => a i (ma_sk (n + 1) c)) (fun i hi c hc => by
        have : ma_sk (n + 1) c = c := if_pos hc
        rw [this]
        exact h i (by omega) c hc)
      refine Nat.le_trans (Nat.mul_le_mul q1 q2) (Nat.le_of_eq ?_)
      grind
    · have q1 := h (n + 1) (Nat.le_refl _) j (by omega)
      have q2 := ma_D_bK n (fun i c => a i (ma_sk j c)) (fun i hi c hc => h i (by omega) _ (by unfold ma_sk; split <;> omega)) (fun i hi => by
        have : ma_sk j n = n + 1 := if_neg (by omega)
        rw [this]
        exact h2 i (by omega))
      refine Nat.le_trans (Nat.mul_le_mul q1 q2) (Nat.le_of_eq ?_)
      rw [Nat.pow_succ]
      grind
